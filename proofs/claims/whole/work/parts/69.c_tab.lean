/-- without its w lowest bits -/
def clr (n : Nat) : Nat → Nat
  | 0 => n
  | w + 1 => clr n w &&& (clr n w - 1)
theorem clr_all : ((List.range 1024).all fun n => (List.range 10).all fun w => decide (w < cnt 12 n → ntz (clr n w) = nthB n w)) = true := by decide +kernel
theorem clr_n {n w : Nat} (h : n < 1024) (hw : w < cnt 12 n) (h10 : w < 10) : ntz (clr n w) = nthB n w := of_decide_eq_true (List.all_eq_true.mp (List.all_eq_true.mp clr_all n (List.mem_range.mpr h)) w (List.mem_range.mpr h10)) hw
