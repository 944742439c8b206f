theorem inR_t (x : Int32) : InR x.toInt := by
  obtain ⟨v, h, h1, h2⟩ := z_of x
  rw [h, z_toInt, w32_id h1 h2]; exact ⟨h1, h2⟩
def bc1 (n : Int) : Int := n - band (bushr n 1) 1431655765
def bc2 (n : Int) : Int := band n 858993459 + band (bushr n 2) 858993459
def bc3 (n : Int) : Int := band (n + bushr n 4) 252645135
def bc4 (n : Int) : Int := n + bushr n 8
def bc5 (n : Int) : Int := n + bushr n 16
theorem bc_all : ((List.range 4096).all fun n => decide (band (bc5 (bc4 (bc3 (bc2 (bc1 (n : Int)))))) 63 = (cnt 12 n : Int))) = true := by decide +kernel
theorem bc_n {n : Nat} (h : n < 4096) : band (bc5 (bc4 (bc3 (bc2 (bc1 (n : Int)))))) 63 = (cnt 12 n : Int) := of_decide_eq_true (List.all_eq_true.mp bc_all n (List.mem_range.mpr h))
def ntz (n : Nat) : Nat := if n = 0 then 32 else nthB n 0
def nt1 (n : Int) : Int := band (bxor n (-1)) (n - 1)
def nt2 (i : Int) : Int := if i ≤ 256 then i else bushr i 8
def na2 (i : Int) : Int := if i ≤ 256 then 1 else 9
def nt3 (i : Int) : Int := if i ≤ 16 then i else bushr i 4
def na3 (a i : Int) : Int := if i ≤ 16 then a else a + 4
def nt4 (i : Int) : Int := if i ≤ 4 then i else bushr i 2
def na4 (a i : Int) : Int := if i ≤ 4 then a else a + 2
def ntR (i : Int) : Int := na4 (na3 (na2 i) (nt2 i)) (nt3 (nt2 i)) + bushr (nt4 (nt3 (nt2 i))) 1
theorem nt_all : ((List.range 4096).all fun n => decide (InR (nt1 (n : Int)) ∧ nt1 (n : Int) ≤ 65536 ∧ (if nt1 (n : Int) ≤ 0 then band (nt1 (n : Int)) 32 else ntR (nt1 (n : Int))) = (ntz n : Int))) = true := by decide +kernel
theorem nt_n {n : Nat} (h : n < 4096) : InR (nt1 (n : Int)) ∧ nt1 (n : Int) ≤ 65536 ∧ (if nt1 (n : Int) ≤ 0 then band (nt1 (n : Int)) 32 else ntR (nt1 (n : Int))) = (ntz n : Int) := of_decide_eq_true (List.all_eq_true.mp nt_all n (List.mem_range.mpr h))
theorem inR_ushr (a b : Int) : InR (bushr a b) := inR_t _
theorem sB_c : ((List.range 2).all fun i => (List.range 87).all fun j => decide (bi2c (band (sB i j) 255) = sB i j ∧ 0 ≤ sB i j ∧ sB i j < 128)) = true := by decide +kernel
theorem sB_ok {i j : Nat} (hi : i < 2) (hj : j < sLn.getD i 0) : bi2c (band (sB i j) 255) = sB i j ∧ 0 ≤ sB i j ∧ sB i j < 128 := by
  have hj' : j < 87 := by
    match i, hi with
    | 0, _ => exact hj
    | 1, _ => have : j < 11 := hj; omega
  exact of_decide_eq_true (List.all_eq_true.mp (List.all_eq_true.mp sB_c i (List.mem_range.mpr hi)) j (List.mem_range.mpr hj'))
theorem nrC_all : ((List.range 256).all fun n => decide ((narrow .char (.int (z (n : Int)))) = .int (z (n : Int)))) = true := by decide +kernel
theorem nrC {x : Int} (h0 : 0 ≤ x) (h1 : x < 256) : narrow .char (.int (z x)) = .int (z x) := by
  have := of_decide_eq_true (List.all_eq_true.mp nrC_all x.toNat (List.mem_range.mpr (by omega)))
  rwa [show ((x.toNat : Nat) : Int) = x by omega] at this
