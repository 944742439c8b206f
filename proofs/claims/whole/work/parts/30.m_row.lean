/-! the looks come to rest: what stands then -/
def adjB (σ : Nat → Int) (n h k : Nat) : Prop := h < n ∧ k < n ∧ 0 < σ (70 + 3 * h) ∧ (nrN σ h).testBit k = true
def farI (σ : Nat → Int) (n t : Nat) (f : Nat → Int) : Prop := f t = 1 ∧ (∀ h, h < n → 1 ≤ f h ∧ f h ≤ 100000000) ∧ ∀ h, h < n → h ≠ t → f h = 100000000 ∨ ∃ k, adjB σ n h k ∧ f k + 1 ≤ f h
theorem farS_le (σ : Nat → Int) (t h k : Nat) (f : Nat → Int) (j : Nat) : farS σ t h k f j ≤ f j := by
  unfold farS
  split
  · rename_i q
    by_cases he : j = h
    · subst he; rw [up_same]; omega
    · rw [up_ne _ _ he]; omega
  · omega
theorem farS_i {σ : Nat → Int} {n t h k : Nat} {f : Nat → Int} (hi : farI σ n t f) (hh : h < n) (hk : k < n) : farI σ n t (farS σ t h k f) := by
  have hle := farS_le σ t h k f
  unfold farS at *
  by_cases q : h ≠ t ∧ 0 < σ (70 + 3 * h) ∧ (nrN σ h).testBit k = true ∧ f k + 1 < f h
  · rw [if_pos q] at hle ⊢
    obtain ⟨i1, i2, i3⟩ := hi
    have hkh : k ≠ h := fun e => by rw [e] at q; omega
    refine ⟨by rw [up_ne _ _ (fun e => q.1 e.symm)]; exact i1, fun j hj => ?_, fun j hj hjt => ?_⟩
    · by_cases he : j = h
      · subst he; rw [up_same]; have := i2 k hk; have := i2 j hj; omega
      · rw [up_ne _ _ he]; exact i2 j hj
    · by_cases he : j = h
      · subst he
        exact Or.inr ⟨k, ⟨hj, hk, q.2.1, q.2.2.1⟩, by rw [up_same, up_ne _ _ hkh]; omega⟩
      · rw [up_ne _ _ he]
        rcases i3 j hj hjt with e | ⟨k2, e1, e2⟩
        · exact Or.inl e
        · exact Or.inr ⟨k2, e1, by have := hle k2; omega⟩
  · rw [if_neg q]; exact hi
theorem farK_le (σ : Nat → Int) (t h : Nat) (f : Nat → Int) (k j : Nat) : farK σ t h f k j ≤ f j := by
  induction k with
  | zero => exact Int.le_refl _
  | succ k ih => exact Int.le_trans (farS_le _ _ _ _ _ _) ih
theorem farK_i {σ : Nat → Int} {n t h : Nat} {f : Nat → Int} (hi : farI σ n t f) (hh : h < n) : ∀ k, k ≤ n → farI σ n t (farK σ t h f k) := by
  intro k
  induction k with
  | zero => exact fun _ => hi
  | succ k ih => exact fun hk => farS_i (ih (by omega)) hh (by omega)
theorem farK_c {σ : Nat → Int} {n t h : Nat} {f : Nat → Int} (hht : h ≠ t) {k : Nat} (ha : adjB σ n h k) : ∀ m, k < m → farK σ t h f m h ≤ f k + 1 := by
  intro m
  induction m with
  | zero => intro h; omega
  | succ m ih =>
    intro hm
    by_cases he : k = m
    · subst he
      show farS σ t h k (farK σ t h f k) h ≤ _
      have h1 := farK_le σ t h f k k
      unfold farS
      split
      · rw [up_same]; omega
      · rename_i q
        rcases (show farK σ t h f k k + 1 < farK σ t h f k h ∨ farK σ t h f k h ≤ farK σ t h f k k + 1 by omega) with r | r
        · exact absurd ⟨hht, ha.2.2.1, ha.2.2.2, r⟩ q
        · omega
    · exact Int.le_trans (farS_le _ _ _ _ _ _) (ih (by omega))
theorem farH_le (σ : Nat → Int) (t : Nat) (f : Nat → Int) (h j : Nat) : farH σ t f h j ≤ f j := by
  induction h with
  | zero => exact Int.le_refl _
  | succ h ih => exact Int.le_trans (farK_le _ _ _ _ _ _) ih
theorem farH_i {σ : Nat → Int} {n t : Nat} {f : Nat → Int} (h3 : σ 3 = n) (hi : farI σ n t f) : ∀ h, h ≤ n → farI σ n t (farH σ t f h) := by
  intro h
  induction h with
  | zero => exact fun _ => hi
  | succ h ih => exact fun hh => farK_i (ih (by omega)) (by omega) _ (by omega)
theorem farH_c {σ : Nat → Int} {n t h k : Nat} {f : Nat → Int} (h3 : σ 3 = n) (hht : h ≠ t) (ha : adjB σ n h k) : ∀ m, h < m → farH σ t f m h ≤ f k + 1 := by
  intro m
  induction m with
  | zero => intro h; omega
  | succ m ih =>
    intro hm
    by_cases he : h = m
    · subst he
      have h1 := farH_le σ t f h k
      have h2 := farK_c (f := farH σ t f h) hht ha (σ 3).toNat (by have := ha.2.1; omega)
      show farK σ t h (farH σ t f h) (σ 3).toNat h ≤ _
      omega
    · exact Int.le_trans (farK_le _ _ _ _ _ _) (ih (by omega))
section FAR
variable {σ : Nat → Int} {n t : Nat} {f0 : Nat → Int}
theorem farT_i (h3 : σ 3 = n) (hn : n ≤ 10) (ht : t < n) : ∀ u, farI σ n t (farT σ t f0 u) := by
  intro u
  induction u with
  | zero =>
    refine ⟨?_, fun h hh => ?_, fun h hh hht => ?_⟩
    · show (if t < 10 then (if t = t then (1 : Int) else 100000000) else f0 t) = 1; rw [if_pos (by omega), if_pos rfl]
    · show 1 ≤ (if h < 10 then (if h = t then (1 : Int) else 100000000) else f0 h) ∧ (if h < 10 then (if h = t then (1 : Int) else 100000000) else f0 h) ≤ 100000000
      rw [if_pos (by omega)]; split <;> omega
    · left; show (if h < 10 then (if h = t then (1 : Int) else 100000000) else f0 h) = 100000000; rw [if_pos (by omega), if_neg hht]
  | succ u ih => exact farH_i h3 ih _ (by omega)
theorem farT_c (h3 : σ 3 = n) {h k : Nat} (hht : h ≠ t) (ha : adjB σ n h k) (u : Nat) : farT σ t f0 (u + 1) h ≤ farT σ t f0 u k + 1 := farH_c h3 hht ha _ (by have := ha.1; omega)
theorem farT_le (u d j : Nat) : farT σ t f0 (u + d) j ≤ farT σ t f0 u j := by
  induction d with
  | zero => exact Int.le_refl _
  | succ d ih => exact Int.le_trans (farH_le _ _ _ _ _) ih
/-- what is found by u looks is no more bettered -/
theorem farT_a (h3 : σ 3 = n) (hn : n ≤ 10) (ht : t < n) : ∀ (u v : Nat), u ≤ v → ∀ h, h < n → farT σ t f0 v h ≤ (u : Int) + 1 → farT σ t f0 u h ≤ farT σ t f0 v h := by
  intro u
  induction u with
  | zero =>
    intro v _ h hh hv
    have hi := farT_i (f0 := f0) h3 hn ht v
    by_cases he : h = t
    · subst he
      have h0 := (farT_i (f0 := f0) h3 hn ht 0).1
      have h1 := hi.1
      omega
    · rcases hi.2.2 h hh he with q | ⟨k, q1, q2⟩
      · omega
      · have := hi.2.1 k q1.2.1; omega
  | succ u ih =>
    intro v huv h hh hv
    have hi := farT_i (f0 := f0) h3 hn ht v
    by_cases he : h = t
    · subst he
      have h0 := (farT_i (f0 := f0) h3 hn ht (u + 1)).1
      have h1 := hi.1
      omega
    · rcases hi.2.2 h hh he with q | ⟨k, q1, q2⟩
      · have := (farT_i (f0 := f0) h3 hn ht (u + 1)).2.1 h hh; omega
      · have h1 := ih v (by omega) k q1.2.1 (by omega)
        have h2 := farT_c (f0 := f0) h3 he q1 u
        omega
def smF (f : Nat → Int) : Nat → Int
  | 0 => 0
  | k + 1 => smF f k + f k
theorem smF_le {f g : Nat → Int} (h : ∀ j, g j ≤ f j) (m : Nat) : smF g m ≤ smF f m ∧ (smF g m = smF f m → ∀ j, j < m → g j = f j) := by
  induction m with
  | zero => exact ⟨Int.le_refl _, fun _ j hj => by omega⟩
  | succ m ih =>
    have := h m
    refine ⟨by show smF g m + g m ≤ smF f m + f m; omega, fun e j hj => ?_⟩
    have e : smF g m + g m = smF f m + f m := e
    by_cases he : j = m
    · subst he; omega
    · exact ih.2 (by omega) j (by omega)
theorem smF_nn {f : Nat → Int} {m : Nat} (h : ∀ j, j < m → 0 ≤ f j) : 0 ≤ smF f m := by
  induction m with
  | zero => exact Int.le_refl _
  | succ m ih => have := ih (fun j hj => h j (by omega)); have := h m (by omega); show 0 ≤ smF f m + f m; omega
theorem farT_rest (h3 : σ 3 = n) (hn : n ≤ 10) (ht : t < n) : ∃ v, n ≤ v ∧ ∀ j, j < n → farT σ t f0 (v + 1) j = farT σ t f0 v j := by
  have key : ∀ (d v : Nat), smF (farT σ t f0 v) n ≤ d → n ≤ v → ∃ w, n ≤ w ∧ ∀ j, j < n → farT σ t f0 (w + 1) j = farT σ t f0 w j := by
    intro d
    induction d with
    | zero =>
      intro v hd hv
      have h1 := smF_le (f := farT σ t f0 v) (g := farT σ t f0 (v + 1)) (fun j => farT_le v 1 j) n
      have h2 := smF_nn (f := farT σ t f0 (v + 1)) (m := n) (fun j hj => by have := (farT_i (f0 := f0) h3 hn ht (v + 1)).2.1 j hj; omega)
      exact ⟨v, hv, h1.2 (by omega)⟩
    | succ d ih =>
      intro v hd hv
      have h1 := smF_le (f := farT σ t f0 v) (g := farT σ t f0 (v + 1)) (fun j => farT_le v 1 j) n
      by_cases he : smF (farT σ t f0 (v + 1)) n = smF (farT σ t f0 v) n
      · exact ⟨v, hv, h1.2 he⟩
      · exact ih (v + 1) (by omega) (by omega)
  have hs := smF_nn (f := farT σ t f0 n) (m := n) (fun j hj => by have := (farT_i (f0 := f0) h3 hn ht n).2.1 j hj; omega)
  exact key (smF (farT σ t f0 n) n).toNat n (by omega) (Nat.le_refl _)
def ctF (f : Nat → Int) (v : Int) : Nat → Nat
  | 0 => 0
  | k + 1 => ctF f v k + (if f k ≤ v then 1 else 0)
theorem ctF_le (f : Nat → Int) (v : Int) (m : Nat) : ctF f v m ≤ m := by
  induction m with
  | zero => exact Nat.le_refl _
  | succ m ih => unfold ctF; split <;> omega
theorem ctF_mono (f : Nat → Int) (v : Int) (m : Nat) : ctF f v m ≤ ctF f (v + 1) m ∧ ∀ h, h < m → f h = v + 1 → ctF f v m + 1 ≤ ctF f (v + 1) m := by
  induction m with
  | zero => exact ⟨Nat.le_refl _, fun h hh => by omega⟩
  | succ m ih =>
    refine ⟨by unfold ctF; split <;> split <;> omega, fun h hh hv => ?_⟩
    unfold ctF
    by_cases he : h = m
    · subst he; rw [if_neg (by omega), if_pos (by omega)]; omega
    · have := ih.2 h (by omega) hv
      split <;> split <;> omega
theorem farT_fix (h3 : σ 3 = n) (hn : n ≤ 10) (ht : t < n) : ∀ h, h < n → h ≠ t → (∀ k, adjB σ n h k → farT σ t f0 n h ≤ farT σ t f0 n k + 1) ∧ (farT σ t f0 n h = 100000000 ∨ (farT σ t f0 n h ≤ n ∧ ∃ k, adjB σ n h k ∧ farT σ t f0 n k + 1 = farT σ t f0 n h)) := by
  obtain ⟨v, hv, hrest⟩ := farT_rest (f0 := f0) h3 hn ht
  have hi := farT_i (f0 := f0) h3 hn ht v
  have fix3 : ∀ h, h < n → h ≠ t → ∀ k, adjB σ n h k → farT σ t f0 v h ≤ farT σ t f0 v k + 1 := fun h hh hht k ha => by
    have := farT_c (f0 := f0) h3 hht ha v
    rw [hrest h hh] at this; exact this
  have fix2 : ∀ h, h < n → h ≠ t → farT σ t f0 v h = 100000000 ∨ ∃ k, adjB σ n h k ∧ farT σ t f0 v k + 1 = farT σ t f0 v h := fun h hh hht => by
    rcases hi.2.2 h hh hht with q | ⟨k, q1, q2⟩
    · exact Or.inl q
    · exact Or.inr ⟨k, q1, by have := fix3 h hh hht k q1; omega⟩
  have lev : ∀ (m : Nat) (h : Nat), h < n → farT σ t f0 v h = (m : Int) + 1 → m < 99999990 → m + 1 ≤ ctF (farT σ t f0 v) ((m : Int) + 1) n := by
    intro m
    induction m with
    | zero =>
      intro h hh hf _
      have := (ctF_mono (farT σ t f0 v) 0 n).2 h hh (by omega)
      rw [show ((0 : Nat) : Int) + 1 = 0 + 1 from rfl]
      omega
    | succ m ih =>
      intro h hh hf hm
      have hht : h ≠ t := fun e => by rw [e] at hf; have := hi.1; omega
      rcases fix2 h hh hht with q | ⟨k, q1, q2⟩
      · omega
      · have h1 := ih k q1.2.1 (by omega) (by omega)
        have h2 := (ctF_mono (farT σ t f0 v) ((m : Int) + 1) n).2 h hh (by omega)
        rw [show ((m + 1 : Nat) : Int) + 1 = (m : Int) + 1 + 1 by omega]
        omega
  have small : ∀ h, h < n → farT σ t f0 v h = 100000000 ∨ farT σ t f0 v h ≤ n := by
    intro h hh
    have hb := hi.2.1 h hh
    by_cases hk : farT σ t f0 v h = 100000000
    · exact Or.inl hk
    by_cases he : h = t
    · right; rw [he, hi.1]; omega
    · rcases fix2 h hh he with q | ⟨k, q1, q2⟩
      · exact Or.inl q
      · right
        rcases (show farT σ t f0 v h ≤ 99999990 ∨ 99999990 < farT σ t f0 v h by omega) with r | r
        · have := lev (farT σ t f0 v h - 1).toNat h hh (by omega) (by omega)
          have h2 := ctF_le (farT σ t f0 v) (((farT σ t f0 v h - 1).toNat : Int) + 1) n
          omega
        · exfalso
          have desc : ∀ (d h : Nat), h < n → 99999980 < farT σ t f0 v h → farT σ t f0 v h < 100000000 → ∃ g, g < n ∧ farT σ t f0 v g = farT σ t f0 v h - (d : Int) ∨ d > 15 := by
            intro d
            induction d with
            | zero => intro h hh _ _; exact ⟨h, Or.inl ⟨hh, by omega⟩⟩
            | succ d ih =>
              intro h hh h1 h2
              by_cases hd : d > 14
              · exact ⟨0, Or.inr (by omega)⟩
              · obtain ⟨g, q | q⟩ := ih h hh h1 h2
                · have hgt : g ≠ t := fun e => by rw [e, hi.1] at q; omega
                  rcases fix2 g q.1 hgt with r | ⟨k, r1, r2⟩
                  · omega
                  · exact ⟨k, Or.inl ⟨r1.2.1, by omega⟩⟩
                · exact ⟨0, Or.inr (by omega)⟩
          obtain ⟨g, hg | hg⟩ := desc 10 h hh (by omega) (by omega)
          · have := lev (farT σ t f0 v g - 1).toNat g hg.1 (by omega) (by omega)
            have h2 := ctF_le (farT σ t f0 v) (((farT σ t f0 v g - 1).toNat : Int) + 1) n
            omega
          · omega
  have same : ∀ h, h < n → farT σ t f0 n h = farT σ t f0 v h := by
    intro h hh
    obtain ⟨d, rfl⟩ : ∃ d, v = n + d := ⟨v - n, by omega⟩
    have h1 := farT_le (σ := σ) (t := t) (f0 := f0) n d h
    rcases small h hh with q | q
    · have := (farT_i (f0 := f0) h3 hn ht n).2.1 h hh; omega
    · have := farT_a (f0 := f0) h3 hn ht n (n + d) (by omega) h hh (by omega); omega
  intro h hh hht
  refine ⟨fun k ha => by rw [same h hh, same k ha.2.1]; exact fix3 h hh hht k ha, ?_⟩
  rcases small h hh with q | q
  · exact Or.inl (by rw [same h hh]; exact q)
  · rcases fix2 h hh hht with r | ⟨k, r1, r2⟩
    · exact Or.inl (by rw [same h hh]; exact r)
    · exact Or.inr ⟨by rw [same h hh]; exact q, k, r1, by rw [same h hh, same k r1.2.1]; exact r2⟩
end FAR
/-- the lowest that is touched and one nearer -/
def nxF (σ F : Nat → Int) (h : Nat) : Nat → Nat → Nat
  | 0, k => k
  | d + 1, k => if (nrN σ h).testBit k = true ∧ F k = F h - 1 then k else nxF σ F h d (k + 1)
def rowI (σ F : Nat → Int) (from0 : Nat) : Nat → Nat
  | 0 => from0
  | i + 1 => nxF σ F (rowI σ F from0 i) 10 0
theorem nxF_ok {σ F : Nat → Int} {h : Nat} : ∀ (d k : Nat), (∃ j, k ≤ j ∧ j < k + d ∧ (nrN σ h).testBit j = true ∧ F j = F h - 1) → (nrN σ h).testBit (nxF σ F h d k) = true ∧ F (nxF σ F h d k) = F h - 1 ∧ k ≤ nxF σ F h d k ∧ nxF σ F h d k < k + d := by
  intro d
  induction d with
  | zero => rintro k ⟨j, h1, h2, -⟩; omega
  | succ d ih =>
    rintro k ⟨j, h1, h2, h3, h4⟩
    unfold nxF
    split
    · rename_i q; exact ⟨q.1, q.2, by omega, by omega⟩
    · rename_i q
      have hjk : j ≠ k := fun e => q ⟨e ▸ h3, e ▸ h4⟩
      obtain ⟨a, b, c, e⟩ := ih (k + 1) ⟨j, by omega, by omega, h3, h4⟩
      exact ⟨a, b, by omega, by omega⟩
theorem nxF_le {σ F : Nat → Int} {h j : Nat} (h3 : (nrN σ h).testBit j = true) (h4 : F j = F h - 1) : ∀ (d k : Nat), k ≤ j → j < k + d → nxF σ F h d k ≤ j := by
  intro d
  induction d with
  | zero => intro k h1 h2; omega
  | succ d ih =>
    intro k h1 h2
    unfold nxF
    split
    · exact h1
    · rename_i q
      have hjk : j ≠ k := fun e => q ⟨e ▸ h3, e ▸ h4⟩
      exact ih (k + 1) (by omega) (by omega)
def rowF (σ f0 : Nat → Int) (fr to i : Int) : Int :=
  if (0 ≤ fr ∧ fr < σ 3) ∧ (0 ≤ to ∧ to < σ 3) ∧ -1 ≤ i ∧ farT σ to.toNat f0 (σ 3).toNat fr.toNat < 100000000 ∧ i < farT σ to.toNat f0 (σ 3).toNat fr.toNat then (if i = -1 then farT σ to.toNat f0 (σ 3).toNat fr.toNat else (rowI σ (farT σ to.toNat f0 (σ 3).toNat) fr.toNat i.toNat : Int)) else -1

theorem m_row (fr to i : Int) (h1 : InR fr) (h2 : InR to) (h4 : InR i) (S : ST) (M : MT) (hw : WH (M 78)) : Ct E1 yX12_row cX12_row 7 (some .int) rm_X12_row [.ref 77, .int (z fr), .int (z to), .int (z i)] S M (Pi (rowF (M 78) (M 89) fr to i) S (if (0 ≤ fr ∧ fr < M 78 3) ∧ (0 ≤ to ∧ to < M 78 3) ∧ -1 ≤ i then up M 89 (farT (M 78) to.toNat (M 89) (M 78 3).toNat) else M)) := by
  have h3 := hw.1
  have hn3 : M 78 3 = ((M 78 3).toNat : Int) := by omega
  refine Ct.mk [.ref 77, .int (z fr), .int (z to), .int (z i), mkV, mkV, mkV] (by decide) rfl (Nat.le_of_ble_eq_true rfl) (fun X K => ?_)
  unfold rowF at K
  refine wp_aload_n (n := 1) K dX12_row_0 rfl rfl ?_
  refine wp_iload_n (n := 2) K dX12_row_1 rfl rfl ?_
  refine wp_invV_i (n := 5) K dX12_row_2 rfl cf_X12_80 (m_isHouse _ (by unfold InR; omega) _ (by omega) _ _ hn3) rfl rfl rfl (liS rfl) rfl (by decide) ⟨Nat.le_refl _, Nat.le_refl _⟩ (Nat.le_of_ble_eq_true rfl) ?_
  refine wp_if_eq_b (n := 8) K dX12_row_5 rfl (tgt := 21) (by decide) (fun c5 => ?_) (fun c5 => ?_)
  · have c := of_decide_eq_false c5
    rw [if_neg (by omega), if_neg (by omega)] at K
    refine wp_iconst (n := 22) K dX12_row_21 rfl ?_
    refine ret_i K dX12_row_22 ?_ rfl ?_ ⟨Nat.le_refl _, Nat.le_refl _⟩
    all_goals rfl
  have g1 := of_decide_eq_true c5
  refine wp_aload_n (n := 9) K dX12_row_8 rfl rfl ?_
  refine wp_iload_n (n := 10) K dX12_row_9 rfl rfl ?_
  refine wp_invV_i (n := 13) K dX12_row_10 rfl cf_X12_80 (m_isHouse _ (by unfold InR; omega) _ (by omega) _ _ hn3) rfl rfl rfl (liS rfl) rfl (by decide) ⟨Nat.le_refl _, Nat.le_refl _⟩ (Nat.le_of_ble_eq_true rfl) ?_
  refine wp_if_eq_b (n := 16) K dX12_row_13 rfl (tgt := 21) (by decide) (fun c13 => ?_) (fun c13 => ?_)
  · have c := of_decide_eq_false c13
    rw [if_neg (by omega), if_neg (by omega)] at K
    refine wp_iconst (n := 22) K dX12_row_21 rfl ?_
    refine ret_i K dX12_row_22 ?_ rfl ?_ ⟨Nat.le_refl _, Nat.le_refl _⟩
    all_goals rfl
  have g2 := of_decide_eq_true c13
  refine wp_iload_n (n := 17) K dX12_row_16 rfl rfl ?_
  refine wp_iconst (n := 18) K dX12_row_17 rfl ?_
  refine wp_icmp_ge (n := 21) K dX12_row_18 rfl (tgt := 23) (by decide) ⟨by omega, by omega⟩ ⟨by omega, by omega⟩ (fun c18 => ?_) (fun c18 => ?_)
  rotate_left
  · rw [if_neg (by omega), if_neg (by omega)] at K
    refine wp_iconst (n := 22) K dX12_row_21 rfl ?_
    refine ret_i K dX12_row_22 ?_ rfl ?_ ⟨Nat.le_refl _, Nat.le_refl _⟩
    all_goals rfl
  obtain ⟨a, rfl⟩ : ∃ a : Nat, fr = a := ⟨fr.toNat, by omega⟩
  obtain ⟨b, rfl⟩ : ∃ a : Nat, to = a := ⟨to.toNat, by omega⟩
  obtain ⟨N, hN⟩ : ∃ N : Nat, M 78 3 = N := ⟨(M 78 3).toNat, by omega⟩
  rw [if_pos (show (0 ≤ (a : Int) ∧ (a : Int) < M 78 3) ∧ (0 ≤ (b : Int) ∧ (b : Int) < M 78 3) ∧ -1 ≤ i by omega), hN, Int.toNat_natCast, Int.toNat_natCast, Int.toNat_natCast] at K
  have hfix := farT_fix (f0 := M 89) (t := b) hN (by omega) (by omega)
  have hi := farT_i (f0 := M 89) (t := b) hN (by omega) (by omega) N
  have hFi := hi.2.1 a (by omega)
  refine wp_aload_n (n := 24) K dX12_row_23 rfl rfl ?_
  refine wp_iload_n (n := 25) K dX12_row_24 rfl rfl ?_
  refine wp_invV_n (n := 28) K dX12_row_25 rfl cf_X12_321 (m_findFar _ (by omega) _ _ hw) rfl rfl rfl (liS rfl) rfl (by decide) ⟨Nat.le_refl _, Nat.le_refl _⟩ (Nat.le_of_ble_eq_true rfl) ?_
  rw [hN, Int.toNat_natCast]
  generalize farT (M 78) b (M 89) N = F at *
  refine wp_aload_n (n := 29) K dX12_row_28 rfl rfl ?_
  refine wp_getF (n := 32) K dX12_row_29 rfl fl_X12_52 rfl (liS rfl) rfl rfl ?_
  refine wp_iload_n (n := 33) K dX12_row_32 rfl rfl ?_
  refine wp_iald (n := 34) K dX12_row_33 rfl rfl (liS rfl) ⟨by omega, by omega, by omega⟩ ?_
  try simp only [up_same, up_up, up_ne, ne_eq, Nat.reduceEqDiff, not_false_eq_true, Int.reduceToNat, Int.toNat_natCast]
  refine wp_ldc_w (n := 37) K dX12_row_34 rfl (100000000) co_X12_311 ?_
  refine wp_icmp_ge (n := 40) K dX12_row_37 rfl (tgt := 50) (by decide) ⟨by omega, by omega⟩ ⟨by omega, by omega⟩ (fun c37 => ?_) (fun c37 => ?_)
  · rw [if_neg (by omega)] at K
    refine wp_iconst (n := 51) K dX12_row_50 rfl ?_
    refine ret_i K dX12_row_51 ?_ rfl ?_ ⟨Nat.le_refl _, Nat.le_refl _⟩
    all_goals rfl
  refine wp_iload_n (n := 41) K dX12_row_40 rfl rfl ?_
  refine wp_aload_n (n := 42) K dX12_row_41 rfl rfl ?_
  refine wp_getF (n := 45) K dX12_row_42 rfl fl_X12_52 rfl (liS rfl) rfl rfl ?_
  refine wp_iload_n (n := 46) K dX12_row_45 rfl rfl ?_
  refine wp_iald (n := 47) K dX12_row_46 rfl rfl (liS rfl) ⟨by omega, by omega, by omega⟩ ?_
  try simp only [up_same, up_up, up_ne, ne_eq, Nat.reduceEqDiff, not_false_eq_true, Int.reduceToNat, Int.toNat_natCast]
  refine wp_icmp_lt (n := 50) K dX12_row_47 rfl (tgt := 52) (by decide) ⟨by omega, by omega⟩ ⟨by omega, by omega⟩ (fun c47 => ?_) (fun c47 => ?_)
  rotate_left
  · rw [if_neg (by omega)] at K
    refine wp_iconst (n := 51) K dX12_row_50 rfl ?_
    refine ret_i K dX12_row_51 ?_ rfl ?_ ⟨Nat.le_refl _, Nat.le_refl _⟩
    all_goals rfl
  rw [if_pos (by omega)] at K
  refine wp_iload_n (n := 53) K dX12_row_52 rfl rfl ?_
  refine wp_iconst (n := 54) K dX12_row_53 rfl ?_
  refine wp_icmp_ne (n := 57) K dX12_row_54 rfl (tgt := 64) (by decide) ⟨by omega, by omega⟩ ⟨by omega, by omega⟩ (fun c54 => ?_) (fun c54 => ?_)
  rotate_left
  · rw [if_pos c54] at K
    refine wp_aload_n (n := 58) K dX12_row_57 rfl rfl ?_
    refine wp_getF (n := 61) K dX12_row_58 rfl fl_X12_52 rfl (liS rfl) rfl rfl ?_
    refine wp_iload_n (n := 62) K dX12_row_61 rfl rfl ?_
    refine wp_iald (n := 63) K dX12_row_62 rfl rfl (liS rfl) ⟨by omega, by omega, by omega⟩ ?_
    try simp only [up_same, up_up, up_ne, ne_eq, Nat.reduceEqDiff, not_false_eq_true, Int.reduceToNat, Int.toNat_natCast]
    refine ret_i K dX12_row_63 ?_ rfl ?_ ⟨Nat.le_refl _, Nat.le_refl _⟩
    all_goals rfl
  rw [if_neg c54] at K
  obtain ⟨I, rfl⟩ : ∃ I : Nat, i = I := ⟨i.toNat, by omega⟩
  rw [Int.toNat_natCast] at K
  have path : ∀ k, k ≤ I → rowI (M 78) F a k < N ∧ F (rowI (M 78) F a k) = F a - (k : Int) := by
    intro k
    induction k with
    | zero => intro _; exact ⟨by show a < N; omega, by show F a = F a - 0; omega⟩
    | succ k ih =>
      intro hk
      obtain ⟨q1, q2⟩ := ih (by omega)
      have hne : rowI (M 78) F a k ≠ b := fun e => by rw [e, hi.1] at q2; omega
      rcases (hfix _ q1 hne).2 with r | ⟨-, j, r1, r2⟩
      · omega
      · obtain ⟨s1, s2, -, -⟩ := nxF_ok (σ := M 78) (F := F) (h := rowI (M 78) F a k) 10 0 ⟨j, by omega, by have := r1.2.1; omega, r1.2.2.2, by omega⟩
        refine ⟨?_, by show F (nxF _ _ _ 10 0) = _; omega⟩
        have s3 := nxF_le (σ := M 78) (F := F) (h := rowI (M 78) F a k) (j := j) r1.2.2.2 (by omega) 10 0 (by omega) (by have := r1.2.1; omega)
        show nxF (M 78) F (rowI (M 78) F a k) 10 0 < N
        have := r1.2.1
        omega
  refine wp_iload_n (n := 65) K dX12_row_64 rfl rfl ?_
  refine wp_istore (n := 67) K dX12_row_65 rfl (by decide) ?_
  refine wp_iconst (n := 68) K dX12_row_67 rfl ?_
  refine wp_istore (n := 70) K dX12_row_68 rfl (by decide) ?_
  refine dn I (Q := fun k => ∀ a6 : Value, Wp E1 X 70 [.ref 77, .int (z (a : Int)), .int (z (b : Int)), .int (z (I : Int)), .int (z (rowI (M 78) F a k : Int)), .int (z (k : Int)), a6] [] S (up M 89 F)) (fun k hk ih a6 => ?_) 0 (by omega) mkV
  obtain ⟨p1, p2⟩ := path k hk
  refine wp_iload (n := 72) K dX12_row_70 rfl rfl ?_
  refine wp_iload_n (n := 73) K dX12_row_72 rfl rfl ?_
  refine wp_icmp_ge (n := 76) K dX12_row_73 rfl (tgt := 134) (by decide) ⟨by omega, by omega⟩ ⟨by omega, by omega⟩ (fun c73 => ?_) (fun c73 => ?_)
  · refine wp_iload (n := 136) K dX12_row_134 rfl rfl ?_
    refine ret_i K dX12_row_136 ?_ rfl ?_ ⟨Nat.le_refl _, Nat.le_refl _⟩
    · rw [show k = I by omega]
    · rfl
  · have ih := ih (by omega)
    unfold rowI at ih
    generalize rowI (M 78) F a k = h at *
    obtain ⟨n1, n2⟩ := hw.nr (show h < 10 by omega)
    have i2 : (70 + 3 * (h : Int) + 2).toNat = 72 + 3 * h := by omega
    have hne : h ≠ b := fun e => by rw [e, hi.1] at p2; omega
    have hFh := hi.2.1 h p1
    rcases (hfix h p1 hne).2 with r | ⟨-, j, r1, r2⟩
    · omega
    refine wp_iconst (n := 77) K dX12_row_76 rfl ?_
    refine wp_istore (n := 79) K dX12_row_77 rfl (by decide) ?_
    generalize hR : nxF (M 78) F h 10 0 = R at *
    have scan : ∀ (d t : Nat), d + t = 10 → (∃ j, t ≤ j ∧ j < N ∧ (nrN (M 78) h).testBit j = true ∧ F j = F h - 1) → R = nxF (M 78) F h d t → Wp E1 X 79 [.ref 77, .int (z (a : Int)), .int (z (b : Int)), .int (z (I : Int)), .int (z (h : Int)), .int (z (k : Int)), .int (z (t : Int))] [] S (up M 89 F) := by
      intro d
      induction d with
      | zero => rintro t h1 ⟨j, h2, h3, -⟩ _; omega
      | succ d ihd =>
        rintro t h1 ⟨j, q1, q2, q3, q4⟩ heq
        have hFt := hi.2.1 t (by omega)
        unfold nxF at heq
        have next : ¬ ((nrN (M 78) h).testBit t = true ∧ F t = F h - 1) → Wp E1 X 118 [.ref 77, .int (z (a : Int)), .int (z (b : Int)), .int (z (I : Int)), .int (z (h : Int)), .int (z (k : Int)), .int (z (t : Int))] [] S (up M 89 F) := by
          intro hno
          rw [if_neg hno] at heq
          have hjt : j ≠ t := fun e => hno ⟨e ▸ q3, e ▸ q4⟩
          refine wp_iinc (n := 121) K dX12_row_118 rfl rfl (by decide) ?_
          refine wp_goto K dX12_row_121 (tgt := 79) (by decide) ?_
          exact ihd (t + 1) (by omega) ⟨j, by omega, q2, q3, q4⟩ heq
        refine wp_aload_n (n := 80) K dX12_row_79 rfl rfl ?_
        refine wp_getF (n := 83) K dX12_row_80 rfl fl_X12_7 rfl (liS rfl) rfl rfl ?_
        refine wp_iload (n := 85) K dX12_row_83 rfl rfl ?_
        refine wp_invS_i (n := 88) K dX12_row_85 rfl cf_X12_77 (m_houseAt _ _ _) rfl rfl (by decide) ⟨Nat.le_refl _, Nat.le_refl _⟩ (Nat.le_of_ble_eq_true rfl) ?_
        refine wp_iconst (n := 89) K dX12_row_88 rfl ?_
        refine wp_iadd (n := 90) K dX12_row_89 rfl ?_
        refine wp_iald (n := 91) K dX12_row_90 rfl rfl (liS rfl) ⟨by omega, by omega, by omega⟩ ?_
        try simp only [up_same, up_up, up_ne, ne_eq, Nat.reduceEqDiff, not_false_eq_true, Int.reduceToNat, Int.toNat_natCast]
        rw [i2, n1]
        refine wp_iload (n := 93) K dX12_row_91 rfl rfl ?_
        refine wp_invS_i (n := 96) K dX12_row_93 rfl cf_X12_249 (m_has _ _ (by omega) (by omega) _ _) rfl rfl (by decide) ⟨Nat.le_refl _, Nat.le_refl _⟩ (Nat.le_of_ble_eq_true rfl) ?_
        refine wp_if_eq_b (n := 99) K dX12_row_96 rfl (tgt := 118) (by decide) (fun c96 => ?_) (fun c96 => ?_)
        · exact next (fun q => by rw [c96] at q; cases q.1)
        · refine wp_aload_n (n := 100) K dX12_row_99 rfl rfl ?_
          refine wp_getF (n := 103) K dX12_row_100 rfl fl_X12_52 rfl (liS rfl) rfl rfl ?_
          refine wp_iload (n := 105) K dX12_row_103 rfl rfl ?_
          refine wp_iald (n := 106) K dX12_row_105 rfl rfl (liS rfl) ⟨by omega, by omega, by omega⟩ ?_
          try simp only [up_same, up_up, up_ne, ne_eq, Nat.reduceEqDiff, not_false_eq_true, Int.reduceToNat, Int.toNat_natCast]
          refine wp_aload_n (n := 107) K dX12_row_106 rfl rfl ?_
          refine wp_getF (n := 110) K dX12_row_107 rfl fl_X12_52 rfl (liS rfl) rfl rfl ?_
          refine wp_iload (n := 112) K dX12_row_110 rfl rfl ?_
          refine wp_iald (n := 113) K dX12_row_112 rfl rfl (liS rfl) ⟨by omega, by omega, by omega⟩ ?_
          try simp only [up_same, up_up, up_ne, ne_eq, Nat.reduceEqDiff, not_false_eq_true, Int.reduceToNat, Int.toNat_natCast]
          refine wp_iconst (n := 114) K dX12_row_113 rfl ?_
          refine wp_isub (n := 115) K dX12_row_114 rfl ?_
          refine wp_icmp_eq (n := 118) K dX12_row_115 rfl (tgt := 124) (by decide) ⟨by omega, by omega⟩ ⟨by omega, by omega⟩ (fun c115 => ?_) (fun c115 => ?_)
          · rw [if_pos ⟨c96, by omega⟩] at heq
            rw [heq] at ih
            refine wp_iload (n := 126) K dX12_row_124 rfl rfl ?_
            refine wp_istore (n := 128) K dX12_row_126 rfl (by decide) ?_
            refine wp_iinc (n := 131) K dX12_row_128 rfl rfl (by decide) ?_
            refine wp_goto K dX12_row_131 (tgt := 70) (by decide) ?_
            exact ih _
          · exact next (fun q => by omega)
    exact scan 10 0 rfl ⟨j, by omega, r1.2.1, r1.2.2.2, by omega⟩ hR.symm
