

def Oth (M : MT) (β : Nat → Int) : Prop := ∀ j, j ≠ 7 → j ≠ 8 → j ≠ 9 → j ≠ 10 → j ≠ 11 → β j = M 77 j
theorem Oth.up {M : MT} {β : Nat → Int} (h : Oth M β) {k : Nat} (hk : k = 7 ∨ k = 8 ∨ k = 9 ∨ k = 10 ∨ k = 11) (v : Int) : Oth M (up β k v) := fun j p1 p2 p3 p4 p5 => by rw [up_ne _ _ (by omega)]; exact h j p1 p2 p3 p4 p5
def FIN (X : XT) (S : ST) (M : MT) (n s : Nat) : Prop := ∀ (β : Nat → Int) (l1 l2 : Value) (e : Nat), Oth M β → β 8 = (s : Int) → β 7 = (e : Int) → e = (tokK (M 81) n s).2.2 → tkR (tokK (M 81) n s).1 (tokK (M 81) n s).2.1 (β 9) (β 10) (β 11) → Wp E1 X 390 [.ref 77, l1, l2] [] S (up M 77 β)
set_option maxHeartbeats 2000000 in
theorem nt_sign {X : XT} {n s : Nat} {c : Int} {β : Nat → Int} {S : ST} {M : MT} {F : MT → Prop} (K : Ok E1 X yX12_nextToken cX12_nextToken 3 none rm_X12_nextToken (Qn [77] S M F) S) (hn : n ≤ 300) (hsn : s < n) (fin1 : FIN X S M n s) (h4' : ∀ β : Nat → Int, Oth M β → up M 77 β 77 4 = n) (br : ∀ p, -1 ≤ bA (M 81) n p ∧ bA (M 81) n p ≤ 255) (b0 : Oth M β) (b7 : β 7 = s) (b8 : β 8 = s) (hc : bA (M 81) n s = c) (c57 : 0 ≤ c) (c72 : isDig c = false) (c148 : isLet c = false) : Wp E1 X 245 [.ref 77, .int (z c), mkV] [] S (up M 77 β) := by
  have htok : tokK (M 81) n s = if (c = 60 ∨ c = 62) ∧ bA (M 81) n (s + 1) = 61 then (if c = 60 then 31 else 32, 0, s + 2) else (sgK c, 0, s + 1) := by
    unfold tokK; rw [hc]; dsimp only; rw [if_neg (by omega), if_neg (by rw [c72]; decide), if_neg (by rw [c148]; decide)]
  have hbs := br s
  rw [hc] at hbs
  have hbs1 := br (s + 1)
  refine wp_aload_n (n := 246) K dX12_nextToken_245 rfl rfl ?_
  refine wp_dup (n := 247) K dX12_nextToken_246 rfl rfl ?_
  refine wp_getI (n := 250) K dX12_nextToken_247 rfl fl_X12_95 rfl (liS rfl) rfl ?_
  try simp only [up_same, up_up, up_ne, ne_eq, Nat.reduceEqDiff, not_false_eq_true, Int.reduceToNat, Int.toNat_natCast]
  refine wp_iconst (n := 251) K dX12_nextToken_250 rfl ?_
  refine wp_iadd (n := 252) K dX12_nextToken_251 rfl ?_
  refine wp_putI (n := 255) K dX12_nextToken_252 rfl fl_X12_95 rfl (liS rfl) (Or.inl rfl) rfl rfl ?_
  try simp only [up_same, up_up, up_ne, ne_eq, Nat.reduceEqDiff, not_false_eq_true, Int.reduceToNat, Int.toNat_natCast]
  rw [b7]
  have tail : ∀ (v2 : Int), v2 = bI (decide (sgK c ≠ 42)) → Wp E1 X 327 [.ref 77, .int (z c), .int (z v2)] [] S (up M 77 (up β 7 ((s : Int) + 1))) := by
    intro v2 hv2
    have rest : ∀ tk : Int, (sgK c ≠ 42 → tk = c) → (sgK c = 42 → tk = 3) → Wp E1 X 337 [.ref 77, .int (z c), .int (z v2)] [.int (z tk), .ref 77] S (up M 77 (up β 7 ((s : Int) + 1))) := by
      intro tk ht1 ht2
      have one : ¬ ((c = 60 ∨ c = 62) ∧ bA (M 81) n (s + 1) = 61) → Wp E1 X 390 [.ref 77, .int (z c), .int (z v2)] [] S (up M 77 (up (up β 7 ((s : Int) + 1)) 9 tk)) := by
        intro hno
        rw [if_neg hno] at htok
        refine fin1 _ _ _ (s + 1) (fun j p1 p2 p3 p4 p5 => by rw [up_ne _ _ p3, up_ne _ _ p1]; exact b0 j p1 p2 p3 p4 p5) (by rw [up_ne _ _ (by decide), up_ne _ _ (by decide)]; exact b8) (by rw [up_ne _ _ (by decide), up_same]; omega) (by rw [htok]) ?_
        rw [htok, up_same]
        by_cases h42 : sgK c = 42
        · rw [ht2 h42, h42]; exact Or.inr (Or.inr (Or.inr (Or.inl ⟨rfl, rfl⟩)))
        · rw [ht1 h42]
          exact Or.inr (Or.inr (Or.inr (Or.inr (Or.inl ⟨((sgK_r c).resolve_left h42).1, ((sgK_r c).resolve_left h42).2, rfl⟩))))
      have two : (c = 60 ∨ c = 62) → Wp E1 X 352 [.ref 77, .int (z c), .int (z v2)] [] S (up M 77 (up (up β 7 ((s : Int) + 1)) 9 tk)) := by
        intro h60
        have h4 : up M 77 (up (up β 7 ((s : Int) + 1)) 9 tk) 77 4 = n := h4' _ (fun j p1 p2 p3 p4 p5 => by rw [up_ne _ _ p3, up_ne _ _ p1]; exact b0 j p1 p2 p3 p4 p5)
        refine wp_aload_n (n := 353) K dX12_nextToken_352 rfl rfl ?_
        refine wp_aload_n (n := 354) K dX12_nextToken_353 rfl rfl ?_
        refine wp_getI (n := 357) K dX12_nextToken_354 rfl fl_X12_95 rfl (liS rfl) rfl ?_
        try simp only [up_same, up_up, up_ne, ne_eq, Nat.reduceEqDiff, not_false_eq_true, Int.reduceToNat, Int.toNat_natCast]
        rw [show (s : Int) + 1 = ((s + 1 : Nat) : Int) by omega]
        rw [show (s : Int) + 1 = ((s + 1 : Nat) : Int) by omega] at h4 one
        refine wp_invV_i (n := 360) K dX12_nextToken_357 rfl cf_X12_98 (m_byteAt _ n (by omega) hn _ _ h4) rfl rfl rfl (liS rfl) rfl (by decide) ⟨Nat.le_refl _, Nat.le_refl _⟩ (Nat.le_of_ble_eq_true rfl) ?_
        try simp only [up_same, up_up, up_ne, ne_eq, Nat.reduceEqDiff, not_false_eq_true, Int.reduceToNat, Int.toNat_natCast]
        refine wp_bipush (n := 362) K dX12_nextToken_360 rfl rfl ?_
        refine wp_icmp_ne (n := 365) K dX12_nextToken_362 rfl (tgt := 390) (by decide) ⟨by omega, by omega⟩ ⟨by omega, by omega⟩ (fun c362 => ?_) (fun c362 => ?_)
        · exact one (fun q => c362 q.2)
        · have hyes : (c = 60 ∨ c = 62) ∧ bA (M 81) n (s + 1) = 61 := ⟨h60, c362⟩
          rw [if_pos hyes] at htok
          have end1 : ∀ tk2 : Int, ((c = 60 ∧ tk2 = 4) ∨ (c = 62 ∧ tk2 = 5)) → Wp E1 X 387 [.ref 77, .int (z c), .int (z v2)] [.int (z tk2), .ref 77] S (up M 77 (up (up (up β 7 ((s + 1 : Nat) : Int)) 9 tk) 7 (((s + 1 : Nat) : Int) + 1))) := by
            intro tk2 h2
            refine wp_putI (n := 390) K dX12_nextToken_387 rfl fl_X12_104 rfl (liS rfl) (Or.inl rfl) rfl rfl ?_
            try simp only [up_same, up_up, up_ne, ne_eq, Nat.reduceEqDiff, not_false_eq_true, Int.reduceToNat, Int.toNat_natCast]
            refine fin1 _ _ _ (s + 2) (fun j p1 p2 p3 p4 p5 => by rw [up_ne _ _ p3, up_ne _ _ p1, up_ne _ _ p3, up_ne _ _ p1]; exact b0 j p1 p2 p3 p4 p5) (by rw [up_ne _ _ (by decide), up_ne _ _ (by decide), up_ne _ _ (by decide), up_ne _ _ (by decide)]; exact b8) (by rw [up_ne _ _ (by decide), up_same]; omega) (by rw [htok]) ?_
            rw [htok, up_same]
            rcases h2 with ⟨q1, q2⟩ | ⟨q1, q2⟩
            · rw [if_pos q1, q2]; exact Or.inr (Or.inr (Or.inr (Or.inr (Or.inr (Or.inl ⟨rfl, rfl⟩)))))
            · rw [if_neg (by omega), q2]; exact Or.inr (Or.inr (Or.inr (Or.inr (Or.inr (Or.inr ⟨rfl, rfl⟩)))))
          refine wp_aload_n (n := 366) K dX12_nextToken_365 rfl rfl ?_
          refine wp_dup (n := 367) K dX12_nextToken_366 rfl rfl ?_
          refine wp_getI (n := 370) K dX12_nextToken_367 rfl fl_X12_95 rfl (liS rfl) rfl ?_
          try simp only [up_same, up_up, up_ne, ne_eq, Nat.reduceEqDiff, not_false_eq_true, Int.reduceToNat, Int.toNat_natCast]
          refine wp_iconst (n := 371) K dX12_nextToken_370 rfl ?_
          refine wp_iadd (n := 372) K dX12_nextToken_371 rfl ?_
          refine wp_putI (n := 375) K dX12_nextToken_372 rfl fl_X12_95 rfl (liS rfl) (Or.inl rfl) rfl rfl ?_
          try simp only [up_same, up_up, up_ne, ne_eq, Nat.reduceEqDiff, not_false_eq_true, Int.reduceToNat, Int.toNat_natCast]
          refine wp_aload_n (n := 376) K dX12_nextToken_375 rfl rfl ?_
          refine wp_iload_n (n := 377) K dX12_nextToken_376 rfl rfl ?_
          refine wp_bipush (n := 379) K dX12_nextToken_377 rfl rfl ?_
          refine wp_icmp_ne (n := 382) K dX12_nextToken_379 rfl (tgt := 386) (by decide) ⟨by omega, by omega⟩ ⟨by omega, by omega⟩ (fun c379 => ?_) (fun c379 => ?_)
          · refine wp_iconst (n := 387) K dX12_nextToken_386 rfl ?_
            exact end1 5 (Or.inr ⟨by omega, rfl⟩)
          · refine wp_iconst (n := 383) K dX12_nextToken_382 rfl ?_
            refine wp_goto K dX12_nextToken_383 (tgt := 387) (by decide) ?_
            exact end1 4 (Or.inl ⟨c379, rfl⟩)
      refine wp_putI (n := 340) K dX12_nextToken_337 rfl fl_X12_104 rfl (liS rfl) (Or.inl rfl) rfl rfl ?_
      try simp only [up_same, up_up, up_ne, ne_eq, Nat.reduceEqDiff, not_false_eq_true, Int.reduceToNat, Int.toNat_natCast]
      refine wp_iload_n (n := 341) K dX12_nextToken_340 rfl rfl ?_
      refine wp_bipush (n := 343) K dX12_nextToken_341 rfl rfl ?_
      refine wp_icmp_eq (n := 346) K dX12_nextToken_343 rfl (tgt := 352) (by decide) ⟨by omega, by omega⟩ ⟨by omega, by omega⟩ (fun c343 => ?_) (fun c343 => ?_)
      · exact two (Or.inl c343)
      · refine wp_iload_n (n := 347) K dX12_nextToken_346 rfl rfl ?_
        refine wp_bipush (n := 349) K dX12_nextToken_347 rfl rfl ?_
        refine wp_icmp_ne (n := 352) K dX12_nextToken_349 rfl (tgt := 390) (by decide) ⟨by omega, by omega⟩ ⟨by omega, by omega⟩ (fun c349 => ?_) (fun c349 => ?_)
        · exact one (fun q => by omega)
        · exact two (Or.inr c349)
    rw [hv2]
    rw [hv2] at rest
    refine wp_aload_n (n := 328) K dX12_nextToken_327 rfl rfl ?_
    refine wp_iload_n (n := 329) K dX12_nextToken_328 rfl rfl ?_
    refine wp_if_eq_b (n := 332) K dX12_nextToken_329 rfl (tgt := 336) (by decide) (fun c329 => ?_) (fun c329 => ?_)
    · refine wp_iconst (n := 337) K dX12_nextToken_336 rfl ?_
      exact rest 3 (fun q => by rw [decide_eq_true q] at c329; cases c329) (fun _ => rfl)
    · refine wp_iload_n (n := 333) K dX12_nextToken_332 rfl rfl ?_
      refine wp_goto K dX12_nextToken_333 (tgt := 337) (by decide) ?_
      exact rest c (fun _ => rfl) (fun q => by rw [decide_eq_false (fun r => r q)] at c329; cases c329)
  have chain1 : (c = 60 ∨ c = 62 ∨ c = 61 ∨ c = 35 ∨ c = 43 ∨ c = 45 ∨ c = 42 ∨ c = 47 ∨ c = 40 ∨ c = 41 ∨ c = 59) → Wp E1 X 326 [.ref 77, .int (z c), mkV] [.int (z 1)] S (up M 77 (up β 7 ((s : Int) + 1))) := by
    intro h
    refine wp_istore_n (n := 327) K dX12_nextToken_326 rfl (by decide) ?_
    exact tail 1 (by rw [decide_eq_true (sgK_y h)]; rfl)
  have chain0 : ¬ (c = 60 ∨ c = 62 ∨ c = 61 ∨ c = 35 ∨ c = 43 ∨ c = 45 ∨ c = 42 ∨ c = 47 ∨ c = 40 ∨ c = 41 ∨ c = 59) → Wp E1 X 326 [.ref 77, .int (z c), mkV] [.int (z 0)] S (up M 77 (up β 7 ((s : Int) + 1))) := by
    intro h
    refine wp_istore_n (n := 327) K dX12_nextToken_326 rfl (by decide) ?_
    exact tail 0 (by rw [decide_eq_false (fun q => q (sgK_n h))]; rfl)
  refine wp_iload_n (n := 256) K dX12_nextToken_255 rfl rfl ?_
  refine wp_bipush (n := 258) K dX12_nextToken_256 rfl rfl ?_
  refine wp_icmp_eq (n := 261) K dX12_nextToken_258 rfl (tgt := 321) (by decide) ⟨by omega, by omega⟩ ⟨by omega, by omega⟩ (fun c258 => ?_) (fun c258 => ?_)
  · refine wp_iconst (n := 322) K dX12_nextToken_321 rfl ?_
    refine wp_goto K dX12_nextToken_322 (tgt := 326) (by decide) ?_
    first | exact chain1 (by omega) | exact chain0 (by omega)
  · refine wp_iload_n (n := 262) K dX12_nextToken_261 rfl rfl ?_
    refine wp_bipush (n := 264) K dX12_nextToken_262 rfl rfl ?_
    refine wp_icmp_eq (n := 267) K dX12_nextToken_264 rfl (tgt := 321) (by decide) ⟨by omega, by omega⟩ ⟨by omega, by omega⟩ (fun c264 => ?_) (fun c264 => ?_)
    · refine wp_iconst (n := 322) K dX12_nextToken_321 rfl ?_
      refine wp_goto K dX12_nextToken_322 (tgt := 326) (by decide) ?_
      first | exact chain1 (by omega) | exact chain0 (by omega)
    · refine wp_iload_n (n := 268) K dX12_nextToken_267 rfl rfl ?_
      refine wp_bipush (n := 270) K dX12_nextToken_268 rfl rfl ?_
      refine wp_icmp_eq (n := 273) K dX12_nextToken_270 rfl (tgt := 321) (by decide) ⟨by omega, by omega⟩ ⟨by omega, by omega⟩ (fun c270 => ?_) (fun c270 => ?_)
      · refine wp_iconst (n := 322) K dX12_nextToken_321 rfl ?_
        refine wp_goto K dX12_nextToken_322 (tgt := 326) (by decide) ?_
        first | exact chain1 (by omega) | exact chain0 (by omega)
      · refine wp_iload_n (n := 274) K dX12_nextToken_273 rfl rfl ?_
        refine wp_bipush (n := 276) K dX12_nextToken_274 rfl rfl ?_
        refine wp_icmp_eq (n := 279) K dX12_nextToken_276 rfl (tgt := 321) (by decide) ⟨by omega, by omega⟩ ⟨by omega, by omega⟩ (fun c276 => ?_) (fun c276 => ?_)
        · refine wp_iconst (n := 322) K dX12_nextToken_321 rfl ?_
          refine wp_goto K dX12_nextToken_322 (tgt := 326) (by decide) ?_
          first | exact chain1 (by omega) | exact chain0 (by omega)
        · refine wp_iload_n (n := 280) K dX12_nextToken_279 rfl rfl ?_
          refine wp_bipush (n := 282) K dX12_nextToken_280 rfl rfl ?_
          refine wp_icmp_eq (n := 285) K dX12_nextToken_282 rfl (tgt := 321) (by decide) ⟨by omega, by omega⟩ ⟨by omega, by omega⟩ (fun c282 => ?_) (fun c282 => ?_)
          · refine wp_iconst (n := 322) K dX12_nextToken_321 rfl ?_
            refine wp_goto K dX12_nextToken_322 (tgt := 326) (by decide) ?_
            first | exact chain1 (by omega) | exact chain0 (by omega)
          · refine wp_iload_n (n := 286) K dX12_nextToken_285 rfl rfl ?_
            refine wp_bipush (n := 288) K dX12_nextToken_286 rfl rfl ?_
            refine wp_icmp_eq (n := 291) K dX12_nextToken_288 rfl (tgt := 321) (by decide) ⟨by omega, by omega⟩ ⟨by omega, by omega⟩ (fun c288 => ?_) (fun c288 => ?_)
            · refine wp_iconst (n := 322) K dX12_nextToken_321 rfl ?_
              refine wp_goto K dX12_nextToken_322 (tgt := 326) (by decide) ?_
              first | exact chain1 (by omega) | exact chain0 (by omega)
            · refine wp_iload_n (n := 292) K dX12_nextToken_291 rfl rfl ?_
              refine wp_bipush (n := 294) K dX12_nextToken_292 rfl rfl ?_
              refine wp_icmp_eq (n := 297) K dX12_nextToken_294 rfl (tgt := 321) (by decide) ⟨by omega, by omega⟩ ⟨by omega, by omega⟩ (fun c294 => ?_) (fun c294 => ?_)
              · refine wp_iconst (n := 322) K dX12_nextToken_321 rfl ?_
                refine wp_goto K dX12_nextToken_322 (tgt := 326) (by decide) ?_
                first | exact chain1 (by omega) | exact chain0 (by omega)
              · refine wp_iload_n (n := 298) K dX12_nextToken_297 rfl rfl ?_
                refine wp_bipush (n := 300) K dX12_nextToken_298 rfl rfl ?_
                refine wp_icmp_eq (n := 303) K dX12_nextToken_300 rfl (tgt := 321) (by decide) ⟨by omega, by omega⟩ ⟨by omega, by omega⟩ (fun c300 => ?_) (fun c300 => ?_)
                · refine wp_iconst (n := 322) K dX12_nextToken_321 rfl ?_
                  refine wp_goto K dX12_nextToken_322 (tgt := 326) (by decide) ?_
                  first | exact chain1 (by omega) | exact chain0 (by omega)
                · refine wp_iload_n (n := 304) K dX12_nextToken_303 rfl rfl ?_
                  refine wp_bipush (n := 306) K dX12_nextToken_304 rfl rfl ?_
                  refine wp_icmp_eq (n := 309) K dX12_nextToken_306 rfl (tgt := 321) (by decide) ⟨by omega, by omega⟩ ⟨by omega, by omega⟩ (fun c306 => ?_) (fun c306 => ?_)
                  · refine wp_iconst (n := 322) K dX12_nextToken_321 rfl ?_
                    refine wp_goto K dX12_nextToken_322 (tgt := 326) (by decide) ?_
                    first | exact chain1 (by omega) | exact chain0 (by omega)
                  · refine wp_iload_n (n := 310) K dX12_nextToken_309 rfl rfl ?_
                    refine wp_bipush (n := 312) K dX12_nextToken_310 rfl rfl ?_
                    refine wp_icmp_eq (n := 315) K dX12_nextToken_312 rfl (tgt := 321) (by decide) ⟨by omega, by omega⟩ ⟨by omega, by omega⟩ (fun c312 => ?_) (fun c312 => ?_)
                    · refine wp_iconst (n := 322) K dX12_nextToken_321 rfl ?_
                      refine wp_goto K dX12_nextToken_322 (tgt := 326) (by decide) ?_
                      first | exact chain1 (by omega) | exact chain0 (by omega)
                    · refine wp_iload_n (n := 316) K dX12_nextToken_315 rfl rfl ?_
                      refine wp_bipush (n := 318) K dX12_nextToken_316 rfl rfl ?_
                      refine wp_icmp_ne (n := 321) K dX12_nextToken_318 rfl (tgt := 325) (by decide) ⟨by omega, by omega⟩ ⟨by omega, by omega⟩ (fun c318 => ?_) (fun c318 => ?_)
                      · refine wp_iconst (n := 326) K dX12_nextToken_325 rfl ?_
                        first | exact chain1 (by omega) | exact chain0 (by omega)
                      · refine wp_iconst (n := 322) K dX12_nextToken_321 rfl ?_
                        refine wp_goto K dX12_nextToken_322 (tgt := 326) (by decide) ?_
                        first | exact chain1 (by omega) | exact chain0 (by omega)
theorem isLet_r {c : Int} (h : isLet c = true) : 65 ≤ c ∧ c ≤ 122 := by
  unfold isLet at h
  rcases Bool.or_eq_true_iff.mp h with q | q <;> have := of_decide_eq_true q <;> omega
theorem isDig_r {c : Int} (h : isDig c = true) : 48 ≤ c ∧ c ≤ 57 := of_decide_eq_true h
theorem rl_ltrs {b : Nat → Int} {s : Nat} : ∀ k, (∀ i, i < k → isLet (b (s + i)) = true) → ltrs (rl b s k) := by
  intro k
  induction k with
  | zero => intro _ c hc; cases hc
  | succ k ih =>
    intro h c hc
    rcases List.mem_cons.mp hc with q | q
    · rw [q]; exact isLet_r (h k (by omega))
    · exact ih (fun i hi => h i (by omega)) c q
theorem nt_word_end {X : XT} {n s q : Nat} {c : Int} {γ : Nat → Int} {S : ST} {M : MT} {F : MT → Prop} (K : Ok E1 X yX12_nextToken cX12_nextToken 3 none rm_X12_nextToken (Qn [77] S M F) S) (hn : n ≤ 300) (fin1 : FIN X S M n s) (htok : tokK (M 81) n s = (wdK (letters (M 81) s (spn isLet (M 81) n s)), 0, spn isLet (M 81) n s)) (hs : s ≤ q) (hqn : q ≤ n) (he : spn isLet (M 81) n s = q) (hl : ∀ i, i < q - s → isLet (M 81 (s + i)) = true) (g0 : Oth M γ) (g8 : γ 8 = s) (g7 : γ 7 = q) (g9 : γ 9 = 2) (g11 : γ 11 = pk (M 81) s (min (q - s) 7)) (c148 : isLet c = true) (hc : bA (M 81) n s = c) (c57 : 0 ≤ c) : Wp E1 X 223 [.ref 77, .int (z c), mkV] [] S (up M 77 γ) := by
  have hlt : isLet (-1) = false := by decide
  have hq : s < q := by
    have h1 := (spn_step (b := M 81) (n := n) (p := s) hlt (by rw [hc]; exact c148))
    have h2 := spn_r (M 81) (q := isLet) (n := n) (p := s + 1) hlt h1.2
    rw [← h1.1, he] at h2
    omega
  have fin2 : ∀ γ : Nat → Int, Oth M γ → γ 8 = s → γ 7 = q → γ 9 = 2 → (γ 11 = if q - s ≤ 7 then pk (M 81) s (q - s) else 0) → Wp E1 X 390 [.ref 77, .int (z c), mkV] [] S (up M 77 γ) := by
    intro γ g0 g8 g7 g9 g11
    refine fin1 γ _ _ q g0 g8 g7 (by rw [htok, he]) ?_
    rw [htok, he]
    refine Or.inr (Or.inr (Or.inl ⟨rl (M 81) s (q - s), ?_, rl_ltrs _ hl, g9, ?_, ?_⟩))
    · intro e
      have := rl_len (M 81) s (q - s)
      rw [e] at this
      have : 0 = q - s := this
      omega
    · rw [rl_letters, show s + (q - s) = q by omega]
    · rw [rl_len, rl_pk]; exact g11
  refine wp_aload_n (n := 224) K dX12_nextToken_223 rfl rfl ?_
  refine wp_getI (n := 227) K dX12_nextToken_224 rfl fl_X12_95 rfl (liS rfl) rfl ?_
  try simp only [up_same, up_up, up_ne, ne_eq, Nat.reduceEqDiff, not_false_eq_true, Int.reduceToNat, Int.toNat_natCast]
  refine wp_aload_n (n := 228) K dX12_nextToken_227 rfl rfl ?_
  refine wp_getI (n := 231) K dX12_nextToken_228 rfl fl_X12_101 rfl (liS rfl) rfl ?_
  try simp only [up_same, up_up, up_ne, ne_eq, Nat.reduceEqDiff, not_false_eq_true, Int.reduceToNat, Int.toNat_natCast]
  refine wp_isub (n := 232) K dX12_nextToken_231 rfl ?_
  rw [g7, g8]
  refine wp_bipush (n := 234) K dX12_nextToken_232 rfl rfl ?_
  refine wp_icmp_le (n := 237) K dX12_nextToken_234 rfl (tgt := 390) (by decide) ⟨by omega, by omega⟩ ⟨by omega, by omega⟩ (fun c234 => ?_) (fun c234 => ?_)
  · exact fin2 γ g0 g8 g7 g9 (by rw [if_pos (by omega), g11, Nat.min_eq_left (by omega)])
  · refine wp_aload_n (n := 238) K dX12_nextToken_237 rfl rfl ?_
    refine wp_lconst (n := 239) (a := 0) K dX12_nextToken_238 rfl rfl ?_
    refine wp_putL (n := 242) K dX12_nextToken_239 rfl fl_X12_117 rfl (liS rfl) (Or.inl rfl) rfl rfl ?_
    try simp only [up_same, up_up, up_ne, ne_eq, Nat.reduceEqDiff, not_false_eq_true, Int.reduceToNat, Int.toNat_natCast]
    refine wp_goto K dX12_nextToken_242 (tgt := 390) (by decide) ?_
    exact fin2 _ (g0.up (by decide) _) (by rw [up_ne _ _ (by decide)]; exact g8) (by rw [up_ne _ _ (by decide)]; exact g7) (by rw [up_ne _ _ (by decide)]; exact g9) (by rw [up_same, if_neg (by omega)])
set_option maxHeartbeats 2000000 in
theorem nt_word {X : XT} {n s : Nat} {c : Int} {β : Nat → Int} {S : ST} {M : MT} {F : MT → Prop} (K : Ok E1 X yX12_nextToken cX12_nextToken 3 none rm_X12_nextToken (Qn [77] S M F) S) (hn : n ≤ 300) (hsn : s < n) (fin1 : FIN X S M n s) (h4' : ∀ β : Nat → Int, Oth M β → up M 77 β 77 4 = n) (br : ∀ p, -1 ≤ bA (M 81) n p ∧ bA (M 81) n p ≤ 255) (b0 : Oth M β) (b7 : β 7 = s) (b8 : β 8 = s) (hc : bA (M 81) n s = c) (c57 : 0 ≤ c) (c72 : isDig c = false) (c148 : isLet c = true) : Wp E1 X 151 [.ref 77, .int (z c), mkV] [] S (up M 77 β) := by
  have hlt : isLet (-1) = false := by decide
  have htok : tokK (M 81) n s = (wdK (letters (M 81) s (spn isLet (M 81) n s)), 0, spn isLet (M 81) n s) := by
    unfold tokK; rw [hc]; dsimp only; rw [if_neg (by omega), if_neg (by rw [c72]; decide), if_pos c148]
  refine wp_aload_n (n := 152) K dX12_nextToken_151 rfl rfl ?_
  refine wp_iconst (n := 153) K dX12_nextToken_152 rfl ?_
  refine wp_putI (n := 156) K dX12_nextToken_153 rfl fl_X12_104 rfl (liS rfl) (Or.inl rfl) rfl rfl ?_
  try simp only [up_same, up_up, up_ne, ne_eq, Nat.reduceEqDiff, not_false_eq_true, Int.reduceToNat, Int.toNat_natCast]
  refine wp_aload_n (n := 157) K dX12_nextToken_156 rfl rfl ?_
  refine wp_lconst (n := 158) (a := 0) K dX12_nextToken_157 rfl rfl ?_
  refine wp_putL (n := 161) K dX12_nextToken_158 rfl fl_X12_117 rfl (liS rfl) (Or.inl rfl) rfl rfl ?_
  try simp only [up_same, up_up, up_ne, ne_eq, Nat.reduceEqDiff, not_false_eq_true, Int.reduceToNat, Int.toNat_natCast]
  have loop : ∀ (d q : Nat), q + d = n → s ≤ q → spn isLet (M 81) n q = spn isLet (M 81) n s → (∀ i, i < q - s → isLet (M 81 (s + i)) = true) → ∀ γ : Nat → Int, Oth M γ → γ 8 = (s : Int) → γ 7 = (q : Int) → γ 9 = 2 → γ 11 = pk (M 81) s (min (q - s) 7) → Wp E1 X 161 [.ref 77, .int (z c), mkV] [] S (up M 77 γ) := by
    intro d
    induction d with
    | zero =>
      intro q hq hs hsp hl γ g0 g8 g7 g9 g11
      have hend : bA (M 81) n q = -1 := bA_neg (by omega)
      have h4 := h4' γ g0
      refine wp_aload_n (n := 162) K dX12_nextToken_161 rfl rfl ?_
      refine wp_aload_n (n := 163) K dX12_nextToken_162 rfl rfl ?_
      refine wp_getI (n := 166) K dX12_nextToken_163 rfl fl_X12_95 rfl (liS rfl) rfl ?_
      try simp only [up_same, up_up, up_ne, ne_eq, Nat.reduceEqDiff, not_false_eq_true, Int.reduceToNat, Int.toNat_natCast]
      rw [g7]
      have := br q
      refine wp_invV_i (n := 169) K dX12_nextToken_166 rfl cf_X12_98 (m_byteAt _ n (by omega) hn _ _ h4) rfl rfl rfl (liS rfl) rfl (by decide) ⟨Nat.le_refl _, Nat.le_refl _⟩ (Nat.le_of_ble_eq_true rfl) ?_
      try simp only [up_same, up_up, up_ne, ne_eq, Nat.reduceEqDiff, not_false_eq_true, Int.reduceToNat, Int.toNat_natCast]
      refine wp_invS_i (n := 172) K dX12_nextToken_169 rfl cf_X12_114 (m_isLetter _ ⟨by omega, by omega⟩ _ _) rfl rfl (by decide) ⟨Nat.le_refl _, Nat.le_refl _⟩ (Nat.le_of_ble_eq_true rfl) ?_
      try simp only [up_same, up_up, up_ne, ne_eq, Nat.reduceEqDiff, not_false_eq_true, Int.reduceToNat, Int.toNat_natCast]
      refine wp_if_eq_b (n := 175) K dX12_nextToken_172 rfl (tgt := 223) (by decide) (fun c172 => ?_) (fun c172 => ?_)
      · exact nt_word_end K hn fin1 htok hs (by omega) (by rw [← hsp]; exact spn_stop (by rw [hend]; exact hlt)) hl g0 g8 g7 g9 g11 c148 hc c57
      · rw [hend] at c172; cases c172
    | succ d ih =>
      intro q hq hs hsp hl γ g0 g8 g7 g9 g11
      have h4 := h4' γ g0
      refine wp_aload_n (n := 162) K dX12_nextToken_161 rfl rfl ?_
      refine wp_aload_n (n := 163) K dX12_nextToken_162 rfl rfl ?_
      refine wp_getI (n := 166) K dX12_nextToken_163 rfl fl_X12_95 rfl (liS rfl) rfl ?_
      try simp only [up_same, up_up, up_ne, ne_eq, Nat.reduceEqDiff, not_false_eq_true, Int.reduceToNat, Int.toNat_natCast]
      rw [g7]
      have := br q
      refine wp_invV_i (n := 169) K dX12_nextToken_166 rfl cf_X12_98 (m_byteAt _ n (by omega) hn _ _ h4) rfl rfl rfl (liS rfl) rfl (by decide) ⟨Nat.le_refl _, Nat.le_refl _⟩ (Nat.le_of_ble_eq_true rfl) ?_
      try simp only [up_same, up_up, up_ne, ne_eq, Nat.reduceEqDiff, not_false_eq_true, Int.reduceToNat, Int.toNat_natCast]
      refine wp_invS_i (n := 172) K dX12_nextToken_169 rfl cf_X12_114 (m_isLetter _ ⟨by omega, by omega⟩ _ _) rfl rfl (by decide) ⟨Nat.le_refl _, Nat.le_refl _⟩ (Nat.le_of_ble_eq_true rfl) ?_
      try simp only [up_same, up_up, up_ne, ne_eq, Nat.reduceEqDiff, not_false_eq_true, Int.reduceToNat, Int.toNat_natCast]
      refine wp_if_eq_b (n := 175) K dX12_nextToken_172 rfl (tgt := 223) (by decide) (fun c172 => ?_) (fun c172 => ?_)
      · exact nt_word_end K hn fin1 htok hs (by omega) (by rw [← hsp]; exact spn_stop c172) hl g0 g8 g7 g9 g11 c148 hc c57
      · have hst := spn_step hlt c172
        have hbq : bA (M 81) n q = M 81 q := if_pos hst.2
        have hl2 : ∀ i, i < q + 1 - s → isLet (M 81 (s + i)) = true := fun i hi => by
          by_cases h : i < q - s
          · exact hl i h
          · rw [show s + i = q by omega, ← hbq]; exact c172
        have nx : ∀ γ : Nat → Int, Oth M γ → γ 8 = (s : Int) → γ 7 = (q : Int) → γ 9 = 2 → γ 11 = pk (M 81) s (min (q + 1 - s) 7) → Wp E1 X 210 [.ref 77, .int (z c), mkV] [] S (up M 77 γ) := by
          intro γ g0 g8 g7 g9 g11
          refine wp_aload_n (n := 211) K dX12_nextToken_210 rfl rfl ?_
          refine wp_dup (n := 212) K dX12_nextToken_211 rfl rfl ?_
          refine wp_getI (n := 215) K dX12_nextToken_212 rfl fl_X12_95 rfl (liS rfl) rfl ?_
          try simp only [up_same, up_up, up_ne, ne_eq, Nat.reduceEqDiff, not_false_eq_true, Int.reduceToNat, Int.toNat_natCast]
          refine wp_iconst (n := 216) K dX12_nextToken_215 rfl ?_
          refine wp_iadd (n := 217) K dX12_nextToken_216 rfl ?_
          refine wp_putI (n := 220) K dX12_nextToken_217 rfl fl_X12_95 rfl (liS rfl) (Or.inl rfl) rfl rfl ?_
          try simp only [up_same, up_up, up_ne, ne_eq, Nat.reduceEqDiff, not_false_eq_true, Int.reduceToNat, Int.toNat_natCast]
          refine wp_goto K dX12_nextToken_220 (tgt := 161) (by decide) ?_
          rw [g7]
          exact ih (q + 1) (by omega) (by omega) (by rw [← hst.1]; exact hsp) hl2 _ (g0.up (by decide) _) (by rw [up_ne _ _ (by decide)]; exact g8) (by rw [up_same]; omega) (by rw [up_ne _ _ (by decide)]; exact g9) (by rw [up_ne _ _ (by decide)]; exact g11)
        refine wp_aload_n (n := 176) K dX12_nextToken_175 rfl rfl ?_
        refine wp_getI (n := 179) K dX12_nextToken_176 rfl fl_X12_95 rfl (liS rfl) rfl ?_
        try simp only [up_same, up_up, up_ne, ne_eq, Nat.reduceEqDiff, not_false_eq_true, Int.reduceToNat, Int.toNat_natCast]
        refine wp_aload_n (n := 180) K dX12_nextToken_179 rfl rfl ?_
        refine wp_getI (n := 183) K dX12_nextToken_180 rfl fl_X12_101 rfl (liS rfl) rfl ?_
        try simp only [up_same, up_up, up_ne, ne_eq, Nat.reduceEqDiff, not_false_eq_true, Int.reduceToNat, Int.toNat_natCast]
        refine wp_isub (n := 184) K dX12_nextToken_183 rfl ?_
        rw [g7, g8]
        refine wp_bipush (n := 186) K dX12_nextToken_184 rfl rfl ?_
        refine wp_icmp_ge (n := 189) K dX12_nextToken_186 rfl (tgt := 210) (by decide) ⟨by omega, by omega⟩ ⟨by omega, by omega⟩ (fun c186 => ?_) (fun c186 => ?_)
        · exact nx γ g0 g8 g7 g9 (by rw [g11]; congr 1; omega)
        · refine wp_aload_n (n := 190) K dX12_nextToken_189 rfl rfl ?_
          refine wp_aload_n (n := 191) K dX12_nextToken_190 rfl rfl ?_
          refine wp_getL (n := 194) K dX12_nextToken_191 rfl fl_X12_117 rfl (liS rfl) rfl ?_
          try simp only [up_same, up_up, up_ne, ne_eq, Nat.reduceEqDiff, not_false_eq_true, Int.reduceToNat, Int.toNat_natCast]
          refine wp_bipush (n := 196) K dX12_nextToken_194 rfl rfl ?_
          refine wp_lshl (n := 197) K dX12_nextToken_196 rfl ?_
          refine wp_aload_n (n := 198) K dX12_nextToken_197 rfl rfl ?_
          refine wp_aload_n (n := 199) K dX12_nextToken_198 rfl rfl ?_
          refine wp_getI (n := 202) K dX12_nextToken_199 rfl fl_X12_95 rfl (liS rfl) rfl ?_
          try simp only [up_same, up_up, up_ne, ne_eq, Nat.reduceEqDiff, not_false_eq_true, Int.reduceToNat, Int.toNat_natCast]
          rw [g7]
          refine wp_invV_i (n := 205) K dX12_nextToken_202 rfl cf_X12_98 (m_byteAt _ n (by omega) hn _ _ h4) rfl rfl rfl (liS rfl) rfl (by decide) ⟨Nat.le_refl _, Nat.le_refl _⟩ (Nat.le_of_ble_eq_true rfl) ?_
          try simp only [up_same, up_up, up_ne, ne_eq, Nat.reduceEqDiff, not_false_eq_true, Int.reduceToNat, Int.toNat_natCast]
          refine wp_i2l (n := 206) K dX12_nextToken_205 rfl ⟨by omega, by omega⟩ ?_
          refine wp_lor (n := 207) K dX12_nextToken_206 rfl ?_
          refine wp_putL (n := 210) K dX12_nextToken_207 rfl fl_X12_117 rfl (liS rfl) (Or.inl rfl) rfl rfl ?_
          try simp only [up_same, up_up, up_ne, ne_eq, Nat.reduceEqDiff, not_false_eq_true, Int.reduceToNat, Int.toNat_natCast]
          refine nx _ (g0.up (by decide) _) (by rw [up_ne _ _ (by decide)]; exact g8) (by rw [up_ne _ _ (by decide)]; exact g7) (by rw [up_ne _ _ (by decide)]; exact g9) ?_
          rw [up_same, g11, hbq, Nat.min_eq_left (by omega), Nat.min_eq_left (by omega), show q + 1 - s = (q - s) + 1 by omega]
          have := pk_step (b := M 81) (p := s) (k := q - s) (by omega) (fun i hi => by have := isLet_r (hl2 i (by omega)); omega)
          rw [show s + (q - s) = q by omega] at this
          exact this
  exact loop (n - s) s (by omega) (Nat.le_refl _) rfl (fun i p1 => by omega) _ ((b0.up (by decide) _).up (by decide) _) (by rw [up_ne _ _ (by decide), up_ne _ _ (by decide)]; exact b8) (by rw [up_ne _ _ (by decide), up_ne _ _ (by decide)]; exact b7) (by rw [up_ne _ _ (by decide), up_same]) (by rw [up_same, Nat.sub_self]; rfl)
set_option maxHeartbeats 2000000 in
theorem nt_num {X : XT} {n s : Nat} {c : Int} {β : Nat → Int} {S : ST} {M : MT} {F : MT → Prop} (K : Ok E1 X yX12_nextToken cX12_nextToken 3 none rm_X12_nextToken (Qn [77] S M F) S) (hn : n ≤ 300) (hsn : s < n) (fin1 : FIN X S M n s) (h4' : ∀ β : Nat → Int, Oth M β → up M 77 β 77 4 = n) (br : ∀ p, -1 ≤ bA (M 81) n p ∧ bA (M 81) n p ≤ 255) (b0 : Oth M β) (b7 : β 7 = s) (b8 : β 8 = s) (hc : bA (M 81) n s = c) (c57 : 0 ≤ c) (c72 : isDig c = true) : Wp E1 X 75 [.ref 77, .int (z c), mkV] [] S (up M 77 β) := by
  have hdg : isDig (-1) = false := by decide
  have htok : tokK (M 81) n s = (40, dgV (M 81) s (spn isDig (M 81) n s - s), spn isDig (M 81) n s) := by
    unfold tokK; rw [hc]; dsimp only; rw [if_neg (by omega), if_pos c72]
  refine wp_aload_n (n := 76) K dX12_nextToken_75 rfl rfl ?_
  refine wp_iconst (n := 77) K dX12_nextToken_76 rfl ?_
  refine wp_putI (n := 80) K dX12_nextToken_77 rfl fl_X12_104 rfl (liS rfl) (Or.inl rfl) rfl rfl ?_
  try simp only [up_same, up_up, up_ne, ne_eq, Nat.reduceEqDiff, not_false_eq_true, Int.reduceToNat, Int.toNat_natCast]
  refine wp_aload_n (n := 81) K dX12_nextToken_80 rfl rfl ?_
  refine wp_iconst (n := 82) K dX12_nextToken_81 rfl ?_
  refine wp_putI (n := 85) K dX12_nextToken_82 rfl fl_X12_110 rfl (liS rfl) (Or.inl rfl) rfl rfl ?_
  try simp only [up_same, up_up, up_ne, ne_eq, Nat.reduceEqDiff, not_false_eq_true, Int.reduceToNat, Int.toNat_natCast]
  have loop : ∀ (d q : Nat), q + d = n → s ≤ q → spn isDig (M 81) n q = spn isDig (M 81) n s → ∀ γ : Nat → Int, Oth M γ → γ 8 = (s : Int) → γ 7 = (q : Int) → γ 9 = 1 → (0 ≤ γ 10 ∧ γ 10 ≤ 1000010 ∧ ((γ 10 ≤ 9999 ∧ dgV (M 81) s (q - s) = γ 10) ∨ (9999 < γ 10 ∧ dgV (M 81) s (q - s) = 10000))) → Wp E1 X 85 [.ref 77, .int (z c), mkV] [] S (up M 77 γ) := by
    intro d
    induction d with
    | zero =>
      intro q hq hs hsp γ g0 g8 g7 g9 g10
      have hend : bA (M 81) n q = -1 := bA_neg (by omega)
      have h4 := h4' γ g0
      refine wp_aload_n (n := 86) K dX12_nextToken_85 rfl rfl ?_
      refine wp_aload_n (n := 87) K dX12_nextToken_86 rfl rfl ?_
      refine wp_getI (n := 90) K dX12_nextToken_87 rfl fl_X12_95 rfl (liS rfl) rfl ?_
      try simp only [up_same, up_up, up_ne, ne_eq, Nat.reduceEqDiff, not_false_eq_true, Int.reduceToNat, Int.toNat_natCast]
      rw [g7]
      have := br q
      refine wp_invV_i (n := 93) K dX12_nextToken_90 rfl cf_X12_98 (m_byteAt _ n (by omega) hn _ _ h4) rfl rfl rfl (liS rfl) rfl (by decide) ⟨Nat.le_refl _, Nat.le_refl _⟩ (Nat.le_of_ble_eq_true rfl) ?_
      try simp only [up_same, up_up, up_ne, ne_eq, Nat.reduceEqDiff, not_false_eq_true, Int.reduceToNat, Int.toNat_natCast]
      refine wp_invS_i (n := 96) K dX12_nextToken_93 rfl cf_X12_107 (m_isDigit _ ⟨by omega, by omega⟩ _ _) rfl rfl (by decide) ⟨Nat.le_refl _, Nat.le_refl _⟩ (Nat.le_of_ble_eq_true rfl) ?_
      try simp only [up_same, up_up, up_ne, ne_eq, Nat.reduceEqDiff, not_false_eq_true, Int.reduceToNat, Int.toNat_natCast]
      refine wp_if_eq_b (n := 99) K dX12_nextToken_96 rfl (tgt := 390) (by decide) (fun c96 => ?_) (fun c96 => ?_)
      · have he : spn isDig (M 81) n s = q := by rw [← hsp]; exact spn_stop (by rw [hend]; exact hdg)
        refine fin1 γ _ _ q g0 g8 g7 (by rw [htok, he]) ?_
        rw [htok, he]
        exact Or.inr (Or.inl ⟨rfl, g9, g10.1, g10.2.1, g10.2.2⟩)
      · rw [hend] at c96; cases c96
    | succ d ih =>
      intro q hq hs hsp γ g0 g8 g7 g9 g10
      have h4 := h4' γ g0
      refine wp_aload_n (n := 86) K dX12_nextToken_85 rfl rfl ?_
      refine wp_aload_n (n := 87) K dX12_nextToken_86 rfl rfl ?_
      refine wp_getI (n := 90) K dX12_nextToken_87 rfl fl_X12_95 rfl (liS rfl) rfl ?_
      try simp only [up_same, up_up, up_ne, ne_eq, Nat.reduceEqDiff, not_false_eq_true, Int.reduceToNat, Int.toNat_natCast]
      rw [g7]
      have := br q
      refine wp_invV_i (n := 93) K dX12_nextToken_90 rfl cf_X12_98 (m_byteAt _ n (by omega) hn _ _ h4) rfl rfl rfl (liS rfl) rfl (by decide) ⟨Nat.le_refl _, Nat.le_refl _⟩ (Nat.le_of_ble_eq_true rfl) ?_
      try simp only [up_same, up_up, up_ne, ne_eq, Nat.reduceEqDiff, not_false_eq_true, Int.reduceToNat, Int.toNat_natCast]
      refine wp_invS_i (n := 96) K dX12_nextToken_93 rfl cf_X12_107 (m_isDigit _ ⟨by omega, by omega⟩ _ _) rfl rfl (by decide) ⟨Nat.le_refl _, Nat.le_refl _⟩ (Nat.le_of_ble_eq_true rfl) ?_
      try simp only [up_same, up_up, up_ne, ne_eq, Nat.reduceEqDiff, not_false_eq_true, Int.reduceToNat, Int.toNat_natCast]
      refine wp_if_eq_b (n := 99) K dX12_nextToken_96 rfl (tgt := 390) (by decide) (fun c96 => ?_) (fun c96 => ?_)
      · have he : spn isDig (M 81) n s = q := by rw [← hsp]; exact spn_stop c96
        refine fin1 γ _ _ q g0 g8 g7 (by rw [htok, he]) ?_
        rw [htok, he]
        exact Or.inr (Or.inl ⟨rfl, g9, g10.1, g10.2.1, g10.2.2⟩)
      · have hst := spn_step hdg c96
        have hbq : bA (M 81) n q = M 81 q := if_pos hst.2
        have hdr := isDig_r c96
        have hdv : dgV (M 81) s (q + 1 - s) = min 10000 (10 * dgV (M 81) s (q - s) + (M 81 q - 48)) := by
          rw [show q + 1 - s = (q - s) + 1 by omega]
          show min 10000 (10 * dgV (M 81) s (q - s) + (M 81 (s + (q - s)) - 48)) = _
          rw [show s + (q - s) = q by omega]
        have nx : ∀ γ : Nat → Int, Oth M γ → γ 8 = (s : Int) → γ 7 = (q : Int) → γ 9 = 1 → (0 ≤ γ 10 ∧ γ 10 ≤ 1000010 ∧ ((γ 10 ≤ 9999 ∧ dgV (M 81) s (q + 1 - s) = γ 10) ∨ (9999 < γ 10 ∧ dgV (M 81) s (q + 1 - s) = 10000))) → Wp E1 X 131 [.ref 77, .int (z c), mkV] [] S (up M 77 γ) := by
          intro γ g0 g8 g7 g9 g10
          refine wp_aload_n (n := 132) K dX12_nextToken_131 rfl rfl ?_
          refine wp_dup (n := 133) K dX12_nextToken_132 rfl rfl ?_
          refine wp_getI (n := 136) K dX12_nextToken_133 rfl fl_X12_95 rfl (liS rfl) rfl ?_
          try simp only [up_same, up_up, up_ne, ne_eq, Nat.reduceEqDiff, not_false_eq_true, Int.reduceToNat, Int.toNat_natCast]
          refine wp_iconst (n := 137) K dX12_nextToken_136 rfl ?_
          refine wp_iadd (n := 138) K dX12_nextToken_137 rfl ?_
          refine wp_putI (n := 141) K dX12_nextToken_138 rfl fl_X12_95 rfl (liS rfl) (Or.inl rfl) rfl rfl ?_
          try simp only [up_same, up_up, up_ne, ne_eq, Nat.reduceEqDiff, not_false_eq_true, Int.reduceToNat, Int.toNat_natCast]
          refine wp_goto K dX12_nextToken_141 (tgt := 85) (by decide) ?_
          rw [g7]
          exact ih (q + 1) (by omega) (by omega) (by rw [← hst.1]; exact hsp) _ (g0.up (by decide) _) (by rw [up_ne _ _ (by decide)]; exact g8) (by rw [up_same]; omega) (by rw [up_ne _ _ (by decide)]; exact g9) (by rw [up_ne _ _ (by decide)]; exact g10)
        refine wp_aload_n (n := 100) K dX12_nextToken_99 rfl rfl ?_
        refine wp_getI (n := 103) K dX12_nextToken_100 rfl fl_X12_110 rfl (liS rfl) rfl ?_
        try simp only [up_same, up_up, up_ne, ne_eq, Nat.reduceEqDiff, not_false_eq_true, Int.reduceToNat, Int.toNat_natCast]
        refine wp_ldc (n := 105) K dX12_nextToken_103 rfl (100000) co_X12_113 ?_
        refine wp_icmp_ge (n := 108) K dX12_nextToken_105 rfl (tgt := 131) (by decide) ⟨by omega, by omega⟩ ⟨by omega, by omega⟩ (fun c105 => ?_) (fun c105 => ?_)
        · refine nx γ g0 g8 g7 g9 ?_
          rw [hdv]
          omega
        · refine wp_aload_n (n := 109) K dX12_nextToken_108 rfl rfl ?_
          refine wp_bipush (n := 111) K dX12_nextToken_109 rfl rfl ?_
          refine wp_aload_n (n := 112) K dX12_nextToken_111 rfl rfl ?_
          refine wp_getI (n := 115) K dX12_nextToken_112 rfl fl_X12_110 rfl (liS rfl) rfl ?_
          try simp only [up_same, up_up, up_ne, ne_eq, Nat.reduceEqDiff, not_false_eq_true, Int.reduceToNat, Int.toNat_natCast]
          refine wp_imul (n := 116) K dX12_nextToken_115 rfl ?_
          refine wp_aload_n (n := 117) K dX12_nextToken_116 rfl rfl ?_
          refine wp_aload_n (n := 118) K dX12_nextToken_117 rfl rfl ?_
          refine wp_getI (n := 121) K dX12_nextToken_118 rfl fl_X12_95 rfl (liS rfl) rfl ?_
          try simp only [up_same, up_up, up_ne, ne_eq, Nat.reduceEqDiff, not_false_eq_true, Int.reduceToNat, Int.toNat_natCast]
          rw [g7]
          refine wp_invV_i (n := 124) K dX12_nextToken_121 rfl cf_X12_98 (m_byteAt _ n (by omega) hn _ _ h4) rfl rfl rfl (liS rfl) rfl (by decide) ⟨Nat.le_refl _, Nat.le_refl _⟩ (Nat.le_of_ble_eq_true rfl) ?_
          try simp only [up_same, up_up, up_ne, ne_eq, Nat.reduceEqDiff, not_false_eq_true, Int.reduceToNat, Int.toNat_natCast]
          refine wp_iadd (n := 125) K dX12_nextToken_124 rfl ?_
          refine wp_bipush (n := 127) K dX12_nextToken_125 rfl rfl ?_
          refine wp_isub (n := 128) K dX12_nextToken_127 rfl ?_
          refine wp_putI (n := 131) K dX12_nextToken_128 rfl fl_X12_110 rfl (liS rfl) (Or.inl rfl) rfl rfl ?_
          try simp only [up_same, up_up, up_ne, ne_eq, Nat.reduceEqDiff, not_false_eq_true, Int.reduceToNat, Int.toNat_natCast]
          refine nx _ (g0.up (by decide) _) (by rw [up_ne _ _ (by decide)]; exact g8) (by rw [up_ne _ _ (by decide)]; exact g7) (by rw [up_ne _ _ (by decide)]; exact g9) ?_
          rw [up_same, hdv, hbq]
          rw [hbq] at hdr
          omega
  exact loop (n - s) s (by omega) (Nat.le_refl _) rfl _ ((b0.up (by decide) _).up (by decide) _) (by rw [up_ne _ _ (by decide), up_ne _ _ (by decide)]; exact b8) (by rw [up_ne _ _ (by decide), up_ne _ _ (by decide)]; exact b7) (by rw [up_ne _ _ (by decide), up_same]) (by rw [up_same, Nat.sub_self]; exact ⟨by decide, by decide, Or.inl ⟨by decide, rfl⟩⟩)
set_option maxHeartbeats 2000000 in
theorem m_nextToken (n p : Nat) (hn : n ≤ 300) (hp : p ≤ n) (S : ST) (M : MT) (h4 : M 77 4 = n) (h7 : M 77 7 = p) (hb : ∀ j, j < n → 0 ≤ M 81 j ∧ M 81 j ≤ 255) : Ct E1 yX12_nextToken cX12_nextToken 3 none rm_X12_nextToken [.ref 77] S M (Qn [77] S M (NT M n p)) := by
  have hbl : isBl (-1) = false := by decide
  have hdg : isDig (-1) = false := by decide
  have hlt : isLet (-1) = false := by decide
  refine Ct.mk [.ref 77, mkV, mkV] (by decide) rfl (Nat.le_of_ble_eq_true rfl) (fun X K => ?_)
  have eM : M = up M 77 (up (M 77) 7 (p : Int)) := by rw [← h7, up_self, up_self]
  have frame : ∀ (β : Nat → Int), ∀ a, a ∉ [77] → up M 77 β a = M a := fun β a ha => up_ne _ _ (fun e => ha (by rw [e]; decide))
  have br := fun p => bA_r (b := M 81) (n := n) hb p
  have skip : ∀ (d q : Nat), q + d = n → spn isBl (M 81) n q = spn isBl (M 81) n p → (∀ M1 : MT, M1 = up M 77 (up (M 77) 7 (spn isBl (M 81) n p : Int)) → Wp E1 X 39 [.ref 77, mkV, mkV] [] S M1) → Wp E1 X 0 [.ref 77, mkV, mkV] [] S (up M 77 (up (M 77) 7 (q : Int))) := by
    intro d
    induction d with
    | zero =>
      intro q hq hs k
      have hend : bA (M 81) n q = -1 := bA_neg (by omega)
      have hst : spn isBl (M 81) n q = q := spn_stop (by rw [hend]; exact hbl)
      have h4 : up M 77 (up (M 77) 7 (q : Int)) 77 4 = n := h4
      refine wp_aload_n (n := 1) K dX12_nextToken_0 rfl rfl ?_
      refine wp_aload_n (n := 2) K dX12_nextToken_1 rfl rfl ?_
      refine wp_getI (n := 5) K dX12_nextToken_2 rfl fl_X12_95 rfl (liS rfl) rfl ?_
      try simp only [up_same, up_up, up_ne, ne_eq, Nat.reduceEqDiff, not_false_eq_true, Int.reduceToNat, Int.toNat_natCast]
      refine wp_invV_i (n := 8) K dX12_nextToken_5 rfl cf_X12_98 (m_byteAt _ n (by omega) hn _ _ h4) rfl rfl rfl (liS rfl) rfl (by decide) ⟨Nat.le_refl _, Nat.le_refl _⟩ (Nat.le_of_ble_eq_true rfl) ?_
      try simp only [up_same, up_up, up_ne, ne_eq, Nat.reduceEqDiff, not_false_eq_true, Int.reduceToNat, Int.toNat_natCast]
      have := br q
      refine wp_bipush (n := 10) K dX12_nextToken_8 rfl rfl ?_
      refine wp_icmp_eq (n := 13) K dX12_nextToken_10 rfl (tgt := 26) (by decide) ⟨by omega, by omega⟩ ⟨by omega, by omega⟩ (fun c10 => ?_) (fun c10 => ?_)
      · rw [hend] at c10; omega
      refine wp_aload_n (n := 14) K dX12_nextToken_13 rfl rfl ?_
      refine wp_aload_n (n := 15) K dX12_nextToken_14 rfl rfl ?_
      refine wp_getI (n := 18) K dX12_nextToken_15 rfl fl_X12_95 rfl (liS rfl) rfl ?_
      try simp only [up_same, up_up, up_ne, ne_eq, Nat.reduceEqDiff, not_false_eq_true, Int.reduceToNat, Int.toNat_natCast]
      refine wp_invV_i (n := 21) K dX12_nextToken_18 rfl cf_X12_98 (m_byteAt _ n (by omega) hn _ _ h4) rfl rfl rfl (liS rfl) rfl (by decide) ⟨Nat.le_refl _, Nat.le_refl _⟩ (Nat.le_of_ble_eq_true rfl) ?_
      try simp only [up_same, up_up, up_ne, ne_eq, Nat.reduceEqDiff, not_false_eq_true, Int.reduceToNat, Int.toNat_natCast]
      refine wp_bipush (n := 23) K dX12_nextToken_21 rfl rfl ?_
      refine wp_icmp_ne (n := 26) K dX12_nextToken_23 rfl (tgt := 39) (by decide) ⟨by omega, by omega⟩ ⟨by omega, by omega⟩ (fun c23 => ?_) (fun c23 => ?_)
      · exact k _ (by rw [← hs, hst])
      · rw [hend] at c23; omega
    | succ d ih =>
      intro q hq hs k
      have h4 : up M 77 (up (M 77) 7 (q : Int)) 77 4 = n := h4
      have := br q
      have again : isBl (bA (M 81) n q) = true → Wp E1 X 26 [.ref 77, mkV, mkV] [] S (up M 77 (up (M 77) 7 (q : Int))) := by
        intro hb1
        have hs2 := spn_step hbl hb1
        refine wp_aload_n (n := 27) K dX12_nextToken_26 rfl rfl ?_
        refine wp_dup (n := 28) K dX12_nextToken_27 rfl rfl ?_
        refine wp_getI (n := 31) K dX12_nextToken_28 rfl fl_X12_95 rfl (liS rfl) rfl ?_
        try simp only [up_same, up_up, up_ne, ne_eq, Nat.reduceEqDiff, not_false_eq_true, Int.reduceToNat, Int.toNat_natCast]
        refine wp_iconst (n := 32) K dX12_nextToken_31 rfl ?_
        refine wp_iadd (n := 33) K dX12_nextToken_32 rfl ?_
        refine wp_putI (n := 36) K dX12_nextToken_33 rfl fl_X12_95 rfl (liS rfl) (Or.inl rfl) rfl rfl ?_
        try simp only [up_same, up_up, up_ne, ne_eq, Nat.reduceEqDiff, not_false_eq_true, Int.reduceToNat, Int.toNat_natCast]
        refine wp_goto K dX12_nextToken_36 (tgt := 0) (by decide) ?_
        rw [show (q : Int) + 1 = ((q + 1 : Nat) : Int) by omega]
        exact ih (q + 1) (by omega) (by rw [← hs2.1]; exact hs) k
      refine wp_aload_n (n := 1) K dX12_nextToken_0 rfl rfl ?_
      refine wp_aload_n (n := 2) K dX12_nextToken_1 rfl rfl ?_
      refine wp_getI (n := 5) K dX12_nextToken_2 rfl fl_X12_95 rfl (liS rfl) rfl ?_
      try simp only [up_same, up_up, up_ne, ne_eq, Nat.reduceEqDiff, not_false_eq_true, Int.reduceToNat, Int.toNat_natCast]
      refine wp_invV_i (n := 8) K dX12_nextToken_5 rfl cf_X12_98 (m_byteAt _ n (by omega) hn _ _ h4) rfl rfl rfl (liS rfl) rfl (by decide) ⟨Nat.le_refl _, Nat.le_refl _⟩ (Nat.le_of_ble_eq_true rfl) ?_
      try simp only [up_same, up_up, up_ne, ne_eq, Nat.reduceEqDiff, not_false_eq_true, Int.reduceToNat, Int.toNat_natCast]
      refine wp_bipush (n := 10) K dX12_nextToken_8 rfl rfl ?_
      refine wp_icmp_eq (n := 13) K dX12_nextToken_10 rfl (tgt := 26) (by decide) ⟨by omega, by omega⟩ ⟨by omega, by omega⟩ (fun c10 => ?_) (fun c10 => ?_)
      · exact again (by unfold isBl; rw [show bA (M 81) n q = 32 from c10]; decide)
      refine wp_aload_n (n := 14) K dX12_nextToken_13 rfl rfl ?_
      refine wp_aload_n (n := 15) K dX12_nextToken_14 rfl rfl ?_
      refine wp_getI (n := 18) K dX12_nextToken_15 rfl fl_X12_95 rfl (liS rfl) rfl ?_
      try simp only [up_same, up_up, up_ne, ne_eq, Nat.reduceEqDiff, not_false_eq_true, Int.reduceToNat, Int.toNat_natCast]
      refine wp_invV_i (n := 21) K dX12_nextToken_18 rfl cf_X12_98 (m_byteAt _ n (by omega) hn _ _ h4) rfl rfl rfl (liS rfl) rfl (by decide) ⟨Nat.le_refl _, Nat.le_refl _⟩ (Nat.le_of_ble_eq_true rfl) ?_
      try simp only [up_same, up_up, up_ne, ne_eq, Nat.reduceEqDiff, not_false_eq_true, Int.reduceToNat, Int.toNat_natCast]
      refine wp_bipush (n := 23) K dX12_nextToken_21 rfl rfl ?_
      refine wp_icmp_ne (n := 26) K dX12_nextToken_23 rfl (tgt := 39) (by decide) ⟨by omega, by omega⟩ ⟨by omega, by omega⟩ (fun c23 => ?_) (fun c23 => ?_)
      · have hst : spn isBl (M 81) n q = q := spn_stop (by unfold isBl; rw [decide_eq_false (show ¬ bA (M 81) n q = 32 from c10), decide_eq_false (show ¬ bA (M 81) n q = 10 from c23)]; rfl)
        exact k _ (by rw [← hs, hst])
      · exact again (by unfold isBl; rw [show bA (M 81) n q = 10 from c23]; decide)
  rw [eM]
  refine skip (n - p) p (by omega) rfl (fun M1 hM1 => ?_)
  subst hM1
  have hsr := spn_r (M 81) (q := isBl) (n := n) (p := p) hbl hp
  unfold NT tokAt at K
  generalize spn isBl (M 81) n p = s at *
  have hbs := br s
  -- the cells of the object, as far as they are told
  have fin1 : FIN X S M n s := by
    intro β l1 l2 e q1 q2 q3 q4 q5
    refine ret_qn K dX12_nextToken_390 rfl ?_ ?_ ⟨Nat.le_refl _, Nat.le_refl _⟩
    · exact frame β
    · exact ⟨q1, q2, by rw [← q4]; exact q3, q5⟩
  have h4' : ∀ β : Nat → Int, Oth M β → up M 77 β 77 4 = n := fun β q => by rw [up_same, q 4 (by decide) (by decide) (by decide) (by decide) (by decide)]; exact h4
  have h4 : up M 77 (up (up (M 77) 7 (s : Int)) 8 (s : Int)) 77 4 = n := h4
  refine wp_aload_n (n := 40) K dX12_nextToken_39 rfl rfl ?_
  refine wp_aload_n (n := 41) K dX12_nextToken_40 rfl rfl ?_
  refine wp_getI (n := 44) K dX12_nextToken_41 rfl fl_X12_95 rfl (liS rfl) rfl ?_
  try simp only [up_same, up_up, up_ne, ne_eq, Nat.reduceEqDiff, not_false_eq_true, Int.reduceToNat, Int.toNat_natCast]
  refine wp_putI (n := 47) K dX12_nextToken_44 rfl fl_X12_101 rfl (liS rfl) (Or.inl rfl) rfl rfl ?_
  try simp only [up_same, up_up, up_ne, ne_eq, Nat.reduceEqDiff, not_false_eq_true, Int.reduceToNat, Int.toNat_natCast]
  refine wp_aload_n (n := 48) K dX12_nextToken_47 rfl rfl ?_
  refine wp_aload_n (n := 49) K dX12_nextToken_48 rfl rfl ?_
  refine wp_getI (n := 52) K dX12_nextToken_49 rfl fl_X12_95 rfl (liS rfl) rfl ?_
  try simp only [up_same, up_up, up_ne, ne_eq, Nat.reduceEqDiff, not_false_eq_true, Int.reduceToNat, Int.toNat_natCast]
  refine wp_invV_i (n := 55) K dX12_nextToken_52 rfl cf_X12_98 (m_byteAt _ n (by omega) hn _ _ h4) rfl rfl rfl (liS rfl) rfl (by decide) ⟨Nat.le_refl _, Nat.le_refl _⟩ (Nat.le_of_ble_eq_true rfl) ?_
  try simp only [up_same, up_up, up_ne, ne_eq, Nat.reduceEqDiff, not_false_eq_true, Int.reduceToNat, Int.toNat_natCast]
  refine wp_istore_n (n := 56) K dX12_nextToken_55 rfl (by decide) ?_
  have b0 : Oth M (up (up (M 77) 7 (s : Int)) 8 (s : Int)) := fun j p1 p2 _ _ _ => by rw [up_ne _ _ p2, up_ne _ _ p1]
  have b7 : up (up (M 77) 7 (s : Int)) 8 (s : Int) 7 = s := by rw [up_ne _ _ (by decide), up_same]
  have b8 : up (up (M 77) 7 (s : Int)) 8 (s : Int) 8 = s := up_same _ _ _
  generalize up (up (M 77) 7 (s : Int)) 8 (s : Int) = β at *
  generalize hc : bA (M 81) n s = c at *
  refine wp_iload_n (n := 57) K dX12_nextToken_56 rfl rfl ?_
  refine wp_if_ge (n := 60) K dX12_nextToken_57 rfl (tgt := 68) (by decide) ⟨by omega, by omega⟩ (fun c57 => ?_) (fun c57 => ?_)
  rotate_left
  · refine wp_aload_n (n := 61) K dX12_nextToken_60 rfl rfl ?_
    refine wp_iconst (n := 62) K dX12_nextToken_61 rfl ?_
    refine wp_putI (n := 65) K dX12_nextToken_62 rfl fl_X12_104 rfl (liS rfl) (Or.inl rfl) rfl rfl ?_
    try simp only [up_same, up_up, up_ne, ne_eq, Nat.reduceEqDiff, not_false_eq_true, Int.reduceToNat, Int.toNat_natCast]
    refine wp_goto K dX12_nextToken_65 (tgt := 390) (by decide) ?_
    have htok : tokK (M 81) n s = (41, 0, s) := by unfold tokK; rw [hc]; dsimp only; rw [if_pos c57]
    refine fin1 _ _ _ s (b0.up (by decide) _) (by rw [up_ne _ _ (by decide)]; exact b8) (by rw [up_ne _ _ (by decide)]; exact b7) (by rw [htok]) ?_
    rw [htok, up_same]
    exact Or.inl ⟨rfl, rfl⟩
  have hsn : s < n := (bA_lt (b := M 81) (by rw [hc]; exact c57)).1
  refine wp_iload_n (n := 69) K dX12_nextToken_68 rfl rfl ?_
  refine wp_invS_i (n := 72) K dX12_nextToken_69 rfl cf_X12_107 (m_isDigit _ ⟨by omega, by omega⟩ _ _) rfl rfl (by decide) ⟨Nat.le_refl _, Nat.le_refl _⟩ (Nat.le_of_ble_eq_true rfl) ?_
  try simp only [up_same, up_up, up_ne, ne_eq, Nat.reduceEqDiff, not_false_eq_true, Int.reduceToNat, Int.toNat_natCast]
  refine wp_if_eq_b (n := 75) K dX12_nextToken_72 rfl (tgt := 144) (by decide) (fun c72 => ?_) (fun c72 => ?_)
  · refine wp_iload_n (n := 145) K dX12_nextToken_144 rfl rfl ?_
    refine wp_invS_i (n := 148) K dX12_nextToken_145 rfl cf_X12_114 (m_isLetter _ ⟨by omega, by omega⟩ _ _) rfl rfl (by decide) ⟨Nat.le_refl _, Nat.le_refl _⟩ (Nat.le_of_ble_eq_true rfl) ?_
    try simp only [up_same, up_up, up_ne, ne_eq, Nat.reduceEqDiff, not_false_eq_true, Int.reduceToNat, Int.toNat_natCast]
    refine wp_if_eq_b (n := 151) K dX12_nextToken_148 rfl (tgt := 245) (by decide) (fun c148 => ?_) (fun c148 => ?_)
    · exact nt_sign K hn hsn fin1 h4' br b0 b7 b8 hc c57 c72 c148
    · exact nt_word K hn hsn fin1 h4' br b0 b7 b8 hc c57 c72 c148
  · exact nt_num K hn hsn fin1 h4' br b0 b7 b8 hc c57 c72
