/-! CLASS: a cell's owners in a row -/
theorem ch_s (o : Nat → Int32) (y0 : Nat) (row : Nat → Int32) (n : Nat) : chF o y0 row (n + 1) = if n = y0 ∨ (y0 < n ∧ ¬ o n = (chF o y0 row n).2 ((chF o y0 row n).1 - 2)) then ((chF o y0 row n).1 + 2, upd (upd (chF o y0 row n).2 (chF o y0 row n).1 (o n)) ((chF o y0 row n).1 + 1) (nI n)) else chF o y0 row n := rfl
theorem ch_0 (o : Nat → Int32) (y0 : Nat) (row : Nat → Int32) : ∀ n, n ≤ y0 → chF o y0 row n = (0, row)
  | 0, _ => rfl
  | n + 1, h => by
    rw [ch_s, if_neg (by omega)]
    exact ch_0 o y0 row n (by omega)
theorem ch_1 (o : Nat → Int32) (y0 : Nat) (row : Nat → Int32) : chF o y0 row (y0 + 1) = (2, upd (upd row 0 (o y0)) 1 (nI y0)) := by
  rw [ch_s, if_pos (Or.inl rfl), ch_0 o y0 row y0 (Nat.le_refl _)]
theorem ch_last (o : Nat → Int32) (y0 : Nat) (row : Nat → Int32) : ∀ n, y0 < n → (chF o y0 row n).2 ((chF o y0 row n).1 - 2) = o (n - 1)
  | 0, h => absurd h (by omega)
  | n + 1, h => by
    rw [ch_s]
    by_cases hc : n = y0 ∨ (y0 < n ∧ ¬ o n = (chF o y0 row n).2 ((chF o y0 row n).1 - 2))
    · rw [if_pos hc]
      show upd (upd (chF o y0 row n).2 (chF o y0 row n).1 (o n)) ((chF o y0 row n).1 + 1) (nI n) ((chF o y0 row n).1 + 2 - 2) = o (n + 1 - 1)
      rw [show (chF o y0 row n).1 + 2 - 2 = (chF o y0 row n).1 by omega, upd_ne _ _ (by omega), upd_eq]
      rfl
    · rw [if_neg hc]
      have h1 : y0 < n := by omega
      have : o n = (chF o y0 row n).2 ((chF o y0 row n).1 - 2) := Classical.not_not.mp (fun q => hc (Or.inr ⟨h1, q⟩))
      rw [← this]
      rfl
/-- the row does not hang on what was there -/
theorem ch_base (o : Nat → Int32) (y0 : Nat) (r r' : Nat → Int32) : ∀ n, (chF o y0 r n).1 = (chF o y0 r' n).1 ∧ ∀ j, j < (chF o y0 r n).1 → (chF o y0 r n).2 j = (chF o y0 r' n).2 j
  | 0 => ⟨rfl, fun j h => absurd h (Nat.not_lt_zero j)⟩
  | n + 1 => by
    obtain ⟨i1, i2⟩ := ch_base o y0 r r' n
    have hl := chF_len o y0 r n
    have hiff : (n = y0 ∨ (y0 < n ∧ ¬ o n = (chF o y0 r n).2 ((chF o y0 r n).1 - 2))) ↔ (n = y0 ∨ (y0 < n ∧ ¬ o n = (chF o y0 r' n).2 ((chF o y0 r' n).1 - 2))) := by
      rw [← i1]
      constructor
      · rintro (q | ⟨q, w⟩)
        · exact Or.inl q
        · exact Or.inr ⟨q, by rw [← i2 _ (by have := hl.2.1 q; omega)]; exact w⟩
      · rintro (q | ⟨q, w⟩)
        · exact Or.inl q
        · exact Or.inr ⟨q, by rw [i2 _ (by have := hl.2.1 q; omega)]; exact w⟩
    rw [ch_s, ch_s]
    by_cases hc : n = y0 ∨ (y0 < n ∧ ¬ o n = (chF o y0 r n).2 ((chF o y0 r n).1 - 2))
    · rw [if_pos hc, if_pos (hiff.mp hc), ← i1]
      refine ⟨rfl, fun j hj => ?_⟩
      have hj : j < (chF o y0 r n).1 + 2 := hj
      show upd (upd (chF o y0 r n).2 (chF o y0 r n).1 (o n)) ((chF o y0 r n).1 + 1) (nI n) j = upd (upd (chF o y0 r' n).2 (chF o y0 r n).1 (o n)) ((chF o y0 r n).1 + 1) (nI n) j
      by_cases h1 : j = (chF o y0 r n).1 + 1
      · rw [h1, upd_eq, upd_eq]
      · rw [upd_ne _ _ h1, upd_ne _ _ h1]
        by_cases h2 : j = (chF o y0 r n).1
        · rw [h2, upd_eq, upd_eq]
        · rw [upd_ne _ _ h2, upd_ne _ _ h2]
          exact i2 j (by omega)
    · rw [if_neg hc, if_neg (fun q => hc (hiff.mpr q))]
      exact ⟨i1, i2⟩
def tellS (σ : mS) (rw : Nat) (o year : Int32) : mS := mput (mput σ 31 0 (upd (upd (σ 31 0) rw o) (rw + 1) year)) 0 0 (upd (σ 0 0) 7 (nI (rw + 2)))
theorem ev_tell (σ : mS) (o year : Int32) {rw : Nat} (h : σ 0 0 7 = nI rw) (h1 : rw + 2 ≤ 80) : Ev kX7_tell [xX, mI o, mI year] σ (fun r s => r = none ∧ s = tellS σ rw o year) := by
  refine Ev.intro fun G hG => hG.run ?_
  have e2 : σ 0 0 7 + 2 = nI (rw + 2) := by rw [h]; exact nI_add rw 2
  have e1 : σ 0 0 7 + 1 = nI (rw + 1) := by rw [h, nI_1]
  have ec : (σ 0 0 7).toNatClampNeg = rw := by rw [h]; exact nI_cl (by omega)
  have ec1 : (σ 0 0 7 + 1).toNatClampNeg = rw + 1 := by rw [e1]; exact nI_cl (by omega)
  refine br_f ?_ ?_
  · show ¬ nI 80 < σ 0 0 7 + 2
    rw [e2]; exact nI_nlt (by omega) (by omega)
  · refine And.intro (show vp_in (σ 0 0 7) 80 by rw [h]; exact vp_in_nI (by omega) (by omega)) (And.intro (show vp_in (σ 0 0 7 + 1) 80 by rw [e1]; exact vp_in_nI (by omega) (by omega)) ?_)
    refine ⟨rfl, ?_⟩
    show mput (mput (mput σ 31 0 (upd (σ 31 0) (σ 0 0 7).toNatClampNeg o)) 31 0 (upd (upd (σ 31 0) (σ 0 0 7).toNatClampNeg o) (σ 0 0 7 + 1).toNatClampNeg year)) 0 0 (upd (σ 0 0) 7 (σ 0 0 7 + 2)) = _
    rw [ec, ec1, e2, mput_mput]
    rfl
def CX (σ s : mS) : Prop := ∀ g i, g ≠ 0 → g ≠ 4 → g ≠ 5 → g ≠ 6 → g ≠ 27 → g ≠ 29 → g ≠ 30 → g ≠ 31 → s g i = σ g i
theorem RE.tell {β τ s : mS} {W H mp dn ln Y : Nat} {ct : Int32} (f g : Nat → Int32) (h : RE β τ W H mp dn ln ct Y s) : RE (mput (mput β 31 0 f) 0 0 g) τ W H mp dn ln ct Y (mput (mput s 31 0 f) 0 0 g) := by
  obtain ⟨y, mn, dd, h1, hMid, ⟨hFQ, h30, h27, hO, hov⟩, hmap, g1, g2⟩ := h
  refine ⟨y, mn, dd, h1, hMid, ⟨fun g' i a b c => ?_, h30, h27, hO, hov⟩, hmap, g1, g2⟩
  unfold mput
  split
  · rfl
  · split
    · rfl
    · exact hFQ g' i a b c
theorem RE.at {β τ s : mS} {W H mp dn ln Y : Nat} {ct : Int32} (h : RE β τ W H mp dn ln ct Y s) : OR W (W * H) (s 29 0) (upO τ W H mp dn ln ct (Y + 1)) ∧ (s 27 0 7).toNatClampNeg < mp ∧ (s 27 0 8).toNatClampNeg ≤ dn ∨ 2 ^ 31 ≤ mp ∨ 2 ^ 31 ≤ dn := by
  obtain ⟨y, mn, dd, h1, hMid, ⟨hFQ, h30, ⟨e7, e8, -⟩, hO, hov⟩, hmap, g1, g2⟩ := h
  by_cases hm : mp < 2 ^ 31
  · by_cases hd : dn < 2 ^ 31
    · left
      have a := hMid.1.2.1
      have b := hMid.1.2.2
      rw [e7, e8, nI_cl (by omega), nI_cl (by omega)]
      exact ⟨hO, a, b⟩
    · omega
  · omega
