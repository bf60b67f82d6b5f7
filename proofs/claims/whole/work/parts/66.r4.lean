/-! BOTH: laws, first owners, drafts -/
theorem RX.th {σ τ : mS} {W H mp dn ln rw : Nat} (hR : RX σ τ W H mp dn ln rw) : RX σ (th0 τ) W H mp dn ln rw := hR.q QX.rf (th_q hR.2.2.1)
theorem p_law {σ τ : mS} {W H mp dn ln rw : Nat} (hR : RX σ τ W H mp dn ln rw) (year sl su is : Int32) : Pair kX7_law [mI year, mI sl, mI su, mI is] kX8_law [mI year, mI sl, mI su, mI is] σ τ := by
  obtain ⟨hS, hF, ht, hd, hj, hw⟩ := id hR
  obtain ⟨i1, i2, i3, i4, ⟨i5, i50⟩, i6, i7, i8, i9, i10⟩ := id hS.2.2.2.2
  by_cases hc : vp_in year 201 ∧ (0 ≤ sl ∧ sl ≤ 1) ∧ (0 ≤ su ∧ su ≤ 1) ∧ (0 ≤ is ∧ is ≤ 2) ∧ ln < 20
  · refine pair_c (W := W) (H := H) (mp := mp) (dn := dn) (ln := ln + 1) (rw := rw) (nI (ln + 1)) (ev_xlaw σ hS.2.2.1.1.1 i50 _ _ _ _ _ (fun q => absurd hc q) (fun _ => ⟨rfl, rfl⟩)) (ev_law τ _ _ _ _ i5 i50 _ (fun q => absurd hc q) (fun _ => ⟨rfl, rfl⟩)) ?_
    have h01 : ∀ v : Int32, 0 ≤ v ∧ v ≤ 1 → v = 0 ∨ v = 1 := by
      rintro v ⟨a, b⟩
      rw [Int32.le_iff_toInt_le] at a b
      have t2 : (1 : Int32).toInt = 1 := by decide
      have t0 : (0 : Int32).toInt = 0 := by decide
      rw [← Int32.toInt_inj, ← Int32.toInt_inj]
      omega
    have hy0 : 0 ≤ year := by
      have := hc.1
      rw [vp_in_iff] at this
      rw [Int32.le_iff_toInt_le]
      have t0 : (0 : Int32).toInt = 0 := by decide
      omega
    obtain ⟨l1, ⟨l2, l3, l4, l5⟩, l6⟩ := hS.2.2.1
    have e1 : lawX σ ln year sl su is 23 0 = upd (σ 23 0) (ln + 1) year := rfl
    have e2 : lawX σ ln year sl su is 24 0 = upd (σ 24 0) (ln + 1) sl := rfl
    have e3 : lawX σ ln year sl su is 25 0 = upd (σ 25 0) (ln + 1) su := rfl
    have e4 : lawX σ ln year sl su is 26 0 = upd (σ 26 0) (ln + 1) is := rfl
    have f1 : lawS (th0 τ) ln year sl su is 64 0 = upd (τ 64 0) ln year := rfl
    have f2 : lawS (th0 τ) ln year sl su is 65 0 = upd (τ 65 0) ln sl := rfl
    have f3 : lawS (th0 τ) ln year sl su is 66 0 = upd (τ 66 0) ln su := rfl
    have f4 : lawS (th0 τ) ln year sl su is 67 0 = upd (τ 67 0) ln is := rfl
    refine ⟨⟨hS.1, hS.2.1, ⟨⟨rfl, by omega⟩, ⟨?_, ?_, ?_, ?_⟩, fun i hi => ?_⟩, hS.2.2.2.1, ⟨i1, i2, i3, i4, ⟨rfl, by omega⟩, i6, i7, i8, i9, i10⟩⟩, hF, ht, hd, hj, hw⟩
    · rw [e1, upd_ne _ _ (by omega)]; exact l2
    · rw [e2, upd_ne _ _ (by omega)]; exact l3
    · rw [e3, upd_ne _ _ (by omega)]; exact l4
    · rw [e4, upd_ne _ _ (by omega)]; exact l5
    · rw [e1, e2, e3, e4, f1, f2, f3, f4]
      by_cases q : i = ln
      · subst q
        rw [upd_eq, upd_eq, upd_eq, upd_eq, upd_eq, upd_eq, upd_eq, upd_eq]
        exact ⟨rfl, hy0, rfl, rfl, rfl, h01 _ hc.2.1, h01 _ hc.2.2.1⟩
      · rw [upd_ne _ _ (show i + 1 ≠ ln + 1 by omega), upd_ne _ _ q, upd_ne _ _ (show i + 1 ≠ ln + 1 by omega), upd_ne _ _ q, upd_ne _ _ (show i + 1 ≠ ln + 1 by omega), upd_ne _ _ q, upd_ne _ _ (show i + 1 ≠ ln + 1 by omega), upd_ne _ _ q]
        exact l6 i (by omega)
  · exact pair_q hR (-1) (ev_xlaw σ hS.2.2.1.1.1 i50 _ _ _ _ _ (fun _ => ⟨rfl, QX.rf⟩) (fun q => absurd q hc)) (ev_law τ _ _ _ _ i5 i50 _ (fun _ => ⟨rfl, th_q ht⟩) (fun q => absurd q hc))
theorem box_emb {W H X Y X2 Y2 k : Nat} (hW0 : 0 < W) (hW1 : W ≤ 12) (hX2 : X2 < W) (hX : X ≤ X2) (hk : k < W * H) (P : Prop) : (True ∧ (X ≤ k % W ∧ k % W ≤ X2) ∧ Y ≤ k / W ∧ (k / W < Y2 + 1 ∨ (k / W = Y2 + 1 ∧ k % W < X))) ↔ inBox (emb W k) (12 * Y + X) (12 * Y2 + X2) := by
  have em := emb_mod hW0 hW1 k
  have hkm := Nat.mod_lt k hW0
  have m1 : (12 * Y + X) % 12 = X := by omega
  have m2 : (12 * Y + X) / 12 = Y := by omega
  have m3 : (12 * Y2 + X2) % 12 = X2 := by omega
  have m4 : (12 * Y2 + X2) / 12 = Y2 := by omega
  unfold inBox
  rw [em.1, em.2, m1, m2, m3, m4]
  constructor
  · rintro ⟨-, q1, q2, q3⟩
    exact ⟨q1, q2, by omega⟩
  · rintro ⟨q1, q2, q3⟩
    exact ⟨trivial, q1, q2, Or.inl (by omega)⟩
theorem p_own {σ τ : mS} {W H mp dn ln rw : Nat} (hR : RX σ τ W H mp dn ln rw) (x y x2 y2 o : Int32) : Pair kX7_own [mI x, mI y, mI x2, mI y2, mI o] kX8_own [mI x, mI y, mI x2, mI y2, mI o] σ τ := by
  obtain ⟨hS, hF, ht, hd, hj, hw⟩ := id hR
  obtain ⟨⟨a1, a2, a3⟩, ⟨b1, b2, b3⟩, ⟨c1, c2⟩, i4, i5, i6, i7, i8, i9, i10⟩ := id hS.2.2.2.2
  by_cases hc : boxP x y x2 y2 W H ∧ (-1 ≤ o ∧ o ≤ 9) ∧ mp ≤ 1
  · obtain ⟨⟨⟨d1, d2⟩, ⟨d3, d4⟩, d5, d6⟩, ho, hm1⟩ := id hc
    obtain ⟨X, hX, rfl⟩ := (vp_nI (by omega)).mp d1
    obtain ⟨Y, hY, rfl⟩ := (vp_nI (by omega)).mp d2
    obtain ⟨X2, hX2, rfl⟩ := (vp_nI (by omega)).mp d3
    obtain ⟨Y2, hY2, rfl⟩ := (vp_nI (by omega)).mp d4
    have hx := le_of_le d5 (by omega)
    have hy := le_of_le d6 (by omega)
    refine pair_c (W := W) (H := H) (mp := mp) (dn := dn) (ln := ln) (rw := rw) (σ' := mput σ 28 0 (bxF W X X2 Y (fun _ => True) o (σ 28 0) (Y2 + 1) X)) (τ' := mput (th0 τ) 56 0 (ownF (τ 56 0) (12 * Y + X) (12 * Y2 + X2) o 144)) 1 (ev_xown σ hS.1 hS.2.1.1.1 hS.2.1.1.2 _ _ _ _ _ _ (fun q => absurd hc q) (fun _ _ X' Y' X2' Y2' e1 e2 e3 e4 g1 g2 g3 g4 => ?_)) (ev_own τ _ _ _ _ _ a1 a2 a3 b1 b2 b3 c1 c2 _ (fun q => absurd hc q) (fun _ _ X' Y' X2' Y2' e1 e2 e3 e4 g1 g2 g3 g4 => ?_)) ?_
    · rw [eqX (n := 12) (by omega) (by omega) (by omega) e1.symm, eqX (n := 12) (by omega) (by omega) (by omega) e2.symm, eqX (n := 12) (by omega) (by omega) (by omega) e3.symm, eqX (n := 12) (by omega) (by omega) (by omega) e4.symm]; exact ⟨rfl, rfl⟩
    · rw [eqX (n := 12) (by omega) (by omega) (by omega) e1.symm, eqX (n := 12) (by omega) (by omega) (by omega) e2.symm, eqX (n := 12) (by omega) (by omega) (by omega) e3.symm, eqX (n := 12) (by omega) (by omega) (by omega) e4.symm]; exact ⟨rfl, rfl⟩
    · have ho2 := own_iff.mp ho
      refine ⟨⟨hS.1, hS.2.1, hS.2.2.1, hS.2.2.2.1, ⟨⟨a1, a2, a3⟩, ⟨b1, b2, b3⟩, ⟨c1, c2⟩, i4, i5, i6, i7, i8, i9, fun j hj => ?_⟩⟩, ⟨fun k hk => ?_, fun c hc' => ?_⟩, ht, hd, hj, hw⟩
      · show ownF (τ 56 0) (12 * Y + X) (12 * Y2 + X2) o 144 j = 0
        rw [show ownF (τ 56 0) (12 * Y + X) (12 * Y2 + X2) o 144 j = τ 56 0 j from ifp_f (by omega)]
        exact i10 j hj
      · show ifp _ o (σ 28 0 k) = ifp _ o (τ 56 0 (emb W k))
        rw [hF.1 k hk]
        refine ifp_c ?_
        rw [box_emb (H := H) a2 a3 hX2 hx hk True]
        exact ⟨fun q => ⟨emb_lt a2 a3 b3 hk, q⟩, fun q => q.2⟩
      · show ifp _ o (τ 56 0 c) = -1 ∨ 0 ≤ ifp _ o (τ 56 0 c)
        by_cases q : c < 144 ∧ inBox c (12 * Y + X) (12 * Y2 + X2)
        · rw [ifp_t q]
          exact ho2.elim Or.inl (fun r => Or.inr r.1)
        · rw [ifp_f q]; exact hF.2 c hc'
  · have bad : (-1 ≤ o ∧ o ≤ 9) → mp ≤ 1 → ∀ X Y X2 Y2, x = nI X → y = nI Y → x2 = nI X2 → y2 = nI Y2 → X ≤ X2 → X2 < W → Y ≤ Y2 → Y2 < H → False := fun p q X Y X2 Y2 e1 e2 e3 e4 g1 g2 g3 g4 => hc ⟨by
      rw [e1, e2, e3, e4]
      exact ⟨⟨vp_in_nI (by omega) (by omega), vp_in_nI (by omega) (by omega)⟩, ⟨vp_in_nI (by omega) (by omega), vp_in_nI (by omega) (by omega)⟩, nI_le g1 (by omega), nI_le g3 (by omega)⟩, p, q⟩
    exact pair_q hR 0 (ev_xown σ hS.1 hS.2.1.1.1 hS.2.1.1.2 _ _ _ _ _ _ (fun _ => ⟨rfl, QX.rf⟩) (fun p q X Y X2 Y2 e1 e2 e3 e4 g1 g2 g3 g4 => (bad p q X Y X2 Y2 e1 e2 e3 e4 g1 g2 g3 g4).elim)) (ev_own τ _ _ _ _ _ a1 a2 a3 b1 b2 b3 c1 c2 _ (fun _ => ⟨rfl, th_q ht⟩) (fun p q X Y X2 Y2 e1 e2 e3 e4 g1 g2 g3 g4 => (bad p q X Y X2 Y2 e1 e2 e3 e4 g1 g2 g3 g4).elim))
