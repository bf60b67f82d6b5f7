/-! BOTH: the questions -/
theorem eqX {a b n : Nat} (ha : a < n) (hb : b < n) (hn : n ≤ 1000) (h : nI a = nI b) : a = b := nI_inj (by omega) (by omega) h
theorem p_wet {σ τ : mS} {W H mp dn ln rw : Nat} (hR : RX σ τ W H mp dn ln rw) (x y year : Int32) : Pair kX7_wet [mI x, mI y, mI year] kX8_wet [mI x, mI y, mI year] σ τ := by
  have hS := hR.1
  obtain ⟨⟨i1, i2, i3⟩, ⟨i4, i5, i6⟩, ⟨i7, i8⟩, -, -, i9, -⟩ := id hS.2.2.2.2
  by_cases hc : (vp_in x W ∧ vp_in y H) ∧ vp_in year 201 ∧ 0 < mp
  · obtain ⟨X, hX, rfl⟩ := (vp_nI (by omega)).mp hc.1.1
    obtain ⟨Y, hY, rfl⟩ := (vp_nI (by omega)).mp hc.1.2
    refine pair_q hR (if τ 55 0 (144 * mapInF (τ 54 0) year mp + (12 * Y + X)) = 0 then 0 else 1) (ev_xwet σ τ hS _ _ _ _ (fun q => absurd hc q) (fun X' Y' a b c d _ _ => ?_)) (ev_wet τ _ _ _ i1 i2 i3 i4 i5 i6 i7 i8 i9 _ (fun q => absurd hc q) (fun X' Y' a b c d _ _ => ?_))
    · rw [eqX a hX (by omega) c.symm, eqX b hY (by omega) d.symm]; exact ⟨rfl, QX.rf⟩
    · rw [eqX a hX (by omega) c.symm, eqX b hY (by omega) d.symm]; exact ⟨rfl, th_q hR.2.2.1⟩
  · refine pair_q hR (-1) (ev_xwet σ τ hS _ _ _ _ (fun _ => ⟨rfl, QX.rf⟩) (fun X' Y' a b c d e f => absurd ⟨⟨?_, ?_⟩, e, f⟩ hc)) (ev_wet τ _ _ _ i1 i2 i3 i4 i5 i6 i7 i8 i9 _ (fun _ => ⟨rfl, th_q hR.2.2.1⟩) (fun X' Y' a b c d e f => absurd ⟨⟨?_, ?_⟩, e, f⟩ hc))
    · rw [c]; exact vp_in_nI a (by omega)
    · rw [d]; exact vp_in_nI b (by omega)
    · rw [c]; exact vp_in_nI a (by omega)
    · rw [d]; exact vp_in_nI b (by omega)
theorem p_owner {σ τ : mS} {W H mp dn ln rw : Nat} (hR : RX σ τ W H mp dn ln rw) (x y year : Int32) : Pair kX7_owner [mI x, mI y, mI year] kX8_owner [mI x, mI y, mI year] σ τ := by
  have hS := hR.1
  have hI := hS.2.2.2.2
  have hW1 := hS.1.1.2.2
  have hH1 := hS.1.2.1.2.2
  by_cases hc : (vp_in x W ∧ vp_in y H) ∧ vp_in year 201 ∧ 0 < mp
  · obtain ⟨X, hX, rfl⟩ := (vp_nI (by omega)).mp hc.1.1
    obtain ⟨Y, hY, rfl⟩ := (vp_nI (by omega)).mp hc.1.2
    obtain ⟨yr, hyr, rfl⟩ := yr_of hc.2.1
    refine pair_q hR (upO τ W H mp dn ln (-1) (yr + 1) (12 * Y + X)) (ev_xowner σ τ hS hR.2.1 _ _ _ _ (fun q => absurd hc q) (fun X' Y' y' a b e c d f _ s hs => ?_)) (ev_owner τ hI hR.2.2.1 _ _ _ _ (fun q => absurd hc q) (fun X' Y' y' a b e c d f _ s hs => ?_))
    · rw [eqX a hX (by omega) c.symm, eqX b hY (by omega) d.symm, eqX (n := 201) (by omega) (by omega) (by omega) f.symm]; exact ⟨rfl, hs⟩
    · rw [eqX a hX (by omega) c.symm, eqX b hY (by omega) d.symm, eqX (n := 201) (by omega) (by omega) (by omega) f.symm]; exact ⟨rfl, ask_q hs⟩
  · have bad : ∀ X' Y' y', X' < W → Y' < H → y' ≤ 200 → x = nI X' → y = nI Y' → year = nI y' → 0 < mp → False := fun X' Y' y' a b e c d f g => hc ⟨⟨by rw [c]; exact vp_in_nI a (by omega), by rw [d]; exact vp_in_nI b (by omega)⟩, by rw [f]; exact vp_in_nI (by omega) (by omega), g⟩
    exact pair_q hR (-2) (ev_xowner σ τ hS hR.2.1 _ _ _ _ (fun _ => ⟨rfl, QX.rf⟩) (fun X' Y' y' a b e c d f g s hs => (bad X' Y' y' a b e c d f g).elim)) (ev_owner τ hI hR.2.2.1 _ _ _ _ (fun _ => ⟨rfl, th_q hR.2.2.1⟩) (fun X' Y' y' a b e c d f g s hs => (bad X' Y' y' a b e c d f g).elim))
theorem p_area {σ τ : mS} {W H mp dn ln rw : Nat} (hR : RX σ τ W H mp dn ln rw) (o year : Int32) : Pair kX7_area [mI o, mI year] kX8_area [mI o, mI year] σ τ := by
  have hS := hR.1
  have hI := hS.2.2.2.2
  by_cases hc : askP o year mp
  · obtain ⟨yr, hyr, rfl⟩ := yr_of hc.2.1
    refine pair_q hR (areaF τ W H mp dn ln o yr) (ev_xarea σ τ hS hR.2.1 _ _ _ (fun q => absurd hc q) (fun y' a b _ s hs => ?_)) (ev_area τ hI hR.2.2.1 _ _ _ (fun q => absurd hc q) (fun y' a b _ s hs => ?_))
    · rw [eqX (n := 201) (by omega) (by omega) (by omega) b.symm]; exact ⟨rfl, hs⟩
    · rw [eqX (n := 201) (by omega) (by omega) (by omega) b.symm]; exact ⟨rfl, ask_q hs⟩
  · exact pair_q hR (-2) (ev_xarea σ τ hS hR.2.1 _ _ _ (fun _ => ⟨rfl, QX.rf⟩) (fun y' a b q s hs => absurd q hc)) (ev_area τ hI hR.2.2.1 _ _ _ (fun _ => ⟨rfl, th_q hR.2.2.1⟩) (fun y' a b q s hs => absurd q hc))
theorem p_front {σ τ : mS} {W H mp dn ln rw : Nat} (hR : RX σ τ W H mp dn ln rw) (o year : Int32) : Pair kX7_front [mI o, mI year] kX8_front [mI o, mI year] σ τ := by
  have hS := hR.1
  have hI := hS.2.2.2.2
  by_cases hc : askP o year mp
  · obtain ⟨yr, hyr, rfl⟩ := yr_of hc.2.1
    refine pair_q hR (frontF τ W H mp dn ln o yr) (ev_xfront σ τ hS hR.2.1 _ _ _ (fun q => absurd hc q) (fun y' a b _ s hs => ?_)) (ev_front τ hI hR.2.2.1 _ _ _ (fun q => absurd hc q) (fun y' a b _ s hs => ?_))
    · rw [eqX (n := 201) (by omega) (by omega) (by omega) b.symm]; exact ⟨rfl, hs⟩
    · rw [eqX (n := 201) (by omega) (by omega) (by omega) b.symm]; exact ⟨rfl, ask_q hs⟩
  · exact pair_q hR (-2) (ev_xfront σ τ hS hR.2.1 _ _ _ (fun _ => ⟨rfl, QX.rf⟩) (fun y' a b q s hs => absurd q hc)) (ev_front τ hI hR.2.2.1 _ _ _ (fun _ => ⟨rfl, th_q hR.2.2.1⟩) (fun y' a b q s hs => absurd q hc))
theorem p_tax {σ τ : mS} {W H mp dn ln rw : Nat} (hR : RX σ τ W H mp dn ln rw) (o a b : Int32) : Pair kX7_tax [mI o, mI a, mI b] kX8_tax [mI o, mI a, mI b] σ τ := by
  have hS := hR.1
  have hI := hS.2.2.2.2
  by_cases hc : askP o a mp ∧ vp_in b 201 ∧ a ≤ b
  · obtain ⟨A, hA, rfl⟩ := yr_of hc.1.2.1
    obtain ⟨B, hB, rfl⟩ := yr_of hc.2.1
    refine pair_q hR (taxF τ W H mp dn ln o A (B + 1)) (ev_xtax σ τ hS hR.2.1 _ _ _ _ (fun q => absurd hc q) (fun A' B' p q r u _ s hs => ?_)) (ev_tax τ hI hR.2.2.1 _ _ _ _ (fun q => absurd hc q) (fun A' B' p q r u _ s hs => ?_))
    · rw [eqX (n := 201) (by omega) (by omega) (by omega) r.symm, eqX (n := 201) (by omega) (by omega) (by omega) u.symm]; exact ⟨rfl, hs⟩
    · rw [eqX (n := 201) (by omega) (by omega) (by omega) r.symm, eqX (n := 201) (by omega) (by omega) (by omega) u.symm]; exact ⟨rfl, ask_q hs⟩
  · have bad : ∀ A' B', A' ≤ B' → B' ≤ 200 → a = nI A' → b = nI B' → askP o a mp → False := fun A' B' p q r u w => hc ⟨w, by rw [u]; exact vp_in_nI (by omega) (by omega), by rw [r, u]; exact nI_le p (by omega)⟩
    exact pair_q hR (-2) (ev_xtax σ τ hS hR.2.1 _ _ _ _ (fun _ => ⟨rfl, QX.rf⟩) (fun A' B' p q r u w s hs => (bad A' B' p q r u w).elim)) (ev_tax τ hI hR.2.2.1 _ _ _ _ (fun _ => ⟨rfl, th_q hR.2.2.1⟩) (fun A' B' p q r u w s hs => (bad A' B' p q r u w).elim))
theorem p_banks {σ τ : mS} {W H mp dn ln rw : Nat} (hR : RX σ τ W H mp dn ln rw) (year : Int32) : Pair kX7_banks [mI year] kX8_banks [mI year] σ τ := by
  have hS := hR.1
  have hI := hS.2.2.2.2
  by_cases hc : vp_in year 201 ∧ 0 < mp
  · refine pair_q hR (ptL (dryP W H (wtr τ (mapInF (τ 54 0) year mp))) 144) (ev_xbanks σ τ hS _ _ (fun q => absurd hc q) (fun y' a b _ s hs => ⟨rfl, hs⟩)) (ev_banks τ hI _ _ (fun q => absurd hc q) (fun y' a b _ f => ⟨rfl, ?_⟩))
    exact (th_q hR.2.2.1).tr (QM.put f (by decide) hR.2.2.1)
  · have bad : ∀ y', y' ≤ 200 → year = nI y' → 0 < mp → False := fun y' a b c => hc ⟨by rw [b]; exact vp_in_nI (by omega) (by omega), c⟩
    exact pair_q hR (-1) (ev_xbanks σ τ hS _ _ (fun _ => ⟨rfl, QX.rf⟩) (fun y' a b c s hs => (bad y' a b c).elim)) (ev_banks τ hI _ _ (fun _ => ⟨rfl, th_q hR.2.2.1⟩) (fun y' a b c f => (bad y' a b c).elim))
theorem p_doubt {σ τ : mS} {W H mp dn ln rw : Nat} (hR : RX σ τ W H mp dn ln rw) (st year : Int32) : Pair kX7_doubt [mI st, mI year] kX8_doubt [mI st, mI year] σ τ := by
  have hS := hR.1
  have hI := hS.2.2.2.2
  have hmp := hS.2.1.1.2
  by_cases hc : stepP st mp ∧ vp_in year 201
  · obtain ⟨⟨m, hm0, hm, rfl⟩, hy⟩ := id hc
    obtain ⟨yr, hyr, rfl⟩ := yr_of hy
    refine pair_q hR (unF τ W H mp dn ln m yr) (ev_xdoubt σ τ hS hR.2.1 _ _ _ (fun q => absurd hc q) (fun m' y' a b c d e s hs => ?_)) (ev_doubt τ hI hR.2.2.1 _ _ _ (fun q => absurd hc q) (fun m' y' a b c d e s hs => ?_))
    · rw [eqX (n := 10) (by omega) (by omega) (by omega) c.symm, eqX (n := 201) (by omega) (by omega) (by omega) e.symm]; exact ⟨rfl, hs⟩
    · rw [eqX (n := 10) (by omega) (by omega) (by omega) c.symm, eqX (n := 201) (by omega) (by omega) (by omega) e.symm]; exact ⟨rfl, hs⟩
  · have bad : ∀ m' y', 0 < m' → m' < mp → st = nI m' → y' ≤ 200 → year = nI y' → False := fun m' y' a b c d e => hc ⟨⟨m', a, b, c⟩, by rw [e]; exact vp_in_nI (by omega) (by omega)⟩
    exact pair_q hR (-1) (ev_xdoubt σ τ hS hR.2.1 _ _ _ (fun _ => ⟨rfl, QX.rf⟩) (fun m' y' a b c d e s hs => (bad m' y' a b c d e).elim)) (ev_doubt τ hI hR.2.2.1 _ _ _ (fun _ => ⟨rfl, th_q hR.2.2.1⟩) (fun m' y' a b c d e s hs => (bad m' y' a b c d e).elim))
theorem p_weak {σ τ : mS} {W H mp dn ln rw : Nat} (hR : RX σ τ W H mp dn ln rw) (year : Int32) : Pair kX7_weak [mI year] kX8_weak [mI year] σ τ := by
  have hS := hR.1
  have hI := hS.2.2.2.2
  by_cases hc : vp_in year 201
  · obtain ⟨yr, hyr, rfl⟩ := yr_of hc
    refine pair_q hR (oI (wkF (τ 69 0) (fun m => unF τ W H mp dn ln m yr) mp).1) (ev_xweak σ τ hS hR.2.1 _ _ (fun q => absurd hc q) (fun y' d e s hs => ?_)) (ev_weak τ hI hR.2.2.1 _ _ (fun q => absurd hc q) (fun y' d e s hs => ?_))
    · rw [eqX (n := 201) (by omega) (by omega) (by omega) e.symm]; exact ⟨rfl, hs⟩
    · rw [eqX (n := 201) (by omega) (by omega) (by omega) e.symm]; exact ⟨rfl, hs⟩
  · have bad : ∀ y', y' ≤ 200 → year = nI y' → False := fun y' d e => hc (by rw [e]; exact vp_in_nI (by omega) (by omega))
    exact pair_q hR (-1) (ev_xweak σ τ hS hR.2.1 _ _ (fun _ => ⟨rfl, QX.rf⟩) (fun y' d e s hs => (bad y' d e).elim)) (ev_weak τ hI hR.2.2.1 _ _ (fun _ => ⟨rfl, th_q hR.2.2.1⟩) (fun y' d e s hs => (bad y' d e).elim))
theorem p_step {σ τ : mS} {W H mp dn ln rw : Nat} (hR : RX σ τ W H mp dn ln rw) (st w : Int32) : Pair kX7_step [mI st, mI w] kX8_step [mI st, mI w] σ τ := by
  have hS := hR.1
  have hI := hS.2.2.2.2
  have hmp := hS.2.1.1.2
  have hMY := mi_my hI
  by_cases hc : stepP st mp ∧ vp_in w 8
  · obtain ⟨⟨m, hm0, hm, rfl⟩, hw⟩ := id hc
    obtain ⟨j, hj, rfl⟩ := (vp_nI (by omega)).mp hw
    refine pair_q hR (stV τ W H mp dn ln m (ysF τ m) j) (ev_xstep σ τ hS hR.2.1 _ _ _ (fun q => absurd hc q) (fun m' j' a b c d e s hs => ?_)) (ev_step τ hI hR.2.2.1 _ _ _ (fun q => absurd hc q) (fun m' y' j' a b c y1 y2 y3 d e s hs => ?_))
    · rw [eqX (n := 10) (by omega) (by omega) (by omega) c.symm, eqX (n := 8) (by omega) (by omega) (by omega) e.symm]; exact ⟨rfl, hs⟩
    · have em := eqX (n := 10) (a := m') (b := m) (by omega) (by omega) (by omega) c.symm
      subst em
      have ey : y' = ysF τ m' := eqX (n := 201) (by omega) (by have := (hMY.1 m' b).2; omega) (by omega) (y1.symm.trans (hMY.1 m' b).1)
      rw [ey, eqX (n := 8) (by omega) (by omega) (by omega) e.symm]; exact ⟨rfl, hs⟩
  · have bad : ∀ m' j', 0 < m' → m' < mp → st = nI m' → j' < 8 → w = nI j' → False := fun m' j' a b c d e => hc ⟨⟨m', a, b, c⟩, by rw [e]; exact vp_in_nI d (by omega)⟩
    exact pair_q hR (-1) (ev_xstep σ τ hS hR.2.1 _ _ _ (fun _ => ⟨rfl, QX.rf⟩) (fun m' j' a b c d e s hs => (bad m' j' a b c d e).elim)) (ev_step τ hI hR.2.2.1 _ _ _ (fun _ => ⟨rfl, th_q hR.2.2.1⟩) (fun m' y' j' a b c y1 y2 y3 d e s hs => (bad m' j' a b c d e).elim))
