/-! BOTH: what is told -/
theorem pair_c {kx km : Nat} {ax am : List mV} {σ τ σ' τ' : mS} {W H mp dn ln rw : Nat} (v : Int32) (h1 : Ev kx (xX :: ax) σ (fun r s => r = some (mI v) ∧ s = σ')) (h2 : Ev km (mM :: am) τ (fun r t => r = some (mI v) ∧ t = τ')) (hR : RX σ' τ' W H mp dn ln rw) : Pair kx ax km am σ τ :=
  ⟨v, fun s => s = σ', fun t => t = τ', h1, h2, fun s t a b => by subst a; subst b; exact ⟨W, H, mp, dn, ln, rw, hR⟩⟩
theorem p_reach {σ τ : mS} {W H mp dn ln rw : Nat} (hR : RX σ τ W H mp dn ln rw) (v : Int32) : Pair kX7_reach [mI v] kX8_reach [mI v] σ τ := by
  obtain ⟨hS, hF, ht, hd, hj, hw⟩ := id hR
  by_cases hc : 1 ≤ v ∧ v ≤ 12
  · refine pair_c (W := W) (H := H) (mp := mp) (dn := dn) (ln := ln) (rw := rw) (σ 7 0 5) (ev_xreach σ v _ (fun q => absurd hc q) (fun _ => ⟨rfl, rfl⟩)) (ev_reach τ v _ (fun q => absurd hc q) (fun _ => ⟨by rw [hS.2.1.2.1], rfl⟩)) ?_
    exact ⟨⟨hS.1, ⟨hS.2.1.1, rfl, hS.2.1.2.2⟩, hS.2.2.1, hS.2.2.2.1, hS.2.2.2.2⟩, hF, ht, hd, hj, hw⟩
  · exact pair_q hR (-1) (ev_xreach σ v _ (fun _ => ⟨rfl, QX.rf⟩) (fun q => absurd q hc)) (ev_reach τ v _ (fun _ => ⟨rfl, th_q ht⟩) (fun q => absurd q hc))
theorem p_count {σ τ : mS} {W H mp dn ln rw : Nat} (hR : RX σ τ W H mp dn ln rw) (w : Int32) : Pair kX7_count [mI w] kX8_count [mI w] σ τ := by
  obtain ⟨hS, hF, ht, hd, hj, hw⟩ := id hR
  obtain ⟨⟨i1, -, -⟩, ⟨i2, -, -⟩, ⟨i3, -⟩, ⟨i4, i40⟩, ⟨i5, -⟩, -⟩ := id hS.2.2.2.2
  by_cases hc : vp_in w 8
  · obtain ⟨j, hj8, rfl⟩ := (vp_nI (by omega)).mp hc
    have e : cntX σ j = cntV τ (bindN (τ 62 0) dn) j := by
      match j, hj8 with
      | 0, _ => exact hS.1.1.1.trans i1.symm
      | 1, _ => exact hS.1.2.1.1.trans i2.symm
      | 2, _ => exact hS.2.1.1.1.trans i3.symm
      | 3, _ => exact hS.2.2.2.1.1.1.trans i4.symm
      | 4, _ =>
        show bindN (σ 20 0) (σ 13 0 0).toNatClampNeg = bindN (τ 62 0) dn
        rw [hS.2.2.2.1.1.1, nI_cl (by omega)]
        refine fo_cong fun d hdn x => ?_
        obtain ⟨L, T, R, B, y, -, -, -, -, -, u⟩ := hS.2.2.2.1.2.1 d hdn
        rw [u]
      | 5, _ => exact hS.2.2.1.1.1.trans i5.symm
      | 6, _ => exact hS.2.1.2.1
      | 7, _ => exact hw.2.1.trans hw.2.2.1.symm
      | j + 8, h => exact absurd h (by omega)
    refine pair_q hR (cntX σ j) (ev_xcount σ _ hS.2.2.2.1.1.1 hS.2.2.2.1.1.2 _ (fun q => absurd hc q) (fun j' a b => ?_)) (ev_count τ _ i4 i40 _ (fun q => absurd hc q) (fun j' a b => ?_))
    · rw [eqX (n := 8) a hj8 (by omega) b.symm]; exact ⟨rfl, QX.rf⟩
    · rw [eqX (n := 8) a hj8 (by omega) b.symm, e]; exact ⟨rfl, th_q ht⟩
  · have bad : ∀ j', j' < 8 → w = nI j' → False := fun j' a b => hc (by rw [b]; exact vp_in_nI a (by omega))
    exact pair_q hR (-1) (ev_xcount σ _ hS.2.2.2.1.1.1 hS.2.2.2.1.1.2 _ (fun _ => ⟨rfl, QX.rf⟩) (fun j' a b => (bad j' a b).elim)) (ev_count τ _ i4 i40 _ (fun _ => ⟨rfl, th_q ht⟩) (fun j' a b => (bad j' a b).elim))
theorem p_judge {σ τ : mS} {W H mp dn ln rw : Nat} (hR : RX σ τ W H mp dn ln rw) (st how : Int32) : Pair kX7_judge [mI st, mI how] kX8_judge [mI st, mI how] σ τ := by
  obtain ⟨hS, hF, ht, hd, hj, hw⟩ := id hR
  obtain ⟨-, -, ⟨i3, i30⟩, -⟩ := id hS.2.2.2.2
  by_cases hc : stepP st mp ∧ (-1 ≤ how ∧ how ≤ 1)
  · obtain ⟨⟨m, hm0, hm, rfl⟩, h1, h2⟩ := id hc
    refine pair_c (W := W) (H := H) (mp := mp) (dn := dn) (ln := ln) (rw := rw) (σ' := mput σ 10 m (upd (σ 10 m) 6 how)) (τ' := mput (th0 τ) 69 0 (upd (τ 69 0) m how)) 1 (ev_xjudge σ hS.2.1.1.1 hS.2.1.1.2 _ _ _ (fun q => absurd hc q) (fun j a b c d => ?_)) (ev_judge τ _ _ i3 i30 _ (fun q => absurd hc q) (fun j a b c d => ?_)) ?_
    · rw [eqX (n := 10) (by omega) (by omega) (by omega) c.symm]; exact ⟨rfl, rfl⟩
    · rw [eqX (n := 10) (by omega) (by omega) (by omega) c.symm]; exact ⟨rfl, rfl⟩
    · have hh : how = -1 ∨ how = 0 ∨ how = 1 := by
        rw [Int32.le_iff_toInt_le] at h1 h2
        have t1 : (-1 : Int32).toInt = -1 := by decide
        have t2 : (1 : Int32).toInt = 1 := by decide
        have t0 : (0 : Int32).toInt = 0 := by decide
        rw [← Int32.toInt_inj, ← Int32.toInt_inj, ← Int32.toInt_inj]
        omega
      refine ⟨⟨hS.1, ⟨hS.2.1.1, hS.2.1.2.1, fun k hk => ?_⟩, hS.2.2.1, hS.2.2.2.1, hS.2.2.2.2⟩, hF, ht, hd, fun k a b => ?_, hw⟩
      · obtain ⟨q1, q2, q3⟩ := hS.2.1.2.2 k hk
        by_cases hkm : k = m
        · subst hkm
          have e : mput σ 10 k (upd (σ 10 k) 6 how) 10 k = upd (σ 10 k) 6 how := mput_eq _ _ _ _
          rw [e]
          refine ⟨q1, q2, fun _ => ⟨?_, ?_⟩⟩
          · show how = upd (τ 69 0) k how k
            rw [upd_eq]
          · show upd (τ 69 0) k how k = -1 ∨ upd (τ 69 0) k how k = 0 ∨ upd (τ 69 0) k how k = 1
            rw [upd_eq]; exact hh
        · have e : mput σ 10 m (upd (σ 10 m) 6 how) 10 k = σ 10 k := mput_ne _ _ _ _ (Or.inr hkm)
          rw [e]
          refine ⟨q1, q2, fun h0 => ?_⟩
          show σ 10 k 6 = upd (τ 69 0) m how k ∧ (upd (τ 69 0) m how k = -1 ∨ upd (τ 69 0) m how k = 0 ∨ upd (τ 69 0) m how k = 1)
          rw [upd_ne _ _ hkm]
          exact q3 h0
      · show upd (τ 69 0) m how k = -1
        rw [upd_ne _ _ (by omega)]
        exact hj k a b
  · have bad : ∀ j, 0 < j → j < mp → st = nI j → (-1 ≤ how ∧ how ≤ 1) → False := fun j a b c d => hc ⟨⟨j, a, b, c⟩, d⟩
    exact pair_q hR 0 (ev_xjudge σ hS.2.1.1.1 hS.2.1.1.2 _ _ _ (fun _ => ⟨rfl, QX.rf⟩) (fun j a b c d => (bad j a b c d).elim)) (ev_judge τ _ _ i3 i30 _ (fun _ => ⟨rfl, th_q ht⟩) (fun j a b c d => (bad j a b c d).elim))
theorem p_strike {σ τ : mS} {W H mp dn ln rw : Nat} (hR : RX σ τ W H mp dn ln rw) (d b : Int32) : Pair kX7_strike [mI d, mI b] kX8_strike [mI d, mI b] σ τ := by
  obtain ⟨hS, hF, ht, hd, hj, hw⟩ := id hR
  obtain ⟨-, -, -, ⟨i4, i40⟩, -⟩ := id hS.2.2.2.2
  by_cases hc : vp_in d dn
  · obtain ⟨D, hD, rfl⟩ := (vp_nI (by omega)).mp hc
    refine pair_c (W := W) (H := H) (mp := mp) (dn := dn) (ln := ln) (rw := rw) (σ' := mput σ 20 0 (upd (σ 20 0) D (b &&& 1))) (τ' := mput (th0 τ) 62 0 (upd (τ 62 0) D (b &&& 1))) 1 (ev_xstrike σ hS.2.2.2.1.1.1 hS.2.2.2.1.1.2 _ _ _ (fun q => absurd hc q) (fun D' a c => ?_)) (ev_strike τ _ _ i4 i40 _ (fun q => absurd hc q) (fun D' a c => ?_)) ?_
    · rw [eqX (n := 30) (by omega) (by omega) (by omega) c.symm]; exact ⟨rfl, rfl⟩
    · rw [eqX (n := 30) (by omega) (by omega) (by omega) c.symm]; exact ⟨rfl, rfl⟩
    · refine ⟨⟨hS.1, hS.2.1, hS.2.2.1, ⟨hS.2.2.2.1.1, fun e he => ?_, hS.2.2.2.1.2.2⟩, hS.2.2.2.2⟩, hF, ht, hd, hj, hw⟩
      obtain ⟨L, T, R, B, y, h1, h2, h3, h4, h5, h6⟩ := hS.2.2.2.1.2.1 e he
      refine ⟨L, T, R, B, y, h1, h2, h3, h4, h5, ?_⟩
      show upd (σ 20 0) D (b &&& 1) e = upd (τ 62 0) D (b &&& 1) e
      by_cases q : e = D
      · rw [q, upd_eq, upd_eq]
      · rw [upd_ne _ _ q, upd_ne _ _ q]; exact h6
  · have bad : ∀ D, D < dn → d = nI D → False := fun D a c => hc (by rw [c]; exact vp_in_nI a (by omega))
    exact pair_q hR 0 (ev_xstrike σ hS.2.2.2.1.1.1 hS.2.2.2.1.1.2 _ _ _ (fun _ => ⟨rfl, QX.rf⟩) (fun D a c => (bad D a c).elim)) (ev_strike τ _ _ i4 i40 _ (fun _ => ⟨rfl, th_q ht⟩) (fun D a c => (bad D a c).elim))
