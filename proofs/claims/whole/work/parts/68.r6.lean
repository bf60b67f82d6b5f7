/-! BOTH: land, maps, deeds -/
theorem p_land {σ τ : mS} {W H mp dn ln rw : Nat} (hR : RX σ τ W H mp dn ln rw) (w h : Int32) : Pair kX7_land [mI w, mI h] kX8_land [mI w, mI h] σ τ := by
  obtain ⟨hS, hF, ht, hd, hj, hw⟩ := id hR
  obtain ⟨i1, i2, i3, i4, i5, i6, i7, i8, i9, i10⟩ := id hS.2.2.2.2
  have hm := ev_land τ w h
  by_cases hc : (1 ≤ w ∧ w ≤ 12) ∧ (1 ≤ h ∧ h ≤ 12)
  · rw [b2i_t hc, ifp_t hc] at hm
    have nat : ∀ v : Int32, 1 ≤ v → v ≤ 12 → ∃ V, 0 < V ∧ V ≤ 12 ∧ v = nI V := by
      intro v a b
      rw [Int32.le_iff_toInt_le] at a b
      have t1 : (1 : Int32).toInt = 1 := by decide
      have t2 : (12 : Int32).toInt = 12 := by decide
      have : vp_in v 13 := by rw [vp_in_iff]; omega
      obtain ⟨V, h1, h2⟩ := (vp_nI (by omega)).mp this
      refine ⟨V, ?_, by omega, h2⟩
      rw [h2, nI_toInt (by omega)] at a
      omega
    obtain ⟨V, hV0, hV1, rfl⟩ := nat w hc.1.1 hc.1.2
    obtain ⟨U, hU0, hU1, rfl⟩ := nat h hc.2.1 hc.2.2
    have hN := gr_le hV1 hU1
    refine pair_c (W := V) (H := U) (mp := 0) (dn := 0) (ln := ln) (rw := rw) (σ' := landX σ V U) 1 (ev_xland σ _ _ _ (fun q => absurd hc q) (fun W' H' a b c d e f => ?_)) hm ?_
    · rw [eqX (n := 13) (by omega) (by omega) (by omega) e.symm, eqX (n := 13) (by omega) (by omega) (by omega) f.symm]; exact ⟨rfl, rfl⟩
    · refine ⟨⟨⟨⟨rfl, hV0, hV1⟩, ⟨rfl, hU0, hU1⟩, rfl, fun k hk => ⟨?_, ?_⟩⟩, ⟨⟨rfl, by omega⟩, hS.2.1.2.1, fun m q => absurd q (Nat.not_lt_zero m)⟩, hS.2.2.1, ⟨⟨rfl, by omega⟩, fun d q => absurd q (Nat.not_lt_zero d), fun d q => absurd q (Nat.not_lt_zero d), fun i j _ q => absurd q (Nat.not_lt_zero j), fun d q => absurd q (Nat.not_lt_zero d)⟩, ⟨⟨rfl, hV0, hV1⟩, ⟨rfl, hU0, hU1⟩, ⟨rfl, by omega⟩, ⟨rfl, by omega⟩, i5, fun j => ?_, fun d q => absurd q (Nat.not_lt_zero d), fun d q => absurd q (Nat.not_lt_zero d), fun i j _ q => absurd q (Nat.not_lt_zero j), fun j q => ?_⟩⟩, ⟨fun k hk => ?_, fun c hc' => ?_⟩, ht, fun _ k hk => ?_, fun m _ q => ?_, hw⟩
      · show cpy (σ 2 0) (fun k => nI (k % V)) (V * U) k = nI (k % V)
        rw [cpy_in hk]
      · show cpy (σ 3 0) (fun k => nI (k / V)) (V * U) k = nI (k / V)
        rw [cpy_in hk]
      · show fil (τ 55 0) 0 144 j &&& 1 = fil (τ 55 0) 0 144 j
        unfold fil
        split
        · rfl
        · exact i6 j
      · show fil (τ 56 0) (-1) 144 j = 0
        rw [fil_out q]; exact i10 j q
      · show fil (σ 28 0) (-1) 144 k = fil (τ 56 0) (-1) 144 (emb V k)
        rw [fil_in (by omega), fil_in (emb_lt hV0 hV1 hU1 hk)]
      · show fil (τ 56 0) (-1) 144 c = -1 ∨ 0 ≤ fil (τ 56 0) (-1) 144 c
        rw [fil_in hc']; exact Or.inl rfl
      · show fil (σ 9 0) 0 144 k = fil (τ 55 0) 0 144 (144 * 0 + emb V k)
        have := emb_lt hV0 hV1 hU1 hk
        rw [fil_in (by omega), fil_in (by omega)]
      · show fil (τ 69 0) (-1) 10 m = -1
        rw [fil_in q]
  · rw [b2i_f hc, ifp_f hc] at hm
    refine pair_q hR 0 (ev_xland σ _ _ _ (fun _ => ⟨rfl, QX.rf⟩) (fun W' H' a b c d e f => absurd ?_ hc)) (hm.mono (fun r s q => ⟨q.1, by rw [q.2]; exact th_q ht⟩))
    rw [e, f]
    exact ⟨⟨nI_le (a := 1) a (by omega), nI_le (b := 12) b (by omega)⟩, ⟨nI_le (a := 1) c (by omega), nI_le (b := 12) d (by omega)⟩⟩
theorem p_map {σ τ : mS} {W H mp dn ln rw : Nat} (hR : RX σ τ W H mp dn ln rw) (year : Int32) : Pair kX7_map [mI year] kX8_map [mI year] σ τ := by
  obtain ⟨hS, hF, ht, hd, hj, hw⟩ := id hR
  obtain ⟨⟨a1, a2, a3⟩, ⟨b1, b2, b3⟩, ⟨c1, c2⟩, i4, i5, i6, i7, i8, i9, i10⟩ := id hS.2.2.2.2
  by_cases hmp : mp < 10
  · have hp : ∀ k, k < W * H → 0 < mp → (2 ≤ σ 11 (mp - 1) k ↔ wtr τ (mp - 1) (emb W k) = 0) := fun k hk h0 => dry_iff hS.1 hS.2.1 (by omega) hk
    have hz : mp = 0 → wtr τ (mp - 1) = wtr τ mp := fun q => by rw [q]
    by_cases hc : vp_in year 201 ∧ mp < 10 ∧ (0 < mp → τ 54 0 (mp - 1) < year)
    · obtain ⟨yr, hyr, rfl⟩ := yr_of hc.1
      refine ⟨nI mp, AQ σ W (W * H) mp (kdM τ W H mp) (nI yr), fun t => t = mapS (th0 τ) mp (nI yr), ev_xmap σ τ hS.1 hS.2.1 (w0 := wtr τ (mp - 1)) (w1 := wtr τ mp) (hd hmp) hp hz _ _ (fun q => absurd hc q) (fun _ s hs => ⟨rfl, hs⟩), ev_map τ _ c1 c2 i6 _ (fun q => absurd hc q) (fun _ => ⟨rfl, rfl⟩), fun s t hA hq => ?_⟩
      subst hq
      obtain ⟨hL, hy, h6, h7, hf⟩ := hA
      have fr : ∀ g, g ≠ 4 → g ≠ 5 → g ≠ 6 → g ≠ 7 → g ≠ 10 → g ≠ 11 → g ≠ 12 → s g 0 = σ g 0 := fun g q1 q2 q3 q4 q5 q6 q7 => hf g 0 q1 q2 q3 q4 (fun _ => ⟨q5, q6, q7⟩)
      have fo0 : ∀ g, g ≠ 4 ∧ g ≠ 5 ∧ g ≠ 6 ∧ g ≠ 7 ∧ g ≠ 10 ∧ g ≠ 11 ∧ g ≠ 12 → s g 0 = σ g 0 := fun g q => fr g q.1 q.2.1 q.2.2.1 q.2.2.2.1 q.2.2.2.2.1 q.2.2.2.2.2.1 q.2.2.2.2.2.2
      have e54 : mapS (th0 τ) mp (nI yr) 54 0 = upd (τ 54 0) mp (nI yr) := rfl
      have e55 : mapS (th0 τ) mp (nI yr) 55 0 = mapW (τ 55 0) mp 144 := rfl
      have e69 : mapS (th0 τ) mp (nI yr) 69 0 = τ 69 0 := rfl
      have hw55 : ∀ m, m ≤ mp → ∀ c, c < 144 → mapW (τ 55 0) mp 144 (144 * m + c) = τ 55 0 (144 * m + c) := fun m hm c hc' => if_neg (by omega)
      have hkd : ∀ m, m ≤ mp → ∀ c, c < 144 → kdM τ W H m c = kdM (mapS (th0 τ) mp (nI yr)) W H m c := fun m hm c hc' => by
        by_cases ho : onP W H c
        · have q1 : kdM (mapS (th0 τ) mp (nI yr)) W H m c = if wtr (mapS (th0 τ) mp (nI yr)) (m - 1) c = 0 then (if wtr (mapS (th0 τ) mp (nI yr)) m c = 0 then 0 else 1) else (if wtr (mapS (th0 τ) mp (nI yr)) m c = 0 then 2 else 3) := kdF_on ho
          have q2 : kdM τ W H m c = if wtr τ (m - 1) c = 0 then (if wtr τ m c = 0 then 0 else 1) else (if wtr τ m c = 0 then 2 else 3) := kdF_on ho
          have q3 : wtr (mapS (th0 τ) mp (nI yr)) m c = wtr τ m c := hw55 m hm c hc'
          have q4 : wtr (mapS (th0 τ) mp (nI yr)) (m - 1) c = wtr τ (m - 1) c := hw55 (m - 1) (by omega) c hc'
          rw [q1, q2, q3, q4]
        · exact (kdF_off ho).trans (kdF_off ho).symm
      refine ⟨W, H, mp + 1, dn, ln, rw, ⟨hS.1.fr (fo0 1 (by decide)) (fo0 2 (by decide)) (fo0 3 (by decide)), ⟨⟨by rw [h7]; rfl, by omega⟩, by rw [h7]; exact hS.2.1.2.1, fun m hm => ?_⟩, ?_, ?_, ⟨⟨a1, a2, a3⟩, ⟨b1, b2, b3⟩, ⟨rfl, by omega⟩, i4, i5, fun j => ?_, i7, fun j hj' => ?_, fun i j hij hj' => ?_, i10⟩⟩, ?_, ht, fun hlt k hk => ?_, fun m q1 q2 => hj m (by omega) q2, ?_⟩
      · rw [e54, e69]
        by_cases q : m = mp
        · subst q
          rw [upd_eq]
          exact ⟨LR_cong a2 a3 b3 (hkd m (Nat.le_refl _)) hL, hy, fun _ => ⟨by rw [h6, hj m (Nat.le_refl _) hmp], Or.inl (hj m (Nat.le_refl _) hmp)⟩⟩
        · rw [upd_ne _ _ q, hf 10 m (by decide) (by decide) (by decide) (by decide) (fun r => absurd r q), hf 11 m (by decide) (by decide) (by decide) (by decide) (fun r => absurd r q), hf 12 m (by decide) (by decide) (by decide) (by decide) (fun r => absurd r q)]
          obtain ⟨r1, r2, r3⟩ := hS.2.1.2.2 m (by omega)
          exact ⟨LR_cong a2 a3 b3 (hkd m (by omega)) r1, r2, r3⟩
      · have := hS.2.2.1
        unfold LWs at this ⊢
        rw [fo0 22 (by decide), fo0 23 (by decide), fo0 24 (by decide), fo0 25 (by decide), fo0 26 (by decide)]
        exact this
      · have := hS.2.2.2.1
        unfold DDs DD1 at this ⊢
        rw [fo0 13 (by decide), fo0 14 (by decide), fo0 15 (by decide), fo0 16 (by decide), fo0 17 (by decide), fo0 18 (by decide), fo0 19 (by decide), fo0 20 (by decide), fo0 21 (by decide)]
        exact this
      · rw [e55]
        unfold mapW
        split
        · exact i6 _
        · exact i6 _
      · rw [e54]
        by_cases q : j = mp
        · rw [q, upd_eq]; exact ⟨yr, hyr, rfl⟩
        · rw [upd_ne _ _ q]; exact i8 j (by omega)
      · rw [e54]
        by_cases q : j = mp
        · subst q
          rw [upd_eq, upd_ne _ _ (by omega)]
          have h1 := hc.2.2 (by omega)
          by_cases r : i = j - 1
          · rw [r]; exact h1
          · have h2 := i9 i (j - 1) (by omega) (by omega)
            rw [Int32.lt_iff_toInt_lt] at h1 h2 ⊢
            omega
        · rw [upd_ne _ _ q, upd_ne _ _ (by omega)]
          exact i9 i j hij (by omega)
      · have := hF
        unfold FO at this ⊢
        rw [fo0 28 (by decide)]
        exact this
      · rw [e55, fo0 9 (by decide), hd hmp k hk]
        have hlt' := emb_lt a2 a3 b3 hk
        have : mapW (τ 55 0) mp 144 (144 * (mp + 1) + emb W k) = τ 55 0 (144 * (mp + 1) + emb W k - 144) := if_pos (by omega)
        rw [this, show 144 * (mp + 1) + emb W k - 144 = 144 * mp + emb W k by omega]
      · have := hw
        unfold RW at this ⊢
        rw [fo0 0 (by decide), fo0 31 (by decide)]
        exact this
    · exact pair_q hR (-1) (ev_xmap σ τ hS.1 hS.2.1 (w0 := wtr τ (mp - 1)) (w1 := wtr τ mp) (hd hmp) hp hz _ _ (fun _ => ⟨rfl, QX.rf⟩) (fun q => absurd q hc)) (ev_map τ _ c1 c2 i6 _ (fun _ => ⟨rfl, th_q ht⟩) (fun q => absurd q hc))
  · have hc : ¬ (vp_in year 201 ∧ mp < 10 ∧ (0 < mp → τ 54 0 (mp - 1) < year)) := fun q => hmp q.2.1
    exact pair_q hR (-1) (ev_xmap σ τ hS.1 hS.2.1 (w0 := wtr τ (mp - 1)) (w1 := fun c => σ 9 0 (une W c)) (fun k hk => by rw [une_emb a2 a3]) (fun k hk h0 => dry_iff hS.1 hS.2.1 (by omega) hk) (fun q => absurd q (by omega)) _ _ (fun _ => ⟨rfl, QX.rf⟩) (fun q => absurd q hc)) (ev_map τ _ c1 c2 i6 _ (fun _ => ⟨rfl, th_q ht⟩) (fun q => absurd q hc))
