/-! BOTH: drafts and rows -/
theorem LR_cong {W H : Nat} (hW0 : 0 < W) (hW1 : W ≤ 12) (hH1 : H ≤ 12) {k k' f kd he : Nat → Int32} (h : ∀ c, c < 144 → k c = k' c) (I : LR W (W * H) k f kd he) : LR W (W * H) k' f kd he := by
  obtain ⟨⟨h1, h2, h3, h4, h5⟩, hk⟩ := I
  refine ⟨⟨?_, ?_, ?_, ?_, ?_⟩, fun c hc => ?_⟩
  · rw [← kc_cong h]; exact h1
  · rw [← kc_cong h]; exact h2
  · rw [← far_cong h]; exact h3
  · rw [← newP_cong h]; exact h4
  · rw [← newP_cong h, ← shL_cong h]; exact h5
  · have hlt := emb_lt hW0 hW1 hH1 hc
    rw [← h _ hlt, ← shore_cong h, ← nrF_cong h, ← heir_cong h]
    exact hk c hc
theorem LVs.w {σ τ τ' : mS} {W H mp : Nat} (hG : GR σ W H) (h54 : τ' 54 0 = τ 54 0) (h69 : τ' 69 0 = τ 69 0) (h18 : τ' 40 0 18 = τ 40 0 18) (h55 : ∀ m, m < mp → ∀ c, c < 144 → τ' 55 0 (144 * m + c) = τ 55 0 (144 * m + c)) (I : LVs σ τ W H mp) : LVs σ τ' W H mp := by
  obtain ⟨h1, h2, h3⟩ := I
  refine ⟨h1, by rw [h18]; exact h2, fun m hm => ?_⟩
  rw [h54, h69]
  obtain ⟨q1, q2, q3⟩ := h3 m hm
  refine ⟨LR_cong hG.1.2.1 hG.1.2.2 hG.2.1.2.2 (fun c hc => ?_) q1, q2, q3⟩
  by_cases ho : onP W H c
  · have e1 : kdM τ' W H m c = if wtr τ' (m - 1) c = 0 then (if wtr τ' m c = 0 then 0 else 1) else (if wtr τ' m c = 0 then 2 else 3) := kdF_on ho
    have e2 : kdM τ W H m c = if wtr τ (m - 1) c = 0 then (if wtr τ m c = 0 then 0 else 1) else (if wtr τ m c = 0 then 2 else 3) := kdF_on ho
    have e3 : wtr τ' m c = wtr τ m c := h55 m hm c hc
    have e4 : wtr τ' (m - 1) c = wtr τ (m - 1) c := h55 (m - 1) (by omega) c hc
    rw [e1, e2, e3, e4]
  · exact (kdF_off ho).trans (kdF_off ho).symm
theorem rx_water {σ τ : mS} {W H mp dn ln rw : Nat} (hR : RX σ τ W H mp dn ln rw) (hmp : mp < 10) {Y : Nat} (hY : Y < H) (bits : Int32) : RX (mput σ 9 0 (rowW (σ 9 0) (Y * W) bits W)) (rowS τ mp Y bits W) W H mp dn ln rw := by
  obtain ⟨hS, hF, ht, hd, hj, hw⟩ := id hR
  obtain ⟨⟨a1, a2, a3⟩, ⟨b1, b2, b3⟩, i3, i4, i5, i6, i7, i8, i9, i10⟩ := id hS.2.2.2.2
  have e55 : rowS τ mp Y bits W 55 0 = rowW (τ 55 0) (144 * mp + 12 * Y) bits W := rfl
  have hV : LVs (mput σ 9 0 (rowW (σ 9 0) (Y * W) bits W)) τ W H mp := hS.2.1
  refine ⟨⟨hS.1, LVs.w (τ := τ) hS.1 rfl rfl rfl (fun m hm c hc => ?_) hV, hS.2.2.1, hS.2.2.2.1, ⟨⟨a1, a2, a3⟩, ⟨b1, b2, b3⟩, i3, i4, i5, fun j => ?_, i7, i8, i9, i10⟩⟩, hF, ht, fun _ k hk => ?_, hj, hw⟩
  · rw [e55]
    exact if_neg (by omega)
  · rw [e55]
    unfold rowW
    split
    · exact b2i_and _
    · exact i6 j
  · rw [e55]
    show rowW (σ 9 0) (Y * W) bits W k = rowW (τ 55 0) (144 * mp + 12 * Y) bits W (144 * mp + emb W k)
    have hdm := md_at (W := W) (k := k)
    have hkm := Nat.mod_lt k a2
    unfold rowW
    by_cases hq : k / W = Y
    · have e1 : k - Y * W = k % W := by rw [← hq]; omega
      have e2 : 144 * mp + emb W k - (144 * mp + 12 * Y) = k % W := by unfold emb; rw [hq]; omega
      rw [if_pos (by rw [← hq]; omega), if_pos (by unfold emb; rw [hq]; omega), e1, e2]
    · rw [if_neg, if_neg (by unfold emb; omega)]
      · exact hd hmp k hk
      · rintro ⟨q1, q2⟩
        have h1 : Y ≤ k / W := (Nat.le_div_iff_mul_le a2).mpr q1
        have h2 : k / W < Y + 1 := (Nat.div_lt_iff_lt_mul a2).mpr (by rw [Nat.succ_mul]; exact q2)
        omega
theorem p_water {σ τ : mS} {W H mp dn ln rw : Nat} (hR : RX σ τ W H mp dn ln rw) (y bits : Int32) : Pair kX7_water [mI y, mI bits] kX8_water [mI y, mI bits] σ τ := by
  obtain ⟨hS, hF, ht, hd, hj, hw⟩ := id hR
  obtain ⟨⟨a1, a2, a3⟩, ⟨b1, b2, b3⟩, ⟨c1, c2⟩, -⟩ := id hS.2.2.2.2
  by_cases hc : vp_in y H ∧ mp < 10
  · obtain ⟨Y, hY, rfl⟩ := (vp_nI (by omega)).mp hc.1
    refine pair_c (σ' := mput σ 9 0 (rowW (σ 9 0) (Y * W) bits W)) (τ' := rowS (th0 τ) mp Y bits W) (rowN bits W) (ev_xwater σ hS.1 hS.2.1.1.1 hS.2.1.1.2 _ _ _ (fun q => absurd hc q) (fun Y' p q _ => ?_)) (ev_water τ _ _ a1 a3 b1 b2 b3 c1 c2 _ (fun q => absurd hc q) (fun Y' p q _ => ?_)) (rx_water hR.th hc.2 hY bits)
    · rw [eqX p hY (by omega) q.symm]; exact ⟨rfl, rfl⟩
    · rw [eqX p hY (by omega) q.symm]; exact ⟨rfl, rfl⟩
  · have bad : ∀ Y, Y < H → y = nI Y → mp < 10 → False := fun Y p q r => hc ⟨by rw [q]; exact vp_in_nI p (by omega), r⟩
    exact pair_q hR (-1) (ev_xwater σ hS.1 hS.2.1.1.1 hS.2.1.1.2 _ _ _ (fun _ => ⟨rfl, QX.rf⟩) (fun Y p q r => (bad Y p q r).elim)) (ev_water τ _ _ a1 a3 b1 b2 b3 c1 c2 _ (fun _ => ⟨rfl, th_q ht⟩) (fun Y p q r => (bad Y p q r).elim))
theorem rx_sheet {σ τ : mS} {W H mp dn ln rw : Nat} (hR : RX σ τ W H mp dn ln rw) (hmp : mp < 10) {Y : Nat} (kind f st : Int32) : ∀ n, Y + n ≤ H → RX (sheetX σ Y kind f st W n) (sheetS τ mp Y kind f st W n) W H mp dn ln rw
  | 0, _ => hR
  | n + 1, h => rx_water (rx_sheet hR hmp kind f st n (by omega)) hmp (show Y + n < H by omega) (entK kind f st n)
theorem p_sheet {σ τ : mS} {W H mp dn ln rw : Nat} (hR : RX σ τ W H mp dn ln rw) (y kind n f st : Int32) : Pair kX7_sheet [mI y, mI kind, mI n, mI f, mI st] kX8_sheet [mI y, mI kind, mI n, mI f, mI st] σ τ := by
  obtain ⟨hS, hF, ht, hd, hj, hw⟩ := id hR
  obtain ⟨⟨a1, a2, a3⟩, ⟨b1, b2, b3⟩, ⟨c1, c2⟩, -⟩ := id hS.2.2.2.2
  by_cases hc : vp_in y H ∧ (0 ≤ kind ∧ kind ≤ 2) ∧ n ≤ 20 ∧ mp < 10
  · by_cases hk : kind = 2
    · exact pair_q hR 0 (ev_xsheet σ hS.1 hS.2.1.1.1 hS.2.1.1.2 _ _ _ _ _ _ (fun q => absurd hc q) (fun _ _ => ⟨rfl, QX.rf⟩) (fun _ q => absurd hk q) (fun _ q => absurd hk q)) (ev_sheet τ _ _ _ _ _ a1 a3 b1 b2 b3 c1 c2 _ (fun q => absurd hc q) (fun _ _ => ⟨rfl, th_q ht⟩) (fun _ q => absurd hk q) (fun _ q => absurd hk q))
    · by_cases hn : 0 ≤ n
      · obtain ⟨Y, hY, rfl⟩ := (vp_nI (by omega)).mp hc.1
        obtain ⟨N, hN, rfl⟩ : ∃ N, N ≤ 20 ∧ n = nI N := by
          have c4 := hc.2.2.1
          have : vp_in n 21 := by
            rw [vp_in_iff]
            rw [Int32.le_iff_toInt_le] at c4 hn
            have t0 : (0 : Int32).toInt = 0 := by decide
            have t2 : (20 : Int32).toInt = 20 := by decide
            omega
          obtain ⟨N, h1, h2⟩ := (vp_nI (by omega)).mp this
          exact ⟨N, by omega, h2⟩
        refine pair_c (σ' := sheetX σ Y kind f st W (min N (H - Y))) (τ' := sheetS (th0 τ) mp Y kind f st W (min N (H - Y))) (nI (min N (H - Y))) (ev_xsheet σ hS.1 hS.2.1.1.1 hS.2.1.1.2 _ _ _ _ _ _ (fun q => absurd hc q) (fun _ q => absurd q hk) (fun _ _ q => absurd hn q) (fun _ _ Y' N' p q r u => ?_)) (ev_sheet τ _ _ _ _ _ a1 a3 b1 b2 b3 c1 c2 _ (fun q => absurd hc q) (fun _ q => absurd q hk) (fun _ _ q => absurd hn q) (fun _ _ Y' N' p q r u => ?_)) (rx_sheet hR.th hc.2.2.2 kind f st _ (by omega))
        · rw [eqX p hY (by omega) q.symm, eqX (n := 21) (by omega) (by omega) (by omega) u.symm]; exact ⟨rfl, rfl⟩
        · rw [eqX p hY (by omega) q.symm, eqX (n := 21) (by omega) (by omega) (by omega) u.symm]; exact ⟨rfl, rfl⟩
      · have bad : ∀ N, n = nI N → N ≤ 20 → False := fun N q r => hn (by rw [q]; exact nI_le (a := 0) (by omega) (by omega))
        exact pair_q hR (-2) (ev_xsheet σ hS.1 hS.2.1.1.1 hS.2.1.1.2 _ _ _ _ _ _ (fun q => absurd hc q) (fun _ q => absurd q hk) (fun _ _ _ => ⟨rfl, QX.rf⟩) (fun _ _ Y' N' p q r u => (bad N' u r).elim)) (ev_sheet τ _ _ _ _ _ a1 a3 b1 b2 b3 c1 c2 _ (fun q => absurd hc q) (fun _ q => absurd q hk) (fun _ _ _ => ⟨rfl, th_q ht⟩) (fun _ _ Y' N' p q r u => (bad N' u r).elim))
  · exact pair_q hR (-1) (ev_xsheet σ hS.1 hS.2.1.1.1 hS.2.1.1.2 _ _ _ _ _ _ (fun _ => ⟨rfl, QX.rf⟩) (fun q => absurd q hc) (fun q => absurd q hc) (fun q => absurd q hc)) (ev_sheet τ _ _ _ _ _ a1 a3 b1 b2 b3 c1 c2 _ (fun _ => ⟨rfl, th_q ht⟩) (fun q => absurd q hc) (fun q => absurd q hc) (fun q => absurd q hc))
theorem p_chain {σ τ : mS} {W H mp dn ln rw : Nat} (hR : RX σ τ W H mp dn ln rw) (x y : Int32) : Pair kX7_chain [mI x, mI y] kX8_chain [mI x, mI y] σ τ := by
  obtain ⟨hS, hF, ht, hd, hj, hw⟩ := id hR
  have hI := hS.2.2.2.2
  have hMY := mi_my hI
  have hW1 := hS.1.1.2.2
  have hH1 := hS.1.2.1.2.2
  by_cases hc : (vp_in x W ∧ vp_in y H) ∧ 0 < mp
  · obtain ⟨X, hX, rfl⟩ := (vp_nI (by omega)).mp hc.1.1
    obtain ⟨Y, hY, rfl⟩ := (vp_nI (by omega)).mp hc.1.2
    generalize ho : (fun yr => upO τ W H mp dn ln (-1) (yr + 1) (12 * Y + X)) = o
    obtain ⟨e1, e2⟩ := ch_base o (ysF τ 0) (σ 31 0) (τ 77 0) 201
    refine ⟨nI ((chF o (ysF τ 0) (σ 31 0) 201).1 / 2), fun s => (chF o (ysF τ 0) (σ 31 0) 201).1 ≤ 80 ∧ CX σ s ∧ s 0 0 7 = nI (chF o (ysF τ 0) (σ 31 0) 201).1 ∧ s 31 0 = (chF o (ysF τ 0) (σ 31 0) 201).2, fun t => chainQ τ t (chF o (ysF τ 0) (τ 77 0) 201).1 (chF o (ysF τ 0) (τ 77 0) 201).2, ev_xchain σ τ hS hF _ _ _ (fun q => absurd hc q) (fun X' Y' p q r u _ s n row hn h80 hcx h7 h31 => ?_), ev_chain τ hI ht (fun h => hMY.1 0 h) _ _ _ (fun q => absurd hc q) (fun X' Y' p q r u _ s n row hn hq => ?_), fun s t hs hq => ?_⟩
    · rw [eqX p hX (by omega) r.symm, eqX q hY (by omega) u.symm, ho] at hn
      rw [← hn]
      exact ⟨rfl, h80, hcx, h7, h31⟩
    · rw [eqX p hX (by omega) r.symm, eqX q hY (by omega) u.symm, ho] at hn
      rw [e1, ← hn]
      exact ⟨rfl, hq⟩
    · obtain ⟨h80, hcx, h7, h31⟩ := hs
      obtain ⟨k1, k2, k3, k4, k5⟩ := hq
      refine ⟨W, H, mp, dn, ln, (chF o (ysF τ 0) (σ 31 0) 201).1, hR.g hcx ⟨fun j a b c => ?_, fun g a1 a2 a3 a4 a5 a6 a7 _ _ => k2 g a1 a2 a3 a4 a5 a6 a7⟩ k5 ⟨h80, h7, ?_, fun j hj => ?_⟩⟩
      · rw [k1 j b c]
        unfold th0
        rw [mput_eq, upd_ne _ _ a]
      · rw [k3, e1]
      · rw [h31, k4]; exact e2 j hj
  · have bad : ∀ X Y, X < W → Y < H → x = nI X → y = nI Y → 0 < mp → False := fun X Y p q r u v => hc ⟨⟨by rw [r]; exact vp_in_nI p (by omega), by rw [u]; exact vp_in_nI q (by omega)⟩, v⟩
    exact pair_q hR (-1) (ev_xchain σ τ hS hF _ _ _ (fun _ => ⟨rfl, QX.rf⟩) (fun X Y p q r u v s n row hn h80 hcx h7 h31 => (bad X Y p q r u v).elim)) (ev_chain τ hI ht (fun h => hMY.1 0 h) _ _ _ (fun _ => ⟨rfl, th_q ht⟩) (fun X Y p q r u v s n row hn hq => (bad X Y p q r u v).elim))
