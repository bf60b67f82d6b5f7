/-! CLASS: the replay from the first on -/
def FO (σ τ : mS) (W N : Nat) : Prop := OR W N (σ 28 0) (τ 56 0) ∧ OV (τ 56 0)
theorem mid_0 {τ : mS} {W H mp dn ln : Nat} {ct : Int32} {ys yd od : Nat → Nat} (hM : MY τ mp ys) (hD : DY τ dn yd od) (h0 : 0 < mp) : Mid τ W H mp dn ln ct ys yd od 0 0 0 (upO τ W H mp dn ln ct 0) := by
  have hpos : ∀ m, 0 < m → m < mp → 0 < ys m := fun m a b => by have := hM.2 0 m a b; omega
  have hs : stI (τ 54 0) (nI 0) mp = none := stI_none mp (fun m a b c => by
    rw [(hM.1 m a).1] at c
    have := nI_inj (by have := (hM.1 m a).2; omega) (by omega) c
    have := hpos m b a
    omega)
  refine ⟨⟨by omega, h0, by omega⟩, ⟨fun m a b => by omega, fun m a b => hpos m a b⟩, ⟨fun j a => by omega, fun j _ _ => by omega⟩, 0, by omega, ?_, fun j a => by omega, fun j _ _ _ => by omega⟩
  show _ = stY τ W H mp dn ln ct 0
  unfold stY
  rw [hs]
theorem ST.fr {σ s τ : mS} {W H mp dn ln : Nat} (h : FQ σ s) (I : ST σ τ W H mp dn ln) : ST s τ W H mp dn ln := ⟨h.gr I.1, I.2.1.fr h, I.2.2.1.fr h, I.2.2.2.1.fr h, I.2.2.2.2⟩
theorem FO.fr {σ s τ : mS} {W N : Nat} (h : FQ σ s) (I : FO σ τ W N) : FO s τ W N := by
  unfold FO at I ⊢
  rw [h 28 0 (by decide) (by decide) (by decide)]
  exact I
theorem ev_runFirst (σ τ : mS) {W H mp dn ln Y : Nat} (ct : Int32) (hS : ST σ τ W H mp dn ln) (hF : FO σ τ W (W * H)) (h0 : 0 < mp) (hY : Y ≤ 200) : Ev kX5_runFromFirst [xP, mI (nI Y), mI ct] σ (fun r s => r = none ∧ RE σ τ W H mp dn ln ct Y s) := by
  refine Ev.intro fun G hG => hG.run ?_
  refine And.intro ⟨by decide, by decide, by decide, by decide, by decide⟩ ?_
  rw [va_all]
  have hN := gr_le hS.1.1.2.2 hS.1.2.1.2.2
  refine call_ex (ev_runTo σ τ (mput (mput (mput (mput σ 29 0 (cpy (σ 29 0) (σ 28 0) 144)) 27 0 (upd (σ 27 0) 7 0)) 27 0 (upd (upd (σ 27 0) 7 0) 8 0)) 27 0 (upd (upd (upd (σ 27 0) 7 0) 8 0) 9 ct)) (ct := ct) hS (mid_0 (mi_my hS.2.2.2.2) (dds_dy hS.2.2.2.1) h0) ⟨?_, rfl, ⟨rfl, rfl, rfl⟩, ?_, hF.2⟩ (Nat.zero_le Y) hY) ?_
  · intro g i a b c
    rw [mput_ng _ _ _ _ a, mput_ng _ _ _ _ a, mput_ng _ _ _ _ a, mput_ng _ _ _ _ b]
  · intro k hk
    show cpy (σ 29 0) (σ 28 0) 144 k = _
    rw [cpy_in (by omega)]
    exact hF.1 k hk
  · rintro r s ⟨a, rfl, -, -, -, hE⟩
    exact ⟨rfl, hE⟩
theorem ev_runAhead (σ τ : mS) {W H mp dn ln m : Nat} (hS : ST σ τ W H mp dn ln) (hF : FO σ τ W (W * H)) (h0 : 0 < m) (hm : m < mp) : Ev kX5_runAheadOf [xP, mI (nI m)] σ (fun r s => r = none ∧ RE σ τ W H mp dn ln (-1) (ysF τ m - 1) s) := by
  have hMY := mi_my hS.2.2.2.2
  have hmp := hS.2.1.1.2
  have h200 := (hMY.1 m hm).2
  have hpos : 0 < ysF τ m := by have := hMY.2 0 m h0 hm; omega
  refine Ev.intro fun G hG => hG.run ?_
  refine And.intro (vp_in_nI (by omega) (by omega)) ?_
  rw [nI_cl (by omega)]
  have hc := ev_runFirst σ τ (Y := ysF τ m - 1) (-1) hS hF (by omega) (by omega)
  rw [← nI_m1 hpos, ← (hMY.1 m hm).1, ← (hS.2.1.2.2 m hm).2.1] at hc
  refine call_ex hc ?_
  rintro r s ⟨rfl, h⟩
  exact ⟨rfl, h⟩
theorem ahead_mn {β τ s : mS} {W H mp dn ln m : Nat} (hM : MY τ mp (ysF τ)) (h0 : 0 < m) (hm : m < mp) (h : RE β τ W H mp dn ln (-1) (ysF τ m - 1) s) : ∃ dd, RS β W (W * H) (-1) (m - 1) dd (upO τ W H mp dn ln (-1) (ysF τ m)) s := by
  obtain ⟨y, mn, dd, hy, hMid, hRS, hmap, g1, g2⟩ := h
  have hpos : 0 < ysF τ m := by have := hM.2 0 m h0 hm; omega
  have e : mn = m - 1 := by
    have h1 : mn < m := by
      by_cases q : m ≤ mn
      · have := hMid.2.1.1 m h0 q
        omega
      · omega
    by_cases q : mn + 1 = m
    · omega
    · have h2 := hM.2 (mn + 1) m (by omega) hm
      have h3 := g1 (mn + 1) (by omega) (by omega)
      omega
  subst e
  rw [show ysF τ m - 1 + 1 = ysF τ m by omega] at hRS
  exact ⟨dd, hRS⟩
theorem ev_changedBy (σ τ : mS) {W H mp dn ln m : Nat} (hS : ST σ τ W H mp dn ln) (hF : FO σ τ W (W * H)) (h0 : 0 < m) (hm : m < mp) : Ev kX5_changedBy [xP, mI (nI m)] σ (fun r s => r = some (mI (unN W H (stepO τ W H ln m False (upO τ W H mp dn ln (-1) (ysF τ m))) (upO τ W H mp dn ln (-1) (ysF τ m)) 144)) ∧ FQ σ s) := by
  have hMY := mi_my hS.2.2.2.2
  have hN := gr_le hS.1.1.2.2 hS.1.2.1.2.2
  refine Ev.intro fun G hG => hG.run ?_
  refine call_ex (ev_runAhead σ τ hS hF h0 hm) ?_
  rintro r s ⟨rfl, hE⟩
  obtain ⟨dd, hFQ, h30, ⟨e7, e8, e9⟩, hO, hov⟩ := ahead_mn hMY h0 hm hE
  refine call_of (ev_keep s) ?_
  have hq : FQ σ (mput s 30 0 (cpy (s 30 0) (s 29 0) 144)) := fun g i a b c => by rw [mput_ng _ _ _ _ c, hFQ g i a b c]
  have hS2 := hS.fr hq
  have hmp := hS.2.1.1.2
  refine call_ex (ev_takeStep (mput s 30 0 (cpy (s 30 0) (s 29 0) 144)) τ (mn := m - 1) (ct := -1) (o := upO τ W H mp dn ln (-1) (ysF τ m)) hS2.1 hS2.2.1 hS2.2.2.1 e7 (by omega) e9 hO) ?_
  rintro r s3 ⟨rfl, f, rfl, hf⟩
  rw [show m - 1 + 1 = m by omega, show (nI m = -1) = False from propext ⟨fun q => nI_neg (by omega) q, fun q => q.elim⟩] at hf
  refine call_of (ev_differing _ (W := W) (H := H) (o := stepO τ W H ln m False (upO τ W H mp dn ln (-1) (ysF τ m))) (o2 := upO τ W H mp dn ln (-1) (ysF τ m)) ?_ ?_ ?_) ?_
  · exact hS2.1
  · exact hf
  · intro k hk
    show cpy (s 30 0) (s 29 0) 144 k = _
    rw [cpy_in (by omega)]
    exact hO k hk
  · exact ⟨rfl, fun g i a b c => by rw [mput_ng _ _ _ _ b, mput_ng _ _ _ _ a, hq g i a b c]⟩
theorem ev_wonBy (σ τ : mS) (its : Int32) {W H mp dn ln m : Nat} (hS : ST σ τ W H mp dn ln) (hF : FO σ τ W (W * H)) (h0 : 0 < m) (hm : m < mp) : Ev kX5_wonBy [xP, mI its, mI (nI m)] σ (fun r s => r = some (mI (arF W H (wtr τ m) (stepO τ W H ln m False (upO τ W H mp dn ln (-1) (ysF τ m))) its 144 - arF W H (wtr τ (m - 1)) (upO τ W H mp dn ln (-1) (ysF τ m)) its 144)) ∧ FQ σ s) := by
  have hMY := mi_my hS.2.2.2.2
  refine Ev.intro fun G hG => hG.run ?_
  refine call_ex (ev_runAhead σ τ hS hF h0 hm) ?_
  rintro r s ⟨rfl, hE⟩
  obtain ⟨dd, hFQ, h30, ⟨e7, e8, e9⟩, hO, hov⟩ := ahead_mn hMY h0 hm hE
  have hS2 := hS.fr hFQ
  have hmp := hS.2.1.1.2
  refine call_of (ev_dryOf s τ its hS2.1 hS2.2.1 e7 (by omega) hO) ?_
  refine call_ex (ev_takeStep s τ (mn := m - 1) (ct := -1) (o := upO τ W H mp dn ln (-1) (ysF τ m)) hS2.1 hS2.2.1 hS2.2.2.1 e7 (by omega) e9 hO) ?_
  rintro r s3 ⟨rfl, f, rfl, hf⟩
  rw [show m - 1 + 1 = m by omega, show (nI m = -1) = False from propext ⟨fun q => nI_neg (by omega) q, fun q => q.elim⟩] at hf
  have hq : FQ σ (mput (mput s 27 0 (upd (s 27 0) 7 (nI (m - 1 + 1)))) 29 0 f) := fun g i a b c => by rw [mput_ng _ _ _ _ b, mput_ng _ _ _ _ a, hFQ g i a b c]
  have hS3 := hS.fr hq
  refine call_of (ev_dryOf _ τ its (mn := m) (o := stepO τ W H ln m False (upO τ W H mp dn ln (-1) (ysF τ m))) hS3.1 hS3.2.1 ?_ hm hf) ?_
  · show nI (m - 1 + 1) = nI m
    rw [show m - 1 + 1 = m by omega]
  · exact ⟨rfl, hq⟩
theorem ev_byDoubt (σ τ : mS) {W H mp dn ln m Y : Nat} {o2 : Nat → Int32} (hS : ST σ τ W H mp dn ln) (hF : FO σ τ W (W * H)) (h0 : 0 < mp) (hY : Y ≤ 200) (hO2 : OR W (W * H) (σ 30 0) o2) : Ev kX5_changedByDoubt [xP, mI (nI m), mI (nI Y)] σ (fun r s => r = some (mI (unN W H (upO τ W H mp dn ln (nI m) (Y + 1)) o2 144)) ∧ FQ σ s ∧ s 30 0 = σ 30 0) := by
  refine Ev.intro fun G hG => hG.run ?_
  refine call_ex (ev_runFirst σ τ (nI m) hS hF h0 hY) ?_
  rintro r s ⟨rfl, y, mn, dd, -, -, ⟨hFQ, h30, -, hO, -⟩, -⟩
  refine call_of (ev_differing s (hFQ.gr hS.1) hO (by rw [h30]; exact hO2)) ?_
  exact ⟨rfl, hFQ, h30⟩
