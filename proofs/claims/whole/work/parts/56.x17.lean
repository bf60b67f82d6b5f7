/-! CLASS: the questions -/
def QX (σ s : mS) : Prop := ∀ g i, g ≠ 4 → g ≠ 5 → g ≠ 6 → g ≠ 27 → g ≠ 29 → g ≠ 30 → s g i = σ g i
theorem QX.rf {σ : mS} : QX σ σ := fun _ _ _ _ _ _ _ _ => rfl
theorem FQ.q {σ s : mS} (h : FQ σ s) : QX σ s := fun g i _ _ _ a b c => h g i a b c
theorem FS.q {σ s : mS} (h : FS σ s) : QX σ s := fun g i a b c _ _ _ => h g i a b c
theorem mapIn_x {σ τ : mS} {W H mp : Nat} (hV : LVs σ τ W H mp) (year : Int32) : mapInF (fun m => σ 10 m 0) year mp = mapInF (τ 54 0) year mp := fo_cong fun k hk x => by
  show (if 0 < k ∧ σ 10 k 0 ≤ year then k else x) = _
  rw [(hV.2.2 k hk).2.1]
theorem mapIn_lt {yr : Nat → Int32} {year : Int32} {mp : Nat} (h : 0 < mp) : mapInF yr year mp < mp := by
  rcases mapInF_lt yr year mp with q | q
  · omega
  · exact q
theorem ev_xwet (σ τ : mS) {W H mp dn ln : Nat} (hS : ST σ τ W H mp dn ln) (x y year : Int32) (post : Option mV → mS → Prop)
    (hbad : ¬ ((vp_in x W ∧ vp_in y H) ∧ vp_in year 201 ∧ 0 < mp) → post (some (mI (-1))) σ)
    (hgo : ∀ X Y, X < W → Y < H → x = nI X → y = nI Y → vp_in year 201 → 0 < mp → post (some (mI (if τ 55 0 (144 * mapInF (τ 54 0) year mp + (12 * Y + X)) = 0 then 0 else 1))) σ) : Ev kX7_wet [xX, mI x, mI y, mI year] σ post := by
  have I := hS.1
  have hV := hS.2.1
  have hN := gr_le I.1.2.2 I.2.1.2.2
  refine Ev.intro fun G hG => hG.run ?_
  refine call_of (ev_has σ x y I.1.1 I.1.2.2 I.2.1.1 I.2.1.2.2) ?_
  refine And.intro (fun c1 => hbad (fun q => b_f c1 q.1)) (fun c1 => ?_)
  have c1 := b_t c1
  refine call_of (ev_xYear σ year) ?_
  refine And.intro (fun c2 => hbad (fun q => b_f c2 q.2.1)) (fun c2 => ?_)
  have c2 := b_t c2
  refine call_of (ev_isEmpty σ hV.1.1 hV.1.2) ?_
  refine And.intro (fun c3 => ?_) (fun c3 => hbad (fun q => by have := b_t c3; omega))
  have c3 : 0 < mp := by have := b_f c3; omega
  obtain ⟨X, hX, rfl⟩ := (vp_nI (by have := I.1.2.2; omega)).mp c1.1
  obtain ⟨Y, hY, rfl⟩ := (vp_nI (by have := I.2.1.2.2; omega)).mp c1.2
  have hgo := hgo X Y hX hY rfl rfl c2 c3
  have hlt := at_lt (W := W) (H := H) hX hY
  refine call_of (ev_leafIn σ year hV.1.1 hV.1.2) ?_
  rw [mapIn_x hV]
  refine call_of (ev_cellAt σ X Y W I.1.1) ?_
  refine call_of (ev_isDry σ (m := mapInF (τ 54 0) year mp) (k := Y * W + X) (by omega)) ?_
  have hd := dry_iff I hV (mapIn_lt (yr := τ 54 0) (year := year) c3) hlt
  rw [emb_at hX] at hd
  have hd : 2 ≤ σ 11 (mapInF (τ 54 0) year mp) (Y * W + X) ↔ τ 55 0 (144 * mapInF (τ 54 0) year mp + (12 * Y + X)) = 0 := hd
  refine And.intro (fun c4 => ?_) (fun c4 => ?_)
  · rw [if_neg (fun q => b_f c4 (hd.mpr q))] at hgo
    exact hgo
  · rw [if_pos (hd.mp (b_t c4))] at hgo
    exact hgo
theorem ev_xowner (σ τ : mS) {W H mp dn ln : Nat} (hS : ST σ τ W H mp dn ln) (hF : FO σ τ W (W * H)) (x y year : Int32) (post : Option mV → mS → Prop)
    (hbad : ¬ ((vp_in x W ∧ vp_in y H) ∧ vp_in year 201 ∧ 0 < mp) → post (some (mI (-2))) σ)
    (hgo : ∀ X Y yr, X < W → Y < H → yr ≤ 200 → x = nI X → y = nI Y → year = nI yr → 0 < mp → ∀ s, QX σ s → post (some (mI (upO τ W H mp dn ln (-1) (yr + 1) (12 * Y + X)))) s) : Ev kX7_owner [xX, mI x, mI y, mI year] σ post := by
  have I := hS.1
  have hV := hS.2.1
  have hN := gr_le I.1.2.2 I.2.1.2.2
  refine Ev.intro fun G hG => hG.run ?_
  refine call_of (ev_has σ x y I.1.1 I.1.2.2 I.2.1.1 I.2.1.2.2) ?_
  refine And.intro (fun c1 => hbad (fun q => b_f c1 q.1)) (fun c1 => ?_)
  have c1 := b_t c1
  refine call_of (ev_xYear σ year) ?_
  refine And.intro (fun c2 => hbad (fun q => b_f c2 q.2.1)) (fun c2 => ?_)
  obtain ⟨yr, hyr, rfl⟩ := yr_of (b_t c2)
  refine call_of (ev_isEmpty σ hV.1.1 hV.1.2) ?_
  refine And.intro (fun c3 => ?_) (fun c3 => hbad (fun q => by have := b_t c3; omega))
  have c3 : 0 < mp := by have := b_f c3; omega
  obtain ⟨X, hX, rfl⟩ := (vp_nI (by have := I.1.2.2; omega)).mp c1.1
  obtain ⟨Y, hY, rfl⟩ := (vp_nI (by have := I.2.1.2.2; omega)).mp c1.2
  have hlt := at_lt (W := W) (H := H) hX hY
  refine call_ex (ev_runFirst σ τ (-1) hS hF c3 hyr) ?_
  rintro r s ⟨rfl, y', mn, dd, -, -, ⟨hFQ, h30, -, hO, -⟩, -⟩
  have hgo := hgo X Y yr hX hY hyr rfl rfl rfl c3 s hFQ.q
  have hW' : s 1 0 0 = nI W := by rw [hFQ 1 0 (by decide) (by decide) (by decide)]; exact I.1.1
  refine call_of (ev_cellAt s X Y W hW') ?_
  refine And.intro (vp_in_nI (by omega) (by omega)) ?_
  rw [nI_cl (by omega), hO _ hlt, emb_at hX]
  exact hgo
theorem ev_xfront (σ τ : mS) {W H mp dn ln : Nat} (hS : ST σ τ W H mp dn ln) (hF : FO σ τ W (W * H)) (o year : Int32) (post : Option mV → mS → Prop)
    (hbad : ¬ askP o year mp → post (some (mI (-2))) σ)
    (hgo : ∀ yr, yr ≤ 200 → year = nI yr → askP o year mp → ∀ s, QX σ s → post (some (mI (frontF τ W H mp dn ln o yr))) s) : Ev kX7_front [xX, mI o, mI year] σ post := by
  have hV := hS.2.1
  refine Ev.intro fun G hG => hG.run ?_
  refine call_of (ev_isOwnerOrNone σ o) ?_
  refine And.intro (fun c1 => hbad (fun q => b_f c1 q.1)) (fun c1 => ?_)
  have c1 := b_t c1
  refine call_of (ev_xYear σ year) ?_
  refine And.intro (fun c2 => hbad (fun q => b_f c2 q.2.1)) (fun c2 => ?_)
  have c2 := b_t c2
  obtain ⟨yr, hyr, rfl⟩ := yr_of c2
  refine call_of (ev_isEmpty σ hV.1.1 hV.1.2) ?_
  refine And.intro (fun c3 => ?_) (fun c3 => hbad (fun q => by have := b_t c3; have := q.2.2; omega))
  have c3 : 0 < mp := by have := b_f c3; omega
  refine call_ex (ev_runFirst σ τ (-1) hS hF c3 hyr) ?_
  rintro r s ⟨rfl, y', mn, dd, -, hMid, ⟨hFQ, h30, ⟨e7, -, -⟩, hO, -⟩, hmap, -⟩
  have hS2 := hS.fr hFQ
  have hc := ev_dryByWater s τ o hS2.1 hS2.2.1 e7 hMid.1.2.1 hO
  rw [← hmap] at hc
  exact call_of hc (hgo yr hyr rfl ⟨c1, c2, c3⟩ s hFQ.q)
theorem ev_xbanks (σ τ : mS) {W H mp dn ln : Nat} (hS : ST σ τ W H mp dn ln) (year : Int32) (post : Option mV → mS → Prop)
    (hbad : ¬ (vp_in year 201 ∧ 0 < mp) → post (some (mI (-1))) σ)
    (hgo : ∀ yr, yr ≤ 200 → year = nI yr → 0 < mp → ∀ s, QX σ s → post (some (mI (ptL (dryP W H (wtr τ (mapInF (τ 54 0) year mp))) 144))) s) : Ev kX7_banks [xX, mI year] σ post := by
  have hV := hS.2.1
  refine Ev.intro fun G hG => hG.run ?_
  refine call_of (ev_xYear σ year) ?_
  refine And.intro (fun c2 => hbad (fun q => b_f c2 q.1)) (fun c2 => ?_)
  obtain ⟨yr, hyr, rfl⟩ := yr_of (b_t c2)
  refine call_of (ev_isEmpty σ hV.1.1 hV.1.2) ?_
  refine And.intro (fun c3 => ?_) (fun c3 => hbad (fun q => by have := b_t c3; omega))
  have c3 : 0 < mp := by have := b_f c3; omega
  refine call_of (ev_leafIn σ (nI yr) hV.1.1 hV.1.2) ?_
  rw [mapIn_x hV]
  refine call_ex (ev_dryParts σ (m := mapInF (τ 54 0) (nI yr) mp) (S := dryP W H (wtr τ (mapInF (τ 54 0) (nI yr) mp))) hS.1 (fun c q => q.2.1) (fun k hk => ?_)) ?_
  · rw [dry_iff hS.1 hV (mapIn_lt c3) hk]
    exact ⟨fun q => ⟨emb_lt hS.1.1.2.1 hS.1.1.2.2 hS.1.2.1.2.2 hk, emb_on hS.1.1.2.1 hS.1.1.2.2 hk, q⟩, fun q => q.2.2⟩
  · rintro r s ⟨rfl, hf⟩
    exact hgo yr hyr rfl c3 s hf.q
theorem ev_xdoubt (σ τ : mS) {W H mp dn ln : Nat} (hS : ST σ τ W H mp dn ln) (hF : FO σ τ W (W * H)) (st year : Int32) (post : Option mV → mS → Prop)
    (hbad : ¬ (stepP st mp ∧ vp_in year 201) → post (some (mI (-1))) σ)
    (hgo : ∀ m yr, 0 < m → m < mp → st = nI m → yr ≤ 200 → year = nI yr → ∀ s, QX σ s → post (some (mI (unF τ W H mp dn ln m yr))) s) : Ev kX7_doubt [xX, mI st, mI year] σ post := by
  have hV := hS.2.1
  have hN := gr_le hS.1.1.2.2 hS.1.2.1.2.2
  refine Ev.intro fun G hG => hG.run ?_
  refine call_of (ev_hasStep σ st hV.1.1 hV.1.2) ?_
  refine And.intro (fun c1 => hbad (fun q => b_f c1 q.1)) (fun c1 => ?_)
  obtain ⟨m, hm0, hm, rfl⟩ := b_t c1
  refine call_of (ev_xYear σ year) ?_
  refine And.intro (fun c2 => ?_) (fun c2 => hbad (fun q => b_f c2 q.2))
  obtain ⟨yr, hyr, rfl⟩ := yr_of (b_t c2)
  refine call_ex (ev_runFirst σ τ (-1) hS hF (by omega) hyr) ?_
  rintro r s ⟨rfl, y', mn, dd, -, hMid, ⟨hFQ, h30, -, hO, -⟩, hmap, -⟩
  refine call_of (ev_keep s) ?_
  have hq : FQ σ (mput s 30 0 (cpy (s 30 0) (s 29 0) 144)) := fun g i a b c => by rw [mput_ng _ _ _ _ c, hFQ g i a b c]
  refine call_ex (ev_byDoubt _ τ (m := m) (o2 := upO τ W H mp dn ln (-1) (yr + 1)) (hS.fr hq) (hF.fr hq) (by omega) hyr ?_) ?_
  · intro k hk
    show cpy (s 30 0) (s 29 0) 144 k = _
    rw [cpy_in (by omega)]
    exact hO k hk
  · rintro r s3 ⟨rfl, hq3, -⟩
    exact hgo m yr hm0 hm rfl hyr rfl s3 (hq.tr hq3).q
