/-! CLASS: chain -/
theorem ev_xchain (σ τ : mS) {W H mp dn ln : Nat} (hS : ST σ τ W H mp dn ln) (hF : FO σ τ W (W * H)) (x y : Int32) (post : Option mV → mS → Prop)
    (hbad : ¬ ((vp_in x W ∧ vp_in y H) ∧ 0 < mp) → post (some (mI (-1))) σ)
    (hgo : ∀ X Y, X < W → Y < H → x = nI X → y = nI Y → 0 < mp → ∀ s n row, (n, row) = chF (fun yr => upO τ W H mp dn ln (-1) (yr + 1) (12 * Y + X)) (ysF τ 0) (σ 31 0) 201 → n ≤ 80 → CX σ s → s 0 0 7 = nI n → s 31 0 = row → post (some (mI (nI (n / 2)))) s) : Ev kX7_chain [xX, mI x, mI y] σ post := by
  have I := hS.1
  have hV := hS.2.1
  have hN := gr_le I.1.2.2 I.2.1.2.2
  have hmp := hV.1.2
  have hdn := hS.2.2.2.1.1.2
  have hMY := mi_my hS.2.2.2.2
  refine Ev.intro fun G hG => hG.run ?_
  refine call_of (ev_has σ x y I.1.1 I.1.2.2 I.2.1.1 I.2.1.2.2) ?_
  refine And.intro (fun c1 => hbad (fun q => b_f c1 q.1)) (fun c1 => ?_)
  have c1 := b_t c1
  refine call_of (ev_isEmpty σ hV.1.1 hV.1.2) ?_
  refine And.intro (fun c3 => ?_) (fun c3 => hbad (fun q => by have := b_t c3; omega))
  have c3 : 0 < mp := by have := b_f c3; omega
  obtain ⟨X, hX, rfl⟩ := (vp_nI (by have := I.1.2.2; omega)).mp c1.1
  obtain ⟨Y, hY, rfl⟩ := (vp_nI (by have := I.2.1.2.2; omega)).mp c1.2
  have hlt := at_lt (W := W) (H := H) hX hY
  have hgo := hgo X Y hX hY rfl rfl c3
  refine call_of (ev_cellAt σ X Y W I.1.1) ?_
  have hy0 := hMY.1 0 c3
  refine And.intro (show vp_in (nI 0) 10 from vp_in_nI (by omega) (by omega)) ?_
  have hyr : σ 10 0 0 = nI (ysF τ 0) := by rw [(hV.2.2 0 c3).2.1, hy0.1]
  have hcall := ev_runFirst σ τ (Y := ysF τ 0) (-1) hS hF c3 hy0.2
  rw [← hyr] at hcall
  refine call_ex hcall ?_
  rintro r s ⟨rfl, hE⟩
  generalize hy00 : ysF τ 0 = y0 at hgo hE hyr hy0
  generalize ho : (fun yr => upO τ W H mp dn ln (-1) (yr + 1) (12 * Y + X)) = o at hgo
  have hoy : ∀ Y' β s, RE β τ W H mp dn ln (-1) Y' s → s 29 0 (Y * W + X) = o Y' := fun Y' β s h => by
    obtain ⟨-, -, -, -, -, ⟨-, -, -, hO, -⟩, -⟩ := h
    rw [hO _ hlt, emb_at hX, ← ho]
  have v : vp_in (nI (Y * W + X)) 144 := vp_in_nI (by omega) (by omega)
  refine And.intro v ?_
  rw [nI_cl (by omega), hoy y0 σ s hE]
  have hcxs : ∀ g i, g ≠ 27 → g ≠ 29 → g ≠ 30 → s g i = σ g i := hE.fq
  have hs31 : s 31 0 = σ 31 0 := hcxs 31 0 (by decide) (by decide) (by decide)
  have hs10 : s 10 0 0 = nI y0 := by rw [hcxs 10 0 (by decide) (by decide) (by decide), hyr]
  have hc2 := ev_tell (mput s 0 0 (upd (s 0 0) 7 0)) (o y0) (nI y0) (rw := 0) rfl (by omega)
  rw [← hyr] at hc2
  refine call_of hc2 ?_
  rw [hyr]
  have loop : ∀ n yr β s, yr + n = 201 → y0 + 1 ≤ yr → ST β τ W H mp dn ln → CX σ β → RE β τ W H mp dn ln (-1) (yr - 1) s → β 0 0 7 = nI (chF o y0 (σ 31 0) yr).1 → β 31 0 = (chF o y0 (σ 31 0) yr).2 → (chF o y0 (σ 31 0) yr).1 ≤ 2 * (1 + ((s 27 0 7).toNatClampNeg + (s 27 0 8).toNatClampNeg)) → G 88 [some xX, some (mI (nI X)), some (mI (nI Y)), some (mI (nI (Y * W + X))), some (mI (nI y0)), some (mI (o (yr - 1))), some (mI (nI yr))] [] s := by
    intro n
    induction n with
    | zero =>
      intro yr β s hy h1 hSβ hcx hE h7 h31 hb
      have : yr = 201 := by omega
      subst this
      have h80 : (chF o y0 (σ 31 0) 201).1 ≤ 80 := by
        rcases hE.at with ⟨-, q1, q2⟩ | q | q
        · omega
        · omega
        · omega
      have e7 : s 0 0 7 = nI (chF o y0 (σ 31 0) 201).1 := by rw [hE.fq 0 0 (by decide) (by decide) (by decide), h7]
      refine hG.run (br_t (nI_lt (a := 200) (by omega) (by omega)) ?_)
      have h := hgo s (chF o y0 (σ 31 0) 201).1 (chF o y0 (σ 31 0) 201).2 rfl h80 (fun g i a1 a2 a3 a4 a5 a6 a7 a8 => by rw [hE.fq g i a5 a6 a7, hcx g i a1 a2 a3 a4 a5 a6 a7 a8]) e7 (by rw [hE.fq 31 0 (by decide) (by decide) (by decide), h31])
      rw [← div2 (by omega), ← e7] at h
      exact And.intro (by decide) h
    | succ n ih =>
      intro yr β s hy h1 hSβ hcx hE h7 h31 hb
      refine hG.run (br_f (nI_nlt (a := 200) (by omega) (by omega)) ?_)
      have hE0 := hE
      obtain ⟨y1, mn, dd, hy1, hMid, hRS, -⟩ := hE
      have e7 := hRS.2.2.1.1
      have e8 := hRS.2.2.1.2.1
      have hmn := hMid.1.2.1
      have hdd := hMid.1.2.2
      refine call_ex (ev_runTo β τ s (Y := yr) hSβ hMid hRS (by omega) (by omega)) ?_
      rintro r s2 ⟨a, rfl, ha, ha0, hpr, hE2⟩
      have hle : (s 27 0 7).toNatClampNeg + (s 27 0 8).toNatClampNeg = mn + dd := by rw [e7, e8, nI_cl (by omega), nI_cl (by omega)]
      have hlast := ch_last o y0 (σ 31 0) yr (by omega)
      have hstep := ch_s o y0 (σ 31 0) yr
      refine And.intro v ?_
      rw [nI_cl (by omega)]
      rw [hoy yr β s2 hE2]
      refine And.intro (fun c4 => ?_) (fun c4 => ?_)
      · replace c4 : o yr = o (yr - 1) := c4
        rw [if_neg (by rw [hlast]; exact fun q => q.elim (fun q => by omega) (fun q => q.2 c4))] at hstep
        have h5 := ih (yr + 1) β s2 (by omega) (by omega) hSβ hcx (by rw [show yr + 1 - 1 = yr by omega]; exact hE2) (by rw [hstep]; exact h7) (by rw [hstep]; exact h31) (by
          rw [hstep]
          rcases ha with q | q
          · rw [ha0 q]; exact hb
          · have := hpr (by rw [q]; decide)
            omega)
        rw [show yr + 1 - 1 = yr by omega, c4, ← nI_1] at h5
        exact h5
      · replace c4 : ¬ o yr = o (yr - 1) := c4
        have ha1 : ¬ a = 0 := fun q => by
          have hs := ha0 q
          subst hs
          have p1 := hoy yr β s2 hE2
          have p2 := hoy (yr - 1) β s2 hE0
          exact c4 (p1.symm.trans p2)
        have hpr := hpr ha1
        rw [if_pos (by rw [hlast]; exact Or.inr ⟨by omega, c4⟩)] at hstep
        have hE2' := hE2.at
        have hb2 : (chF o y0 (σ 31 0) yr).1 + 2 ≤ 80 := by
          rcases hE2' with ⟨-, q1, q2⟩ | q | q
          · omega
          · omega
          · omega
        refine And.intro v ?_
        rw [nI_cl (by omega), hoy yr β s2 hE2]
        refine call_of (ev_tell s2 (o yr) (nI yr) (rw := (chF o y0 (σ 31 0) yr).1) (by rw [hE2.fq 0 0 (by decide) (by decide) (by decide), h7]) hb2) ?_
        have h5 := ih (yr + 1) (tellS β (chF o y0 (σ 31 0) yr).1 (o yr) (nI yr)) (tellS s2 (chF o y0 (σ 31 0) yr).1 (o yr) (nI yr)) (by omega) (by omega) ?_ ?_ ?_ ?_ ?_ ?_
        · rw [show yr + 1 - 1 = yr by omega, ← nI_1] at h5
          exact h5
        · exact hSβ
        · intro g i a1 a2 a3 a4 a5 a6 a7 a8
          unfold tellS
          rw [mput_ng _ _ _ _ a1, mput_ng _ _ _ _ a8, hcx g i a1 a2 a3 a4 a5 a6 a7 a8]
        · rw [show yr + 1 - 1 = yr by omega]
          unfold tellS
          rw [hE2.fq 31 0 (by decide) (by decide) (by decide), hE2.fq 0 0 (by decide) (by decide) (by decide)]
          exact RE.tell _ _ hE2
        · rw [hstep]; rfl
        · rw [hstep]
          show upd (upd (β 31 0) _ _) _ _ = _
          rw [h31]
        · rw [hstep]
          show (chF o y0 (σ 31 0) yr).1 + 2 ≤ 2 * (1 + ((s2 27 0 7).toNatClampNeg + (s2 27 0 8).toNatClampNeg))
          omega
  have h := loop (200 - y0) (y0 + 1) (mput (mput σ 31 0 (upd (upd (σ 31 0) 0 (o y0)) 1 (nI y0))) 0 0 (upd (upd (σ 0 0) 7 0) 7 (nI 2))) (mput (mput s 31 0 (upd (upd (σ 31 0) 0 (o y0)) 1 (nI y0))) 0 0 (upd (upd (σ 0 0) 7 0) 7 (nI 2))) (by omega) (by omega) hS ?_ ?_ ?_ ?_ ?_
  · rw [show y0 + 1 - 1 = y0 by omega, ← nI_1] at h
    have e0 : s 0 0 = σ 0 0 := hcxs 0 0 (by decide) (by decide) (by decide)
    show G 88 [some xX, some (mI (nI X)), some (mI (nI Y)), some (mI (nI (Y * W + X))), some (mI (σ 10 0 0)), some (mI (o y0)), some (mI (σ 10 0 0 + 1))] [] (mput (mput (mput s 0 0 (upd (s 0 0) 7 0)) 31 0 (upd (upd (s 31 0) 0 (o y0)) 1 (nI y0))) 0 0 (upd (upd (s 0 0) 7 0) 7 (nI 2)))
    rw [mput_cover _ 0 0 31 0 _ _ _ (Or.inl (by omega)), hs31, e0, hyr]
    exact h
  · intro g i a1 a2 a3 a4 a5 a6 a7 a8
    rw [mput_ng _ _ _ _ a1, mput_ng _ _ _ _ a8]
  · rw [show y0 + 1 - 1 = y0 by omega]
    exact RE.tell _ _ hE
  · rw [ch_1]; rfl
  · rw [ch_1]; rfl
  · rw [ch_1]
    show 2 ≤ _
    omega
