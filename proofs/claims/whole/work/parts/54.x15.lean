/-! CLASS: the replay runs -/
theorem ov_get {o : Nat → Int32} (h : OV o) {b : Option Nat} (hb : ∀ e, b = some e → e < 144) : oget o b = -1 ∨ 0 ≤ oget o b := by
  cases b with
  | none => exact Or.inl rfl
  | some e => exact h e (hb e rfl)
theorem ov_step {τ : mS} {W H ln m : Nat} {ctr : Prop} {o : Nat → Int32} (h : OV o) : OV (stepO τ W H ln m ctr o) := by
  intro c hc
  unfold stepO
  by_cases hg : grw τ (lwF (τ 64 0) (τ 54 0 m) ln ln) (¬ (sdP τ W H m ↔ ctr)) = 0
  · rw [ifp_t hg]; exact h c hc
  · rw [ifp_f hg, cpy_in hc]
    unfold stpF
    by_cases h1 : kdM τ W H m c = 1
    · rw [if_pos h1]; exact Or.inl rfl
    · rw [if_neg h1]
      by_cases h2 : kdM τ W H m c = 2
      · rw [if_pos h2]
        by_cases h3 : shoreP (kdM τ W H m) c
        · rw [ifp_t h3]
          exact ov_get h (fun e he => (nrF_lt _ _ _ _ he).1)
        · rw [ifp_f h3]
          split
          · exact ov_get h (fun e he => (np_fast _ _ _ _ he).1)
          · split
            · exact Or.inl rfl
            · exact h c hc
      · rw [if_neg h2]; exact h c hc
theorem ov_deed {τ : mS} {wt o : Nat → Int32} {d : Nat} (hd : 0 ≤ τ 60 0 d) (h : OV o) : OV (deO τ wt d o) := by
  intro c hc
  unfold deO
  by_cases h1 : τ 62 0 d = 0
  · rw [ifp_t h1]
    unfold dedF
    by_cases h2 : c < 144 ∧ inBox c (τ 58 0 d).toNatClampNeg (τ 59 0 d).toNatClampNeg ∧ wt c = 0 ∧ 0 ≤ o c
    · rw [ifp_t h2]; exact Or.inr hd
    · rw [ifp_f h2]; exact h c hc
  · rw [ifp_f h1]; exact h c hc
def FQ (σ s : mS) : Prop := ∀ g i, g ≠ 27 → g ≠ 29 → g ≠ 30 → s g i = σ g i
theorem FQ.rf {σ : mS} : FQ σ σ := fun _ _ _ _ _ => rfl
theorem FQ.tr {σ s t : mS} (h1 : FQ σ s) (h2 : FQ s t) : FQ σ t := fun g i a b c => (h2 g i a b c).trans (h1 g i a b c)
theorem FQ.gr {σ s : mS} {W H : Nat} (h : FQ σ s) (I : GR σ W H) : GR s W H := I.fr (h 1 0 (by decide) (by decide) (by decide)) (h 2 0 (by decide) (by decide) (by decide)) (h 3 0 (by decide) (by decide) (by decide))
theorem LVs.fr {σ s τ : mS} {W H mp : Nat} (h : FQ σ s) (I : LVs σ τ W H mp) : LVs s τ W H mp := by
  obtain ⟨h1, h2, h3⟩ := I
  refine ⟨?_, ?_, fun m hm => ?_⟩
  · rw [h 7 0 (by decide) (by decide) (by decide)]; exact h1
  · rw [h 7 0 (by decide) (by decide) (by decide)]; exact h2
  · rw [h 10 m (by decide) (by decide) (by decide), h 11 m (by decide) (by decide) (by decide), h 12 m (by decide) (by decide) (by decide)]
    exact h3 m hm
theorem LWs.fr {σ s τ : mS} {ln : Nat} (h : FQ σ s) (I : LWs σ τ ln) : LWs s τ ln := by
  unfold LWs at I ⊢
  rw [h 22 0 (by decide) (by decide) (by decide), h 23 0 (by decide) (by decide) (by decide), h 24 0 (by decide) (by decide) (by decide), h 25 0 (by decide) (by decide) (by decide), h 26 0 (by decide) (by decide) (by decide)]
  exact I
theorem DDs.fr {σ s τ : mS} {W H dn : Nat} (h : FQ σ s) (I : DDs σ τ W H dn) : DDs s τ W H dn := by
  unfold DDs DD1 at I ⊢
  rw [h 13 0 (by decide) (by decide) (by decide), h 14 0 (by decide) (by decide) (by decide), h 15 0 (by decide) (by decide) (by decide), h 16 0 (by decide) (by decide) (by decide), h 17 0 (by decide) (by decide) (by decide), h 18 0 (by decide) (by decide) (by decide), h 19 0 (by decide) (by decide) (by decide), h 20 0 (by decide) (by decide) (by decide), h 21 0 (by decide) (by decide) (by decide)]
  exact I
def ydF (σ : mS) (d : Nat) : Nat := (σ 19 0 d).toNatClampNeg
def odF (σ : mS) (j : Nat) : Nat := (σ 21 0 j).toNatClampNeg
def ysF (τ : mS) (m : Nat) : Nat := (τ 54 0 m).toNatClampNeg
theorem dds_dy {σ τ : mS} {W H dn : Nat} (h : DDs σ τ W H dn) : DY τ dn (ydF σ) (odF σ) := by
  obtain ⟨⟨h0, h30⟩, h1, h2, h3, h4⟩ := h
  have hy : ∀ d, d < dn → ∃ y, y ≤ 200 ∧ σ 19 0 d = nI y ∧ τ 61 0 d = nI y := fun d hd => by
    obtain ⟨L, T, R, B, y, ⟨p1, p2, p3, p4, p5⟩, -, -, -, ⟨u1, u2⟩, -⟩ := h1 d hd
    exact ⟨y, p5, u1, u2⟩
  refine ⟨fun d hd => ?_, fun j hj => ?_, fun i j hi hj => ?_, fun d hd => ?_⟩
  · obtain ⟨y, hy, e1, e2⟩ := hy d hd
    unfold ydF
    rw [e1, e2, nI_cl (by omega)]
    exact ⟨rfl, hy⟩
  · obtain ⟨d, hd, e⟩ := h2 j hj
    unfold odF
    rw [e, nI_cl (by omega)]
    exact hd
  · obtain ⟨a, ha, ea⟩ := h2 i (by omega)
    obtain ⟨b, hb, eb⟩ := h2 j hj
    obtain ⟨y1, hy1, e1, -⟩ := hy a ha
    obtain ⟨y2, hy2, e2, -⟩ := hy b hb
    have q := h3 i j hi hj a b ea eb (by omega) (by omega)
    unfold odF ydF
    rw [ea, eb, nI_cl (n := a) (by omega), nI_cl (n := b) (by omega), e1, e2, nI_cl (n := y1) (by omega), nI_cl (n := y2) (by omega)]
    rw [e1, e2] at q
    rcases q with q | ⟨q, r⟩
    · exact Or.inl ((nI_ltI (by omega) (by omega)).mp q)
    · exact Or.inr ⟨nI_inj (by omega) (by omega) q, r⟩
  · obtain ⟨j, hj, e⟩ := h4 d hd
    refine ⟨j, hj, ?_⟩
    unfold odF
    rw [e, nI_cl (by omega)]
theorem mi_my {τ : mS} {W H mp dn ln : Nat} (h : MI τ W H mp dn ln) : MY τ mp (ysF τ) := by
  obtain ⟨-, -, -, -, -, -, -, h8, h9, -⟩ := h
  have hy : ∀ m, m < mp → τ 54 0 m = nI (ysF τ m) ∧ ysF τ m ≤ 200 := fun m hm => by
    obtain ⟨y, hy, e⟩ := h8 m hm
    unfold ysF
    rw [e, nI_cl (by omega)]
    exact ⟨rfl, hy⟩
  refine ⟨hy, fun i j hi hj => ?_⟩
  have q := h9 i j hi hj
  have a := hy i (by omega)
  have b := hy j hj
  rw [a.1, b.1] at q
  exact (nI_ltI (by omega) (by omega)).mp q
/-- the replay at a place -/
def RS (β : mS) (W N : Nat) (ct : Int32) (mn dd : Nat) (o : Nat → Int32) (s : mS) : Prop := FQ β s ∧ s 30 0 = β 30 0 ∧ (s 27 0 7 = nI mn ∧ s 27 0 8 = nI dd ∧ s 27 0 9 = ct) ∧ OR W N (s 29 0) o ∧ OV o
/-- the replay at the end of a year -/
def RE (β τ : mS) (W H mp dn ln : Nat) (ct : Int32) (Y : Nat) (s : mS) : Prop := ∃ y mn dd, y ≤ Y ∧ Mid τ W H mp dn ln ct (ysF τ) (ydF β) (odF β) y mn dd (upO τ W H mp dn ln ct (Y + 1)) ∧ RS β W (W * H) ct mn dd (upO τ W H mp dn ln ct (Y + 1)) s ∧ mapInF (τ 54 0) (nI Y) mp = mn ∧ (∀ m, mn < m → m < mp → Y < ysF τ m) ∧ (∀ j, dd ≤ j → j < dn → Y < ydF β (odF β j))
/-- all that both hold alike -/
def ST (β τ : mS) (W H mp dn ln : Nat) : Prop := GR β W H ∧ LVs β τ W H mp ∧ LWs β τ ln ∧ DDs β τ W H dn ∧ MI τ W H mp dn ln
theorem ev_runTo (β τ σ : mS) {W H mp dn ln y mn dd Y : Nat} {ct : Int32} {o : Nat → Int32} (hS : ST β τ W H mp dn ln) (hM : Mid τ W H mp dn ln ct (ysF τ) (ydF β) (odF β) y mn dd o) (hR : RS β W (W * H) ct mn dd o σ) (hyY : y ≤ Y) (hY : Y ≤ 200) : Ev kX5_runTo [xP, mI (nI Y)] σ (fun r s => ∃ a : Int32, r = some (mI a) ∧ (a = 0 ∨ a = 1) ∧ (a = 0 → s = σ) ∧ (a ≠ 0 → mn + dd < (s 27 0 7).toNatClampNeg + (s 27 0 8).toNatClampNeg) ∧ RE β τ W H mp dn ln ct Y s) := by
  obtain ⟨I, hV, hL, hD, hMI⟩ := hS
  have hMY := mi_my hMI
  have hDY := dds_dy hD
  have hmp := hV.1.2
  have hdn := hD.1.2
  obtain ⟨E0, hE0⟩ : ∃ E0, E0 = mn + dd := ⟨_, rfl⟩
  rw [← hE0]
  refine Ev.intro fun G hG => hG.run ?_
  have loop : ∀ n i y mn dd o s (a : Int32), i + n = 40 → i + (mp - 1 - mn) + (dn - dd) ≤ 39 → Mid τ W H mp dn ln ct (ysF τ) (ydF β) (odF β) y mn dd o → y ≤ Y → RS β W (W * H) ct mn dd o s → (a = 0 ∨ a = 1) → (a = 0 → s = σ) → E0 ≤ mn + dd → (a ≠ 0 → E0 < mn + dd) → ∀ z4 z5 : Option mV, G 4 [some xP, some (mI (nI Y)), some (mI a), some (mI (nI i)), z4, z5] [] s := by
    intro n
    induction n with
    | zero => intro i y mn dd o s a h1 h2; omega
    | succ n ih =>
      intro i y mn dd o s a hi hcnt hM hyY hR ha ha0 hle hpr z4 z5
      have hmn := hM.1.2.1
      have hdd := hM.1.2.2
      obtain ⟨hF, h30, ⟨e7, e8, e9⟩, hO, hov⟩ := hR
      refine hG.run (br_f (nI_ge (b := 40) (by omega) (by omega)) ?_)
      have c1 : Ev kX5_nextStepYear [xP] s (fun r t => r = some (mI (nI (if mn + 1 < mp then ysF τ (mn + 1) else 201))) ∧ t = s) := by
        have h := ev_nextStep s τ (hV.fr hF) e7 (by omega)
        by_cases q : mn + 1 < mp
        · rw [if_pos q, (hMY.1 _ q).1] at h
          rw [if_pos q]; exact h
        · rw [if_neg q] at h
          rw [if_neg q]; exact h
      refine call_of c1 ?_
      have c2 : Ev kX5_nextDeedYear [xP] s (fun r t => r = some (mI (nI (if dd < dn then ydF β (odF β dd) else 201))) ∧ t = s) := by
        have h := ev_nextDeed s τ (hD.fr hF) e8 hdd
        rw [hF 19 0 (by decide) (by decide) (by decide), hF 21 0 (by decide) (by decide) (by decide)] at h
        by_cases q : dd < dn
        · have h9 : β 19 0 (β 21 0 dd).toNatClampNeg = nI (ydF β (odF β dd)) := by
            obtain ⟨L, T, R, B, y, ⟨p1, p2, p3, p4, p5⟩, -, -, -, ⟨u1, u2⟩, -⟩ := hD.2.1 _ (hDY.2.1 dd q)
            unfold ydF
            rw [u1, nI_cl (by omega), ← u1]
            rfl
          rw [if_pos q, h9] at h
          rw [if_pos q]; exact h
        · rw [if_neg q] at h
          rw [if_neg q]; exact h
      refine call_of c2 ?_
      have hb1 : (if mn + 1 < mp then ysF τ (mn + 1) else 201) ≤ 201 := by
        split
        · rename_i q; have := (hMY.1 _ q).2; omega
        · omega
      have hb2 : (if dd < dn then ydF β (odF β dd) else 201) ≤ 201 := by
        split
        · rename_i q; have := (hDY.1 _ (hDY.2.1 dd q)).2; omega
        · omega
      generalize hs1 : (if mn + 1 < mp then ysF τ (mn + 1) else 201) = SY at hb1 ⊢
      generalize hs2 : (if dd < dn then ydF β (odF β dd) else 201) = DYr at hb2 ⊢
      have hS1 : ∀ m, mn < m → m < mp → SY ≤ ysF τ m := fun m p q => by
        rw [← hs1, if_pos (by omega)]
        by_cases r : m = mn + 1
        · rw [r]; exact Nat.le_refl _
        · exact Nat.le_of_lt (hMY.2 _ _ (by omega) q)
      have hS2 : ∀ j, dd ≤ j → j < dn → DYr ≤ ydF β (odF β j) := fun j p q => by
        rw [← hs2, if_pos (by omega)]
        by_cases r : j = dd
        · rw [r]; exact Nat.le_refl _
        · have := hDY.2.2.1 dd j (by omega) q
          omega
      refine And.intro (fun c3 => ?_) (fun c3 => ?_)
      · replace c3 : (if nI DYr < nI SY then nI DYr else nI SY) ≤ nI Y := c3
        rw [min_nI (by omega) (by omega)] at c3
        have c3 := le_of_le c3 (by omega)
        refine And.intro (fun c4 => ?_) (fun c4 => ?_)
        · replace c4 : nI DYr < nI SY := c4
          have c4 := (nI_ltI (by omega) (by omega)).mp c4
          have hd : dd < dn := by
            by_cases q : dd < dn
            · exact q
            · rw [if_neg q] at hs2; omega
          rw [if_pos hd] at hs2
          have hod := hDY.2.1 dd hd
          obtain ⟨L, T, R, B, y', ⟨p1, p2, p3, p4, p5⟩, -, -, ⟨u1, u2⟩, -⟩ := hD.2.1 _ hod
          refine call_ex (ev_takeDeed s τ (mn := mn) (dd := dd) (d := odF β dd) (o := o) (hF.gr I) (hV.fr hF) (hD.fr hF) e7 hmn e8 hd hod ?_ hO hov) ?_
          · rw [hF 21 0 (by decide) (by decide) (by decide)]
            obtain ⟨d, hd', e⟩ := hD.2.2.1 dd hd
            unfold odF
            rw [e, nI_cl (by omega)]
          · rintro r s' ⟨rfl, f, rfl, hf⟩
            have hm2 := mid_deed hMY hDY hM hd (fun m p q => by have := hS1 m p q; omega)
            have h5 := ih (i + 1) _ mn (dd + 1) _ (mput (mput s 27 0 (upd (s 27 0) 8 (nI (dd + 1)))) 29 0 f) 1 (by omega) (by omega) hm2 (by omega) ⟨?_, ?_, ⟨?_, ?_, ?_⟩, hf, ov_deed u2 hov⟩ (Or.inr rfl) (fun q => absurd q (by decide)) (by omega) (fun _ => by omega) (some (mI (nI SY))) (some (mI (nI DYr)))
            · rw [← nI_1] at h5
              exact h5
            · intro g i a b c
              rw [mput_ng _ _ _ _ b, mput_ng _ _ _ _ a, hF g i a b c]
            · rw [mput_ng _ _ _ _ (by decide), mput_ng _ _ _ _ (by decide), h30]
            · rw [mput_ng _ _ _ _ (by decide), mput_eq, upd_ne _ _ (by decide), e7]
            · rw [mput_ng _ _ _ _ (by decide), mput_eq, upd_eq]
            · rw [mput_ng _ _ _ _ (by decide), mput_eq, upd_ne _ _ (by decide), e9]
        · replace c4 : ¬ nI DYr < nI SY := c4
          have c4 : SY ≤ DYr := by
            by_cases q : DYr < SY
            · exact absurd (nI_lt q (by omega)) c4
            · omega
          have hm : mn + 1 < mp := by
            by_cases q : mn + 1 < mp
            · exact q
            · rw [if_neg q] at hs1; omega
          rw [if_pos hm] at hs1
          refine call_ex (ev_takeStep s τ (mn := mn) (ct := ct) (o := o) (hF.gr I) (hV.fr hF) (hL.fr hF) e7 hm e9 hO) ?_
          rintro r s' ⟨rfl, f, rfl, hf⟩
          have hm2 := mid_step hMY hDY hM hm (fun j p q => by have := hS2 j p q; omega)
          have h5 := ih (i + 1) _ (mn + 1) dd _ (mput (mput s 27 0 (upd (s 27 0) 7 (nI (mn + 1)))) 29 0 f) 1 (by omega) (by omega) hm2 (by omega) ⟨?_, ?_, ⟨?_, ?_, ?_⟩, hf, ov_step hov⟩ (Or.inr rfl) (fun q => absurd q (by decide)) (by omega) (fun _ => by omega) (some (mI (nI SY))) (some (mI (nI DYr)))
          · rw [← nI_1] at h5
            exact h5
          · intro g i a b c
            rw [mput_ng _ _ _ _ b, mput_ng _ _ _ _ a, hF g i a b c]
          · rw [mput_ng _ _ _ _ (by decide), mput_ng _ _ _ _ (by decide), h30]
          · rw [mput_ng _ _ _ _ (by decide), mput_eq, upd_eq]
          · rw [mput_ng _ _ _ _ (by decide), mput_eq, upd_ne _ _ (by decide), e8]
          · rw [mput_ng _ _ _ _ (by decide), mput_eq, upd_ne _ _ (by decide), e9]
      · replace c3 : ¬ (if nI DYr < nI SY then nI DYr else nI SY) ≤ nI Y := c3
        rw [min_nI (by omega) (by omega)] at c3
        have c3 := lt_of_nle c3 (by omega)
        have g1 : ∀ m, mn < m → m < mp → Y < ysF τ m := fun m p q => by have := hS1 m p q; omega
        have g2 : ∀ j, dd ≤ j → j < dn → Y < ydF β (odF β j) := fun j p q => by have := hS2 j p q; omega
        have hup := mid_end hMY hDY hM (Y := Y + 1) (by omega) (by omega) g1 g2 (by omega)
        have hmap := mid_map hMY hM hyY hY g1
        refine ⟨a, ?_, ha, ha0, fun q => by rw [e7, e8, nI_cl (by omega), nI_cl (by omega)]; exact hpr q, y, mn, dd, hyY, ?_, ?_, hmap, g1, g2⟩
        · rcases ha with q | q
          · rw [q]; rfl
          · rw [q]; rfl
        · rw [← hup]; exact hM
        · rw [← hup]; exact ⟨hF, h30, ⟨e7, e8, e9⟩, hO, hov⟩
  exact loop 40 0 y mn dd o σ 0 (by omega) (by have := hM.1.2.1; omega) hM hyY hR (Or.inl rfl) (fun _ => rfl) (by omega) (fun q => absurd rfl q) none none
