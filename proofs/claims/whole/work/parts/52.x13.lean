/-! CLASS: counts in the replay -/
theorem ev_byWater (σ τ : mS) {W H mp m k : Nat} (I : GR σ W H) (hV : LVs σ τ W H mp) (hm : m < mp) (hk : k < W * H) : Ev kX5_isByWater [xP, mR 10 m, mI (nI k)] σ (fun r s => r = some (mI (b2i (bwP W H (wtr τ m) (emb W k) 144))) ∧ s = σ) := by
  have I0 := I
  obtain ⟨⟨hW, hW0, hW1⟩, ⟨hH, hH0, hH1⟩, hc, hkk⟩ := I
  have hN := gr_le hW1 hH1
  refine Ev.intro fun G hG => hG.run ?_
  have inner : ∀ q sd, sd + q = 4 → (∀ s, s < sd → ∀ x, bsF W H k s = some x → wtr τ m (emb W x) = 0) → ∀ z4 : Option mV, G 2 [some xP, some (mR 10 m), some (mI (nI k)), some (mI (nI sd)), z4] [] σ := by
    intro q
    induction q with
    | zero =>
      intro sd hsd hs z4
      have : sd = 4 := by omega
      subst this
      refine hG.run (br_t (Int32.le_refl _) ⟨?_, rfl⟩)
      rw [b2i_f]
      · rfl
      · rintro ⟨d, hd, hon, hw, ha⟩
        obtain ⟨s, hs4, hsb⟩ := (bsF_ok hW0 hW1 hH1 hk).2 (une W d) (une_lt hon) (by rw [emb_une hon]; exact ha)
        have := hs s hs4 _ hsb
        rw [emb_une hon] at this
        exact hw this
    | succ q ihq =>
      intro sd hsd hs z4
      refine hG.run (br_f (nI_ge (b := 4) (by omega) (by omega)) ?_)
      refine call_of (ev_beside σ (k := k) (sd := sd) I0 hk (by omega)) ?_
      cases hb : bsF W H k sd with
      | none =>
        refine br_t rfl ?_
        have h5 := ihq (sd + 1) (by omega) (fun s hs' x hx => by
          by_cases hss : s = sd
          · subst hss; rw [hb] at hx; cases hx
          · exact hs s (by omega) x hx) (some (mI (-1)))
        rw [← nI_1] at h5
        exact h5
      | some x =>
        obtain ⟨hxN, hadj⟩ := (bsF_ok hW0 hW1 hH1 hk).1 sd x (by omega) hb
        refine br_f (nI_neg (x := x) (by omega)) ?_
        refine call_of (ev_isDry σ (m := m) (k := x) (by omega)) ?_
        refine And.intro (fun c => ?_) (fun c => ?_)
        · have c := (dry_iff I0 hV hm hxN).mp (b_t c)
          have h5 := ihq (sd + 1) (by omega) (fun s hs' x' hx => by
            by_cases hss : s = sd
            · subst hss; rw [hb] at hx; cases hx; exact c
            · exact hs s (by omega) x' hx) (some (mI (nI x)))
          rw [← nI_1] at h5
          exact h5
        · have c := fun q => b_f c ((dry_iff I0 hV hm hxN).mpr q)
          refine ⟨?_, rfl⟩
          rw [b2i_t ⟨emb W x, emb_lt hW0 hW1 hH1 hxN, emb_on hW0 hW1 hxN, c, hadj⟩]; rfl
  exact inner 4 0 (by omega) (fun s hs => absurd hs (by omega)) none
theorem ar_emb {W H : Nat} (hW1 : W ≤ 12) (hH1 : H ≤ 12) (P : Nat → Prop) (hP : ∀ c, P c → onP W H c) : fo (fun c (acc : Int32) => acc + b2i (P c)) 0 144 = fo (fun k acc => acc + b2i (P (emb W k))) 0 (W * H) := by
  rw [fo_emb hW1 hH1]
  intro c _ hno x
  rw [b2i_f (fun q => hno (hP c q)), Int32.add_zero]
theorem ev_dryOf (σ τ : mS) (its : Int32) {W H mp mn : Nat} {o : Nat → Int32} (I : GR σ W H) (hV : LVs σ τ W H mp) (hmn : σ 27 0 7 = nI mn) (hlt : mn < mp) (hO : OR W (W * H) (σ 29 0) o) : Ev kX5_dryOf [xP, mI its] σ (fun r s => r = some (mI (arF W H (wtr τ mn) o its 144)) ∧ s = σ) := by
  have I0 := I
  obtain ⟨⟨hW, hW0, hW1⟩, ⟨hH, hH0, hH1⟩, hc, hkk⟩ := I
  have hN := gr_le hW1 hH1
  have hmp := hV.1.2
  have ea : arF W H (wtr τ mn) o its 144 = fo (fun k acc => acc + b2i (onP W H (emb W k) ∧ wtr τ mn (emb W k) = 0 ∧ o (emb W k) = its)) 0 (W * H) := ar_emb hW1 hH1 (fun c => onP W H c ∧ wtr τ mn c = 0 ∧ o c = its) (fun c q => q.1)
  rw [ea]
  refine Ev.intro fun G hG => hG.run ?_
  refine And.intro (show vp_in (σ 27 0 7) 10 by rw [hmn]; exact vp_in_nI (by omega) (by omega)) ?_
  have em : (σ 27 0 (5, 7).snd).toNatClampNeg = mn := by
    show (σ 27 0 7).toNatClampNeg = mn
    rw [hmn]; exact nI_cl (by omega)
  rw [em]
  have key := loop_up (G := G) 18 (W * H) (fun i => [some xP, some (mI its), some (mR 10 mn), some (mI (fo (fun k acc => acc + b2i (onP W H (emb W k) ∧ wtr τ mn (emb W k) = 0 ∧ o (emb W k) = its)) 0 i)), some (mI (nI i))]) (fun _ => σ) ?_ ?_ 0 (by omega)
  · exact key
  · intro i hi ih
    rw [fo_succ, ← nI_1] at ih
    refine hG.run (br_f ?_ ?_)
    · show ¬ σ 1 0 2 ≤ nI i
      rw [hc]; exact nI_ge hi (by omega)
    · refine call_of (ev_isDry σ (m := mn) (k := i) (by omega)) ?_
      refine And.intro (fun c => ?_) (fun c => ?_)
      · rw [b2i_f (fun q => b_f c ((dry_iff I0 hV hlt hi).mpr q.2.1)), Int32.add_zero] at ih
        exact ih
      · have c := (dry_iff I0 hV hlt hi).mp (b_t c)
        refine And.intro (vp_in_nI (by omega) (by omega)) ?_
        rw [nI_cl (by omega)]
        refine And.intro (fun c2 => ?_) (fun c2 => ?_)
        · replace c2 : ¬ σ 29 0 i = its := c2
          rw [hO i hi] at c2
          rw [b2i_f (fun q => c2 q.2.2), Int32.add_zero] at ih
          exact ih
        · replace c2 : σ 29 0 i = its := c2
          rw [hO i hi] at c2
          rw [b2i_t ⟨emb_on hW0 hW1 hi, c, c2⟩] at ih
          exact ih
  · refine hG.run (br_t ?_ ⟨rfl, rfl⟩)
    show σ 1 0 2 ≤ nI (W * H)
    rw [hc]; exact Int32.le_refl _
theorem ev_dryByWater (σ τ : mS) (its : Int32) {W H mp mn : Nat} {o : Nat → Int32} (I : GR σ W H) (hV : LVs σ τ W H mp) (hmn : σ 27 0 7 = nI mn) (hlt : mn < mp) (hO : OR W (W * H) (σ 29 0) o) : Ev kX5_dryByWaterOf [xP, mI its] σ (fun r s => r = some (mI (frF W H (wtr τ mn) o its 144)) ∧ s = σ) := by
  have I0 := I
  obtain ⟨⟨hW, hW0, hW1⟩, ⟨hH, hH0, hH1⟩, hc, hkk⟩ := I
  have hN := gr_le hW1 hH1
  have hmp := hV.1.2
  have ea : frF W H (wtr τ mn) o its 144 = fo (fun k acc => acc + b2i (onP W H (emb W k) ∧ wtr τ mn (emb W k) = 0 ∧ o (emb W k) = its ∧ bwP W H (wtr τ mn) (emb W k) 144)) 0 (W * H) := ar_emb hW1 hH1 (fun c => onP W H c ∧ wtr τ mn c = 0 ∧ o c = its ∧ bwP W H (wtr τ mn) c 144) (fun c q => q.1)
  rw [ea]
  refine Ev.intro fun G hG => hG.run ?_
  refine And.intro (show vp_in (σ 27 0 7) 10 by rw [hmn]; exact vp_in_nI (by omega) (by omega)) ?_
  have em : (σ 27 0 (5, 7).snd).toNatClampNeg = mn := by
    show (σ 27 0 7).toNatClampNeg = mn
    rw [hmn]; exact nI_cl (by omega)
  rw [em]
  have key := loop_up (G := G) 18 (W * H) (fun i => [some xP, some (mI its), some (mR 10 mn), some (mI (fo (fun k acc => acc + b2i (onP W H (emb W k) ∧ wtr τ mn (emb W k) = 0 ∧ o (emb W k) = its ∧ bwP W H (wtr τ mn) (emb W k) 144)) 0 i)), some (mI (nI i))]) (fun _ => σ) ?_ ?_ 0 (by omega)
  · exact key
  · intro i hi ih
    rw [fo_succ, ← nI_1] at ih
    refine hG.run (br_f ?_ ?_)
    · show ¬ σ 1 0 2 ≤ nI i
      rw [hc]; exact nI_ge hi (by omega)
    · refine call_of (ev_isDry σ (m := mn) (k := i) (by omega)) ?_
      refine And.intro (fun c => ?_) (fun c => ?_)
      · rw [b2i_f (fun q => b_f c ((dry_iff I0 hV hlt hi).mpr q.2.1)), Int32.add_zero] at ih
        exact ih
      · have c := (dry_iff I0 hV hlt hi).mp (b_t c)
        refine And.intro (vp_in_nI (by omega) (by omega)) ?_
        rw [nI_cl (by omega)]
        refine And.intro (fun c2 => ?_) (fun c2 => ?_)
        · replace c2 : ¬ σ 29 0 i = its := c2
          rw [hO i hi] at c2
          rw [b2i_f (fun q => c2 q.2.2.1), Int32.add_zero] at ih
          exact ih
        · replace c2 : σ 29 0 i = its := c2
          rw [hO i hi] at c2
          refine call_of (ev_byWater σ τ I0 hV hlt hi) ?_
          refine And.intro (fun c3 => ?_) (fun c3 => ?_)
          · rw [b2i_f (fun q => b_f c3 q.2.2.2), Int32.add_zero] at ih
            exact ih
          · rw [b2i_t ⟨emb_on hW0 hW1 hi, c, c2, b_t c3⟩] at ih
            exact ih
  · refine hG.run (br_t ?_ ⟨rfl, rfl⟩)
    show σ 1 0 2 ≤ nI (W * H)
    rw [hc]; exact Int32.le_refl _
theorem ev_differing (σ : mS) {W H : Nat} {o o2 : Nat → Int32} (I : GR σ W H) (hO : OR W (W * H) (σ 29 0) o) (hO2 : OR W (W * H) (σ 30 0) o2) : Ev kX5_differing [xP] σ (fun r s => r = some (mI (unN W H o o2 144)) ∧ s = σ) := by
  have I0 := I
  obtain ⟨⟨hW, hW0, hW1⟩, ⟨hH, hH0, hH1⟩, hc, hkk⟩ := I
  have hN := gr_le hW1 hH1
  have ea : unN W H o o2 144 = fo (fun k acc => acc + b2i (onP W H (emb W k) ∧ ¬ o (emb W k) = o2 (emb W k))) 0 (W * H) := ar_emb hW1 hH1 (fun c => onP W H c ∧ ¬ o c = o2 c) (fun c q => q.1)
  rw [ea]
  refine Ev.intro fun G hG => hG.run ?_
  have key := loop_up (G := G) 4 (W * H) (fun i => [some xP, some (mI (fo (fun k acc => acc + b2i (onP W H (emb W k) ∧ ¬ o (emb W k) = o2 (emb W k))) 0 i)), some (mI (nI i))]) (fun _ => σ) ?_ ?_ 0 (by omega)
  · exact key
  · intro i hi ih
    rw [fo_succ, ← nI_1] at ih
    have v : vp_in (nI i) 144 := vp_in_nI (by omega) (by omega)
    refine hG.run (br_f ?_ ?_)
    · show ¬ σ 1 0 2 ≤ nI i
      rw [hc]; exact nI_ge hi (by omega)
    · refine And.intro v (And.intro v ?_)
      rw [nI_cl (by omega)]
      refine And.intro (fun c => ?_) (fun c => ?_)
      · replace c : σ 29 0 i = σ 30 0 i := c
        rw [hO i hi, hO2 i hi] at c
        rw [b2i_f (fun q => q.2 c), Int32.add_zero] at ih
        exact ih
      · replace c : ¬ σ 29 0 i = σ 30 0 i := c
        rw [hO i hi, hO2 i hi] at c
        rw [b2i_t ⟨emb_on hW0 hW1 hi, c⟩] at ih
        exact ih
  · refine hG.run (br_t ?_ ⟨rfl, rfl⟩)
    show σ 1 0 2 ≤ nI (W * H)
    rw [hc]; exact Int32.le_refl _
theorem ev_nextStep (σ τ : mS) {W H mp mn : Nat} (hV : LVs σ τ W H mp) (hmn : σ 27 0 7 = nI mn) (hlt : mn < 10) : Ev kX5_nextStepYear [xP] σ (fun r s => r = some (mI (if mn + 1 < mp then τ 54 0 (mn + 1) else 201)) ∧ s = σ) := by
  have hmp := hV.1.2
  have e1 : σ 27 0 7 + 1 = nI (mn + 1) := by rw [hmn, nI_1]
  refine Ev.intro fun G hG => hG.run ?_
  refine And.intro (fun c => ?_) (fun c => ?_)
  · replace c : σ 7 0 4 ≤ σ 27 0 7 + 1 := c
    rw [hV.1.1, e1] at c
    have c := le_of_le c (by omega)
    exact ⟨by rw [if_neg (by omega)]; rfl, rfl⟩
  · replace c : ¬ σ 7 0 4 ≤ σ 27 0 7 + 1 := c
    rw [hV.1.1, e1] at c
    have c := lt_of_nle c (by omega)
    refine And.intro (show vp_in (σ 27 0 7 + 1) 10 by rw [e1]; exact vp_in_nI (by omega) (by omega)) ?_
    refine ⟨?_, rfl⟩
    rw [if_pos c, ← (hV.2.2 (mn + 1) c).2.1]
    show some (mI (σ 10 (σ 27 0 7 + 1).toNatClampNeg 0)) = _
    rw [e1, nI_cl (by omega)]
theorem ev_nextDeed (σ τ : mS) {W H dn dd : Nat} (hD : DDs σ τ W H dn) (hdd : σ 27 0 8 = nI dd) (hlt : dd ≤ dn) : Ev kX5_nextDeedYear [xP] σ (fun r s => r = some (mI (if dd < dn then σ 19 0 (σ 21 0 dd).toNatClampNeg else 201)) ∧ s = σ) := by
  have hdn := hD.1.2
  refine Ev.intro fun G hG => hG.run ?_
  refine And.intro (fun c => ?_) (fun c => ?_)
  · replace c : σ 13 0 0 ≤ σ 27 0 8 := c
    rw [hD.1.1, hdd] at c
    have c := le_of_le c (by omega)
    exact ⟨by rw [if_neg (by omega)]; rfl, rfl⟩
  · replace c : ¬ σ 13 0 0 ≤ σ 27 0 8 := c
    rw [hD.1.1, hdd] at c
    have c := lt_of_nle c (by omega)
    obtain ⟨d, hd, hod⟩ := hD.2.2.1 dd c
    have e8 : (σ 27 0 8).toNatClampNeg = dd := by rw [hdd]; exact nI_cl (by omega)
    refine And.intro (show vp_in (σ 27 0 8) 30 by rw [hdd]; exact vp_in_nI (by omega) (by omega)) (And.intro (show vp_in (σ 21 0 (σ 27 0 8).toNatClampNeg) 30 by rw [e8, hod]; exact vp_in_nI (by omega) (by omega)) ?_)
    refine ⟨?_, rfl⟩
    rw [if_pos c]
    show some (mI (σ 19 0 (σ 21 0 (σ 27 0 8).toNatClampNeg).toNatClampNeg)) = _
    rw [e8]
theorem va_all (f g : Nat → Int32) : va_cpy f g (Int32.toNatClampNeg 0) (Int32.toNatClampNeg 0) (Int32.toNatClampNeg 144) = cpy g f 144 := by
  show va_cpy f g 0 0 144 = _
  funext k
  unfold va_cpy cpy
  by_cases h : k < 144
  · rw [if_pos h, if_pos (by omega), Nat.zero_add, Nat.sub_zero]
  · rw [if_neg h, if_neg (by omega)]
theorem ev_keep (σ : mS) : Ev kX5_keep [xP] σ (fun r s => r = none ∧ s = mput σ 30 0 (cpy (σ 30 0) (σ 29 0) 144)) := by
  refine Ev.intro fun G hG => hG.run ?_
  refine And.intro ⟨by decide, by decide, by decide, by decide, by decide⟩ ?_
  refine ⟨rfl, ?_⟩
  rw [va_all]
