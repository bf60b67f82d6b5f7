/-! THE REFERENCE: a step -/
def oget (o : Nat → Int32) (h : Option Nat) : Int32 := match h with
  | none => -1
  | some e => o e
/-- how far a cell is from a set of cells -/
noncomputable def aptS (P : Nat → Prop) (d n : Nat) : Nat := fo (fun e l => ifp (P e) (min l (awF e d)) l) 24 n
noncomputable def npS (kd : Nat → Int32) (P : Nat → Prop) (n : Nat) : Option Nat × Nat := fo (fun d b => ifp (kd d = 0 ∧ (b.1 = none ∨ aptS P d 144 < b.2)) (some d, aptS P d 144) b) (none, 0) n
/-- the part of a new cell -/
def prtP (kd : Nat → Int32) (c e : Nat) : Prop := newP kd e ∧ lab (newP kd) e = lab (newP kd) c
/-- its part is beside a fast cell -/
def shoreP (kd : Nat → Int32) (c : Nat) : Prop := ∃ e, prtP kd c e ∧ bes kd e 144
noncomputable def heirI (kd : Nat → Int32) (c : Nat) : Option Nat := (npS kd (prtP kd c) 144).1
/-- whose a cell is behind a step by g -/
noncomputable def stpF (kd : Nat → Int32) (isle : Int32) (o : Nat → Int32) (c : Nat) : Int32 :=
  if kd c = 1 then -1 else if kd c = 2 then ifp (shoreP kd c) (oget o (nrF kd c 144)) (if isle = 0 then oget o (heirI kd c) else if isle = 1 then -1 else o c) else o c
theorem prt_lab {kd : Nat → Int32} (c : Nat) : prtP kd (lab (newP kd) c) = prtP kd c := by
  funext e
  unfold prtP
  rw [lab_lab]
theorem shore_lab {kd : Nat → Int32} (c : Nat) : shoreP kd (lab (newP kd) c) ↔ shoreP kd c := by
  unfold shoreP
  rw [prt_lab]
theorem heir_lab {kd : Nat → Int32} (c : Nat) : heirI kd (lab (newP kd) c) = heirI kd c := by
  unfold heirI
  rw [prt_lab]
theorem lab_pos {kd p : Nat → Int32} (h : labOK (newP kd) p) (ha : allL (newP kd) p) {e : Nat} (he : e < 144) (l : Nat) : p e = nI l ∧ l < 144 ↔ newP kd e ∧ lab (newP kd) e = l := by
  constructor
  · rintro ⟨h1, h2⟩
    have hs : newP kd e := Classical.byContradiction fun q => by
      rw [(h e he).1 q] at h1
      have := congrArg Int32.toInt h1
      rw [nI_toInt (by omega), show (-1 : Int32).toInt = -1 from rfl] at this
      omega
    have hl := lab_le (newP kd) e
    rw [ha e he hs] at h1
    exact ⟨hs, (nI_eq (by omega) (by omega)).mp h1⟩
  · rintro ⟨hs, rfl⟩
    have hl := lab_le (newP kd) e
    exact ⟨ha e he hs, by omega⟩
theorem apt_S {kd p : Nat → Int32} (h : labOK (newP kd) p) (ha : allL (newP kd) p) {c : Nat} (hc : c < 144) (d : Nat) : apt p (nI (lab (newP kd) c)) d 144 = aptS (prtP kd c) d 144 := by
  have hl := lab_le (newP kd) c
  refine fo_cong fun e he x => ?_
  by_cases q : p e = nI (lab (newP kd) c)
  · rw [if_pos q, ifp_t (P := prtP kd c e) ((lab_pos h ha he _).mp ⟨q, by omega⟩)]
  · rw [if_neg q, ifp_f (P := prtP kd c e) (fun z => q ((lab_pos h ha he _).mpr z).1)]
theorem np_S {kd p : Nat → Int32} (h : labOK (newP kd) p) (ha : allL (newP kd) p) {c : Nat} (hc : c < 144) : npF kd p (nI (lab (newP kd) c)) 144 = npS kd (prtP kd c) 144 := by
  refine fo_cong fun d hd x => ?_
  rw [apt_S h ha hc d]
theorem shO_S {kd p f : Nat → Int32} (h : labOK (newP kd) p) (ha : allL (newP kd) p) (hf : ∀ l, l < 144 → f l = 0) {c : Nat} (hc : c < 144) : shO p kd f 144 (lab (newP kd) c) = b2i (shoreP kd c) := by
  have hl := lab_le (newP kd) c
  rw [shO_at, hf _ (by omega)]
  unfold b2i ifp
  congr 1
  refine propext ⟨?_, ?_⟩
  · rintro ⟨e, h1, h2, h3, h4⟩
    have hs : newP kd e := Classical.byContradiction fun q => by rw [(h e h1).1 q] at h2; exact absurd h2 (by decide)
    have hle := lab_le (newP kd) e
    rw [ha e h1 hs, nI_cl (by omega)] at h3
    exact ⟨e, ⟨hs, h3⟩, h4⟩
  · rintro ⟨e, ⟨hs, h3⟩, h4⟩
    have hle := lab_le (newP kd) e
    have := hs.1
    refine ⟨e, hs.1, ?_, ?_, h4⟩
    · rw [ha e hs.1 hs]; exact nI_pos' (by omega)
    · rw [ha e hs.1 hs, nI_cl (by omega)]; exact h3
/-- only cells below 144 count -/
theorem newP_cong {k k' : Nat → Int32} (h : ∀ c, c < 144 → k c = k' c) : newP k = newP k' := by
  funext c
  exact propext ⟨fun q => ⟨q.1, by rw [← h c q.1]; exact q.2⟩, fun q => ⟨q.1, by rw [h c q.1]; exact q.2⟩⟩
theorem bes_cong {k k' : Nat → Int32} (h : ∀ c, c < 144 → k c = k' c) (c : Nat) : bes k c 144 ↔ bes k' c 144 :=
  ⟨fun ⟨d, h1, h2, h3⟩ => ⟨d, h1, by rw [← h d h1]; exact h2, h3⟩, fun ⟨d, h1, h2, h3⟩ => ⟨d, h1, by rw [h d h1]; exact h2, h3⟩⟩
theorem shore_cong {k k' : Nat → Int32} (h : ∀ c, c < 144 → k c = k' c) (c : Nat) : shoreP k c ↔ shoreP k' c := by
  unfold shoreP prtP
  rw [newP_cong h]
  exact ⟨fun ⟨e, h1, h2⟩ => ⟨e, h1, (bes_cong h e).mp h2⟩, fun ⟨e, h1, h2⟩ => ⟨e, h1, (bes_cong h e).mpr h2⟩⟩
theorem nrF_cong {k k' : Nat → Int32} (h : ∀ c, c < 144 → k c = k' c) (c : Nat) : nrF k c 144 = nrF k' c 144 := fo_cong fun d hd x => by rw [h d hd]
theorem heir_cong {k k' : Nat → Int32} (h : ∀ c, c < 144 → k c = k' c) (c : Nat) : heirI k c = heirI k' c := by
  unfold heirI
  have e : prtP k c = prtP k' c := by unfold prtP; rw [newP_cong h]
  rw [e]
  exact congrArg Prod.fst (fo_cong fun d hd x => by rw [h d hd])
theorem stpF_cong {k k' : Nat → Int32} (h : ∀ c, c < 144 → k c = k' c) (isle : Int32) (o : Nat → Int32) {c : Nat} (hc : c < 144) : stpF k isle o c = stpF k' isle o c := by
  unfold stpF
  rw [h c hc, ifp_c (shore_cong h c), nrF_cong h, heir_cong h]
theorem lst_cong {k k' : Nat → Int32} (h : ∀ c, c < 144 → k c = k' c) {c : Nat} (hc : c < 144) : lstF k c 144 = lstF k' c 144 := fo_cong fun d hd x => by rw [h c hc, h d hd]
theorem far_cong {k k' : Nat → Int32} (h : ∀ c, c < 144 → k c = k' c) : farF k 144 = farF k' 144 := fo_cong fun c hc x => by rw [h c hc, lst_cong h hc]
/-- what a step leaves alone -/
def Keep (σ s : mS) : Prop := (∀ j, j ≠ 23 → s 40 0 j = σ 40 0 j) ∧ ∀ g, g ≠ 40 → g ≠ 70 → g ≠ 71 → g ≠ 72 → g ≠ 74 → g ≠ 75 → s g 0 = σ g 0
theorem Keep.rf {σ : mS} : Keep σ σ := ⟨fun _ _ => rfl, fun _ _ _ _ _ _ _ => rfl⟩
theorem Keep.tr {σ s t : mS} (h1 : Keep σ s) (h2 : Keep s t) : Keep σ t := ⟨fun j hj => (h2.1 j hj).trans (h1.1 j hj), fun g a b c d e f => (h2.2 g a b c d e f).trans (h1.2 g a b c d e f)⟩
theorem Keep.put {σ : mS} {g : Nat} (f : Nat → Int32) (h : g = 70 ∨ g = 71 ∨ g = 72 ∨ g = 74 ∨ g = 75) : Keep σ (mput σ g 0 f) := by
  refine ⟨fun j _ => by rw [mput_ng _ _ _ _ (by omega)], fun g' h1 h2 h3 h4 h5 h6 => by rw [mput_ng _ _ _ _ (by omega)]⟩
theorem Keep.put40 {σ : mS} (v : Int32) : Keep σ (mput σ 40 0 (upd (σ 40 0) 23 v)) := by
  refine ⟨fun j hj => by rw [mput_eq, upd_ne _ _ hj], fun g' h1 h2 h3 h4 h5 h6 => by rw [mput_ng _ _ _ _ h1]⟩
noncomputable def sdP (σ : mS) (W H m : Nat) : Prop := sudP (σ 69 0 m) (σ 40 0 18) (farF (kdM σ W H m) 144)
noncomputable def grw (σ : mS) (lw : Option Nat) (sud : Prop) : Int32 := match lw with
  | none => ifp sud 0 1
  | some b => ifp sud (σ 66 0 b) (σ 65 0 b)
def isl (σ : mS) (lw : Option Nat) : Int32 := match lw with
  | none => 0
  | some b => σ 67 0 b
noncomputable def stepO (σ : mS) (W H ln m : Nat) (ctr : Prop) (o : Nat → Int32) : Nat → Int32 :=
  ifp (grw σ (lwF (σ 64 0) (σ 54 0 m) ln ln) (¬ (sdP σ W H m ↔ ctr)) = 0) o (cpy o (stpF (kdM σ W H m) (isl σ (lwF (σ 64 0) (σ 54 0 m) ln ln)) o) 144)
theorem b2i_eq {P Q : Prop} : b2i P = b2i Q ↔ (P ↔ Q) := by
  by_cases h : P <;> by_cases h' : Q
  · rw [b2i_t h, b2i_t h']; simp [h, h']
  · rw [b2i_t h, b2i_f h']; simp [h, h']
  · rw [b2i_f h, b2i_t h']; simp [h, h']
  · rw [b2i_f h, b2i_f h']; simp [h, h']
/-- the loop that gives the new owners -/
theorem steps_loop {G : mK} {post : Option mV → mS → Prop} (hG : mCl Ev kX8_steps post G) {m2 ct lw sd gr : mV} {isle : Int32} {s2 : mS} {kd p o : Nat → Int32} (h70 : s2 70 0 = kd) (h71 : s2 71 0 = p) (h74 : s2 74 0 = o)
    (hl : labOK (newP kd) p) (ha : allL (newP kd) p) (hsh : ∀ c, newP kd c → s2 72 0 (lab (newP kd) c) = b2i (shoreP kd c))
    (hend : ∀ z8 z9 : Option mV, G 100 [some mM, some m2, some ct, some lw, some sd, some gr, some (mI isle), some (mI (nI 144)), z8, z9] [] (mput s2 75 0 (cpy (s2 75 0) (stpF kd isle o) 144))) :
    ∀ n c, c + n = 144 → ∀ z8 z9 : Option mV, G 100 [some mM, some m2, some ct, some lw, some sd, some gr, some (mI isle), some (mI (nI c)), z8, z9] [] (mput s2 75 0 (cpy (s2 75 0) (stpF kd isle o) c)) := by
  intro n
  induction n with
  | zero =>
    intro c hc z8 z9
    have : c = 144 := by omega
    subst this
    exact hend z8 z9
  | succ n ih =>
    intro c hc z8 z9
    have hvc : vp_in (nI c) 144 := vp_in_nI (by omega) (by omega)
    have cc : (nI c).toNatClampNeg = c := nI_cl (by omega)
    generalize hN : cpy (s2 75 0) (stpF kd isle o) c = N
    have hNs : ∀ v, v = stpF kd isle o c → upd N c v = cpy (s2 75 0) (stpF kd isle o) (c + 1) := fun v hv => by rw [hv, ← hN, cpy_s]
    have next : ∀ z8 z9 : Option mV, ∀ v, v = stpF kd isle o c → G 100 [some mM, some m2, some ct, some lw, some sd, some gr, some (mI isle), some (mI (nI c + 1)), z8, z9] [] (mput s2 75 0 (upd N c v)) := by
      intro z8 z9 v hv
      rw [hNs v hv, nI_1]
      exact ih (c + 1) (by omega) z8 z9
    have r70 : ∀ j, s2 70 0 j = kd j := fun j => by rw [h70]
    have r71 : ∀ j, s2 71 0 j = p j := fun j => by rw [h71]
    have r74 : ∀ j, s2 74 0 j = o j := fun j => by rw [h74]
    refine hG.run (br_f (nI_ge (b := 144) (by omega) (by decide)) ?_)
    refine And.intro hvc (And.intro hvc (And.intro hvc (And.intro (fun c1 => And.intro hvc (And.intro (fun c2 => ?_) (fun c2 => ?_))) (fun c1 => And.intro hvc (And.intro hvc (And.intro (fun c2 => ?_) (fun c2 => ?_)))))))
    · replace c1 : ¬ s2 70 0 (nI c).toNatClampNeg = 1 := c1
      replace c2 : ¬ s2 70 0 (nI c).toNatClampNeg = 2 := c2
      rw [cc, r70] at c1 c2
      show G 100 [some mM, some m2, some ct, some lw, some sd, some gr, some (mI isle), some (mI (nI c + 1)), z8, z9] [] (mput (mput s2 75 0 N) 75 0 (upd N (nI c).toNatClampNeg (s2 74 0 (nI c).toNatClampNeg)))
      rw [mput_mput, cc, r74]
      exact next z8 z9 _ (by unfold stpF; rw [if_neg c1, if_neg c2])
    · -- a new cell
      replace c1 : ¬ s2 70 0 (nI c).toNatClampNeg = 1 := c1
      replace c2 : s2 70 0 (nI c).toNatClampNeg = 2 := c2
      rw [cc, r70] at c1 c2
      have hs : newP kd c := ⟨by omega, c2⟩
      have hpc : p c = nI (lab (newP kd) c) := ha c (by omega) hs
      have hll := lab_le (newP kd) c
      have ell : (nI (lab (newP kd) c)).toNatClampNeg = lab (newP kd) c := nI_cl (by omega)
      have hval : ∀ X : Int32, stpF kd isle o c = X → X = stpF kd isle o c := fun X h => h.symm
      have eS : stpF kd isle o c = ifp (shoreP kd c) (oget o (nrF kd c 144)) (if isle = 0 then oget o (heirI kd c) else if isle = 1 then -1 else o c) := by unfold stpF; rw [if_neg c1, if_pos c2]
      have M0 : mput (mput s2 75 0 N) 75 0 (upd N (nI c).toNatClampNeg (s2 74 0 (nI c).toNatClampNeg)) = mput s2 75 0 (upd N c (o c)) := by rw [mput_mput, cc, r74]
      refine And.intro hvc (And.intro ?_ ?_)
      · show vp_in (s2 71 0 (nI c).toNatClampNeg) 144
        rw [cc, r71, hpc]; exact vp_in_nI (by omega) (by omega)
      have hshv : s2 72 0 (s2 71 0 (nI c).toNatClampNeg).toNatClampNeg = b2i (shoreP kd c) := by rw [cc, r71, hpc, ell]; exact hsh c hs
      refine And.intro (fun c3 => ?_) (fun c3 => ?_)
      · -- shore
        replace c3 : ¬ s2 72 0 (s2 71 0 (nI c).toNatClampNeg).toNatClampNeg = 0 := c3
        rw [hshv] at c3
        have hsp := b_t c3
        rw [ifp_t hsp] at eS
        refine And.intro (fun c4 => absurd (show b2i (shoreP kd c) = 0 by rw [← hshv]; exact c4) c3) (fun _ => ?_)
        have hn := ev_nearest (mput (mput s2 75 0 N) 75 0 (upd N (nI c).toNatClampNeg (s2 74 0 (nI c).toNatClampNeg))) (c := c) (by omega)
        rw [show mput (mput s2 75 0 N) 75 0 (upd N (nI c).toNatClampNeg (s2 74 0 (nI c).toNatClampNeg)) 70 0 = kd from h70] at hn
        refine call_of hn ?_
        have hlt := nrF_lt kd c 144
        cases hq : nrF kd c 144 with
        | none =>
          rw [hq] at eS
          refine And.intro (fun _ => And.intro (fun _ => ?_) (fun c5 => absurd (show b2i (shoreP kd c) = 0 by rw [← hshv]; exact c5) c3)) (fun c5 => absurd (by decide) c5)
          refine And.intro hvc ?_
          show G 100 [some mM, some m2, some ct, some lw, some sd, some gr, some (mI isle), some (mI (nI c + 1)), _, _] [] (mput (mput (mput s2 75 0 N) 75 0 (upd N (nI c).toNatClampNeg (s2 74 0 (nI c).toNatClampNeg))) 75 0 (upd (upd N (nI c).toNatClampNeg (s2 74 0 (nI c).toNatClampNeg)) (nI c).toNatClampNeg (-1)))
          simp only [mput_mput]
          rw [cc, fa_upd2]
          exact next _ _ _ (hval _ eS)
        | some e =>
          have he := hlt e hq
          rw [hq] at eS
          refine And.intro (fun c5 => absurd c5 (nI_pos (by omega))) (fun _ => ?_)
          refine And.intro (vp_in_nI (by omega) (by omega)) (And.intro hvc ?_)
          show G 100 [some mM, some m2, some ct, some lw, some sd, some gr, some (mI isle), some (mI (nI c + 1)), _, _] [] (mput (mput (mput s2 75 0 N) 75 0 (upd N (nI c).toNatClampNeg (s2 74 0 (nI c).toNatClampNeg))) 75 0 (upd (upd N (nI c).toNatClampNeg (s2 74 0 (nI c).toNatClampNeg)) (nI c).toNatClampNeg (s2 74 0 (nI e).toNatClampNeg)))
          simp only [mput_mput]
          rw [cc, fa_upd2, nI_cl (n := e) (by omega), r74]
          exact next _ _ _ (hval _ eS)
      · -- an isle
        replace c3 : s2 72 0 (s2 71 0 (nI c).toNatClampNeg).toNatClampNeg = 0 := c3
        have c3' := c3
        rw [hshv] at c3
        have hsp := b_f c3
        rw [ifp_f hsp] at eS
        refine And.intro (fun c4 => ?_) (fun c4 => ?_)
        · -- the law is s or k
          rw [if_neg c4] at eS
          refine And.intro (fun c5 => ?_) (fun c5 => ?_)
          · rw [if_neg c5] at eS
            refine And.intro hvc (And.intro hvc ?_)
            show G 100 [some mM, some m2, some ct, some lw, some sd, some gr, some (mI isle), some (mI (nI c + 1)), _, _] [] (mput (mput (mput s2 75 0 N) 75 0 (upd N (nI c).toNatClampNeg (s2 74 0 (nI c).toNatClampNeg))) 75 0 (upd (upd N (nI c).toNatClampNeg (s2 74 0 (nI c).toNatClampNeg)) (nI c).toNatClampNeg (s2 74 0 (nI c).toNatClampNeg)))
            simp only [mput_mput]
            rw [cc, fa_upd2, r74]
            exact next _ _ _ (hval _ eS)
          · rw [if_pos c5] at eS
            refine And.intro hvc ?_
            show G 100 [some mM, some m2, some ct, some lw, some sd, some gr, some (mI isle), some (mI (nI c + 1)), _, _] [] (mput (mput (mput s2 75 0 N) 75 0 (upd N (nI c).toNatClampNeg (s2 74 0 (nI c).toNatClampNeg))) 75 0 (upd (upd N (nI c).toNatClampNeg (s2 74 0 (nI c).toNatClampNeg)) (nI c).toNatClampNeg (-1)))
            simp only [mput_mput]
            rw [cc, fa_upd2]
            exact next _ _ _ (hval _ eS)
        · -- the law is n
          rw [if_pos c4] at eS
          refine And.intro (fun _ => ?_) (fun c5 => absurd c3' c5)
          refine And.intro hvc (And.intro (fun c5 => ?_) (fun c5 => ?_))
          · -- not the first of its part
            replace c5 : ¬ s2 71 0 (nI c).toNatClampNeg = nI c := c5
            rw [cc, r71, hpc] at c5
            have hne : lab (newP kd) c < c := by
              rcases Nat.lt_or_ge (lab (newP kd) c) c with z | z
              · exact z
              · exact absurd (by rw [show lab (newP kd) c = c by omega]) c5
            refine And.intro (fun _ => And.intro (fun c6 => absurd c3' c6) (fun _ => And.intro hvc (And.intro (fun _ => ?_) (fun c6 => absurd (show s2 71 0 (nI c).toNatClampNeg = nI c from c6) (by rw [cc, r71, hpc]; exact c5))))) (fun c6 => absurd (by decide) c6)
            refine And.intro hvc (And.intro ?_ (And.intro hvc ?_))
            · show vp_in (s2 71 0 (nI c).toNatClampNeg) 144
              rw [cc, r71, hpc]; exact vp_in_nI (by omega) (by omega)
            show G 100 [some mM, some m2, some ct, some lw, some sd, some gr, some (mI isle), some (mI (nI c + 1)), _, _] [] (mput (mput (mput s2 75 0 N) 75 0 (upd N (nI c).toNatClampNeg (s2 74 0 (nI c).toNatClampNeg))) 75 0 (upd (upd N (nI c).toNatClampNeg (s2 74 0 (nI c).toNatClampNeg)) (nI c).toNatClampNeg (upd N (nI c).toNatClampNeg (s2 74 0 (nI c).toNatClampNeg) (s2 71 0 (nI c).toNatClampNeg).toNatClampNeg)))
            simp only [mput_mput]
            rw [cc, fa_upd2, r71, hpc, ell, upd_ne _ _ (by omega)]
            refine next _ _ _ ?_
            rw [← hN, cpy_in hne, eS]
            have hsl : newP kd (lab (newP kd) c) := lab_in hs
            have k2 : kd (lab (newP kd) c) = 2 := hsl.2
            unfold stpF
            rw [if_neg (by rw [k2]; decide), if_pos k2, ifp_f (fun q => hsp ((shore_lab c).mp q)), if_pos c4, heir_lab]
          · -- the first of its part
            replace c5 : s2 71 0 (nI c).toNatClampNeg = nI c := c5
            have c5' := c5
            rw [cc, r71] at c5
            have hlc : lab (newP kd) c = c := by
              rw [hpc] at c5
              exact (nI_eq (by omega) (by omega)).mp c5
            have hn := ev_nearestToPart (mput (mput s2 75 0 N) 75 0 (upd N (nI c).toNatClampNeg (s2 74 0 (nI c).toNatClampNeg))) (nI c)
            rw [show mput (mput s2 75 0 N) 75 0 (upd N (nI c).toNatClampNeg (s2 74 0 (nI c).toNatClampNeg)) 70 0 = kd from h70, show mput (mput s2 75 0 N) 75 0 (upd N (nI c).toNatClampNeg (s2 74 0 (nI c).toNatClampNeg)) 71 0 = p from h71] at hn
            have hnp := np_S hl ha (c := c) (by omega)
            rw [hlc] at hnp
            have hlt := (npF_lt kd p (nI c) 144).2
            rw [hnp] at hn hlt
            refine call_of hn ?_
            cases hq : (npS kd (prtP kd c) 144).1 with
            | none =>
              rw [show heirI kd c = none from hq] at eS
              refine And.intro (fun _ => And.intro (fun c6 => absurd c3' c6) (fun _ => And.intro hvc (And.intro (fun c6 => absurd c5' c6) (fun _ => And.intro hvc ?_)))) (fun c6 => absurd (by decide) c6)
              show G 100 [some mM, some m2, some ct, some lw, some sd, some gr, some (mI isle), some (mI (nI c + 1)), _, _] [] (mput (mput (mput s2 75 0 N) 75 0 (upd N (nI c).toNatClampNeg (s2 74 0 (nI c).toNatClampNeg))) 75 0 (upd (upd N (nI c).toNatClampNeg (s2 74 0 (nI c).toNatClampNeg)) (nI c).toNatClampNeg (-1)))
              simp only [mput_mput]
              rw [cc, fa_upd2]
              exact next _ _ _ (hval _ eS)
            | some e =>
              have he := hlt e hq
              rw [show heirI kd c = some e from hq] at eS
              refine And.intro (fun c6 => absurd c6 (nI_pos (by omega))) (fun _ => ?_)
              refine And.intro (vp_in_nI (by omega) (by omega)) (And.intro hvc ?_)
              show G 100 [some mM, some m2, some ct, some lw, some sd, some gr, some (mI isle), some (mI (nI c + 1)), _, _] [] (mput (mput (mput s2 75 0 N) 75 0 (upd N (nI c).toNatClampNeg (s2 74 0 (nI c).toNatClampNeg))) 75 0 (upd (upd N (nI c).toNatClampNeg (s2 74 0 (nI c).toNatClampNeg)) (nI c).toNatClampNeg (s2 74 0 (nI e).toNatClampNeg)))
              simp only [mput_mput]
              rw [cc, fa_upd2, nI_cl (n := e) (by omega), r74]
              exact next _ _ _ (hval _ eS)
    · -- lost, and not new
      replace c1 : s2 70 0 (nI c).toNatClampNeg = 1 := c1
      rw [cc, r70] at c1
      show G 100 [some mM, some m2, some ct, some lw, some sd, some gr, some (mI isle), some (mI (nI c + 1)), z8, z9] [] (mput (mput (mput s2 75 0 N) 75 0 (upd N (nI c).toNatClampNeg (s2 74 0 (nI c).toNatClampNeg))) 75 0 (upd (upd N (nI c).toNatClampNeg (s2 74 0 (nI c).toNatClampNeg)) (nI c).toNatClampNeg (-1)))
      simp only [mput_mput]
      rw [cc, fa_upd2]
      exact next z8 z9 _ (by unfold stpF; rw [if_pos c1])
    · replace c1 : s2 70 0 (nI c).toNatClampNeg = 1 := c1
      replace c2 : s2 70 0 (nI c).toNatClampNeg = 2 := c2
      rw [c1] at c2
      exact absurd c2 (by decide)
