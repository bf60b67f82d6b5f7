/-! THE REFERENCE: steps, years, owners -/
/-- what the reference holds: land W x H, mp maps, dn deeds, ln laws -/
def MI (σ : mS) (W H mp dn ln : Nat) : Prop :=
  (σ 40 0 1 = nI W ∧ 0 < W ∧ W ≤ 12) ∧ (σ 40 0 2 = nI H ∧ 0 < H ∧ H ≤ 12) ∧ (σ 40 0 3 = nI mp ∧ mp ≤ 10) ∧ (σ 40 0 7 = nI dn ∧ dn ≤ 30) ∧ (σ 40 0 13 = nI ln ∧ ln ≤ 20) ∧
  (∀ j, σ 55 0 j &&& 1 = σ 55 0 j) ∧ dedOK σ dn ∧ (∀ j, j < mp → ∃ y, y ≤ 200 ∧ σ 54 0 j = nI y) ∧ (∀ i j, i < j → j < mp → σ 54 0 i < σ 54 0 j) ∧ (∀ j, 144 ≤ j → σ 56 0 j = 0)
/-- the same, but for whether it was thrown -/
def KeepT (σ s : mS) : Prop := (∀ j, j ≠ 0 → j ≠ 23 → s 40 0 j = σ 40 0 j) ∧ ∀ g, g ≠ 40 → g ≠ 70 → g ≠ 71 → g ≠ 72 → g ≠ 74 → g ≠ 75 → s g 0 = σ g 0
theorem Keep.t {σ s : mS} (h : Keep σ s) : KeepT σ s := ⟨fun j _ h2 => h.1 j h2, h.2⟩
theorem KeepT.th {σ : mS} : KeepT σ (th0 σ) := ⟨fun j h1 _ => by unfold th0; rw [mput_eq, upd_ne _ _ h1], fun g h1 _ _ _ _ _ => by unfold th0; rw [mput_ng _ _ _ _ h1]⟩
theorem KeepT.tr {σ s t : mS} (h1 : KeepT σ s) (h2 : KeepT s t) : KeepT σ t := ⟨fun j a b => (h2.1 j a b).trans (h1.1 j a b), fun g a b c d e f => (h2.2 g a b c d e f).trans (h1.2 g a b c d e f)⟩
theorem KeepT.g {σ s : mS} (k : KeepT σ s) {g : Nat} (h : g ≠ 40 ∧ g ≠ 70 ∧ g ≠ 71 ∧ g ≠ 72 ∧ g ≠ 74 ∧ g ≠ 75) : s g 0 = σ g 0 := k.2 g h.1 h.2.1 h.2.2.1 h.2.2.2.1 h.2.2.2.2.1 h.2.2.2.2.2
theorem MI.keep {σ s : mS} {W H mp dn ln : Nat} (h : MI σ W H mp dn ln) (k : KeepT σ s) : MI s W H mp dn ln := by
  obtain ⟨h1, h2, h3, h4, h5, h6, h7, h8, h9, h10⟩ := h
  have e : ∀ g, g ≠ 40 → g ≠ 70 → g ≠ 71 → g ≠ 72 → g ≠ 74 → g ≠ 75 → s g 0 = σ g 0 := k.2
  unfold MI dedOK
  rw [k.1 1 (by decide) (by decide), k.1 2 (by decide) (by decide), k.1 3 (by decide) (by decide), k.1 7 (by decide) (by decide), k.1 13 (by decide) (by decide), e 55 (by decide) (by decide) (by decide) (by decide) (by decide) (by decide), e 54 (by decide) (by decide) (by decide) (by decide) (by decide) (by decide), e 56 (by decide) (by decide) (by decide) (by decide) (by decide) (by decide), e 58 (by decide) (by decide) (by decide) (by decide) (by decide) (by decide), e 59 (by decide) (by decide) (by decide) (by decide) (by decide) (by decide)]
  exact ⟨h1, h2, h3, h4, h5, h6, h7, h8, h9, h10⟩
/-- what is told alone decides: the groups that a step leaves alone -/
theorem stepO_keep {σ s : mS} (k : KeepT σ s) (W H ln m : Nat) (ctr : Prop) (o : Nat → Int32) : stepO s W H ln m ctr o = stepO σ W H ln m ctr o := by
  have e : ∀ g, g ≠ 40 → g ≠ 70 → g ≠ 71 → g ≠ 72 → g ≠ 74 → g ≠ 75 → s g 0 = σ g 0 := k.2
  have e55 := e 55 (by decide) (by decide) (by decide) (by decide) (by decide) (by decide)
  have hk : kdM s W H m = kdM σ W H m := by unfold kdM wtr; rw [e55]
  have hg : ∀ lw sd, grw s lw sd = grw σ lw sd := fun lw sd => by
    unfold grw
    rw [e 65 (by decide) (by decide) (by decide) (by decide) (by decide) (by decide), e 66 (by decide) (by decide) (by decide) (by decide) (by decide) (by decide)]
  have hi : ∀ lw, isl s lw = isl σ lw := fun lw => by
    unfold isl
    rw [e 67 (by decide) (by decide) (by decide) (by decide) (by decide) (by decide)]
  unfold stepO sdP
  rw [hk, hg, hi, k.1 18 (by decide) (by decide), e 64 (by decide) (by decide) (by decide) (by decide) (by decide) (by decide), e 54 (by decide) (by decide) (by decide) (by decide) (by decide) (by decide), e 69 (by decide) (by decide) (by decide) (by decide) (by decide) (by decide)]
theorem dsF_keep {σ s : mS} (k : KeepT σ s) (wt : Nat → Int32) (year : Int32) (o : Nat → Int32) (n : Nat) : dsF s wt year o n = dsF σ wt year o n := by
  have e : ∀ g, g ≠ 40 → g ≠ 70 → g ≠ 71 → g ≠ 72 → g ≠ 74 → g ≠ 75 → s g 0 = σ g 0 := k.2
  unfold dsF
  rw [e 58 (by decide) (by decide) (by decide) (by decide) (by decide) (by decide), e 59 (by decide) (by decide) (by decide) (by decide) (by decide) (by decide), e 60 (by decide) (by decide) (by decide) (by decide) (by decide) (by decide), e 61 (by decide) (by decide) (by decide) (by decide) (by decide) (by decide), e 62 (by decide) (by decide) (by decide) (by decide) (by decide) (by decide)]
theorem wtr_keep {σ s : mS} (k : KeepT σ s) (m : Nat) : wtr s m = wtr σ m := by
  unfold wtr
  rw [k.2 55 (by decide) (by decide) (by decide) (by decide) (by decide) (by decide)]
theorem Keep.g {σ s : mS} (k : Keep σ s) {g : Nat} (h : g ≠ 40 ∧ g ≠ 70 ∧ g ≠ 71 ∧ g ≠ 72 ∧ g ≠ 74 ∧ g ≠ 75) : s g 0 = σ g 0 := k.2 g h.1 h.2.1 h.2.2.1 h.2.2.2.1 h.2.2.2.2.1 h.2.2.2.2.2
theorem cpy_cong {f g g' : Nat → Int32} {n : Nat} (h : ∀ j, j < n → g j = g' j) : cpy f g n = cpy f g' n := by
  funext j
  unfold cpy
  split
  · exact h j (by assumption)
  · rfl
set_option maxHeartbeats 1000000 in
theorem ev_steps (σ : mS) {W H mp dn ln m : Nat} (I : MI σ W H mp dn ln) (hm0 : 0 < m) (hm : m < mp) (ctr : Prop) : Ev kX8_steps [mM, mI (nI m), mI (b2i ctr)] σ (fun r s => r = none ∧ Keep σ s ∧ s 74 0 = stepO σ W H ln m ctr (σ 74 0)) := by
  obtain ⟨⟨hW, hW0, hW1⟩, ⟨hH, hH0, hH1⟩, ⟨hmp, hmp1⟩, ⟨hdn, hdn1⟩, ⟨hln, hln1⟩, hb, -, -, -⟩ := id I
  refine Ev.intro fun G hG => hG.run ?_
  refine call_of (ev_kinds σ hW hW1 hH hH1 hm0 (by omega) hb) ?_
  generalize hs1 : mput σ 70 0 (cpy (σ 70 0) (kdM σ W H m) 144) = s1
  have k1 : Keep σ s1 := by rw [← hs1]; exact Keep.put _ (Or.inl rfl)
  have s1_70 : s1 70 0 = cpy (σ 70 0) (kdM σ W H m) 144 := by rw [← hs1]; rfl
  have s1_74 : s1 74 0 = σ 74 0 := by rw [← hs1]; rfl
  have hcg : ∀ c, c < 144 → s1 70 0 c = kdM σ W H m c := fun c hc => by rw [s1_70, cpy_in hc]
  have e54 : s1 54 0 = σ 54 0 := k1.g (by decide)
  have e64 : s1 64 0 = σ 64 0 := k1.g (by decide)
  have e65 : s1 65 0 = σ 65 0 := k1.g (by decide)
  have e66 : s1 66 0 = σ 66 0 := k1.g (by decide)
  have e67 : s1 67 0 = σ 67 0 := k1.g (by decide)
  have e69 : s1 69 0 = σ 69 0 := k1.g (by decide)
  refine And.intro (vp_in_nI (by omega) (by omega)) ?_
  rw [nI_cl (by omega)]
  have hl := ev_lawIn s1 (s1 54 0 m) (ln := ln) ((k1.1 13 (by decide)).trans hln) hln1
  have hlt := lwF_lt (s1 64 0) (s1 54 0 m) ln ln
  refine call_of hl ?_
  have hsd := ev_isSudden s1 (m := m) (by omega)
  rw [far_cong hcg, e69, k1.1 18 (by decide)] at hsd
  rw [e64, e54] at hl hlt
  rw [e64, e54]
  refine call_of hsd ?_
  have eO : stepO σ W H ln m ctr (σ 74 0) = ifp (grw σ (lwF (σ 64 0) (σ 54 0 m) ln ln) (¬ (sdP σ W H m ↔ ctr)) = 0) (σ 74 0) (cpy (σ 74 0) (stpF (kdM σ W H m) (isl σ (lwF (σ 64 0) (σ 54 0 m) ln ln)) (σ 74 0)) 144) := rfl
  generalize hlw : lwF (σ 64 0) (σ 54 0 m) ln ln = lw at eO hlt
  have hlv : ∀ b, lw = some b → b < ln := fun b h => hlt b (Nat.le_refl _) h
  -- behind the law: nothing happens, or the owners go over
  have fin : ∀ (sd gr isle : Int32), gr = grw σ lw (¬ (sdP σ W H m ↔ ctr)) → isle = isl σ lw → ¬ gr = 0 → ∀ p, labOK (newP (s1 70 0)) p → allL (newP (s1 70 0)) p → ∀ s2, s2 = mput (mput (mput s1 71 0 p) 40 0 (upd (s1 40 0) 23 (ptN p 144))) 72 0 (shO p (s1 70 0) (fil (s1 72 0) 0 144) 144) → G 100 [some mM, some (mI (nI m)), some (mI (b2i ctr)), some (mI (oI lw)), some (mI sd), some (mI gr), some (mI isle), some (mI (nI 0)), none, none] [] s2 := by
    intro sd gr isle hgr hisle hne p hp1 hp2 s2 hs2
    have k2 : Keep s1 s2 := by
      rw [hs2]
      exact ((Keep.put p (Or.inr (Or.inl rfl))).tr (Keep.put40 (σ := mput s1 71 0 p) (ptN p 144))).tr (Keep.put _ (Or.inr (Or.inr (Or.inl rfl))))
    have h70 : s2 70 0 = s1 70 0 := by rw [hs2]; rfl
    have h71 : s2 71 0 = p := by rw [hs2]; rfl
    have h74 : s2 74 0 = σ 74 0 := by rw [hs2]; exact s1_74
    have h75 : s2 75 0 = s1 75 0 := by rw [hs2]; rfl
    have hsh : ∀ c, newP (s1 70 0) c → s2 72 0 (lab (newP (s1 70 0)) c) = b2i (shoreP (s1 70 0) c) := by
      intro c hc
      rw [hs2]
      exact shO_S hp1 hp2 (fun l hl => fil_in hl) hc.1
    have hloop := steps_loop hG (m2 := mI (nI m)) (ct := mI (b2i ctr)) (lw := mI (oI lw)) (sd := mI sd) (gr := mI gr) (isle := isle) (s2 := s2) h70 h71 h74 hp1 hp2 hsh ?_ 144 0 (by omega) none none
    · rw [cpy_0, mput_self] at hloop
      exact hloop
    · intro z8 z9
      refine hG.run (br_t (Int32.le_refl _) ?_)
      generalize hN : cpy (s2 75 0) (stpF (s1 70 0) isle (σ 74 0)) 144 = N
      have key := loop_up (G := G) 305 144 (fun i => [some mM, some (mI (nI m)), some (mI (b2i ctr)), some (mI (oI lw)), some (mI sd), some (mI gr), some (mI isle), some (mI (nI i)), z8, z9]) (fun i => mput (mput s2 75 0 N) 74 0 (cpy (σ 74 0) N i)) ?_ ?_ 0 (by omega)
      · rw [cpy_0] at key
        rw [show σ 74 0 = mput s2 75 0 N 74 0 from h74.symm, mput_self] at key
        exact key
      · intro i hi ih
        refine hG.run (br_f (nI_ge (b := 144) hi (by decide)) ?_)
        refine And.intro (vp_in_nI (by omega) (by omega)) (And.intro (vp_in_nI (by omega) (by omega)) ?_)
        rw [nI_cl (by omega)]
        show G 305 [some mM, some (mI (nI m)), some (mI (b2i ctr)), some (mI (oI lw)), some (mI sd), some (mI gr), some (mI isle), some (mI (nI i + 1)), z8, z9] [] (mput (mput (mput s2 75 0 N) 74 0 (cpy (σ 74 0) N i)) 74 0 (upd (cpy (σ 74 0) N i) i (N i)))
        rw [mput_mput, cpy_s, nI_1]
        exact ih
      · refine hG.run (br_t (Int32.le_refl _) ?_)
        refine ⟨rfl, ?_, ?_⟩
        · exact ((k1.tr k2).tr (Keep.put N (Or.inr (Or.inr (Or.inr (Or.inr rfl)))))).tr (Keep.put _ (Or.inr (Or.inr (Or.inr (Or.inl rfl)))))
        · show cpy (σ 74 0) N 144 = _
          rw [eO, ifp_f (by rw [← hgr]; exact hne), ← hisle]
          refine cpy_cong fun c hc => ?_
          rw [← hN, cpy_in hc]
          exact stpF_cong hcg isle (σ 74 0) hc
  -- behind the law
  have tail : ∀ (sd gr : Int32), gr = grw σ lw (¬ (sdP σ W H m ↔ ctr)) → ¬ gr = 0 → ∀ fu, mgo Ev kX8_steps (fun r s => r = none ∧ Keep σ s ∧ s 74 0 = stepO σ W H ln m ctr (σ 74 0)) G (fu + 40) 77 [some mM, some (mI (nI m)), some (mI (b2i ctr)), some (mI (oI lw)), some (mI sd), some (mI gr), none, none, none, none] [] s1 := by
    intro sd gr hgr hne fu
    refine call_ex (ev_findsParts s1) ?_
    rintro r s2 ⟨rfl, p, hp1, hp2, hs2⟩
    have k2 : Keep s1 s2 := by
      rw [hs2]
      exact ((Keep.put p (Or.inr (Or.inl rfl))).tr (Keep.put40 (σ := mput s1 71 0 p) (ptN p 144))).tr (Keep.put _ (Or.inr (Or.inr (Or.inl rfl))))
    have e67' : s2 67 0 = σ 67 0 := (k2.g (by decide)).trans e67
    cases hlw2 : lw with
    | none =>
      rw [hlw2] at fin hgr
      refine And.intro (fun c0 => absurd c0 (by decide)) (fun _ => ?_)
      exact fin sd gr 0 hgr rfl hne p hp1 hp2 s2 hs2
    | some b =>
      have hb9 := hlv b hlw2
      rw [hlw2] at fin hgr
      refine And.intro (fun _ => ?_) (fun c0 => absurd (nI_pos' (by omega)) c0)
      refine And.intro (vp_in_nI (by omega) (by omega)) ?_
      rw [show (oI (some b)).toNatClampNeg = b from nI_cl (by omega)]
      have := fin sd gr (s2 67 0 b) hgr (by rw [e67']; rfl) hne p hp1 hp2 s2 hs2
      exact this
  have stop : ∀ gr : Int32, gr = grw σ lw (¬ (sdP σ W H m ↔ ctr)) → gr = 0 → (none : Option mV) = none ∧ Keep σ s1 ∧ s1 74 0 = stepO σ W H ln m ctr (σ 74 0) := by
    intro gr hgr h0
    rw [eO, ifp_t (by rw [← hgr]; exact h0)]
    exact ⟨rfl, k1, s1_74⟩
  have law : ∀ (P : Prop) (sd : Int32), (P ↔ ¬ (sdP σ W H m ↔ ctr)) → sd = b2i P → ∀ fu, (0 ≤ oI lw → mgo Ev kX8_steps (fun r s => r = none ∧ Keep σ s ∧ s 74 0 = stepO σ W H ln m ctr (σ 74 0)) G (fu + 50) 49 [some mM, some (mI (nI m)), some (mI (b2i ctr)), some (mI (oI lw)), some (mI sd), none, none, none, none, none] [] s1) ∧ (¬ 0 ≤ oI lw → mgo Ev kX8_steps (fun r s => r = none ∧ Keep σ s ∧ s 74 0 = stepO σ W H ln m ctr (σ 74 0)) G (fu + 50) 36 [some mM, some (mI (nI m)), some (mI (b2i ctr)), some (mI (oI lw)), some (mI sd), none, none, none, none, none] [] s1) := by
    intro P sd hP hsd2 fu
    have hPe : P = ¬ (sdP σ W H m ↔ ctr) := propext hP
    cases hlw2 : lw with
    | none =>
      refine And.intro (fun c0 => absurd c0 (by decide)) (fun _ => ?_)
      rw [hlw2] at tail stop
      refine And.intro (fun c1 => ?_) (fun c1 => ?_)
      · rw [hsd2] at c1
        have hg : (1 : Int32) = grw σ none (¬ (sdP σ W H m ↔ ctr)) := (ifp_f (by rw [← hPe]; exact b_f c1)).symm
        exact And.intro (fun c2 => tail sd 1 hg c2 _) (fun c2 => stop 1 hg c2)
      · rw [hsd2] at c1
        have hg : (0 : Int32) = grw σ none (¬ (sdP σ W H m ↔ ctr)) := (ifp_t (by rw [← hPe]; exact b_t c1)).symm
        exact And.intro (fun c2 => tail sd 0 hg c2 _) (fun c2 => stop 0 hg c2)
    | some b =>
      have hb9 := hlv b hlw2
      refine And.intro (fun _ => ?_) (fun c0 => absurd (nI_pos' (by omega)) c0)
      rw [hlw2] at tail stop
      have cb : (nI b).toNatClampNeg = b := nI_cl (by omega)
      refine And.intro (fun c1 => ?_) (fun c1 => ?_)
      · rw [hsd2] at c1
        have hg : s1 65 0 (nI b).toNatClampNeg = grw σ (some b) (¬ (sdP σ W H m ↔ ctr)) := by rw [cb, e65]; exact (ifp_f (by rw [← hPe]; exact b_f c1)).symm
        refine And.intro (vp_in_nI (by omega) (by omega)) ?_
        exact And.intro (fun c2 => tail sd _ hg c2 _) (fun c2 => stop _ hg c2)
      · rw [hsd2] at c1
        have hg : s1 66 0 (nI b).toNatClampNeg = grw σ (some b) (¬ (sdP σ W H m ↔ ctr)) := by rw [cb, e66]; exact (ifp_t (by rw [← hPe]; exact b_t c1)).symm
        refine And.intro (vp_in_nI (by omega) (by omega)) ?_
        exact And.intro (fun c2 => tail sd _ hg c2 _) (fun c2 => stop _ hg c2)
  refine And.intro (fun c1 => ?_) (fun c1 => ?_)
  · replace c1 : b2i (sdP σ W H m) = b2i ctr := c1
    have c1 := b2i_eq.mp c1
    exact law False 0 ⟨fun q => q.elim, fun q => q c1⟩ (b2i_f id).symm _
  · replace c1 : ¬ b2i (sdP σ W H m) = b2i ctr := c1
    have c1 : ¬ (sdP σ W H m ↔ ctr) := fun q => c1 (b2i_eq.mpr q)
    exact law True 1 ⟨fun _ => c1, fun _ => trivial⟩ (b2i_t trivial).symm _
