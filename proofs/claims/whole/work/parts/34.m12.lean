/-! THE REFERENCE: steps asked, moved, doubt, weak, row -/
/-- what a question leaves alone -/
def QM (σ s : mS) : Prop := (∀ j, j ≠ 0 → j ≠ 23 → s 40 0 j = σ 40 0 j) ∧ (∀ g, g ≠ 40 → g ≠ 70 → g ≠ 71 → g ≠ 72 → g ≠ 74 → g ≠ 75 → g ≠ 78 → g ≠ 79 → s g 0 = σ g 0) ∧ tl0 s
theorem QM.keepT {σ s : mS} (h : KeepT σ s) (ht : tl0 s) : QM σ s := ⟨h.1, fun g a b c d e f _ _ => h.2 g a b c d e f, ht⟩
theorem QM.ask {σ s : mS} (h : askQ σ s) : QM σ s := QM.keepT (KeepT.th.tr h.1.t) h.2
theorem QM.tr {σ s t : mS} (h1 : QM σ s) (h2 : QM s t) : QM σ t := ⟨fun j a b => (h2.1 j a b).trans (h1.1 j a b), fun g a b c d e f i j => (h2.2.1 g a b c d e f i j).trans (h1.2.1 g a b c d e f i j), h2.2.2⟩
theorem QM.put {σ : mS} {g : Nat} (f : Nat → Int32) (h : g = 70 ∨ g = 71 ∨ g = 72 ∨ g = 75 ∨ g = 78 ∨ g = 79) (ht : tl0 σ) : QM σ (mput σ g 0 f) := by
  refine ⟨fun j _ _ => by rw [mput_ng _ _ _ _ (by omega)], fun g' h1 h2 h3 h4 h5 h6 h7 h8 => by rw [mput_ng _ _ _ _ (by omega)], fun j hj => ?_⟩
  rw [mput_ng _ _ _ _ (by omega)]
  exact ht j hj
theorem QM.g {σ s : mS} (k : QM σ s) {g : Nat} (h : g ≠ 40 ∧ g ≠ 70 ∧ g ≠ 71 ∧ g ≠ 72 ∧ g ≠ 74 ∧ g ≠ 75 ∧ g ≠ 78 ∧ g ≠ 79) : s g 0 = σ g 0 := k.2.1 g h.1 h.2.1 h.2.2.1 h.2.2.2.1 h.2.2.2.2.1 h.2.2.2.2.2.1 h.2.2.2.2.2.2.1 h.2.2.2.2.2.2.2
theorem MI.q {σ s : mS} {W H mp dn ln : Nat} (h : MI σ W H mp dn ln) (k : QM σ s) : MI s W H mp dn ln := by
  obtain ⟨h1, h2, h3, h4, h5, h6, h7, h8, h9, h10⟩ := h
  unfold MI dedOK
  rw [k.1 1 (by decide) (by decide), k.1 2 (by decide) (by decide), k.1 3 (by decide) (by decide), k.1 7 (by decide) (by decide), k.1 13 (by decide) (by decide), k.g (g := 55) (by decide), k.g (g := 54) (by decide), k.g (g := 56) (by decide), k.g (g := 58) (by decide), k.g (g := 59) (by decide)]
  exact ⟨h1, h2, h3, h4, h5, h6, h7, h8, h9, h10⟩
theorem kdM_q {σ s : mS} (k : QM σ s) (W H m : Nat) : kdM s W H m = kdM σ W H m := by unfold kdM wtr; rw [k.g (g := 55) (by decide)]
theorem stepO_q {σ s : mS} (k : QM σ s) (W H ln m : Nat) (ctr : Prop) (o : Nat → Int32) : stepO s W H ln m ctr o = stepO σ W H ln m ctr o := by
  have hg : ∀ lw sd, grw s lw sd = grw σ lw sd := fun lw sd => by unfold grw; rw [k.g (g := 65) (by decide), k.g (g := 66) (by decide)]
  have hi : ∀ lw, isl s lw = isl σ lw := fun lw => by unfold isl; rw [k.g (g := 67) (by decide)]
  unfold stepO sdP
  rw [kdM_q k, hg, hi, k.1 18 (by decide) (by decide), k.g (g := 64) (by decide), k.g (g := 54) (by decide), k.g (g := 69) (by decide)]
theorem upO_q {σ s : mS} (k : QM σ s) (W H mp dn ln : Nat) (ct : Int32) (n : Nat) : upO s W H mp dn ln ct n = upO σ W H mp dn ln ct n := by
  unfold upO
  rw [k.g (g := 56) (by decide)]
  refine fo_cong fun y _ o => ?_
  have hd : ∀ wt yy oo, dsF s wt yy oo dn = dsF σ wt yy oo dn := fun wt yy oo => by
    unfold dsF
    rw [k.g (g := 58) (by decide), k.g (g := 59) (by decide), k.g (g := 60) (by decide), k.g (g := 61) (by decide), k.g (g := 62) (by decide)]
  have hw : ∀ m, wtr s m = wtr σ m := fun m => by unfold wtr; rw [k.g (g := 55) (by decide)]
  unfold goO
  rw [hd, hw, k.g (g := 54) (by decide)]
  cases stI (σ 54 0) (nI y) mp with
  | none => rfl
  | some m => dsimp only; rw [stepO_q k]
def shN (p sh : Nat → Int32) (n : Nat) : Int32 := fo (fun c acc => acc + (if p c = nI c ∧ ¬ sh c = 0 then 1 else 0)) 0 n
theorem ev_shores (σ : mS) : Ev kX8_shores [mM] σ (fun r s => r = some (mI (shN (σ 71 0) (σ 72 0) 144)) ∧ s = σ) := by
  refine Ev.intro fun G hG => hG.run ?_
  have key := loop_up (G := G) 4 144 (fun i => [some mM, some (mI (shN (σ 71 0) (σ 72 0) i)), some (mI (nI i))]) (fun _ => σ) ?_ ?_ 0 (by omega)
  · exact key
  · intro i hi ih
    have e : shN (σ 71 0) (σ 72 0) (i + 1) = shN (σ 71 0) (σ 72 0) i + (if σ 71 0 i = nI i ∧ ¬ σ 72 0 i = 0 then 1 else 0) := rfl
    rw [e, ← nI_1] at ih
    refine hG.run (br_f (nI_ge (b := 144) hi (by decide)) ?_)
    refine And.intro (vp_in_nI (by omega) (by omega)) ?_
    rw [nI_cl (by omega)]
    refine And.intro (fun c1 => ?_) (fun c1 => ?_)
    · replace c1 : ¬ σ 71 0 i = nI i := c1
      rw [if_neg (fun q => c1 q.1)] at ih
      exact ih
    · replace c1 : σ 71 0 i = nI i := c1
      refine And.intro (vp_in_nI (by omega) (by omega)) ?_
      rw [nI_cl (by omega)]
      refine And.intro (fun c2 => ?_) (fun c2 => ?_)
      · replace c2 : σ 72 0 i = 0 := c2
        rw [if_neg (fun q => q.2 c2)] at ih
        exact ih
      · replace c2 : ¬ σ 72 0 i = 0 := c2
        rw [if_pos ⟨c1, c2⟩] at ih
        exact ih
  · exact hG.run (br_t (Int32.le_refl _) ⟨rfl, rfl⟩)
noncomputable def shL (kd : Nat → Int32) (n : Nat) : Int32 := fo (fun c acc => acc + b2i ((newP kd c ∧ lab (newP kd) c = c) ∧ shoreP kd c)) 0 n
theorem shN_L {kd p f : Nat → Int32} (h : labOK (newP kd) p) (ha : allL (newP kd) p) (hf : ∀ l, l < 144 → f l = 0) : ∀ n, n ≤ 144 → shN p (shO p kd f 144) n = shL kd n
  | 0, _ => rfl
  | n + 1, hn => by
    have ih := shN_L h ha hf n (by omega)
    show shN p (shO p kd f 144) n + (if p n = nI n ∧ ¬ shO p kd f 144 n = 0 then 1 else 0) = shL kd n + b2i _
    rw [ih]
    congr 1
    have hl := lab_le (newP kd) n
    have hiff := lab_pos h ha (e := n) (by omega) n
    by_cases hq : newP kd n ∧ lab (newP kd) n = n
    · have hsh := shO_S h ha hf (c := n) (by omega)
      rw [hq.2] at hsh
      rw [hsh]
      by_cases hs : shoreP kd n
      · rw [b2i_t hs, b2i_t ⟨hq, hs⟩, if_pos ⟨(hiff.mpr hq).1, by decide⟩]
      · rw [b2i_f hs, b2i_f (fun z => hs z.2), if_neg (fun z => z.2 rfl)]
    · rw [b2i_f (fun z => hq z.1), if_neg (fun z => hq (hiff.mp ⟨z.1, by omega⟩))]
noncomputable def unN (W H : Nat) (a b : Nat → Int32) (n : Nat) : Int32 := fo (fun c acc => acc + b2i (onP W H c ∧ ¬ a c = b c)) 0 n
theorem unN_cong {W H : Nat} {a b a' b' : Nat → Int32} (h1 : ∀ c, c < 144 → a c = a' c) (h2 : ∀ c, c < 144 → b c = b' c) : unN W H a b 144 = unN W H a' b' 144 := fo_cong fun c hc x => by rw [h1 c hc, h2 c hc]
theorem kc_cong {k k' : Nat → Int32} (h : ∀ c, c < 144 → k c = k' c) (its : Int32) : kcF k its 144 = kcF k' its 144 := fo_cong fun c hc x => by rw [h c hc]
theorem shL_cong {k k' : Nat → Int32} (h : ∀ c, c < 144 → k c = k' c) : shL k 144 = shL k' 144 := by
  unfold shL
  rw [newP_cong h]
  exact fo_cong fun c hc x => by rw [b2i_c (show ((newP k' c ∧ lab (newP k') c = c) ∧ shoreP k c) ↔ ((newP k' c ∧ lab (newP k') c = c) ∧ shoreP k' c) by rw [shore_cong h c])]
/-- what step() answers -/
noncomputable def stV (σ : mS) (W H mp dn ln m y j : Nat) : Int32 := match j with
  | 0 => σ 54 0 m
  | 1 => kcF (kdM σ W H m) 1 144
  | 2 => kcF (kdM σ W H m) 2 144
  | 3 => nI (farF (kdM σ W H m) 144)
  | 4 => b2i (sdP σ W H m)
  | 5 => ptL (newP (kdM σ W H m)) 144
  | 6 => ptL (newP (kdM σ W H m)) 144 - shL (kdM σ W H m) 144
  | _ => unN W H (stepO σ W H ln m False (upO σ W H mp dn ln (-1) y)) (upO σ W H mp dn ln (-1) y) 144
set_option maxHeartbeats 1000000 in
theorem ev_step (σ : mS) {W H mp dn ln : Nat} (I : MI σ W H mp dn ln) (ht : tl0 σ) (st w : Int32) (post : Option mV → mS → Prop)
    (hbad : ¬ (stepP st mp ∧ vp_in w 8) → post (some (mI (-1))) (th0 σ))
    (hgo : ∀ m y j, 0 < m → m < mp → st = nI m → σ 54 0 m = nI y → 0 < y → y ≤ 200 → j < 8 → w = nI j → ∀ s, QM σ s → post (some (mI (stV σ W H mp dn ln m y j))) s) : Ev kX8_step [mM, mI st, mI w] σ post := by
  obtain ⟨⟨hW, hW0, hW1⟩, ⟨hH, hH0, hH1⟩, ⟨hmp, hmp1⟩, -, -, hb, -, hyr, hinc, -⟩ := id I
  refine Ev.intro fun G hG => hG.run ?_
  refine call_of (ev_isStep (th0 σ) st hmp hmp1) ?_
  refine And.intro (fun c1 => hbad (fun q => b_f c1 q.1)) (fun c1 => ?_)
  refine call_of (ev_inI _ w 0 7) ?_
  rw [b2i_c (show (0 ≤ w ∧ w ≤ 7) ↔ vp_in w 8 from in_iff (x := w) (n := 8) (by omega) (by omega))]
  refine And.intro (fun c2 => ?_) (fun c2 => hbad (fun q => b_f c2 q.2))
  obtain ⟨m, hm0, hm, rfl⟩ := b_t c1
  obtain ⟨j, hj, hwj⟩ := (vp_nI (by omega)).mp (b_t c2)
  obtain ⟨y, hy1, hy⟩ := hyr m hm
  have hy0 : 0 < y := by
    have h1 := hinc 0 m hm0 hm
    obtain ⟨y', h2', h3⟩ := hyr 0 (by omega)
    rw [h3, hy] at h1
    have := (nI_ltI (a := y') (b := y) (by omega) (by omega)).mp h1
    omega
  have hgo := hgo m y j hm0 hm rfl hy hy0 hy1 hj hwj
  refine call_of (ev_kinds (th0 σ) hW hW1 hH hH1 hm0 (by omega) hb) ?_
  generalize hs1 : mput (th0 σ) 70 0 (cpy (th0 σ 70 0) (kdM (th0 σ) W H m) 144) = s1
  have q1 : QM σ s1 := by
    rw [← hs1]
    exact (QM.keepT KeepT.th ht).tr (QM.put _ (Or.inl rfl) ht)
  have hcg : ∀ c, c < 144 → s1 70 0 c = kdM σ W H m c := fun c hc => by
    rw [← hs1, mput_eq, cpy_in hc]
    rfl
  have I1 := I.q q1
  have e54 : s1 54 0 = σ 54 0 := q1.g (by decide)
  have hx : ∀ i : Nat, i < 8 → w.toInt = 0 + (i : Int) → i = j := by
    intro i hi h
    have := toInt_nat h (by omega)
    rw [hwj] at this
    exact ((nI_eq (by omega) (by omega)).mp this).symm
  refine And.intro (fun c3 => ⟨?_, by decide⟩) (fun n off ho hxn => ?_)
  · -- the last one: how many cells changed
    have hj7 : j = 7 := by
      have : w.toInt = (j : Int) := by rw [hwj, nI_toInt (by omega)]
      omega
    subst hj7
    refine call_ex (ev_walks s1 I1 q1.2.2 hm0 hm (y := y) (by rw [e54]; exact hy) hy0 hy1) ?_
    rintro r s ⟨rfl, ⟨s0, k1, k2⟩, h74, h79⟩
    rw [upO_q q1] at h74 h79 k2
    rw [stepO_q q1] at h74
    have ts0 : tl0 s := by
      intro i hi
      obtain ⟨-, -, -, -, -, -, -, -, -, h10⟩ := id I
      rw [h74, stepO_tail hi, upO_tail hi, h10 i hi]
    have hq2 : QM s1 s := by
      refine ⟨fun i a b => ?_, fun g a b c d e f i j => ?_, ts0⟩
      · rw [k2.1 i b, mput_ng _ _ _ _ (by decide)]; exact k1.1 i b
      · rw [k2.2 g a b c d e f, mput_ng _ _ _ _ j]; exact k1.2 g a b c d e f
    have qs := q1.tr hq2
    obtain ⟨⟨hW', -⟩, ⟨hH', -⟩, -⟩ := I.q qs
    have key := loop_up (G := G) 147 144 (fun i => [some mM, some (mI (nI m)), some (mI w), some (mI (unN W H (s 74 0) (s 79 0) i)), some (mI (nI i))]) (fun _ => s) ?_ ?_ 0 (by omega)
    · exact key
    · intro i hi ih
      have e : unN W H (s 74 0) (s 79 0) (i + 1) = unN W H (s 74 0) (s 79 0) i + b2i (onP W H i ∧ ¬ s 74 0 i = s 79 0 i) := rfl
      rw [e, ← nI_1] at ih
      refine hG.run (br_f (nI_ge (b := 144) hi (by decide)) ?_)
      have no : ¬ (onP W H i ∧ ¬ s 74 0 i = s 79 0 i) → G 147 [some mM, some (mI (nI m)), some (mI w), some (mI (unN W H (s 74 0) (s 79 0) i + 0)), some (mI (nI i + 1))] [] s := fun q => by rw [b2i_f q] at ih; exact ih
      refine call_of (ev_isOn s (c := i) hW' hW1 hH' hH1 hi) ?_
      refine And.intro (fun c4 => no (fun q => b_f c4 q.1)) (fun c4 => ?_)
      refine And.intro (vp_in_nI (by omega) (by omega)) (And.intro (vp_in_nI (by omega) (by omega)) ?_)
      rw [nI_cl (by omega)]
      refine And.intro (fun c5 => no (fun q => q.2 c5)) (fun c5 => ?_)
      rw [b2i_t ⟨b_t c4, c5⟩] at ih
      exact ih
    · refine hG.run (br_t (Int32.le_refl _) ?_)
      have := hgo s qs
      have e7 : stV σ W H mp dn ln m y 7 = unN W H (s 74 0) (s 79 0) 144 := by
        show unN W H _ _ 144 = _
        refine unN_cong (fun c hc => by rw [h74]) (fun c hc => by rw [h79, cpy_in hc])
      rw [e7] at this
      exact this
  · have hn : n < 7 := by
      rcases Nat.lt_or_ge n 7 with q | q
      · exact q
      · rw [Array.getElem?_eq_none (by simpa using q)] at ho; cases ho
    have hnj := hx n (by omega) hxn
    have fs := ev_findsParts s1
    have qf : ∀ p, QM s1 (mput (mput (mput s1 71 0 p) 40 0 (upd (s1 40 0) 23 (ptN p 144))) 72 0 (shO p (s1 70 0) (fil (s1 72 0) 0 144) 144)) := by
      intro p
      refine ⟨fun i a b => ?_, fun g a b c d e f i j => ?_, fun i hi => ?_⟩
      · rw [mput_ng _ _ _ _ (by decide), mput_eq, upd_ne _ _ b]
      · rw [mput_ng _ _ _ _ d, mput_ng _ _ _ _ a, mput_ng _ _ _ _ c]
      · rw [mput_ng _ _ _ _ (by decide), mput_ng _ _ _ _ (by decide), mput_ng _ _ _ _ (by decide)]; exact q1.2.2 i hi
    match n, hn, ho, hnj with
    | 0, _, ho, hnj =>
      cases ho
      subst hnj
      refine ⟨And.intro (vp_in_nI (by omega) (by omega)) ?_, by decide⟩
      rw [nI_cl (by omega)]
      have := hgo s1 q1
      rw [show stV σ W H mp dn ln m y 0 = s1 54 0 m by rw [e54]; rfl] at this
      exact this
    | 1, _, ho, hnj =>
      cases ho
      subst hnj
      refine ⟨call_of (ev_kindsOf s1 1) ?_, by decide⟩
      have := hgo s1 q1
      rw [show stV σ W H mp dn ln m y 1 = kcF (s1 70 0) 1 144 from (kc_cong hcg 1).symm] at this
      exact this
    | 2, _, ho, hnj =>
      cases ho
      subst hnj
      refine ⟨call_of (ev_kindsOf s1 2) ?_, by decide⟩
      have := hgo s1 q1
      rw [show stV σ W H mp dn ln m y 2 = kcF (s1 70 0) 2 144 from (kc_cong hcg 2).symm] at this
      exact this
    | 3, _, ho, hnj =>
      cases ho
      subst hnj
      refine ⟨call_of (ev_far s1) ?_, by decide⟩
      have := hgo s1 q1
      rw [show stV σ W H mp dn ln m y 3 = nI (farF (s1 70 0) 144) by rw [far_cong hcg]; rfl] at this
      exact this
    | 4, _, ho, hnj =>
      cases ho
      subst hnj
      have hsd := ev_isSudden s1 (m := m) (by omega)
      rw [far_cong hcg, q1.g (g := 69) (by decide), q1.1 18 (by decide) (by decide)] at hsd
      refine ⟨call_of hsd ?_, by decide⟩
      have := hgo s1 q1
      refine And.intro (fun c4 => ?_) (fun c4 => ?_)
      · rw [show stV σ W H mp dn ln m y 4 = 0 from c4] at this
        exact this
      · rw [show stV σ W H mp dn ln m y 4 = 1 from b2i_t (b_t c4)] at this
        exact this
    | 5, _, ho, hnj =>
      cases ho
      subst hnj
      refine ⟨call_ex fs ?_, by decide⟩
      rintro r s ⟨rfl, p, hp1, hp2, rfl⟩
      have := hgo _ (q1.tr (qf p))
      rw [show stV σ W H mp dn ln m y 5 = ptN p 144 by rw [ptN_L hp1 hp2 144 (Nat.le_refl _), newP_cong hcg]; rfl] at this
      exact this
    | 6, _, ho, hnj =>
      cases ho
      subst hnj
      refine ⟨call_ex fs ?_, by decide⟩
      rintro r s ⟨rfl, p, hp1, hp2, rfl⟩
      have := hgo _ (q1.tr (qf p))
      refine call_of (ev_shores _) ?_
      rw [show stV σ W H mp dn ln m y 6 = ptN p 144 - shN p (shO p (s1 70 0) (fil (s1 72 0) 0 144) 144) 144 by rw [ptN_L hp1 hp2 144 (Nat.le_refl _), shN_L hp1 hp2 (fun l hl => fil_in hl) 144 (Nat.le_refl _), newP_cong hcg, shL_cong hcg]; rfl] at this
      exact this
    | n + 7, hn, _, _ => exact absurd hn (by omega)
/-- moved: refused, or so much more -/
theorem ev_moved (σ : mS) {W H mp dn ln : Nat} (I : MI σ W H mp dn ln) (ht : tl0 σ) (o st : Int32) (post : Option mV → mS → Prop)
    (hbad : ¬ ((0 ≤ o ∧ o ≤ 9) ∧ stepP st mp) → ∀ s, QM σ s → s 40 0 0 = 1 → post (some (mI 0)) s)
    (hgo : ∀ m y, 0 < m → m < mp → st = nI m → σ 54 0 m = nI y → 0 < y → y ≤ 200 → (0 ≤ o ∧ o ≤ 9) → ∀ s, QM σ s → s 40 0 0 = 0 → post (some (mI (arF W H (wtr σ m) (stepO σ W H ln m False (upO σ W H mp dn ln (-1) y)) o 144 - arF W H (wtr σ (m - 1)) (upO σ W H mp dn ln (-1) y) o 144))) s) : Ev kX8_moved [mM, mI o, mI st] σ post := by
  obtain ⟨⟨hW, hW0, hW1⟩, ⟨hH, hH0, hH1⟩, ⟨hmp, hmp1⟩, -, -, hb, -, hyr, hinc, h10⟩ := id I
  refine Ev.intro fun G hG => hG.run ?_
  have q0 : QM σ (th0 σ) := QM.keepT KeepT.th ht
  have bad : ¬ ((0 ≤ o ∧ o ≤ 9) ∧ stepP st mp) → ∃ po : Option mV → mS → Prop, Ev kX8_refuse [mM] (th0 σ) po ∧ ∀ r s, po r s → ∃ v, r = some (mI v) ∧ post (some (mI v)) s := by
    intro q
    refine ⟨_, ev_refuse (th0 σ), ?_⟩
    rintro r s ⟨rfl, rfl⟩
    refine ⟨0, rfl, hbad q _ ?_ ?_⟩
    · refine q0.tr ⟨fun j a b => by rw [mput_eq, upd_ne _ _ a], fun g a b c d e f i j => by rw [mput_ng _ _ _ _ a], fun j hj => ?_⟩
      rw [mput_ng _ _ _ _ (by decide)]; exact ht j hj
    · rw [mput_eq, upd_eq]
  refine call_of (ev_inI _ o 0 9) ?_
  refine And.intro (fun c1 => ?_) (fun c1 => ?_)
  · obtain ⟨po, e1, e2⟩ := bad (fun q => b_f c1 q.1)
    refine call_ex e1 ?_
    intro r s hp
    obtain ⟨v, rfl, h⟩ := e2 r s hp
    exact h
  · refine call_of (ev_isStep (th0 σ) st hmp hmp1) ?_
    refine And.intro (fun c2 => ?_) (fun c2 => ?_)
    · obtain ⟨m, hm0, hm, rfl⟩ := b_t c2
      obtain ⟨y, hy1, hy⟩ := hyr m hm
      have hy0 : 0 < y := by
        have h1 := hinc 0 m hm0 hm
        obtain ⟨y', h2', h3⟩ := hyr 0 (by omega)
        rw [h3, hy] at h1
        have := (nI_ltI (a := y') (b := y) (by omega) (by omega)).mp h1
        omega
      have hgo := hgo m y hm0 hm rfl hy hy0 hy1 (b_t c1)
      refine call_ex (ev_walks (th0 σ) I.th ht hm0 hm (y := y) hy hy0 hy1) ?_
      rintro r s ⟨rfl, ⟨s0, k1, k2⟩, h74, h79⟩
      rw [upO_keep KeepT.th] at h74 h79 k2
      rw [stepO_keep KeepT.th] at h74
      have ts0 : tl0 s := by
        intro i hi
        rw [h74, stepO_tail hi, upO_tail hi, h10 i hi]
      have hq2 : QM (th0 σ) s := by
        refine ⟨fun i a b => ?_, fun g a b c d e f i j => ?_, ts0⟩
        · rw [k2.1 i b, mput_ng _ _ _ _ (by decide)]; exact k1.1 i b
        · rw [k2.2 g a b c d e f, mput_ng _ _ _ _ j]; exact k1.2 g a b c d e f
      have hth : s 40 0 0 = 0 := by
        rw [k2.1 0 (by decide), mput_ng _ _ _ _ (by decide), k1.1 0 (by decide)]
        rfl
      have qs := q0.tr hq2
      obtain ⟨⟨hW', -⟩, ⟨hH', -⟩, -, -, -, hb', -⟩ := I.q qs
      have ew : ∀ z, wtr s z = wtr σ z := fun z => by unfold wtr; rw [qs.g (g := 55) (by decide)]
      refine call_of (ev_areaOn s o (m := m) hW' hW1 hH' hH1 (by omega) hb') ?_
      rw [ew, h74]
      generalize hA : arF W H (wtr σ m) (stepO σ W H ln m False (upO σ W H mp dn ln (-1) y)) o 144 = A at hgo
      have key := loop_up (G := G) 45 144 (fun i => [some mM, some (mI o), some (mI (nI m)), some (mI A), some (mI (nI i))]) (fun i => mput s 74 0 (cpy (s 74 0) (s 79 0) i)) ?_ ?_ 0 (by omega)
      · rw [cpy_0, mput_self] at key
        exact key
      · intro i hi ih
        refine hG.run (br_f (nI_ge (b := 144) hi (by decide)) ?_)
        refine And.intro (vp_in_nI (by omega) (by omega)) (And.intro (vp_in_nI (by omega) (by omega)) ?_)
        rw [nI_cl (by omega)]
        show G 45 [some mM, some (mI o), some (mI (nI m)), some (mI A), some (mI (nI i + 1))] [] (mput (mput s 74 0 (cpy (s 74 0) (s 79 0) i)) 74 0 (upd (cpy (s 74 0) (s 79 0) i) i (s 79 0 i)))
        rw [mput_mput, cpy_s, nI_1]
        exact ih
      · refine hG.run (br_t (Int32.le_refl _) ?_)
        have ha := ev_areaOn (mput s 74 0 (cpy (s 74 0) (s 79 0) 144)) o (m := m - 1) hW' hW1 hH' hH1 (by omega) hb'
        refine call_of (k := kX8_areaOn) (a := [mM, mI (nI m - 1), mI o]) (by rw [nI_m1 hm0]; exact ha) ?_
        have e5 : arF W H (wtr (mput s 74 0 (cpy (s 74 0) (s 79 0) 144)) (m - 1)) (mput s 74 0 (cpy (s 74 0) (s 79 0) 144) 74 0) o 144 = arF W H (wtr σ (m - 1)) (upO σ W H mp dn ln (-1) y) o 144 := by
          rw [mput_eq]
          have : wtr (mput s 74 0 (cpy (s 74 0) (s 79 0) 144)) (m - 1) = wtr σ (m - 1) := by rw [← ew]; rfl
          rw [this]
          refine fo_cong fun c hc x => ?_
          rw [cpy_in hc, h79, cpy_in hc]
        rw [e5]
        refine hgo _ (qs.tr ⟨fun j a b => by rw [mput_ng _ _ _ _ (by decide)], fun g a b c d e f i j => by rw [mput_ng _ _ _ _ e], fun j hj => ?_⟩) ?_
        · rw [mput_eq, cpy_out hj]; exact ts0 j hj
        · rw [mput_ng _ _ _ _ (by decide)]; exact hth
    · obtain ⟨po, e1, e2⟩ := bad (fun q => b_f c2 q.2)
      refine call_ex e1 ?_
      intro r s hp
      obtain ⟨v, rfl, h⟩ := e2 r s hp
      exact h
/-- how many cells are another's, if a step were the other way -/
noncomputable def unF (σ : mS) (W H mp dn ln m yr : Nat) : Int32 := unN W H (upO σ W H mp dn ln (nI m) (yr + 1)) (upO σ W H mp dn ln (-1) (yr + 1)) 144
theorem ev_unlike (σ : mS) {W H mp dn ln : Nat} (I : MI σ W H mp dn ln) (ht : tl0 σ) (m : Nat) {yr : Nat} (hyr : yr ≤ 200) : Ev kX8_unlike [mM, mI (nI m), mI (nI yr)] σ (fun r s => r = some (mI (unF σ W H mp dn ln m yr)) ∧ QM σ s) := by
  obtain ⟨⟨hW, hW0, hW1⟩, ⟨hH, hH0, hH1⟩, -⟩ := id I
  refine Ev.intro fun G hG => hG.run ?_
  refine call_ex (ev_upTo σ I ht (-1) hyr) ?_
  rintro r s0 ⟨rfl, k, h74⟩
  have ts0 := upO_tl I h74
  have e79 : s0 79 0 = σ 79 0 := k.g (by decide)
  have q0 : QM σ s0 := QM.keepT k.t ts0
  have key := loop_up (G := G) 8 144 (fun i => [some mM, some (mI (nI m)), some (mI (nI yr)), some (mI (nI i)), none]) (fun i => mput s0 79 0 (cpy (σ 79 0) (upO σ W H mp dn ln (-1) (yr + 1)) i)) ?_ ?_ 0 (by omega)
  · rw [cpy_0, ← e79, mput_self] at key
    exact key
  · intro i hi ih
    refine hG.run (br_f (nI_ge (b := 144) hi (by decide)) ?_)
    refine And.intro (vp_in_nI (by omega) (by omega)) (And.intro (vp_in_nI (by omega) (by omega)) ?_)
    rw [nI_cl (by omega)]
    show G 8 [some mM, some (mI (nI m)), some (mI (nI yr)), some (mI (nI i + 1)), none] [] (mput (mput s0 79 0 (cpy (σ 79 0) (upO σ W H mp dn ln (-1) (yr + 1)) i)) 79 0 (upd (cpy (σ 79 0) (upO σ W H mp dn ln (-1) (yr + 1)) i) i (s0 74 0 i)))
    rw [mput_mput, h74, cpy_s, nI_1]
    exact ih
  · refine hG.run (br_t (Int32.le_refl _) ?_)
    generalize hB : cpy (σ 79 0) (upO σ W H mp dn ln (-1) (yr + 1)) 144 = B
    have q1 : QM σ (mput s0 79 0 B) := q0.tr (QM.put B (Or.inr (Or.inr (Or.inr (Or.inr (Or.inr rfl))))) ts0)
    refine call_ex (ev_upTo (mput s0 79 0 B) (I.q q1) q1.2.2 (nI m) hyr) ?_
    rintro r s ⟨rfl, k2, h2⟩
    rw [upO_q q1] at h2
    have ts := upO_tl I h2
    have qs : QM σ s := q1.tr (QM.keepT k2.t ts)
    have h79 : s 79 0 = B := (k2.g (by decide)).trans (mput_eq _ _ _ _)
    obtain ⟨⟨hW', -⟩, ⟨hH', -⟩, -⟩ := I.q qs
    have key := loop_up (G := G) 44 144 (fun i => [some mM, some (mI (nI m)), some (mI (nI yr)), some (mI (unN W H (s 74 0) (s 79 0) i)), some (mI (nI i))]) (fun _ => s) ?_ ?_ 0 (by omega)
    · exact key
    · intro i hi ih
      have e : unN W H (s 74 0) (s 79 0) (i + 1) = unN W H (s 74 0) (s 79 0) i + b2i (onP W H i ∧ ¬ s 74 0 i = s 79 0 i) := rfl
      rw [e, ← nI_1] at ih
      refine hG.run (br_f (nI_ge (b := 144) hi (by decide)) ?_)
      have no : ¬ (onP W H i ∧ ¬ s 74 0 i = s 79 0 i) → G 44 [some mM, some (mI (nI m)), some (mI (nI yr)), some (mI (unN W H (s 74 0) (s 79 0) i + 0)), some (mI (nI i + 1))] [] s := fun q => by rw [b2i_f q] at ih; exact ih
      refine call_of (ev_isOn s (c := i) hW' hW1 hH' hH1 hi) ?_
      refine And.intro (fun c4 => no (fun q => b_f c4 q.1)) (fun c4 => ?_)
      refine And.intro (vp_in_nI (by omega) (by omega)) (And.intro (vp_in_nI (by omega) (by omega)) ?_)
      rw [nI_cl (by omega)]
      refine And.intro (fun c5 => no (fun q => q.2 c5)) (fun c5 => ?_)
      rw [b2i_t ⟨b_t c4, c5⟩] at ih
      exact ih
    · refine hG.run (br_t (Int32.le_refl _) ⟨?_, qs⟩)
      have e7 : unN W H (s 74 0) (s 79 0) 144 = unF σ W H mp dn ln m yr := unN_cong (fun c hc => by rw [h2]) (fun c hc => by rw [h79, ← hB, cpy_in hc])
      exact congrArg (fun z => some (mI z)) e7
theorem ev_doubt (σ : mS) {W H mp dn ln : Nat} (I : MI σ W H mp dn ln) (ht : tl0 σ) (st year : Int32) (post : Option mV → mS → Prop)
    (hbad : ¬ (stepP st mp ∧ vp_in year 201) → post (some (mI (-1))) (th0 σ))
    (hgo : ∀ m yr, 0 < m → m < mp → st = nI m → yr ≤ 200 → year = nI yr → ∀ s, QM σ s → post (some (mI (unF σ W H mp dn ln m yr))) s) : Ev kX8_doubt [mM, mI st, mI year] σ post := by
  obtain ⟨-, -, ⟨hmp, hmp1⟩, -⟩ := id I
  refine Ev.intro fun G hG => hG.run ?_
  have q0 : QM σ (th0 σ) := QM.keepT KeepT.th ht
  refine call_of (ev_isStep (th0 σ) st hmp hmp1) ?_
  refine And.intro (fun c1 => hbad (fun q => b_f c1 q.1)) (fun c1 => ?_)
  refine call_of (ev_isYear _ year) ?_
  refine And.intro (fun c2 => hbad (fun q => b_f c2 q.2)) (fun c2 => ?_)
  obtain ⟨m, hm0, hm, rfl⟩ := b_t c1
  obtain ⟨yr, hyr, rfl⟩ := yr_of (b_t c2)
  refine call_ex (ev_unlike (th0 σ) I.th ht m hyr) ?_
  rintro r s ⟨rfl, qs⟩
  have := hgo m yr hm0 hm rfl hyr rfl s (q0.tr qs)
  have e : unF (th0 σ) W H mp dn ln m yr = unF σ W H mp dn ln m yr := by unfold unF; rw [upO_keep KeepT.th, upO_keep KeepT.th]
  rw [← e] at this
  exact this
/-- the step with the greatest doubt among the first n -/
noncomputable def wkF (jd u : Nat → Int32) (n : Nat) : Option Nat × Int32 := fo (fun m st => ifp (0 < m ∧ jd m < 0 ∧ (st.1 = none ∨ st.2 < u m)) (some m, u m) st) (none, 0) n
theorem wkF_lt (jd u : Nat → Int32) : ∀ n e, (wkF jd u n).1 = some e → e < n
  | 0, e, h => by cases h
  | n + 1, e, h => by
    have ih := wkF_lt jd u n
    have e1 : wkF jd u (n + 1) = ifp (0 < n ∧ jd n < 0 ∧ ((wkF jd u n).1 = none ∨ (wkF jd u n).2 < u n)) (some n, u n) (wkF jd u n) := rfl
    rw [e1] at h
    by_cases q : 0 < n ∧ jd n < 0 ∧ ((wkF jd u n).1 = none ∨ (wkF jd u n).2 < u n)
    · rw [ifp_t q] at h; cases h; omega
    · rw [ifp_f q] at h; have := ih e h; omega
theorem ev_weak (σ : mS) {W H mp dn ln : Nat} (I : MI σ W H mp dn ln) (ht : tl0 σ) (year : Int32) (post : Option mV → mS → Prop)
    (hbad : ¬ vp_in year 201 → post (some (mI (-1))) (th0 σ))
    (hgo : ∀ yr, yr ≤ 200 → year = nI yr → ∀ s, QM σ s → post (some (mI (oI (wkF (σ 69 0) (fun m => unF σ W H mp dn ln m yr) mp).1))) s) : Ev kX8_weak [mM, mI year] σ post := by
  obtain ⟨-, -, ⟨hmp, hmp1⟩, -⟩ := id I
  refine Ev.intro fun G hG => hG.run ?_
  have q0 : QM σ (th0 σ) := QM.keepT KeepT.th ht
  by_cases hy : vp_in year 201
  · obtain ⟨yr, hyr, rfl⟩ := yr_of hy
    have hgo := hgo yr hyr rfl
    generalize hu : (fun m => unF σ W H mp dn ln m yr) = u at hgo
    have hum : ∀ m, unF σ W H mp dn ln m yr = u m := fun m => by rw [← hu]
    have key : ∀ n m, 0 < m → m + n = max mp 1 → ∀ s, QM σ s → ∀ z : Option mV, G 12 [some mM, some (mI (nI yr)), some (mI (oI (wkF (σ 69 0) u m).1)), some (mI (wkF (σ 69 0) u m).2), some (mI (nI m)), z] [] s := by
      intro n
      induction n with
      | zero =>
        intro m hm0 hm s qs z
        refine hG.run (br_t ?_ ?_)
        · show s 40 0 3 ≤ nI m
          rw [qs.1 3 (by decide) (by decide), hmp]
          exact nI_le (by omega) (by omega)
        · have e : wkF (σ 69 0) u m = wkF (σ 69 0) u mp := by
            by_cases q : 0 < mp
            · rw [show m = mp by omega]
            · rw [show m = 1 by omega, show mp = 0 by omega]
              exact ifp_f (fun z => Nat.lt_irrefl 0 z.1)
          have := hgo s qs
          rw [← e] at this
          exact this
      | succ n ih =>
        intro m hm0 hm s qs z
        have hlt : m < mp := by omega
        have hwl := wkF_lt (σ 69 0) u m
        refine hG.run (br_f ?_ ?_)
        · show ¬ s 40 0 3 ≤ nI m
          rw [qs.1 3 (by decide) (by decide), hmp]
          exact nI_ge hlt (by omega)
        · refine call_of (ev_isYear s (nI yr)) ?_
          refine And.intro (fun c1 => absurd hy (b_f c1)) (fun _ => ?_)
          refine And.intro (vp_in_nI (by omega) (by omega)) ?_
          rw [nI_cl (by omega)]
          have e69 : s 69 0 = σ 69 0 := qs.g (by decide)
          have e : wkF (σ 69 0) u (m + 1) = ifp (0 < m ∧ σ 69 0 m < 0 ∧ ((wkF (σ 69 0) u m).1 = none ∨ (wkF (σ 69 0) u m).2 < u m)) (some m, u m) (wkF (σ 69 0) u m) := rfl
          have ih := ih (m + 1) (by omega) (by omega)
          rw [e, ← nI_1] at ih
          refine And.intro (fun c2 => ?_) (fun c2 => ?_)
          · replace c2 : s 69 0 m < 0 := c2
            rw [e69] at c2
            refine call_ex (ev_unlike s (I.q qs) qs.2.2 m hyr) ?_
            rintro r s2 ⟨rfl, q2⟩
            have eu : unF s W H mp dn ln m yr = u m := by rw [← hum]; unfold unF; rw [upO_q qs, upO_q qs]
            rw [eu]
            have ih := ih s2 (qs.tr q2) (some (mI (u m)))
            refine And.intro (fun c3 => ?_) (fun c3 => And.intro (fun c4 => ?_) (fun c4 => ?_))
            · have c3 := (oI_neg (fun e h => by have := hwl e h; omega)).mp c3
              rw [ifp_t ⟨hm0, c2, Or.inl c3⟩] at ih
              exact ih
            · have c3 : ¬ (wkF (σ 69 0) u m).1 = none := fun q => c3 ((oI_neg (fun e h => by have := hwl e h; omega)).mpr q)
              rw [ifp_f (fun q => q.2.2.elim c3 (fun z => not_le_of z c4))] at ih
              exact ih
            · rw [ifp_t ⟨hm0, c2, Or.inr (Int32.not_le.mp c4)⟩] at ih
              exact ih
          · replace c2 : ¬ s 69 0 m < 0 := c2
            rw [e69] at c2
            rw [ifp_f (fun q => c2 q.2.1)] at ih
            exact ih s qs z
    have h9 := key (max mp 1 - 1) 1 (by omega) (by omega) (th0 σ) q0 none
    rw [show wkF (σ 69 0) u 1 = (none, 0) from ifp_f (fun q => Nat.lt_irrefl 0 q.1)] at h9
    exact h9
  · show G 12 [some mM, some (mI year), some (mI (-1)), some (mI 0), some (mI 1), none] [] (th0 σ)
    refine hG.run (And.intro (fun _ => hbad hy) (fun _ => ?_))
    refine call_of (ev_isYear _ year) ?_
    exact And.intro (fun _ => hbad hy) (fun c1 => absurd (b_t c1) hy)
theorem ev_row (σ : mS) {rw : Nat} (hr : σ 40 0 26 = nI rw) (hr1 : rw ≤ 402) (i : Int32) (post : Option mV → mS → Prop)
    (hbad : ¬ vp_in i rw → post (some (mI 0)) (mput σ 40 0 (upd (σ 40 0) 0 1))) (hgo : ∀ j, j < rw → i = nI j → post (some (mI (σ 77 0 j))) (th0 σ)) : Ev kX8_row [mM, mI i] σ post := by
  refine Ev.intro fun G hG => hG.run ?_
  refine call_of (ev_inI _ i 0 (σ 40 0 26 - 1)) ?_
  rw [hr, b2i_c (in_iff0 (by omega))]
  refine And.intro (fun c1 => ?_) (fun c1 => ?_)
  · have := hbad (b_f c1)
    refine call_of (ev_refuse (th0 σ)) ?_
    unfold th0
    rw [mput_eq, mput_mput, fa_upd2]
    exact this
  · obtain ⟨j, hj, rfl⟩ := (vp_nI (by omega)).mp (b_t c1)
    refine And.intro (vp_in_nI (by omega) (by omega)) ?_
    rw [nI_cl (by omega)]
    exact hgo j hj rfl
