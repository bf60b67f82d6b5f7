/-! THE REFERENCE: banks, steps asked -/
def dryP (W H : Nat) (wt : Nat → Int32) (c : Nat) : Prop := c < 144 ∧ onP W H c ∧ wt c = 0
noncomputable def bk0 (W H : Nat) (wt : Nat → Int32) (c : Nat) : Int32 := ifp (onP W H c ∧ wt c = 0) (nI c) (-1)
theorem bk0_ok (f : Nat → Int32) (W H : Nat) (wt : Nat → Int32) : labOK (dryP W H wt) (cpy f (bk0 W H wt) 144) := by
  intro c hc
  rw [cpy_in hc]
  unfold bk0
  refine ⟨fun h => ifp_f (fun q => h ⟨hc, q⟩), fun h => ⟨c, Nat.le_refl _, ifp_t h.2, conn_rf⟩⟩
/-- how many parts: labels at home -/
noncomputable def ptL (S : Nat → Prop) (n : Nat) : Int32 := fo (fun c acc => acc + b2i (S c ∧ lab S c = c)) 0 n
theorem ptN_L {S : Nat → Prop} {p : Nat → Int32} (h : labOK S p) (ha : allL S p) : ∀ n, n ≤ 144 → ptN p n = ptL S n
  | 0, _ => rfl
  | n + 1, hn => by
    have ih := ptN_L h ha n (by omega)
    show ptN p n + (if p n = nI n then 1 else 0) = ptL S n + b2i (S n ∧ lab S n = n)
    rw [ih]
    congr 1
    have hl := lab_le S n
    by_cases hs : S n
    · have hp := ha n (by omega) hs
      by_cases hq : lab S n = n
      · rw [if_pos (by rw [hp, hq]), b2i_t ⟨hs, hq⟩]
      · rw [if_neg (by rw [hp]; exact fun z => hq ((nI_eq (by omega) (by omega)).mp z)), b2i_f (fun z => hq z.2)]
    · rw [if_neg, b2i_f (fun z => hs z.1)]
      intro z
      rw [(h n (by omega)).1 hs] at z
      have := congrArg Int32.toInt z
      rw [nI_toInt (by omega), show (-1 : Int32).toInt = -1 from rfl] at this
      omega
def bankQ (σ s : mS) : Prop := ∃ f, s = mput (th0 σ) 78 0 f
theorem ev_banks (σ : mS) {W H mp dn ln : Nat} (I : MI σ W H mp dn ln) (year : Int32) (post : Option mV → mS → Prop)
    (hbad : ¬ (vp_in year 201 ∧ 0 < mp) → post (some (mI (-1))) (th0 σ))
    (hgo : ∀ yr, yr ≤ 200 → year = nI yr → 0 < mp → ∀ f, post (some (mI (ptL (dryP W H (wtr σ (mapInF (σ 54 0) year mp))) 144))) (mput (th0 σ) 78 0 f)) : Ev kX8_banks [mM, mI year] σ post := by
  obtain ⟨⟨hW, hW0, hW1⟩, ⟨hH, hH0, hH1⟩, ⟨hmp, hmp1⟩, -, -, hb, -⟩ := id I
  refine Ev.intro fun G hG => hG.run ?_
  refine call_of (ev_isYear _ year) ?_
  refine And.intro (fun c1 => hbad (fun q => b_f c1 q.1)) (fun c1 => ?_)
  refine And.intro (fun c3 => ?_) (fun c3 => ?_)
  · replace c3 : ¬ σ 40 0 3 = 0 := c3
    rw [hmp] at c3
    have c3 : 0 < mp := Nat.pos_of_ne_zero (fun q => c3 (by rw [q]; rfl))
    obtain ⟨yr, hyr, rfl⟩ := yr_of (b_t c1)
    have hgo := hgo yr hyr rfl c3
    refine call_of (ev_mapIn (th0 σ) (nI yr) hmp hmp1) ?_
    have hlt := mapInF_lt (σ 54 0) (nI yr) mp
    show G 29 [some mM, some (mI (nI yr)), some (mI (nI (mapInF (σ 54 0) (nI yr) mp))), some (mI 0), none, none] [] (th0 σ)
    generalize mapInF (σ 54 0) (nI yr) mp = M at hlt hgo
    generalize hS : dryP W H (wtr σ M) = S at hgo
    have hSl : ∀ c, S c → c < 144 := fun c h => by rw [← hS] at h; exact h.1
    -- the count
    have ph3 : ∀ p, labOK S p → allL S p → G 185 [some mM, some (mI (nI yr)), some (mI (nI M)), some (mI 0), some (mI 0), some (mI 0)] [] (mput (th0 σ) 78 0 p) := by
      intro p h1 h2
      have key := loop_up (G := G) 185 144 (fun i => [some mM, some (mI (nI yr)), some (mI (nI M)), some (mI 0), some (mI (ptN p i)), some (mI (nI i))]) (fun _ => mput (th0 σ) 78 0 p) ?_ ?_ 0 (by omega)
      · exact key
      · intro i hi ih
        have e : ptN p (i + 1) = ptN p i + (if p i = nI i then 1 else 0) := rfl
        rw [e, ← nI_1] at ih
        refine hG.run (br_f (nI_ge (b := 144) hi (by decide)) ?_)
        refine And.intro (vp_in_nI (by omega) (by omega)) ?_
        rw [nI_cl (by omega)]
        refine And.intro (fun c4 => ?_) (fun c4 => ?_)
        · replace c4 : ¬ p i = nI i := c4
          rw [if_neg c4] at ih
          exact ih
        · replace c4 : p i = nI i := c4
          rw [if_pos c4] at ih
          exact ih
      · refine hG.run (br_t (Int32.le_refl _) ?_)
        have := hgo p
        rw [← ptN_L h1 h2 144 (Nat.le_refl _)] at this
        exact this
    -- the rounds
    have round : ∀ p, labOK S p → ((psO (p, false) 144).2 = true → ∀ z4 z5 : Option mV, G 72 [some mM, some (mI (nI yr)), some (mI (nI M)), some (mI 1), z4, z5] [] (mput (th0 σ) 78 0 (psO (p, false) 144).1)) → ∀ z4 z5 : Option mV, G 72 [some mM, some (mI (nI yr)), some (mI (nI M)), some (mI 1), z4, z5] [] (mput (th0 σ) 78 0 p) := by
      intro p hp hnext z4 z5
      have ok := fun k hk => psO_ok (st := (p, false)) hp rfl k hk
      have outer : ∀ m c, c + m = 144 → ∀ z5 : Option mV, G 81 [some mM, some (mI (nI yr)), some (mI (nI M)), some (mI (bI (psO (p, false) c).2)), some (mI (nI c)), z5] [] (mput (th0 σ) 78 0 (psO (p, false) c).1) := by
        intro m
        induction m with
        | zero =>
          intro c hc z5
          have : c = 144 := by omega
          subst this
          obtain ⟨o1, o2, o3⟩ := ok 144 (Nat.le_refl _)
          refine hG.run (br_t (Int32.le_refl _) ?_)
          cases hb2 : (psO (p, false) 144).2 with
          | false =>
            obtain ⟨q1, q2⟩ := o2 hb2
            show G 72 [some mM, some (mI (nI yr)), some (mI (nI M)), some (mI 0), some (mI (nI 144)), z5] [] (mput (th0 σ) 78 0 (psO (p, false) 144).1)
            refine hG.run (br_t rfl ?_)
            rw [q1]
            exact ph3 p hp (psO_done hSl hp q2)
          | true => exact hnext hb2 _ _
        | succ m ihm =>
          intro c hc z5
          have hvc : vp_in (nI c) 144 := vp_in_nI (by omega) (by omega)
          have cc : (nI c).toNatClampNeg = c := nI_cl (by omega)
          generalize hst : psO (p, false) c = st
          have e2 : psO (p, false) (c + 1) = psI c st 144 := by rw [← hst]; rfl
          have next := ihm (c + 1) (by omega)
          rw [e2, ← nI_1] at next
          have inner : ∀ k d, d + k = 144 → G 92 [some mM, some (mI (nI yr)), some (mI (nI M)), some (mI (bI (psI c st d).2)), some (mI (nI c)), some (mI (nI d))] [] (mput (th0 σ) 78 0 (psI c st d).1) := by
            intro k
            induction k with
            | zero =>
              intro d hd
              have : d = 144 := by omega
              subst this
              exact hG.run (br_t (Int32.le_refl _) (next _))
            | succ k ihk =>
              intro d hd
              have hvd : vp_in (nI d) 144 := vp_in_nI (by omega) (by omega)
              have cd : (nI d).toNatClampNeg = d := nI_cl (by omega)
              have e : psI c st (d + 1) = ifp (psD (psI c st d).1 c d) (upd (psI c st d).1 c ((psI c st d).1 d), true) (psI c st d) := rfl
              have stop := fun h => psI_stop (c := c) (st := st) (d := d) h (144 - d)
              rw [show d + (144 - d) = 144 by omega] at stop
              have go := ihk (d + 1) (by omega)
              rw [e, ← nI_1] at go
              generalize psI c st d = sd at e stop go
              have no : ¬ psD sd.1 c d → G 92 [some mM, some (mI (nI yr)), some (mI (nI M)), some (mI (bI sd.2)), some (mI (nI c)), some (mI (nI d + 1))] [] (mput (th0 σ) 78 0 sd.1) := fun q => by rw [ifp_f q] at go; exact go
              refine hG.run (br_f (nI_ge (b := 144) (by omega) (by decide)) ?_)
              refine And.intro hvc (And.intro (fun c1 => ?_) (fun c1 => And.intro hvd (And.intro (fun c2 => ?_) (fun c2 => ?_))))
              · replace c1 : sd.1 (nI c).toNatClampNeg < 0 := c1
                rw [cc] at c1
                have h5 := next (some (mI (nI d)))
                rw [stop c1] at h5
                exact h5
              · replace c2 : sd.1 (nI d).toNatClampNeg < 0 := c2
                rw [cd] at c2
                exact no (fun q => not_le_of c2 q.2.1)
              · replace c1 : ¬ sd.1 (nI c).toNatClampNeg < 0 := c1
                replace c2 : ¬ sd.1 (nI d).toNatClampNeg < 0 := c2
                rw [cc] at c1
                rw [cd] at c2
                refine call_of (ev_away _ (c := c) (d := d) (by omega) (by omega)) ?_
                have h1 := awF_le (c := c) (d := d) (by omega) (by omega)
                refine And.intro (fun c3 => no (fun q => c3 (by rw [q.2.2.1]; rfl))) (fun c3 => ?_)
                have c3 := (nI_eq (b := 1) (by omega) (by omega)).mp c3
                refine And.intro hvd (And.intro hvc (And.intro (fun c4 => ?_) (fun c4 => And.intro hvd (And.intro hvc ?_))))
                · replace c4 : sd.1 (nI c).toNatClampNeg ≤ sd.1 (nI d).toNatClampNeg := c4
                  rw [cc, cd] at c4
                  exact no (fun q => not_le_of q.2.2.2 c4)
                · replace c4 : ¬ sd.1 (nI c).toNatClampNeg ≤ sd.1 (nI d).toNatClampNeg := c4
                  rw [cc, cd] at c4
                  show G 92 [some mM, some (mI (nI yr)), some (mI (nI M)), some (mI 1), some (mI (nI c)), some (mI (nI d + 1))] [] (mput (mput (th0 σ) 78 0 sd.1) 78 0 (upd sd.1 (nI c).toNatClampNeg (sd.1 (nI d).toNatClampNeg)))
                  rw [ifp_t ⟨Int32.not_lt.mp c1, Int32.not_lt.mp c2, c3, Int32.not_le.mp c4⟩] at go
                  rw [cc, cd, mput_mput]
                  exact go
          have h6 := inner 144 0 (by omega)
          exact hG.run (br_f (nI_ge (b := 144) (by omega) (by decide)) h6)
      exact hG.run (br_f (by decide) (outer 144 0 (by omega) z5))
    have more : ∀ p, labOK S p → (psO (p, false) 144).2 = true → labOK S (psO (p, false) 144).1 ∧ cnL S p 144 < cnL S (psO (p, false) 144).1 144 := by
      intro p hp hb2
      obtain ⟨o1, o2, o3⟩ := psO_ok (st := (p, false)) hp rfl 144 (Nat.le_refl _)
      refine ⟨o1.1, psO_more hSl (st := (p, false)) hp rfl (fun hall => ?_)⟩
      obtain ⟨c, d, p', h1, h2, h3, h4⟩ := o3 hb2
      exact psO_keep hSl h3.1 (fun x hx => fall_at h3 hx (hall x hx)) h1 h2 h4
    have ph2 : ∀ n p, labOK S p → 144 ≤ cnL S p 144 + n → ∀ z4 z5 : Option mV, G 72 [some mM, some (mI (nI yr)), some (mI (nI M)), some (mI 1), z4, z5] [] (mput (th0 σ) 78 0 p) := by
      intro n
      induction n with
      | zero =>
        intro p hp hq
        refine round p hp (fun hb2 => ?_)
        have := more p hp hb2
        have h9 := cnL_le S (psO (p, false) 144).1 144
        omega
      | succ n ih =>
        intro p hp hq
        refine round p hp (fun hb2 => ?_)
        have := more p hp hb2
        exact ih _ this.1 (by omega)
    have key := loop_up (G := G) 29 144 (fun i => [some mM, some (mI (nI yr)), some (mI (nI M)), some (mI (nI i)), none, none]) (fun i => mput (th0 σ) 78 0 (cpy (σ 78 0) (bk0 W H (wtr σ M)) i)) ?_ ?_ 0 (by omega)
    · rw [cpy_0, show σ 78 0 = th0 σ 78 0 from rfl, mput_self] at key
      exact key
    · intro i hi ih
      have hvc : vp_in (nI i) 144 := vp_in_nI (by omega) (by omega)
      have cc : (nI i).toNatClampNeg = i := nI_cl (by omega)
      have fin : ∀ v, v = bk0 W H (wtr σ M) i → vp_in (nI i) 144 ∧ G 29 [some mM, some (mI (nI yr)), some (mI (nI M)), some (mI (nI i + 1)), none, none] [] (mput (mput (th0 σ) 78 0 (cpy (σ 78 0) (bk0 W H (wtr σ M)) i)) 78 0 (upd (cpy (σ 78 0) (bk0 W H (wtr σ M)) i) (nI i).toNatClampNeg v)) := by
        intro v hv
        refine ⟨hvc, ?_⟩
        rw [hv, cc, mput_mput, cpy_s, nI_1]
        exact ih
      refine hG.run (br_f (nI_ge (b := 144) hi (by decide)) ?_)
      refine call_of (ev_isOn (mput (th0 σ) 78 0 (cpy (σ 78 0) (bk0 W H (wtr σ M)) i)) (c := i) hW hW1 hH hH1 hi) ?_
      refine And.intro (fun c4 => fin (-1) (ifp_f (fun q => b_f c4 q.1)).symm) (fun c4 => ?_)
      refine call_of (ev_isWet (mput (th0 σ) 78 0 (cpy (σ 78 0) (bk0 W H (wtr σ M)) i)) (m := M) (c := i) (by omega) hi hb) ?_
      refine And.intro (fun c5 => fin (-1) (ifp_f (fun q => c5 q.2)).symm) (fun c5 => fin (nI i) (ifp_t ⟨b_t c4, c5⟩).symm)
    · refine hG.run (br_t (Int32.le_refl _) ?_)
      refine ph2 144 _ (by rw [← hS]; exact bk0_ok _ W H _) (by omega) none none
  · replace c3 : σ 40 0 3 = 0 := c3
    rw [hmp] at c3
    exact hbad (fun q => absurd ((nI_eq (b := 0) (by omega) (by omega)).mp c3) (by omega))
theorem ev_walks (σ : mS) {W H mp dn ln m : Nat} (I : MI σ W H mp dn ln) (ht : tl0 σ) (hm0 : 0 < m) (hm : m < mp) {y : Nat} (hy : σ 54 0 m = nI y) (hy0 : 0 < y) (hy1 : y ≤ 200) : Ev kX8_walks [mM, mI (nI m)] σ (fun r s => r = none ∧ (∃ s0, Keep σ s0 ∧ Keep (mput s0 79 0 (cpy (σ 79 0) (upO σ W H mp dn ln (-1) y) 144)) s) ∧ s 74 0 = stepO σ W H ln m False (upO σ W H mp dn ln (-1) y) ∧ s 79 0 = cpy (σ 79 0) (upO σ W H mp dn ln (-1) y) 144) := by
  obtain ⟨-, -, ⟨hmp, hmp1⟩, -⟩ := id I
  refine Ev.intro fun G hG => hG.run ?_
  refine And.intro (vp_in_nI (by omega) (by omega)) ?_
  rw [nI_cl (by omega)]
  have hup := ev_upTo σ I ht (-1) (Y := y - 1) (by omega)
  rw [show y - 1 + 1 = y by omega] at hup
  refine call_ex (k := kX8_upTo) (a := [mM, mI (σ 54 0 m - 1), mI (-1)]) (by rw [hy, nI_m1 hy0]; exact hup) ?_
  rintro r s0 ⟨rfl, k, h74⟩
  have e79 : s0 79 0 = σ 79 0 := k.g (by decide)
  have key := loop_up (G := G) 15 144 (fun i => [some mM, some (mI (nI m)), some (mI (nI i))]) (fun i => mput s0 79 0 (cpy (σ 79 0) (upO σ W H mp dn ln (-1) y) i)) ?_ ?_ 0 (by omega)
  · rw [cpy_0, ← e79, mput_self] at key
    exact key
  · intro i hi ih
    refine hG.run (br_f (nI_ge (b := 144) hi (by decide)) ?_)
    refine And.intro (vp_in_nI (by omega) (by omega)) (And.intro (vp_in_nI (by omega) (by omega)) ?_)
    rw [nI_cl (by omega)]
    show G 15 [some mM, some (mI (nI m)), some (mI (nI i + 1))] [] (mput (mput s0 79 0 (cpy (σ 79 0) (upO σ W H mp dn ln (-1) y) i)) 79 0 (upd (cpy (σ 79 0) (upO σ W H mp dn ln (-1) y) i) i (s0 74 0 i)))
    rw [mput_mput, h74, cpy_s, nI_1]
    exact ih
  · refine hG.run (br_t (Int32.le_refl _) ?_)
    generalize hB : cpy (σ 79 0) (upO σ W H mp dn ln (-1) y) 144 = B
    have kT : ∀ g, g ≠ 79 → mput s0 79 0 B g = s0 g := fun g h => mput_ng _ _ _ _ h
    have I0 := I.keep k.t
    have I1 : MI (mput s0 79 0 B) W H mp dn ln := by
      unfold MI dedOK at I0 ⊢
      rw [kT 40 (by decide), kT 54 (by decide), kT 55 (by decide), kT 56 (by decide), kT 58 (by decide), kT 59 (by decide)]
      exact I0
    have hs := ev_steps (mput s0 79 0 B) I1 hm0 hm False
    rw [b2i_f (fun q => q)] at hs
    refine call_ex hs ?_
    rintro r s ⟨rfl, k2, h2⟩
    refine ⟨rfl, ⟨s0, k, k2⟩, ?_, ?_⟩
    · rw [h2, kT 74 (by decide), h74, ← stepO_keep k.t]
      unfold stepO sdP grw isl kdM wtr
      rw [kT 40 (by decide), kT 54 (by decide), kT 55 (by decide), kT 64 (by decide), kT 65 (by decide), kT 66 (by decide), kT 67 (by decide), kT 69 (by decide)]
    · rw [k2.g (g := 79) (by decide), mput_eq]
