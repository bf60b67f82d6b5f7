/-! THE REFERENCE: parts -/
theorem fa_upd2 (f : Nat → Int32) (k : Nat) (x y : Int32) : upd (upd f k x) k y = upd f k y := by
  funext j
  by_cases h : j = k
  · subst h; rw [upd_eq, upd_eq]
  · rw [upd_ne _ _ h, upd_ne _ _ h, upd_ne _ _ h]
def bI (b : Bool) : Int32 := if b then 1 else 0
/-- cells of kind 2 -/
def newP (kd : Nat → Int32) (c : Nat) : Prop := c < 144 ∧ kd c = 2
theorem psI_stop {c : Nat} {st : (Nat → Int32) × Bool} {d : Nat} (h : (psI c st d).1 c < 0) : ∀ k, psI c st (d + k) = psI c st d
  | 0 => rfl
  | k + 1 => by
    show ifp (psD (psI c st (d + k)).1 c (d + k)) _ (psI c st (d + k)) = psI c st d
    rw [psI_stop h k]
    exact ifp_f (fun q => not_le_of h q.1)
def lb0 (kd : Nat → Int32) (c : Nat) : Int32 := if kd c = 2 then nI c else -1
def ptN (p : Nat → Int32) (n : Nat) : Int32 := fo (fun c acc => acc + (if p c = nI c then 1 else 0)) 0 n
noncomputable def shI (p kd : Nat → Int32) (c : Nat) (f : Nat → Int32) (n : Nat) : Nat → Int32 := fo (fun d f => ifp (0 ≤ p c ∧ kd d = 0 ∧ awF c d = 1) (upd f (p c).toNatClampNeg 1) f) f n
noncomputable def shO (p kd f : Nat → Int32) (n : Nat) : Nat → Int32 := fo (fun c f => shI p kd c f 144) f n
theorem shI_stop {p kd f : Nat → Int32} {c : Nat} (h : p c < 0) : ∀ k, shI p kd c f k = f
  | 0 => rfl
  | k + 1 => by
    show ifp (0 ≤ p c ∧ kd k = 0 ∧ awF c k = 1) _ (shI p kd c f k) = f
    rw [shI_stop h k]
    exact ifp_f (fun q => not_le_of h q.1)
/-- beside a cell of kind 0 -/
def bes (kd : Nat → Int32) (c n : Nat) : Prop := ∃ d, d < n ∧ kd d = 0 ∧ awF c d = 1
theorem shI_at {p kd f : Nat → Int32} {c : Nat} (l : Nat) : ∀ n, shI p kd c f n l = ifp (0 ≤ p c ∧ (p c).toNatClampNeg = l ∧ bes kd c n) 1 (f l)
  | 0 => (ifp_f (fun ⟨_, _, d, h, _⟩ => absurd h (by omega))).symm
  | n + 1 => by
    have ih := shI_at (p := p) (kd := kd) (f := f) (c := c) l n
    show ifp (0 ≤ p c ∧ kd n = 0 ∧ awF c n = 1) (upd (shI p kd c f n) (p c).toNatClampNeg 1) (shI p kd c f n) l = _
    by_cases q : 0 ≤ p c ∧ kd n = 0 ∧ awF c n = 1
    · rw [ifp_t q]
      by_cases hl : l = (p c).toNatClampNeg
      · rw [hl, upd_eq, ifp_t ⟨q.1, rfl, n, by omega, q.2⟩]
      · rw [upd_ne _ _ hl, ih, ifp_f (fun z => hl z.2.1.symm), ifp_f (fun z => hl z.2.1.symm)]
    · rw [ifp_f q, ih]
      refine ifp_c ⟨fun ⟨z1, z2, d, z3, z4⟩ => ⟨z1, z2, d, by omega, z4⟩, fun ⟨z1, z2, d, z3, z4⟩ => ⟨z1, z2, d, ?_, z4⟩⟩
      rcases Nat.lt_or_ge d n with w | w
      · exact w
      · have : d = n := by omega
        subst this
        exact absurd ⟨z1, z4⟩ q
theorem shO_at {p kd f : Nat → Int32} (l : Nat) : ∀ n, shO p kd f n l = ifp (∃ c, c < n ∧ 0 ≤ p c ∧ (p c).toNatClampNeg = l ∧ bes kd c 144) 1 (f l)
  | 0 => (ifp_f (fun ⟨c, h, _⟩ => absurd h (by omega))).symm
  | n + 1 => by
    have ih := shO_at (p := p) (kd := kd) (f := f) l n
    show shI p kd n (shO p kd f n) 144 l = _
    rw [shI_at, ih]
    by_cases q : 0 ≤ p n ∧ (p n).toNatClampNeg = l ∧ bes kd n 144
    · rw [ifp_t q, ifp_t ⟨n, by omega, q⟩]
    · rw [ifp_f q]
      refine ifp_c ⟨fun ⟨c, z1, z2⟩ => ⟨c, by omega, z2⟩, fun ⟨c, z1, z2⟩ => ⟨c, ?_, z2⟩⟩
      rcases Nat.lt_or_ge c n with w | w
      · exact w
      · have : c = n := by omega
        subst this
        exact absurd z2 q
theorem newP_lt {kd : Nat → Int32} : ∀ c, newP kd c → c < 144 := fun _ h => h.1
theorem lb0_ok (f kd : Nat → Int32) : labOK (newP kd) (cpy f (lb0 kd) 144) := by
  intro c hc
  rw [cpy_in hc]
  unfold lb0
  refine ⟨fun h => if_neg (fun q => h ⟨hc, q⟩), fun h => ⟨c, Nat.le_refl _, if_pos h.2, conn_rf⟩⟩
set_option maxHeartbeats 1000000 in
theorem ev_findsParts (σ : mS) : Ev kX8_findsParts [mM] σ (fun r s => r = none ∧ ∃ p, labOK (newP (σ 70 0)) p ∧ allL (newP (σ 70 0)) p ∧ s = mput (mput (mput σ 71 0 p) 40 0 (upd (σ 40 0) 23 (ptN p 144))) 72 0 (shO p (σ 70 0) (fil (σ 72 0) 0 144) 144)) := by
  refine Ev.intro fun G hG => hG.run ?_
  -- the shores
  have ph4 : ∀ p, labOK (newP (σ 70 0)) p → allL (newP (σ 70 0)) p → ∀ n c, c + n = 144 → ∀ z2 z3 z4 : Option mV, G 205 [some mM, some (mI (nI c)), z2, z3, z4] [] (mput (mput (mput σ 71 0 p) 40 0 (upd (σ 40 0) 23 (ptN p 144))) 72 0 (shO p (σ 70 0) (fil (σ 72 0) 0 144) c)) := by
    intro p hp1 hp2 n
    induction n with
    | zero =>
      intro c hc z2 z3 z4
      have : c = 144 := by omega
      subst this
      exact hG.run (br_t (Int32.le_refl _) ⟨rfl, p, hp1, hp2, rfl⟩)
    | succ n ih =>
      intro c hc z2 z3 z4
      have hvc : vp_in (nI c) 144 := vp_in_nI (by omega) (by omega)
      have cc : (nI c).toNatClampNeg = c := nI_cl (by omega)
      have inner : ∀ m d, d + m = 144 → G 214 [some mM, some (mI (nI c)), some (mI (nI d)), z3, z4] [] (mput (mput (mput σ 71 0 p) 40 0 (upd (σ 40 0) 23 (ptN p 144))) 72 0 (shI p (σ 70 0) c (shO p (σ 70 0) (fil (σ 72 0) 0 144) c) d)) := by
        intro m
        induction m with
        | zero =>
          intro d hd
          have : d = 144 := by omega
          subst this
          have h5 := ih (c + 1) (by omega) (some (mI (nI 144))) z3 z4
          rw [← nI_1] at h5
          exact hG.run (br_t (Int32.le_refl _) h5)
        | succ m ihm =>
          intro d hd
          have hvd : vp_in (nI d) 144 := vp_in_nI (by omega) (by omega)
          have cd : (nI d).toNatClampNeg = d := nI_cl (by omega)
          have e : shI p (σ 70 0) c (shO p (σ 70 0) (fil (σ 72 0) 0 144) c) (d + 1) = ifp (0 ≤ p c ∧ σ 70 0 d = 0 ∧ awF c d = 1) (upd (shI p (σ 70 0) c (shO p (σ 70 0) (fil (σ 72 0) 0 144) c) d) (p c).toNatClampNeg 1) (shI p (σ 70 0) c (shO p (σ 70 0) (fil (σ 72 0) 0 144) c) d) := rfl
          have no : ¬ (0 ≤ p c ∧ σ 70 0 d = 0 ∧ awF c d = 1) → G 214 [some mM, some (mI (nI c)), some (mI (nI d + 1)), z3, z4] [] (mput (mput (mput σ 71 0 p) 40 0 (upd (σ 40 0) 23 (ptN p 144))) 72 0 (shI p (σ 70 0) c (shO p (σ 70 0) (fil (σ 72 0) 0 144) c) d)) := by
            intro q
            rw [ifp_f q] at e
            have h5 := ihm (d + 1) (by omega)
            rw [e, ← nI_1] at h5
            exact h5
          refine hG.run (br_f (nI_ge (b := 144) (by omega) (by decide)) ?_)
          refine And.intro hvc (And.intro (fun c1 => ?_) (fun c1 => And.intro hvd (And.intro (fun c2 => ?_) (fun c2 => ?_))))
          · replace c1 : p (nI c).toNatClampNeg < 0 := c1
            rw [cc] at c1
            have h5 := ih (c + 1) (by omega) (some (mI (nI d))) z3 z4
            have e2 : shO p (σ 70 0) (fil (σ 72 0) 0 144) (c + 1) = shI p (σ 70 0) c (shO p (σ 70 0) (fil (σ 72 0) 0 144) c) 144 := rfl
            rw [e2, shI_stop c1 144, ← nI_1] at h5
            rw [shI_stop c1 d]
            exact h5
          · replace c2 : ¬ σ 70 0 (nI d).toNatClampNeg = 0 := c2
            rw [cd] at c2
            exact no (fun q => c2 q.2.1)
          · replace c1 : ¬ p (nI c).toNatClampNeg < 0 := c1
            replace c2 : σ 70 0 (nI d).toNatClampNeg = 0 := c2
            rw [cc] at c1
            rw [cd] at c2
            refine call_of (ev_away _ (c := c) (d := d) (by omega) (by omega)) ?_
            have h1 := awF_le (c := c) (d := d) (by omega) (by omega)
            refine And.intro (fun c3 => no (fun q => c3 (by rw [q.2.2]; rfl))) (fun c3 => ?_)
            have c3 := (nI_eq (b := 1) (by omega) (by omega)).mp c3
            have c1 := Int32.not_lt.mp c1
            refine And.intro hvc ?_
            have hs : newP (σ 70 0) c := Classical.byContradiction fun q => by rw [(hp1 c (by omega)).1 q] at c1; exact absurd c1 (by decide)
            obtain ⟨l, l1, l2, -⟩ := (hp1 c (by omega)).2 hs
            refine And.intro ?_ ?_
            · show vp_in (p (nI c).toNatClampNeg) 144
              rw [cc, l2]; exact vp_in_nI (by omega) (by omega)
            · show G 214 [some mM, some (mI (nI c)), some (mI (nI d + 1)), z3, z4] [] (mput (mput (mput (mput σ 71 0 p) 40 0 (upd (σ 40 0) 23 (ptN p 144))) 72 0 (shI p (σ 70 0) c (shO p (σ 70 0) (fil (σ 72 0) 0 144) c) d)) 72 0 (upd (shI p (σ 70 0) c (shO p (σ 70 0) (fil (σ 72 0) 0 144) c) d) (p (nI c).toNatClampNeg).toNatClampNeg 1))
              rw [ifp_t ⟨c1, c2, c3⟩] at e
              rw [cc, mput_mput, ← e, nI_1]
              exact ihm (d + 1) (by omega)
      exact hG.run (br_f (nI_ge (b := 144) (by omega) (by decide)) (inner 144 0 (by omega)))
  -- how many parts
  have ph3 : ∀ p, labOK (newP (σ 70 0)) p → allL (newP (σ 70 0)) p → ∀ z2 z3 z4 : Option mV, G 159 [some mM, some (mI 0), z2, z3, z4] [] (mput (mput σ 71 0 p) 40 0 (upd (σ 40 0) 23 0)) := by
    intro p hp1 hp2 z2 z3 z4
    have key := loop_up (G := G) 159 144 (fun i => [some mM, some (mI (nI i)), z2, z3, z4]) (fun i => mput (mput (mput σ 71 0 p) 40 0 (upd (σ 40 0) 23 (ptN p i))) 72 0 (fil (σ 72 0) 0 i)) ?_ ?_ 0 (by omega)
    · rw [fil_0] at key
      rw [show σ 72 0 = mput (mput σ 71 0 p) 40 0 (upd (σ 40 0) 23 (ptN p 0)) 72 0 from rfl, mput_self] at key
      exact key
    · intro i hi ih
      have hvc : vp_in (nI i) 144 := vp_in_nI (by omega) (by omega)
      have cc : (nI i).toNatClampNeg = i := nI_cl (by omega)
      have e : ptN p (i + 1) = ptN p i + (if p i = nI i then 1 else 0) := rfl
      rw [e, ← nI_1] at ih
      have fin : ∀ v, v = (if p i = nI i then (1 : Int32) else 0) → vp_in (nI i) 144 ∧ G 159 [some mM, some (mI (nI i + 1)), z2, z3, z4] [] (mput (mput (mput (mput (mput σ 71 0 p) 40 0 (upd (σ 40 0) 23 (ptN p i))) 72 0 (fil (σ 72 0) 0 i)) 40 0 (upd (upd (σ 40 0) 23 (ptN p i)) 23 (upd (σ 40 0) 23 (ptN p i) 23 + v))) 72 0 (upd (fil (σ 72 0) 0 i) (nI i).toNatClampNeg 0)) := by
        intro v hv
        refine ⟨hvc, ?_⟩
        rw [cc, mput_cover _ _ _ _ _ _ _ _ (by decide), mput_mput, fil_s, upd_eq, fa_upd2, hv]
        exact ih
      refine hG.run (br_f (nI_ge (b := 144) hi (by decide)) ?_)
      refine And.intro hvc (And.intro (fun c1 => ?_) (fun c1 => ?_))
      · replace c1 : ¬ p (nI i).toNatClampNeg = nI i := c1
        rw [cc] at c1
        exact fin 0 (if_neg c1).symm
      · replace c1 : p (nI i).toNatClampNeg = nI i := c1
        rw [cc] at c1
        exact fin 1 (if_pos c1).symm
    · exact hG.run (br_t (Int32.le_refl _) (ph4 p hp1 hp2 144 0 (by omega) z2 z3 z4))
  -- the rounds
  have ph2 : ∀ n r, r + n = 144 → ∀ p, labOK (newP (σ 70 0)) p → (allL (newP (σ 70 0)) p ∨ r ≤ cnL (newP (σ 70 0)) p 144) → ∀ z2 z3 z4 : Option mV, G 38 [some mM, some (mI (nI r)), z2, z3, z4] [] (mput σ 71 0 p) := by
    intro n
    induction n with
    | zero =>
      intro r hr p hp hq z2 z3 z4
      have : r = 144 := by omega
      subst this
      have hall : allL (newP (σ 70 0)) p := by
        rcases hq with q | q
        · exact q
        · exact cnL_all _ _ 144 q
      exact hG.run (br_t (Int32.le_refl _) (ph3 p hp hall z2 z3 z4))
    | succ n ih =>
      intro r hr p hp hq z2 z3 z4
      have ok := fun k hk => psO_ok (st := (p, false)) hp rfl k hk
      have outer : ∀ m c, c + m = 144 → ∀ z4 : Option mV, G 49 [some mM, some (mI (nI r)), some (mI (bI (psO (p, false) c).2)), some (mI (nI c)), z4] [] (mput σ 71 0 (psO (p, false) c).1) := by
        intro m
        induction m with
        | zero =>
          intro c hc z4
          have : c = 144 := by omega
          subst this
          obtain ⟨o1, o2, o3⟩ := ok 144 (Nat.le_refl _)
          refine hG.run (br_t (Int32.le_refl _) ?_)
          cases hb : (psO (p, false) 144).2 with
          | false =>
            refine And.intro (fun c0 => absurd rfl c0) (fun _ => ?_)
            obtain ⟨q1, q2⟩ := o2 hb
            refine ph3 _ o1.1 ?_ (some (mI 0)) (some (mI (nI 144))) z4
            rw [q1]
            exact psO_done newP_lt hp q2
          | true =>
            refine And.intro (fun _ => ?_) (fun c0 => absurd c0 (by decide))
            have h5 := ih (r + 1) (by omega) (psO (p, false) 144).1 o1.1 ?_ (some (mI 1)) (some (mI (nI 144))) z4
            · rw [← nI_1] at h5
              exact h5
            · by_cases hall : allL (newP (σ 70 0)) p
              · exact Or.inl (fun c hc => fall_at o1 hc (hall c hc))
              · have := psO_more newP_lt (st := (p, false)) hp rfl hall
                rcases hq with q | q
                · exact absurd q hall
                · exact Or.inr (by show r + 1 ≤ _; have this : cnL (newP (σ 70 0)) p 144 < cnL (newP (σ 70 0)) (psO (p, false) 144).1 144 := this; omega)
        | succ m ihm =>
          intro c hc z4
          have hvc : vp_in (nI c) 144 := vp_in_nI (by omega) (by omega)
          have cc : (nI c).toNatClampNeg = c := nI_cl (by omega)
          generalize hst : psO (p, false) c = st
          have e2 : psO (p, false) (c + 1) = psI c st 144 := by rw [← hst]; rfl
          have next := ihm (c + 1) (by omega)
          rw [e2, ← nI_1] at next
          have inner : ∀ k d, d + k = 144 → G 59 [some mM, some (mI (nI r)), some (mI (bI (psI c st d).2)), some (mI (nI c)), some (mI (nI d))] [] (mput σ 71 0 (psI c st d).1) := by
            intro k
            induction k with
            | zero =>
              intro d hd
              have : d = 144 := by omega
              subst this
              exact hG.run (br_t (Int32.le_refl _) (next _))
            | succ k ihk =>
              intro d hd
              have hvd : vp_in (nI d) 144 := vp_in_nI (by omega) (by omega)
              have cd : (nI d).toNatClampNeg = d := nI_cl (by omega)
              have e : psI c st (d + 1) = ifp (psD (psI c st d).1 c d) (upd (psI c st d).1 c ((psI c st d).1 d), true) (psI c st d) := rfl
              have stop := fun h => psI_stop (c := c) (st := st) (d := d) h (144 - d)
              rw [show d + (144 - d) = 144 by omega] at stop
              have go := ihk (d + 1) (by omega)
              rw [e, ← nI_1] at go
              generalize psI c st d = sd at e stop go
              have no : ¬ psD sd.1 c d → G 59 [some mM, some (mI (nI r)), some (mI (bI sd.2)), some (mI (nI c)), some (mI (nI d + 1))] [] (mput σ 71 0 sd.1) := fun q => by rw [ifp_f q] at go; exact go
              refine hG.run (br_f (nI_ge (b := 144) (by omega) (by decide)) ?_)
              refine And.intro hvc (And.intro (fun c1 => ?_) (fun c1 => And.intro hvd (And.intro (fun c2 => ?_) (fun c2 => ?_))))
              · replace c1 : sd.1 (nI c).toNatClampNeg < 0 := c1
                rw [cc] at c1
                have h5 := next (some (mI (nI d)))
                rw [stop c1] at h5
                exact h5
              · replace c2 : sd.1 (nI d).toNatClampNeg < 0 := c2
                rw [cd] at c2
                exact no (fun q => not_le_of c2 q.2.1)
              · replace c1 : ¬ sd.1 (nI c).toNatClampNeg < 0 := c1
                replace c2 : ¬ sd.1 (nI d).toNatClampNeg < 0 := c2
                rw [cc] at c1
                rw [cd] at c2
                refine call_of (ev_away _ (c := c) (d := d) (by omega) (by omega)) ?_
                have h1 := awF_le (c := c) (d := d) (by omega) (by omega)
                refine And.intro (fun c3 => no (fun q => c3 (by rw [q.2.2.1]; rfl))) (fun c3 => ?_)
                have c3 := (nI_eq (b := 1) (by omega) (by omega)).mp c3
                refine And.intro hvd (And.intro hvc (And.intro (fun c4 => ?_) (fun c4 => And.intro hvd (And.intro hvc ?_))))
                · replace c4 : sd.1 (nI c).toNatClampNeg ≤ sd.1 (nI d).toNatClampNeg := c4
                  rw [cc, cd] at c4
                  exact no (fun q => not_le_of q.2.2.2 c4)
                · replace c4 : ¬ sd.1 (nI c).toNatClampNeg ≤ sd.1 (nI d).toNatClampNeg := c4
                  rw [cc, cd] at c4
                  show G 59 [some mM, some (mI (nI r)), some (mI 1), some (mI (nI c)), some (mI (nI d + 1))] [] (mput (mput σ 71 0 sd.1) 71 0 (upd sd.1 (nI c).toNatClampNeg (sd.1 (nI d).toNatClampNeg)))
                  rw [ifp_t ⟨Int32.not_lt.mp c1, Int32.not_lt.mp c2, c3, Int32.not_le.mp c4⟩] at go
                  rw [cc, cd, mput_mput]
                  exact go
          have h6 := inner 144 0 (by omega)
          exact hG.run (br_f (nI_ge (b := 144) (by omega) (by decide)) h6)
      exact hG.run (br_f (nI_ge (b := 144) (by omega) (by decide)) (outer 144 0 (by omega) z4))
  -- the labels at first
  have key := loop_up (G := G) 2 144 (fun i => [some mM, some (mI (nI i)), none, none, none]) (fun i => mput σ 71 0 (cpy (σ 71 0) (lb0 (σ 70 0)) i)) ?_ ?_ 0 (by omega)
  · rw [cpy_0, mput_self] at key
    exact key
  · intro i hi ih
    have hvc : vp_in (nI i) 144 := vp_in_nI (by omega) (by omega)
    have cc : (nI i).toNatClampNeg = i := nI_cl (by omega)
    have fin : ∀ v, v = lb0 (σ 70 0) i → vp_in (nI i) 144 ∧ G 2 [some mM, some (mI (nI i + 1)), none, none, none] [] (mput (mput σ 71 0 (cpy (σ 71 0) (lb0 (σ 70 0)) i)) 71 0 (upd (cpy (σ 71 0) (lb0 (σ 70 0)) i) (nI i).toNatClampNeg v)) := by
      intro v hv
      refine ⟨hvc, ?_⟩
      rw [hv, cc, mput_mput, cpy_s, nI_1]
      exact ih
    refine hG.run (br_f (nI_ge (b := 144) hi (by decide)) ?_)
    refine And.intro hvc (And.intro (fun c1 => ?_) (fun c1 => ?_))
    · replace c1 : ¬ σ 70 0 (nI i).toNatClampNeg = 2 := c1
      rw [cc] at c1
      exact fin (-1) (if_neg c1).symm
    · replace c1 : σ 70 0 (nI i).toNatClampNeg = 2 := c1
      rw [cc] at c1
      exact fin (nI i) (if_pos c1).symm
  · exact hG.run (br_t (Int32.le_refl _) (ph2 144 0 (by omega) _ (lb0_ok _ _) (Or.inr (Nat.zero_le _)) none none none))
