/-! THE REFERENCE: far, sudden, nearest, laws in years -/
noncomputable def lstF (kd : Nat → Int32) (c n : Nat) : Nat := fo (fun d l => ifp (if kd c = 2 then kd d = 0 else (kd d = 2 ∨ kd d = 3)) (min l (apF c d)) l) 13 n
noncomputable def farF (kd : Nat → Int32) (n : Nat) : Nat := fo (fun c m => ifp (kd c = 1 ∨ kd c = 2) (max m (lstF kd c 144)) m) 0 n
theorem lstF_le (kd : Nat → Int32) (c : Nat) : ∀ n, lstF kd c n ≤ 13
  | 0 => Nat.le_refl _
  | n + 1 => by
    have ih := lstF_le kd c n
    show ifp _ (min (lstF kd c n) (apF c n)) (lstF kd c n) ≤ 13
    by_cases h : (if kd c = 2 then kd n = 0 else (kd n = 2 ∨ kd n = 3))
    · rw [ifp_t h]; omega
    · rw [ifp_f h]; exact ih
theorem farF_le (kd : Nat → Int32) : ∀ n, farF kd n ≤ 13
  | 0 => by show 0 ≤ 13; omega
  | n + 1 => by
    have ih := farF_le kd n
    have h2 := lstF_le kd n 144
    show ifp _ (max (farF kd n) (lstF kd n 144)) (farF kd n) ≤ 13
    by_cases h : (kd n = 1 ∨ kd n = 2)
    · rw [ifp_t h]; omega
    · rw [ifp_f h]; exact ih
theorem ev_far (σ : mS) : Ev kX8_far [mM] σ (fun r s => r = some (mI (nI (farF (σ 70 0) 144))) ∧ s = σ) := by
  refine Ev.intro fun G hG => hG.run ?_
  generalize hkd : σ 70 0 = kd at hG ⊢
  have hk : ∀ j, σ 70 0 j = kd j := fun j => by rw [hkd]
  have outer : ∀ n c, c + n = 144 → ∀ z3 z4 z5 : Option mV, G 4 [some mM, some (mI (nI (farF kd c))), some (mI (nI c)), z3, z4, z5] [] σ := by
    intro n
    induction n with
    | zero =>
      intro c hc z3 z4 z5
      have : c = 144 := by omega
      subst this
      exact hG.run (br_t (Int32.le_refl _) ⟨rfl, rfl⟩)
    | succ n ih =>
      intro c hc z3 z4 z5
      have inner : (kd c = 1 ∨ kd c = 2) → ∀ m d, d + m = 144 → ∀ z5 : Option mV, G 40 [some mM, some (mI (nI (farF kd c))), some (mI (nI c)), some (mI (nI (lstF kd c d))), some (mI (nI d)), z5] [] σ := by
        intro hkc m
        induction m with
        | zero =>
          intro d hd z5
          have : d = 144 := by omega
          subst this
          refine hG.run (br_t (Int32.le_refl _) ?_)
          have h1 := farF_le kd c
          have h2 := lstF_le kd c 144
          show G 4 [some mM, some (mI (if nI (farF kd c) < nI (lstF kd c 144) then nI (lstF kd c 144) else nI (farF kd c))), some (mI (nI c + 1)), some (mI (nI (lstF kd c 144))), some (mI (nI 144)), z5] [] σ
          rw [max_nI (by omega) (by omega), nI_1]
          have h5 := ih (c + 1) (by omega) (some (mI (nI (lstF kd c 144)))) (some (mI (nI 144))) z5
          rw [show farF kd (c + 1) = ifp (kd c = 1 ∨ kd c = 2) (max (farF kd c) (lstF kd c 144)) (farF kd c) from rfl, ifp_t hkc] at h5
          exact h5
        | succ m ihm =>
          intro d hd z5
          have h2 := lstF_le kd c d
          have h3 := apF_le (c := c) (d := d) (by omega) (by omega)
          have e : lstF kd c (d + 1) = ifp (if kd c = 2 then kd d = 0 else (kd d = 2 ∨ kd d = 3)) (min (lstF kd c d) (apF c d)) (lstF kd c d) := rfl
          have yes : ∀ (fu q : Nat), q = 98 ∨ q = 68 → (if kd c = 2 then kd d = 0 else (kd d = 2 ∨ kd d = 3)) → mgo Ev kX8_far (fun r s => r = some (mI (nI (farF kd 144))) ∧ s = σ) G (fu + 22) q [some mM, some (mI (nI (farF kd c))), some (mI (nI c)), some (mI (nI (lstF kd c d))), some (mI (nI d)), z5] [] σ := by
            intro fu q hpc hq
            have h5 := ihm (d + 1) (by omega) (some (mI 1))
            rw [e, ifp_t hq] at h5
            rcases hpc with rfl | rfl
            · refine And.intro (fun c0 => absurd c0 (by decide)) (fun _ => ?_)
              refine call_of (ev_apart σ (c := c) (d := d) (by omega) (by omega)) ?_
              show G 40 [some mM, some (mI (nI (farF kd c))), some (mI (nI c)), some (mI (if nI (apF c d) < nI (lstF kd c d) then nI (apF c d) else nI (lstF kd c d))), some (mI (nI d + 1)), some (mI 1)] [] σ
              rw [min_nI (by omega) (by omega), nI_1]
              exact h5
            · refine And.intro (fun c0 => absurd c0 (by decide)) (fun _ => ?_)
              refine call_of (ev_apart σ (c := c) (d := d) (by omega) (by omega)) ?_
              show G 40 [some mM, some (mI (nI (farF kd c))), some (mI (nI c)), some (mI (if nI (apF c d) < nI (lstF kd c d) then nI (apF c d) else nI (lstF kd c d))), some (mI (nI d + 1)), some (mI 1)] [] σ
              rw [min_nI (by omega) (by omega), nI_1]
              exact h5
          have no : ¬ (if kd c = 2 then kd d = 0 else (kd d = 2 ∨ kd d = 3)) → G 40 [some mM, some (mI (nI (farF kd c))), some (mI (nI c)), some (mI (nI (lstF kd c d))), some (mI (nI d + 1)), some (mI 0)] [] σ := by
            intro hq
            have h5 := ihm (d + 1) (by omega) (some (mI 0))
            rw [e, ifp_f hq] at h5
            rw [nI_1]
            exact h5
          refine hG.run (br_f (nI_ge (b := 144) (by omega) (by decide)) ?_)
          have hv : vp_in (nI c) 144 := vp_in_nI (by omega) (by omega)
          have hvd : vp_in (nI d) 144 := vp_in_nI (by omega) (by omega)
          have ec : (nI c).toNatClampNeg = c := nI_cl (by omega)
          have ed : (nI d).toNatClampNeg = d := nI_cl (by omega)
          refine And.intro hv (And.intro (fun c1 => ?_) (fun c1 => ?_))
          · replace c1 : ¬ σ 70 0 (nI c).toNatClampNeg = 2 := c1
            rw [ec, hk] at c1
            refine And.intro hvd (And.intro (fun c2 => ?_) (fun c2 => And.intro hvd (And.intro (fun c3 => ?_) (fun c3 => ?_))))
            · replace c2 : σ 70 0 (nI d).toNatClampNeg = 2 := c2
              rw [ed, hk] at c2
              exact yes _ 98 (Or.inl rfl) (by rw [if_neg c1]; exact Or.inl c2)
            · replace c2 : ¬ σ 70 0 (nI d).toNatClampNeg = 2 := c2
              replace c3 : ¬ σ 70 0 (nI d).toNatClampNeg = 3 := c3
              rw [ed, hk] at c2 c3
              exact And.intro (fun _ => no (by rw [if_neg c1]; exact fun q => q.elim c2 c3)) (fun c0 => absurd rfl c0)
            · replace c3 : σ 70 0 (nI d).toNatClampNeg = 3 := c3
              rw [ed, hk] at c3
              exact yes _ 98 (Or.inl rfl) (by rw [if_neg c1]; exact Or.inr c3)
          · replace c1 : σ 70 0 (nI c).toNatClampNeg = 2 := c1
            rw [ec, hk] at c1
            refine And.intro hvd (And.intro (fun c2 => ?_) (fun c2 => ?_))
            · replace c2 : ¬ σ 70 0 (nI d).toNatClampNeg = 0 := c2
              rw [ed, hk] at c2
              exact And.intro (fun _ => no (by rw [if_pos c1]; exact c2)) (fun c0 => absurd rfl c0)
            · replace c2 : σ 70 0 (nI d).toNatClampNeg = 0 := c2
              rw [ed, hk] at c2
              exact yes _ 68 (Or.inr rfl) (by rw [if_pos c1]; exact c2)
      refine hG.run (br_f (nI_ge (b := 144) (by omega) (by decide)) ?_)
      have hv : vp_in (nI c) 144 := vp_in_nI (by omega) (by omega)
      have ec : (nI c).toNatClampNeg = c := nI_cl (by omega)
      refine And.intro hv (And.intro (fun c1 => ?_) (fun c1 => And.intro hv (And.intro (fun c2 => ?_) (fun c2 => ?_))))
      · replace c1 : σ 70 0 (nI c).toNatClampNeg = 1 := c1
        rw [ec, hk] at c1
        exact inner (Or.inl c1) 144 0 (by omega) z5
      · replace c2 : σ 70 0 (nI c).toNatClampNeg = 2 := c2
        rw [ec, hk] at c2
        exact inner (Or.inr c2) 144 0 (by omega) z5
      · replace c1 : ¬ σ 70 0 (nI c).toNatClampNeg = 1 := c1
        replace c2 : ¬ σ 70 0 (nI c).toNatClampNeg = 2 := c2
        rw [ec, hk] at c1 c2
        have h5 := ih (c + 1) (by omega) z3 z4 z5
        rw [show farF kd (c + 1) = ifp (kd c = 1 ∨ kd c = 2) (max (farF kd c) (lstF kd c 144)) (farF kd c) from rfl, ifp_f (fun q => q.elim c1 c2), ← nI_1] at h5
        exact h5
  exact outer 144 0 (by omega) none none none
/-- a step is sudden -/
def sudP (jd reach : Int32) (far : Nat) : Prop := if 0 ≤ jd then jd = 1 else reach < nI far
theorem ev_isSudden (σ : mS) {m : Nat} (hm : m < 10) : Ev kX8_isSudden [mM, mI (nI m)] σ (fun r s => r = some (mI (b2i (sudP (σ 69 0 m) (σ 40 0 18) (farF (σ 70 0) 144)))) ∧ s = σ) := by
  refine Ev.intro fun G hG => hG.run ?_
  have hv : vp_in (nI m) 10 := vp_in_nI (by omega) (by omega)
  have em : (nI m).toNatClampNeg = m := nI_cl (by omega)
  have yes : sudP (σ 69 0 m) (σ 40 0 18) (farF (σ 70 0) 144) → (some (mI ((1 : Int32) &&& 1)) : Option mV) = some (mI (b2i (sudP (σ 69 0 m) (σ 40 0 18) (farF (σ 70 0) 144)))) ∧ σ = σ := fun q => ⟨by rw [b2i_t q]; rfl, rfl⟩
  have no : ¬ sudP (σ 69 0 m) (σ 40 0 18) (farF (σ 70 0) 144) → (some (mI ((0 : Int32) &&& 1)) : Option mV) = some (mI (b2i (sudP (σ 69 0 m) (σ 40 0 18) (farF (σ 70 0) 144)))) ∧ σ = σ := fun q => ⟨by rw [b2i_f q]; rfl, rfl⟩
  refine And.intro hv (And.intro (fun c1 => And.intro hv (And.intro (fun c2 => ?_) (fun c2 => ?_))) (fun c1 => ?_))
  · replace c1 : 0 ≤ σ 69 0 (nI m).toNatClampNeg := c1
    replace c2 : ¬ σ 69 0 (nI m).toNatClampNeg = 1 := c2
    rw [em] at c1 c2
    exact no (by unfold sudP; rw [if_pos c1]; exact c2)
  · replace c1 : 0 ≤ σ 69 0 (nI m).toNatClampNeg := c1
    replace c2 : σ 69 0 (nI m).toNatClampNeg = 1 := c2
    rw [em] at c1 c2
    exact yes (by unfold sudP; rw [if_pos c1]; exact c2)
  · replace c1 : ¬ 0 ≤ σ 69 0 (nI m).toNatClampNeg := c1
    rw [em] at c1
    refine call_of (ev_far σ) ?_
    refine And.intro (fun c2 => ?_) (fun c2 => ?_)
    · replace c2 : nI (farF (σ 70 0) 144) ≤ σ 40 0 18 := c2
      exact no (by unfold sudP; rw [if_neg c1]; exact fun q => not_le_of q c2)
    · replace c2 : ¬ nI (farF (σ 70 0) 144) ≤ σ 40 0 18 := c2
      exact yes (by unfold sudP; rw [if_neg c1]; exact Int32.not_le.mp c2)
/-- the nearest cell of kind 0, the first of equal ones; n: none -/
noncomputable def nrF (kd : Nat → Int32) (c n : Nat) : Option Nat := fo (fun d b => ifp (kd d = 0 ∧ (∀ e, b = some e → awF c d < awF c e)) (some d) b) none n
def oI (o : Option Nat) : Int32 := match o with
  | none => -1
  | some n => nI n
theorem nrF_lt (kd : Nat → Int32) (c : Nat) : ∀ n e, nrF kd c n = some e → e < n ∧ kd e = 0
  | 0, e, h => by cases h
  | n + 1, e, h => by
    have ih := nrF_lt kd c n
    replace h : ifp (kd n = 0 ∧ (∀ e, nrF kd c n = some e → awF c n < awF c e)) (some n) (nrF kd c n) = some e := h
    by_cases q : kd n = 0 ∧ (∀ e, nrF kd c n = some e → awF c n < awF c e)
    · rw [ifp_t q] at h; cases h; exact ⟨by omega, q.1⟩
    · rw [ifp_f q] at h; have := ih e h; exact ⟨by omega, this.2⟩
theorem oI_neg {o : Option Nat} (h : ∀ e, o = some e → e < 2 ^ 31) : oI o < 0 ↔ o = none := by
  cases o with
  | none => exact ⟨fun _ => rfl, fun _ => by decide⟩
  | some n => exact ⟨fun q => absurd q (nI_pos (h n rfl)), fun q => by cases q⟩
theorem ev_nearest (σ : mS) {c : Nat} (hc : c < 144) : Ev kX8_nearest [mM, mI (nI c)] σ (fun r s => r = some (mI (oI (nrF (σ 70 0) c 144))) ∧ s = σ) := by
  refine Ev.intro fun G hG => hG.run ?_
  have key := loop_up (G := G) 4 144 (fun i => [some mM, some (mI (nI c)), some (mI (oI (nrF (σ 70 0) c i))), some (mI (nI i))]) (fun _ => σ) ?_ ?_ 0 (by omega)
  · exact key
  · intro i hi ih
    have hlt := nrF_lt (σ 70 0) c i
    have e : nrF (σ 70 0) c (i + 1) = ifp (σ 70 0 i = 0 ∧ (∀ e, nrF (σ 70 0) c i = some e → awF c i < awF c e)) (some i) (nrF (σ 70 0) c i) := rfl
    rw [e, ← nI_1] at ih
    refine hG.run (br_f (nI_ge (b := 144) hi (by decide)) ?_)
    refine And.intro (vp_in_nI (by omega) (by omega)) ?_
    rw [nI_cl (by omega)]
    refine And.intro (fun c1 => ?_) (fun c1 => ?_)
    · replace c1 : ¬ σ 70 0 i = 0 := c1
      rw [ifp_f (fun q => c1 q.1)] at ih
      exact ih
    · replace c1 : σ 70 0 i = 0 := c1
      refine And.intro (fun c2 => ?_) (fun c2 => ?_)
      · have c2 := (oI_neg (fun e h => by have := hlt e h; omega)).mp c2
        rw [ifp_t ⟨c1, fun e h => by rw [c2] at h; cases h⟩] at ih
        exact ih
      · have c2 : ¬ nrF (σ 70 0) c i = none := fun q => c2 ((oI_neg (fun e h => by have := hlt e h; omega)).mpr q)
        cases hq : nrF (σ 70 0) c i with
        | none => exact absurd hq c2
        | some b =>
          have hb := hlt b hq
          rw [hq] at ih
          refine call_of (ev_away σ (c := c) (d := i) hc hi) ?_
          refine call_of (ev_away σ (c := c) (d := b) hc (by omega)) ?_
          have h1 := awF_le (c := c) (d := i) hc hi
          have h2 := awF_le (c := c) (d := b) hc (by omega)
          refine And.intro (fun c3 => ?_) (fun c3 => ?_)
          · have c3 := le_of_le c3 (by omega)
            rw [ifp_f (fun q => by have := q.2 b rfl; omega)] at ih
            exact ih
          · have c3 := lt_of_nle c3 (by omega)
            rw [ifp_t ⟨c1, fun e h => by cases h; exact c3⟩] at ih
            exact ih
  · exact hG.run (br_t (Int32.le_refl _) ⟨rfl, rfl⟩)
/-- how far a cell is from a part -/
def apt (pt : Nat → Int32) (its : Int32) (d n : Nat) : Nat := fo (fun e l => if pt e = its then min l (awF e d) else l) 24 n
theorem apt_le (pt : Nat → Int32) (its : Int32) (d : Nat) : ∀ n, apt pt its d n ≤ 24
  | 0 => Nat.le_refl _
  | n + 1 => by
    have ih := apt_le pt its d n
    show (if pt n = its then min (apt pt its d n) (awF n d) else apt pt its d n) ≤ 24
    split <;> omega
theorem ev_awayFromPart (σ : mS) (its : Int32) {d : Nat} (hd : d < 144) : Ev kX8_awayFromPart [mM, mI its, mI (nI d)] σ (fun r s => r = some (mI (nI (apt (σ 71 0) its d 144))) ∧ s = σ) := by
  refine Ev.intro fun G hG => hG.run ?_
  have key := loop_up (G := G) 6 144 (fun i => [some mM, some (mI its), some (mI (nI d)), some (mI (nI (apt (σ 71 0) its d i))), some (mI (nI i))]) (fun _ => σ) ?_ ?_ 0 (by omega)
  · exact key
  · intro i hi ih
    have e : apt (σ 71 0) its d (i + 1) = if σ 71 0 i = its then min (apt (σ 71 0) its d i) (awF i d) else apt (σ 71 0) its d i := rfl
    have h1 := apt_le (σ 71 0) its d i
    have h2 := awF_le (c := i) (d := d) hi hd
    rw [e, ← nI_1] at ih
    refine hG.run (br_f (nI_ge (b := 144) hi (by decide)) ?_)
    refine And.intro (vp_in_nI (by omega) (by omega)) ?_
    rw [nI_cl (by omega)]
    refine And.intro (fun c1 => ?_) (fun c1 => ?_)
    · replace c1 : ¬ σ 71 0 i = its := c1
      rw [if_neg c1] at ih
      exact ih
    · replace c1 : σ 71 0 i = its := c1
      rw [if_pos c1, ← min_nI (by omega) (by omega)] at ih
      exact call_of (ev_away σ (c := i) (d := d) hi hd) ih
  · exact hG.run (br_t (Int32.le_refl _) ⟨rfl, rfl⟩)
/-- the nearest cell of kind 0 to a part, with its distance -/
noncomputable def npF (kd pt : Nat → Int32) (its : Int32) (n : Nat) : Option Nat × Nat := fo (fun d b => ifp (kd d = 0 ∧ (b.1 = none ∨ apt pt its d 144 < b.2)) (some d, apt pt its d 144) b) (none, 0) n
theorem npF_lt (kd pt : Nat → Int32) (its : Int32) : ∀ n, (npF kd pt its n).2 ≤ 24 ∧ ∀ e, (npF kd pt its n).1 = some e → e < n ∧ kd e = 0
  | 0 => ⟨by show 0 ≤ 24; omega, fun e h => by cases h⟩
  | n + 1 => by
    obtain ⟨ih1, ih2⟩ := npF_lt kd pt its n
    have e : npF kd pt its (n + 1) = ifp (kd n = 0 ∧ ((npF kd pt its n).1 = none ∨ apt pt its n 144 < (npF kd pt its n).2)) (some n, apt pt its n 144) (npF kd pt its n) := rfl
    rw [e]
    by_cases q : kd n = 0 ∧ ((npF kd pt its n).1 = none ∨ apt pt its n 144 < (npF kd pt its n).2)
    · rw [ifp_t q]
      exact ⟨apt_le _ _ _ _, fun e h => by cases h; exact ⟨by omega, q.1⟩⟩
    · rw [ifp_f q]
      exact ⟨ih1, fun e h => ⟨by have := (ih2 e h).1; omega, (ih2 e h).2⟩⟩
theorem ev_nearestToPart (σ : mS) (its : Int32) : Ev kX8_nearestToPart [mM, mI its] σ (fun r s => r = some (mI (oI (npF (σ 70 0) (σ 71 0) its 144).1)) ∧ s = σ) := by
  refine Ev.intro fun G hG => hG.run ?_
  have key : ∀ n i, i + n = 144 → ∀ z : Option mV, G 7 [some mM, some (mI its), some (mI (oI (npF (σ 70 0) (σ 71 0) its i).1)), some (mI (nI (npF (σ 70 0) (σ 71 0) its i).2)), some (mI (nI i)), z] [] σ := by
    intro n
    induction n with
    | zero =>
      intro i hi z
      have : i = 144 := by omega
      subst this
      exact hG.run (br_t (Int32.le_refl _) ⟨rfl, rfl⟩)
    | succ n ih =>
      intro i hi z
      obtain ⟨h1, h2⟩ := npF_lt (σ 70 0) (σ 71 0) its i
      have h3 := apt_le (σ 71 0) its i 144
      have e : npF (σ 70 0) (σ 71 0) its (i + 1) = ifp (σ 70 0 i = 0 ∧ ((npF (σ 70 0) (σ 71 0) its i).1 = none ∨ apt (σ 71 0) its i 144 < (npF (σ 70 0) (σ 71 0) its i).2)) (some i, apt (σ 71 0) its i 144) (npF (σ 70 0) (σ 71 0) its i) := rfl
      refine hG.run (br_f (nI_ge (b := 144) (by omega) (by decide)) ?_)
      refine And.intro (vp_in_nI (by omega) (by omega)) ?_
      rw [nI_cl (by omega)]
      refine And.intro (fun c1 => ?_) (fun c1 => ?_)
      · replace c1 : σ 70 0 i = 0 := c1
        refine call_of (ev_awayFromPart σ its (d := i) (by omega)) ?_
        have ih := ih (i + 1) (by omega) (some (mI (nI (apt (σ 71 0) its i 144))))
        rw [e, ← nI_1] at ih
        refine And.intro (fun c2 => ?_) (fun c2 => And.intro (fun c3 => ?_) (fun c3 => ?_))
        · have c2 := (oI_neg (fun e h => by have := h2 e h; omega)).mp c2
          rw [ifp_t ⟨c1, Or.inl c2⟩] at ih
          exact ih
        · have c2 : ¬ (npF (σ 70 0) (σ 71 0) its i).1 = none := fun q => c2 ((oI_neg (fun e h => by have := h2 e h; omega)).mpr q)
          have c3 := le_of_le c3 (by omega)
          rw [ifp_f (fun q => q.2.elim c2 (fun z => by omega))] at ih
          exact ih
        · have c3 := lt_of_nle c3 (by omega)
          rw [ifp_t ⟨c1, Or.inr c3⟩] at ih
          exact ih
      · replace c1 : ¬ σ 70 0 i = 0 := c1
        have ih := ih (i + 1) (by omega) z
        rw [e, ifp_f (fun q => c1 q.1), ← nI_1] at ih
        exact ih
  exact key 144 0 (by omega) none
