/-! THE REFERENCE: laws, deeds, areas -/
noncomputable def lwF (yr : Nat → Int32) (year : Int32) (n j : Nat) : Option Nat := fo (fun j b => ifp (yr (n - 1 - j) ≤ year ∧ (∀ e, b = some e → yr e < yr (n - 1 - j))) (some (n - 1 - j)) b) none j
theorem lwF_lt (yr : Nat → Int32) (year : Int32) (n : Nat) : ∀ j e, j ≤ n → lwF yr year n j = some e → e < n
  | 0, e, _, h => by cases h
  | j + 1, e, hj, h => by
    have ih := lwF_lt yr year n j
    replace h : ifp (yr (n - 1 - j) ≤ year ∧ (∀ e, lwF yr year n j = some e → yr e < yr (n - 1 - j))) (some (n - 1 - j)) (lwF yr year n j) = some e := h
    by_cases q : yr (n - 1 - j) ≤ year ∧ (∀ e, lwF yr year n j = some e → yr e < yr (n - 1 - j))
    · rw [ifp_t q] at h; cases h; omega
    · rw [ifp_f q] at h; exact ih e (by omega) h
theorem nI_d (i : Nat) : nI (i + 1) + (-1) = nI i := pk_m1 i
theorem ev_lawIn (σ : mS) (year : Int32) {ln : Nat} (hm : σ 40 0 13 = nI ln) (h3 : ln ≤ 20) : Ev kX8_lawIn [mM, mI year] σ (fun r s => r = some (mI (oI (lwF (σ 64 0) year ln ln))) ∧ s = σ) := by
  refine Ev.intro fun G hG => hG.run ?_
  show G 9 [some mM, some (mI year), some (mI (-1)), some (mI (σ 40 0 13 - 1))] [] σ
  rw [hm]
  have key : ∀ i j, i + j = ln → G 9 [some mM, some (mI year), some (mI (oI (lwF (σ 64 0) year ln j))), some (mI (nI i - 1))] [] σ := by
    intro i
    induction i with
    | zero =>
      intro j hj
      have : j = ln := by omega
      subst this
      exact hG.run (br_t (by decide) ⟨rfl, rfl⟩)
    | succ i ih =>
      intro j hj
      have hlt := lwF_lt (σ 64 0) year ln j
      have e : lwF (σ 64 0) year ln (j + 1) = ifp (σ 64 0 (ln - 1 - j) ≤ year ∧ (∀ e, lwF (σ 64 0) year ln j = some e → σ 64 0 e < σ 64 0 (ln - 1 - j))) (some (ln - 1 - j)) (lwF (σ 64 0) year ln j) := rfl
      have ei : ln - 1 - j = i := by omega
      have ih := ih (j + 1) (by omega)
      rw [e, ei] at ih
      have hm1 : nI i - 1 = nI i + (-1) := by rw [Int32.sub_eq_add_neg]
      rw [hm1] at ih
      rw [nI_pred]
      refine hG.run (br_f (nI_pos (by omega)) ?_)
      refine And.intro (vp_in_nI (by omega) (by omega)) ?_
      rw [nI_cl (by omega)]
      refine And.intro (fun c1 => ?_) (fun c1 => ?_)
      · replace c1 : year < σ 64 0 i := c1
        rw [ifp_f (fun q => not_le_of c1 q.1)] at ih
        exact ih
      · replace c1 : ¬ year < σ 64 0 i := c1
        have c1 := Int32.not_lt.mp c1
        refine And.intro (fun c2 => ?_) (fun c2 => ?_)
        · have c2 := (oI_neg (fun e h => by have := hlt e (by omega) h; omega)).mp c2
          rw [ifp_t ⟨c1, fun e h => by rw [c2] at h; cases h⟩] at ih
          exact ih
        · have c2 : ¬ lwF (σ 64 0) year ln j = none := fun q => c2 ((oI_neg (fun e h => by have := hlt e (by omega) h; omega)).mpr q)
          cases hq : lwF (σ 64 0) year ln j with
          | none => exact absurd hq c2
          | some b =>
            have hb := hlt b (by omega) hq
            rw [hq] at ih
            refine And.intro (vp_in_nI (by omega) (by omega)) (And.intro (vp_in_nI (by omega) (by omega)) ?_)
            have eb : (nI b).toNatClampNeg = b := nI_cl (by omega)
            have ei2 : (nI i).toNatClampNeg = i := nI_cl (by omega)
            refine And.intro (fun c3 => ?_) (fun c3 => ?_)
            · replace c3 : σ 64 0 (nI i).toNatClampNeg ≤ σ 64 0 (nI b).toNatClampNeg := c3
              rw [eb, ei2] at c3
              rw [ifp_f (fun q => not_le_of (q.2 b rfl) c3)] at ih
              exact ih
            · replace c3 : ¬ σ 64 0 (nI i).toNatClampNeg ≤ σ 64 0 (nI b).toNatClampNeg := c3
              rw [eb, ei2] at c3
              rw [ifp_t ⟨c1, fun e h => by cases h; exact Int32.not_le.mp c3⟩] at ih
              exact ih
  exact key ln 0 (by omega)
theorem ev_begins (σ : mS) : Ev kX8_begins [mM] σ (fun r s => r = none ∧ s = mput σ 74 0 (cpy (σ 74 0) (σ 56 0) 144)) := by
  refine Ev.intro fun G hG => hG.run ?_
  have key := loop_up (G := G) 2 144 (fun i => [some mM, some (mI (nI i))]) (fun i => mput σ 74 0 (cpy (σ 74 0) (σ 56 0) i)) ?_ ?_ 0 (by omega)
  · rw [cpy_0, mput_self] at key
    exact key
  · intro i hi ih
    refine hG.run (br_f (nI_ge (b := 144) hi (by decide)) ?_)
    refine And.intro (vp_in_nI (by omega) (by omega)) (And.intro (vp_in_nI (by omega) (by omega)) ?_)
    rw [nI_cl (by omega)]
    show G 2 [some mM, some (mI (nI i + 1))] [] (mput (mput σ 74 0 (cpy (σ 74 0) (σ 56 0) i)) 74 0 (upd (cpy (σ 74 0) (σ 56 0) i) i (σ 56 0 i)))
    rw [mput_mput, cpy_s, nI_1]
    exact ih
  · exact hG.run (br_t (Int32.le_refl _) ⟨rfl, rfl⟩)
/-- the step of a year -/
noncomputable def stI (yr : Nat → Int32) (year : Int32) (n : Nat) : Option Nat := fo (fun m b => ifp (b = none ∧ 0 < m ∧ yr m = year) (some m) b) none n
theorem stI_lt (yr : Nat → Int32) (year : Int32) : ∀ n e, stI yr year n = some e → 0 < e ∧ e < n ∧ yr e = year
  | 0, e, h => by cases h
  | n + 1, e, h => by
    replace h : ifp (stI yr year n = none ∧ 0 < n ∧ yr n = year) (some n) (stI yr year n) = some e := h
    by_cases q : stI yr year n = none ∧ 0 < n ∧ yr n = year
    · rw [ifp_t q] at h; cases h; exact ⟨q.2.1, by omega, q.2.2⟩
    · rw [ifp_f q] at h
      have := stI_lt yr year n e h
      exact ⟨this.1, by omega, this.2.2⟩
theorem stI_keep (yr : Nat → Int32) (year : Int32) {n e : Nat} (h : stI yr year n = some e) : ∀ k, stI yr year (n + k) = some e
  | 0 => h
  | k + 1 => by
    show ifp (stI yr year (n + k) = none ∧ 0 < n + k ∧ yr (n + k) = year) (some (n + k)) (stI yr year (n + k)) = some e
    rw [stI_keep yr year h k]
    exact ifp_f (fun q => by cases q.1)
theorem ev_stepIn (σ : mS) (year : Int32) {mp : Nat} (hm : σ 40 0 3 = nI mp) (h3 : mp ≤ 10) : Ev kX8_stepIn [mM, mI year] σ (fun r s => r = some (mI (oI (stI (σ 54 0) year mp))) ∧ s = σ) := by
  refine Ev.intro fun G hG => hG.run ?_
  show G 2 [some mM, some (mI year), some (mI (nI 1))] [] σ
  have key : ∀ n i, 0 < i → i + n = max mp 1 → stI (σ 54 0) year i = none → G 2 [some mM, some (mI year), some (mI (nI i))] [] σ := by
    intro n
    induction n with
    | zero =>
      intro i h0 hi hn
      refine hG.run (br_t ?_ ?_)
      · show σ 40 0 3 ≤ nI i
        rw [hm]; exact nI_le (by omega) (by omega)
      · have : stI (σ 54 0) year mp = none := by
          by_cases q : 0 < mp
          · rw [show mp = i by omega]; exact hn
          · rw [show mp = 0 by omega]; rfl
        exact ⟨by rw [this]; rfl, rfl⟩
    | succ n ih =>
      intro i h0 hi hn
      have hlt : i < mp := by omega
      refine hG.run (br_f ?_ ?_)
      · show ¬ σ 40 0 3 ≤ nI i
        rw [hm]; exact nI_ge hlt (by omega)
      · refine And.intro (vp_in_nI (by omega) (by omega)) ?_
        rw [nI_cl (by omega)]
        have e : stI (σ 54 0) year (i + 1) = ifp (stI (σ 54 0) year i = none ∧ 0 < i ∧ σ 54 0 i = year) (some i) (stI (σ 54 0) year i) := rfl
        refine And.intro (fun c1 => ?_) (fun c1 => ?_)
        · replace c1 : ¬ σ 54 0 i = year := c1
          rw [ifp_f (fun q => c1 q.2.2)] at e
          have h5 := ih (i + 1) (by omega) (by omega) (e.trans hn)
          rw [← nI_1] at h5
          exact h5
        · replace c1 : σ 54 0 i = year := c1
          rw [ifp_t ⟨hn, h0, c1⟩] at e
          have := stI_keep (σ 54 0) year e (mp - (i + 1))
          rw [show i + 1 + (mp - (i + 1)) = mp by omega] at this
          exact ⟨by rw [this]; rfl, rfl⟩
  exact key (max mp 1 - 1) 1 (by omega) (by omega) (ifp_f (fun q => Nat.lt_irrefl 0 q.2.1))
noncomputable def dedF (o wt : Nat → Int32) (a b : Nat) (ow : Int32) (n : Nat) : Nat → Int32 := fun c => ifp (c < n ∧ inBox c a b ∧ wt c = 0 ∧ 0 ≤ o c) ow (o c)
theorem dedF_0 (o wt : Nat → Int32) (a b : Nat) (ow : Int32) : dedF o wt a b ow 0 = o := by
  funext j
  exact ifp_f (by omega)
theorem dedF_s (o wt : Nat → Int32) (a b : Nat) (ow : Int32) (n : Nat) : upd (dedF o wt a b ow n) n (ifp (inBox n a b ∧ wt n = 0 ∧ 0 ≤ o n) ow (o n)) = dedF o wt a b ow (n + 1) := by
  funext j
  unfold dedF
  by_cases h1 : j = n
  · subst h1
    rw [upd_eq]
    exact ifp_c ⟨fun q => ⟨by omega, q⟩, fun q => q.2⟩
  · rw [upd_ne _ _ h1]
    exact ifp_c ⟨fun q => ⟨by omega, q.2⟩, fun q => ⟨by omega, q.2⟩⟩
/-- the deeds of a year -/
noncomputable def dsF (σ : mS) (wt : Nat → Int32) (year : Int32) (o : Nat → Int32) (n : Nat) : Nat → Int32 := fo (fun d o => ifp (σ 62 0 d = 0 ∧ σ 61 0 d = year) (dedF o wt (σ 58 0 d).toNatClampNeg (σ 59 0 d).toNatClampNeg (σ 60 0 d) 144) o) o n
/-- what deeds must be -/
def dedOK (σ : mS) (dn : Nat) : Prop := ∀ d, d < dn → (∃ a, a < 144 ∧ σ 58 0 d = nI a) ∧ (∃ b, b < 144 ∧ σ 59 0 d = nI b)
theorem ev_deedsIn (σ : mS) (year : Int32) {mp dn : Nat} (hm : σ 40 0 3 = nI mp) (h3 : mp ≤ 10) (hd : σ 40 0 7 = nI dn) (h4 : dn ≤ 30) (hb : ∀ j, σ 55 0 j &&& 1 = σ 55 0 j) (hok : dedOK σ dn) : Ev kX8_deedsIn [mM, mI year] σ (fun r s => r = none ∧ s = mput σ 74 0 (dsF σ (wtr σ (mapInF (σ 54 0) year mp)) year (σ 74 0) dn)) := by
  refine Ev.intro fun G hG => hG.run ?_
  refine call_of (ev_mapIn σ year hm h3) ?_
  have hlt := mapInF_lt (σ 54 0) year mp
  generalize mapInF (σ 54 0) year mp = M at hlt hG ⊢
  have hM : M ≤ 10 := by omega
  have outer : ∀ n d, d + n = dn → ∀ z4 z5 : Option mV, G 8 [some mM, some (mI year), some (mI (nI M)), some (mI (nI d)), z4, z5] [] (mput σ 74 0 (dsF σ (wtr σ M) year (σ 74 0) d)) := by
    intro n
    induction n with
    | zero =>
      intro d hdn z4 z5
      have : d = dn := by omega
      subst this
      refine hG.run (br_t ?_ ⟨rfl, rfl⟩)
      show σ 40 0 7 ≤ nI d
      rw [hd]; exact Int32.le_refl _
    | succ n ih =>
      intro d hdn z4 z5
      obtain ⟨⟨a, ha, ea⟩, ⟨b, hb', eb⟩⟩ := hok d (by omega)
      have e : dsF σ (wtr σ M) year (σ 74 0) (d + 1) = ifp (σ 62 0 d = 0 ∧ σ 61 0 d = year) (dedF (dsF σ (wtr σ M) year (σ 74 0) d) (wtr σ M) (σ 58 0 d).toNatClampNeg (σ 59 0 d).toNatClampNeg (σ 60 0 d) 144) (dsF σ (wtr σ M) year (σ 74 0) d) := rfl
      have ca : (σ 58 0 d).toNatClampNeg = a := by rw [ea, nI_cl (by omega)]
      have cb : (σ 59 0 d).toNatClampNeg = b := by rw [eb, nI_cl (by omega)]
      rw [ca, cb] at e
      have cd : (nI d).toNatClampNeg = d := nI_cl (by omega)
      generalize dsF σ (wtr σ M) year (σ 74 0) d = o at e
      have hvd : vp_in (nI d) 30 := vp_in_nI (by omega) (by omega)
      refine hG.run (br_f ?_ ?_)
      · show ¬ σ 40 0 7 ≤ nI d
        rw [hd]; exact nI_ge (by omega) (by omega)
      · refine And.intro hvd (And.intro (fun c1 => ?_) (fun c1 => And.intro hvd (And.intro (fun c2 => ?_) (fun c2 => ?_))))
        · replace c1 : ¬ σ 62 0 (nI d).toNatClampNeg = 0 := c1
          rw [cd] at c1
          rw [ifp_f (fun q => c1 q.1)] at e
          have h5 := ih (d + 1) (by omega) z4 z5
          rw [e, ← nI_1] at h5
          exact h5
        · replace c1 : σ 62 0 (nI d).toNatClampNeg = 0 := c1
          replace c2 : σ 61 0 (nI d).toNatClampNeg = year := c2
          rw [cd] at c1 c2
          rw [ifp_t ⟨c1, c2⟩] at e
          have inner : ∀ m c, c + m = 144 → ∀ z5 : Option mV, G 41 [some mM, some (mI year), some (mI (nI M)), some (mI (nI d)), some (mI (nI c)), z5] [] (mput σ 74 0 (dedF o (wtr σ M) a b (σ 60 0 d) c)) := by
            intro m
            induction m with
            | zero =>
              intro c hc z5
              have : c = 144 := by omega
              subst this
              have h5 := ih (d + 1) (by omega) (some (mI (nI 144))) z5
              rw [e, ← nI_1] at h5
              exact hG.run (br_t (Int32.le_refl _) h5)
            | succ m ihm =>
              intro c hc z5
              have hvc : vp_in (nI c) 144 := vp_in_nI (by omega) (by omega)
              have cc : (nI c).toNatClampNeg = c := nI_cl (by omega)
              have eo : dedF o (wtr σ M) a b (σ 60 0 d) c c = o c := ifp_f (by omega)
              have es := dedF_s o (wtr σ M) a b (σ 60 0 d) c
              refine hG.run (br_f (nI_ge (b := 144) (by omega) (by decide)) ?_)
              refine And.intro hvd (And.intro hvd ?_)
              refine call_of (k := kX8_isInBox) (a := [mI (nI c), mI (σ 58 0 (nI d).toNatClampNeg), mI (σ 59 0 (nI d).toNatClampNeg)]) (by rw [cd, ea, eb]; exact ev_isInBox (mput σ 74 0 (dedF o (wtr σ M) a b (σ 60 0 d) c)) (c := c) (a := a) (b := b) (by omega) ha hb') ?_
              have no : ¬ (inBox c a b ∧ wtr σ M c = 0 ∧ 0 ≤ o c) → vp_in (nI c) 144 ∧ vp_in (nI c) 144 ∧ G 41 [some mM, some (mI year), some (mI (nI M)), some (mI (nI d)), some (mI (nI c + 1)), some (mI 0)] [] (mput (mput σ 74 0 (dedF o (wtr σ M) a b (σ 60 0 d) c)) 74 0 (upd (dedF o (wtr σ M) a b (σ 60 0 d) c) (nI c).toNatClampNeg (dedF o (wtr σ M) a b (σ 60 0 d) c (nI c).toNatClampNeg))) := by
                intro q
                refine ⟨hvc, hvc, ?_⟩
                rw [ifp_f q] at es
                rw [cc, eo, mput_mput, es, nI_1]
                exact ihm (c + 1) (by omega) _
              refine And.intro (fun c3 => And.intro (fun _ => no (fun q => b_f c3 q.1)) (fun c0 => absurd rfl c0)) (fun c3 => ?_)
              refine call_of (ev_isWet (mput σ 74 0 (dedF o (wtr σ M) a b (σ 60 0 d) c)) (m := M) (c := c) hM (by omega) hb) ?_
              refine And.intro (fun c4 => And.intro (fun _ => no (fun q => c4 q.2.1)) (fun c0 => absurd rfl c0)) (fun c4 => ?_)
              refine And.intro hvc (And.intro (fun c5 => ?_) (fun c5 => ?_))
              · replace c5 : dedF o (wtr σ M) a b (σ 60 0 d) c (nI c).toNatClampNeg < 0 := c5
                rw [cc, eo] at c5
                exact And.intro (fun _ => no (fun q => not_le_of c5 q.2.2)) (fun c0 => absurd rfl c0)
              · replace c5 : ¬ dedF o (wtr σ M) a b (σ 60 0 d) c (nI c).toNatClampNeg < 0 := c5
                rw [cc, eo] at c5
                refine And.intro (fun c0 => absurd c0 (by decide)) (fun _ => And.intro hvd (And.intro hvc ?_))
                show G 41 [some mM, some (mI year), some (mI (nI M)), some (mI (nI d)), some (mI (nI c + 1)), some (mI 1)] [] (mput (mput σ 74 0 (dedF o (wtr σ M) a b (σ 60 0 d) c)) 74 0 (upd (dedF o (wtr σ M) a b (σ 60 0 d) c) (nI c).toNatClampNeg (σ 60 0 (nI d).toNatClampNeg)))
                rw [ifp_t ⟨b_t c3, c4, Int32.not_lt.mp c5⟩] at es
                rw [cc, cd, mput_mput, es, nI_1]
                exact ihm (c + 1) (by omega) _
          have h6 := inner 144 0 (by omega) z5
          rw [dedF_0] at h6
          exact h6
        · replace c2 : ¬ σ 61 0 (nI d).toNatClampNeg = year := c2
          rw [cd] at c2
          rw [ifp_f (fun q => c2 q.2)] at e
          have h5 := ih (d + 1) (by omega) z4 z5
          rw [e, ← nI_1] at h5
          exact h5
  have h7 := outer dn 0 (by omega) none none
  rw [show dsF σ (wtr σ M) year (σ 74 0) 0 = σ 74 0 from rfl, mput_self] at h7
  exact h7
noncomputable def arF (W H : Nat) (wt o : Nat → Int32) (its : Int32) (n : Nat) : Int32 := fo (fun c acc => acc + b2i (onP W H c ∧ wt c = 0 ∧ o c = its)) 0 n
theorem ev_areaOn (σ : mS) (its : Int32) {m W H : Nat} (hW : σ 40 0 1 = nI W) (h2 : W ≤ 12) (hH : σ 40 0 2 = nI H) (h4 : H ≤ 12) (hm : m ≤ 10) (hb : ∀ j, σ 55 0 j &&& 1 = σ 55 0 j) : Ev kX8_areaOn [mM, mI (nI m), mI its] σ (fun r s => r = some (mI (arF W H (wtr σ m) (σ 74 0) its 144)) ∧ s = σ) := by
  refine Ev.intro fun G hG => hG.run ?_
  have key := loop_up (G := G) 5 144 (fun i => [some mM, some (mI (nI m)), some (mI its), some (mI (arF W H (wtr σ m) (σ 74 0) its i)), some (mI (nI i))]) (fun _ => σ) ?_ ?_ 0 (by omega)
  · exact key
  · intro i hi ih
    have e : arF W H (wtr σ m) (σ 74 0) its (i + 1) = arF W H (wtr σ m) (σ 74 0) its i + b2i (onP W H i ∧ wtr σ m i = 0 ∧ σ 74 0 i = its) := rfl
    rw [e, ← nI_1] at ih
    have no : ¬ (onP W H i ∧ wtr σ m i = 0 ∧ σ 74 0 i = its) → G 5 [some mM, some (mI (nI m)), some (mI its), some (mI (arF W H (wtr σ m) (σ 74 0) its i + 0)), some (mI (nI i + 1))] [] σ := fun q => by rw [b2i_f q] at ih; exact ih
    refine hG.run (br_f (nI_ge (b := 144) hi (by decide)) ?_)
    refine call_of (ev_isOn σ (c := i) hW h2 hH h4 hi) ?_
    refine And.intro (fun c1 => no (fun q => b_f c1 q.1)) (fun c1 => ?_)
    refine call_of (ev_isWet σ (m := m) (c := i) hm hi hb) ?_
    refine And.intro (fun c2 => no (fun q => c2 q.2.1)) (fun c2 => ?_)
    refine And.intro (vp_in_nI (by omega) (by omega)) ?_
    rw [nI_cl (by omega)]
    refine And.intro (fun c3 => no (fun q => c3 q.2.2)) (fun c3 => ?_)
    rw [b2i_t ⟨b_t c1, c2, c3⟩] at ih
    exact ih
  · exact hG.run (br_t (Int32.le_refl _) ⟨rfl, rfl⟩)
def bwP (W H : Nat) (wt : Nat → Int32) (c n : Nat) : Prop := ∃ d, d < n ∧ onP W H d ∧ ¬ wt d = 0 ∧ awF c d = 1
theorem ev_isByWater (σ : mS) {m c W H : Nat} (hW : σ 40 0 1 = nI W) (h2 : W ≤ 12) (hH : σ 40 0 2 = nI H) (h4 : H ≤ 12) (hm : m ≤ 10) (hc : c < 144) (hb : ∀ j, σ 55 0 j &&& 1 = σ 55 0 j) : Ev kX8_isByWater [mM, mI (nI m), mI (nI c)] σ (fun r s => r = some (mI (b2i (bwP W H (wtr σ m) c 144))) ∧ s = σ) := by
  refine Ev.intro fun G hG => hG.run ?_
  have key := loop_up (G := G) 5 144 (fun i => [some mM, some (mI (nI m)), some (mI (nI c)), some (mI (b2i (bwP W H (wtr σ m) c i))), some (mI (nI i))]) (fun _ => σ) ?_ ?_ 0 (by omega)
  · rw [b2i_f (P := bwP W H (wtr σ m) c 0) (fun ⟨d, h, _⟩ => by omega)] at key
    exact key
  · intro i hi ih
    have yes : bwP W H (wtr σ m) c (i + 1) → G 5 [some mM, some (mI (nI m)), some (mI (nI c)), some (mI 1), some (mI (nI i + 1))] [] σ := fun q => by rw [b2i_t q, ← nI_1] at ih; exact ih
    have no : ¬ bwP W H (wtr σ m) c (i + 1) → G 5 [some mM, some (mI (nI m)), some (mI (nI c)), some (mI 0), some (mI (nI i + 1))] [] σ := fun q => by rw [b2i_f q, ← nI_1] at ih; exact ih
    have split : ∀ q : bwP W H (wtr σ m) c (i + 1), bwP W H (wtr σ m) c i ∨ (onP W H i ∧ ¬ wtr σ m i = 0 ∧ awF c i = 1) := by
      rintro ⟨d, h1, h2⟩
      by_cases hd : d = i
      · subst hd; exact Or.inr h2
      · exact Or.inl ⟨d, by omega, h2⟩
    refine hG.run (br_f (nI_ge (b := 144) hi (by decide)) ?_)
    refine And.intro (fun c1 => ?_) (fun c1 => ?_)
    · obtain ⟨d, h1, h2⟩ := b_t c1
      exact yes ⟨d, by omega, h2⟩
    · have c1 := b_f c1
      refine call_of (ev_isOn σ (c := i) hW h2 hH h4 hi) ?_
      refine And.intro (fun c2 => no (fun q => (split q).elim c1 (fun z => b_f c2 z.1))) (fun c2 => ?_)
      refine call_of (ev_isWet σ (m := m) (c := i) hm hi hb) ?_
      refine And.intro (fun c3 => no (fun q => (split q).elim c1 (fun z => z.2.1 c3))) (fun c3 => ?_)
      refine call_of (ev_away σ (c := c) (d := i) hc hi) ?_
      have h1 := awF_le (c := c) (d := i) hc hi
      refine And.intro (fun c4 => no (fun q => (split q).elim c1 (fun z => c4 (by rw [z.2.2]; rfl)))) (fun c4 => ?_)
      exact yes ⟨i, by omega, b_t c2, c3, (nI_eq (b := 1) (by omega) (by omega)).mp c4⟩
  · exact hG.run (br_t (Int32.le_refl _) ⟨congrArg (fun z => some (mI z)) (b2i_and _), rfl⟩)
