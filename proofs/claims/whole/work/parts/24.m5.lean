/-! THE REFERENCE: counts, maps in years, kinds, distances -/
def bindN (f : Nat → Int32) (n : Nat) : Int32 := fo (fun d acc => acc + (if f d = 0 then 1 else 0)) 0 n
def cntV (σ : mS) (bind : Int32) (j : Nat) : Int32 := match j with
  | 0 => σ 40 0 1
  | 1 => σ 40 0 2
  | 2 => σ 40 0 3
  | 3 => σ 40 0 7
  | 4 => bind
  | 5 => σ 40 0 13
  | 6 => σ 40 0 18
  | _ => σ 40 0 26
theorem toInt_nat {x : Int32} {n : Nat} (h : x.toInt = 0 + (n : Int)) (hn : n < 2 ^ 31) : x = nI n := Int32.toInt_inj.mp (by rw [h, nI_toInt hn]; omega)
theorem ev_count (σ : mS) (w : Int32) {dn : Nat} (hm : σ 40 0 7 = nI dn) (h3 : dn ≤ 30) (post : Option mV → mS → Prop)
    (hbad : ¬ vp_in w 8 → post (some (mI (-1))) (th0 σ)) (hgo : ∀ j, j < 8 → w = nI j → post (some (mI (cntV σ (bindN (σ 62 0) dn) j))) (th0 σ)) : Ev kX8_count [mM, mI w] σ post := by
  refine Ev.intro fun G hG => hG.run ?_
  have key := loop_up (G := G) 9 dn (fun i => [some mM, some (mI w), some (mI (bindN (σ 62 0) i)), some (mI (nI i))]) (fun _ => th0 σ) ?_ ?_ 0 (by omega)
  · exact key
  · intro i hi ih
    refine hG.run (br_f ?_ ?_)
    · show ¬ σ 40 0 7 ≤ nI i
      rw [hm]; exact nI_ge hi (by omega)
    · refine And.intro (vp_in_nI (by omega) (by omega)) ?_
      rw [nI_cl (by omega)]
      have e : bindN (σ 62 0) (i + 1) = bindN (σ 62 0) i + (if σ 62 0 i = 0 then 1 else 0) := rfl
      rw [e, ← nI_1] at ih
      refine And.intro (fun c => ?_) (fun c => ?_)
      · replace c : σ 62 0 i = 0 := c
        rw [if_pos c] at ih
        exact ih
      · replace c : ¬ σ 62 0 i = 0 := c
        rw [if_neg c] at ih
        exact ih
  · refine hG.run (br_t ?_ ?_)
    · show σ 40 0 7 ≤ nI dn
      rw [hm]; exact Int32.le_refl _
    · refine And.intro (fun c => ⟨?_, by decide⟩) (fun n off ho hx => ?_)
      · exact hbad (fun q => by rw [vp_in_iff] at q; omega)
      · have hn : n < 8 := by
          rcases Nat.lt_or_ge n 8 with q | q
          · exact q
          · rw [Array.getElem?_eq_none (by simpa using q)] at ho; cases ho
        have hg := hgo n hn (toInt_nat hx (by omega))
        match n, hn, ho, hg with
        | 0, _, ho, hg => cases ho; exact ⟨hg, by decide⟩
        | 1, _, ho, hg => cases ho; exact ⟨hg, by decide⟩
        | 2, _, ho, hg => cases ho; exact ⟨hg, by decide⟩
        | 3, _, ho, hg => cases ho; exact ⟨hg, by decide⟩
        | 4, _, ho, hg => cases ho; exact ⟨hg, by decide⟩
        | 5, _, ho, hg => cases ho; exact ⟨hg, by decide⟩
        | 6, _, ho, hg => cases ho; exact ⟨hg, by decide⟩
        | 7, _, ho, hg => cases ho; exact ⟨hg, by decide⟩
        | n + 8, hn, _, _ => exact absurd hn (by omega)
/-- the latest map of a year -/
def mapInF (yr : Nat → Int32) (year : Int32) (n : Nat) : Nat := fo (fun k m => if 0 < k ∧ yr k ≤ year then k else m) 0 n
theorem mapInF_lt (yr : Nat → Int32) (year : Int32) : ∀ n, mapInF yr year n = 0 ∨ mapInF yr year n < n
  | 0 => Or.inl rfl
  | n + 1 => by
    show (if 0 < n ∧ yr n ≤ year then n else mapInF yr year n) = 0 ∨ (if 0 < n ∧ yr n ≤ year then n else mapInF yr year n) < n + 1
    split
    · exact Or.inr (by omega)
    · rcases mapInF_lt yr year n with q | q
      · exact Or.inl q
      · exact Or.inr (by omega)
theorem ev_mapIn (σ : mS) (year : Int32) {mp : Nat} (hm : σ 40 0 3 = nI mp) (h3 : mp ≤ 10) : Ev kX8_mapIn [mM, mI year] σ (fun r s => r = some (mI (nI (mapInF (σ 54 0) year mp))) ∧ s = σ) := by
  refine Ev.intro fun G hG => hG.run ?_
  by_cases h0 : 0 < mp
  · have key := loop_from (G := G) 4 1 mp (fun i => [some mM, some (mI year), some (mI (nI (mapInF (σ 54 0) year i))), some (mI (nI i))]) (fun _ => σ) ?_ ?_ 1 (by omega) h0
    · exact key
    · intro i hi1 hi ih
      refine hG.run (br_f ?_ ?_)
      · show ¬ σ 40 0 3 ≤ nI i
        rw [hm]; exact nI_ge hi (by omega)
      · refine And.intro (vp_in_nI (by omega) (by omega)) ?_
        rw [nI_cl (by omega)]
        have e : mapInF (σ 54 0) year (i + 1) = if 0 < i ∧ σ 54 0 i ≤ year then i else mapInF (σ 54 0) year i := rfl
        rw [e, ← nI_1] at ih
        refine And.intro (fun c => ?_) (fun c => ?_)
        · replace c : year < σ 54 0 i := c
          rw [if_neg (fun q => not_le_of c q.2)] at ih
          exact ih
        · replace c : ¬ year < σ 54 0 i := c
          rw [if_pos ⟨hi1, Int32.not_lt.mp c⟩] at ih
          exact ih
    · refine hG.run (br_t ?_ ⟨rfl, rfl⟩)
      show σ 40 0 3 ≤ nI mp
      rw [hm]; exact Int32.le_refl _
  · have : mp = 0 := by omega
    subst this
    show G 4 [some mM, some (mI year), some (mI 0), some (mI 1)] [] σ
    refine hG.run (br_t ?_ ⟨rfl, rfl⟩)
    show σ 40 0 3 ≤ 1
    rw [hm]
    decide
theorem ev_isWet (σ : mS) {m c : Nat} (h1 : m ≤ 10) (h2 : c < 144) (hb : ∀ j, σ 55 0 j &&& 1 = σ 55 0 j) : Ev kX8_isWet [mM, mI (nI m), mI (nI c)] σ (fun r s => r = some (mI (σ 55 0 (144 * m + c))) ∧ s = σ) := by
  refine Ev.intro fun G hG => hG.run ?_
  refine And.intro ?_ ?_
  · show vp_in ((144 : Int32) * nI m + nI c) 1584
    rw [idx2]
    exact vp_in_nI (by omega) (by omega)
  · show some (mI (σ 55 0 ((144 : Int32) * nI m + nI c).toNatClampNeg &&& 1)) = some (mI (σ 55 0 (144 * m + c))) ∧ σ = σ
    rw [idx2, nI_cl (by omega), hb]
    exact ⟨rfl, rfl⟩
def onP (W H c : Nat) : Prop := c % 12 < W ∧ c / 12 < H
theorem ev_isOn (σ : mS) {c W H : Nat} (hW : σ 40 0 1 = nI W) (h2 : W ≤ 12) (hH : σ 40 0 2 = nI H) (h4 : H ≤ 12) (hc : c < 144) : Ev kX8_isOn [mM, mI (nI c)] σ (fun r s => r = some (mI (b2i (onP W H c))) ∧ s = σ) := by
  refine Ev.intro fun G hG => hG.run ?_
  refine And.intro (by decide) ?_
  rw [rem12 (by omega)]
  have no : ¬ onP W H c → (some (mI ((0 : Int32) &&& 1)) : Option mV) = some (mI (b2i (onP W H c))) ∧ σ = σ := fun q => ⟨by rw [b2i_f q]; rfl, rfl⟩
  refine And.intro (fun c1 => ?_) (fun c1 => And.intro (by decide) ?_)
  · replace c1 : σ 40 0 1 ≤ nI (c % 12) := c1
    rw [hW] at c1
    exact no (fun q => absurd (le_of_le c1 (by omega)) (by unfold onP at q; omega))
  · replace c1 : ¬ σ 40 0 1 ≤ nI (c % 12) := c1
    rw [hW] at c1
    have c1 := lt_of_nle c1 (by omega)
    rw [div12 (by omega)]
    refine And.intro (fun c2 => ?_) (fun c2 => ?_)
    · replace c2 : σ 40 0 2 ≤ nI (c / 12) := c2
      rw [hH] at c2
      exact no (fun q => absurd (le_of_le c2 (by omega)) (by unfold onP at q; omega))
    · replace c2 : ¬ σ 40 0 2 ≤ nI (c / 12) := c2
      rw [hH] at c2
      have c2 := lt_of_nle c2 (by omega)
      exact ⟨by rw [b2i_t (P := onP W H c) ⟨c1, c2⟩]; rfl, rfl⟩
theorem ev_wet (σ : mS) (x y year : Int32) {W H mp : Nat} (hW : σ 40 0 1 = nI W) (h1 : 0 < W) (h2 : W ≤ 12) (hH : σ 40 0 2 = nI H) (h0 : 0 < H) (h4 : H ≤ 12) (hm : σ 40 0 3 = nI mp) (h3 : mp ≤ 10) (hb : ∀ j, σ 55 0 j &&& 1 = σ 55 0 j) (post : Option mV → mS → Prop)
    (hbad : ¬ ((vp_in x W ∧ vp_in y H) ∧ vp_in year 201 ∧ 0 < mp) → post (some (mI (-1))) (th0 σ))
    (hgo : ∀ X Y, X < W → Y < H → x = nI X → y = nI Y → vp_in year 201 → 0 < mp → post (some (mI (if σ 55 0 (144 * mapInF (σ 54 0) year mp + (12 * Y + X)) = 0 then 0 else 1))) (th0 σ)) : Ev kX8_wet [mM, mI x, mI y, mI year] σ post := by
  refine Ev.intro fun G hG => hG.run ?_
  refine call_of (ev_isCell (th0 σ) x y hW h1 h2 hH h0 h4) ?_
  refine And.intro (fun c1 => hbad (fun q => b_f c1 q.1)) (fun c1 => ?_)
  refine call_of (ev_isYear _ year) ?_
  refine And.intro (fun c2 => hbad (fun q => b_f c2 q.2.1)) (fun c2 => ?_)
  refine And.intro (fun c3 => ?_) (fun c3 => ?_)
  · replace c3 : σ 40 0 3 ≤ 0 := c3
    rw [hm] at c3
    exact hbad (fun q => absurd (le_of_le (b := 0) c3 (by omega)) (by omega))
  · replace c3 : ¬ σ 40 0 3 ≤ 0 := c3
    rw [hm] at c3
    have c3 : 0 < mp := lt_of_nle (b := 0) c3 (by omega)
    obtain ⟨d1, d2⟩ := b_t c1
    obtain ⟨X, hX, rfl⟩ := (vp_nI (by omega)).mp d1
    obtain ⟨Y, hY, rfl⟩ := (vp_nI (by omega)).mp d2
    have hgo := hgo X Y hX hY rfl rfl (b_t c2) c3
    refine call_of (ev_mapIn (th0 σ) year hm h3) ?_
    refine call_of (ev_cell _ (nI X) (nI Y)) ?_
    rw [idx1]
    have hlt := mapInF_lt (σ 54 0) year mp
    refine call_of (ev_isWet (th0 σ) (m := mapInF (σ 54 0) year mp) (by omega) (by omega) hb) ?_
    refine And.intro (fun c4 => ?_) (fun c4 => ?_)
    · replace c4 : σ 55 0 (144 * mapInF (σ 54 0) year mp + (12 * Y + X)) = 0 := c4
      rw [if_pos c4] at hgo
      exact hgo
    · replace c4 : ¬ σ 55 0 (144 * mapInF (σ 54 0) year mp + (12 * Y + X)) = 0 := c4
      rw [if_neg c4] at hgo
      exact hgo
/-- what a cell is by a step: -1 not on the land, 0 dry on both, 1 lost, 2 new, 3 water on both -/
noncomputable def kdF (W H : Nat) (w0 w1 : Nat → Int32) (c : Nat) : Int32 := ifp (onP W H c) (if w0 c = 0 then (if w1 c = 0 then 0 else 1) else (if w1 c = 0 then 2 else 3)) (-1)
/-- the water of map m -/
def wtr (σ : mS) (m : Nat) : Nat → Int32 := fun c => σ 55 0 (144 * m + c)
noncomputable def kdM (σ : mS) (W H m : Nat) : Nat → Int32 := kdF W H (wtr σ (m - 1)) (wtr σ m)
theorem ev_kinds (σ : mS) {m W H : Nat} (hW : σ 40 0 1 = nI W) (h2 : W ≤ 12) (hH : σ 40 0 2 = nI H) (h4 : H ≤ 12) (hm0 : 0 < m) (hm : m ≤ 10) (hb : ∀ j, σ 55 0 j &&& 1 = σ 55 0 j) : Ev kX8_kinds [mM, mI (nI m)] σ (fun r s => r = none ∧ s = mput σ 70 0 (cpy (σ 70 0) (kdM σ W H m) 144)) := by
  refine Ev.intro fun G hG => hG.run ?_
  have key : ∀ n i, i + n = 144 → ∀ z1 z2 : Option mV, G 2 [some mM, some (mI (nI m)), some (mI (nI i)), z1, z2] [] (mput σ 70 0 (cpy (σ 70 0) (kdM σ W H m) i)) := by
    intro n
    induction n with
    | zero =>
      intro i hi z1 z2
      have : i = 144 := by omega
      subst this
      exact hG.run (br_t (Int32.le_refl _) ⟨rfl, rfl⟩)
    | succ n ih =>
      intro i hi z1 z2
      refine hG.run (br_f (nI_ge (b := 144) (by omega) (by decide)) ?_)
      refine call_of (k := kX8_isWet) (a := [mM, mI (nI m - 1), mI (nI i)]) (by rw [nI_m1 hm0]; exact ev_isWet (mput σ 70 0 (cpy (σ 70 0) (kdM σ W H m) i)) (m := m - 1) (c := i) (by omega) (by omega) hb) ?_
      refine call_of (ev_isWet (mput σ 70 0 (cpy (σ 70 0) (kdM σ W H m) i)) (m := m) (c := i) (by omega) (by omega) hb) ?_
      refine call_of (ev_isOn (mput σ 70 0 (cpy (σ 70 0) (kdM σ W H m) i)) (c := i) hW h2 hH h4 (by omega)) ?_
      have fin : ∀ v, v = kdM σ W H m i → vp_in (nI i) 144 ∧ G 2 [some mM, some (mI (nI m)), some (mI (nI i + 1)), some (mI (wtr σ (m - 1) i)), some (mI (wtr σ m i))] [] (mput (mput σ 70 0 (cpy (σ 70 0) (kdM σ W H m) i)) 70 0 (upd (cpy (σ 70 0) (kdM σ W H m) i) (nI i).toNatClampNeg v)) := by
        intro v hv
        refine ⟨vp_in_nI (by omega) (by omega), ?_⟩
        rw [hv, nI_cl (by omega), mput_mput, cpy_s, nI_1]
        exact ih (i + 1) (by omega) _ _
      refine And.intro (fun c1 => ?_) (fun c1 => ?_)
      · have c1 := b_t c1
        refine And.intro (fun c2 => And.intro (fun c3 => ?_) (fun c3 => ?_)) (fun c2 => And.intro (fun c3 => ?_) (fun c3 => ?_))
        · refine fin 0 ?_
          replace c2 : wtr σ (m - 1) i = 0 := c2
          replace c3 : wtr σ m i = 0 := c3
          unfold kdM kdF
          rw [ifp_t c1, if_pos c2, if_pos c3]
        · refine fin 1 ?_
          replace c2 : wtr σ (m - 1) i = 0 := c2
          replace c3 : ¬ wtr σ m i = 0 := c3
          unfold kdM kdF
          rw [ifp_t c1, if_pos c2, if_neg c3]
        · refine fin 2 ?_
          replace c2 : ¬ wtr σ (m - 1) i = 0 := c2
          replace c3 : wtr σ m i = 0 := c3
          unfold kdM kdF
          rw [ifp_t c1, if_neg c2, if_pos c3]
        · refine fin 3 ?_
          replace c2 : ¬ wtr σ (m - 1) i = 0 := c2
          replace c3 : ¬ wtr σ m i = 0 := c3
          unfold kdM kdF
          rw [ifp_t c1, if_neg c2, if_neg c3]
      · refine fin (-1) ?_
        unfold kdM kdF
        rw [ifp_f (b_f c1)]
  have h5 := key 144 0 (by omega) none none
  rw [cpy_0, mput_self] at h5
  exact h5
/-- the difference of two numbers -/
def df (a b : Nat) : Nat := (a - b) + (b - a)
def awF (c d : Nat) : Nat := df (c % 12) (d % 12) + df (c / 12) (d / 12)
def apF (c d : Nat) : Nat := max (df (c % 12) (d % 12)) (df (c / 12) (d / 12))
theorem abs_df {a b : Nat} (ha : a < 2 ^ 30) (hb : b < 2 ^ 30) : (if 0 ≤ nI a - nI b then nI a - nI b else 0 - (nI a - nI b)) = nI (df a b) := by
  have e := pk_sub_toInt ha hb
  by_cases h : b ≤ a
  · rw [if_pos (by rw [Int32.le_iff_toInt_le, e, Int32.toInt_zero]; omega), pk_sub h]
    congr 1
    unfold df; omega
  · rw [if_neg (by rw [Int32.le_iff_toInt_le, e, Int32.toInt_zero]; omega)]
    have : (0 : Int32) - (nI a - nI b) = nI b - nI a := by
      rw [Int32.zero_sub, Int32.neg_sub]
    rw [this, pk_sub (by omega)]
    congr 1
    unfold df; omega
theorem max_nI {a b : Nat} (ha : a < 2 ^ 31) (hb : b < 2 ^ 31) : (if nI a < nI b then nI b else nI a) = nI (max a b) := by
  by_cases h : a < b
  · rw [if_pos (nI_lt h hb), Nat.max_eq_right (by omega)]
  · rw [if_neg (nI_nlt (by omega) ha), Nat.max_eq_left (by omega)]
theorem min_nI {a b : Nat} (ha : a < 2 ^ 31) (hb : b < 2 ^ 31) : (if nI b < nI a then nI b else nI a) = nI (min a b) := by
  by_cases h : b < a
  · rw [if_pos (nI_lt h ha), Nat.min_eq_right (by omega)]
  · rw [if_neg (nI_nlt (by omega) hb), Nat.min_eq_left (by omega)]
theorem df_lt {a b n : Nat} (ha : a < n) (hb : b < n) : df a b < n := by unfold df; omega
theorem ev_apart (σ : mS) {c d : Nat} (hc : c < 144) (hd : d < 144) : Ev kX8_apart [mI (nI c), mI (nI d)] σ (fun r s => r = some (mI (nI (apF c d))) ∧ s = σ) := by
  refine Ev.intro fun G hG => hG.run ?_
  refine And.intro (by decide) (And.intro (by decide) (And.intro (by decide) (And.intro (by decide) ?_)))
  have h1 := df_lt (n := 144) (a := c % 12) (b := d % 12) (by omega) (by omega)
  have h2 := df_lt (n := 144) (a := c / 12) (b := d / 12) (by omega) (by omega)
  have e1 := abs_df (a := c % 12) (b := d % 12) (by omega) (by omega)
  have e2 := abs_df (a := c / 12) (b := d / 12) (by omega) (by omega)
  rw [← rem12 (a := c) (by omega), ← rem12 (a := d) (by omega)] at e1
  rw [← div12 (a := c) (by omega), ← div12 (a := d) (by omega)] at e2
  have e3 := max_nI (a := df (c % 12) (d % 12)) (b := df (c / 12) (d / 12)) (by omega) (by omega)
  rw [← e1, ← e2] at e3
  exact ⟨congrArg (fun z => some (mI z)) e3, rfl⟩
theorem ev_away (σ : mS) {c d : Nat} (hc : c < 144) (hd : d < 144) : Ev kX8_away [mI (nI c), mI (nI d)] σ (fun r s => r = some (mI (nI (awF c d))) ∧ s = σ) := by
  refine Ev.intro fun G hG => hG.run ?_
  refine And.intro (by decide) (And.intro (by decide) (And.intro (by decide) (And.intro (by decide) ?_)))
  have e1 := abs_df (a := c % 12) (b := d % 12) (by omega) (by omega)
  have e2 := abs_df (a := c / 12) (b := d / 12) (by omega) (by omega)
  rw [← rem12 (a := c) (by omega), ← rem12 (a := d) (by omega)] at e1
  rw [← div12 (a := c) (by omega), ← div12 (a := d) (by omega)] at e2
  have e3 := nI_add (df (c % 12) (d % 12)) (df (c / 12) (d / 12))
  rw [← e1, ← e2] at e3
  exact ⟨congrArg (fun z => some (mI z)) e3, rfl⟩
theorem awF_le {c d : Nat} (hc : c < 144) (hd : d < 144) : awF c d ≤ 22 := by unfold awF df; omega
theorem apF_le {c d : Nat} (hc : c < 144) (hd : d < 144) : apF c d ≤ 11 := by unfold apF df; omega
/-- how many cells are of a kind -/
def kcF (kd : Nat → Int32) (its : Int32) (n : Nat) : Int32 := fo (fun c acc => acc + (if kd c = its then 1 else 0)) 0 n
theorem ev_kindsOf (σ : mS) (its : Int32) : Ev kX8_kindsOf [mM, mI its] σ (fun r s => r = some (mI (kcF (σ 70 0) its 144)) ∧ s = σ) := by
  refine Ev.intro fun G hG => hG.run ?_
  have key := loop_up (G := G) 4 144 (fun i => [some mM, some (mI its), some (mI (kcF (σ 70 0) its i)), some (mI (nI i))]) (fun _ => σ) ?_ ?_ 0 (by omega)
  · exact key
  · intro i hi ih
    refine hG.run (br_f (nI_ge (b := 144) hi (by decide)) ?_)
    refine And.intro (vp_in_nI (by omega) (by omega)) ?_
    rw [nI_cl (by omega)]
    have e : kcF (σ 70 0) its (i + 1) = kcF (σ 70 0) its i + (if σ 70 0 i = its then 1 else 0) := rfl
    rw [e, ← nI_1] at ih
    refine And.intro (fun c => ?_) (fun c => ?_)
    · replace c : ¬ σ 70 0 i = its := c
      rw [if_neg c] at ih
      exact ih
    · replace c : σ 70 0 i = its := c
      rw [if_pos c] at ih
      exact ih
  · exact hG.run (br_t (Int32.le_refl _) ⟨rfl, rfl⟩)
