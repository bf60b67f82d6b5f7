/-! THE REFERENCE: sheet, map, boxes -/
theorem lt_of_nle {a b : Nat} (h : ¬ nI a ≤ nI b) (hb : b < 2 ^ 31) : b < a := by
  rcases Nat.lt_or_ge b a with q | q
  · exact q
  · exact absurd (nI_le q hb) h
theorem le_of_le {a b : Nat} (h : nI a ≤ nI b) (ha : a < 2 ^ 31) : a ≤ b := by
  rcases Nat.lt_or_ge b a with q | q
  · exact absurd h (nI_ge q ha)
  · exact q
/-- entry k of a sheet -/
def entK (kind f st : Int32) (k : Nat) : Int32 := if kind = 0 then (f + nI k * st) &&& 255 else f + nI k * st
noncomputable def sheetS (σ : mS) (mp Y : Nat) (kind f st : Int32) (W n : Nat) : mS := fo (fun k s => rowS s mp (Y + k) (entK kind f st k) W) σ n
theorem sheetS_40 (σ : mS) (mp Y : Nat) (kind f st : Int32) (W : Nat) : ∀ n, sheetS σ mp Y kind f st W n 40 = σ 40
  | 0 => rfl
  | n + 1 => by
    show rowS (sheetS σ mp Y kind f st W n) mp (Y + n) (entK kind f st n) W 40 = σ 40
    unfold rowS
    rw [mput_ng _ _ _ _ (by decide), sheetS_40 σ mp Y kind f st W n]
theorem nI_ss (f st : Int32) (k : Nat) : f + nI k * st + st = f + nI (k + 1) * st := by
  rw [nI_succ, Int32.add_mul, Int32.one_mul, Int32.add_assoc]
theorem ev_sheet (σ : mS) (y kind n f st : Int32) {W H mp : Nat} (hW : σ 40 0 1 = nI W) (h2 : W ≤ 12) (hH : σ 40 0 2 = nI H) (h0 : 0 < H) (h4 : H ≤ 12) (hm : σ 40 0 3 = nI mp) (h3 : mp ≤ 10) (post : Option mV → mS → Prop)
    (hbad : ¬ (vp_in y H ∧ (0 ≤ kind ∧ kind ≤ 2) ∧ n ≤ 20 ∧ mp < 10) → post (some (mI (-1))) (th0 σ))
    (hmis : (vp_in y H ∧ (0 ≤ kind ∧ kind ≤ 2) ∧ n ≤ 20 ∧ mp < 10) → kind = 2 → post (some (mI 0)) (th0 σ))
    (hneg : (vp_in y H ∧ (0 ≤ kind ∧ kind ≤ 2) ∧ n ≤ 20 ∧ mp < 10) → ¬ kind = 2 → ¬ 0 ≤ n → post (some (mI (-2))) (th0 σ))
    (hgo : (vp_in y H ∧ (0 ≤ kind ∧ kind ≤ 2) ∧ n ≤ 20 ∧ mp < 10) → ¬ kind = 2 → ∀ Y N, Y < H → y = nI Y → N ≤ 20 → n = nI N → post (some (mI (nI (min N (H - Y))))) (sheetS (th0 σ) mp Y kind f st W (min N (H - Y)))) :
    Ev kX8_sheet [mM, mI y, mI kind, mI n, mI f, mI st] σ post := by
  refine Ev.intro fun G hG => hG.run ?_
  refine call_of (ev_inI _ y 0 (σ 40 0 2 - 1)) ?_
  rw [hH, b2i_c (in_iff h0 (by omega))]
  refine And.intro (fun c1 => hbad (fun q => b_f c1 q.1)) (fun c1 => ?_)
  have c1 := b_t c1
  refine call_of (ev_inI _ kind 0 2) ?_
  refine And.intro (fun c2 => hbad (fun q => b_f c2 q.2.1)) (fun c2 => ?_)
  have c2 := b_t c2
  refine And.intro (fun c3 => hbad (fun q => not_le_of c3 q.2.2.1)) (fun c3 => ?_)
  have c3 : n ≤ 20 := Int32.not_lt.mp c3
  refine And.intro (fun c4 => ?_) (fun c4 => ?_)
  · replace c4 : ¬ σ 40 0 3 = 10 := c4
    have c5 : mp < 10 := by
      rcases Nat.lt_or_ge mp 10 with q | q
      · exact q
      · exact absurd (by rw [hm, show mp = 10 by omega]; rfl) c4
    have hok : vp_in y H ∧ (0 ≤ kind ∧ kind ≤ 2) ∧ n ≤ 20 ∧ mp < 10 := ⟨c1, c2, c3, c5⟩
    refine And.intro (fun c6 => ?_) (fun c6 => hmis hok c6)
    refine And.intro (fun c7 => ?_) (fun c7 => hneg hok c6 c7)
    obtain ⟨Y, hY, rfl⟩ := (vp_nI (by omega)).mp c1
    obtain ⟨N, hN, rfl⟩ : ∃ N, N ≤ 20 ∧ n = nI N := by
      obtain ⟨N, h1, h2⟩ := nI_of (x := n) (by rw [Int32.not_lt]; exact c7)
      refine ⟨N, ?_, h2⟩
      rw [h2] at c3
      exact le_of_le (b := 20) c3 h1
    have hmin : (if σ 40 0 2 - nI Y < nI N then σ 40 0 2 - nI Y else nI N) = nI (min N (H - Y)) := by
      rw [hH, pk_sub (by omega)]
      rcases Nat.lt_or_ge (H - Y) N with q | q
      · rw [if_pos (nI_lt q (by omega)), Nat.min_eq_right (by omega)]
      · rw [if_neg (nI_nlt q (by omega)), Nat.min_eq_left (by omega)]
    have hgo := hgo hok c6 Y N hY rfl hN rfl
    generalize hM : min N (H - Y) = M at hmin hgo
    have hMH : Y + M ≤ H := by omega
    have key : ∀ m k, k + m = M → ∀ z : Option mV, G 83 [some mM, some (mI (nI Y)), some (mI kind), some (mI (nI N)), some (mI f), some (mI st), some (mI (nI M)), some (mI (f + nI k * st)), some (mI (nI k)), z] [] (sheetS (th0 σ) mp Y kind f st W k) := by
      intro m
      induction m with
      | zero =>
        intro k hk z
        have : k = M := by omega
        subst this
        exact hG.run (br_t (Int32.le_refl _) hgo)
      | succ m ih =>
        intro k hk z
        refine hG.run (br_f (nI_ge (by omega) (by omega)) ?_)
        have hS : sheetS (th0 σ) mp Y kind f st W k 40 = th0 σ 40 := sheetS_40 _ _ _ _ _ _ _ _
        have hrow := ev_rowOf (sheetS (th0 σ) mp Y kind f st W k) (Y + k) (entK kind f st k) (W := W) (mp := mp) (by rw [hS]; exact hW) h2 (by rw [hS]; exact hm) h3 (by omega)
        refine And.intro (fun c8 => ?_) (fun c8 => ?_)
        · have he : entK kind f st k = f + nI k * st := if_neg c8
          rw [he] at hrow
          refine call_of (k := kX8_rowOf) (a := [mM, mI (nI Y + nI k), mI (f + nI k * st)]) (by rw [nI_add]; exact hrow) ?_
          have h5 := ih (k + 1) (by omega) (some (mI (rowN (f + nI k * st) W)))
          rw [← nI_ss, ← nI_1] at h5
          rw [show sheetS (th0 σ) mp Y kind f st W (k + 1) = rowS (sheetS (th0 σ) mp Y kind f st W k) mp (Y + k) (entK kind f st k) W from rfl, he] at h5
          exact h5
        · have he : entK kind f st k = (f + nI k * st) &&& 255 := if_pos c8
          rw [he] at hrow
          refine call_of (k := kX8_rowOf) (a := [mM, mI (nI Y + nI k), mI ((f + nI k * st) &&& 255)]) (by rw [nI_add]; exact hrow) ?_
          have h5 := ih (k + 1) (by omega) (some (mI (rowN ((f + nI k * st) &&& 255) W)))
          rw [← nI_ss, ← nI_1] at h5
          rw [show sheetS (th0 σ) mp Y kind f st W (k + 1) = rowS (sheetS (th0 σ) mp Y kind f st W k) mp (Y + k) (entK kind f st k) W from rfl, he] at h5
          exact h5
    have h5 := key M 0 (by omega) none
    rw [nI_0, Int32.zero_mul, Int32.add_zero] at h5
    have h6 : G 83 [some mM, some (mI (nI Y)), some (mI kind), some (mI (nI N)), some (mI f), some (mI st), some (mI (if σ 40 0 2 - nI Y < nI N then σ 40 0 2 - nI Y else nI N)), some (mI f), some (mI 0), none] [] (th0 σ) := by rw [hmin]; exact h5
    exact h6
  · replace c4 : σ 40 0 3 = 10 := c4
    refine hbad (fun q => ?_)
    rw [hm] at c4
    exact absurd ((nI_eq (b := 10) (by omega) (by omega)).mp c4) (by omega)
/-- the water of map m + 1 becomes that of map m -/
def mapW (f : Nat → Int32) (mp n : Nat) : Nat → Int32 := fun j => if 144 * (mp + 1) ≤ j ∧ j < 144 * (mp + 1) + n then f (j - 144) else f j
theorem mapW_0 (f : Nat → Int32) (mp : Nat) : mapW f mp 0 = f := by
  funext j
  exact if_neg (by omega)
theorem mapW_s {f : Nat → Int32} {mp n : Nat} (hn : n < 144) (hb : ∀ j, f j &&& 1 = f j) : upd (mapW f mp n) (144 * (mp + 1) + n) (mapW f mp n (144 * mp + n) &&& 1) = mapW f mp (n + 1) := by
  have e : mapW f mp n (144 * mp + n) = f (144 * mp + n) := if_neg (by omega)
  rw [e, hb]
  funext j
  unfold upd mapW
  by_cases h1 : j = 144 * (mp + 1) + n
  · subst h1
    rw [if_pos rfl, if_pos (by omega), show 144 * (mp + 1) + n - 144 = 144 * mp + n by omega]
  · by_cases h2 : 144 * (mp + 1) ≤ j ∧ j < 144 * (mp + 1) + n
    · rw [if_neg h1, if_pos h2, if_pos (by omega)]
    · rw [if_neg h1, if_neg h2, if_neg (by omega)]
def mapS (σ : mS) (mp : Nat) (year : Int32) : mS := mput (mput (mput σ 54 0 (upd (σ 54 0) mp year)) 55 0 (mapW (σ 55 0) mp 144)) 40 0 (upd (σ 40 0) 3 (nI (mp + 1)))
theorem ev_map (σ : mS) (year : Int32) {mp : Nat} (hm : σ 40 0 3 = nI mp) (h3 : mp ≤ 10) (hb : ∀ j, σ 55 0 j &&& 1 = σ 55 0 j) (post : Option mV → mS → Prop)
    (hbad : ¬ (vp_in year 201 ∧ mp < 10 ∧ (0 < mp → σ 54 0 (mp - 1) < year)) → post (some (mI (-1))) (th0 σ))
    (hgo : (vp_in year 201 ∧ mp < 10 ∧ (0 < mp → σ 54 0 (mp - 1) < year)) → post (some (mI (nI mp))) (mapS (th0 σ) mp year)) : Ev kX8_map [mM, mI year] σ post := by
  refine Ev.intro fun G hG => hG.run ?_
  refine call_of (ev_isYear _ year) ?_
  refine And.intro (fun c1 => hbad (fun q => b_f c1 q.1)) (fun c1 => ?_)
  have c1 := b_t c1
  refine And.intro (fun c2 => ?_) (fun c2 => ?_)
  · replace c2 : σ 40 0 3 = 10 := c2
    rw [hm] at c2
    refine hbad (fun q => ?_)
    exact absurd ((nI_eq (b := 10) (by omega) (by omega)).mp c2) (by omega)
  · replace c2 : ¬ σ 40 0 3 = 10 := c2
    have c3 : mp < 10 := by
      rcases Nat.lt_or_ge mp 10 with q | q
      · exact q
      · exact absurd (by rw [hm, show mp = 10 by omega]; rfl) c2
    have fin : (0 < mp → σ 54 0 (mp - 1) < year) → (vp_in (σ 40 0 3) 10 ∧ G 57 [some mM, some (mI year), some (mI 0)] [] (mput (th0 σ) 54 0 (upd (σ 54 0) (σ 40 0 3).toNatClampNeg year))) := by
      intro c5
      rw [hm]
      refine ⟨vp_in_nI c3 (by omega), ?_⟩
      rw [nI_cl (by omega)]
      have key := loop_up (G := G) 57 144 (fun i => [some mM, some (mI year), some (mI (nI i))]) (fun i => mput (mput (th0 σ) 54 0 (upd (σ 54 0) mp year)) 55 0 (mapW (σ 55 0) mp i)) ?_ ?_ 0 (by omega)
      · rw [mapW_0] at key
        rw [show σ 55 0 = mput (th0 σ) 54 0 (upd (σ 54 0) mp year) 55 0 from rfl, mput_self] at key
        exact key
      · intro i hi ih
        refine hG.run (br_f (nI_ge (b := 144) hi (by decide)) ?_)
        have e1 : (144 : Int32) * σ 40 0 3 + nI i = nI (144 * mp + i) := by rw [hm, idx2]
        have e2 : (144 : Int32) * (σ 40 0 3 + 1) + nI i = nI (144 * (mp + 1) + i) := by rw [hm, nI_1, idx2]
        refine And.intro ?_ (And.intro ?_ ?_)
        · show vp_in ((144 : Int32) * σ 40 0 3 + nI i) 1584
          rw [e1]; exact vp_in_nI (by omega) (by omega)
        · show vp_in ((144 : Int32) * (σ 40 0 3 + 1) + nI i) 1584
          rw [e2]; exact vp_in_nI (by omega) (by omega)
        · show G 57 [some mM, some (mI year), some (mI (nI i + 1))] [] (mput (mput (mput (th0 σ) 54 0 (upd (σ 54 0) mp year)) 55 0 (mapW (σ 55 0) mp i)) 55 0 (upd (mapW (σ 55 0) mp i) ((144 : Int32) * (σ 40 0 3 + 1) + nI i).toNatClampNeg (mapW (σ 55 0) mp i ((144 : Int32) * σ 40 0 3 + nI i).toNatClampNeg &&& 1)))
          rw [e1, e2, nI_cl (by omega), nI_cl (by omega), mput_mput, mapW_s hi hb, nI_1]
          exact ih
      · refine hG.run (br_t (Int32.le_refl _) ?_)
        have hgo := hgo ⟨c1, c3, c5⟩
        have e3 : σ 40 0 3 + 1 = nI (mp + 1) := by rw [hm, nI_1]
        show post (some (mI (upd (th0 σ 40 0) 3 (σ 40 0 3 + 1) 3 - 1))) (mput (mput (mput (th0 σ) 54 0 (upd (σ 54 0) mp year)) 55 0 (mapW (σ 55 0) mp 144)) 40 0 (upd (th0 σ 40 0) 3 (σ 40 0 3 + 1)))
        rw [upd_eq, e3, nI_pred]
        exact hgo
    refine And.intro (fun c4 => ?_) (fun c4 => ?_)
    · replace c4 : σ 40 0 3 ≤ 0 := c4
      rw [hm] at c4
      have c5 : mp = 0 := by
        have := le_of_le (b := 0) c4 (by omega)
        omega
      exact fin (fun q => absurd q (by omega))
    · replace c4 : ¬ σ 40 0 3 ≤ 0 := c4
      rw [hm] at c4
      have c5 : 0 < mp := lt_of_nle (b := 0) c4 (by omega)
      have e4 : σ 40 0 3 - 1 = nI (mp - 1) := by rw [hm, nI_m1 c5]
      refine And.intro ?_ ?_
      · show vp_in (σ 40 0 3 - 1) 10
        rw [e4]; exact vp_in_nI (by omega) (by omega)
      · refine And.intro (fun c6 => ?_) (fun c6 => ?_)
        · replace c6 : σ 54 0 (σ 40 0 3 - 1).toNatClampNeg < year := c6
          rw [e4, nI_cl (by omega)] at c6
          exact fin (fun _ => c6)
        · replace c6 : ¬ σ 54 0 (σ 40 0 3 - 1).toNatClampNeg < year := c6
          rw [e4, nI_cl (by omega)] at c6
          exact hbad (fun q => c6 (q.2.2 c5))
def boxP (x y x2 y2 : Int32) (W H : Nat) : Prop := (vp_in x W ∧ vp_in y H) ∧ (vp_in x2 W ∧ vp_in y2 H) ∧ x ≤ x2 ∧ y ≤ y2
theorem ev_isBox (σ : mS) (x y x2 y2 : Int32) {W H : Nat} (hW : σ 40 0 1 = nI W) (h1 : 0 < W) (h2 : W ≤ 12) (hH : σ 40 0 2 = nI H) (h3 : 0 < H) (h4 : H ≤ 12) : Ev kX8_isBox [mM, mI x, mI y, mI x2, mI y2] σ (fun r s => r = some (mI (b2i (boxP x y x2 y2 W H))) ∧ s = σ) := by
  refine Ev.intro fun G hG => hG.run ?_
  have no : ¬ boxP x y x2 y2 W H → (some (mI ((0 : Int32) &&& 1)) : Option mV) = some (mI (b2i (boxP x y x2 y2 W H))) ∧ σ = σ := fun q => ⟨by rw [b2i_f q]; rfl, rfl⟩
  refine call_of (ev_isCell σ x y hW h1 h2 hH h3 h4) ?_
  refine And.intro (fun c1 => no (fun q => b_f c1 q.1)) (fun c1 => ?_)
  refine call_of (ev_isCell σ x2 y2 hW h1 h2 hH h3 h4) ?_
  refine And.intro (fun c2 => no (fun q => b_f c2 q.2.1)) (fun c2 => ?_)
  refine And.intro (fun c3 => no (fun q => not_le_of c3 q.2.2.1)) (fun c3 => ?_)
  refine And.intro (fun c4 => no (fun q => not_le_of c4 q.2.2.2)) (fun c4 => ?_)
  refine ⟨?_, rfl⟩
  rw [b2i_t (P := boxP x y x2 y2 W H) ⟨b_t c1, b_t c2, Int32.not_lt.mp c3, Int32.not_lt.mp c4⟩]
  rfl
