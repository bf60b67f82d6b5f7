/-! CLASS: laws, land, counts -/
theorem ev_xlaw (σ : mS) {ln : Nat} (hm : σ 22 0 0 = nI ln) (h1 : ln ≤ 20) (year sl su is : Int32) (post : Option mV → mS → Prop)
    (hbad : ¬ (vp_in year 201 ∧ (0 ≤ sl ∧ sl ≤ 1) ∧ (0 ≤ su ∧ su ≤ 1) ∧ (0 ≤ is ∧ is ≤ 2) ∧ ln < 20) → post (some (mI (-1))) σ)
    (hgo : (vp_in year 201 ∧ (0 ≤ sl ∧ sl ≤ 1) ∧ (0 ≤ su ∧ su ≤ 1) ∧ (0 ≤ is ∧ is ≤ 2) ∧ ln < 20) → post (some (mI (nI (ln + 1)))) (lawX σ ln year sl su is)) : Ev kX7_law [xX, mI year, mI sl, mI su, mI is] σ post := by
  refine Ev.intro fun G hG => hG.run ?_
  refine call_of (ev_isBetween σ sl 0 1) ?_
  refine And.intro (fun c1 => ?_) (fun c1 => ?_)
  · have hb := hbad (fun q => b_f c1 q.2.1)
    refine call_of (ev_xYear σ year) ?_
    exact And.intro (fun _ => hb) (fun _ => br_t rfl hb)
  have c1 := b_t c1
  refine call_of (ev_isBetween σ su 0 1) ?_
  refine And.intro (fun c2 => ?_) (fun c2 => ?_)
  · have hb := hbad (fun q => b_f c2 q.2.2.1)
    refine call_of (ev_xYear σ year) ?_
    exact And.intro (fun _ => hb) (fun _ => br_t rfl hb)
  have c2 := b_t c2
  refine call_of (ev_isBetween σ is 0 2) ?_
  refine And.intro (fun c3 => ?_) (fun c3 => ?_)
  · have hb := hbad (fun q => b_f c3 q.2.2.2.1)
    refine call_of (ev_xYear σ year) ?_
    exact And.intro (fun _ => hb) (fun _ => br_t rfl hb)
  have c3 := b_t c3
  refine call_of (ev_xYear σ year) ?_
  refine And.intro (fun c4 => hbad (fun q => b_f c4 q.1)) (fun c4 => ?_)
  have c4 := b_t c4
  refine br_f (by decide) ?_
  refine call_of (ev_lFull σ hm h1) ?_
  refine And.intro (fun c5 => ?_) (fun c5 => hbad (fun q => b_t c5 q.2.2.2.2))
  have c5 : ln < 20 := Classical.not_not.mp (b_f c5)
  exact call_of (ev_lAdd σ year sl su is hm c5) (hgo ⟨c4, c1, c2, c3, c5⟩)
noncomputable def landX (σ : mS) (W H : Nat) : mS :=
  mput (mput (mput (mput (layS σ W H) 7 0 (upd (σ 7 0) 4 0)) 9 0 (fil (σ 9 0) 0 144)) 13 0 (upd (σ 13 0) 0 0)) 28 0 (fil (σ 28 0) (-1) 144)
theorem ev_xland (σ : mS) (w h : Int32) (post : Option mV → mS → Prop)
    (hbad : ¬ ((1 ≤ w ∧ w ≤ 12) ∧ (1 ≤ h ∧ h ≤ 12)) → post (some (mI 0)) σ)
    (hgo : ∀ W H, 0 < W → W ≤ 12 → 0 < H → H ≤ 12 → w = nI W → h = nI H → post (some (mI 1)) (landX σ W H)) : Ev kX7_land [xX, mI w, mI h] σ post := by
  refine Ev.intro fun G hG => hG.run ?_
  refine And.intro (fun c1 => hbad (fun q => not_le_of c1 q.1.1)) (fun c1 => ?_)
  refine And.intro (fun c2 => hbad (fun q => not_le_of c2 q.1.2)) (fun c2 => ?_)
  refine And.intro (fun c3 => hbad (fun q => not_le_of c3 q.2.1)) (fun c3 => ?_)
  refine And.intro (fun c4 => ?_) (fun c4 => hbad (fun q => c4 q.2.2))
  replace c1 : ¬ w < 1 := c1
  replace c2 : ¬ 12 < w := c2
  replace c3 : ¬ h < 1 := c3
  replace c4 : h ≤ 12 := c4
  have nat : ∀ v : Int32, 1 ≤ v → v ≤ 12 → ∃ V, 0 < V ∧ V ≤ 12 ∧ v = nI V := by
    intro v a b
    rw [Int32.le_iff_toInt_le] at a b
    have t1 : (1 : Int32).toInt = 1 := by decide
    have t2 : (12 : Int32).toInt = 12 := by decide
    have : vp_in v 13 := by rw [vp_in_iff]; omega
    obtain ⟨V, h1, h2⟩ := (vp_nI (by omega)).mp this
    refine ⟨V, ?_, by omega, h2⟩
    rw [h2, nI_toInt (by omega)] at a
    omega
  obtain ⟨W, hW0, hW1, rfl⟩ := nat w (Int32.not_lt.mp c1) (Int32.not_lt.mp c2)
  obtain ⟨H, hH0, hH1, rfl⟩ := nat h (Int32.not_lt.mp c3) c4
  refine call_of (ev_lay σ hW0 hW1 hH1) ?_
  refine call_of (ev_aClear (layS σ W H)) ?_
  refine call_of (ev_dClear _) ?_
  refine call_of (ev_forgetFirst _) ?_
  exact hgo W H hW0 hW1 hH0 hH1 rfl rfl
def cntX (σ : mS) (j : Nat) : Int32 := match j with
  | 0 => σ 1 0 0
  | 1 => σ 1 0 1
  | 2 => σ 7 0 4
  | 3 => σ 13 0 0
  | 4 => bindN (σ 20 0) (σ 13 0 0).toNatClampNeg
  | 5 => σ 22 0 0
  | 6 => σ 7 0 5
  | _ => σ 0 0 7
theorem ev_xcount (σ : mS) (w : Int32) {dn : Nat} (hm : σ 13 0 0 = nI dn) (h3 : dn ≤ 30) (post : Option mV → mS → Prop)
    (hbad : ¬ vp_in w 8 → post (some (mI (-1))) σ) (hgo : ∀ j, j < 8 → w = nI j → post (some (mI (cntX σ j))) σ) : Ev kX7_count [xX, mI w] σ post := by
  refine Ev.intro fun G hG => hG.run ?_
  refine And.intro (fun c => ⟨?_, by decide⟩) (fun n off ho hx => ?_)
  · exact hbad (fun q => by rw [vp_in_iff] at q; omega)
  · have hn : n < 8 := by
      rcases Nat.lt_or_ge n 8 with q | q
      · exact q
      · rw [Array.getElem?_eq_none (by simpa using q)] at ho; cases ho
    have hg := hgo n hn (toInt_nat hx (by omega))
    match n, hn, ho, hg with
    | 0, _, ho, hg => cases ho; exact ⟨hg, by decide⟩
    | 1, _, ho, hg => cases ho; exact ⟨hg, by decide⟩
    | 2, _, ho, hg => cases ho; exact ⟨hg, by decide⟩
    | 3, _, ho, hg => cases ho; exact ⟨hg, by decide⟩
    | 4, _, ho, hg =>
      cases ho
      have hg : post (some (mI (bindN (σ 20 0) (σ 13 0 0).toNatClampNeg))) σ := hg
      rw [hm, nI_cl (by omega)] at hg
      exact ⟨call_of (ev_notStruck σ hm h3) hg, by decide⟩
    | 5, _, ho, hg => cases ho; exact ⟨hg, by decide⟩
    | 6, _, ho, hg => cases ho; exact ⟨hg, by decide⟩
    | 7, _, ho, hg => cases ho; exact ⟨hg, by decide⟩
    | n + 8, hn, _, _ => exact absurd hn (by omega)
