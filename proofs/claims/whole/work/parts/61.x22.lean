/-! CLASS: what is told -/
theorem ev_xwater (σ : mS) {W H mp : Nat} (I : GR σ W H) (hm : σ 7 0 4 = nI mp) (hmp : mp ≤ 10) (y bits : Int32) (post : Option mV → mS → Prop)
    (hbad : ¬ (vp_in y H ∧ mp < 10) → post (some (mI (-1))) σ) (hgo : ∀ Y, Y < H → y = nI Y → mp < 10 → post (some (mI (rowN bits W))) (mput σ 9 0 (rowW (σ 9 0) (Y * W) bits W))) : Ev kX7_water [xX, mI y, mI bits] σ post := by
  refine Ev.intro fun G hG => hG.run ?_
  refine call_of (ev_hasLine σ y I.2.1.1 I.2.1.2.2) ?_
  refine And.intro (fun c1 => hbad (fun q => b_f c1 q.1)) (fun c1 => ?_)
  obtain ⟨Y, hY, rfl⟩ := (vp_nI (by have := I.2.1.2.2; omega)).mp (b_t c1)
  refine call_of (ev_aFull σ hm hmp) ?_
  refine And.intro (fun c2 => ?_) (fun c2 => hbad (fun q => b_t c2 q.2))
  have c2 : mp < 10 := Classical.not_not.mp (b_f c2)
  exact call_of (ev_draftLine σ Y bits I.1.1 I.1.2.2 I.2.1.2.2 hY) (hgo Y hY rfl c2)
noncomputable def sheetX (σ : mS) (Y : Nat) (kind f st : Int32) (W n : Nat) : mS := fo (fun k s => mput s 9 0 (rowW (s 9 0) ((Y + k) * W) (entK kind f st k) W)) σ n
theorem sheetX_g (σ : mS) (Y : Nat) (kind f st : Int32) (W : Nat) : ∀ n g i, g ≠ 9 → sheetX σ Y kind f st W n g i = σ g i
  | 0, _, _, _ => rfl
  | n + 1, g, i, h => by
    show mput (sheetX σ Y kind f st W n) 9 0 _ g i = _
    rw [mput_ng _ _ _ _ h, sheetX_g σ Y kind f st W n g i h]
theorem ev_xsheet (σ : mS) {W H mp : Nat} (I : GR σ W H) (hm : σ 7 0 4 = nI mp) (hmp : mp ≤ 10) (y kind n f st : Int32) (post : Option mV → mS → Prop)
    (hbad : ¬ (vp_in y H ∧ (0 ≤ kind ∧ kind ≤ 2) ∧ n ≤ 20 ∧ mp < 10) → post (some (mI (-1))) σ)
    (hmis : (vp_in y H ∧ (0 ≤ kind ∧ kind ≤ 2) ∧ n ≤ 20 ∧ mp < 10) → kind = 2 → post (some (mI 0)) σ)
    (hneg : (vp_in y H ∧ (0 ≤ kind ∧ kind ≤ 2) ∧ n ≤ 20 ∧ mp < 10) → ¬ kind = 2 → ¬ 0 ≤ n → post (some (mI (-2))) σ)
    (hgo : (vp_in y H ∧ (0 ≤ kind ∧ kind ≤ 2) ∧ n ≤ 20 ∧ mp < 10) → ¬ kind = 2 → ∀ Y N, Y < H → y = nI Y → N ≤ 20 → n = nI N → post (some (mI (nI (min N (H - Y))))) (sheetX σ Y kind f st W (min N (H - Y)))) :
    Ev kX7_sheet [xX, mI y, mI kind, mI n, mI f, mI st] σ post := by
  refine Ev.intro fun G hG => hG.run ?_
  have main : (0 ≤ kind ∧ kind ≤ 2) → ∃ po : Option mV → mS → Prop, Ev kX2_hasLine [xG, mI y] σ po ∧ ∀ r s, po r s → (r = some (mI (b2i (vp_in y H))) ∧ s = σ) := fun _ => ⟨_, ev_hasLine σ y I.2.1.1 I.2.1.2.2, fun r s h => h⟩
  refine And.intro (fun c1 => ?_) (fun c1 => And.intro (fun c2 => ?_) (fun c2 => ?_))
  · replace c1 : kind < 0 := c1
    refine call_of (ev_hasLine σ y I.2.1.1 I.2.1.2.2) ?_
    have hb := hbad (fun q => not_le_of c1 q.2.1.1)
    exact And.intro (fun _ => hb) (fun _ => br_t rfl hb)
  · replace c2 : 2 < kind := c2
    refine call_of (ev_hasLine σ y I.2.1.1 I.2.1.2.2) ?_
    have hb := hbad (fun q => not_le_of c2 q.2.1.2)
    exact And.intro (fun _ => hb) (fun _ => br_t rfl hb)
  · replace c1 : ¬ kind < 0 := c1
    replace c2 : ¬ 2 < kind := c2
    have hk : 0 ≤ kind ∧ kind ≤ 2 := ⟨Int32.not_lt.mp c1, Int32.not_lt.mp c2⟩
    refine call_of (ev_hasLine σ y I.2.1.1 I.2.1.2.2) ?_
    refine And.intro (fun c3 => hbad (fun q => b_f c3 q.1)) (fun c3 => ?_)
    have c3 := b_t c3
    refine br_f (by decide) ?_
    refine And.intro (fun c4 => hbad (fun q => not_le_of c4 q.2.2.1)) (fun c4 => ?_)
    have c4 : n ≤ 20 := Int32.not_lt.mp c4
    refine call_of (ev_aFull σ hm hmp) ?_
    refine And.intro (fun c5 => ?_) (fun c5 => hbad (fun q => b_t c5 q.2.2.2))
    have c5 : mp < 10 := Classical.not_not.mp (b_f c5)
    have hc : vp_in y H ∧ (0 ≤ kind ∧ kind ≤ 2) ∧ n ≤ 20 ∧ mp < 10 := ⟨c3, hk, c4, c5⟩
    refine And.intro (fun c6 => ?_) (fun c6 => hmis hc c6)
    replace c6 : ¬ kind = 2 := c6
    refine And.intro (fun c7 => ?_) (fun c7 => hneg hc c6 c7)
    replace c7 : 0 ≤ n := c7
    obtain ⟨Y, hY, rfl⟩ := (vp_nI (by have := I.2.1.2.2; omega)).mp c3
    obtain ⟨N, hN, rfl⟩ : ∃ N, N ≤ 20 ∧ n = nI N := by
      have : vp_in n 21 := by
        rw [vp_in_iff]
        rw [Int32.le_iff_toInt_le] at c4 c7
        have : (0 : Int32).toInt = 0 := by decide
        have : (20 : Int32).toInt = 20 := by decide
        omega
      obtain ⟨N, h1, h2⟩ := (vp_nI (by omega)).mp this
      exact ⟨N, by omega, h2⟩
    have hgo := hgo hc c6 Y N hY rfl hN rfl
    have hHle := I.2.1.2.2
    have e1 : σ 1 0 1 - nI Y = nI (H - Y) := by rw [I.2.1.1, pk_sub (by omega)]
    have loop : ∀ m i, i + m = min N (H - Y) → ∀ z9 : Option mV, G 82 [some xX, some (mI (nI Y)), some (mI kind), some (mI (nI N)), some (mI f), some (mI st), some (mI 1), some (mI (nI (min N (H - Y)))), some (mI (nI i)), z9] [] (sheetX σ Y kind f st W i) := by
      intro m
      induction m with
      | zero =>
        intro i hi z9
        have : i = min N (H - Y) := by omega
        subst this
        exact hG.run (br_t (Int32.le_refl _) hgo)
      | succ m ih =>
        intro i hi z9
        have h5 := ih (i + 1) (by omega)
        rw [← nI_1] at h5
        refine hG.run (br_f (nI_ge (by omega) (by omega)) ?_)
        have hW' : sheetX σ Y kind f st W i 1 0 0 = nI W := by rw [sheetX_g σ Y kind f st W i 1 0 (by decide)]; exact I.1.1
        refine And.intro (fun c8 => ?_) (fun c8 => ?_)
        · replace c8 : ¬ kind = 0 := c8
          have hcall := ev_draftLine (sheetX σ Y kind f st W i) (Y + i) (f + nI i * st) (H := H) hW' I.1.2.2 hHle (by omega)
          rw [← nI_add] at hcall
          have e5 : entK kind f st i = f + nI i * st := if_neg c8
          have h5 : ∀ z9 : Option mV, G 82 [some xX, some (mI (nI Y)), some (mI kind), some (mI (nI N)), some (mI f), some (mI st), some (mI 1), some (mI (nI (min N (H - Y)))), some (mI (nI i + 1)), z9] [] (mput (sheetX σ Y kind f st W i) 9 0 (rowW (sheetX σ Y kind f st W i 9 0) ((Y + i) * W) (entK kind f st i) W)) := h5
          rw [e5] at h5
          exact call_of hcall (h5 _)
        · replace c8 : kind = 0 := c8
          have hcall := ev_draftLine (sheetX σ Y kind f st W i) (Y + i) ((f + nI i * st) &&& 255) (H := H) hW' I.1.2.2 hHle (by omega)
          rw [← nI_add] at hcall
          have e5 : entK kind f st i = (f + nI i * st) &&& 255 := if_pos c8
          have h5 : ∀ z9 : Option mV, G 82 [some xX, some (mI (nI Y)), some (mI kind), some (mI (nI N)), some (mI f), some (mI st), some (mI 1), some (mI (nI (min N (H - Y)))), some (mI (nI i + 1)), z9] [] (mput (sheetX σ Y kind f st W i) 9 0 (rowW (sheetX σ Y kind f st W i 9 0) ((Y + i) * W) (entK kind f st i) W)) := h5
          rw [e5] at h5
          exact call_of hcall (h5 _)
    have h := loop (min N (H - Y)) 0 (by omega) none
    rw [← min_nI (by omega) (by omega), ← e1] at h
    exact h
theorem ev_xmap (σ τ : mS) {W H mp : Nat} {w0 w1 : Nat → Int32} (I : GR σ W H) (hV : LVs σ τ W H mp) (hd : ∀ k, k < W * H → σ 9 0 k = w1 (emb W k)) (hp : ∀ k, k < W * H → 0 < mp → (2 ≤ σ 11 (mp - 1) k ↔ w0 (emb W k) = 0)) (hz : mp = 0 → w0 = w1) (year : Int32) (post : Option mV → mS → Prop)
    (hbad : ¬ (vp_in year 201 ∧ mp < 10 ∧ (0 < mp → τ 54 0 (mp - 1) < year)) → post (some (mI (-1))) σ)
    (hgo : (vp_in year 201 ∧ mp < 10 ∧ (0 < mp → τ 54 0 (mp - 1) < year)) → ∀ s, AQ σ W (W * H) mp (kdF W H w0 w1) year s → post (some (mI (nI mp))) s) : Ev kX7_map [xX, mI year] σ post := by
  have hmp := hV.1.2
  refine Ev.intro fun G hG => hG.run ?_
  refine call_of (ev_xYear σ year) ?_
  refine And.intro (fun c1 => hbad (fun q => b_f c1 q.1)) (fun c1 => ?_)
  have c1 := b_t c1
  refine call_of (ev_aFull σ hV.1.1 hmp) ?_
  refine And.intro (fun c2 => hbad (fun q => b_t c2 q.2.1)) (fun c2 => ?_)
  have c2 : mp < 10 := Classical.not_not.mp (b_f c2)
  refine call_of (ev_latestYear σ hV.1.1 hmp) ?_
  have hiff : (if mp = 0 then -1 else σ 10 (mp - 1) 0) < year ↔ (0 < mp → τ 54 0 (mp - 1) < year) := by
    by_cases h0 : mp = 0
    · rw [if_pos h0]
      refine ⟨fun _ q => absurd q (by omega), fun _ => ?_⟩
      rw [vp_in_iff] at c1
      rw [Int32.lt_iff_toInt_lt]
      have : (-1 : Int32).toInt = -1 := by decide
      omega
    · rw [if_neg h0, (hV.2.2 (mp - 1) (by omega)).2.1]
      exact ⟨fun q _ => q, fun q => q (by omega)⟩
  refine And.intro (fun c3 => ?_) (fun c3 => hbad (fun q => c3 (hiff.mpr q.2.2)))
  refine call_ex (ev_aAdd σ year I hV.1.1 c2 hd hp hz) ?_
  rintro r s ⟨rfl, hA⟩
  exact hgo ⟨c1, c2, hiff.mp c3⟩ s hA
theorem ev_xown (σ : mS) {W H mp : Nat} (I : GR σ W H) (hm : σ 7 0 4 = nI mp) (hmp : mp ≤ 10) (x y x2 y2 o : Int32) (post : Option mV → mS → Prop)
    (hbad : ¬ (boxP x y x2 y2 W H ∧ (-1 ≤ o ∧ o ≤ 9) ∧ mp ≤ 1) → post (some (mI 0)) σ)
    (hgo : (-1 ≤ o ∧ o ≤ 9) → mp ≤ 1 → ∀ X Y X2 Y2, x = nI X → y = nI Y → x2 = nI X2 → y2 = nI Y2 → X ≤ X2 → X2 < W → Y ≤ Y2 → Y2 < H → post (some (mI 1)) (mput σ 28 0 (bxF W X X2 Y (fun _ => True) o (σ 28 0) (Y2 + 1) X))) : Ev kX7_own [xX, mI x, mI y, mI x2, mI y2, mI o] σ post := by
  have hW1 := I.1.2.2
  have hH1 := I.2.1.2.2
  refine Ev.intro fun G hG => hG.run ?_
  refine call_of (ev_hasBox σ x y x2 y2 I.1.1 I.1.2.2 I.2.1.1 I.2.1.2.2) ?_
  refine And.intro (fun c1 => hbad (fun q => b_f c1 q.1)) (fun c1 => ?_)
  have c1 := b_t c1
  refine call_of (ev_isOwnerOrNone σ o) ?_
  refine And.intro (fun c2 => hbad (fun q => b_f c2 q.2.1)) (fun c2 => ?_)
  have c2 := b_t c2
  refine And.intro (fun c3 => ?_) (fun c3 => ?_)
  · replace c3 : σ 7 0 4 ≤ 1 := c3
    rw [hm] at c3
    have c3 : mp ≤ 1 := le_of_le (b := 1) c3 (by omega)
    obtain ⟨⟨d1, d2⟩, ⟨d3, d4⟩, d5, d6⟩ := c1
    obtain ⟨X, hX, rfl⟩ := (vp_nI (by omega)).mp d1
    obtain ⟨Y, hY, rfl⟩ := (vp_nI (by omega)).mp d2
    obtain ⟨X2, hX2, rfl⟩ := (vp_nI (by omega)).mp d3
    obtain ⟨Y2, hY2, rfl⟩ := (vp_nI (by omega)).mp d4
    have hx := le_of_le d5 (by omega)
    have hy := le_of_le d6 (by omega)
    exact call_of (ev_setFirst σ X Y X2 Y2 o I hx hX2 hy hY2) (hgo c2 c3 X Y X2 Y2 rfl rfl rfl rfl hx hX2 hy hY2)
  · replace c3 : ¬ σ 7 0 4 ≤ 1 := c3
    rw [hm] at c3
    exact hbad (fun q => c3 (nI_le (b := 1) q.2.2 (by omega)))
theorem ev_xdeed (σ : mS) {W H dn : Nat} (I : GR σ W H) (hm : σ 13 0 0 = nI dn) (h1 : dn ≤ 30) (hod : ∀ j, j < dn → ∃ d, d < dn ∧ σ 21 0 j = nI d) (x y x2 y2 o year : Int32) (post : Option mV → mS → Prop)
    (hbad : ¬ (boxP x y x2 y2 W H ∧ (0 ≤ o ∧ o ≤ 9) ∧ vp_in year 201 ∧ dn < 30) → post (some (mI (-1))) σ)
    (hgo : (0 ≤ o ∧ o ≤ 9) → vp_in year 201 → dn < 30 → ∀ X Y X2 Y2, x = nI X → y = nI Y → x2 = nI X2 → y2 = nI Y2 → X ≤ X2 → X2 < W → Y ≤ Y2 → Y2 < H → ∀ p, p ≤ dn → (∀ j, p ≤ j → j < dn → year < σ 19 0 (σ 21 0 j).toNatClampNeg) → (0 < p → σ 19 0 (σ 21 0 (p - 1)).toNatClampNeg ≤ year) → post (some (mI (nI dn))) (deedX σ dn x y x2 y2 o year p)) : Ev kX7_deed [xX, mI x, mI y, mI x2, mI y2, mI o, mI year] σ post := by
  have hW1 := I.1.2.2
  have hH1 := I.2.1.2.2
  refine Ev.intro fun G hG => hG.run ?_
  refine call_of (ev_hasBox σ x y x2 y2 I.1.1 I.1.2.2 I.2.1.1 I.2.1.2.2) ?_
  refine And.intro (fun c1 => hbad (fun q => b_f c1 q.1)) (fun c1 => ?_)
  have c1 := b_t c1
  refine call_of (ev_isOwner σ o) ?_
  refine And.intro (fun c2 => hbad (fun q => b_f c2 q.2.1)) (fun c2 => ?_)
  have c2 := b_t c2
  refine call_of (ev_xYear σ year) ?_
  refine And.intro (fun c3 => hbad (fun q => b_f c3 q.2.2.1)) (fun c3 => ?_)
  have c3 := b_t c3
  refine call_of (ev_dFull σ hm h1) ?_
  refine And.intro (fun c4 => ?_) (fun c4 => hbad (fun q => b_t c4 q.2.2.2))
  have c4 : dn < 30 := Classical.not_not.mp (b_f c4)
  refine call_ex (ev_dAdd σ x y x2 y2 o year hm c4 hod) ?_
  rintro r s ⟨rfl, p, hp, p1, p2, rfl⟩
  obtain ⟨⟨d1, d2⟩, ⟨d3, d4⟩, d5, d6⟩ := c1
  obtain ⟨X, hX, rfl⟩ := (vp_nI (by omega)).mp d1
  obtain ⟨Y, hY, rfl⟩ := (vp_nI (by omega)).mp d2
  obtain ⟨X2, hX2, rfl⟩ := (vp_nI (by omega)).mp d3
  obtain ⟨Y2, hY2, rfl⟩ := (vp_nI (by omega)).mp d4
  exact hgo c2 c3 c4 X Y X2 Y2 rfl rfl rfl rfl (le_of_le d5 (by omega)) hX2 (le_of_le d6 (by omega)) hY2 p hp p1 p2
theorem ev_xstrike (σ : mS) {dn : Nat} (hm : σ 13 0 0 = nI dn) (h1 : dn ≤ 30) (d b : Int32) (post : Option mV → mS → Prop)
    (hbad : ¬ vp_in d dn → post (some (mI 0)) σ) (hgo : ∀ D, D < dn → d = nI D → post (some (mI 1)) (mput σ 20 0 (upd (σ 20 0) D (b &&& 1)))) : Ev kX7_strike [xX, mI d, mI b] σ post := by
  refine Ev.intro fun G hG => hG.run ?_
  refine call_of (ev_dHas σ d hm h1) ?_
  refine And.intro (fun c1 => ?_) (fun c1 => hbad (b_f c1))
  obtain ⟨D, hD, rfl⟩ := (vp_nI (by omega)).mp (b_t c1)
  refine And.intro (vp_in_nI (by omega) (by omega)) ?_
  rw [nI_cl (by omega)]
  exact hgo D hD rfl
theorem ev_xreach (σ : mS) (v : Int32) (post : Option mV → mS → Prop) (hbad : ¬ (1 ≤ v ∧ v ≤ 12) → post (some (mI (-1))) σ) (hgo : (1 ≤ v ∧ v ≤ 12) → post (some (mI (σ 7 0 5))) (mput σ 7 0 (upd (σ 7 0) 5 v))) : Ev kX7_reach [xX, mI v] σ post := by
  refine Ev.intro fun G hG => hG.run ?_
  refine call_of (ev_isBetween σ v 1 12) ?_
  exact And.intro (fun c1 => hgo (b_t c1)) (fun c1 => hbad (b_f c1))
theorem ev_xjudge (σ : mS) {mp : Nat} (hm : σ 7 0 4 = nI mp) (hmp : mp ≤ 10) (st how : Int32) (post : Option mV → mS → Prop)
    (hbad : ¬ (stepP st mp ∧ (-1 ≤ how ∧ how ≤ 1)) → post (some (mI 0)) σ) (hgo : ∀ j, 0 < j → j < mp → st = nI j → (-1 ≤ how ∧ how ≤ 1) → post (some (mI 1)) (mput σ 10 j (upd (σ 10 j) 6 how))) : Ev kX7_judge [xX, mI st, mI how] σ post := by
  refine Ev.intro fun G hG => hG.run ?_
  refine call_of (ev_hasStep σ st hm hmp) ?_
  refine And.intro (fun c1 => hbad (fun q => b_f c1 q.1)) (fun c1 => ?_)
  obtain ⟨j, hj0, hj, rfl⟩ := b_t c1
  refine call_of (ev_isBetween σ how (-1) 1) ?_
  refine And.intro (fun c2 => ?_) (fun c2 => hbad (fun q => b_f c2 q.2))
  refine And.intro (vp_in_nI (by omega) (by omega)) ?_
  rw [nI_cl (by omega)]
  exact hgo j hj0 hj rfl (b_t c2)
