/-! THE CLASS: small methods -/
theorem ev_isBetween (σ : mS) (v a b : Int32) : Ev kX7_isBetween [mI v, mI a, mI b] σ (fun r s => r = some (mI (b2i (a ≤ v ∧ v ≤ b))) ∧ s = σ) := by
  refine Ev.intro fun G hG => hG.run ?_
  refine And.intro (fun c1 => ⟨by rw [b2i_f (P := a ≤ v ∧ v ≤ b) (fun q => not_le_of c1 q.1)]; rfl, rfl⟩) (fun c1 => ?_)
  refine And.intro (fun c2 => ⟨by rw [b2i_f (P := a ≤ v ∧ v ≤ b) (fun q => not_le_of c2 q.2)]; rfl, rfl⟩) (fun c2 => ?_)
  exact ⟨by rw [b2i_t (P := a ≤ v ∧ v ≤ b) ⟨Int32.not_lt.mp c1, Int32.not_lt.mp c2⟩]; rfl, rfl⟩
theorem ev_xYear (σ : mS) (y : Int32) : Ev kX7_isYear [mI y] σ (fun r s => r = some (mI (b2i (vp_in y 201))) ∧ s = σ) := by
  refine Ev.intro fun G hG => hG.run ?_
  refine call_of (ev_isBetween σ y 0 200) ?_
  rw [b2i_c (show (0 ≤ y ∧ y ≤ 200) ↔ vp_in y 201 from in_iff (x := y) (n := 201) (by omega) (by omega))]
  exact ⟨congrArg (fun z => some (mI z)) (b2i_and _), rfl⟩
theorem ev_isOwner (σ : mS) (o : Int32) : Ev kX7_isOwner [mI o] σ (fun r s => r = some (mI (b2i (0 ≤ o ∧ o ≤ 9))) ∧ s = σ) := by
  refine Ev.intro fun G hG => hG.run ?_
  refine call_of (ev_isBetween σ o 0 9) ?_
  exact ⟨congrArg (fun z => some (mI z)) (b2i_and _), rfl⟩
theorem own_iff {o : Int32} : (-1 ≤ o ∧ o ≤ 9) ↔ (o = -1 ∨ (0 ≤ o ∧ o ≤ 9)) := by
  rw [← Int32.toInt_inj, Int32.le_iff_toInt_le, Int32.le_iff_toInt_le, Int32.le_iff_toInt_le, Int32.toInt_zero, show (-1 : Int32).toInt = -1 from rfl, show (9 : Int32).toInt = 9 from rfl]
  omega
theorem ev_isOwnerOrNone (σ : mS) (o : Int32) : Ev kX7_isOwnerOrNone [mI o] σ (fun r s => r = some (mI (b2i (-1 ≤ o ∧ o ≤ 9))) ∧ s = σ) := by
  refine Ev.intro fun G hG => hG.run ?_
  refine And.intro (fun c1 => ⟨by rw [b2i_t (P := -1 ≤ o ∧ o ≤ 9) (own_iff.mpr (Or.inl c1))]; rfl, rfl⟩) (fun c1 => ?_)
  refine call_of (ev_isOwner σ o) ?_
  refine And.intro (fun c2 => ⟨by rw [b2i_f (P := -1 ≤ o ∧ o ≤ 9) (fun q => (own_iff.mp q).elim c1 (b_f c2))]; rfl, rfl⟩) (fun c2 => ?_)
  exact ⟨by rw [b2i_t (P := -1 ≤ o ∧ o ≤ 9) (own_iff.mpr (Or.inr (b_t c2)))]; rfl, rfl⟩
abbrev xG : mV := mR 1 0
abbrev xS : mV := mR 4 0
abbrev xA : mV := mR 7 0
abbrev xD : mV := mR 13 0
abbrev xL : mV := mR 22 0
abbrev xP : mV := mR 27 0
abbrev xX : mV := mR 0 0
/-- the ground of W columns and H rows -/
def GR (σ : mS) (W H : Nat) : Prop := (σ 1 0 0 = nI W ∧ 0 < W ∧ W ≤ 12) ∧ (σ 1 0 1 = nI H ∧ 0 < H ∧ H ≤ 12) ∧ σ 1 0 2 = nI (W * H) ∧ ∀ k, k < W * H → σ 2 0 k = nI (k % W) ∧ σ 3 0 k = nI (k / W)
/-- a cell's number in the reference -/
def emb (W k : Nat) : Nat := 12 * (k / W) + k % W
theorem gr_le {W H : Nat} (hW : W ≤ 12) (hH : H ≤ 12) : W * H ≤ 144 := Nat.mul_le_mul hW hH
theorem emb_mod {W : Nat} (h0 : 0 < W) (h1 : W ≤ 12) (k : Nat) : emb W k % 12 = k % W ∧ emb W k / 12 = k / W := by
  have := Nat.mod_lt k h0
  unfold emb
  omega
theorem emb_lt {W H k : Nat} (h0 : 0 < W) (h1 : W ≤ 12) (h2 : H ≤ 12) (hk : k < W * H) : emb W k < 144 := by
  have h3 := Nat.mod_lt k h0
  have h4 : k / W < H := Nat.div_lt_of_lt_mul hk
  unfold emb
  omega
theorem emb_on {W H k : Nat} (h0 : 0 < W) (h1 : W ≤ 12) (hk : k < W * H) : onP W H (emb W k) := by
  obtain ⟨e1, e2⟩ := emb_mod h0 h1 k
  unfold onP
  rw [e1, e2]
  exact ⟨Nat.mod_lt k h0, Nat.div_lt_of_lt_mul hk⟩
/-- the way back -/
def une (W c : Nat) : Nat := W * (c / 12) + c % 12
theorem une_emb {W : Nat} (h0 : 0 < W) (h1 : W ≤ 12) (k : Nat) : une W (emb W k) = k := by
  obtain ⟨e1, e2⟩ := emb_mod h0 h1 k
  unfold une
  rw [e1, e2]
  exact Nat.div_add_mod k W
theorem une_lt {W H c : Nat} (h : onP W H c) : une W c < W * H := by
  unfold une
  obtain ⟨h1, h2⟩ := h
  have : W * (c / 12) + W ≤ W * H := by
    rw [← Nat.mul_succ]
    exact Nat.mul_le_mul_left W h2
  omega
theorem emb_une {W H c : Nat} (h : onP W H c) : emb W (une W c) = c := by
  obtain ⟨h1, h2⟩ := h
  unfold emb une
  rw [Nat.mul_add_div (by omega), Nat.mul_add_mod, Nat.div_eq_of_lt h1, Nat.mod_eq_of_lt h1]
  omega
theorem emb_inj {W k k' : Nat} (h0 : 0 < W) (h1 : W ≤ 12) (h : emb W k = emb W k') : k = k' := by
  rw [← une_emb h0 h1 k, ← une_emb h0 h1 k', h]
theorem emb_mono {W k k' : Nat} (h0 : 0 < W) (h1 : W ≤ 12) (h : k < k') : emb W k < emb W k' := by
  have h2 := Nat.mod_lt k h0
  have h3 : k / W ≤ k' / W := Nat.div_le_div_right (by omega)
  have h4 := Nat.div_add_mod k W
  have h5 := Nat.div_add_mod k' W
  unfold emb
  rcases Nat.lt_or_ge (k / W) (k' / W) with q | q
  · omega
  · have : k / W = k' / W := by omega
    rw [this] at h4 ⊢
    omega
/-- a cell at x, y -/
theorem emb_at {W x y : Nat} (hx : x < W) : emb W (y * W + x) = 12 * y + x := by
  unfold emb
  rw [Nat.mul_comm y W, Nat.mul_add_div (by omega), Nat.mul_add_mod, Nat.div_eq_of_lt hx, Nat.mod_eq_of_lt hx]
  omega
theorem at_lt {W H x y : Nat} (hx : x < W) (hy : y < H) : y * W + x < W * H := by
  have : y * W + W ≤ H * W := by
    rw [← Nat.succ_mul]
    exact Nat.mul_le_mul_right W hy
  rw [Nat.mul_comm W H]
  omega
theorem ev_hasLine (σ : mS) (y : Int32) {H : Nat} (hH : σ 1 0 1 = nI H) (h1 : H ≤ 12) : Ev kX2_hasLine [xG, mI y] σ (fun r s => r = some (mI (b2i (vp_in y H))) ∧ s = σ) := by
  refine Ev.intro fun G hG => hG.run ?_
  refine And.intro (fun c1 => ⟨by rw [b2i_f (P := vp_in y H) (fun q => q (Or.inl c1))]; rfl, rfl⟩) (fun c1 => ?_)
  refine And.intro (fun c2 => ?_) (fun c2 => ?_)
  · replace c2 : σ 1 0 1 ≤ y := c2
    rw [hH] at c2
    refine ⟨?_, rfl⟩
    rw [b2i_f (P := vp_in y H) (fun q => by
      obtain ⟨j, hj, rfl⟩ := (vp_nI (by omega)).mp q
      exact nI_ge hj (by omega) c2)]
    rfl
  · replace c2 : ¬ σ 1 0 1 ≤ y := c2
    rw [hH] at c2
    refine ⟨?_, rfl⟩
    rw [b2i_t (P := vp_in y H)]
    · rfl
    · rw [vp_in_iff]
      rw [Int32.le_iff_toInt_le, nI_toInt (by omega)] at c2
      rw [Int32.lt_iff_toInt_lt, Int32.toInt_zero] at c1
      omega
theorem ev_has (σ : mS) (x y : Int32) {W H : Nat} (hW : σ 1 0 0 = nI W) (h0 : W ≤ 12) (hH : σ 1 0 1 = nI H) (h1 : H ≤ 12) : Ev kX2_has [xG, mI x, mI y] σ (fun r s => r = some (mI (b2i (vp_in x W ∧ vp_in y H))) ∧ s = σ) := by
  refine Ev.intro fun G hG => hG.run ?_
  have no : ¬ (vp_in x W ∧ vp_in y H) → (some (mI ((0 : Int32) &&& 1)) : Option mV) = some (mI (b2i (vp_in x W ∧ vp_in y H))) ∧ σ = σ := fun q => ⟨by rw [b2i_f q]; rfl, rfl⟩
  refine And.intro (fun c1 => no (fun q => q.1 (Or.inl c1))) (fun c1 => ?_)
  refine And.intro (fun c2 => ?_) (fun c2 => ?_)
  · replace c2 : σ 1 0 0 ≤ x := c2
    rw [hW] at c2
    exact no (fun q => by
      obtain ⟨j, hj, rfl⟩ := (vp_nI (by omega)).mp q.1
      exact nI_ge hj (by omega) c2)
  · replace c2 : ¬ σ 1 0 0 ≤ x := c2
    rw [hW] at c2
    have hx : vp_in x W := by
      rw [vp_in_iff]
      rw [Int32.le_iff_toInt_le, nI_toInt (by omega)] at c2
      rw [Int32.lt_iff_toInt_lt, Int32.toInt_zero] at c1
      omega
    refine call_of (ev_hasLine σ y hH h1) ?_
    refine And.intro (fun c3 => no (fun q => b_f c3 q.2)) (fun c3 => ⟨by rw [b2i_t (P := vp_in x W ∧ vp_in y H) ⟨hx, b_t c3⟩]; rfl, rfl⟩)
theorem ev_hasBox (σ : mS) (x y x2 y2 : Int32) {W H : Nat} (hW : σ 1 0 0 = nI W) (h0 : W ≤ 12) (hH : σ 1 0 1 = nI H) (h1 : H ≤ 12) : Ev kX2_hasBox [xG, mI x, mI y, mI x2, mI y2] σ (fun r s => r = some (mI (b2i (boxP x y x2 y2 W H))) ∧ s = σ) := by
  refine Ev.intro fun G hG => hG.run ?_
  have no : ¬ boxP x y x2 y2 W H → (some (mI ((0 : Int32) &&& 1)) : Option mV) = some (mI (b2i (boxP x y x2 y2 W H))) ∧ σ = σ := fun q => ⟨by rw [b2i_f q]; rfl, rfl⟩
  refine call_of (ev_has σ x y hW h0 hH h1) ?_
  refine And.intro (fun c1 => no (fun q => b_f c1 q.1)) (fun c1 => ?_)
  refine call_of (ev_has σ x2 y2 hW h0 hH h1) ?_
  refine And.intro (fun c2 => no (fun q => b_f c2 q.2.1)) (fun c2 => ?_)
  refine And.intro (fun c3 => no (fun q => not_le_of c3 q.2.2.1)) (fun c3 => ?_)
  refine And.intro (fun c4 => no (fun q => not_le_of c4 q.2.2.2)) (fun c4 => ?_)
  refine ⟨?_, rfl⟩
  rw [b2i_t (P := boxP x y x2 y2 W H) ⟨b_t c1, b_t c2, Int32.not_lt.mp c3, Int32.not_lt.mp c4⟩]
  rfl
theorem ev_cellAt (σ : mS) (x y W : Nat) (hW : σ 1 0 0 = nI W) : Ev kX2_cellAt [xG, mI (nI x), mI (nI y)] σ (fun r s => r = some (mI (nI (y * W + x))) ∧ s = σ) := by
  refine Ev.intro fun G hG => hG.run ?_
  refine ⟨congrArg (fun z => some (mI z)) ?_, rfl⟩
  show nI y * σ 1 0 0 + nI x = _
  rw [hW, pk_mul, nI_add]
theorem ev_xapart (σ : mS) {W H a b : Nat} (I : GR σ W H) (ha : a < W * H) (hb : b < W * H) : Ev kX2_apart [xG, mI (nI a), mI (nI b)] σ (fun r s => r = some (mI (nI (apF (emb W a) (emb W b)))) ∧ s = σ) := by
  obtain ⟨⟨-, hW0, hW1⟩, ⟨-, hH0, hH1⟩, -, hk⟩ := I
  have hN := gr_le hW1 hH1
  refine Ev.intro fun G hG => hG.run ?_
  have va : vp_in (nI a) 144 := vp_in_nI (by omega) (by omega)
  have vb : vp_in (nI b) 144 := vp_in_nI (by omega) (by omega)
  have ea : (nI a).toNatClampNeg = a := nI_cl (by omega)
  have eb : (nI b).toNatClampNeg = b := nI_cl (by omega)
  obtain ⟨m1, m2⟩ := emb_mod hW0 hW1 a
  obtain ⟨m3, m4⟩ := emb_mod hW0 hW1 b
  have l1 := Nat.mod_lt a hW0
  have l2 := Nat.mod_lt b hW0
  have l3 : a / W < H := Nat.div_lt_of_lt_mul ha
  have l4 : b / W < H := Nat.div_lt_of_lt_mul hb
  refine And.intro va (And.intro vb (And.intro va (And.intro vb ?_)))
  have e1 := abs_df (a := a % W) (b := b % W) (by omega) (by omega)
  have e2 := abs_df (a := a / W) (b := b / W) (by omega) (by omega)
  have d1 := df_lt (n := 144) (a := a % W) (b := b % W) (by omega) (by omega)
  have d2 := df_lt (n := 144) (a := a / W) (b := b / W) (by omega) (by omega)
  have e3 := max_nI (a := df (a % W) (b % W)) (b := df (a / W) (b / W)) (by omega) (by omega)
  rw [← e1, ← e2, ← (hk a ha).1, ← (hk a ha).2, ← (hk b hb).1, ← (hk b hb).2] at e3
  rw [ea, eb]
  refine ⟨congrArg (fun z => some (mI z)) (e3.trans ?_), rfl⟩
  unfold apF
  rw [m1, m2, m3, m4]
theorem ev_walk (σ : mS) {W H a b : Nat} (I : GR σ W H) (ha : a < W * H) (hb : b < W * H) : Ev kX2_walk [xG, mI (nI a), mI (nI b)] σ (fun r s => r = some (mI (nI (awF (emb W a) (emb W b)))) ∧ s = σ) := by
  obtain ⟨⟨-, hW0, hW1⟩, ⟨-, hH0, hH1⟩, -, hk⟩ := I
  have hN := gr_le hW1 hH1
  refine Ev.intro fun G hG => hG.run ?_
  have va : vp_in (nI a) 144 := vp_in_nI (by omega) (by omega)
  have vb : vp_in (nI b) 144 := vp_in_nI (by omega) (by omega)
  have ea : (nI a).toNatClampNeg = a := nI_cl (by omega)
  have eb : (nI b).toNatClampNeg = b := nI_cl (by omega)
  obtain ⟨m1, m2⟩ := emb_mod hW0 hW1 a
  obtain ⟨m3, m4⟩ := emb_mod hW0 hW1 b
  have l1 := Nat.mod_lt a hW0
  have l2 := Nat.mod_lt b hW0
  have l3 : a / W < H := Nat.div_lt_of_lt_mul ha
  have l4 : b / W < H := Nat.div_lt_of_lt_mul hb
  refine And.intro va (And.intro vb (And.intro va (And.intro vb ?_)))
  have e1 := abs_df (a := a % W) (b := b % W) (by omega) (by omega)
  have e2 := abs_df (a := a / W) (b := b / W) (by omega) (by omega)
  have e3 := nI_add (df (a % W) (b % W)) (df (a / W) (b / W))
  rw [← e1, ← e2, ← (hk a ha).1, ← (hk a ha).2, ← (hk b hb).1, ← (hk b hb).2] at e3
  rw [ea, eb]
  refine ⟨congrArg (fun z => some (mI z)) (e3.trans ?_), rfl⟩
  unfold awF
  rw [m1, m2, m3, m4]
/-- the cell beside another one -/
def bsF (W H k sd : Nat) : Option Nat := match sd with
  | 0 => if 0 < k / W then some (k - W) else none
  | 1 => if 0 < k % W then some (k - 1) else none
  | 2 => if k % W < W - 1 then some (k + 1) else none
  | _ => if k / W < H - 1 then some (k + W) else none
theorem ev_beside (σ : mS) {W H k sd : Nat} (I : GR σ W H) (hk : k < W * H) (hs : sd < 4) : Ev kX2_beside [xG, mI (nI k), mI (nI sd)] σ (fun r s => r = some (mI (oI (bsF W H k sd))) ∧ s = σ) := by
  obtain ⟨⟨hW, hW0, hW1⟩, ⟨hH, hH0, hH1⟩, -, hkk⟩ := I
  have hN := gr_le hW1 hH1
  have va : vp_in (nI k) 144 := vp_in_nI (by omega) (by omega)
  have ea : (nI k).toNatClampNeg = k := nI_cl (by omega)
  have l1 := Nat.mod_lt k hW0
  have l3 : k / W < H := Nat.div_lt_of_lt_mul hk
  have hdm := Nat.div_add_mod k W
  obtain ⟨k1, k2⟩ := hkk k hk
  refine Ev.intro fun G hG => hG.run ?_
  refine And.intro (fun c => ⟨?_, by decide⟩) (fun n off ho hx => ?_)
  · have hs3 : sd = 3 := by rw [nI_toInt (by omega)] at c; omega
    subst hs3
    refine And.intro va (And.intro (fun c1 => ?_) (fun c1 => ?_))
    · replace c1 : σ 1 0 1 - 1 ≤ σ 3 0 (nI k).toNatClampNeg := c1
      rw [ea, k2, hH, nI_m1 hH0] at c1
      have c1 := le_of_le c1 (by omega)
      exact ⟨by rw [show bsF W H k 3 = none from if_neg (by omega)]; rfl, rfl⟩
    · replace c1 : ¬ σ 1 0 1 - 1 ≤ σ 3 0 (nI k).toNatClampNeg := c1
      rw [ea, k2, hH, nI_m1 hH0] at c1
      have c1 := lt_of_nle c1 (by omega)
      refine ⟨?_, rfl⟩
      rw [show bsF W H k 3 = some (k + W) from if_pos (by omega)]
      show some (mI (nI k + σ 1 0 0)) = _
      rw [hW, nI_add]
      rfl
  · have hn : n < 3 := by
      rcases Nat.lt_or_ge n 3 with q | q
      · exact q
      · rw [Array.getElem?_eq_none (by simpa using q)] at ho; cases ho
    have hns : n = sd := by rw [nI_toInt (by omega)] at hx; omega
    subst hns
    match n, hn, ho with
    | 0, _, ho =>
      cases ho
      refine ⟨And.intro va (And.intro (fun c1 => ?_) (fun c1 => ?_)), by decide⟩
      · replace c1 : σ 3 0 (nI k).toNatClampNeg ≤ 0 := c1
        rw [ea, k2] at c1
        have c1 := le_of_le (b := 0) c1 (by omega)
        exact ⟨by rw [show bsF W H k 0 = none from if_neg (by omega)]; rfl, rfl⟩
      · replace c1 : ¬ σ 3 0 (nI k).toNatClampNeg ≤ 0 := c1
        rw [ea, k2] at c1
        have c1 := lt_of_nle (b := 0) c1 (by omega)
        refine ⟨?_, rfl⟩
        rw [show bsF W H k 0 = some (k - W) from if_pos c1]
        show some (mI (nI k - σ 1 0 0)) = _
        have : W ≤ k := by
          have := Nat.mul_le_mul_left W c1
          omega
        rw [hW, pk_sub this]
        rfl
    | 1, _, ho =>
      cases ho
      refine ⟨And.intro va (And.intro (fun c1 => ?_) (fun c1 => ?_)), by decide⟩
      · replace c1 : σ 2 0 (nI k).toNatClampNeg ≤ 0 := c1
        rw [ea, k1] at c1
        have c1 := le_of_le (b := 0) c1 (by omega)
        exact ⟨by rw [show bsF W H k 1 = none from if_neg (by omega)]; rfl, rfl⟩
      · replace c1 : ¬ σ 2 0 (nI k).toNatClampNeg ≤ 0 := c1
        rw [ea, k1] at c1
        have c1 := lt_of_nle (b := 0) c1 (by omega)
        refine ⟨?_, rfl⟩
        rw [show bsF W H k 1 = some (k - 1) from if_pos c1]
        show some (mI (nI k - 1)) = _
        have : 0 < k := by
          rcases Nat.eq_zero_or_pos k with q | q
          · rw [q, Nat.zero_mod] at c1; omega
          · exact q
        rw [nI_m1 this]
        rfl
    | 2, _, ho =>
      cases ho
      refine ⟨And.intro va (And.intro (fun c1 => ?_) (fun c1 => ?_)), by decide⟩
      · replace c1 : σ 1 0 0 - 1 ≤ σ 2 0 (nI k).toNatClampNeg := c1
        rw [ea, k1, hW, nI_m1 hW0] at c1
        have c1 := le_of_le c1 (by omega)
        exact ⟨by rw [show bsF W H k 2 = none from if_neg (by omega)]; rfl, rfl⟩
      · replace c1 : ¬ σ 1 0 0 - 1 ≤ σ 2 0 (nI k).toNatClampNeg := c1
        rw [ea, k1, hW, nI_m1 hW0] at c1
        have c1 := lt_of_nle c1 (by omega)
        refine ⟨?_, rfl⟩
        rw [show bsF W H k 2 = some (k + 1) from if_pos c1]
        show some (mI (nI k + 1)) = _
        rw [nI_1]
        rfl
    | n + 3, hn, _ => exact absurd hn (by omega)
/-- beside: just the cells that share a side -/
theorem bsF_ok {W H k : Nat} (hW0 : 0 < W) (hW1 : W ≤ 12) (hH1 : H ≤ 12) (hk : k < W * H) : (∀ sd e, sd < 4 → bsF W H k sd = some e → e < W * H ∧ awF (emb W k) (emb W e) = 1) ∧ ∀ e, e < W * H → awF (emb W k) (emb W e) = 1 → ∃ sd, sd < 4 ∧ bsF W H k sd = some e := by
  have l1 := Nat.mod_lt k hW0
  have l3 : k / W < H := Nat.div_lt_of_lt_mul hk
  have hdm := Nat.div_add_mod k W
  have em := fun e => emb_mod hW0 hW1 e
  refine ⟨fun sd e hs h => ?_, fun e he h => ?_⟩
  · -- a cell by its column and row
    have key : ∀ x y, x < W → y < H → e = y * W + x → df (k % W) x + df (k / W) y = 1 → e < W * H ∧ awF (emb W k) (emb W e) = 1 := by
      intro x y hx hy he hd
      subst he
      refine ⟨at_lt hx hy, ?_⟩
      rw [emb_at hx]
      unfold awF
      rw [(em k).1, (em k).2, show (12 * y + x) % 12 = x by omega, show (12 * y + x) / 12 = y by omega]
      exact hd
    have hm : ∀ y, y * W = W * y := fun y => Nat.mul_comm y W
    match sd, hs, h with
    | 0, _, h =>
      have h : (if 0 < k / W then some (k - W) else none) = some e := h
      split at h
      · rename_i hp
        cases h
        refine key (k % W) (k / W - 1) l1 (by omega) ?_ (by unfold df; omega)
        rw [Nat.sub_mul, Nat.one_mul, hm]
        have := Nat.mul_le_mul_left W hp
        omega
      · cases h
    | 1, _, h =>
      have h : (if 0 < k % W then some (k - 1) else none) = some e := h
      split at h
      · rename_i hp
        cases h
        refine key (k % W - 1) (k / W) (by omega) l3 ?_ (by unfold df; omega)
        rw [hm]
        omega
      · cases h
    | 2, _, h =>
      have h : (if k % W < W - 1 then some (k + 1) else none) = some e := h
      split at h
      · rename_i hp
        cases h
        refine key (k % W + 1) (k / W) (by omega) l3 ?_ (by unfold df; omega)
        rw [hm]
        omega
      · cases h
    | 3, _, h =>
      have h : (if k / W < H - 1 then some (k + W) else none) = some e := h
      split at h
      · rename_i hp
        cases h
        refine key (k % W) (k / W + 1) l1 (Nat.add_lt_of_lt_sub hp) ?_ (by unfold df; omega)
        rw [Nat.add_mul, Nat.one_mul, hm]
        omega
      · cases h
    | sd + 4, hs, _ => exact absurd hs (by omega)
  · have g1 := Nat.mod_lt e hW0
    have g3 : e / W < H := Nat.div_lt_of_lt_mul he
    have gdm := Nat.div_add_mod e W
    unfold awF at h
    rw [(em k).1, (em k).2, (em e).1, (em e).2] at h
    have hm : ∀ a b : Nat, a = b + 1 → W * a = W * b + W := fun a b q => by rw [q, Nat.mul_succ]
    by_cases c1 : k / W = e / W
    · by_cases c2 : k % W = e % W + 1
      · refine ⟨1, by omega, ?_⟩
        show (if 0 < k % W then some (k - 1) else none) = some e
        rw [if_pos (by omega)]
        congr 1
        rw [c1] at hdm
        omega
      · have c3 : e % W = k % W + 1 := by unfold df at h; omega
        refine ⟨2, by omega, ?_⟩
        show (if k % W < W - 1 then some (k + 1) else none) = some e
        rw [if_pos (by omega)]
        congr 1
        rw [c1] at hdm
        omega
    · by_cases c2 : k / W = e / W + 1
      · have c3 : k % W = e % W := by unfold df at h; omega
        refine ⟨0, by omega, ?_⟩
        show (if 0 < k / W then some (k - W) else none) = some e
        rw [if_pos (by rw [c2]; exact Nat.succ_pos _)]
        congr 1
        have := hm _ _ c2
        omega
      · have c4 : e / W = k / W + 1 := by unfold df at h; omega
        have c3 : k % W = e % W := by unfold df at h; omega
        refine ⟨3, by omega, ?_⟩
        show (if k / W < H - 1 then some (k + W) else none) = some e
        rw [if_pos (by omega)]
        congr 1
        have := hm _ _ c4
        omega
