/-! CLASS: laying the ground, first owners, deeds, how far a step went -/
def layS (σ : mS) (W H : Nat) : mS := mput (mput (mput σ 1 0 (upd (upd (upd (σ 1 0) 0 (nI W)) 1 (nI H)) 2 (nI (W * H)))) 2 0 (cpy (σ 2 0) (fun k => nI (k % W)) (W * H))) 3 0 (cpy (σ 3 0) (fun k => nI (k / W)) (W * H))
theorem ev_lay (σ : mS) {W H : Nat} (hW0 : 0 < W) (hW1 : W ≤ 12) (hH1 : H ≤ 12) : Ev kX2_lay [xG, mI (nI W), mI (nI H)] σ (fun r s => r = none ∧ s = layS σ W H) := by
  refine Ev.intro fun G hG => hG.run ?_
  have hN := gr_le hW1 hH1
  have hG : mCl Ev kX2_lay (fun r s => r = none ∧ s = layS σ W H) G := hG
  generalize hS : (fun n => mput (mput (mput σ 1 0 (upd (upd (upd (σ 1 0) 0 (nI W)) 1 (nI H)) 2 (nI (W * H)))) 2 0 (cpy (σ 2 0) (fun k => nI (k % W)) n)) 3 0 (cpy (σ 3 0) (fun k => nI (k / W)) n)) = S
  have outer : ∀ n y, y + n = H → ∀ z4 : Option mV, G 19 [some xG, some (mI (nI W)), some (mI (nI H)), some (mI (nI y)), z4] [] (S (y * W)) := by
    intro n
    induction n with
    | zero =>
      intro y hy z4
      have : y = H := by omega
      subst this
      refine hG.run (br_t (Int32.le_refl _) ⟨rfl, ?_⟩)
      rw [← hS, Nat.mul_comm y W]
      rfl
    | succ n ih =>
      intro y hy z4
      have inner : ∀ m x, x + m = W → G 27 [some xG, some (mI (nI W)), some (mI (nI H)), some (mI (nI y)), some (mI (nI x))] [] (S (y * W + x)) := by
        intro m
        induction m with
        | zero =>
          intro x hx
          have : x = W := by omega
          subst this
          refine hG.run (br_t (Int32.le_refl _) ?_)
          have h5 := ih (y + 1) (by omega) (some (mI (nI x)))
          rw [show (y + 1) * x = y * x + x from Nat.succ_mul y x, ← nI_1] at h5
          exact h5
        | succ m ihm =>
          intro x hx
          have h5 := ihm (x + 1) (by omega)
          have hlt : y * W + x < W * H := at_lt (by omega) (by omega)
          have em : (y * W + x) % W = x := by rw [Nat.add_comm, Nat.add_mul_mod_self_right]; exact Nat.mod_eq_of_lt (by omega)
          have ed : (y * W + x) / W = y := by rw [Nat.add_comm, Nat.add_mul_div_right _ _ hW0, Nat.div_eq_of_lt (by omega)]; omega
          refine hG.run (br_f (nI_ge (by omega) (by omega)) ?_)
          have ei : nI y * nI W + nI x = nI (y * W + x) := by rw [pk_mul, nI_add]
          have hv : vp_in (nI y * nI W + nI x) 144 := by rw [ei]; exact vp_in_nI (by omega) (by omega)
          refine And.intro hv (And.intro hv ?_)
          rw [ei, nI_cl (by omega)]
          rw [← hS] at h5 ⊢
          rw [← nI_1] at h5
          have e2 : cpy (σ 2 0) (fun k => nI (k % W)) (y * W + (x + 1)) = upd (cpy (σ 2 0) (fun k => nI (k % W)) (y * W + x)) (y * W + x) (nI x) := by
            rw [← Nat.add_assoc, ← cpy_s, em]
          have e3 : cpy (σ 3 0) (fun k => nI (k / W)) (y * W + (x + 1)) = upd (cpy (σ 3 0) (fun k => nI (k / W)) (y * W + x)) (y * W + x) (nI y) := by
            rw [← Nat.add_assoc, ← cpy_s, ed]
          have h5 : G 27 [some xG, some (mI (nI W)), some (mI (nI H)), some (mI (nI y)), some (mI (nI x + 1))] [] (mput (mput (mput σ 1 0 (upd (upd (upd (σ 1 0) 0 (nI W)) 1 (nI H)) 2 (nI (W * H)))) 2 0 (cpy (σ 2 0) (fun k => nI (k % W)) (y * W + (x + 1)))) 3 0 (cpy (σ 3 0) (fun k => nI (k / W)) (y * W + (x + 1)))) := h5
          rw [e2, e3] at h5
          have e4 : ∀ a b c d : Nat → Int32, mput (mput (mput (mput (mput σ 1 0 (upd (upd (upd (σ 1 0) 0 (nI W)) 1 (nI H)) 2 (nI (W * H)))) 2 0 a) 3 0 b) 2 0 c) 3 0 d = mput (mput (mput σ 1 0 (upd (upd (upd (σ 1 0) 0 (nI W)) 1 (nI H)) 2 (nI (W * H)))) 2 0 c) 3 0 d := by
            intro a b c d
            rw [mput_cover _ 2 0 3 0 _ _ _ (Or.inl (by omega)), mput_cover _ 3 0 2 0 _ _ _ (Or.inl (by omega))]
          rw [← e4 (cpy (σ 2 0) (fun k => nI (k % W)) (y * W + x)) (cpy (σ 3 0) (fun k => nI (k / W)) (y * W + x))] at h5
          exact h5
      exact hG.run (br_f (nI_ge (by omega) (by omega)) (inner W 0 (by omega)))
  have h := outer H 0 (by omega) none
  rw [Nat.zero_mul, ← hS] at h
  have h : G 19 [some xG, some (mI (nI W)), some (mI (nI H)), some (mI (nI 0)), none] [] (mput (mput (mput σ 1 0 (upd (upd (upd (σ 1 0) 0 (nI W)) 1 (nI H)) 2 (nI (W * H)))) 2 0 (cpy (σ 2 0) (fun k => nI (k % W)) 0)) 3 0 (cpy (σ 3 0) (fun k => nI (k / W)) 0)) := h
  rw [cpy_0, cpy_0] at h
  have e7 : ∀ s : mS, s 2 0 = σ 2 0 → s 3 0 = σ 3 0 → mput (mput s 2 0 (σ 2 0)) 3 0 (σ 3 0) = s := by
    intro s h2 h3
    rw [← h2, mput_self, ← h3, mput_self]
  rw [e7 (mput σ 1 0 (upd (upd (upd (σ 1 0) 0 (nI W)) 1 (nI H)) 2 (nI (W * H)))) rfl rfl, ← pk_mul] at h
  show G 19 _ [] (mput (mput (mput σ 1 0 (upd (σ 1 0) 0 (nI W))) 1 0 (upd (upd (σ 1 0) 0 (nI W)) 1 (nI H))) 1 0 (upd (upd (upd (σ 1 0) 0 (nI W)) 1 (nI H)) 2 (nI W * nI H)))
  rw [mput_mput, mput_mput]
  exact h
/-- what a box of cells becomes, row by row -/
noncomputable def bxF (W X X2 Y : Nat) (P : Nat → Prop) (o : Int32) (f : Nat → Int32) (l c : Nat) : Nat → Int32 := fun k => ifp (P k ∧ (X ≤ k % W ∧ k % W ≤ X2) ∧ Y ≤ k / W ∧ (k / W < l ∨ (k / W = l ∧ k % W < c))) o (f k)
theorem bx_0 (W X X2 Y : Nat) (P : Nat → Prop) (o : Int32) (f : Nat → Int32) : bxF W X X2 Y P o f Y X = f := by
  funext k
  exact ifp_f (by omega)
theorem bx_row (W X X2 Y : Nat) (P : Nat → Prop) (o : Int32) (f : Nat → Int32) (l : Nat) : bxF W X X2 Y P o f l (X2 + 1) = bxF W X X2 Y P o f (l + 1) X := by
  funext k
  exact ifp_c (by constructor <;> (intro q; refine ⟨q.1, ?_⟩; omega))
theorem at_md {W x y : Nat} (hx : x < W) : (y * W + x) % W = x ∧ (y * W + x) / W = y := by
  refine ⟨?_, ?_⟩
  · rw [Nat.add_comm, Nat.add_mul_mod_self_right]; exact Nat.mod_eq_of_lt (by omega)
  · rw [Nat.add_comm, Nat.add_mul_div_right _ _ (by omega), Nat.div_eq_of_lt (by omega)]; omega
theorem md_at {W k : Nat} : k / W * W + k % W = k := by rw [Nat.mul_comm]; exact Nat.div_add_mod k W
theorem bx_old {W X X2 Y : Nat} {P : Nat → Prop} {o : Int32} {f : Nat → Int32} {l c : Nat} (hc : c < W) : bxF W X X2 Y P o f l c (l * W + c) = f (l * W + c) := by
  obtain ⟨e1, e2⟩ := at_md (y := l) hc
  exact ifp_f (by rw [e1, e2]; omega)
theorem bx_t {W X X2 Y : Nat} {P : Nat → Prop} {o : Int32} {f : Nat → Int32} {l c : Nat} (hX : X ≤ c) (hX2 : c ≤ X2) (hY : Y ≤ l) (hc : c < W) (h : P (l * W + c)) : upd (bxF W X X2 Y P o f l c) (l * W + c) o = bxF W X X2 Y P o f l (c + 1) := by
  obtain ⟨e1, e2⟩ := at_md (y := l) hc
  funext k
  by_cases hk : k = l * W + c
  · subst hk
    rw [upd_eq]
    exact (ifp_t (by rw [e1, e2]; exact ⟨h, by omega⟩)).symm
  · rw [upd_ne _ _ hk]
    refine ifp_c ?_
    have : ¬ (k / W = l ∧ k % W = c) := fun q => hk (by rw [← q.1, ← q.2, md_at])
    constructor <;> (intro q; refine ⟨q.1, ?_⟩; omega)
theorem bx_f {W X X2 Y : Nat} {P : Nat → Prop} {o : Int32} {f : Nat → Int32} {l c : Nat} (hc : c < W) (h : ¬ P (l * W + c)) : bxF W X X2 Y P o f l c = bxF W X X2 Y P o f l (c + 1) := by
  obtain ⟨e1, e2⟩ := at_md (y := l) hc
  funext k
  by_cases hk : k = l * W + c
  · subst hk
    exact (ifp_f (fun q => h q.1)).trans (ifp_f (fun q => h q.1)).symm
  · refine ifp_c ?_
    have : ¬ (k / W = l ∧ k % W = c) := fun q => hk (by rw [← q.1, ← q.2, md_at])
    constructor <;> (intro q; refine ⟨q.1, ?_⟩; omega)
theorem ev_setFirst (σ : mS) (X Y X2 Y2 : Nat) (o : Int32) {W H : Nat} (I : GR σ W H) (hX : X ≤ X2) (hX2 : X2 < W) (hY : Y ≤ Y2) (hY2 : Y2 < H) : Ev kX5_setFirst [xP, mI (nI X), mI (nI Y), mI (nI X2), mI (nI Y2), mI o] σ (fun r s => r = none ∧ s = mput σ 28 0 (bxF W X X2 Y (fun _ => True) o (σ 28 0) (Y2 + 1) X)) := by
  obtain ⟨⟨hW, hW0, hW1⟩, ⟨hH, hH0, hH1⟩, hc, hk⟩ := I
  have hN := gr_le hW1 hH1
  refine Ev.intro fun G hG => hG.run ?_
  have outer : ∀ n l, Y ≤ l → l + n = Y2 + 1 → ∀ z7 : Option mV, G 3 [some xP, some (mI (nI X)), some (mI (nI Y)), some (mI (nI X2)), some (mI (nI Y2)), some (mI o), some (mI (nI l)), z7] [] (mput σ 28 0 (bxF W X X2 Y (fun _ => True) o (σ 28 0) l X)) := by
    intro n
    induction n with
    | zero =>
      intro l hl hn z7
      have : l = Y2 + 1 := by omega
      subst this
      exact hG.run (br_t (nI_lt (by omega) (by omega)) ⟨rfl, rfl⟩)
    | succ n ih =>
      intro l hl hn z7
      have inner : ∀ m c, X ≤ c → c + m = X2 + 1 → G 13 [some xP, some (mI (nI X)), some (mI (nI Y)), some (mI (nI X2)), some (mI (nI Y2)), some (mI o), some (mI (nI l)), some (mI (nI c))] [] (mput σ 28 0 (bxF W X X2 Y (fun _ => True) o (σ 28 0) l c)) := by
        intro m
        induction m with
        | zero =>
          intro c hc0 hm
          have : c = X2 + 1 := by omega
          subst this
          refine hG.run (br_t (nI_lt (by omega) (by omega)) ?_)
          have h5 := ih (l + 1) (by omega) (by omega) (some (mI (nI (X2 + 1))))
          rw [← bx_row, ← nI_1] at h5
          exact h5
        | succ m ihm =>
          intro c hc0 hm
          have h5 := ihm (c + 1) (by omega) (by omega)
          rw [← bx_t hc0 (by omega) hl (by omega) trivial, ← mput_mput σ 28 0 (bxF W X X2 Y (fun _ => True) o (σ 28 0) l c), ← nI_1] at h5
          have hlt : l * W + c < W * H := at_lt (by omega) (by omega)
          refine hG.run (br_f (nI_nlt (by omega) (by omega)) ?_)
          refine call_of (ev_cellAt _ c l W hW) ?_
          refine And.intro (vp_in_nI (by omega) (by omega)) ?_
          rw [nI_cl (by omega)]
          exact h5
      exact hG.run (br_f (nI_nlt (by omega) (by omega)) (inner (X2 + 1 - X) X (Nat.le_refl _) (by omega)))
  have h := outer (Y2 + 1 - Y) Y (Nat.le_refl _) (by omega) none
  rw [bx_0, mput_self] at h
  exact h
/-- the order of the deeds with one more at place p -/
def insF (od : Nat → Int32) (dn p : Nat) : Nat → Int32 := fun j => if p < j ∧ j ≤ dn then od (j - 1) else od j
theorem ins_0 (od : Nat → Int32) (dn : Nat) : insF od dn dn = od := by
  funext j
  exact if_neg (by omega)
theorem ins_s {od : Nat → Int32} {dn p : Nat} (h : p + 1 ≤ dn) : upd (insF od dn (p + 1)) (p + 1) (insF od dn (p + 1) p) = insF od dn p := by
  funext j
  have e : insF od dn (p + 1) p = od p := if_neg (by omega)
  rw [e]
  unfold upd insF
  by_cases h1 : j = p + 1
  · subst h1
    rw [if_pos rfl, if_pos (by omega)]
    rfl
  · rw [if_neg h1]
    by_cases h2 : p + 1 < j ∧ j ≤ dn
    · rw [if_pos h2, if_pos (by omega)]
    · rw [if_neg h2, if_neg (by omega)]
def dd0 (σ : mS) (dn : Nat) (x y x2 y2 o year : Int32) : mS := mput (mput (mput (mput (mput (mput (mput σ 14 0 (upd (σ 14 0) dn x)) 15 0 (upd (σ 15 0) dn y)) 16 0 (upd (σ 16 0) dn x2)) 17 0 (upd (σ 17 0) dn y2)) 18 0 (upd (σ 18 0) dn o)) 19 0 (upd (σ 19 0) dn year)) 20 0 (upd (σ 20 0) dn 0)
def deedX (σ : mS) (dn : Nat) (x y x2 y2 o year : Int32) (p : Nat) : mS := mput (mput (dd0 σ dn x y x2 y2 o year) 21 0 (upd (insF (σ 21 0) dn p) p (nI dn))) 13 0 (upd (σ 13 0) 0 (nI (dn + 1)))
theorem ev_dAdd (σ : mS) (x y x2 y2 o year : Int32) {dn : Nat} (hm : σ 13 0 0 = nI dn) (h1 : dn < 30) (hod : ∀ j, j < dn → ∃ d, d < dn ∧ σ 21 0 j = nI d) : Ev kX1_add [xD, mI x, mI y, mI x2, mI y2, mI o, mI year] σ (fun r s => r = some (mI (nI dn)) ∧ ∃ p, p ≤ dn ∧ (∀ j, p ≤ j → j < dn → year < σ 19 0 (σ 21 0 j).toNatClampNeg) ∧ (0 < p → σ 19 0 (σ 21 0 (p - 1)).toNatClampNeg ≤ year) ∧ s = deedX σ dn x y x2 y2 o year p) := by
  refine Ev.intro fun G hG => hG.run ?_
  have vd : vp_in (σ 13 0 0) 30 := by rw [hm]; exact vp_in_nI (by omega) (by omega)
  have ed : (σ 13 0 0).toNatClampNeg = dn := by rw [hm]; exact nI_cl (by omega)
  refine And.intro vd (And.intro vd (And.intro vd (And.intro vd (And.intro vd (And.intro vd (And.intro vd ?_))))))
  rw [ed]
  have fin : ∀ q, q ≤ dn → (∀ j, q ≤ j → j < dn → year < σ 19 0 (σ 21 0 j).toNatClampNeg) → (0 < q → σ 19 0 (σ 21 0 (q - 1)).toNatClampNeg ≤ year) → vp_in (nI q) 30 ∧ (some (mI (σ 13 0 0)) = some (mI (nI dn)) ∧ ∃ p, p ≤ dn ∧ (∀ j, p ≤ j → j < dn → year < σ 19 0 (σ 21 0 j).toNatClampNeg) ∧ (0 < p → σ 19 0 (σ 21 0 (p - 1)).toNatClampNeg ≤ year) ∧ mput (mput (mput (dd0 σ dn x y x2 y2 o year) 21 0 (insF (σ 21 0) dn q)) 21 0 (upd (insF (σ 21 0) dn q) (nI q).toNatClampNeg (σ 13 0 0))) 13 0 (upd (σ 13 0) 0 (σ 13 0 0 + 1)) = deedX σ dn x y x2 y2 o year p) := by
    intro q hq hj hp
    refine ⟨vp_in_nI (by omega) (by omega), by rw [hm], q, hq, hj, hp, ?_⟩
    rw [mput_mput, nI_cl (by omega), hm, nI_1]
    rfl
  have key : ∀ p, p ≤ dn → (∀ j, p ≤ j → j < dn → year < σ 19 0 (σ 21 0 j).toNatClampNeg) → G 69 [some xD, some (mI x), some (mI y), some (mI x2), some (mI y2), some (mI o), some (mI year), some (mI (σ 13 0 0)), some (mI (nI p))] [] (mput (dd0 σ dn x y x2 y2 o year) 21 0 (insF (σ 21 0) dn p)) := by
    intro p
    induction p with
    | zero =>
      intro hp hj
      exact hG.run (br_t (Int32.le_refl _) (fin 0 hp hj (fun q => absurd q (by omega))))
    | succ p ih =>
      intro hp hj
      obtain ⟨d, hd, he⟩ := hod p (by omega)
      have e1 : nI (p + 1) - 1 = nI p := by rw [nI_m1 (by omega)]; rfl
      have ep : insF (σ 21 0) dn (p + 1) p = σ 21 0 p := if_neg (by omega)
      refine hG.run (br_f (fun q => absurd (le_of_le (b := 0) q (by omega)) (by omega)) ?_)
      have v1 : vp_in (nI (p + 1) - 1) 30 := by rw [e1]; exact vp_in_nI (by omega) (by omega)
      refine And.intro v1 ?_
      rw [e1, nI_cl (by omega)]
      have v2 : vp_in (insF (σ 21 0) dn (p + 1) p) 30 := by rw [ep, he]; exact vp_in_nI (by omega) (by omega)
      refine And.intro v2 (And.intro (fun c => ?_) (fun c => ?_))
      · replace c : upd (σ 19 0) dn year (insF (σ 21 0) dn (p + 1) p).toNatClampNeg ≤ year := c
        rw [ep, upd_ne _ _ (by rw [he, nI_cl (by omega)]; omega)] at c
        exact fin (p + 1) hp hj (fun _ => c)
      · replace c : ¬ upd (σ 19 0) dn year (insF (σ 21 0) dn (p + 1) p).toNatClampNeg ≤ year := c
        rw [ep, upd_ne _ _ (by rw [he, nI_cl (by omega)]; omega)] at c
        have c := Int32.not_le.mp c
        have h5 := ih (by omega) (fun j a b => by
          by_cases hjp : j = p
          · subst hjp; exact c
          · exact hj j (by omega) b)
        rw [← ins_s hp, ← mput_mput _ 21 0 (insF (σ 21 0) dn (p + 1)), ← nI_d] at h5
        refine And.intro v1 (And.intro (vp_in_nI (by omega) (by omega)) ?_)
        rw [e1, nI_cl (n := p) (by omega), nI_cl (n := p + 1) (by omega)]
        exact h5
  have h := key dn (Nat.le_refl _) (fun j a b => absurd a (by omega))
  rw [ins_0, show σ 21 0 = dd0 σ dn x y x2 y2 o year 21 0 from rfl, mput_self, ← hm] at h
  exact h
def msU (g : Nat → Int32) (a b c : Int32) : Nat → Int32 := fun j => if j = 1 then a else if j = 2 then b else if j = 3 then c else g j
theorem ms_0 (g : Nat → Int32) (a b c : Int32) : upd (upd (upd g 1 a) 2 b) 3 c = msU g a b c := by
  funext j
  unfold upd msU
  by_cases h1 : j = 1
  · subst h1; rfl
  · by_cases h2 : j = 2
    · subst h2; rfl
    · by_cases h3 : j = 3
      · subst h3; rfl
      · rw [if_neg h3, if_neg h2, if_neg h1, if_neg h1, if_neg h2, if_neg h3]
theorem ms_1 (g : Nat → Int32) (a b c x y : Int32) : upd (upd (msU g a b c) 1 x) 3 y = msU g x b y := by
  funext j
  unfold upd msU
  by_cases h1 : j = 1
  · subst h1; rfl
  · by_cases h2 : j = 2
    · subst h2; rfl
    · by_cases h3 : j = 3
      · subst h3; rfl
      · rw [if_neg h3, if_neg h1, if_neg h1, if_neg h2, if_neg h3, if_neg h1, if_neg h2, if_neg h3]
theorem ms_2 (g : Nat → Int32) (a b c x y : Int32) : upd (upd (msU g a b c) 2 x) 3 y = msU g a x y := by
  funext j
  unfold upd msU
  by_cases h1 : j = 1
  · subst h1; rfl
  · by_cases h2 : j = 2
    · subst h2; rfl
    · by_cases h3 : j = 3
      · subst h3; rfl
      · rw [if_neg h3, if_neg h2, if_neg h1, if_neg h2, if_neg h3, if_neg h1, if_neg h2, if_neg h3]
noncomputable def lsX (W : Nat) (Q : Nat → Prop) (a n : Nat) : Nat := fo (fun b l => ifp (Q b) (min l (apF (emb W a) (emb W b))) l) 13 n
theorem lsX_le (W : Nat) (Q : Nat → Prop) (a : Nat) : ∀ n, lsX W Q a n ≤ 13
  | 0 => Nat.le_refl _
  | n + 1 => by
    have h := lsX_le W Q a n
    show ifp (Q n) (min (lsX W Q a n) (apF (emb W a) (emb W n))) (lsX W Q a n) ≤ 13
    by_cases hq : Q n
    · rw [ifp_t hq]; omega
    · rw [ifp_f hq]; exact h
theorem ev_aFast (σ : mS) {W H m a : Nat} (I : GR σ W H) (ha : a < W * H) : Ev kX6_apartFromFast [xS, mR 10 m, mI (nI a)] σ (fun r s => r = some (mI (nI (lsX W (fun b => σ 11 m b = 4) a (W * H)))) ∧ s = σ) := by
  have I0 := I
  obtain ⟨⟨hW, hW0, hW1⟩, ⟨hH, hH0, hH1⟩, hc, hk⟩ := I
  have hN := gr_le hW1 hH1
  refine Ev.intro fun G hG => hG.run ?_
  have key := loop_up (G := G) 6 (W * H) (fun i => [some xS, some (mR 10 m), some (mI (nI a)), some (mI (nI (lsX W (fun b => σ 11 m b = 4) a i))), some (mI (nI i))]) (fun _ => σ) ?_ ?_ 0 (by omega)
  · exact key
  · intro i hi ih
    refine hG.run (br_f ?_ ?_)
    · show ¬ σ 1 0 2 ≤ nI i
      rw [hc]; exact nI_ge hi (by omega)
    · refine And.intro (vp_in_nI (by omega) (by omega)) ?_
      rw [nI_cl (by omega)]
      have e : lsX W (fun b => σ 11 m b = 4) a (i + 1) = ifp (σ 11 m i = 4) (min (lsX W (fun b => σ 11 m b = 4) a i) (apF (emb W a) (emb W i))) (lsX W (fun b => σ 11 m b = 4) a i) := rfl
      rw [e, ← nI_1] at ih
      refine And.intro (fun c => ?_) (fun c => ?_)
      · replace c : ¬ σ 11 m i = 4 := c
        rw [ifp_f c] at ih
        exact ih
      · replace c : σ 11 m i = 4 := c
        have h2 := apF_le (emb_lt hW0 hW1 hH1 ha) (emb_lt hW0 hW1 hH1 hi)
        have h3 := lsX_le W (fun b => σ 11 m b = 4) a i
        rw [ifp_t c, ← min_nI (by omega) (by omega)] at ih
        refine call_of (ev_xapart σ I0 ha hi) ?_
        exact ih
  · refine hG.run (br_t ?_ ⟨rfl, rfl⟩)
    show σ 1 0 2 ≤ nI (W * H)
    rw [hc]; exact Int32.le_refl _
theorem ev_aWater (σ : mS) {W H m a : Nat} (I : GR σ W H) (ha : a < W * H) : Ev kX6_apartFromOldWater [xS, mR 10 m, mI (nI a)] σ (fun r s => r = some (mI (nI (lsX W (fun b => σ 11 m b = 0 ∨ σ 11 m b = 2 ∨ σ 11 m b = 3) a (W * H)))) ∧ s = σ) := by
  have I0 := I
  obtain ⟨⟨hW, hW0, hW1⟩, ⟨hH, hH0, hH1⟩, hc, hk⟩ := I
  have hN := gr_le hW1 hH1
  refine Ev.intro fun G hG => hG.run ?_
  have key := loop_up (G := G) 6 (W * H) (fun i => [some xS, some (mR 10 m), some (mI (nI a)), some (mI (nI (lsX W (fun b => σ 11 m b = 0 ∨ σ 11 m b = 2 ∨ σ 11 m b = 3) a i))), some (mI (nI i))]) (fun _ => σ) ?_ ?_ 0 (by omega)
  · exact key
  · intro i hi ih
    refine hG.run (br_f ?_ ?_)
    · show ¬ σ 1 0 2 ≤ nI i
      rw [hc]; exact nI_ge hi (by omega)
    · refine call_of (ev_wasWater σ (m := m) (k := i) (by omega)) ?_
      have e : lsX W (fun b => σ 11 m b = 0 ∨ σ 11 m b = 2 ∨ σ 11 m b = 3) a (i + 1) = ifp (σ 11 m i = 0 ∨ σ 11 m i = 2 ∨ σ 11 m i = 3) (min (lsX W (fun b => σ 11 m b = 0 ∨ σ 11 m b = 2 ∨ σ 11 m b = 3) a i) (apF (emb W a) (emb W i))) (lsX W (fun b => σ 11 m b = 0 ∨ σ 11 m b = 2 ∨ σ 11 m b = 3) a i) := rfl
      rw [e, ← nI_1] at ih
      refine And.intro (fun c => ?_) (fun c => ?_)
      · rw [ifp_f (b_f c)] at ih
        exact ih
      · have h2 := apF_le (emb_lt hW0 hW1 hH1 ha) (emb_lt hW0 hW1 hH1 hi)
        have h3 := lsX_le W (fun b => σ 11 m b = 0 ∨ σ 11 m b = 2 ∨ σ 11 m b = 3) a i
        rw [ifp_t (b_t c), ← min_nI (by omega) (by omega)] at ih
        refine call_of (ev_xapart σ I0 ha hi) ?_
        exact ih
  · refine hG.run (br_t ?_ ⟨rfl, rfl⟩)
    show σ 1 0 2 ≤ nI (W * H)
    rw [hc]; exact Int32.le_refl _
/-- lost, new and how far, over the first n cells -/
noncomputable def msF (W N : Nat) (kd : Nat → Int32) (n : Nat) : (Int32 × Int32) × Nat := fo (fun c st => ifp (kd c = 2 ∨ kd c = 3) ((st.1.1, st.1.2 + 1), max st.2 (lsX W (fun b => kd b = 4) c N)) (if kd c = 1 then ((st.1.1 + 1, st.1.2), max st.2 (lsX W (fun b => kd b = 0 ∨ kd b = 2 ∨ kd b = 3) c N)) else st)) ((0, 0), 0) n
theorem msF_le (W N : Nat) (kd : Nat → Int32) : ∀ n, (msF W N kd n).2 ≤ 13
  | 0 => Nat.zero_le _
  | n + 1 => by
    have h := msF_le W N kd n
    have h1 := lsX_le W (fun b => kd b = 4) n N
    have h2 := lsX_le W (fun b => kd b = 0 ∨ kd b = 2 ∨ kd b = 3) n N
    have e : msF W N kd (n + 1) = ifp (kd n = 2 ∨ kd n = 3) (((msF W N kd n).1.1, (msF W N kd n).1.2 + 1), max (msF W N kd n).2 (lsX W (fun b => kd b = 4) n N)) (if kd n = 1 then (((msF W N kd n).1.1 + 1, (msF W N kd n).1.2), max (msF W N kd n).2 (lsX W (fun b => kd b = 0 ∨ kd b = 2 ∨ kd b = 3) n N)) else msF W N kd n) := rfl
    rw [e]
    by_cases hq : kd n = 2 ∨ kd n = 3
    · rw [ifp_t hq]; exact Nat.max_le.mpr ⟨h, h1⟩
    · rw [ifp_f hq]
      by_cases hr : kd n = 1
      · rw [if_pos hr]; exact Nat.max_le.mpr ⟨h, h2⟩
      · rw [if_neg hr]; exact h
noncomputable def msS (σ : mS) (W N m n : Nat) : mS := mput σ 10 m (msU (σ 10 m) (msF W N (σ 11 m) n).1.1 (msF W N (σ 11 m) n).1.2 (nI (msF W N (σ 11 m) n).2))
theorem ev_measure (σ : mS) {W H m : Nat} (I : GR σ W H) : Ev kX6_measure [xS, mR 10 m] σ (fun r s => r = none ∧ s = msS σ W (W * H) m (W * H)) := by
  have I0 := I
  obtain ⟨⟨hW, hW0, hW1⟩, ⟨hH, hH0, hH1⟩, hc, hk⟩ := I
  have hN := gr_le hW1 hH1
  refine Ev.intro fun G hG => hG.run ?_
  have key := loop_up (G := G) 17 (W * H) (fun i => [some xS, some (mR 10 m), some (mI (nI i))]) (fun i => msS σ W (W * H) m i) ?_ ?_ 0 (by omega)
  · have key : G 17 [some xS, some (mR 10 m), some (mI (nI 0))] [] (mput σ 10 m (msU (σ 10 m) 0 0 0)) := key
    rw [← ms_0, ← mput_mput σ 10 m (upd (upd (σ 10 m) 1 0) 2 0), ← mput_mput σ 10 m (upd (σ 10 m) 1 0)] at key
    show G 17 _ [] _
    rw [mput_eq, mput_eq]
    exact key
  · intro i hi ih
    have hle := msF_le W (W * H) (σ 11 m) i
    have e : msF W (W * H) (σ 11 m) (i + 1) = ifp (σ 11 m i = 2 ∨ σ 11 m i = 3) (((msF W (W * H) (σ 11 m) i).1.1, (msF W (W * H) (σ 11 m) i).1.2 + 1), max (msF W (W * H) (σ 11 m) i).2 (lsX W (fun b => σ 11 m b = 4) i (W * H))) (if σ 11 m i = 1 then (((msF W (W * H) (σ 11 m) i).1.1 + 1, (msF W (W * H) (σ 11 m) i).1.2), max (msF W (W * H) (σ 11 m) i).2 (lsX W (fun b => σ 11 m b = 0 ∨ σ 11 m b = 2 ∨ σ 11 m b = 3) i (W * H))) else msF W (W * H) (σ 11 m) i) := rfl
    have ih : G 17 [some xS, some (mR 10 m), some (mI (nI (i + 1)))] [] (mput σ 10 m (msU (σ 10 m) (msF W (W * H) (σ 11 m) (i + 1)).1.1 (msF W (W * H) (σ 11 m) (i + 1)).1.2 (nI (msF W (W * H) (σ 11 m) (i + 1)).2))) := ih
    rw [e, ← nI_1] at ih
    show G 17 _ [] (mput σ 10 m (msU (σ 10 m) (msF W (W * H) (σ 11 m) i).1.1 (msF W (W * H) (σ 11 m) i).1.2 (nI (msF W (W * H) (σ 11 m) i).2)))
    generalize msF W (W * H) (σ 11 m) i = q at hle ih ⊢
    obtain ⟨⟨lo, nw⟩, fr⟩ := q
    refine hG.run (br_f ?_ ?_)
    · show ¬ σ 1 0 2 ≤ nI i
      rw [hc]; exact nI_ge hi (by omega)
    · refine call_of (ev_isNew _ (m := m) (k := i) (by omega)) ?_
      refine And.intro (fun c => ?_) (fun c => ?_)
      · have c : ¬ (σ 11 m i = 2 ∨ σ 11 m i = 3) := b_f c
        rw [ifp_f c] at ih
        refine And.intro (vp_in_nI (by omega) (by omega)) ?_
        rw [nI_cl (by omega)]
        refine And.intro (fun c2 => ?_) (fun c2 => ?_)
        · replace c2 : ¬ σ 11 m i = 1 := c2
          rw [if_neg c2] at ih
          exact ih
        · replace c2 : σ 11 m i = 1 := c2
          rw [if_pos c2] at ih
          refine call_of (ev_aWater _ (W := W) (H := H) (m := m) (a := i) ?_ hi) ?_
          · exact I0
          · have h2 := lsX_le W (fun b => σ 11 m b = 0 ∨ σ 11 m b = 2 ∨ σ 11 m b = 3) i (W * H)
            show G 17 _ [] _
            simp only [mput_eq, mput_mput]
            rw [ms_1]
            dsimp only at ih hle
            rw [← max_nI (by omega) (by omega)] at ih
            exact ih
      · have c : (σ 11 m i = 2 ∨ σ 11 m i = 3) := b_t c
        rw [ifp_t c] at ih
        refine call_of (ev_aFast _ (W := W) (H := H) (m := m) (a := i) ?_ hi) ?_
        · exact I0
        · have h2 := lsX_le W (fun b => σ 11 m b = 4) i (W * H)
          show G 17 _ [] _
          simp only [mput_eq, mput_mput]
          rw [ms_2]
          dsimp only at ih hle
          rw [← max_nI (by omega) (by omega)] at ih
          exact ih
  · refine hG.run (br_t ?_ ⟨rfl, rfl⟩)
    show σ 1 0 2 ≤ nI (W * H)
    rw [hc]; exact Int32.le_refl _
