/-! THE REFERENCE: boxes, deeds, laws, judgements, counts, maps in years -/
theorem rem12 {a : Nat} (h : a < 2 ^ 31) : nI a - nI a / 12 * 12 = nI (a % 12) := pk_rem (d := 12) h (by omega) (by omega)
theorem div12 {a : Nat} (h : a < 2 ^ 31) : nI a / 12 = nI (a / 12) := pk_div (d := 12) h (by omega) (by omega)
def inBox (c a b : Nat) : Prop := (a % 12 ≤ c % 12 ∧ c % 12 ≤ b % 12) ∧ (a / 12 ≤ c / 12 ∧ c / 12 ≤ b / 12)
theorem ev_isInBox (σ : mS) {c a b : Nat} (hc : c < 144) (ha : a < 144) (hb : b < 144) : Ev kX8_isInBox [mI (nI c), mI (nI a), mI (nI b)] σ (fun r s => r = some (mI (b2i (inBox c a b))) ∧ s = σ) := by
  refine Ev.intro fun G hG => hG.run ?_
  refine And.intro (by decide) (And.intro (by decide) (And.intro (by decide) ?_))
  rw [rem12 (by omega), rem12 (by omega), rem12 (by omega)]
  refine call_of (ev_inI σ (nI (c % 12)) (nI (a % 12)) (nI (b % 12))) ?_
  have e1 : (nI (a % 12) ≤ nI (c % 12) ∧ nI (c % 12) ≤ nI (b % 12)) ↔ (a % 12 ≤ c % 12 ∧ c % 12 ≤ b % 12) := by rw [nI_leI (by omega) (by omega), nI_leI (by omega) (by omega)]
  have e2 : (nI (a / 12) ≤ nI (c / 12) ∧ nI (c / 12) ≤ nI (b / 12)) ↔ (a / 12 ≤ c / 12 ∧ c / 12 ≤ b / 12) := by rw [nI_leI (by omega) (by omega), nI_leI (by omega) (by omega)]
  have no : ¬ inBox c a b → (some (mI ((0 : Int32) &&& 1)) : Option mV) = some (mI (b2i (inBox c a b))) ∧ σ = σ := fun q => ⟨by rw [b2i_f q]; rfl, rfl⟩
  refine And.intro (fun c1 => no (fun q => b_f c1 (e1.mpr q.1))) (fun c1 => ?_)
  refine And.intro (by decide) (And.intro (by decide) (And.intro (by decide) ?_))
  rw [div12 (by omega), div12 (by omega), div12 (by omega)]
  refine call_of (ev_inI σ (nI (c / 12)) (nI (a / 12)) (nI (b / 12))) ?_
  refine And.intro (fun c2 => no (fun q => b_f c2 (e2.mpr q.2))) (fun c2 => ?_)
  refine ⟨?_, rfl⟩
  rw [b2i_t (P := inBox c a b) ⟨e1.mp (b_t c1), e2.mp (b_t c2)⟩]
  rfl
noncomputable def ownF (f : Nat → Int32) (a b : Nat) (o : Int32) (n : Nat) : Nat → Int32 := fun j => ifp (j < n ∧ inBox j a b) o (f j)
theorem ownF_0 (f : Nat → Int32) (a b : Nat) (o : Int32) : ownF f a b o 0 = f := by
  funext j
  exact ifp_f (by omega)
theorem ownF_s (f : Nat → Int32) (a b : Nat) (o : Int32) (n : Nat) : upd (ownF f a b o n) n (ifp (inBox n a b) o (f n)) = ownF f a b o (n + 1) := by
  funext j
  unfold ownF
  by_cases h1 : j = n
  · subst h1
    rw [upd_eq]
    exact ifp_c ⟨fun q => ⟨by omega, q⟩, fun q => q.2⟩
  · rw [upd_ne _ _ h1]
    exact ifp_c ⟨fun q => ⟨by omega, q.2⟩, fun q => ⟨by omega, q.2⟩⟩
theorem ev_own (σ : mS) (x y x2 y2 o : Int32) {W H mp : Nat} (hW : σ 40 0 1 = nI W) (h1 : 0 < W) (h2 : W ≤ 12) (hH : σ 40 0 2 = nI H) (h0 : 0 < H) (h4 : H ≤ 12) (hm : σ 40 0 3 = nI mp) (h3 : mp ≤ 10) (post : Option mV → mS → Prop)
    (hbad : ¬ (boxP x y x2 y2 W H ∧ (-1 ≤ o ∧ o ≤ 9) ∧ mp ≤ 1) → post (some (mI 0)) (th0 σ))
    (hgo : (-1 ≤ o ∧ o ≤ 9) → mp ≤ 1 → ∀ X Y X2 Y2, x = nI X → y = nI Y → x2 = nI X2 → y2 = nI Y2 → X ≤ X2 → X2 < W → Y ≤ Y2 → Y2 < H → post (some (mI 1)) (mput (th0 σ) 56 0 (ownF (σ 56 0) (12 * Y + X) (12 * Y2 + X2) o 144))) : Ev kX8_own [mM, mI x, mI y, mI x2, mI y2, mI o] σ post := by
  refine Ev.intro fun G hG => hG.run ?_
  refine call_of (ev_isBox (th0 σ) x y x2 y2 hW h1 h2 hH h0 h4) ?_
  refine And.intro (fun c1 => hbad (fun q => b_f c1 q.1)) (fun c1 => ?_)
  have c1 := b_t c1
  refine call_of (ev_inI _ o (-1) 9) ?_
  refine And.intro (fun c2 => hbad (fun q => b_f c2 q.2.1)) (fun c2 => ?_)
  have c2 := b_t c2
  refine And.intro (fun c3 => ?_) (fun c3 => ?_)
  · replace c3 : σ 40 0 3 ≤ 1 := c3
    rw [hm] at c3
    have c3 : mp ≤ 1 := le_of_le (b := 1) c3 (by omega)
    obtain ⟨⟨d1, d2⟩, ⟨d3, d4⟩, d5, d6⟩ := c1
    obtain ⟨X, hX, rfl⟩ := (vp_nI (by omega)).mp d1
    obtain ⟨Y, hY, rfl⟩ := (vp_nI (by omega)).mp d2
    obtain ⟨X2, hX2, rfl⟩ := (vp_nI (by omega)).mp d3
    obtain ⟨Y2, hY2, rfl⟩ := (vp_nI (by omega)).mp d4
    have hgo := hgo c2 c3 X Y X2 Y2 rfl rfl rfl rfl (le_of_le d5 (by omega)) hX2 (le_of_le d6 (by omega)) hY2
    have key := loop_up (G := G) 45 144 (fun i => [some mM, some (mI (nI X)), some (mI (nI Y)), some (mI (nI X2)), some (mI (nI Y2)), some (mI o), some (mI (nI i))]) (fun i => mput (th0 σ) 56 0 (ownF (σ 56 0) (12 * Y + X) (12 * Y2 + X2) o i)) ?_ ?_ 0 (by omega)
    · rw [ownF_0, show σ 56 0 = th0 σ 56 0 from rfl, mput_self] at key
      exact key
    · intro i hi ih
      refine hG.run (br_f (nI_ge (b := 144) hi (by decide)) ?_)
      refine call_of (ev_cell _ (nI X) (nI Y)) ?_
      refine call_of (ev_cell _ (nI X2) (nI Y2)) ?_
      rw [idx1, idx1]
      refine call_of (ev_isInBox _ hi (by omega) (by omega)) ?_
      have fin : G 45 [some mM, some (mI (nI X)), some (mI (nI Y)), some (mI (nI X2)), some (mI (nI Y2)), some (mI o), some (mI (nI i + 1))] [] (mput (mput (th0 σ) 56 0 (ownF (σ 56 0) (12 * Y + X) (12 * Y2 + X2) o i)) 56 0 (upd (ownF (σ 56 0) (12 * Y + X) (12 * Y2 + X2) o i) i (ifp (inBox i (12 * Y + X) (12 * Y2 + X2)) o (σ 56 0 i)))) := by
        rw [mput_mput, ownF_s, nI_1]
        exact ih
      refine And.intro (fun c5 => ?_) (fun c5 => ?_)
      · rw [ifp_f (b_f c5)] at fin
        refine And.intro (vp_in_nI hi (by omega)) (And.intro (vp_in_nI hi (by omega)) ?_)
        rw [nI_cl (by omega)]
        have e5 : ownF (σ 56 0) (12 * Y + X) (12 * Y2 + X2) o i i = σ 56 0 i := ifp_f (by omega)
        rw [← e5] at fin
        exact fin
      · rw [ifp_t (b_t c5)] at fin
        refine And.intro (vp_in_nI hi (by omega)) ?_
        rw [nI_cl (by omega)]
        exact fin
    · exact hG.run (br_t (Int32.le_refl _) hgo)
  · replace c3 : ¬ σ 40 0 3 ≤ 1 := c3
    rw [hm] at c3
    exact hbad (fun q => c3 (nI_le (b := 1) q.2.2 (by omega)))
def deedS (σ : mS) (dn a b : Nat) (o year : Int32) : mS := mput (mput (mput (mput (mput (mput σ 58 0 (upd (σ 58 0) dn (nI a))) 59 0 (upd (σ 59 0) dn (nI b))) 60 0 (upd (σ 60 0) dn o)) 61 0 (upd (σ 61 0) dn year)) 62 0 (upd (σ 62 0) dn 0)) 40 0 (upd (σ 40 0) 7 (nI (dn + 1)))
theorem ev_deed (σ : mS) (x y x2 y2 o year : Int32) {W H dn : Nat} (hW : σ 40 0 1 = nI W) (h1 : 0 < W) (h2 : W ≤ 12) (hH : σ 40 0 2 = nI H) (h0 : 0 < H) (h4 : H ≤ 12) (hm : σ 40 0 7 = nI dn) (h3 : dn ≤ 30) (post : Option mV → mS → Prop)
    (hbad : ¬ (boxP x y x2 y2 W H ∧ (0 ≤ o ∧ o ≤ 9) ∧ vp_in year 201 ∧ dn < 30) → post (some (mI (-1))) (th0 σ))
    (hgo : (0 ≤ o ∧ o ≤ 9) → vp_in year 201 → dn < 30 → ∀ X Y X2 Y2, x = nI X → y = nI Y → x2 = nI X2 → y2 = nI Y2 → X ≤ X2 → X2 < W → Y ≤ Y2 → Y2 < H → post (some (mI (nI dn))) (deedS (th0 σ) dn (12 * Y + X) (12 * Y2 + X2) o year)) : Ev kX8_deed [mM, mI x, mI y, mI x2, mI y2, mI o, mI year] σ post := by
  refine Ev.intro fun G hG => hG.run ?_
  refine call_of (ev_isBox (th0 σ) x y x2 y2 hW h1 h2 hH h0 h4) ?_
  refine And.intro (fun c1 => hbad (fun q => b_f c1 q.1)) (fun c1 => ?_)
  have c1 := b_t c1
  refine call_of (ev_inI _ o 0 9) ?_
  refine And.intro (fun c2 => hbad (fun q => b_f c2 q.2.1)) (fun c2 => ?_)
  have c2 := b_t c2
  refine call_of (ev_isYear _ year) ?_
  refine And.intro (fun c3 => hbad (fun q => b_f c3 q.2.2.1)) (fun c3 => ?_)
  have c3 := b_t c3
  refine And.intro (fun c4 => ?_) (fun c4 => ?_)
  · replace c4 : ¬ σ 40 0 7 = 30 := c4
    have c5 : dn < 30 := by
      rcases Nat.lt_or_ge dn 30 with q | q
      · exact q
      · exact absurd (by rw [hm, show dn = 30 by omega]; rfl) c4
    obtain ⟨⟨d1, d2⟩, ⟨d3, d4⟩, d5, d6⟩ := c1
    obtain ⟨X, hX, rfl⟩ := (vp_nI (by omega)).mp d1
    obtain ⟨Y, hY, rfl⟩ := (vp_nI (by omega)).mp d2
    obtain ⟨X2, hX2, rfl⟩ := (vp_nI (by omega)).mp d3
    obtain ⟨Y2, hY2, rfl⟩ := (vp_nI (by omega)).mp d4
    have hgo := hgo c2 c3 c5 X Y X2 Y2 rfl rfl rfl rfl (le_of_le d5 (by omega)) hX2 (le_of_le d6 (by omega)) hY2
    have hv : vp_in (σ 40 0 7) 30 := by rw [hm]; exact vp_in_nI c5 (by omega)
    refine call_of (ev_cell _ (nI X) (nI Y)) (And.intro hv ?_)
    refine call_of (ev_cell _ (nI X2) (nI Y2)) (And.intro hv (And.intro hv (And.intro hv (And.intro hv ?_))))
    have e3 : σ 40 0 7 + 1 = nI (dn + 1) := by rw [hm, nI_1]
    have e4 : (σ 40 0 7).toNatClampNeg = dn := by rw [hm, nI_cl (by omega)]
    show post (some (mI (upd (th0 σ 40 0) 7 (σ 40 0 7 + 1) 7 - 1))) (mput (mput (mput (mput (mput (mput (th0 σ) 58 0 (upd (σ 58 0) (σ 40 0 7).toNatClampNeg (12 * nI Y + nI X))) 59 0 (upd (σ 59 0) (σ 40 0 7).toNatClampNeg (12 * nI Y2 + nI X2))) 60 0 (upd (σ 60 0) (σ 40 0 7).toNatClampNeg o)) 61 0 (upd (σ 61 0) (σ 40 0 7).toNatClampNeg year)) 62 0 (upd (σ 62 0) (σ 40 0 7).toNatClampNeg 0)) 40 0 (upd (th0 σ 40 0) 7 (σ 40 0 7 + 1)))
    rw [e3, e4, upd_eq, nI_pred, idx1, idx1]
    exact hgo
  · replace c4 : σ 40 0 7 = 30 := c4
    rw [hm] at c4
    exact hbad (fun q => absurd ((nI_eq (b := 30) (by omega) (by omega)).mp c4) (by omega))
/-- 0 .. n - 1 where n may be 0, as the reference asks it -/
theorem in_iff0 {x : Int32} {n : Nat} (hn : n < 2 ^ 31) : (0 ≤ x ∧ x ≤ nI n - 1) ↔ vp_in x n := by
  by_cases h0 : 0 < n
  · exact in_iff h0 hn
  · have : n = 0 := by omega
    subst this
    rw [vp_in_iff, show nI 0 - 1 = -1 from rfl, Int32.le_iff_toInt_le, Int32.le_iff_toInt_le, Int32.toInt_zero, show (-1 : Int32).toInt = -1 from rfl]
    omega
theorem ev_strike (σ : mS) (d b : Int32) {dn : Nat} (hm : σ 40 0 7 = nI dn) (h3 : dn ≤ 30) (post : Option mV → mS → Prop)
    (hbad : ¬ vp_in d dn → post (some (mI 0)) (th0 σ)) (hgo : ∀ D, D < dn → d = nI D → post (some (mI 1)) (mput (th0 σ) 62 0 (upd (σ 62 0) D (b &&& 1)))) : Ev kX8_strike [mM, mI d, mI b] σ post := by
  refine Ev.intro fun G hG => hG.run ?_
  refine call_of (ev_inI _ d 0 (σ 40 0 7 - 1)) ?_
  rw [hm, b2i_c (in_iff0 (by omega))]
  refine And.intro (fun c1 => ?_) (fun c1 => hbad (b_f c1))
  obtain ⟨D, hD, rfl⟩ := (vp_nI (by omega)).mp (b_t c1)
  refine And.intro (vp_in_nI (by omega) (by omega)) ?_
  have := hgo D hD rfl
  rw [← nI_cl (n := D) (by omega)] at this
  rw [nI_cl (by omega)] at this
  rw [nI_cl (by omega)]
  exact this
def lawS (σ : mS) (ln : Nat) (year sl su is : Int32) : mS := mput (mput (mput (mput (mput σ 64 0 (upd (σ 64 0) ln year)) 65 0 (upd (σ 65 0) ln sl)) 66 0 (upd (σ 66 0) ln su)) 67 0 (upd (σ 67 0) ln is)) 40 0 (upd (σ 40 0) 13 (nI (ln + 1)))
theorem ev_law (σ : mS) (year sl su is : Int32) {ln : Nat} (hm : σ 40 0 13 = nI ln) (h3 : ln ≤ 20) (post : Option mV → mS → Prop)
    (hbad : ¬ (vp_in year 201 ∧ (0 ≤ sl ∧ sl ≤ 1) ∧ (0 ≤ su ∧ su ≤ 1) ∧ (0 ≤ is ∧ is ≤ 2) ∧ ln < 20) → post (some (mI (-1))) (th0 σ))
    (hgo : (vp_in year 201 ∧ (0 ≤ sl ∧ sl ≤ 1) ∧ (0 ≤ su ∧ su ≤ 1) ∧ (0 ≤ is ∧ is ≤ 2) ∧ ln < 20) → post (some (mI (nI (ln + 1)))) (lawS (th0 σ) ln year sl su is)) : Ev kX8_law [mM, mI year, mI sl, mI su, mI is] σ post := by
  refine Ev.intro fun G hG => hG.run ?_
  refine call_of (ev_isYear _ year) ?_
  refine And.intro (fun c1 => hbad (fun q => b_f c1 q.1)) (fun c1 => ?_)
  refine call_of (ev_inI _ sl 0 1) ?_
  refine And.intro (fun c2 => hbad (fun q => b_f c2 q.2.1)) (fun c2 => ?_)
  refine call_of (ev_inI _ su 0 1) ?_
  refine And.intro (fun c3 => hbad (fun q => b_f c3 q.2.2.1)) (fun c3 => ?_)
  refine call_of (ev_inI _ is 0 2) ?_
  refine And.intro (fun c4 => hbad (fun q => b_f c4 q.2.2.2.1)) (fun c4 => ?_)
  refine And.intro (fun c5 => ?_) (fun c5 => ?_)
  · replace c5 : ¬ σ 40 0 13 = 20 := c5
    have c6 : ln < 20 := by
      rcases Nat.lt_or_ge ln 20 with q | q
      · exact q
      · exact absurd (by rw [hm, show ln = 20 by omega]; rfl) c5
    have hgo := hgo ⟨b_t c1, b_t c2, b_t c3, b_t c4, c6⟩
    have hv : vp_in (σ 40 0 13) 20 := by rw [hm]; exact vp_in_nI c6 (by omega)
    refine And.intro hv (And.intro hv (And.intro hv (And.intro hv ?_)))
    have e3 : σ 40 0 13 + 1 = nI (ln + 1) := by rw [hm, nI_1]
    have e4 : (σ 40 0 13).toNatClampNeg = ln := by rw [hm, nI_cl (by omega)]
    show post (some (mI (upd (th0 σ 40 0) 13 (σ 40 0 13 + 1) 13))) (mput (mput (mput (mput (mput (th0 σ) 64 0 (upd (σ 64 0) (σ 40 0 13).toNatClampNeg year)) 65 0 (upd (σ 65 0) (σ 40 0 13).toNatClampNeg sl)) 66 0 (upd (σ 66 0) (σ 40 0 13).toNatClampNeg su)) 67 0 (upd (σ 67 0) (σ 40 0 13).toNatClampNeg is)) 40 0 (upd (th0 σ 40 0) 13 (σ 40 0 13 + 1)))
    rw [e3, e4, upd_eq]
    exact hgo
  · replace c5 : σ 40 0 13 = 20 := c5
    rw [hm] at c5
    exact hbad (fun q => absurd ((nI_eq (b := 20) (by omega) (by omega)).mp c5) (by omega))
theorem ev_reach (σ : mS) (v : Int32) (post : Option mV → mS → Prop) (hbad : ¬ (1 ≤ v ∧ v ≤ 12) → post (some (mI (-1))) (th0 σ)) (hgo : (1 ≤ v ∧ v ≤ 12) → post (some (mI (σ 40 0 18))) (mput σ 40 0 (upd (upd (σ 40 0) 0 0) 18 v))) : Ev kX8_reach [mM, mI v] σ post := by
  refine Ev.intro fun G hG => hG.run ?_
  refine call_of (ev_inI _ v 1 12) ?_
  refine And.intro (fun c1 => ?_) (fun c1 => hbad (b_f c1))
  have h := hgo (b_t c1)
  rw [← mput_mput σ 40 0 (upd (σ 40 0) 0 0)] at h
  exact h
/-- steps are 1 .. maps - 1 -/
def stepP (st : Int32) (mp : Nat) : Prop := ∃ j, 0 < j ∧ j < mp ∧ st = nI j
theorem step_iff {x : Int32} {n : Nat} (hn : n < 2 ^ 31) : (1 ≤ x ∧ x ≤ nI n - 1) ↔ stepP x n := by
  constructor
  · rintro ⟨h1, h2⟩
    have h0 : 0 < n := by
      rcases Nat.eq_zero_or_pos n with q | q
      · subst q
        rw [show nI 0 - 1 = -1 from rfl] at h2
        rw [Int32.le_iff_toInt_le] at h1 h2
        rw [show (1 : Int32).toInt = 1 from rfl] at h1
        rw [show (-1 : Int32).toInt = -1 from rfl] at h2
        omega
      · exact q
    obtain ⟨j, h3, rfl⟩ := (vp_nI hn).mp ((in_iff h0 hn).mp ⟨by
      rw [Int32.le_iff_toInt_le] at h1 ⊢
      rw [show (1 : Int32).toInt = 1 from rfl] at h1
      rw [Int32.toInt_zero]
      omega, h2⟩)
    exact ⟨j, le_of_le (a := 1) h1 (by omega), h3, rfl⟩
  · rintro ⟨j, h1, h2, rfl⟩
    rw [nI_m1 (by omega)]
    exact ⟨nI_le (a := 1) h1 (by omega), nI_le (by omega) (by omega)⟩
theorem ev_isStep (σ : mS) (st : Int32) {mp : Nat} (hm : σ 40 0 3 = nI mp) (h3 : mp ≤ 10) : Ev kX8_isStep [mM, mI st] σ (fun r s => r = some (mI (b2i (stepP st mp))) ∧ s = σ) := by
  refine Ev.intro fun G hG => hG.run ?_
  refine call_of (ev_inI _ st 1 (σ 40 0 3 - 1)) ?_
  rw [hm, b2i_c (step_iff (by omega))]
  exact ⟨congrArg (fun z => some (mI z)) (b2i_and _), rfl⟩
theorem ev_judge (σ : mS) (st how : Int32) {mp : Nat} (hm : σ 40 0 3 = nI mp) (h3 : mp ≤ 10) (post : Option mV → mS → Prop)
    (hbad : ¬ (stepP st mp ∧ (-1 ≤ how ∧ how ≤ 1)) → post (some (mI 0)) (th0 σ)) (hgo : ∀ j, 0 < j → j < mp → st = nI j → (-1 ≤ how ∧ how ≤ 1) → post (some (mI 1)) (mput (th0 σ) 69 0 (upd (σ 69 0) j how))) : Ev kX8_judge [mM, mI st, mI how] σ post := by
  refine Ev.intro fun G hG => hG.run ?_
  refine call_of (ev_isStep (th0 σ) st hm h3) ?_
  refine And.intro (fun c1 => hbad (fun q => b_f c1 q.1)) (fun c1 => ?_)
  refine call_of (ev_inI _ how (-1) 1) ?_
  refine And.intro (fun c2 => ?_) (fun c2 => hbad (fun q => b_f c2 q.2))
  obtain ⟨j, h5, h6, rfl⟩ := b_t c1
  refine And.intro (vp_in_nI (by omega) (by omega)) ?_
  rw [nI_cl (by omega)]
  exact hgo j h5 h6 rfl (b_t c2)
