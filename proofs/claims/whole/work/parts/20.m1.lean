/-! THE REFERENCE: small methods -/
abbrev mM : mV := mR 40 0
theorem ev_in (σ : mS) (v lo hi : Int64) : Ev kX8_in [mJ v, mJ lo, mJ hi] σ (fun r s => r = some (mI (b2i (lo ≤ v ∧ v ≤ hi))) ∧ s = σ) := by
  refine Ev.intro fun G hG => hG.run ?_
  refine And.intro (fun c1 => ?_) (fun c1 => And.intro (fun c2 => ?_) (fun c2 => ?_))
  · rw [lgc_lt, Int64.lt_iff_toInt_lt] at c1
    rw [b2i_f (P := lo ≤ v ∧ v ≤ hi) (by rw [Int64.le_iff_toInt_le]; omega)]
    exact ⟨rfl, rfl⟩
  · rw [lgc_gt, Int64.lt_iff_toInt_lt] at c2
    rw [b2i_f (P := lo ≤ v ∧ v ≤ hi) (by rw [Int64.le_iff_toInt_le, Int64.le_iff_toInt_le]; omega)]
    exact ⟨rfl, rfl⟩
  · rw [lgc_lt, Int64.lt_iff_toInt_lt] at c1
    rw [lgc_gt, Int64.lt_iff_toInt_lt] at c2
    rw [b2i_t (P := lo ≤ v ∧ v ≤ hi) (by rw [Int64.le_iff_toInt_le, Int64.le_iff_toInt_le]; omega)]
    exact ⟨rfl, rfl⟩
/-- the same, of ints -/
theorem ev_inI (σ : mS) (v lo hi : Int32) : Ev kX8_in [mJ v.toInt64, mJ lo.toInt64, mJ hi.toInt64] σ (fun r s => r = some (mI (b2i (lo ≤ v ∧ v ≤ hi))) ∧ s = σ) := by
  have h := ev_in σ v.toInt64 lo.toInt64 hi.toInt64
  rw [b2i_c (show (lo.toInt64 ≤ v.toInt64 ∧ v.toInt64 ≤ hi.toInt64) ↔ (lo ≤ v ∧ v ≤ hi) by rw [wide_le, wide_le])] at h
  exact h
theorem ev_thrown (σ : mS) : Ev kX8_thrown [mM] σ (fun r s => r = some (mI (σ 40 0 0)) ∧ s = σ) :=
  Ev.intro fun G hG => hG.run ⟨rfl, rfl⟩
theorem ev_refuse (σ : mS) : Ev kX8_refuse [mM] σ (fun r s => r = some (mI 0) ∧ s = mput σ 40 0 (upd (σ 40 0) 0 1)) :=
  Ev.intro fun G hG => hG.run ⟨rfl, rfl⟩
theorem ev_isCell (σ : mS) (x y : Int32) {W H : Nat} (hW : σ 40 0 1 = nI W) (h1 : 0 < W) (h2 : W ≤ 12) (hH : σ 40 0 2 = nI H) (h3 : 0 < H) (h4 : H ≤ 12) : Ev kX8_isCell [mM, mI x, mI y] σ (fun r s => r = some (mI (b2i (vp_in x W ∧ vp_in y H))) ∧ s = σ) := by
  refine Ev.intro fun G hG => hG.run ?_
  refine call_of (ev_inI σ x 0 (σ 40 0 1 - 1)) ?_
  rw [hW, b2i_c (in_iff h1 (by omega))]
  refine And.intro (fun c1 => ?_) (fun c1 => ?_)
  · rw [b2i_f (P := vp_in x W ∧ vp_in y H) (fun q => b2i_0.mp c1 q.1)]
    exact ⟨rfl, rfl⟩
  · refine call_of (ev_inI σ y 0 (σ 40 0 2 - 1)) ?_
    rw [hH, b2i_c (in_iff h3 (by omega))]
    have c1 := Classical.not_not.mp (fun q => c1 (b2i_0.mpr q))
    refine And.intro (fun c2 => ?_) (fun c2 => ?_)
    · rw [b2i_f (P := vp_in x W ∧ vp_in y H) (fun q => b2i_0.mp c2 q.2)]
      exact ⟨rfl, rfl⟩
    · rw [b2i_t (P := vp_in x W ∧ vp_in y H) ⟨c1, Classical.not_not.mp (fun q => c2 (b2i_0.mpr q))⟩]
      exact ⟨rfl, rfl⟩
theorem ev_isYear (σ : mS) (y : Int32) : Ev kX8_isYear [mI y] σ (fun r s => r = some (mI (b2i (vp_in y 201))) ∧ s = σ) := by
  refine Ev.intro fun G hG => hG.run ?_
  refine call_of (ev_inI σ y 0 200) ?_
  rw [b2i_c (show (0 ≤ y ∧ y ≤ 200) ↔ vp_in y 201 from in_iff (x := y) (n := 201) (by omega) (by omega))]
  exact ⟨congrArg (fun z => some (mI z)) (b2i_and _), rfl⟩
theorem ev_cell (σ : mS) (x y : Int32) : Ev kX8_cell [mI x, mI y] σ (fun r s => r = some (mI (12 * y + x)) ∧ s = σ) :=
  Ev.intro fun G hG => hG.run ⟨rfl, rfl⟩
def laysS (σ : mS) : mS := mput (mput (mput (mput σ 40 0 (upd (upd (σ 40 0) 3 0) 7 0)) 55 0 (fil (σ 55 0) 0 144)) 56 0 (fil (σ 56 0) (-1) 144)) 69 0 (fil (σ 69 0) (-1) 10)
theorem ev_lays (σ : mS) : Ev kX8_lays [mM] σ (fun r s => r = none ∧ s = laysS σ) := by
  refine Ev.intro fun G hG => hG.run ?_
  show G 12 [some mM, some (mI 0)] [] (mput (mput σ 40 0 (upd (σ 40 0) 3 0)) 40 0 (upd (mput σ 40 0 (upd (σ 40 0) 3 0) 40 0) 7 0))
  rw [mput_mput, mput_eq]
  generalize hσ1 : mput σ 40 0 (upd (upd (σ 40 0) 3 0) 7 0) = σ1
  have key := loop_up (G := G) 12 144 (fun i => [some mM, some (mI (nI i))]) (fun i => mput (mput σ1 55 0 (fil (σ1 55 0) 0 i)) 56 0 (fil (σ1 56 0) (-1) i)) ?_ ?_ 0 (by omega)
  · simp only [fil_0, mput_self] at key
    exact key
  · intro i hi ih
    refine hG.run (br_f (nI_ge (b := 144) hi (by decide)) ?_)
    refine And.intro (vp_in_nI (by omega) (by omega)) (And.intro (vp_in_nI hi (by omega)) ?_)
    rw [nI_cl (by omega)]
    show G 12 [some mM, some (mI (nI i + 1))] [] (mput (mput (mput (mput σ1 55 0 (fil (σ1 55 0) 0 i)) 56 0 (fil (σ1 56 0) (-1) i)) 55 0 (upd (fil (σ1 55 0) 0 i) i 0)) 56 0 (upd (fil (σ1 56 0) (-1) i) i (-1)))
    rw [mput_cover _ _ _ _ _ _ _ _ (by decide), mput_mput, fil_s, fil_s, nI_1]
    exact ih
  · refine hG.run (br_t (Int32.le_refl _) ?_)
    have key := loop_up (G := G) 41 10 (fun i => [some mM, some (mI (nI i))]) (fun i => mput (mput (mput σ1 55 0 (fil (σ1 55 0) 0 144)) 56 0 (fil (σ1 56 0) (-1) 144)) 69 0 (fil (σ1 69 0) (-1) i)) ?_ ?_ 0 (by omega)
    · simp only [fil_0] at key
      rw [show σ1 69 0 = mput (mput σ1 55 0 (fil (σ1 55 0) 0 144)) 56 0 (fil (σ1 56 0) (-1) 144) 69 0 from rfl, mput_self] at key
      exact key
    · intro i hi ih
      refine hG.run (br_f (nI_ge (b := 10) hi (by decide)) ?_)
      refine And.intro (vp_in_nI hi (by omega)) ?_
      rw [nI_cl (by omega)]
      show G 41 [some mM, some (mI (nI i + 1))] [] (mput (mput (mput (mput σ1 55 0 (fil (σ1 55 0) 0 144)) 56 0 (fil (σ1 56 0) (-1) 144)) 69 0 (fil (σ1 69 0) (-1) i)) 69 0 (upd (fil (σ1 69 0) (-1) i) i (-1)))
      rw [mput_mput, fil_s, nI_1]
      exact ih
    · refine hG.run (br_t (Int32.le_refl _) ?_)
      refine ⟨rfl, ?_⟩
      rw [← hσ1]
      rfl
theorem ev_land (σ : mS) (w h : Int32) : Ev kX8_land [mM, mI w, mI h] σ (fun r s => r = some (mI (b2i ((1 ≤ w ∧ w ≤ 12) ∧ (1 ≤ h ∧ h ≤ 12)))) ∧ s = ifp ((1 ≤ w ∧ w ≤ 12) ∧ (1 ≤ h ∧ h ≤ 12)) (laysS (mput σ 40 0 (upd (upd (upd (σ 40 0) 0 0) 1 w) 2 h))) (mput σ 40 0 (upd (σ 40 0) 0 0))) := by
  refine Ev.intro fun G hG => hG.run ?_
  refine call_of (ev_inI _ w 1 12) ?_
  refine And.intro (fun c1 => ?_) (fun c1 => ?_)
  · have n1 : ¬ ((1 ≤ w ∧ w ≤ 12) ∧ (1 ≤ h ∧ h ≤ 12)) := fun q => b2i_0.mp c1 q.1
    rw [b2i_f n1, ifp_f n1]
    exact ⟨rfl, rfl⟩
  · have c1 := Classical.not_not.mp (fun q => c1 (b2i_0.mpr q))
    refine call_of (ev_inI _ h 1 12) ?_
    refine And.intro (fun c2 => ?_) (fun c2 => ?_)
    · have c2 := Classical.not_not.mp (fun q => c2 (b2i_0.mpr q))
      rw [b2i_t ⟨c1, c2⟩, ifp_t ⟨c1, c2⟩]
      refine call_of (ev_lays _) ?_
      refine ⟨rfl, ?_⟩
      rw [mput_mput, mput_mput]
      rfl
    · have n1 : ¬ ((1 ≤ w ∧ w ≤ 12) ∧ (1 ≤ h ∧ h ≤ 12)) := fun q => b2i_0.mp c2 q.2
      rw [b2i_f n1, ifp_f n1]
      exact ⟨rfl, rfl⟩
