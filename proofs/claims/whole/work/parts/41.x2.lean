/-! THE CLASS: atlas, deeds, laws, leaves: small methods -/
theorem ev_isEmpty (σ : mS) {mp : Nat} (hm : σ 7 0 4 = nI mp) (h1 : mp ≤ 10) : Ev kX0_isEmpty [xA] σ (fun r s => r = some (mI (b2i (mp = 0))) ∧ s = σ) := by
  refine Ev.intro fun G hG => hG.run ?_
  refine And.intro (fun c1 => ?_) (fun c1 => ?_)
  · replace c1 : ¬ σ 7 0 4 = 0 := c1
    rw [hm] at c1
    exact ⟨by rw [b2i_f (P := mp = 0) (fun q => c1 (by rw [q]; rfl))]; rfl, rfl⟩
  · replace c1 : σ 7 0 4 = 0 := c1
    rw [hm] at c1
    exact ⟨by rw [b2i_t (P := mp = 0) ((nI_eq (b := 0) (by omega) (by omega)).mp c1)]; rfl, rfl⟩
theorem ev_aFull (σ : mS) {mp : Nat} (hm : σ 7 0 4 = nI mp) (h1 : mp ≤ 10) : Ev kX0_isFull [xA] σ (fun r s => r = some (mI (b2i (¬ mp < 10))) ∧ s = σ) := by
  refine Ev.intro fun G hG => hG.run ?_
  refine And.intro (fun c1 => ?_) (fun c1 => ?_)
  · replace c1 : σ 7 0 4 < 10 := c1
    rw [hm] at c1
    have c1 := (nI_ltI (b := 10) (by omega) (by omega)).mp c1
    exact ⟨by rw [b2i_f (P := ¬ mp < 10) (fun q => q c1)]; rfl, rfl⟩
  · replace c1 : ¬ σ 7 0 4 < 10 := c1
    rw [hm] at c1
    exact ⟨by rw [b2i_t (P := ¬ mp < 10) (fun q => c1 (nI_lt (b := 10) q (by omega)))]; rfl, rfl⟩
theorem stepP_iff {x : Int32} {n : Nat} (hn : n < 2 ^ 31) : (¬ x < 1 ∧ ¬ nI n ≤ x) ↔ stepP x n := by
  constructor
  · rintro ⟨h1, h2⟩
    have h0 : ¬ x < 0 := fun q => h1 (by
      rw [Int32.lt_iff_toInt_lt] at q ⊢
      rw [Int32.toInt_zero] at q
      rw [show (1 : Int32).toInt = 1 from rfl]
      omega)
    obtain ⟨j, h3, rfl⟩ := nI_of h0
    refine ⟨j, ?_, lt_of_nle h2 h3, rfl⟩
    rcases Nat.eq_zero_or_pos j with q | q
    · rw [q] at h1; exact absurd (by decide) h1
    · exact q
  · rintro ⟨j, h1, h2, rfl⟩
    exact ⟨nI_nlt (b := 1) h1 (by omega), nI_ge h2 hn⟩
theorem ev_hasStep (σ : mS) (st : Int32) {mp : Nat} (hm : σ 7 0 4 = nI mp) (h1 : mp ≤ 10) : Ev kX0_hasStep [xA, mI st] σ (fun r s => r = some (mI (b2i (stepP st mp))) ∧ s = σ) := by
  refine Ev.intro fun G hG => hG.run ?_
  refine And.intro (fun c1 => ⟨by rw [b2i_f (P := stepP st mp) (fun q => ((stepP_iff (by omega)).mpr q).1 c1)]; rfl, rfl⟩) (fun c1 => ?_)
  refine And.intro (fun c2 => ?_) (fun c2 => ?_)
  · replace c2 : σ 7 0 4 ≤ st := c2
    rw [hm] at c2
    exact ⟨by rw [b2i_f (P := stepP st mp) (fun q => ((stepP_iff (by omega)).mpr q).2 c2)]; rfl, rfl⟩
  · replace c2 : ¬ σ 7 0 4 ≤ st := c2
    rw [hm] at c2
    exact ⟨by rw [b2i_t (P := stepP st mp) ((stepP_iff (by omega)).mp ⟨c1, c2⟩)]; rfl, rfl⟩
theorem ev_latestYear (σ : mS) {mp : Nat} (hm : σ 7 0 4 = nI mp) (h1 : mp ≤ 10) : Ev kX0_latestYear [xA] σ (fun r s => r = some (mI (if mp = 0 then -1 else σ 10 (mp - 1) 0)) ∧ s = σ) := by
  refine Ev.intro fun G hG => hG.run ?_
  refine And.intro (fun c1 => ?_) (fun c1 => ?_)
  · replace c1 : ¬ σ 7 0 4 = 0 := c1
    rw [hm] at c1
    have c1 : ¬ mp = 0 := fun q => c1 (by rw [q]; rfl)
    have e : σ 7 0 4 - 1 = nI (mp - 1) := by rw [hm, nI_m1 (by omega)]
    refine And.intro ?_ ?_
    · show vp_in (σ 7 0 4 - 1) 10
      rw [e]; exact vp_in_nI (by omega) (by omega)
    · refine ⟨?_, rfl⟩
      rw [if_neg c1]
      show some (mI (σ 10 (σ 7 0 4 - 1).toNatClampNeg 0)) = _
      rw [e, nI_cl (by omega)]
  · replace c1 : σ 7 0 4 = 0 := c1
    rw [hm] at c1
    exact ⟨by rw [if_pos ((nI_eq (b := 0) (by omega) (by omega)).mp c1)]; rfl, rfl⟩
theorem ev_aClear (σ : mS) : Ev kX0_clear [xA] σ (fun r s => r = none ∧ s = mput (mput σ 7 0 (upd (σ 7 0) 4 0)) 9 0 (fil (σ 9 0) 0 144)) := by
  refine Ev.intro fun G hG => hG.run ?_
  have key := loop_up (G := G) 7 144 (fun i => [some xA, some (mI (nI i))]) (fun i => mput (mput σ 7 0 (upd (σ 7 0) 4 0)) 9 0 (fil (σ 9 0) 0 i)) ?_ ?_ 0 (by omega)
  · rw [fil_0, show σ 9 0 = mput σ 7 0 (upd (σ 7 0) 4 0) 9 0 from rfl, mput_self] at key
    exact key
  · intro i hi ih
    refine hG.run (br_f (nI_ge (b := 144) hi (by decide)) ?_)
    refine And.intro (vp_in_nI (by omega) (by omega)) ?_
    rw [nI_cl (by omega)]
    show G 7 [some xA, some (mI (nI i + 1))] [] (mput (mput (mput σ 7 0 (upd (σ 7 0) 4 0)) 9 0 (fil (σ 9 0) 0 i)) 9 0 (upd (fil (σ 9 0) 0 i) i 0))
    rw [mput_mput, fil_s, nI_1]
    exact ih
  · exact hG.run (br_t (Int32.le_refl _) ⟨rfl, rfl⟩)
theorem ev_draftLine (σ : mS) (Y : Nat) (bits : Int32) {W H : Nat} (hW : σ 1 0 0 = nI W) (h2 : W ≤ 12) (h3 : H ≤ 12) (hY : Y < H) : Ev kX0_draftLine [xA, mI (nI Y), mI bits] σ (fun r s => r = some (mI (rowN bits W)) ∧ s = mput σ 9 0 (rowW (σ 9 0) (Y * W) bits W)) := by
  refine Ev.intro fun G hG => hG.run ?_
  have hN := gr_le h2 h3
  have hin : ∀ i, i < W → Y * W + i < 144 := fun i hi => by have := at_lt (x := i) hi hY; omega
  have this : ∀ n i, i + n = W → ∀ z : Option mV, G 5 [some xA, some (mI (nI Y)), some (mI bits), some (mI (rowN bits i)), some (mI (nI i)), z] [] (mput σ 9 0 (rowW (σ 9 0) (Y * W) bits i)) := by
    intro n
    induction n with
    | zero =>
      intro i hi z
      have : i = W := by omega
      subst this
      refine hG.run (br_t ?_ ⟨rfl, rfl⟩)
      show σ 1 0 0 ≤ nI i
      rw [hW]
      exact Int32.le_refl _
    | succ n ih =>
      intro i hi z
      have hx := hin i (by omega)
      refine hG.run (br_f ?_ ?_)
      · show ¬ σ 1 0 0 ≤ nI i
        rw [hW]
        exact nI_ge (by omega) (by omega)
      · refine And.intro (fun c1 => ?_) (fun c1 => ?_)
        · have hb : b2i (bitP bits i) = 0 := b2i_f c1
          refine call_of (ev_cellAt (mput σ 9 0 (rowW (σ 9 0) (Y * W) bits i)) i Y W hW) ?_
          refine And.intro (vp_in_nI hx (by omega)) ?_
          rw [nI_cl (by omega)]
          refine And.intro (fun _ => ?_) (fun c => absurd rfl c)
          show G 5 [some xA, some (mI (nI Y)), some (mI bits), some (mI (rowN bits i + 0)), some (mI (nI i + 1)), some (mI 0)] [] (mput (mput σ 9 0 (rowW (σ 9 0) (Y * W) bits i)) 9 0 (upd (rowW (σ 9 0) (Y * W) bits i) (Y * W + i) 0))
          rw [mput_mput, nI_1]
          have h5 := ih (i + 1) (by omega) (some (mI 0))
          rw [← rowW_s, show rowN bits (i + 1) = rowN bits i + b2i (bitP bits i) from rfl, hb] at h5
          exact h5
        · have hb : b2i (bitP bits i) = 1 := b2i_t c1
          refine call_of (ev_cellAt (mput σ 9 0 (rowW (σ 9 0) (Y * W) bits i)) i Y W hW) ?_
          refine And.intro (vp_in_nI hx (by omega)) ?_
          rw [nI_cl (by omega)]
          refine And.intro (fun c => absurd c (by decide)) (fun _ => ?_)
          show G 5 [some xA, some (mI (nI Y)), some (mI bits), some (mI (rowN bits i + 1)), some (mI (nI i + 1)), some (mI 1)] [] (mput (mput σ 9 0 (rowW (σ 9 0) (Y * W) bits i)) 9 0 (upd (rowW (σ 9 0) (Y * W) bits i) (Y * W + i) 1))
          rw [mput_mput, nI_1]
          have h5 := ih (i + 1) (by omega) (some (mI 1))
          rw [← rowW_s, show rowN bits (i + 1) = rowN bits i + b2i (bitP bits i) from rfl, hb] at h5
          exact h5
  have h5 := this W 0 (by omega) none
  rw [rowW_0, mput_self] at h5
  exact h5
theorem ev_leafIn (σ : mS) (year : Int32) {mp : Nat} (hm : σ 7 0 4 = nI mp) (h3 : mp ≤ 10) : Ev kX0_leafIn [xA, mI year] σ (fun r s => r = some (mR 10 (mapInF (fun m => σ 10 m 0) year mp)) ∧ s = σ) := by
  refine Ev.intro fun G hG => hG.run ?_
  have hlt := mapInF_lt (fun m => σ 10 m 0) year
  by_cases h0 : 0 < mp
  · have key := loop_from (G := G) 4 1 mp (fun i => [some xA, some (mI year), some (mI (nI (mapInF (fun m => σ 10 m 0) year i))), some (mI (nI i))]) (fun _ => σ) ?_ ?_ 1 (by omega) h0
    · exact key
    · intro i hi1 hi ih
      refine hG.run (br_f ?_ ?_)
      · show ¬ σ 7 0 4 ≤ nI i
        rw [hm]; exact nI_ge hi (by omega)
      · refine And.intro (vp_in_nI (by omega) (by omega)) ?_
        rw [nI_cl (by omega)]
        have e : mapInF (fun m => σ 10 m 0) year (i + 1) = if 0 < i ∧ σ 10 i 0 ≤ year then i else mapInF (fun m => σ 10 m 0) year i := rfl
        rw [e, ← nI_1] at ih
        refine And.intro (fun c => ?_) (fun c => ?_)
        · replace c : year < σ 10 i 0 := c
          rw [if_neg (fun q => not_le_of c q.2)] at ih
          exact ih
        · replace c : ¬ year < σ 10 i 0 := c
          rw [if_pos ⟨hi1, Int32.not_lt.mp c⟩] at ih
          exact ih
    · refine hG.run (br_t ?_ ?_)
      · show σ 7 0 4 ≤ nI mp
        rw [hm]; exact Int32.le_refl _
      · have := hlt mp
        refine And.intro (vp_in_nI (by omega) (by omega)) ?_
        rw [nI_cl (by omega)]
        exact ⟨rfl, rfl⟩
  · have : mp = 0 := by omega
    subst this
    show G 4 [some xA, some (mI year), some (mI 0), some (mI 1)] [] σ
    refine hG.run (br_t ?_ ?_)
    · show σ 7 0 4 ≤ 1
      rw [hm]
      decide
    · exact And.intro (vp_in_nI (n := 0) (by omega) (by omega)) ⟨rfl, rfl⟩
/-- sudden, as the class has it -/
def sudX (jd far reach : Int32) : Prop := if jd = -1 then reach < far else jd = 1
theorem ev_xSudden (σ : mS) {m : Nat} (hm : m < 10) : Ev kX0_isSudden [xA, mI (nI m)] σ (fun r s => r = some (mI (b2i (sudX (σ 10 m 6) (σ 10 m 3) (σ 7 0 5)))) ∧ s = σ) := by
  refine Ev.intro fun G hG => hG.run ?_
  refine And.intro (vp_in_nI (by omega) (by omega)) ?_
  rw [nI_cl (by omega)]
  refine And.intro (fun c1 => And.intro (fun c2 => ?_) (fun c2 => ?_)) (fun c1 => And.intro (fun c2 => ?_) (fun c2 => ?_))
  · replace c1 : ¬ σ 10 m 6 = -1 := c1
    replace c2 : ¬ σ 10 m 6 = 1 := c2
    exact ⟨by rw [b2i_f (P := sudX (σ 10 m 6) (σ 10 m 3) (σ 7 0 5)) (by unfold sudX; rw [if_neg c1]; exact c2)]; rfl, rfl⟩
  · replace c1 : ¬ σ 10 m 6 = -1 := c1
    replace c2 : σ 10 m 6 = 1 := c2
    exact ⟨by rw [b2i_t (P := sudX (σ 10 m 6) (σ 10 m 3) (σ 7 0 5)) (by unfold sudX; rw [if_neg c1]; exact c2)]; rfl, rfl⟩
  · replace c1 : σ 10 m 6 = -1 := c1
    replace c2 : σ 10 m 3 ≤ σ 7 0 5 := c2
    exact ⟨by rw [b2i_f (P := sudX (σ 10 m 6) (σ 10 m 3) (σ 7 0 5)) (by unfold sudX; rw [if_pos c1]; exact fun q => not_le_of q c2)]; rfl, rfl⟩
  · replace c1 : σ 10 m 6 = -1 := c1
    replace c2 : ¬ σ 10 m 3 ≤ σ 7 0 5 := c2
    exact ⟨by rw [b2i_t (P := sudX (σ 10 m 6) (σ 10 m 3) (σ 7 0 5)) (by unfold sudX; rw [if_pos c1]; exact Int32.not_le.mp c2)]; rfl, rfl⟩
def kbF (was is : Int32) : Int32 := if is = 0 then (if was = 0 then 4 else 3) else (if was = 0 then 1 else 0)
theorem ev_kindBetween (σ : mS) (was is : Int32) : Ev kX0_kindBetween [mI was, mI is] σ (fun r s => r = some (mI (kbF was is)) ∧ s = σ) := by
  refine Ev.intro fun G hG => hG.run ?_
  unfold kbF
  refine And.intro (fun c1 => And.intro (fun c2 => ?_) (fun c2 => ?_)) (fun c1 => And.intro (fun c2 => ?_) (fun c2 => ?_))
  · exact ⟨by rw [if_pos c1, if_pos c2]; rfl, rfl⟩
  · exact ⟨by rw [if_pos c1, if_neg c2]; rfl, rfl⟩
  · exact ⟨by rw [if_neg c1, if_pos c2]; rfl, rfl⟩
  · exact ⟨by rw [if_neg c1, if_neg c2]; rfl, rfl⟩
theorem ev_dFull (σ : mS) {dn : Nat} (hm : σ 13 0 0 = nI dn) (h1 : dn ≤ 30) : Ev kX1_isFull [xD] σ (fun r s => r = some (mI (b2i (¬ dn < 30))) ∧ s = σ) := by
  refine Ev.intro fun G hG => hG.run ?_
  refine And.intro (fun c1 => ?_) (fun c1 => ?_)
  · replace c1 : σ 13 0 0 < 30 := c1
    rw [hm] at c1
    have c1 := (nI_ltI (b := 30) (by omega) (by omega)).mp c1
    exact ⟨by rw [b2i_f (P := ¬ dn < 30) (fun q => q c1)]; rfl, rfl⟩
  · replace c1 : ¬ σ 13 0 0 < 30 := c1
    rw [hm] at c1
    exact ⟨by rw [b2i_t (P := ¬ dn < 30) (fun q => c1 (nI_lt (b := 30) q (by omega)))]; rfl, rfl⟩
theorem ev_dHas (σ : mS) (d : Int32) {dn : Nat} (hm : σ 13 0 0 = nI dn) (h1 : dn ≤ 30) : Ev kX1_has [xD, mI d] σ (fun r s => r = some (mI (b2i (vp_in d dn))) ∧ s = σ) := by
  refine Ev.intro fun G hG => hG.run ?_
  refine And.intro (fun c1 => ⟨by rw [b2i_f (P := vp_in d dn) (fun q => q (Or.inl c1))]; rfl, rfl⟩) (fun c1 => ?_)
  refine And.intro (fun c2 => ?_) (fun c2 => ?_)
  · replace c2 : σ 13 0 0 ≤ d := c2
    rw [hm] at c2
    refine ⟨?_, rfl⟩
    rw [b2i_f (P := vp_in d dn) (fun q => by
      obtain ⟨j, hj, rfl⟩ := (vp_nI (by omega)).mp q
      exact nI_ge hj (by omega) c2)]
    rfl
  · replace c2 : ¬ σ 13 0 0 ≤ d := c2
    rw [hm] at c2
    refine ⟨?_, rfl⟩
    rw [b2i_t (P := vp_in d dn)]
    · rfl
    · rw [vp_in_iff]
      rw [Int32.le_iff_toInt_le, nI_toInt (by omega)] at c2
      rw [Int32.lt_iff_toInt_lt, Int32.toInt_zero] at c1
      omega
theorem ev_notStruck (σ : mS) {dn : Nat} (hm : σ 13 0 0 = nI dn) (h1 : dn ≤ 30) : Ev kX1_notStruck [xD] σ (fun r s => r = some (mI (bindN (σ 20 0) dn)) ∧ s = σ) := by
  refine Ev.intro fun G hG => hG.run ?_
  have key := loop_up (G := G) 4 dn (fun i => [some xD, some (mI (bindN (σ 20 0) i)), some (mI (nI i))]) (fun _ => σ) ?_ ?_ 0 (by omega)
  · exact key
  · intro i hi ih
    refine hG.run (br_f ?_ ?_)
    · show ¬ σ 13 0 0 ≤ nI i
      rw [hm]; exact nI_ge hi (by omega)
    · refine And.intro (vp_in_nI (by omega) (by omega)) ?_
      rw [nI_cl (by omega)]
      have e : bindN (σ 20 0) (i + 1) = bindN (σ 20 0) i + (if σ 20 0 i = 0 then 1 else 0) := rfl
      rw [e, ← nI_1] at ih
      refine And.intro (fun c => ?_) (fun c => ?_)
      · replace c : σ 20 0 i = 0 := c
        rw [if_pos c] at ih
        exact ih
      · replace c : ¬ σ 20 0 i = 0 := c
        rw [if_neg c] at ih
        exact ih
  · refine hG.run (br_t ?_ ⟨rfl, rfl⟩)
    show σ 13 0 0 ≤ nI dn
    rw [hm]; exact Int32.le_refl _
theorem ev_lFull (σ : mS) {ln : Nat} (hm : σ 22 0 0 = nI ln) (h1 : ln ≤ 20) : Ev kX3_isFull [xL] σ (fun r s => r = some (mI (b2i (¬ ln < 20))) ∧ s = σ) := by
  refine Ev.intro fun G hG => hG.run ?_
  refine And.intro (fun c1 => ?_) (fun c1 => ?_)
  · replace c1 : σ 22 0 0 < 20 := c1
    rw [hm] at c1
    have c1 := (nI_ltI (b := 20) (by omega) (by omega)).mp c1
    exact ⟨by rw [b2i_f (P := ¬ ln < 20) (fun q => q c1)]; rfl, rfl⟩
  · replace c1 : ¬ σ 22 0 0 < 20 := c1
    rw [hm] at c1
    exact ⟨by rw [b2i_t (P := ¬ ln < 20) (fun q => c1 (nI_lt (b := 20) q (by omega)))]; rfl, rfl⟩
def lawX (σ : mS) (ln : Nat) (year sl su is : Int32) : mS := mput (mput (mput (mput (mput σ 22 0 (upd (σ 22 0) 0 (nI (ln + 1)))) 23 0 (upd (σ 23 0) (ln + 1) year)) 24 0 (upd (σ 24 0) (ln + 1) sl)) 25 0 (upd (σ 25 0) (ln + 1) su)) 26 0 (upd (σ 26 0) (ln + 1) is)
theorem ev_lAdd (σ : mS) (year sl su is : Int32) {ln : Nat} (hm : σ 22 0 0 = nI ln) (h1 : ln < 20) : Ev kX3_add [xL, mI year, mI sl, mI su, mI is] σ (fun r s => r = some (mI (nI (ln + 1))) ∧ s = lawX σ ln year sl su is) := by
  refine Ev.intro fun G hG => hG.run ?_
  have e : upd (σ 22 0) 0 (σ 22 0 0 + 1) 0 = nI (ln + 1) := by rw [upd_eq, hm, nI_1]
  have e0 : σ 22 0 0 + 1 = nI (ln + 1) := by rw [hm, nI_1]
  have hv : vp_in (upd (σ 22 0) 0 (σ 22 0 0 + 1) 0) 21 := by rw [e]; exact vp_in_nI (by omega) (by omega)
  refine And.intro hv (And.intro hv (And.intro hv (And.intro hv ?_)))
  show some (mI (upd (σ 22 0) 0 (σ 22 0 0 + 1) 0)) = _ ∧ mput (mput (mput (mput (mput σ 22 0 (upd (σ 22 0) 0 (σ 22 0 0 + 1))) 23 0 (upd (σ 23 0) (upd (σ 22 0) 0 (σ 22 0 0 + 1) 0).toNatClampNeg year)) 24 0 (upd (σ 24 0) (upd (σ 22 0) 0 (σ 22 0 0 + 1) 0).toNatClampNeg sl)) 25 0 (upd (σ 25 0) (upd (σ 22 0) 0 (σ 22 0 0 + 1) 0).toNatClampNeg su)) 26 0 (upd (σ 26 0) (upd (σ 22 0) 0 (σ 22 0 0 + 1) 0).toNatClampNeg is) = _
  rw [e, e0, nI_cl (by omega)]
  exact ⟨rfl, rfl⟩
def plF (yr : Nat → Int32) (year : Int32) (n : Nat) : Nat := fo (fun j p => if yr (j + 1) ≤ year ∧ yr p ≤ yr (j + 1) then j + 1 else p) 0 n
theorem plF_le (yr : Nat → Int32) (year : Int32) : ∀ n, plF yr year n ≤ n
  | 0 => Nat.le_refl _
  | n + 1 => by
    have ih := plF_le yr year n
    show (if yr (n + 1) ≤ year ∧ yr (plF yr year n) ≤ yr (n + 1) then n + 1 else plF yr year n) ≤ n + 1
    split <;> omega
theorem ev_placeFor (σ : mS) (year : Int32) {ln : Nat} (hm : σ 22 0 0 = nI ln) (h1 : ln ≤ 20) : Ev kX3_placeFor [xL, mI year] σ (fun r s => r = some (mI (nI (plF (σ 23 0) year ln))) ∧ s = σ) := by
  refine Ev.intro fun G hG => hG.run ?_
  have key := loop_up (G := G) 4 ln (fun i => [some xL, some (mI year), some (mI (nI (plF (σ 23 0) year i))), some (mI (nI i + 1))]) (fun _ => σ) ?_ ?_ 0 (by omega)
  · exact key
  · intro i hi ih
    have hle := plF_le (σ 23 0) year i
    have e : plF (σ 23 0) year (i + 1) = if σ 23 0 (i + 1) ≤ year ∧ σ 23 0 (plF (σ 23 0) year i) ≤ σ 23 0 (i + 1) then i + 1 else plF (σ 23 0) year i := rfl
    rw [e, ← nI_1] at ih
    refine hG.run (br_f ?_ ?_)
    · show ¬ σ 22 0 0 < nI i + 1
      rw [hm, nI_1]; exact nI_nlt (by omega) (by omega)
    · have ei : (nI i + 1).toNatClampNeg = i + 1 := by rw [nI_1]; exact nI_cl (by omega)
      have ep : (nI (plF (σ 23 0) year i)).toNatClampNeg = plF (σ 23 0) year i := nI_cl (by omega)
      have hv : vp_in (nI i + 1) 21 := by rw [nI_1]; exact vp_in_nI (by omega) (by omega)
      refine And.intro hv (And.intro (fun c1 => ?_) (fun c1 => And.intro hv (And.intro (vp_in_nI (by omega) (by omega)) (And.intro (fun c2 => ?_) (fun c2 => ?_)))))
      · replace c1 : year < σ 23 0 (nI i + 1).toNatClampNeg := c1
        rw [ei] at c1
        rw [if_neg (fun q => not_le_of c1 q.1)] at ih
        exact ih
      · replace c2 : σ 23 0 (nI i + 1).toNatClampNeg < σ 23 0 (nI (plF (σ 23 0) year i)).toNatClampNeg := c2
        rw [ei, ep] at c2
        rw [if_neg (fun q => not_le_of c2 q.2)] at ih
        exact ih
      · replace c1 : ¬ year < σ 23 0 (nI i + 1).toNatClampNeg := c1
        replace c2 : ¬ σ 23 0 (nI i + 1).toNatClampNeg < σ 23 0 (nI (plF (σ 23 0) year i)).toNatClampNeg := c2
        rw [ei] at c1
        rw [ei, ep] at c2
        rw [if_pos ⟨Int32.not_lt.mp c1, Int32.not_lt.mp c2⟩, ← nI_1] at ih
        exact ih
  · refine hG.run (br_t ?_ ⟨rfl, rfl⟩)
    show σ 22 0 0 < nI ln + 1
    rw [hm, nI_1]; exact nI_lt (by omega) (by omega)
theorem ev_isDry (σ : mS) {m k : Nat} (hk : k < 144) : Ev kX4_isDry [mR 10 m, mI (nI k)] σ (fun r s => r = some (mI (b2i (2 ≤ σ 11 m k))) ∧ s = σ) := by
  refine Ev.intro fun G hG => hG.run ?_
  refine And.intro (vp_in_nI (by omega) (by omega)) ?_
  rw [nI_cl (by omega)]
  refine And.intro (fun c1 => ?_) (fun c1 => ?_)
  · replace c1 : σ 11 m k < 2 := c1
    exact ⟨by rw [b2i_f (P := 2 ≤ σ 11 m k) (fun q => not_le_of c1 q)]; rfl, rfl⟩
  · replace c1 : ¬ σ 11 m k < 2 := c1
    exact ⟨by rw [b2i_t (P := 2 ≤ σ 11 m k) (Int32.not_lt.mp c1)]; rfl, rfl⟩
theorem ev_isNew (σ : mS) {m k : Nat} (hk : k < 144) : Ev kX4_isNew [mR 10 m, mI (nI k)] σ (fun r s => r = some (mI (b2i (σ 11 m k = 2 ∨ σ 11 m k = 3))) ∧ s = σ) := by
  refine Ev.intro fun G hG => hG.run ?_
  have hv : vp_in (nI k) 144 := vp_in_nI (by omega) (by omega)
  have ek : (nI k).toNatClampNeg = k := nI_cl (by omega)
  refine And.intro hv (And.intro (fun c1 => ?_) (fun c1 => And.intro hv (And.intro (fun c2 => ?_) (fun c2 => ?_))))
  · replace c1 : σ 11 m (nI k).toNatClampNeg = 2 := c1
    rw [ek] at c1
    exact ⟨by rw [b2i_t (P := σ 11 m k = 2 ∨ σ 11 m k = 3) (Or.inl c1)]; rfl, rfl⟩
  · replace c1 : ¬ σ 11 m (nI k).toNatClampNeg = 2 := c1
    replace c2 : ¬ σ 11 m (nI k).toNatClampNeg = 3 := c2
    rw [ek] at c1 c2
    exact ⟨by rw [b2i_f (P := σ 11 m k = 2 ∨ σ 11 m k = 3) (fun q => q.elim c1 c2)]; rfl, rfl⟩
  · replace c2 : σ 11 m (nI k).toNatClampNeg = 3 := c2
    rw [ek] at c2
    exact ⟨by rw [b2i_t (P := σ 11 m k = 2 ∨ σ 11 m k = 3) (Or.inr c2)]; rfl, rfl⟩
theorem ev_wasWater (σ : mS) {m k : Nat} (hk : k < 144) : Ev kX4_wasWater [mR 10 m, mI (nI k)] σ (fun r s => r = some (mI (b2i (σ 11 m k = 0 ∨ σ 11 m k = 2 ∨ σ 11 m k = 3))) ∧ s = σ) := by
  refine Ev.intro fun G hG => hG.run ?_
  refine And.intro (vp_in_nI (by omega) (by omega)) ?_
  rw [nI_cl (by omega)]
  refine And.intro (fun c1 => ?_) (fun c1 => ?_)
  · replace c1 : σ 11 m k = 0 := c1
    exact ⟨by rw [b2i_t (P := σ 11 m k = 0 ∨ σ 11 m k = 2 ∨ σ 11 m k = 3) (Or.inl c1)]; rfl, rfl⟩
  · replace c1 : ¬ σ 11 m k = 0 := c1
    refine call_of (ev_isNew σ hk) ?_
    refine And.intro (fun c2 => ⟨by rw [b2i_f (P := σ 11 m k = 0 ∨ σ 11 m k = 2 ∨ σ 11 m k = 3) (fun q => q.elim c1 (b_f c2))]; rfl, rfl⟩) (fun c2 => ⟨by rw [b2i_t (P := σ 11 m k = 0 ∨ σ 11 m k = 2 ∨ σ 11 m k = 3) (Or.inr (b_t c2))]; rfl, rfl⟩)
theorem ev_fill (σ : mS) (v : Int32) : Ev kJ7_fill_53178 [mR 28 0, mI v] σ (fun r s => r = none ∧ s = mput σ 28 0 (fil (σ 28 0) v 144)) := by
  refine Ev.intro fun G hG => hG.run ?_
  have key := loop_up (G := G) 5 144 (fun i => [some (mR 28 0), some (mI v), some (mI (nI i)), some (mI 144)]) (fun i => mput σ 28 0 (fil (σ 28 0) v i)) ?_ ?_ 0 (by omega)
  · rw [fil_0, mput_self] at key
    exact key
  · intro i hi ih
    refine hG.run (br_f (nI_ge (b := 144) hi (by decide)) ?_)
    refine And.intro (vp_in_nI (by omega) (by omega)) ?_
    rw [nI_cl (by omega)]
    show G 5 [some (mR 28 0), some (mI v), some (mI (nI i + 1)), some (mI 144)] [] (mput (mput σ 28 0 (fil (σ 28 0) v i)) 28 0 (upd (fil (σ 28 0) v i) i v))
    rw [mput_mput, fil_s, nI_1]
    exact ih
  · exact hG.run (br_t (Int32.le_refl _) ⟨rfl, rfl⟩)
theorem ev_forgetFirst (σ : mS) : Ev kX5_forgetFirst [xP] σ (fun r s => r = none ∧ s = mput σ 28 0 (fil (σ 28 0) (-1) 144)) := by
  refine Ev.intro fun G hG => hG.run ?_
  exact call_of (ev_fill σ (-1)) ⟨rfl, rfl⟩
theorem ev_dClear (σ : mS) : Ev kX1_clear [xD] σ (fun r s => r = none ∧ s = mput σ 13 0 (upd (σ 13 0) 0 0)) := Ev.intro fun G hG => hG.run ⟨rfl, rfl⟩
