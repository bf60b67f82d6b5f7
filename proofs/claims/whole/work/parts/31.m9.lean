/-! THE REFERENCE: years and owners -/
noncomputable def goO (σ : mS) (W H mp dn ln : Nat) (ct y : Int32) (o : Nat → Int32) : Nat → Int32 :=
  dsF σ (wtr σ (mapInF (σ 54 0) y mp)) y (match stI (σ 54 0) y mp with
    | none => o
    | some m => stepO σ W H ln m (nI m = ct) o) dn
theorem goO_keep {σ s : mS} (k : KeepT σ s) (W H mp dn ln : Nat) (ct y : Int32) (o : Nat → Int32) : goO s W H mp dn ln ct y o = goO σ W H mp dn ln ct y o := by
  unfold goO
  rw [dsF_keep k, k.g (g := 54) (by decide), wtr_keep k]
  cases stI (σ 54 0) y mp with
  | none => rfl
  | some m => dsimp only; rw [stepO_keep k]
noncomputable def upO (σ : mS) (W H mp dn ln : Nat) (ct : Int32) (n : Nat) : Nat → Int32 := fo (fun y o => goO σ W H mp dn ln ct (nI y) o) (σ 56 0) n
theorem upO_keep {σ s : mS} (k : KeepT σ s) (W H mp dn ln : Nat) (ct : Int32) (n : Nat) : upO s W H mp dn ln ct n = upO σ W H mp dn ln ct n := by
  unfold upO
  rw [k.g (g := 56) (by decide)]
  exact fo_cong fun y _ o => goO_keep k W H mp dn ln ct (nI y) o
theorem ev_goes (σ : mS) {W H mp dn ln : Nat} (I : MI σ W H mp dn ln) (y ct : Int32) : Ev kX8_goes [mM, mI y, mI ct] σ (fun r s => r = none ∧ Keep σ s ∧ s 74 0 = goO σ W H mp dn ln ct y (σ 74 0)) := by
  obtain ⟨⟨hW, hW0, hW1⟩, ⟨hH, hH0, hH1⟩, ⟨hmp, hmp1⟩, ⟨hdn, hdn1⟩, ⟨hln, hln1⟩, hb, hok, -, -⟩ := id I
  refine Ev.intro fun G hG => hG.run ?_
  refine call_of (ev_stepIn σ y hmp hmp1) ?_
  have hst := stI_lt (σ 54 0) y mp
  have fin : ∀ s1, Keep σ s1 → ∀ o1, s1 74 0 = o1 → goO σ W H mp dn ln ct y (σ 74 0) = dsF σ (wtr σ (mapInF (σ 54 0) y mp)) y o1 dn → Ev kX8_deedsIn [mM, mI y] s1 (fun r s => r = none ∧ Keep σ s ∧ s 74 0 = goO σ W H mp dn ln ct y (σ 74 0)) := by
    intro s1 k1 o1 h74 he
    have I1 := I.keep k1.t
    obtain ⟨-, -, ⟨hmp', -⟩, ⟨hdn', -⟩, -, hb', hok', -, -⟩ := I1
    refine (ev_deedsIn s1 y hmp' hmp1 hdn' hdn1 hb' hok').mono ?_
    rintro r s ⟨rfl, rfl⟩
    refine ⟨rfl, k1.tr (Keep.put _ (Or.inr (Or.inr (Or.inr (Or.inl rfl))))), ?_⟩
    rw [mput_eq, he, dsF_keep k1.t, k1.g (g := 54) (by decide), wtr_keep k1.t, h74]
  cases hq : stI (σ 54 0) y mp with
  | none =>
    refine And.intro (fun _ => ?_) (fun c0 => absurd (by decide) c0)
    refine call_ex (fin σ Keep.rf _ rfl (by unfold goO; rw [hq])) ?_
    rintro r s ⟨rfl, h1, h2⟩
    exact ⟨rfl, h1, h2⟩
  | some m =>
    obtain ⟨h1, h2, h3⟩ := hst m hq
    have hst2 : ∀ v, v = b2i (nI m = ct) → Ev kX8_steps [mM, mI (nI m), mI v] σ (fun r s => r = none ∧ Keep σ s ∧ s 74 0 = stepO σ W H ln m (nI m = ct) (σ 74 0)) := by
      intro v hv
      subst hv
      exact ev_steps σ I h1 h2 (nI m = ct)
    refine And.intro (fun c0 => absurd c0 (nI_nle h1 (by omega))) (fun _ => ?_)
    refine And.intro (fun c1 => ?_) (fun c1 => ?_)
    · refine call_ex (hst2 0 (b2i_f c1).symm) ?_
      rintro r s ⟨rfl, k1, h74⟩
      refine call_ex (fin s k1 _ h74 (by unfold goO; rw [hq])) ?_
      rintro r s ⟨rfl, h1, h2⟩
      exact ⟨rfl, h1, h2⟩
    · refine call_ex (hst2 1 (b2i_t c1).symm) ?_
      rintro r s ⟨rfl, k1, h74⟩
      refine call_ex (fin s k1 _ h74 (by unfold goO; rw [hq])) ?_
      rintro r s ⟨rfl, h1, h2⟩
      exact ⟨rfl, h1, h2⟩
/-- beyond the cells nothing changes -/
theorem dsF_tail {σ : mS} {wt : Nat → Int32} {year : Int32} {o : Nat → Int32} {j : Nat} (hj : 144 ≤ j) : ∀ n, dsF σ wt year o n j = o j
  | 0 => rfl
  | n + 1 => by
    have ih := dsF_tail (σ := σ) (wt := wt) (year := year) (o := o) hj n
    show ifp (σ 62 0 n = 0 ∧ σ 61 0 n = year) (dedF (dsF σ wt year o n) wt _ _ _ 144) (dsF σ wt year o n) j = o j
    by_cases q : σ 62 0 n = 0 ∧ σ 61 0 n = year
    · rw [ifp_t q]
      unfold dedF
      rw [ifp_f (by omega)]
      exact ih
    · rw [ifp_f q]; exact ih
theorem stepO_tail {σ : mS} {W H ln m : Nat} {ctr : Prop} {o : Nat → Int32} {j : Nat} (hj : 144 ≤ j) : stepO σ W H ln m ctr o j = o j := by
  unfold stepO
  by_cases q : grw σ (lwF (σ 64 0) (σ 54 0 m) ln ln) (¬ (sdP σ W H m ↔ ctr)) = 0
  · rw [ifp_t q]
  · rw [ifp_f q, cpy_out hj]
theorem goO_tail {σ : mS} {W H mp dn ln : Nat} {ct y : Int32} {o : Nat → Int32} {j : Nat} (hj : 144 ≤ j) : goO σ W H mp dn ln ct y o j = o j := by
  unfold goO
  rw [dsF_tail hj]
  cases stI (σ 54 0) y mp with
  | none => rfl
  | some m => exact stepO_tail hj
theorem upO_tail {σ : mS} {W H mp dn ln : Nat} {ct : Int32} {j : Nat} (hj : 144 ≤ j) : ∀ n, upO σ W H mp dn ln ct n j = σ 56 0 j
  | 0 => rfl
  | n + 1 => (goO_tail hj).trans (upO_tail hj n)
/-- the owners' row ends as it began -/
def tl0 (σ : mS) : Prop := ∀ j, 144 ≤ j → σ 74 0 j = 0
theorem tl_begins {σ : mS} {W H mp dn ln : Nat} (I : MI σ W H mp dn ln) (h : tl0 σ) : cpy (σ 74 0) (σ 56 0) 144 = σ 56 0 := by
  obtain ⟨-, -, -, -, -, -, -, -, -, h10⟩ := I
  funext j
  unfold cpy
  by_cases hj : j < 144
  · rw [if_pos hj]
  · rw [if_neg hj, h j (by omega), h10 j (by omega)]
theorem upO_tl {σ s : mS} {W H mp dn ln : Nat} (I : MI σ W H mp dn ln) {ct : Int32} {n : Nat} (h : s 74 0 = upO σ W H mp dn ln ct n) : tl0 s := by
  obtain ⟨-, -, -, -, -, -, -, -, -, h10⟩ := I
  intro j hj
  rw [h, upO_tail hj, h10 j hj]
/-- a run of years from the beginning, where a loop goes on by years -/
theorem ev_upTo (σ : mS) {W H mp dn ln : Nat} (I : MI σ W H mp dn ln) (ht : tl0 σ) (ct : Int32) {Y : Nat} (hY : Y ≤ 200) : Ev kX8_upTo [mM, mI (nI Y), mI ct] σ (fun r s => r = none ∧ Keep σ s ∧ s 74 0 = upO σ W H mp dn ln ct (Y + 1)) := by
  refine Ev.intro fun G hG => hG.run ?_
  refine call_of (ev_begins σ) ?_
  rw [tl_begins I ht]
  have key : ∀ n y, y + n = Y + 1 → ∀ s, Keep σ s → s 74 0 = upO σ W H mp dn ln ct y → G 6 [some mM, some (mI (nI Y)), some (mI ct), some (mI (nI y))] [] s := by
    intro n
    induction n with
    | zero =>
      intro y hy s k h74
      have : y = Y + 1 := by omega
      subst this
      exact hG.run (br_t (nI_lt (by omega) (by omega)) ⟨rfl, k, h74⟩)
    | succ n ih =>
      intro y hy s k h74
      refine hG.run (br_f (nI_nlt (by omega) (by omega)) ?_)
      refine call_ex (ev_goes s (I.keep k.t) (nI y) ct) ?_
      rintro r s2 ⟨rfl, k2, h2⟩
      have h5 := ih (y + 1) (by omega) s2 (k.tr k2) (by rw [h2, goO_keep k.t, h74]; rfl)
      rw [← nI_1] at h5
      exact h5
  exact key (Y + 1) 0 (by omega) _ (Keep.put _ (Or.inr (Or.inr (Or.inr (Or.inl rfl))))) (mput_eq _ _ _ _)
/-- an answer of a call that asks -/
def askQ (σ s : mS) : Prop := Keep (th0 σ) s ∧ tl0 s
theorem askQ.th {σ : mS} (h : tl0 σ) : askQ σ (th0 σ) := ⟨Keep.rf, h⟩
theorem MI.th {σ : mS} {W H mp dn ln : Nat} (I : MI σ W H mp dn ln) : MI (th0 σ) W H mp dn ln := I.keep KeepT.th
theorem yr_of {x : Int32} (h : vp_in x 201) : ∃ Y, Y ≤ 200 ∧ x = nI Y := by
  obtain ⟨Y, h1, h2⟩ := (vp_nI (by omega)).mp h
  exact ⟨Y, by omega, h2⟩
theorem ev_owner (σ : mS) {W H mp dn ln : Nat} (I : MI σ W H mp dn ln) (ht : tl0 σ) (x y year : Int32) (post : Option mV → mS → Prop)
    (hbad : ¬ ((vp_in x W ∧ vp_in y H) ∧ vp_in year 201 ∧ 0 < mp) → post (some (mI (-2))) (th0 σ))
    (hgo : ∀ X Y yr, X < W → Y < H → yr ≤ 200 → x = nI X → y = nI Y → year = nI yr → 0 < mp → ∀ s, askQ σ s → post (some (mI (upO σ W H mp dn ln (-1) (yr + 1) (12 * Y + X)))) s) : Ev kX8_owner [mM, mI x, mI y, mI year] σ post := by
  obtain ⟨⟨hW, hW0, hW1⟩, ⟨hH, hH0, hH1⟩, ⟨hmp, hmp1⟩, -⟩ := id I
  refine Ev.intro fun G hG => hG.run ?_
  refine call_of (ev_isCell (th0 σ) x y hW hW0 hW1 hH hH0 hH1) ?_
  refine And.intro (fun c1 => hbad (fun q => b_f c1 q.1)) (fun c1 => ?_)
  refine call_of (ev_isYear _ year) ?_
  refine And.intro (fun c2 => hbad (fun q => b_f c2 q.2.1)) (fun c2 => ?_)
  refine And.intro (fun c3 => ?_) (fun c3 => ?_)
  · replace c3 : ¬ σ 40 0 3 = 0 := c3
    rw [hmp] at c3
    have c3 : 0 < mp := Nat.pos_of_ne_zero (fun q => c3 (by rw [q]; rfl))
    obtain ⟨d1, d2⟩ := b_t c1
    obtain ⟨X, hX, rfl⟩ := (vp_nI (by omega)).mp d1
    obtain ⟨Y, hY, rfl⟩ := (vp_nI (by omega)).mp d2
    obtain ⟨yr, hyr, rfl⟩ := yr_of (b_t c2)
    refine call_ex (ev_upTo (th0 σ) I.th ht (-1) hyr) ?_
    rintro r s ⟨rfl, k, h74⟩
    rw [upO_keep KeepT.th] at h74
    have hq := hgo X Y yr hX hY hyr rfl rfl rfl c3 s ⟨k, upO_tl I h74⟩
    refine call_of (ev_cell _ (nI X) (nI Y)) ?_
    rw [idx1]
    refine And.intro (vp_in_nI (by omega) (by omega)) ?_
    rw [nI_cl (by omega)]
    rw [← h74] at hq
    exact hq
  · replace c3 : σ 40 0 3 = 0 := c3
    rw [hmp] at c3
    exact hbad (fun q => absurd ((nI_eq (b := 0) (by omega) (by omega)).mp c3) (by omega))
/-- an owner that is asked: -1 .. 9 -/
def askP (o year : Int32) (mp : Nat) : Prop := (-1 ≤ o ∧ o ≤ 9) ∧ vp_in year 201 ∧ 0 < mp
theorem ev_isAsked (σ : mS) (o year : Int32) {mp : Nat} (hmp : σ 40 0 3 = nI mp) (hmp1 : mp ≤ 10) : Ev kX8_isAsked [mM, mI o, mI year] σ (fun r s => r = some (mI (b2i (askP o year mp))) ∧ s = σ) := by
  refine Ev.intro fun G hG => hG.run ?_
  have no : ¬ askP o year mp → (some (mI ((0 : Int32) &&& 1)) : Option mV) = some (mI (b2i (askP o year mp))) ∧ σ = σ := fun q => ⟨by rw [b2i_f q]; rfl, rfl⟩
  refine call_of (ev_inI _ o (-1) 9) ?_
  refine And.intro (fun c1 => no (fun q => b_f c1 q.1)) (fun c1 => ?_)
  refine call_of (ev_isYear _ year) ?_
  refine And.intro (fun c2 => no (fun q => b_f c2 q.2.1)) (fun c2 => ?_)
  refine And.intro (fun c3 => ?_) (fun c3 => ?_)
  · replace c3 : σ 40 0 3 ≤ 0 := c3
    rw [hmp] at c3
    exact no (fun q => absurd (le_of_le (b := 0) c3 (by omega)) (by have := q.2.2; omega))
  · replace c3 : ¬ σ 40 0 3 ≤ 0 := c3
    rw [hmp] at c3
    have c3 : 0 < mp := lt_of_nle (b := 0) c3 (by omega)
    exact ⟨by rw [b2i_t (P := askP o year mp) ⟨b_t c1, b_t c2, c3⟩]; rfl, rfl⟩
/-- the area of an owner in a year -/
noncomputable def areaF (σ : mS) (W H mp dn ln : Nat) (o : Int32) (yr : Nat) : Int32 := arF W H (wtr σ (mapInF (σ 54 0) (nI yr) mp)) (upO σ W H mp dn ln (-1) (yr + 1)) o 144
theorem ev_area (σ : mS) {W H mp dn ln : Nat} (I : MI σ W H mp dn ln) (ht : tl0 σ) (o year : Int32) (post : Option mV → mS → Prop)
    (hbad : ¬ askP o year mp → post (some (mI (-2))) (th0 σ)) (hgo : ∀ yr, yr ≤ 200 → year = nI yr → askP o year mp → ∀ s, askQ σ s → post (some (mI (areaF σ W H mp dn ln o yr))) s) : Ev kX8_area [mM, mI o, mI year] σ post := by
  obtain ⟨⟨hW, hW0, hW1⟩, ⟨hH, hH0, hH1⟩, ⟨hmp, hmp1⟩, -⟩ := id I
  refine Ev.intro fun G hG => hG.run ?_
  refine call_of (ev_isAsked (th0 σ) o year hmp hmp1) ?_
  refine And.intro (fun c1 => ?_) (fun c1 => hbad (b_f c1))
  have hask := b_t c1
  obtain ⟨yr, hyr, rfl⟩ := yr_of hask.2.1
  refine call_ex (ev_upTo (th0 σ) I.th ht (-1) hyr) ?_
  rintro r s ⟨rfl, k, h74⟩
  have I1 := I.th.keep k.t
  obtain ⟨⟨hW', -⟩, ⟨hH', -⟩, ⟨hmp', -⟩, -, -, hb', -⟩ := id I1
  rw [upO_keep KeepT.th] at h74
  have hq := hgo yr hyr rfl hask s ⟨k, upO_tl I h74⟩
  refine call_of (ev_mapIn s (nI yr) hmp' hmp1) ?_
  have hlt := mapInF_lt (s 54 0) (nI yr) mp
  refine call_of (ev_areaOn s o (m := mapInF (s 54 0) (nI yr) mp) hW' hW1 hH' hH1 (by omega) hb') ?_
  have kk := KeepT.th.tr k.t
  unfold areaF at hq
  rw [← h74, ← kk.g (g := 54) (by decide), ← wtr_keep kk] at hq
  exact hq
noncomputable def frF (W H : Nat) (wt o : Nat → Int32) (its : Int32) (n : Nat) : Int32 := fo (fun c acc => acc + b2i (onP W H c ∧ wt c = 0 ∧ o c = its ∧ bwP W H wt c 144)) 0 n
noncomputable def frontF (σ : mS) (W H mp dn ln : Nat) (o : Int32) (yr : Nat) : Int32 := frF W H (wtr σ (mapInF (σ 54 0) (nI yr) mp)) (upO σ W H mp dn ln (-1) (yr + 1)) o 144
theorem ev_front (σ : mS) {W H mp dn ln : Nat} (I : MI σ W H mp dn ln) (ht : tl0 σ) (o year : Int32) (post : Option mV → mS → Prop)
    (hbad : ¬ askP o year mp → post (some (mI (-2))) (th0 σ)) (hgo : ∀ yr, yr ≤ 200 → year = nI yr → askP o year mp → ∀ s, askQ σ s → post (some (mI (frontF σ W H mp dn ln o yr))) s) : Ev kX8_front [mM, mI o, mI year] σ post := by
  obtain ⟨⟨hW, hW0, hW1⟩, ⟨hH, hH0, hH1⟩, ⟨hmp, hmp1⟩, -⟩ := id I
  refine Ev.intro fun G hG => hG.run ?_
  refine call_of (ev_isAsked (th0 σ) o year hmp hmp1) ?_
  refine And.intro (fun c1 => ?_) (fun c1 => hbad (b_f c1))
  have hask := b_t c1
  obtain ⟨yr, hyr, rfl⟩ := yr_of hask.2.1
  refine call_ex (ev_upTo (th0 σ) I.th ht (-1) hyr) ?_
  rintro r s ⟨rfl, k, h74⟩
  have I1 := I.th.keep k.t
  obtain ⟨⟨hW', -⟩, ⟨hH', -⟩, ⟨hmp', -⟩, -, -, hb', -⟩ := id I1
  rw [upO_keep KeepT.th] at h74
  have hq := hgo yr hyr rfl hask s ⟨k, upO_tl I h74⟩
  refine call_of (ev_mapIn s (nI yr) hmp' hmp1) ?_
  have hlt := mapInF_lt (s 54 0) (nI yr) mp
  have kk := KeepT.th.tr k.t
  unfold frontF at hq
  rw [← h74, ← kk.g (g := 54) (by decide), ← wtr_keep kk] at hq
  generalize mapInF (s 54 0) (nI yr) mp = M at hlt hq
  have key := loop_up (G := G) 35 144 (fun i => [some mM, some (mI o), some (mI (nI yr)), some (mI (nI M)), some (mI (frF W H (wtr s M) (s 74 0) o i)), some (mI (nI i))]) (fun _ => s) ?_ ?_ 0 (by omega)
  · exact key
  · intro i hi ih
    have e : frF W H (wtr s M) (s 74 0) o (i + 1) = frF W H (wtr s M) (s 74 0) o i + b2i (onP W H i ∧ wtr s M i = 0 ∧ s 74 0 i = o ∧ bwP W H (wtr s M) i 144) := rfl
    rw [e, ← nI_1] at ih
    have no : ¬ (onP W H i ∧ wtr s M i = 0 ∧ s 74 0 i = o ∧ bwP W H (wtr s M) i 144) → G 35 [some mM, some (mI o), some (mI (nI yr)), some (mI (nI M)), some (mI (frF W H (wtr s M) (s 74 0) o i + 0)), some (mI (nI i + 1))] [] s := fun q => by rw [b2i_f q] at ih; exact ih
    refine hG.run (br_f (nI_ge (b := 144) hi (by decide)) ?_)
    refine call_of (ev_isOn s (c := i) hW' hW1 hH' hH1 hi) ?_
    refine And.intro (fun c1 => no (fun q => b_f c1 q.1)) (fun c1 => ?_)
    refine call_of (ev_isWet s (m := M) (c := i) (by omega) hi hb') ?_
    refine And.intro (fun c2 => no (fun q => c2 q.2.1)) (fun c2 => ?_)
    refine And.intro (vp_in_nI (by omega) (by omega)) ?_
    rw [nI_cl (by omega)]
    refine And.intro (fun c3 => no (fun q => c3 q.2.2.1)) (fun c3 => ?_)
    refine call_of (ev_isByWater s (m := M) (c := i) hW' hW1 hH' hH1 (by omega) hi hb') ?_
    refine And.intro (fun c4 => no (fun q => b_f c4 q.2.2.2)) (fun c4 => ?_)
    rw [b2i_t ⟨b_t c1, c2, c3, b_t c4⟩] at ih
    exact ih
  · exact hG.run (br_t (Int32.le_refl _) hq)
noncomputable def taxF (σ : mS) (W H mp dn ln : Nat) (o : Int32) (a n : Nat) : Int32 := fo (fun y acc => acc + (if y < a then 0 else areaF σ W H mp dn ln o y)) 0 n
theorem ev_tax (σ : mS) {W H mp dn ln : Nat} (I : MI σ W H mp dn ln) (ht : tl0 σ) (o a b : Int32) (post : Option mV → mS → Prop)
    (hbad : ¬ (askP o a mp ∧ vp_in b 201 ∧ a ≤ b) → post (some (mI (-2))) (th0 σ))
    (hgo : ∀ A B, A ≤ B → B ≤ 200 → a = nI A → b = nI B → askP o a mp → ∀ s, askQ σ s → post (some (mI (taxF σ W H mp dn ln o A (B + 1)))) s) : Ev kX8_tax [mM, mI o, mI a, mI b] σ post := by
  obtain ⟨⟨hW, hW0, hW1⟩, ⟨hH, hH0, hH1⟩, ⟨hmp, hmp1⟩, -⟩ := id I
  refine Ev.intro fun G hG => hG.run ?_
  refine call_of (ev_isAsked (th0 σ) o a hmp hmp1) ?_
  refine And.intro (fun c1 => hbad (fun q => b_f c1 q.1)) (fun c1 => ?_)
  have hask := b_t c1
  refine call_of (ev_isYear _ b) ?_
  refine And.intro (fun c2 => hbad (fun q => b_f c2 q.2.1)) (fun c2 => ?_)
  refine And.intro (fun c3 => ?_) (fun c3 => hbad (fun q => c3 q.2.2))
  obtain ⟨A, hA, rfl⟩ := yr_of hask.2.1
  obtain ⟨B, hB, rfl⟩ := yr_of (b_t c2)
  have hAB : A ≤ B := le_of_le c3 (by omega)
  refine call_of (ev_begins (th0 σ)) ?_
  have hbe : cpy (th0 σ 74 0) (th0 σ 56 0) 144 = th0 σ 56 0 := tl_begins I.th ht
  rw [hbe]
  have key : ∀ n y, y + n = B + 1 → ∀ s, Keep (th0 σ) s → s 74 0 = upO σ W H mp dn ln (-1) y → G 39 [some mM, some (mI o), some (mI (nI A)), some (mI (nI B)), some (mI (taxF σ W H mp dn ln o A y)), some (mI (nI y))] [] s := by
    intro n
    induction n with
    | zero =>
      intro y hy s k h74
      have : y = B + 1 := by omega
      subst this
      exact hG.run (br_t (nI_lt (by omega) (by omega)) (hgo A B hAB hB rfl rfl hask s ⟨k, upO_tl I h74⟩))
    | succ n ih =>
      intro y hy s k h74
      have kk := KeepT.th.tr k.t
      refine hG.run (br_f (nI_nlt (by omega) (by omega)) ?_)
      refine call_ex (ev_goes s (I.keep kk) (nI y) (-1)) ?_
      rintro r s2 ⟨rfl, k2, h2⟩
      have kk2 := kk.tr k2.t
      have h2' : s2 74 0 = upO σ W H mp dn ln (-1) (y + 1) := by rw [h2, goO_keep kk, h74]; rfl
      have h5 := ih (y + 1) (by omega) s2 (k.tr k2) h2'
      rw [show taxF σ W H mp dn ln o A (y + 1) = taxF σ W H mp dn ln o A y + (if y < A then 0 else areaF σ W H mp dn ln o y) from rfl, ← nI_1] at h5
      have I2 := I.keep kk2
      obtain ⟨⟨hW', -⟩, ⟨hH', -⟩, ⟨hmp', -⟩, -, -, hb', -⟩ := id I2
      refine And.intro (fun c4 => ?_) (fun c4 => ?_)
      · have c4 := le_of_le c4 (by omega)
        rw [if_neg (by omega)] at h5
        refine call_of (ev_mapIn s2 (nI y) hmp' hmp1) ?_
        have hlt := mapInF_lt (s2 54 0) (nI y) mp
        refine call_of (ev_areaOn s2 o (m := mapInF (s2 54 0) (nI y) mp) hW' hW1 hH' hH1 (by omega) hb') ?_
        unfold areaF at h5
        rw [← h2', ← kk2.g (g := 54) (by decide), ← wtr_keep kk2] at h5
        exact h5
      · have c4 := lt_of_nle c4 (by omega)
        rw [if_pos c4] at h5
        exact h5
  exact key (B + 1) 0 (by omega) _ (Keep.put _ (Or.inr (Or.inr (Or.inr (Or.inl rfl))))) (mput_eq _ _ _ _)
