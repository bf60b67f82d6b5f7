/-! CLASS: a step is taken -/
def best (yr : Nat → Int32) (year : Int32) (lo n b : Nat) : Prop := lo ≤ b ∧ b < n ∧ yr b ≤ year ∧ ∀ i, lo ≤ i → i < n → yr i ≤ year → yr i < yr b ∨ (yr i = yr b ∧ i ≤ b)
theorem best_un {yr : Nat → Int32} {year : Int32} {lo n a b : Nat} (h1 : best yr year lo n a) (h2 : best yr year lo n b) : a = b := by
  obtain ⟨a1, a2, a3, a4⟩ := h1
  obtain ⟨b1, b2, b3, b4⟩ := h2
  have q1 := a4 b b1 b2 b3
  have q2 := b4 a a1 a2 a3
  rw [Int32.lt_iff_toInt_lt, ← Int32.toInt_inj] at q1 q2
  omega
theorem lw_best (yr : Nat → Int32) (year : Int32) (n : Nat) : ∀ j, j ≤ n → (lwF yr year n j = none → ∀ i, n - j ≤ i → i < n → ¬ yr i ≤ year) ∧ ∀ b, lwF yr year n j = some b → best yr year (n - j) n b := by
  intro j
  induction j with
  | zero =>
    intro _
    exact ⟨fun _ i h1 h2 => absurd h1 (by omega), fun b h => by cases h⟩
  | succ j ih =>
    intro hj
    obtain ⟨i1, i2⟩ := ih (by omega)
    have e : lwF yr year n (j + 1) = ifp (yr (n - 1 - j) ≤ year ∧ (∀ e, lwF yr year n j = some e → yr e < yr (n - 1 - j))) (some (n - 1 - j)) (lwF yr year n j) := rfl
    by_cases hc : yr (n - 1 - j) ≤ year ∧ (∀ e, lwF yr year n j = some e → yr e < yr (n - 1 - j))
    · rw [ifp_t hc] at e
      rw [e]
      refine ⟨fun h => (by cases h), fun b h => ?_⟩
      cases h
      refine ⟨by omega, by omega, hc.1, fun i h1 h2 h3 => ?_⟩
      by_cases hi : i = n - 1 - j
      · subst hi; exact Or.inr ⟨rfl, Nat.le_refl _⟩
      · left
        cases hl : lwF yr year n j with
        | none => exact absurd h3 (i1 hl i (by omega) h2)
        | some e =>
          have q1 := hc.2 e hl
          have q2 := (i2 e hl).2.2.2 i (by omega) h2 h3
          rw [Int32.lt_iff_toInt_lt] at q1 ⊢
          rw [Int32.lt_iff_toInt_lt, ← Int32.toInt_inj] at q2
          omega
    · rw [ifp_f hc] at e
      rw [e]
      refine ⟨fun h i h1 h2 h3 => ?_, fun b h => ?_⟩
      · by_cases hi : i = n - 1 - j
        · subst hi
          exact hc ⟨h3, fun e he => by rw [h] at he; cases he⟩
        · exact i1 h i (by omega) h2 h3
      · obtain ⟨b1, b2, b3, b4⟩ := i2 b h
        refine ⟨by omega, b2, b3, fun i h1 h2 h3 => ?_⟩
        by_cases hi : i = n - 1 - j
        · subst hi
          have : ¬ yr b < yr (n - 1 - j) := fun q => hc ⟨h3, fun e he => by rw [h] at he; cases he; exact q⟩
          rw [Int32.lt_iff_toInt_lt] at this
          rw [Int32.lt_iff_toInt_lt, ← Int32.toInt_inj]
          omega
        · exact b4 i (by omega) h2 h3
theorem pl_best (yr yx : Nat → Int32) (year : Int32) (h0 : yx 0 = -1) : ∀ n, (∀ i, i < n → yx (i + 1) = yr i ∧ 0 ≤ yr i) → (plF yx year n = 0 → ∀ i, i < n → ¬ yr i ≤ year) ∧ ∀ b, plF yx year n = b + 1 → best yr year 0 n b
  | 0, _ => ⟨fun _ i h => absurd h (by omega), fun b h => by cases h⟩
  | n + 1, hy => by
    obtain ⟨i1, i2⟩ := pl_best yr yx year h0 n (fun i hi => hy i (by omega))
    obtain ⟨e1, e2⟩ := hy n (by omega)
    have hle := plF_le yx year n
    have e : plF yx year (n + 1) = if yx (n + 1) ≤ year ∧ yx (plF yx year n) ≤ yx (n + 1) then n + 1 else plF yx year n := rfl
    rw [e1] at e
    by_cases hc : yr n ≤ year ∧ yx (plF yx year n) ≤ yr n
    · rw [if_pos hc] at e
      rw [e]
      refine ⟨fun h => (by cases h), fun b h => ?_⟩
      have : b = n := by omega
      subst this
      refine ⟨by omega, by omega, hc.1, fun i _ h2 h3 => ?_⟩
      by_cases hi : i = b
      · subst hi; exact Or.inr ⟨rfl, Nat.le_refl _⟩
      · cases hp : plF yx year b with
        | zero => exact absurd h3 (i1 hp i (by omega))
        | succ a =>
          obtain ⟨a1, a2, a3, a4⟩ := i2 a hp
          have q := a4 i (by omega) (by omega) h3
          have hc2 := hc.2
          rw [hp, (hy a (by omega)).1] at hc2
          rw [Int32.le_iff_toInt_le] at hc2
          rw [Int32.lt_iff_toInt_lt, ← Int32.toInt_inj] at q ⊢
          omega
    · rw [if_neg hc] at e
      rw [e]
      refine ⟨fun h i hi h3 => ?_, fun b h => ?_⟩
      · by_cases hin : i = n
        · subst hin
          refine hc ⟨h3, ?_⟩
          rw [h, h0]
          rw [Int32.le_iff_toInt_le] at e2 ⊢
          have : (-1 : Int32).toInt = -1 := by decide
          have : (0 : Int32).toInt = 0 := by decide
          omega
        · exact i1 h i (by omega) h3
      · obtain ⟨b1, b2, b3, b4⟩ := i2 b h
        refine ⟨b1, by omega, b3, fun i _ h2 h3 => ?_⟩
        by_cases hin : i = n
        · subst hin
          have : ¬ yx (plF yx year i) ≤ yr i := fun q => hc ⟨h3, q⟩
          rw [h, (hy b (by omega)).1, Int32.le_iff_toInt_le] at this
          left
          rw [Int32.lt_iff_toInt_lt]
          omega
        · exact b4 i (by omega) (by omega) h3
/-- the laws of both -/
def LWs (σ τ : mS) (ln : Nat) : Prop := (σ 22 0 0 = nI ln ∧ ln ≤ 20) ∧ (σ 23 0 0 = -1 ∧ σ 24 0 0 = 1 ∧ σ 25 0 0 = 0 ∧ σ 26 0 0 = 0) ∧ ∀ i, i < ln → σ 23 0 (i + 1) = τ 64 0 i ∧ 0 ≤ τ 64 0 i ∧ σ 24 0 (i + 1) = τ 65 0 i ∧ σ 25 0 (i + 1) = τ 66 0 i ∧ σ 26 0 (i + 1) = τ 67 0 i ∧ (τ 65 0 i = 0 ∨ τ 65 0 i = 1) ∧ (τ 66 0 i = 0 ∨ τ 66 0 i = 1)
theorem law_ok {σ τ : mS} {ln : Nat} (h : LWs σ τ ln) (year : Int32) (sud : Prop) : ((ifp sud (σ 25 0 (plF (σ 23 0) year ln)) (σ 24 0 (plF (σ 23 0) year ln)) = 1) ↔ ¬ grw τ (lwF (τ 64 0) year ln ln) sud = 0) ∧ σ 26 0 (plF (σ 23 0) year ln) = isl τ (lwF (τ 64 0) year ln ln) := by
  obtain ⟨-, ⟨h0, h1, h2, h3⟩, hi⟩ := h
  have hl := lw_best (τ 64 0) year ln ln (Nat.le_refl _)
  have hp := pl_best (τ 64 0) (σ 23 0) year h0 ln (fun i q => ⟨(hi i q).1, (hi i q).2.1⟩)
  cases hlw : lwF (τ 64 0) year ln ln with
  | none =>
    have hno := hl.1 hlw
    have : plF (σ 23 0) year ln = 0 := by
      cases hq : plF (σ 23 0) year ln with
      | zero => rfl
      | succ b =>
        have := hp.2 b hq
        exact absurd this.2.2.1 (hno b (by omega) this.2.1)
    rw [this, h1, h2, h3]
    refine ⟨?_, rfl⟩
    show _ ↔ ¬ ifp sud (0 : Int32) 1 = 0
    by_cases hs : sud
    · rw [ifp_t hs]; decide
    · rw [ifp_f hs]; decide
  | some b =>
    have hb := hl.2 b hlw
    rw [Nat.sub_self] at hb
    have : plF (σ 23 0) year ln = b + 1 := by
      cases hq : plF (σ 23 0) year ln with
      | zero => exact absurd hb.2.2.1 (hp.1 hq b hb.2.1)
      | succ a => rw [best_un (hp.2 a hq) hb]
    obtain ⟨q1, q2, q3, q4, q5, q6, q7⟩ := hi b hb.2.1
    rw [this, q3, q4, q5]
    refine ⟨?_, rfl⟩
    show _ ↔ ¬ ifp sud (τ 66 0 b) (τ 65 0 b) = 0
    by_cases hs : sud
    · rw [ifp_t hs]
      rcases q7 with q | q
      · rw [q]; decide
      · rw [q]; decide
    · rw [ifp_f hs]
      rcases q6 with q | q
      · rw [q]; decide
      · rw [q]; decide
/-- owners of both -/
def OR (W N : Nat) (x o : Nat → Int32) : Prop := ∀ k, k < N → x k = o (emb W k)
theorem np_fast (kd : Nat → Int32) (P : Nat → Prop) : ∀ n e, (npS kd P n).1 = some e → e < n ∧ kd e = 0
  | 0, e, h => by cases h
  | n + 1, e, h => by
    have e1 : npS kd P (n + 1) = ifp (kd n = 0 ∧ ((npS kd P n).1 = none ∨ aptS P n 144 < (npS kd P n).2)) (some n, aptS P n 144) (npS kd P n) := rfl
    rw [e1] at h
    by_cases hc : kd n = 0 ∧ ((npS kd P n).1 = none ∨ aptS P n 144 < (npS kd P n).2)
    · rw [ifp_t hc] at h
      cases h
      exact ⟨by omega, hc.1⟩
    · rw [ifp_f hc] at h
      have := np_fast kd P n e h
      exact ⟨by omega, this.2⟩
/-- what the class gives a cell by a step -/
noncomputable def shX (N : Nat) (kM : Nat → Int32) (W : Nat) (isle : Int32) (x o : Nat → Int32) (n : Nat) : Nat → Int32 := fun k => if k < n then stpF kM isle o (emb W k) else x k
theorem ev_shift (σ : mS) {W H m : Nat} {kM o : Nat → Int32} (isle : Int32) (I : GR σ W H) (hL : LR W (W * H) kM (σ 10 m) (σ 11 m) (σ 12 m)) (hO : OR W (W * H) (σ 29 0) o) : Ev kX5_shiftOwners [xP, mR 10 m, mI isle] σ (fun r s => r = none ∧ ∃ f, s = mput σ 29 0 f ∧ OR W (W * H) f (stpF kM isle o)) := by
  have I0 := I
  obtain ⟨⟨hW, hW0, hW1⟩, ⟨hH, hH0, hH1⟩, hc, hkk⟩ := I
  have hN := gr_le hW1 hH1
  refine Ev.intro fun G hG => hG.run ?_
  have loop : ∀ n i, i + n = W * H → ∀ f, (∀ k, k < i → f k = stpF kM isle o (emb W k)) → (∀ k, i ≤ k → k < W * H → f k = o (emb W k)) → ∀ z4 z5 : Option mV, G 2 [some xP, some (mR 10 m), some (mI isle), some (mI (nI i)), z4, z5] [] (mput σ 29 0 f) := by
    intro n
    induction n with
    | zero =>
      intro i hi f h1 h2 z4 z5
      have : i = W * H := by omega
      subst this
      refine hG.run (br_t ?_ ⟨rfl, f, rfl, fun k hk => h1 k hk⟩)
      show σ 1 0 2 ≤ nI (W * H)
      rw [hc]; exact Int32.le_refl _
    | succ n ih =>
      intro i hi f h1 h2 z4 z5
      have v : vp_in (nI i) 144 := vp_in_nI (by omega) (by omega)
      have same : stpF kM isle o (emb W i) = o (emb W i) → ∀ z4 z5 : Option mV, G 2 [some xP, some (mR 10 m), some (mI isle), some (mI (nI i + 1)), z4, z5] [] (mput σ 29 0 f) := by
        intro q z4 z5
        rw [nI_1]
        refine ih (i + 1) (by omega) f (fun k hk => ?_) (fun k a b => h2 k (by omega) b) z4 z5
        by_cases hki : k = i
        · subst hki; rw [q]; exact h2 k (by omega) (by omega)
        · exact h1 k (by omega)
      have put : ∀ v, stpF kM isle o (emb W i) = v → ∀ z4 z5 : Option mV, G 2 [some xP, some (mR 10 m), some (mI isle), some (mI (nI i + 1)), z4, z5] [] (mput (mput σ 29 0 f) 29 0 (upd f i v)) := by
        intro v q z4 z5
        rw [nI_1, mput_mput]
        refine ih (i + 1) (by omega) _ (fun k hk => ?_) (fun k a b => ?_) z4 z5
        · by_cases hki : k = i
          · subst hki; rw [upd_eq, q]
          · rw [upd_ne _ _ hki]; exact h1 k (by omega)
        · rw [upd_ne _ _ (by omega)]; exact h2 k (by omega) b
      have fast : ∀ e, e < W * H → kM (emb W e) = 0 → f e = o (emb W e) := by
        intro e he hk
        by_cases hei : e < i
        · rw [h1 e hei]
          unfold stpF
          rw [if_neg (by rw [hk]; decide), if_neg (by rw [hk]; decide)]
        · exact h2 e (by omega) he
      refine hG.run (br_f ?_ ?_)
      · show ¬ σ 1 0 2 ≤ nI i
        rw [hc]; exact nI_ge (by omega) (by omega)
      · refine And.intro v ?_
        rw [nI_cl (by omega)]
        rcases hL.2 i (by omega) with ⟨q1, q2⟩ | ⟨q1, q2⟩ | ⟨q1, q2⟩ | ⟨q1, q2, q3, q4⟩ | ⟨q1, q2, q3, q4⟩
        · rw [show mput σ 29 0 f 11 m i = 4 from q2]
          refine br_f (by decide) ?_
          refine And.intro (fun _ => ?_) (fun c => absurd c (by decide))
          refine br_f (by decide) ?_
          refine And.intro (fun _ => ?_) (fun c => absurd c (by decide))
          exact same (by unfold stpF; rw [if_neg (by rw [q1]; decide), if_neg (by rw [q1]; decide)]) _ _
        · rw [show mput σ 29 0 f 11 m i = 1 from q2]
          refine br_t rfl ?_
          refine And.intro v ?_
          rw [nI_cl (by omega)]
          exact put (-1) (by unfold stpF; rw [if_pos q1]) _ _
        · rw [show mput σ 29 0 f 11 m i = 0 from q2]
          refine br_f (by decide) ?_
          refine And.intro (fun _ => ?_) (fun c => absurd c (by decide))
          refine br_f (by decide) ?_
          refine And.intro (fun _ => ?_) (fun c => absurd c (by decide))
          exact same (by unfold stpF; rw [if_neg (by rw [q1]; decide), if_neg (by rw [q1]; decide)]) _ _
        · rw [show mput σ 29 0 f 11 m i = 2 from q3]
          have ee : stpF kM isle o (emb W i) = oget o (nrF kM (emb W i) 144) := by
            unfold stpF
            rw [if_neg (by rw [q1]; decide), if_pos q1, ifp_t q2]
          refine br_f (by decide) ?_
          refine And.intro (fun _ => ?_) (fun c => absurd c (by decide))
          refine br_t rfl ?_
          refine And.intro v ?_
          rw [nI_cl (by omega)]
          rcases q4 with ⟨b1, b2⟩ | ⟨e, he, b1, b2⟩
          · rw [show mput σ 29 0 f 12 m i = -1 from b2]
            refine And.intro (fun q => absurd rfl q) (fun _ => ?_)
            refine And.intro v ?_
            rw [nI_cl (by omega)]
            exact put (-1) (by rw [ee]; rw [b1]; rfl) _ _
          · rw [show mput σ 29 0 f 12 m i = nI e from b2]
            refine And.intro (fun _ => ?_) (fun c => absurd c (nI_neg (by omega)))
            refine And.intro (vp_in_nI (by omega) (by omega)) (And.intro v ?_)
            rw [nI_cl (n := i) (by omega), nI_cl (n := e) (by omega)]
            exact put (f e) (by rw [ee]; rw [b1, fast e he ((fun x hx => (nrF_lt kM (emb W i) 144 x hx).2) _ b1)]; rfl) _ _
        · rw [show mput σ 29 0 f 11 m i = 3 from q3]
          have ee : stpF kM isle o (emb W i) = if isle = 0 then oget o (heirI kM (emb W i)) else if isle = 1 then -1 else o (emb W i) := by
            unfold stpF
            rw [if_neg (by rw [q1]; decide), if_pos q1, ifp_f q2]
          refine br_f (by decide) ?_
          refine And.intro (fun q => absurd rfl q) (fun _ => ?_)
          refine And.intro (fun c1 => ?_) (fun c1 => ?_)
          refine br_f (by decide) ?_
          refine And.intro (fun q => absurd rfl q) (fun _ => ?_)
          refine And.intro (fun c2 => ?_) (fun c2 => ?_)
          · replace c1 : ¬ isle = 1 := c1
            replace c2 : ¬ isle = 0 := c2
            exact same (by rw [ee, if_neg c2, if_neg c1]) _ _
          · replace c2 : isle = 0 := c2
            rw [if_pos c2] at ee
            refine And.intro v ?_
            rw [nI_cl (by omega)]
            rcases q4 with ⟨b1, b2⟩ | ⟨e, he, b1, b2⟩
            · rw [show mput σ 29 0 f 12 m i = -1 from b2]
              refine And.intro (fun q => absurd rfl q) (fun _ => ?_)
              refine And.intro v ?_
              rw [nI_cl (by omega)]
              exact put (-1) (by rw [ee]; rw [b1]; rfl) _ _
            · rw [show mput σ 29 0 f 12 m i = nI e from b2]
              refine And.intro (fun _ => ?_) (fun c => absurd c (nI_neg (by omega)))
              refine And.intro (vp_in_nI (by omega) (by omega)) (And.intro v ?_)
              rw [nI_cl (n := i) (by omega), nI_cl (n := e) (by omega)]
              exact put (f e) (by rw [ee]; rw [b1, fast e he ((fun x hx => (np_fast kM _ 144 x hx).2) _ b1)]; rfl) _ _
          · replace c1 : isle = 1 := c1
            refine And.intro v ?_
            rw [nI_cl (by omega)]
            exact put (-1) (by rw [ee, c1, if_neg (by decide), if_pos rfl]) _ _
  have h := loop (W * H) 0 (by omega) (σ 29 0) (fun k hk => absurd hk (by omega)) (fun k _ hk => hO k hk) none none
  rw [mput_self] at h
  exact h
