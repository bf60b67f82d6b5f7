/-! THE REFERENCE: chain, banks, steps asked -/
/-- what a chain tells: how many numbers, and the row -/
def chF (o : Nat → Int32) (y0 : Nat) (row : Nat → Int32) (n : Nat) : Nat × (Nat → Int32) :=
  fo (fun y st => if y = y0 ∨ (y0 < y ∧ ¬ o y = st.2 (st.1 - 2)) then (st.1 + 2, upd (upd st.2 st.1 (o y)) (st.1 + 1) (nI y)) else st) (0, row) n
theorem chF_len (o : Nat → Int32) (y0 : Nat) (row : Nat → Int32) : ∀ n, (chF o y0 row n).1 ≤ 2 * n ∧ (y0 < n → 2 ≤ (chF o y0 row n).1) ∧ (chF o y0 row n).1 % 2 = 0
  | 0 => ⟨Nat.le_refl _, fun h => absurd h (by omega), rfl⟩
  | n + 1 => by
    obtain ⟨i1, i2, i3⟩ := chF_len o y0 row n
    have e : chF o y0 row (n + 1) = if n = y0 ∨ (y0 < n ∧ ¬ o n = (chF o y0 row n).2 ((chF o y0 row n).1 - 2)) then ((chF o y0 row n).1 + 2, upd (upd (chF o y0 row n).2 (chF o y0 row n).1 (o n)) ((chF o y0 row n).1 + 1) (nI n)) else chF o y0 row n := rfl
    rw [e]
    split
    · exact ⟨by show (chF o y0 row n).1 + 2 ≤ _; omega, fun _ => by show 2 ≤ (chF o y0 row n).1 + 2; omega, by show ((chF o y0 row n).1 + 2) % 2 = 0; omega⟩
    · rename_i h
      exact ⟨by omega, fun h2 => i2 (by omega), i3⟩
theorem div2 {a : Nat} (h : a < 2 ^ 31) : nI a / 2 = nI (a / 2) := pk_div (d := 2) h (by omega) (by omega)
/-- what a chain leaves: as Keep, but the row -/
def chainQ (σ s : mS) (n : Nat) (row : Nat → Int32) : Prop := (∀ j, j ≠ 23 → j ≠ 26 → s 40 0 j = th0 σ 40 0 j) ∧ (∀ g, g ≠ 40 → g ≠ 70 → g ≠ 71 → g ≠ 72 → g ≠ 74 → g ≠ 75 → g ≠ 77 → s g 0 = σ g 0) ∧ s 40 0 26 = nI n ∧ s 77 0 = row ∧ tl0 s
theorem ev_chain (σ : mS) {W H mp dn ln y0 : Nat} (I : MI σ W H mp dn ln) (ht : tl0 σ) (hy0 : 0 < mp → σ 54 0 0 = nI y0 ∧ y0 ≤ 200) (x y : Int32) (post : Option mV → mS → Prop)
    (hbad : ¬ ((vp_in x W ∧ vp_in y H) ∧ 0 < mp) → post (some (mI (-1))) (th0 σ))
    (hgo : ∀ X Y, X < W → Y < H → x = nI X → y = nI Y → 0 < mp → ∀ s n row, (n, row) = chF (fun yr => upO σ W H mp dn ln (-1) (yr + 1) (12 * Y + X)) y0 (σ 77 0) 201 → chainQ σ s n row → post (some (mI (nI (n / 2)))) s) : Ev kX8_chain [mM, mI x, mI y] σ post := by
  obtain ⟨⟨hW, hW0, hW1⟩, ⟨hH, hH0, hH1⟩, ⟨hmp, hmp1⟩, -⟩ := id I
  refine Ev.intro fun G hG => hG.run ?_
  refine call_of (ev_isCell (th0 σ) x y hW hW0 hW1 hH hH0 hH1) ?_
  refine And.intro (fun c1 => hbad (fun q => b_f c1 q.1)) (fun c1 => ?_)
  refine And.intro (fun c3 => ?_) (fun c3 => ?_)
  · replace c3 : ¬ σ 40 0 3 = 0 := c3
    rw [hmp] at c3
    have c3 : 0 < mp := Nat.pos_of_ne_zero (fun q => c3 (by rw [q]; rfl))
    obtain ⟨hy0, hy1⟩ := hy0 c3
    obtain ⟨d1, d2⟩ := b_t c1
    obtain ⟨X, hX, rfl⟩ := (vp_nI (by omega)).mp d1
    obtain ⟨Y, hY, rfl⟩ := (vp_nI (by omega)).mp d2
    have hgo := hgo X Y hX hY rfl rfl c3
    refine call_of (ev_cell _ (nI X) (nI Y)) ?_
    rw [idx1]
    have hC : 12 * Y + X < 144 := by omega
    generalize 12 * Y + X = C at hC hgo
    generalize ho : (fun yr => upO σ W H mp dn ln (-1) (yr + 1) C) = o at hgo
    have hoy : ∀ yr, upO σ W H mp dn ln (-1) (yr + 1) C = o yr := fun yr => by rw [← ho]
    refine call_of (ev_begins (mput (th0 σ) 40 0 (upd (th0 σ 40 0) 26 0))) ?_
    have hbe : cpy (th0 σ 74 0) (th0 σ 56 0) 144 = th0 σ 56 0 := tl_begins I.th ht
    -- the machine's cells at the beginning of a year
    have key : ∀ n yr, yr + n = 201 → ∀ s, (∀ j, j ≠ 23 → j ≠ 26 → s 40 0 j = th0 σ 40 0 j) → (∀ g, g ≠ 40 → g ≠ 70 → g ≠ 71 → g ≠ 72 → g ≠ 74 → g ≠ 75 → g ≠ 77 → s g 0 = σ g 0) → s 40 0 26 = nI (chF o y0 (σ 77 0) yr).1 → s 77 0 = (chF o y0 (σ 77 0) yr).2 → s 74 0 = upO σ W H mp dn ln (-1) yr → G 41 [some mM, some (mI (nI X)), some (mI (nI Y)), some (mI (nI C)), some (mI (nI yr))] [] s := by
      intro n
      induction n with
      | zero =>
        intro yr hyr s k1 k2 h26 h77 h74
        have : yr = 201 := by omega
        subst this
        obtain ⟨l1, -, -⟩ := chF_len o y0 (σ 77 0) 201
        refine hG.run (br_t (Int32.le_refl _) (And.intro (by decide) ?_))
        show post (some (mI (s 40 0 26 / 2))) s
        rw [h26, div2 (by omega)]
        exact hgo s _ _ rfl ⟨k1, k2, h26, h77, upO_tl I h74⟩
      | succ n ih =>
        intro yr hyr s k1 k2 h26 h77 h74
        obtain ⟨l1, l2, l3⟩ := chF_len o y0 (σ 77 0) yr
        refine hG.run (br_f (nI_ge (b := 201) (by omega) (by decide)) ?_)
        have kT : KeepT σ (mput (mput s 40 0 (upd (s 40 0) 26 (σ 40 0 26))) 77 0 (σ 77 0)) := by
          refine ⟨fun j h1 h2 => ?_, fun g h1 h2 h3 h4 h5 h6 => ?_⟩
          · rw [mput_ng _ _ _ _ (by decide), mput_eq]
            by_cases hj : j = 26
            · subst hj; rw [upd_eq]
            · rw [upd_ne _ _ hj, k1 j h2 hj]
              unfold th0
              rw [mput_eq, upd_ne _ _ h1]
          · by_cases hg : g = 77
            · subst hg; rw [mput_eq]
            · rw [mput_ng _ _ _ _ hg, mput_ng _ _ _ _ h1]
              exact k2 g h1 h2 h3 h4 h5 h6 hg
        have Is : MI s W H mp dn ln := by
          obtain ⟨h1, h2, h3, h4, h5, h6, h7, h8, h9, h10⟩ := I
          have e : ∀ g, g ≠ 40 → g ≠ 70 → g ≠ 71 → g ≠ 72 → g ≠ 74 → g ≠ 75 → g ≠ 77 → s g 0 = σ g 0 := k2
          have f1 : ∀ j, j ≠ 0 → j ≠ 23 → j ≠ 26 → s 40 0 j = σ 40 0 j := fun j a b c => (k1 j b c).trans (by unfold th0; rw [mput_eq, upd_ne _ _ a])
          unfold MI dedOK
          rw [f1 1 (by decide) (by decide) (by decide), f1 2 (by decide) (by decide) (by decide), f1 3 (by decide) (by decide) (by decide), f1 7 (by decide) (by decide) (by decide), f1 13 (by decide) (by decide) (by decide), e 55 (by decide) (by decide) (by decide) (by decide) (by decide) (by decide) (by decide), e 54 (by decide) (by decide) (by decide) (by decide) (by decide) (by decide) (by decide), e 56 (by decide) (by decide) (by decide) (by decide) (by decide) (by decide) (by decide), e 58 (by decide) (by decide) (by decide) (by decide) (by decide) (by decide) (by decide), e 59 (by decide) (by decide) (by decide) (by decide) (by decide) (by decide) (by decide)]
          exact ⟨h1, h2, h3, h4, h5, h6, h7, h8, h9, h10⟩
        refine call_ex (ev_goes s Is (nI yr) (-1)) ?_
        rintro r s2 ⟨rfl, k3, h2⟩
        have hgoO : goO s W H mp dn ln (-1) (nI yr) (s 74 0) = goO σ W H mp dn ln (-1) (nI yr) (s 74 0) := by
          rw [← goO_keep kT]
          have e : ∀ g, g ≠ 40 → g ≠ 77 → mput (mput s 40 0 (upd (s 40 0) 26 (σ 40 0 26))) 77 0 (σ 77 0) g = s g := fun g a b => by rw [mput_ng _ _ _ _ b, mput_ng _ _ _ _ a]
          unfold goO dsF stepO sdP grw isl kdM wtr
          rw [e 54 (by decide) (by decide), e 55 (by decide) (by decide), e 58 (by decide) (by decide), e 59 (by decide) (by decide), e 60 (by decide) (by decide), e 61 (by decide) (by decide), e 62 (by decide) (by decide), e 64 (by decide) (by decide), e 65 (by decide) (by decide), e 66 (by decide) (by decide), e 67 (by decide) (by decide), e 69 (by decide) (by decide), mput_ng _ _ _ _ (show 40 ≠ 77 by decide), mput_eq, upd_ne _ _ (show 18 ≠ 26 by decide)]
        have h74' : s2 74 0 = upO σ W H mp dn ln (-1) (yr + 1) := by rw [h2, hgoO, h74]; rfl
        have ko : s2 74 0 C = o yr := by rw [h74', hoy]
        have g54 : s2 54 0 = σ 54 0 := (k3.g (by decide)).trans (k2 54 (by decide) (by decide) (by decide) (by decide) (by decide) (by decide) (by decide))
        have g77 : s2 77 0 = (chF o y0 (σ 77 0) yr).2 := (k3.g (by decide)).trans h77
        have g26 : s2 40 0 26 = nI (chF o y0 (σ 77 0) yr).1 := (k3.1 26 (by decide)).trans h26
        have kk1 : ∀ j, j ≠ 23 → j ≠ 26 → s2 40 0 j = th0 σ 40 0 j := fun j a b => (k3.1 j a).trans (k1 j a b)
        have kk2 : ∀ g, g ≠ 40 → g ≠ 70 → g ≠ 71 → g ≠ 72 → g ≠ 74 → g ≠ 75 → g ≠ 77 → s2 g 0 = σ g 0 := fun g a b c d e f h => (k3.2 g a b c d e f).trans (k2 g a b c d e f h)
        have e : chF o y0 (σ 77 0) (yr + 1) = if yr = y0 ∨ (y0 < yr ∧ ¬ o yr = (chF o y0 (σ 77 0) yr).2 ((chF o y0 (σ 77 0) yr).1 - 2)) then ((chF o y0 (σ 77 0) yr).1 + 2, upd (upd (chF o y0 (σ 77 0) yr).2 (chF o y0 (σ 77 0) yr).1 (o yr)) ((chF o y0 (σ 77 0) yr).1 + 1) (nI yr)) else chF o y0 (σ 77 0) yr := rfl
        have ih := ih (yr + 1) (by omega)
        rw [e, ← nI_1] at ih
        generalize chF o y0 (σ 77 0) yr = st at ih g77 g26 l1 l2 l3
        have hvC : vp_in (nI C) 144 := vp_in_nI hC (by omega)
        have cC : (nI C).toNatClampNeg = C := nI_cl (by omega)
        -- a pair is told
        have tell : (yr = y0 ∨ (y0 < yr ∧ ¬ o yr = st.2 (st.1 - 2))) → vp_in (nI C) 144 ∧ vp_in (s2 40 0 26) 402 ∧ vp_in (s2 40 0 26 + 1) 402 ∧ G 41 [some mM, some (mI (nI X)), some (mI (nI Y)), some (mI (nI C)), some (mI (nI yr + 1))] [] (mput (mput (mput s2 77 0 (upd (s2 77 0) (s2 40 0 26).toNatClampNeg (s2 74 0 (nI C).toNatClampNeg))) 77 0 (upd (upd (s2 77 0) (s2 40 0 26).toNatClampNeg (s2 74 0 (nI C).toNatClampNeg)) (s2 40 0 26 + 1).toNatClampNeg (nI yr))) 40 0 (upd (s2 40 0) 26 (s2 40 0 26 + 2))) := by
          intro q
          rw [if_pos q] at ih
          refine ⟨hvC, by rw [g26]; exact vp_in_nI (by omega) (by omega), by rw [g26, nI_1]; exact vp_in_nI (by omega) (by omega), ?_⟩
          have e26 : s2 40 0 26 + 2 = nI (st.1 + 2) := by rw [g26]; exact nI_add st.1 2
          have e27 : s2 40 0 26 + 1 = nI (st.1 + 1) := by rw [g26, nI_1]
          rw [cC, ko, e26, e27, g26, nI_cl (n := st.1) (by omega), nI_cl (n := st.1 + 1) (by omega), g77, mput_mput]
          refine ih _ (fun j a b => ?_) (fun g a b c d e f h => ?_) ?_ ?_ ?_
          · rw [mput_eq, upd_ne _ _ b]; exact kk1 j a b
          · rw [mput_ng _ _ _ _ a, mput_ng _ _ _ _ h]; exact kk2 g a b c d e f h
          · rw [mput_eq, upd_eq]
          · rw [mput_ng _ _ _ _ (by decide), mput_eq]
          · rw [mput_ng _ _ _ _ (by decide), mput_ng _ _ _ _ (by decide)]; exact h74'
        have skip : ¬ (yr = y0 ∨ (y0 < yr ∧ ¬ o yr = st.2 (st.1 - 2))) → G 41 [some mM, some (mI (nI X)), some (mI (nI Y)), some (mI (nI C)), some (mI (nI yr + 1))] [] s2 := by
          intro q
          rw [if_neg q] at ih
          exact ih s2 kk1 kk2 g26 g77 h74'
        refine And.intro (vp_in_nI (n := 0) (by omega) (by omega)) (And.intro (fun c4 => ?_) (fun c4 => And.intro (vp_in_nI (n := 0) (by omega) (by omega)) (And.intro (fun c5 => ?_) (fun c5 => ?_))))
        · replace c4 : nI yr = s2 54 0 0 := c4
          rw [g54, hy0] at c4
          exact tell (Or.inl ((nI_eq (by omega) (by omega)).mp c4))
        · replace c4 : ¬ nI yr = s2 54 0 0 := c4
          replace c5 : nI yr ≤ s2 54 0 0 := c5
          rw [g54, hy0] at c4 c5
          have c5 := le_of_le c5 (by omega)
          exact skip (fun q => q.elim (fun z => c4 (by rw [z])) (fun z => by omega))
        · replace c4 : ¬ nI yr = s2 54 0 0 := c4
          replace c5 : ¬ nI yr ≤ s2 54 0 0 := c5
          rw [g54, hy0] at c4 c5
          have c5 := lt_of_nle c5 (by omega)
          have l2 := l2 c5
          have em : s2 40 0 26 - 2 = nI (st.1 - 2) := by rw [g26]; exact pk_sub (b := 2) l2
          refine And.intro hvC (And.intro ?_ (And.intro (fun c6 => ?_) (fun c6 => ?_)))
          · show vp_in (s2 40 0 26 - 2) 402
            rw [em]; exact vp_in_nI (by omega) (by omega)
          · replace c6 : s2 74 0 (nI C).toNatClampNeg = s2 77 0 (s2 40 0 26 - 2).toNatClampNeg := c6
            rw [cC, ko, em, nI_cl (by omega), g77] at c6
            exact skip (fun q => q.elim (fun z => by omega) (fun z => z.2 c6))
          · replace c6 : ¬ s2 74 0 (nI C).toNatClampNeg = s2 77 0 (s2 40 0 26 - 2).toNatClampNeg := c6
            rw [cC, ko, em, nI_cl (by omega), g77] at c6
            exact tell (Or.inr ⟨c5, c6⟩)
    refine key 201 0 (by omega) _ (fun j a b => ?_) (fun g a b c d e f h => ?_) ?_ ?_ ?_
    · rw [mput_ng _ _ _ _ (by decide), mput_eq, upd_ne _ _ b]
    · rw [mput_ng _ _ _ _ e, mput_ng _ _ _ _ a]
      unfold th0
      rw [mput_ng _ _ _ _ a]
    · rw [mput_ng _ _ _ _ (by decide), mput_eq, upd_eq]; rfl
    · rw [mput_ng _ _ _ _ (by decide), mput_ng _ _ _ _ (by decide)]; rfl
    · rw [mput_eq]; exact hbe
  · replace c3 : σ 40 0 3 = 0 := c3
    rw [hmp] at c3
    exact hbad (fun q => absurd ((nI_eq (b := 0) (by omega) (by omega)).mp c3) (by omega))
