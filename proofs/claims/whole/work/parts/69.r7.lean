/-! BOTH: a deed more -/
theorem ord_at {od : Nat → Int32} {dn p j : Nat} (hp : p ≤ dn) : upd (insF od dn p) p (nI dn) j = if j = p then nI dn else if p < j ∧ j ≤ dn then od (j - 1) else od j := rfl
theorem p_deed {σ τ : mS} {W H mp dn ln rw : Nat} (hR : RX σ τ W H mp dn ln rw) (x y x2 y2 o year : Int32) : Pair kX7_deed [mI x, mI y, mI x2, mI y2, mI o, mI year] kX8_deed [mI x, mI y, mI x2, mI y2, mI o, mI year] σ τ := by
  obtain ⟨hS, hF, ht, hd, hj, hw⟩ := id hR
  obtain ⟨⟨a1, a2, a3⟩, ⟨b1, b2, b3⟩, i3, ⟨i4, i40⟩, i5, i6, i7, i8, i9, i10⟩ := id hS.2.2.2.2
  obtain ⟨⟨d0, d00⟩, dd, dod, dsr, don⟩ := id hS.2.2.2.1
  by_cases hc : boxP x y x2 y2 W H ∧ (0 ≤ o ∧ o ≤ 9) ∧ vp_in year 201 ∧ dn < 30
  · obtain ⟨⟨⟨q1, q2⟩, ⟨q3, q4⟩, q5, q6⟩, ho, hy, hdn⟩ := id hc
    obtain ⟨X, hX, rfl⟩ := (vp_nI (by omega)).mp q1
    obtain ⟨Y, hY, rfl⟩ := (vp_nI (by omega)).mp q2
    obtain ⟨X2, hX2, rfl⟩ := (vp_nI (by omega)).mp q3
    obtain ⟨Y2, hY2, rfl⟩ := (vp_nI (by omega)).mp q4
    obtain ⟨yr, hyr, rfl⟩ := yr_of hy
    have hx := le_of_le q5 (by omega)
    have hyy := le_of_le q6 (by omega)
    refine ⟨nI dn, fun s => ∃ p, p ≤ dn ∧ (∀ j, p ≤ j → j < dn → nI yr < σ 19 0 (σ 21 0 j).toNatClampNeg) ∧ (0 < p → σ 19 0 (σ 21 0 (p - 1)).toNatClampNeg ≤ nI yr) ∧ s = deedX σ dn (nI X) (nI Y) (nI X2) (nI Y2) o (nI yr) p, fun t => t = deedS (th0 τ) dn (12 * Y + X) (12 * Y2 + X2) o (nI yr), ev_xdeed σ hS.1 d0 d00 dod _ _ _ _ _ _ _ (fun q => absurd hc q) (fun _ _ _ X' Y' X2' Y2' e1 e2 e3 e4 g1 g2 g3 g4 p p1 p2 p3 => ⟨rfl, p, p1, p2, p3, rfl⟩), ev_deed τ _ _ _ _ _ _ a1 a2 a3 b1 b2 b3 i4 i40 _ (fun q => absurd hc q) (fun _ _ _ X' Y' X2' Y2' e1 e2 e3 e4 g1 g2 g3 g4 => ?_), fun s t hs hq => ?_⟩
    · rw [eqX (n := 12) (by omega) (by omega) (by omega) e1.symm, eqX (n := 12) (by omega) (by omega) (by omega) e2.symm, eqX (n := 12) (by omega) (by omega) (by omega) e3.symm, eqX (n := 12) (by omega) (by omega) (by omega) e4.symm]; exact ⟨rfl, rfl⟩
    · subst hq
      obtain ⟨p, hp, p1, p2, rfl⟩ := hs
      have f14 : deedX σ dn (nI X) (nI Y) (nI X2) (nI Y2) o (nI yr) p 14 0 = upd (σ 14 0) dn (nI X) := rfl
      have f15 : deedX σ dn (nI X) (nI Y) (nI X2) (nI Y2) o (nI yr) p 15 0 = upd (σ 15 0) dn (nI Y) := rfl
      have f16 : deedX σ dn (nI X) (nI Y) (nI X2) (nI Y2) o (nI yr) p 16 0 = upd (σ 16 0) dn (nI X2) := rfl
      have f17 : deedX σ dn (nI X) (nI Y) (nI X2) (nI Y2) o (nI yr) p 17 0 = upd (σ 17 0) dn (nI Y2) := rfl
      have f18 : deedX σ dn (nI X) (nI Y) (nI X2) (nI Y2) o (nI yr) p 18 0 = upd (σ 18 0) dn o := rfl
      have f19 : deedX σ dn (nI X) (nI Y) (nI X2) (nI Y2) o (nI yr) p 19 0 = upd (σ 19 0) dn (nI yr) := rfl
      have f20 : deedX σ dn (nI X) (nI Y) (nI X2) (nI Y2) o (nI yr) p 20 0 = upd (σ 20 0) dn 0 := rfl
      have f21 : deedX σ dn (nI X) (nI Y) (nI X2) (nI Y2) o (nI yr) p 21 0 = upd (insF (σ 21 0) dn p) p (nI dn) := rfl
      have t58 : deedS (th0 τ) dn (12 * Y + X) (12 * Y2 + X2) o (nI yr) 58 0 = upd (τ 58 0) dn (nI (12 * Y + X)) := rfl
      have t59 : deedS (th0 τ) dn (12 * Y + X) (12 * Y2 + X2) o (nI yr) 59 0 = upd (τ 59 0) dn (nI (12 * Y2 + X2)) := rfl
      have t60 : deedS (th0 τ) dn (12 * Y + X) (12 * Y2 + X2) o (nI yr) 60 0 = upd (τ 60 0) dn o := rfl
      have t61 : deedS (th0 τ) dn (12 * Y + X) (12 * Y2 + X2) o (nI yr) 61 0 = upd (τ 61 0) dn (nI yr) := rfl
      have t62 : deedS (th0 τ) dn (12 * Y + X) (12 * Y2 + X2) o (nI yr) 62 0 = upd (τ 62 0) dn 0 := rfl
      have hodj : ∀ j, j < dn → ∃ d, d < dn ∧ σ 21 0 j = nI d ∧ (σ 21 0 j).toNatClampNeg = d := fun j h => by
        obtain ⟨d, h1, h2⟩ := dod j h
        exact ⟨d, h1, h2, by rw [h2]; exact nI_cl (by omega)⟩
      -- the new order, place by place
      have o1 : ∀ j, j < p → upd (insF (σ 21 0) dn p) p (nI dn) j = σ 21 0 j := fun j h => by rw [ord_at hp, if_neg (by omega), if_neg (by omega)]
      have o2 : upd (insF (σ 21 0) dn p) p (nI dn) p = nI dn := upd_eq _ _ _
      have o3 : ∀ j, p < j → j ≤ dn → upd (insF (σ 21 0) dn p) p (nI dn) j = σ 21 0 (j - 1) := fun j h h' => by rw [ord_at hp, if_neg (by omega), if_pos ⟨h, h'⟩]
      have yb : ∀ i a, i < p → σ 21 0 i = nI a → a < 30 → σ 19 0 a ≤ nI yr := fun i a h e ha => by
        have hp' := p2 (by omega)
        obtain ⟨b, hb, eb, eb'⟩ := hodj (p - 1) (by omega)
        rw [eb'] at hp'
        by_cases q : i = p - 1
        · subst q
          rw [nI_inj (by omega) (by omega) (e.symm.trans eb)]
          exact hp'
        · have := dsr i (p - 1) (by omega) (by omega) a b e eb ha (by omega)
          rw [Int32.le_iff_toInt_le] at hp' ⊢
          rw [Int32.lt_iff_toInt_lt, ← Int32.toInt_inj] at this
          omega
      have ya : ∀ j b, p ≤ j → j < dn → σ 21 0 j = nI b → b < 30 → nI yr < σ 19 0 b := fun j b h h' e hb => by
        have := p1 j h h'
        rw [e, nI_cl (by omega)] at this
        exact this
      have lt_dn : ∀ j a, j < dn → σ 21 0 j = nI a → a < 30 → a < dn := fun j a h e ha => by
        obtain ⟨b, hb, eb, -⟩ := hodj j h
        rw [nI_inj (by omega) (by omega) (e.symm.trans eb)]
        exact hb
      refine ⟨W, H, mp, dn + 1, ln, rw, ⟨hS.1, hS.2.1, hS.2.2.1, ⟨⟨rfl, by omega⟩, fun d hd' => ?_, fun j hj' => ?_, fun i j hij hj' a b ea eb ha hb => ?_, fun d hd' => ?_⟩, ⟨⟨a1, a2, a3⟩, ⟨b1, b2, b3⟩, i3, ⟨rfl, by omega⟩, i5, i6, fun d hd' => ?_, i8, i9, i10⟩⟩, hF, ht, hd, hj, hw⟩
      · unfold DD1
        rw [f14, f15, f16, f17, f18, f19, f20, t58, t59, t60, t61, t62]
        by_cases q : d = dn
        · subst q
          refine ⟨X, Y, X2, Y2, yr, ⟨hx, hX2, hyy, hY2, hyr⟩, ?_⟩
          rw [upd_eq, upd_eq, upd_eq, upd_eq, upd_eq, upd_eq, upd_eq, upd_eq, upd_eq, upd_eq, upd_eq, upd_eq]
          exact ⟨⟨rfl, rfl, rfl, rfl⟩, ⟨rfl, rfl⟩, ⟨rfl, ho.1⟩, ⟨rfl, rfl⟩, rfl⟩
        · obtain ⟨L, T, R, B, y', h⟩ := dd d (by omega)
          refine ⟨L, T, R, B, y', ?_⟩
          rw [upd_ne _ _ q, upd_ne _ _ q, upd_ne _ _ q, upd_ne _ _ q, upd_ne _ _ q, upd_ne _ _ q, upd_ne _ _ q, upd_ne _ _ q, upd_ne _ _ q, upd_ne _ _ q, upd_ne _ _ q, upd_ne _ _ q]
          exact h
      · rw [f21]
        by_cases q : j < p
        · rw [o1 j q]
          obtain ⟨d, h1, h2, -⟩ := hodj j (by omega)
          exact ⟨d, by omega, h2⟩
        · by_cases r : j = p
          · rw [r, o2]; exact ⟨dn, by omega, rfl⟩
          · rw [o3 j (by omega) (by omega)]
            obtain ⟨d, h1, h2, -⟩ := hodj (j - 1) (by omega)
            exact ⟨d, by omega, h2⟩
      · rw [f21] at ea eb
        rw [f19]
        by_cases jp : j < p
        · rw [o1 j jp] at eb
          rw [o1 i (by omega)] at ea
          have la := lt_dn i a (by omega) ea ha
          have lb := lt_dn j b (by omega) eb hb
          rw [upd_ne _ _ (by omega), upd_ne _ _ (by omega)]
          exact dsr i j hij (by omega) a b ea eb ha hb
        · by_cases je : j = p
          · subst je
            rw [o2] at eb
            rw [o1 i hij] at ea
            have la := lt_dn i a (by omega) ea ha
            have hb' : b = dn := (nI_inj (by omega) (by omega) eb).symm
            subst hb'
            rw [upd_eq, upd_ne _ _ (by omega)]
            have h1 := yb i a hij ea ha
            rw [Int32.le_iff_toInt_le] at h1
            rw [Int32.lt_iff_toInt_lt, ← Int32.toInt_inj]
            omega
          · rw [o3 j (by omega) (by omega)] at eb
            have lb := lt_dn (j - 1) b (by omega) eb hb
            rw [upd_ne (j := b) _ _ (by omega)]
            by_cases ip : i < p
            · rw [o1 i ip] at ea
              have la := lt_dn i a (by omega) ea ha
              rw [upd_ne _ _ (by omega)]
              exact dsr i (j - 1) (by omega) (by omega) a b ea eb ha hb
            · by_cases ie : i = p
              · subst ie
                rw [o2] at ea
                have ha' : a = dn := (nI_inj (by omega) (by omega) ea).symm
                subst ha'
                rw [upd_eq]
                exact Or.inl (ya (j - 1) b (by omega) (by omega) eb hb)
              · rw [o3 i (by omega) (by omega)] at ea
                have la := lt_dn (i - 1) a (by omega) ea ha
                rw [upd_ne _ _ (by omega)]
                exact dsr (i - 1) (j - 1) (by omega) (by omega) a b ea eb ha hb
      · rw [f21]
        by_cases q : d = dn
        · exact ⟨p, by omega, by rw [o2, q]⟩
        · obtain ⟨j, hj', e⟩ := don d (by omega)
          by_cases jp : j < p
          · exact ⟨j, by omega, by rw [o1 j jp]; exact e⟩
          · exact ⟨j + 1, by omega, by rw [o3 (j + 1) (by omega) (by omega)]; exact e⟩
      · rw [t58, t59]
        by_cases q : d = dn
        · subst q
          rw [upd_eq, upd_eq]
          exact ⟨⟨12 * Y + X, by omega, rfl⟩, ⟨12 * Y2 + X2, by omega, rfl⟩⟩
        · rw [upd_ne _ _ q, upd_ne _ _ q]
          exact i7 d (by omega)
  · have bad : (0 ≤ o ∧ o ≤ 9) → vp_in year 201 → dn < 30 → ∀ X Y X2 Y2, x = nI X → y = nI Y → x2 = nI X2 → y2 = nI Y2 → X ≤ X2 → X2 < W → Y ≤ Y2 → Y2 < H → False := fun p q r X Y X2 Y2 e1 e2 e3 e4 g1 g2 g3 g4 => hc ⟨by
      rw [e1, e2, e3, e4]
      exact ⟨⟨vp_in_nI (by omega) (by omega), vp_in_nI (by omega) (by omega)⟩, ⟨vp_in_nI (by omega) (by omega), vp_in_nI (by omega) (by omega)⟩, nI_le g1 (by omega), nI_le g3 (by omega)⟩, p, q, r⟩
    exact pair_q hR (-1) (ev_xdeed σ hS.1 d0 d00 dod _ _ _ _ _ _ _ (fun _ => ⟨rfl, QX.rf⟩) (fun p q r X Y X2 Y2 e1 e2 e3 e4 g1 g2 g3 g4 _ _ _ _ => (bad p q r X Y X2 Y2 e1 e2 e3 e4 g1 g2 g3 g4).elim)) (ev_deed τ _ _ _ _ _ _ a1 a2 a3 b1 b2 b3 i4 i40 _ (fun _ => ⟨rfl, th_q ht⟩) (fun p q r X Y X2 Y2 e1 e2 e3 e4 g1 g2 g3 g4 => (bad p q r X Y X2 Y2 e1 e2 e3 e4 g1 g2 g3 g4).elim))
