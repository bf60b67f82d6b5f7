/-! CLASS: the weakest step -/
theorem unN_nat (W H : Nat) (a b : Nat → Int32) : ∀ n, ∃ k, k ≤ n ∧ unN W H a b n = nI k
  | 0 => ⟨0, Nat.le_refl _, rfl⟩
  | n + 1 => by
    obtain ⟨k, hk, e⟩ := unN_nat W H a b n
    have e1 : unN W H a b (n + 1) = unN W H a b n + b2i (onP W H n ∧ ¬ a n = b n) := rfl
    by_cases h : onP W H n ∧ ¬ a n = b n
    · exact ⟨k + 1, by omega, by rw [e1, e, b2i_t h, nI_1]⟩
    · exact ⟨k, by omega, by rw [e1, e, b2i_f h, Int32.add_zero]⟩
def mostW (st : Option Nat × Int32) : Int32 := match st.1 with
  | none => -1
  | some _ => st.2
theorem ev_xweak (σ τ : mS) {W H mp dn ln : Nat} (hS : ST σ τ W H mp dn ln) (hF : FO σ τ W (W * H)) (year : Int32) (post : Option mV → mS → Prop)
    (hbad : ¬ vp_in year 201 → post (some (mI (-1))) σ)
    (hgo : ∀ yr, yr ≤ 200 → year = nI yr → ∀ s, QX σ s → post (some (mI (oI (wkF (τ 69 0) (fun m => unF τ W H mp dn ln m yr) mp).1))) s) : Ev kX7_weak [xX, mI year] σ post := by
  have hV := hS.2.1
  have hN := gr_le hS.1.1.2.2 hS.1.2.1.2.2
  have hmp := hV.1.2
  refine Ev.intro fun G hG => hG.run ?_
  refine call_of (ev_xYear σ year) ?_
  refine And.intro (fun c2 => hbad (b_f c2)) (fun c2 => ?_)
  obtain ⟨yr, hyr, rfl⟩ := yr_of (b_t c2)
  have hgo := hgo yr hyr rfl
  refine call_of (ev_isEmpty σ hV.1.1 hV.1.2) ?_
  refine And.intro (fun c3 => ?_) (fun c3 => ?_)
  · have c3 : 0 < mp := by have := b_f c3; omega
    refine call_ex (ev_runFirst σ τ (-1) hS hF c3 hyr) ?_
    rintro r s ⟨rfl, y', mn, dd, -, hMid, ⟨hFQ, h30, -, hO, -⟩, hmap, -⟩
    refine call_of (ev_keep s) ?_
    have hq : FQ σ (mput s 30 0 (cpy (s 30 0) (s 29 0) 144)) := fun g i a b c => by rw [mput_ng _ _ _ _ c, hFQ g i a b c]
    have hO2 : OR W (W * H) (mput s 30 0 (cpy (s 30 0) (s 29 0) 144) 30 0) (upO τ W H mp dn ln (-1) (yr + 1)) := by
      intro k hk
      show cpy (s 30 0) (s 29 0) 144 k = _
      rw [cpy_in (by omega)]
      exact hO k hk
    generalize mput s 30 0 (cpy (s 30 0) (s 29 0) 144) = s1 at hq hO2 ⊢
    have loop : ∀ n i s, i + n = mp → 1 ≤ i → FQ σ s → OR W (W * H) (s 30 0) (upO τ W H mp dn ln (-1) (yr + 1)) → ∀ z5 : Option mV, G 42 [some xX, some (mI (nI yr)), some (mI (oI (wkF (τ 69 0) (fun m => unF τ W H mp dn ln m yr) i).1)), some (mI (mostW (wkF (τ 69 0) (fun m => unF τ W H mp dn ln m yr) i))), some (mI (nI i)), z5] [] s := by
      intro n
      induction n with
      | zero =>
        intro i s hi h1 hq hO2 z5
        have : i = mp := by omega
        subst this
        refine hG.run (br_t ?_ (hgo s hq.q))
        show s 7 0 4 ≤ nI i
        rw [hq 7 0 (by decide) (by decide) (by decide), hV.1.1]; exact Int32.le_refl _
      | succ n ih =>
        intro i s hi h1 hq hO2 z5
        obtain ⟨-, -, hj⟩ := hV.2.2 i (by omega)
        obtain ⟨ej, hj⟩ := hj (by omega)
        refine hG.run (br_f ?_ ?_)
        · show ¬ s 7 0 4 ≤ nI i
          rw [hq 7 0 (by decide) (by decide) (by decide), hV.1.1]; exact nI_ge (by omega) (by omega)
        · refine And.intro (vp_in_nI (by omega) (by omega)) ?_
          rw [nI_cl (by omega)]
          have e : wkF (τ 69 0) (fun m => unF τ W H mp dn ln m yr) (i + 1) = ifp (0 < i ∧ τ 69 0 i < 0 ∧ ((wkF (τ 69 0) (fun m => unF τ W H mp dn ln m yr) i).1 = none ∨ (wkF (τ 69 0) (fun m => unF τ W H mp dn ln m yr) i).2 < unF τ W H mp dn ln i yr)) (some i, unF τ W H mp dn ln i yr) (wkF (τ 69 0) (fun m => unF τ W H mp dn ln m yr) i) := rfl
          have h5 := ih (i + 1)
          rw [e, ← nI_1] at h5
          generalize wkF (τ 69 0) (fun m => unF τ W H mp dn ln m yr) i = st at h5 ⊢
          refine And.intro (fun c4 => ?_) (fun c4 => ?_)
          · replace c4 : ¬ s 10 i 6 = -1 := c4
            rw [hq 10 i (by decide) (by decide) (by decide), ej] at c4
            have hn : ¬ τ 69 0 i < 0 := by
              rcases hj with q | q | q
              · exact absurd q c4
              · rw [q]; decide
              · rw [q]; decide
            rw [ifp_f (fun q => hn q.2.1)] at h5
            exact h5 s (by omega) (by omega) hq hO2 _
          · replace c4 : s 10 i 6 = -1 := c4
            rw [hq 10 i (by decide) (by decide) (by decide), ej] at c4
            refine call_ex (ev_byDoubt s τ (m := i) (hS.fr hq) (hF.fr hq) c3 hyr hO2) ?_
            rintro r s2 ⟨rfl, hq2, h302⟩
            have hu : unN W H (upO τ W H mp dn ln (nI i) (yr + 1)) (upO τ W H mp dn ln (-1) (yr + 1)) 144 = unF τ W H mp dn ln i yr := rfl
            rw [hu]
            obtain ⟨k, hk, ek⟩ := unN_nat W H (upO τ W H mp dn ln (nI i) (yr + 1)) (upO τ W H mp dn ln (-1) (yr + 1)) 144
            rw [hu] at ek
            have h6 := h5 s2 (by omega) (by omega) (hq.tr hq2) (by rw [h302]; exact hO2)
            refine And.intro (fun c5 => ?_) (fun c5 => ?_)
            · replace c5 : unF τ W H mp dn ln i yr ≤ mostW st := c5
              rw [ifp_f] at h6
              · exact h6 _
              · rintro ⟨-, -, q⟩
                obtain ⟨b, v⟩ := st
                cases b with
                | none =>
                  have c5 : unF τ W H mp dn ln i yr ≤ -1 := c5
                  rw [ek, Int32.le_iff_toInt_le, nI_toInt (by omega)] at c5
                  have : (-1 : Int32).toInt = -1 := by decide
                  omega
                | some b => exact not_le_of (q.elim (fun r => by cases r) id) c5
            · replace c5 : ¬ unF τ W H mp dn ln i yr ≤ mostW st := c5
              rw [ifp_t] at h6
              · exact h6 _
              · refine ⟨by omega, by rw [c4]; decide, ?_⟩
                obtain ⟨b, v⟩ := st
                cases b with
                | none => exact Or.inl rfl
                | some b => exact Or.inr (Int32.not_le.mp c5)
    have h := loop (mp - 1) 1 s1 (by omega) (by omega) hq hO2 none
    rw [show wkF (τ 69 0) (fun m => unF τ W H mp dn ln m yr) 1 = (none, 0) from ifp_f (fun q => absurd q.1 (Nat.lt_irrefl 0))] at h
    exact h
  · have c3 : mp = 0 := b_t c3
    subst c3
    exact hgo σ QX.rf
