/-! CLASS: a deed is taken -/
theorem dry_iff {σ τ : mS} {W H mp m k : Nat} (I : GR σ W H) (hV : LVs σ τ W H mp) (hm : m < mp) (hk : k < W * H) : 2 ≤ σ 11 m k ↔ wtr τ m (emb W k) = 0 := by
  have ho := emb_on (W := W) (H := H) I.1.2.1 I.1.2.2 hk
  obtain ⟨hL, -, -⟩ := hV.2.2 m hm
  have e : kdM τ W H m (emb W k) = if wtr τ (m - 1) (emb W k) = 0 then (if wtr τ m (emb W k) = 0 then 0 else 1) else (if wtr τ m (emb W k) = 0 then 2 else 3) := kdF_on ho
  by_cases hw : wtr τ m (emb W k) = 0
  · refine ⟨fun _ => hw, fun _ => ?_⟩
    have : kdM τ W H m (emb W k) = 0 ∨ kdM τ W H m (emb W k) = 2 := by
      rw [e, if_pos hw, if_pos hw]
      by_cases h0 : wtr τ (m - 1) (emb W k) = 0
      · rw [if_pos h0]; exact Or.inl rfl
      · rw [if_neg h0]; exact Or.inr rfl
    rcases hL.2 k hk with ⟨q1, q2⟩ | ⟨q1, q2⟩ | ⟨q1, q2⟩ | ⟨q1, q2, q3, q4⟩ | ⟨q1, q2, q3, q4⟩
    · rw [q2]; decide
    · rw [q1] at this; exact absurd this (by decide)
    · rw [q1] at this; exact absurd this (by decide)
    · rw [q3]; decide
    · rw [q3]; decide
  · refine ⟨fun h => ?_, fun q => absurd q hw⟩
    have : kdM τ W H m (emb W k) = 1 ∨ kdM τ W H m (emb W k) = 3 := by
      rw [e, if_neg hw, if_neg hw]
      by_cases h0 : wtr τ (m - 1) (emb W k) = 0
      · rw [if_pos h0]; exact Or.inl rfl
      · rw [if_neg h0]; exact Or.inr rfl
    rcases hL.2 k hk with ⟨q1, q2⟩ | ⟨q1, q2⟩ | ⟨q1, q2⟩ | ⟨q1, q2, q3, q4⟩ | ⟨q1, q2, q3, q4⟩
    · rw [q1] at this; exact absurd this (by decide)
    · rw [q2] at h; exact absurd h (by decide)
    · rw [q2] at h; exact absurd h (by decide)
    · rw [q1] at this; exact absurd this (by decide)
    · rw [q1] at this; exact absurd this (by decide)
/-- one deed of both -/
def DD1 (σ τ : mS) (W H d L T R B y : Nat) : Prop := (L ≤ R ∧ R < W ∧ T ≤ B ∧ B < H ∧ y ≤ 200) ∧ (σ 14 0 d = nI L ∧ σ 15 0 d = nI T ∧ σ 16 0 d = nI R ∧ σ 17 0 d = nI B) ∧ (τ 58 0 d = nI (12 * T + L) ∧ τ 59 0 d = nI (12 * B + R)) ∧ (σ 18 0 d = τ 60 0 d ∧ 0 ≤ τ 60 0 d) ∧ (σ 19 0 d = nI y ∧ τ 61 0 d = nI y) ∧ σ 20 0 d = τ 62 0 d
def DDs (σ τ : mS) (W H dn : Nat) : Prop := (σ 13 0 0 = nI dn ∧ dn ≤ 30) ∧ (∀ d, d < dn → ∃ L T R B y, DD1 σ τ W H d L T R B y) ∧ (∀ j, j < dn → ∃ d, d < dn ∧ σ 21 0 j = nI d) ∧
  (∀ i j, i < j → j < dn → ∀ a b, σ 21 0 i = nI a → σ 21 0 j = nI b → a < 30 → b < 30 → σ 19 0 a < σ 19 0 b ∨ (σ 19 0 a = σ 19 0 b ∧ a < b)) ∧ (∀ d, d < dn → ∃ j, j < dn ∧ σ 21 0 j = nI d)
def OV (o : Nat → Int32) : Prop := ∀ c, c < 144 → o c = -1 ∨ 0 ≤ o c
theorem ov_iff {x : Int32} (h : x = -1 ∨ 0 ≤ x) : (¬ x = -1) ↔ 0 ≤ x := by
  rcases h with q | q
  · rw [q]; decide
  · refine ⟨fun _ => q, fun _ r => ?_⟩
    rw [r] at q
    exact absurd q (by decide)
/-- what one deed makes of the owners -/
noncomputable def deO (τ : mS) (wt : Nat → Int32) (d : Nat) (o : Nat → Int32) : Nat → Int32 := ifp (τ 62 0 d = 0) (dedF o wt (τ 58 0 d).toNatClampNeg (τ 59 0 d).toNatClampNeg (τ 60 0 d) 144) o
theorem ev_takeDeed (σ τ : mS) {W H mp dn mn dd d : Nat} {o : Nat → Int32} (I : GR σ W H) (hV : LVs σ τ W H mp) (hD : DDs σ τ W H dn) (hmn : σ 27 0 7 = nI mn) (hlt : mn < mp) (hdd : σ 27 0 8 = nI dd) (hlt2 : dd < dn) (hd : d < dn) (hod : σ 21 0 dd = nI d) (hO : OR W (W * H) (σ 29 0) o) (hov : OV o) : Ev kX5_takeDeed [xP] σ (fun r s => r = none ∧ ∃ f, s = mput (mput σ 27 0 (upd (σ 27 0) 8 (nI (dd + 1)))) 29 0 f ∧ OR W (W * H) f (deO τ (wtr τ mn) d o)) := by
  have I0 := I
  obtain ⟨⟨hW, hW0, hW1⟩, ⟨hH, hH0, hH1⟩, hc, hkk⟩ := I
  have hN := gr_le hW1 hH1
  have hmp := hV.1.2
  have hdn := hD.1.2
  obtain ⟨L, T, R, B, y, ⟨p1, p2, p3, p4, p5⟩, ⟨s1, s2, s3, s4⟩, ⟨t1, t2⟩, ⟨u1, u2⟩, -, u3⟩ := hD.2.1 d hd
  refine Ev.intro fun G hG => hG.run ?_
  have edd : (σ 27 0 8).toNatClampNeg = dd := by rw [hdd]; exact nI_cl (by omega)
  refine And.intro (show vp_in (σ 27 0 8) 30 by rw [hdd]; exact vp_in_nI (by omega) (by omega)) ?_
  rw [edd, hod]
  have vd : vp_in (nI d) 30 := vp_in_nI (by omega) (by omega)
  have ed : (nI d).toNatClampNeg = d := nI_cl (by omega)
  refine And.intro vd ?_
  rw [ed]
  have e8 : σ 27 0 8 + 1 = nI (dd + 1) := by rw [hdd, nI_1]
  refine And.intro (fun c1 => ?_) (fun c1 => ?_)
  · replace c1 : σ 20 0 d = 0 := c1
    rw [u3] at c1
    refine And.intro (show vp_in (σ 27 0 7) 10 by rw [hmn]; exact vp_in_nI (by omega) (by omega)) ?_
    have em : (mput σ 27 0 (upd (σ 27 0) (5, 8).snd (σ 27 0 (5, 8).snd + 1)) 27 0 (5, 7).snd).toNatClampNeg = mn := by
      show (σ 27 0 7).toNatClampNeg = mn
      rw [hmn]; exact nI_cl (by omega)
    rw [em]
    refine And.intro vd ?_
    rw [ed]
    generalize hS1 : mput σ 27 0 (upd (σ 27 0) 8 (nI (dd + 1))) = σ1
    have q1 : σ1 14 0 d = nI L := by rw [← hS1]; exact s1
    have q2 : σ1 15 0 d = nI T := by rw [← hS1]; exact s2
    have q3 : σ1 16 0 d = nI R := by rw [← hS1]; exact s3
    have q4 : σ1 17 0 d = nI B := by rw [← hS1]; exact s4
    have q5 : σ1 18 0 d = τ 60 0 d := by rw [← hS1]; exact u1
    have q6 : σ1 1 0 0 = nI W := by rw [← hS1]; exact hW
    have q7 : σ1 29 0 = σ 29 0 := by rw [← hS1]; rfl
    have q8 : σ1 11 mn = σ 11 mn := by rw [← hS1]; rfl
    generalize hP : (fun k => 2 ≤ σ 11 mn k ∧ ¬ σ 29 0 k = -1) = P
    have hPk : ∀ k, P k ↔ (2 ≤ σ 11 mn k ∧ ¬ σ 29 0 k = -1) := fun k => by rw [← hP]
    have outer : ∀ n l, T ≤ l → l + n = B + 1 → ∀ z4 z5 : Option mV, G 59 [some xP, some (mI (nI d)), some (mR 10 mn), some (mI (nI l)), z4, z5] [] (mput σ1 29 0 (bxF W L R T P (τ 60 0 d) (σ 29 0) l L)) := by
      intro n
      induction n with
      | zero =>
        intro l hl hn z4 z5
        have : l = B + 1 := by omega
        subst this
        refine hG.run ?_
        refine And.intro vd ?_
        rw [ed]
        refine br_t ?_ ⟨rfl, bxF W L R T P (τ 60 0 d) (σ 29 0) (B + 1) L, ?_, fun k hk => ?_⟩
        · show σ1 17 0 d < nI (B + 1)
          rw [q4]; exact nI_lt (by omega) (by omega)
        · rw [← hS1]
        · unfold deO
          rw [ifp_t c1, t1, t2, nI_cl (by omega), nI_cl (by omega)]
          have em := emb_mod hW0 hW1 k
          have hkw : k / W < H := Nat.div_lt_of_lt_mul hk
          have hkm := Nat.mod_lt k hW0
          have hlt := emb_lt hW0 hW1 hH1 hk
          have hiff : (P k ∧ (L ≤ k % W ∧ k % W ≤ R) ∧ T ≤ k / W ∧ (k / W < B + 1 ∨ (k / W = B + 1 ∧ k % W < L))) ↔ (emb W k < 144 ∧ inBox (emb W k) (12 * T + L) (12 * B + R) ∧ wtr τ mn (emb W k) = 0 ∧ 0 ≤ o (emb W k)) := by
            rw [hPk k, dry_iff I0 hV (by omega) hk, hO k hk, ov_iff (hov _ hlt)]
            unfold inBox
            rw [em.1, em.2]
            constructor
            · rintro ⟨⟨a1, a2⟩, a3, a4, a5⟩
              exact ⟨hlt, by omega, a1, a2⟩
            · rintro ⟨-, a3, a1, a2⟩
              exact ⟨⟨a1, a2⟩, by omega, by omega, by omega⟩
          show ifp _ _ (σ 29 0 k) = ifp _ _ (o (emb W k))
          rw [hO k hk]
          exact ifp_c hiff
      | succ n ih =>
        intro l hl hn z4 z5
        have inner : ∀ m c, L ≤ c → c + m = R + 1 → ∀ z5 : Option mV, G 83 [some xP, some (mI (nI d)), some (mR 10 mn), some (mI (nI l)), some (mI (nI c)), z5] [] (mput σ1 29 0 (bxF W L R T P (τ 60 0 d) (σ 29 0) l c)) := by
          intro m
          induction m with
          | zero =>
            intro c hc0 hm z5
            have : c = R + 1 := by omega
            subst this
            refine hG.run ?_
            refine And.intro vd ?_
            rw [ed]
            refine br_t ?_ ?_
            · show σ1 16 0 d < nI (R + 1)
              rw [q3]; exact nI_lt (by omega) (by omega)
            · have h5 := ih (l + 1) (by omega) (by omega) (some (mI (nI (R + 1)))) z5
              rw [← bx_row, ← nI_1] at h5
              exact h5
          | succ m ihm =>
            intro c hc0 hm z5
            have h5 := ihm (c + 1) (by omega) (by omega)
            have hlt' : l * W + c < W * H := at_lt (by omega) (by omega)
            have v : vp_in (nI (l * W + c)) 144 := vp_in_nI (by omega) (by omega)
            refine hG.run ?_
            refine And.intro vd ?_
            rw [ed]
            refine br_f ?_ ?_
            · show ¬ σ1 16 0 d < nI c
              rw [q3]; exact nI_nlt (by omega) (by omega)
            · refine call_of (ev_cellAt _ c l W q6) ?_
              refine call_of (ev_isDry _ (m := mn) (k := l * W + c) (by omega)) ?_
              refine And.intro (fun c2 => ?_) (fun c2 => ?_)
              · have c2 : ¬ 2 ≤ σ1 11 mn (l * W + c) := b_f c2
                rw [q8] at c2
                rw [← bx_f (by omega) (fun q => c2 ((hPk _).mp q).1), ← nI_1] at h5
                exact h5 _
              · have c2 : 2 ≤ σ1 11 mn (l * W + c) := b_t c2
                rw [q8] at c2
                refine And.intro v ?_
                rw [nI_cl (by omega)]
                have eo : bxF W L R T P (τ 60 0 d) (σ 29 0) l c (l * W + c) = σ 29 0 (l * W + c) := bx_old (by omega)
                refine And.intro (fun c3 => ?_) (fun c3 => ?_)
                · replace c3 : bxF W L R T P (τ 60 0 d) (σ 29 0) l c (l * W + c) = -1 := c3
                  rw [eo] at c3
                  rw [← bx_f (by omega) (fun q => ((hPk _).mp q).2 c3), ← nI_1] at h5
                  exact h5 _
                · replace c3 : ¬ bxF W L R T P (τ 60 0 d) (σ 29 0) l c (l * W + c) = -1 := c3
                  rw [eo] at c3
                  refine And.intro vd (And.intro v ?_)
                  rw [← bx_t hc0 (by omega) hl (by omega) ((hPk _).mpr ⟨c2, c3⟩), ← mput_mput σ1 29 0 (bxF W L R T P (τ 60 0 d) (σ 29 0) l c), ← nI_1] at h5
                  rw [nI_cl (by omega), ed, show mput σ1 29 0 (bxF W L R T P (τ 60 0 d) (σ 29 0) l c) 18 0 d = τ 60 0 d from q5]
                  exact h5 _
        refine hG.run ?_
        refine And.intro vd ?_
        rw [ed]
        refine br_f ?_ ?_
        · show ¬ σ1 17 0 d < nI l
          rw [q4]; exact nI_nlt (by omega) (by omega)
        · refine And.intro vd ?_
          rw [ed, show mput σ1 29 0 (bxF W L R T P (τ 60 0 d) (σ 29 0) l L) 14 0 d = nI L from q1]
          exact inner (R + 1 - L) L (Nat.le_refl _) (by omega) z5
    have h := outer (B + 1 - T) T (Nat.le_refl _) (by omega) none none
    rw [bx_0, ← q7, mput_self, ← hS1, ← e8, ← s2] at h
    exact h
  · replace c1 : ¬ σ 20 0 d = 0 := c1
    rw [u3] at c1
    refine ⟨rfl, σ 29 0, ?_, fun k hk => ?_⟩
    · show mput σ 27 0 (upd (σ 27 0) 8 (σ 27 0 8 + 1)) = _
      rw [e8]
      exact (mput_self (mput σ 27 0 (upd (σ 27 0) 8 (nI (dd + 1)))) 29 0).symm
    · unfold deO
      rw [ifp_f c1]
      exact hO k hk
