/-! CLASS: a map is added -/
/-- a leaf of the class beside the reference's kinds -/
def LR (W N : Nat) (kM f kd he : Nat → Int32) : Prop := (f 1 = kcF kM 1 144 ∧ f 2 = kcF kM 2 144 ∧ f 3 = nI (farF kM 144) ∧ f 4 = ptL (newP kM) 144 ∧ f 5 = ptL (newP kM) 144 - shL kM 144) ∧
  ∀ k, k < N → (kM (emb W k) = 0 ∧ kd k = 4) ∨ (kM (emb W k) = 1 ∧ kd k = 1) ∨ (kM (emb W k) = 3 ∧ kd k = 0) ∨ (kM (emb W k) = 2 ∧ shoreP kM (emb W k) ∧ kd k = 2 ∧ HR W N (he k) (nrF kM (emb W k) 144)) ∨ (kM (emb W k) = 2 ∧ ¬ shoreP kM (emb W k) ∧ kd k = 3 ∧ HR W N (he k) (heirI kM (emb W k)))
theorem kdF_off {W H : Nat} {w0 w1 : Nat → Int32} {c : Nat} (h : ¬ onP W H c) : kdF W H w0 w1 c = -1 := ifp_f h
theorem kdF_on {W H : Nat} {w0 w1 : Nat → Int32} {c : Nat} (h : onP W H c) : kdF W H w0 w1 c = if w0 c = 0 then (if w1 c = 0 then 0 else 1) else (if w1 c = 0 then 2 else 3) := ifp_t h
def kbK (was is : Int32) : Int32 := if was = 0 then (if is = 0 then 0 else 1) else (if is = 0 then 2 else 3)
theorem kb_kc (was is : Int32) : (kbF was is = 4 ↔ kbK was is = 0) ∧ (kbF was is = 1 ↔ kbK was is = 1) ∧ ((kbF was is = 2 ∨ kbF was is = 3) ↔ kbK was is = 2) ∧ (kbF was is = 0 ↔ kbK was is = 3) := by
  unfold kbF kbK
  by_cases h1 : is = 0
  · by_cases h2 : was = 0
    · rw [if_pos h1, if_pos h2, if_pos h2, if_pos h1]; decide
    · rw [if_pos h1, if_neg h2, if_neg h2, if_pos h1]; decide
  · by_cases h2 : was = 0
    · rw [if_neg h1, if_pos h2, if_pos h2, if_neg h1]; decide
    · rw [if_neg h1, if_neg h2, if_neg h2, if_neg h1]; decide
theorem LR_of {σ : mS} {W H m : Nat} {kM : Nat → Int32} (hW0 : 0 < W) (hW1 : W ≤ 12) (hH1 : H ≤ 12) {s0 s : mS} (hK : KC W (W * H) (s0 11 m) kM) (hon : ∀ c, onP W H c → kM c = 0 ∨ kM c = 1 ∨ kM c = 2 ∨ kM c = 3) (hoff : ∀ c, ¬ onP W H c → kM c = -1) (h0 : s0 = msS σ W (W * H) m (W * H)) (hs : SI s0 W (W * H) m (W * H) kM s) : LR W (W * H) kM (s 10 m) (s 11 m) (s 12 m) := by
  obtain ⟨hf, -, hkh, hp4, hp5⟩ := hs
  have hN := gr_le hW1 hH1
  have hS : ∀ c, newP kM c → onP W H c := fun c h => Classical.byContradiction fun q => by
    have := h.2
    rw [hoff c q] at this
    exact absurd this (by decide)
  have hms := ms_ok hW1 hH1 hK (fun c _ q => hoff c q)
  have e10 : s0 10 m = msU (σ 10 m) (kcF kM 1 144) (kcF kM 2 144) (nI (farF kM 144)) := by
    have e11 : s0 11 m = σ 11 m := by rw [h0]; rfl
    rw [e11] at hms
    rw [h0]
    show mput σ 10 m _ 10 m = _
    rw [mput_eq, hms]
  refine ⟨⟨?_, ?_, ?_, ?_, ?_⟩, fun k hk => ?_⟩
  · rw [hf.2 1 (by decide) (by decide), e10]; rfl
  · rw [hf.2 2 (by decide) (by decide), e10]; rfl
  · rw [hf.2 3 (by decide) (by decide), e10]; rfl
  · rw [hp4, ptX_L hW1 hH1 hS]
  · rw [hp5, ilX_ok hW1 hH1 hS]
  · have ho := emb_on (W := W) (H := H) hW0 hW1 hk
    have hlt := emb_lt hW0 hW1 hH1 hk
    obtain ⟨k4, k1, k23, k0⟩ := hK k hk
    have hno : ¬ kM (emb W k) = 2 → s 11 m k = s0 11 m k := fun q => (hkh k hk).1 (fun r => q r.1.2)
    rcases hon _ ho with q | q | q | q
    · exact Or.inl ⟨q, by rw [hno (by rw [q]; decide)]; exact k4.mpr q⟩
    · exact Or.inr (Or.inl ⟨q, by rw [hno (by rw [q]; decide)]; exact k1.mpr q⟩)
    · have hn : newP kM (emb W k) := ⟨hlt, q⟩
      have hl : lab (newP kM) (emb W k) < emb W (W * H) := Nat.lt_of_le_of_lt (lab_le _ _) (emb_mono hW0 hW1 hk)
      have h3 := (hkh k hk).2 hn hl
      by_cases hs : shoreP kM (emb W k)
      · exact Or.inr (Or.inr (Or.inr (Or.inl ⟨q, hs, (h3.1 hs).1, (h3.1 hs).2⟩)))
      · exact Or.inr (Or.inr (Or.inr (Or.inr ⟨q, hs, (h3.2 hs).1, (h3.2 hs).2⟩)))
    · exact Or.inr (Or.inr (Or.inl ⟨q, by rw [hno (by rw [q]; decide)]; exact k0.mpr q⟩))
/-- what a map more leaves -/
def AQ (σ : mS) (W N mp : Nat) (kM : Nat → Int32) (year : Int32) (s : mS) : Prop := LR W N kM (s 10 mp) (s 11 mp) (s 12 mp) ∧ s 10 mp 0 = year ∧ s 10 mp 6 = -1 ∧ s 7 0 = upd (σ 7 0) 4 (nI (mp + 1)) ∧ ∀ g i, g ≠ 4 → g ≠ 5 → g ≠ 6 → g ≠ 7 → (i = mp → g ≠ 10 ∧ g ≠ 11 ∧ g ≠ 12) → s g i = σ g i
theorem ev_aAdd (σ : mS) (year : Int32) {W H mp : Nat} {w0 w1 : Nat → Int32} (I : GR σ W H) (hm : σ 7 0 4 = nI mp) (hmp : mp < 10) (hd : ∀ k, k < W * H → σ 9 0 k = w1 (emb W k)) (hp : ∀ k, k < W * H → 0 < mp → (2 ≤ σ 11 (mp - 1) k ↔ w0 (emb W k) = 0)) (hz : mp = 0 → w0 = w1) : Ev kX0_add [xA, mI year] σ (fun r s => r = some (mI (nI mp)) ∧ AQ σ W (W * H) mp (kdF W H w0 w1) year s) := by
  have I0 := I
  obtain ⟨⟨hW, hW0, hW1⟩, ⟨hH, hH0, hH1⟩, hc, hkk⟩ := I
  have hN := gr_le hW1 hH1
  refine Ev.intro fun G hG => hG.run ?_
  have em : (σ 7 0 4).toNatClampNeg = mp := by rw [hm]; exact nI_cl (by omega)
  refine And.intro (show vp_in (σ 7 0 4) 10 by rw [hm]; exact vp_in_nI (by omega) (by omega)) ?_
  rw [em, hm]
  generalize hF : (fun k => kbF (ifp (mp = 0) (σ 9 0 k) (b2i (¬ 2 ≤ σ 11 (mp - 1) k))) (σ 9 0 k)) = F
  have hFk : ∀ k, F k = kbF (ifp (mp = 0) (σ 9 0 k) (b2i (¬ 2 ≤ σ 11 (mp - 1) k))) (σ 9 0 k) := fun k => by rw [← hF]
  generalize hg : mput σ 10 mp (upd (upd (σ 10 mp) 0 year) 6 (-1)) = σ1
  have f1 : ∀ g i, (i = mp → g ≠ 10) → σ1 g i = σ g i := fun g i q => by
    rw [← hg, mput_ne]
    by_cases hi : i = mp
    · exact Or.inl (q hi)
    · exact Or.inr hi
  have h10 : σ1 10 mp = upd (upd (σ 10 mp) 0 year) 6 (-1) := by rw [← hg, mput_eq]
  have I1 : GR σ1 W H := I0.fr (f1 1 0 (fun _ => by decide)) (f1 2 0 (fun _ => by decide)) (f1 3 0 (fun _ => by decide))
  have fin : ∀ s, (r : Option mV) → AQ σ W (W * H) mp (kdF W H w0 w1) year s → r = some (mI (nI mp)) → (r = some (mI (nI mp)) ∧ AQ σ W (W * H) mp (kdF W H w0 w1) year s) := fun s r a b => ⟨b, a⟩
  have hKC : KC W (W * H) (cpy (σ1 11 mp) F (W * H)) (kdF W H w0 w1) := by
    intro k hk
    rw [cpy_in hk, hFk k, kdF_on (emb_on hW0 hW1 hk)]
    have e : (if w0 (emb W k) = 0 then (if w1 (emb W k) = 0 then (0 : Int32) else 1) else (if w1 (emb W k) = 0 then 2 else 3)) = kbK (ifp (mp = 0) (σ 9 0 k) (b2i (¬ 2 ≤ σ 11 (mp - 1) k))) (σ 9 0 k) := by
      unfold kbK
      rw [hd k hk]
      by_cases hm0 : mp = 0
      · rw [ifp_t hm0, hz hm0]
      · rw [ifp_f hm0]
        have := hp k hk (by omega)
        by_cases hw : w0 (emb W k) = 0
        · rw [if_pos hw, b2i_f (fun q => q (this.mpr hw)), if_pos rfl]
        · rw [if_neg hw, b2i_t (fun q => hw (this.mp q)), if_neg (show ¬ (1 : Int32) = 0 by decide)]
    rw [e]
    exact kb_kc _ _
  have hon : ∀ c, onP W H c → kdF W H w0 w1 c = 0 ∨ kdF W H w0 w1 c = 1 ∨ kdF W H w0 w1 c = 2 ∨ kdF W H w0 w1 c = 3 := by
    intro c h
    rw [kdF_on h]
    split <;> split <;> simp
  have loop : ∀ n i, i + n = W * H → ∀ z5 : Option mV, G 25 [some xA, some (mI year), some (mI (nI mp)), some (mR 10 mp), some (mI (nI i)), z5] [] (mput σ1 11 mp (cpy (σ1 11 mp) F i)) := by
    intro n
    induction n with
    | zero =>
      intro i hi z5
      have : i = W * H := by omega
      subst this
      refine hG.run (br_t ?_ ?_)
      · show σ1 1 0 2 ≤ nI (W * H)
        rw [f1 1 0 (fun _ => by decide), hc]; exact Int32.le_refl _
      · refine call_of (ev_measure _ (m := mp) (show GR (mput σ1 11 mp (cpy (σ1 11 mp) F (W * H))) W H from I1)) ?_
        generalize hs0 : msS (mput σ1 11 mp (cpy (σ1 11 mp) F (W * H))) W (W * H) mp (W * H) = s0
        have e11 : s0 11 mp = cpy (σ1 11 mp) F (W * H) := by
          rw [← hs0]
          show mput σ1 11 mp _ 11 mp = _
          rw [mput_eq]
        have I2 : GR s0 W H := by rw [← hs0]; exact I1
        refine call_ex (ev_sortParts s0 (m := mp) (kM := kdF W H w0 w1) I2 (by rw [e11]; exact hKC) (fun c _ q => kdF_off q)) ?_
        rintro r s ⟨rfl, hSI⟩
        have hLR := LR_of hW0 hW1 hH1 (by rw [e11]; exact hKC) hon (fun c q => kdF_off q) hs0.symm hSI
        have hf := hSI.1
        have e7 : s 7 0 = σ 7 0 := by
          rw [hf.1 7 0 (by decide) (by decide) (by decide) (fun _ => by decide), ← hs0]
          show σ1 7 0 = _
          exact f1 7 0 (fun _ => by decide)
        have e10 : ∀ j, j ≠ 1 → j ≠ 2 → j ≠ 3 → s0 10 mp j = upd (upd (σ 10 mp) 0 year) 6 (-1) j := by
          intro j a b c
          rw [← hs0]
          show mput _ 10 mp (msU (σ1 10 mp) _ _ _) 10 mp j = _
          rw [mput_eq, h10]
          show (if j = 1 then _ else if j = 2 then _ else if j = 3 then _ else _) = _
          rw [if_neg a, if_neg b, if_neg c]
        refine ⟨rfl, hLR, ?_, ?_, ?_, ?_⟩
        · show s 10 mp 0 = year
          rw [hf.2 0 (by decide) (by decide), e10 0 (by decide) (by decide) (by decide)]; rfl
        · show s 10 mp 6 = -1
          rw [hf.2 6 (by decide) (by decide), e10 6 (by decide) (by decide) (by decide)]; rfl
        · show upd (s 7 0) 4 (s 7 0 4 + 1) = _
          rw [e7, hm, nI_1]
        · intro g i a b c d q
          show mput s 7 0 _ g i = _
          rw [mput_ng _ _ _ _ d, hf.1 g i a b c q, ← hs0]
          show mput (mput σ1 11 mp _) 10 mp _ g i = _
          rw [mput_ne, mput_ne, f1 g i (fun r => (q r).1)]
          · by_cases hi : i = mp
            · exact Or.inl (q hi).2.1
            · exact Or.inr hi
          · by_cases hi : i = mp
            · exact Or.inl (q hi).1
            · exact Or.inr hi
    | succ n ih =>
      intro i hi z5
      have h5 := ih (i + 1) (by omega)
      rw [← cpy_s, ← mput_mput σ1 11 mp (cpy (σ1 11 mp) F i), hFk i, ← nI_1] at h5
      have e9 : ∀ f, mput σ1 11 mp f 9 0 = σ 9 0 := fun f => f1 9 0 (fun _ => by decide)
      refine hG.run (br_f ?_ ?_)
      · show ¬ σ1 1 0 2 ≤ nI i
        rw [f1 1 0 (fun _ => by decide), hc]; exact nI_ge (by omega) (by omega)
      · have v : vp_in (nI i) 144 := vp_in_nI (by omega) (by omega)
        refine And.intro (fun c1 => ?_) (fun c1 => ?_)
        · replace c1 : ¬ nI mp = 0 := c1
          have hm0 : ¬ mp = 0 := fun q => c1 (by rw [q]; rfl)
          rw [ifp_f hm0] at h5
          have e1 : nI mp - 1 = nI (mp - 1) := nI_m1 (by omega)
          refine And.intro (show vp_in (nI mp - 1) 10 by rw [e1]; exact vp_in_nI (by omega) (by omega)) ?_
          rw [e1, nI_cl (by omega)]
          refine call_of (ev_isDry _ (m := mp - 1) (k := i) (by omega)) ?_
          have ed : mput σ1 11 mp (cpy (σ1 11 mp) F i) 11 (mp - 1) = σ 11 (mp - 1) := by
            rw [mput_ne _ _ _ _ (Or.inr (by omega)), f1 11 (mp - 1) (fun _ => by decide)]
          rw [ed]
          refine And.intro (fun c2 => ?_) (fun c2 => ?_)
          · have c2 := b_t c2
            rw [b2i_f (fun q => q c2)] at h5
            refine And.intro v ?_
            rw [nI_cl (by omega)]
            have hcall := ev_kindBetween (mput σ1 11 mp (cpy (σ1 11 mp) F i)) 0 (σ 9 0 i)
            rw [← e9 (cpy (σ1 11 mp) F i)] at hcall
            refine call_of hcall ?_
            refine And.intro v ?_
            rw [nI_cl (by omega)]
            show G 25 [some xA, some (mI year), some (mI (nI mp)), some (mR 10 mp), some (mI (nI i + 1)), some (mI 0)] [] (mput (mput σ1 11 mp (cpy (σ1 11 mp) F i)) 11 mp (upd (mput σ1 11 mp (cpy (σ1 11 mp) F i) 11 mp) i (kbF 0 (mput σ1 11 mp (cpy (σ1 11 mp) F i) 9 0 i))))
            rw [mput_eq, e9]
            exact h5 _
          · have c2 := b_f c2
            rw [b2i_t c2] at h5
            refine And.intro v ?_
            rw [nI_cl (by omega)]
            have hcall := ev_kindBetween (mput σ1 11 mp (cpy (σ1 11 mp) F i)) 1 (σ 9 0 i)
            rw [← e9 (cpy (σ1 11 mp) F i)] at hcall
            refine call_of hcall ?_
            refine And.intro v ?_
            rw [nI_cl (by omega)]
            show G 25 [some xA, some (mI year), some (mI (nI mp)), some (mR 10 mp), some (mI (nI i + 1)), some (mI 1)] [] (mput (mput σ1 11 mp (cpy (σ1 11 mp) F i)) 11 mp (upd (mput σ1 11 mp (cpy (σ1 11 mp) F i) 11 mp) i (kbF 1 (mput σ1 11 mp (cpy (σ1 11 mp) F i) 9 0 i))))
            rw [mput_eq, e9]
            exact h5 _
        · replace c1 : nI mp = 0 := c1
          have hm0 : mp = 0 := (nI_eq (b := 0) (by omega) (by omega)).mp c1
          rw [ifp_t hm0] at h5
          refine And.intro v ?_
          rw [nI_cl (by omega)]
          rw [← e9 (cpy (σ1 11 mp) F i)] at h5
          refine And.intro v ?_
          rw [nI_cl (by omega)]
          refine call_of (ev_kindBetween _ _ _) ?_
          refine And.intro v ?_
          rw [nI_cl (by omega)]
          show G 25 [some xA, some (mI year), some (mI (nI mp)), some (mR 10 mp), some (mI (nI i + 1)), _] [] (mput (mput σ1 11 mp (cpy (σ1 11 mp) F i)) 11 mp (upd (mput σ1 11 mp (cpy (σ1 11 mp) F i) 11 mp) i (kbF (mput σ1 11 mp (cpy (σ1 11 mp) F i) 9 0 i) (mput σ1 11 mp (cpy (σ1 11 mp) F i) 9 0 i))))
          rw [mput_eq]
          exact h5 _
  have h := loop (W * H) 0 (by omega) none
  rw [cpy_0, mput_self, ← hg, ← mput_mput σ 10 mp (upd (σ 10 mp) 0 year)] at h
  show G 25 [some xA, some (mI year), some (mI (nI mp)), some (mR 10 mp), some (mI (nI 0)), none] [] (mput (mput σ 10 mp (upd (σ 10 mp) 0 year)) 10 mp (upd (mput σ 10 mp (upd (σ 10 mp) 0 year) 10 mp) 6 (-1)))
  rw [mput_eq]
  exact h
