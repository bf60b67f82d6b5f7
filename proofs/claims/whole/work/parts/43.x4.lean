/-! CLASS: parts that hang together -/
/-- how many of the first n are not 0 -/
def cnt (f : Nat → Int32) (n : Nat) : Nat := fo (fun k a => if f k = 0 then a else a + 1) 0 n
theorem cnt_s (f : Nat → Int32) (n : Nat) : cnt f (n + 1) = if f n = 0 then cnt f n else cnt f n + 1 := rfl
theorem cnt_le (f : Nat → Int32) : ∀ n, cnt f n ≤ n
  | 0 => Nat.le_refl _
  | n + 1 => by
    have h := cnt_le f n
    rw [cnt_s]
    split <;> omega
theorem cnt_cong {f g : Nat → Int32} : ∀ {n : Nat}, (∀ k, k < n → f k = g k) → cnt f n = cnt g n
  | 0, _ => rfl
  | n + 1, h => by rw [cnt_s, cnt_s, cnt_cong (fun k hk => h k (by omega)), h n (by omega)]
theorem cnt_off {f : Nat → Int32} {e : Nat} (hf : f e ≠ 0) : ∀ {n : Nat}, e < n → cnt (upd f e 0) n + 1 = cnt f n
  | 0, h => absurd h (by omega)
  | n + 1, h => by
    rw [cnt_s, cnt_s]
    by_cases he : e = n
    · subst he
      rw [upd_eq, if_pos rfl, if_neg hf, cnt_cong (fun k hk => upd_ne f 0 (by omega))]
    · have ih := cnt_off hf (n := n) (by omega)
      rw [upd_ne _ _ (by omega)]
      split <;> omega
def opS (W N : Nat) (op : Nat → Int32) (c : Nat) : Prop := ∃ k, k < N ∧ c = emb W k ∧ op k ≠ 0
def inl (pt : Nat → Int32) (ps e : Nat) : Prop := ∃ j, j < ps ∧ pt j = nI e
def gI (W N f : Nat) (o0 op pt : Nat → Int32) (ps : Nat) : Prop := pt 0 = nI f ∧ 1 ≤ ps ∧ ps + cnt op N ≤ N ∧ (∀ j, j < ps → ∃ e, e < N ∧ pt j = nI e ∧ o0 e ≠ 0 ∧ conn (opS W N o0) (emb W f) (emb W e)) ∧ ∀ e, e < N → (op e = o0 e ∧ ¬ inl pt ps e) ∨ (op e = 0 ∧ inl pt ps e)
def gD (W H : Nat) (o0 pt : Nat → Int32) (ps i sd : Nat) : Prop := ∀ e, e < W * H → pt i = nI e → ∀ s, s < sd → ∀ x, bsF W H e s = some x → o0 x ≠ 0 → inl pt ps x
theorem nI_inj {a b : Nat} (ha : a < 2 ^ 31) (hb : b < 2 ^ 31) (h : nI a = nI b) : a = b := by
  rw [← nI_cl ha, ← nI_cl hb, h]
theorem inl_grow {pt : Nat → Int32} {ps e v : Nat} : inl (upd pt ps (nI v)) (ps + 1) e ↔ inl pt ps e ∨ nI e = nI v := by
  constructor
  · rintro ⟨j, hj, he⟩
    by_cases h : j = ps
    · subst h; rw [upd_eq] at he; exact Or.inr he.symm
    · rw [upd_ne _ _ h] at he; exact Or.inl ⟨j, by omega, he⟩
  · rintro (⟨j, hj, he⟩ | h)
    · exact ⟨j, by omega, by rw [upd_ne _ _ (by omega)]; exact he⟩
    · exact ⟨ps, by omega, by rw [upd_eq]; exact h.symm⟩
theorem gD_grow {W H : Nat} {o0 pt : Nat → Int32} {ps i sd v : Nat} (hi : i < ps) (h : gD W H o0 pt ps i sd) : gD W H o0 (upd pt ps (nI v)) (ps + 1) i sd := by
  intro e he hp s hs x hx hx0
  rw [upd_ne _ _ (by omega)] at hp
  exact inl_grow.mpr (Or.inl (h e he hp s hs x hx hx0))
theorem gI_grow {W H f : Nat} (hW0 : 0 < W) (hW1 : W ≤ 12) (hH1 : H ≤ 12) {o0 op pt : Nat → Int32} {ps i e sd x : Nat} (h : gI W (W * H) f o0 op pt ps) (hi : i < ps) (he : e < W * H) (hp : pt i = nI e) (hs : sd < 4) (hx : bsF W H e sd = some x) (hx0 : op x ≠ 0) : gI W (W * H) f o0 (upd op x 0) (upd pt ps (nI x)) (ps + 1) ∧ ps < W * H := by
  have hN := gr_le hW1 hH1
  obtain ⟨h1, h2, h3, h4, h5⟩ := h
  obtain ⟨hxN, hadj⟩ := (bsF_ok hW0 hW1 hH1 he).1 sd x hs hx
  have hc := cnt_off hx0 hxN
  have ho : op x = o0 x := by
    rcases h5 x hxN with q | q
    · exact q.1
    · exact absurd q.1 hx0
  refine ⟨⟨?_, by omega, by omega, ?_, ?_⟩, by omega⟩
  · rw [upd_ne _ _ (by omega)]; exact h1
  · intro j hj
    by_cases hjp : j = ps
    · subst hjp
      obtain ⟨e', he', hp', ho', hc'⟩ := h4 i hi
      have : e' = e := nI_inj (by omega) (by omega) (hp'.symm.trans hp)
      subst this
      exact ⟨x, hxN, upd_eq _ _ _, by rw [← ho]; exact hx0, conn_st hc' ⟨e', he', rfl, ho'⟩ ⟨x, hxN, rfl, by rw [← ho]; exact hx0⟩ hadj⟩
    · rw [upd_ne _ _ hjp]
      exact h4 j (by omega)
  · intro k hk
    by_cases hkx : k = x
    · subst hkx
      exact Or.inr ⟨upd_eq _ _ _, inl_grow.mpr (Or.inr rfl)⟩
    · rw [upd_ne _ _ hkx]
      rcases h5 k hk with q | q
      · exact Or.inl ⟨q.1, fun r => (inl_grow.mp r).elim q.2 (fun r => hkx (nI_inj (by omega) (by omega) r))⟩
      · exact Or.inr ⟨q.1, inl_grow.mpr (Or.inl q.2)⟩
def gst (σ : mS) (op pt : Nat → Int32) (ps : Nat) : mS := mput (mput (mput σ 5 0 op) 6 0 pt) 4 0 (upd (σ 4 0) 3 (nI ps))
theorem upd_upd (f : Nat → Int32) (k : Nat) (x y : Int32) : upd (upd f k x) k y = upd f k y := by
  funext j
  unfold upd
  by_cases h : j = k
  · rw [if_pos h, if_pos h]
  · rw [if_neg h, if_neg h, if_neg h]
theorem gst_put (σ : mS) (a b a' b' : Nat → Int32) (p p' : Nat) : mput (mput (mput (gst σ a b p) 5 0 a') 6 0 b') 4 0 (upd (upd (σ 4 0) 3 (nI p)) 3 (nI p')) = gst σ a' b' p' := by
  unfold gst
  rw [upd_upd]
  funext g i
  unfold mput
  by_cases h4 : g = 4 ∧ i = 0
  · simp [h4]
  · by_cases h6 : g = 6 ∧ i = 0
    · simp [h6]
    · by_cases h5 : g = 5 ∧ i = 0
      · simp [h5]
      · simp [h4, h5, h6]
/-- what a gathering leaves -/
def gQ (W N f : Nat) (o0 op pt : Nat → Int32) (ps : Nat) : Prop := 1 ≤ ps ∧ ps ≤ N ∧ (∀ j, j < ps → ∃ e, e < N ∧ pt j = nI e) ∧ (∀ e, e < N → (inl pt ps e ↔ o0 e ≠ 0 ∧ conn (opS W N o0) (emb W f) (emb W e))) ∧ ∀ e, e < N → (inl pt ps e → op e = 0) ∧ (¬ inl pt ps e → op e = o0 e)
theorem gQ_of {W H f : Nat} (hW0 : 0 < W) (hW1 : W ≤ 12) (hH1 : H ≤ 12) (hf : f < W * H) {o0 op pt : Nat → Int32} {ps : Nat} (h : gI W (W * H) f o0 op pt ps) (hd : ∀ i, i < ps → gD W H o0 pt ps i 4) : gQ W (W * H) f o0 op pt ps := by
  have hN := gr_le hW1 hH1
  obtain ⟨h1, h2, h3, h4, h5⟩ := h
  refine ⟨h2, by omega, fun j hj => ?_, fun e he => ⟨?_, ?_⟩, fun e he => ⟨?_, ?_⟩⟩
  · obtain ⟨e, q1, q2, -⟩ := h4 j hj
    exact ⟨e, q1, q2⟩
  · rintro ⟨j, hj, hp⟩
    obtain ⟨e', q1, q2, q3, q4⟩ := h4 j hj
    have : e' = e := nI_inj (by omega) (by omega) (q2.symm.trans hp)
    subst this
    exact ⟨q3, q4⟩
  · rintro ⟨-, hc⟩
    have hP := hc (fun c => ∃ e, e < W * H ∧ c = emb W e ∧ inl pt ps e) ⟨f, hf, rfl, 0, by omega, h1⟩ (by
      rintro a b ⟨ea, hea, rfl, j, hj, hja⟩ - ⟨eb, heb, rfl, hb0⟩ hab
      obtain ⟨sd, hs, hsd⟩ := (bsF_ok hW0 hW1 hH1 hea).2 eb heb hab
      exact ⟨eb, heb, rfl, hd j hj ea hea hja sd hs eb hsd hb0⟩)
    obtain ⟨e', he', q, hi⟩ := hP
    have : e = e' := emb_inj hW0 hW1 q
    subst this
    exact hi
  · intro hi
    rcases h5 e he with q | q
    · exact absurd hi q.2
    · exact q.1
  · intro hi
    rcases h5 e he with q | q
    · exact q.1
    · exact absurd q.2 hi
theorem ev_gather (σ : mS) {W H f : Nat} (I : GR σ W H) (hf : f < W * H) (hf0 : σ 5 0 f ≠ 0) : Ev kX6_gather [xS, mI (nI f)] σ (fun r s => r = none ∧ ∃ op pt ps, s = gst σ op pt ps ∧ gQ W (W * H) f (σ 5 0) op pt ps) := by
  have I0 := I
  obtain ⟨⟨hW, hW0, hW1⟩, ⟨hH, hH0, hH1⟩, hc, hk⟩ := I
  have hN := gr_le hW1 hH1
  refine Ev.intro fun G hG => hG.run ?_
  refine And.intro (vp_in_nI (by omega) (by omega)) (And.intro (show vp_in (nI 0) 144 from vp_in_nI (by omega) (by omega)) ?_)
  rw [nI_cl (by omega)]
  have outer : ∀ n i op pt ps, i + n = W * H → i ≤ ps → gI W (W * H) f (σ 5 0) op pt ps → (∀ j, j < i → gD W H (σ 5 0) pt ps j 4) → ∀ z3 z4 : Option mV, G 21 [some xS, some (mI (nI f)), some (mI (nI i)), z3, z4] [] (gst σ op pt ps) := by
    intro n
    induction n with
    | zero =>
      intro i op pt ps hi hip hI hD z3 z4
      have hps := hI.2.2.1
      have : ps = i := by omega
      subst this
      exact hG.run (br_t (Int32.le_refl _) ⟨rfl, op, pt, ps, rfl, gQ_of hW0 hW1 hH1 hf hI hD⟩)
    | succ n ih =>
      intro i op pt ps hi hip hI hD z3 z4
      have hps := hI.2.2.1
      by_cases hpi : ps = i
      · subst hpi
        exact hG.run (br_t (Int32.le_refl _) ⟨rfl, op, pt, ps, rfl, gQ_of hW0 hW1 hH1 hf hI hD⟩)
      · have inner : ∀ m sd op pt ps, sd + m = 4 → i < ps → gI W (W * H) f (σ 5 0) op pt ps → (∀ j, j < i → gD W H (σ 5 0) pt ps j 4) → gD W H (σ 5 0) pt ps i sd → ∀ z4 : Option mV, G 38 [some xS, some (mI (nI f)), some (mI (nI i)), some (mI (nI sd)), z4] [] (gst σ op pt ps) := by
          intro m
          induction m with
          | zero =>
            intro sd op pt ps hm hip hI hD hd z4
            have : sd = 4 := by omega
            subst this
            refine hG.run (br_t (Int32.le_refl _) ?_)
            have h5 := ih (i + 1) op pt ps (by omega) (by omega) hI (fun j hj => by
              by_cases hji : j = i
              · subst hji; exact hd
              · exact hD j (by omega)) (some (mI (nI 4))) z4
            rw [← nI_1] at h5
            exact h5
          | succ m ihm =>
            intro sd op pt ps hm hip hI hD hd z4
            obtain ⟨e, he, hp, -⟩ := hI.2.2.2.1 i hip
            have hps := hI.2.2.1
            refine hG.run (br_f (nI_ge (b := 4) (by omega) (by omega)) ?_)
            refine And.intro (vp_in_nI (by omega) (by omega)) ?_
            rw [nI_cl (n := i) (by omega)]
            have hcall := ev_beside (gst σ op pt ps) (k := e) (sd := sd) (show GR (gst σ op pt ps) W H from I0) he (by omega)
            rw [← hp] at hcall
            refine call_of hcall ?_
            have next : gD W H (σ 5 0) pt ps i (sd + 1) → ∀ z4 : Option mV, G 38 [some xS, some (mI (nI f)), some (mI (nI i)), some (mI (nI sd + 1)), z4] [] (gst σ op pt ps) := by
              intro hd' z4
              rw [nI_1]
              exact ihm (sd + 1) op pt ps (by omega) hip hI hD hd' z4
            cases hb : bsF W H e sd with
            | none =>
              refine br_t rfl ?_
              refine next (fun e' he' hp' s hs x hx hx0 => ?_) _
              have : e' = e := nI_inj (by omega) (by omega) (hp'.symm.trans hp)
              subst this
              by_cases hss : s = sd
              · subst hss; rw [hb] at hx; cases hx
              · exact hd e' he' hp' s (by omega) x hx hx0
            | some x =>
              obtain ⟨hxN, hadj⟩ := (bsF_ok hW0 hW1 hH1 he).1 sd x (by omega) hb
              have hne : ¬ nI x = -1 := fun q => by
                have := congrArg Int32.toInt q
                rw [nI_toInt (by omega)] at this
                have h2 : (-1 : Int32).toInt = -1 := by decide
                omega
              refine br_f hne ?_
              refine And.intro (vp_in_nI (by omega) (by omega)) ?_
              rw [show (oI (some x)).toNatClampNeg = x from nI_cl (n := x) (by omega)]
              refine And.intro (fun c1 => ?_) (fun c1 => ?_)
              · replace c1 : op x = 0 := c1
                refine next (fun e' he' hp' s hs x' hx hx0 => ?_) _
                have : e' = e := nI_inj (by omega) (by omega) (hp'.symm.trans hp)
                subst this
                by_cases hss : s = sd
                · subst hss
                  rw [hb] at hx
                  cases hx
                  rcases hI.2.2.2.2 x hxN with q | q
                  · exact absurd (q.1.symm.trans c1) hx0
                  · exact q.2
                · exact hd e' he' hp' s (by omega) x' hx hx0
              · replace c1 : ¬ op x = 0 := c1
                obtain ⟨hI', hlt⟩ := gI_grow hW0 hW1 hH1 hI hip he hp (by omega) hb c1
                refine br_f (nI_ge (b := 144) (by omega) (by omega)) ?_
                refine And.intro (vp_in_nI (by omega) (by omega)) (And.intro (vp_in_nI (by omega) (by omega)) ?_)
                have h5 := ihm (sd + 1) (upd op x 0) (upd pt ps (nI x)) (ps + 1) (by omega) (by omega) hI' (fun j hj => gD_grow (by omega) (hD j hj)) (by
                  intro e' he' hp' s hs x' hx hx0
                  rw [upd_ne _ _ (by omega)] at hp'
                  have : e' = e := nI_inj (by omega) (by omega) (hp'.symm.trans hp)
                  subst this
                  by_cases hss : s = sd
                  · subst hss
                    rw [hb] at hx
                    cases hx
                    exact inl_grow.mpr (Or.inr rfl)
                  · exact inl_grow.mpr (Or.inl (hd e' he' hp' s (by omega) x' hx hx0))) (some (mI (nI x)))
                rw [← gst_put σ op pt _ _ ps (ps + 1), ← nI_1, ← nI_1] at h5
                rw [show (oI (some x)).toNatClampNeg = x from nI_cl (n := x) (by omega)]
                show G 38 [some xS, some (mI (nI f)), some (mI (nI i)), some (mI (nI sd + 1)), some (mI (nI x))] [] (mput (mput (mput (gst σ op pt ps) 5 0 (upd op x 0)) 6 0 (upd pt (nI ps).toNatClampNeg (nI x))) 4 0 (upd (upd (σ 4 0) 3 (nI ps)) 3 (nI ps + 1)))
                rw [nI_cl (n := ps) (by omega)]
                exact h5
        refine hG.run (br_f (nI_ge (by omega) (by omega)) (br_f (nI_ge (b := 144) (by omega) (by omega)) (inner 4 0 op pt ps (by omega) (by omega) hI hD (fun e _ _ s hs => absurd hs (by omega)) z4)))
  have h := outer (W * H) 0 (upd (σ 5 0) f 0) (upd (σ 6 0) 0 (nI f)) 1 (by omega) (by omega) ⟨upd_eq _ _ _, by omega, ?_, ?_, ?_⟩ (fun j hj => absurd hj (by omega)) none none
  · exact h
  · have h1 := cnt_off hf0 hf
    have h2 := cnt_le (σ 5 0) (W * H)
    omega
  · intro j hj
    have : j = 0 := by omega
    subst this
    exact ⟨f, hf, upd_eq _ _ _, hf0, conn_rf⟩
  · intro e he
    by_cases hef : e = f
    · subst hef
      exact Or.inr ⟨upd_eq _ _ _, 0, by omega, upd_eq _ _ _⟩
    · refine Or.inl ⟨upd_ne _ _ hef, fun ⟨j, hj, hq⟩ => ?_⟩
      have : j = 0 := by omega
      subst this
      rw [upd_eq] at hq
      exact hef (nI_inj (by omega) (by omega) hq.symm)
