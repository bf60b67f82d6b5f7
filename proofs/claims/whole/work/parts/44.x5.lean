/-! CLASS: what becomes of a part -/
def PL (σ : mS) (N ps : Nat) (p : Nat → Nat) : Prop := σ 4 0 3 = nI ps ∧ ps ≤ N ∧ ∀ j, j < ps → p j < N ∧ σ 6 0 j = nI (p j)
theorem nI_neg {x : Nat} (h : x < 2 ^ 31) : ¬ nI x = -1 := fun q => by
  have := congrArg Int32.toInt q
  rw [nI_toInt h] at this
  have h2 : (-1 : Int32).toInt = -1 := by decide
  omega
def bfP (W N : Nat) (kd : Nat → Int32) (k : Nat) : Prop := ∃ e, e < N ∧ awF (emb W k) (emb W e) = 1 ∧ kd e = 4
theorem ev_byFast (σ : mS) {W H m ps : Nat} {p : Nat → Nat} (I : GR σ W H) (hp : PL σ (W * H) ps p) : Ev kX6_partIsByFast [xS, mR 10 m] σ (fun r s => r = some (mI (b2i (∃ j, j < ps ∧ bfP W (W * H) (σ 11 m) (p j)))) ∧ s = σ) := by
  have I0 := I
  obtain ⟨⟨hW, hW0, hW1⟩, ⟨hH, hH0, hH1⟩, hc, hk⟩ := I
  obtain ⟨hps, hle, hpp⟩ := hp
  have hN := gr_le hW1 hH1
  refine Ev.intro fun G hG => hG.run ?_
  have outer : ∀ n i, i + n = ps → (∀ j, j < i → ¬ bfP W (W * H) (σ 11 m) (p j)) → ∀ z3 z4 : Option mV, G 2 [some xS, some (mR 10 m), some (mI (nI i)), z3, z4] [] σ := by
    intro n
    induction n with
    | zero =>
      intro i hi hno z3 z4
      have : i = ps := by omega
      subst this
      refine hG.run (br_t ?_ ⟨?_, rfl⟩)
      · show σ 4 0 3 ≤ nI i
        rw [hps]; exact Int32.le_refl _
      · rw [b2i_f (fun ⟨j, hj, q⟩ => hno j hj q)]; rfl
    | succ n ih =>
      intro i hi hno z3 z4
      obtain ⟨hpi, epi⟩ := hpp i (by omega)
      have inner : ∀ q sd, sd + q = 4 → (∀ s, s < sd → ∀ x, bsF W H (p i) s = some x → ¬ σ 11 m x = 4) → ∀ z4 : Option mV, G 12 [some xS, some (mR 10 m), some (mI (nI i)), some (mI (nI sd)), z4] [] σ := by
        intro q
        induction q with
        | zero =>
          intro sd hsd hs z4
          have : sd = 4 := by omega
          subst this
          refine hG.run (br_t (Int32.le_refl _) ?_)
          have h5 := ih (i + 1) (by omega) (fun j hj => by
            by_cases hji : j = i
            · subst hji
              rintro ⟨e, he, ha, hf⟩
              obtain ⟨s, hs4, hsb⟩ := (bsF_ok hW0 hW1 hH1 hpi).2 e he ha
              exact hs s hs4 e hsb hf
            · exact hno j (by omega)) (some (mI (nI 4))) z4
          rw [← nI_1] at h5
          exact h5
        | succ q ihq =>
          intro sd hsd hs z4
          refine hG.run (br_f (nI_ge (b := 4) (by omega) (by omega)) ?_)
          refine And.intro (vp_in_nI (by omega) (by omega)) ?_
          rw [nI_cl (n := i) (by omega)]
          have hcall := ev_beside σ (k := p i) (sd := sd) I0 hpi (by omega)
          rw [← epi] at hcall
          refine call_of hcall ?_
          cases hb : bsF W H (p i) sd with
          | none =>
            refine br_t rfl ?_
            have h5 := ihq (sd + 1) (by omega) (fun s hs' x hx => by
              by_cases hss : s = sd
              · subst hss; rw [hb] at hx; cases hx
              · exact hs s (by omega) x hx) (some (mI (-1)))
            rw [← nI_1] at h5
            exact h5
          | some x =>
            obtain ⟨hxN, hadj⟩ := (bsF_ok hW0 hW1 hH1 hpi).1 sd x (by omega) hb
            refine br_f (nI_neg (x := x) (by omega)) ?_
            refine And.intro (vp_in_nI (by omega) (by omega)) ?_
            rw [show (oI (some x)).toNatClampNeg = x from nI_cl (n := x) (by omega)]
            refine And.intro (fun c => ?_) (fun c => ?_)
            · replace c : ¬ σ 11 m x = 4 := c
              have h5 := ihq (sd + 1) (by omega) (fun s hs' x' hx => by
                by_cases hss : s = sd
                · subst hss; rw [hb] at hx; cases hx; exact c
                · exact hs s (by omega) x' hx) (some (mI (nI x)))
              rw [← nI_1] at h5
              exact h5
            · replace c : σ 11 m x = 4 := c
              refine ⟨?_, rfl⟩
              rw [b2i_t ⟨i, by omega, x, hxN, hadj, c⟩]; rfl
      refine hG.run (br_f ?_ (inner 4 0 (by omega) (fun s hs => absurd hs (by omega)) z4))
      show ¬ σ 4 0 3 ≤ nI i
      rw [hps]; exact nI_ge (by omega) (by omega)
  exact outer ps 0 (by omega) (fun j hj => absurd hj (by omega)) none none
/-- the first of the nearest -/
def fnI (W : Nat) (p : Nat → Nat) (c : Nat) (st : Option Nat × Nat) (n : Nat) : Option Nat × Nat := fo (fun j st => if awF (emb W c) (emb W (p j)) < st.2 then (some c, awF (emb W c) (emb W (p j))) else st) st n
noncomputable def fnF (W : Nat) (p : Nat → Nat) (Q : Nat → Prop) (ps n : Nat) : Option Nat × Nat := fo (fun c st => ifp (Q c) (fnI W p c st ps) st) (none, 24) n
theorem fnI_le (W : Nat) (p : Nat → Nat) (c : Nat) (st : Option Nat × Nat) (h : st.2 ≤ 24) : ∀ n, (fnI W p c st n).2 ≤ 24
  | 0 => h
  | n + 1 => by
    have ih := fnI_le W p c st h n
    show (if awF (emb W c) (emb W (p n)) < (fnI W p c st n).2 then (some c, awF (emb W c) (emb W (p n))) else fnI W p c st n).2 ≤ 24
    split
    · show awF (emb W c) (emb W (p n)) ≤ 24
      omega
    · exact ih
theorem fnF_le (W : Nat) (p : Nat → Nat) (Q : Nat → Prop) (ps : Nat) : ∀ n, (fnF W p Q ps n).2 ≤ 24
  | 0 => Nat.le_refl _
  | n + 1 => by
    have ih := fnF_le W p Q ps n
    show (ifp (Q n) (fnI W p n (fnF W p Q ps n) ps) (fnF W p Q ps n)).2 ≤ 24
    by_cases h : Q n
    · rw [ifp_t h]; exact fnI_le W p n _ ih ps
    · rw [ifp_f h]; exact ih
theorem ev_fastNear (σ : mS) {W H m ps lo n : Nat} {p : Nat → Nat} (I : GR σ W H) (hp : PL σ (W * H) ps p) (hl : lo + n ≤ ps) : Ev kX6_fastNearestTo [xS, mR 10 m, mI (nI lo), mI (nI (lo + n))] σ (fun r s => r = some (mI (oI (fnF W (fun j => p (lo + j)) (fun c => σ 11 m c = 4) n (W * H)).1)) ∧ s = σ) := by
  have I0 := I
  obtain ⟨⟨hW, hW0, hW1⟩, ⟨hH, hH0, hH1⟩, hc, hk⟩ := I
  obtain ⟨hps, hle, hpp⟩ := hp
  have hN := gr_le hW1 hH1
  refine Ev.intro fun G hG => hG.run ?_
  have outer : ∀ q c, c + q = W * H → ∀ z7 z8 : Option mV, G 10 [some xS, some (mR 10 m), some (mI (nI lo)), some (mI (nI (lo + n))), some (mI (oI (fnF W (fun j => p (lo + j)) (fun c => σ 11 m c = 4) n c).1)), some (mI (nI (fnF W (fun j => p (lo + j)) (fun c => σ 11 m c = 4) n c).2)), some (mI (nI c)), z7, z8] [] σ := by
    intro q
    induction q with
    | zero =>
      intro c hcq z7 z8
      have : c = W * H := by omega
      subst this
      refine hG.run (br_t ?_ ⟨rfl, rfl⟩)
      show σ 1 0 2 ≤ nI (W * H)
      rw [hc]; exact Int32.le_refl _
    | succ q ih =>
      intro c hcq z7 z8
      refine hG.run (br_f ?_ ?_)
      · show ¬ σ 1 0 2 ≤ nI c
        rw [hc]; exact nI_ge (by omega) (by omega)
      · have h5 := ih (c + 1) (by omega)
        have e : fnF W (fun j => p (lo + j)) (fun c => σ 11 m c = 4) n (c + 1) = ifp (σ 11 m c = 4) (fnI W (fun j => p (lo + j)) c (fnF W (fun j => p (lo + j)) (fun c => σ 11 m c = 4) n c) n) (fnF W (fun j => p (lo + j)) (fun c => σ 11 m c = 4) n c) := rfl
        rw [e, ← nI_1] at h5
        have hb := fnF_le W (fun j => p (lo + j)) (fun c => σ 11 m c = 4) n c
        generalize fnF W (fun j => p (lo + j)) (fun c => σ 11 m c = 4) n c = st at h5 hb ⊢
        refine And.intro (vp_in_nI (by omega) (by omega)) ?_
        rw [nI_cl (n := c) (by omega)]
        refine And.intro (fun c1 => ?_) (fun c1 => ?_)
        · replace c1 : ¬ σ 11 m c = 4 := c1
          rw [ifp_f c1] at h5
          exact h5 _ _
        · replace c1 : σ 11 m c = 4 := c1
          rw [ifp_t c1] at h5
          have inner : ∀ r j, j + r = n → ∀ z8 : Option mV, G 36 [some xS, some (mR 10 m), some (mI (nI lo)), some (mI (nI (lo + n))), some (mI (oI (fnI W (fun j => p (lo + j)) c st j).1)), some (mI (nI (fnI W (fun j => p (lo + j)) c st j).2)), some (mI (nI c)), some (mI (nI (lo + j))), z8] [] σ := by
            intro r
            induction r with
            | zero =>
              intro j hj z8
              have : j = n := by omega
              subst this
              exact hG.run (br_t (Int32.le_refl _) (h5 _ _))
            | succ r ihr =>
              intro j hj z8
              obtain ⟨hpj, epj⟩ := hpp (lo + j) (by omega)
              have h6 := ihr (j + 1) (by omega)
              have hb2 := fnI_le W (fun j => p (lo + j)) c st hb j
              have hw := awF_le (emb_lt hW0 hW1 hH1 (show c < W * H by omega)) (emb_lt hW0 hW1 hH1 hpj)
              have e2 : fnI W (fun j => p (lo + j)) c st (j + 1) = if awF (emb W c) (emb W (p (lo + j))) < (fnI W (fun j => p (lo + j)) c st j).2 then (some c, awF (emb W c) (emb W (p (lo + j)))) else fnI W (fun j => p (lo + j)) c st j := rfl
              rw [e2, ← Nat.add_assoc, ← nI_1] at h6
              refine hG.run (br_f (nI_ge (by omega) (by omega)) ?_)
              refine And.intro (vp_in_nI (by omega) (by omega)) ?_
              rw [nI_cl (n := lo + j) (by omega)]
              have hcall := ev_walk σ I0 (a := c) (b := p (lo + j)) (by omega) hpj
              rw [← epj] at hcall
              refine call_of hcall ?_
              refine And.intro (fun c2 => ?_) (fun c2 => ?_)
              · replace c2 := le_of_le (a := (fnI W (fun j => p (lo + j)) c st j).2) (b := awF (emb W c) (emb W (p (lo + j)))) c2 (by omega)
                rw [if_neg (by omega)] at h6
                exact h6 _
              · replace c2 : ¬ nI (fnI W (fun j => p (lo + j)) c st j).2 ≤ nI (awF (emb W c) (emb W (p (lo + j)))) := c2
                have c2 := lt_of_nle c2 (by omega)
                rw [if_pos c2] at h6
                exact h6 _
          exact inner n 0 (by omega) _
  exact outer (W * H) 0 (by omega) none none
/-- f, but g at the cells of the list's first n -/
noncomputable def lsU (p : Nat → Nat) (f g : Nat → Int32) (n : Nat) : Nat → Int32 := fun k => ifp (∃ j, j < n ∧ p j = k) (g k) (f k)
theorem lsU_0 (p : Nat → Nat) (f g : Nat → Int32) : lsU p f g 0 = f := by
  funext k
  exact ifp_f (fun ⟨j, hj, _⟩ => absurd hj (by omega))
theorem lsU_s (p : Nat → Nat) (f g : Nat → Int32) (n : Nat) : upd (lsU p f g n) (p n) (g (p n)) = lsU p f g (n + 1) := by
  funext k
  by_cases hk : k = p n
  · subst hk
    rw [upd_eq]
    exact (ifp_t ⟨n, by omega, rfl⟩).symm
  · rw [upd_ne _ _ hk]
    refine ifp_c ⟨fun ⟨j, hj, q⟩ => ⟨j, by omega, q⟩, fun ⟨j, hj, q⟩ => ⟨j, ?_, q⟩⟩
    by_cases hjn : j = n
    · subst hjn; exact absurd q.symm hk
    · omega
theorem lsU_4 {p : Nat → Nat} {f : Nat → Int32} {v : Int32} {n : Nat} (hv : v ≠ 4) (hf : ∀ j, j < n → f (p j) ≠ 4) (c : Nat) : lsU p f (fun _ => v) n c = 4 ↔ f c = 4 := by
  by_cases h : ∃ j, j < n ∧ p j = c
  · rw [show lsU p f (fun _ => v) n c = v from ifp_t h]
    obtain ⟨j, hj, rfl⟩ := h
    exact ⟨fun q => absurd q hv, fun q => absurd q (hf j hj)⟩
  · rw [show lsU p f (fun _ => v) n c = f c from ifp_f h]
noncomputable def nx (W : Nat) (Q : Nat → Prop) (N k : Nat) : Int32 := oI (fnF W (fun _ => k) Q 1 N).1
theorem put2 (σ : mS) (m : Nat) (a b a' b' : Nat → Int32) : mput (mput (mput (mput σ 11 m a) 12 m b) 11 m a') 12 m b' = mput (mput σ 11 m a') 12 m b' := by
  rw [mput_cover _ 11 m 12 m _ _ _ (Or.inl (by omega)), mput_cover _ 12 m 11 m _ _ _ (Or.inl (by omega))]
noncomputable def shS (σ : mS) (W N m : Nat) (p : Nat → Nat) (n : Nat) : mS := mput (mput σ 11 m (lsU p (σ 11 m) (fun _ => 2) n)) 12 m (lsU p (σ 12 m) (nx W (fun c => σ 11 m c = 4) N) n)
theorem fn_1 (W : Nat) (p : Nat → Nat) (i : Nat) (Q : Nat → Prop) (n : Nat) : fnF W (fun j => p (i + j)) Q 1 n = fnF W (fun _ => p i) Q 1 n := rfl
theorem ev_shore (σ : mS) {W H m ps : Nat} {p : Nat → Nat} (I : GR σ W H) (hp : PL σ (W * H) ps p) (hf : ∀ j, j < ps → σ 11 m (p j) ≠ 4) : Ev kX6_settleShore [xS, mR 10 m] σ (fun r s => r = none ∧ s = shS σ W (W * H) m p ps) := by
  have I0 := I
  have hp0 := hp
  obtain ⟨⟨hW, hW0, hW1⟩, ⟨hH, hH0, hH1⟩, hc, hk⟩ := I
  obtain ⟨hps, hle, hpp⟩ := hp
  have hN := gr_le hW1 hH1
  refine Ev.intro fun G hG => hG.run ?_
  have key := loop_up (G := G) 2 ps (fun i => [some xS, some (mR 10 m), some (mI (nI i))]) (fun i => shS σ W (W * H) m p i) ?_ ?_ 0 (by omega)
  · have key : G 2 [some xS, some (mR 10 m), some (mI (nI 0))] [] (mput (mput σ 11 m (lsU p (σ 11 m) (fun _ => 2) 0)) 12 m (lsU p (σ 12 m) (nx W (fun c => σ 11 m c = 4) (W * H)) 0)) := key
    rw [lsU_0, lsU_0, mput_self, mput_self] at key
    exact key
  · intro i hi ih
    obtain ⟨hpi, epi⟩ := hpp i hi
    have ih : G 2 [some xS, some (mR 10 m), some (mI (nI (i + 1)))] [] (mput (mput σ 11 m (lsU p (σ 11 m) (fun _ => 2) (i + 1))) 12 m (lsU p (σ 12 m) (nx W (fun c => σ 11 m c = 4) (W * H)) (i + 1))) := ih
    rw [← lsU_s, ← lsU_s, ← put2 σ m (lsU p (σ 11 m) (fun _ => 2) i) (lsU p (σ 12 m) (nx W (fun c => σ 11 m c = 4) (W * H)) i), ← nI_1] at ih
    refine hG.run (br_f ?_ ?_)
    · show ¬ σ 4 0 3 ≤ nI i
      rw [hps]; exact nI_ge hi (by omega)
    · have v1 : vp_in (nI i) 144 := vp_in_nI (by omega) (by omega)
      have v2 : vp_in (σ 6 0 (nI i).toNatClampNeg) 144 := by rw [nI_cl (by omega), epi]; exact vp_in_nI (by omega) (by omega)
      have e2 : (σ 6 0 (nI i).toNatClampNeg).toNatClampNeg = p i := by rw [nI_cl (by omega), epi]; exact nI_cl (by omega)
      refine And.intro v1 (And.intro v2 (And.intro v1 ?_))
      have hcall := ev_fastNear (mput (shS σ W (W * H) m p i) 11 m (upd (shS σ W (W * H) m p i 11 m) (p i) 2)) (m := m) (lo := i) (n := 1) I0 hp0 (by omega)
      rw [fn_1, ← nI_1] at hcall
      have e4 : shS σ W (W * H) m p i 11 m = lsU p (σ 11 m) (fun _ => 2) i := by
        show mput σ 11 m _ 11 m = _
        rw [mput_eq]
      have e6 : shS σ W (W * H) m p i 12 m = lsU p (σ 12 m) (nx W (fun c => σ 11 m c = 4) (W * H)) i := by
        show mput _ 12 m _ 12 m = _
        rw [mput_eq]
      have e3 : (fun c => mput (shS σ W (W * H) m p i) 11 m (upd (shS σ W (W * H) m p i 11 m) (p i) 2) 11 m c = 4) = fun c => σ 11 m c = 4 := by
        funext c
        rw [mput_eq]
        rw [e4, show upd (lsU p (σ 11 m) (fun _ => 2) i) (p i) 2 = lsU p (σ 11 m) (fun _ => 2) (i + 1) from lsU_s p (σ 11 m) (fun _ => 2) i]
        exact propext (lsU_4 (by decide) (fun j hj => hf j (by omega)) c)
      rw [e3] at hcall
      have e5 : (shS σ W (W * H) m p i 6 0 (nI i).toNatClampNeg).toNatClampNeg = p i := e2
      rw [e5]
      refine call_of hcall ?_
      refine And.intro v2 ?_
      show G 2 [some xS, some (mR 10 m), some (mI (nI i + 1))] [] (mput (mput (shS σ W (W * H) m p i) 11 m (upd (shS σ W (W * H) m p i 11 m) (p i) 2)) 12 m (upd (shS σ W (W * H) m p i 12 m) (σ 6 0 (nI i).toNatClampNeg).toNatClampNeg (nx W (fun c => σ 11 m c = 4) (W * H) (p i))))
      rw [e2, e4, e6]
      exact ih
  · refine hG.run (br_t ?_ ⟨rfl, rfl⟩)
    show σ 4 0 3 ≤ nI ps
    rw [hps]; exact Int32.le_refl _
noncomputable def isS (σ : mS) (W N m : Nat) (p : Nat → Nat) (h : Int32) (n : Nat) : mS := mput (mput σ 11 m (lsU p (σ 11 m) (fun _ => 3) n)) 12 m (lsU p (σ 12 m) (fun _ => h) n)
theorem ev_isle (σ : mS) {W H m ps : Nat} {p : Nat → Nat} (I : GR σ W H) (hp : PL σ (W * H) ps p) : Ev kX6_settleIsle [xS, mR 10 m] σ (fun r s => r = none ∧ s = isS σ W (W * H) m p (oI (fnF W p (fun c => σ 11 m c = 4) ps (W * H)).1) ps) := by
  have I0 := I
  have hp0 := hp
  obtain ⟨⟨hW, hW0, hW1⟩, ⟨hH, hH0, hH1⟩, hc, hk⟩ := I
  obtain ⟨hps, hle, hpp⟩ := hp
  have hN := gr_le hW1 hH1
  refine Ev.intro fun G hG => hG.run ?_
  have hcall := ev_fastNear σ (m := m) (lo := 0) (n := ps) I0 hp0 (by omega)
  have e0 : (fun j => p (0 + j)) = p := by funext j; rw [Nat.zero_add]
  rw [e0, Nat.zero_add, ← hps] at hcall
  refine call_of hcall ?_
  generalize oI (fnF W p (fun c => σ 11 m c = 4) ps (W * H)).1 = h at hG ⊢
  have key := loop_up (G := G) 13 ps (fun i => [some xS, some (mR 10 m), some (mI h), some (mI (nI i))]) (fun i => isS σ W (W * H) m p h i) ?_ ?_ 0 (by omega)
  · have key : G 13 [some xS, some (mR 10 m), some (mI h), some (mI (nI 0))] [] (mput (mput σ 11 m (lsU p (σ 11 m) (fun _ => 3) 0)) 12 m (lsU p (σ 12 m) (fun _ => h) 0)) := key
    rw [lsU_0, lsU_0, mput_self, mput_self] at key
    exact key
  · intro i hi ih
    obtain ⟨hpi, epi⟩ := hpp i hi
    have ih : G 13 [some xS, some (mR 10 m), some (mI h), some (mI (nI (i + 1)))] [] (mput (mput σ 11 m (lsU p (σ 11 m) (fun _ => 3) (i + 1))) 12 m (lsU p (σ 12 m) (fun _ => h) (i + 1))) := ih
    rw [← lsU_s, ← lsU_s, ← put2 σ m (lsU p (σ 11 m) (fun _ => 3) i) (lsU p (σ 12 m) (fun _ => h) i), ← nI_1] at ih
    have e4 : isS σ W (W * H) m p h i 11 m = lsU p (σ 11 m) (fun _ => 3) i := by
      show mput σ 11 m _ 11 m = _
      rw [mput_eq]
    have e6 : isS σ W (W * H) m p h i 12 m = lsU p (σ 12 m) (fun _ => h) i := by
      show mput _ 12 m _ 12 m = _
      rw [mput_eq]
    refine hG.run (br_f ?_ ?_)
    · show ¬ σ 4 0 3 ≤ nI i
      rw [hps]; exact nI_ge hi (by omega)
    · have v1 : vp_in (nI i) 144 := vp_in_nI (by omega) (by omega)
      have v2 : vp_in (σ 6 0 (nI i).toNatClampNeg) 144 := by rw [nI_cl (by omega), epi]; exact vp_in_nI (by omega) (by omega)
      have e2 : (σ 6 0 (nI i).toNatClampNeg).toNatClampNeg = p i := by rw [nI_cl (by omega), epi]; exact nI_cl (by omega)
      refine And.intro v1 (And.intro v2 (And.intro v1 (And.intro v2 ?_)))
      show G 13 [some xS, some (mR 10 m), some (mI h), some (mI (nI i + 1))] [] (mput (mput (isS σ W (W * H) m p h i) 11 m (upd (isS σ W (W * H) m p h i 11 m) (σ 6 0 (nI i).toNatClampNeg).toNatClampNeg 3)) 12 m (upd (isS σ W (W * H) m p h i 12 m) (σ 6 0 (nI i).toNatClampNeg).toNatClampNeg h))
      rw [e2, e4, e6]
      exact ih
  · refine hG.run (br_t ?_ ⟨rfl, rfl⟩)
    show σ 4 0 3 ≤ nI ps
    rw [hps]; exact Int32.le_refl _
