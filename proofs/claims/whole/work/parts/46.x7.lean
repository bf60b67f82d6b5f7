/-! CLASS: counting and sorting parts -/
theorem emb_le {W a b : Nat} (h0 : 0 < W) (h1 : W ≤ 12) : emb W a ≤ emb W b ↔ a ≤ b := by
  constructor
  · intro h
    by_cases q : a ≤ b
    · exact q
    · have := emb_mono h0 h1 (k := b) (k' := a) (by omega)
      omega
  · intro h
    by_cases q : a = b
    · subst q; exact Nat.le_refl _
    · have := emb_mono h0 h1 (k := a) (k' := b) (by omega)
      omega
theorem lab_emb {W H : Nat} {S : Nat → Prop} (hS : ∀ c, S c → onP W H c) {e : Nat} (h : S e) : ∃ f, f < W * H ∧ lab S e = emb W f :=
  ⟨une W (lab S e), une_lt (hS _ (lab_in h)), (emb_une (hS _ (lab_in h))).symm⟩
theorem lab_nxt {W H : Nat} (h0 : 0 < W) (h1 : W ≤ 12) {S : Nat → Prop} (hS : ∀ c, S c → onP W H c) {e c : Nat} (h : S e) : emb W (c + 1) ≤ lab S e ↔ emb W c ≤ lab S e ∧ ¬ lab S e = emb W c := by
  obtain ⟨f, hf, q⟩ := lab_emb hS h
  rw [q, emb_le h0 h1, emb_le h0 h1]
  constructor
  · intro r
    refine ⟨by omega, fun t => ?_⟩
    have := emb_inj h0 h1 t
    omega
  · rintro ⟨r, t⟩
    have : f ≠ c := fun u => t (by rw [u])
    omega
/-- the cells still to be gathered ahead of cell c -/
def OP (W N c : Nat) (S : Nat → Prop) (op : Nat → Int32) : Prop := ∀ k, k < N → op k = b2i (S (emb W k) ∧ emb W c ≤ lab S (emb W k))
theorem op_root {W N c : Nat} {S : Nat → Prop} {op : Nat → Int32} (h : OP W N c S op) (hc : c < N) : op c ≠ 0 ↔ (S (emb W c) ∧ lab S (emb W c) = emb W c) := by
  rw [h c hc]
  have hl := lab_le S (emb W c)
  constructor
  · intro q
    have q := b_t q
    exact ⟨q.1, by have := q.2; omega⟩
  · intro q r
    exact b_f r ⟨q.1, by have := q.2; omega⟩
theorem op_set {W H : Nat} {S : Nat → Prop} (hS : ∀ c, S c → onP W H c) {op : Nat → Int32} {c : Nat} (h : OP W (W * H) c S op) (hr : S (emb W c) ∧ lab S (emb W c) = emb W c) {e : Nat} (he : e < W * H) : (op e ≠ 0 ∧ conn (opS W (W * H) op) (emb W c) (emb W e)) ↔ (S (emb W e) ∧ lab S (emb W e) = emb W c) := by
  constructor
  · rintro ⟨h1, h2⟩
    rw [h e he] at h1
    refine ⟨(b_t h1).1, ?_⟩
    have h3 : conn S (emb W c) (emb W e) := fun P p0 ps => h2 P p0 (fun a b pa ⟨ka, hka, ea, oa⟩ ⟨kb, hkb, eb, ob⟩ hab => by
      rw [h ka hka] at oa
      rw [h kb hkb] at ob
      have sa := (b_t oa).1
      have sb := (b_t ob).1
      rw [← ea] at sa
      rw [← eb] at sb
      exact ps a b pa sa sb hab)
    rw [← lab_eq h3, hr.2]
  · rintro ⟨h1, h2⟩
    refine ⟨?_, ?_⟩
    · rw [h e he]
      intro q
      exact b_f q ⟨h1, by omega⟩
    · have h3 : conn S (emb W c) (emb W e) := by
        have := lab_conn S (emb W e)
        rw [h2] at this
        exact conn_sy this
      have mem : ∀ a, S a → conn S (emb W c) a → opS W (W * H) op a := fun a sa ca => ⟨une W a, une_lt (hS a sa), (emb_une (hS a sa)).symm, by
        rw [h _ (une_lt (hS a sa)), emb_une (hS a sa)]
        intro q
        refine b_f q ⟨sa, ?_⟩
        rw [← lab_eq ca, hr.2]
        exact Nat.le_refl _⟩
      exact (h3 (fun y => conn (opS W (W * H) op) (emb W c) y ∧ conn S (emb W c) y) ⟨conn_rf, conn_rf⟩ (fun a b ⟨pa, ca⟩ sa sb hab =>
        have cb := conn_st ca sa sb hab
        ⟨conn_st pa (mem a sa ca) (mem b sb cb) hab, cb⟩)).1
theorem op_next {W H : Nat} (h0 : 0 < W) (h1 : W ≤ 12) {S : Nat → Prop} (hS : ∀ c, S c → onP W H c) {op op' pt : Nat → Int32} {c ps : Nat} (h : OP W (W * H) c S op) (hr : S (emb W c) ∧ lab S (emb W c) = emb W c) (hq : gQ W (W * H) c op op' pt ps) : OP W (W * H) (c + 1) S op' := by
  intro k hk
  obtain ⟨-, -, -, q1, q2⟩ := hq
  have hs := op_set hS h hr hk
  by_cases hi : inl pt ps k
  · rw [(q2 k hk).1 hi, b2i_f]
    rintro ⟨r1, r2⟩
    have := hs.mp ((q1 k hk).mp hi)
    exact ((lab_nxt h0 h1 hS r1).mp r2).2 this.2
  · rw [(q2 k hk).2 hi, h k hk]
    refine b2i_c ⟨fun r => ⟨r.1, (lab_nxt h0 h1 hS r.1).mpr ⟨r.2, fun t => hi ((q1 k hk).mpr (hs.mpr ⟨r.1, t⟩))⟩⟩, fun r => ⟨r.1, ((lab_nxt h0 h1 hS r.1).mp r.2).1⟩⟩
theorem op_skip {W H : Nat} (h0 : 0 < W) (h1 : W ≤ 12) {S : Nat → Prop} (hS : ∀ c, S c → onP W H c) {op : Nat → Int32} {c : Nat} (h : OP W (W * H) c S op) (hr : ¬ (S (emb W c) ∧ lab S (emb W c) = emb W c)) : OP W (W * H) (c + 1) S op := by
  intro k hk
  rw [h k hk]
  refine b2i_c ⟨fun r => ⟨r.1, (lab_nxt h0 h1 hS r.1).mpr ⟨r.2, fun t => hr ?_⟩⟩, fun r => ⟨r.1, ((lab_nxt h0 h1 hS r.1).mp r.2).1⟩⟩
  have h2 := lab_in r.1
  rw [t] at h2
  refine ⟨h2, ?_⟩
  rw [← t, lab_lab]
def FS (σ s : mS) : Prop := ∀ g i, g ≠ 4 → g ≠ 5 → g ≠ 6 → s g i = σ g i
theorem FS.rf {σ : mS} : FS σ σ := fun _ _ _ _ _ => rfl
theorem FS.tr {σ s t : mS} (h1 : FS σ s) (h2 : FS s t) : FS σ t := fun g i a b c => (h2 g i a b c).trans (h1 g i a b c)
theorem FS.g {σ : mS} (op pt : Nat → Int32) (ps : Nat) : FS σ (gst σ op pt ps) := fun g i a b c => by
  unfold gst
  rw [mput_ng _ _ _ _ a, mput_ng _ _ _ _ c, mput_ng _ _ _ _ b]
theorem GR.fr {σ s : mS} {W H : Nat} (I : GR σ W H) (h1 : s 1 0 = σ 1 0) (h2 : s 2 0 = σ 2 0) (h3 : s 3 0 = σ 3 0) : GR s W H := by
  unfold GR at I ⊢
  rw [h1, h2, h3]
  exact I
theorem FS.gr {σ s : mS} {W H : Nat} (h : FS σ s) (I : GR σ W H) : GR s W H := I.fr (h 1 0 (by decide) (by decide) (by decide)) (h 2 0 (by decide) (by decide) (by decide)) (h 3 0 (by decide) (by decide) (by decide))
noncomputable def ptX (W : Nat) (S : Nat → Prop) (n : Nat) : Int32 := fo (fun k acc => acc + b2i (S (emb W k) ∧ lab S (emb W k) = emb W k)) 0 n
theorem ptX_L {W H : Nat} (hW1 : W ≤ 12) (hH1 : H ≤ 12) {S : Nat → Prop} (hS : ∀ c, S c → onP W H c) : ptX W S (W * H) = ptL S 144 := by
  unfold ptL
  rw [fo_emb hW1 hH1]
  · rfl
  · intro c _ hno x
    rw [b2i_f (fun q => hno (hS c q.1)), Int32.add_zero]
theorem op_first {W N : Nat} {S : Nat → Prop} {op g : Nat → Int32} (h : ∀ k, k < N → g k = b2i (S (emb W k))) : OP W N 0 S (cpy op g N) := by
  intro k hk
  rw [cpy_in hk, h k hk]
  refine b2i_c ⟨fun q => ⟨q, ?_⟩, fun q => q.1⟩
  have : emb W 0 = 0 := by unfold emb; simp
  rw [this]
  exact Nat.zero_le _
theorem ev_dryParts (σ : mS) {W H m : Nat} {S : Nat → Prop} (I : GR σ W H) (hS : ∀ c, S c → onP W H c) (hk : ∀ k, k < W * H → (2 ≤ σ 11 m k ↔ S (emb W k))) : Ev kX6_dryParts [xS, mR 10 m] σ (fun r s => r = some (mI (ptL S 144)) ∧ FS σ s) := by
  have I0 := I
  obtain ⟨⟨hW, hW0, hW1⟩, ⟨hH, hH0, hH1⟩, hc, hkk⟩ := I
  have hN := gr_le hW1 hH1
  rw [← ptX_L hW1 hH1 hS]
  refine Ev.intro fun G hG => hG.run ?_
  have second : ∀ n c s, c + n = W * H → FS σ s → OP W (W * H) c S (s 5 0) → G 34 [some xS, some (mR 10 m), some (mI (ptX W S c)), some (mI (nI c))] [] s := by
    intro n
    induction n with
    | zero =>
      intro c s hcn hf ho
      have : c = W * H := by omega
      subst this
      refine hG.run (br_t ?_ ⟨rfl, hf⟩)
      show s 1 0 2 ≤ nI (W * H)
      rw [hf 1 0 (by decide) (by decide) (by decide), hc]; exact Int32.le_refl _
    | succ n ih =>
      intro c s hcn hf ho
      have e : ptX W S (c + 1) = ptX W S c + b2i (S (emb W c) ∧ lab S (emb W c) = emb W c) := rfl
      refine hG.run (br_f ?_ ?_)
      · show ¬ s 1 0 2 ≤ nI c
        rw [hf 1 0 (by decide) (by decide) (by decide), hc]; exact nI_ge (by omega) (by omega)
      · refine And.intro (vp_in_nI (by omega) (by omega)) ?_
        rw [nI_cl (by omega)]
        refine And.intro (fun c1 => ?_) (fun c1 => ?_)
        · replace c1 : s 5 0 c = 0 := c1
          have hr : ¬ (S (emb W c) ∧ lab S (emb W c) = emb W c) := fun q => (op_root ho (by omega)).mpr q c1
          have h5 := ih (c + 1) s (by omega) hf (op_skip hW0 hW1 hS ho hr)
          rw [e, b2i_f hr, Int32.add_zero, ← nI_1] at h5
          exact h5
        · replace c1 : s 5 0 c ≠ 0 := c1
          have hr := (op_root ho (by omega)).mp c1
          refine call_ex (ev_gather s (hf.gr I0) (f := c) (by omega) c1) ?_
          rintro r s' ⟨rfl, op, pt, ps, rfl, hq⟩
          have h5 := ih (c + 1) (gst s op pt ps) (by omega) (hf.tr (FS.g op pt ps)) (op_next hW0 hW1 hS ho hr hq)
          rw [e, b2i_t hr, ← nI_1] at h5
          exact h5
  have key := loop_up (G := G) 2 (W * H) (fun i => [some xS, some (mR 10 m), some (mI (nI i)), none]) (fun i => mput σ 5 0 (cpy (σ 5 0) (fun k => b2i (2 ≤ σ 11 m k)) i)) ?_ ?_ 0 (by omega)
  · rw [cpy_0, mput_self] at key
    exact key
  · intro i hi ih
    refine hG.run (br_f ?_ ?_)
    · show ¬ σ 1 0 2 ≤ nI i
      rw [hc]; exact nI_ge hi (by omega)
    · refine call_of (ev_isDry _ (m := m) (k := i) (by omega)) ?_
      refine And.intro (vp_in_nI (by omega) (by omega)) ?_
      rw [nI_cl (by omega), b2i_and]
      rw [← cpy_s, ← mput_mput σ 5 0 (cpy (σ 5 0) (fun k => b2i (2 ≤ σ 11 m k)) i), ← nI_1] at ih
      exact ih
  · refine hG.run (br_t ?_ ?_)
    · show σ 1 0 2 ≤ nI (W * H)
      rw [hc]; exact Int32.le_refl _
    · refine second (W * H) 0 _ (by omega) (fun g i _ a _ => by rw [mput_ng _ _ _ _ a]) ?_
      exact op_first (fun k hk' => b2i_c (hk k hk'))
def FT (σ : mS) (m : Nat) (s : mS) : Prop := (∀ g i, g ≠ 4 → g ≠ 5 → g ≠ 6 → (i = m → g ≠ 10 ∧ g ≠ 11 ∧ g ≠ 12) → s g i = σ g i) ∧ ∀ j, j ≠ 4 → j ≠ 5 → s 10 m j = σ 10 m j
theorem FT.gr {σ s : mS} {m W H : Nat} (h : FT σ m s) (I : GR σ W H) : GR s W H := I.fr (h.1 1 0 (by decide) (by decide) (by decide) (fun _ => by decide)) (h.1 2 0 (by decide) (by decide) (by decide) (fun _ => by decide)) (h.1 3 0 (by decide) (by decide) (by decide) (fun _ => by decide))
theorem FT.put {σ s : mS} {m : Nat} (h : FT σ m s) {g : Nat} (f : Nat → Int32) (hg : g = 11 ∨ g = 12) : FT σ m (mput s g m f) := by
  refine ⟨fun g' i a b c d => ?_, fun j a b => ?_⟩
  · rw [mput_ne, h.1 g' i a b c d]
    by_cases hi : i = m
    · have := d hi
      left
      rcases hg with rfl | rfl
      · exact this.2.1
      · exact this.2.2
    · exact Or.inr hi
  · rw [mput_ng _ _ _ _ (by omega), h.2 j a b]
theorem FT.ct {σ s : mS} {m : Nat} (h : FT σ m s) (j : Nat) (v : Int32) (hj : j = 4 ∨ j = 5) : FT σ m (mput s 10 m (upd (s 10 m) j v)) := by
  refine ⟨fun g' i a b c d => ?_, fun j' a b => ?_⟩
  · rw [mput_ne, h.1 g' i a b c d]
    by_cases hi : i = m
    · exact Or.inl (d hi).1
    · exact Or.inr hi
  · rw [mput_eq, upd_ne _ _ (by omega), h.2 j' a b]
theorem FT.g {σ s : mS} {m : Nat} (h : FT σ m s) (op pt : Nat → Int32) (ps : Nat) : FT σ m (gst s op pt ps) := by
  refine ⟨fun g i a b c d => ?_, fun j a b => ?_⟩
  · rw [FS.g op pt ps g i a b c, h.1 g i a b c d]
  · rw [FS.g op pt ps 10 m (by decide) (by decide) (by decide), h.2 j a b]
