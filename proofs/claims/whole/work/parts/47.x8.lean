/-! CLASS: sorting the new parts -/
/-- kinds and heirs when the parts ahead of cell c are settled -/
def KH (W N c : Nat) (kM kd0 kd he : Nat → Int32) : Prop := ∀ k, k < N →
  (¬ (newP kM (emb W k) ∧ lab (newP kM) (emb W k) < emb W c) → kd k = kd0 k) ∧
  (newP kM (emb W k) → lab (newP kM) (emb W k) < emb W c → (shoreP kM (emb W k) → kd k = 2 ∧ HR W N (he k) (nrF kM (emb W k) 144)) ∧ (¬ shoreP kM (emb W k) → kd k = 3 ∧ HR W N (he k) (heirI kM (emb W k))))
theorem KH_4 {W N c : Nat} (h0 : 0 < W) (h1 : W ≤ 12) (hN : N ≤ 144) {kM kd0 kd he : Nat → Int32} (hK : KC W N kd0 kM) (h : KH W N c kM kd0 kd he) {k : Nat} (hk : k < N) : kd k = 4 ↔ kM (emb W k) = 0 := by
  by_cases hn : newP kM (emb W k) ∧ lab (newP kM) (emb W k) < emb W c
  · have h2 : kM (emb W k) = 2 := hn.1.2
    have h3 := (h k hk).2 hn.1 hn.2
    have h4 : kd k = 2 ∨ kd k = 3 := by
      by_cases hs : shoreP kM (emb W k)
      · exact Or.inl (h3.1 hs).1
      · exact Or.inr (h3.2 hs).1
    rw [h2]
    constructor
    · intro q
      rw [q] at h4
      exact h4.elim (fun r => absurd r (by decide)) (fun r => absurd r (by decide))
    · intro q; exact absurd q (by decide)
  · rw [(h k hk).1 hn]
    exact (hK k hk).1
theorem KH_next {W H c : Nat} (h0 : 0 < W) (h1 : W ≤ 12) {kM kd0 kd he kd' he' : Nat → Int32} (hS : ∀ c, newP kM c → onP W H c) (h : KH W (W * H) c kM kd0 kd he)
    (hin : ∀ k, k < W * H → newP kM (emb W k) → lab (newP kM) (emb W k) = emb W c → (shoreP kM (emb W k) → kd' k = 2 ∧ HR W (W * H) (he' k) (nrF kM (emb W k) 144)) ∧ (¬ shoreP kM (emb W k) → kd' k = 3 ∧ HR W (W * H) (he' k) (heirI kM (emb W k))))
    (hout : ∀ k, k < W * H → ¬ (newP kM (emb W k) ∧ lab (newP kM) (emb W k) = emb W c) → kd' k = kd k ∧ he' k = he k) : KH W (W * H) (c + 1) kM kd0 kd' he' := by
  intro k hk
  refine ⟨fun hn => ?_, fun hn hl => ?_⟩
  · have hno : ¬ (newP kM (emb W k) ∧ lab (newP kM) (emb W k) = emb W c) := fun q => hn ⟨q.1, by rw [q.2]; exact emb_mono h0 h1 (by omega)⟩
    rw [(hout k hk hno).1]
    refine (h k hk).1 (fun q => hn ⟨q.1, ?_⟩)
    have := emb_mono h0 h1 (k := c) (k' := c + 1) (by omega)
    have := q.2
    omega
  · by_cases he : lab (newP kM) (emb W k) = emb W c
    · exact hin k hk hn he
    · obtain ⟨e1, e2⟩ := hout k hk (fun q => he q.2)
      rw [e1, e2]
      refine (h k hk).2 hn ?_
      have := mt (lab_nxt h0 h1 hS (c := c) hn).mpr (by omega)
      by_cases hq : emb W c ≤ lab (newP kM) (emb W k)
      · exact absurd ⟨hq, he⟩ this
      · omega
noncomputable def ilX (W : Nat) (kM : Nat → Int32) (n : Nat) : Int32 := fo (fun k acc => acc + b2i ((newP kM (emb W k) ∧ lab (newP kM) (emb W k) = emb W k) ∧ ¬ shoreP kM (emb W k))) 0 n
theorem ilX_ok {W H : Nat} (hW1 : W ≤ 12) (hH1 : H ≤ 12) {kM : Nat → Int32} (hS : ∀ c, newP kM c → onP W H c) : ilX W kM (W * H) = ptL (newP kM) 144 - shL kM 144 := by
  rw [← ptX_L hW1 hH1 hS]
  have e : shL kM 144 = fo (fun k acc => acc + b2i ((newP kM (emb W k) ∧ lab (newP kM) (emb W k) = emb W k) ∧ shoreP kM (emb W k))) 0 (W * H) := by
    unfold shL
    rw [fo_emb hW1 hH1]
    intro c _ hno x
    rw [b2i_f (fun q => hno (hS c q.1.1)), Int32.add_zero]
  rw [e]
  have key : ∀ n, ptX W (newP kM) n = ilX W kM n + fo (fun k acc => acc + b2i ((newP kM (emb W k) ∧ lab (newP kM) (emb W k) = emb W k) ∧ shoreP kM (emb W k))) 0 n := by
    intro n
    induction n with
    | zero => rfl
    | succ n ih =>
      have e1 : ptX W (newP kM) (n + 1) = ptX W (newP kM) n + b2i (newP kM (emb W n) ∧ lab (newP kM) (emb W n) = emb W n) := rfl
      have e2 : ilX W kM (n + 1) = ilX W kM n + b2i ((newP kM (emb W n) ∧ lab (newP kM) (emb W n) = emb W n) ∧ ¬ shoreP kM (emb W n)) := rfl
      rw [e1, e2, fo_succ, ih]
      by_cases hr : newP kM (emb W n) ∧ lab (newP kM) (emb W n) = emb W n
      · by_cases hs : shoreP kM (emb W n)
        · rw [b2i_t hr, b2i_f (fun q => q.2 hs), b2i_t ⟨hr, hs⟩, Int32.add_zero, Int32.add_assoc]
        · rw [b2i_t hr, b2i_t ⟨hr, hs⟩, b2i_f (fun q => hs q.2), Int32.add_zero, Int32.add_assoc, Int32.add_assoc, Int32.add_comm 1]
      · rw [b2i_f hr, b2i_f (fun q => hr q.1), b2i_f (fun q => hr q.1), Int32.add_zero, Int32.add_zero, Int32.add_zero]
  rw [key, Int32.add_sub_cancel]
def SI (σ : mS) (W N m c : Nat) (kM : Nat → Int32) (s : mS) : Prop := FT σ m s ∧ OP W N c (newP kM) (s 5 0) ∧ KH W N c kM (σ 11 m) (s 11 m) (s 12 m) ∧ s 10 m 4 = ptX W (newP kM) c ∧ s 10 m 5 = ilX W kM c
theorem prt_iff {kM : Nat → Int32} {c e : Nat} (hr : lab (newP kM) c = c) : prtP kM c e ↔ (newP kM e ∧ lab (newP kM) e = c) := by
  unfold prtP
  rw [hr]
theorem shore_at {kM : Nat → Int32} {c e : Nat} (h : lab (newP kM) e = c) : shoreP kM e ↔ shoreP kM c := by
  rw [← h]
  exact (shore_lab e).symm
theorem heir_at {kM : Nat → Int32} {c e : Nat} (h : lab (newP kM) e = c) : heirI kM e = heirI kM c := by
  rw [← h]
  exact (heir_lab e).symm
theorem by_shore {W H c ps : Nat} (hW0 : 0 < W) (hW1 : W ≤ 12) (hH1 : H ≤ 12) {kM kd : Nat → Int32} {p : Nat → Nat} (h4 : ∀ k, k < W * H → (kd k = 4 ↔ kM (emb W k) = 0)) (hoff : ∀ c, c < 144 → ¬ onP W H c → kM c = -1) (hS : ∀ c, newP kM c → onP W H c) (hr : lab (newP kM) (emb W c) = emb W c) (hp : ∀ j, j < ps → p j < W * H)
    (hlist : ∀ k, k < W * H → ((∃ j, j < ps ∧ p j = k) ↔ (newP kM (emb W k) ∧ lab (newP kM) (emb W k) = emb W c))) : (∃ j, j < ps ∧ bfP W (W * H) kd (p j)) ↔ shoreP kM (emb W c) := by
  constructor
  · rintro ⟨j, hj, e, he, ha, hf⟩
    exact ⟨emb W (p j), (prt_iff hr).mpr ((hlist (p j) (hp j hj)).mp ⟨j, hj, rfl⟩), emb W e, emb_lt hW0 hW1 hH1 he, (h4 e he).mp hf, ha⟩
  · rintro ⟨x, hx, d, hd, hkd, hadj⟩
    have hx := (prt_iff hr).mp hx
    have hxo := hS x hx.1
    have hdo : onP W H d := Classical.byContradiction fun q => by
      rw [hoff d hd q] at hkd
      exact absurd hkd (by decide)
    obtain ⟨j, hj, hpj⟩ := (hlist (une W x) (une_lt hxo)).mpr (by rw [emb_une hxo]; exact hx)
    refine ⟨j, hj, une W d, une_lt hdo, ?_, (h4 _ (une_lt hdo)).mpr (by rw [emb_une hdo]; exact hkd)⟩
    rw [hpj, emb_une hxo, emb_une hdo]
    exact hadj
theorem ev_sortParts (σ : mS) {W H m : Nat} {kM : Nat → Int32} (I : GR σ W H) (hK : KC W (W * H) (σ 11 m) kM) (hoff : ∀ c, c < 144 → ¬ onP W H c → kM c = -1) : Ev kX6_sortParts [xS, mR 10 m] σ (fun r s => r = none ∧ SI σ W (W * H) m (W * H) kM s) := by
  have I0 := I
  obtain ⟨⟨hW, hW0, hW1⟩, ⟨hH, hH0, hH1⟩, hc, hkk⟩ := I
  have hN := gr_le hW1 hH1
  have hS : ∀ c, newP kM c → onP W H c := fun c h => Classical.byContradiction fun q => by
    have := h.2
    rw [hoff c h.1 q] at this
    exact absurd this (by decide)
  refine Ev.intro fun G hG => hG.run ?_
  have second : ∀ n c s, c + n = W * H → SI σ W (W * H) m c kM s → G 42 [some xS, some (mR 10 m), some (mI (nI c))] [] s := by
    intro n
    induction n with
    | zero =>
      intro c s hcn hs
      have : c = W * H := by omega
      subst this
      refine hG.run (br_t ?_ ⟨rfl, hs⟩)
      show s 1 0 2 ≤ nI (W * H)
      rw [hs.1.1 1 0 (by decide) (by decide) (by decide) (fun _ => by decide), hc]; exact Int32.le_refl _
    | succ n ih =>
      intro c s hcn hs
      obtain ⟨hf, ho, hkh, hp4, hp5⟩ := hs
      have e : ptX W (newP kM) (c + 1) = ptX W (newP kM) c + b2i (newP kM (emb W c) ∧ lab (newP kM) (emb W c) = emb W c) := rfl
      have e' : ilX W kM (c + 1) = ilX W kM c + b2i ((newP kM (emb W c) ∧ lab (newP kM) (emb W c) = emb W c) ∧ ¬ shoreP kM (emb W c)) := rfl
      refine hG.run (br_f ?_ ?_)
      · show ¬ s 1 0 2 ≤ nI c
        rw [hf.1 1 0 (by decide) (by decide) (by decide) (fun _ => by decide), hc]; exact nI_ge (by omega) (by omega)
      · refine And.intro (vp_in_nI (by omega) (by omega)) ?_
        rw [nI_cl (by omega)]
        refine And.intro (fun c1 => ?_) (fun c1 => ?_)
        · replace c1 : s 5 0 c = 0 := c1
          have hr : ¬ (newP kM (emb W c) ∧ lab (newP kM) (emb W c) = emb W c) := fun q => (op_root ho (by omega)).mpr q c1
          have h5 := ih (c + 1) s (by omega) ⟨hf, op_skip hW0 hW1 hS ho hr, KH_next hW0 hW1 hS hkh (fun k hk q1 q2 => absurd ?_ hr) (fun k hk _ => ⟨rfl, rfl⟩), by rw [e, b2i_f hr, Int32.add_zero, hp4], by rw [e', b2i_f (fun q => hr q.1), Int32.add_zero, hp5]⟩
          · rw [← nI_1] at h5
            exact h5
          · have h2 := lab_in q1
            rw [q2] at h2
            refine ⟨h2, ?_⟩
            rw [← q2, lab_lab]
        · replace c1 : s 5 0 c ≠ 0 := c1
          have hr := (op_root ho (by omega)).mp c1
          refine call_ex (ev_gather s (hf.gr I0) (f := c) (by omega) c1) ?_
          rintro r s' ⟨rfl, op, pt, ps, rfl, hq⟩
          have hon := op_next hW0 hW1 hS ho hr hq
          have hset := fun {e : Nat} (he : e < W * H) => ((hq.2.2.2.1 e he).trans (op_set hS ho hr he))
          have hpt : ∀ j, j < ps → (pt j).toNatClampNeg < W * H ∧ pt j = nI (pt j).toNatClampNeg := fun j hj => by
            obtain ⟨x, hx, hxe⟩ := hq.2.2.1 j hj
            rw [hxe, nI_cl (by omega)]
            exact ⟨hx, rfl⟩
          have hlist : ∀ k, k < W * H → ((∃ j, j < ps ∧ (pt j).toNatClampNeg = k) ↔ (newP kM (emb W k) ∧ lab (newP kM) (emb W k) = emb W c)) := fun k hk => by
            rw [← hset hk]
            constructor
            · rintro ⟨j, hj, rfl⟩
              exact ⟨j, hj, (hpt j hj).2⟩
            · rintro ⟨j, hj, q⟩
              exact ⟨j, hj, by rw [q]; exact nI_cl (by omega)⟩
          -- the counted part
          have hf2 := (hf.g op pt ps).ct 4 (s 10 m 4 + 1) (Or.inl rfl)
          have hcall := ev_byFast (mput (gst s op pt ps) 10 m (upd (s 10 m) 4 (s 10 m 4 + 1))) (m := m) (ps := ps) (p := fun j => (pt j).toNatClampNeg) (hf2.gr I0) ⟨rfl, hq.2.1, hpt⟩
          refine call_of hcall ?_
          have h4 : ∀ k, k < W * H → (s 11 m k = 4 ↔ kM (emb W k) = 0) := fun k hk => KH_4 hW0 hW1 hN hK hkh hk
          have hA := by_shore hW0 hW1 hH1 h4 hoff hS hr.2 (fun j hj => (hpt j hj).1) hlist
          have hpl : ∀ j, j < ps → newP kM (emb W (pt j).toNatClampNeg) := fun j hj => ((hlist _ (hpt j hj).1).mp ⟨j, hj, rfl⟩).1
          refine And.intro (fun c2 => ?_) (fun c2 => ?_)
          · have c2 : ¬ shoreP kM (emb W c) := fun q => b_f c2 (hA.mpr q)
            have hf3 := hf2.ct 5 (mput (gst s op pt ps) 10 m (upd (s 10 m) 4 (s 10 m 4 + 1)) 10 m 5 + 1) (Or.inr rfl)
            have hcall := ev_isle _ (m := m) (ps := ps) (p := fun j => (pt j).toNatClampNeg) (hf3.gr I0) ⟨rfl, hq.2.1, hpt⟩
            refine call_of hcall ?_
            have hh := nearP hW0 hW1 hH1 h4 hoff (p := fun j => (pt j).toNatClampNeg) (P := prtP kM (emb W c)) (ps := ps) hq.1 (fun x hx => by
              have hx := (prt_iff hr.2).mp hx
              have hxo := hS x hx.1
              obtain ⟨j, hj, hpj⟩ := (hlist (une W x) (une_lt hxo)).mpr (by rw [emb_une hxo]; exact hx)
              exact ⟨hx.1.1, j, hj, by rw [hpj, emb_une hxo]⟩) (fun j hj => (prt_iff hr.2).mpr ((hlist _ (hpt j hj).1).mp ⟨j, hj, rfl⟩))
            have h5 := ih (c + 1) _ (by omega) ⟨(hf3.put (lsU (fun j => (pt j).toNatClampNeg) (s 11 m) (fun _ => 3) ps) (Or.inl rfl)).put (lsU (fun j => (pt j).toNatClampNeg) (s 12 m) (fun _ => oI (fnF W (fun j => (pt j).toNatClampNeg) (fun c => s 11 m c = 4) ps (W * H)).1) ps) (Or.inr rfl), hon, ?_, ?_, ?_⟩
            · rw [← nI_1] at h5
              exact h5
            · rw [mput_ng _ 12 m _ (show (11 : Nat) ≠ 12 by decide)]
              simp only [mput_eq]
              refine KH_next hW0 hW1 hS hkh (fun k hk q1 q2 => ⟨fun q => absurd ((shore_at q2).mp q) c2, fun _ => ⟨?_, ?_⟩⟩) (fun k hk hno => ⟨?_, ?_⟩)
              · exact ifp_t ((hlist k hk).mpr ⟨q1, q2⟩)
              · rw [show lsU (fun j => (pt j).toNatClampNeg) (s 12 m) (fun _ => oI (fnF W (fun j => (pt j).toNatClampNeg) (fun c => s 11 m c = 4) ps (W * H)).1) ps k = oI (fnF W (fun j => (pt j).toNatClampNeg) (fun c => s 11 m c = 4) ps (W * H)).1 from ifp_t ((hlist k hk).mpr ⟨q1, q2⟩), heir_at q2]
                exact hh
              · exact ifp_f (fun q => hno ((hlist k hk).mp q))
              · exact ifp_f (fun q => hno ((hlist k hk).mp q))
            · rw [mput_ng _ _ _ _ (by decide), mput_ng _ _ _ _ (by decide), mput_eq, upd_ne _ _ (by decide), mput_eq, upd_eq, hp4, e, b2i_t hr]
            · rw [mput_ng _ _ _ _ (by decide), mput_ng _ _ _ _ (by decide), mput_eq, upd_eq, mput_eq, upd_ne _ _ (by decide), hp5, e', b2i_t ⟨hr, c2⟩]
          · have c2 : shoreP kM (emb W c) := hA.mp (b_t c2)
            have hcall := ev_shore (mput (gst s op pt ps) 10 m (upd (s 10 m) 4 (s 10 m 4 + 1))) (m := m) (ps := ps) (p := fun j => (pt j).toNatClampNeg) (hf2.gr I0) ⟨rfl, hq.2.1, hpt⟩ (fun j hj q => by
              have h9 := (h4 _ (hpt j hj).1).mp q
              rw [(hpl j hj).2] at h9
              exact absurd h9 (by decide))
            refine call_of hcall ?_
            have h5 := ih (c + 1) _ (by omega) ⟨(hf2.put (lsU (fun j => (pt j).toNatClampNeg) (s 11 m) (fun _ => 2) ps) (Or.inl rfl)).put (lsU (fun j => (pt j).toNatClampNeg) (s 12 m) (nx W (fun c => s 11 m c = 4) (W * H)) ps) (Or.inr rfl), hon, ?_, ?_, ?_⟩
            · rw [← nI_1] at h5
              exact h5
            · rw [mput_eq, mput_ng _ _ _ _ (by decide), mput_eq]
              refine KH_next hW0 hW1 hS hkh (fun k hk q1 q2 => ⟨fun _ => ⟨?_, ?_⟩, fun q => absurd ((shore_at q2).mpr c2) q⟩) (fun k hk hno => ⟨?_, ?_⟩)
              · exact ifp_t ((hlist k hk).mpr ⟨q1, q2⟩)
              · rw [show lsU (fun j => (pt j).toNatClampNeg) (s 12 m) (nx W (fun c => s 11 m c = 4) (W * H)) ps k = nx W (fun c => s 11 m c = 4) (W * H) k from ifp_t ((hlist k hk).mpr ⟨q1, q2⟩)]
                exact near1 hW0 hW1 hH1 h4 hoff hk
              · exact ifp_f (fun q => hno ((hlist k hk).mp q))
              · exact ifp_f (fun q => hno ((hlist k hk).mp q))
            · rw [mput_ng _ _ _ _ (by decide), mput_ng _ _ _ _ (by decide), mput_eq, upd_eq, hp4, e, b2i_t hr]
            · rw [mput_ng _ _ _ _ (by decide), mput_ng _ _ _ _ (by decide), mput_eq, upd_ne _ _ (by decide), show gst s op pt ps 10 m 5 = s 10 m 5 from rfl, hp5, e', b2i_f (fun q => q.2 c2), Int32.add_zero]
  have key := loop_up (G := G) 12 (W * H) (fun i => [some xS, some (mR 10 m), some (mI (nI i))]) (fun i => mput (mput σ 10 m (upd (upd (σ 10 m) 4 0) 5 0)) 5 0 (cpy (σ 5 0) (fun k => b2i (σ 11 m k = 2 ∨ σ 11 m k = 3)) i)) ?_ ?_ 0 (by omega)
  · rw [cpy_0, show σ 5 0 = mput σ 10 m (upd (upd (σ 10 m) 4 0) 5 0) 5 0 from rfl, mput_self] at key
    show G 12 [some xS, some (mR 10 m), some (mI (nI 0))] [] (mput (mput σ 10 m (upd (σ 10 m) 4 0)) 10 m (upd (mput σ 10 m (upd (σ 10 m) 4 0) 10 m) 5 0))
    rw [mput_eq, mput_mput]
    exact key
  · intro i hi ih
    refine hG.run (br_f ?_ ?_)
    · show ¬ σ 1 0 2 ≤ nI i
      rw [hc]; exact nI_ge hi (by omega)
    · refine call_of (ev_isNew _ (m := m) (k := i) (by omega)) ?_
      refine And.intro (vp_in_nI (by omega) (by omega)) ?_
      rw [nI_cl (by omega), b2i_and]
      rw [← cpy_s, ← mput_mput _ 5 0 (cpy (σ 5 0) (fun k => b2i (σ 11 m k = 2 ∨ σ 11 m k = 3)) i), ← nI_1] at ih
      exact ih
  · refine hG.run (br_t ?_ ?_)
    · show σ 1 0 2 ≤ nI (W * H)
      rw [hc]; exact Int32.le_refl _
    · refine second (W * H) 0 _ (by omega) ⟨⟨fun g i a b _ d => ?_, fun j a b => ?_⟩, op_first (fun k hk' => b2i_c ?_), fun k hk' => ⟨fun _ => rfl, fun _ q => absurd q ?_⟩, ?_, ?_⟩
      · rw [mput_ng _ _ _ _ b, mput_ne]
        by_cases him : i = m
        · exact Or.inl (d him).1
        · exact Or.inr him
      · rw [mput_ng _ _ _ _ (by decide), mput_eq, upd_ne _ _ b, upd_ne _ _ a]
      · rw [(hK k hk').2.2.1]
        exact ⟨fun q => ⟨emb_lt hW0 hW1 hH1 hk', q⟩, fun q => q.2⟩
      · have : emb W 0 = 0 := by unfold emb; simp
        rw [this]
        omega
      · rw [mput_ng _ _ _ _ (by decide), mput_eq]; rfl
      · rw [mput_ng _ _ _ _ (by decide), mput_eq]; rfl
