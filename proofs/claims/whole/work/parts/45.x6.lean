/-! the two ways of counting cells -/
theorem fo_rel {α β : Type} {f : Nat → α → α} {g : Nat → β → β} {a : α} {b : β} (R : α → β → Prop) (h0 : R a b) : ∀ {n : Nat}, (∀ i, i < n → ∀ x y, R x y → R (f i x) (g i y)) → R (fo f a n) (fo g b n)
  | 0, _ => h0
  | n + 1, h => h n (by omega) _ _ (fo_rel R h0 (fun i hi => h i (by omega)))
theorem fo_stay {α : Type} {f : Nat → α → α} {a : α} {m : Nat} : ∀ {n : Nat}, (∀ i, m ≤ i → i < m + n → ∀ x, f i x = x) → fo f a (m + n) = fo f a m
  | 0, _ => rfl
  | n + 1, h => by
    show f (m + n) (fo f a (m + n)) = _
    rw [h (m + n) (by omega) (by omega)]
    exact fo_stay (fun i h1 h2 => h i h1 (by omega))
theorem fo_emb {α : Type} {f : Nat → α → α} {a : α} {W H : Nat} (hW1 : W ≤ 12) (hH1 : H ≤ 12) (hoff : ∀ c, c < 144 → ¬ onP W H c → ∀ x, f c x = x) : fo f a 144 = fo (fun k => f (emb W k)) a (W * H) := by
  have row : ∀ y, y < H → fo f a (12 * y) = fo (fun k => f (emb W k)) a (y * W) → ∀ x, x ≤ W → fo f a (12 * y + x) = fo (fun k => f (emb W k)) a (y * W + x) := by
    intro y hy h0 x
    induction x with
    | zero => intro _; exact h0
    | succ x ih =>
      intro hx
      show f (12 * y + x) (fo f a (12 * y + x)) = f (emb W (y * W + x)) (fo (fun k => f (emb W k)) a (y * W + x))
      rw [ih (by omega), emb_at (by omega)]
  have all : ∀ y, y ≤ H → fo f a (12 * y) = fo (fun k => f (emb W k)) a (y * W) := by
    intro y
    induction y with
    | zero => intro _; rw [Nat.zero_mul]; rfl
    | succ y ih =>
      intro hy
      have h1 := row y (by omega) (ih (by omega)) W (Nat.le_refl _)
      have h2 : fo f a (12 * y + W + (12 - W)) = fo f a (12 * y + W) := fo_stay (fun i hi hi2 x => hoff i (by omega) (fun q => by
        have := q.1
        omega) x)
      rw [show 12 * (y + 1) = 12 * y + W + (12 - W) by omega, h2, h1, Nat.succ_mul]
  have h3 : fo f a (12 * H + (144 - 12 * H)) = fo f a (12 * H) := fo_stay (fun i hi hi2 x => hoff i (by omega) (fun q => by
    have := q.2
    omega) x)
  rw [show 144 = 12 * H + (144 - 12 * H) by omega, h3, all H (Nat.le_refl _), Nat.mul_comm]
/-- an heir as the class holds it -/
def HR (W N : Nat) (v : Int32) (b : Option Nat) : Prop := (b = none ∧ v = -1) ∨ ∃ e, e < N ∧ b = some (emb W e) ∧ v = nI e
theorem near1 {W H : Nat} (hW0 : 0 < W) (hW1 : W ≤ 12) (hH1 : H ≤ 12) {Q : Nat → Prop} {kM : Nat → Int32} (hQ : ∀ k, k < W * H → (Q k ↔ kM (emb W k) = 0)) (hoff : ∀ c, c < 144 → ¬ onP W H c → kM c = -1) {k0 : Nat} (hk0 : k0 < W * H) : HR W (W * H) (nx W Q (W * H) k0) (nrF kM (emb W k0) 144) := by
  have e : nrF kM (emb W k0) 144 = fo (fun k b => ifp (kM (emb W k) = 0 ∧ (∀ e, b = some e → awF (emb W k0) (emb W k) < awF (emb W k0) e)) (some (emb W k)) b) none (W * H) := by
    unfold nrF
    rw [fo_emb hW1 hH1]
    intro c hc hno x
    exact ifp_f (fun q => by have := q.1; rw [hoff c hc hno] at this; exact absurd this (by decide))
  rw [e]
  have key : (fun (st : Option Nat × Nat) (b : Option Nat) => (b = none ∧ st = (none, 24)) ∨ ∃ e, e < W * H ∧ b = some (emb W e) ∧ st = (some e, awF (emb W k0) (emb W e))) (fnF W (fun _ => k0) Q 1 (W * H)) (fo (fun k b => ifp (kM (emb W k) = 0 ∧ (∀ e, b = some e → awF (emb W k0) (emb W k) < awF (emb W k0) e)) (some (emb W k)) b) none (W * H)) := by
    unfold fnF
    refine fo_rel (fun (st : Option Nat × Nat) (b : Option Nat) => (b = none ∧ st = (none, 24)) ∨ ∃ e, e < W * H ∧ b = some (emb W e) ∧ st = (some e, awF (emb W k0) (emb W e))) (Or.inl ⟨rfl, rfl⟩) ?_
    intro i hi st b h
    have hle := awF_le (emb_lt hW0 hW1 hH1 hi) (emb_lt hW0 hW1 hH1 hk0)
    have hcm := awF_comm (emb W i) (emb W k0)
    by_cases hq : Q i
    · rw [ifp_t hq]
      show _ ∨ _
      have e1 : fnI W (fun _ => k0) i st 1 = if awF (emb W i) (emb W k0) < st.2 then (some i, awF (emb W i) (emb W k0)) else st := rfl
      rw [e1]
      rcases h with ⟨h1, h2⟩ | ⟨x, hx, h1, h2⟩
      · subst h1 h2
        rw [if_pos (show awF (emb W i) (emb W k0) < 24 by omega), ifp_t ⟨(hQ i hi).mp hq, fun e he => by cases he⟩]
        exact Or.inr ⟨i, hi, rfl, by rw [hcm]⟩
      · subst h1 h2
        by_cases hlt : awF (emb W i) (emb W k0) < awF (emb W k0) (emb W x)
        · rw [if_pos hlt, ifp_t ⟨(hQ i hi).mp hq, fun e he => by cases he; rw [← hcm]; exact hlt⟩]
          exact Or.inr ⟨i, hi, rfl, by rw [hcm]⟩
        · rw [if_neg hlt, ifp_f (fun q => hlt (by rw [hcm]; exact q.2 _ rfl))]
          exact Or.inr ⟨x, hx, rfl, rfl⟩
    · rw [ifp_f hq, ifp_f (fun q => hq ((hQ i hi).mpr q.1))]
      exact h
  rcases key with ⟨h1, h2⟩ | ⟨x, hx, h1, h2⟩
  · exact Or.inl ⟨h1, by unfold nx; rw [h2]; rfl⟩
  · exact Or.inr ⟨x, hx, h1, by unfold nx; rw [h2]; rfl⟩
def mnF (W : Nat) (p : Nat → Nat) (c n : Nat) : Nat := fo (fun j l => min l (awF (emb W c) (emb W (p j)))) 24 n
theorem mnF_s (W : Nat) (p : Nat → Nat) (c n : Nat) : mnF W p c (n + 1) = min (mnF W p c n) (awF (emb W c) (emb W (p n))) := rfl
theorem fnI_mn (W : Nat) (p : Nat → Nat) (c : Nat) (st : Option Nat × Nat) (h : st.2 ≤ 24) : ∀ n, fnI W p c st n = if mnF W p c n < st.2 then (some c, mnF W p c n) else st
  | 0 => by
    rw [if_neg (show ¬ mnF W p c 0 < st.2 from Nat.not_lt.mpr h)]
    rfl
  | n + 1 => by
    have ih := fnI_mn W p c st h n
    have e : fnI W p c st (n + 1) = if awF (emb W c) (emb W (p n)) < (fnI W p c st n).2 then (some c, awF (emb W c) (emb W (p n))) else fnI W p c st n := rfl
    rw [e, ih, mnF_s]
    by_cases h1 : mnF W p c n < st.2
    · rw [if_pos h1]
      by_cases h2 : awF (emb W c) (emb W (p n)) < mnF W p c n
      · rw [if_pos h2, if_pos (by omega), Nat.min_eq_right (by omega)]
      · rw [if_neg h2, if_pos (by omega), Nat.min_eq_left (by omega)]
    · rw [if_neg h1]
      by_cases h2 : awF (emb W c) (emb W (p n)) < st.2
      · rw [if_pos h2, if_pos (by omega), Nat.min_eq_right (by omega)]
      · rw [if_neg h2, if_neg (by omega)]
theorem mnF_le (W : Nat) (p : Nat → Nat) (c : Nat) : ∀ n j, j < n → mnF W p c n ≤ awF (emb W c) (emb W (p j))
  | 0, j, h => absurd h (by omega)
  | n + 1, j, h => by
    rw [mnF_s]
    by_cases hj : j = n
    · subst hj; exact Nat.min_le_right _ _
    · have := mnF_le W p c n j (by omega)
      omega
theorem mnF_ge (W : Nat) (p : Nat → Nat) (c v : Nat) (hv : v ≤ 24) : ∀ n, (∀ j, j < n → v ≤ awF (emb W c) (emb W (p j))) → v ≤ mnF W p c n
  | 0, _ => hv
  | n + 1, h => by
    have h1 := mnF_ge W p c v hv n (fun j hj => h j (by omega))
    have h2 := h n (by omega)
    rw [mnF_s]
    omega
theorem aptS_s (P : Nat → Prop) (d n : Nat) : aptS P d (n + 1) = ifp (P n) (min (aptS P d n) (awF n d)) (aptS P d n) := rfl
theorem aptS_24 (P : Nat → Prop) (d : Nat) : ∀ n, aptS P d n ≤ 24
  | 0 => Nat.le_refl _
  | n + 1 => by
    have ih := aptS_24 P d n
    rw [aptS_s]
    by_cases h : P n
    · rw [ifp_t h]; omega
    · rw [ifp_f h]; exact ih
theorem mnF_24 (W : Nat) (p : Nat → Nat) (c : Nat) : ∀ n, mnF W p c n ≤ 24
  | 0 => Nat.le_refl _
  | n + 1 => by
    have ih := mnF_24 W p c n
    rw [mnF_s]
    omega
theorem aptS_le (P : Nat → Prop) (d : Nat) : ∀ n e, e < n → P e → aptS P d n ≤ awF e d
  | 0, e, h, _ => absurd h (by omega)
  | n + 1, e, h, hp => by
    rw [aptS_s]
    by_cases he : e = n
    · subst he; rw [ifp_t hp]; exact Nat.min_le_right _ _
    · have ih := aptS_le P d n e (by omega) hp
      by_cases hn : P n
      · rw [ifp_t hn]; omega
      · rw [ifp_f hn]; exact ih
theorem aptS_ge (P : Nat → Prop) (d v : Nat) (hv : v ≤ 24) : ∀ n, (∀ e, e < n → P e → v ≤ awF e d) → v ≤ aptS P d n
  | 0, _ => hv
  | n + 1, h => by
    have ih := aptS_ge P d v hv n (fun e he => h e (by omega))
    rw [aptS_s]
    by_cases hn : P n
    · have h2 := h n (by omega) hn
      rw [ifp_t hn]; omega
    · rw [ifp_f hn]; exact ih
theorem mn_apt {W : Nat} {p : Nat → Nat} {P : Nat → Prop} {ps : Nat} (hP : ∀ e, P e → e < 144 ∧ ∃ j, j < ps ∧ e = emb W (p j)) (hp : ∀ j, j < ps → P (emb W (p j))) (c : Nat) : mnF W p c ps = aptS P (emb W c) 144 := by
  refine Nat.le_antisymm (aptS_ge P _ _ (mnF_24 W p c ps) 144 ?_) (mnF_ge W p c _ (aptS_24 P _ 144) ps ?_)
  · intro e _ he
    obtain ⟨-, j, hj, rfl⟩ := hP e he
    rw [awF_comm]
    exact mnF_le W p c ps j hj
  · intro j hj
    rw [awF_comm]
    exact aptS_le P _ 144 _ (hP _ (hp j hj)).1 (hp j hj)
theorem nearP {W H : Nat} (hW0 : 0 < W) (hW1 : W ≤ 12) (hH1 : H ≤ 12) {Q : Nat → Prop} {kM : Nat → Int32} (hQ : ∀ k, k < W * H → (Q k ↔ kM (emb W k) = 0)) (hoff : ∀ c, c < 144 → ¬ onP W H c → kM c = -1) {p : Nat → Nat} {P : Nat → Prop} {ps : Nat} (hps : 0 < ps) (hP : ∀ e, P e → e < 144 ∧ ∃ j, j < ps ∧ e = emb W (p j)) (hp : ∀ j, j < ps → P (emb W (p j))) : HR W (W * H) (oI (fnF W p Q ps (W * H)).1) (npS kM P 144).1 := by
  have e : npS kM P 144 = fo (fun k b => ifp (kM (emb W k) = 0 ∧ (b.1 = none ∨ aptS P (emb W k) 144 < b.2)) (some (emb W k), aptS P (emb W k) 144) b) (none, 0) (W * H) := by
    unfold npS
    rw [fo_emb hW1 hH1]
    intro c hc hno x
    exact ifp_f (fun q => by have := q.1; rw [hoff c hc hno] at this; exact absurd this (by decide))
  rw [e]
  have key : (fun (st b : Option Nat × Nat) => (b.1 = none ∧ st = (none, 24)) ∨ ∃ e, e < W * H ∧ b = (some (emb W e), st.2) ∧ st.1 = some e ∧ st.2 ≤ 24) (fnF W p Q ps (W * H)) (fo (fun k b => ifp (kM (emb W k) = 0 ∧ (b.1 = none ∨ aptS P (emb W k) 144 < b.2)) (some (emb W k), aptS P (emb W k) 144) b) (none, 0) (W * H)) := by
    unfold fnF
    refine fo_rel (fun (st b : Option Nat × Nat) => (b.1 = none ∧ st = (none, 24)) ∨ ∃ e, e < W * H ∧ b = (some (emb W e), st.2) ∧ st.1 = some e ∧ st.2 ≤ 24) (Or.inl ⟨rfl, rfl⟩) ?_
    intro i hi st b h
    by_cases hq : Q i
    · rw [ifp_t hq]
      have hmn := mn_apt hP hp i
      have h24 : st.2 ≤ 24 := by
        rcases h with ⟨-, h2⟩ | ⟨x, -, -, -, h2⟩
        · rw [h2]; exact Nat.le_refl _
        · exact h2
      have hlt : mnF W p i ps < 24 := by
        have h1 := mnF_le W p i ps 0 hps
        have h2 := awF_le (emb_lt hW0 hW1 hH1 hi) (hP _ (hp 0 hps)).1
        omega
      rw [fnI_mn W p i st h24]
      rcases h with ⟨h1, h2⟩ | ⟨x, hx, h1, h2, h3⟩
      · subst h2
        rw [if_pos hlt, ifp_t ⟨(hQ i hi).mp hq, Or.inl h1⟩, ← hmn]
        exact Or.inr ⟨i, hi, rfl, rfl, by show mnF W p i ps ≤ 24; omega⟩
      · subst h1
        by_cases hl : mnF W p i ps < st.2
        · rw [if_pos hl, ifp_t ⟨(hQ i hi).mp hq, Or.inr (by rw [← hmn]; exact hl)⟩, ← hmn]
          exact Or.inr ⟨i, hi, rfl, rfl, by show mnF W p i ps ≤ 24; omega⟩
        · rw [if_neg hl, ifp_f (fun q => q.2.elim (fun r => by cases r) (fun r => hl (by rw [hmn]; exact r)))]
          exact Or.inr ⟨x, hx, rfl, h2, h3⟩
    · rw [ifp_f hq, ifp_f (fun q => hq ((hQ i hi).mpr q.1))]
      exact h
  rcases key with ⟨h1, h2⟩ | ⟨x, hx, h1, h2, h3⟩
  · exact Or.inl ⟨h1, by rw [h2]; rfl⟩
  · exact Or.inr ⟨x, hx, by rw [h1], by rw [h2]; rfl⟩
/-- the class's kinds ahead of the sorting -/
def KC (W N : Nat) (kd kM : Nat → Int32) : Prop := ∀ k, k < N → (kd k = 4 ↔ kM (emb W k) = 0) ∧ (kd k = 1 ↔ kM (emb W k) = 1) ∧ ((kd k = 2 ∨ kd k = 3) ↔ kM (emb W k) = 2) ∧ (kd k = 0 ↔ kM (emb W k) = 3)
theorem ls_fast {W H : Nat} (hW1 : W ≤ 12) (hH1 : H ≤ 12) {kd kM : Nat → Int32} (hK : KC W (W * H) kd kM) (hoff : ∀ c, c < 144 → ¬ onP W H c → kM c = -1) {k : Nat} (hk : kM (emb W k) = 2) : lsX W (fun b => kd b = 4) k (W * H) = lstF kM (emb W k) 144 := by
  unfold lstF lsX
  rw [fo_emb hW1 hH1]
  · refine fo_cong fun i hi x => ?_
    refine ifp_c ?_
    rw [if_pos hk]
    exact (hK i hi).1
  · intro c hc hno x
    refine ifp_f (fun q => ?_)
    rw [if_pos hk, hoff c hc hno] at q
    exact absurd q (by decide)
theorem ls_water {W H : Nat} (hW1 : W ≤ 12) (hH1 : H ≤ 12) {kd kM : Nat → Int32} (hK : KC W (W * H) kd kM) (hoff : ∀ c, c < 144 → ¬ onP W H c → kM c = -1) {k : Nat} (hk : kM (emb W k) = 1) : lsX W (fun b => kd b = 0 ∨ kd b = 2 ∨ kd b = 3) k (W * H) = lstF kM (emb W k) 144 := by
  unfold lstF lsX
  have hk2 : ¬ kM (emb W k) = 2 := by rw [hk]; decide
  rw [fo_emb hW1 hH1]
  · refine fo_cong fun i hi x => ?_
    refine ifp_c ?_
    rw [if_neg hk2]
    exact ⟨fun q => q.elim (fun r => Or.inr ((hK i hi).2.2.2.mp r)) (fun r => Or.inl ((hK i hi).2.2.1.mp r)), fun q => q.elim (fun r => Or.inr ((hK i hi).2.2.1.mpr r)) (fun r => Or.inl ((hK i hi).2.2.2.mpr r))⟩
  · intro c hc hno x
    refine ifp_f (fun q => ?_)
    rw [if_neg hk2, hoff c hc hno] at q
    exact q.elim (fun r => absurd r (by decide)) (fun r => absurd r (by decide))
theorem ms_ok {W H : Nat} (hW1 : W ≤ 12) (hH1 : H ≤ 12) {kd kM : Nat → Int32} (hK : KC W (W * H) kd kM) (hoff : ∀ c, c < 144 → ¬ onP W H c → kM c = -1) : msF W (W * H) kd (W * H) = ((kcF kM 1 144, kcF kM 2 144), farF kM 144) := by
  have e1 : ∀ its : Int32, its ≠ -1 → kcF kM its 144 = fo (fun k acc => acc + (if kM (emb W k) = its then 1 else 0)) 0 (W * H) := by
    intro its hi
    unfold kcF
    rw [fo_emb hW1 hH1]
    intro c hc hno x
    rw [hoff c hc hno, if_neg (fun q => hi q.symm), Int32.add_zero]
  have e2 : farF kM 144 = fo (fun k m => ifp (kM (emb W k) = 1 ∨ kM (emb W k) = 2) (max m (lstF kM (emb W k) 144)) m) 0 (W * H) := by
    unfold farF
    rw [fo_emb hW1 hH1]
    intro c hc hno x
    refine ifp_f (fun q => ?_)
    rw [hoff c hc hno] at q
    exact q.elim (fun r => absurd r (by decide)) (fun r => absurd r (by decide))
  rw [e1 1 (by decide), e1 2 (by decide), e2]
  have key : ∀ n, n ≤ W * H → msF W (W * H) kd n = ((fo (fun k acc => acc + (if kM (emb W k) = 1 then 1 else 0)) 0 n, fo (fun k acc => acc + (if kM (emb W k) = 2 then 1 else 0)) 0 n), fo (fun k m => ifp (kM (emb W k) = 1 ∨ kM (emb W k) = 2) (max m (lstF kM (emb W k) 144)) m) 0 n) := by
    intro n
    induction n with
    | zero => intro _; rfl
    | succ n ih =>
      intro hn
      have ih := ih (by omega)
      obtain ⟨k4, k1, k23, k0⟩ := hK n (by omega)
      have e : msF W (W * H) kd (n + 1) = ifp (kd n = 2 ∨ kd n = 3) (((msF W (W * H) kd n).1.1, (msF W (W * H) kd n).1.2 + 1), max (msF W (W * H) kd n).2 (lsX W (fun b => kd b = 4) n (W * H))) (if kd n = 1 then (((msF W (W * H) kd n).1.1 + 1, (msF W (W * H) kd n).1.2), max (msF W (W * H) kd n).2 (lsX W (fun b => kd b = 0 ∨ kd b = 2 ∨ kd b = 3) n (W * H))) else msF W (W * H) kd n) := rfl
      rw [e, ih, fo_succ, fo_succ, fo_succ]
      by_cases h2 : kM (emb W n) = 2
      · rw [ifp_t (k23.mpr h2), if_neg (by rw [h2]; decide), if_pos h2, ifp_t (Or.inr h2), Int32.add_zero, ls_fast hW1 hH1 hK hoff h2]
      · rw [ifp_f (fun q => h2 (k23.mp q)), if_neg h2, Int32.add_zero]
        by_cases h1 : kM (emb W n) = 1
        · rw [if_pos (k1.mpr h1), if_pos h1, ifp_t (Or.inl h1), ls_water hW1 hH1 hK hoff h1]
        · rw [if_neg (fun q => h1 (k1.mp q)), if_neg h1, ifp_f (fun q => q.elim h1 h2), Int32.add_zero]
  exact key (W * H) (Nat.le_refl _)
