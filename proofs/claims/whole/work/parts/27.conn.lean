/-! WHAT HANGS TOGETHER -/
theorem df_comm (a b : Nat) : df a b = df b a := by unfold df; omega
theorem awF_comm (c d : Nat) : awF c d = awF d c := by unfold awF; rw [df_comm (c % 12), df_comm (c / 12)]
/-- c and d hang together by cells of S -/
def conn (S : Nat → Prop) (c d : Nat) : Prop := ∀ P : Nat → Prop, P c → (∀ a b, P a → S a → S b → awF a b = 1 → P b) → P d
theorem conn_rf {S : Nat → Prop} {c : Nat} : conn S c c := fun _ h _ => h
theorem conn_st {S : Nat → Prop} {c a b : Nat} (h : conn S c a) (ha : S a) (hb : S b) (hab : awF a b = 1) : conn S c b := fun P h0 h1 => h1 a b (h P h0 h1) ha hb hab
theorem conn_tr {S : Nat → Prop} {a b c : Nat} (h1 : conn S a b) (h2 : conn S b c) : conn S a c := fun P h0 hs => h2 P (h1 P h0 hs) hs
theorem conn_sy {S : Nat → Prop} {a b : Nat} (h : conn S a b) : conn S b a :=
  h (fun x => conn S x a) conn_rf (fun x y hx sx sy hxy => conn_tr (conn_st conn_rf sy sx (by rw [awF_comm]; exact hxy)) hx)
theorem conn_in {S : Nat → Prop} {a b : Nat} (h : conn S a b) (ha : S a) : S b := h S ha (fun _ _ _ _ hb _ => hb)
theorem lab_ex (S : Nat → Prop) (c : Nat) : ∃ k, conn S c k ∧ ∀ j, j < k → ¬ conn S c j := pk_least (conn S c) ⟨c, conn_rf⟩
/-- the least cell that hangs together with c -/
noncomputable def lab (S : Nat → Prop) (c : Nat) : Nat := Classical.choose (lab_ex S c)
theorem lab_conn (S : Nat → Prop) (c : Nat) : conn S c (lab S c) := (Classical.choose_spec (lab_ex S c)).1
theorem lab_min {S : Nat → Prop} {c d : Nat} (h : conn S c d) : lab S c ≤ d := Nat.le_of_not_lt fun q => (Classical.choose_spec (lab_ex S c)).2 d q h
theorem lab_le (S : Nat → Prop) (c : Nat) : lab S c ≤ c := lab_min conn_rf
theorem lab_eq {S : Nat → Prop} {c d : Nat} (h : conn S c d) : lab S c = lab S d := Nat.le_antisymm (lab_min (conn_tr h (lab_conn S d))) (lab_min (conn_tr (conn_sy h) (lab_conn S c)))
theorem lab_lab (S : Nat → Prop) (c : Nat) : lab S (lab S c) = lab S c := (lab_eq (lab_conn S c)).symm
theorem lab_in {S : Nat → Prop} {c : Nat} (h : S c) : S (lab S c) := conn_in (lab_conn S c) h
/-- labels: -1 outside, inside a cell that hangs together with it -/
def labOK (S : Nat → Prop) (p : Nat → Int32) : Prop := ∀ c, c < 144 → (¬ S c → p c = -1) ∧ (S c → ∃ l, l ≤ c ∧ p c = nI l ∧ conn S c l)
/-- one cell against another -/
def psD (p : Nat → Int32) (c d : Nat) : Prop := 0 ≤ p c ∧ 0 ≤ p d ∧ awF c d = 1 ∧ p d < p c
noncomputable def psI (c : Nat) (st : (Nat → Int32) × Bool) (n : Nat) : (Nat → Int32) × Bool := fo (fun d st => ifp (psD st.1 c d) (upd st.1 c (st.1 d), true) st) st n
noncomputable def psO (st : (Nat → Int32) × Bool) (n : Nat) : (Nat → Int32) × Bool := fo (fun c st => psI c st 144) st n
/-- the label is the least -/
def atL (S : Nat → Prop) (p : Nat → Int32) (c : Nat) : Prop := S c → p c = nI (lab S c)
/-- how p has become q: labels fall, what is least stays -/
def fall (S : Nat → Prop) (p q : Nat → Int32) : Prop := labOK S q ∧ ∀ c, c < 144 → (S c → q c ≤ p c)
theorem fall_at {S : Nat → Prop} {p q : Nat → Int32} (h : fall S p q) {c : Nat} (hc : c < 144) (ha : atL S p c) : atL S q c := by
  intro hs
  obtain ⟨l, h1, h2, h3⟩ := (h.1 c hc).2 hs
  have h4 := h.2 c hc hs
  have hl := lab_le S c
  rw [ha hs, h2] at h4
  rw [h2]
  have h5 := lab_min h3
  have h6 := le_of_le h4 (by omega)
  congr 1
  omega
theorem fall_tr {S : Nat → Prop} {p q r : Nat → Int32} (h1 : fall S p q) (h2 : fall S q r) : fall S p r := ⟨h2.1, fun c hc hs => Int32.le_trans (h2.2 c hc hs) (h1.2 c hc hs)⟩
theorem psD_step {S : Nat → Prop} {p : Nat → Int32} (h : labOK S p) {c d : Nat} (hc : c < 144) (hd : d < 144) (hp : psD p c d) : S c ∧ S d ∧ fall S p (upd p c (p d)) := by
  obtain ⟨h1, h2, h3, h4⟩ := hp
  have hsc : S c := Classical.byContradiction fun q => by rw [(h c hc).1 q] at h1; exact absurd h1 (by decide)
  have hsd : S d := Classical.byContradiction fun q => by rw [(h d hd).1 q] at h2; exact absurd h2 (by decide)
  refine ⟨hsc, hsd, ⟨fun x hx => ?_, fun x hx hs => ?_⟩⟩
  · by_cases hxc : x = c
    · subst hxc
      rw [upd_eq]
      refine ⟨fun q => absurd hsc q, fun _ => ?_⟩
      obtain ⟨l, g1, g2, g3⟩ := (h d hd).2 hsd
      obtain ⟨l2, k1, k2, -⟩ := (h x hx).2 hsc
      rw [g2, k2] at h4
      have h5 := (nI_ltI (by omega) (by omega)).mp h4
      exact ⟨l, by omega, g2, conn_tr (conn_st conn_rf hsc hsd h3) g3⟩
    · rw [upd_ne _ _ hxc]; exact h x hx
  · by_cases hxc : x = c
    · subst hxc; rw [upd_eq]; exact Int32.le_of_lt h4
    · rw [upd_ne _ _ hxc]; exact Int32.le_refl _
theorem fall_rf {S : Nat → Prop} {p : Nat → Int32} (h : labOK S p) : fall S p p := ⟨h, fun _ _ _ => Int32.le_refl _⟩
/-- the inner loop: labels fall; if nothing changed, nothing could -/
theorem psI_ok {S : Nat → Prop} {c : Nat} (hc : c < 144) {st : (Nat → Int32) × Bool} (h : labOK S st.1) : ∀ n, n ≤ 144 → fall S st.1 (psI c st n).1 ∧ (st.2 = true → (psI c st n).2 = true) ∧ ((psI c st n).2 = false → (psI c st n).1 = st.1 ∧ ∀ d, d < n → ¬ psD st.1 c d) ∧ ((psI c st n).2 = true → st.2 = true ∨ ∃ d, d < n ∧ psD st.1 c d)
  | 0, _ => ⟨fall_rf h, fun q => q, fun _ => ⟨rfl, fun d hd => absurd hd (by omega)⟩, fun q => Or.inl q⟩
  | n + 1, hn => by
    obtain ⟨i1, i2, i3, i4⟩ := psI_ok hc h n (by omega)
    have e : psI c st (n + 1) = ifp (psD (psI c st n).1 c n) (upd (psI c st n).1 c ((psI c st n).1 n), true) (psI c st n) := rfl
    rw [e]
    by_cases q : psD (psI c st n).1 c n
    · rw [ifp_t q]
      obtain ⟨s1, s2, s3⟩ := psD_step i1.1 hc (by omega) q
      refine ⟨fall_tr i1 s3, fun _ => rfl, fun z => (by cases z), fun _ => ?_⟩
      cases hb : (psI c st n).2 with
      | true =>
        rcases i4 hb with z | ⟨d, z1, z2⟩
        · exact Or.inl z
        · exact Or.inr ⟨d, by omega, z2⟩
      | false =>
        rw [(i3 hb).1] at q
        exact Or.inr ⟨n, by omega, q⟩
    · rw [ifp_f q]
      refine ⟨i1, i2, fun z => ?_, fun z => ?_⟩
      · obtain ⟨z1, z2⟩ := i3 z
        refine ⟨z1, fun d hd => ?_⟩
        by_cases hdn : d = n
        · subst hdn; rw [z1] at q; exact q
        · exact z2 d (by omega)
      · rcases i4 z with z | ⟨d, z1, z2⟩
        · exact Or.inl z
        · exact Or.inr ⟨d, by omega, z2⟩
/-- a cell beside one whose label is least gets it -/
theorem psI_hit {S : Nat → Prop} {c a : Nat} (hc : c < 144) (ha : a < 144) {st : (Nat → Int32) × Bool} (h : labOK S st.1) (hsc : S c) (hsa : S a) (hca : awF c a = 1) (hat : atL S st.1 a) : atL S (psI c st 144).1 c := by
  have step := psI_ok hc h
  -- behind place a the label is not above a's
  have key : ∀ n, a < n → n ≤ 144 → atL S (psI c st n).1 c := by
    intro n
    induction n with
    | zero => intro h1; omega
    | succ n ih =>
      intro h1 h2
      obtain ⟨i1, -⟩ := step n (by omega)
      have e : psI c st (n + 1) = ifp (psD (psI c st n).1 c n) (upd (psI c st n).1 c ((psI c st n).1 n), true) (psI c st n) := rfl
      by_cases hn : a = n
      · subst hn
        have hat2 := fall_at i1 ha hat hsa
        obtain ⟨l, g1, g2, g3⟩ := (i1.1 c hc).2 hsc
        have hll : lab S c = lab S a := lab_eq (conn_st conn_rf hsc hsa hca)
        have hla := lab_le S a
        intro _
        rw [e]
        by_cases q : psD (psI c st a).1 c a
        · rw [ifp_t q]
          show upd (psI c st a).1 c ((psI c st a).1 a) c = nI (lab S c)
          rw [upd_eq, hat2, hll]
        · rw [ifp_f q, g2]
          have h5 := lab_min g3
          have : ¬ nI (lab S a) < nI l := by
            intro z
            refine q ⟨by rw [g2]; exact nI_pos' (by omega), by rw [hat2]; exact nI_pos' (by omega), hca, ?_⟩
            rw [hat2, g2]; exact z
          have h6 : l ≤ lab S a := by
            rcases Nat.lt_or_ge (lab S a) l with z | z
            · exact absurd (nI_lt z (by omega)) this
            · exact z
          congr 1
          omega
      · have h3 := ih (by omega) (by omega)
        obtain ⟨j1, -⟩ := step (n + 1) h2
        by_cases q : psD (psI c st n).1 c n
        · obtain ⟨-, -, s3⟩ := psD_step i1.1 hc (by omega) q
          rw [e, ifp_t q]
          exact fall_at s3 hc h3
        · rw [e, ifp_f q]; exact h3
  exact key 144 ha (Nat.le_refl _)
/-- a whole round -/
theorem psO_ok {S : Nat → Prop} {st : (Nat → Int32) × Bool} (h : labOK S st.1) (hb : st.2 = false) : ∀ n, n ≤ 144 → fall S st.1 (psO st n).1 ∧ ((psO st n).2 = false → (psO st n).1 = st.1 ∧ ∀ c, c < n → ∀ d, d < 144 → ¬ psD st.1 c d) ∧ ((psO st n).2 = true → ∃ c d p, c < 144 ∧ d < 144 ∧ fall S st.1 p ∧ psD p c d)
  | 0, _ => ⟨fall_rf h, fun _ => ⟨rfl, fun c hc => absurd hc (by omega)⟩, fun q => by rw [show (psO st 0).2 = st.2 from rfl, hb] at q; cases q⟩
  | n + 1, hn => by
    obtain ⟨i1, i2, i3⟩ := psO_ok h hb n (by omega)
    obtain ⟨j1, j2, j3, j4⟩ := psI_ok (c := n) (by omega) i1.1 144 (Nat.le_refl _)
    have e : psO st (n + 1) = psI n (psO st n) 144 := rfl
    rw [e]
    refine ⟨fall_tr i1 j1, fun q => ?_, fun q => ?_⟩
    · obtain ⟨q1, q2⟩ := j3 q
      have hf : (psO st n).2 = false := by
        cases hq : (psO st n).2 with
        | false => rfl
        | true => rw [j2 hq] at q; cases q
      obtain ⟨q3, q4⟩ := i2 hf
      refine ⟨q1.trans q3, fun c hc => ?_⟩
      by_cases hcn : c = n
      · subst hcn; rw [q3] at q2; exact q2
      · exact q4 c (by omega)
    · rcases j4 q with q | ⟨d, q1, q2⟩
      · exact i3 q
      · exact ⟨n, d, (psO st n).1, by omega, q1, i1, q2⟩
/-- all labels are the least -/
def allL (S : Nat → Prop) (p : Nat → Int32) : Prop := ∀ c, c < 144 → atL S p c
/-- a round that changes nothing shows that all labels are the least -/
theorem psO_done {S : Nat → Prop} (hS : ∀ c, S c → c < 144) {p : Nat → Int32} (h : labOK S p) (hq : ∀ c, c < 144 → ∀ d, d < 144 → ¬ psD p c d) : allL S p := by
  have hpos : ∀ c, S c → 0 ≤ p c := fun c hs => by
    obtain ⟨l, h1, h2, -⟩ := (h c (hS c hs)).2 hs
    have := hS c hs
    rw [h2]; exact nI_pos' (by omega)
  have heq : ∀ a b, S a → S b → awF a b = 1 → p a = p b := by
    intro a b sa sb hab
    have h1 := hq a (hS a sa) b (hS b sb)
    have h2 := hq b (hS b sb) a (hS a sa)
    have h3 : ¬ p b < p a := fun z => h1 ⟨hpos a sa, hpos b sb, hab, z⟩
    have h4 : ¬ p a < p b := fun z => h2 ⟨hpos b sb, hpos a sa, by rw [awF_comm]; exact hab, z⟩
    exact Int32.le_antisymm (Int32.not_lt.mp h3) (Int32.not_lt.mp h4)
  intro c hc hs
  have h5 : p c = p (lab S c) := lab_conn S c (fun x => p c = p x) rfl (fun a b ha sa sb hab => ha.trans (heq a b sa sb hab))
  have hsl := lab_in hs
  obtain ⟨l, h1, h2, h3⟩ := (h _ (hS _ hsl)).2 hsl
  have h6 : lab S c ≤ l := by rw [← lab_lab]; exact lab_min h3
  rw [h5, h2]
  congr 1
  omega
theorem psO_keep {S : Nat → Prop} (hS : ∀ c, S c → c < 144) {p : Nat → Int32} (h : labOK S p) (ha : allL S p) {c d : Nat} (hc : c < 144) (hd : d < 144) : ¬ psD p c d := by
  intro q
  obtain ⟨s1, s2, -⟩ := psD_step h hc hd q
  have h1 := ha c hc s1
  have h2 := ha d hd s2
  have h3 : lab S c = lab S d := lab_eq (conn_st conn_rf s1 s2 q.2.2.1)
  obtain ⟨-, -, -, h4⟩ := q
  rw [h1, h2, h3] at h4
  exact Int32.lt_irrefl h4
/-- how many labels are the least -/
noncomputable def cnL (S : Nat → Prop) (p : Nat → Int32) (n : Nat) : Nat := fo (fun c a => ifp (atL S p c) (a + 1) a) 0 n
theorem cnL_le (S : Nat → Prop) (p : Nat → Int32) : ∀ n, cnL S p n ≤ n
  | 0 => Nat.le_refl _
  | n + 1 => by
    have ih := cnL_le S p n
    show ifp (atL S p n) (cnL S p n + 1) (cnL S p n) ≤ n + 1
    by_cases q : atL S p n
    · rw [ifp_t q]; omega
    · rw [ifp_f q]; omega
theorem cnL_all (S : Nat → Prop) (p : Nat → Int32) : ∀ n, n ≤ cnL S p n → ∀ c, c < n → atL S p c
  | 0, _, c, hc => absurd hc (by omega)
  | n + 1, h, c, hc => by
    have ih := cnL_le S p n
    replace h : n + 1 ≤ ifp (atL S p n) (cnL S p n + 1) (cnL S p n) := h
    by_cases q : atL S p n
    · rw [ifp_t q] at h
      by_cases hcn : c = n
      · subst hcn; exact q
      · exact cnL_all S p n (by omega) c (by omega)
    · rw [ifp_f q] at h; omega
theorem cnL_mono {S : Nat → Prop} {p q : Nat → Int32} : ∀ n, (∀ c, c < n → atL S p c → atL S q c) → cnL S p n ≤ cnL S q n
  | 0, _ => Nat.le_refl _
  | n + 1, h => by
    have ih := cnL_mono (S := S) (p := p) (q := q) n (fun c hc => h c (by omega))
    show ifp (atL S p n) (cnL S p n + 1) (cnL S p n) ≤ ifp (atL S q n) (cnL S q n + 1) (cnL S q n)
    by_cases z : atL S p n
    · rw [ifp_t z, ifp_t (h n (by omega) z)]; omega
    · rw [ifp_f z]
      by_cases z2 : atL S q n
      · rw [ifp_t z2]; omega
      · rw [ifp_f z2]; exact ih
theorem cnL_more {S : Nat → Prop} {p q : Nat → Int32} {b : Nat} (h1 : ¬ atL S p b) (h2 : atL S q b) : ∀ n, b < n → (∀ c, c < n → atL S p c → atL S q c) → cnL S p n < cnL S q n
  | 0, hb, _ => absurd hb (by omega)
  | n + 1, hb, h => by
    show ifp (atL S p n) (cnL S p n + 1) (cnL S p n) < ifp (atL S q n) (cnL S q n + 1) (cnL S q n)
    by_cases hbn : b = n
    · subst hbn
      rw [ifp_f h1, ifp_t h2]
      have := cnL_mono (S := S) (p := p) (q := q) b (fun c hc => h c (by omega))
      omega
    · have ih := cnL_more h1 h2 n (by omega) (fun c hc => h c (by omega))
      by_cases z : atL S p n
      · rw [ifp_t z, ifp_t (h n (by omega) z)]; omega
      · rw [ifp_f z]
        by_cases z2 : atL S q n
        · rw [ifp_t z2]; omega
        · rw [ifp_f z2]; exact ih
/-- a round adds a label that is the least, if one is wanting -/
theorem psO_more {S : Nat → Prop} (hS : ∀ c, S c → c < 144) {st : (Nat → Int32) × Bool} (h : labOK S st.1) (hb : st.2 = false) (hn : ¬ allL S st.1) : cnL S st.1 144 < cnL S (psO st 144).1 144 := by
  -- a cell whose label is wanting beside one whose label is there
  have key : ∃ a b, a < 144 ∧ b < 144 ∧ S a ∧ S b ∧ awF b a = 1 ∧ atL S st.1 a ∧ ¬ atL S st.1 b := by
    apply Classical.byContradiction
    intro hno
    apply hn
    intro c hc hs
    have hl : atL S st.1 (lab S c) := by
      intro hsl
      obtain ⟨l, h1, h2, h3⟩ := (h _ (hS _ hsl)).2 hsl
      rw [h2]
      have h9 := lab_min h3
      rw [lab_lab] at h9
      rw [lab_lab]
      congr 1
      omega
    have : atL S st.1 c ∧ conn S (lab S c) c := by
      have hcc := conn_sy (lab_conn S c)
      refine hcc (fun x => atL S st.1 x ∧ conn S (lab S c) x) ⟨hl, conn_rf⟩ ?_
      rintro a b ⟨ha, hca⟩ sa sb hab
      refine ⟨?_, conn_st hca sa sb hab⟩
      apply Classical.byContradiction
      intro hnb
      exact hno ⟨a, b, hS a sa, hS b sb, sa, sb, by rw [awF_comm]; exact hab, ha, hnb⟩
    exact this.1 hs
  obtain ⟨a, b, ha, hbb, sa, sb, hab, hat, hnt⟩ := key
  have fin := (psO_ok h hb 144 (Nat.le_refl _)).1
  have pre := (psO_ok h hb b (by omega)).1
  have hit := psI_hit hbb ha pre.1 sb sa hab (fall_at pre ha hat)
  -- what comes behind b keeps it
  have rest : ∀ n, b < n → n ≤ 144 → atL S (psO st n).1 b := by
    intro n
    induction n with
    | zero => intro h1; omega
    | succ n ih =>
      intro h1 h2
      have e : psO st (n + 1) = psI n (psO st n) 144 := rfl
      rw [e]
      by_cases hbn : b = n
      · subst hbn; exact hit
      · have j1 := (psI_ok (S := S) (c := n) (by omega) (psO_ok h hb n (by omega)).1.1 144 (Nat.le_refl _)).1
        exact fall_at j1 hbb (ih (by omega) (by omega))
  exact cnL_more hnt (rest 144 hbb (Nat.le_refl _)) 144 hbb (fun c hc z => fall_at fin hc z)
