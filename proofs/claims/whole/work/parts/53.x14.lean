/-! years and events -/
/-- the deeds' years and their order -/
def DY (τ : mS) (dn : Nat) (yd od : Nat → Nat) : Prop := (∀ d, d < dn → τ 61 0 d = nI (yd d) ∧ yd d ≤ 200) ∧ (∀ j, j < dn → od j < dn) ∧ (∀ i j, i < j → j < dn → yd (od i) < yd (od j) ∨ (yd (od i) = yd (od j) ∧ od i < od j)) ∧ ∀ d, d < dn → ∃ j, j < dn ∧ od j = d
/-- the maps' years -/
def MY (τ : mS) (mp : Nat) (ys : Nat → Nat) : Prop := (∀ m, m < mp → τ 54 0 m = nI (ys m) ∧ ys m ≤ 200) ∧ ∀ i j, i < j → j < mp → ys i < ys j
theorem stI_none {yr : Nat → Int32} {year : Int32} : ∀ n, (∀ m, m < n → 0 < m → ¬ yr m = year) → stI yr year n = none
  | 0, _ => rfl
  | n + 1, h => by
    have e : stI yr year (n + 1) = ifp (stI yr year n = none ∧ 0 < n ∧ yr n = year) (some n) (stI yr year n) := rfl
    rw [e, ifp_f (fun q => h n (by omega) q.2.1 q.2.2)]
    exact stI_none n (fun m hm => h m (by omega))
theorem stI_some {yr : Nat → Int32} {year : Int32} {m0 : Nat} (h0 : 0 < m0) (h1 : yr m0 = year) : ∀ n, m0 < n → (∀ m, m < m0 → 0 < m → ¬ yr m = year) → stI yr year n = some m0 := by
  intro n hn hm
  have e0 := stI_none (yr := yr) (year := year) m0 hm
  have e1 : stI yr year (m0 + 1) = some m0 := by
    show ifp (stI yr year m0 = none ∧ 0 < m0 ∧ yr m0 = year) (some m0) (stI yr year m0) = _
    exact ifp_t ⟨e0, h0, h1⟩
  have := stI_keep yr year e1 (n - (m0 + 1))
  rw [show m0 + 1 + (n - (m0 + 1)) = n by omega] at this
  exact this
theorem mapIn_at {yr : Nat → Int32} {year : Int32} {mn mp : Nat} (h : mn < mp) (h1 : ∀ m, 0 < m → m ≤ mn → yr m ≤ year) (h2 : ∀ m, mn < m → m < mp → ¬ yr m ≤ year) : mapInF yr year mp = mn := by
  have key : ∀ n, n ≤ mn → mapInF yr year (n + 1) = n := by
    intro n
    induction n with
    | zero => intro _; show (if 0 < 0 ∧ yr 0 ≤ year then 0 else 0) = 0; simp
    | succ n ih =>
      intro hn
      show (if 0 < n + 1 ∧ yr (n + 1) ≤ year then n + 1 else mapInF yr year (n + 1)) = n + 1
      rw [if_pos ⟨by omega, h1 _ (by omega) hn⟩]
  have e : mapInF yr year (mn + 1 + (mp - (mn + 1))) = mapInF yr year (mn + 1) := fo_stay (fun i hi hi2 x => if_neg (fun q => h2 i (by omega) (by omega) q.2))
  rw [show mn + 1 + (mp - (mn + 1)) = mp by omega, key mn (Nat.le_refl _)] at e
  exact e
theorem ds_skip {τ : mS} {dn : Nat} {yd od : Nat → Nat} (hD : DY τ dn yd od) {wt o : Nat → Int32} {y n k : Nat} (hy : y < 2 ^ 31) (hk : n + k ≤ dn) (h : ∀ d, n ≤ d → d < n + k → ¬ yd d = y) : dsF τ wt (nI y) o (n + k) = dsF τ wt (nI y) o n := by
  refine fo_stay (fun d h1 h2 x => ifp_f (fun q => ?_))
  have h3 := hD.1 d (by omega)
  have := q.2
  rw [h3.1] at this
  exact h d h1 h2 (nI_inj (by omega) hy this)
theorem ds_take {τ : mS} {dn : Nat} {yd od : Nat → Nat} (hD : DY τ dn yd od) {wt o : Nat → Int32} {y d : Nat} (hd : d < dn) (h : yd d = y) : dsF τ wt (nI y) o (d + 1) = deO τ wt d (dsF τ wt (nI y) o d) := by
  refine ifp_c ⟨fun q => q.1, fun q => ⟨q, ?_⟩⟩
  rw [(hD.1 d hd).1, h]
noncomputable def stY (τ : mS) (W H mp dn ln : Nat) (ct : Int32) (y : Nat) : Nat → Int32 := match stI (τ 54 0) (nI y) mp with
  | none => upO τ W H mp dn ln ct y
  | some m => stepO τ W H ln m (nI m = ct) (upO τ W H mp dn ln ct y)
/-- in the midst of a year -/
def Mid (τ : mS) (W H mp dn ln : Nat) (ct : Int32) (ys yd od : Nat → Nat) (y mn dd : Nat) (o : Nat → Int32) : Prop := (y ≤ 200 ∧ mn < mp ∧ dd ≤ dn) ∧ ((∀ m, 0 < m → m ≤ mn → ys m ≤ y) ∧ ∀ m, mn < m → m < mp → y < ys m) ∧ ((∀ j, j < dd → yd (od j) ≤ y) ∧ ∀ j, dd ≤ j → j < dn → y ≤ yd (od j)) ∧ ∃ n, n ≤ dn ∧ o = dsF τ (wtr τ mn) (nI y) (stY τ W H mp dn ln ct y) n ∧ (∀ j, j < dd → yd (od j) = y → od j < n) ∧ ∀ j, dd ≤ j → j < dn → yd (od j) = y → n ≤ od j
theorem mid_map {τ : mS} {W H mp dn ln : Nat} {ct : Int32} {ys yd od : Nat → Nat} {y mn dd : Nat} {o : Nat → Int32} (hM : MY τ mp ys) (h : Mid τ W H mp dn ln ct ys yd od y mn dd o) {Y : Nat} (h1 : y ≤ Y) (h2 : Y ≤ 200) (h3 : ∀ m, mn < m → m < mp → Y < ys m) : mapInF (τ 54 0) (nI Y) mp = mn := by
  obtain ⟨⟨p1, p2, p3⟩, ⟨q1, q2⟩, -⟩ := h
  refine mapIn_at p2 (fun m a b => ?_) (fun m a b c => ?_)
  · have := q1 m a b
    rw [(hM.1 m (by omega)).1]
    exact nI_le (by omega) (by omega)
  · have := h3 m a b
    rw [(hM.1 m b).1] at c
    have := le_of_le c (by have := (hM.1 m b).2; omega)
    omega
theorem mid_close {τ : mS} {W H mp dn ln : Nat} {ct : Int32} {ys yd od : Nat → Nat} {y mn dd : Nat} {o : Nat → Int32} (hM : MY τ mp ys) (hD : DY τ dn yd od) (h : Mid τ W H mp dn ln ct ys yd od y mn dd o) (hd : ∀ j, dd ≤ j → j < dn → y < yd (od j)) : o = upO τ W H mp dn ln ct (y + 1) := by
  have hm := mid_map hM h (Nat.le_refl _) h.1.1 h.2.1.2
  obtain ⟨⟨p1, p2, p3⟩, ⟨q1, q2⟩, ⟨r1, r2⟩, n, hn, ho, s1, s2⟩ := h
  have e : upO τ W H mp dn ln ct (y + 1) = dsF τ (wtr τ (mapInF (τ 54 0) (nI y) mp)) (nI y) (stY τ W H mp dn ln ct y) dn := rfl
  rw [e, hm, ho]
  have hs := ds_skip hD (wt := wtr τ mn) (o := stY τ W H mp dn ln ct y) (y := y) (n := n) (k := dn - n) (by omega) (by omega) (fun d a b c => ?_)
  · rw [show n + (dn - n) = dn by omega] at hs
    exact hs.symm
  · obtain ⟨j, hj, rfl⟩ := hD.2.2.2 d (by omega)
    by_cases hjd : j < dd
    · have := s1 j hjd c
      omega
    · have := hd j (by omega) hj
      omega
theorem idle1 {τ : mS} {W H mp dn ln : Nat} {ct : Int32} {ys yd od : Nat → Nat} {t : Nat} (ht : t ≤ 200) (hM : MY τ mp ys) (hD : DY τ dn yd od) (h1 : ∀ m, 0 < m → m < mp → ¬ ys m = t) (h2 : ∀ d, d < dn → ¬ yd d = t) : upO τ W H mp dn ln ct (t + 1) = upO τ W H mp dn ln ct t := by
  have e : upO τ W H mp dn ln ct (t + 1) = dsF τ (wtr τ (mapInF (τ 54 0) (nI t) mp)) (nI t) (stY τ W H mp dn ln ct t) dn := rfl
  have hs : stI (τ 54 0) (nI t) mp = none := stI_none mp (fun m a b c => by
    rw [(hM.1 m a).1] at c
    have := (hM.1 m a).2
    exact h1 m b a (nI_inj (by omega) (by omega) c))
  have e2 : stY τ W H mp dn ln ct t = upO τ W H mp dn ln ct t := by unfold stY; rw [hs]
  have hk := ds_skip hD (wt := wtr τ (mapInF (τ 54 0) (nI t) mp)) (o := upO τ W H mp dn ln ct t) (y := t) (n := 0) (k := dn) (by omega) (by omega) (fun d _ b c => h2 d (by omega) c)
  rw [Nat.zero_add] at hk
  rw [e, e2, hk]
  rfl
theorem idle {τ : mS} {W H mp dn ln : Nat} {ct : Int32} {ys yd od : Nat → Nat} {a : Nat} (hM : MY τ mp ys) (hD : DY τ dn yd od) : ∀ b, a ≤ b → b ≤ 201 → (∀ m, 0 < m → m < mp → ys m < a ∨ b ≤ ys m) → (∀ d, d < dn → yd d < a ∨ b ≤ yd d) → upO τ W H mp dn ln ct b = upO τ W H mp dn ln ct a := by
  intro b
  induction b with
  | zero => intro h _ _ _; have : a = 0 := by omega
            rw [this]
  | succ b ih =>
    intro h hb h1 h2
    by_cases hab : a = b + 1
    · rw [hab]
    · rw [idle1 (by omega) hM hD (fun m p q r => by have := h1 m p q; omega) (fun d p q => by have := h2 d p; omega)]
      exact ih (by omega) (by omega) (fun m p q => by have := h1 m p q; omega) (fun d p => by have := h2 d p; omega)
/-- all is done up to the end of year Y -/
theorem mid_end {τ : mS} {W H mp dn ln : Nat} {ct : Int32} {ys yd od : Nat → Nat} {y mn dd : Nat} {o : Nat → Int32} (hM : MY τ mp ys) (hD : DY τ dn yd od) (h : Mid τ W H mp dn ln ct ys yd od y mn dd o) {Y : Nat} (h0 : y ≤ Y) (hY : Y ≤ 201) (h1 : ∀ m, mn < m → m < mp → Y ≤ ys m) (h2 : ∀ j, dd ≤ j → j < dn → Y ≤ yd (od j)) (hlt : y < Y) : o = upO τ W H mp dn ln ct Y := by
  have hc := mid_close hM hD h (fun j a b => by have := h2 j a b; omega)
  rw [hc]
  refine (idle hM hD Y (by omega) hY (fun m a b => ?_) (fun d a => ?_)).symm
  · by_cases hm : m ≤ mn
    · have := h.2.1.1 m a hm
      omega
    · exact Or.inr (h1 m (by omega) b)
  · obtain ⟨j, hj, rfl⟩ := hD.2.2.2 d a
    by_cases hjd : j < dd
    · have := h.2.2.1.1 j hjd
      omega
    · exact Or.inr (h2 j (by omega) hj)
theorem mid_step {τ : mS} {W H mp dn ln : Nat} {ct : Int32} {ys yd od : Nat → Nat} {y mn dd : Nat} {o : Nat → Int32} (hM : MY τ mp ys) (hD : DY τ dn yd od) (h : Mid τ W H mp dn ln ct ys yd od y mn dd o) (hlt : mn + 1 < mp) (h2 : ∀ j, dd ≤ j → j < dn → ys (mn + 1) ≤ yd (od j)) : Mid τ W H mp dn ln ct ys yd od (ys (mn + 1)) (mn + 1) dd (stepO τ W H ln (mn + 1) (nI (mn + 1) = ct) o) := by
  have hy := h.2.1.2 (mn + 1) (by omega) hlt
  have h200 := (hM.1 (mn + 1) hlt).2
  have hup := mid_end hM hD h (Y := ys (mn + 1)) (by omega) (by omega) (fun m a b => by
    by_cases q : m = mn + 1
    · rw [q]; exact Nat.le_refl _
    · have := hM.2 (mn + 1) m (by omega) b
      omega) h2 hy
  obtain ⟨⟨p1, p2, p3⟩, ⟨q1, q2⟩, ⟨r1, r2⟩, -⟩ := h
  have hs : stI (τ 54 0) (nI (ys (mn + 1))) mp = some (mn + 1) := stI_some (by omega) (hM.1 (mn + 1) hlt).1 mp hlt (fun m a b c => by
    rw [(hM.1 m (by omega)).1] at c
    have := nI_inj (by have := (hM.1 m (by omega)).2; omega) (by omega) c
    have := hM.2 m (mn + 1) a hlt
    omega)
  refine ⟨⟨h200, hlt, p3⟩, ⟨fun m a b => ?_, fun m a b => hM.2 _ _ a b⟩, ⟨fun j a => ?_, h2⟩, 0, by omega, ?_, fun j a b => ?_, fun j a b _ => by omega⟩
  · by_cases q : m = mn + 1
    · rw [q]; exact Nat.le_refl _
    · have := q1 m a (by omega)
      omega
  · have := r1 j a
    omega
  · show _ = stY τ W H mp dn ln ct (ys (mn + 1))
    unfold stY
    rw [hs, hup]
  · have := r1 j a
    omega
theorem mid_year {τ : mS} {W H mp dn ln : Nat} {ct : Int32} {ys yd od : Nat → Nat} {y mn dd : Nat} {o : Nat → Int32} (hM : MY τ mp ys) (hD : DY τ dn yd od) (h : Mid τ W H mp dn ln ct ys yd od y mn dd o) {Y : Nat} (hlt : y < Y) (hY : Y ≤ 200) (h1 : ∀ m, mn < m → m < mp → Y < ys m) (h2 : ∀ j, dd ≤ j → j < dn → Y ≤ yd (od j)) : Mid τ W H mp dn ln ct ys yd od Y mn dd o := by
  have hup := mid_end hM hD h (Y := Y) (by omega) (by omega) (fun m a b => Nat.le_of_lt (h1 m a b)) h2 hlt
  obtain ⟨⟨p1, p2, p3⟩, ⟨q1, q2⟩, ⟨r1, r2⟩, -⟩ := h
  have hs : stI (τ 54 0) (nI Y) mp = none := stI_none mp (fun m a b c => by
    rw [(hM.1 m a).1] at c
    have := nI_inj (by have := (hM.1 m a).2; omega) (by omega) c
    by_cases q : m ≤ mn
    · have := q1 m b q
      omega
    · have := h1 m (by omega) a
      omega)
  refine ⟨⟨hY, p2, p3⟩, ⟨fun m a b => ?_, h1⟩, ⟨fun j a => ?_, h2⟩, 0, by omega, ?_, fun j a b => ?_, fun j a b _ => by omega⟩
  · have := q1 m a b
    omega
  · have := r1 j a
    omega
  · show _ = stY τ W H mp dn ln ct Y
    unfold stY
    rw [hs, hup]
  · have := r1 j a
    omega
theorem mid_deed0 {τ : mS} {W H mp dn ln : Nat} {ct : Int32} {ys yd od : Nat → Nat} {y mn dd : Nat} {o : Nat → Int32} (hD : DY τ dn yd od) (h : Mid τ W H mp dn ln ct ys yd od y mn dd o) (hdd : dd < dn) (hy : yd (od dd) = y) : Mid τ W H mp dn ln ct ys yd od y mn (dd + 1) (deO τ (wtr τ mn) (od dd) o) := by
  obtain ⟨⟨p1, p2, p3⟩, q, ⟨r1, r2⟩, n, hn, ho, s1, s2⟩ := h
  have hod := hD.2.1 dd hdd
  have hno := s2 dd (Nat.le_refl _) hdd hy
  refine ⟨⟨p1, p2, by omega⟩, q, ⟨fun j a => ?_, fun j a b => r2 j (by omega) b⟩, od dd + 1, by omega, ?_, fun j a b => ?_, fun j a b c => ?_⟩
  · by_cases hj : j = dd
    · rw [hj, hy]; exact Nat.le_refl _
    · exact r1 j (by omega)
  · rw [ds_take hD hod hy, ho]
    have hs := ds_skip hD (wt := wtr τ mn) (o := stY τ W H mp dn ln ct y) (y := y) (n := n) (k := od dd - n) (by omega) (by omega) (fun d a b c => ?_)
    · rw [show n + (od dd - n) = od dd by omega] at hs
      rw [hs]
    · obtain ⟨j, hj, rfl⟩ := hD.2.2.2 d (by omega)
      by_cases h1 : j < dd
      · have := s1 j h1 c
        omega
      · by_cases h2 : j = dd
        · rw [h2] at b; omega
        · have := hD.2.2.1 dd j (by omega) hj
          omega
  · by_cases hj : j = dd
    · rw [hj]; omega
    · have := s1 j (by omega) b
      omega
  · have := hD.2.2.1 dd j (by omega) b
    omega
theorem mid_deed {τ : mS} {W H mp dn ln : Nat} {ct : Int32} {ys yd od : Nat → Nat} {y mn dd : Nat} {o : Nat → Int32} (hM : MY τ mp ys) (hD : DY τ dn yd od) (h : Mid τ W H mp dn ln ct ys yd od y mn dd o) (hdd : dd < dn) (h1 : ∀ m, mn < m → m < mp → yd (od dd) < ys m) : Mid τ W H mp dn ln ct ys yd od (yd (od dd)) mn (dd + 1) (deO τ (wtr τ mn) (od dd) o) := by
  by_cases hy : yd (od dd) = y
  · rw [← hy] at h
    exact mid_deed0 hD h hdd rfl
  · have h2 := h.2.2.1.2 dd (Nat.le_refl _) hdd
    have h3 := mid_year hM hD h (Y := yd (od dd)) (by omega) (hD.1 _ (hD.2.1 dd hdd)).2 h1 (fun j a b => by
      by_cases q : j = dd
      · rw [q]; exact Nat.le_refl _
      · have := hD.2.2.1 dd j (by omega) b
        omega)
    exact mid_deed0 hD h3 hdd rfl
