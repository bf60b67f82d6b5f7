/-! the helpers, taken apart -/
theorem k1_inv {st : List mV} {K : Int32 → List mV → Prop} (h : k1 st K) : ∃ x r, st = .inl x :: r ∧ K x r := by
  unfold k1 at h
  split at h
  · exact ⟨_, _, rfl, h⟩
  · exact h.elim
theorem k2_inv {st : List mV} {K : Int32 → Int32 → List mV → Prop} (h : k2 st K) : ∃ x y r, st = .inl y :: .inl x :: r ∧ K x y r := by
  unfold k2 at h
  split at h
  · exact ⟨_, _, _, rfl, h⟩
  · exact h.elim
theorem bif_f {z : Bool} {P : Prop} (h : bif z then False else P) : z = false ∧ P := by
  cases z
  · exact ⟨rfl, h⟩
  · exact h.elim
theorem bif_t {z : Bool} {P : Prop} (h : bif z then P else False) : z = true ∧ P := by
  cases z
  · exact h.elim
  · exact ⟨rfl, h⟩
theorem kA_inv {st : List mV} {z : Bool} {K : Nat → Nat → Nat → Int32 → List mV → Prop} (h : kA st z K) : ∃ g i n j r, st = .inl j :: .inr (.inr (g, i)) :: r ∧ shp g = some (.inr (.inl (z, n))) ∧ K g i n j r := by
  unfold kA at h
  split at h
  · split at h
    · rename_i z' n hs
      obtain ⟨h1, h2⟩ := bif_f h
      have : z' = z := by cases z' <;> cases z <;> first | rfl | cases h1
      subst this
      exact ⟨_, _, _, _, _, rfl, hs, h2⟩
    · exact h.elim
  · exact h.elim
theorem kS_inv {st : List mV} {z : Bool} {K : Nat → Nat → Nat → Int32 → Int32 → List mV → Prop} (h : kS st z K) : ∃ g i n j v r, st = .inl v :: .inl j :: .inr (.inr (g, i)) :: r ∧ shp g = some (.inr (.inl (z, n))) ∧ K g i n j v r := by
  unfold kS at h
  split at h
  · obtain ⟨g, i, n, j, r, rfl, hs, hk⟩ := kA_inv h
    exact ⟨_, _, _, _, _, _, rfl, hs, hk⟩
  · exact h.elim
theorem kO_inv {st : List mV} {K : Nat → Nat → Nat → List (Option Nat) → List mV → Prop} (h : kO st K) : ∃ g i c fs r, st = .inr (.inr (g, i)) :: r ∧ shp g = some (.inl (c, fs)) ∧ K g i c fs r := by
  unfold kO at h
  split at h
  · split at h
    · rename_i hs
      exact ⟨_, _, _, _, _, rfl, hs, h⟩
    · exact h.elim
  · exact h.elim
theorem kop_inv {α : Type} {o : Option α} {K : α → Prop} (h : kop o K) : ∃ v, o = some v ∧ K v := by
  unfold kop at h
  split at h
  · exact ⟨_, rfl, h⟩
  · exact h.elim
theorem kiv_inv {v : mV} {K : Int32 → Prop} (h : kiv v K) : ∃ x, v = .inl x ∧ K x := by
  unfold kiv at h
  split at h
  · exact ⟨_, rfl, h⟩
  · exact h.elim
theorem kjv_inv {v : mV} {K : Int64 → Prop} (h : kjv v K) : ∃ x, v = .inr (.inl x) ∧ K x := by
  unfold kjv at h
  split at h
  · exact ⟨_, rfl, h⟩
  · exact h.elim
theorem krv_inv {v : mV} {K : Nat × Nat → Prop} (h : krv v K) : ∃ x, v = .inr (.inr x) ∧ K x := by
  unfold krv at h
  split at h
  · exact ⟨_, rfl, h⟩
  · exact h.elim
theorem kR_inv {st : List mV} {K : Nat × Nat → List mV → Prop} (h : kR st K) : ∃ x r, st = .inr (.inr x) :: r ∧ K x r := by
  unfold kR at h
  split at h
  · exact ⟨_, _, rfl, h⟩
  · exact h.elim
theorem kJJ_inv {st : List mV} {K : Int64 → Int64 → List mV → Prop} (h : kJJ st K) : ∃ x y r, st = .inr (.inl y) :: .inr (.inl x) :: r ∧ K x y r := by
  unfold kJJ at h
  split at h
  · exact ⟨_, _, _, rfl, h⟩
  · exact h.elim
theorem kr1_inv {st : List mV} {K : Int32 → Prop} (h : kr1 st K) : ∃ x, st = [.inl x] ∧ K x := by
  unfold kr1 at h
  split at h
  · exact ⟨_, rfl, h⟩
  · exact h.elim
theorem kr2_inv {st : List mV} {K : Nat × Nat → Prop} (h : kr2 st K) : ∃ x, st = [.inr (.inr x)] ∧ K x := by
  unfold kr2 at h
  split at h
  · exact ⟨_, rfl, h⟩
  · exact h.elim
theorem kr0_inv {st : List mV} {K : Prop} (h : kr0 st K) : st = [] ∧ K := by
  unfold kr0 at h
  split at h
  · exact ⟨rfl, h⟩
  · exact h.elim
theorem kdp_inv {st : List mV} {K : mV → List mV → Prop} (h : kdp st K) : ∃ v r, st = v :: r ∧ (∀ x, v ≠ .inr (.inl x)) ∧ K v r := by
  unfold kdp at h
  split at h
  · exact ⟨_, _, rfl, fun _ q => (by cases q), h⟩
  · exact ⟨_, _, rfl, fun _ q => (by cases q), h⟩
  · exact h.elim
theorem kQ_inv {st : List mV} {K : Nat → Nat → Int32 → List mV → Prop} (h : kQ st K) : ∃ g i g' n j r, st = .inl j :: .inr (.inr (g, i)) :: r ∧ shp g = some (.inr (.inr (g', n))) ∧ K g' n j r := by
  unfold kQ at h
  split at h
  · split at h
    · rename_i hs
      exact ⟨_, _, _, _, _, _, rfl, hs, h⟩
    · exact h.elim
  · exact h.elim
theorem kN_inv {st : List mV} {K : Nat → List mV → Prop} (h : kN st K) : ∃ g i z n r, st = .inr (.inr (g, i)) :: r ∧ shp g = some (.inr (.inl (z, n))) ∧ K n r := by
  unfold kN at h
  split at h
  · split at h
    · rename_i hs
      exact ⟨_, _, _, _, _, rfl, hs, h⟩
    · exact h.elim
  · exact h.elim
theorem kfs_inv {fs : List (Option Nat)} {f : Nat} {K : Prop} {K' : Nat → Prop} (h : kfs fs f K K') : (fs[f]? = some none ∧ K) ∨ ∃ g', fs[f]? = some (some g') ∧ K' g' := by
  unfold kfs at h
  split at h
  · rename_i hs
    exact Or.inl ⟨hs, h⟩
  · rename_i hs
    exact Or.inr ⟨_, hs, h⟩
  · exact h.elim
theorem kcp_inv {st : List mV} {K : Nat → Nat → Nat → Nat → Nat → Nat → Int32 → Int32 → Int32 → Prop} (h : kcp st K) : ∃ g i n0 g' i' n1 sp dp n, st = [.inl n, .inl dp, .inr (.inr (g', i')), .inl sp, .inr (.inr (g, i))] ∧ shp g = some (.inr (.inl (false, n0))) ∧ shp g' = some (.inr (.inl (false, n1))) ∧ K g i n0 g' i' n1 sp dp n := by
  unfold kcp at h
  split at h
  · split at h
    · rename_i h1 h2
      exact ⟨_, _, _, _, _, _, _, _, _, rfl, h1, h2, h⟩
    · exact h.elim
  · exact h.elim
theorem kld_inv {L : mL} {i : Nat} {K : mV → Prop} (h : kld L i K) : ∃ v, L[i]? = some (some v) ∧ K v := by
  unfold kld at h
  split at h
  · rename_i hs
    exact ⟨_, hs, h⟩
  · exact h.elim
theorem ktk_inv {K : List mV → List mV → Prop} : ∀ (n : Nat) (st a : List mV), ktk n st a K → ∃ x r, st = x ++ r ∧ x.length = n ∧ K (x.reverse ++ a) r
  | 0, st, a, h => ⟨[], st, rfl, rfl, h⟩
  | n + 1, v :: st, a, h => by
    obtain ⟨x, r, h1, h2, h3⟩ := ktk_inv n st (v :: a) h
    exact ⟨v :: x, r, by rw [h1]; rfl, by simp [h2], by simpa using h3⟩
  | n + 1, [], _, h => h.elim
theorem and_t {x y : Bool} (h : (x && y) = true) : x = true ∧ y = true := by simpa using h
theorem bq {x y : Nat} (h : Nat.beq x y = true) : x = y := Nat.eq_of_beq_eq_true h
theorem blt_lt {x y : Nat} (h : Nat.blt x y = true) : x < y := Nat.le_of_ble_eq_true h
theorem vok_cons {b : Bool} {v : mV} {st : List mV} (h : vok b v) (hs : ∀ w ∈ st, vok b w) : ∀ w ∈ v :: st, vok b w := List.forall_mem_cons.mpr ⟨h, hs⟩
theorem vok_tail {b : Bool} {v : mV} {st : List mV} (hs : ∀ w ∈ v :: st, vok b w) : ∀ w ∈ st, vok b w := (List.forall_mem_cons.mp hs).2
theorem vok_head {b : Bool} {v : mV} {st : List mV} (hs : ∀ w ∈ v :: st, vok b w) : vok b v := (List.forall_mem_cons.mp hs).1
theorem vok_st {b : Bool} {L : mL} {i : Nat} {v : mV} (hL : ∀ w, some w ∈ L → vok b w) (hv : vok b v) : ∀ w, some w ∈ mst L i v → vok b w := by
  intro w hw
  obtain ⟨j, hj⟩ := List.getElem?_of_mem hw
  rcases mst_get hj with ⟨-, e⟩ | ⟨-, e, -⟩
  · rw [e]; exact hv
  · exact hL w (List.mem_of_getElem? e)
theorem lcn_ok {c idx : Nat} {v : Int64} (h : lcn c idx = some v) : Cond.constantLong (onm c) idx v ∈ mw := by
  unfold lcn at h
  cases h1 : Nat.ble 10 c with
  | true => rw [h1] at h; cases h
  | false =>
    rw [h1] at h
    cases h2 : Nat.ble 300 idx with
    | true => rw [h2] at h; cases h
    | false =>
      rw [h2] at h
      have h : lcnb c idx = some v := h
      have hc : c < 10 := Nat.lt_of_not_le fun q => by rw [Nat.ble_eq_true_of_le q] at h1; cases h1
      have hi : idx < 300 := Nat.lt_of_not_le fun q => by rw [Nat.ble_eq_true_of_le q] at h2; cases h2
      have h3 := List.all_eq_true.mp (List.all_eq_true.mp okL_all c (List.mem_range.mpr hc)) idx (List.mem_range.mpr hi)
      unfold okL at h3
      rw [h] at h3
      dsimp only at h3
      obtain ⟨w, hw, h4⟩ := List.any_eq_true.mp h3
      obtain ⟨h5, h6⟩ := and_t h4
      have h5 := of_decide_eq_true h5
      subst h5
      exact List.mem_filter.mpr ⟨hw, h6⟩
theorem mth_ok {c idx : Nat} {q : Bool × Nat × Nat} (h : mth c idx = some q) : okM c idx = true ∧ mthb c idx = some q := by
  unfold mth at h
  cases h1 : Nat.ble 10 c with
  | true => rw [h1] at h; cases h
  | false =>
    rw [h1] at h
    cases h2 : Nat.ble 300 idx with
    | true => rw [h2] at h; cases h
    | false =>
      rw [h2] at h
      have h : mthb c idx = some q := h
      have hc : c < 10 := Nat.lt_of_not_le fun q => by rw [Nat.ble_eq_true_of_le q] at h1; cases h1
      have hi : idx < 300 := Nat.lt_of_not_le fun q => by rw [Nat.ble_eq_true_of_le q] at h2; cases h2
      exact ⟨List.all_eq_true.mp (List.all_eq_true.mp okM_all c (List.mem_range.mpr hc)) idx (List.mem_range.mpr hi), h⟩
theorem codeW {j : Nat} (h : j < 146) : Cond.code (ycd j) (bcd j) (mml j) (rcd j) ∈ mw := List.mem_filter.mpr ⟨cdw_all h, rfl⟩
