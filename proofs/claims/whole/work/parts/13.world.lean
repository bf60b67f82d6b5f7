/-! THE SMALL MACHINE's CELLS IN THE REAL HEAP -/
def mval (ad : Nat → Nat → Nat) : mV → Value
  | .inl x => .int x
  | .inr (.inl x) => .long x
  | .inr (.inr q) => .ref (ad q.1 q.2)
def mfd (ad : Nat → Nat → Nat) (i : Nat) (f : Nat → Int32) (fs : List (Option Nat)) : List Value := fs.mapIdx (fun j o => match o with
  | none => Value.int (f j)
  | some g' => Value.ref (ad g' i))
def mcell (ad : Nat → Nat → Nat) (cI cZ cL : ClassId) (g i : Nat) (f : Nat → Int32) : va_E := match shp g with
  | some (.inl (c, fs)) => .inr (c, mfd ad i f fs)
  | some (.inr (.inl (b, n))) => .inl (bif b then cZ else cI, n, .inl f)
  | some (.inr (.inr (g', n))) => .inl (cL, n, .inr (.inr (.inr (.inr (fun j => some (ad g' j))))))
  | none => .inr (0, [])
def wld (ad : Nat → Nat → Nat) (cI cZ cL : ClassId) (b : Bool) (σ : mS) : va_W := (mcs b).map (fun q => (ad q.1 q.2, mcell ad cI cZ cL q.1 q.2 (σ q.1 q.2)))
abbrev mtys (cI cZ cL : ClassId) : List (ClassId × FieldType) := [(cI, .int), (cZ, .boolean), (cL, .object RX4)]
def vok (b : Bool) : mV → Prop
  | .inl _ => True
  | .inr (.inl _) => True
  | .inr (.inr q) => q ∈ mcs b
section WLD
variable {ad : Nat → Nat → Nat} {cI cZ cL : ClassId} {b : Bool} {σ : mS}
theorem wld_at {g i : Nat} (h : (g, i) ∈ mcs b) : ∃ q0 : Nat, (mcs b)[q0]? = some (g, i) ∧ (wld ad cI cZ cL b σ)[q0]? = some (ad g i, mcell ad cI cZ cL g i (σ g i)) := by
  obtain ⟨q0, hq⟩ := List.getElem?_of_mem h
  exact ⟨q0, hq, by unfold wld; rw [List.getElem?_map, hq]; rfl⟩
theorem nd_at {l : List (Nat × Nat)} (h : l.Nodup) {i j : Nat} {x : Nat × Nat} (hi : l[i]? = some x) (hj : l[j]? = some x) : i = j := by
  obtain ⟨h1, e1⟩ := List.getElem?_eq_some_iff.mp hi
  obtain ⟨h2, e2⟩ := List.getElem?_eq_some_iff.mp hj
  have hp := List.pairwise_iff_getElem.mp h
  rcases Nat.lt_trichotomy i j with q | q | q
  · exact absurd (e1.trans e2.symm) (hp i j h1 h2 q)
  · exact q
  · exact absurd (e2.trans e1.symm) (hp j i h2 h1 q)
theorem wld_set {q0 g i : Nat} (h : (mcs b)[q0]? = some (g, i)) (f : Nat → Int32) : (wld ad cI cZ cL b σ).set q0 (ad g i, mcell ad cI cZ cL g i f) = wld ad cI cZ cL b (mput σ g i f) := by
  have hl : q0 < (mcs b).length := (List.getElem?_eq_some_iff.mp h).1
  apply List.ext_getElem?
  intro j
  by_cases hj : j = q0
  · subst hj
    rw [List.getElem?_set_self (by unfold wld; rw [List.length_map]; exact hl)]
    unfold wld
    rw [List.getElem?_map, h]
    simp only [Option.map_some, mput_eq]
  · rw [List.getElem?_set_ne (Ne.symm hj)]
    unfold wld
    rw [List.getElem?_map, List.getElem?_map]
    cases hx : (mcs b)[j]? with
    | none => rfl
    | some x =>
      have hne : x.1 ≠ g ∨ x.2 ≠ i := by
        by_cases h1 : x.1 = g
        · refine Or.inr fun h2 => hj ?_
          exact nd_at (mcs_nd b) hx (by rw [h, ← h1, ← h2])
        · exact Or.inl h1
      simp only [Option.map_some, mput_ne σ g i f hne]
theorem wld_D {A : Nat → Prop} {σ' : mS} (h : va_D A (wld ad cI cZ cL b σ)) : va_D A (wld ad cI cZ cL b σ') := by
  have key : ∀ (k : Nat) (q : Nat × va_E), (wld ad cI cZ cL b σ')[k]? = some q → ∃ q' : Nat × va_E, (wld ad cI cZ cL b σ)[k]? = some q' ∧ q'.1 = q.1 := by
    intro k q hq
    unfold wld at hq ⊢
    rw [List.getElem?_map] at hq ⊢
    cases hx : (mcs b)[k]? with
    | none => rw [hx] at hq; cases hq
    | some x =>
      rw [hx] at hq
      cases hq
      exact ⟨_, rfl, rfl⟩
  refine ⟨fun i j x y hi hj hxy => ?_, fun k q hk => ?_⟩
  · obtain ⟨x0, h1, h2⟩ := key i x hi
    obtain ⟨y0, h3, h4⟩ := key j y hj
    exact h.1 i j x0 y0 h1 h3 (h2.trans (hxy.trans h4.symm))
  · obtain ⟨q0, h1, h2⟩ := key k q hk
    rw [← h2]
    exact h.2 k q0 h1
theorem wld_A {sz : Nat} {σ' : mS} (q : Nat) : va_A (wld ad cI cZ cL b σ) sz q ↔ va_A (wld ad cI cZ cL b σ') sz q := by
  have key : ∀ σ σ' : mS, va_A (wld ad cI cZ cL b σ) sz q → va_A (wld ad cI cZ cL b σ') sz q := by
    intro σ σ' h
    rcases h with ⟨k, e, h⟩ | h
    · unfold wld at h
      rw [List.getElem?_map] at h
      cases hx : (mcs b)[k]? with
      | none => rw [hx] at h; cases h
      | some x =>
        rw [hx] at h
        simp only [Option.map_some, Option.some.injEq, Prod.mk.injEq] at h
        refine Or.inl ⟨k, mcell ad cI cZ cL x.1 x.2 (σ' x.1 x.2), ?_⟩
        unfold wld
        rw [List.getElem?_map, hx, ← h.1]
        rfl
    · exact Or.inr h
  exact ⟨key σ σ', key σ' σ⟩
theorem mcell_obj {g i c : Nat} {fs : List (Option Nat)} (h : shp g = some (.inl (c, fs))) (f : Nat → Int32) : mcell ad cI cZ cL g i f = .inr (c, mfd ad i f fs) := by unfold mcell; rw [h]
theorem mcell_arr {g i n : Nat} {z : Bool} (h : shp g = some (.inr (.inl (z, n)))) (f : Nat → Int32) : mcell ad cI cZ cL g i f = .inl (bif z then cZ else cI, n, .inl f) := by unfold mcell; rw [h]
theorem mcell_ref {g i g' n : Nat} (h : shp g = some (.inr (.inr (g', n)))) (f : Nat → Int32) : mcell ad cI cZ cL g i f = .inl (cL, n, .inr (.inr (.inr (.inr (fun j => some (ad g' j)))))) := by unfold mcell; rw [h]
theorem mfd_get {i k : Nat} {f : Nat → Int32} {fs : List (Option Nat)} : (mfd ad i f fs)[k]? = fs[k]?.map (fun o => match o with
    | none => Value.int (f k)
    | some g' => Value.ref (ad g' i)) := by unfold mfd; rw [List.getElem?_mapIdx]
theorem mfd_set {i k : Nat} {f : Nat → Int32} {fs : List (Option Nat)} (h : fs[k]? = some none) (v : Int32) : (mfd ad i f fs).set k (.int v) = mfd ad i (upd f k v) fs := by
  have hl : k < fs.length := (List.getElem?_eq_some_iff.mp h).1
  apply List.ext_getElem?
  intro j
  by_cases hj : j = k
  · subst hj
    rw [List.getElem?_set_self (by unfold mfd; rw [List.length_mapIdx]; exact hl), mfd_get, h]
    simp [upd]
  · rw [List.getElem?_set_ne (Ne.symm hj), mfd_get, mfd_get]
    cases fs[j]? with
    | none => rfl
    | some o => cases o <;> simp [upd, hj]
theorem mfd_len {i : Nat} {f : Nat → Int32} {fs : List (Option Nat)} : (mfd ad i f fs).length = fs.length := by unfold mfd; rw [List.length_mapIdx]
end WLD
theorem shp_lt {g : Nat} {x : mSh} (h : shp g = some x) : g < 100 ∧ shpb g = some x := by
  unfold shp at h
  cases h1 : Nat.ble 100 g with
  | true => rw [h1] at h; cases h
  | false =>
    rw [h1] at h
    exact ⟨Nat.lt_of_not_le fun q => (by rw [Nat.ble_eq_true_of_le q] at h1; cases h1), h⟩
/-- an object's class, and what its fields are -/
theorem shp_obj {g c : Nat} {fs : List (Option Nat)} (h : shp g = some (.inl (c, fs))) : ∃ q : vw_C, cls[c]? = some q ∧ fs.length = q.2.2 ∧ ∀ f, fs[f]? = some none → (q.2.1 f).2.2.2 = false ∧ parseFieldDescriptor (q.2.1 f).2.2.1 = some .int := by
  obtain ⟨h1, h2⟩ := shp_lt h
  have h3 := List.all_eq_true.mp okS_all g (List.mem_range.mpr h1)
  unfold okS at h3
  rw [h2] at h3
  dsimp only at h3
  cases hc : cls[c]? with
  | none => rw [hc] at h3; cases h3
  | some q =>
    obtain ⟨C, T, N⟩ := q
    rw [hc] at h3
    simp only [Bool.and_eq_true] at h3
    refine ⟨_, rfl, Nat.eq_of_beq_eq_true h3.1, fun f hf => ?_⟩
    have hlf : f < N := by
      rw [← Nat.eq_of_beq_eq_true h3.1]
      exact (List.getElem?_eq_some_iff.mp hf).1
    have h4 := List.all_eq_true.mp h3.2 f (List.mem_range.mpr hlf)
    rw [hf] at h4
    simp only [Bool.and_eq_true, decide_eq_true_eq, Bool.not_eq_true'] at h4
    exact h4
theorem vok_fld {b : Bool} {g i c f g' : Nat} {fs : List (Option Nat)} (h : (g, i) ∈ mcs b) (hs : shp g = some (.inl (c, fs))) (hf : fs[f]? = some (some g')) : (g', i) ∈ mcs b := by
  have h1 := List.all_eq_true.mp (okW_all b) _ h
  unfold okW at h1
  rw [hs] at h1
  have h2 := List.all_eq_true.mp h1 _ (List.mem_of_getElem? hf)
  simpa using h2
theorem vok_ref {b : Bool} {g i g' n j : Nat} (h : (g, i) ∈ mcs b) (hs : shp g = some (.inr (.inr (g', n)))) (hj : j < n) : (g', j) ∈ mcs b := by
  have h1 := List.all_eq_true.mp (okW_all b) _ h
  unfold okW at h1
  rw [hs] at h1
  have h2 := List.all_eq_true.mp h1 _ (List.mem_range.mpr hj)
  simpa using h2
theorem fld_ok {c idx ci f : Nat} (h : fld c idx = some (ci, f)) : ∃ q : vw_C, cls[ci]? = some q ∧ f < q.2.2 ∧ Cond.fieldLink (onm c) idx (q.2.1 f).1 (q.2.1 f).2.1 (q.2.1 f).2.2.1 ∈ mw := by
  unfold fld at h
  cases h1 : Nat.ble 10 c with
  | true => rw [h1] at h; cases h
  | false =>
    rw [h1] at h
    cases h2 : Nat.ble 300 idx with
    | true => rw [h2] at h; cases h
    | false =>
      rw [h2] at h
      have h : fldb c idx = some (ci, f) := h
      have hc : c < 10 := Nat.lt_of_not_le fun q => by rw [Nat.ble_eq_true_of_le q] at h1; cases h1
      have hi : idx < 300 := Nat.lt_of_not_le fun q => by rw [Nat.ble_eq_true_of_le q] at h2; cases h2
      have h3 := List.all_eq_true.mp (List.all_eq_true.mp okF_all c (List.mem_range.mpr hc)) idx (List.mem_range.mpr hi)
      unfold okF at h3
      rw [h] at h3
      dsimp only at h3
      cases hcl : cls[ci]? with
      | none => rw [hcl] at h3; cases h3
      | some q =>
        obtain ⟨C, T, N⟩ := q
        rw [hcl] at h3
        simp only [Bool.and_eq_true] at h3
        exact ⟨_, rfl, Nat.lt_of_lt_of_le (Nat.lt_succ_self f) (Nat.le_of_ble_eq_true h3.1), inW_mw h3.2⟩
theorem cls_ok {ci : Nat} {q : vw_C} (h : cls[ci]? = some q) : (∀ w ∈ u_ws q.1 q.2.1 q.2.2, w ∈ mw) ∧ (∃ ty0 : Nat → FieldType, ∀ k, k < q.2.2 → parseFieldDescriptor (q.2.1 k).2.2.1 = some (ty0 k)) ∧ ∀ a, a < q.2.2 → ∀ b, b < q.2.2 → a ≠ b → (q.2.1 a).2.1 ≠ (q.2.1 b).2.1 := by
  have hl : ci < 9 := (List.getElem?_eq_some_iff.mp h).1
  refine ⟨?_, ?_⟩
  · have h1 := List.all_eq_true.mp okY_all ci (List.mem_range.mpr hl)
    unfold okY at h1
    rw [h] at h1
    obtain ⟨C, T, N⟩ := q
    cases hy : lyi[ci]? with
    | none => rw [hy] at h1; cases h1
    | some is =>
      rw [hy] at h1
      simp only [Bool.and_eq_true] at h1
      intro w hw
      obtain ⟨f, hf, rfl⟩ := List.mem_map.mp hw
      exact inW_mw (List.all_eq_true.mp h1.2 f hf)
  · match ci, hl, h with
    | 0, _, h => cases h; exact ⟨⟨tyX0, tyX0_ok⟩, nmX0⟩
    | 1, _, h => cases h; exact ⟨⟨tyX1, tyX1_ok⟩, nmX1⟩
    | 2, _, h => cases h; exact ⟨⟨tyX2, tyX2_ok⟩, nmX2⟩
    | 3, _, h => cases h; exact ⟨⟨tyX3, tyX3_ok⟩, nmX3⟩
    | 4, _, h => cases h; exact ⟨⟨tyX4, tyX4_ok⟩, nmX4⟩
    | 5, _, h => cases h; exact ⟨⟨tyX5, tyX5_ok⟩, nmX5⟩
    | 6, _, h => cases h; exact ⟨⟨tyX6, tyX6_ok⟩, nmX6⟩
    | 7, _, h => cases h; exact ⟨⟨tyX7, tyX7_ok⟩, nmX7⟩
    | 8, _, h => cases h; exact ⟨⟨tyX8, tyX8_ok⟩, nmX8⟩
    | n + 9, hl, _ => exact absurd hl (by omega)
/-! locals -/
def prs (ad : Nat → Nat → Nat) (L : mL) : List (Nat × Value) := (List.range L.length).filterMap (fun i => (L.getD i none).map (fun v => (i, mval ad v)))
theorem prs_mem {ad : Nat → Nat → Nat} {L : mL} {q : Nat × Value} : q ∈ prs ad L ↔ ∃ v, L[q.1]? = some (some v) ∧ q.2 = mval ad v := by
  unfold prs
  rw [List.mem_filterMap]
  constructor
  · rintro ⟨i, hi, h⟩
    rw [List.getD_eq_getElem?_getD] at h
    cases hx : L[i]? with
    | none => rw [hx] at h; cases h
    | some o =>
      rw [hx] at h
      cases o with
      | none => cases h
      | some v => cases h; exact ⟨v, hx, rfl⟩
  · rintro ⟨v, h1, h2⟩
    refine ⟨q.1, List.mem_range.mpr (List.getElem?_eq_some_iff.mp h1).1, ?_⟩
    rw [List.getD_eq_getElem?_getD, h1]
    simp [← h2]
def lvk (ad : Nat → Nat → Nat) (ls : Array Slot) (L : mL) : Prop := lv_has ls L.length (prs ad L)
theorem lvk_at {ad : Nat → Nat → Nat} {ls : Array Slot} {L : mL} (h : lvk ad ls L) {i : Nat} {v : mV} (hi : L[i]? = some (some v)) : ls[i]? = some (.val (mval ad v)) := h.2.2 (i, mval ad v) (prs_mem.mpr ⟨v, hi, rfl⟩)
theorem mdrop_len (L : mL) (i : Nat) : (mdrop L i).length = L.length := by
  cases i with
  | zero => rfl
  | succ i =>
    show (mdrop1 L i).length = L.length
    unfold mdrop1
    split <;> simp
theorem mst_len (L : mL) (i : Nat) (v : mV) : (mst L i v).length = L.length := by
  unfold mst
  rw [List.length_set, mdrop_len]
theorem mdrop_get {L : mL} {i j : Nat} {w : mV} (h : (mdrop L i)[j]? = some (some w)) : L[j]? = some (some w) ∧ (j + 1 = i → ∀ x, w ≠ .inr (.inl x)) := by
  cases i with
  | zero => exact ⟨h, fun q => absurd q (by omega)⟩
  | succ i =>
    replace h : (mdrop1 L i)[j]? = some (some w) := h
    unfold mdrop1 at h
    split at h
    · rename_i x hx
      by_cases hj : j = i
      · subst hj
        rw [List.getElem?_set_self (List.getElem?_eq_some_iff.mp hx).1] at h
        cases h
      · rw [List.getElem?_set_ne (Ne.symm hj)] at h
        exact ⟨h, fun q => absurd (Nat.succ.inj q) hj⟩
    · rename_i hx
      refine ⟨h, fun q x e => ?_⟩
      have : j = i := by omega
      subst this
      subst e
      exact hx x h
theorem mst_get {L : mL} {i j : Nat} {v w : mV} (h : (mst L i v)[j]? = some (some w)) : (j = i ∧ w = v) ∨ (j ≠ i ∧ L[j]? = some (some w) ∧ (j + 1 = i → ∀ x, w ≠ .inr (.inl x))) := by
  unfold mst at h
  by_cases hj : j = i
  · subst hj
    have hl := (List.getElem?_eq_some_iff.mp h).1
    rw [List.length_set] at hl
    rw [List.getElem?_set_self hl] at h
    simp only [Option.some.injEq] at h
    exact Or.inl ⟨rfl, h.symm⟩
  · rw [List.getElem?_set_ne (Ne.symm hj)] at h
    obtain ⟨h1, h2⟩ := mdrop_get h
    exact Or.inr ⟨hj, h1, h2⟩
theorem mval_cat {ad : Nat → Nat → Nat} {w : mV} (h : ∀ x, w ≠ .inr (.inl x)) : (mval ad w).category = 1 := by
  rcases w with x | x | x
  · rfl
  · exact absurd rfl (h x)
  · rfl
/-- behind a store: what is known of the locals -/
theorem lvk_store {ad : Nat → Nat → Nat} {ls' : Array Slot} {L : mL} {i : Nat} {v : mV} {nL : Nat} (hn : nL = L.length) (h : lv_has ls' nL ((i, mval ad v) :: (prs ad L).filter (fun q => !(q.1 == i) && !(q.1 + 1 == i && q.2.category == 2)))) : lvk ad ls' (mst L i v) := by
  refine ⟨by rw [mst_len, ← hn]; exact h.1, h.2.1, fun q hq => ?_⟩
  obtain ⟨w, h1, h2⟩ := prs_mem.mp hq
  rcases mst_get h1 with ⟨e1, e2⟩ | ⟨n1, e1, e2⟩
  · have : q = (i, mval ad v) := by rw [← e2, ← h2, ← e1]
    rw [this]
    exact h.2.2 _ List.mem_cons_self
  · refine h.2.2 q (List.mem_cons_of_mem _ (List.mem_filter.mpr ⟨prs_mem.mpr ⟨w, e1, h2⟩, ?_⟩))
    by_cases hj : q.1 + 1 = i
    · simp [n1, h2, mval_cat (e2 hj)]
    · simp [n1, hj]
