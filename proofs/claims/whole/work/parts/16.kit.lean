/-! TOOLS for methods of the small machine -/
theorem call_of {k : Nat} {a : List mV} {σ σ' : mS} {v : Option mV} {K : Option mV → mS → Prop} (h : Ev k a σ (fun r s => r = v ∧ s = σ')) (hk : K v σ') : ∃ post : Option mV → mS → Prop, Ev k a σ post ∧ ∀ r s, post r s → K r s :=
  ⟨_, h, fun r s ⟨e1, e2⟩ => by rw [e1, e2]; exact hk⟩
theorem call_ex {k : Nat} {a : List mV} {σ : mS} {post : Option mV → mS → Prop} {K : Option mV → mS → Prop} (h : Ev k a σ post) (hk : ∀ r s, post r s → K r s) : ∃ post : Option mV → mS → Prop, Ev k a σ post ∧ ∀ r s, post r s → K r s := ⟨_, h, hk⟩
/-- a loop that counts up -/
theorem loop_up {G : mK} (pc N : Nat) (L : Nat → mL) (S : Nat → mS) (hs : ∀ i, i < N → G pc (L (i + 1)) [] (S (i + 1)) → G pc (L i) [] (S i)) (he : G pc (L N) [] (S N)) : ∀ i, i ≤ N → G pc (L i) [] (S i) := by
  have : ∀ n i, i + n = N → G pc (L i) [] (S i) := by
    intro n
    induction n with
    | zero => intro i h; have : i = N := by omega
              subst this; exact he
    | succ n ih => intro i h; exact hs i (by omega) (ih (i + 1) (by omega))
  exact fun i h => this (N - i) i (by omega)
/-- a loop from one place on -/
theorem loop_from {G : mK} (pc a N : Nat) (L : Nat → mL) (S : Nat → mS) (hs : ∀ i, a ≤ i → i < N → G pc (L (i + 1)) [] (S (i + 1)) → G pc (L i) [] (S i)) (he : G pc (L N) [] (S N)) : ∀ i, a ≤ i → i ≤ N → G pc (L i) [] (S i) := by
  have : ∀ n i, a ≤ i → i + n = N → G pc (L i) [] (S i) := by
    intro n
    induction n with
    | zero => intro i _ h; have : i = N := by omega
              subst this; exact he
    | succ n ih => intro i ha h; exact hs i ha (by omega) (ih (i + 1) (by omega) (by omega))
  exact fun i ha h => this (N - i) i ha (by omega)
/-- what n rounds make of a -/
def fo {α : Type} (f : Nat → α → α) (a : α) : Nat → α
  | 0 => a
  | n + 1 => f n (fo f a n)
theorem fo_succ {α : Type} (f : Nat → α → α) (a : α) (n : Nat) : fo f a (n + 1) = f n (fo f a n) := rfl
theorem fo_add {α : Type} (f : Nat → α → α) (a : α) (m : Nat) : ∀ n, fo f a (m + n) = fo (fun i => f (m + i)) (fo f a m) n
  | 0 => rfl
  | n + 1 => by
    show f (m + n) (fo f a (m + n)) = f (m + n) _
    rw [fo_add f a m n]
theorem fo_cong {α : Type} {f g : Nat → α → α} {a : α} : ∀ {n : Nat}, (∀ i, i < n → ∀ x, f i x = g i x) → fo f a n = fo g a n
  | 0, _ => rfl
  | n + 1, h => by rw [fo_succ, fo_succ, fo_cong (fun i hi => h i (by omega)), h n (by omega)]
theorem fo_id {α : Type} {f : Nat → α → α} {a : α} : ∀ {n : Nat}, (∀ i, i < n → ∀ x, f i x = x) → fo f a n = a
  | 0, _ => rfl
  | n + 1, h => by rw [fo_succ, fo_id (fun i hi => h i (by omega)), h n (by omega)]
theorem fo_ind {α : Type} {f : Nat → α → α} {a : α} (P : Nat → α → Prop) (h0 : P 0 a) : ∀ {n : Nat}, (∀ i, i < n → ∀ x, P i x → P (i + 1) (f i x)) → P n (fo f a n)
  | 0, _ => h0
  | n + 1, h => h n (by omega) _ (fo_ind P h0 (fun i hi => h i (by omega)))
theorem nI_c (n : Nat) : (OfNat.ofNat n : Int32) = nI n := rfl
theorem nI_cl {n : Nat} (h : n < 2 ^ 31) : (nI n).toNatClampNeg = n := nI_clamp h
theorem upd_eq (f : Nat → Int32) (k : Nat) (x : Int32) : upd f k x k = x := by simp [upd]
theorem upd_ne (f : Nat → Int32) {k j : Nat} (x : Int32) (h : j ≠ k) : upd f k x j = f j := by simp [upd, h]
theorem not_le_of {a b : Int32} (h : a < b) : ¬ b ≤ a := by
  rw [Int32.le_iff_toInt_le]
  rw [Int32.lt_iff_toInt_lt] at h
  omega
theorem i_le {a b : Nat} (hb : b < 2 ^ 31) (ha : a < 2 ^ 31) : nI a ≤ nI b ↔ a ≤ b := nI_leI ha hb
theorem i_lt {a b : Nat} (hb : b < 2 ^ 31) (ha : a < 2 ^ 31) : nI a < nI b ↔ a < b := nI_ltI ha hb
theorem nI_m1 {n : Nat} (h : 0 < n) : nI n - 1 = nI (n - 1) := by
  obtain ⟨k, rfl⟩ : ∃ k, n = k + 1 := ⟨n - 1, by omega⟩
  rw [nI_pred]
  rfl
theorem vp_nI {x : Int32} {n : Nat} (hn : n < 2 ^ 31) : vp_in x n ↔ ∃ j, j < n ∧ x = nI j := ⟨fun h => vp_in_of h hn, fun ⟨j, h, e⟩ => by rw [e]; exact vp_in_nI h hn⟩
/-- 0 .. n - 1, as the reference asks it -/
theorem in_iff {x : Int32} {n : Nat} (h0 : 0 < n) (hn : n < 2 ^ 31) : (0 ≤ x ∧ x ≤ nI n - 1) ↔ vp_in x n := by
  rw [nI_m1 h0, vp_in_iff, Int32.le_iff_toInt_le, Int32.le_iff_toInt_le, nI_toInt (by omega), Int32.toInt_zero]
  omega
theorem mput_cover (σ : mS) (g i g' i' : Nat) (f f' f'' : Nat → Int32) (h : g ≠ g' ∨ i ≠ i') : mput (mput (mput σ g i f) g' i' f') g i f'' = mput (mput σ g' i' f') g i f'' := by
  rw [mput_comm σ g i g' i' f f' h, mput_mput]
/-- f, but v at the first n places -/
def fil (f : Nat → Int32) (v : Int32) (n : Nat) : Nat → Int32 := fun j => if j < n then v else f j
theorem fil_0 (f : Nat → Int32) (v : Int32) : fil f v 0 = f := by funext j; simp [fil]
theorem fil_s (f : Nat → Int32) (v : Int32) (n : Nat) : upd (fil f v n) n v = fil f v (n + 1) := by
  funext j
  unfold upd fil
  by_cases h1 : j = n
  · subst h1; simp
  · by_cases h2 : j < n
    · rw [if_neg h1, if_pos h2, if_pos (by omega)]
    · rw [if_neg h1, if_neg h2, if_neg (by omega)]
theorem fil_in {f : Nat → Int32} {v : Int32} {n j : Nat} (h : j < n) : fil f v n j = v := if_pos h
theorem fil_out {f : Nat → Int32} {v : Int32} {n j : Nat} (h : n ≤ j) : fil f v n j = f j := if_neg (by omega)
/-- g at the first n places, else f -/
def cpy (f g : Nat → Int32) (n : Nat) : Nat → Int32 := fun j => if j < n then g j else f j
theorem cpy_0 (f g : Nat → Int32) : cpy f g 0 = f := by funext j; simp [cpy]
theorem cpy_s (f g : Nat → Int32) (n : Nat) : upd (cpy f g n) n (g n) = cpy f g (n + 1) := by
  funext j
  unfold upd cpy
  by_cases h1 : j = n
  · subst h1; simp
  · by_cases h2 : j < n
    · rw [if_neg h1, if_pos h2, if_pos (by omega)]
    · rw [if_neg h1, if_neg h2, if_neg (by omega)]
theorem cpy_in {f g : Nat → Int32} {n j : Nat} (h : j < n) : cpy f g n j = g j := if_pos h
theorem cpy_out {f g : Nat → Int32} {n j : Nat} (h : n ≤ j) : cpy f g n j = f j := if_neg (by omega)
noncomputable def b2i (P : Prop) : Int32 := @ite Int32 P (Classical.propDecidable P) 1 0
theorem b2i_t {P : Prop} (h : P) : b2i P = 1 := if_pos h
theorem b2i_f {P : Prop} (h : ¬ P) : b2i P = 0 := if_neg h
theorem b2i_c {P Q : Prop} (h : P ↔ Q) : b2i P = b2i Q := by rw [propext h]
theorem b2i_and (P : Prop) : b2i P &&& 1 = b2i P := by
  by_cases h : P
  · rw [b2i_t h]; rfl
  · rw [b2i_f h]; rfl
theorem b2i_0 {P : Prop} : b2i P = 0 ↔ ¬ P := by
  by_cases h : P
  · rw [b2i_t h]; simp [h]
  · rw [b2i_f h]; simp [h]
/-- if, over any proposition -/
noncomputable def ifp {α : Type} (P : Prop) (a b : α) : α := @ite α P (Classical.propDecidable P) a b
theorem ifp_t {α : Type} {P : Prop} {a b : α} (h : P) : ifp P a b = a := if_pos h
theorem ifp_f {α : Type} {P : Prop} {a b : α} (h : ¬ P) : ifp P a b = b := if_neg h
theorem ifp_c {α : Type} {P Q : Prop} {a b : α} (h : P ↔ Q) : ifp P a b = ifp Q a b := by rw [propext h]
theorem lgc_lt {x y : Int64} : lg_cmp x y < 0 ↔ x < y := by
  unfold lg_cmp
  split
  · rename_i h
    rw [gt_iff_lt, Int64.lt_iff_toInt_lt] at h
    rw [Int64.lt_iff_toInt_lt]
    constructor
    · intro q; cases q
    · intro q; omega
  · split
    · rename_i h; subst h
      constructor
      · intro q; cases q
      · intro q; exact absurd q (by rw [Int64.lt_iff_toInt_lt]; omega)
    · rename_i h1 h2
      rw [gt_iff_lt, Int64.lt_iff_toInt_lt] at h1
      rw [Int64.lt_iff_toInt_lt]
      constructor
      · intro _
        have : x.toInt ≠ y.toInt := fun q => h2 (Int64.toInt_inj.mp q)
        omega
      · intro _; decide
theorem lgc_gt {x y : Int64} : 0 < lg_cmp x y ↔ y < x := by
  unfold lg_cmp
  split
  · rename_i h
    constructor
    · intro _; exact h
    · intro _; decide
  · split
    · rename_i h1 h
      constructor
      · intro q; cases q
      · intro q; exact absurd q h1
    · rename_i h1 h2
      constructor
      · intro q; cases q
      · intro q; exact absurd q h1
theorem wide_le (a b : Int32) : a.toInt64 ≤ b.toInt64 ↔ a ≤ b := by
  rw [Int64.le_iff_toInt_le, Int32.le_iff_toInt_le, Int32.toInt_toInt64, Int32.toInt_toInt64]
