/-! the worlds, written out -/
set_option maxRecDepth 100000 in
theorem wld_tr (ad : Nat → Nat → Nat) (cI cZ cL : ClassId) (σ : mS) : wld ad cI cZ cL true σ = [(ad 40 0, .inr (8, mfd ad 0 (σ 40 0) [none, none, none, none, some 54, some 55, some 56, none, some 58, some 59, some 60, some 61, some 62, none, some 64, some 65, some 66, some 67, none, some 69, some 70, some 71, some 72, none, some 74, some 75, none, some 77, some 78, some 79])), (ad 54 0, .inl (cI, 10, .inl (σ 54 0))), (ad 55 0, .inl (cZ, 1584, .inl (σ 55 0))), (ad 56 0, .inl (cI, 144, .inl (σ 56 0))), (ad 58 0, .inl (cI, 30, .inl (σ 58 0))), (ad 59 0, .inl (cI, 30, .inl (σ 59 0))), (ad 60 0, .inl (cI, 30, .inl (σ 60 0))), (ad 61 0, .inl (cI, 30, .inl (σ 61 0))), (ad 62 0, .inl (cZ, 30, .inl (σ 62 0))), (ad 64 0, .inl (cI, 20, .inl (σ 64 0))), (ad 65 0, .inl (cI, 20, .inl (σ 65 0))), (ad 66 0, .inl (cI, 20, .inl (σ 66 0))), (ad 67 0, .inl (cI, 20, .inl (σ 67 0))), (ad 69 0, .inl (cI, 10, .inl (σ 69 0))), (ad 70 0, .inl (cI, 144, .inl (σ 70 0))), (ad 71 0, .inl (cI, 144, .inl (σ 71 0))), (ad 72 0, .inl (cZ, 144, .inl (σ 72 0))), (ad 74 0, .inl (cI, 144, .inl (σ 74 0))), (ad 75 0, .inl (cI, 144, .inl (σ 75 0))), (ad 77 0, .inl (cI, 402, .inl (σ 77 0))), (ad 78 0, .inl (cI, 144, .inl (σ 78 0))), (ad 79 0, .inl (cI, 144, .inl (σ 79 0)))] := rfl
set_option maxRecDepth 100000 in
theorem wld_fa (ad : Nat → Nat → Nat) (cI cZ cL : ClassId) (σ : mS) : wld ad cI cZ cL false σ = [(ad 0 0, .inr (7, mfd ad 0 (σ 0 0) [some 1, some 4, some 7, some 13, some 22, some 27, some 31, none])), (ad 1 0, .inr (2, mfd ad 0 (σ 1 0) [none, none, none, some 2, some 3])), (ad 2 0, .inl (cI, 144, .inl (σ 2 0))), (ad 3 0, .inl (cI, 144, .inl (σ 3 0))), (ad 4 0, .inr (6, mfd ad 0 (σ 4 0) [some 1, some 5, some 6, none])), (ad 5 0, .inl (cZ, 144, .inl (σ 5 0))), (ad 6 0, .inl (cI, 144, .inl (σ 6 0))), (ad 7 0, .inr (0, mfd ad 0 (σ 7 0) [some 1, some 4, some 8, some 9, none, none])), (ad 8 0, .inl (cL, 10, .inr (.inr (.inr (.inr (fun j => some (ad 10 j))))))), (ad 9 0, .inl (cZ, 144, .inl (σ 9 0))), (ad 10 0, .inr (4, mfd ad 0 (σ 10 0) [none, none, none, none, none, none, none, some 11, some 12])), (ad 10 1, .inr (4, mfd ad 1 (σ 10 1) [none, none, none, none, none, none, none, some 11, some 12])), (ad 10 2, .inr (4, mfd ad 2 (σ 10 2) [none, none, none, none, none, none, none, some 11, some 12])), (ad 10 3, .inr (4, mfd ad 3 (σ 10 3) [none, none, none, none, none, none, none, some 11, some 12])), (ad 10 4, .inr (4, mfd ad 4 (σ 10 4) [none, none, none, none, none, none, none, some 11, some 12])), (ad 10 5, .inr (4, mfd ad 5 (σ 10 5) [none, none, none, none, none, none, none, some 11, some 12])), (ad 10 6, .inr (4, mfd ad 6 (σ 10 6) [none, none, none, none, none, none, none, some 11, some 12])), (ad 10 7, .inr (4, mfd ad 7 (σ 10 7) [none, none, none, none, none, none, none, some 11, some 12])), (ad 10 8, .inr (4, mfd ad 8 (σ 10 8) [none, none, none, none, none, none, none, some 11, some 12])), (ad 10 9, .inr (4, mfd ad 9 (σ 10 9) [none, none, none, none, none, none, none, some 11, some 12])), (ad 11 0, .inl (cI, 144, .inl (σ 11 0))), (ad 11 1, .inl (cI, 144, .inl (σ 11 1))), (ad 11 2, .inl (cI, 144, .inl (σ 11 2))), (ad 11 3, .inl (cI, 144, .inl (σ 11 3))), (ad 11 4, .inl (cI, 144, .inl (σ 11 4))), (ad 11 5, .inl (cI, 144, .inl (σ 11 5))), (ad 11 6, .inl (cI, 144, .inl (σ 11 6))), (ad 11 7, .inl (cI, 144, .inl (σ 11 7))), (ad 11 8, .inl (cI, 144, .inl (σ 11 8))), (ad 11 9, .inl (cI, 144, .inl (σ 11 9))), (ad 12 0, .inl (cI, 144, .inl (σ 12 0))), (ad 12 1, .inl (cI, 144, .inl (σ 12 1))), (ad 12 2, .inl (cI, 144, .inl (σ 12 2))), (ad 12 3, .inl (cI, 144, .inl (σ 12 3))), (ad 12 4, .inl (cI, 144, .inl (σ 12 4))), (ad 12 5, .inl (cI, 144, .inl (σ 12 5))), (ad 12 6, .inl (cI, 144, .inl (σ 12 6))), (ad 12 7, .inl (cI, 144, .inl (σ 12 7))), (ad 12 8, .inl (cI, 144, .inl (σ 12 8))), (ad 12 9, .inl (cI, 144, .inl (σ 12 9))), (ad 13 0, .inr (1, mfd ad 0 (σ 13 0) [none, some 14, some 15, some 16, some 17, some 18, some 19, some 20, some 21])), (ad 14 0, .inl (cI, 30, .inl (σ 14 0))), (ad 15 0, .inl (cI, 30, .inl (σ 15 0))), (ad 16 0, .inl (cI, 30, .inl (σ 16 0))), (ad 17 0, .inl (cI, 30, .inl (σ 17 0))), (ad 18 0, .inl (cI, 30, .inl (σ 18 0))), (ad 19 0, .inl (cI, 30, .inl (σ 19 0))), (ad 20 0, .inl (cZ, 30, .inl (σ 20 0))), (ad 21 0, .inl (cI, 30, .inl (σ 21 0))), (ad 22 0, .inr (3, mfd ad 0 (σ 22 0) [none, some 23, some 24, some 25, some 26])), (ad 23 0, .inl (cI, 21, .inl (σ 23 0))), (ad 24 0, .inl (cI, 21, .inl (σ 24 0))), (ad 25 0, .inl (cI, 21, .inl (σ 25 0))), (ad 26 0, .inl (cI, 21, .inl (σ 26 0))), (ad 27 0, .inr (5, mfd ad 0 (σ 27 0) [some 1, some 7, some 13, some 22, some 28, some 29, some 30, none, none, none])), (ad 28 0, .inl (cI, 144, .inl (σ 28 0))), (ad 29 0, .inl (cI, 144, .inl (σ 29 0))), (ad 30 0, .inl (cI, 144, .inl (σ 30 0))), (ad 31 0, .inl (cI, 80, .inl (σ 31 0)))] := rfl
theorem tau_ne {g : Nat} (h : Nat.beq g 40 = false) : tau0 g 0 = fun _ => 0 := by
  funext j
  unfold tau0
  rw [h]
  rfl
def mfdr (ad : Nat → Nat → Nat) (i : Nat) (f : Nat → Int32) : Nat → List (Option Nat) → List Value
  | _, [] => []
  | k, none :: r => Value.int (f k) :: mfdr ad i f (k + 1) r
  | k, some g :: r => Value.ref (ad g i) :: mfdr ad i f (k + 1) r
theorem mfdr_get (ad : Nat → Nat → Nat) (i : Nat) (f : Nat → Int32) : ∀ (fs : List (Option Nat)) (k j : Nat), (mfdr ad i f k fs)[j]? = fs[j]?.map (fun o => match o with
    | none => Value.int (f (k + j))
    | some g' => Value.ref (ad g' i))
  | [], k, j => by simp [mfdr]
  | none :: r, k, 0 => by simp [mfdr]
  | some g :: r, k, 0 => by simp [mfdr]
  | none :: r, k, j + 1 => by
    show (mfdr ad i f (k + 1) r)[j]? = _
    rw [mfdr_get ad i f r (k + 1) j, show k + 1 + j = k + (j + 1) by omega]
    rfl
  | some g :: r, k, j + 1 => by
    show (mfdr ad i f (k + 1) r)[j]? = _
    rw [mfdr_get ad i f r (k + 1) j, show k + 1 + j = k + (j + 1) by omega]
    rfl
theorem mfd_eq (ad : Nat → Nat → Nat) (i : Nat) (f : Nat → Int32) (fs : List (Option Nat)) : mfd ad i f fs = mfdr ad i f 0 fs := by
  apply List.ext_getElem?
  intro j
  rw [mfd_get, mfdr_get, Nat.zero_add]
  cases fs[j]? with
  | none => rfl
  | some o => cases o <;> rfl
theorem mf8 (ad : Nat → Nat → Nat) : mfd ad 0 (tau0 40 0) [none, none, none, none, some 54, some 55, some 56, none, some 58, some 59, some 60, some 61, some 62, none, some 64, some 65, some 66, some 67, none, some 69, some 70, some 71, some 72, none, some 74, some 75, none, some 77, some 78, some 79] = [.int 0, .int 1, .int 1, .int 0, .ref (ad 54 0), .ref (ad 55 0), .ref (ad 56 0), .int 0, .ref (ad 58 0), .ref (ad 59 0), .ref (ad 60 0), .ref (ad 61 0), .ref (ad 62 0), .int 0, .ref (ad 64 0), .ref (ad 65 0), .ref (ad 66 0), .ref (ad 67 0), .int 1, .ref (ad 69 0), .ref (ad 70 0), .ref (ad 71 0), .ref (ad 72 0), .int 0, .ref (ad 74 0), .ref (ad 75 0), .int 0, .ref (ad 77 0), .ref (ad 78 0), .ref (ad 79 0)] := by
  rw [mfd_eq]
  rfl
theorem mfs0 (ad : Nat → Nat → Nat) (i : Nat) : mfd ad i (sig0 0 i) [some 1, some 4, some 7, some 13, some 22, some 27, some 31, none] = [.ref (ad 1 i), .ref (ad 4 i), .ref (ad 7 i), .ref (ad 13 i), .ref (ad 22 i), .ref (ad 27 i), .ref (ad 31 i), .int (0)] := rfl
theorem mfs1 (ad : Nat → Nat → Nat) (i : Nat) : mfd ad i (sig0 1 i) [none, none, none, some 2, some 3] = [.int (1), .int (1), .int (1), .ref (ad 2 i), .ref (ad 3 i)] := rfl
theorem mfs4 (ad : Nat → Nat → Nat) (i : Nat) : mfd ad i (sig0 4 i) [some 1, some 5, some 6, none] = [.ref (ad 1 i), .ref (ad 5 i), .ref (ad 6 i), .int (0)] := rfl
theorem mfs7 (ad : Nat → Nat → Nat) (i : Nat) : mfd ad i (sig0 7 i) [some 1, some 4, some 8, some 9, none, none] = [.ref (ad 1 i), .ref (ad 4 i), .ref (ad 8 i), .ref (ad 9 i), .int (0), .int (1)] := rfl
theorem mfs10 (ad : Nat → Nat → Nat) (i : Nat) : mfd ad i (sig0 10 i) [none, none, none, none, none, none, none, some 11, some 12] = [.int (0), .int (0), .int (0), .int (0), .int (0), .int (0), .int (-1), .ref (ad 11 i), .ref (ad 12 i)] := rfl
theorem mfs13 (ad : Nat → Nat → Nat) (i : Nat) : mfd ad i (sig0 13 i) [none, some 14, some 15, some 16, some 17, some 18, some 19, some 20, some 21] = [.int (0), .ref (ad 14 i), .ref (ad 15 i), .ref (ad 16 i), .ref (ad 17 i), .ref (ad 18 i), .ref (ad 19 i), .ref (ad 20 i), .ref (ad 21 i)] := rfl
theorem mfs22 (ad : Nat → Nat → Nat) (i : Nat) : mfd ad i (sig0 22 i) [none, some 23, some 24, some 25, some 26] = [.int (0), .ref (ad 23 i), .ref (ad 24 i), .ref (ad 25 i), .ref (ad 26 i)] := rfl
theorem mfs27 (ad : Nat → Nat → Nat) (i : Nat) : mfd ad i (sig0 27 i) [some 1, some 7, some 13, some 22, some 28, some 29, some 30, none, none, none] = [.ref (ad 1 i), .ref (ad 7 i), .ref (ad 13 i), .ref (ad 22 i), .ref (ad 28 i), .ref (ad 29 i), .ref (ad 30 i), .int (0), .int (0), .int (0)] := rfl
