/-! BOTH: as the constructors leave them (the reference's ends with lays) -/
theorem rx_new {σ τ : mS} (a0 : σ 1 0 0 = 1) (a1 : σ 1 0 1 = 1) (a2 : σ 1 0 2 = 1) (a3 : σ 2 0 0 = 0) (a4 : σ 3 0 0 = 0) (a5 : σ 7 0 4 = 0) (a6 : σ 7 0 5 = 1) (a7 : σ 13 0 0 = 0) (a8 : σ 22 0 0 = 0)
    (l0 : σ 23 0 0 = -1) (l1 : σ 24 0 0 = 1) (l2 : σ 25 0 0 = 0) (l3 : σ 26 0 0 = 0) (f0 : σ 28 0 0 = -1) (d0 : σ 9 0 0 = 0) (r0 : σ 0 0 7 = 0)
    (t1 : τ 40 0 1 = 1) (t2 : τ 40 0 2 = 1) (t13 : τ 40 0 13 = 0) (t18 : τ 40 0 18 = 1) (t26 : τ 40 0 26 = 0) (t55 : ∀ j, τ 55 0 j = 0) (t56 : ∀ j, τ 56 0 j = 0) (t74 : ∀ j, τ 74 0 j = 0) : RX σ (laysS τ) 1 1 0 0 0 0 := by
  refine rx_first a0 a1 a2 a3 a4 a5 a6 a7 a8 l0 l1 l2 l3 f0 d0 r0 t1 t2 rfl rfl t13 t18 t26 (fun j => ?_) (fun j h => ?_) (fun j h => ?_) (fun m h => ?_) (fun j _ => t74 j)
  · show fil (τ 55 0) 0 144 j = 0
    unfold fil
    split
    · rfl
    · exact t55 j
  · show fil (τ 56 0) (-1) 144 j = -1
    rw [fil_in h]
  · show fil (τ 56 0) (-1) 144 j = 0
    rw [fil_out h]; exact t56 j
  · show fil (τ 69 0) (-1) 10 m = -1
    rw [fil_in h]
