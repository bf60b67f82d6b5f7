/-! BOTH: the first state -/
theorem rx_first {σ τ : mS} (a0 : σ 1 0 0 = 1) (a1 : σ 1 0 1 = 1) (a2 : σ 1 0 2 = 1) (a3 : σ 2 0 0 = 0) (a4 : σ 3 0 0 = 0) (a5 : σ 7 0 4 = 0) (a6 : σ 7 0 5 = 1) (a7 : σ 13 0 0 = 0) (a8 : σ 22 0 0 = 0)
    (l0 : σ 23 0 0 = -1) (l1 : σ 24 0 0 = 1) (l2 : σ 25 0 0 = 0) (l3 : σ 26 0 0 = 0) (f0 : σ 28 0 0 = -1) (d0 : σ 9 0 0 = 0) (r0 : σ 0 0 7 = 0)
    (t1 : τ 40 0 1 = 1) (t2 : τ 40 0 2 = 1) (t3 : τ 40 0 3 = 0) (t7 : τ 40 0 7 = 0) (t13 : τ 40 0 13 = 0) (t18 : τ 40 0 18 = 1) (t26 : τ 40 0 26 = 0) (t55 : ∀ j, τ 55 0 j = 0) (t56 : ∀ j, j < 144 → τ 56 0 j = -1) (t56' : ∀ j, 144 ≤ j → τ 56 0 j = 0) (t69 : ∀ m, m < 10 → τ 69 0 m = -1) (t74 : ∀ j, 144 ≤ j → τ 74 0 j = 0) : RX σ τ 1 1 0 0 0 0 := by
  have k0 : ∀ k, k < 1 * 1 → k = 0 := fun k h => by omega
  have e0 : emb 1 0 = 0 := rfl
  refine ⟨⟨⟨⟨a0, by omega, by omega⟩, ⟨a1, by omega, by omega⟩, a2, fun k hk => ?_⟩, ⟨⟨a5, by omega⟩, by rw [a6, t18], fun m q => absurd q (Nat.not_lt_zero m)⟩, ⟨⟨a8, by omega⟩, ⟨l0, l1, l2, l3⟩, fun i q => absurd q (Nat.not_lt_zero i)⟩, ⟨⟨a7, by omega⟩, fun d q => absurd q (Nat.not_lt_zero d), fun d q => absurd q (Nat.not_lt_zero d), fun i j _ q => absurd q (Nat.not_lt_zero j), fun d q => absurd q (Nat.not_lt_zero d)⟩, ⟨⟨t1, by omega, by omega⟩, ⟨t2, by omega, by omega⟩, ⟨t3, by omega⟩, ⟨t7, by omega⟩, ⟨t13, by omega⟩, fun j => by rw [t55 j]; rfl, fun d q => absurd q (Nat.not_lt_zero d), fun d q => absurd q (Nat.not_lt_zero d), fun i j _ q => absurd q (Nat.not_lt_zero j), t56'⟩⟩, ⟨fun k hk => ?_, fun c hc => Or.inl (t56 c hc)⟩, t74, fun _ k hk => ?_, fun m _ q => t69 m q, ⟨by omega, r0, t26, fun j q => absurd q (Nat.not_lt_zero j)⟩⟩
  · rw [k0 k hk]; exact ⟨a3, a4⟩
  · rw [k0 k hk, f0, e0, t56 0 (by omega)]
  · rw [k0 k hk, d0, t55]
