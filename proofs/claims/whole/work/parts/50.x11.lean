/-! CLASS: steps, deeds and counts in the replay -/
/-- the maps of both -/
def LVs (σ τ : mS) (W H mp : Nat) : Prop := (σ 7 0 4 = nI mp ∧ mp ≤ 10) ∧ σ 7 0 5 = τ 40 0 18 ∧ ∀ m, m < mp → LR W (W * H) (kdM τ W H m) (σ 10 m) (σ 11 m) (σ 12 m) ∧ σ 10 m 0 = τ 54 0 m ∧ (0 < m → σ 10 m 6 = τ 69 0 m ∧ (τ 69 0 m = -1 ∨ τ 69 0 m = 0 ∨ τ 69 0 m = 1))
theorem sud_ok {σ τ : mS} {W H mp m : Nat} (h : LVs σ τ W H mp) (h0 : 0 < m) (hm : m < mp) : sudX (σ 10 m 6) (σ 10 m 3) (σ 7 0 5) ↔ sdP τ W H m := by
  obtain ⟨-, h5, hv⟩ := h
  obtain ⟨hl, -, hj⟩ := hv m hm
  obtain ⟨e6, hj⟩ := hj h0
  unfold sdP sudX sudP
  rw [e6, hl.1.2.2.1, h5]
  rcases hj with q | q | q
  · rw [q, if_pos rfl, if_neg (by decide)]
  · rw [q, if_neg (by decide), if_pos (by decide)]
  · rw [q, if_neg (by decide), if_pos (by decide)]
theorem ev_takeStep (σ τ : mS) {W H mp ln mn : Nat} {ct : Int32} {o : Nat → Int32} (I : GR σ W H) (hV : LVs σ τ W H mp) (hL : LWs σ τ ln) (hmn : σ 27 0 7 = nI mn) (hlt : mn + 1 < mp) (hct : σ 27 0 9 = ct) (hO : OR W (W * H) (σ 29 0) o) : Ev kX5_takeStep [xP] σ (fun r s => r = none ∧ ∃ f, s = mput (mput σ 27 0 (upd (σ 27 0) 7 (nI (mn + 1)))) 29 0 f ∧ OR W (W * H) f (stepO τ W H ln (mn + 1) (nI (mn + 1) = ct) o)) := by
  have hW0 := I.1.2.1
  have hW1 := I.1.2.2
  have hH1 := I.2.1.2.2
  have hmp := hV.1.2
  have hln := hL.1.2
  obtain ⟨hLR, hyr, -⟩ := hV.2.2 (mn + 1) hlt
  have hsd := sud_ok hV (m := mn + 1) (by omega) hlt
  have hple := plF_le (σ 23 0) (τ 54 0 (mn + 1)) ln
  have vpl : vp_in (nI (plF (σ 23 0) (τ 54 0 (mn + 1)) ln)) 21 := vp_in_nI (by omega) (by omega)
  have epl : (nI (plF (σ 23 0) (τ 54 0 (mn + 1)) ln)).toNatClampNeg = plF (σ 23 0) (τ 54 0 (mn + 1)) ln := nI_cl (by omega)
  refine Ev.intro fun G hG => hG.run ?_
  have e1 : σ 27 0 7 + 1 = nI (mn + 1) := by rw [hmn, nI_1]
  refine And.intro (show vp_in (σ 27 0 7 + 1) 10 by rw [e1]; exact vp_in_nI (by omega) (by omega)) ?_
  rw [e1]
  have em : (mput σ 27 0 (upd (σ 27 0) (5, 7).snd (nI (mn + 1))) 27 0 (5, 7).snd).toNatClampNeg = mn + 1 := nI_cl (n := mn + 1) (by omega)
  rw [em]
  have hcall : Ev kX3_placeFor [xL, mI (τ 54 0 (mn + 1))] (mput σ 27 0 (upd (σ 27 0) 7 (nI (mn + 1)))) (fun r s => r = some (mI (nI (plF (σ 23 0) (τ 54 0 (mn + 1)) ln))) ∧ s = mput σ 27 0 (upd (σ 27 0) 7 (nI (mn + 1)))) := ev_placeFor (mput σ 27 0 (upd (σ 27 0) 7 (nI (mn + 1)))) (τ 54 0 (mn + 1)) (ln := ln) hL.1.1 hln
  rw [← hyr] at hcall
  refine call_of hcall ?_
  refine call_of (ev_xSudden (mput σ 27 0 (upd (σ 27 0) 7 (nI (mn + 1)))) (m := mn + 1) (by omega)) ?_
  rw [show σ 10 (mn + 1) 0 = τ 54 0 (mn + 1) from hyr] at hcall ⊢
  refine And.intro (fun c3 => And.intro (fun c4 => ?_) (fun c4 => ?_)) (fun c3 => And.intro (fun c4 => ?_) (fun c4 => ?_))
  · replace c3 : ¬ nI (mn + 1) = σ 27 0 9 := c3
    rw [hct] at c3
    replace c4 : ¬ sudX (σ 10 (mn + 1) 6) (σ 10 (mn + 1) 3) (σ 7 0 5) := b_f c4
    refine br_t rfl ?_
    refine And.intro vpl ?_
    rw [epl]
    have hiff : ifp (grw τ (lwF (τ 64 0) (τ 54 0 (mn + 1)) ln ln) (¬ (sdP τ W H (mn + 1) ↔ nI (mn + 1) = ct)) = 0) = ifp (α := Nat → Int32) (grw τ (lwF (τ 64 0) (τ 54 0 (mn + 1)) ln ln) False = 0) := by rw [show (¬ (sdP τ W H (mn + 1) ↔ nI (mn + 1) = ct)) = False from propext (by rw [← hsd]; simp [c3, c4])]
    have hlaw := law_ok hL (τ 54 0 (mn + 1)) False
    rw [ifp_f id] at hlaw
    refine And.intro (fun c5 => ?_) (fun c5 => ?_)
    · replace c5 : ¬ σ 24 0 (plF (σ 23 0) (τ 54 0 (mn + 1)) ln) = 1 := c5
      refine ⟨rfl, σ 29 0, (mput_self (mput σ 27 0 (upd (σ 27 0) 7 (nI (mn + 1)))) 29 0).symm, fun k hk => ?_⟩
      unfold stepO
      rw [hiff, ifp_t (Classical.not_not.mp (fun q => c5 (hlaw.1.mpr q)))]
      exact hO k hk
    · replace c5 : σ 24 0 (plF (σ 23 0) (τ 54 0 (mn + 1)) ln) = 1 := c5
      refine And.intro vpl ?_
      rw [epl]
      refine call_ex (ev_shift (mput σ 27 0 (upd (σ 27 0) 7 (nI (mn + 1)))) (m := mn + 1) (o := o) (σ 26 0 (plF (σ 23 0) (τ 54 0 (mn + 1)) ln)) I hLR hO) ?_
      rintro r s ⟨rfl, f, rfl, hf⟩
      refine ⟨rfl, f, rfl, fun k hk => ?_⟩
      unfold stepO
      rw [hiff, ifp_f (hlaw.1.mp c5), cpy_in (emb_lt hW0 hW1 hH1 hk), ← hlaw.2]
      exact hf k hk
  · replace c3 : ¬ nI (mn + 1) = σ 27 0 9 := c3
    rw [hct] at c3
    replace c4 : sudX (σ 10 (mn + 1) 6) (σ 10 (mn + 1) 3) (σ 7 0 5) := b_t c4
    refine br_f (by decide) ?_
    refine And.intro vpl ?_
    rw [epl]
    have hiff : ifp (grw τ (lwF (τ 64 0) (τ 54 0 (mn + 1)) ln ln) (¬ (sdP τ W H (mn + 1) ↔ nI (mn + 1) = ct)) = 0) = ifp (α := Nat → Int32) (grw τ (lwF (τ 64 0) (τ 54 0 (mn + 1)) ln ln) True = 0) := by rw [show (¬ (sdP τ W H (mn + 1) ↔ nI (mn + 1) = ct)) = True from propext (by rw [← hsd]; simp [c3, c4])]
    have hlaw := law_ok hL (τ 54 0 (mn + 1)) True
    rw [ifp_t trivial] at hlaw
    refine And.intro (fun c5 => ?_) (fun c5 => ?_)
    · replace c5 : ¬ σ 25 0 (plF (σ 23 0) (τ 54 0 (mn + 1)) ln) = 1 := c5
      refine ⟨rfl, σ 29 0, (mput_self (mput σ 27 0 (upd (σ 27 0) 7 (nI (mn + 1)))) 29 0).symm, fun k hk => ?_⟩
      unfold stepO
      rw [hiff, ifp_t (Classical.not_not.mp (fun q => c5 (hlaw.1.mpr q)))]
      exact hO k hk
    · replace c5 : σ 25 0 (plF (σ 23 0) (τ 54 0 (mn + 1)) ln) = 1 := c5
      refine And.intro vpl ?_
      rw [epl]
      refine call_ex (ev_shift (mput σ 27 0 (upd (σ 27 0) 7 (nI (mn + 1)))) (m := mn + 1) (o := o) (σ 26 0 (plF (σ 23 0) (τ 54 0 (mn + 1)) ln)) I hLR hO) ?_
      rintro r s ⟨rfl, f, rfl, hf⟩
      refine ⟨rfl, f, rfl, fun k hk => ?_⟩
      unfold stepO
      rw [hiff, ifp_f (hlaw.1.mp c5), cpy_in (emb_lt hW0 hW1 hH1 hk), ← hlaw.2]
      exact hf k hk
  · replace c3 : nI (mn + 1) = σ 27 0 9 := c3
    rw [hct] at c3
    replace c4 : sudX (σ 10 (mn + 1) 6) (σ 10 (mn + 1) 3) (σ 7 0 5) := b_t (by rw [show b2i (sudX (σ 10 (mn + 1) 6) (σ 10 (mn + 1) 3) (σ 7 0 5)) = 1 from c4]; decide)
    refine br_t rfl ?_
    refine And.intro vpl ?_
    rw [epl]
    have hiff : ifp (grw τ (lwF (τ 64 0) (τ 54 0 (mn + 1)) ln ln) (¬ (sdP τ W H (mn + 1) ↔ nI (mn + 1) = ct)) = 0) = ifp (α := Nat → Int32) (grw τ (lwF (τ 64 0) (τ 54 0 (mn + 1)) ln ln) False = 0) := by rw [show (¬ (sdP τ W H (mn + 1) ↔ nI (mn + 1) = ct)) = False from propext (by rw [← hsd]; simp [c3, c4])]
    have hlaw := law_ok hL (τ 54 0 (mn + 1)) False
    rw [ifp_f id] at hlaw
    refine And.intro (fun c5 => ?_) (fun c5 => ?_)
    · replace c5 : ¬ σ 24 0 (plF (σ 23 0) (τ 54 0 (mn + 1)) ln) = 1 := c5
      refine ⟨rfl, σ 29 0, (mput_self (mput σ 27 0 (upd (σ 27 0) 7 (nI (mn + 1)))) 29 0).symm, fun k hk => ?_⟩
      unfold stepO
      rw [hiff, ifp_t (Classical.not_not.mp (fun q => c5 (hlaw.1.mpr q)))]
      exact hO k hk
    · replace c5 : σ 24 0 (plF (σ 23 0) (τ 54 0 (mn + 1)) ln) = 1 := c5
      refine And.intro vpl ?_
      rw [epl]
      refine call_ex (ev_shift (mput σ 27 0 (upd (σ 27 0) 7 (nI (mn + 1)))) (m := mn + 1) (o := o) (σ 26 0 (plF (σ 23 0) (τ 54 0 (mn + 1)) ln)) I hLR hO) ?_
      rintro r s ⟨rfl, f, rfl, hf⟩
      refine ⟨rfl, f, rfl, fun k hk => ?_⟩
      unfold stepO
      rw [hiff, ifp_f (hlaw.1.mp c5), cpy_in (emb_lt hW0 hW1 hH1 hk), ← hlaw.2]
      exact hf k hk
  · replace c3 : nI (mn + 1) = σ 27 0 9 := c3
    rw [hct] at c3
    replace c4 : ¬ sudX (σ 10 (mn + 1) 6) (σ 10 (mn + 1) 3) (σ 7 0 5) := fun q => c4 (b2i_t q)
    refine br_f (by decide) ?_
    refine And.intro vpl ?_
    rw [epl]
    have hiff : ifp (grw τ (lwF (τ 64 0) (τ 54 0 (mn + 1)) ln ln) (¬ (sdP τ W H (mn + 1) ↔ nI (mn + 1) = ct)) = 0) = ifp (α := Nat → Int32) (grw τ (lwF (τ 64 0) (τ 54 0 (mn + 1)) ln ln) True = 0) := by rw [show (¬ (sdP τ W H (mn + 1) ↔ nI (mn + 1) = ct)) = True from propext (by rw [← hsd]; simp [c3, c4])]
    have hlaw := law_ok hL (τ 54 0 (mn + 1)) True
    rw [ifp_t trivial] at hlaw
    refine And.intro (fun c5 => ?_) (fun c5 => ?_)
    · replace c5 : ¬ σ 25 0 (plF (σ 23 0) (τ 54 0 (mn + 1)) ln) = 1 := c5
      refine ⟨rfl, σ 29 0, (mput_self (mput σ 27 0 (upd (σ 27 0) 7 (nI (mn + 1)))) 29 0).symm, fun k hk => ?_⟩
      unfold stepO
      rw [hiff, ifp_t (Classical.not_not.mp (fun q => c5 (hlaw.1.mpr q)))]
      exact hO k hk
    · replace c5 : σ 25 0 (plF (σ 23 0) (τ 54 0 (mn + 1)) ln) = 1 := c5
      refine And.intro vpl ?_
      rw [epl]
      refine call_ex (ev_shift (mput σ 27 0 (upd (σ 27 0) 7 (nI (mn + 1)))) (m := mn + 1) (o := o) (σ 26 0 (plF (σ 23 0) (τ 54 0 (mn + 1)) ln)) I hLR hO) ?_
      rintro r s ⟨rfl, f, rfl, hf⟩
      refine ⟨rfl, f, rfl, fun k hk => ?_⟩
      unfold stepO
      rw [hiff, ifp_f (hlaw.1.mp c5), cpy_in (emb_lt hW0 hW1 hH1 hk), ← hlaw.2]
      exact hf k hk
