/-! THE REFERENCE: what is told -/
theorem b_t {P : Prop} (h : ¬ b2i P = 0) : P := Classical.not_not.mp (fun q => h (b2i_0.mpr q))
theorem b_f {P : Prop} (h : b2i P = 0) : ¬ P := b2i_0.mp h
/-- thrown becomes 0 -/
abbrev th0 (σ : mS) : mS := mput σ 40 0 (upd (σ 40 0) 0 0)
def bitP (bits : Int32) (x : Nat) : Prop := (bits >>> (nI x &&& 31)) &&& 1 = 1
noncomputable def rowW (f : Nat → Int32) (o : Nat) (bits : Int32) (n : Nat) : Nat → Int32 := fun j => if o ≤ j ∧ j < o + n then b2i (bitP bits (j - o)) else f j
theorem rowW_0 (f : Nat → Int32) (o : Nat) (bits : Int32) : rowW f o bits 0 = f := by
  funext j
  exact if_neg (by omega)
theorem rowW_s (f : Nat → Int32) (o : Nat) (bits : Int32) (n : Nat) : upd (rowW f o bits n) (o + n) (b2i (bitP bits n)) = rowW f o bits (n + 1) := by
  funext j
  unfold upd rowW
  by_cases h1 : j = o + n
  · subst h1
    rw [if_pos rfl, if_pos (by omega)]
    congr 2
    omega
  · by_cases h2 : o ≤ j ∧ j < o + n
    · rw [if_neg h1, if_pos h2, if_pos (by omega)]
    · rw [if_neg h1, if_neg h2, if_neg (by omega)]
noncomputable def rowN (bits : Int32) (n : Nat) : Int32 := fo (fun x acc => acc + b2i (bitP bits x)) 0 n
noncomputable def rowS (σ : mS) (mp Y : Nat) (bits : Int32) (W : Nat) : mS := mput σ 55 0 (rowW (σ 55 0) (144 * mp + 12 * Y) bits W)
theorem idx3 (a b c : Nat) : (144 : Int32) * nI a + (12 * nI b + nI c) = nI (144 * a + 12 * b + c) := by
  show nI 144 * nI a + (nI 12 * nI b + nI c) = _
  rw [pk_mul, pk_mul, nI_add, nI_add]
  congr 1
  omega
theorem idx2 (a c : Nat) : (144 : Int32) * nI a + nI c = nI (144 * a + c) := by
  show nI 144 * nI a + nI c = _
  rw [pk_mul, nI_add]
theorem idx1 (b c : Nat) : (12 : Int32) * nI b + nI c = nI (12 * b + c) := by
  show nI 12 * nI b + nI c = _
  rw [pk_mul, nI_add]
theorem ev_rowOf (σ : mS) (Y : Nat) (bits : Int32) {W mp : Nat} (hW : σ 40 0 1 = nI W) (h2 : W ≤ 12) (hm : σ 40 0 3 = nI mp) (h3 : mp ≤ 10) (h4 : Y < 12) : Ev kX8_rowOf [mM, mI (nI Y), mI bits] σ (fun r s => r = some (mI (rowN bits W)) ∧ s = rowS σ mp Y bits W) := by
  refine Ev.intro fun G hG => hG.run ?_
  have key : ∀ (z : Option mV), G 5 [some mM, some (mI (nI Y)), some (mI bits), some (mI 0), some (mI 0), z] [] σ := by
    have : ∀ n i, i + n = W → ∀ z : Option mV, G 5 [some mM, some (mI (nI Y)), some (mI bits), some (mI (rowN bits i)), some (mI (nI i)), z] [] (mput σ 55 0 (rowW (σ 55 0) (144 * mp + 12 * Y) bits i)) := by
      intro n
      induction n with
      | zero =>
        intro i hi z
        have : i = W := by omega
        subst this
        refine hG.run (br_t ?_ ?_)
        · show σ 40 0 1 ≤ nI i
          rw [hW]
          exact Int32.le_refl _
        · exact ⟨rfl, rfl⟩
      | succ n ih =>
        intro i hi z
        refine hG.run (br_f ?_ ?_)
        · show ¬ σ 40 0 1 ≤ nI i
          rw [hW]
          exact nI_ge (by omega) (by omega)
        · refine And.intro (fun c1 => ?_) (fun c1 => ?_)
          · have hb : b2i (bitP bits i) = 0 := b2i_f c1
            refine call_of (ev_cell _ (nI i) (nI Y)) ?_
            refine And.intro ?_ ?_
            · show vp_in (144 * σ 40 0 3 + (12 * nI Y + nI i)) 1584
              rw [hm, idx3]
              exact vp_in_nI (by omega) (by omega)
            · refine And.intro (fun _ => ?_) (fun c => absurd rfl c)
              show G 5 [some mM, some (mI (nI Y)), some (mI bits), some (mI (rowN bits i + 0)), some (mI (nI i + 1)), some (mI 0)] [] (mput (mput σ 55 0 (rowW (σ 55 0) (144 * mp + 12 * Y) bits i)) 55 0 (upd (rowW (σ 55 0) (144 * mp + 12 * Y) bits i) (144 * σ 40 0 3 + (12 * nI Y + nI i)).toNatClampNeg 0))
              rw [hm, idx3, nI_cl (by omega), mput_mput, nI_1]
              have h5 := ih (i + 1) (by omega) (some (mI 0))
              rw [← rowW_s, show rowN bits (i + 1) = rowN bits i + b2i (bitP bits i) from rfl, hb] at h5
              exact h5
          · have hb : b2i (bitP bits i) = 1 := b2i_t c1
            refine call_of (ev_cell _ (nI i) (nI Y)) ?_
            refine And.intro ?_ ?_
            · show vp_in (144 * σ 40 0 3 + (12 * nI Y + nI i)) 1584
              rw [hm, idx3]
              exact vp_in_nI (by omega) (by omega)
            · refine And.intro (fun c => absurd c (by decide)) (fun _ => ?_)
              show G 5 [some mM, some (mI (nI Y)), some (mI bits), some (mI (rowN bits i + 1)), some (mI (nI i + 1)), some (mI 1)] [] (mput (mput σ 55 0 (rowW (σ 55 0) (144 * mp + 12 * Y) bits i)) 55 0 (upd (rowW (σ 55 0) (144 * mp + 12 * Y) bits i) (144 * σ 40 0 3 + (12 * nI Y + nI i)).toNatClampNeg 1))
              rw [hm, idx3, nI_cl (by omega), mput_mput, nI_1]
              have h5 := ih (i + 1) (by omega) (some (mI 1))
              rw [← rowW_s, show rowN bits (i + 1) = rowN bits i + b2i (bitP bits i) from rfl, hb] at h5
              exact h5
    intro z
    have h5 := this W 0 (by omega) z
    rw [rowW_0, mput_self] at h5
    exact h5
  exact key none
/-- the row is there, and a map can come -/
theorem ev_water (σ : mS) (y bits : Int32) {W H mp : Nat} (hW : σ 40 0 1 = nI W) (h2 : W ≤ 12) (hH : σ 40 0 2 = nI H) (h0 : 0 < H) (h4 : H ≤ 12) (hm : σ 40 0 3 = nI mp) (h3 : mp ≤ 10) (post : Option mV → mS → Prop)
    (hbad : ¬ (vp_in y H ∧ mp < 10) → post (some (mI (-1))) (th0 σ)) (hgo : ∀ Y, Y < H → y = nI Y → mp < 10 → post (some (mI (rowN bits W))) (rowS (th0 σ) mp Y bits W)) : Ev kX8_water [mM, mI y, mI bits] σ post := by
  refine Ev.intro fun G hG => hG.run ?_
  refine call_of (ev_inI _ y 0 (σ 40 0 2 - 1)) ?_
  rw [hH, b2i_c (in_iff h0 (by omega))]
  refine And.intro (fun c1 => ?_) (fun c1 => ?_)
  · exact hbad (fun q => b_f c1 q.1)
  · have c1 := b_t c1
    refine And.intro (fun c2 => ?_) (fun c2 => ?_)
    · replace c2 : (10 : Int32) ≤ σ 40 0 3 := c2
      rw [hm] at c2
      exact hbad (fun q => absurd c2 (nI_ge (b := 10) q.2 (by decide)))
    · replace c2 : ¬ (10 : Int32) ≤ σ 40 0 3 := c2
      rw [hm] at c2
      have c3 : mp < 10 := by
        rcases Nat.lt_or_ge mp 10 with q | q
        · exact q
        · exact absurd (nI_le (a := 10) q (by omega)) c2
      obtain ⟨Y, hY, rfl⟩ := (vp_nI (by omega)).mp c1
      exact call_of (ev_rowOf (th0 σ) Y bits hW h2 hm h3 (by omega)) (hgo Y hY rfl c3)
