/-! BOTH: the two calls that may throw -/
theorem ev_xmoved (σ τ : mS) {W H mp dn ln : Nat} (hS : ST σ τ W H mp dn ln) (hF : FO σ τ W (W * H)) (o st : Int32) (post : Option mV → mS → Prop)
    (hbad : ¬ ((0 ≤ o ∧ o ≤ 9) ∧ stepP st mp) → post (some mThr) σ)
    (hgo : ∀ m, 0 < m → m < mp → st = nI m → (0 ≤ o ∧ o ≤ 9) → ∀ s, QX σ s → post (some (mI (arF W H (wtr τ m) (stepO τ W H ln m False (upO τ W H mp dn ln (-1) (ysF τ m))) o 144 - arF W H (wtr τ (m - 1)) (upO τ W H mp dn ln (-1) (ysF τ m)) o 144))) s) : Ev kX7_moved [xX, mI o, mI st] σ post := by
  have hV := hS.2.1
  refine Ev.intro fun G hG => hG.run ?_
  refine call_of (ev_isOwner σ o) ?_
  refine And.intro (fun c1 => hbad (fun q => b_f c1 q.1)) (fun c1 => ?_)
  have c1 := b_t c1
  refine call_of (ev_hasStep σ st hV.1.1 hV.1.2) ?_
  refine And.intro (fun c2 => ?_) (fun c2 => hbad (fun q => b_f c2 q.2))
  obtain ⟨m, hm0, hm, rfl⟩ := b_t c2
  refine call_ex (ev_wonBy σ τ o hS hF hm0 hm) ?_
  rintro r s ⟨rfl, hq⟩
  exact hgo m hm0 hm rfl c1 s hq.q
theorem ev_xrow (σ : mS) {rw : Nat} (hr : σ 0 0 7 = nI rw) (hr1 : rw ≤ 80) (i : Int32) (post : Option mV → mS → Prop)
    (hbad : ¬ vp_in i rw → post (some mThr) σ) (hgo : ∀ j, j < rw → i = nI j → post (some (mI (σ 31 0 j))) σ) : Ev kX7_row [xX, mI i] σ post := by
  refine Ev.intro fun G hG => hG.run ?_
  refine And.intro (fun c1 => hbad (fun q => q (Or.inl c1))) (fun c1 => ?_)
  replace c1 : ¬ i < 0 := c1
  refine And.intro (fun c2 => ?_) (fun c2 => ?_)
  · replace c2 : i < σ 0 0 7 := c2
    rw [hr] at c2
    have : vp_in i rw := by
      rw [vp_in_iff]
      rw [Int32.lt_iff_toInt_lt, nI_toInt (by omega)] at c2
      rw [Int32.lt_iff_toInt_lt, Int32.toInt_zero] at c1
      omega
    obtain ⟨j, hj, rfl⟩ := (vp_nI (by omega)).mp this
    refine And.intro (vp_in_nI (by omega) (by omega)) ?_
    rw [nI_cl (by omega)]
    exact hgo j hj rfl
  · replace c2 : ¬ i < σ 0 0 7 := c2
    rw [hr] at c2
    refine hbad (fun q => ?_)
    obtain ⟨j, hj, rfl⟩ := (vp_nI (by omega)).mp q
    exact c2 (nI_lt hj (by omega))
/-- both calls answer alike, or the class throws where the reference says so -/
def PairT (kx : Nat) (ax : List mV) (km : Nat) (am : List mV) (σ τ : mS) : Prop := ∃ (PX PM : mS → Prop), (∀ s t, PX s → PM t → RXe s t) ∧
  ((Ev kx (xX :: ax) σ (fun r s => r = some mThr ∧ PX s) ∧ Ev km (mM :: am) τ (fun r t => r = some (mI 0) ∧ PM t ∧ t 40 0 0 = 1)) ∨
   ∃ v : Int32, Ev kx (xX :: ax) σ (fun r s => r = some (mI v) ∧ PX s) ∧ Ev km (mM :: am) τ (fun r t => r = some (mI v) ∧ PM t ∧ t 40 0 0 = 0))
theorem p_moved {σ τ : mS} {W H mp dn ln rw : Nat} (hR : RX σ τ W H mp dn ln rw) (o st : Int32) : PairT kX7_moved [mI o, mI st] kX8_moved [mI o, mI st] σ τ := by
  obtain ⟨hS, hF, ht, hd, hj, hw⟩ := id hR
  have hI := hS.2.2.2.2
  have hMY := mi_my hI
  have hmp := hS.2.1.1.2
  refine ⟨QX σ, QM τ, fun _ _ a b => ⟨W, H, mp, dn, ln, rw, hR.q a b⟩, ?_⟩
  by_cases hc : (0 ≤ o ∧ o ≤ 9) ∧ stepP st mp
  · obtain ⟨ho, m, hm0, hm, rfl⟩ := id hc
    refine Or.inr ⟨arF W H (wtr τ m) (stepO τ W H ln m False (upO τ W H mp dn ln (-1) (ysF τ m))) o 144 - arF W H (wtr τ (m - 1)) (upO τ W H mp dn ln (-1) (ysF τ m)) o 144, ev_xmoved σ τ hS hF _ _ _ (fun q => absurd hc q) (fun m' a b c _ s hs => ?_), ev_moved τ hI ht _ _ _ (fun q => absurd hc q) (fun m' y' a b c y1 y2 y3 _ s hs h0 => ?_)⟩
    · rw [eqX (n := 10) (by omega) (by omega) (by omega) c.symm]; exact ⟨rfl, hs⟩
    · have em := eqX (n := 10) (a := m') (b := m) (by omega) (by omega) (by omega) c.symm
      subst em
      have ey : y' = ysF τ m' := eqX (n := 201) (by omega) (by have := (hMY.1 m' b).2; omega) (by omega) (y1.symm.trans (hMY.1 m' b).1)
      rw [ey]; exact ⟨rfl, hs, h0⟩
  · exact Or.inl ⟨ev_xmoved σ τ hS hF _ _ _ (fun _ => ⟨rfl, QX.rf⟩) (fun m' a b c d s hs => absurd ⟨d, m', a, b, c⟩ hc), ev_moved τ hI ht _ _ _ (fun _ s hs h1 => ⟨rfl, hs, h1⟩) (fun m' y' a b c y1 y2 y3 d s hs h0 => absurd ⟨d, m', a, b, c⟩ hc)⟩
theorem p_row {σ τ : mS} {W H mp dn ln rw : Nat} (hR : RX σ τ W H mp dn ln rw) (i : Int32) : PairT kX7_row [mI i] kX8_row [mI i] σ τ := by
  obtain ⟨hS, hF, ht, hd, hj, hw⟩ := id hR
  obtain ⟨w1, w2, w3, w4⟩ := id hw
  refine ⟨QX σ, QM τ, fun _ _ a b => ⟨W, H, mp, dn, ln, rw, hR.q a b⟩, ?_⟩
  by_cases hc : vp_in i rw
  · obtain ⟨j, hj', rfl⟩ := (vp_nI (by omega)).mp hc
    refine Or.inr ⟨σ 31 0 j, ev_xrow σ w2 w1 _ _ (fun q => absurd hc q) (fun j' a b => ?_), ev_row τ w3 (by omega) _ _ (fun q => absurd hc q) (fun j' a b => ?_)⟩
    · rw [eqX a hj' (by omega) b.symm]; exact ⟨rfl, QX.rf⟩
    · rw [eqX a hj' (by omega) b.symm, w4 j hj']; exact ⟨rfl, th_q ht, rfl⟩
  · have bad : ∀ j', j' < rw → i = nI j' → False := fun j' a b => hc (by rw [b]; exact vp_in_nI a (by omega))
    refine Or.inl ⟨ev_xrow σ w2 w1 _ _ (fun _ => ⟨rfl, QX.rf⟩) (fun j' a b => (bad j' a b).elim), ev_row τ w3 (by omega) _ _ (fun _ => ⟨rfl, ⟨fun j a b => ?_, fun g a _ _ _ _ _ _ _ => ?_, ht⟩, rfl⟩) (fun j' a b => (bad j' a b).elim)⟩
    · rw [mput_eq, upd_ne _ _ a]
    · rw [mput_ng _ _ _ _ a]
