/-! CLASS: taxes, steps, the weakest step -/
theorem arF_c {W H : Nat} (hW0 : 0 < W) {wt o o' : Nat → Int32} {its : Int32} (h : ∀ k, k < W * H → o (emb W k) = o' (emb W k)) : arF W H wt o its 144 = arF W H wt o' its 144 := fo_cong fun c hc x => by
  rw [b2i_c]
  constructor
  · rintro ⟨q1, q2, q3⟩
    have := h _ (une_lt q1)
    rw [emb_une q1] at this
    exact ⟨q1, q2, by rw [← this]; exact q3⟩
  · rintro ⟨q1, q2, q3⟩
    have := h _ (une_lt q1)
    rw [emb_une q1] at this
    exact ⟨q1, q2, by rw [this]; exact q3⟩
theorem tax_0 {τ : mS} {W H mp dn ln : Nat} {o : Int32} {A : Nat} : ∀ n, n ≤ A → taxF τ W H mp dn ln o A n = 0
  | 0, _ => rfl
  | n + 1, h => by
    have ih := tax_0 (τ := τ) (W := W) (H := H) (mp := mp) (dn := dn) (ln := ln) (o := o) (A := A) n (by omega)
    have e : taxF τ W H mp dn ln o A (n + 1) = taxF τ W H mp dn ln o A n + (if n < A then 0 else areaF τ W H mp dn ln o n) := rfl
    rw [e, ih, if_pos (by omega)]
    rfl
theorem tax_s {τ : mS} {W H mp dn ln : Nat} {o : Int32} {A n : Nat} (h : A ≤ n) : taxF τ W H mp dn ln o A (n + 1) = taxF τ W H mp dn ln o A n + areaF τ W H mp dn ln o n := by
  have e : taxF τ W H mp dn ln o A (n + 1) = taxF τ W H mp dn ln o A n + (if n < A then 0 else areaF τ W H mp dn ln o n) := rfl
  rw [e, if_neg (by omega)]
theorem tax_1 {τ : mS} {W H mp dn ln : Nat} {o : Int32} {A : Nat} : taxF τ W H mp dn ln o A (A + 1) = areaF τ W H mp dn ln o A := by
  rw [tax_s (Nat.le_refl _), tax_0 A (Nat.le_refl _), Int32.zero_add]
theorem re_dry {σ τ s : mS} {W H mp dn ln Y : Nat} (its : Int32) (hS : ST σ τ W H mp dn ln) (h : RE σ τ W H mp dn ln (-1) Y s) : Ev kX5_dryOf [xP, mI its] s (fun r t => r = some (mI (areaF τ W H mp dn ln its Y)) ∧ t = s) := by
  obtain ⟨y', mn, dd, -, hMid, ⟨hFQ, h30, ⟨e7, -, -⟩, hO, -⟩, hmap, -⟩ := h
  have hS2 := hS.fr hFQ
  have hc := ev_dryOf s τ its hS2.1 hS2.2.1 e7 hMid.1.2.1 hO
  rw [← hmap] at hc
  exact hc
theorem re_same {σ τ s : mS} {W H mp dn ln Y Y' : Nat} {its : Int32} (hS : ST σ τ W H mp dn ln) (h : RE σ τ W H mp dn ln (-1) Y s) (h' : RE σ τ W H mp dn ln (-1) Y' s) : areaF τ W H mp dn ln its Y = areaF τ W H mp dn ln its Y' := by
  obtain ⟨y1, mn, dd, -, hMid, ⟨-, -, ⟨e7, -, -⟩, hO, -⟩, hmap, -⟩ := h
  obtain ⟨y2, mn', dd', -, hMid', ⟨-, -, ⟨e7', -, -⟩, hO', -⟩, hmap', -⟩ := h'
  have hmp := hS.2.1.1.2
  have e : mn = mn' := nI_inj (by have := hMid.1.2.1; omega) (by have := hMid'.1.2.1; omega) (e7.symm.trans e7')
  unfold areaF
  rw [hmap, hmap', e]
  exact arF_c hS.1.1.2.1 (fun k hk => by rw [← hO k hk, ← hO' k hk])
theorem RE.fq {σ τ s : mS} {W H mp dn ln Y : Nat} {ct : Int32} (h : RE σ τ W H mp dn ln ct Y s) : FQ σ s := by
  obtain ⟨-, -, -, -, -, ⟨hFQ, -⟩, -⟩ := h
  exact hFQ
theorem ev_xtax (σ τ : mS) {W H mp dn ln : Nat} (hS : ST σ τ W H mp dn ln) (hF : FO σ τ W (W * H)) (o a b : Int32) (post : Option mV → mS → Prop)
    (hbad : ¬ (askP o a mp ∧ vp_in b 201 ∧ a ≤ b) → post (some (mI (-2))) σ)
    (hgo : ∀ A B, A ≤ B → B ≤ 200 → a = nI A → b = nI B → askP o a mp → ∀ s, QX σ s → post (some (mI (taxF τ W H mp dn ln o A (B + 1)))) s) : Ev kX7_tax [xX, mI o, mI a, mI b] σ post := by
  have hV := hS.2.1
  refine Ev.intro fun G hG => hG.run ?_
  refine call_of (ev_isOwnerOrNone σ o) ?_
  refine And.intro (fun c1 => hbad (fun q => b_f c1 q.1.1)) (fun c1 => ?_)
  have c1 := b_t c1
  refine call_of (ev_xYear σ a) ?_
  refine And.intro (fun c2 => hbad (fun q => b_f c2 q.1.2.1)) (fun c2 => ?_)
  have c2 := b_t c2
  refine call_of (ev_xYear σ b) ?_
  refine And.intro (fun c3 => hbad (fun q => b_f c3 q.2.1)) (fun c3 => ?_)
  have c3 := b_t c3
  refine And.intro (fun c4 => hbad (fun q => not_le_of c4 q.2.2)) (fun c4 => ?_)
  have c4 : a ≤ b := Int32.not_lt.mp c4
  obtain ⟨A, hA, rfl⟩ := yr_of c2
  obtain ⟨B, hB, rfl⟩ := yr_of c3
  have hAB := le_of_le c4 (by omega)
  refine call_of (ev_isEmpty σ hV.1.1 hV.1.2) ?_
  refine And.intro (fun c5 => ?_) (fun c5 => hbad (fun q => by have := b_t c5; have := q.1.2.2; omega))
  have c5 : 0 < mp := by have := b_f c5; omega
  refine call_ex (ev_runFirst σ τ (-1) hS hF c5 hA) ?_
  rintro r s ⟨rfl, hE⟩
  refine call_of (re_dry o hS hE) ?_
  have loop : ∀ n y s, y + n = B + 1 → A + 1 ≤ y → RE σ τ W H mp dn ln (-1) (y - 1) s → G 67 [some xX, some (mI o), some (mI (nI A)), some (mI (nI B)), some (mI (areaF τ W H mp dn ln o (y - 1))), some (mI (taxF τ W H mp dn ln o A y)), some (mI (nI y))] [] s := by
    intro n
    induction n with
    | zero =>
      intro y s hy hA1 hE
      have : y = B + 1 := by omega
      subst this
      exact hG.run (br_t (nI_lt (by omega) (by omega)) (hgo A B hAB hB rfl rfl ⟨c1, c2, c5⟩ s hE.fq.q))
    | succ n ih =>
      intro y s hy hA1 hE
      refine hG.run (br_f (nI_nlt (by omega) (by omega)) ?_)
      have hE0 := hE
      obtain ⟨y1, mn, dd, hy1, hMid, hRS, -⟩ := hE
      refine call_ex (ev_runTo σ τ s (Y := y) hS hMid hRS (by omega) (by omega)) ?_
      rintro r s2 ⟨a, rfl, ha, ha0, -, hE2⟩
      have h5 := ih (y + 1) s2 (by omega) (by omega) (by rw [show y + 1 - 1 = y by omega]; exact hE2)
      rw [tax_s (by omega), show y + 1 - 1 = y by omega, ← nI_1] at h5
      refine And.intro (fun c6 => ?_) (fun c6 => ?_)
      · have hs := ha0 c6
        subst hs
        rw [re_same hS hE2 hE0] at h5
        exact h5
      · refine call_of (re_dry o hS hE2) ?_
        exact h5
  have h := loop (B - A) (A + 1) s (by omega) (by omega) (by rw [show A + 1 - 1 = A by omega]; exact hE)
  rw [tax_1, show A + 1 - 1 = A by omega, ← nI_1] at h
  exact h
theorem ev_xarea (σ τ : mS) {W H mp dn ln : Nat} (hS : ST σ τ W H mp dn ln) (hF : FO σ τ W (W * H)) (o year : Int32) (post : Option mV → mS → Prop)
    (hbad : ¬ askP o year mp → post (some (mI (-2))) σ) (hgo : ∀ yr, yr ≤ 200 → year = nI yr → askP o year mp → ∀ s, QX σ s → post (some (mI (areaF τ W H mp dn ln o yr))) s) : Ev kX7_area [xX, mI o, mI year] σ post := by
  refine Ev.intro fun G hG => hG.run ?_
  refine call_ex (ev_xtax σ τ hS hF o year year (fun r s => ∃ v, r = some (mI v) ∧ post (some (mI v)) s) (fun q => ⟨-2, rfl, hbad (fun p => q ⟨p, p.2.1, Int32.le_refl _⟩)⟩) (fun A B h1 h2 h3 h4 h5 s hs => ⟨_, rfl, ?_⟩)) ?_
  · have : A = B := by
      rw [h3] at h4
      exact nI_inj (by omega) (by omega) h4
    subst this
    rw [tax_1]
    exact hgo A h2 h3 h5 s hs
  · rintro r s ⟨v, rfl, hp⟩
    exact hp
theorem ev_xstep (σ τ : mS) {W H mp dn ln : Nat} (hS : ST σ τ W H mp dn ln) (hF : FO σ τ W (W * H)) (st w : Int32) (post : Option mV → mS → Prop)
    (hbad : ¬ (stepP st mp ∧ vp_in w 8) → post (some (mI (-1))) σ)
    (hgo : ∀ m j, 0 < m → m < mp → st = nI m → j < 8 → w = nI j → ∀ s, QX σ s → post (some (mI (stV τ W H mp dn ln m (ysF τ m) j))) s) : Ev kX7_step [xX, mI st, mI w] σ post := by
  have hV := hS.2.1
  refine Ev.intro fun G hG => hG.run ?_
  refine call_of (ev_hasStep σ st hV.1.1 hV.1.2) ?_
  refine And.intro (fun c1 => ?_) (fun c1 => hbad (fun q => b_f c1 q.1))
  obtain ⟨m, hm0, hm, rfl⟩ := b_t c1
  have hmp := hV.1.2
  obtain ⟨hL, hyr, -⟩ := hV.2.2 m hm
  refine And.intro (vp_in_nI (by omega) (by omega)) ?_
  rw [nI_cl (by omega)]
  refine And.intro (fun c => ⟨?_, by decide⟩) (fun n off ho hx => ?_)
  · exact hbad (fun q => by have q := q.2; rw [vp_in_iff] at q; omega)
  · have hn : n < 8 := by
      rcases Nat.lt_or_ge n 8 with q | q
      · exact q
      · rw [Array.getElem?_eq_none (by simpa using q)] at ho; cases ho
    have hg := hgo m n hm0 hm rfl hn (toInt_nat hx (by omega))
    match n, hn, ho, hg with
    | 0, _, ho, hg =>
      cases ho
      have hg : post (some (mI (τ 54 0 m))) σ := hg σ QX.rf
      rw [← hyr] at hg
      exact ⟨hg, by decide⟩
    | 1, _, ho, hg =>
      cases ho
      have hg : post (some (mI (kcF (kdM τ W H m) 1 144))) σ := hg σ QX.rf
      rw [← hL.1.1] at hg
      exact ⟨hg, by decide⟩
    | 2, _, ho, hg =>
      cases ho
      have hg : post (some (mI (kcF (kdM τ W H m) 2 144))) σ := hg σ QX.rf
      rw [← hL.1.2.1] at hg
      exact ⟨hg, by decide⟩
    | 3, _, ho, hg =>
      cases ho
      have hg : post (some (mI (nI (farF (kdM τ W H m) 144)))) σ := hg σ QX.rf
      rw [← hL.1.2.2.1] at hg
      exact ⟨hg, by decide⟩
    | 4, _, ho, hg =>
      cases ho
      have hg : post (some (mI (b2i (sdP τ W H m)))) σ := hg σ QX.rf
      refine ⟨?_, by decide⟩
      refine call_of (ev_xSudden σ (m := m) (by omega)) ?_
      refine And.intro (fun c => ?_) (fun c => ?_)
      · rw [b2i_f (fun q => b_f c ((sud_ok hV hm0 hm).mpr q))] at hg
        exact hg
      · rw [b2i_t ((sud_ok hV hm0 hm).mp (b_t c))] at hg
        exact hg
    | 5, _, ho, hg =>
      cases ho
      have hg : post (some (mI (ptL (newP (kdM τ W H m)) 144))) σ := hg σ QX.rf
      rw [← hL.1.2.2.2.1] at hg
      exact ⟨hg, by decide⟩
    | 6, _, ho, hg =>
      cases ho
      have hg : post (some (mI (ptL (newP (kdM τ W H m)) 144 - shL (kdM τ W H m) 144))) σ := hg σ QX.rf
      rw [← hL.1.2.2.2.2] at hg
      exact ⟨hg, by decide⟩
    | 7, _, ho, hg =>
      cases ho
      refine ⟨?_, by decide⟩
      refine call_ex (ev_changedBy σ τ hS hF hm0 hm) ?_
      rintro r s ⟨rfl, hq⟩
      exact hg s hq.q
    | n + 8, hn, _, _ => exact absurd hn (by omega)
