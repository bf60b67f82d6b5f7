/-! THE LAW'S LOOP -/
section LLP
variable {p : Program} {l : Launch} {e : Env} {s : State} {m : MethodId} {below : List Frame} {meth : Method} {c : Code} {b L : Nat} {xs : Nat → Int32} {Q : State → Prop}
variable {dC : Nat → ClassId} {dI ax am : Nat → Nat → Nat} {cI cZ cL cJ : ClassId} {qo : Nat}
theorem lw_exit (hC0 : LC p s m meth c b L xs dC dI ax am cI cZ cL cJ qo) {H : Heap} {locs : List Loc} (hS : va_S (fun q : Nat => s.heap.size ≤ q) s.heap H locs) {cells slots : Nat} (hcs : cells ≤ 601024 ∧ slots ≤ 7293034) {ls : Array Slot} : W p l e room_1 s m #[Value.ref b] below meth c H locs cells slots (lw_Z below #[Value.ref b] s) (F0 m 1193 ls []) := by
  obtain ⟨hx, hb, hr, hml, hown, hts, hX, hbl, hlocks, hgv⟩ := hC0.1
  refine lv_iconst (v := 1) hx hb dL_law_1193 (by decide) ?_
  refine va_forget (fun q hq => hS.2.2 q hq) ?_
  refine W.widen (k := 601024) (n := 7293034) hcs.1 hcs.2 ?_
  exact lw_ret hx hb hr hlocks dL_law_1194
theorem lw_gt {k L : Nat} (hL : L ≤ 3584) (hk : 7 * k ≤ 4000) : Int32.ofNat L - 7 < nI (7 * k) ↔ L < 7 * k + 7 := by
  rw [Int32.lt_iff_toInt_lt, show Int32.ofNat L - 7 = nI L - nI 7 from rfl, pk_sub_toInt (by omega) (by omega), nI_toInt (by omega)]
  omega
theorem lw_inc (k : Nat) : nI (7 * k) + Int32.ofInt 7 = nI (7 * (k + 1)) := by
  rw [show Int32.ofInt 7 = nI 7 from by decide, nI_add]
  rfl
set_option maxHeartbeats 8000000 in
set_option maxRecDepth 100000 in
theorem law_loop (hst : l.stackTraces = false) (hL : L ≤ 3584) (hC0 : LC p s m meth c b L xs dC dI ax am cI cZ cL cJ qo) : ∀ (n k : Nat), L ≤ 7 * k + 7 * n → 7 * k ≤ L → ∀ (σ τ : mS) (fo : Nat → Int64) (H : Heap) (locs : List Loc) (ls : Array Slot), RXe σ τ → LI s dC dI ax am cI cZ cL cJ qo σ τ fo H locs → lv_has ls 7 (lw5 b ax am qo (nI (7 * k))) →
    W p l e room_1 s m #[Value.ref b] below meth c H locs (82 + k) (8002 + 6 * k) (lw_Z below #[Value.ref b] s) (F0 m 23 ls []) := by
  obtain ⟨hx, hb, hr, hml, hown, hts, hX, hbl, hlocks, hgv⟩ := hC0.1
  have hbA : ¬ (fun q : Nat => s.heap.size ≤ q) b := Nat.not_le.mpr hbl
  intro n
  induction n with
  | zero =>
    intro k h1 h2 σ τ fo H locs ls hR hI hl
    refine lv_iload hx hb dL_law_23 (lv_at hl 4 rfl) ?_
    refine lv_aload_n hx hb dL_law_25 rfl (lv_at hl 0 rfl) ?_
    refine va_slen hx hb hX hbl hbA hI.2.2.2 dL_law_26 ?_
    refine lv_bipush (v := 7) hx hb dL_law_27 (by decide) ?_
    refine lv_isub hx hb dL_law_29 ?_
    refine lv_icmp_gt (tgt := 1193) hx hb dL_law_30 (by decide) (fun _ => ?_) (fun q => absurd ((lw_gt hL (by omega)).mpr (by omega)) q)
    exact lw_exit hC0 hI.2.2.2 ⟨by omega, by omega⟩
  | succ n ih =>
    intro k h1 h2 σ τ fo H locs ls hR hI hl
    refine lv_iload hx hb dL_law_23 (lv_at hl 4 rfl) ?_
    refine lv_aload_n hx hb dL_law_25 rfl (lv_at hl 0 rfl) ?_
    refine va_slen hx hb hX hbl hbA hI.2.2.2 dL_law_26 ?_
    refine lv_bipush (v := 7) hx hb dL_law_27 (by decide) ?_
    refine lv_isub hx hb dL_law_29 ?_
    refine lv_icmp_gt (tgt := 1193) hx hb dL_law_30 (by decide) (fun _ => lw_exit hC0 hI.2.2.2 ⟨by omega, by omega⟩) (fun hgt => ?_)
    have hk : 7 * k + 7 ≤ L := by
      rcases Nat.lt_or_ge L (7 * k + 7) with q | q
      · exact absurd ((lw_gt hL (by omega)).mpr q) hgt
      · exact q
    have ht : ∀ (σ' τ' : mS) (fo' : Nat → Int64) (H1 : Heap) (locs1 : List Loc) (ls' : Array Slot), RXe σ' τ' → LI s dC dI ax am cI cZ cL cJ qo σ' τ' fo' H1 locs1 → lv_has ls' 7 (lw5 b ax am qo (nI (7 * k))) → W p l e room_1 s m #[Value.ref b] below meth c H1 locs1 (82 + k + 1) (8002 + 6 * k + 6) (lw_Z below #[Value.ref b] s) (F0 m 1187 ls' []) := by
      intro σ' τ' fo' H1 locs1 ls' hR' hI' hl'
      refine lv_iinc (v := nI (7 * (k + 1))) (k := 4) hx hb dL_law_1187 hl' rfl (lw_inc k) (by decide) rfl (fun ls2 hl2 => ?_)
      refine lv_goto (tgt := 23) hx hb dL_law_1190 (by decide) ?_
      exact W.widen (by omega) (by omega) (ih (k + 1) (by omega) (by omega) σ' τ' fo' H1 locs1 ls2 hR' hI' (lv_sub hl2 [1, 2, 3, 4, 0] rfl))
    have hcs : 82 + k + 1 ≤ 601024 ∧ 8002 + 6 * k + 6 ≤ 7293034 := ⟨by omega, by omega⟩
    refine lv_aload_n hx hb dL_law_33 rfl (lv_at hl 0 rfl) ?_
    refine lv_iload hx hb dL_law_34 (lv_at hl 4 rfl) ?_
    refine va_sld hx hb hX hbl hbA hI.2.2.2 (vp_in_nI (by omega) (by omega)) dL_law_36 ?_
    refine lv_bipush (v := 31) hx hb dL_law_37 (by decide) ?_
    refine lv_iand hx hb dL_law_39 ?_
    obtain ⟨j, hj, ej⟩ := pk_andE (xs (nI (7 * k)).toNatClampNeg) (m := 31) 5 (by decide)
    rw [ej]
    rcases Nat.lt_or_ge j 23 with q | q
    · rcases (show j = 0 ∨ j = 1 ∨ j = 2 ∨ j = 3 ∨ j = 4 ∨ j = 5 ∨ j = 6 ∨ j = 7 ∨ j = 8 ∨ j = 9 ∨ j = 10 ∨ j = 11 ∨ j = 12 ∨ j = 13 ∨ j = 14 ∨ j = 15 ∨ j = 16 ∨ j = 17 ∨ j = 18 ∨ j = 19 ∨ j = 20 ∨ j = 21 ∨ j = 22 by omega) with rfl | rfl | rfl | rfl | rfl | rfl | rfl | rfl | rfl | rfl | rfl | rfl | rfl | rfl | rfl | rfl | rfl | rfl | rfl | rfl | rfl | rfl | rfl
      · exact lv_tableIn (tgt := 148) (off := 108) hx hb dL_law_40 (by decide) (by decide) (by decide) (by decide) (cs_0 hC0 hL hk hR hI hcs hl ht)
      · exact lv_tableIn (tgt := 185) (off := 145) hx hb dL_law_40 (by decide) (by decide) (by decide) (by decide) (cs_1 hC0 hL hk hR hI hcs hl ht)
      · exact lv_tableIn (tgt := 222) (off := 182) hx hb dL_law_40 (by decide) (by decide) (by decide) (by decide) (cs_2 hC0 hL hk hR hI hcs hl ht)
      · exact lv_tableIn (tgt := 295) (off := 255) hx hb dL_law_40 (by decide) (by decide) (by decide) (by decide) (cs_3 hC0 hL hk hR hI hcs hl ht)
      · exact lv_tableIn (tgt := 320) (off := 280) hx hb dL_law_40 (by decide) (by decide) (by decide) (by decide) (cs_4 hC0 hL hk hR hI hcs hl ht)
      · exact lv_tableIn (tgt := 393) (off := 353) hx hb dL_law_40 (by decide) (by decide) (by decide) (by decide) (cs_5 hC0 hL hk hR hI hcs hl ht)
      · exact lv_tableIn (tgt := 480) (off := 440) hx hb dL_law_40 (by decide) (by decide) (by decide) (by decide) (cs_6 hC0 hL hk hR hI hcs hl ht)
      · exact lv_tableIn (tgt := 533) (off := 493) hx hb dL_law_40 (by decide) (by decide) (by decide) (by decide) (cs_7 hC0 hL hk hR hI hcs hl ht)
      · exact lv_tableIn (tgt := 594) (off := 554) hx hb dL_law_40 (by decide) (by decide) (by decide) (by decide) (cs_8 hC0 hL hk hR hI hcs hl ht)
      · exact lv_tableIn (tgt := 619) (off := 579) hx hb dL_law_40 (by decide) (by decide) (by decide) (by decide) (cs_9 hC0 hL hk hR hI hcs hl ht)
      · exact lv_tableIn (tgt := 656) (off := 616) hx hb dL_law_40 (by decide) (by decide) (by decide) (by decide) (cs_10 hC0 hL hk hR hI hcs hl ht)
      · exact lv_tableIn (tgt := 681) (off := 641) hx hb dL_law_40 (by decide) (by decide) (by decide) (by decide) (cs_11 hC0 hL hk hR hI hcs hl ht)
      · exact lv_tableIn (tgt := 730) (off := 690) hx hb dL_law_40 (by decide) (by decide) (by decide) (by decide) (cs_12 hC0 hL hk hR hI hcs hl ht)
      · exact lv_tableIn (tgt := 779) (off := 739) hx hb dL_law_40 (by decide) (by decide) (by decide) (by decide) (cs_13 hC0 hL hk hR hI hcs hl ht)
      · exact lv_tableIn (tgt := 816) (off := 776) hx hb dL_law_40 (by decide) (by decide) (by decide) (by decide) (cs_14 hC0 hL hk hR hI hcs hl ht)
      · exact lv_tableIn (tgt := 853) (off := 813) hx hb dL_law_40 (by decide) (by decide) (by decide) (by decide) (cs_15 hC0 hL hk hR hI hcs hl ht)
      · exact lv_tableIn (tgt := 902) (off := 862) hx hb dL_law_40 (by decide) (by decide) (by decide) (by decide) (cs_16 hC0 hL hk hR hI hcs hl ht)
      · exact lv_tableIn (tgt := 939) (off := 899) hx hb dL_law_40 (by decide) (by decide) (by decide) (by decide) (cs_17 hC0 hL hk hR hI hcs hl ht)
      · exact lv_tableIn (tgt := 964) (off := 924) hx hb dL_law_40 (by decide) (by decide) (by decide) (by decide) (cs_18 hC0 hL hk hR hI hcs hl ht)
      · exact lv_tableIn (tgt := 1001) (off := 961) hx hb dL_law_40 (by decide) (by decide) (by decide) (by decide) (cs_19 hst hC0 hL hk hR hI hcs hl ht)
      · exact lv_tableIn (tgt := 1069) (off := 1029) hx hb dL_law_40 (by decide) (by decide) (by decide) (by decide) (cs_20 hC0 hL hk hR hI hcs hl ht)
      · exact lv_tableIn (tgt := 1106) (off := 1066) hx hb dL_law_40 (by decide) (by decide) (by decide) (by decide) (cs_21 hC0 hL hk hR hI hcs hl ht)
      · exact lv_tableIn (tgt := 1131) (off := 1091) hx hb dL_law_40 (by decide) (by decide) (by decide) (by decide) (cs_22 hst hC0 hL hk hR hI hcs hl ht)
    · refine lv_tableOut (tgt := 1187) hx hb dL_law_40 (Or.inr (by rw [nI_toInt (by omega)]; omega)) (by decide) ?_
      exact W.widen (Nat.le_add_right _ _) (Nat.le_add_right _ _) (ht σ τ fo H locs ls hR hI hl)
end LLP
