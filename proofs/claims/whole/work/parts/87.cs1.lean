/-! THE LAW'S CASES -/
section LCS
variable {p : Program} {l : Launch} {e : Env} {s : State} {m : MethodId} {below : List Frame} {meth : Method} {c : Code} {b L : Nat} {xs : Nat → Int32} {Q : State → Prop}
variable {dC : Nat → ClassId} {dI ax am : Nat → Nat → Nat} {cI cZ cL cJ : ClassId} {qo : Nat}
theorem vok_ints {bb : Bool} (ys : List Int32) : ∀ v ∈ ys.map mI, vok bb v := by
  intro v hv
  obtain ⟨y, -, rfl⟩ := List.mem_map.mp hv
  trivial
set_option maxHeartbeats 4000000 in
set_option maxRecDepth 100000 in
theorem cs_0 (hC0 : LC p s m meth c b L xs dC dI ax am cI cZ cL cJ qo) (hL : L ≤ 3584) {k : Nat} (hk : 7 * k + 7 ≤ L) {σ τ : mS} {fo : Nat → Int64} {H : Heap} {locs : List Loc} (hR : RXe σ τ) (hI : LI s dC dI ax am cI cZ cL cJ qo σ τ fo H locs) {cells slots : Nat} (hcs : cells + 1 ≤ 601024 ∧ slots + 6 ≤ 7293034) {ls : Array Slot} (hl : lv_has ls 7 (lw5 b ax am qo (nI (7 * k))))
    (ht : ∀ (σ' τ' : mS) (fo' : Nat → Int64) (H1 : Heap) (locs1 : List Loc) (ls' : Array Slot), RXe σ' τ' → LI s dC dI ax am cI cZ cL cJ qo σ' τ' fo' H1 locs1 → lv_has ls' 7 (lw5 b ax am qo (nI (7 * k))) → W p l e room_1 s m #[Value.ref b] below meth c H1 locs1 (cells + 1) (slots + 6) Q (F0 m 1187 ls' [])) :
    W p l e room_1 s m #[Value.ref b] below meth c H locs cells slots Q (F0 m 148 ls []) := by
  obtain ⟨hx, hb, hr, hml, hown, hts, hX, hbl, hlocks, hgv⟩ := hC0.1
  have hbA : ¬ (fun q : Nat => s.heap.size ≤ q) b := Nat.not_le.mpr hbl
  have hcs0 : cells ≤ 601024 ∧ slots ≤ 7293034 := ⟨by omega, by omega⟩
  obtain ⟨W9, H9, mp, dn, ln, rw9, hRX⟩ := hR
  have hv1 : vp_in (nI (7 * k) + 1) L := l_vin (t := 1) (by omega) hk hL
  have hv2 : vp_in (nI (7 * k) + 2) L := l_vin (t := 2) (by omega) hk hL
  obtain ⟨v, PX, PM, hEx, hEm, hRe⟩ := p_land hRX (xs (nI (7 * k) + 1).toNatClampNeg) (xs (nI (7 * k) + 2).toNatClampNeg)
  refine lv_aload_n hx hb dL_law_148 rfl (lv_at hl 1 rfl) ?_
  refine lv_aload_n hx hb dL_law_149 rfl (lv_at hl 0 rfl) ?_
  refine lv_iload hx hb dL_law_150 (lv_at hl 4 rfl) ?_
  refine lv_iconst (v := 1) hx hb dL_law_152 (by decide) ?_
  refine lv_iadd hx hb dL_law_153 ?_
  refine va_sld hx hb hX hbl hbA hI.2.2.2 hv1 dL_law_154 ?_
  refine lv_aload_n hx hb dL_law_155 rfl (lv_at hl 0 rfl) ?_
  refine lv_iload hx hb dL_law_156 (lv_at hl 4 rfl) ?_
  refine lv_iconst (v := 2) hx hb dL_law_158 (by decide) ?_
  refine lv_iadd hx hb dL_law_159 ?_
  refine va_sld hx hb hX hbl hbA hI.2.2.2 hv2 dL_law_160 ?_
  refine lx_call hC0 hI 57 rfl (As := [mI (xs (nI (7 * k) + 1).toNatClampNeg), mI (xs (nI (7 * k) + 2).toNatClampNeg)]) hEx (by decide) (by decide) (show 3 ≤ mml 57 from by decide) (vok_ints [(xs (nI (7 * k) + 1).toNatClampNeg), (xs (nI (7 * k) + 2).toNatClampNeg)]) 23 2 (by decide +kernel) rfl (by decide +kernel) (by decide) hcs0 (rest := []) hl.1 (show 0 ≤ 8 from by decide) dL_law_161 (fun r σ1 H1 locs1 hp hI1 => ?_)
  obtain ⟨rfl, hpx⟩ := hp
  refine lv_aload_n hx hb dL_law_164 rfl (lv_at hl 2 rfl) ?_
  refine lv_aload_n hx hb dL_law_165 rfl (lv_at hl 0 rfl) ?_
  refine lv_iload hx hb dL_law_166 (lv_at hl 4 rfl) ?_
  refine lv_iconst (v := 1) hx hb dL_law_168 (by decide) ?_
  refine lv_iadd hx hb dL_law_169 ?_
  refine va_sld hx hb hX hbl hbA hI1.2.2.2 hv1 dL_law_170 ?_
  refine lv_aload_n hx hb dL_law_171 rfl (lv_at hl 0 rfl) ?_
  refine lv_iload hx hb dL_law_172 (lv_at hl 4 rfl) ?_
  refine lv_iconst (v := 2) hx hb dL_law_174 (by decide) ?_
  refine lv_iadd hx hb dL_law_175 ?_
  refine va_sld hx hb hX hbl hbA hI1.2.2.2 hv2 dL_law_176 ?_
  refine lm_call hC0 hI1 92 rfl (As := [mI (xs (nI (7 * k) + 1).toNatClampNeg), mI (xs (nI (7 * k) + 2).toNatClampNeg)]) hEm (by decide) (by decide) (show 3 ≤ mml 92 from by decide) (vok_ints [(xs (nI (7 * k) + 1).toNatClampNeg), (xs (nI (7 * k) + 2).toNatClampNeg)]) 27 2 (by decide +kernel) rfl (by decide +kernel) (by decide) hcs0 (rest := [.int v]) hl.1 (show 1 ≤ 8 from by decide) dL_law_177 (fun r τ1 H2 locs2 hp hI2 => ?_)
  obtain ⟨rfl, hpm⟩ := hp
  refine lv_icmp_eq (tgt := 1187) hx hb dL_law_180 (by decide) (fun _ => ?_) (fun q => absurd rfl q)
  exact W.widen (Nat.le_add_right _ _) (Nat.le_add_right _ _) (ht σ1 τ1 fo H2 locs2 ls (hRe _ _ hpx hpm) hI2 hl)
set_option maxHeartbeats 4000000 in
set_option maxRecDepth 100000 in
theorem cs_1 (hC0 : LC p s m meth c b L xs dC dI ax am cI cZ cL cJ qo) (hL : L ≤ 3584) {k : Nat} (hk : 7 * k + 7 ≤ L) {σ τ : mS} {fo : Nat → Int64} {H : Heap} {locs : List Loc} (hR : RXe σ τ) (hI : LI s dC dI ax am cI cZ cL cJ qo σ τ fo H locs) {cells slots : Nat} (hcs : cells + 1 ≤ 601024 ∧ slots + 6 ≤ 7293034) {ls : Array Slot} (hl : lv_has ls 7 (lw5 b ax am qo (nI (7 * k))))
    (ht : ∀ (σ' τ' : mS) (fo' : Nat → Int64) (H1 : Heap) (locs1 : List Loc) (ls' : Array Slot), RXe σ' τ' → LI s dC dI ax am cI cZ cL cJ qo σ' τ' fo' H1 locs1 → lv_has ls' 7 (lw5 b ax am qo (nI (7 * k))) → W p l e room_1 s m #[Value.ref b] below meth c H1 locs1 (cells + 1) (slots + 6) Q (F0 m 1187 ls' [])) :
    W p l e room_1 s m #[Value.ref b] below meth c H locs cells slots Q (F0 m 185 ls []) := by
  obtain ⟨hx, hb, hr, hml, hown, hts, hX, hbl, hlocks, hgv⟩ := hC0.1
  have hbA : ¬ (fun q : Nat => s.heap.size ≤ q) b := Nat.not_le.mpr hbl
  have hcs0 : cells ≤ 601024 ∧ slots ≤ 7293034 := ⟨by omega, by omega⟩
  obtain ⟨W9, H9, mp, dn, ln, rw9, hRX⟩ := hR
  have hv1 : vp_in (nI (7 * k) + 1) L := l_vin (t := 1) (by omega) hk hL
  have hv2 : vp_in (nI (7 * k) + 2) L := l_vin (t := 2) (by omega) hk hL
  obtain ⟨v, PX, PM, hEx, hEm, hRe⟩ := p_water hRX (xs (nI (7 * k) + 1).toNatClampNeg) (xs (nI (7 * k) + 2).toNatClampNeg)
  refine lv_aload_n hx hb dL_law_185 rfl (lv_at hl 1 rfl) ?_
  refine lv_aload_n hx hb dL_law_186 rfl (lv_at hl 0 rfl) ?_
  refine lv_iload hx hb dL_law_187 (lv_at hl 4 rfl) ?_
  refine lv_iconst (v := 1) hx hb dL_law_189 (by decide) ?_
  refine lv_iadd hx hb dL_law_190 ?_
  refine va_sld hx hb hX hbl hbA hI.2.2.2 hv1 dL_law_191 ?_
  refine lv_aload_n hx hb dL_law_192 rfl (lv_at hl 0 rfl) ?_
  refine lv_iload hx hb dL_law_193 (lv_at hl 4 rfl) ?_
  refine lv_iconst (v := 2) hx hb dL_law_195 (by decide) ?_
  refine lv_iadd hx hb dL_law_196 ?_
  refine va_sld hx hb hX hbl hbA hI.2.2.2 hv2 dL_law_197 ?_
  refine lx_call hC0 hI 58 rfl (As := [mI (xs (nI (7 * k) + 1).toNatClampNeg), mI (xs (nI (7 * k) + 2).toNatClampNeg)]) hEx (by decide) (by decide) (show 3 ≤ mml 58 from by decide) (vok_ints [(xs (nI (7 * k) + 1).toNatClampNeg), (xs (nI (7 * k) + 2).toNatClampNeg)]) 28 2 (by decide +kernel) rfl (by decide +kernel) (by decide) hcs0 (rest := []) hl.1 (show 0 ≤ 8 from by decide) dL_law_198 (fun r σ1 H1 locs1 hp hI1 => ?_)
  obtain ⟨rfl, hpx⟩ := hp
  refine lv_aload_n hx hb dL_law_201 rfl (lv_at hl 2 rfl) ?_
  refine lv_aload_n hx hb dL_law_202 rfl (lv_at hl 0 rfl) ?_
  refine lv_iload hx hb dL_law_203 (lv_at hl 4 rfl) ?_
  refine lv_iconst (v := 1) hx hb dL_law_205 (by decide) ?_
  refine lv_iadd hx hb dL_law_206 ?_
  refine va_sld hx hb hX hbl hbA hI1.2.2.2 hv1 dL_law_207 ?_
  refine lv_aload_n hx hb dL_law_208 rfl (lv_at hl 0 rfl) ?_
  refine lv_iload hx hb dL_law_209 (lv_at hl 4 rfl) ?_
  refine lv_iconst (v := 2) hx hb dL_law_211 (by decide) ?_
  refine lv_iadd hx hb dL_law_212 ?_
  refine va_sld hx hb hX hbl hbA hI1.2.2.2 hv2 dL_law_213 ?_
  refine lm_call hC0 hI1 94 rfl (As := [mI (xs (nI (7 * k) + 1).toNatClampNeg), mI (xs (nI (7 * k) + 2).toNatClampNeg)]) hEm (by decide) (by decide) (show 3 ≤ mml 94 from by decide) (vok_ints [(xs (nI (7 * k) + 1).toNatClampNeg), (xs (nI (7 * k) + 2).toNatClampNeg)]) 31 2 (by decide +kernel) rfl (by decide +kernel) (by decide) hcs0 (rest := [.int v]) hl.1 (show 1 ≤ 8 from by decide) dL_law_214 (fun r τ1 H2 locs2 hp hI2 => ?_)
  obtain ⟨rfl, hpm⟩ := hp
  refine lv_icmp_eq (tgt := 1187) hx hb dL_law_217 (by decide) (fun _ => ?_) (fun q => absurd rfl q)
  exact W.widen (Nat.le_add_right _ _) (Nat.le_add_right _ _) (ht σ1 τ1 fo H2 locs2 ls (hRe _ _ hpx hpm) hI2 hl)
set_option maxHeartbeats 4000000 in
set_option maxRecDepth 100000 in
theorem cs_6 (hC0 : LC p s m meth c b L xs dC dI ax am cI cZ cL cJ qo) (hL : L ≤ 3584) {k : Nat} (hk : 7 * k + 7 ≤ L) {σ τ : mS} {fo : Nat → Int64} {H : Heap} {locs : List Loc} (hR : RXe σ τ) (hI : LI s dC dI ax am cI cZ cL cJ qo σ τ fo H locs) {cells slots : Nat} (hcs : cells + 1 ≤ 601024 ∧ slots + 6 ≤ 7293034) {ls : Array Slot} (hl : lv_has ls 7 (lw5 b ax am qo (nI (7 * k))))
    (ht : ∀ (σ' τ' : mS) (fo' : Nat → Int64) (H1 : Heap) (locs1 : List Loc) (ls' : Array Slot), RXe σ' τ' → LI s dC dI ax am cI cZ cL cJ qo σ' τ' fo' H1 locs1 → lv_has ls' 7 (lw5 b ax am qo (nI (7 * k))) → W p l e room_1 s m #[Value.ref b] below meth c H1 locs1 (cells + 1) (slots + 6) Q (F0 m 1187 ls' [])) :
    W p l e room_1 s m #[Value.ref b] below meth c H locs cells slots Q (F0 m 480 ls []) := by
  obtain ⟨hx, hb, hr, hml, hown, hts, hX, hbl, hlocks, hgv⟩ := hC0.1
  have hbA : ¬ (fun q : Nat => s.heap.size ≤ q) b := Nat.not_le.mpr hbl
  have hcs0 : cells ≤ 601024 ∧ slots ≤ 7293034 := ⟨by omega, by omega⟩
  obtain ⟨W9, H9, mp, dn, ln, rw9, hRX⟩ := hR
  have hv1 : vp_in (nI (7 * k) + 1) L := l_vin (t := 1) (by omega) hk hL
  have hv2 : vp_in (nI (7 * k) + 2) L := l_vin (t := 2) (by omega) hk hL
  refine lv_aload_n hx hb dL_law_480 rfl (lv_at hl 1 rfl) ?_
  refine lv_aload_n hx hb dL_law_481 rfl (lv_at hl 0 rfl) ?_
  refine lv_iload hx hb dL_law_482 (lv_at hl 4 rfl) ?_
  refine lv_iconst (v := 1) hx hb dL_law_484 (by decide) ?_
  refine lv_iadd hx hb dL_law_485 ?_
  refine va_sld hx hb hX hbl hbA hI.2.2.2 hv1 dL_law_486 ?_
  refine lv_aload_n hx hb dL_law_487 rfl (lv_at hl 0 rfl) ?_
  refine lv_iload hx hb dL_law_488 (lv_at hl 4 rfl) ?_
  refine lv_iconst (v := 2) hx hb dL_law_490 (by decide) ?_
  refine lv_iadd hx hb dL_law_491 ?_
  refine va_sld hx hb hX hbl hbA hI.2.2.2 hv2 dL_law_492 ?_
  refine lv_if_eq (tgt := 500) hx hb dL_law_493 (by decide) (fun h0 => ?_) (fun h0 => ?_)
  · obtain ⟨v, PX, PM, hEx, hEm, hRe⟩ := p_strike hRX (xs (nI (7 * k) + 1).toNatClampNeg) 0
    refine lv_iconst (v := 0) hx hb dL_law_500 (by decide) ?_
    refine lx_call hC0 hI 63 rfl (As := [mI (xs (nI (7 * k) + 1).toNatClampNeg), mI 0]) hEx (by decide) (by decide) (show 3 ≤ mml 63 from by decide) (vok_ints [(xs (nI (7 * k) + 1).toNatClampNeg), 0]) 51 2 (by decide +kernel) rfl (by decide +kernel) (by decide) hcs0 (rest := []) hl.1 (show 0 ≤ 8 from by decide) dL_law_501 (fun r σ1 H1 locs1 hp hI1 => ?_)
    obtain ⟨rfl, hpx⟩ := hp
    refine lv_aload_n hx hb dL_law_504 rfl (lv_at hl 2 rfl) ?_
    refine lv_aload_n hx hb dL_law_505 rfl (lv_at hl 0 rfl) ?_
    refine lv_iload hx hb dL_law_506 (lv_at hl 4 rfl) ?_
    refine lv_iconst (v := 1) hx hb dL_law_508 (by decide) ?_
    refine lv_iadd hx hb dL_law_509 ?_
    refine va_sld hx hb hX hbl hbA hI1.2.2.2 hv1 dL_law_510 ?_
    refine lv_aload_n hx hb dL_law_511 rfl (lv_at hl 0 rfl) ?_
    refine lv_iload hx hb dL_law_512 (lv_at hl 4 rfl) ?_
    refine lv_iconst (v := 2) hx hb dL_law_514 (by decide) ?_
    refine lv_iadd hx hb dL_law_515 ?_
    refine va_sld hx hb hX hbl hbA hI1.2.2.2 hv2 dL_law_516 ?_
    refine lv_if_eq (tgt := 524) hx hb dL_law_517 (by decide) (fun _ => ?_) (fun q => absurd h0 q)
    refine lv_iconst (v := 0) hx hb dL_law_524 (by decide) ?_
    refine lm_call hC0 hI1 101 rfl (As := [mI (xs (nI (7 * k) + 1).toNatClampNeg), mI 0]) hEm (by decide) (by decide) (show 3 ≤ mml 101 from by decide) (vok_ints [(xs (nI (7 * k) + 1).toNatClampNeg), 0]) 55 2 (by decide +kernel) rfl (by decide +kernel) (by decide) hcs0 (rest := [.int v]) hl.1 (show 1 ≤ 8 from by decide) dL_law_525 (fun r τ1 H2 locs2 hp hI2 => ?_)
    obtain ⟨rfl, hpm⟩ := hp
    refine lv_icmp_eq (tgt := 1187) hx hb dL_law_528 (by decide) (fun _ => ?_) (fun q => absurd rfl q)
    exact W.widen (Nat.le_add_right _ _) (Nat.le_add_right _ _) (ht σ1 τ1 fo H2 locs2 ls (hRe _ _ hpx hpm) hI2 hl)
  · obtain ⟨v, PX, PM, hEx, hEm, hRe⟩ := p_strike hRX (xs (nI (7 * k) + 1).toNatClampNeg) 1
    refine lv_iconst (v := 1) hx hb dL_law_496 (by decide) ?_
    refine lv_goto (tgt := 501) hx hb dL_law_497 (by decide) ?_
    refine lx_call hC0 hI 63 rfl (As := [mI (xs (nI (7 * k) + 1).toNatClampNeg), mI 1]) hEx (by decide) (by decide) (show 3 ≤ mml 63 from by decide) (vok_ints [(xs (nI (7 * k) + 1).toNatClampNeg), 1]) 51 2 (by decide +kernel) rfl (by decide +kernel) (by decide) hcs0 (rest := []) hl.1 (show 0 ≤ 8 from by decide) dL_law_501 (fun r σ1 H1 locs1 hp hI1 => ?_)
    obtain ⟨rfl, hpx⟩ := hp
    refine lv_aload_n hx hb dL_law_504 rfl (lv_at hl 2 rfl) ?_
    refine lv_aload_n hx hb dL_law_505 rfl (lv_at hl 0 rfl) ?_
    refine lv_iload hx hb dL_law_506 (lv_at hl 4 rfl) ?_
    refine lv_iconst (v := 1) hx hb dL_law_508 (by decide) ?_
    refine lv_iadd hx hb dL_law_509 ?_
    refine va_sld hx hb hX hbl hbA hI1.2.2.2 hv1 dL_law_510 ?_
    refine lv_aload_n hx hb dL_law_511 rfl (lv_at hl 0 rfl) ?_
    refine lv_iload hx hb dL_law_512 (lv_at hl 4 rfl) ?_
    refine lv_iconst (v := 2) hx hb dL_law_514 (by decide) ?_
    refine lv_iadd hx hb dL_law_515 ?_
    refine va_sld hx hb hX hbl hbA hI1.2.2.2 hv2 dL_law_516 ?_
    refine lv_if_eq (tgt := 524) hx hb dL_law_517 (by decide) (fun q => absurd q h0) (fun _ => ?_)
    refine lv_iconst (v := 1) hx hb dL_law_520 (by decide) ?_
    refine lv_goto (tgt := 525) hx hb dL_law_521 (by decide) ?_
    refine lm_call hC0 hI1 101 rfl (As := [mI (xs (nI (7 * k) + 1).toNatClampNeg), mI 1]) hEm (by decide) (by decide) (show 3 ≤ mml 101 from by decide) (vok_ints [(xs (nI (7 * k) + 1).toNatClampNeg), 1]) 55 2 (by decide +kernel) rfl (by decide +kernel) (by decide) hcs0 (rest := [.int v]) hl.1 (show 1 ≤ 8 from by decide) dL_law_525 (fun r τ1 H2 locs2 hp hI2 => ?_)
    obtain ⟨rfl, hpm⟩ := hp
    refine lv_icmp_eq (tgt := 1187) hx hb dL_law_528 (by decide) (fun _ => ?_) (fun q => absurd rfl q)
    exact W.widen (Nat.le_add_right _ _) (Nat.le_add_right _ _) (ht σ1 τ1 fo H2 locs2 ls (hRe _ _ hpx hpm) hI2 hl)
end LCS
