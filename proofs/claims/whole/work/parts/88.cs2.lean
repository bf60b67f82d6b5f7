/-! THE LAW'S CASES, further -/
section LCS
variable {p : Program} {l : Launch} {e : Env} {s : State} {m : MethodId} {below : List Frame} {meth : Method} {c : Code} {b L : Nat} {xs : Nat → Int32} {Q : State → Prop}
variable {dC : Nat → ClassId} {dI ax am : Nat → Nat → Nat} {cI cZ cL cJ : ClassId} {qo : Nat}
set_option maxHeartbeats 4000000 in
set_option maxRecDepth 100000 in
theorem cs_2 (hC0 : LC p s m meth c b L xs dC dI ax am cI cZ cL cJ qo) (hL : L ≤ 3584) {k : Nat} (hk : 7 * k + 7 ≤ L) {σ τ : mS} {fo : Nat → Int64} {H : Heap} {locs : List Loc} (hR : RXe σ τ) (hI : LI s dC dI ax am cI cZ cL cJ qo σ τ fo H locs) {cells slots : Nat} (hcs : cells + 1 ≤ 601024 ∧ slots + 6 ≤ 7293034) {ls : Array Slot} (hl : lv_has ls 7 (lw5 b ax am qo (nI (7 * k))))
    (ht : ∀ (σ' τ' : mS) (fo' : Nat → Int64) (H1 : Heap) (locs1 : List Loc) (ls' : Array Slot), RXe σ' τ' → LI s dC dI ax am cI cZ cL cJ qo σ' τ' fo' H1 locs1 → lv_has ls' 7 (lw5 b ax am qo (nI (7 * k))) → W p l e room_1 s m #[Value.ref b] below meth c H1 locs1 (cells + 1) (slots + 6) Q (F0 m 1187 ls' [])) :
    W p l e room_1 s m #[Value.ref b] below meth c H locs cells slots Q (F0 m 222 ls []) := by
  obtain ⟨hx, hb, hr, hml, hown, hts, hX, hbl, hlocks, hgv⟩ := hC0.1
  have hbA : ¬ (fun q : Nat => s.heap.size ≤ q) b := Nat.not_le.mpr hbl
  have hcs0 : cells ≤ 601024 ∧ slots ≤ 7293034 := ⟨by omega, by omega⟩
  obtain ⟨W9, H9, mp, dn, ln, rw9, hRX⟩ := hR
  have hv1 : vp_in (nI (7 * k) + 1) L := l_vin (t := 1) (by omega) hk hL
  have hv2 : vp_in (nI (7 * k) + 2) L := l_vin (t := 2) (by omega) hk hL
  have hv3 : vp_in (nI (7 * k) + 3) L := l_vin (t := 3) (by omega) hk hL
  have hv4 : vp_in (nI (7 * k) + 4) L := l_vin (t := 4) (by omega) hk hL
  have hv5 : vp_in (nI (7 * k) + 5) L := l_vin (t := 5) (by omega) hk hL
  obtain ⟨v, PX, PM, hEx, hEm, hRe⟩ := p_sheet hRX (xs (nI (7 * k) + 1).toNatClampNeg) (xs (nI (7 * k) + 2).toNatClampNeg) (xs (nI (7 * k) + 3).toNatClampNeg) (xs (nI (7 * k) + 4).toNatClampNeg) (xs (nI (7 * k) + 5).toNatClampNeg)
  refine lv_aload_n hx hb dL_law_222 rfl (lv_at hl 1 rfl) ?_
  refine lv_aload_n hx hb dL_law_223 rfl (lv_at hl 0 rfl) ?_
  refine lv_iload hx hb dL_law_224 (lv_at hl 4 rfl) ?_
  refine lv_iconst (v := 1) hx hb dL_law_226 (by decide) ?_
  refine lv_iadd hx hb dL_law_227 ?_
  refine va_sld hx hb hX hbl hbA hI.2.2.2 hv1 dL_law_228 ?_
  refine lv_aload_n hx hb dL_law_229 rfl (lv_at hl 0 rfl) ?_
  refine lv_iload hx hb dL_law_230 (lv_at hl 4 rfl) ?_
  refine lv_iconst (v := 2) hx hb dL_law_232 (by decide) ?_
  refine lv_iadd hx hb dL_law_233 ?_
  refine va_sld hx hb hX hbl hbA hI.2.2.2 hv2 dL_law_234 ?_
  refine lv_aload_n hx hb dL_law_235 rfl (lv_at hl 0 rfl) ?_
  refine lv_iload hx hb dL_law_236 (lv_at hl 4 rfl) ?_
  refine lv_iconst (v := 3) hx hb dL_law_238 (by decide) ?_
  refine lv_iadd hx hb dL_law_239 ?_
  refine va_sld hx hb hX hbl hbA hI.2.2.2 hv3 dL_law_240 ?_
  refine lv_aload_n hx hb dL_law_241 rfl (lv_at hl 0 rfl) ?_
  refine lv_iload hx hb dL_law_242 (lv_at hl 4 rfl) ?_
  refine lv_iconst (v := 4) hx hb dL_law_244 (by decide) ?_
  refine lv_iadd hx hb dL_law_245 ?_
  refine va_sld hx hb hX hbl hbA hI.2.2.2 hv4 dL_law_246 ?_
  refine lv_aload_n hx hb dL_law_247 rfl (lv_at hl 0 rfl) ?_
  refine lv_iload hx hb dL_law_248 (lv_at hl 4 rfl) ?_
  refine lv_iconst (v := 5) hx hb dL_law_250 (by decide) ?_
  refine lv_iadd hx hb dL_law_251 ?_
  refine va_sld hx hb hX hbl hbA hI.2.2.2 hv5 dL_law_252 ?_
  refine lx_call hC0 hI 59 rfl (As := [mI (xs (nI (7 * k) + 1).toNatClampNeg), mI (xs (nI (7 * k) + 2).toNatClampNeg), mI (xs (nI (7 * k) + 3).toNatClampNeg), mI (xs (nI (7 * k) + 4).toNatClampNeg), mI (xs (nI (7 * k) + 5).toNatClampNeg)]) hEx (by decide) (by decide) (show 6 ≤ mml 59 from by decide) (vok_ints [(xs (nI (7 * k) + 1).toNatClampNeg), (xs (nI (7 * k) + 2).toNatClampNeg), (xs (nI (7 * k) + 3).toNatClampNeg), (xs (nI (7 * k) + 4).toNatClampNeg), (xs (nI (7 * k) + 5).toNatClampNeg)]) 32 5 (by decide +kernel) rfl (by decide +kernel) (by decide) hcs0 (rest := []) hl.1 (show 0 ≤ 8 from by decide) dL_law_253 (fun r σ1 H1 locs1 hp hI1 => ?_)
  obtain ⟨rfl, hpx⟩ := hp
  refine lv_aload_n hx hb dL_law_256 rfl (lv_at hl 2 rfl) ?_
  refine lv_aload_n hx hb dL_law_257 rfl (lv_at hl 0 rfl) ?_
  refine lv_iload hx hb dL_law_258 (lv_at hl 4 rfl) ?_
  refine lv_iconst (v := 1) hx hb dL_law_260 (by decide) ?_
  refine lv_iadd hx hb dL_law_261 ?_
  refine va_sld hx hb hX hbl hbA hI1.2.2.2 hv1 dL_law_262 ?_
  refine lv_aload_n hx hb dL_law_263 rfl (lv_at hl 0 rfl) ?_
  refine lv_iload hx hb dL_law_264 (lv_at hl 4 rfl) ?_
  refine lv_iconst (v := 2) hx hb dL_law_266 (by decide) ?_
  refine lv_iadd hx hb dL_law_267 ?_
  refine va_sld hx hb hX hbl hbA hI1.2.2.2 hv2 dL_law_268 ?_
  refine lv_aload_n hx hb dL_law_269 rfl (lv_at hl 0 rfl) ?_
  refine lv_iload hx hb dL_law_270 (lv_at hl 4 rfl) ?_
  refine lv_iconst (v := 3) hx hb dL_law_272 (by decide) ?_
  refine lv_iadd hx hb dL_law_273 ?_
  refine va_sld hx hb hX hbl hbA hI1.2.2.2 hv3 dL_law_274 ?_
  refine lv_aload_n hx hb dL_law_275 rfl (lv_at hl 0 rfl) ?_
  refine lv_iload hx hb dL_law_276 (lv_at hl 4 rfl) ?_
  refine lv_iconst (v := 4) hx hb dL_law_278 (by decide) ?_
  refine lv_iadd hx hb dL_law_279 ?_
  refine va_sld hx hb hX hbl hbA hI1.2.2.2 hv4 dL_law_280 ?_
  refine lv_aload_n hx hb dL_law_281 rfl (lv_at hl 0 rfl) ?_
  refine lv_iload hx hb dL_law_282 (lv_at hl 4 rfl) ?_
  refine lv_iconst (v := 5) hx hb dL_law_284 (by decide) ?_
  refine lv_iadd hx hb dL_law_285 ?_
  refine va_sld hx hb hX hbl hbA hI1.2.2.2 hv5 dL_law_286 ?_
  refine lm_call hC0 hI1 95 rfl (As := [mI (xs (nI (7 * k) + 1).toNatClampNeg), mI (xs (nI (7 * k) + 2).toNatClampNeg), mI (xs (nI (7 * k) + 3).toNatClampNeg), mI (xs (nI (7 * k) + 4).toNatClampNeg), mI (xs (nI (7 * k) + 5).toNatClampNeg)]) hEm (by decide) (by decide) (show 6 ≤ mml 95 from by decide) (vok_ints [(xs (nI (7 * k) + 1).toNatClampNeg), (xs (nI (7 * k) + 2).toNatClampNeg), (xs (nI (7 * k) + 3).toNatClampNeg), (xs (nI (7 * k) + 4).toNatClampNeg), (xs (nI (7 * k) + 5).toNatClampNeg)]) 36 5 (by decide +kernel) rfl (by decide +kernel) (by decide) hcs0 (rest := [.int v]) hl.1 (show 1 ≤ 8 from by decide) dL_law_287 (fun r τ1 H2 locs2 hp hI2 => ?_)
  obtain ⟨rfl, hpm⟩ := hp
  refine lv_icmp_eq (tgt := 1187) hx hb dL_law_290 (by decide) (fun _ => ?_) (fun q => absurd rfl q)
  exact W.widen (Nat.le_add_right _ _) (Nat.le_add_right _ _) (ht σ1 τ1 fo H2 locs2 ls (hRe _ _ hpx hpm) hI2 hl)
set_option maxHeartbeats 4000000 in
set_option maxRecDepth 100000 in
theorem cs_3 (hC0 : LC p s m meth c b L xs dC dI ax am cI cZ cL cJ qo) (hL : L ≤ 3584) {k : Nat} (hk : 7 * k + 7 ≤ L) {σ τ : mS} {fo : Nat → Int64} {H : Heap} {locs : List Loc} (hR : RXe σ τ) (hI : LI s dC dI ax am cI cZ cL cJ qo σ τ fo H locs) {cells slots : Nat} (hcs : cells + 1 ≤ 601024 ∧ slots + 6 ≤ 7293034) {ls : Array Slot} (hl : lv_has ls 7 (lw5 b ax am qo (nI (7 * k))))
    (ht : ∀ (σ' τ' : mS) (fo' : Nat → Int64) (H1 : Heap) (locs1 : List Loc) (ls' : Array Slot), RXe σ' τ' → LI s dC dI ax am cI cZ cL cJ qo σ' τ' fo' H1 locs1 → lv_has ls' 7 (lw5 b ax am qo (nI (7 * k))) → W p l e room_1 s m #[Value.ref b] below meth c H1 locs1 (cells + 1) (slots + 6) Q (F0 m 1187 ls' [])) :
    W p l e room_1 s m #[Value.ref b] below meth c H locs cells slots Q (F0 m 295 ls []) := by
  obtain ⟨hx, hb, hr, hml, hown, hts, hX, hbl, hlocks, hgv⟩ := hC0.1
  have hbA : ¬ (fun q : Nat => s.heap.size ≤ q) b := Nat.not_le.mpr hbl
  have hcs0 : cells ≤ 601024 ∧ slots ≤ 7293034 := ⟨by omega, by omega⟩
  obtain ⟨W9, H9, mp, dn, ln, rw9, hRX⟩ := hR
  have hv1 : vp_in (nI (7 * k) + 1) L := l_vin (t := 1) (by omega) hk hL
  obtain ⟨v, PX, PM, hEx, hEm, hRe⟩ := p_map hRX (xs (nI (7 * k) + 1).toNatClampNeg)
  refine lv_aload_n hx hb dL_law_295 rfl (lv_at hl 1 rfl) ?_
  refine lv_aload_n hx hb dL_law_296 rfl (lv_at hl 0 rfl) ?_
  refine lv_iload hx hb dL_law_297 (lv_at hl 4 rfl) ?_
  refine lv_iconst (v := 1) hx hb dL_law_299 (by decide) ?_
  refine lv_iadd hx hb dL_law_300 ?_
  refine va_sld hx hb hX hbl hbA hI.2.2.2 hv1 dL_law_301 ?_
  refine lx_call hC0 hI 60 rfl (As := [mI (xs (nI (7 * k) + 1).toNatClampNeg)]) hEx (by decide) (by decide) (show 2 ≤ mml 60 from by decide) (vok_ints [(xs (nI (7 * k) + 1).toNatClampNeg)]) 37 1 (by decide +kernel) rfl (by decide +kernel) (by decide) hcs0 (rest := []) hl.1 (show 0 ≤ 8 from by decide) dL_law_302 (fun r σ1 H1 locs1 hp hI1 => ?_)
  obtain ⟨rfl, hpx⟩ := hp
  refine lv_aload_n hx hb dL_law_305 rfl (lv_at hl 2 rfl) ?_
  refine lv_aload_n hx hb dL_law_306 rfl (lv_at hl 0 rfl) ?_
  refine lv_iload hx hb dL_law_307 (lv_at hl 4 rfl) ?_
  refine lv_iconst (v := 1) hx hb dL_law_309 (by decide) ?_
  refine lv_iadd hx hb dL_law_310 ?_
  refine va_sld hx hb hX hbl hbA hI1.2.2.2 hv1 dL_law_311 ?_
  refine lm_call hC0 hI1 96 rfl (As := [mI (xs (nI (7 * k) + 1).toNatClampNeg)]) hEm (by decide) (by decide) (show 2 ≤ mml 96 from by decide) (vok_ints [(xs (nI (7 * k) + 1).toNatClampNeg)]) 40 1 (by decide +kernel) rfl (by decide +kernel) (by decide) hcs0 (rest := [.int v]) hl.1 (show 1 ≤ 8 from by decide) dL_law_312 (fun r τ1 H2 locs2 hp hI2 => ?_)
  obtain ⟨rfl, hpm⟩ := hp
  refine lv_icmp_eq (tgt := 1187) hx hb dL_law_315 (by decide) (fun _ => ?_) (fun q => absurd rfl q)
  exact W.widen (Nat.le_add_right _ _) (Nat.le_add_right _ _) (ht σ1 τ1 fo H2 locs2 ls (hRe _ _ hpx hpm) hI2 hl)
set_option maxHeartbeats 4000000 in
set_option maxRecDepth 100000 in
theorem cs_4 (hC0 : LC p s m meth c b L xs dC dI ax am cI cZ cL cJ qo) (hL : L ≤ 3584) {k : Nat} (hk : 7 * k + 7 ≤ L) {σ τ : mS} {fo : Nat → Int64} {H : Heap} {locs : List Loc} (hR : RXe σ τ) (hI : LI s dC dI ax am cI cZ cL cJ qo σ τ fo H locs) {cells slots : Nat} (hcs : cells + 1 ≤ 601024 ∧ slots + 6 ≤ 7293034) {ls : Array Slot} (hl : lv_has ls 7 (lw5 b ax am qo (nI (7 * k))))
    (ht : ∀ (σ' τ' : mS) (fo' : Nat → Int64) (H1 : Heap) (locs1 : List Loc) (ls' : Array Slot), RXe σ' τ' → LI s dC dI ax am cI cZ cL cJ qo σ' τ' fo' H1 locs1 → lv_has ls' 7 (lw5 b ax am qo (nI (7 * k))) → W p l e room_1 s m #[Value.ref b] below meth c H1 locs1 (cells + 1) (slots + 6) Q (F0 m 1187 ls' [])) :
    W p l e room_1 s m #[Value.ref b] below meth c H locs cells slots Q (F0 m 320 ls []) := by
  obtain ⟨hx, hb, hr, hml, hown, hts, hX, hbl, hlocks, hgv⟩ := hC0.1
  have hbA : ¬ (fun q : Nat => s.heap.size ≤ q) b := Nat.not_le.mpr hbl
  have hcs0 : cells ≤ 601024 ∧ slots ≤ 7293034 := ⟨by omega, by omega⟩
  obtain ⟨W9, H9, mp, dn, ln, rw9, hRX⟩ := hR
  have hv1 : vp_in (nI (7 * k) + 1) L := l_vin (t := 1) (by omega) hk hL
  have hv2 : vp_in (nI (7 * k) + 2) L := l_vin (t := 2) (by omega) hk hL
  have hv3 : vp_in (nI (7 * k) + 3) L := l_vin (t := 3) (by omega) hk hL
  have hv4 : vp_in (nI (7 * k) + 4) L := l_vin (t := 4) (by omega) hk hL
  have hv5 : vp_in (nI (7 * k) + 5) L := l_vin (t := 5) (by omega) hk hL
  obtain ⟨v, PX, PM, hEx, hEm, hRe⟩ := p_own hRX (xs (nI (7 * k) + 1).toNatClampNeg) (xs (nI (7 * k) + 2).toNatClampNeg) (xs (nI (7 * k) + 3).toNatClampNeg) (xs (nI (7 * k) + 4).toNatClampNeg) (xs (nI (7 * k) + 5).toNatClampNeg)
  refine lv_aload_n hx hb dL_law_320 rfl (lv_at hl 1 rfl) ?_
  refine lv_aload_n hx hb dL_law_321 rfl (lv_at hl 0 rfl) ?_
  refine lv_iload hx hb dL_law_322 (lv_at hl 4 rfl) ?_
  refine lv_iconst (v := 1) hx hb dL_law_324 (by decide) ?_
  refine lv_iadd hx hb dL_law_325 ?_
  refine va_sld hx hb hX hbl hbA hI.2.2.2 hv1 dL_law_326 ?_
  refine lv_aload_n hx hb dL_law_327 rfl (lv_at hl 0 rfl) ?_
  refine lv_iload hx hb dL_law_328 (lv_at hl 4 rfl) ?_
  refine lv_iconst (v := 2) hx hb dL_law_330 (by decide) ?_
  refine lv_iadd hx hb dL_law_331 ?_
  refine va_sld hx hb hX hbl hbA hI.2.2.2 hv2 dL_law_332 ?_
  refine lv_aload_n hx hb dL_law_333 rfl (lv_at hl 0 rfl) ?_
  refine lv_iload hx hb dL_law_334 (lv_at hl 4 rfl) ?_
  refine lv_iconst (v := 3) hx hb dL_law_336 (by decide) ?_
  refine lv_iadd hx hb dL_law_337 ?_
  refine va_sld hx hb hX hbl hbA hI.2.2.2 hv3 dL_law_338 ?_
  refine lv_aload_n hx hb dL_law_339 rfl (lv_at hl 0 rfl) ?_
  refine lv_iload hx hb dL_law_340 (lv_at hl 4 rfl) ?_
  refine lv_iconst (v := 4) hx hb dL_law_342 (by decide) ?_
  refine lv_iadd hx hb dL_law_343 ?_
  refine va_sld hx hb hX hbl hbA hI.2.2.2 hv4 dL_law_344 ?_
  refine lv_aload_n hx hb dL_law_345 rfl (lv_at hl 0 rfl) ?_
  refine lv_iload hx hb dL_law_346 (lv_at hl 4 rfl) ?_
  refine lv_iconst (v := 5) hx hb dL_law_348 (by decide) ?_
  refine lv_iadd hx hb dL_law_349 ?_
  refine va_sld hx hb hX hbl hbA hI.2.2.2 hv5 dL_law_350 ?_
  refine lx_call hC0 hI 61 rfl (As := [mI (xs (nI (7 * k) + 1).toNatClampNeg), mI (xs (nI (7 * k) + 2).toNatClampNeg), mI (xs (nI (7 * k) + 3).toNatClampNeg), mI (xs (nI (7 * k) + 4).toNatClampNeg), mI (xs (nI (7 * k) + 5).toNatClampNeg)]) hEx (by decide) (by decide) (show 6 ≤ mml 61 from by decide) (vok_ints [(xs (nI (7 * k) + 1).toNatClampNeg), (xs (nI (7 * k) + 2).toNatClampNeg), (xs (nI (7 * k) + 3).toNatClampNeg), (xs (nI (7 * k) + 4).toNatClampNeg), (xs (nI (7 * k) + 5).toNatClampNeg)]) 41 5 (by decide +kernel) rfl (by decide +kernel) (by decide) hcs0 (rest := []) hl.1 (show 0 ≤ 8 from by decide) dL_law_351 (fun r σ1 H1 locs1 hp hI1 => ?_)
  obtain ⟨rfl, hpx⟩ := hp
  refine lv_aload_n hx hb dL_law_354 rfl (lv_at hl 2 rfl) ?_
  refine lv_aload_n hx hb dL_law_355 rfl (lv_at hl 0 rfl) ?_
  refine lv_iload hx hb dL_law_356 (lv_at hl 4 rfl) ?_
  refine lv_iconst (v := 1) hx hb dL_law_358 (by decide) ?_
  refine lv_iadd hx hb dL_law_359 ?_
  refine va_sld hx hb hX hbl hbA hI1.2.2.2 hv1 dL_law_360 ?_
  refine lv_aload_n hx hb dL_law_361 rfl (lv_at hl 0 rfl) ?_
  refine lv_iload hx hb dL_law_362 (lv_at hl 4 rfl) ?_
  refine lv_iconst (v := 2) hx hb dL_law_364 (by decide) ?_
  refine lv_iadd hx hb dL_law_365 ?_
  refine va_sld hx hb hX hbl hbA hI1.2.2.2 hv2 dL_law_366 ?_
  refine lv_aload_n hx hb dL_law_367 rfl (lv_at hl 0 rfl) ?_
  refine lv_iload hx hb dL_law_368 (lv_at hl 4 rfl) ?_
  refine lv_iconst (v := 3) hx hb dL_law_370 (by decide) ?_
  refine lv_iadd hx hb dL_law_371 ?_
  refine va_sld hx hb hX hbl hbA hI1.2.2.2 hv3 dL_law_372 ?_
  refine lv_aload_n hx hb dL_law_373 rfl (lv_at hl 0 rfl) ?_
  refine lv_iload hx hb dL_law_374 (lv_at hl 4 rfl) ?_
  refine lv_iconst (v := 4) hx hb dL_law_376 (by decide) ?_
  refine lv_iadd hx hb dL_law_377 ?_
  refine va_sld hx hb hX hbl hbA hI1.2.2.2 hv4 dL_law_378 ?_
  refine lv_aload_n hx hb dL_law_379 rfl (lv_at hl 0 rfl) ?_
  refine lv_iload hx hb dL_law_380 (lv_at hl 4 rfl) ?_
  refine lv_iconst (v := 5) hx hb dL_law_382 (by decide) ?_
  refine lv_iadd hx hb dL_law_383 ?_
  refine va_sld hx hb hX hbl hbA hI1.2.2.2 hv5 dL_law_384 ?_
  refine lm_call hC0 hI1 99 rfl (As := [mI (xs (nI (7 * k) + 1).toNatClampNeg), mI (xs (nI (7 * k) + 2).toNatClampNeg), mI (xs (nI (7 * k) + 3).toNatClampNeg), mI (xs (nI (7 * k) + 4).toNatClampNeg), mI (xs (nI (7 * k) + 5).toNatClampNeg)]) hEm (by decide) (by decide) (show 6 ≤ mml 99 from by decide) (vok_ints [(xs (nI (7 * k) + 1).toNatClampNeg), (xs (nI (7 * k) + 2).toNatClampNeg), (xs (nI (7 * k) + 3).toNatClampNeg), (xs (nI (7 * k) + 4).toNatClampNeg), (xs (nI (7 * k) + 5).toNatClampNeg)]) 45 5 (by decide +kernel) rfl (by decide +kernel) (by decide) hcs0 (rest := [.int v]) hl.1 (show 1 ≤ 8 from by decide) dL_law_385 (fun r τ1 H2 locs2 hp hI2 => ?_)
  obtain ⟨rfl, hpm⟩ := hp
  refine lv_icmp_eq (tgt := 1187) hx hb dL_law_388 (by decide) (fun _ => ?_) (fun q => absurd rfl q)
  exact W.widen (Nat.le_add_right _ _) (Nat.le_add_right _ _) (ht σ1 τ1 fo H2 locs2 ls (hRe _ _ hpx hpm) hI2 hl)
set_option maxHeartbeats 4000000 in
set_option maxRecDepth 100000 in
theorem cs_5 (hC0 : LC p s m meth c b L xs dC dI ax am cI cZ cL cJ qo) (hL : L ≤ 3584) {k : Nat} (hk : 7 * k + 7 ≤ L) {σ τ : mS} {fo : Nat → Int64} {H : Heap} {locs : List Loc} (hR : RXe σ τ) (hI : LI s dC dI ax am cI cZ cL cJ qo σ τ fo H locs) {cells slots : Nat} (hcs : cells + 1 ≤ 601024 ∧ slots + 6 ≤ 7293034) {ls : Array Slot} (hl : lv_has ls 7 (lw5 b ax am qo (nI (7 * k))))
    (ht : ∀ (σ' τ' : mS) (fo' : Nat → Int64) (H1 : Heap) (locs1 : List Loc) (ls' : Array Slot), RXe σ' τ' → LI s dC dI ax am cI cZ cL cJ qo σ' τ' fo' H1 locs1 → lv_has ls' 7 (lw5 b ax am qo (nI (7 * k))) → W p l e room_1 s m #[Value.ref b] below meth c H1 locs1 (cells + 1) (slots + 6) Q (F0 m 1187 ls' [])) :
    W p l e room_1 s m #[Value.ref b] below meth c H locs cells slots Q (F0 m 393 ls []) := by
  obtain ⟨hx, hb, hr, hml, hown, hts, hX, hbl, hlocks, hgv⟩ := hC0.1
  have hbA : ¬ (fun q : Nat => s.heap.size ≤ q) b := Nat.not_le.mpr hbl
  have hcs0 : cells ≤ 601024 ∧ slots ≤ 7293034 := ⟨by omega, by omega⟩
  obtain ⟨W9, H9, mp, dn, ln, rw9, hRX⟩ := hR
  have hv1 : vp_in (nI (7 * k) + 1) L := l_vin (t := 1) (by omega) hk hL
  have hv2 : vp_in (nI (7 * k) + 2) L := l_vin (t := 2) (by omega) hk hL
  have hv3 : vp_in (nI (7 * k) + 3) L := l_vin (t := 3) (by omega) hk hL
  have hv4 : vp_in (nI (7 * k) + 4) L := l_vin (t := 4) (by omega) hk hL
  have hv5 : vp_in (nI (7 * k) + 5) L := l_vin (t := 5) (by omega) hk hL
  have hv6 : vp_in (nI (7 * k) + 6) L := l_vin (t := 6) (by omega) hk hL
  obtain ⟨v, PX, PM, hEx, hEm, hRe⟩ := p_deed hRX (xs (nI (7 * k) + 1).toNatClampNeg) (xs (nI (7 * k) + 2).toNatClampNeg) (xs (nI (7 * k) + 3).toNatClampNeg) (xs (nI (7 * k) + 4).toNatClampNeg) (xs (nI (7 * k) + 5).toNatClampNeg) (xs (nI (7 * k) + 6).toNatClampNeg)
  refine lv_aload_n hx hb dL_law_393 rfl (lv_at hl 1 rfl) ?_
  refine lv_aload_n hx hb dL_law_394 rfl (lv_at hl 0 rfl) ?_
  refine lv_iload hx hb dL_law_395 (lv_at hl 4 rfl) ?_
  refine lv_iconst (v := 1) hx hb dL_law_397 (by decide) ?_
  refine lv_iadd hx hb dL_law_398 ?_
  refine va_sld hx hb hX hbl hbA hI.2.2.2 hv1 dL_law_399 ?_
  refine lv_aload_n hx hb dL_law_400 rfl (lv_at hl 0 rfl) ?_
  refine lv_iload hx hb dL_law_401 (lv_at hl 4 rfl) ?_
  refine lv_iconst (v := 2) hx hb dL_law_403 (by decide) ?_
  refine lv_iadd hx hb dL_law_404 ?_
  refine va_sld hx hb hX hbl hbA hI.2.2.2 hv2 dL_law_405 ?_
  refine lv_aload_n hx hb dL_law_406 rfl (lv_at hl 0 rfl) ?_
  refine lv_iload hx hb dL_law_407 (lv_at hl 4 rfl) ?_
  refine lv_iconst (v := 3) hx hb dL_law_409 (by decide) ?_
  refine lv_iadd hx hb dL_law_410 ?_
  refine va_sld hx hb hX hbl hbA hI.2.2.2 hv3 dL_law_411 ?_
  refine lv_aload_n hx hb dL_law_412 rfl (lv_at hl 0 rfl) ?_
  refine lv_iload hx hb dL_law_413 (lv_at hl 4 rfl) ?_
  refine lv_iconst (v := 4) hx hb dL_law_415 (by decide) ?_
  refine lv_iadd hx hb dL_law_416 ?_
  refine va_sld hx hb hX hbl hbA hI.2.2.2 hv4 dL_law_417 ?_
  refine lv_aload_n hx hb dL_law_418 rfl (lv_at hl 0 rfl) ?_
  refine lv_iload hx hb dL_law_419 (lv_at hl 4 rfl) ?_
  refine lv_iconst (v := 5) hx hb dL_law_421 (by decide) ?_
  refine lv_iadd hx hb dL_law_422 ?_
  refine va_sld hx hb hX hbl hbA hI.2.2.2 hv5 dL_law_423 ?_
  refine lv_aload_n hx hb dL_law_424 rfl (lv_at hl 0 rfl) ?_
  refine lv_iload hx hb dL_law_425 (lv_at hl 4 rfl) ?_
  refine lv_bipush (v := 6) hx hb dL_law_427 (by decide) ?_
  refine lv_iadd hx hb dL_law_429 ?_
  refine va_sld hx hb hX hbl hbA hI.2.2.2 hv6 dL_law_430 ?_
  refine lx_call hC0 hI 62 rfl (As := [mI (xs (nI (7 * k) + 1).toNatClampNeg), mI (xs (nI (7 * k) + 2).toNatClampNeg), mI (xs (nI (7 * k) + 3).toNatClampNeg), mI (xs (nI (7 * k) + 4).toNatClampNeg), mI (xs (nI (7 * k) + 5).toNatClampNeg), mI (xs (nI (7 * k) + 6).toNatClampNeg)]) hEx (by decide) (by decide) (show 7 ≤ mml 62 from by decide) (vok_ints [(xs (nI (7 * k) + 1).toNatClampNeg), (xs (nI (7 * k) + 2).toNatClampNeg), (xs (nI (7 * k) + 3).toNatClampNeg), (xs (nI (7 * k) + 4).toNatClampNeg), (xs (nI (7 * k) + 5).toNatClampNeg), (xs (nI (7 * k) + 6).toNatClampNeg)]) 46 6 (by decide +kernel) rfl (by decide +kernel) (by decide) hcs0 (rest := []) hl.1 (show 0 ≤ 8 from by decide) dL_law_431 (fun r σ1 H1 locs1 hp hI1 => ?_)
  obtain ⟨rfl, hpx⟩ := hp
  refine lv_aload_n hx hb dL_law_434 rfl (lv_at hl 2 rfl) ?_
  refine lv_aload_n hx hb dL_law_435 rfl (lv_at hl 0 rfl) ?_
  refine lv_iload hx hb dL_law_436 (lv_at hl 4 rfl) ?_
  refine lv_iconst (v := 1) hx hb dL_law_438 (by decide) ?_
  refine lv_iadd hx hb dL_law_439 ?_
  refine va_sld hx hb hX hbl hbA hI1.2.2.2 hv1 dL_law_440 ?_
  refine lv_aload_n hx hb dL_law_441 rfl (lv_at hl 0 rfl) ?_
  refine lv_iload hx hb dL_law_442 (lv_at hl 4 rfl) ?_
  refine lv_iconst (v := 2) hx hb dL_law_444 (by decide) ?_
  refine lv_iadd hx hb dL_law_445 ?_
  refine va_sld hx hb hX hbl hbA hI1.2.2.2 hv2 dL_law_446 ?_
  refine lv_aload_n hx hb dL_law_447 rfl (lv_at hl 0 rfl) ?_
  refine lv_iload hx hb dL_law_448 (lv_at hl 4 rfl) ?_
  refine lv_iconst (v := 3) hx hb dL_law_450 (by decide) ?_
  refine lv_iadd hx hb dL_law_451 ?_
  refine va_sld hx hb hX hbl hbA hI1.2.2.2 hv3 dL_law_452 ?_
  refine lv_aload_n hx hb dL_law_453 rfl (lv_at hl 0 rfl) ?_
  refine lv_iload hx hb dL_law_454 (lv_at hl 4 rfl) ?_
  refine lv_iconst (v := 4) hx hb dL_law_456 (by decide) ?_
  refine lv_iadd hx hb dL_law_457 ?_
  refine va_sld hx hb hX hbl hbA hI1.2.2.2 hv4 dL_law_458 ?_
  refine lv_aload_n hx hb dL_law_459 rfl (lv_at hl 0 rfl) ?_
  refine lv_iload hx hb dL_law_460 (lv_at hl 4 rfl) ?_
  refine lv_iconst (v := 5) hx hb dL_law_462 (by decide) ?_
  refine lv_iadd hx hb dL_law_463 ?_
  refine va_sld hx hb hX hbl hbA hI1.2.2.2 hv5 dL_law_464 ?_
  refine lv_aload_n hx hb dL_law_465 rfl (lv_at hl 0 rfl) ?_
  refine lv_iload hx hb dL_law_466 (lv_at hl 4 rfl) ?_
  refine lv_bipush (v := 6) hx hb dL_law_468 (by decide) ?_
  refine lv_iadd hx hb dL_law_470 ?_
  refine va_sld hx hb hX hbl hbA hI1.2.2.2 hv6 dL_law_471 ?_
  refine lm_call hC0 hI1 100 rfl (As := [mI (xs (nI (7 * k) + 1).toNatClampNeg), mI (xs (nI (7 * k) + 2).toNatClampNeg), mI (xs (nI (7 * k) + 3).toNatClampNeg), mI (xs (nI (7 * k) + 4).toNatClampNeg), mI (xs (nI (7 * k) + 5).toNatClampNeg), mI (xs (nI (7 * k) + 6).toNatClampNeg)]) hEm (by decide) (by decide) (show 7 ≤ mml 100 from by decide) (vok_ints [(xs (nI (7 * k) + 1).toNatClampNeg), (xs (nI (7 * k) + 2).toNatClampNeg), (xs (nI (7 * k) + 3).toNatClampNeg), (xs (nI (7 * k) + 4).toNatClampNeg), (xs (nI (7 * k) + 5).toNatClampNeg), (xs (nI (7 * k) + 6).toNatClampNeg)]) 50 6 (by decide +kernel) rfl (by decide +kernel) (by decide) hcs0 (rest := [.int v]) hl.1 (show 1 ≤ 8 from by decide) dL_law_472 (fun r τ1 H2 locs2 hp hI2 => ?_)
  obtain ⟨rfl, hpm⟩ := hp
  refine lv_icmp_eq (tgt := 1187) hx hb dL_law_475 (by decide) (fun _ => ?_) (fun q => absurd rfl q)
  exact W.widen (Nat.le_add_right _ _) (Nat.le_add_right _ _) (ht σ1 τ1 fo H2 locs2 ls (hRe _ _ hpx hpm) hI2 hl)
set_option maxHeartbeats 4000000 in
set_option maxRecDepth 100000 in
theorem cs_7 (hC0 : LC p s m meth c b L xs dC dI ax am cI cZ cL cJ qo) (hL : L ≤ 3584) {k : Nat} (hk : 7 * k + 7 ≤ L) {σ τ : mS} {fo : Nat → Int64} {H : Heap} {locs : List Loc} (hR : RXe σ τ) (hI : LI s dC dI ax am cI cZ cL cJ qo σ τ fo H locs) {cells slots : Nat} (hcs : cells + 1 ≤ 601024 ∧ slots + 6 ≤ 7293034) {ls : Array Slot} (hl : lv_has ls 7 (lw5 b ax am qo (nI (7 * k))))
    (ht : ∀ (σ' τ' : mS) (fo' : Nat → Int64) (H1 : Heap) (locs1 : List Loc) (ls' : Array Slot), RXe σ' τ' → LI s dC dI ax am cI cZ cL cJ qo σ' τ' fo' H1 locs1 → lv_has ls' 7 (lw5 b ax am qo (nI (7 * k))) → W p l e room_1 s m #[Value.ref b] below meth c H1 locs1 (cells + 1) (slots + 6) Q (F0 m 1187 ls' [])) :
    W p l e room_1 s m #[Value.ref b] below meth c H locs cells slots Q (F0 m 533 ls []) := by
  obtain ⟨hx, hb, hr, hml, hown, hts, hX, hbl, hlocks, hgv⟩ := hC0.1
  have hbA : ¬ (fun q : Nat => s.heap.size ≤ q) b := Nat.not_le.mpr hbl
  have hcs0 : cells ≤ 601024 ∧ slots ≤ 7293034 := ⟨by omega, by omega⟩
  obtain ⟨W9, H9, mp, dn, ln, rw9, hRX⟩ := hR
  have hv1 : vp_in (nI (7 * k) + 1) L := l_vin (t := 1) (by omega) hk hL
  have hv2 : vp_in (nI (7 * k) + 2) L := l_vin (t := 2) (by omega) hk hL
  have hv3 : vp_in (nI (7 * k) + 3) L := l_vin (t := 3) (by omega) hk hL
  have hv4 : vp_in (nI (7 * k) + 4) L := l_vin (t := 4) (by omega) hk hL
  obtain ⟨v, PX, PM, hEx, hEm, hRe⟩ := p_law hRX (xs (nI (7 * k) + 1).toNatClampNeg) (xs (nI (7 * k) + 2).toNatClampNeg) (xs (nI (7 * k) + 3).toNatClampNeg) (xs (nI (7 * k) + 4).toNatClampNeg)
  refine lv_aload_n hx hb dL_law_533 rfl (lv_at hl 1 rfl) ?_
  refine lv_aload_n hx hb dL_law_534 rfl (lv_at hl 0 rfl) ?_
  refine lv_iload hx hb dL_law_535 (lv_at hl 4 rfl) ?_
  refine lv_iconst (v := 1) hx hb dL_law_537 (by decide) ?_
  refine lv_iadd hx hb dL_law_538 ?_
  refine va_sld hx hb hX hbl hbA hI.2.2.2 hv1 dL_law_539 ?_
  refine lv_aload_n hx hb dL_law_540 rfl (lv_at hl 0 rfl) ?_
  refine lv_iload hx hb dL_law_541 (lv_at hl 4 rfl) ?_
  refine lv_iconst (v := 2) hx hb dL_law_543 (by decide) ?_
  refine lv_iadd hx hb dL_law_544 ?_
  refine va_sld hx hb hX hbl hbA hI.2.2.2 hv2 dL_law_545 ?_
  refine lv_aload_n hx hb dL_law_546 rfl (lv_at hl 0 rfl) ?_
  refine lv_iload hx hb dL_law_547 (lv_at hl 4 rfl) ?_
  refine lv_iconst (v := 3) hx hb dL_law_549 (by decide) ?_
  refine lv_iadd hx hb dL_law_550 ?_
  refine va_sld hx hb hX hbl hbA hI.2.2.2 hv3 dL_law_551 ?_
  refine lv_aload_n hx hb dL_law_552 rfl (lv_at hl 0 rfl) ?_
  refine lv_iload hx hb dL_law_553 (lv_at hl 4 rfl) ?_
  refine lv_iconst (v := 4) hx hb dL_law_555 (by decide) ?_
  refine lv_iadd hx hb dL_law_556 ?_
  refine va_sld hx hb hX hbl hbA hI.2.2.2 hv4 dL_law_557 ?_
  refine lx_call hC0 hI 64 rfl (As := [mI (xs (nI (7 * k) + 1).toNatClampNeg), mI (xs (nI (7 * k) + 2).toNatClampNeg), mI (xs (nI (7 * k) + 3).toNatClampNeg), mI (xs (nI (7 * k) + 4).toNatClampNeg)]) hEx (by decide) (by decide) (show 5 ≤ mml 64 from by decide) (vok_ints [(xs (nI (7 * k) + 1).toNatClampNeg), (xs (nI (7 * k) + 2).toNatClampNeg), (xs (nI (7 * k) + 3).toNatClampNeg), (xs (nI (7 * k) + 4).toNatClampNeg)]) 56 4 (by decide +kernel) rfl (by decide +kernel) (by decide) hcs0 (rest := []) hl.1 (show 0 ≤ 8 from by decide) dL_law_558 (fun r σ1 H1 locs1 hp hI1 => ?_)
  obtain ⟨rfl, hpx⟩ := hp
  refine lv_aload_n hx hb dL_law_561 rfl (lv_at hl 2 rfl) ?_
  refine lv_aload_n hx hb dL_law_562 rfl (lv_at hl 0 rfl) ?_
  refine lv_iload hx hb dL_law_563 (lv_at hl 4 rfl) ?_
  refine lv_iconst (v := 1) hx hb dL_law_565 (by decide) ?_
  refine lv_iadd hx hb dL_law_566 ?_
  refine va_sld hx hb hX hbl hbA hI1.2.2.2 hv1 dL_law_567 ?_
  refine lv_aload_n hx hb dL_law_568 rfl (lv_at hl 0 rfl) ?_
  refine lv_iload hx hb dL_law_569 (lv_at hl 4 rfl) ?_
  refine lv_iconst (v := 2) hx hb dL_law_571 (by decide) ?_
  refine lv_iadd hx hb dL_law_572 ?_
  refine va_sld hx hb hX hbl hbA hI1.2.2.2 hv2 dL_law_573 ?_
  refine lv_aload_n hx hb dL_law_574 rfl (lv_at hl 0 rfl) ?_
  refine lv_iload hx hb dL_law_575 (lv_at hl 4 rfl) ?_
  refine lv_iconst (v := 3) hx hb dL_law_577 (by decide) ?_
  refine lv_iadd hx hb dL_law_578 ?_
  refine va_sld hx hb hX hbl hbA hI1.2.2.2 hv3 dL_law_579 ?_
  refine lv_aload_n hx hb dL_law_580 rfl (lv_at hl 0 rfl) ?_
  refine lv_iload hx hb dL_law_581 (lv_at hl 4 rfl) ?_
  refine lv_iconst (v := 4) hx hb dL_law_583 (by decide) ?_
  refine lv_iadd hx hb dL_law_584 ?_
  refine va_sld hx hb hX hbl hbA hI1.2.2.2 hv4 dL_law_585 ?_
  refine lm_call hC0 hI1 102 rfl (As := [mI (xs (nI (7 * k) + 1).toNatClampNeg), mI (xs (nI (7 * k) + 2).toNatClampNeg), mI (xs (nI (7 * k) + 3).toNatClampNeg), mI (xs (nI (7 * k) + 4).toNatClampNeg)]) hEm (by decide) (by decide) (show 5 ≤ mml 102 from by decide) (vok_ints [(xs (nI (7 * k) + 1).toNatClampNeg), (xs (nI (7 * k) + 2).toNatClampNeg), (xs (nI (7 * k) + 3).toNatClampNeg), (xs (nI (7 * k) + 4).toNatClampNeg)]) 60 4 (by decide +kernel) rfl (by decide +kernel) (by decide) hcs0 (rest := [.int v]) hl.1 (show 1 ≤ 8 from by decide) dL_law_586 (fun r τ1 H2 locs2 hp hI2 => ?_)
  obtain ⟨rfl, hpm⟩ := hp
  refine lv_icmp_eq (tgt := 1187) hx hb dL_law_589 (by decide) (fun _ => ?_) (fun q => absurd rfl q)
  exact W.widen (Nat.le_add_right _ _) (Nat.le_add_right _ _) (ht σ1 τ1 fo H2 locs2 ls (hRe _ _ hpx hpm) hI2 hl)
set_option maxHeartbeats 4000000 in
set_option maxRecDepth 100000 in
theorem cs_8 (hC0 : LC p s m meth c b L xs dC dI ax am cI cZ cL cJ qo) (hL : L ≤ 3584) {k : Nat} (hk : 7 * k + 7 ≤ L) {σ τ : mS} {fo : Nat → Int64} {H : Heap} {locs : List Loc} (hR : RXe σ τ) (hI : LI s dC dI ax am cI cZ cL cJ qo σ τ fo H locs) {cells slots : Nat} (hcs : cells + 1 ≤ 601024 ∧ slots + 6 ≤ 7293034) {ls : Array Slot} (hl : lv_has ls 7 (lw5 b ax am qo (nI (7 * k))))
    (ht : ∀ (σ' τ' : mS) (fo' : Nat → Int64) (H1 : Heap) (locs1 : List Loc) (ls' : Array Slot), RXe σ' τ' → LI s dC dI ax am cI cZ cL cJ qo σ' τ' fo' H1 locs1 → lv_has ls' 7 (lw5 b ax am qo (nI (7 * k))) → W p l e room_1 s m #[Value.ref b] below meth c H1 locs1 (cells + 1) (slots + 6) Q (F0 m 1187 ls' [])) :
    W p l e room_1 s m #[Value.ref b] below meth c H locs cells slots Q (F0 m 594 ls []) := by
  obtain ⟨hx, hb, hr, hml, hown, hts, hX, hbl, hlocks, hgv⟩ := hC0.1
  have hbA : ¬ (fun q : Nat => s.heap.size ≤ q) b := Nat.not_le.mpr hbl
  have hcs0 : cells ≤ 601024 ∧ slots ≤ 7293034 := ⟨by omega, by omega⟩
  obtain ⟨W9, H9, mp, dn, ln, rw9, hRX⟩ := hR
  have hv1 : vp_in (nI (7 * k) + 1) L := l_vin (t := 1) (by omega) hk hL
  obtain ⟨v, PX, PM, hEx, hEm, hRe⟩ := p_reach hRX (xs (nI (7 * k) + 1).toNatClampNeg)
  refine lv_aload_n hx hb dL_law_594 rfl (lv_at hl 1 rfl) ?_
  refine lv_aload_n hx hb dL_law_595 rfl (lv_at hl 0 rfl) ?_
  refine lv_iload hx hb dL_law_596 (lv_at hl 4 rfl) ?_
  refine lv_iconst (v := 1) hx hb dL_law_598 (by decide) ?_
  refine lv_iadd hx hb dL_law_599 ?_
  refine va_sld hx hb hX hbl hbA hI.2.2.2 hv1 dL_law_600 ?_
  refine lx_call hC0 hI 65 rfl (As := [mI (xs (nI (7 * k) + 1).toNatClampNeg)]) hEx (by decide) (by decide) (show 2 ≤ mml 65 from by decide) (vok_ints [(xs (nI (7 * k) + 1).toNatClampNeg)]) 61 1 (by decide +kernel) rfl (by decide +kernel) (by decide) hcs0 (rest := []) hl.1 (show 0 ≤ 8 from by decide) dL_law_601 (fun r σ1 H1 locs1 hp hI1 => ?_)
  obtain ⟨rfl, hpx⟩ := hp
  refine lv_aload_n hx hb dL_law_604 rfl (lv_at hl 2 rfl) ?_
  refine lv_aload_n hx hb dL_law_605 rfl (lv_at hl 0 rfl) ?_
  refine lv_iload hx hb dL_law_606 (lv_at hl 4 rfl) ?_
  refine lv_iconst (v := 1) hx hb dL_law_608 (by decide) ?_
  refine lv_iadd hx hb dL_law_609 ?_
  refine va_sld hx hb hX hbl hbA hI1.2.2.2 hv1 dL_law_610 ?_
  refine lm_call hC0 hI1 103 rfl (As := [mI (xs (nI (7 * k) + 1).toNatClampNeg)]) hEm (by decide) (by decide) (show 2 ≤ mml 103 from by decide) (vok_ints [(xs (nI (7 * k) + 1).toNatClampNeg)]) 64 1 (by decide +kernel) rfl (by decide +kernel) (by decide) hcs0 (rest := [.int v]) hl.1 (show 1 ≤ 8 from by decide) dL_law_611 (fun r τ1 H2 locs2 hp hI2 => ?_)
  obtain ⟨rfl, hpm⟩ := hp
  refine lv_icmp_eq (tgt := 1187) hx hb dL_law_614 (by decide) (fun _ => ?_) (fun q => absurd rfl q)
  exact W.widen (Nat.le_add_right _ _) (Nat.le_add_right _ _) (ht σ1 τ1 fo H2 locs2 ls (hRe _ _ hpx hpm) hI2 hl)
set_option maxHeartbeats 4000000 in
set_option maxRecDepth 100000 in
theorem cs_9 (hC0 : LC p s m meth c b L xs dC dI ax am cI cZ cL cJ qo) (hL : L ≤ 3584) {k : Nat} (hk : 7 * k + 7 ≤ L) {σ τ : mS} {fo : Nat → Int64} {H : Heap} {locs : List Loc} (hR : RXe σ τ) (hI : LI s dC dI ax am cI cZ cL cJ qo σ τ fo H locs) {cells slots : Nat} (hcs : cells + 1 ≤ 601024 ∧ slots + 6 ≤ 7293034) {ls : Array Slot} (hl : lv_has ls 7 (lw5 b ax am qo (nI (7 * k))))
    (ht : ∀ (σ' τ' : mS) (fo' : Nat → Int64) (H1 : Heap) (locs1 : List Loc) (ls' : Array Slot), RXe σ' τ' → LI s dC dI ax am cI cZ cL cJ qo σ' τ' fo' H1 locs1 → lv_has ls' 7 (lw5 b ax am qo (nI (7 * k))) → W p l e room_1 s m #[Value.ref b] below meth c H1 locs1 (cells + 1) (slots + 6) Q (F0 m 1187 ls' [])) :
    W p l e room_1 s m #[Value.ref b] below meth c H locs cells slots Q (F0 m 619 ls []) := by
  obtain ⟨hx, hb, hr, hml, hown, hts, hX, hbl, hlocks, hgv⟩ := hC0.1
  have hbA : ¬ (fun q : Nat => s.heap.size ≤ q) b := Nat.not_le.mpr hbl
  have hcs0 : cells ≤ 601024 ∧ slots ≤ 7293034 := ⟨by omega, by omega⟩
  obtain ⟨W9, H9, mp, dn, ln, rw9, hRX⟩ := hR
  have hv1 : vp_in (nI (7 * k) + 1) L := l_vin (t := 1) (by omega) hk hL
  have hv2 : vp_in (nI (7 * k) + 2) L := l_vin (t := 2) (by omega) hk hL
  obtain ⟨v, PX, PM, hEx, hEm, hRe⟩ := p_judge hRX (xs (nI (7 * k) + 1).toNatClampNeg) (xs (nI (7 * k) + 2).toNatClampNeg)
  refine lv_aload_n hx hb dL_law_619 rfl (lv_at hl 1 rfl) ?_
  refine lv_aload_n hx hb dL_law_620 rfl (lv_at hl 0 rfl) ?_
  refine lv_iload hx hb dL_law_621 (lv_at hl 4 rfl) ?_
  refine lv_iconst (v := 1) hx hb dL_law_623 (by decide) ?_
  refine lv_iadd hx hb dL_law_624 ?_
  refine va_sld hx hb hX hbl hbA hI.2.2.2 hv1 dL_law_625 ?_
  refine lv_aload_n hx hb dL_law_626 rfl (lv_at hl 0 rfl) ?_
  refine lv_iload hx hb dL_law_627 (lv_at hl 4 rfl) ?_
  refine lv_iconst (v := 2) hx hb dL_law_629 (by decide) ?_
  refine lv_iadd hx hb dL_law_630 ?_
  refine va_sld hx hb hX hbl hbA hI.2.2.2 hv2 dL_law_631 ?_
  refine lx_call hC0 hI 66 rfl (As := [mI (xs (nI (7 * k) + 1).toNatClampNeg), mI (xs (nI (7 * k) + 2).toNatClampNeg)]) hEx (by decide) (by decide) (show 3 ≤ mml 66 from by decide) (vok_ints [(xs (nI (7 * k) + 1).toNatClampNeg), (xs (nI (7 * k) + 2).toNatClampNeg)]) 65 2 (by decide +kernel) rfl (by decide +kernel) (by decide) hcs0 (rest := []) hl.1 (show 0 ≤ 8 from by decide) dL_law_632 (fun r σ1 H1 locs1 hp hI1 => ?_)
  obtain ⟨rfl, hpx⟩ := hp
  refine lv_aload_n hx hb dL_law_635 rfl (lv_at hl 2 rfl) ?_
  refine lv_aload_n hx hb dL_law_636 rfl (lv_at hl 0 rfl) ?_
  refine lv_iload hx hb dL_law_637 (lv_at hl 4 rfl) ?_
  refine lv_iconst (v := 1) hx hb dL_law_639 (by decide) ?_
  refine lv_iadd hx hb dL_law_640 ?_
  refine va_sld hx hb hX hbl hbA hI1.2.2.2 hv1 dL_law_641 ?_
  refine lv_aload_n hx hb dL_law_642 rfl (lv_at hl 0 rfl) ?_
  refine lv_iload hx hb dL_law_643 (lv_at hl 4 rfl) ?_
  refine lv_iconst (v := 2) hx hb dL_law_645 (by decide) ?_
  refine lv_iadd hx hb dL_law_646 ?_
  refine va_sld hx hb hX hbl hbA hI1.2.2.2 hv2 dL_law_647 ?_
  refine lm_call hC0 hI1 105 rfl (As := [mI (xs (nI (7 * k) + 1).toNatClampNeg), mI (xs (nI (7 * k) + 2).toNatClampNeg)]) hEm (by decide) (by decide) (show 3 ≤ mml 105 from by decide) (vok_ints [(xs (nI (7 * k) + 1).toNatClampNeg), (xs (nI (7 * k) + 2).toNatClampNeg)]) 68 2 (by decide +kernel) rfl (by decide +kernel) (by decide) hcs0 (rest := [.int v]) hl.1 (show 1 ≤ 8 from by decide) dL_law_648 (fun r τ1 H2 locs2 hp hI2 => ?_)
  obtain ⟨rfl, hpm⟩ := hp
  refine lv_icmp_eq (tgt := 1187) hx hb dL_law_651 (by decide) (fun _ => ?_) (fun q => absurd rfl q)
  exact W.widen (Nat.le_add_right _ _) (Nat.le_add_right _ _) (ht σ1 τ1 fo H2 locs2 ls (hRe _ _ hpx hpm) hI2 hl)
set_option maxHeartbeats 4000000 in
set_option maxRecDepth 100000 in
theorem cs_10 (hC0 : LC p s m meth c b L xs dC dI ax am cI cZ cL cJ qo) (hL : L ≤ 3584) {k : Nat} (hk : 7 * k + 7 ≤ L) {σ τ : mS} {fo : Nat → Int64} {H : Heap} {locs : List Loc} (hR : RXe σ τ) (hI : LI s dC dI ax am cI cZ cL cJ qo σ τ fo H locs) {cells slots : Nat} (hcs : cells + 1 ≤ 601024 ∧ slots + 6 ≤ 7293034) {ls : Array Slot} (hl : lv_has ls 7 (lw5 b ax am qo (nI (7 * k))))
    (ht : ∀ (σ' τ' : mS) (fo' : Nat → Int64) (H1 : Heap) (locs1 : List Loc) (ls' : Array Slot), RXe σ' τ' → LI s dC dI ax am cI cZ cL cJ qo σ' τ' fo' H1 locs1 → lv_has ls' 7 (lw5 b ax am qo (nI (7 * k))) → W p l e room_1 s m #[Value.ref b] below meth c H1 locs1 (cells + 1) (slots + 6) Q (F0 m 1187 ls' [])) :
    W p l e room_1 s m #[Value.ref b] below meth c H locs cells slots Q (F0 m 656 ls []) := by
  obtain ⟨hx, hb, hr, hml, hown, hts, hX, hbl, hlocks, hgv⟩ := hC0.1
  have hbA : ¬ (fun q : Nat => s.heap.size ≤ q) b := Nat.not_le.mpr hbl
  have hcs0 : cells ≤ 601024 ∧ slots ≤ 7293034 := ⟨by omega, by omega⟩
  obtain ⟨W9, H9, mp, dn, ln, rw9, hRX⟩ := hR
  have hv1 : vp_in (nI (7 * k) + 1) L := l_vin (t := 1) (by omega) hk hL
  obtain ⟨v, PX, PM, hEx, hEm, hRe⟩ := p_count hRX (xs (nI (7 * k) + 1).toNatClampNeg)
  refine lv_aload_n hx hb dL_law_656 rfl (lv_at hl 1 rfl) ?_
  refine lv_aload_n hx hb dL_law_657 rfl (lv_at hl 0 rfl) ?_
  refine lv_iload hx hb dL_law_658 (lv_at hl 4 rfl) ?_
  refine lv_iconst (v := 1) hx hb dL_law_660 (by decide) ?_
  refine lv_iadd hx hb dL_law_661 ?_
  refine va_sld hx hb hX hbl hbA hI.2.2.2 hv1 dL_law_662 ?_
  refine lx_call hC0 hI 67 rfl (As := [mI (xs (nI (7 * k) + 1).toNatClampNeg)]) hEx (by decide) (by decide) (show 2 ≤ mml 67 from by decide) (vok_ints [(xs (nI (7 * k) + 1).toNatClampNeg)]) 69 1 (by decide +kernel) rfl (by decide +kernel) (by decide) hcs0 (rest := []) hl.1 (show 0 ≤ 8 from by decide) dL_law_663 (fun r σ1 H1 locs1 hp hI1 => ?_)
  obtain ⟨rfl, hpx⟩ := hp
  refine lv_aload_n hx hb dL_law_666 rfl (lv_at hl 2 rfl) ?_
  refine lv_aload_n hx hb dL_law_667 rfl (lv_at hl 0 rfl) ?_
  refine lv_iload hx hb dL_law_668 (lv_at hl 4 rfl) ?_
  refine lv_iconst (v := 1) hx hb dL_law_670 (by decide) ?_
  refine lv_iadd hx hb dL_law_671 ?_
  refine va_sld hx hb hX hbl hbA hI1.2.2.2 hv1 dL_law_672 ?_
  refine lm_call hC0 hI1 106 rfl (As := [mI (xs (nI (7 * k) + 1).toNatClampNeg)]) hEm (by decide) (by decide) (show 2 ≤ mml 106 from by decide) (vok_ints [(xs (nI (7 * k) + 1).toNatClampNeg)]) 72 1 (by decide +kernel) rfl (by decide +kernel) (by decide) hcs0 (rest := [.int v]) hl.1 (show 1 ≤ 8 from by decide) dL_law_673 (fun r τ1 H2 locs2 hp hI2 => ?_)
  obtain ⟨rfl, hpm⟩ := hp
  refine lv_icmp_eq (tgt := 1187) hx hb dL_law_676 (by decide) (fun _ => ?_) (fun q => absurd rfl q)
  exact W.widen (Nat.le_add_right _ _) (Nat.le_add_right _ _) (ht σ1 τ1 fo H2 locs2 ls (hRe _ _ hpx hpm) hI2 hl)
set_option maxHeartbeats 4000000 in
set_option maxRecDepth 100000 in
theorem cs_11 (hC0 : LC p s m meth c b L xs dC dI ax am cI cZ cL cJ qo) (hL : L ≤ 3584) {k : Nat} (hk : 7 * k + 7 ≤ L) {σ τ : mS} {fo : Nat → Int64} {H : Heap} {locs : List Loc} (hR : RXe σ τ) (hI : LI s dC dI ax am cI cZ cL cJ qo σ τ fo H locs) {cells slots : Nat} (hcs : cells + 1 ≤ 601024 ∧ slots + 6 ≤ 7293034) {ls : Array Slot} (hl : lv_has ls 7 (lw5 b ax am qo (nI (7 * k))))
    (ht : ∀ (σ' τ' : mS) (fo' : Nat → Int64) (H1 : Heap) (locs1 : List Loc) (ls' : Array Slot), RXe σ' τ' → LI s dC dI ax am cI cZ cL cJ qo σ' τ' fo' H1 locs1 → lv_has ls' 7 (lw5 b ax am qo (nI (7 * k))) → W p l e room_1 s m #[Value.ref b] below meth c H1 locs1 (cells + 1) (slots + 6) Q (F0 m 1187 ls' [])) :
    W p l e room_1 s m #[Value.ref b] below meth c H locs cells slots Q (F0 m 681 ls []) := by
  obtain ⟨hx, hb, hr, hml, hown, hts, hX, hbl, hlocks, hgv⟩ := hC0.1
  have hbA : ¬ (fun q : Nat => s.heap.size ≤ q) b := Nat.not_le.mpr hbl
  have hcs0 : cells ≤ 601024 ∧ slots ≤ 7293034 := ⟨by omega, by omega⟩
  obtain ⟨W9, H9, mp, dn, ln, rw9, hRX⟩ := hR
  have hv1 : vp_in (nI (7 * k) + 1) L := l_vin (t := 1) (by omega) hk hL
  have hv2 : vp_in (nI (7 * k) + 2) L := l_vin (t := 2) (by omega) hk hL
  have hv3 : vp_in (nI (7 * k) + 3) L := l_vin (t := 3) (by omega) hk hL
  obtain ⟨v, PX, PM, hEx, hEm, hRe⟩ := p_wet hRX (xs (nI (7 * k) + 1).toNatClampNeg) (xs (nI (7 * k) + 2).toNatClampNeg) (xs (nI (7 * k) + 3).toNatClampNeg)
  refine lv_aload_n hx hb dL_law_681 rfl (lv_at hl 1 rfl) ?_
  refine lv_aload_n hx hb dL_law_682 rfl (lv_at hl 0 rfl) ?_
  refine lv_iload hx hb dL_law_683 (lv_at hl 4 rfl) ?_
  refine lv_iconst (v := 1) hx hb dL_law_685 (by decide) ?_
  refine lv_iadd hx hb dL_law_686 ?_
  refine va_sld hx hb hX hbl hbA hI.2.2.2 hv1 dL_law_687 ?_
  refine lv_aload_n hx hb dL_law_688 rfl (lv_at hl 0 rfl) ?_
  refine lv_iload hx hb dL_law_689 (lv_at hl 4 rfl) ?_
  refine lv_iconst (v := 2) hx hb dL_law_691 (by decide) ?_
  refine lv_iadd hx hb dL_law_692 ?_
  refine va_sld hx hb hX hbl hbA hI.2.2.2 hv2 dL_law_693 ?_
  refine lv_aload_n hx hb dL_law_694 rfl (lv_at hl 0 rfl) ?_
  refine lv_iload hx hb dL_law_695 (lv_at hl 4 rfl) ?_
  refine lv_iconst (v := 3) hx hb dL_law_697 (by decide) ?_
  refine lv_iadd hx hb dL_law_698 ?_
  refine va_sld hx hb hX hbl hbA hI.2.2.2 hv3 dL_law_699 ?_
  refine lx_call hC0 hI 68 rfl (As := [mI (xs (nI (7 * k) + 1).toNatClampNeg), mI (xs (nI (7 * k) + 2).toNatClampNeg), mI (xs (nI (7 * k) + 3).toNatClampNeg)]) hEx (by decide) (by decide) (show 4 ≤ mml 68 from by decide) (vok_ints [(xs (nI (7 * k) + 1).toNatClampNeg), (xs (nI (7 * k) + 2).toNatClampNeg), (xs (nI (7 * k) + 3).toNatClampNeg)]) 73 3 (by decide +kernel) rfl (by decide +kernel) (by decide) hcs0 (rest := []) hl.1 (show 0 ≤ 8 from by decide) dL_law_700 (fun r σ1 H1 locs1 hp hI1 => ?_)
  obtain ⟨rfl, hpx⟩ := hp
  refine lv_aload_n hx hb dL_law_703 rfl (lv_at hl 2 rfl) ?_
  refine lv_aload_n hx hb dL_law_704 rfl (lv_at hl 0 rfl) ?_
  refine lv_iload hx hb dL_law_705 (lv_at hl 4 rfl) ?_
  refine lv_iconst (v := 1) hx hb dL_law_707 (by decide) ?_
  refine lv_iadd hx hb dL_law_708 ?_
  refine va_sld hx hb hX hbl hbA hI1.2.2.2 hv1 dL_law_709 ?_
  refine lv_aload_n hx hb dL_law_710 rfl (lv_at hl 0 rfl) ?_
  refine lv_iload hx hb dL_law_711 (lv_at hl 4 rfl) ?_
  refine lv_iconst (v := 2) hx hb dL_law_713 (by decide) ?_
  refine lv_iadd hx hb dL_law_714 ?_
  refine va_sld hx hb hX hbl hbA hI1.2.2.2 hv2 dL_law_715 ?_
  refine lv_aload_n hx hb dL_law_716 rfl (lv_at hl 0 rfl) ?_
  refine lv_iload hx hb dL_law_717 (lv_at hl 4 rfl) ?_
  refine lv_iconst (v := 3) hx hb dL_law_719 (by decide) ?_
  refine lv_iadd hx hb dL_law_720 ?_
  refine va_sld hx hb hX hbl hbA hI1.2.2.2 hv3 dL_law_721 ?_
  refine lm_call hC0 hI1 110 rfl (As := [mI (xs (nI (7 * k) + 1).toNatClampNeg), mI (xs (nI (7 * k) + 2).toNatClampNeg), mI (xs (nI (7 * k) + 3).toNatClampNeg)]) hEm (by decide) (by decide) (show 4 ≤ mml 110 from by decide) (vok_ints [(xs (nI (7 * k) + 1).toNatClampNeg), (xs (nI (7 * k) + 2).toNatClampNeg), (xs (nI (7 * k) + 3).toNatClampNeg)]) 77 3 (by decide +kernel) rfl (by decide +kernel) (by decide) hcs0 (rest := [.int v]) hl.1 (show 1 ≤ 8 from by decide) dL_law_722 (fun r τ1 H2 locs2 hp hI2 => ?_)
  obtain ⟨rfl, hpm⟩ := hp
  refine lv_icmp_eq (tgt := 1187) hx hb dL_law_725 (by decide) (fun _ => ?_) (fun q => absurd rfl q)
  exact W.widen (Nat.le_add_right _ _) (Nat.le_add_right _ _) (ht σ1 τ1 fo H2 locs2 ls (hRe _ _ hpx hpm) hI2 hl)
set_option maxHeartbeats 4000000 in
set_option maxRecDepth 100000 in
theorem cs_12 (hC0 : LC p s m meth c b L xs dC dI ax am cI cZ cL cJ qo) (hL : L ≤ 3584) {k : Nat} (hk : 7 * k + 7 ≤ L) {σ τ : mS} {fo : Nat → Int64} {H : Heap} {locs : List Loc} (hR : RXe σ τ) (hI : LI s dC dI ax am cI cZ cL cJ qo σ τ fo H locs) {cells slots : Nat} (hcs : cells + 1 ≤ 601024 ∧ slots + 6 ≤ 7293034) {ls : Array Slot} (hl : lv_has ls 7 (lw5 b ax am qo (nI (7 * k))))
    (ht : ∀ (σ' τ' : mS) (fo' : Nat → Int64) (H1 : Heap) (locs1 : List Loc) (ls' : Array Slot), RXe σ' τ' → LI s dC dI ax am cI cZ cL cJ qo σ' τ' fo' H1 locs1 → lv_has ls' 7 (lw5 b ax am qo (nI (7 * k))) → W p l e room_1 s m #[Value.ref b] below meth c H1 locs1 (cells + 1) (slots + 6) Q (F0 m 1187 ls' [])) :
    W p l e room_1 s m #[Value.ref b] below meth c H locs cells slots Q (F0 m 730 ls []) := by
  obtain ⟨hx, hb, hr, hml, hown, hts, hX, hbl, hlocks, hgv⟩ := hC0.1
  have hbA : ¬ (fun q : Nat => s.heap.size ≤ q) b := Nat.not_le.mpr hbl
  have hcs0 : cells ≤ 601024 ∧ slots ≤ 7293034 := ⟨by omega, by omega⟩
  obtain ⟨W9, H9, mp, dn, ln, rw9, hRX⟩ := hR
  have hv1 : vp_in (nI (7 * k) + 1) L := l_vin (t := 1) (by omega) hk hL
  have hv2 : vp_in (nI (7 * k) + 2) L := l_vin (t := 2) (by omega) hk hL
  have hv3 : vp_in (nI (7 * k) + 3) L := l_vin (t := 3) (by omega) hk hL
  obtain ⟨v, PX, PM, hEx, hEm, hRe⟩ := p_owner hRX (xs (nI (7 * k) + 1).toNatClampNeg) (xs (nI (7 * k) + 2).toNatClampNeg) (xs (nI (7 * k) + 3).toNatClampNeg)
  refine lv_aload_n hx hb dL_law_730 rfl (lv_at hl 1 rfl) ?_
  refine lv_aload_n hx hb dL_law_731 rfl (lv_at hl 0 rfl) ?_
  refine lv_iload hx hb dL_law_732 (lv_at hl 4 rfl) ?_
  refine lv_iconst (v := 1) hx hb dL_law_734 (by decide) ?_
  refine lv_iadd hx hb dL_law_735 ?_
  refine va_sld hx hb hX hbl hbA hI.2.2.2 hv1 dL_law_736 ?_
  refine lv_aload_n hx hb dL_law_737 rfl (lv_at hl 0 rfl) ?_
  refine lv_iload hx hb dL_law_738 (lv_at hl 4 rfl) ?_
  refine lv_iconst (v := 2) hx hb dL_law_740 (by decide) ?_
  refine lv_iadd hx hb dL_law_741 ?_
  refine va_sld hx hb hX hbl hbA hI.2.2.2 hv2 dL_law_742 ?_
  refine lv_aload_n hx hb dL_law_743 rfl (lv_at hl 0 rfl) ?_
  refine lv_iload hx hb dL_law_744 (lv_at hl 4 rfl) ?_
  refine lv_iconst (v := 3) hx hb dL_law_746 (by decide) ?_
  refine lv_iadd hx hb dL_law_747 ?_
  refine va_sld hx hb hX hbl hbA hI.2.2.2 hv3 dL_law_748 ?_
  refine lx_call hC0 hI 69 rfl (As := [mI (xs (nI (7 * k) + 1).toNatClampNeg), mI (xs (nI (7 * k) + 2).toNatClampNeg), mI (xs (nI (7 * k) + 3).toNatClampNeg)]) hEx (by decide) (by decide) (show 4 ≤ mml 69 from by decide) (vok_ints [(xs (nI (7 * k) + 1).toNatClampNeg), (xs (nI (7 * k) + 2).toNatClampNeg), (xs (nI (7 * k) + 3).toNatClampNeg)]) 78 3 (by decide +kernel) rfl (by decide +kernel) (by decide) hcs0 (rest := []) hl.1 (show 0 ≤ 8 from by decide) dL_law_749 (fun r σ1 H1 locs1 hp hI1 => ?_)
  obtain ⟨rfl, hpx⟩ := hp
  refine lv_aload_n hx hb dL_law_752 rfl (lv_at hl 2 rfl) ?_
  refine lv_aload_n hx hb dL_law_753 rfl (lv_at hl 0 rfl) ?_
  refine lv_iload hx hb dL_law_754 (lv_at hl 4 rfl) ?_
  refine lv_iconst (v := 1) hx hb dL_law_756 (by decide) ?_
  refine lv_iadd hx hb dL_law_757 ?_
  refine va_sld hx hb hX hbl hbA hI1.2.2.2 hv1 dL_law_758 ?_
  refine lv_aload_n hx hb dL_law_759 rfl (lv_at hl 0 rfl) ?_
  refine lv_iload hx hb dL_law_760 (lv_at hl 4 rfl) ?_
  refine lv_iconst (v := 2) hx hb dL_law_762 (by decide) ?_
  refine lv_iadd hx hb dL_law_763 ?_
  refine va_sld hx hb hX hbl hbA hI1.2.2.2 hv2 dL_law_764 ?_
  refine lv_aload_n hx hb dL_law_765 rfl (lv_at hl 0 rfl) ?_
  refine lv_iload hx hb dL_law_766 (lv_at hl 4 rfl) ?_
  refine lv_iconst (v := 3) hx hb dL_law_768 (by decide) ?_
  refine lv_iadd hx hb dL_law_769 ?_
  refine va_sld hx hb hX hbl hbA hI1.2.2.2 hv3 dL_law_770 ?_
  refine lm_call hC0 hI1 128 rfl (As := [mI (xs (nI (7 * k) + 1).toNatClampNeg), mI (xs (nI (7 * k) + 2).toNatClampNeg), mI (xs (nI (7 * k) + 3).toNatClampNeg)]) hEm (by decide) (by decide) (show 4 ≤ mml 128 from by decide) (vok_ints [(xs (nI (7 * k) + 1).toNatClampNeg), (xs (nI (7 * k) + 2).toNatClampNeg), (xs (nI (7 * k) + 3).toNatClampNeg)]) 81 3 (by decide +kernel) rfl (by decide +kernel) (by decide) hcs0 (rest := [.int v]) hl.1 (show 1 ≤ 8 from by decide) dL_law_771 (fun r τ1 H2 locs2 hp hI2 => ?_)
  obtain ⟨rfl, hpm⟩ := hp
  refine lv_icmp_eq (tgt := 1187) hx hb dL_law_774 (by decide) (fun _ => ?_) (fun q => absurd rfl q)
  exact W.widen (Nat.le_add_right _ _) (Nat.le_add_right _ _) (ht σ1 τ1 fo H2 locs2 ls (hRe _ _ hpx hpm) hI2 hl)
set_option maxHeartbeats 4000000 in
set_option maxRecDepth 100000 in
theorem cs_13 (hC0 : LC p s m meth c b L xs dC dI ax am cI cZ cL cJ qo) (hL : L ≤ 3584) {k : Nat} (hk : 7 * k + 7 ≤ L) {σ τ : mS} {fo : Nat → Int64} {H : Heap} {locs : List Loc} (hR : RXe σ τ) (hI : LI s dC dI ax am cI cZ cL cJ qo σ τ fo H locs) {cells slots : Nat} (hcs : cells + 1 ≤ 601024 ∧ slots + 6 ≤ 7293034) {ls : Array Slot} (hl : lv_has ls 7 (lw5 b ax am qo (nI (7 * k))))
    (ht : ∀ (σ' τ' : mS) (fo' : Nat → Int64) (H1 : Heap) (locs1 : List Loc) (ls' : Array Slot), RXe σ' τ' → LI s dC dI ax am cI cZ cL cJ qo σ' τ' fo' H1 locs1 → lv_has ls' 7 (lw5 b ax am qo (nI (7 * k))) → W p l e room_1 s m #[Value.ref b] below meth c H1 locs1 (cells + 1) (slots + 6) Q (F0 m 1187 ls' [])) :
    W p l e room_1 s m #[Value.ref b] below meth c H locs cells slots Q (F0 m 779 ls []) := by
  obtain ⟨hx, hb, hr, hml, hown, hts, hX, hbl, hlocks, hgv⟩ := hC0.1
  have hbA : ¬ (fun q : Nat => s.heap.size ≤ q) b := Nat.not_le.mpr hbl
  have hcs0 : cells ≤ 601024 ∧ slots ≤ 7293034 := ⟨by omega, by omega⟩
  obtain ⟨W9, H9, mp, dn, ln, rw9, hRX⟩ := hR
  have hv1 : vp_in (nI (7 * k) + 1) L := l_vin (t := 1) (by omega) hk hL
  have hv2 : vp_in (nI (7 * k) + 2) L := l_vin (t := 2) (by omega) hk hL
  obtain ⟨v, PX, PM, hEx, hEm, hRe⟩ := p_area hRX (xs (nI (7 * k) + 1).toNatClampNeg) (xs (nI (7 * k) + 2).toNatClampNeg)
  refine lv_aload_n hx hb dL_law_779 rfl (lv_at hl 1 rfl) ?_
  refine lv_aload_n hx hb dL_law_780 rfl (lv_at hl 0 rfl) ?_
  refine lv_iload hx hb dL_law_781 (lv_at hl 4 rfl) ?_
  refine lv_iconst (v := 1) hx hb dL_law_783 (by decide) ?_
  refine lv_iadd hx hb dL_law_784 ?_
  refine va_sld hx hb hX hbl hbA hI.2.2.2 hv1 dL_law_785 ?_
  refine lv_aload_n hx hb dL_law_786 rfl (lv_at hl 0 rfl) ?_
  refine lv_iload hx hb dL_law_787 (lv_at hl 4 rfl) ?_
  refine lv_iconst (v := 2) hx hb dL_law_789 (by decide) ?_
  refine lv_iadd hx hb dL_law_790 ?_
  refine va_sld hx hb hX hbl hbA hI.2.2.2 hv2 dL_law_791 ?_
  refine lx_call hC0 hI 70 rfl (As := [mI (xs (nI (7 * k) + 1).toNatClampNeg), mI (xs (nI (7 * k) + 2).toNatClampNeg)]) hEx (by decide) (by decide) (show 3 ≤ mml 70 from by decide) (vok_ints [(xs (nI (7 * k) + 1).toNatClampNeg), (xs (nI (7 * k) + 2).toNatClampNeg)]) 82 2 (by decide +kernel) rfl (by decide +kernel) (by decide) hcs0 (rest := []) hl.1 (show 0 ≤ 8 from by decide) dL_law_792 (fun r σ1 H1 locs1 hp hI1 => ?_)
  obtain ⟨rfl, hpx⟩ := hp
  refine lv_aload_n hx hb dL_law_795 rfl (lv_at hl 2 rfl) ?_
  refine lv_aload_n hx hb dL_law_796 rfl (lv_at hl 0 rfl) ?_
  refine lv_iload hx hb dL_law_797 (lv_at hl 4 rfl) ?_
  refine lv_iconst (v := 1) hx hb dL_law_799 (by decide) ?_
  refine lv_iadd hx hb dL_law_800 ?_
  refine va_sld hx hb hX hbl hbA hI1.2.2.2 hv1 dL_law_801 ?_
  refine lv_aload_n hx hb dL_law_802 rfl (lv_at hl 0 rfl) ?_
  refine lv_iload hx hb dL_law_803 (lv_at hl 4 rfl) ?_
  refine lv_iconst (v := 2) hx hb dL_law_805 (by decide) ?_
  refine lv_iadd hx hb dL_law_806 ?_
  refine va_sld hx hb hX hbl hbA hI1.2.2.2 hv2 dL_law_807 ?_
  refine lm_call hC0 hI1 131 rfl (As := [mI (xs (nI (7 * k) + 1).toNatClampNeg), mI (xs (nI (7 * k) + 2).toNatClampNeg)]) hEm (by decide) (by decide) (show 3 ≤ mml 131 from by decide) (vok_ints [(xs (nI (7 * k) + 1).toNatClampNeg), (xs (nI (7 * k) + 2).toNatClampNeg)]) 85 2 (by decide +kernel) rfl (by decide +kernel) (by decide) hcs0 (rest := [.int v]) hl.1 (show 1 ≤ 8 from by decide) dL_law_808 (fun r τ1 H2 locs2 hp hI2 => ?_)
  obtain ⟨rfl, hpm⟩ := hp
  refine lv_icmp_eq (tgt := 1187) hx hb dL_law_811 (by decide) (fun _ => ?_) (fun q => absurd rfl q)
  exact W.widen (Nat.le_add_right _ _) (Nat.le_add_right _ _) (ht σ1 τ1 fo H2 locs2 ls (hRe _ _ hpx hpm) hI2 hl)
set_option maxHeartbeats 4000000 in
set_option maxRecDepth 100000 in
theorem cs_14 (hC0 : LC p s m meth c b L xs dC dI ax am cI cZ cL cJ qo) (hL : L ≤ 3584) {k : Nat} (hk : 7 * k + 7 ≤ L) {σ τ : mS} {fo : Nat → Int64} {H : Heap} {locs : List Loc} (hR : RXe σ τ) (hI : LI s dC dI ax am cI cZ cL cJ qo σ τ fo H locs) {cells slots : Nat} (hcs : cells + 1 ≤ 601024 ∧ slots + 6 ≤ 7293034) {ls : Array Slot} (hl : lv_has ls 7 (lw5 b ax am qo (nI (7 * k))))
    (ht : ∀ (σ' τ' : mS) (fo' : Nat → Int64) (H1 : Heap) (locs1 : List Loc) (ls' : Array Slot), RXe σ' τ' → LI s dC dI ax am cI cZ cL cJ qo σ' τ' fo' H1 locs1 → lv_has ls' 7 (lw5 b ax am qo (nI (7 * k))) → W p l e room_1 s m #[Value.ref b] below meth c H1 locs1 (cells + 1) (slots + 6) Q (F0 m 1187 ls' [])) :
    W p l e room_1 s m #[Value.ref b] below meth c H locs cells slots Q (F0 m 816 ls []) := by
  obtain ⟨hx, hb, hr, hml, hown, hts, hX, hbl, hlocks, hgv⟩ := hC0.1
  have hbA : ¬ (fun q : Nat => s.heap.size ≤ q) b := Nat.not_le.mpr hbl
  have hcs0 : cells ≤ 601024 ∧ slots ≤ 7293034 := ⟨by omega, by omega⟩
  obtain ⟨W9, H9, mp, dn, ln, rw9, hRX⟩ := hR
  have hv1 : vp_in (nI (7 * k) + 1) L := l_vin (t := 1) (by omega) hk hL
  have hv2 : vp_in (nI (7 * k) + 2) L := l_vin (t := 2) (by omega) hk hL
  obtain ⟨v, PX, PM, hEx, hEm, hRe⟩ := p_front hRX (xs (nI (7 * k) + 1).toNatClampNeg) (xs (nI (7 * k) + 2).toNatClampNeg)
  refine lv_aload_n hx hb dL_law_816 rfl (lv_at hl 1 rfl) ?_
  refine lv_aload_n hx hb dL_law_817 rfl (lv_at hl 0 rfl) ?_
  refine lv_iload hx hb dL_law_818 (lv_at hl 4 rfl) ?_
  refine lv_iconst (v := 1) hx hb dL_law_820 (by decide) ?_
  refine lv_iadd hx hb dL_law_821 ?_
  refine va_sld hx hb hX hbl hbA hI.2.2.2 hv1 dL_law_822 ?_
  refine lv_aload_n hx hb dL_law_823 rfl (lv_at hl 0 rfl) ?_
  refine lv_iload hx hb dL_law_824 (lv_at hl 4 rfl) ?_
  refine lv_iconst (v := 2) hx hb dL_law_826 (by decide) ?_
  refine lv_iadd hx hb dL_law_827 ?_
  refine va_sld hx hb hX hbl hbA hI.2.2.2 hv2 dL_law_828 ?_
  refine lx_call hC0 hI 71 rfl (As := [mI (xs (nI (7 * k) + 1).toNatClampNeg), mI (xs (nI (7 * k) + 2).toNatClampNeg)]) hEx (by decide) (by decide) (show 3 ≤ mml 71 from by decide) (vok_ints [(xs (nI (7 * k) + 1).toNatClampNeg), (xs (nI (7 * k) + 2).toNatClampNeg)]) 86 2 (by decide +kernel) rfl (by decide +kernel) (by decide) hcs0 (rest := []) hl.1 (show 0 ≤ 8 from by decide) dL_law_829 (fun r σ1 H1 locs1 hp hI1 => ?_)
  obtain ⟨rfl, hpx⟩ := hp
  refine lv_aload_n hx hb dL_law_832 rfl (lv_at hl 2 rfl) ?_
  refine lv_aload_n hx hb dL_law_833 rfl (lv_at hl 0 rfl) ?_
  refine lv_iload hx hb dL_law_834 (lv_at hl 4 rfl) ?_
  refine lv_iconst (v := 1) hx hb dL_law_836 (by decide) ?_
  refine lv_iadd hx hb dL_law_837 ?_
  refine va_sld hx hb hX hbl hbA hI1.2.2.2 hv1 dL_law_838 ?_
  refine lv_aload_n hx hb dL_law_839 rfl (lv_at hl 0 rfl) ?_
  refine lv_iload hx hb dL_law_840 (lv_at hl 4 rfl) ?_
  refine lv_iconst (v := 2) hx hb dL_law_842 (by decide) ?_
  refine lv_iadd hx hb dL_law_843 ?_
  refine va_sld hx hb hX hbl hbA hI1.2.2.2 hv2 dL_law_844 ?_
  refine lm_call hC0 hI1 133 rfl (As := [mI (xs (nI (7 * k) + 1).toNatClampNeg), mI (xs (nI (7 * k) + 2).toNatClampNeg)]) hEm (by decide) (by decide) (show 3 ≤ mml 133 from by decide) (vok_ints [(xs (nI (7 * k) + 1).toNatClampNeg), (xs (nI (7 * k) + 2).toNatClampNeg)]) 89 2 (by decide +kernel) rfl (by decide +kernel) (by decide) hcs0 (rest := [.int v]) hl.1 (show 1 ≤ 8 from by decide) dL_law_845 (fun r τ1 H2 locs2 hp hI2 => ?_)
  obtain ⟨rfl, hpm⟩ := hp
  refine lv_icmp_eq (tgt := 1187) hx hb dL_law_848 (by decide) (fun _ => ?_) (fun q => absurd rfl q)
  exact W.widen (Nat.le_add_right _ _) (Nat.le_add_right _ _) (ht σ1 τ1 fo H2 locs2 ls (hRe _ _ hpx hpm) hI2 hl)
set_option maxHeartbeats 4000000 in
set_option maxRecDepth 100000 in
theorem cs_15 (hC0 : LC p s m meth c b L xs dC dI ax am cI cZ cL cJ qo) (hL : L ≤ 3584) {k : Nat} (hk : 7 * k + 7 ≤ L) {σ τ : mS} {fo : Nat → Int64} {H : Heap} {locs : List Loc} (hR : RXe σ τ) (hI : LI s dC dI ax am cI cZ cL cJ qo σ τ fo H locs) {cells slots : Nat} (hcs : cells + 1 ≤ 601024 ∧ slots + 6 ≤ 7293034) {ls : Array Slot} (hl : lv_has ls 7 (lw5 b ax am qo (nI (7 * k))))
    (ht : ∀ (σ' τ' : mS) (fo' : Nat → Int64) (H1 : Heap) (locs1 : List Loc) (ls' : Array Slot), RXe σ' τ' → LI s dC dI ax am cI cZ cL cJ qo σ' τ' fo' H1 locs1 → lv_has ls' 7 (lw5 b ax am qo (nI (7 * k))) → W p l e room_1 s m #[Value.ref b] below meth c H1 locs1 (cells + 1) (slots + 6) Q (F0 m 1187 ls' [])) :
    W p l e room_1 s m #[Value.ref b] below meth c H locs cells slots Q (F0 m 853 ls []) := by
  obtain ⟨hx, hb, hr, hml, hown, hts, hX, hbl, hlocks, hgv⟩ := hC0.1
  have hbA : ¬ (fun q : Nat => s.heap.size ≤ q) b := Nat.not_le.mpr hbl
  have hcs0 : cells ≤ 601024 ∧ slots ≤ 7293034 := ⟨by omega, by omega⟩
  obtain ⟨W9, H9, mp, dn, ln, rw9, hRX⟩ := hR
  have hv1 : vp_in (nI (7 * k) + 1) L := l_vin (t := 1) (by omega) hk hL
  have hv2 : vp_in (nI (7 * k) + 2) L := l_vin (t := 2) (by omega) hk hL
  have hv3 : vp_in (nI (7 * k) + 3) L := l_vin (t := 3) (by omega) hk hL
  obtain ⟨v, PX, PM, hEx, hEm, hRe⟩ := p_tax hRX (xs (nI (7 * k) + 1).toNatClampNeg) (xs (nI (7 * k) + 2).toNatClampNeg) (xs (nI (7 * k) + 3).toNatClampNeg)
  refine lv_aload_n hx hb dL_law_853 rfl (lv_at hl 1 rfl) ?_
  refine lv_aload_n hx hb dL_law_854 rfl (lv_at hl 0 rfl) ?_
  refine lv_iload hx hb dL_law_855 (lv_at hl 4 rfl) ?_
  refine lv_iconst (v := 1) hx hb dL_law_857 (by decide) ?_
  refine lv_iadd hx hb dL_law_858 ?_
  refine va_sld hx hb hX hbl hbA hI.2.2.2 hv1 dL_law_859 ?_
  refine lv_aload_n hx hb dL_law_860 rfl (lv_at hl 0 rfl) ?_
  refine lv_iload hx hb dL_law_861 (lv_at hl 4 rfl) ?_
  refine lv_iconst (v := 2) hx hb dL_law_863 (by decide) ?_
  refine lv_iadd hx hb dL_law_864 ?_
  refine va_sld hx hb hX hbl hbA hI.2.2.2 hv2 dL_law_865 ?_
  refine lv_aload_n hx hb dL_law_866 rfl (lv_at hl 0 rfl) ?_
  refine lv_iload hx hb dL_law_867 (lv_at hl 4 rfl) ?_
  refine lv_iconst (v := 3) hx hb dL_law_869 (by decide) ?_
  refine lv_iadd hx hb dL_law_870 ?_
  refine va_sld hx hb hX hbl hbA hI.2.2.2 hv3 dL_law_871 ?_
  refine lx_call hC0 hI 72 rfl (As := [mI (xs (nI (7 * k) + 1).toNatClampNeg), mI (xs (nI (7 * k) + 2).toNatClampNeg), mI (xs (nI (7 * k) + 3).toNatClampNeg)]) hEx (by decide) (by decide) (show 4 ≤ mml 72 from by decide) (vok_ints [(xs (nI (7 * k) + 1).toNatClampNeg), (xs (nI (7 * k) + 2).toNatClampNeg), (xs (nI (7 * k) + 3).toNatClampNeg)]) 90 3 (by decide +kernel) rfl (by decide +kernel) (by decide) hcs0 (rest := []) hl.1 (show 0 ≤ 8 from by decide) dL_law_872 (fun r σ1 H1 locs1 hp hI1 => ?_)
  obtain ⟨rfl, hpx⟩ := hp
  refine lv_aload_n hx hb dL_law_875 rfl (lv_at hl 2 rfl) ?_
  refine lv_aload_n hx hb dL_law_876 rfl (lv_at hl 0 rfl) ?_
  refine lv_iload hx hb dL_law_877 (lv_at hl 4 rfl) ?_
  refine lv_iconst (v := 1) hx hb dL_law_879 (by decide) ?_
  refine lv_iadd hx hb dL_law_880 ?_
  refine va_sld hx hb hX hbl hbA hI1.2.2.2 hv1 dL_law_881 ?_
  refine lv_aload_n hx hb dL_law_882 rfl (lv_at hl 0 rfl) ?_
  refine lv_iload hx hb dL_law_883 (lv_at hl 4 rfl) ?_
  refine lv_iconst (v := 2) hx hb dL_law_885 (by decide) ?_
  refine lv_iadd hx hb dL_law_886 ?_
  refine va_sld hx hb hX hbl hbA hI1.2.2.2 hv2 dL_law_887 ?_
  refine lv_aload_n hx hb dL_law_888 rfl (lv_at hl 0 rfl) ?_
  refine lv_iload hx hb dL_law_889 (lv_at hl 4 rfl) ?_
  refine lv_iconst (v := 3) hx hb dL_law_891 (by decide) ?_
  refine lv_iadd hx hb dL_law_892 ?_
  refine va_sld hx hb hX hbl hbA hI1.2.2.2 hv3 dL_law_893 ?_
  refine lm_call hC0 hI1 134 rfl (As := [mI (xs (nI (7 * k) + 1).toNatClampNeg), mI (xs (nI (7 * k) + 2).toNatClampNeg), mI (xs (nI (7 * k) + 3).toNatClampNeg)]) hEm (by decide) (by decide) (show 4 ≤ mml 134 from by decide) (vok_ints [(xs (nI (7 * k) + 1).toNatClampNeg), (xs (nI (7 * k) + 2).toNatClampNeg), (xs (nI (7 * k) + 3).toNatClampNeg)]) 93 3 (by decide +kernel) rfl (by decide +kernel) (by decide) hcs0 (rest := [.int v]) hl.1 (show 1 ≤ 8 from by decide) dL_law_894 (fun r τ1 H2 locs2 hp hI2 => ?_)
  obtain ⟨rfl, hpm⟩ := hp
  refine lv_icmp_eq (tgt := 1187) hx hb dL_law_897 (by decide) (fun _ => ?_) (fun q => absurd rfl q)
  exact W.widen (Nat.le_add_right _ _) (Nat.le_add_right _ _) (ht σ1 τ1 fo H2 locs2 ls (hRe _ _ hpx hpm) hI2 hl)
set_option maxHeartbeats 4000000 in
set_option maxRecDepth 100000 in
theorem cs_16 (hC0 : LC p s m meth c b L xs dC dI ax am cI cZ cL cJ qo) (hL : L ≤ 3584) {k : Nat} (hk : 7 * k + 7 ≤ L) {σ τ : mS} {fo : Nat → Int64} {H : Heap} {locs : List Loc} (hR : RXe σ τ) (hI : LI s dC dI ax am cI cZ cL cJ qo σ τ fo H locs) {cells slots : Nat} (hcs : cells + 1 ≤ 601024 ∧ slots + 6 ≤ 7293034) {ls : Array Slot} (hl : lv_has ls 7 (lw5 b ax am qo (nI (7 * k))))
    (ht : ∀ (σ' τ' : mS) (fo' : Nat → Int64) (H1 : Heap) (locs1 : List Loc) (ls' : Array Slot), RXe σ' τ' → LI s dC dI ax am cI cZ cL cJ qo σ' τ' fo' H1 locs1 → lv_has ls' 7 (lw5 b ax am qo (nI (7 * k))) → W p l e room_1 s m #[Value.ref b] below meth c H1 locs1 (cells + 1) (slots + 6) Q (F0 m 1187 ls' [])) :
    W p l e room_1 s m #[Value.ref b] below meth c H locs cells slots Q (F0 m 902 ls []) := by
  obtain ⟨hx, hb, hr, hml, hown, hts, hX, hbl, hlocks, hgv⟩ := hC0.1
  have hbA : ¬ (fun q : Nat => s.heap.size ≤ q) b := Nat.not_le.mpr hbl
  have hcs0 : cells ≤ 601024 ∧ slots ≤ 7293034 := ⟨by omega, by omega⟩
  obtain ⟨W9, H9, mp, dn, ln, rw9, hRX⟩ := hR
  have hv1 : vp_in (nI (7 * k) + 1) L := l_vin (t := 1) (by omega) hk hL
  have hv2 : vp_in (nI (7 * k) + 2) L := l_vin (t := 2) (by omega) hk hL
  obtain ⟨v, PX, PM, hEx, hEm, hRe⟩ := p_chain hRX (xs (nI (7 * k) + 1).toNatClampNeg) (xs (nI (7 * k) + 2).toNatClampNeg)
  refine lv_aload_n hx hb dL_law_902 rfl (lv_at hl 1 rfl) ?_
  refine lv_aload_n hx hb dL_law_903 rfl (lv_at hl 0 rfl) ?_
  refine lv_iload hx hb dL_law_904 (lv_at hl 4 rfl) ?_
  refine lv_iconst (v := 1) hx hb dL_law_906 (by decide) ?_
  refine lv_iadd hx hb dL_law_907 ?_
  refine va_sld hx hb hX hbl hbA hI.2.2.2 hv1 dL_law_908 ?_
  refine lv_aload_n hx hb dL_law_909 rfl (lv_at hl 0 rfl) ?_
  refine lv_iload hx hb dL_law_910 (lv_at hl 4 rfl) ?_
  refine lv_iconst (v := 2) hx hb dL_law_912 (by decide) ?_
  refine lv_iadd hx hb dL_law_913 ?_
  refine va_sld hx hb hX hbl hbA hI.2.2.2 hv2 dL_law_914 ?_
  refine lx_call hC0 hI 73 rfl (As := [mI (xs (nI (7 * k) + 1).toNatClampNeg), mI (xs (nI (7 * k) + 2).toNatClampNeg)]) hEx (by decide) (by decide) (show 3 ≤ mml 73 from by decide) (vok_ints [(xs (nI (7 * k) + 1).toNatClampNeg), (xs (nI (7 * k) + 2).toNatClampNeg)]) 94 2 (by decide +kernel) rfl (by decide +kernel) (by decide) hcs0 (rest := []) hl.1 (show 0 ≤ 8 from by decide) dL_law_915 (fun r σ1 H1 locs1 hp hI1 => ?_)
  obtain ⟨rfl, hpx⟩ := hp
  refine lv_aload_n hx hb dL_law_918 rfl (lv_at hl 2 rfl) ?_
  refine lv_aload_n hx hb dL_law_919 rfl (lv_at hl 0 rfl) ?_
  refine lv_iload hx hb dL_law_920 (lv_at hl 4 rfl) ?_
  refine lv_iconst (v := 1) hx hb dL_law_922 (by decide) ?_
  refine lv_iadd hx hb dL_law_923 ?_
  refine va_sld hx hb hX hbl hbA hI1.2.2.2 hv1 dL_law_924 ?_
  refine lv_aload_n hx hb dL_law_925 rfl (lv_at hl 0 rfl) ?_
  refine lv_iload hx hb dL_law_926 (lv_at hl 4 rfl) ?_
  refine lv_iconst (v := 2) hx hb dL_law_928 (by decide) ?_
  refine lv_iadd hx hb dL_law_929 ?_
  refine va_sld hx hb hX hbl hbA hI1.2.2.2 hv2 dL_law_930 ?_
  refine lm_call hC0 hI1 135 rfl (As := [mI (xs (nI (7 * k) + 1).toNatClampNeg), mI (xs (nI (7 * k) + 2).toNatClampNeg)]) hEm (by decide) (by decide) (show 3 ≤ mml 135 from by decide) (vok_ints [(xs (nI (7 * k) + 1).toNatClampNeg), (xs (nI (7 * k) + 2).toNatClampNeg)]) 97 2 (by decide +kernel) rfl (by decide +kernel) (by decide) hcs0 (rest := [.int v]) hl.1 (show 1 ≤ 8 from by decide) dL_law_931 (fun r τ1 H2 locs2 hp hI2 => ?_)
  obtain ⟨rfl, hpm⟩ := hp
  refine lv_icmp_eq (tgt := 1187) hx hb dL_law_934 (by decide) (fun _ => ?_) (fun q => absurd rfl q)
  exact W.widen (Nat.le_add_right _ _) (Nat.le_add_right _ _) (ht σ1 τ1 fo H2 locs2 ls (hRe _ _ hpx hpm) hI2 hl)
set_option maxHeartbeats 4000000 in
set_option maxRecDepth 100000 in
theorem cs_17 (hC0 : LC p s m meth c b L xs dC dI ax am cI cZ cL cJ qo) (hL : L ≤ 3584) {k : Nat} (hk : 7 * k + 7 ≤ L) {σ τ : mS} {fo : Nat → Int64} {H : Heap} {locs : List Loc} (hR : RXe σ τ) (hI : LI s dC dI ax am cI cZ cL cJ qo σ τ fo H locs) {cells slots : Nat} (hcs : cells + 1 ≤ 601024 ∧ slots + 6 ≤ 7293034) {ls : Array Slot} (hl : lv_has ls 7 (lw5 b ax am qo (nI (7 * k))))
    (ht : ∀ (σ' τ' : mS) (fo' : Nat → Int64) (H1 : Heap) (locs1 : List Loc) (ls' : Array Slot), RXe σ' τ' → LI s dC dI ax am cI cZ cL cJ qo σ' τ' fo' H1 locs1 → lv_has ls' 7 (lw5 b ax am qo (nI (7 * k))) → W p l e room_1 s m #[Value.ref b] below meth c H1 locs1 (cells + 1) (slots + 6) Q (F0 m 1187 ls' [])) :
    W p l e room_1 s m #[Value.ref b] below meth c H locs cells slots Q (F0 m 939 ls []) := by
  obtain ⟨hx, hb, hr, hml, hown, hts, hX, hbl, hlocks, hgv⟩ := hC0.1
  have hbA : ¬ (fun q : Nat => s.heap.size ≤ q) b := Nat.not_le.mpr hbl
  have hcs0 : cells ≤ 601024 ∧ slots ≤ 7293034 := ⟨by omega, by omega⟩
  obtain ⟨W9, H9, mp, dn, ln, rw9, hRX⟩ := hR
  have hv1 : vp_in (nI (7 * k) + 1) L := l_vin (t := 1) (by omega) hk hL
  obtain ⟨v, PX, PM, hEx, hEm, hRe⟩ := p_banks hRX (xs (nI (7 * k) + 1).toNatClampNeg)
  refine lv_aload_n hx hb dL_law_939 rfl (lv_at hl 1 rfl) ?_
  refine lv_aload_n hx hb dL_law_940 rfl (lv_at hl 0 rfl) ?_
  refine lv_iload hx hb dL_law_941 (lv_at hl 4 rfl) ?_
  refine lv_iconst (v := 1) hx hb dL_law_943 (by decide) ?_
  refine lv_iadd hx hb dL_law_944 ?_
  refine va_sld hx hb hX hbl hbA hI.2.2.2 hv1 dL_law_945 ?_
  refine lx_call hC0 hI 74 rfl (As := [mI (xs (nI (7 * k) + 1).toNatClampNeg)]) hEx (by decide) (by decide) (show 2 ≤ mml 74 from by decide) (vok_ints [(xs (nI (7 * k) + 1).toNatClampNeg)]) 98 1 (by decide +kernel) rfl (by decide +kernel) (by decide) hcs0 (rest := []) hl.1 (show 0 ≤ 8 from by decide) dL_law_946 (fun r σ1 H1 locs1 hp hI1 => ?_)
  obtain ⟨rfl, hpx⟩ := hp
  refine lv_aload_n hx hb dL_law_949 rfl (lv_at hl 2 rfl) ?_
  refine lv_aload_n hx hb dL_law_950 rfl (lv_at hl 0 rfl) ?_
  refine lv_iload hx hb dL_law_951 (lv_at hl 4 rfl) ?_
  refine lv_iconst (v := 1) hx hb dL_law_953 (by decide) ?_
  refine lv_iadd hx hb dL_law_954 ?_
  refine va_sld hx hb hX hbl hbA hI1.2.2.2 hv1 dL_law_955 ?_
  refine lm_call hC0 hI1 136 rfl (As := [mI (xs (nI (7 * k) + 1).toNatClampNeg)]) hEm (by decide) (by decide) (show 2 ≤ mml 136 from by decide) (vok_ints [(xs (nI (7 * k) + 1).toNatClampNeg)]) 101 1 (by decide +kernel) rfl (by decide +kernel) (by decide) hcs0 (rest := [.int v]) hl.1 (show 1 ≤ 8 from by decide) dL_law_956 (fun r τ1 H2 locs2 hp hI2 => ?_)
  obtain ⟨rfl, hpm⟩ := hp
  refine lv_icmp_eq (tgt := 1187) hx hb dL_law_959 (by decide) (fun _ => ?_) (fun q => absurd rfl q)
  exact W.widen (Nat.le_add_right _ _) (Nat.le_add_right _ _) (ht σ1 τ1 fo H2 locs2 ls (hRe _ _ hpx hpm) hI2 hl)
set_option maxHeartbeats 4000000 in
set_option maxRecDepth 100000 in
theorem cs_18 (hC0 : LC p s m meth c b L xs dC dI ax am cI cZ cL cJ qo) (hL : L ≤ 3584) {k : Nat} (hk : 7 * k + 7 ≤ L) {σ τ : mS} {fo : Nat → Int64} {H : Heap} {locs : List Loc} (hR : RXe σ τ) (hI : LI s dC dI ax am cI cZ cL cJ qo σ τ fo H locs) {cells slots : Nat} (hcs : cells + 1 ≤ 601024 ∧ slots + 6 ≤ 7293034) {ls : Array Slot} (hl : lv_has ls 7 (lw5 b ax am qo (nI (7 * k))))
    (ht : ∀ (σ' τ' : mS) (fo' : Nat → Int64) (H1 : Heap) (locs1 : List Loc) (ls' : Array Slot), RXe σ' τ' → LI s dC dI ax am cI cZ cL cJ qo σ' τ' fo' H1 locs1 → lv_has ls' 7 (lw5 b ax am qo (nI (7 * k))) → W p l e room_1 s m #[Value.ref b] below meth c H1 locs1 (cells + 1) (slots + 6) Q (F0 m 1187 ls' [])) :
    W p l e room_1 s m #[Value.ref b] below meth c H locs cells slots Q (F0 m 964 ls []) := by
  obtain ⟨hx, hb, hr, hml, hown, hts, hX, hbl, hlocks, hgv⟩ := hC0.1
  have hbA : ¬ (fun q : Nat => s.heap.size ≤ q) b := Nat.not_le.mpr hbl
  have hcs0 : cells ≤ 601024 ∧ slots ≤ 7293034 := ⟨by omega, by omega⟩
  obtain ⟨W9, H9, mp, dn, ln, rw9, hRX⟩ := hR
  have hv1 : vp_in (nI (7 * k) + 1) L := l_vin (t := 1) (by omega) hk hL
  have hv2 : vp_in (nI (7 * k) + 2) L := l_vin (t := 2) (by omega) hk hL
  obtain ⟨v, PX, PM, hEx, hEm, hRe⟩ := p_step hRX (xs (nI (7 * k) + 1).toNatClampNeg) (xs (nI (7 * k) + 2).toNatClampNeg)
  refine lv_aload_n hx hb dL_law_964 rfl (lv_at hl 1 rfl) ?_
  refine lv_aload_n hx hb dL_law_965 rfl (lv_at hl 0 rfl) ?_
  refine lv_iload hx hb dL_law_966 (lv_at hl 4 rfl) ?_
  refine lv_iconst (v := 1) hx hb dL_law_968 (by decide) ?_
  refine lv_iadd hx hb dL_law_969 ?_
  refine va_sld hx hb hX hbl hbA hI.2.2.2 hv1 dL_law_970 ?_
  refine lv_aload_n hx hb dL_law_971 rfl (lv_at hl 0 rfl) ?_
  refine lv_iload hx hb dL_law_972 (lv_at hl 4 rfl) ?_
  refine lv_iconst (v := 2) hx hb dL_law_974 (by decide) ?_
  refine lv_iadd hx hb dL_law_975 ?_
  refine va_sld hx hb hX hbl hbA hI.2.2.2 hv2 dL_law_976 ?_
  refine lx_call hC0 hI 75 rfl (As := [mI (xs (nI (7 * k) + 1).toNatClampNeg), mI (xs (nI (7 * k) + 2).toNatClampNeg)]) hEx (by decide) (by decide) (show 3 ≤ mml 75 from by decide) (vok_ints [(xs (nI (7 * k) + 1).toNatClampNeg), (xs (nI (7 * k) + 2).toNatClampNeg)]) 102 2 (by decide +kernel) rfl (by decide +kernel) (by decide) hcs0 (rest := []) hl.1 (show 0 ≤ 8 from by decide) dL_law_977 (fun r σ1 H1 locs1 hp hI1 => ?_)
  obtain ⟨rfl, hpx⟩ := hp
  refine lv_aload_n hx hb dL_law_980 rfl (lv_at hl 2 rfl) ?_
  refine lv_aload_n hx hb dL_law_981 rfl (lv_at hl 0 rfl) ?_
  refine lv_iload hx hb dL_law_982 (lv_at hl 4 rfl) ?_
  refine lv_iconst (v := 1) hx hb dL_law_984 (by decide) ?_
  refine lv_iadd hx hb dL_law_985 ?_
  refine va_sld hx hb hX hbl hbA hI1.2.2.2 hv1 dL_law_986 ?_
  refine lv_aload_n hx hb dL_law_987 rfl (lv_at hl 0 rfl) ?_
  refine lv_iload hx hb dL_law_988 (lv_at hl 4 rfl) ?_
  refine lv_iconst (v := 2) hx hb dL_law_990 (by decide) ?_
  refine lv_iadd hx hb dL_law_991 ?_
  refine va_sld hx hb hX hbl hbA hI1.2.2.2 hv2 dL_law_992 ?_
  refine lm_call hC0 hI1 139 rfl (As := [mI (xs (nI (7 * k) + 1).toNatClampNeg), mI (xs (nI (7 * k) + 2).toNatClampNeg)]) hEm (by decide) (by decide) (show 3 ≤ mml 139 from by decide) (vok_ints [(xs (nI (7 * k) + 1).toNatClampNeg), (xs (nI (7 * k) + 2).toNatClampNeg)]) 105 2 (by decide +kernel) rfl (by decide +kernel) (by decide) hcs0 (rest := [.int v]) hl.1 (show 1 ≤ 8 from by decide) dL_law_993 (fun r τ1 H2 locs2 hp hI2 => ?_)
  obtain ⟨rfl, hpm⟩ := hp
  refine lv_icmp_eq (tgt := 1187) hx hb dL_law_996 (by decide) (fun _ => ?_) (fun q => absurd rfl q)
  exact W.widen (Nat.le_add_right _ _) (Nat.le_add_right _ _) (ht σ1 τ1 fo H2 locs2 ls (hRe _ _ hpx hpm) hI2 hl)
set_option maxHeartbeats 4000000 in
set_option maxRecDepth 100000 in
theorem cs_20 (hC0 : LC p s m meth c b L xs dC dI ax am cI cZ cL cJ qo) (hL : L ≤ 3584) {k : Nat} (hk : 7 * k + 7 ≤ L) {σ τ : mS} {fo : Nat → Int64} {H : Heap} {locs : List Loc} (hR : RXe σ τ) (hI : LI s dC dI ax am cI cZ cL cJ qo σ τ fo H locs) {cells slots : Nat} (hcs : cells + 1 ≤ 601024 ∧ slots + 6 ≤ 7293034) {ls : Array Slot} (hl : lv_has ls 7 (lw5 b ax am qo (nI (7 * k))))
    (ht : ∀ (σ' τ' : mS) (fo' : Nat → Int64) (H1 : Heap) (locs1 : List Loc) (ls' : Array Slot), RXe σ' τ' → LI s dC dI ax am cI cZ cL cJ qo σ' τ' fo' H1 locs1 → lv_has ls' 7 (lw5 b ax am qo (nI (7 * k))) → W p l e room_1 s m #[Value.ref b] below meth c H1 locs1 (cells + 1) (slots + 6) Q (F0 m 1187 ls' [])) :
    W p l e room_1 s m #[Value.ref b] below meth c H locs cells slots Q (F0 m 1069 ls []) := by
  obtain ⟨hx, hb, hr, hml, hown, hts, hX, hbl, hlocks, hgv⟩ := hC0.1
  have hbA : ¬ (fun q : Nat => s.heap.size ≤ q) b := Nat.not_le.mpr hbl
  have hcs0 : cells ≤ 601024 ∧ slots ≤ 7293034 := ⟨by omega, by omega⟩
  obtain ⟨W9, H9, mp, dn, ln, rw9, hRX⟩ := hR
  have hv1 : vp_in (nI (7 * k) + 1) L := l_vin (t := 1) (by omega) hk hL
  have hv2 : vp_in (nI (7 * k) + 2) L := l_vin (t := 2) (by omega) hk hL
  obtain ⟨v, PX, PM, hEx, hEm, hRe⟩ := p_doubt hRX (xs (nI (7 * k) + 1).toNatClampNeg) (xs (nI (7 * k) + 2).toNatClampNeg)
  refine lv_aload_n hx hb dL_law_1069 rfl (lv_at hl 1 rfl) ?_
  refine lv_aload_n hx hb dL_law_1070 rfl (lv_at hl 0 rfl) ?_
  refine lv_iload hx hb dL_law_1071 (lv_at hl 4 rfl) ?_
  refine lv_iconst (v := 1) hx hb dL_law_1073 (by decide) ?_
  refine lv_iadd hx hb dL_law_1074 ?_
  refine va_sld hx hb hX hbl hbA hI.2.2.2 hv1 dL_law_1075 ?_
  refine lv_aload_n hx hb dL_law_1076 rfl (lv_at hl 0 rfl) ?_
  refine lv_iload hx hb dL_law_1077 (lv_at hl 4 rfl) ?_
  refine lv_iconst (v := 2) hx hb dL_law_1079 (by decide) ?_
  refine lv_iadd hx hb dL_law_1080 ?_
  refine va_sld hx hb hX hbl hbA hI.2.2.2 hv2 dL_law_1081 ?_
  refine lx_call hC0 hI 77 rfl (As := [mI (xs (nI (7 * k) + 1).toNatClampNeg), mI (xs (nI (7 * k) + 2).toNatClampNeg)]) hEx (by decide) (by decide) (show 3 ≤ mml 77 from by decide) (vok_ints [(xs (nI (7 * k) + 1).toNatClampNeg), (xs (nI (7 * k) + 2).toNatClampNeg)]) 116 2 (by decide +kernel) rfl (by decide +kernel) (by decide) hcs0 (rest := []) hl.1 (show 0 ≤ 8 from by decide) dL_law_1082 (fun r σ1 H1 locs1 hp hI1 => ?_)
  obtain ⟨rfl, hpx⟩ := hp
  refine lv_aload_n hx hb dL_law_1085 rfl (lv_at hl 2 rfl) ?_
  refine lv_aload_n hx hb dL_law_1086 rfl (lv_at hl 0 rfl) ?_
  refine lv_iload hx hb dL_law_1087 (lv_at hl 4 rfl) ?_
  refine lv_iconst (v := 1) hx hb dL_law_1089 (by decide) ?_
  refine lv_iadd hx hb dL_law_1090 ?_
  refine va_sld hx hb hX hbl hbA hI1.2.2.2 hv1 dL_law_1091 ?_
  refine lv_aload_n hx hb dL_law_1092 rfl (lv_at hl 0 rfl) ?_
  refine lv_iload hx hb dL_law_1093 (lv_at hl 4 rfl) ?_
  refine lv_iconst (v := 2) hx hb dL_law_1095 (by decide) ?_
  refine lv_iadd hx hb dL_law_1096 ?_
  refine va_sld hx hb hX hbl hbA hI1.2.2.2 hv2 dL_law_1097 ?_
  refine lm_call hC0 hI1 142 rfl (As := [mI (xs (nI (7 * k) + 1).toNatClampNeg), mI (xs (nI (7 * k) + 2).toNatClampNeg)]) hEm (by decide) (by decide) (show 3 ≤ mml 142 from by decide) (vok_ints [(xs (nI (7 * k) + 1).toNatClampNeg), (xs (nI (7 * k) + 2).toNatClampNeg)]) 119 2 (by decide +kernel) rfl (by decide +kernel) (by decide) hcs0 (rest := [.int v]) hl.1 (show 1 ≤ 8 from by decide) dL_law_1098 (fun r τ1 H2 locs2 hp hI2 => ?_)
  obtain ⟨rfl, hpm⟩ := hp
  refine lv_icmp_eq (tgt := 1187) hx hb dL_law_1101 (by decide) (fun _ => ?_) (fun q => absurd rfl q)
  exact W.widen (Nat.le_add_right _ _) (Nat.le_add_right _ _) (ht σ1 τ1 fo H2 locs2 ls (hRe _ _ hpx hpm) hI2 hl)
set_option maxHeartbeats 4000000 in
set_option maxRecDepth 100000 in
theorem cs_21 (hC0 : LC p s m meth c b L xs dC dI ax am cI cZ cL cJ qo) (hL : L ≤ 3584) {k : Nat} (hk : 7 * k + 7 ≤ L) {σ τ : mS} {fo : Nat → Int64} {H : Heap} {locs : List Loc} (hR : RXe σ τ) (hI : LI s dC dI ax am cI cZ cL cJ qo σ τ fo H locs) {cells slots : Nat} (hcs : cells + 1 ≤ 601024 ∧ slots + 6 ≤ 7293034) {ls : Array Slot} (hl : lv_has ls 7 (lw5 b ax am qo (nI (7 * k))))
    (ht : ∀ (σ' τ' : mS) (fo' : Nat → Int64) (H1 : Heap) (locs1 : List Loc) (ls' : Array Slot), RXe σ' τ' → LI s dC dI ax am cI cZ cL cJ qo σ' τ' fo' H1 locs1 → lv_has ls' 7 (lw5 b ax am qo (nI (7 * k))) → W p l e room_1 s m #[Value.ref b] below meth c H1 locs1 (cells + 1) (slots + 6) Q (F0 m 1187 ls' [])) :
    W p l e room_1 s m #[Value.ref b] below meth c H locs cells slots Q (F0 m 1106 ls []) := by
  obtain ⟨hx, hb, hr, hml, hown, hts, hX, hbl, hlocks, hgv⟩ := hC0.1
  have hbA : ¬ (fun q : Nat => s.heap.size ≤ q) b := Nat.not_le.mpr hbl
  have hcs0 : cells ≤ 601024 ∧ slots ≤ 7293034 := ⟨by omega, by omega⟩
  obtain ⟨W9, H9, mp, dn, ln, rw9, hRX⟩ := hR
  have hv1 : vp_in (nI (7 * k) + 1) L := l_vin (t := 1) (by omega) hk hL
  obtain ⟨v, PX, PM, hEx, hEm, hRe⟩ := p_weak hRX (xs (nI (7 * k) + 1).toNatClampNeg)
  refine lv_aload_n hx hb dL_law_1106 rfl (lv_at hl 1 rfl) ?_
  refine lv_aload_n hx hb dL_law_1107 rfl (lv_at hl 0 rfl) ?_
  refine lv_iload hx hb dL_law_1108 (lv_at hl 4 rfl) ?_
  refine lv_iconst (v := 1) hx hb dL_law_1110 (by decide) ?_
  refine lv_iadd hx hb dL_law_1111 ?_
  refine va_sld hx hb hX hbl hbA hI.2.2.2 hv1 dL_law_1112 ?_
  refine lx_call hC0 hI 78 rfl (As := [mI (xs (nI (7 * k) + 1).toNatClampNeg)]) hEx (by decide) (by decide) (show 2 ≤ mml 78 from by decide) (vok_ints [(xs (nI (7 * k) + 1).toNatClampNeg)]) 120 1 (by decide +kernel) rfl (by decide +kernel) (by decide) hcs0 (rest := []) hl.1 (show 0 ≤ 8 from by decide) dL_law_1113 (fun r σ1 H1 locs1 hp hI1 => ?_)
  obtain ⟨rfl, hpx⟩ := hp
  refine lv_aload_n hx hb dL_law_1116 rfl (lv_at hl 2 rfl) ?_
  refine lv_aload_n hx hb dL_law_1117 rfl (lv_at hl 0 rfl) ?_
  refine lv_iload hx hb dL_law_1118 (lv_at hl 4 rfl) ?_
  refine lv_iconst (v := 1) hx hb dL_law_1120 (by decide) ?_
  refine lv_iadd hx hb dL_law_1121 ?_
  refine va_sld hx hb hX hbl hbA hI1.2.2.2 hv1 dL_law_1122 ?_
  refine lm_call hC0 hI1 143 rfl (As := [mI (xs (nI (7 * k) + 1).toNatClampNeg)]) hEm (by decide) (by decide) (show 2 ≤ mml 143 from by decide) (vok_ints [(xs (nI (7 * k) + 1).toNatClampNeg)]) 123 1 (by decide +kernel) rfl (by decide +kernel) (by decide) hcs0 (rest := [.int v]) hl.1 (show 1 ≤ 8 from by decide) dL_law_1123 (fun r τ1 H2 locs2 hp hI2 => ?_)
  obtain ⟨rfl, hpm⟩ := hp
  refine lv_icmp_eq (tgt := 1187) hx hb dL_law_1126 (by decide) (fun _ => ?_) (fun q => absurd rfl q)
  exact W.widen (Nat.le_add_right _ _) (Nat.le_add_right _ _) (ht σ1 τ1 fo H2 locs2 ls (hRe _ _ hpx hpm) hI2 hl)
end LCS
