/-! THE LAW'S CASES: moved, row -/
theorem lg_same (x : Int64) : lg_cmp x x = 0 := by simp [lg_cmp]
theorem good_sw {own : String} {idx : Nat} {y : MethodName} {bs : ByteArray} {n : Nat} {hh : List (Nat × Nat × Nat × Nat)} (h2 : ([.methodLink own idx y, .static y, .initialized y.cls, .codeWith y bs n (some .int) hh] : List Cond).all (fun w => decide (w ∈ lw_tbl) && goodWord w) = true) : GoodIn lw_tbl (va_wsS own idx y (Cond.codeWith y bs n (some .int) hh :: mw)) := by
  intro w hw
  have hm : w ∈ mw := by
    rcases List.mem_append.mp hw with q | q
    · exact mem_m (List.all_eq_true.mp h2 w (by simp only [List.mem_cons, List.not_mem_nil, or_false] at q ⊢; rcases q with q | q | q <;> simp [q]))
    · rcases List.mem_cons.mp q with q | q
      · exact mem_m (List.all_eq_true.mp h2 w (by simp [q]))
      · exact q
  exact ⟨mw_tbl hm, mw_good hm⟩
section LCT
variable {p : Program} {l : Launch} {e : Env} {s : State} {m : MethodId} {below : List Frame} {meth : Method} {c : Code} {b L : Nat} {xs : Nat → Int32} {Q : State → Prop}
variable {dC : Nat → ClassId} {dI ax am : Nat → Nat → Nat} {cI cZ cL cJ : ClassId} {qo : Nat}
theorem m_callL {pc cells slots mc ms : Nat} {ad : Nat → Nat → Nat} {ls : Array Slot} {st0 rest : List Value} {H H0 : Heap} {locs : List Loc} {A A1 : Nat → Prop} {a : Array Value} {free : Addr → Prop} {post : Option mV → mS → Prop} {R : Room} {args : Array Value}
    (hr : vx_Run p l e R s m args below meth c H locs cells slots mc ms (F0 m pc ls st0) rest (lmQ dC dI ad cI cZ cL cJ qo post A1 a) (fun _ _ _ => False) free) (hS : va_S A H0 H locs) (hA : ∀ q, q < H.size → A1 q → A q) (hf : ∀ q, free q → A q)
    (kk : ∀ (r : Int32) (σ' : mS) (fo' : Nat → Int64) (H1 : Heap) (locs1 : List Loc), ((r = 1 ∧ post (some mThr) σ') ∨ (r = 0 ∧ ∃ v : Int32, post (some (mI v)) σ' ∧ fo' 0 = v.toInt64)) → va_P (dC, dI) cls (lmW ad cI cZ cL cJ qo σ' fo') H1 → va_S A H0 H1 locs1 → (∀ q : Nat, q < H.size → ¬ A1 q → H1[q]? = H[q]?) → W p l e R s m args below meth c H1 locs1 (cells + mc) (slots + ms) Q (F0 m (pc + 3) ls (.int r :: rest))) :
    W p l e R s m args below meth c H locs cells slots Q (F0 m pc ls st0) := by
  intro T hT X
  rcases hr T hT X with ⟨v, st₀, t, T', L9, h0, X', hL, e1, e2, ⟨⟨r, σ', fo', hv, hp, hPw⟩, hz, hk⟩, st⟩ | ⟨q, st₀, t, T', L9, E, ce, h0, X', hL, e1, e2, hF, -⟩
  · simp only [Outcome.returned.injEq] at hv
    subst hv
    rw [h0] at hz hk
    obtain ⟨t2, a1, b1⟩ := kk r σ' fo' T'.heap (locs ++ L9) hp (by rw [e1]; exact hPw)
      ⟨Nat.le_trans hS.1 (by rw [e1]; exact hz), fun q h1 h2 => by rw [e1, hk q (Nat.lt_of_lt_of_le h1 hS.1) (fun z => h2 (hA q (Nat.lt_of_lt_of_le h1 hS.1) z))]; exact hS.2.1 q h1 h2, fun q hq => by
        rcases List.mem_append.mp hq with h | h
        · exact hS.2.2 q h
        · exact hf _ (hL q h)⟩ (fun q h1 h2 => by rw [e1]; exact hk q h1 h2) T' rfl X'
    exact ⟨t2, st t2 a1, b1⟩
  · exact hF.elim
set_option maxHeartbeats 8000000 in
set_option maxRecDepth 100000 in
theorem cs_19 (hst : l.stackTraces = false) (hC0 : LC p s m meth c b L xs dC dI ax am cI cZ cL cJ qo) (hL : L ≤ 3584) {k : Nat} (hk : 7 * k + 7 ≤ L) {σ τ : mS} {fo : Nat → Int64} {H : Heap} {locs : List Loc} (hR : RXe σ τ) (hI : LI s dC dI ax am cI cZ cL cJ qo σ τ fo H locs) {cells slots : Nat} (hcs : cells + 1 ≤ 601024 ∧ slots + 6 ≤ 7293034) {ls : Array Slot} (hl : lv_has ls 7 (lw5 b ax am qo (nI (7 * k))))
    (ht : ∀ (σ' τ' : mS) (fo' : Nat → Int64) (H1 : Heap) (locs1 : List Loc) (ls' : Array Slot), RXe σ' τ' → LI s dC dI ax am cI cZ cL cJ qo σ' τ' fo' H1 locs1 → lv_has ls' 7 (lw5 b ax am qo (nI (7 * k))) → W p l e room_1 s m #[Value.ref b] below meth c H1 locs1 (cells + 1) (slots + 6) Q (F0 m 1187 ls' [])) :
    W p l e room_1 s m #[Value.ref b] below meth c H locs cells slots Q (F0 m 1001 ls []) := by
  obtain ⟨hx, hb, hr, hml, hown, hts, hX, hbl, hlocks, hgv⟩ := hC0.1
  have hbA : ¬ (fun q : Nat => s.heap.size ≤ q) b := Nat.not_le.mpr hbl
  have hcs0 : cells ≤ 601024 ∧ slots ≤ 7293034 := ⟨by omega, by omega⟩
  obtain ⟨W9, H9, mp, dn, ln, rw9, hRX⟩ := hR
  have hv1 : vp_in (nI (7 * k) + 1) L := l_vin (t := 1) (by omega) hk hL
  have hv2 : vp_in (nI (7 * k) + 2) L := l_vin (t := 2) (by omega) hk hL
  have hE9 : ∀ (post : Option mV → mS → Prop), Ev 76 [xX, mI (xs (nI (7 * k) + 1).toNatClampNeg), mI (xs (nI (7 * k) + 2).toNatClampNeg)] σ post → (∀ r t, post r t → r = some mThr ∨ ∃ v : Int32, r = some (mI v)) → (∀ (r : Int32) (σ1 : mS) (fo1 : Nat → Int64) (H1 : Heap) (locs1 : List Loc) (ls1 : Array Slot), ((r = 1 ∧ post (some mThr) σ1) ∨ (r = 0 ∧ ∃ v : Int32, post (some (mI v)) σ1 ∧ fo1 0 = v.toInt64)) → LI s dC dI ax am cI cZ cL cJ qo σ1 τ fo1 H1 locs1 → lv_has ls1 7 ((5, .int r) :: lw5 b ax am qo (nI (7 * k))) → W p l e room_1 s m #[Value.ref b] below meth c H1 locs1 (cells + 1) (slots + 6) Q (F0 m 1020 ls1 [])) → W p l e room_1 s m #[Value.ref b] below meth c H locs cells slots Q (F0 m 1001 ls []) := by
    intro post hE hp kk
    refine lv_aload_n hx hb dL_law_1001 rfl (lv_at hl 1 rfl) ?_
    refine lv_aload_n hx hb dL_law_1002 rfl (lv_at hl 0 rfl) ?_
    refine lv_iload hx hb dL_law_1003 (lv_at hl 4 rfl) ?_
    refine lv_iconst (v := 1) hx hb dL_law_1005 (by decide) ?_
    refine lv_iadd hx hb dL_law_1006 ?_
    refine va_sld hx hb hX hbl hbA hI.2.2.2 hv1 dL_law_1007 ?_
    refine lv_aload_n hx hb dL_law_1008 rfl (lv_at hl 0 rfl) ?_
    refine lv_iload hx hb dL_law_1009 (lv_at hl 4 rfl) ?_
    refine lv_iconst (v := 2) hx hb dL_law_1011 (by decide) ?_
    refine lv_iadd hx hb dL_law_1012 ?_
    refine va_sld hx hb hX hbl hbA hI.2.2.2 hv2 dL_law_1013 ?_
    refine lv_aload_n hx hb dL_law_1014 rfl (lv_at hl 3 rfl) ?_
    obtain ⟨C0, hK4, hDD, hth, hcs9⟩ := hC0
    obtain ⟨hPx, hPm, hPo, hS⟩ := hI
    have hD9 := hDD σ τ fo
    have hA : ∀ q : Nat, s.heap.size ≤ q → (fun q : Nat => s.heap.size ≤ q) q := fun _ h => h
    have hPl : va_P (dC, dI) cls (lmW ax cI cZ cL cJ qo σ fo) H := hPx.app hPo
    have hDl : va_D (fun q : Nat => s.heap.size ≤ q) (lmW ax cI cZ cL cJ qo σ fo) := va_D.app (D_l hD9) (D_r (D_r hD9)) (fun i j x y hx hy => D_x hD9 hx (app_r hy))
    have hF : ∀ q, va_A (lmW ax cI cZ cL cJ qo σ fo) H.size q → s.heap.size ≤ q := fun q h => by
      rcases h with ⟨k9, e9, h⟩ | h
      · exact hDl.2 k9 (q, e9) h
      · exact Nat.le_trans hS.1 h
    refine m_callL (vx_runSX (hh := [(0, 10, 13, 13)]) (As := [.ref (ax 0 0), .int (xs (nI (7 * k) + 1).toNatClampNeg), .int (xs (nI (7 * k) + 2).toNatClampNeg), .ref qo]) (rest := []) (n := 4) (own := RL) ⟨hx, hb, hml, hown, hts⟩ (c_L_moved hst dC dI ax cI cZ cL cJ qo σ fo (xs (nI (7 * k) + 1).toNatClampNeg) (xs (nI (7 * k) + 2).toNatClampNeg) post hE hp H.size) (vx_cwSW 4 hts (good_sw (by decide +kernel)) rfl rfl rfl (by decide +kernel) (by decide)) ⟨lmP_blind, fun U hU hW => ⟨rfl, by rw [hU], by rw [hU]; exact hPl, va_K.moved hW.alike hK4, hDl.weaken (fun _ _ _ _ => trivial), by rw [hU]; exact hth.warm hW hS.2.1 hF, nw_cast hW hcs9⟩⟩ rfl rfl hl.1 rfl (lv_room (Nat.le_of_ble_eq_true rfl)) dL_law_1015 ⟨hcs.1, hcs.2⟩) hS (fun q _ z => hF q z) hF (fun r σ1 fo1 H1 locs1 hrr hP1 hS1 hk1 => ?_)
    refine lv_istore (lv' := (5, .int r) :: lw5 b ax am qo (nI (7 * k))) hx hb dL_law_1018 hl (by decide) rfl (fun ls1 hl1 => ?_)
    exact kk r σ1 fo1 H1 locs1 ls1 hrr ⟨P_l hP1, P_keep hPm hk1 (fun k9 k8 x y hx hy => by
      rcases List.mem_append.mp (List.mem_of_getElem? hx) with q | q
      · obtain ⟨i9, h9⟩ := List.getElem?_of_mem q
        exact D_x hD9 h9 (app_l hy)
      · obtain ⟨i9, h9⟩ := List.getElem?_of_mem q
        exact fun e9 => D_x (D_r hD9) hy h9 e9.symm), P_r hP1, hS1⟩ hl1
  obtain ⟨PX, PM, hRe, hcase⟩ := p_moved hRX (xs (nI (7 * k) + 1).toNatClampNeg) (xs (nI (7 * k) + 2).toNatClampNeg)
  rcases hcase with ⟨hEx, hEm⟩ | ⟨v, hEx, hEm⟩
  · refine hE9 _ hEx (fun r t h => Or.inl h.1) (fun r σ1 fo1 H1 locs1 ls1 hrr hI1 hl1 => ?_)
    have hr1 : r = 1 ∧ PX σ1 := by
      rcases hrr with ⟨h1, h2⟩ | ⟨h1, v, h2, h3⟩
      · exact ⟨h1, h2.2⟩
      · exact absurd (Option.some.inj h2.1) (by intro q; cases q)
    obtain ⟨rfl, hpx⟩ := hr1
    refine lv_aload_n hx hb dL_law_1020 rfl (lv_at hl1 3 rfl) ?_
    refine lv_aload_n hx hb dL_law_1021 rfl (lv_at hl1 1 rfl) ?_
    refine lv_iload hx hb dL_law_1022 (lv_at hl1 5 rfl) ?_
    refine lv_iconst (v := 1) hx hb dL_law_1024 (by decide) ?_
    refine lv_iadd hx hb dL_law_1025 ?_
    refine va_sld hx hb hX hbl hbA hI1.2.2.2 hv1 dL_law_1026 ?_
    refine lv_aload_n hx hb dL_law_1027 rfl (lv_at hl1 1 rfl) ?_
    refine lv_iload hx hb dL_law_1028 (lv_at hl1 5 rfl) ?_
    refine lv_iconst (v := 2) hx hb dL_law_1030 (by decide) ?_
    refine lv_iadd hx hb dL_law_1031 ?_
    refine va_sld hx hb hX hbl hbA hI1.2.2.2 hv2 dL_law_1032 ?_
    refine lm_call hC0 hI1 140 rfl (As := [mI (xs (nI (7 * k) + 1).toNatClampNeg), mI (xs (nI (7 * k) + 2).toNatClampNeg)]) hEm (by decide) (by decide) (show 3 ≤ mml 140 from by decide) (vok_ints [(xs (nI (7 * k) + 1).toNatClampNeg), (xs (nI (7 * k) + 2).toNatClampNeg)]) 111 2 (by decide +kernel) rfl (by decide +kernel) (by decide) hcs (rest := []) hl1.1 (show 0 ≤ 8 from by decide) dL_law_1033 (fun r2 τ1 H2 locs2 hp2 hI2 => ?_)
    obtain ⟨rfl, hpm, hth1⟩ := hp2
    refine lv_istore (lv' := (6, .int 0) :: (5, .int 1) :: lw5 b ax am qo (nI (7 * k))) hx hb dL_law_1036 hl1 (by decide) rfl (fun ls2 hl2 => ?_)
    refine lv_aload_n hx hb dL_law_1038 rfl (lv_at hl2 4 rfl) ?_
    refine lm_call hC0 hI2 85 rfl (As := []) (ev_thrown τ1) (by decide) (by decide) (show 1 ≤ mml 85 from by decide) (vok_ints []) 112 0 (by decide +kernel) rfl (by decide +kernel) (by decide) hcs (rest := []) hl2.1 (show 0 ≤ 8 from by decide) dL_law_1039 (fun r3 τ2 H3 locs3 hp3 hI3 => ?_)
    obtain ⟨rfl, rfl⟩ := hp3
    rw [hth1]
    refine lv_iload hx hb dL_law_1042 (lv_at hl2 1 rfl) ?_
    refine lv_icmp_eq (tgt := 1049) hx hb dL_law_1044 (by decide) (fun _ => ?_) (fun q => absurd rfl q)
    refine lv_iload hx hb dL_law_1049 (lv_at hl2 1 rfl) ?_
    refine lv_if_ne (tgt := 1066) hx hb dL_law_1051 (by decide) (fun _ => ?_) (fun q => absurd q (by decide))
    refine lv_goto (tgt := 1187) hx hb dL_law_1066 (by decide) ?_
    exact ht σ1 τ2 fo1 H3 locs3 ls2 (hRe _ _ hpx hpm) hI3 (lv_sub hl2 [2, 3, 4, 5, 6] rfl)
  · refine hE9 _ hEx (fun r t h => Or.inr ⟨v, h.1⟩) (fun r σ1 fo1 H1 locs1 ls1 hrr hI1 hl1 => ?_)
    have hr1 : r = 0 ∧ PX σ1 ∧ fo1 0 = v.toInt64 := by
      rcases hrr with ⟨h1, h2⟩ | ⟨h1, v9, h2, h3⟩
      · exact absurd (Option.some.inj h2.1) (by intro q; cases q)
      · have : v9 = v := by
          have := Option.some.inj h2.1
          cases this
          rfl
        rw [this] at h3
        exact ⟨h1, h2.2, h3⟩
    obtain ⟨rfl, hpx, hfo⟩ := hr1
    refine lv_aload_n hx hb dL_law_1020 rfl (lv_at hl1 3 rfl) ?_
    refine lv_aload_n hx hb dL_law_1021 rfl (lv_at hl1 1 rfl) ?_
    refine lv_iload hx hb dL_law_1022 (lv_at hl1 5 rfl) ?_
    refine lv_iconst (v := 1) hx hb dL_law_1024 (by decide) ?_
    refine lv_iadd hx hb dL_law_1025 ?_
    refine va_sld hx hb hX hbl hbA hI1.2.2.2 hv1 dL_law_1026 ?_
    refine lv_aload_n hx hb dL_law_1027 rfl (lv_at hl1 1 rfl) ?_
    refine lv_iload hx hb dL_law_1028 (lv_at hl1 5 rfl) ?_
    refine lv_iconst (v := 2) hx hb dL_law_1030 (by decide) ?_
    refine lv_iadd hx hb dL_law_1031 ?_
    refine va_sld hx hb hX hbl hbA hI1.2.2.2 hv2 dL_law_1032 ?_
    refine lm_call hC0 hI1 140 rfl (As := [mI (xs (nI (7 * k) + 1).toNatClampNeg), mI (xs (nI (7 * k) + 2).toNatClampNeg)]) hEm (by decide) (by decide) (show 3 ≤ mml 140 from by decide) (vok_ints [(xs (nI (7 * k) + 1).toNatClampNeg), (xs (nI (7 * k) + 2).toNatClampNeg)]) 111 2 (by decide +kernel) rfl (by decide +kernel) (by decide) hcs (rest := []) hl1.1 (show 0 ≤ 8 from by decide) dL_law_1033 (fun r2 τ1 H2 locs2 hp2 hI2 => ?_)
    obtain ⟨rfl, hpm, hth1⟩ := hp2
    refine lv_istore (lv' := (6, .int v) :: (5, .int 0) :: lw5 b ax am qo (nI (7 * k))) hx hb dL_law_1036 hl1 (by decide) rfl (fun ls2 hl2 => ?_)
    refine lv_aload_n hx hb dL_law_1038 rfl (lv_at hl2 4 rfl) ?_
    refine lm_call hC0 hI2 85 rfl (As := []) (ev_thrown τ1) (by decide) (by decide) (show 1 ≤ mml 85 from by decide) (vok_ints []) 112 0 (by decide +kernel) rfl (by decide +kernel) (by decide) hcs (rest := []) hl2.1 (show 0 ≤ 8 from by decide) dL_law_1039 (fun r3 τ2 H3 locs3 hp3 hI3 => ?_)
    obtain ⟨rfl, rfl⟩ := hp3
    rw [hth1]
    refine lv_iload hx hb dL_law_1042 (lv_at hl2 1 rfl) ?_
    refine lv_icmp_eq (tgt := 1049) hx hb dL_law_1044 (by decide) (fun _ => ?_) (fun q => absurd rfl q)
    refine lv_iload hx hb dL_law_1049 (lv_at hl2 1 rfl) ?_
    refine lv_if_ne (tgt := 1066) hx hb dL_law_1051 (by decide) (fun q => absurd rfl q) (fun _ => ?_)
    refine lv_aload_n hx hb dL_law_1054 rfl (lv_at hl2 5 rfl) ?_
    refine lv_iconst (v := 0) hx hb dL_law_1055 (by decide) ?_
    refine va_lald (D := (dC, dI)) hx hb hC0.2.1 hI3.2.2.1 0 3 rfl rfl (vp_in_nI (n := 0) (N := 1) (by omega) (by omega)) dL_law_1056 ?_
    rw [show fo1 (0 : Int32).toNatClampNeg = v.toInt64 from hfo]
    refine lv_iload hx hb dL_law_1057 (lv_at hl2 0 rfl) ?_
    refine lv_i2l hx hb dL_law_1059 rfl ?_
    refine W.lcmp hx hb dL_law_1060 ?_
    rw [lg_same]
    refine lv_if_eq (tgt := 1066) hx hb dL_law_1061 (by decide) (fun _ => ?_) (fun q => absurd rfl q)
    refine lv_goto (tgt := 1187) hx hb dL_law_1066 (by decide) ?_
    exact ht σ1 τ2 fo1 H3 locs3 ls2 (hRe _ _ hpx hpm) hI3 (lv_sub hl2 [2, 3, 4, 5, 6] rfl)
set_option maxHeartbeats 8000000 in
set_option maxRecDepth 100000 in
theorem cs_22 (hst : l.stackTraces = false) (hC0 : LC p s m meth c b L xs dC dI ax am cI cZ cL cJ qo) (hL : L ≤ 3584) {k : Nat} (hk : 7 * k + 7 ≤ L) {σ τ : mS} {fo : Nat → Int64} {H : Heap} {locs : List Loc} (hR : RXe σ τ) (hI : LI s dC dI ax am cI cZ cL cJ qo σ τ fo H locs) {cells slots : Nat} (hcs : cells + 1 ≤ 601024 ∧ slots + 6 ≤ 7293034) {ls : Array Slot} (hl : lv_has ls 7 (lw5 b ax am qo (nI (7 * k))))
    (ht : ∀ (σ' τ' : mS) (fo' : Nat → Int64) (H1 : Heap) (locs1 : List Loc) (ls' : Array Slot), RXe σ' τ' → LI s dC dI ax am cI cZ cL cJ qo σ' τ' fo' H1 locs1 → lv_has ls' 7 (lw5 b ax am qo (nI (7 * k))) → W p l e room_1 s m #[Value.ref b] below meth c H1 locs1 (cells + 1) (slots + 6) Q (F0 m 1187 ls' [])) :
    W p l e room_1 s m #[Value.ref b] below meth c H locs cells slots Q (F0 m 1131 ls []) := by
  obtain ⟨hx, hb, hr, hml, hown, hts, hX, hbl, hlocks, hgv⟩ := hC0.1
  have hbA : ¬ (fun q : Nat => s.heap.size ≤ q) b := Nat.not_le.mpr hbl
  have hcs0 : cells ≤ 601024 ∧ slots ≤ 7293034 := ⟨by omega, by omega⟩
  obtain ⟨W9, H9, mp, dn, ln, rw9, hRX⟩ := hR
  have hv1 : vp_in (nI (7 * k) + 1) L := l_vin (t := 1) (by omega) hk hL
  have hE9 : ∀ (post : Option mV → mS → Prop), Ev 79 [xX, mI (xs (nI (7 * k) + 1).toNatClampNeg)] σ post → (∀ r t, post r t → r = some mThr ∨ ∃ v : Int32, r = some (mI v)) → (∀ (r : Int32) (σ1 : mS) (fo1 : Nat → Int64) (H1 : Heap) (locs1 : List Loc) (ls1 : Array Slot), ((r = 1 ∧ post (some mThr) σ1) ∨ (r = 0 ∧ ∃ v : Int32, post (some (mI v)) σ1 ∧ fo1 0 = v.toInt64)) → LI s dC dI ax am cI cZ cL cJ qo σ1 τ fo1 H1 locs1 → lv_has ls1 7 ((5, .int r) :: lw5 b ax am qo (nI (7 * k))) → W p l e room_1 s m #[Value.ref b] below meth c H1 locs1 (cells + 1) (slots + 6) Q (F0 m 1144 ls1 [])) → W p l e room_1 s m #[Value.ref b] below meth c H locs cells slots Q (F0 m 1131 ls []) := by
    intro post hE hp kk
    refine lv_aload_n hx hb dL_law_1131 rfl (lv_at hl 1 rfl) ?_
    refine lv_aload_n hx hb dL_law_1132 rfl (lv_at hl 0 rfl) ?_
    refine lv_iload hx hb dL_law_1133 (lv_at hl 4 rfl) ?_
    refine lv_iconst (v := 1) hx hb dL_law_1135 (by decide) ?_
    refine lv_iadd hx hb dL_law_1136 ?_
    refine va_sld hx hb hX hbl hbA hI.2.2.2 hv1 dL_law_1137 ?_
    refine lv_aload_n hx hb dL_law_1138 rfl (lv_at hl 3 rfl) ?_
    obtain ⟨C0, hK4, hDD, hth, hcs9⟩ := hC0
    obtain ⟨hPx, hPm, hPo, hS⟩ := hI
    have hD9 := hDD σ τ fo
    have hA : ∀ q : Nat, s.heap.size ≤ q → (fun q : Nat => s.heap.size ≤ q) q := fun _ h => h
    have hPl : va_P (dC, dI) cls (lmW ax cI cZ cL cJ qo σ fo) H := hPx.app hPo
    have hDl : va_D (fun q : Nat => s.heap.size ≤ q) (lmW ax cI cZ cL cJ qo σ fo) := va_D.app (D_l hD9) (D_r (D_r hD9)) (fun i j x y hx hy => D_x hD9 hx (app_r hy))
    have hF : ∀ q, va_A (lmW ax cI cZ cL cJ qo σ fo) H.size q → s.heap.size ≤ q := fun q h => by
      rcases h with ⟨k9, e9, h⟩ | h
      · exact hDl.2 k9 (q, e9) h
      · exact Nat.le_trans hS.1 h
    refine m_callL (vx_runSX (hh := [(0, 9, 12, 13)]) (As := [.ref (ax 0 0), .int (xs (nI (7 * k) + 1).toNatClampNeg), .ref qo]) (rest := []) (n := 3) (own := RL) ⟨hx, hb, hml, hown, hts⟩ (c_L_row hst dC dI ax cI cZ cL cJ qo σ fo (xs (nI (7 * k) + 1).toNatClampNeg) post hE hp H.size) (vx_cwSW 3 hts (good_sw (by decide +kernel)) rfl rfl rfl (by decide +kernel) (by decide)) ⟨lmP_blind, fun U hU hW => ⟨rfl, by rw [hU], by rw [hU]; exact hPl, va_K.moved hW.alike hK4, hDl.weaken (fun _ _ _ _ => trivial), by rw [hU]; exact hth.warm hW hS.2.1 hF, nw_cast hW hcs9⟩⟩ rfl rfl hl.1 rfl (lv_room (Nat.le_of_ble_eq_true rfl)) dL_law_1139 ⟨hcs.1, hcs.2⟩) hS (fun q _ z => hF q z) hF (fun r σ1 fo1 H1 locs1 hrr hP1 hS1 hk1 => ?_)
    refine lv_istore (lv' := (5, .int r) :: lw5 b ax am qo (nI (7 * k))) hx hb dL_law_1142 hl (by decide) rfl (fun ls1 hl1 => ?_)
    exact kk r σ1 fo1 H1 locs1 ls1 hrr ⟨P_l hP1, P_keep hPm hk1 (fun k9 k8 x y hx hy => by
      rcases List.mem_append.mp (List.mem_of_getElem? hx) with q | q
      · obtain ⟨i9, h9⟩ := List.getElem?_of_mem q
        exact D_x hD9 h9 (app_l hy)
      · obtain ⟨i9, h9⟩ := List.getElem?_of_mem q
        exact fun e9 => D_x (D_r hD9) hy h9 e9.symm), P_r hP1, hS1⟩ hl1
  obtain ⟨PX, PM, hRe, hcase⟩ := p_row hRX (xs (nI (7 * k) + 1).toNatClampNeg)
  rcases hcase with ⟨hEx, hEm⟩ | ⟨v, hEx, hEm⟩
  · refine hE9 _ hEx (fun r t h => Or.inl h.1) (fun r σ1 fo1 H1 locs1 ls1 hrr hI1 hl1 => ?_)
    have hr1 : r = 1 ∧ PX σ1 := by
      rcases hrr with ⟨h1, h2⟩ | ⟨h1, v, h2, h3⟩
      · exact ⟨h1, h2.2⟩
      · exact absurd (Option.some.inj h2.1) (by intro q; cases q)
    obtain ⟨rfl, hpx⟩ := hr1
    refine lv_aload_n hx hb dL_law_1144 rfl (lv_at hl1 3 rfl) ?_
    refine lv_aload_n hx hb dL_law_1145 rfl (lv_at hl1 1 rfl) ?_
    refine lv_iload hx hb dL_law_1146 (lv_at hl1 5 rfl) ?_
    refine lv_iconst (v := 1) hx hb dL_law_1148 (by decide) ?_
    refine lv_iadd hx hb dL_law_1149 ?_
    refine va_sld hx hb hX hbl hbA hI1.2.2.2 hv1 dL_law_1150 ?_
    refine lm_call hC0 hI1 144 rfl (As := [mI (xs (nI (7 * k) + 1).toNatClampNeg)]) hEm (by decide) (by decide) (show 2 ≤ mml 144 from by decide) (vok_ints [(xs (nI (7 * k) + 1).toNatClampNeg)]) 127 1 (by decide +kernel) rfl (by decide +kernel) (by decide) hcs (rest := []) hl1.1 (show 0 ≤ 8 from by decide) dL_law_1151 (fun r2 τ1 H2 locs2 hp2 hI2 => ?_)
    obtain ⟨rfl, hpm, hth1⟩ := hp2
    refine lv_istore (lv' := (6, .int 0) :: (5, .int 1) :: lw5 b ax am qo (nI (7 * k))) hx hb dL_law_1154 hl1 (by decide) rfl (fun ls2 hl2 => ?_)
    refine lv_aload_n hx hb dL_law_1156 rfl (lv_at hl2 4 rfl) ?_
    refine lm_call hC0 hI2 85 rfl (As := []) (ev_thrown τ1) (by decide) (by decide) (show 1 ≤ mml 85 from by decide) (vok_ints []) 112 0 (by decide +kernel) rfl (by decide +kernel) (by decide) hcs (rest := []) hl2.1 (show 0 ≤ 8 from by decide) dL_law_1157 (fun r3 τ2 H3 locs3 hp3 hI3 => ?_)
    obtain ⟨rfl, rfl⟩ := hp3
    rw [hth1]
    refine lv_iload hx hb dL_law_1160 (lv_at hl2 1 rfl) ?_
    refine lv_icmp_eq (tgt := 1167) hx hb dL_law_1162 (by decide) (fun _ => ?_) (fun q => absurd rfl q)
    refine lv_iload hx hb dL_law_1167 (lv_at hl2 1 rfl) ?_
    refine lv_if_ne (tgt := 1184) hx hb dL_law_1169 (by decide) (fun _ => ?_) (fun q => absurd q (by decide))
    refine lv_goto (tgt := 1187) hx hb dL_law_1184 (by decide) ?_
    exact ht σ1 τ2 fo1 H3 locs3 ls2 (hRe _ _ hpx hpm) hI3 (lv_sub hl2 [2, 3, 4, 5, 6] rfl)
  · refine hE9 _ hEx (fun r t h => Or.inr ⟨v, h.1⟩) (fun r σ1 fo1 H1 locs1 ls1 hrr hI1 hl1 => ?_)
    have hr1 : r = 0 ∧ PX σ1 ∧ fo1 0 = v.toInt64 := by
      rcases hrr with ⟨h1, h2⟩ | ⟨h1, v9, h2, h3⟩
      · exact absurd (Option.some.inj h2.1) (by intro q; cases q)
      · have : v9 = v := by
          have := Option.some.inj h2.1
          cases this
          rfl
        rw [this] at h3
        exact ⟨h1, h2.2, h3⟩
    obtain ⟨rfl, hpx, hfo⟩ := hr1
    refine lv_aload_n hx hb dL_law_1144 rfl (lv_at hl1 3 rfl) ?_
    refine lv_aload_n hx hb dL_law_1145 rfl (lv_at hl1 1 rfl) ?_
    refine lv_iload hx hb dL_law_1146 (lv_at hl1 5 rfl) ?_
    refine lv_iconst (v := 1) hx hb dL_law_1148 (by decide) ?_
    refine lv_iadd hx hb dL_law_1149 ?_
    refine va_sld hx hb hX hbl hbA hI1.2.2.2 hv1 dL_law_1150 ?_
    refine lm_call hC0 hI1 144 rfl (As := [mI (xs (nI (7 * k) + 1).toNatClampNeg)]) hEm (by decide) (by decide) (show 2 ≤ mml 144 from by decide) (vok_ints [(xs (nI (7 * k) + 1).toNatClampNeg)]) 127 1 (by decide +kernel) rfl (by decide +kernel) (by decide) hcs (rest := []) hl1.1 (show 0 ≤ 8 from by decide) dL_law_1151 (fun r2 τ1 H2 locs2 hp2 hI2 => ?_)
    obtain ⟨rfl, hpm, hth1⟩ := hp2
    refine lv_istore (lv' := (6, .int v) :: (5, .int 0) :: lw5 b ax am qo (nI (7 * k))) hx hb dL_law_1154 hl1 (by decide) rfl (fun ls2 hl2 => ?_)
    refine lv_aload_n hx hb dL_law_1156 rfl (lv_at hl2 4 rfl) ?_
    refine lm_call hC0 hI2 85 rfl (As := []) (ev_thrown τ1) (by decide) (by decide) (show 1 ≤ mml 85 from by decide) (vok_ints []) 112 0 (by decide +kernel) rfl (by decide +kernel) (by decide) hcs (rest := []) hl2.1 (show 0 ≤ 8 from by decide) dL_law_1157 (fun r3 τ2 H3 locs3 hp3 hI3 => ?_)
    obtain ⟨rfl, rfl⟩ := hp3
    rw [hth1]
    refine lv_iload hx hb dL_law_1160 (lv_at hl2 1 rfl) ?_
    refine lv_icmp_eq (tgt := 1167) hx hb dL_law_1162 (by decide) (fun _ => ?_) (fun q => absurd rfl q)
    refine lv_iload hx hb dL_law_1167 (lv_at hl2 1 rfl) ?_
    refine lv_if_ne (tgt := 1184) hx hb dL_law_1169 (by decide) (fun q => absurd rfl q) (fun _ => ?_)
    refine lv_aload_n hx hb dL_law_1172 rfl (lv_at hl2 5 rfl) ?_
    refine lv_iconst (v := 0) hx hb dL_law_1173 (by decide) ?_
    refine va_lald (D := (dC, dI)) hx hb hC0.2.1 hI3.2.2.1 0 3 rfl rfl (vp_in_nI (n := 0) (N := 1) (by omega) (by omega)) dL_law_1174 ?_
    rw [show fo1 (0 : Int32).toNatClampNeg = v.toInt64 from hfo]
    refine lv_iload hx hb dL_law_1175 (lv_at hl2 0 rfl) ?_
    refine lv_i2l hx hb dL_law_1177 rfl ?_
    refine W.lcmp hx hb dL_law_1178 ?_
    rw [lg_same]
    refine lv_if_eq (tgt := 1184) hx hb dL_law_1179 (by decide) (fun _ => ?_) (fun q => absurd rfl q)
    refine lv_goto (tgt := 1187) hx hb dL_law_1184 (by decide) ?_
    exact ht σ1 τ2 fo1 H3 locs3 ls2 (hRe _ _ hpx hpm) hI3 (lv_sub hl2 [2, 3, 4, 5, 6] rfl)
end LCT
