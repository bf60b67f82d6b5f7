/-! THE LAW FROM ITS ENTRY -/
theorem ww_D {A : Nat → Prop} {ax am : Nat → Nat → Nat} {cI cZ cL cJ : ClassId} {qo : Nat} {σ τ σ' τ' : mS} {fo fo' : Nat → Int64} (h : va_D A (WW ax am cI cZ cL cJ qo σ τ fo)) : va_D A (WW ax am cI cZ cL cJ qo σ' τ' fo') := by
  have key : ∀ (k : Nat) (q : Nat × va_E), (WW ax am cI cZ cL cJ qo σ' τ' fo')[k]? = some q → ∃ q' : Nat × va_E, (WW ax am cI cZ cL cJ qo σ τ fo)[k]? = some q' ∧ q'.1 = q.1 := by
    intro k q hq
    have hm : ((WW ax am cI cZ cL cJ qo σ' τ' fo').map Prod.fst) = ((WW ax am cI cZ cL cJ qo σ τ fo).map Prod.fst) := by
      unfold WW lmO wld
      rw [List.map_append, List.map_append, List.map_append, List.map_append, List.map_map, List.map_map, List.map_map, List.map_map]
      rfl
    have h1 : ((WW ax am cI cZ cL cJ qo σ' τ' fo').map Prod.fst)[k]? = some q.1 := by rw [List.getElem?_map, hq]; rfl
    rw [hm, List.getElem?_map] at h1
    cases hx : (WW ax am cI cZ cL cJ qo σ τ fo)[k]? with
    | none => rw [hx] at h1; cases h1
    | some x => rw [hx] at h1; exact ⟨x, rfl, Option.some.inj h1⟩
  refine ⟨fun i j x y hi hj hxy => ?_, fun k q hk => ?_⟩
  · obtain ⟨x0, h1, h2⟩ := key i x hi
    obtain ⟨y0, h3, h4⟩ := key j y hj
    exact h.1 i j x0 y0 h1 h3 (h2.trans (hxy.trans h4.symm))
  · obtain ⟨q0, h1, h2⟩ := key k q hk
    rw [← h2]
    exact h.2 k q0 h1
theorem good_t {y : MethodName} {bs : ByteArray} {n : Nat} (h : (decide (Cond.code y bs n none ∈ lw_tbl) && goodWord (Cond.code y bs n none)) = true) : GoodIn lw_tbl (wc y bs n) := by
  intro w hw
  rcases List.mem_cons.mp hw with q | q
  · rw [q]; exact ⟨mw_tbl (mem_m h), mw_good (mem_m h)⟩
  · exact ⟨mw_tbl q, mw_good q⟩
theorem rx_start : RXe sig0 (laysS tau0) := ⟨1, 1, 0, 0, 0, 0, rx_new rfl rfl rfl rfl rfl rfl rfl rfl rfl rfl rfl rfl rfl rfl rfl rfl rfl rfl rfl rfl rfl (fun _ => rfl) (fun _ => rfl) (fun _ => rfl)⟩
set_option maxHeartbeats 8000000 in
set_option maxRecDepth 100000 in
theorem whole_start {p : Program} {e : Env} {s : State} {m : MethodId} {below : List Frame} {meth : Method} {c : Code} (l : Launch) (hst : l.stackTraces = false) {b L : Nat} {xs : Nat → Int32} (hL : L ≤ 3584) (C0 : lw_At p s m meth c b L xs) : W p l e room_1 s m #[Value.ref b] below meth c s.heap [] 0 0 (lw_Z below #[Value.ref b] s) (entryFrame m ([Value.ref b] : List Value).toArray 7) := by
  obtain ⟨hx, hb, hr, hml, hown, hts, hX, hbl, hlocks, hgv⟩ := id C0
  have hs9 := flat_of_before _ hgv
  have hA : ∀ q : Nat, s.heap.size ≤ q → (fun q : Nat => s.heap.size ≤ q) q := fun _ h => h
  have hnA : ∀ a : Nat, a < s.heap.size → ¬ (fun q : Nat => s.heap.size ≤ q) a := fun a h => Nat.not_le.mpr h
  obtain ⟨c0, iS0, hKn0⟩ := u_known (C := RX0) (T := TX0) (N := 6) (n := 6) hts (fun w h => mw_tbl ((cls_ok (q := (RX0, TX0, 6)) (ci := 0) rfl).1 w h)) (hts (.instantiable RX0 6) (by decide +kernel))
  obtain ⟨c1, iS1, hKn1⟩ := u_known (C := RX1) (T := TX1) (N := 9) (n := 9) hts (fun w h => mw_tbl ((cls_ok (q := (RX1, TX1, 9)) (ci := 1) rfl).1 w h)) (hts (.instantiable RX1 9) (by decide +kernel))
  obtain ⟨c2, iS2, hKn2⟩ := u_known (C := RX2) (T := TX2) (N := 5) (n := 5) hts (fun w h => mw_tbl ((cls_ok (q := (RX2, TX2, 5)) (ci := 2) rfl).1 w h)) (hts (.instantiable RX2 5) (by decide +kernel))
  obtain ⟨c3, iS3, hKn3⟩ := u_known (C := RX3) (T := TX3) (N := 5) (n := 5) hts (fun w h => mw_tbl ((cls_ok (q := (RX3, TX3, 5)) (ci := 3) rfl).1 w h)) (hts (.instantiable RX3 5) (by decide +kernel))
  obtain ⟨c4, iS4, hKn4⟩ := u_known (C := RX4) (T := TX4) (N := 9) (n := 9) hts (fun w h => mw_tbl ((cls_ok (q := (RX4, TX4, 9)) (ci := 4) rfl).1 w h)) (hts (.instantiable RX4 9) (by decide +kernel))
  obtain ⟨c5, iS5, hKn5⟩ := u_known (C := RX5) (T := TX5) (N := 10) (n := 10) hts (fun w h => mw_tbl ((cls_ok (q := (RX5, TX5, 10)) (ci := 5) rfl).1 w h)) (hts (.instantiable RX5 10) (by decide +kernel))
  obtain ⟨c6, iS6, hKn6⟩ := u_known (C := RX6) (T := TX6) (N := 4) (n := 4) hts (fun w h => mw_tbl ((cls_ok (q := (RX6, TX6, 4)) (ci := 6) rfl).1 w h)) (hts (.instantiable RX6 4) (by decide +kernel))
  obtain ⟨c7, iS7, hKn7⟩ := u_known (C := RX7) (T := TX7) (N := 8) (n := 8) hts (fun w h => mw_tbl ((cls_ok (q := (RX7, TX7, 8)) (ci := 7) rfl).1 w h)) (hts (.instantiable RX7 8) (by decide +kernel))
  obtain ⟨c8, iS8, hKn8⟩ := u_known (C := RX8) (T := TX8) (N := 30) (n := 30) hts (fun w h => mw_tbl ((cls_ok (q := (RX8, TX8, 30)) (ci := 8) rfl).1 w h)) (hts (.instantiable RX8 30) (by decide +kernel))
  obtain ⟨dC, dI, hKc⟩ : ∃ (dC : Nat → ClassId) (dI : Nat → Nat → Nat), ∀ (k : Nat) (q : vw_C), cls[k]? = some q → u_Kn s q.1 q.2.1 q.2.2 (dC k) (dI k) := by
    refine ⟨fun k => if k = 0 then c0 else if k = 1 then c1 else if k = 2 then c2 else if k = 3 then c3 else if k = 4 then c4 else if k = 5 then c5 else if k = 6 then c6 else if k = 7 then c7 else c8, fun k => if k = 0 then iS0 else if k = 1 then iS1 else if k = 2 then iS2 else if k = 3 then iS3 else if k = 4 then iS4 else if k = 5 then iS5 else if k = 6 then iS6 else if k = 7 then iS7 else iS8, ?_⟩
    intro k q hq
    match k, hq with
    | 0, hq => cases hq; exact hKn0
    | 1, hq => cases hq; exact hKn1
    | 2, hq => cases hq; exact hKn2
    | 3, hq => cases hq; exact hKn3
    | 4, hq => cases hq; exact hKn4
    | 5, hq => cases hq; exact hKn5
    | 6, hq => cases hq; exact hKn6
    | 7, hq => cases hq; exact hKn7
    | 8, hq => cases hq; exact hKn8
    | k + 9, hq => simp at hq
  obtain ⟨cI, kI, pI, i1, i2, i3⟩ := Cond.arrayClass_spec (hts (.arrayClass .int) (by decide +kernel))
  obtain ⟨cZ, kZ, pZ, z1, z2, z3⟩ := Cond.arrayClass_spec (hts (.arrayClass .boolean) (by decide +kernel))
  obtain ⟨cJ, kJ, pJ, j1, j2, j3⟩ := Cond.arrayClass_spec (hts (.arrayClass .long) (by decide +kernel))
  have hov : (Cond.arrayOver (.object RX4)).before #[Value.ref b] s = true := hts _ (by decide +kernel)
  obtain ⟨pL, cL, kL, o1, o2, o3, o4, o5⟩ := Cond.arrayOver_spec hov
  have hK4 : va_K (dC, dI) cls (ty4 cI cZ cL cJ) s := ⟨hKc, fun k q h => by
    match k, h with
    | 0, h => cases h; exact ⟨fun n z => ⟨fun k h => (by cases h), kI, i2, pI, i3⟩, i1⟩
    | 1, h => cases h; exact ⟨fun n z => ⟨fun k h => (by cases h), kZ, z2, pZ, z3⟩, z1⟩
    | 2, h => cases h; exact ⟨fun n z => ⟨fun k h => (by cases h), kL, o3, pL, o4⟩, kL, pL, o3, o4, o1, o5⟩
    | 3, h => cases h; exact ⟨fun n z => ⟨fun k h => (by cases h), kJ, j2, pJ, j3⟩, j1⟩
    | k + 4, h => simp at h⟩
  have hK := ty4_m hK4
  have hnw : nwP s := ⟨va_Nw.of rfl (hts _ (by decide +kernel)), va_Nw.of rfl (hts _ (by decide +kernel)), va_Nw.of rfl (hts _ (by decide +kernel)), va_AO.of hov⟩
  have hth : thP (fun q : Nat => s.heap.size ≤ q) s s.heap := by
    obtain ⟨k1, cf1, n1, a1, -, -, -, -, -, ev1⟩ := Cond.stringRef_spec (hKc 7 _ rfl).2.1 (hts (.stringRef RX7 238 "no such owner or step") (by decide +kernel))
    obtain ⟨k2, cf2, n2, a2, -, -, -, -, -, ev2⟩ := Cond.stringRef_spec (hKc 7 _ rfl).2.1 (hts (.stringRef RX7 252 "no such number of the row") (by decide +kernel))
    exact ⟨⟨a1, vk_R.of (hts (.stringRef RX7 238 "no such owner or step") (by decide +kernel)) ev1⟩, ⟨a2, vk_R.of (hts (.stringRef RX7 252 "no such number of the row") (by decide +kernel)) ev2⟩, vx_Zqof (hts _ (by decide +kernel)) (hts _ (by decide +kernel)) (hs9 _ (by decide +kernel)) hnA, vx_Zqof (hts _ (by decide +kernel)) (hts _ (by decide +kernel)) (hs9 _ (by decide +kernel)) hnA⟩
  have hcs9 : va_Nw (.castable nsE nsE) s := va_Nw.of rfl (hts _ (by decide +kernel))
  have hS : va_S (fun q : Nat => s.heap.size ≤ q) s.heap s.heap [] := va_S.rf
  have hP : va_P (dC, dI) cls [] s.heap := fun k q h => by simp at h
  have hD : va_D (fun q : Nat => s.heap.size ≤ q) [] := ⟨fun i j p q h => by simp at h, fun k q h => by simp at h⟩
  have hl := lv_entry ([.ref b]) (n := 7) (Nat.le_of_ble_eq_true rfl)
  rw [lg_entry_eq]
  generalize (lg_sl ([.ref b]) ++ List.replicate (7 - (lg_sl ([.ref b])).length) Slot.unset).toArray = ls at hl ⊢
  have hl : lv_has ls 7 [(0, .ref b)] := hl
  refine va_new (ci := 7) (fs := [.null, .null, .null, .null, .null, .null, .null, .int 0]) (C := RX7) (T := TX7) (N := 8) (own := RL) hx hb hts (fun w h => mw_tbl ((cls_ok (q := (RX7, TX7, 8)) (ci := 7) rfl).1 w h)) tyX7 tyX7_ok hown (hts (.classLink RL 8 RX7) (by decide +kernel)) (hts (.instantiable RX7 8) (by decide +kernel)) (hts (.initialized RX7) (by decide +kernel)) hK hP hD hS hA rfl (by decide +kernel) (Nat.le_of_ble_eq_true rfl) (Nat.le_of_ble_eq_true rfl) dL_law_0 (fun qx H hP hD hS => ?_)
  have hP : va_P (dC, dI) cls [(qx, .inr (7, [.null, .null, .null, .null, .null, .null, .null, .int 0]))] H := hP
  have hD : va_D (fun q : Nat => s.heap.size ≤ q) [(qx, .inr (7, [.null, .null, .null, .null, .null, .null, .null, .int 0]))] := hD
  refine lv_dup hx hb dL_law_3 rfl ?_
  have hF : ∀ q, va_A [(qx, .inr (7, [.null, .null, .null, .null, .null, .null, .null, .int 0]))] H.size q → s.heap.size ≤ q := va_free (wc := [(qx, .inr (7, [.null, .null, .null, .null, .null, .null, .null, .int 0]))]) hD hS hA [0] rfl
  refine va_callv (va_runI (As := []) (rest := [.ref qx]) (own := RL) ⟨hx, hb, hml, hown, hts⟩ (c_X7_init l dC dI cI cZ cL qx H.size) (cwI 0 hts (good_t (by decide +kernel)) rfl rfl rfl (hts (.initialized RX7) (by decide +kernel)) (hts (.methodLink RL 19 yX7_init) (by decide +kernel)) (hts (.instanceMethod yX7_init) (by decide +kernel)) rfl (by decide +kernel) ⟨Nat.le_of_ble_eq_true rfl, Nat.le_of_ble_eq_true rfl⟩) ⟨cP_blind, fun U hU hW => ⟨rfl, by rw [hU], by rw [hU]; exact hP, va_K.moved hW.alike hK, hD.weaken (fun _ _ _ _ => trivial), nwP.warm hW hnw⟩⟩ rfl rfl hl.1 rfl (lv_room (Nat.le_of_ble_eq_true rfl)) dL_law_4 ⟨Nat.le_of_ble_eq_true rfl, Nat.le_of_ble_eq_true rfl⟩) hS (fun q _ h => hF q h) hF (fun u t H1 locs ht hvm hw hB hz1 hk1 hS => ?_)
  obtain ⟨hP1, hK1, hD1⟩ := hB
  rw [ht] at hP1
  obtain ⟨ax, ex0, rfl⟩ := hw
  have hDx : va_D (fun q : Nat => s.heap.size ≤ q) (wld ax cI cZ cL false sig0) := hD1.weaken (fun k q _ h => hF q.1 h)
  clear hP hD hF hk1 hz1
  subst ex0
  refine lv_astore_n (lv' := [(1, .ref (ax 0 0)), (0, .ref b)]) hx hb dL_law_7 rfl hl (by decide) rfl (fun ls hl => ?_)
  refine va_new (ci := 8) (fs := [.int 0, .int 0, .int 0, .int 0, .null, .null, .null, .int 0, .null, .null, .null, .null, .null, .int 0, .null, .null, .null, .null, .int 0, .null, .null, .null, .null, .int 0, .null, .null, .int 0, .null, .null, .null]) (C := RX8) (T := TX8) (N := 30) (own := RL) hx hb hts (fun w h => mw_tbl ((cls_ok (q := (RX8, TX8, 30)) (ci := 8) rfl).1 w h)) tyX8 tyX8_ok hown (hts (.classLink RL 20 RX8) (by decide +kernel)) (hts (.instantiable RX8 30) (by decide +kernel)) (hts (.initialized RX8) (by decide +kernel)) hK hP1 hDx hS hA rfl (by decide +kernel) (Nat.le_of_ble_eq_true rfl) (Nat.le_of_ble_eq_true rfl) dL_law_8 (fun qm H hP hD hS => ?_)
  refine lv_dup hx hb dL_law_11 rfl ?_
  have hPm := P_r hP
  have hDm := D_r hD
  have hF : ∀ q, va_A [(qm, .inr (8, [.int 0, .int 0, .int 0, .int 0, .null, .null, .null, .int 0, .null, .null, .null, .null, .null, .int 0, .null, .null, .null, .null, .int 0, .null, .null, .null, .null, .int 0, .null, .null, .int 0, .null, .null, .null]))] H.size q → s.heap.size ≤ q := va_free hDm hS hA [0] rfl
  refine va_callv (va_runI (As := []) (rest := [.ref qm]) (own := RL) ⟨hx, hb, hml, hown, hts⟩ (c_X8_init l dC dI cI cZ cL qm H.size) (cwI 0 hts (good_t (by decide +kernel)) rfl rfl rfl (hts (.initialized RX8) (by decide +kernel)) (hts (.methodLink RL 22 yX8_init) (by decide +kernel)) (hts (.instanceMethod yX8_init) (by decide +kernel)) rfl (by decide +kernel) ⟨Nat.le_of_ble_eq_true rfl, Nat.le_of_ble_eq_true rfl⟩) ⟨cP_blind, fun U hU hW => ⟨rfl, by rw [hU], by rw [hU]; exact hPm, va_K.moved hW.alike hK, hDm.weaken (fun _ _ _ _ => trivial), nwP.warm hW hnw⟩⟩ rfl rfl hl.1 rfl (lv_room (Nat.le_of_ble_eq_true rfl)) dL_law_12 ⟨Nat.le_of_ble_eq_true rfl, Nat.le_of_ble_eq_true rfl⟩) hS (fun q _ h => hF q h) hF (fun u t H2 locs ht hvm hw hB hz1 hk1 hS => ?_)
  obtain ⟨hP2, hK2, hD2⟩ := hB
  rw [ht] at hP2
  obtain ⟨am, em0, rfl⟩ := hw
  have hPx2 := P_keep (P_l hP) hk1 (fun k k' x y hx hy e9 => D_x hD hy hx e9.symm)
  have hDW : va_D (fun q : Nat => s.heap.size ≤ q) (wld ax cI cZ cL false sig0 ++ wld am cI cZ cL true (laysS tau0)) := va_D.app hDx (hD2.weaken (fun k q _ h => hF q.1 h)) (fun i j x y hx hy e9 => by
    rcases hD2.2 j y hy with ⟨k9, e8, h9⟩ | h9
    · exact D_x hD hx h9 e9
    · have h8 := (P_l hP i x hx).lt
      have h9 : H.size ≤ y.1 := h9
      omega)
  have hPW : va_P (dC, dI) cls (wld ax cI cZ cL false sig0 ++ wld am cI cZ cL true (laysS tau0)) H2 := hPx2.app hP2
  clear hP hD hF hk1 hz1 hPm hDm
  subst em0
  refine lv_astore_n (lv' := [(2, .ref (am 40 0)), (1, .ref (ax 0 0)), (0, .ref b)]) hx hb dL_law_15 rfl hl (by decide) rfl (fun ls hl => ?_)
  refine lv_iconst (v := 1) hx hb dL_law_16 (by decide) ?_
  refine nw_a (n := 1) (N' := 1) (atype := .long) (ty := .long) (cA := cJ) (a0 := (1, .inr (.inl (fun _ => 0)))) hx hb (hts (.arrayClass .long) (by decide +kernel)) rfl hK4 3 rfl hPW hDW hS hA (fun _ => rfl) (by decide) (by decide) (by decide) (Nat.le_of_ble_eq_true rfl) (Nat.le_of_ble_eq_true rfl) dL_law_17 (fun qo H hP hD hS => ?_)
  rw [List.append_assoc] at hP hD
  refine lv_astore_n (lv' := [(3, .ref qo), (2, .ref (am 40 0)), (1, .ref (ax 0 0)), (0, .ref b)]) hx hb dL_law_19 rfl hl (by decide) rfl (fun ls hl => ?_)
  refine lv_iconst (v := 0) hx hb dL_law_20 (by decide) ?_
  refine lv_istore (lv' := [(4, .int 0), (3, .ref qo), (2, .ref (am 40 0)), (1, .ref (ax 0 0)), (0, .ref b)]) hx hb dL_law_21 hl (by decide) rfl (fun ls hl => ?_)
  have hDD : ∀ (σ τ : mS) (fo : Nat → Int64), va_D (fun q : Nat => s.heap.size ≤ q) (WW ax am cI cZ cL cJ qo σ τ fo) := fun σ τ fo => ww_D (σ := sig0) (τ := laysS tau0) (fo := fun _ => 0) hD
  refine W.widen (k := 82 + 0) (n := 8002 + 6 * 0) (Nat.le_of_ble_eq_true rfl) (Nat.le_of_ble_eq_true rfl) ?_
  exact law_loop hst hL ⟨C0, hK4, hDD, hth, hcs9⟩ (L / 7 + 1) 0 (by omega) (by omega) sig0 (laysS tau0) (fun _ => 0) H _ ls rx_start ⟨P_l hP, P_l (P_r hP), P_r (P_r hP), hS⟩ (lv_sub hl [4, 3, 2, 1, 0] rfl)
