/-! CONSTRUCTORS: words, contracts, new arrays of a known class -/
def nwP (U : State) : Prop := va_Nw (.methodLinkNest RX7 11 yX2_init RX7) U ∧ va_Nw (.methodLinkNest RX0 33 yX4_init RX7) U ∧ va_Nw (.methodLinkNest RX7 36 yX1_init RX7) U ∧ va_AO RX4 U
theorem nwP.same {u U : State} (h : u.vm = U.vm) (q : nwP u) : nwP U := ⟨va_Nw.same rfl h q.1, va_Nw.same rfl h q.2.1, va_Nw.same rfl h q.2.2.1, va_AO.moved (by rw [h]; exact Vm.Alike.refl _) q.2.2.2⟩
theorem nwP.warm {s U : State} (hW : s.WarmedH U.vm) (q : nwP s) : nwP U := ⟨va_Nw.warmM hW q.1, va_Nw.warmM hW q.2.1, va_Nw.warmM hW q.2.2.1, va_AO.moved hW.alike q.2.2.2⟩
def wc (y : MethodName) (b : ByteArray) (n : Nat) : List Cond := Cond.code y b n none :: mw
theorem mem_m {w : Cond} (h : (decide (w ∈ lw_tbl) && goodWord w) = true) : w ∈ mw := by
  obtain ⟨h1, h2⟩ := and_t h
  exact List.mem_filter.mpr ⟨of_decide_eq_true h1, h2⟩
theorem mem_c {y : MethodName} {b : ByteArray} {n : Nat} {w : Cond} (h : (decide (w ∈ lw_tbl) && goodWord w) = true) : w ∈ wc y b n := List.mem_cons_of_mem _ (mem_m h)
theorem in_c {y : MethodName} {b : ByteArray} {n : Nat} (ci : Nat) {C : String} {T : u_T} {N : Nat} (h : cls[ci]? = some (C, T, N)) : ∀ w ∈ u_ws C T N, w ∈ wc y b n := fun w hw => List.mem_cons_of_mem _ ((cls_ok h).1 w hw)
theorem good_c {y y' : MethodName} {b b' : ByteArray} {n n' : Nat} (h : (decide (Cond.code y' b' n' none ∈ lw_tbl) && goodWord (Cond.code y' b' n' none)) = true) : GoodIn (wc y b n) (wc y' b' n') := by
  intro w hw
  rcases List.mem_cons.mp hw with q | q
  · rw [q]; exact ⟨mem_c h, mw_good (mem_m h)⟩
  · exact ⟨List.mem_cons_of_mem _ q, mw_good q⟩
theorem good_s {own : String} {idx : Nat} {y y' : MethodName} {b b' : ByteArray} {n n' : Nat} (h : (decide (Cond.code y' b' n' none ∈ lw_tbl) && goodWord (Cond.code y' b' n' none)) = true) (h2 : ([.methodLink own idx y', .static y', .initialized y'.cls] : List Cond).all (fun w => decide (w ∈ lw_tbl) && goodWord w) = true) : GoodIn (wc y b n) (va_wsS own idx y' (wc y' b' n')) := by
  intro w hw
  rcases List.mem_append.mp hw with q | q
  · have := List.all_eq_true.mp h2 w q
    exact ⟨mem_c this, mw_good (mem_m this)⟩
  · exact good_c h w q
def cPc (dC : Nat → ClassId) (dI : Nat → Nat → Nat) (cI cZ cL : ClassId) (av : List Value) (w0 : va_W) (sz : Nat) : Array Value → State → Prop := va_Pc av (fun U => U.heap.size = sz ∧ va_P (dC, dI) cls w0 U.heap ∧ va_K (dC, dI) cls (mtys cI cZ cL) U ∧ va_D (fun _ => True) w0 ∧ nwP U)
def cMet (l : Launch) (dC : Nat → ClassId) (dI : Nat → Nat → Nat) (cI cZ cL : ClassId) (y : MethodName) (ws : List Cond) (rm : Room) (av : List Value) (w0 : va_W) (post : va_W → Prop) (mc ms : Nat) : Prop :=
  ∀ sz, Met l y ws rm (cPc dC dI cI cZ cL av w0 sz) (va_Qv post (fun u t => va_P (dC, dI) cls u t.heap ∧ va_K (dC, dI) cls (mtys cI cZ cL) t ∧ va_D (va_A w0 sz) u) (va_A w0 sz)) mc ms (va_A w0 sz)
theorem cP_blind {dC : Nat → ClassId} {dI : Nat → Nat → Nat} {cI cZ cL : ClassId} {av : List Value} {w0 : va_W} {sz : Nat} : FrameBlind (cPc dC dI cI cZ cL av w0 sz) := fun a U g mk q => by
  obtain ⟨q0, q1, qP, qK, qD, qN⟩ := q
  exact ⟨q0, q1, qP, va_K.moved (u := U) (U := U.calling g mk a) (Vm.Alike.refl U.vm) qK, qD, nwP.same (u := U) rfl qN⟩
theorem ra_inj {s : State} {c1 c2 : ClassId} {ty : FieldType} (h1 : va_RA s c1 ty) (h2 : va_RA s c2 ty) : c1 = c2 := by
  cases ty with
  | object C =>
    obtain ⟨_, _, _, _, _, g1⟩ := h1
    obtain ⟨_, _, _, _, _, g2⟩ := h2
    exact Option.some.inj (g1.symm.trans g2)
  | _ => exact Option.some.inj (Eq.trans (Eq.symm h1) h2)
section NWA
variable {p : Program} {l : Launch} {e : Env} {R : Room} {s : State} {m : MethodId} {args : Array Value} {below : List Frame} {meth : Method} {c : Code} {H H0 : Heap} {locs : List Loc} {cells slots : Nat} {Q : State → Prop}
variable {cc : ByteArray} {pc : Nat} {ls : Array Slot} {rest : List Value} {D : va_G} {cl : List vw_C} {tys : List (ClassId × FieldType)} {ws : va_W} {A : Nat → Prop}
theorem nw_a (hexec : p.tables.exec = Jvm.exec) (hb : c.code = cc) {atype : ArrayType} (harr : (Cond.arrayClass (newarray.typeOf atype)).before args s = true) {ty : FieldType} (hty : newarray.typeOf atype = ty) (hK : va_K D cl tys s) (t0 : Nat) {cA : ClassId} (ht : tys[t0]? = some (cA, ty)) (hP : va_P D cl ws H) (hD : va_D A ws) (hS : va_S A H0 H locs) (hA : ∀ q, H0.size ≤ q → A q)
    {n : Int32} {N' : Nat} {a0 : vp_A} (ha : ∀ cA : ClassId, vp_cell cA a0 = arrV cA N' (fun _ => defaultValue ty)) (hn : ¬ n < 0) (hN : n.toNatClampNeg = N') (hbytes : N' * componentBytes ty ≤ 536870912) (hcells : cells + 1 ≤ R.cells) (hslots : slots + N' ≤ R.slots) (hdg : decode cc pc = .ok (.newarray atype, 2))
    (kk : ∀ (q : Nat) (H1 : Heap), va_P D cl (ws ++ [(q, .inl (cA, a0))]) H1 → va_D A (ws ++ [(q, .inl (cA, a0))]) → va_S A H0 H1 locs → W p l e R s m args below meth c H1 locs (cells + 1) (slots + N') Q (F0 m (pc + 2) ls (.ref q :: rest))) : W p l e R s m args below meth c H locs cells slots Q (F0 m pc ls (.int n :: rest)) :=
  va_newa hexec hb harr hty hK hP hD hS hA ha hn hN hbytes hcells hslots hdg (fun q cA' H1 hK' hP' hD' hS' => by
    have e9 : cA' = cA := ra_inj (hK'.2 tys.length (cA', ty) (by simp)).2 (hK.2 t0 _ ht).2
    subst e9
    exact kk q H1 hP' hD' hS')
theorem nw_q (hexec : p.tables.exec = Jvm.exec) (hb : c.code = cc) {own C : String} {index : Nat} (hown : s.vm.findClass own = some m.cls) (hclink : (Cond.classLink own index C).before args s = true) (hover : va_AO C s) (hK : va_K D cl tys s) (t0 : Nat) {cA : ClassId} (ht : tys[t0]? = some (cA, .object C)) (hP : va_P D cl ws H) (hD : va_D A ws) (hS : va_S A H0 H locs) (hA : ∀ q, H0.size ≤ q → A q)
    {n : Int32} {N' : Nat} (hn : ¬ n < 0) (hN : n.toNatClampNeg = N') (hbytes : N' * 4 ≤ 536870912) (hcells : cells + 1 ≤ R.cells) (hslots : slots + N' ≤ R.slots) (hdg : decode cc pc = .ok (.anewarray index, 3))
    (kk : ∀ (q : Nat) (H1 : Heap), va_P D cl (ws ++ [(q, .inl (cA, N', .inr (.inr (.inr (.inr (fun _ => none))))))]) H1 → va_D A (ws ++ [(q, .inl (cA, N', .inr (.inr (.inr (.inr (fun _ => none))))))]) → va_S A H0 H1 locs → W p l e R s m args below meth c H1 locs (cells + 1) (slots + N') Q (F0 m (pc + 3) ls (.ref q :: rest))) : W p l e R s m args below meth c H locs cells slots Q (F0 m pc ls (.int n :: rest)) :=
  va_newq hexec hb hown hclink hover hK hP hD hS hA hn hN hbytes hcells hslots hdg (fun q cA' H1 hK' hP' hD' hS' => by
    have e9 : cA' = cA := ra_inj (hK'.2 tys.length (cA', .object C) (by simp)).2 (hK.2 t0 _ ht).2
    subst e9
    exact kk q H1 hP' hD' hS')
theorem va_Parr (hP : va_P D cl ws H) (hD : va_D A ws) (k : Nat) {a : Nat} {cA : ClassId} {n : Nat} {f : Nat → Option Nat} (h : ws[k]? = some (a, .inl (cA, n, .inr (.inr (.inr (.inr f)))))) {g : Nat → Option Nat} (hfg : ∀ j, j < n → f j = g j) : va_P D cl (ws.set k (a, .inl (cA, n, .inr (.inr (.inr (.inr g)))))) H := by
  refine hP.set hD h ?_ (fun q _ => rfl)
  have h1 : H[a]? = some (vp_cell cA (n, .inr (.inr (.inr (.inr f))))) := hP k _ h
  show H[a]? = some (vp_cell cA (n, .inr (.inr (.inr (.inr g)))))
  rw [h1, vp_cell_q, vp_cell_q]
  have : (fun j : Fin n => va_rf (f j.val)) = fun j : Fin n => va_rf (g j.val) := by
    funext j
    rw [hfg j.val j.isLt]
  unfold arrV
  rw [this]
end NWA
set_option maxHeartbeats 4000000 in
set_option maxRecDepth 100000 in
/-- Arrays.fill of ints -/
theorem c_fill (l : Launch) (dC : Nat → ClassId) (dI : Nat → Nat → Nat) (cI cZ cL : ClassId) (h0 n : Nat) (hn : n < 2 ^ 31) (f : Nat → Int32) (v : Int32) : cMet l dC dI cI cZ cL yJ7_fill_53178 (wc yJ7_fill_53178 cJ7_fill_53178 4) { frames := 0, cells := 0, slots := 0, locals := 0 } [.ref h0, .int v] [(h0, .inl (cI, n, .inl f))] (fun u => u = [(h0, .inl (cI, n, .inl (fil f v n)))]) 0 0 := by
  intro sz
  refine Met.ofW (cc := cJ7_fill_53178) (maxL := 4) (ret := none) (by decide) rfl ?_
  intro p e s m args below meth c s₁ B hml hv
  obtain ⟨rfl, hsz, hP, hK, hD0, hnw⟩ := hv
  have hx := B.exec
  have hb := B.bytes
  have hr := B.returns
  have hts := atoms_spec (ws := wc yJ7_fill_53178 cJ7_fill_53178 4) B.pre
  have hlocks := B.notSynchronized
  subst hsz
  have hD := hD0.self (sz := s.heap.size)
  generalize hAe : va_A [(h0, .inl (cI, n, .inl f))] s.heap.size = A at hD ⊢
  have hA : ∀ q : Nat, s.heap.size ≤ q → A q := fun q h => by rw [← hAe]; exact Or.inr h
  have hS : va_S A s.heap s.heap [] := va_S.rf
  have hl := lv_entry ([.ref h0, .int v]) (n := 4) (Nat.le_of_ble_eq_true rfl)
  rw [lg_entry_eq]
  generalize (lg_sl ([.ref h0, .int v]) ++ List.replicate (4 - (lg_sl ([.ref h0, .int v])).length) Slot.unset).toArray = ls at hl ⊢
  have hl : lv_has ls 4 [(0, .ref h0), (1, .int v)] := hl
  refine lv_iconst (v := 0) hx hb dJ7_fill_53178_0 (by decide) ?_
  refine lv_istore_n hx hb dJ7_fill_53178_1 rfl hl (by decide) rfl (fun ls hl => ?_)
  have hl : lv_has ls 4 [(2, .int 0), (0, .ref h0), (1, .int v)] := hl
  refine lv_aload_n hx hb dJ7_fill_53178_2 rfl (lv_at hl 1 rfl) ?_
  refine va_alen (D := (dC, dI)) hx hb hK hP 0 0 rfl rfl rfl dJ7_fill_53178_3 ?_
  refine lv_istore_n hx hb dJ7_fill_53178_4 rfl hl (by decide) rfl (fun ls hl => ?_)
  have hl : lv_has ls 4 [(3, .int (nI n)), (2, .int (nI 0)), (0, .ref h0), (1, .int v)] := hl
  have hP : va_P (dC, dI) cls [(h0, .inl (cI, n, .inl (fil f v 0)))] s.heap := by rw [fil_0]; exact hP
  have hD : va_D A [(h0, .inl (cI, n, .inl (fil f v 0)))] := by rw [fil_0]; exact hD
  have key : ∀ (d i : Nat), n - i = d → i ≤ n → ∀ (H : Heap) (locs : List Loc) (ls : Array Slot), lv_has ls 4 [(3, .int (nI n)), (2, .int (nI i)), (0, .ref h0), (1, .int v)] → va_P (dC, dI) cls [(h0, .inl (cI, n, .inl (fil f v i)))] H → va_D A [(h0, .inl (cI, n, .inl (fil f v i)))] → va_S A s.heap H locs →
      W p l e (headSpec (wc yJ7_fill_53178 cJ7_fill_53178 4) { frames := 0, cells := 0, slots := 0, locals := 0 }).room s m ([Value.ref h0, Value.int v] : List Value).toArray below meth c H locs 0 0 (MQ below (va_Qv (fun u => u = [(h0, .inl (cI, n, .inl (fil f v n)))]) (fun u t => va_P (dC, dI) cls u t.heap ∧ va_K (dC, dI) cls (mtys cI cZ cL) t ∧ va_D A u) A) ([Value.ref h0, Value.int v] : List Value).toArray s 0 0 A) (F0 m 5 ls []) := by
    intro d
    induction d with
    | zero =>
      intro i hd hi H locs ls hl hP hD hS
      have hi : i = n := by omega
      subst hi
      refine lv_iload_n hx hb dJ7_fill_53178_5 rfl (lv_at hl 1 rfl) ?_
      refine lv_iload_n hx hb dJ7_fill_53178_6 rfl (lv_at hl 0 rfl) ?_
      refine lv_icmp_ge hx hb dJ7_fill_53178_7 (show ((7 : Nat) : Int) + 13 = ((20 : Nat) : Int) from by decide) (fun _ => ?_) (fun q => absurd (nI_le (Nat.le_refl _) hn) q)
      exact W.vret hx hb hr (fun t ht hW => ⟨⟨_, rfl, rfl, by rw [ht]; exact hP, va_K.moved hW.alike hK, hD⟩, hS.F ht⟩) hS.2.2 dJ7_fill_53178_20
    | succ d ih =>
      intro i hd hi H locs ls hl hP hD hS
      refine lv_iload_n hx hb dJ7_fill_53178_5 rfl (lv_at hl 1 rfl) ?_
      refine lv_iload_n hx hb dJ7_fill_53178_6 rfl (lv_at hl 0 rfl) ?_
      refine lv_icmp_ge hx hb dJ7_fill_53178_7 (show ((7 : Nat) : Int) + 13 = ((20 : Nat) : Int) from by decide) (fun q => absurd q (nI_ge (by omega) hn)) (fun _ => ?_)
      refine lv_aload_n hx hb dJ7_fill_53178_10 rfl (lv_at hl 2 rfl) ?_
      refine lv_iload_n hx hb dJ7_fill_53178_11 rfl (lv_at hl 1 rfl) ?_
      refine lv_iload_n hx hb dJ7_fill_53178_12 rfl (lv_at hl 3 rfl) ?_
      refine va_iast (D := (dC, dI)) hx hb hK hP hD hS 0 0 rfl rfl (vp_in_nI (n := i) (N := n) (by omega) hn) dJ7_fill_53178_13 (fun H locs hP hD hS => ?_)
      rw [nI_cl (by omega), fil_s] at hP hD
      refine lv_iinc (v := nI (i + 1)) (k := 1) hx hb dJ7_fill_53178_14 hl rfl (nI_1 i) (by decide) rfl (fun ls hl => ?_)
      refine lv_goto hx hb dJ7_fill_53178_17 (show ((17 : Nat) : Int) + (-12) = ((5 : Nat) : Int) from by decide) ?_
      exact ih (i + 1) (by omega) (by omega) H locs ls (lv_sub hl [1, 0, 2, 3] rfl) hP hD hS
  exact key n 0 rfl (Nat.zero_le _) s.heap [] ls hl hP hD hS
