def R_law : String := "MovingBanksLaw"
def lw_P (b : Addr) (xs : List Int32) (args : Array Value) (s : State) : Prop := args = #[.ref b] ∧ s.IntsAt b xs ∧ xs.length ≤ 3584 ∧ (Jvm.Cond.and given_1 narrow_1).before args s = true
def lw_Q (_ : Array Value) (s : State) (o : Outcome) (t : State) : Prop := o = .returned (some (.int 1)) ∧ Framed s o t [] 601024 7293034
def lw_Z (below : List Frame) (a : Array Value) (s : State) : State → Prop := fun t => ∃ o, t.status = .running ∧ Ended t below o ∧ lw_Q a s o t
/-- the law's own end, with 1 on the stack, nothing written that was there before, its room as the claim has it -/
theorem lw_ret {p : Program} {l : Launch} {e : Env} {s : State} {m : MethodId} {below : List Frame} {meth : Method} {c : Code} {b : Nat} (hx : p.tables.exec = Jvm.exec) (hb : c.code = code) (hr : meth.sig.returnType = ret) (hlocks : meth.locks = false) {pc : Nat} {H : Heap} {ls : Array Slot} (hdg : decode code pc = .ok (.ireturn, 1)) : W p l e room_1 s m #[Value.ref b] below meth c H [] 601024 7293034 (lw_Z below #[Value.ref b] s) (F0 m pc ls [.int 1]) := by
  intro T hT X
  obtain ⟨fs, hret, hrun, hended, hW, hframe⟩ := X.leave (v := some (.int 1)) (hlocks := hlocks) (fun h => by rw [hr] at h; cases h)
  have hmeth' : T.vm.method? m = some meth := X.method'
  refine ⟨T.setFrames fs, ?_, .returned (some (.int 1)), hrun, hended, rfl, ⟨_, rfl⟩, hW, hframe⟩
  jvm_step X.here [X.here.top, hx, hb, hdg, hmeth', hr, ret, narrow_b1]
  (try refine ⟨rfl, ?_⟩); (try refine ⟨rfl, ?_⟩)
  first | (intro acts; rw [hret _ acts rfl rfl rfl]) | rw [hret _ _ rfl rfl rfl]
  exact Steps.refl _
/-- what holds at the law's entry: the machine, the code, the tables' words (any of lw_tbl by 'hts w (by decide +kernel)'), the script of L ints xs at the cell b, what the Statement gives of the start (any of its parts by flat_of_before) -/
def lw_At (p : Program) (s : State) (m : MethodId) (meth : Method) (c : Code) (b L : Nat) (xs : Nat → Int32) : Prop :=
  p.tables.exec = Jvm.exec ∧ c.code = code ∧ meth.sig.returnType = ret ∧ c.maxLocals = 7 ∧ s.vm.findClass R_law = some m.cls ∧ (∀ w ∈ lw_tbl, w.before #[Value.ref b] s = true) ∧ va_X b L xs s s.heap ∧ b < s.heap.size ∧ meth.locks = false ∧ (Jvm.Cond.and given_1 narrow_1).before #[Value.ref b] s = true

theorem mw_tbl {w : Cond} (h : w ∈ mw) : w ∈ lw_tbl := (List.mem_filter.mp h).1
def WW (ax am : Nat → Nat → Nat) (cI cZ cL cJ : ClassId) (qo : Nat) (σ τ : mS) (fo : Nat → Int64) : va_W := wld ax cI cZ cL false σ ++ (wld am cI cZ cL true τ ++ lmO cJ qo fo)
/-- what stands through the whole law -/
def LC (p : Program) (s : State) (m : MethodId) (meth : Method) (c : Code) (b L : Nat) (xs : Nat → Int32) (dC : Nat → ClassId) (dI ax am : Nat → Nat → Nat) (cI cZ cL cJ : ClassId) (qo : Nat) : Prop :=
  lw_At p s m meth c b L xs ∧ va_K (dC, dI) cls (ty4 cI cZ cL cJ) s ∧ (∀ (σ τ : mS) (fo : Nat → Int64), va_D (fun q : Nat => s.heap.size ≤ q) (WW ax am cI cZ cL cJ qo σ τ fo)) ∧ thP (fun q : Nat => s.heap.size ≤ q) s s.heap ∧ va_Nw (.castable nsE nsE) s
/-- what holds between two calls -/
def LI (s : State) (dC : Nat → ClassId) (dI ax am : Nat → Nat → Nat) (cI cZ cL cJ : ClassId) (qo : Nat) (σ τ : mS) (fo : Nat → Int64) (H : Heap) (locs : List Loc) : Prop :=
  va_P (dC, dI) cls (wld ax cI cZ cL false σ) H ∧ va_P (dC, dI) cls (wld am cI cZ cL true τ) H ∧ va_P (dC, dI) cls (lmO cJ qo fo) H ∧ va_S (fun q : Nat => s.heap.size ≤ q) s.heap H locs
abbrev lw5 (b : Nat) (ax am : Nat → Nat → Nat) (qo : Nat) (i : Int32) : List (Nat × Value) := [(0, .ref b), (1, .ref (ax 0 0)), (2, .ref (am 40 0)), (3, .ref qo), (4, .int i)]
section LWC
variable {p : Program} {l : Launch} {e : Env} {s : State} {m : MethodId} {below : List Frame} {meth : Method} {c : Code} {b L : Nat} {xs : Nat → Int32} {Q : State → Prop}
variable {dC : Nat → ClassId} {dI ax am : Nat → Nat → Nat} {cI cZ cL cJ : ClassId} {qo : Nat}
theorem l_call {ad : Nat → Nat → Nat} {bb : Bool} (C0 : lw_At p s m meth c b L xs) (hK : va_K (dC, dI) cls (mtys cI cZ cL) s) {σ : mS} {H : Heap} {locs : List Loc} (hP : va_P (dC, dI) cls (wld ad cI cZ cL bb σ) H) (hD : va_D (fun q : Nat => s.heap.size ≤ q) (wld ad cI cZ cL bb σ)) (hS : va_S (fun q : Nat => s.heap.size ≤ q) s.heap H locs)
    (j g N : Nat) {C : String} {T : u_T} {fs : List (Option Nat)} (hC : cls[mcl j]? = some (C, T, N)) (hsh : shp g = some (.inl (mcl j, fs))) (hg : (g, 0) ∈ mcs bb) {As : List mV} {post : Option mV → mS → Prop} (hE : Ev j (mR g 0 :: As) σ post) (hj : j < 146) (hne : j ≠ kX7_moved ∧ j ≠ kX7_row) (hlen : (mlv (mR g 0 :: As)).length ≤ mml j) (hAs : ∀ v ∈ As, vok bb v)
    (idx n : Nat) (hw2 : ([.methodLink RL idx (ycd j), .instanceMethod (ycd j), .selects C (ycd j) (ycd j), .initialized C] : List Cond).all (fun w => decide (w ∈ lw_tbl) && goodWord w) = true) (hn : As.length = n) (hd : (ycd j).cls = C ∧ (ycd j).cls ≠ "java/lang/invoke/MethodHandle" ∧ (ycd j).cls ≠ "java/lang/invoke/VarHandle" ∧ (parseMethodDescriptor (ycd j).desc).map (fun d => d.parameters.length) = some n) (hroom : rmf j + 1 ≤ 11 ∧ 8 + (mml j + 11) + rml j ≤ 432)
    {cells slots : Nat} (hcs : cells ≤ 601024 ∧ slots ≤ 7293034) {pc : Nat} {ls : Array Slot} {rest : List Value} (hlsz : ls.size = 7) (hrest : (rest.map fun v => v.category).sum ≤ 8) (hdec : decode code pc = .ok (.invokevirtual idx, 3))
    (kk : ∀ (r : Option mV) (σ' : mS) (H1 : Heap) (locs1 : List Loc), post r σ' → va_P (dC, dI) cls (wld ad cI cZ cL bb σ') H1 → va_S (fun q : Nat => s.heap.size ≤ q) s.heap H1 locs1 → (∀ q : Nat, q < H.size → ¬ va_A (wld ad cI cZ cL bb σ) H.size q → H1[q]? = H[q]?) → W p l e room_1 s m #[Value.ref b] below meth c H1 locs1 cells slots Q (F0 m (pc + 3) ls ((r.map (mval ad)).toList ++ rest))) :
    W p l e room_1 s m #[Value.ref b] below meth c H locs cells slots Q (F0 m pc ls ((As.map (mval ad)).reverse ++ .ref (ad g 0) :: rest)) := by
  obtain ⟨hx, hb, hr, hml, hown, hts, hX, hbl, hlocks, hgv⟩ := C0
  have hA : ∀ q : Nat, s.heap.size ≤ q → (fun q : Nat => s.heap.size ≤ q) q := fun _ h => h
  have hM := sound (l := l) (dC := dC) (dI := dI) (ad := ad) (cI := cI) (cZ := cZ) (cL := cL) (b := bb) hE hj hne hlen (fun v hv => by
    rcases List.mem_cons.mp hv with rfl | hv
    · exact hg
    · exact hAs v hv) H.size
  have hF := wld_free hD hS hA
  obtain ⟨q0, hq, hat⟩ := wld_at (ad := ad) (cI := cI) (cZ := cZ) (cL := cL) (σ := σ) hg
  rw [mcell_obj hsh] at hat
  have hrecv := va_recv hK hP hC hat
  refine m_callG (va_runV (As := As.map (mval ad)) (rest := rest) (b := ad g 0) (C := C) (n := n) (own := RL) ⟨hx, hb, hml, hown, hts⟩ hM (cwV n hts (good_v (fun w h => mw_tbl h) hj hw2) rfl rfl rfl hd hroom)
    ⟨mPc_blind, hrecv, fun U hU hW => ⟨rfl, by rw [hU], by rw [hU]; exact hP, va_K.moved hW.alike hK, hD.weaken (fun _ _ _ _ => trivial)⟩⟩ rfl (by rw [List.length_map]; exact hn) hlsz rfl (lv_room hrest) hdec ⟨hcs.1, hcs.2⟩) hS (fun q _ z => hF q z) hF (fun r σ' H1 locs1 hv9 hp9 hP9 hS9 hz9 hk9 => kk r σ' H1 locs1 hp9 hP9 hS9 hk9)
/-- a call on the class's object -/
theorem lx_call (hC0 : LC p s m meth c b L xs dC dI ax am cI cZ cL cJ qo) {σ τ : mS} {fo : Nat → Int64} {H : Heap} {locs : List Loc} (hI : LI s dC dI ax am cI cZ cL cJ qo σ τ fo H locs) (j : Nat) (hcl : mcl j = 7) {As : List mV} {post : Option mV → mS → Prop} (hE : Ev j (xX :: As) σ post) (hj : j < 146) (hne : j ≠ kX7_moved ∧ j ≠ kX7_row) (hlen : (mlv (xX :: As)).length ≤ mml j) (hAs : ∀ v ∈ As, vok false v)
    (idx n : Nat) (hw2 : ([.methodLink RL idx (ycd j), .instanceMethod (ycd j), .selects RX7 (ycd j) (ycd j), .initialized RX7] : List Cond).all (fun w => decide (w ∈ lw_tbl) && goodWord w) = true) (hn : As.length = n) (hd : (ycd j).cls = RX7 ∧ (ycd j).cls ≠ "java/lang/invoke/MethodHandle" ∧ (ycd j).cls ≠ "java/lang/invoke/VarHandle" ∧ (parseMethodDescriptor (ycd j).desc).map (fun d => d.parameters.length) = some n) (hroom : rmf j + 1 ≤ 11 ∧ 8 + (mml j + 11) + rml j ≤ 432)
    {cells slots : Nat} (hcs : cells ≤ 601024 ∧ slots ≤ 7293034) {pc : Nat} {ls : Array Slot} {rest : List Value} (hlsz : ls.size = 7) (hrest : (rest.map fun v => v.category).sum ≤ 8) (hdec : decode code pc = .ok (.invokevirtual idx, 3))
    (kk : ∀ (r : Option mV) (σ' : mS) (H1 : Heap) (locs1 : List Loc), post r σ' → LI s dC dI ax am cI cZ cL cJ qo σ' τ fo H1 locs1 → W p l e room_1 s m #[Value.ref b] below meth c H1 locs1 cells slots Q (F0 m (pc + 3) ls ((r.map (mval ax)).toList ++ rest))) :
    W p l e room_1 s m #[Value.ref b] below meth c H locs cells slots Q (F0 m pc ls ((As.map (mval ax)).reverse ++ .ref (ax 0 0) :: rest)) := by
  obtain ⟨C0, hK4, hDD, hth, hcs9⟩ := hC0
  obtain ⟨hPx, hPm, hPo, hS⟩ := hI
  have hD9 := hDD σ τ fo
  exact l_call C0 (ty4_m hK4) hPx (D_l hD9) hS j 0 8 (C := RX7) (T := TX7) (by rw [hcl]; rfl) (by rw [hcl]; rfl) (by decide) hE hj hne hlen hAs idx n hw2 hn hd hroom hcs hlsz hrest hdec (fun r σ' H1 locs1 hp hP1 hS1 hk => kk r σ' H1 locs1 hp ⟨hP1, P_keep hPm hk (fun k k' x y hx hy => D_x hD9 hx (app_l hy)), P_keep hPo hk (fun k k' x y hx hy => D_x hD9 hx (app_r hy)), hS1⟩)
/-- a call on the reference -/
theorem lm_call (hC0 : LC p s m meth c b L xs dC dI ax am cI cZ cL cJ qo) {σ τ : mS} {fo : Nat → Int64} {H : Heap} {locs : List Loc} (hI : LI s dC dI ax am cI cZ cL cJ qo σ τ fo H locs) (j : Nat) (hcl : mcl j = 8) {As : List mV} {post : Option mV → mS → Prop} (hE : Ev j (mM :: As) τ post) (hj : j < 146) (hne : j ≠ kX7_moved ∧ j ≠ kX7_row) (hlen : (mlv (mM :: As)).length ≤ mml j) (hAs : ∀ v ∈ As, vok true v)
    (idx n : Nat) (hw2 : ([.methodLink RL idx (ycd j), .instanceMethod (ycd j), .selects RX8 (ycd j) (ycd j), .initialized RX8] : List Cond).all (fun w => decide (w ∈ lw_tbl) && goodWord w) = true) (hn : As.length = n) (hd : (ycd j).cls = RX8 ∧ (ycd j).cls ≠ "java/lang/invoke/MethodHandle" ∧ (ycd j).cls ≠ "java/lang/invoke/VarHandle" ∧ (parseMethodDescriptor (ycd j).desc).map (fun d => d.parameters.length) = some n) (hroom : rmf j + 1 ≤ 11 ∧ 8 + (mml j + 11) + rml j ≤ 432)
    {cells slots : Nat} (hcs : cells ≤ 601024 ∧ slots ≤ 7293034) {pc : Nat} {ls : Array Slot} {rest : List Value} (hlsz : ls.size = 7) (hrest : (rest.map fun v => v.category).sum ≤ 8) (hdec : decode code pc = .ok (.invokevirtual idx, 3))
    (kk : ∀ (r : Option mV) (τ' : mS) (H1 : Heap) (locs1 : List Loc), post r τ' → LI s dC dI ax am cI cZ cL cJ qo σ τ' fo H1 locs1 → W p l e room_1 s m #[Value.ref b] below meth c H1 locs1 cells slots Q (F0 m (pc + 3) ls ((r.map (mval am)).toList ++ rest))) :
    W p l e room_1 s m #[Value.ref b] below meth c H locs cells slots Q (F0 m pc ls ((As.map (mval am)).reverse ++ .ref (am 40 0) :: rest)) := by
  obtain ⟨C0, hK4, hDD, hth, hcs9⟩ := hC0
  obtain ⟨hPx, hPm, hPo, hS⟩ := hI
  have hD9 := hDD σ τ fo
  exact l_call C0 (ty4_m hK4) hPm (D_l (D_r hD9)) hS j 40 30 (C := RX8) (T := TX8) (by rw [hcl]; rfl) (by rw [hcl]; rfl) (by decide) hE hj hne hlen hAs idx n hw2 hn hd hroom hcs hlsz hrest hdec (fun r σ' H1 locs1 hp hP1 hS1 hk => kk r σ' H1 locs1 hp ⟨P_keep hPx hk (fun k k' x y hx hy e => D_x hD9 hy (app_l hx) e.symm), hP1, P_keep hPo hk (fun k k' x y hx hy => D_x (D_r hD9) hx hy), hS1⟩)
theorem l_vin {k t : Nat} (ht : t < 7) (hk : 7 * k + 7 ≤ L) (hL : L ≤ 3584) : vp_in (nI (7 * k) + nI t) L := by
  rw [nI_add]
  exact vp_in_nI (by omega) (by omega)
end LWC
