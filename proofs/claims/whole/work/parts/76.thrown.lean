/-! MOVED AND ROW OF THE CLASS, WHICH MAY THROW -/
theorem Ev.inv {k : Nat} {a : List mV} {σ : mS} {post : Option mV → mS → Prop} (hv : Ev k a σ post) : ∀ G, mCl Ev k post G → G 0 (mini (mml k) a) [] σ := by
  refine hv (fun k a σ post => ∀ G, mCl Ev k post G → G 0 (mini (mml k) a) [] σ) ?_
  intro k a σ post h G hG
  exact h G (fun pc L st σ q => hG pc L st σ (mstep_mono (fun j a σ p z => Ev.intro z) (fun _ _ z => z) (fun _ _ _ _ z => z) pc L st σ q))
/-- the words that the throw needs -/
def nsW : List Cond := Cond.classLink RX7 236 nsE :: Cond.initialized nsE :: (Bundle.throwableAtoms.filter vx_no ++ (Bundle.throwableSAtoms ++ ([.instanceMethod (Bundle.initS nsE), .code (Bundle.initS nsE) ns13 2 none, .methodLink nsE 13 (Bundle.initS nsR), .instanceMethod (Bundle.initS nsR), .code (Bundle.initS nsR) Bundle.six 2 none, .methodLink nsR 7 (Bundle.initS nsX), .instanceMethod (Bundle.initS nsX), .code (Bundle.initS nsX) Bundle.six 2 none, .methodLink nsX 7 (Bundle.initS Bundle.tN)] ++ nsLast RX7 240)))
theorem ns_in : nsW.all (fun w => decide (w ∈ lw_tbl)) = true := by decide +kernel
theorem ns_gd : nsW.all goodWord = true := by decide +kernel
theorem ns_mw {w : Cond} (h : w ∈ nsW) : w ∈ mw := List.mem_filter.mpr ⟨of_decide_eq_true (List.all_eq_true.mp ns_in w h), List.all_eq_true.mp ns_gd w h⟩
section NST
variable {p : Program} {l : Launch} {e : Env} {R : Room} {s : State} {m : MethodId} {args : Array Value} {below : List Frame} {meth : Method} {c : Code} {H : Heap} {locs : List Loc} {cells slots : Nat}
variable {free : Addr → Prop} {ls : Array Slot} {rest : List Value} {Qc : Array Value → State → Outcome → State → Prop} {XC : String → State → State → Prop}
set_option maxHeartbeats 4000000 in
/-- throw new NoSuchElementException(a text) -/
theorem ns_throw {cc : ByteArray} {pc : Nat} (hexec : p.tables.exec = Jvm.exec) (hb : c.code = cc) (hl : l.stackTraces = false) {text : String} {is mc ms sa : Nat} {A : Nat → Prop}
    (hown : s.vm.findClass RX7 = some m.cls) (hwd : ∀ w ∈ nsW, w.before args s = true) (hstr : vk_R RX7 is text sa s)
    (hU : vx_Zq Bundle.tN "UNASSIGNED_STACK" Bundle.steD A s s.heap) (hN : vx_Zq Bundle.tN "SUPPRESSED_SENTINEL" Bundle.listD A s s.heap) (hS : va_S A s.heap H locs) (hsize : ls.size = c.maxLocals)
    (d0 : decode cc pc = .ok (.new 236, 3)) (d3 : decode cc (pc + 3) = .ok (.dup, 1)) (d4 : decode cc (pc + 4) = .ok (.ldc is, 2)) (d6 : decode cc (pc + 6) = .ok (.invokespecial 240, 3)) (d9 : decode cc (pc + 9) = .ok (.athrow, 1))
    (hout : ∀ x ∈ c.exceptionTable.toList, covers x (pc + 9) = false)
    (hRframes : 5 < R.frames) (hRlocals : (rest.map fun v => v.category).sum + 82 ≤ R.locals) (hRcells : cells + 1 ≤ R.cells) (hRslots : slots + 6 ≤ R.slots) (hlocks : meth.locks = false)
    (hx : ∀ t : State, s.vm.Alike t.vm → H.size ≤ t.heap.size → (∀ q : Nat, q < H.size → t.heap[q]? = H[q]?) → XC nsE s t)
    (hf : ∀ z ∈ locs, free z.base) (hc : cells + 1 ≤ mc) (hs : slots + 6 ≤ ms) :
    W p l e R s m args below meth c H locs cells slots (vx_MQ below Qc XC args s mc ms free) (F0 m pc ls rest) := by
  intro T hT X
  have htr : e.platform.stackTraces = false := (show e.platform.stackTraces = l.stackTraces by rw [X.admits.platform]).trans hl
  have Y := vx_rebase X (R' := { frames := R.frames, locals := R.locals, cells := 1, slots := 6 }) (Nat.le_refl _) (Nat.le_refl _) hRcells hRslots
  obtain ⟨s', hA⟩ : ∃ z, z = (T.setVm s.vm).setFrames (.invoking m args :: below) := ⟨_, rfl⟩
  rw [← hA] at Y
  have hvm : s'.vm = s.vm := by rw [hA]; rfl
  have hhp : s'.heap = H := by rw [hA]; exact hT
  have hW0 : s.WarmedH s'.vm := by rw [hvm]; exact State.WarmedH.refl s
  have hw' : ∀ w ∈ nsW, w.before args s' = true := fun w hw => word_at hW0 (good_of_word (List.all_eq_true.mp ns_gd w hw)) (hwd w hw)
  have hU' : vx_Zq Bundle.tN "UNASSIGNED_STACK" Bundle.steD A s' s'.heap := by rw [hhp]; exact vx_Zq.moved hW0.alike (hU.kept hS.2.1)
  have hN' : vx_Zq Bundle.tN "SUPPRESSED_SENTINEL" Bundle.listD A s' s'.heap := by rw [hhp]; exact vx_Zq.moved hW0.alike (hN.kept hS.2.1)
  have hT9 : ∀ w ∈ Bundle.throwableAtoms, w.before args s' = true := vx_own (fun w hw => hw' w (List.mem_cons_of_mem _ (List.mem_cons_of_mem _ (List.mem_append_left _ hw)))) (vx_isRefq hU'.1) (vx_isRefq hN'.1) hU'.2.word hN'.2.word
  have hTS : ∀ w ∈ Bundle.throwableSAtoms, w.before args s' = true := fun w hw => hw' w (List.mem_cons_of_mem _ (List.mem_cons_of_mem _ (List.mem_append_right _ (List.mem_append_left _ hw))))
  have hm : ∀ w ∈ [Cond.instanceMethod (Bundle.initS nsE), .code (Bundle.initS nsE) ns13 2 none, .methodLink nsE 13 (Bundle.initS nsR), .instanceMethod (Bundle.initS nsR), .code (Bundle.initS nsR) Bundle.six 2 none, .methodLink nsR 7 (Bundle.initS nsX), .instanceMethod (Bundle.initS nsX), .code (Bundle.initS nsX) Bundle.six 2 none, .methodLink nsX 7 (Bundle.initS Bundle.tN)], w.before args s' = true := fun w hw => hw' w (List.mem_cons_of_mem _ (List.mem_cons_of_mem _ (List.mem_append_right _ (List.mem_append_right _ (List.mem_append_left _ hw)))))
  have hla : ∀ w ∈ nsLast RX7 240, w.before args s' = true := fun w hw => hw' w (List.mem_cons_of_mem _ (List.mem_cons_of_mem _ (List.mem_append_right _ (List.mem_append_right _ (List.mem_append_right _ hw)))))
  have hp1 : ∀ w ∈ Bundle.passSAtoms nsE nsR 13 ns13, w.before args s' = true := ns_pass (hm _ (by simp)) (hm _ (by simp)) (hm _ (by simp)) (hm _ (by simp)) (by' := Bundle.six) (n := 2) (hm _ (by simp))
  have hp2 : ∀ w ∈ Bundle.chainSAtoms nsR [nsX], w.before args s' = true := by
    intro w hw
    simp only [Bundle.chainSAtoms] at hw
    rcases List.mem_append.mp hw with q | q
    · exact ns_pass (by' := Bundle.six) (n := 2) (hm _ (by simp)) (hm _ (by simp)) (hm _ (by simp)) (hm _ (by simp)) (hm _ (by simp)) w q
    · exact ns_pass (by' := Jvm.LibCode.Throwable.InitS.code) (n := 2) (hm _ (by simp)) (hm _ (by simp)) (hm _ (by simp)) (hTS _ (by simp [Bundle.throwableSAtoms])) (hTS _ (by simp [Bundle.throwableSAtoms])) w q
  have hown' : s'.vm.findClass RX7 = some m.cls := by rw [hvm]; exact hown
  have hins : (Cond.instantiable nsE 6).before args s' = true := hla _ (by simp [nsLast])
  obtain ⟨vm₁, cX, kX, hfX, hkX, -, -, X₁, st1⟩ := Y.newCold hexec (own := RX7) (C := nsE) (index := 236) (n := 6) hown' (hw' _ List.mem_cons_self) hins (hw' _ (List.mem_cons_of_mem _ List.mem_cons_self))
    (g := F0 m pc ls rest) rfl (by rw [hb]; exact d0) (Nat.le_refl _) (Nat.le_refl _)
  generalize hT1 : (T.setVm vm₁).pushCell { cls := cX, slots := kX.instanceTypes.map defaultValue, vm := .none } = T1 at X₁ st1
  have hcat : (Value.ref T.heap.size).category = 1 := rfl
  have hcellA : T1.heap[T.heap.size]? = some (freshCell cX kX) := by rw [← hT1]; exact State.heap_pushCell_size _ _
  have d3' : decode c.code (pc + 3) = .ok (.dup, 1) := by rw [hb]; exact d3
  have d4' : decode c.code (pc + 4) = .ok (.ldc is, 2) := by rw [hb]; exact d4
  have hstr' : vk_R RX7 is text sa s' := vk_R.warm hW0 hstr
  obtain ⟨U, hsteps, hrun, hend, hW, hsame, ce, hce, hcv, hO⟩ := ns_ctor X₁ hexec htr (own := RX7) (ic := 240) hown' hT9 hTS hp1 hp2 hla (vx_isRefq hU'.1) (vx_isRefq hN'.1) (fun x hx => nomatch hx) hfX hkX hcellA (by rw [hhp, hT]; exact Nat.le_refl _) (msg := .ref sa) rfl
    (g := { method := m, pc := pc + 6, locals := ls, stack := .ref sa :: .ref T.heap.size :: .ref T.heap.size :: rest, locked := none }) rfl hsize rfl rfl (rest := rest) rfl
    (by rw [hb]; exact d6) (by rw [hb]; exact d9) hout hRframes (by simp only [List.map_cons, List.sum_cons, hcat]; show 2 * 0 + _ + 81 ≤ R.locals; omega) hlocks
  obtain ⟨f1, f2⟩ := vx_frame hsame
  rw [hhp] at f1 f2
  have hWs : s.WarmedH U.vm := State.WarmedH.trans hW0 hW
  have hcl : s.vm.findClass nsE = some ce.cls := by
    rw [hvm] at hO
    exact hO
  have hall : s.sameButNew ({ U with vm := s.vm } : State) locs mc ms := by
    subst hA
    obtain ⟨e1, e2⟩ := hsame
    rw [State.setFrames_setFrames] at e1
    have h2 : (T.setVm s.vm).sameButNew ({ U with vm := s.vm } : State) [] (0 + 1) (0 + 6) := ⟨e1, e2⟩
    have h3 := X.same.trans h2
    rw [List.append_nil] at h3
    exact h3.mono hc hs
  refine ⟨U, ?_, .threw T.heap.size, hrun, hend, Or.inr ⟨T.heap.size, rfl, nsE, ce, locs, hx U hWs.alike f1 (fun q hq => f2 q hq (fun z hz => nomatch hz)), hce, hcv, hcl, hWs, hall, hf⟩⟩
  refine st1 _ ?_
  show Steps p.tables e below (T1.setTop { method := m, pc := pc + 3, locals := ls, stack := .ref T.heap.size :: rest, locked := none }) _
  jvm_step X₁.here [X₁.here.top, hexec, d3', Value.category]
  exact X₁.ldcString hexec (own := RX7) (text := text) (index := is) (a := sa) hown' hstr'.1 hstr'.2
    (g := { method := m, pc := pc + 4, locals := ls, stack := .ref T.heap.size :: .ref T.heap.size :: rest, locked := none }) rfl d4' _ hsteps
end NST
theorem new_moved : (List.range 40).all (fun pc => match cod 76 pc with
  | some (.new idx, _) => Nat.beq pc 18 && Nat.beq idx 236
  | _ => true) = true := by decide +kernel
theorem new_row : (List.range 40).all (fun pc => match cod 79 pc with
  | some (.new idx, _) => Nat.beq pc 12 && Nat.beq idx 236
  | _ => true) = true := by decide +kernel
/-- what a throw reads of the heap: the texts, two statics of Throwable -/
def thP (A : Nat → Prop) (U : State) (H : Heap) : Prop := (∃ sa, vk_R RX7 238 "no such owner or step" sa U) ∧ (∃ sa, vk_R RX7 252 "no such number of the row" sa U) ∧ vx_Zq Bundle.tN "UNASSIGNED_STACK" Bundle.steD A U H ∧ vx_Zq Bundle.tN "SUPPRESSED_SENTINEL" Bundle.listD A U H
def rmX (k : Nat) : Room := { frames := Nat.max (rmf k) 6, cells := 1, slots := 6, locals := Nat.max (rml k) 82 }
def mXc (dC : Nat → ClassId) (dI : Nat → Nat → Nat) (ad : Nat → Nat → Nat) (cI cZ cL : ClassId) (post : Option mV → mS → Prop) (A : Nat → Prop) : String → State → State → Prop :=
  fun E st t => E = nsE ∧ (∃ σ' : mS, post (some mThr) σ' ∧ va_P (dC, dI) cls (wld ad cI cZ cL false σ') t.heap ∧ va_K (dC, dI) cls (mtys cI cZ cL) t) ∧ va_F A st t
def mPx (dC : Nat → ClassId) (dI : Nat → Nat → Nat) (ad : Nat → Nat → Nat) (cI cZ cL : ClassId) (a : List mV) (σ : mS) (sz : Nat) : Array Value → State → Prop := fun v U => mPc dC dI ad cI cZ cL false a σ sz v U ∧ thP (va_A (wld ad cI cZ cL false σ) sz) U U.heap
def mMetX (l : Launch) (dC : Nat → ClassId) (dI : Nat → Nat → Nat) (ad : Nat → Nat → Nat) (cI cZ cL : ClassId) (j : Nat) (a : List mV) (σ : mS) (post : Option mV → mS → Prop) : Prop :=
  ∀ sz, vx_Met l (ycd j) (wk j) (rmX j) (mPx dC dI ad cI cZ cL a σ sz) (mQc dC dI ad cI cZ cL false post (va_A (wld ad cI cZ cL false σ) sz)) (mXc dC dI ad cI cZ cL post (va_A (wld ad cI cZ cL false σ) sz)) 1 6 (va_A (wld ad cI cZ cL false σ) sz)
theorem mPx_blind {dC : Nat → ClassId} {dI : Nat → Nat → Nat} {ad : Nat → Nat → Nat} {cI cZ cL : ClassId} {a : List mV} {σ : mS} {sz : Nat} : FrameBlind (mPx dC dI ad cI cZ cL a σ sz) := fun a' U g mk q => by
  obtain ⟨q, ⟨s1, h1⟩, ⟨s2, h2⟩, h3, h4⟩ := q
  exact ⟨mPc_blind a' U g mk q, ⟨s1, vk_R.same (u := U) rfl h1⟩, ⟨s2, vk_R.same (u := U) rfl h2⟩, vx_Zq.moved (u := U) (U := U.calling g mk a') (Vm.Alike.refl U.vm) h3, vx_Zq.moved (u := U) (U := U.calling g mk a') (Vm.Alike.refl U.vm) h4⟩
set_option maxHeartbeats 4000000 in
theorem soundX {l : Launch} (hst : l.stackTraces = false) {dC : Nat → ClassId} {dI : Nat → Nat → Nat} {ad : Nat → Nat → Nat} {cI cZ cL : ClassId} {k : Nat} {a : List mV} {σ : mS} {post : Option mV → mS → Prop} (hv : Ev k a σ post) (hk : k = kX7_moved ∨ k = kX7_row) (hlen : (mlv a).length ≤ mml k) (hvk : ∀ v ∈ a, vok false v) :
    mMetX l dC dI ad cI cZ cL k a σ post := by
  intro sz
  have hG := hv.inv
  have hk9 : k < 146 := by rcases hk with rfl | rfl <;> decide
  have hr1 : mrt k = 1 := by rcases hk with rfl | rfl <;> decide +kernel
  have hmc : onm (mcl k) = RX7 := by rcases hk with rfl | rfl <;> rfl
  obtain ⟨hini, hcl, hpl, hn1, hn2, -⟩ := okC_of hk9
  refine vx_ofW (cc := bcd k) (maxL := mml k) (ret := rcd k) hpl rfl ?_
  intro p e s m args below meth c s₁ B hml hno hv
  obtain ⟨⟨rfl, hsz, hP, hK, hD0⟩, ⟨sa1, hs1⟩, ⟨sa2, hs2⟩, hZ1, hZ2⟩ := hv
  have hx := B.exec
  have hb := B.bytes
  have hr := B.returns
  have hts := atoms_spec (ws := wk k) B.pre
  have hown : s.vm.findClass (onm (mcl k)) = some m.cls := by rw [← hcl]; exact findClass_of_methodNamed B.named
  have hlocks := B.notSynchronized
  subst hsz
  have hD := hD0.self (sz := s.heap.size)
  generalize hAe : va_A (wld ad cI cZ cL false σ) s.heap.size = A at hD hZ1 hZ2 ⊢
  have hA : ∀ q : Nat, s.heap.size ≤ q → A q := fun q h => by rw [← hAe]; exact Or.inr h
  have hS : va_S A s.heap s.heap [] := va_S.rf
  rw [lg_entry_eq]
  have hat : ∀ w ∈ nsW, w.before (a.map (mval ad)).toArray s = true := fun w hw => hts w (mw_wk k (ns_mw hw))
  have hcl9 := mAt_cl (p := p) (l := l) (e := e) (R := rmX k) (s := s) (m := m) (args := (a.map (mval ad)).toArray) (below := below) (meth := meth) (c := c) (Q := vx_MQ below (mQc dC dI ad cI cZ cL false post A) (mXc dC dI ad cI cZ cL post A) (a.map (mval ad)).toArray s 1 6 A) (dC := dC) (dI := dI) (ad := ad) (cI := cI) (cZ := cZ) (cL := cL) (b := false) (k := k) (A := A) (E := Ev) (post := post) hk9 ⟨Nat.le_max_left _ _, Nat.le_max_left _ _⟩ hx hb hml hown hts hK hA (fun σ' => wld_D hD)
    ?_ ?_ ?_ ?_ ?_
  · exact hG _ hcl9 (mini_len hlen) (fun v hv => hvk v (mlv_mem a v (by
      obtain ⟨j, hj⟩ := List.getElem?_of_mem hv
      exact List.mem_of_getElem? (mini_get hj)))) (fun _ h => by cases h) s.heap [] _ hP hS (mini_lvk hlen)
  · exact fun j a σ post hj hn hE hl hv => sound hE hj hn hl hv
  · intro pc ls H locs σ' x hdec hrt hP' hS' hpost
    rw [mrt_rcd.2.1 hr1] at hr
    rw [hr1] at hpost
    exact vx_ret (W.widen (Nat.zero_le 1) (Nat.zero_le 6) (W.iret (v := x) hx hb hr (fun t ht hW => ⟨⟨some (mI x), σ', rfl, fun v h => by cases h; trivial, hpost, by rw [ht]; exact hP', va_K.moved hW.alike hK⟩, hS'.F ht⟩) hS'.2.2 hdec))
  · intro pc ls H locs σ' x hdec hrt
    rw [hr1] at hrt; cases hrt
  · intro pc ls H locs σ' hdec hrt
    rw [hr1] at hrt; cases hrt
  · intro pc idx len L ls H locs σ' hcd _ hL hl hP' hS' hpost
    have hxx : ∀ t : State, s.vm.Alike t.vm → H.size ≤ t.heap.size → (∀ q : Nat, q < H.size → t.heap[q]? = H[q]?) → mXc dC dI ad cI cZ cL post A nsE s t := fun t h1 h2 h3 =>
      ⟨rfl, ⟨σ', hpost, hP'.kept (fun k x hx => h3 x.1 ((hP' k x hx).lt)), va_K.moved h1 hK⟩, Nat.le_trans hS'.1 h2, fun q g1 g2 => (h3 q (Nat.lt_of_lt_of_le g1 hS'.1)).trans (hS'.2.1 q g1 g2)⟩
    obtain ⟨x, hcd⟩ := hcd
    have hpc := (cod_lt hcd).2.1
    rw [hmc] at hown
    rcases hk with rfl | rfl
    · have h9 := List.all_eq_true.mp new_moved pc (List.mem_range.mpr (Nat.lt_of_lt_of_le hpc (by decide +kernel)))
      rw [hcd] at h9
      obtain ⟨h9, h8⟩ := and_t h9
      have h9 := bq h9
      subst h9
      exact ns_throw (is := 238) (pc := 18) (cc := bcd 76) (A := A) hx hb hst hown hat hs1 hZ1 hZ2 hS' (by rw [hml, ← hL]; exact hl.1) (by decide +kernel) (by decide +kernel) (by decide +kernel) (by decide +kernel) (by decide +kernel) (fun x hx => (hno x hx).elim) (Nat.le_max_right (rmf 76) 6) (show 0 + 82 ≤ Nat.max (rml 76) 82 from Nat.le_trans (by omega) (Nat.le_max_right (rml 76) 82)) (Nat.le_refl 1) (Nat.le_refl 6) hlocks hxx hS'.2.2 (Nat.le_refl 1) (Nat.le_refl 6)
    · have h9 := List.all_eq_true.mp new_row pc (List.mem_range.mpr (Nat.lt_of_lt_of_le hpc (by decide +kernel)))
      rw [hcd] at h9
      obtain ⟨h9, h8⟩ := and_t h9
      have h9 := bq h9
      subst h9
      exact ns_throw (is := 252) (pc := 12) (cc := bcd 79) (A := A) hx hb hst hown hat hs2 hZ1 hZ2 hS' (by rw [hml, ← hL]; exact hl.1) (by decide +kernel) (by decide +kernel) (by decide +kernel) (by decide +kernel) (by decide +kernel) (fun x hx => (hno x hx).elim) (Nat.le_max_right (rmf 79) 6) (show 0 + 82 ≤ Nat.max (rml 79) 82 from Nat.le_trans (by omega) (Nat.le_max_right (rml 79) 82)) (Nat.le_refl 1) (Nat.le_refl 6) hlocks hxx hS'.2.2 (Nat.le_refl 1) (Nat.le_refl 6)
