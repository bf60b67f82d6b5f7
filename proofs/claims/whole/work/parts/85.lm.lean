/-! THE LAW'S OWN moved AND row: the class's answer into out, or 1 where it throws -/
abbrev ty4 (cI cZ cL cJ : ClassId) : List (ClassId × FieldType) := [(cI, .int), (cZ, .boolean), (cL, .object RX4), (cJ, .long)]
theorem ty4_m {D : va_G} {cI cZ cL cJ : ClassId} {U : State} (h : va_K D cls (ty4 cI cZ cL cJ) U) : va_K D cls (mtys cI cZ cL) U := h.sub [0, 1, 2] rfl
theorem nw_cast {a b : String} {s U : State} (hW : s.WarmedH U.vm) (h : va_Nw (.castable a b) s) : va_Nw (.castable a b) U := va_tabs rfl (rfl : (s.setVm U.vm).vm = U.vm) (by rw [Cond.castable_setVm hW.alike]; exact h)
theorem thP.warm {A B : Nat → Prop} {s U : State} (hW : s.WarmedH U.vm) {H H1 : Heap} (h : thP A s H) (hq : ∀ a : Nat, a < H.size → ¬ A a → H1[a]? = H[a]?) (hAB : ∀ q, B q → A q) : thP B U H1 := by
  obtain ⟨⟨s1, h1⟩, ⟨s2, h2⟩, h3, h4⟩ := h
  exact ⟨⟨s1, vk_R.warm hW h1⟩, ⟨s2, vk_R.warm hW h2⟩, (vx_Zq.moved hW.alike (h3.kept hq)).narrow hAB, (vx_Zq.moved hW.alike (h4.kept hq)).narrow hAB⟩
theorem thP.same {A : Nat → Prop} {u U : State} (hv : U.vm = u.vm) {H : Heap} (h : thP A u H) : thP A U H := by
  obtain ⟨⟨s1, h1⟩, ⟨s2, h2⟩, h3, h4⟩ := h
  have ha : u.vm.Alike U.vm := by rw [hv]; exact Vm.Alike.refl _
  exact ⟨⟨s1, vk_R.same hv h1⟩, ⟨s2, vk_R.same hv h2⟩, vx_Zq.moved ha h3, vx_Zq.moved ha h4⟩
theorem good_v {Ts : List Cond} (hT : ∀ w ∈ mw, w ∈ Ts) {own C : String} {idx j : Nat} (hj : j < 146) (h2 : ([.methodLink own idx (ycd j), .instanceMethod (ycd j), .selects C (ycd j) (ycd j), .initialized C] : List Cond).all (fun w => decide (w ∈ lw_tbl) && goodWord w) = true) : GoodIn Ts (wsV own idx C (ycd j) (wk j)) := by
  intro w hw
  have hm : w ∈ mw := by
    rcases List.mem_append.mp (show w ∈ ([.methodLink own idx (ycd j), .instanceMethod (ycd j), .selects C (ycd j) (ycd j), .initialized C] : List Cond) ++ wk j by unfold wsV at hw; simpa using hw) with q | q
    · exact mem_m (List.all_eq_true.mp h2 w q)
    · rcases List.mem_cons.mp q with q | q
      · rw [q]; exact codeW hj
      · exact q
  exact ⟨hT w hm, mw_good hm⟩
section MCX
variable {p : Program} {l : Launch} {e : Env} {R : Room} {s : State} {m : MethodId} {args : Array Value} {below : List Frame} {meth : Method} {c : Code} {Q : State → Prop}
variable {dC : Nat → ClassId} {dI : Nat → Nat → Nat} {ad : Nat → Nat → Nat} {cI cZ cL : ClassId} {A : Nat → Prop}
theorem m_callX {pc cells slots mc ms : Nat} {ls : Array Slot} {st0 rest : List Value} {H H0 : Heap} {locs : List Loc} {A1 : Nat → Prop} {a : Array Value} {free : Addr → Prop} {post : Option mV → mS → Prop}
    (hr : vx_Run p l e R s m args below meth c H locs cells slots mc ms (F0 m pc ls st0) rest (mQc dC dI ad cI cZ cL false post A1 a) (mXc dC dI ad cI cZ cL post A1) free) (hS : va_S A H0 H locs) (hA : ∀ q, q < H.size → A1 q → A q) (hf : ∀ q, free q → A q)
    (kk : ∀ (r : Option mV) (σ' : mS) (H1 : Heap) (locs1 : List Loc), (∀ v, r = some v → vok false v) → post r σ' → va_P (dC, dI) cls (wld ad cI cZ cL false σ') H1 → va_S A H0 H1 locs1 → H.size ≤ H1.size → (∀ q : Nat, q < H.size → ¬ A1 q → H1[q]? = H[q]?) → W p l e R s m args below meth c H1 locs1 (cells + mc) (slots + ms) Q (F0 m (pc + 3) ls ((r.map (mval ad)).toList ++ rest)))
    (kx : ∀ (q9 : Addr) (ce : Cell) (σ' : mS) (H1 : Heap) (locs1 : List Loc), post (some mThr) σ' → va_P (dC, dI) cls (wld ad cI cZ cL false σ') H1 → va_S A H0 H1 locs1 → H.size ≤ H1.size → (∀ q : Nat, q < H.size → ¬ A1 q → H1[q]? = H[q]?) → H1[q9]? = some ce → ce.vm = .none → s.vm.findClass nsE = some ce.cls → vx_W p l e R s m args below meth c H1 locs1 (cells + mc) (slots + ms) Q (F0 m pc ls rest) q9) :
    W p l e R s m args below meth c H locs cells slots Q (F0 m pc ls st0) := by
  intro T hT X
  have key : ∀ (st₀ t T' : State) (L : List Loc), st₀.heap = H → (∀ q ∈ L, free q.base) → T'.heap = t.heap → va_F A1 st₀ t → va_S A H0 T'.heap (locs ++ L) ∧ H.size ≤ T'.heap.size ∧ ∀ q : Nat, q < H.size → ¬ A1 q → T'.heap[q]? = H[q]? := by
    intro st₀ t T' L h0 hL e1 hF
    obtain ⟨hz, hk⟩ := hF
    rw [h0] at hz hk
    exact ⟨⟨Nat.le_trans hS.1 (by rw [e1]; exact hz), fun q h1 h2 => by rw [e1, hk q (Nat.lt_of_lt_of_le h1 hS.1) (fun z => h2 (hA q (Nat.lt_of_lt_of_le h1 hS.1) z))]; exact hS.2.1 q h1 h2, fun q hq => by
      rcases List.mem_append.mp hq with h | h
      · exact hS.2.2 q h
      · exact hf _ (hL q h)⟩, by rw [e1]; exact hz, fun q h1 h2 => by rw [e1]; exact hk q h1 h2⟩
  rcases hr T hT X with ⟨v, st₀, t, T', L, h0, X', hL, e1, e2, ⟨⟨r, σ', hv, hvk, hp, hPw, hKw⟩, hF⟩, st⟩ | ⟨q, st₀, t, T', L, E, ce, h0, X', hL, e1, e2, ⟨rfl, ⟨σ', hp, hPw, hKw⟩, hF⟩, hce, hcv, hcl, st⟩
  · simp only [Outcome.returned.injEq] at hv
    subst hv
    obtain ⟨k1, k2, k3⟩ := key st₀ t T' L h0 hL e1 hF
    obtain ⟨t2, a1, b1⟩ := kk r σ' T'.heap (locs ++ L) hvk hp (by rw [e1]; exact hPw) k1 k2 k3 T' rfl X'
    exact ⟨t2, st t2 a1, b1⟩
  · obtain ⟨k1, k2, k3⟩ := key st₀ t T' L h0 hL e1 hF
    obtain ⟨t2, a1, b1⟩ := kx q ce σ' T'.heap (locs ++ L) hp (by rw [e1]; exact hPw) k1 k2 k3 (by rw [e1]; exact hce) hcv hcl T' rfl X'
    exact ⟨t2, st.trans a1, b1⟩
end MCX
def lmO (cJ : ClassId) (qo : Nat) (fo : Nat → Int64) : va_W := [(qo, .inl (cJ, 1, .inr (.inl fo)))]
def lmW (ad : Nat → Nat → Nat) (cI cZ cL cJ : ClassId) (qo : Nat) (σ : mS) (fo : Nat → Int64) : va_W := wld ad cI cZ cL false σ ++ lmO cJ qo fo
def lmP (dC : Nat → ClassId) (dI : Nat → Nat → Nat) (ad : Nat → Nat → Nat) (cI cZ cL cJ : ClassId) (qo : Nat) (av : List Value) (σ : mS) (fo : Nat → Int64) (sz : Nat) : Array Value → State → Prop := va_Pc av (fun U => U.heap.size = sz ∧ va_P (dC, dI) cls (lmW ad cI cZ cL cJ qo σ fo) U.heap ∧ va_K (dC, dI) cls (ty4 cI cZ cL cJ) U ∧ va_D (fun _ => True) (lmW ad cI cZ cL cJ qo σ fo) ∧ thP (va_A (lmW ad cI cZ cL cJ qo σ fo) sz) U U.heap ∧ va_Nw (.castable nsE nsE) U)
theorem lmP_blind {dC : Nat → ClassId} {dI : Nat → Nat → Nat} {ad : Nat → Nat → Nat} {cI cZ cL cJ : ClassId} {qo : Nat} {av : List Value} {σ : mS} {fo : Nat → Int64} {sz : Nat} : FrameBlind (lmP dC dI ad cI cZ cL cJ qo av σ fo sz) := fun a U g mk q => by
  obtain ⟨q0, q1, qP, qK, qD, qT, qN⟩ := q
  exact ⟨q0, q1, qP, va_K.moved (u := U) (U := U.calling g mk a) (Vm.Alike.refl U.vm) qK, qD, thP.same (u := U) rfl qT, va_Nw.same (u := U) rfl rfl qN⟩
/-- what comes back: 0 and the answer in out, or 1 -/
def lmQ (dC : Nat → ClassId) (dI : Nat → Nat → Nat) (ad : Nat → Nat → Nat) (cI cZ cL cJ : ClassId) (qo : Nat) (post : Option mV → mS → Prop) (A : Nat → Prop) : Array Value → State → Outcome → State → Prop := fun _ st oc t =>
  (∃ (r : Int32) (σ' : mS) (fo' : Nat → Int64), oc = .returned (some (.int r)) ∧ ((r = 1 ∧ post (some mThr) σ') ∨ (r = 0 ∧ ∃ v : Int32, post (some (mI v)) σ' ∧ fo' 0 = v.toInt64)) ∧ va_P (dC, dI) cls (lmW ad cI cZ cL cJ qo σ' fo') t.heap) ∧ va_F A st t
theorem lm_D {A : Nat → Prop} {ad : Nat → Nat → Nat} {cI cZ cL cJ : ClassId} {qo : Nat} {σ σ' : mS} {fo fo' : Nat → Int64} (h : va_D A (lmW ad cI cZ cL cJ qo σ fo)) : va_D A (lmW ad cI cZ cL cJ qo σ' fo') := by
  have key : ∀ (k : Nat) (q : Nat × va_E), (lmW ad cI cZ cL cJ qo σ' fo')[k]? = some q → ∃ q' : Nat × va_E, (lmW ad cI cZ cL cJ qo σ fo)[k]? = some q' ∧ q'.1 = q.1 := by
    intro k q hq
    have hm : ((lmW ad cI cZ cL cJ qo σ' fo').map Prod.fst) = ((lmW ad cI cZ cL cJ qo σ fo).map Prod.fst) := by
      unfold lmW lmO wld
      rw [List.map_append, List.map_append, List.map_map, List.map_map]
      rfl
    have h1 : ((lmW ad cI cZ cL cJ qo σ' fo').map Prod.fst)[k]? = some q.1 := by rw [List.getElem?_map, hq]; rfl
    rw [hm, List.getElem?_map] at h1
    cases hx : (lmW ad cI cZ cL cJ qo σ fo)[k]? with
    | none => rw [hx] at h1; cases h1
    | some x => rw [hx] at h1; exact ⟨x, rfl, Option.some.inj h1⟩
  refine ⟨fun i j x y hi hj hxy => ?_, fun k q hk => ?_⟩
  · obtain ⟨x0, h1, h2⟩ := key i x hi
    obtain ⟨y0, h3, h4⟩ := key j y hj
    exact h.1 i j x0 y0 h1 h3 (h2.trans (hxy.trans h4.symm))
  · obtain ⟨q0, h1, h2⟩ := key k q hk
    rw [← h2]
    exact h.2 k q0 h1
theorem app_l {w1 w2 : va_W} {k : Nat} {q : Nat × va_E} (h : w1[k]? = some q) : (w1 ++ w2)[k]? = some q := by
  rw [List.getElem?_append_left (List.getElem?_eq_some_iff.mp h).1]; exact h
theorem app_r {w1 w2 : va_W} {k : Nat} {q : Nat × va_E} (h : w2[k]? = some q) : (w1 ++ w2)[w1.length + k]? = some q := by
  rw [List.getElem?_append_right (by omega), show w1.length + k - w1.length = k by omega]; exact h
theorem P_l {D : va_G} {w1 w2 : va_W} {H : Heap} (h : va_P D cls (w1 ++ w2) H) : va_P D cls w1 H := fun k q hk => h k q (app_l hk)
theorem P_r {D : va_G} {w1 w2 : va_W} {H : Heap} (h : va_P D cls (w1 ++ w2) H) : va_P D cls w2 H := fun k q hk => h _ q (app_r hk)
theorem D_l {A : Nat → Prop} {w1 w2 : va_W} (h : va_D A (w1 ++ w2)) : va_D A w1 := ⟨fun i j x y hi hj e => h.1 i j x y (app_l hi) (app_l hj) e, fun k q hk => h.2 k q (app_l hk)⟩
theorem D_r {A : Nat → Prop} {w1 w2 : va_W} (h : va_D A (w1 ++ w2)) : va_D A w2 := ⟨fun i j x y hi hj e => by have := h.1 _ _ x y (app_r hi) (app_r hj) e; omega, fun k q hk => h.2 _ q (app_r hk)⟩
/-- two worlds in one are apart -/
theorem D_x {A : Nat → Prop} {w1 w2 : va_W} (h : va_D A (w1 ++ w2)) {i j : Nat} {x y : Nat × va_E} (hi : w1[i]? = some x) (hj : w2[j]? = some y) : x.1 ≠ y.1 := fun e => by
  have h1 := h.1 _ _ x y (app_l hi) (app_r hj) e
  have h2 := (List.getElem?_eq_some_iff.mp hi).1
  omega
/-- what a call on one world leaves of another -/
theorem P_keep {D : va_G} {wx ws : va_W} {H H1 : Heap} (hP : va_P D cls ws H) (hfr : ∀ q : Nat, q < H.size → ¬ va_A wx H.size q → H1[q]? = H[q]?) (hap : ∀ (k k' : Nat) (x y : Nat × va_E), wx[k]? = some x → ws[k']? = some y → x.1 ≠ y.1) : va_P D cls ws H1 := hP.kept (fun k x hx => hfr x.1 ((hP k x hx).lt) (fun h => by
  rcases h with ⟨k', e, h⟩ | h
  · exact hap k' k (x.1, e) x h hx rfl
  · exact absurd ((hP k x hx).lt) (Nat.not_lt.mpr h)))
def wL_moved : List Cond := .codeWith yL_moved cL_moved 5 (some .int) [(0, 10, 13, 13)] :: mw
def rL_moved : Room := { frames := (rmX 76).frames + 1, cells := 1, slots := 6, locals := 8 + (mml 76 + 11) + (rmX 76).locals }
set_option maxHeartbeats 8000000 in
set_option maxRecDepth 100000 in
theorem c_L_moved {l : Launch} (hst : l.stackTraces = false) (dC : Nat → ClassId) (dI : Nat → Nat → Nat) (ad : Nat → Nat → Nat) (cI cZ cL cJ : ClassId) (qo : Nat) (σ : mS) (fo : Nat → Int64) (x1 x2 : Int32) (post : Option mV → mS → Prop) (hE : Ev 76 [xX, mI x1, mI x2] σ post) (hp : ∀ r t, post r t → r = some mThr ∨ ∃ v : Int32, r = some (mI v)) (sz : Nat) :
    vx_Met l yL_moved wL_moved rL_moved (lmP dC dI ad cI cZ cL cJ qo [.ref (ad 0 0), .int x1, .int x2, .ref qo] σ fo sz) (lmQ dC dI ad cI cZ cL cJ qo post (va_A (lmW ad cI cZ cL cJ qo σ fo) sz)) (fun _ _ _ => False) 1 6 (va_A (lmW ad cI cZ cL cJ qo σ fo) sz) := by
  refine vx_ofWH (cc := cL_moved) (maxL := 5) (ret := some .int) (hh := [(0, 10, 13, 13)]) (by decide) rfl ?_
  intro p e s m args below meth c s₁ B hml hv
  obtain ⟨rfl, hsz, hP, hK4, hD0, hth, hcs⟩ := hv
  have hx := B.exec
  have hb := B.bytes
  have hr := B.returns
  have hts := atoms_spec (ws := wL_moved) B.pre
  have htab := vx_table (x := yL_moved) B (hts _ List.mem_cons_self)
  have hown : s.vm.findClass RL = some m.cls := findClass_of_methodNamed B.named
  have hlocks := B.notSynchronized
  have hK := ty4_m hK4
  subst hsz
  have hD := hD0.self (sz := s.heap.size)
  generalize hAe : va_A (lmW ad cI cZ cL cJ qo σ fo) s.heap.size = A at hD ⊢
  have hA : ∀ q : Nat, s.heap.size ≤ q → A q := fun q h => by rw [← hAe]; exact Or.inr h
  have hS : va_S A s.heap s.heap [] := va_S.rf
  have hl := lv_entry ([.ref (ad 0 0), .int x1, .int x2, .ref qo]) (n := 5) (Nat.le_of_ble_eq_true rfl)
  rw [lg_entry_eq]
  generalize (lg_sl ([.ref (ad 0 0), .int x1, .int x2, .ref qo]) ++ List.replicate (5 - (lg_sl ([.ref (ad 0 0), .int x1, .int x2, .ref qo])).length) Slot.unset).toArray = ls at hl ⊢
  have hl : lv_has ls 5 [(0, .ref (ad 0 0)), (1, .int x1), (2, .int x2), (3, .ref qo)] := hl
  refine lv_aload_n hx hb dL_moved_0 rfl (lv_at hl 3 rfl) ?_
  refine lv_iconst (v := 0) hx hb dL_moved_1 (by decide) ?_
  refine lv_aload_n hx hb dL_moved_2 rfl (lv_at hl 0 rfl) ?_
  refine lv_iload_n hx hb dL_moved_3 rfl (lv_at hl 1 rfl) ?_
  refine lv_iload_n hx hb dL_moved_4 rfl (lv_at hl 2 rfl) ?_
  have hPx : va_P (dC, dI) cls (wld ad cI cZ cL false σ) s.heap := P_l hP
  have hDx : va_D A (wld ad cI cZ cL false σ) := D_l hD
  have hPo : va_P (dC, dI) cls (lmO cJ qo fo) s.heap := P_r hP
  have hM := soundX hst (dC := dC) (dI := dI) (ad := ad) (cI := cI) (cZ := cZ) (cL := cL) (k := 76) hE (by decide) (show 3 ≤ mml 76 from by decide) (fun v hv => by
    rcases List.mem_cons.mp hv with rfl | hv
    · exact (show (0, 0) ∈ mcs false from by decide)
    · rcases List.mem_cons.mp hv with rfl | hv
      · trivial
      · rw [List.mem_singleton.mp hv]; trivial) s.heap.size
  have hFc := wld_free hDx hS hA
  have hat : (wld ad cI cZ cL false σ)[0]? = some (ad 0 0, .inr (7, mfd ad 0 (σ 0 0) [some 1, some 4, some 7, some 13, some 22, some 27, some 31, none])) := rfl
  have hrecv := va_recv hK hPx (show cls[7]? = some (RX7, TX7, 8) from rfl) hat
  have hAB : ∀ q, va_A (wld ad cI cZ cL false σ) s.heap.size q → va_A (lmW ad cI cZ cL cJ qo σ fo) s.heap.size q := fun q h => by
    rcases h with ⟨k, e, h⟩ | h
    · exact Or.inl ⟨k, e, app_l h⟩
    · exact Or.inr h
  refine m_callX (vx_runV (As := [.int x1, .int x2]) (rest := [.int 0, .ref qo]) (b := ad 0 0) (C := RX7) (n := 2) ⟨hx, hb, hml, hown, hts⟩ hM (cwV 2 hts (good_v (fun w h => List.mem_cons_of_mem _ h) (by decide) (by decide +kernel)) rfl rfl rfl (by decide +kernel) ⟨Nat.le_refl _, Nat.le_refl _⟩) ⟨mPx_blind, hrecv, fun U hU hW => ⟨⟨rfl, by rw [hU], by rw [hU]; exact hPx, va_K.moved hW.alike hK, hDx.weaken (fun _ _ _ _ => trivial)⟩, by rw [hU]; exact hth.warm hW (fun _ _ _ => rfl) hAB⟩⟩ rfl rfl hl.1 rfl (lv_room (Nat.le_of_ble_eq_true rfl)) dL_moved_5 ⟨Nat.le_refl 1, Nat.le_refl 6⟩) hS (fun q _ z => hFc q z) hFc (fun r σ' H1 locs1 hv9 hp9 hP9 hS9 hz9 hk9 => ?_) (fun q9 ce σ' H1 locs1 hp9 hP9 hS9 hz9 hk9 hce hcv hcl => ?_)
  · have hPo1 := P_keep hPo hk9 (fun k k' x y hx hy => D_x hD hx hy)
    have hP1 : va_P (dC, dI) cls (lmW ad cI cZ cL cJ qo σ' fo) H1 := hP9.app hPo1
    have hD1 : va_D A (lmW ad cI cZ cL cJ qo σ' fo) := lm_D hD
    rcases hp r σ' hp9 with rfl | ⟨v, rfl⟩
    · exact absurd (show (999, 0) ∈ mcs false from hv9 _ rfl) (by decide)
    · refine lv_i2l hx hb dL_moved_8 rfl ?_
      refine va_last (D := (dC, dI)) (i := 0) hx hb hK4 hP1 hD1 hS9 59 3 rfl rfl (vp_in_nI (n := 0) (N := 1) (by omega) (by omega)) dL_moved_9 (fun H locs hP2 hD2 hS2 => ?_)
      have hP2 : va_P (dC, dI) cls (lmW ad cI cZ cL cJ qo σ' (vp_updL fo 0 v.toInt64)) H := hP2
      refine lv_goto hx hb dL_moved_10 (show ((10 : Nat) : Int) + 7 = ((17 : Nat) : Int) from by decide) ?_
      refine lv_iconst (v := 0) hx hb dL_moved_17 (by decide) ?_
      exact vx_ret (W.iret (v := 0) hx hb hr (fun t ht hW => ⟨⟨0, σ', vp_updL fo 0 v.toInt64, rfl, Or.inr ⟨rfl, v, hp9, pk_uLs⟩, by rw [ht]; exact hP2⟩, hS2.F ht⟩) hS2.2.2 dL_moved_18)
  · refine cg_catch (own := RL) (name := nsE) hown ⟨0, 10, 13, 13⟩ [] htab (by decide) (by decide) (hts (.classLink RL 13 nsE) (List.mem_cons_of_mem _ (mem_m (by decide +kernel)))) (va_Nw.use rfl hcs) hce hcv hcl ?_
    have hP1 : va_P (dC, dI) cls (lmW ad cI cZ cL cJ qo σ' fo) H1 := hP9.app (P_keep hPo hk9 (fun k k' x y hx hy => D_x hD hx hy))
    refine lv_astore hx hb dL_moved_13 hl (by decide) rfl (fun ls hl => ?_)
    refine lv_iconst (v := 1) hx hb dL_moved_15 (by decide) ?_
    exact vx_ret (W.iret (v := 1) hx hb hr (fun t ht hW => ⟨⟨1, σ', fo, rfl, Or.inl ⟨rfl, hp9⟩, by rw [ht]; exact hP1⟩, hS9.F ht⟩) hS9.2.2 dL_moved_16)
def wL_row : List Cond := .codeWith yL_row cL_row 4 (some .int) [(0, 9, 12, 13)] :: mw
def rL_row : Room := { frames := (rmX 79).frames + 1, cells := 1, slots := 6, locals := 8 + (mml 79 + 11) + (rmX 79).locals }
set_option maxHeartbeats 8000000 in
set_option maxRecDepth 100000 in
theorem c_L_row {l : Launch} (hst : l.stackTraces = false) (dC : Nat → ClassId) (dI : Nat → Nat → Nat) (ad : Nat → Nat → Nat) (cI cZ cL cJ : ClassId) (qo : Nat) (σ : mS) (fo : Nat → Int64) (x1 : Int32) (post : Option mV → mS → Prop) (hE : Ev 79 [xX, mI x1] σ post) (hp : ∀ r t, post r t → r = some mThr ∨ ∃ v : Int32, r = some (mI v)) (sz : Nat) :
    vx_Met l yL_row wL_row rL_row (lmP dC dI ad cI cZ cL cJ qo [.ref (ad 0 0), .int x1, .ref qo] σ fo sz) (lmQ dC dI ad cI cZ cL cJ qo post (va_A (lmW ad cI cZ cL cJ qo σ fo) sz)) (fun _ _ _ => False) 1 6 (va_A (lmW ad cI cZ cL cJ qo σ fo) sz) := by
  refine vx_ofWH (cc := cL_row) (maxL := 4) (ret := some .int) (hh := [(0, 9, 12, 13)]) (by decide) rfl ?_
  intro p e s m args below meth c s₁ B hml hv
  obtain ⟨rfl, hsz, hP, hK4, hD0, hth, hcs⟩ := hv
  have hx := B.exec
  have hb := B.bytes
  have hr := B.returns
  have hts := atoms_spec (ws := wL_row) B.pre
  have htab := vx_table (x := yL_row) B (hts _ List.mem_cons_self)
  have hown : s.vm.findClass RL = some m.cls := findClass_of_methodNamed B.named
  have hlocks := B.notSynchronized
  have hK := ty4_m hK4
  subst hsz
  have hD := hD0.self (sz := s.heap.size)
  generalize hAe : va_A (lmW ad cI cZ cL cJ qo σ fo) s.heap.size = A at hD ⊢
  have hA : ∀ q : Nat, s.heap.size ≤ q → A q := fun q h => by rw [← hAe]; exact Or.inr h
  have hS : va_S A s.heap s.heap [] := va_S.rf
  have hl := lv_entry ([.ref (ad 0 0), .int x1, .ref qo]) (n := 4) (Nat.le_of_ble_eq_true rfl)
  rw [lg_entry_eq]
  generalize (lg_sl ([.ref (ad 0 0), .int x1, .ref qo]) ++ List.replicate (4 - (lg_sl ([.ref (ad 0 0), .int x1, .ref qo])).length) Slot.unset).toArray = ls at hl ⊢
  have hl : lv_has ls 4 [(0, .ref (ad 0 0)), (1, .int x1), (2, .ref qo)] := hl
  refine lv_aload_n hx hb dL_row_0 rfl (lv_at hl 2 rfl) ?_
  refine lv_iconst (v := 0) hx hb dL_row_1 (by decide) ?_
  refine lv_aload_n hx hb dL_row_2 rfl (lv_at hl 0 rfl) ?_
  refine lv_iload_n hx hb dL_row_3 rfl (lv_at hl 1 rfl) ?_
  have hPx : va_P (dC, dI) cls (wld ad cI cZ cL false σ) s.heap := P_l hP
  have hDx : va_D A (wld ad cI cZ cL false σ) := D_l hD
  have hPo : va_P (dC, dI) cls (lmO cJ qo fo) s.heap := P_r hP
  have hM := soundX hst (dC := dC) (dI := dI) (ad := ad) (cI := cI) (cZ := cZ) (cL := cL) (k := 79) hE (by decide) (show 2 ≤ mml 79 from by decide) (fun v hv => by
    rcases List.mem_cons.mp hv with rfl | hv
    · exact (show (0, 0) ∈ mcs false from by decide)
    · rw [List.mem_singleton.mp hv]; trivial) s.heap.size
  have hFc := wld_free hDx hS hA
  have hat : (wld ad cI cZ cL false σ)[0]? = some (ad 0 0, .inr (7, mfd ad 0 (σ 0 0) [some 1, some 4, some 7, some 13, some 22, some 27, some 31, none])) := rfl
  have hrecv := va_recv hK hPx (show cls[7]? = some (RX7, TX7, 8) from rfl) hat
  have hAB : ∀ q, va_A (wld ad cI cZ cL false σ) s.heap.size q → va_A (lmW ad cI cZ cL cJ qo σ fo) s.heap.size q := fun q h => by
    rcases h with ⟨k, e, h⟩ | h
    · exact Or.inl ⟨k, e, app_l h⟩
    · exact Or.inr h
  refine m_callX (vx_runV (As := [.int x1]) (rest := [.int 0, .ref qo]) (b := ad 0 0) (C := RX7) (n := 1) ⟨hx, hb, hml, hown, hts⟩ hM (cwV 1 hts (good_v (fun w h => List.mem_cons_of_mem _ h) (by decide) (by decide +kernel)) rfl rfl rfl (by decide +kernel) ⟨Nat.le_refl _, Nat.le_refl _⟩) ⟨mPx_blind, hrecv, fun U hU hW => ⟨⟨rfl, by rw [hU], by rw [hU]; exact hPx, va_K.moved hW.alike hK, hDx.weaken (fun _ _ _ _ => trivial)⟩, by rw [hU]; exact hth.warm hW (fun _ _ _ => rfl) hAB⟩⟩ rfl rfl hl.1 rfl (lv_room (Nat.le_of_ble_eq_true rfl)) dL_row_4 ⟨Nat.le_refl 1, Nat.le_refl 6⟩) hS (fun q _ z => hFc q z) hFc (fun r σ' H1 locs1 hv9 hp9 hP9 hS9 hz9 hk9 => ?_) (fun q9 ce σ' H1 locs1 hp9 hP9 hS9 hz9 hk9 hce hcv hcl => ?_)
  · have hPo1 := P_keep hPo hk9 (fun k k' x y hx hy => D_x hD hx hy)
    have hP1 : va_P (dC, dI) cls (lmW ad cI cZ cL cJ qo σ' fo) H1 := hP9.app hPo1
    have hD1 : va_D A (lmW ad cI cZ cL cJ qo σ' fo) := lm_D hD
    rcases hp r σ' hp9 with rfl | ⟨v, rfl⟩
    · exact absurd (show (999, 0) ∈ mcs false from hv9 _ rfl) (by decide)
    · refine lv_i2l hx hb dL_row_7 rfl ?_
      refine va_last (D := (dC, dI)) (i := 0) hx hb hK4 hP1 hD1 hS9 59 3 rfl rfl (vp_in_nI (n := 0) (N := 1) (by omega) (by omega)) dL_row_8 (fun H locs hP2 hD2 hS2 => ?_)
      have hP2 : va_P (dC, dI) cls (lmW ad cI cZ cL cJ qo σ' (vp_updL fo 0 v.toInt64)) H := hP2
      refine lv_goto hx hb dL_row_9 (show ((9 : Nat) : Int) + 6 = ((15 : Nat) : Int) from by decide) ?_
      refine lv_iconst (v := 0) hx hb dL_row_15 (by decide) ?_
      exact vx_ret (W.iret (v := 0) hx hb hr (fun t ht hW => ⟨⟨0, σ', vp_updL fo 0 v.toInt64, rfl, Or.inr ⟨rfl, v, hp9, pk_uLs⟩, by rw [ht]; exact hP2⟩, hS2.F ht⟩) hS2.2.2 dL_row_16)
  · refine cg_catch (own := RL) (name := nsE) hown ⟨0, 9, 12, 13⟩ [] htab (by decide) (by decide) (hts (.classLink RL 13 nsE) (List.mem_cons_of_mem _ (mem_m (by decide +kernel)))) (va_Nw.use rfl hcs) hce hcv hcl ?_
    have hP1 : va_P (dC, dI) cls (lmW ad cI cZ cL cJ qo σ' fo) H1 := hP9.app (P_keep hPo hk9 (fun k k' x y hx hy => D_x hD hx hy))
    refine lv_astore_n hx hb dL_row_12 rfl hl (by decide) rfl (fun ls hl => ?_)
    refine lv_iconst (v := 1) hx hb dL_row_13 (by decide) ?_
    exact vx_ret (W.iret (v := 1) hx hb hr (fun t ht hW => ⟨⟨1, σ', fo, rfl, Or.inl ⟨rfl, hp9⟩, by rw [ht]; exact hP1⟩, hS9.F ht⟩) hS9.2.2 dL_row_14)
