/-! EVERY STEP OF THE SMALL MACHINE IS ONE OF THE REAL ONE -/
def mPc (dC : Nat → ClassId) (dI : Nat → Nat → Nat) (ad : Nat → Nat → Nat) (cI cZ cL : ClassId) (b : Bool) (a : List mV) (σ : mS) (sz : Nat) : Array Value → State → Prop :=
  va_Pc (a.map (mval ad)) (fun U => U.heap.size = sz ∧ va_P (dC, dI) cls (wld ad cI cZ cL b σ) U.heap ∧ va_K (dC, dI) cls (mtys cI cZ cL) U ∧ va_D (fun _ => True) (wld ad cI cZ cL b σ))
def mQc (dC : Nat → ClassId) (dI : Nat → Nat → Nat) (ad : Nat → Nat → Nat) (cI cZ cL : ClassId) (b : Bool) (post : Option mV → mS → Prop) (A : Nat → Prop) : Array Value → State → Outcome → State → Prop :=
  fun _ st oc t => (∃ (r : Option mV) (σ' : mS), oc = .returned (r.map (mval ad)) ∧ (∀ v, r = some v → vok b v) ∧ post r σ' ∧ va_P (dC, dI) cls (wld ad cI cZ cL b σ') t.heap ∧ va_K (dC, dI) cls (mtys cI cZ cL) t) ∧ va_F A st t
def mMet (l : Launch) (dC : Nat → ClassId) (dI : Nat → Nat → Nat) (ad : Nat → Nat → Nat) (cI cZ cL : ClassId) (b : Bool) (j : Nat) (a : List mV) (σ : mS) (post : Option mV → mS → Prop) : Prop :=
  ∀ sz, Met l (ycd j) (wk j) (rmk j) (mPc dC dI ad cI cZ cL b a σ sz) (mQc dC dI ad cI cZ cL b post (va_A (wld ad cI cZ cL b σ) sz)) 0 0 (va_A (wld ad cI cZ cL b σ) sz)
section SND
variable {p : Program} {l : Launch} {e : Env} {R : Room} {s : State} {m : MethodId} {args : Array Value} {below : List Frame} {meth : Method} {c : Code} {Q : State → Prop}
variable {dC : Nat → ClassId} {dI : Nat → Nat → Nat} {ad : Nat → Nat → Nat} {cI cZ cL : ClassId} {b : Bool} {k : Nat} {A : Nat → Prop}
/-- from here, with these locals, this stack and these cells, the real machine comes to Q -/
def mAt (p : Program) (l : Launch) (e : Env) (R : Room) (s : State) (m : MethodId) (args : Array Value) (below : List Frame) (meth : Method) (c : Code) (Q : State → Prop) (dC : Nat → ClassId) (dI : Nat → Nat → Nat) (ad : Nat → Nat → Nat) (cI cZ cL : ClassId) (b : Bool) (k : Nat) (A : Nat → Prop) : mK := fun pc L st σ =>
  L.length = mml k → (∀ v, some v ∈ L → vok b v) → (∀ v ∈ st, vok b v) → ∀ (H : Heap) (locs : List Loc) (ls : Array Slot), va_P (dC, dI) cls (wld ad cI cZ cL b σ) H → va_S A s.heap H locs → lvk ad ls L →
    W p l e R s m args below meth c H locs 0 0 Q (F0 m pc ls (st.map (mval ad)))
theorem m_call {pc : Nat} {ls : Array Slot} {st0 rest : List Value} {H : Heap} {locs : List Loc} {A1 : Nat → Prop} {a : Array Value} {free : Addr → Prop} {post : Option mV → mS → Prop}
    (hr : va_Run p l e R s m args below meth c H locs 0 0 0 0 (F0 m pc ls st0) rest (mQc dC dI ad cI cZ cL b post A1 a) free) (hS : va_S A s.heap H locs) (hA : ∀ q, q < H.size → A1 q → A q) (hf : ∀ q, free q → A q)
    (kk : ∀ (r : Option mV) (σ' : mS) (H1 : Heap) (locs1 : List Loc), (∀ v, r = some v → vok b v) → post r σ' → va_P (dC, dI) cls (wld ad cI cZ cL b σ') H1 → va_S A s.heap H1 locs1 → W p l e R s m args below meth c H1 locs1 0 0 Q (F0 m (pc + 3) ls ((r.map (mval ad)).toList ++ rest))) :
    W p l e R s m args below meth c H locs 0 0 Q (F0 m pc ls st0) := by
  intro T hT X
  obtain ⟨v, st₀, t, T', L, h0, X', hL, e1, e2, ⟨⟨r, σ', hv, hvk, hp, hPw, hKw⟩, hz, hk⟩, st⟩ := hr T hT X
  simp only [Outcome.returned.injEq] at hv
  subst hv
  rw [h0] at hz hk
  obtain ⟨t2, a1, b1⟩ := kk r σ' T'.heap (locs ++ L) hvk hp (by rw [e1]; exact hPw)
    ⟨Nat.le_trans hS.1 (by rw [e1]; exact hz), fun q h1 h2 => by rw [e1, hk q (Nat.lt_of_lt_of_le h1 hS.1) (fun z => h2 (hA q (Nat.lt_of_lt_of_le h1 hS.1) z))]; exact hS.2.1 q h1 h2, fun q hq => by
      rcases List.mem_append.mp hq with h | h
      · exact hS.2.2 q h
      · exact hf _ (hL q h)⟩ T' rfl X'
  exact ⟨t2, st t2 a1, b1⟩
theorem mPc_blind {a : List mV} {σ : mS} {sz : Nat} : FrameBlind (mPc dC dI ad cI cZ cL b a σ sz) := fun a' U g mk q => by
  obtain ⟨q0, q1, qP, qK, qD⟩ := q
  exact ⟨q0, q1, qP, va_K.moved (u := U) (U := U.calling g mk a') (Vm.Alike.refl U.vm) qK, qD⟩
theorem mval_wd (ad : Nat → Nat → Nat) : ∀ r : List mV, ((r.map (mval ad)).map fun v => v.category).sum = mwd r
  | [] => rfl
  | .inl x :: r => by
    rw [List.map_cons, List.map_cons, List.sum_cons, mval_wd ad r, Nat.add_comm]
    rfl
  | .inr (.inl x) :: r => by
    rw [List.map_cons, List.map_cons, List.sum_cons, mval_wd ad r, Nat.add_comm]
    rfl
  | .inr (.inr x) :: r => by
    rw [List.map_cons, List.map_cons, List.sum_cons, mval_wd ad r, Nat.add_comm]
    rfl
theorem mlv_len : ∀ a : List mV, (mlv a).length = mwd a
  | [] => rfl
  | .inl x :: r => by
    show (mlv r).length + 1 = mwd r + 1
    rw [mlv_len r]
  | .inr (.inl x) :: r => by
    show (mlv r).length + 1 + 1 = mwd r + 2
    rw [mlv_len r]
  | .inr (.inr x) :: r => by
    show (mlv r).length + 1 = mwd r + 1
    rw [mlv_len r]
theorem wld_free {σ : mS} {H : Heap} {locs : List Loc} (hD : va_D A (wld ad cI cZ cL b σ)) (hS : va_S A s.heap H locs) (hA : ∀ q, s.heap.size ≤ q → A q) : ∀ q, va_A (wld ad cI cZ cL b σ) H.size q → A q := by
  intro q h
  rcases h with ⟨k, e, h⟩ | h
  · exact hD.2 k (q, e) h
  · exact hA q (Nat.le_trans hS.1 h)
theorem good_call {j : Nat} (hj : j < 146) (k : Nat) {w0 : List Cond} (h0 : ∀ w ∈ w0, w ∈ mw) : GoodIn (wk k) (w0 ++ wk j) := by
  intro w hw
  have hm : w ∈ mw := by
    rcases List.mem_append.mp hw with q | q
    · exact h0 w q
    · rcases List.mem_cons.mp q with q | q
      · rw [q]; exact codeW hj
      · exact q
  exact ⟨mw_wk k hm, mw_good hm⟩
theorem okC_of {j : Nat} (h : j < 146) : Cond.initialized (ycd j).cls ∈ mw ∧ (ycd j).cls = onm (mcl j) ∧ plainName (ycd j).cls = true ∧ (ycd j).cls ≠ "java/lang/invoke/MethodHandle" ∧ (ycd j).cls ≠ "java/lang/invoke/VarHandle" ∧ mcl j < 10 := by
  have h1 := List.all_eq_true.mp okC_all j (List.mem_range.mpr h)
  unfold okC at h1
  obtain ⟨h1, h7⟩ := and_t h1
  obtain ⟨h1, h6⟩ := and_t h1
  obtain ⟨h1, h5⟩ := and_t h1
  obtain ⟨h1, h4⟩ := and_t h1
  obtain ⟨h2, h3⟩ := and_t h1
  exact ⟨inW_mw h2, of_decide_eq_true h3, h4, of_decide_eq_true h5, of_decide_eq_true h6, blt_lt h7⟩
/-- a call of a method of ours, static or not -/
theorem okM_of {cl idx j n : Nat} {stat : Bool} (h : mth cl idx = some (stat, j, n)) (h0 : Nat.beq j 1000 = false) (h1 : Nat.beq j 1001 = false) (h2 : Nat.beq j 1002 = false) (h3 : Nat.beq j 1003 = false) :
    j < 146 ∧ Cond.methodLink (onm cl) idx (ycd j) ∈ mw ∧ (parseMethodDescriptor (ycd j).desc).map (fun d => d.parameters.length) = some n ∧ (stat = true → Cond.static (ycd j) ∈ mw) ∧ (stat = false → Cond.instanceMethod (ycd j) ∈ mw ∧ Cond.selects (ycd j).cls (ycd j) (ycd j) ∈ mw) := by
  obtain ⟨h4, h5⟩ := mth_ok h
  unfold okM at h4
  rw [h5] at h4
  dsimp only at h4
  rw [h0, h1, h2, h3] at h4
  simp only [cond_false] at h4
  obtain ⟨h4, h6⟩ := and_t h4
  obtain ⟨h4, h7⟩ := and_t h4
  obtain ⟨h8, h9⟩ := and_t h4
  refine ⟨blt_lt h8, inW_mw h9, of_decide_eq_true h7, fun e => ?_, fun e => ?_⟩
  · subst e; exact inW_mw h6
  · subst e
    obtain ⟨a, b⟩ := and_t h6
    exact ⟨inW_mw a, inW_mw b⟩
theorem mrcv_inv {a : List mV} {cl : Nat} (h : mrcv a cl = true) : ∃ g i fs r, a = .inr (.inr (g, i)) :: r ∧ shp g = some (.inl (cl, fs)) := by
  unfold mrcv at h
  split at h
  · split at h
    · rename_i hs
      have := bq h
      subst this
      exact ⟨_, _, _, _, rfl, hs⟩
    · cases h
  · cases h
theorem room_of {k idx j n : Nat} {stat st' : Bool} (h : mth (mcl k) idx = some (stat, j, n)) (hr : roomOK k idx st' = true) (h0 : Nat.ble 1000 j = false) (h1 : Nat.beq j 1000 = false) : (rmf j + 1 ≤ rmf k ∧ 8 + (mml j + 11) + rml j ≤ rml k) ∧ (j ≠ kX7_moved ∧ j ≠ kX7_row) := by
  unfold roomOK at hr
  rw [h] at hr
  dsimp only at hr
  rw [h1, h0] at hr
  simp only [cond_false] at hr
  obtain ⟨hr, hn⟩ := and_t hr
  obtain ⟨a, b⟩ := and_t hr
  obtain ⟨n1, n2⟩ := and_t hn
  exact ⟨⟨Nat.le_of_ble_eq_true a, Nat.le_of_ble_eq_true b⟩, fun e => (by rw [e] at n1; cases n1), fun e => (by rw [e] at n2; cases n2)⟩
set_option maxHeartbeats 4000000 in
theorem mAt_cl {E : mE} {post : Option mV → mS → Prop} (hk : k < 146) (hR : rmf k ≤ R.frames ∧ rml k ≤ R.locals) (hx : p.tables.exec = Jvm.exec) (hb : c.code = bcd k) (hml : c.maxLocals = mml k) (hown : s.vm.findClass (onm (mcl k)) = some m.cls) (hts : ∀ w ∈ wk k, w.before args s = true)
    (hK : va_K (dC, dI) cls (mtys cI cZ cL) s) (hA : ∀ q, s.heap.size ≤ q → A q) (hD : ∀ σ, va_D A (wld ad cI cZ cL b σ))
    (hcall : ∀ j a σ post, j < 146 → (j ≠ kX7_moved ∧ j ≠ kX7_row) → E j a σ post → (mlv a).length ≤ mml j → (∀ v ∈ a, vok b v) → mMet l dC dI ad cI cZ cL b j a σ post)
    (hretI : ∀ (pc : Nat) (ls : Array Slot) (H : Heap) (locs : List Loc) (σ : mS) (x : Int32), decode (bcd k) pc = .ok (.ireturn, 1) → (mrt k = 1 ∨ mrt k = 2) → va_P (dC, dI) cls (wld ad cI cZ cL b σ) H → va_S A s.heap H locs → post (some (mI (bif Nat.beq (mrt k) 2 then x &&& 1 else x))) σ → W p l e R s m args below meth c H locs 0 0 Q (F0 m pc ls [.int x]))
    (hretA : ∀ (pc : Nat) (ls : Array Slot) (H : Heap) (locs : List Loc) (σ : mS) (x : Nat × Nat), decode (bcd k) pc = .ok (.areturn, 1) → mrt k = 3 → x ∈ mcs b → va_P (dC, dI) cls (wld ad cI cZ cL b σ) H → va_S A s.heap H locs → post (some (.inr (.inr x))) σ → W p l e R s m args below meth c H locs 0 0 Q (F0 m pc ls [.ref (ad x.1 x.2)]))
    (hretV : ∀ (pc : Nat) (ls : Array Slot) (H : Heap) (locs : List Loc) (σ : mS), decode (bcd k) pc = .ok (.return_, 1) → mrt k = 0 → va_P (dC, dI) cls (wld ad cI cZ cL b σ) H → va_S A s.heap H locs → post none σ → W p l e R s m args below meth c H locs 0 0 Q (F0 m pc ls []))
    (hnew : ∀ (pc idx len : Nat) (L : mL) (ls : Array Slot) (H : Heap) (locs : List Loc) (σ : mS), (∃ x, cod k pc = some (.new idx, len, x)) → (k = kX7_moved ∨ k = kX7_row) → L.length = mml k → lvk ad ls L → va_P (dC, dI) cls (wld ad cI cZ cL b σ) H → va_S A s.heap H locs → post (some mThr) σ → W p l e R s m args below meth c H locs 0 0 Q (F0 m pc ls [])) :
    mCl E k post (mAt p l e R s m args below meth c Q dC dI ad cI cZ cL b k A) := by
  intro pc L st σ h
  unfold mstep at h
  cases hc : cod k pc with
  | none => rw [hc] at h; exact h.elim
  | some x =>
  obtain ⟨i, len, tgt, cv, hd⟩ := x
  rw [hc] at h
  dsimp only at h
  have hch := chk_all hc
  unfold chkI at hch
  obtain ⟨hdec, hok⟩ := and_t hch
  replace hdec := of_decide_eq_true hdec
  dsimp only at hdec hok
  have hw : ∀ w ∈ mw, w.before args s = true := fun w h => hts w (mw_wk k h)
  intro hL hvL hvs H locs ls hP hS hl
  cases i with
  | iconst n =>
    obtain ⟨h1, h2⟩ := and_t hok
    have h2 := bq h2
    subst h2
    exact lv_iconst hx hb hdec (eq_of_beq h1) (h hL hvL (vok_cons trivial hvs) H locs ls hP hS hl)
  | bipush n =>
    obtain ⟨h1, h2⟩ := and_t hok
    have h2 := bq h2
    subst h2
    exact lv_bipush hx hb hdec (eq_of_beq h1) (h hL hvL (vok_cons trivial hvs) H locs ls hP hS hl)
  | sipush n =>
    obtain ⟨h1, h2⟩ := and_t hok
    have h2 := bq h2
    subst h2
    exact lv_sipush hx hb hdec (eq_of_beq h1) (h hL hvL (vok_cons trivial hvs) H locs ls hP hS hl)
  | lconst n =>
    have h2 := bq hok
    subst h2
    exact lv_lconst hx hb hdec rfl (h hL hvL (vok_cons trivial hvs) H locs ls hP hS hl)
  | ldc2_w idx =>
    have h2 := bq hok
    subst h2
    obtain ⟨v, h1, h⟩ := kop_inv h
    exact lv_ldc2 hx hb hown (hw _ (lcn_ok h1)) hdec (h hL hvL (vok_cons trivial hvs) H locs ls hP hS hl)
  | iload_n i =>
    have h2 := bq hok
    subst h2
    obtain ⟨v, h1, h⟩ := kld_inv h
    obtain ⟨x, rfl, h⟩ := kiv_inv h
    exact lv_iload_n hx hb hdec rfl (lvk_at hl h1) (h hL hvL (vok_cons trivial hvs) H locs ls hP hS hl)
  | iload i =>
    have h2 := bq hok
    subst h2
    obtain ⟨v, h1, h⟩ := kld_inv h
    obtain ⟨x, rfl, h⟩ := kiv_inv h
    exact lv_iload hx hb hdec (lvk_at hl h1) (h hL hvL (vok_cons trivial hvs) H locs ls hP hS hl)
  | lload_n i =>
    have h2 := bq hok
    subst h2
    obtain ⟨v, h1, h⟩ := kld_inv h
    obtain ⟨x, rfl, h⟩ := kjv_inv h
    exact lv_lload_n hx hb hdec rfl (lvk_at hl h1) (h hL hvL (vok_cons trivial hvs) H locs ls hP hS hl)
  | lload i =>
    have h2 := bq hok
    subst h2
    obtain ⟨v, h1, h⟩ := kld_inv h
    obtain ⟨x, rfl, h⟩ := kjv_inv h
    exact lv_lload hx hb hdec (lvk_at hl h1) (h hL hvL (vok_cons trivial hvs) H locs ls hP hS hl)
  | aload_n i =>
    have h2 := bq hok
    subst h2
    obtain ⟨v, h1, h⟩ := kld_inv h
    obtain ⟨x, rfl, h⟩ := krv_inv h
    exact lv_aload_n hx hb hdec rfl (lvk_at hl h1) (h hL hvL (vok_cons (hvL _ (List.mem_of_getElem? h1)) hvs) H locs ls hP hS hl)
  | aload i =>
    have h2 := bq hok
    subst h2
    obtain ⟨v, h1, h⟩ := kld_inv h
    obtain ⟨x, rfl, h⟩ := krv_inv h
    exact lv_aload hx hb hdec (lvk_at hl h1) (h hL hvL (vok_cons (hvL _ (List.mem_of_getElem? h1)) hvs) H locs ls hP hS hl)
  | istore_n i =>
    obtain ⟨h1, h2⟩ := and_t hok
    have h1 := bq h1
    subst h1
    obtain ⟨x, r, rfl, h⟩ := k1_inv h
    exact lv_istore_n hx hb hdec rfl hl (by rw [hL]; exact blt_lt h2) rfl (fun ls' hl' => h (by rw [mst_len]; exact hL) (vok_st hvL trivial) (vok_tail hvs) H locs ls' hP hS (lvk_store (v := mI x) rfl hl'))
  | istore i =>
    obtain ⟨h1, h2⟩ := and_t hok
    have h1 := bq h1
    subst h1
    obtain ⟨x, r, rfl, h⟩ := k1_inv h
    exact lv_istore hx hb hdec hl (by rw [hL]; exact blt_lt h2) rfl (fun ls' hl' => h (by rw [mst_len]; exact hL) (vok_st hvL trivial) (vok_tail hvs) H locs ls' hP hS (lvk_store (v := mI x) rfl hl'))
  | astore_n i =>
    obtain ⟨h1, h2⟩ := and_t hok
    have h1 := bq h1
    subst h1
    obtain ⟨x, r, rfl, h⟩ := kR_inv h
    exact lv_astore_n hx hb hdec rfl hl (by rw [hL]; exact blt_lt h2) rfl (fun ls' hl' => h (by rw [mst_len]; exact hL) (vok_st hvL (vok_head hvs)) (vok_tail hvs) H locs ls' hP hS (lvk_store (v := .inr (.inr x)) rfl hl'))
  | iinc i n =>
    obtain ⟨h1, h3⟩ := and_t hok
    obtain ⟨h1, h2⟩ := and_t h1
    have h1 := bq h1
    subst h1
    obtain ⟨v, h4, h⟩ := kld_inv h
    obtain ⟨x, rfl, h⟩ := kiv_inv h
    obtain ⟨q, hq⟩ := List.getElem?_of_mem (prs_mem (ad := ad) (q := (i, .int x)).mpr ⟨.inl x, h4, rfl⟩)
    exact lv_iinc (v := x + cv) hx hb hdec hl hq (by rw [eq_of_beq h3]) (by rw [hL]; exact blt_lt h2) rfl (fun ls' hl' => h (by rw [mst_len]; exact hL) (vok_st hvL trivial) hvs H locs ls' hP hS (lvk_store (v := mI (x + cv)) rfl hl'))
  | getfield idx =>
    have h2 := bq hok
    subst h2
    obtain ⟨⟨ci, f⟩, h1, h⟩ := kop_inv h
    obtain ⟨g, i, c', fs, r, rfl, h3, h⟩ := kO_inv h
    obtain ⟨h4, h⟩ := bif_t h
    have h4 := bq h4
    subst h4
    have hg : (g, i) ∈ mcs b := vok_head hvs
    obtain ⟨q0, hq, hat⟩ := wld_at (ad := ad) (cI := cI) (cZ := cZ) (cL := cL) (σ := σ) hg
    rw [mcell_obj h3] at hat
    obtain ⟨q, hq1, hq2, hq3⟩ := fld_ok h1
    have hcl := cls_ok hq1
    rcases kfs_inv h with ⟨h5, h⟩ | ⟨g', h5, h⟩
    · exact va_get (D := (dC, dI)) hx hb hts (fun w z => mw_wk k (hcl.1 w z)) hown hK hP q0 hat hq1 f hq2 (hw _ hq3) (fun _ z => z) (by rw [mfd_get, h5]; rfl) hdec (h hL hvL (vok_cons trivial (vok_tail hvs)) H locs ls hP hS hl)
    · exact va_get (D := (dC, dI)) hx hb hts (fun w z => mw_wk k (hcl.1 w z)) hown hK hP q0 hat hq1 f hq2 (hw _ hq3) (fun _ z => z) (by rw [mfd_get, h5]; rfl) hdec (h hL hvL (vok_cons (vok_fld hg h3 h5) (vok_tail hvs)) H locs ls hP hS hl)
  | putfield idx =>
    have h2 := bq hok
    subst h2
    obtain ⟨⟨ci, f⟩, h1, h⟩ := kop_inv h
    obtain ⟨v, st', rfl, h⟩ := k1_inv h
    obtain ⟨g, i, c', fs, r, rfl, h3, h⟩ := kO_inv h
    obtain ⟨h4, h⟩ := bif_t h
    have h4 := bq h4
    subst h4
    rcases kfs_inv h with ⟨h5, h⟩ | ⟨g', h5, h⟩
    · have hg : (g, i) ∈ mcs b := vok_head (vok_tail hvs)
      obtain ⟨q0, hq, hat⟩ := wld_at (ad := ad) (cI := cI) (cZ := cZ) (cL := cL) (σ := σ) hg
      have hset := wld_set (ad := ad) (cI := cI) (cZ := cZ) (cL := cL) (σ := σ) hq (upd (σ g i) f v)
      rw [mcell_obj h3] at hat hset
      obtain ⟨q, hq1, hq2, hq3⟩ := fld_ok h1
      obtain ⟨hc1, ⟨ty0, hc2⟩, hc3⟩ := cls_ok hq1
      obtain ⟨q', hq4, hq5, hq6⟩ := shp_obj h3
      have hqq : q' = q := Option.some.inj (hq4.symm.trans hq1)
      subst hqq
      refine va_put (D := (dC, dI)) (v := .int v) hx hb hts (fun w z => mw_wk k (hc1 w z)) ty0 hc2 hc3 hown hK hP (hD σ) hS q0 hat hq1 f hq2 (hw _ hq3) (fun _ z => z) (hq6 f h5).1 (hq6 f h5).2 rfl rfl (by rw [mfd_len]; exact (List.getElem?_eq_some_iff.mp h5).1) hdec (fun H1 locs1 hP1 hD1 hS1 => ?_)
      rw [mfd_set h5, hset] at hP1
      exact h hL hvL (vok_tail (vok_tail hvs)) H1 locs1 ls hP1 hS1 hl
    · exact h.elim
  | iaload =>
    have h2 := bq hok
    subst h2
    obtain ⟨g, i, n, j, r, rfl, h3, h4, h⟩ := kA_inv h
    obtain ⟨q0, hq, hat⟩ := wld_at (ad := ad) (cI := cI) (cZ := cZ) (cL := cL) (σ := σ) (show (g, i) ∈ mcs b from vok_head (vok_tail hvs))
    rw [mcell_arr h3] at hat
    exact va_iald (D := (dC, dI)) hx hb hK hP q0 0 hat rfl h4 hdec (h hL hvL (vok_cons trivial (vok_tail (vok_tail hvs))) H locs ls hP hS hl)
  | baload =>
    have h2 := bq hok
    subst h2
    obtain ⟨g, i, n, j, r, rfl, h3, h4, h⟩ := kA_inv h
    obtain ⟨q0, hq, hat⟩ := wld_at (ad := ad) (cI := cI) (cZ := cZ) (cL := cL) (σ := σ) (show (g, i) ∈ mcs b from vok_head (vok_tail hvs))
    rw [mcell_arr h3] at hat
    exact va_zald (D := (dC, dI)) hx hb hK hP q0 1 hat rfl h4 hdec (h hL hvL (vok_cons trivial (vok_tail (vok_tail hvs))) H locs ls hP hS hl)
  | iastore =>
    have h2 := bq hok
    subst h2
    obtain ⟨g, i, n, j, v, r, rfl, h3, h4, h⟩ := kS_inv h
    obtain ⟨q0, hq, hat⟩ := wld_at (ad := ad) (cI := cI) (cZ := cZ) (cL := cL) (σ := σ) (show (g, i) ∈ mcs b from vok_head (vok_tail (vok_tail hvs)))
    have hset := wld_set (ad := ad) (cI := cI) (cZ := cZ) (cL := cL) (σ := σ) hq (upd (σ g i) j.toNatClampNeg v)
    rw [mcell_arr h3] at hat hset
    refine va_iast (D := (dC, dI)) hx hb hK hP (hD σ) hS q0 0 hat rfl h4 hdec (fun H1 locs1 hP1 hD1 hS1 => ?_)
    exact h hL hvL (vok_tail (vok_tail (vok_tail hvs))) H1 locs1 ls (by rw [← hset]; exact hP1) hS1 hl
  | bastore =>
    have h2 := bq hok
    subst h2
    obtain ⟨g, i, n, j, v, r, rfl, h3, h4, h⟩ := kS_inv h
    obtain ⟨q0, hq, hat⟩ := wld_at (ad := ad) (cI := cI) (cZ := cZ) (cL := cL) (σ := σ) (show (g, i) ∈ mcs b from vok_head (vok_tail (vok_tail hvs)))
    have hset := wld_set (ad := ad) (cI := cI) (cZ := cZ) (cL := cL) (σ := σ) hq (upd (σ g i) j.toNatClampNeg (v &&& 1))
    rw [mcell_arr h3] at hat hset
    refine va_zast (D := (dC, dI)) hx hb hK hP (hD σ) hS q0 1 hat rfl h4 hdec (fun H1 locs1 hP1 hD1 hS1 => ?_)
    exact h hL hvL (vok_tail (vok_tail (vok_tail hvs))) H1 locs1 ls (by rw [← hset]; exact hP1) hS1 hl
  | aaload =>
    have h2 := bq hok
    subst h2
    obtain ⟨g, i, g', n, j, r, rfl, h3, h4, h⟩ := kQ_inv h
    have hg : (g, i) ∈ mcs b := vok_head (vok_tail hvs)
    obtain ⟨q0, hq, hat⟩ := wld_at (ad := ad) (cI := cI) (cZ := cZ) (cL := cL) (σ := σ) hg
    rw [mcell_ref h3] at hat
    have hlt : j.toNatClampNeg < n := Nat.not_le.mp fun q => h4 (Or.inr q)
    exact va_aldq (D := (dC, dI)) hx hb hK hP q0 2 hat rfl h4 hdec (h hL hvL (vok_cons (vok_ref hg h3 hlt) (vok_tail (vok_tail hvs))) H locs ls hP hS hl)
  | arraylength =>
    have h2 := bq hok
    subst h2
    obtain ⟨g, i, z, n, r, rfl, h3, h⟩ := kN_inv h
    obtain ⟨q0, hq, hat⟩ := wld_at (ad := ad) (cI := cI) (cZ := cZ) (cL := cL) (σ := σ) (show (g, i) ∈ mcs b from vok_head hvs)
    rw [mcell_arr h3] at hat
    cases z with
    | false => exact va_alen (D := (dC, dI)) hx hb hK hP q0 0 hat rfl rfl hdec (h hL hvL (vok_cons trivial (vok_tail hvs)) H locs ls hP hS hl)
    | true => exact va_alen (D := (dC, dI)) hx hb hK hP q0 1 hat rfl rfl hdec (h hL hvL (vok_cons trivial (vok_tail hvs)) H locs ls hP hS hl)
  | iadd =>
    have h2 := bq hok
    subst h2
    obtain ⟨x, y, r, rfl, h⟩ := k2_inv h
    exact lv_iadd hx hb hdec (h hL hvL (vok_cons trivial (vok_tail (vok_tail hvs))) H locs ls hP hS hl)
  | isub =>
    have h2 := bq hok
    subst h2
    obtain ⟨x, y, r, rfl, h⟩ := k2_inv h
    exact lv_isub hx hb hdec (h hL hvL (vok_cons trivial (vok_tail (vok_tail hvs))) H locs ls hP hS hl)
  | imul =>
    have h2 := bq hok
    subst h2
    obtain ⟨x, y, r, rfl, h⟩ := k2_inv h
    exact lv_imul hx hb hdec (h hL hvL (vok_cons trivial (vok_tail (vok_tail hvs))) H locs ls hP hS hl)
  | idiv =>
    have h2 := bq hok
    subst h2
    obtain ⟨x, y, r, rfl, h1, h⟩ := k2_inv h
    exact lv_idiv hx hb hdec h1 (h hL hvL (vok_cons trivial (vok_tail (vok_tail hvs))) H locs ls hP hS hl)
  | irem =>
    have h2 := bq hok
    subst h2
    obtain ⟨x, y, r, rfl, h1, h⟩ := k2_inv h
    exact lv_irem hx hb hdec h1 (h hL hvL (vok_cons trivial (vok_tail (vok_tail hvs))) H locs ls hP hS hl)
  | iand =>
    have h2 := bq hok
    subst h2
    obtain ⟨x, y, r, rfl, h⟩ := k2_inv h
    exact lv_iand hx hb hdec (h hL hvL (vok_cons trivial (vok_tail (vok_tail hvs))) H locs ls hP hS hl)
  | ishr =>
    have h2 := bq hok
    subst h2
    obtain ⟨x, y, r, rfl, h⟩ := k2_inv h
    exact lv_ishr hx hb hdec (h hL hvL (vok_cons trivial (vok_tail (vok_tail hvs))) H locs ls hP hS hl)
  | i2l =>
    have h2 := bq hok
    subst h2
    obtain ⟨x, r, rfl, h⟩ := k1_inv h
    exact lv_i2l hx hb hdec rfl (h hL hvL (vok_cons trivial (vok_tail hvs)) H locs ls hP hS hl)
  | lcmp =>
    have h2 := bq hok
    subst h2
    obtain ⟨x, y, r, rfl, h⟩ := kJJ_inv h
    exact W.lcmp hx hb hdec (h hL hvL (vok_cons trivial (vok_tail (vok_tail hvs))) H locs ls hP hS hl)
  | dup =>
    have h2 := bq hok
    subst h2
    obtain ⟨v, r, rfl, h1, h⟩ := kdp_inv (K := fun v r => mAt p l e R s m args below meth c Q dC dI ad cI cZ cL b k A (pc + 1) L (v :: v :: r) σ) h
    exact lv_dup hx hb hdec (mval_cat h1) (h hL hvL (vok_cons (vok_head hvs) hvs) H locs ls hP hS hl)
  | pop =>
    have h2 := bq hok
    subst h2
    obtain ⟨v, r, rfl, h⟩ := k1_inv h
    exact lv_pop hx hb hdec rfl (h hL hvL (vok_tail hvs) H locs ls hP hS hl)
  | goto off =>
    obtain ⟨h1, h2⟩ := and_t hok
    have h1 := bq h1
    subst h1
    exact lv_goto hx hb hdec (eq_of_beq h2) (h hL hvL hvs H locs ls hP hS hl)
  | ifCond cc off =>
    obtain ⟨h1, h2⟩ := and_t hok
    have h1 := bq h1
    subst h1
    have h2 := eq_of_beq h2
    cases cc <;> (obtain ⟨x, r, rfl, ha, hb'⟩ := k1_inv h)
    · exact lv_if_eq hx hb hdec h2 (fun q => ha q hL hvL (vok_tail hvs) H locs ls hP hS hl) (fun q => hb' q hL hvL (vok_tail hvs) H locs ls hP hS hl)
    · exact lv_if_ne hx hb hdec h2 (fun q => ha q hL hvL (vok_tail hvs) H locs ls hP hS hl) (fun q => hb' q hL hvL (vok_tail hvs) H locs ls hP hS hl)
    · exact lv_if_lt hx hb hdec h2 (fun q => ha q hL hvL (vok_tail hvs) H locs ls hP hS hl) (fun q => hb' q hL hvL (vok_tail hvs) H locs ls hP hS hl)
    · exact lv_if_ge hx hb hdec h2 (fun q => ha q hL hvL (vok_tail hvs) H locs ls hP hS hl) (fun q => hb' q hL hvL (vok_tail hvs) H locs ls hP hS hl)
    · exact lv_if_gt hx hb hdec h2 (fun q => ha q hL hvL (vok_tail hvs) H locs ls hP hS hl) (fun q => hb' q hL hvL (vok_tail hvs) H locs ls hP hS hl)
    · exact lv_if_le hx hb hdec h2 (fun q => ha q hL hvL (vok_tail hvs) H locs ls hP hS hl) (fun q => hb' q hL hvL (vok_tail hvs) H locs ls hP hS hl)
  | if_icmp cc off =>
    obtain ⟨h1, h2⟩ := and_t hok
    have h1 := bq h1
    subst h1
    have h2 := eq_of_beq h2
    cases cc <;> (obtain ⟨x, y, r, rfl, ha, hb'⟩ := k2_inv h)
    · exact lv_icmp_eq hx hb hdec h2 (fun q => ha q hL hvL (vok_tail (vok_tail hvs)) H locs ls hP hS hl) (fun q => hb' q hL hvL (vok_tail (vok_tail hvs)) H locs ls hP hS hl)
    · exact lv_icmp_ne hx hb hdec h2 (fun q => ha q hL hvL (vok_tail (vok_tail hvs)) H locs ls hP hS hl) (fun q => hb' q hL hvL (vok_tail (vok_tail hvs)) H locs ls hP hS hl)
    · exact lv_icmp_lt hx hb hdec h2 (fun q => ha q hL hvL (vok_tail (vok_tail hvs)) H locs ls hP hS hl) (fun q => hb' q hL hvL (vok_tail (vok_tail hvs)) H locs ls hP hS hl)
    · exact lv_icmp_ge hx hb hdec h2 (fun q => ha q hL hvL (vok_tail (vok_tail hvs)) H locs ls hP hS hl) (fun q => hb' q hL hvL (vok_tail (vok_tail hvs)) H locs ls hP hS hl)
    · exact lv_icmp_gt hx hb hdec h2 (fun q => ha q hL hvL (vok_tail (vok_tail hvs)) H locs ls hP hS hl) (fun q => hb' q hL hvL (vok_tail (vok_tail hvs)) H locs ls hP hS hl)
    · exact lv_icmp_le hx hb hdec h2 (fun q => ha q hL hvL (vok_tail (vok_tail hvs)) H locs ls hP hS hl) (fun q => hb' q hL hvL (vok_tail (vok_tail hvs)) H locs ls hP hS hl)
  | ireturn =>
    obtain ⟨h1, h2⟩ := and_t hok
    have h1 := bq h1
    subst h1
    obtain ⟨x, rfl, h⟩ := kr1_inv h
    refine hretI pc ls H locs σ x hdec ?_ hP hS h
    rcases Bool.or_eq_true_iff.mp h2 with q | q
    · exact Or.inl (bq q)
    · exact Or.inr (bq q)
  | areturn =>
    obtain ⟨h1, h2⟩ := and_t hok
    have h1 := bq h1
    subst h1
    obtain ⟨x, rfl, h⟩ := kr2_inv h
    exact hretA pc ls H locs σ x hdec (bq h2) (vok_head hvs) hP hS h
  | return_ =>
    obtain ⟨h1, h2⟩ := and_t hok
    have h1 := bq h1
    subst h1
    obtain ⟨rfl, h⟩ := kr0_inv h
    exact hretV pc ls H locs σ hdec (bq h2) hP hS h
  | new idx =>
    obtain ⟨rfl, h⟩ := kr0_inv h
    refine hnew pc idx len L ls H locs σ ⟨_, hc⟩ ?_ hL hl hP hS h
    rcases Bool.or_eq_true_iff.mp hok with q | q
    · exact Or.inl (bq q)
    · exact Or.inr (bq q)
  | tableswitch d lo hi offs =>
    obtain ⟨x, r, rfl, h1, h2⟩ := k1_inv h
    have hsz : hi - lo + 1 = (offs.size : Int) := eq_of_beq hok
    by_cases ho : x.toInt < lo ∨ hi < x.toInt
    · obtain ⟨h3, h4⟩ := h1 ho
      exact lv_tableOut hx hb hdec ho (Int.toNat_of_nonneg h4).symm (h3 hL hvL (vok_tail hvs) H locs ls hP hS hl)
    · have hlt : (x.toInt - lo).toNat < offs.size := by omega
      obtain ⟨h3, h4⟩ := h2 _ _ (Array.getElem?_eq_getElem hlt) (by omega)
      exact lv_tableIn hx hb hdec (fun q => ho (Or.inl q)) (fun q => ho (Or.inr q)) (Array.getElem?_eq_getElem hlt) (Int.toNat_of_nonneg h4).symm (h3 hL hvL (vok_tail hvs) H locs ls hP hS hl)
  | invokevirtual idx =>
    obtain ⟨h1, h2⟩ := and_t hok
    have h1 := bq h1
    subst h1
    obtain ⟨⟨stat, j, n⟩, hm, h⟩ := kop_inv h
    obtain ⟨h3, h⟩ := bif_f h
    have h3 : stat = false := by cases stat <;> first | rfl | cases h3
    subst h3
    dsimp only at h
    have key : Nat.beq j 1000 = false ∧ Nat.beq j 1001 = false ∧ Nat.beq j 1002 = false ∧ Nat.beq j 1003 = false := by
      obtain ⟨h4, h5⟩ := mth_ok hm
      unfold okM at h4
      rw [h5] at h4
      dsimp only at h4
      refine ⟨?_, ?_, ?_, ?_⟩
      · cases q : Nat.beq j 1000 with
        | false => rfl
        | true => have := bq q; subst this; cases h4
      · cases q : Nat.beq j 1001 with
        | false => rfl
        | true => have := bq q; subst this; cases h4
      · cases q : Nat.beq j 1002 with
        | false => rfl
        | true => have := bq q; subst this; cases h4
      · cases q : Nat.beq j 1003 with
        | false => rfl
        | true => have := bq q; subst this; cases h4
    obtain ⟨hj, hlink, hdesc, -, hinst⟩ := okM_of hm key.1 key.2.1 key.2.2.1 key.2.2.2
    have hble : Nat.ble 1000 j = false := by
      cases q : Nat.ble 1000 j with
      | false => rfl
      | true => have := Nat.le_of_ble_eq_true q; omega
    have hroom := room_of hm h2 hble key.1
    obtain ⟨hini, hcl, hpl, hn1, hn2, -⟩ := okC_of hj
    unfold kcl at h
    rw [key.1, key.2.1, key.2.2.1, key.2.2.2] at h
    obtain ⟨x, r, rfl, hlen, h⟩ := ktk_inv _ _ _ h
    obtain ⟨h4, h⟩ := bif_t h
    obtain ⟨h4, h5⟩ := and_t h4
    obtain ⟨h5, h6⟩ := and_t h5
    obtain ⟨q, hE, h⟩ := h
    rw [List.append_nil] at h5 h6 hE
    obtain ⟨g, i, fs, As, hxr, hsh⟩ := mrcv_inv h6
    have hvx : ∀ v ∈ x.reverse, vok b v := fun v hv => hvs v (List.mem_append_left _ (List.mem_reverse.mp hv))
    have hM := hcall j x.reverse σ q hj hroom.2 hE (by rw [mlv_len]; exact Nat.le_of_ble_eq_true h5) hvx H.size
    have hxe : x = As.reverse ++ [.inr (.inr (g, i))] := by
      have := congrArg List.reverse hxr
      simpa using this
    rw [hxr] at hM hvx
    have hg : (g, i) ∈ mcs b := vok_head hvx
    obtain ⟨q0, hq, hat⟩ := wld_at (ad := ad) (cI := cI) (cZ := cZ) (cL := cL) (σ := σ) hg
    rw [mcell_obj hsh] at hat
    obtain ⟨qc, hqc, -, -⟩ := shp_obj hsh
    have hF := wld_free (hD σ) hS hA
    have hqn : qc.1 = (ycd j).cls := by
      rw [hcl]
      have hlt : mcl j < 9 := (List.getElem?_eq_some_iff.mp hqc).1
      revert hqc
      generalize mcl j = z at hlt
      intro hqc
      match z, hlt, hqc with
      | 0, _, hqc => cases hqc; rfl
      | 1, _, hqc => cases hqc; rfl
      | 2, _, hqc => cases hqc; rfl
      | 3, _, hqc => cases hqc; rfl
      | 4, _, hqc => cases hqc; rfl
      | 5, _, hqc => cases hqc; rfl
      | 6, _, hqc => cases hqc; rfl
      | 7, _, hqc => cases hqc; rfl
      | 8, _, hqc => cases hqc; rfl
      | z + 9, hlt, _ => exact absurd hlt (by omega)
    have hrecv := va_recv hK hP hqc hat
    rw [hqn] at hrecv
    refine m_call (va_runV (As := As.map (mval ad)) (rest := r.map (mval ad)) (b := ad g i) (C := (ycd j).cls) (n := n) ⟨hx, hb, hml, hown, hts⟩ hM
      (cwV n hts (good_call hj k (w0 := [.methodLink (onm (mcl k)) idx (ycd j), .instanceMethod (ycd j), .selects (ycd j).cls (ycd j) (ycd j), .initialized (ycd j).cls]) (by
        intro w hw9
        simp only [List.mem_cons, List.not_mem_nil, or_false] at hw9
        rcases hw9 with rfl | rfl | rfl | rfl
        · exact hlink
        · exact (hinst rfl).1
        · exact (hinst rfl).2
        · exact hini)) rfl rfl rfl ⟨rfl, hn1, hn2, hdesc⟩ ⟨Nat.le_trans hroom.1.1 hR.1, Nat.le_trans hroom.1.2 hR.2⟩)
      ⟨mPc_blind, hrecv, fun U hU hW => ⟨rfl, by rw [hU], by rw [hU]; exact hP, va_K.moved hW.alike hK, (hD σ).weaken (fun _ _ _ _ => trivial)⟩⟩
      rfl ?_ (hl.1.trans hL) ?_ (lv_room (by rw [mval_wd]; exact Nat.le_of_ble_eq_true h4)) hdec ⟨Nat.zero_le _, Nat.zero_le _⟩) hS (fun q _ z => hF q z) hF (fun v σ' H1 locs1 hv9 hp9 hP9 hS9 => ?_)
    · have : x.length = n + 1 := hlen
      rw [hxe] at this
      simpa using this
    · show ((x ++ r).map (mval ad)) = _
      rw [hxe]
      simp [mval]
    · have hK9 := h v σ' hp9 hL hvL (by
        intro w hw9
        rcases List.mem_append.mp hw9 with z | z
        · cases v with
          | none => cases z
          | some v0 => rw [List.mem_singleton.mp z]; exact hv9 v0 rfl
        · exact hvs w (List.mem_append_right _ z)) H1 locs1 ls hP9 hS9 hl
      cases v with
      | none => exact hK9
      | some v0 => exact hK9
  | invokestatic idx =>
    obtain ⟨h1, h2⟩ := and_t hok
    have h1 := bq h1
    subst h1
    obtain ⟨⟨stat, j, n⟩, hm, h⟩ := kop_inv h
    obtain ⟨h3, h⟩ := bif_f h
    have h3 : stat = true := by cases stat <;> first | rfl | cases h3
    subst h3
    dsimp only at h
    have hmm := mth_ok hm
    obtain ⟨hok1, hok2⟩ := hmm
    unfold okM at hok1
    rw [hok2] at hok1
    dsimp only at hok1
    have hroom := h2
    unfold roomOK at hroom
    rw [hm] at hroom
    dsimp only at hroom
    unfold kcl at h
    have hmath : (Cond.initialized "java/lang/Math").before args s = true := hw _ (inW_mw ok_math)
    have hsize : c.maxLocals = ls.size := hml.trans (hl.1.trans hL).symm
    cases h00 : Nat.beq j 1000 with
    | true =>
      have hj := bq h00
      subst hj
      rw [h00] at h
      obtain ⟨g, i, n0, g', i', n1, sp, dp, nn, rfl, hs1, hs2, ⟨c1, c2, c3, c4, c5⟩, h⟩ := kcp_inv h
      have hv1 : (g', i') ∈ mcs b := vok_head (vok_tail (vok_tail hvs))
      have hv2 : (g, i) ∈ mcs b := vok_head (vok_tail (vok_tail (vok_tail (vok_tail hvs))))
      obtain ⟨q0, hq0, hat0⟩ := wld_at (ad := ad) (cI := cI) (cZ := cZ) (cL := cL) (σ := σ) hv2
      obtain ⟨q1, hq1, hat1⟩ := wld_at (ad := ad) (cI := cI) (cZ := cZ) (cL := cL) (σ := σ) hv1
      have hset := wld_set (ad := ad) (cI := cI) (cZ := cZ) (cL := cL) (σ := σ) hq1 (va_cpy (σ g i) (σ g' i') sp.toNatClampNeg dp.toNatClampNeg nn.toNatClampNeg)
      rw [mcell_arr hs1] at hat0
      rw [mcell_arr hs2] at hat1 hset
      obtain ⟨hr1, hr2⟩ := and_t hroom
      obtain ⟨k1', k3'⟩ := and_t ok_copy
      obtain ⟨k1', k2'⟩ := and_t k1'
      have hlk : inW (mti (mcl k) idx).1 (Cond.methodLink (onm (mcl k)) idx arraycopyName) = true := hok1
      refine va_copyi (D := (dC, dI)) (ty := .int) hx hb hsize hown (hw _ (inW_mw hlk)) (hw _ (inW_mw k1')) (hw _ (inW_mw k2')) (hw _ (inW_mw k3')) hK hP (hD σ) hS q0 q1 0 0 hat0 hat1 rfl rfl rfl c1 c2 c3 c4 c5 (fun _ _ => rfl) (Nat.le_trans (Nat.le_of_ble_eq_true hr1) hR.1) (by refine Nat.le_trans ?_ hR.2; exact Nat.le_trans (by simp) (Nat.le_of_ble_eq_true hr2)) hdec (fun H1 locs1 hP1 hD1 hS1 => ?_)
      exact h hL hvL (fun _ z => by cases z) H1 locs1 ls (by rw [← hset]; exact hP1) hS1 hl
    | false =>
      rw [h00] at h hroom hok1
      cases h01 : Nat.beq j 1001 with
      | true =>
        have hj := bq h01
        subst hj
        obtain ⟨x, r, rfl, h⟩ := k1_inv h
        obtain ⟨h4, h⟩ := bif_t h
        obtain ⟨hr1, hr2⟩ := and_t hroom
        obtain ⟨hok1, hw3⟩ := and_t hok1
        obtain ⟨hok1, hw2⟩ := and_t hok1
        obtain ⟨-, hw1⟩ := and_t hok1
        refine va_mabs hx hb hsize hown (hw _ (inW_mw hw1)) (hw _ (inW_mw hw2)) hmath (hw _ (inW_mw hw3)) (Nat.le_trans (Nat.le_of_ble_eq_true hr1) hR.1) ?_ (Nat.zero_le _) (Nat.zero_le _) hdec (h hL hvL (vok_cons trivial (vok_tail hvs)) H locs ls hP hS hl)
        rw [mval_wd]
        refine Nat.le_trans ?_ hR.2
        exact Nat.le_trans (Nat.add_le_add_right (Nat.le_of_ble_eq_true h4) 13) (Nat.le_of_ble_eq_true hr2)
      | false =>
      cases h02 : Nat.beq j 1002 with
      | true =>
        have hj := bq h02
        subst hj
        obtain ⟨x, y, r, rfl, h⟩ := k2_inv h
        obtain ⟨h4, h⟩ := bif_t h
        obtain ⟨hr1, hr2⟩ := and_t hroom
        obtain ⟨hok1, hw3⟩ := and_t hok1
        obtain ⟨hok1, hw2⟩ := and_t hok1
        obtain ⟨-, hw1⟩ := and_t hok1
        refine va_mmax hx hb hsize hown (hw _ (inW_mw hw1)) (hw _ (inW_mw hw2)) hmath (hw _ (inW_mw hw3)) (Nat.le_trans (Nat.le_of_ble_eq_true hr1) hR.1) ?_ (Nat.zero_le _) (Nat.zero_le _) hdec (h hL hvL (vok_cons trivial (vok_tail (vok_tail hvs))) H locs ls hP hS hl)
        rw [mval_wd]
        refine Nat.le_trans ?_ hR.2
        exact Nat.le_trans (Nat.add_le_add_right (Nat.le_of_ble_eq_true h4) 13) (Nat.le_of_ble_eq_true hr2)
      | false =>
      cases h03 : Nat.beq j 1003 with
      | true =>
        have hj := bq h03
        subst hj
        obtain ⟨x, y, r, rfl, h⟩ := k2_inv h
        obtain ⟨h4, h⟩ := bif_t h
        obtain ⟨hr1, hr2⟩ := and_t hroom
        obtain ⟨hok1, hw3⟩ := and_t hok1
        obtain ⟨hok1, hw2⟩ := and_t hok1
        obtain ⟨-, hw1⟩ := and_t hok1
        refine va_mmin hx hb hsize hown (hw _ (inW_mw hw1)) (hw _ (inW_mw hw2)) hmath (hw _ (inW_mw hw3)) (Nat.le_trans (Nat.le_of_ble_eq_true hr1) hR.1) ?_ (Nat.zero_le _) (Nat.zero_le _) hdec (h hL hvL (vok_cons trivial (vok_tail (vok_tail hvs))) H locs ls hP hS hl)
        rw [mval_wd]
        refine Nat.le_trans ?_ hR.2
        exact Nat.le_trans (Nat.add_le_add_right (Nat.le_of_ble_eq_true h4) 13) (Nat.le_of_ble_eq_true hr2)
      | false =>
      obtain ⟨hj, hlink, hdesc, hstt, -⟩ := okM_of hm h00 h01 h02 h03
      have hble : Nat.ble 1000 j = false := by
        cases q : Nat.ble 1000 j with
        | false => rfl
        | true => have := Nat.le_of_ble_eq_true q; omega
      have hroom := room_of hm h2 hble h00
      obtain ⟨hini, hcl, hpl, hn1, hn2, -⟩ := okC_of hj
      rw [h01, h02, h03] at h
      obtain ⟨x, r, rfl, hlen, h⟩ := ktk_inv _ _ _ h
      obtain ⟨h4, h⟩ := bif_t h
      obtain ⟨h4, h5⟩ := and_t h4
      obtain ⟨h5, h6⟩ := and_t h5
      obtain ⟨q, hE, h⟩ := h
      rw [List.append_nil] at h5 hE
      have hvx : ∀ v ∈ x.reverse, vok b v := fun v hv => hvs v (List.mem_append_left _ (List.mem_reverse.mp hv))
      have hM := hcall j x.reverse σ q hj hroom.2 hE (by rw [mlv_len]; exact Nat.le_of_ble_eq_true h5) hvx H.size
      have hF := wld_free (hD σ) hS hA
      refine m_call (va_runS (As := x.reverse.map (mval ad)) (rest := r.map (mval ad)) (n := n) ⟨hx, hb, hml, hown, hts⟩ hM
        (va_cwS n hts (good_call hj k (w0 := [.methodLink (onm (mcl k)) idx (ycd j), .static (ycd j), .initialized (ycd j).cls]) (by
          intro w hw9
          simp only [List.mem_cons, List.not_mem_nil, or_false] at hw9
          rcases hw9 with rfl | rfl | rfl
          · exact hlink
          · exact hstt rfl
          · exact hini)) rfl rfl rfl ⟨hn1, hn2, hdesc⟩ ⟨Nat.le_trans hroom.1.1 hR.1, Nat.le_trans hroom.1.2 hR.2⟩)
        ⟨mPc_blind, fun U hU hW => ⟨rfl, by rw [hU], by rw [hU]; exact hP, va_K.moved hW.alike hK, (hD σ).weaken (fun _ _ _ _ => trivial)⟩⟩
        rfl ?_ (hl.1.trans hL) ?_ (lv_room (by rw [mval_wd]; exact Nat.le_of_ble_eq_true h4)) hdec ⟨Nat.zero_le _, Nat.zero_le _⟩) hS (fun q _ z => hF q z) hF (fun v σ' H1 locs1 hv9 hp9 hP9 hS9 => ?_)
      · rw [List.length_map, List.length_reverse]
        exact hlen
      · show ((x ++ r).map (mval ad)) = _
        simp
      · have hK9 := h v σ' hp9 hL hvL (by
          intro w hw9
          rcases List.mem_append.mp hw9 with z | z
          · cases v with
            | none => cases z
            | some v0 => rw [List.mem_singleton.mp z]; exact hv9 v0 rfl
          · exact hvs w (List.mem_append_right _ z)) H1 locs1 ls hP9 hS9 hl
        cases v with
        | none => exact hK9
        | some v0 => exact hK9
  | _ => exact h.elim
end SND

section MET
variable {p : Program} {l : Launch} {e : Env} {R : Room} {s : State} {m : MethodId} {args : Array Value} {below : List Frame} {meth : Method} {c : Code} {H : Heap} {locs : List Loc} {cells slots : Nat} {Q : State → Prop}
/-- the end of a method whose answer is narrowed -/
theorem z_ret {cc : ByteArray} {Qc : Array Value → State → Outcome → State → Prop} {free : Addr → Prop} {v v' : Int32} {ty : FieldType} (hexec : p.tables.exec = Jvm.exec) (hb : c.code = cc) (hr : meth.sig.returnType = some ty) (hn : narrow ty (.int v) = .int v')
    (hq : ∀ t : State, t.heap = H → s.WarmedH t.vm → Qc args s (.returned (some (.int v'))) t) (hf : ∀ q ∈ locs, free q.base)
    {pc : Nat} {ls : Array Slot} (hdg : decode cc pc = .ok (.ireturn, 1)) (hlocks : meth.locks = false) : W p l e R s m args below meth c H locs cells slots (MQ below Qc args s cells slots free) (F0 m pc ls [.int v]) := by
  intro T hT X
  have hlocks : meth.locks = false := hlocks
  obtain ⟨fs, hret, hrun, hended, hW, hframe⟩ := X.leave (v := some (.int v')) (fun h => by rw [hr] at h; cases h)
  have hmeth' : T.vm.method? m = some meth := X.method'
  refine ⟨T.setFrames fs, ?_, .returned (some (.int v')), hrun, hended, hq _ hT hW, locs, ⟨⟨_, rfl⟩, hW, hframe⟩, hf⟩
  jvm_step X.here [X.here.top, hexec, hb, hdg, hmeth', hr, hn]
  (try refine ⟨rfl, ?_⟩); (try refine ⟨rfl, ?_⟩)
  first | (intro acts; rw [hret _ acts rfl rfl rfl]) | rw [hret _ _ rfl rfl rfl]
  exact Steps.refl _
end MET
theorem lv_args_mini {ad : Nat → Nat → Nat} : ∀ (a : List mV) (o j : Nat) (v : mV), (mlv a)[j]? = some (some v) → (o + j, mval ad v) ∈ lv_args o (a.map (mval ad))
  | [], _, _, _, h => by simp [mlv] at h
  | .inl x :: r, o, j, v, h => by
    cases j with
    | zero => simp only [mlv, List.getElem?_cons_zero, Option.some.injEq] at h; subst h; exact List.mem_cons_self
    | succ j =>
      have h : (mlv r)[j]? = some (some v) := h
      have := lv_args_mini (ad := ad) r (o + 1) j v h
      rw [show o + (j + 1) = o + 1 + j by omega]
      exact List.mem_cons_of_mem _ this
  | .inr (.inr x) :: r, o, j, v, h => by
    cases j with
    | zero => simp only [mlv, List.getElem?_cons_zero, Option.some.injEq] at h; subst h; exact List.mem_cons_self
    | succ j =>
      have h : (mlv r)[j]? = some (some v) := h
      have := lv_args_mini (ad := ad) r (o + 1) j v h
      rw [show o + (j + 1) = o + 1 + j by omega]
      exact List.mem_cons_of_mem _ this
  | .inr (.inl x) :: r, o, j, v, h => by
    match j, h with
    | 0, h => simp only [mlv, List.getElem?_cons_zero, Option.some.injEq] at h; subst h; exact List.mem_cons_self
    | 1, h => simp [mlv] at h
    | j + 2, h =>
      have h : (mlv r)[j]? = some (some v) := h
      have := lv_args_mini (ad := ad) r (o + 2) j v h
      rw [show o + (j + 2) = o + 2 + j by omega]
      exact List.mem_cons_of_mem _ this
theorem lg_sl_len {ad : Nat → Nat → Nat} : ∀ a : List mV, (lg_sl (a.map (mval ad))).length = (mlv a).length
  | [] => rfl
  | .inl x :: r => by
    have := lg_sl_len (ad := ad) r
    simp only [lg_sl, List.map_cons, List.flatMap_cons, List.length_append, mlv, List.length_cons] at this ⊢
    rw [this]; simp [mval, Value.category]; omega
  | .inr (.inr x) :: r => by
    have := lg_sl_len (ad := ad) r
    simp only [lg_sl, List.map_cons, List.flatMap_cons, List.length_append, mlv, List.length_cons] at this ⊢
    rw [this]; simp [mval, Value.category]; omega
  | .inr (.inl x) :: r => by
    have := lg_sl_len (ad := ad) r
    simp only [lg_sl, List.map_cons, List.flatMap_cons, List.length_append, mlv, List.length_cons] at this ⊢
    rw [this]; simp [mval, Value.category]; omega
theorem mini_get {n : Nat} {a : List mV} {j : Nat} {v : mV} (h : (mini n a)[j]? = some (some v)) : (mlv a)[j]? = some (some v) := by
  unfold mini at h
  by_cases hj : j < (mlv a).length
  · rwa [List.getElem?_append_left hj] at h
  · rw [List.getElem?_append_right (by omega), List.getElem?_replicate] at h
    split at h <;> simp at h
theorem mini_len {n : Nat} {a : List mV} (h : (mlv a).length ≤ n) : (mini n a).length = n := by
  unfold mini
  rw [List.length_append, List.length_replicate]
  omega
theorem mlv_mem : ∀ (a : List mV) (v : mV), some v ∈ mlv a → v ∈ a
  | [], v, h => by simp [mlv] at h
  | .inl x :: r, v, h => by
    rcases List.mem_cons.mp h with q | q
    · cases q; exact List.mem_cons_self
    · exact List.mem_cons_of_mem _ (mlv_mem r v q)
  | .inr (.inr x) :: r, v, h => by
    rcases List.mem_cons.mp h with q | q
    · cases q; exact List.mem_cons_self
    · exact List.mem_cons_of_mem _ (mlv_mem r v q)
  | .inr (.inl x) :: r, v, h => by
    rcases List.mem_cons.mp h with q | q
    · cases q; exact List.mem_cons_self
    · rcases List.mem_cons.mp q with q | q
      · cases q
      · exact List.mem_cons_of_mem _ (mlv_mem r v q)
theorem mini_lvk {ad : Nat → Nat → Nat} {n : Nat} {a : List mV} (h : (mlv a).length ≤ n) : lvk ad ((lg_sl (a.map (mval ad)) ++ List.replicate (n - (lg_sl (a.map (mval ad))).length) Slot.unset).toArray) (mini n a) := by
  have h1 := lv_entry (a.map (mval ad)) (n := n) (by rw [lg_sl_len]; exact h)
  refine ⟨by rw [mini_len h]; exact h1.1, h1.2.1, fun q hq => ?_⟩
  obtain ⟨v, h2, h3⟩ := prs_mem.mp hq
  have h4 := lv_args_mini (ad := ad) a 0 q.1 v (mini_get h2)
  rw [Nat.zero_add, ← h3] at h4
  exact h1.2.2 q h4
theorem mrt_rcd {k : Nat} : (mrt k = 0 → rcd k = none) ∧ (mrt k = 1 → rcd k = some .int) ∧ (mrt k = 2 → rcd k = some .boolean) ∧ (mrt k = 3 → rcd k = some (.object RX4)) := by
  refine ⟨fun h => ?_, fun h => ?_, fun h => ?_, fun h => ?_⟩ <;> (unfold rcd; rw [h]; rfl)
set_option maxHeartbeats 2000000 in
/-- WHAT THE SMALL MACHINE SAYS OF A METHOD HOLDS OF THE REAL ONE -/
theorem sound {l : Launch} {dC : Nat → ClassId} {dI : Nat → Nat → Nat} {ad : Nat → Nat → Nat} {cI cZ cL : ClassId} {b : Bool} {k : Nat} {a : List mV} {σ : mS} {post : Option mV → mS → Prop} (hv : Ev k a σ post) (hk : k < 146) (hne : k ≠ kX7_moved ∧ k ≠ kX7_row) (hlen : (mlv a).length ≤ mml k) (hvk : ∀ v ∈ a, vok b v) :
    mMet l dC dI ad cI cZ cL b k a σ post := by
  refine hv (fun k a σ post => k < 146 → (k ≠ kX7_moved ∧ k ≠ kX7_row) → (mlv a).length ≤ mml k → (∀ v ∈ a, vok b v) → mMet l dC dI ad cI cZ cL b k a σ post) ?_ hk hne hlen hvk
  intro k a σ post hG hk hne hlen hvk sz
  obtain ⟨hini, hcl, hpl, hn1, hn2, -⟩ := okC_of hk
  refine Met.ofW (cc := bcd k) (maxL := mml k) (ret := rcd k) hpl rfl ?_
  intro p e s m args below meth c s₁ B hml hv
  obtain ⟨rfl, hsz, hP, hK, hD0⟩ := hv
  have hx := B.exec
  have hb := B.bytes
  have hr := B.returns
  have hts := atoms_spec (ws := wk k) B.pre
  have hown : s.vm.findClass (onm (mcl k)) = some m.cls := by rw [← hcl]; exact findClass_of_methodNamed B.named
  have hlocks := B.notSynchronized
  subst hsz
  have hD := hD0.self (sz := s.heap.size)
  generalize hAe : va_A (wld ad cI cZ cL b σ) s.heap.size = A at hD ⊢
  have hA : ∀ q : Nat, s.heap.size ≤ q → A q := fun q h => by rw [← hAe]; exact Or.inr h
  have hS : va_S A s.heap s.heap [] := va_S.rf
  rw [lg_entry_eq]
  have hcl9 := mAt_cl (p := p) (l := l) (e := e) (R := rmk k) (s := s) (m := m) (args := (a.map (mval ad)).toArray) (below := below) (meth := meth) (c := c) (Q := MQ below (mQc dC dI ad cI cZ cL b post A) (a.map (mval ad)).toArray s 0 0 A) (dC := dC) (dI := dI) (ad := ad) (cI := cI) (cZ := cZ) (cL := cL) (b := b) (k := k) (A := A) (E := fun k a σ post => k < 146 → (k ≠ kX7_moved ∧ k ≠ kX7_row) → (mlv a).length ≤ mml k → (∀ v ∈ a, vok b v) → mMet l dC dI ad cI cZ cL b k a σ post) (post := post) hk ⟨Nat.le_refl _, Nat.le_refl _⟩ hx hb hml hown hts hK hA (fun σ' => wld_D hD)
    ?_ ?_ ?_ ?_ ?_
  · exact hG _ hcl9 (mini_len hlen) (fun v hv => hvk v (mlv_mem a v (by
      obtain ⟨j, hj⟩ := List.getElem?_of_mem hv
      exact List.mem_of_getElem? (mini_get hj)))) (fun _ h => by cases h) s.heap [] _ hP hS (mini_lvk hlen)
  · exact fun j a σ post hj hn hE hl hv => hE hj hn hl hv
  · intro pc ls H locs σ' x hdec hrt hP' hS' hpost
    rcases hrt with q | q
    · rw [mrt_rcd.2.1 q] at hr
      rw [q] at hpost
      exact W.iret (v := x) hx hb hr (fun t ht hW => ⟨⟨some (mI x), σ', rfl, fun v h => by cases h; trivial, hpost, by rw [ht]; exact hP', va_K.moved hW.alike hK⟩, hS'.F ht⟩) hS'.2.2 hdec
    · rw [mrt_rcd.2.2.1 q] at hr
      rw [q] at hpost
      exact z_ret (v := x) (v' := x &&& 1) hx hb hr rfl (fun t ht hW => ⟨⟨some (mI (x &&& 1)), σ', rfl, fun v h => by cases h; trivial, hpost, by rw [ht]; exact hP', va_K.moved hW.alike hK⟩, hS'.F ht⟩) hS'.2.2 hdec hlocks
  · intro pc ls H locs σ' x hdec hrt hxm hP' hS' hpost
    rw [mrt_rcd.2.2.2 hrt] at hr
    exact W.aret (v := .ref (ad x.1 x.2)) hx hb hr (Or.inl ⟨_, rfl⟩) (Or.inr ⟨_, rfl⟩) (fun t ht hW => ⟨⟨some (.inr (.inr x)), σ', rfl, fun v h => by cases h; exact hxm, hpost, by rw [ht]; exact hP', va_K.moved hW.alike hK⟩, hS'.F ht⟩) hS'.2.2 hdec
  · intro pc ls H locs σ' hdec hrt hP' hS' hpost
    rw [mrt_rcd.1 hrt] at hr
    exact W.vret hx hb hr (fun t ht hW => ⟨⟨none, σ', rfl, fun v h => (by cases h), hpost, by rw [ht]; exact hP', va_K.moved hW.alike hK⟩, hS'.F ht⟩) hS'.2.2 hdec
  · intro pc idx len L ls H locs σ' _ hkk
    rcases hkk with q | q
    · exact absurd q hne.1
    · exact absurd q hne.2
