/-! WHAT A PROGRAM DECIDES OF THE TABLES: words -/
def inW (i : Nat) (w : Cond) : Bool := decide (lw_tbl[i]? = some w) && goodWord w
theorem inW_mw {i : Nat} {w : Cond} (h : inW i w = true) : w ∈ mw := by
  unfold inW at h
  simp only [Bool.and_eq_true, decide_eq_true_eq] at h
  exact List.mem_filter.mpr ⟨List.mem_of_getElem? h.1, h.2⟩
theorem mw_wk {w : Cond} (k : Nat) (h : w ∈ mw) : w ∈ wk k := List.mem_cons_of_mem _ h
theorem mw_good {w : Cond} (h : w ∈ mw) : (w.onTables && w.keeps) = true ∨ ∃ ty, w = .arrayClass ty := good_of_word (List.mem_filter.mp h).2
def okF (c idx : Nat) : Bool := match fldb c idx with
  | none => true
  | some (ci, f) => match cls[ci]? with
    | none => false
    | some (_, T, N) => Nat.blt f N && inW (fli c idx) (Cond.fieldLink (onm c) idx (T f).1 (T f).2.1 (T f).2.2.1)
set_option maxRecDepth 100000 in
theorem okF_all : (List.range 10).all (fun c => (List.range 300).all (okF c)) = true := by decide +kernel
def okM (c idx : Nat) : Bool := match mthb c idx with
  | none => true
  | some (st, j, n) => bif Nat.beq j 1001 then st && inW (mti c idx).1 (Cond.methodLink (onm c) idx Lib.Math.abs.name) && inW (mti c idx).2.1 (Cond.static Lib.Math.abs.name) && inW (mti c idx).2.2 (Cond.code Lib.Math.abs.name Lib.Math.abs.code 1 (some .int))
    else bif Nat.beq j 1002 then st && inW (mti c idx).1 (Cond.methodLink (onm c) idx Lib.Math.max.name) && inW (mti c idx).2.1 (Cond.static Lib.Math.max.name) && inW (mti c idx).2.2 (Cond.code Lib.Math.max.name Lib.Math.max.code 2 (some .int))
    else bif Nat.beq j 1003 then st && inW (mti c idx).1 (Cond.methodLink (onm c) idx Lib.Math.min.name) && inW (mti c idx).2.1 (Cond.static Lib.Math.min.name) && inW (mti c idx).2.2 (Cond.code Lib.Math.min.name Lib.Math.min.code 2 (some .int))
    else bif Nat.beq j 1000 then st && inW (mti c idx).1 (Cond.methodLink (onm c) idx arraycopyName)
    else Nat.blt j 146 && inW (mti c idx).1 (Cond.methodLink (onm c) idx (ycd j)) && decide ((parseMethodDescriptor (ycd j).desc).map (fun d => d.parameters.length) = some n) && (bif st then inW (mti c idx).2.1 (Cond.static (ycd j)) else inW (mti c idx).2.1 (Cond.instanceMethod (ycd j)) && inW (mti c idx).2.2 (Cond.selects (ycd j).cls (ycd j) (ycd j)))
set_option maxRecDepth 100000 in
theorem okM_all : (List.range 10).all (fun c => (List.range 300).all (okM c)) = true := by decide +kernel
def okC (j : Nat) : Bool := inW (cdi j).2 (Cond.initialized (ycd j).cls) && decide ((ycd j).cls = onm (mcl j)) && plainName (ycd j).cls && decide ((ycd j).cls ≠ "java/lang/invoke/MethodHandle") && decide ((ycd j).cls ≠ "java/lang/invoke/VarHandle") && Nat.blt (mcl j) 10
set_option maxRecDepth 100000 in
theorem okC_all : (List.range 146).all okC = true := by decide +kernel
theorem ok_math : inW mai (Cond.initialized "java/lang/Math") = true := by decide +kernel
theorem ok_copy : (inW cpi.1 (Cond.native arraycopyName) && inW cpi.2.1 (Cond.static arraycopyName) && inW cpi.2.2 (Cond.initialized "java/lang/System")) = true := by decide +kernel
def okL (c idx : Nat) : Bool := match lcnb c idx with
  | none => true
  | some v => lw_tbl.any (fun w => decide (w = Cond.constantLong (onm c) idx v) && goodWord w)
set_option maxRecDepth 100000 in
theorem okL_all : (List.range 10).all (fun c => (List.range 300).all (okL c)) = true := by decide +kernel
/-- the fields of an object are those of its class: as many, numbers are ints that may be written, cells are cells -/
def okS (g : Nat) : Bool := match shpb g with
  | some (.inl (ci, fs)) => match cls[ci]? with
    | none => false
    | some (_, T, N) => Nat.beq fs.length N && (List.range N).all (fun f => match fs[f]? with
      | some none => !(T f).2.2.2 && decide (parseFieldDescriptor (T f).2.2.1 = some .int)
      | _ => true)
  | _ => true
theorem okS_all : (List.range 100).all okS = true := by decide +kernel
/-- what is reached from a world is in it -/
def okW (b : Bool) (q : Nat × Nat) : Bool := match shp q.1 with
  | some (.inl (_, fs)) => fs.all (fun o => match o with
    | none => true
    | some g' => decide ((g', q.2) ∈ mcs b))
  | some (.inr (.inr (g', n))) => (List.range n).all (fun j => decide ((g', j) ∈ mcs b))
  | some (.inr (.inl _)) => true
  | none => false
theorem okW_all (b : Bool) : (mcs b).all (okW b) = true := by cases b <;> decide +kernel
theorem mcs_nd (b : Bool) : (mcs b).Nodup := by cases b <;> decide +kernel
/-- the words of a class's fields -/
def okY (c : Nat) : Bool := match cls[c]?, lyi[c]? with
  | some (C, T, N), some is => Nat.beq is.length N && (List.range N).all (fun f => inW (is.getD f 0) (u_lay C T f))
  | _, _ => false
theorem okY_all : (List.range 9).all okY = true := by decide +kernel
