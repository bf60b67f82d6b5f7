/-! WHAT A PROGRAM DECIDES OF THE TABLES -/
def mw : List Cond := lw_tbl.filter goodWord
def wk (k : Nat) : List Cond := Cond.code (ycd k) (bcd k) (mml k) (rcd k) :: mw
def roomOK (k idx : Nat) (stat : Bool) : Bool := match mth (mcl k) idx with
  | none => true
  | some (_, j, _) => bif Nat.beq j 1000 then Nat.ble 1 (rmf k) && Nat.ble (nativeFrameWords "java/lang/System" "arraycopy" 5 + 11) (rml k)
    else bif Nat.ble 1000 j then Nat.ble 1 (rmf k) && Nat.ble 21 (rml k)
    else (Nat.ble (rmf j + 1) (rmf k) && Nat.ble (8 + (mml j + 11) + rml j) (rml k)) && (!Nat.beq j kX7_moved && !Nat.beq j kX7_row)
def okI (k pc len tgt : Nat) (cv : Int32) : Instr → Bool
  | .iconst n => Int32.ofInt n == cv && Nat.beq len 1
  | .bipush n => (Int8.ofInt n).toInt32 == cv && Nat.beq len 2
  | .sipush n => (Int16.ofInt n).toInt32 == cv && Nat.beq len 3
  | .lconst _ => Nat.beq len 1
  | .ldc2_w _ => Nat.beq len 3
  | .iload_n _ => Nat.beq len 1
  | .lload_n _ => Nat.beq len 1
  | .aload_n _ => Nat.beq len 1
  | .iload _ => Nat.beq len 2
  | .lload _ => Nat.beq len 2
  | .aload _ => Nat.beq len 2
  | .istore_n i => Nat.beq len 1 && Nat.blt i.val (mml k)
  | .astore_n i => Nat.beq len 1 && Nat.blt i.val (mml k)
  | .istore i => Nat.beq len 2 && Nat.blt i (mml k)
  | .iinc i n => Nat.beq len 3 && Nat.blt i (mml k) && Int32.ofInt n == cv
  | .getfield _ => Nat.beq len 3
  | .putfield _ => Nat.beq len 3
  | .goto off => Nat.beq len 3 && (pc : Int) + off == (tgt : Int)
  | .ifCond _ off => Nat.beq len 3 && (pc : Int) + off == (tgt : Int)
  | .if_icmp _ off => Nat.beq len 3 && (pc : Int) + off == (tgt : Int)
  | .tableswitch _ lo hi offs => hi - lo + 1 == (offs.size : Int)
  | .invokevirtual idx => Nat.beq len 3 && roomOK k idx false
  | .invokestatic idx => Nat.beq len 3 && roomOK k idx true
  | .ireturn => Nat.beq len 1 && (Nat.beq (mrt k) 1 || Nat.beq (mrt k) 2)
  | .areturn => Nat.beq len 1 && Nat.beq (mrt k) 3
  | .return_ => Nat.beq len 1 && Nat.beq (mrt k) 0
  | .new _ => Nat.beq k kX7_moved || Nat.beq k kX7_row
  | .athrow => true
  | .ldc _ => true
  | .invokespecial _ => true
  | _ => Nat.beq len 1
def chkI (k pc : Nat) (x : mIn) : Bool := decide (decode (bcd k) pc = .ok (x.1, x.2.1)) && okI k pc x.2.1 x.2.2.1 x.2.2.2.1 x.1
def chkM (k : Nat) : Bool := (List.range (clen k)).all (fun pc => match codb k pc with
  | none => true
  | some x => chkI k pc x)
set_option maxRecDepth 100000 in
theorem chk_0 : (List.range' 0 30).all chkM = true := by decide +kernel
set_option maxRecDepth 100000 in
theorem chk_1 : (List.range' 30 30).all chkM = true := by decide +kernel
set_option maxRecDepth 100000 in
theorem chk_2 : (List.range' 60 30).all chkM = true := by decide +kernel
set_option maxRecDepth 100000 in
theorem chk_3 : (List.range' 90 30).all chkM = true := by decide +kernel
set_option maxRecDepth 100000 in
theorem chk_4 : (List.range' 120 26).all chkM = true := by decide +kernel
theorem cod_lt {k pc : Nat} {x : mIn} (h : cod k pc = some x) : k < 146 ∧ pc < clen k ∧ codb k pc = some x := by
  unfold cod at h
  cases h1 : Nat.ble 146 k with
  | true => rw [h1] at h; cases h
  | false =>
    rw [h1] at h
    cases h2 : Nat.ble (clen k) pc with
    | true => rw [h2] at h; cases h
    | false =>
      rw [h2] at h
      refine ⟨?_, ?_, h⟩
      · exact Nat.lt_of_not_le fun q => by rw [Nat.ble_eq_true_of_le q] at h1; cases h1
      · exact Nat.lt_of_not_le fun q => by rw [Nat.ble_eq_true_of_le q] at h2; cases h2
theorem chk_all {k pc : Nat} {x : mIn} (h : cod k pc = some x) : chkI k pc x = true := by
  obtain ⟨h1, h2, h3⟩ := cod_lt h
  have hM : chkM k = true := by
    rcases (show k < 30 ∨ (30 ≤ k ∧ k < 60) ∨ (60 ≤ k ∧ k < 90) ∨ (90 ≤ k ∧ k < 120) ∨ (120 ≤ k ∧ k < 146) by omega) with q | q | q | q | q
    · exact List.all_eq_true.mp chk_0 k (List.mem_range'_1.mpr (by omega))
    · exact List.all_eq_true.mp chk_1 k (List.mem_range'_1.mpr (by omega))
    · exact List.all_eq_true.mp chk_2 k (List.mem_range'_1.mpr (by omega))
    · exact List.all_eq_true.mp chk_3 k (List.mem_range'_1.mpr (by omega))
    · exact List.all_eq_true.mp chk_4 k (List.mem_range'_1.mpr (by omega))
  have h4 := List.all_eq_true.mp hM pc (List.mem_range.mpr h2)
  rw [h3] at h4
  exact h4
