/-! THE SMALL MACHINE: numbers, cells by group and place, a step as what must hold ahead of it -/
abbrev mI (x : Int32) : mV := .inl x
abbrev mJ (x : Int64) : mV := .inr (.inl x)
abbrev mR (g i : Nat) : mV := .inr (.inr (g, i))
/-- what a method that throws answers -/
abbrev mThr : mV := mR 999 0
/-- the cell (g, i) now holds f -/
def mput (σ : mS) (g i : Nat) (f : Nat → Int32) : mS := fun g' i' => if g' = g ∧ i' = i then f else σ g' i'
theorem mput_eq (σ : mS) (g i : Nat) (f : Nat → Int32) : mput σ g i f g i = f := by simp [mput]
theorem mput_ne (σ : mS) (g i : Nat) (f : Nat → Int32) {g' i' : Nat} (h : g' ≠ g ∨ i' ≠ i) : mput σ g i f g' i' = σ g' i' := by
  unfold mput
  rw [if_neg]
  rintro ⟨h1, h2⟩
  rcases h with h | h
  · exact h h1
  · exact h h2
theorem mput_ng (σ : mS) (g i : Nat) (f : Nat → Int32) {g' : Nat} (h : g' ≠ g) : mput σ g i f g' = σ g' := by
  funext i'
  exact mput_ne σ g i f (Or.inl h)
theorem mput_mput (σ : mS) (g i : Nat) (f f' : Nat → Int32) : mput (mput σ g i f) g i f' = mput σ g i f' := by
  funext g' i'
  unfold mput
  split <;> rfl
theorem mput_self (σ : mS) (g i : Nat) : mput σ g i (σ g i) = σ := by
  funext g' i'
  unfold mput
  split
  next h => rw [h.1, h.2]
  next => rfl
theorem mput_comm (σ : mS) (g i g' i' : Nat) (f f' : Nat → Int32) (h : g ≠ g' ∨ i ≠ i') : mput (mput σ g i f) g' i' f' = mput (mput σ g' i' f') g i f := by
  funext a b
  unfold mput
  by_cases h1 : a = g ∧ b = i <;> by_cases h2 : a = g' ∧ b = i'
  · exfalso
    rcases h with h | h
    · exact h (h1.1.symm.trans h2.1)
    · exact h (h1.2.symm.trans h2.2)
  · rw [if_neg h2, if_pos h1, if_pos h1]
  · rw [if_pos h2, if_neg h1, if_pos h2]
  · rw [if_neg h2, if_neg h1, if_neg h1, if_neg h2]
/-- a local gets a value; a long that ended there is gone -/
def mdrop1 (L : mL) (i : Nat) : mL := match L[i]? with
  | some (some (.inr (.inl _))) => L.set i none
  | _ => L
def mdrop (L : mL) : Nat → mL
  | 0 => L
  | i + 1 => mdrop1 L i
def mst (L : mL) (i : Nat) (v : mV) : mL := (mdrop L i).set i (some v)
/-- the locals at the entry -/
def mlv : List mV → mL
  | [] => []
  | .inr (.inl x) :: r => some (.inr (.inl x)) :: none :: mlv r
  | v :: r => some v :: mlv r
def mini (n : Nat) (a : List mV) : mL := mlv a ++ List.replicate (n - (mlv a).length) none
def k1 (st : List mV) (K : Int32 → List mV → Prop) : Prop := match st with
  | .inl x :: r => K x r
  | _ => False
def k2 (st : List mV) (K : Int32 → Int32 → List mV → Prop) : Prop := match st with
  | .inl y :: .inl x :: r => K x y r
  | _ => False
/-- an index and an array of numbers below it -/
def kA (st : List mV) (b : Bool) (K : Nat → Nat → Nat → Int32 → List mV → Prop) : Prop := match st with
  | .inl j :: .inr (.inr (g, i)) :: r => match shp g with
    | some (.inr (.inl (b', n))) => bif Bool.xor b' b then False else K g i n j r
    | _ => False
  | _ => False
def kS (st : List mV) (b : Bool) (K : Nat → Nat → Nat → Int32 → Int32 → List mV → Prop) : Prop := match st with
  | .inl v :: st => kA st b (fun g i n j r => K g i n j v r)
  | _ => False
def kO (st : List mV) (K : Nat → Nat → Nat → List (Option Nat) → List mV → Prop) : Prop := match st with
  | .inr (.inr (g, i)) :: r => match shp g with
    | some (.inl (c, fs)) => K g i c fs r
    | _ => False
  | _ => False
def kop {α : Type} (o : Option α) (K : α → Prop) : Prop := match o with
  | some v => K v
  | none => False
def kiv (v : mV) (K : Int32 → Prop) : Prop := match v with
  | .inl x => K x
  | _ => False
def kjv (v : mV) (K : Int64 → Prop) : Prop := match v with
  | .inr (.inl x) => K x
  | _ => False
def krv (v : mV) (K : Nat × Nat → Prop) : Prop := match v with
  | .inr (.inr x) => K x
  | _ => False
def kR (st : List mV) (K : Nat × Nat → List mV → Prop) : Prop := match st with
  | .inr (.inr x) :: r => K x r
  | _ => False
def kJJ (st : List mV) (K : Int64 → Int64 → List mV → Prop) : Prop := match st with
  | .inr (.inl y) :: .inr (.inl x) :: r => K x y r
  | _ => False
def kr1 (st : List mV) (K : Int32 → Prop) : Prop := match st with
  | [.inl v] => K v
  | _ => False
def kr2 (st : List mV) (K : Nat × Nat → Prop) : Prop := match st with
  | [.inr (.inr x)] => K x
  | _ => False
def kr0 (st : List mV) (K : Prop) : Prop := match st with
  | [] => K
  | _ => False
def kdp (st : List mV) (K : mV → List mV → Prop) : Prop := match st with
  | .inl x :: r => K (.inl x) r
  | .inr (.inr x) :: r => K (.inr (.inr x)) r
  | _ => False
/-- an index and an array of cells below it -/
def kQ (st : List mV) (K : Nat → Nat → Int32 → List mV → Prop) : Prop := match st with
  | .inl j :: .inr (.inr (g, _)) :: r => match shp g with
    | some (.inr (.inr (g', n))) => K g' n j r
    | _ => False
  | _ => False
def kN (st : List mV) (K : Nat → List mV → Prop) : Prop := match st with
  | .inr (.inr (g, _)) :: r => match shp g with
    | some (.inr (.inl (_, n))) => K n r
    | _ => False
  | _ => False
/-- a field of an object: a number, or a cell -/
def kfs (fs : List (Option Nat)) (f : Nat) (K : Prop) (K' : Nat → Prop) : Prop := match fs[f]? with
  | some none => K
  | some (some g') => K' g'
  | none => False
abbrev mE : Type := Nat → List mV → mS → (Option mV → mS → Prop) → Prop
abbrev mK : Type := Nat → mL → List mV → mS → Prop
def kld (L : mL) (i : Nat) (K : mV → Prop) : Prop := match L[i]? with
  | some (some v) => K v
  | _ => False
/-- the words of the stack that a call may leave below its arguments -/
def mwd : List mV → Nat
  | [] => 0
  | .inr (.inl _) :: r => mwd r + 2
  | _ :: r => mwd r + 1
/-- n values off the stack -/
def ktk : Nat → List mV → List mV → (List mV → List mV → Prop) → Prop
  | 0, st, a, K => K a st
  | n + 1, st, a, K => match st with
    | v :: r => ktk n r (v :: a) K
    | [] => False
/-- arraycopy of ints -/
def kcp (st : List mV) (K : Nat → Nat → Nat → Nat → Nat → Nat → Int32 → Int32 → Int32 → Prop) : Prop := match st with
  | [.inl n, .inl dp, .inr (.inr (g', i')), .inl sp, .inr (.inr (g, i))] => match shp g, shp g' with
    | some (.inr (.inl (false, n0))), some (.inr (.inl (false, n1))) => K g i n0 g' i' n1 sp dp n
    | _, _ => False
  | _ => False
/-- the object that is asked is of the method's class -/
def mrcv (a : List mV) (c : Nat) : Bool := match a with
  | .inr (.inr (g, _)) :: _ => match shp g with
    | some (.inl (c', _)) => Nat.beq c' c
    | _ => false
  | _ => false
/-- a call: arraycopy, abs, max, min, or a method of ours with n arguments (the object too) -/
def kcl (E : mE) (stat : Bool) (j n : Nat) (K : mK) (pc : Nat) (L : mL) (st : List mV) (σ : mS) : Prop :=
  bif Nat.beq j 1000 then kcp st (fun g i n0 g' i' n1 sp dp n => (¬ sp < 0 ∧ ¬ dp < 0 ∧ ¬ n < 0 ∧ sp.toNatClampNeg + n.toNatClampNeg ≤ n0 ∧ dp.toNatClampNeg + n.toNatClampNeg ≤ n1) ∧
      K (pc + 3) L [] (mput σ g' i' (va_cpy (σ g i) (σ g' i') sp.toNatClampNeg dp.toNatClampNeg n.toNatClampNeg)))
  else bif Nat.beq j 1001 then k1 st (fun x r => bif Nat.ble (mwd r) 8 then K (pc + 3) L (mI (if 0 ≤ x then x else 0 - x) :: r) σ else False)
  else bif Nat.beq j 1002 then k2 st (fun x y r => bif Nat.ble (mwd r) 8 then K (pc + 3) L (mI (if x < y then y else x) :: r) σ else False)
  else bif Nat.beq j 1003 then k2 st (fun x y r => bif Nat.ble (mwd r) 8 then K (pc + 3) L (mI (if y < x then y else x) :: r) σ else False)
  else ktk n st [] (fun a r => bif Nat.ble (mwd r) 8 && (Nat.ble (mwd a) (mml j) && (stat || mrcv a (mcl j))) then ∃ post : Option mV → mS → Prop, E j a σ post ∧ ∀ v σ', post v σ' → K (pc + 3) L (v.toList ++ r) σ' else False)
def kcall (E : mE) (k : Nat) (stat : Bool) (idx : Nat) (K : mK) (pc : Nat) (L : mL) (st : List mV) (σ : mS) : Prop :=
  kop (mth (mcl k) idx) (fun q => bif Bool.xor q.1 stat then False else kcl E stat q.2.1 (bif stat then q.2.2 else q.2.2 + 1) K pc L st σ)
def kgo (pc : Nat) (off : Int) (K : Nat → Prop) : Prop := K ((pc : Int) + off).toNat ∧ 0 ≤ (pc : Int) + off
def ksw (pc : Nat) (dflt lo hi : Int) (offs : Array Int) (x : Int32) (K : Nat → Prop) : Prop :=
  (x.toInt < lo ∨ hi < x.toInt → kgo pc dflt K) ∧ ∀ n : Nat, ∀ off : Int, offs[n]? = some off → x.toInt = lo + n → kgo pc off K
/-- WHAT MUST HOLD AHEAD OF AN INSTRUCTION, so that K holds behind it -/
def wpi (E : mE) (k : Nat) (post : Option mV → mS → Prop) (K : mK) (pc len tgt : Nat) (cv : Int32) (L : mL) (st : List mV) (σ : mS) : Instr → Prop
  | .iconst n => K (pc + len) L (mI cv :: st) σ
  | .bipush n => K (pc + len) L (mI cv :: st) σ
  | .sipush n => K (pc + len) L (mI cv :: st) σ
  | .lconst n => K (pc + len) L (mJ (Int64.ofNat n.val) :: st) σ
  | .ldc2_w idx => kop (lcn (mcl k) idx) (fun v => K (pc + len) L (mJ v :: st) σ)
  | .iload_n i => kld L i.val (fun v => kiv v (fun x => K (pc + len) L (mI x :: st) σ))
  | .iload i => kld L i (fun v => kiv v (fun x => K (pc + len) L (mI x :: st) σ))
  | .lload_n i => kld L i.val (fun v => kjv v (fun x => K (pc + len) L (mJ x :: st) σ))
  | .lload i => kld L i (fun v => kjv v (fun x => K (pc + len) L (mJ x :: st) σ))
  | .aload_n i => kld L i.val (fun v => krv v (fun x => K (pc + len) L (.inr (.inr x) :: st) σ))
  | .aload i => kld L i (fun v => krv v (fun x => K (pc + len) L (.inr (.inr x) :: st) σ))
  | .istore_n i => k1 st (fun x r => K (pc + len) (mst L i.val (mI x)) r σ)
  | .istore i => k1 st (fun x r => K (pc + len) (mst L i (mI x)) r σ)
  | .astore_n i => kR st (fun x r => K (pc + len) (mst L i.val (.inr (.inr x))) r σ)
  | .iinc i n => kld L i (fun v => kiv v (fun x => K (pc + 3) (mst L i (mI (x + cv))) st σ))
  | .getfield idx => kop (fld (mcl k) idx) (fun cf => kO st (fun g i c' fs r => bif Nat.beq c' cf.1 then kfs fs cf.2 (K (pc + 3) L (mI (σ g i cf.2) :: r) σ) (fun g' => K (pc + 3) L (mR g' i :: r) σ) else False))
  | .putfield idx => kop (fld (mcl k) idx) (fun cf => k1 st (fun v st => kO st (fun g i c' fs r => bif Nat.beq c' cf.1 then kfs fs cf.2 (K (pc + 3) L r (mput σ g i (upd (σ g i) cf.2 v))) (fun _ => False) else False)))
  | .iaload => kA st false (fun g i n j r => vp_in j n ∧ K (pc + len) L (mI (σ g i j.toNatClampNeg) :: r) σ)
  | .baload => kA st true (fun g i n j r => vp_in j n ∧ K (pc + len) L (mI (σ g i j.toNatClampNeg) :: r) σ)
  | .iastore => kS st false (fun g i n j v r => vp_in j n ∧ K (pc + len) L r (mput σ g i (upd (σ g i) j.toNatClampNeg v)))
  | .bastore => kS st true (fun g i n j v r => vp_in j n ∧ K (pc + len) L r (mput σ g i (upd (σ g i) j.toNatClampNeg (v &&& 1))))
  | .aaload => kQ st (fun g' n j r => vp_in j n ∧ K (pc + len) L (mR g' j.toNatClampNeg :: r) σ)
  | .arraylength => kN st (fun n r => K (pc + len) L (mI (Int32.ofNat n) :: r) σ)
  | .iadd => k2 st (fun x y r => K (pc + len) L (mI (x + y) :: r) σ)
  | .isub => k2 st (fun x y r => K (pc + len) L (mI (x - y) :: r) σ)
  | .imul => k2 st (fun x y r => K (pc + len) L (mI (x * y) :: r) σ)
  | .idiv => k2 st (fun x y r => ¬ y = 0 ∧ K (pc + len) L (mI (x / y) :: r) σ)
  | .irem => k2 st (fun x y r => ¬ y = 0 ∧ K (pc + len) L (mI (x - x / y * y) :: r) σ)
  | .iand => k2 st (fun x y r => K (pc + len) L (mI (x &&& y) :: r) σ)
  | .ishr => k2 st (fun x y r => K (pc + len) L (mI (x >>> (y &&& 31)) :: r) σ)
  | .i2l => k1 st (fun x r => K (pc + len) L (mJ x.toInt64 :: r) σ)
  | .lcmp => kJJ st (fun x y r => K (pc + len) L (mI (lg_cmp x y) :: r) σ)
  | .dup => kdp st (fun v r => K (pc + len) L (v :: v :: r) σ)
  | .pop => k1 st (fun _ r => K (pc + len) L r σ)
  | .goto off => K tgt L st σ
  | .ifCond .eq off => k1 st (fun x r => (x = 0 → K tgt L r σ) ∧ (¬ x = 0 → K (pc + 3) L r σ))
  | .ifCond .ne off => k1 st (fun x r => (¬ x = 0 → K tgt L r σ) ∧ (x = 0 → K (pc + 3) L r σ))
  | .ifCond .lt off => k1 st (fun x r => (x < 0 → K tgt L r σ) ∧ (¬ x < 0 → K (pc + 3) L r σ))
  | .ifCond .ge off => k1 st (fun x r => (0 ≤ x → K tgt L r σ) ∧ (¬ 0 ≤ x → K (pc + 3) L r σ))
  | .ifCond .gt off => k1 st (fun x r => (0 < x → K tgt L r σ) ∧ (¬ 0 < x → K (pc + 3) L r σ))
  | .ifCond .le off => k1 st (fun x r => (x ≤ 0 → K tgt L r σ) ∧ (¬ x ≤ 0 → K (pc + 3) L r σ))
  | .if_icmp .eq off => k2 st (fun x y r => (x = y → K tgt L r σ) ∧ (¬ x = y → K (pc + 3) L r σ))
  | .if_icmp .ne off => k2 st (fun x y r => (¬ x = y → K tgt L r σ) ∧ (x = y → K (pc + 3) L r σ))
  | .if_icmp .lt off => k2 st (fun x y r => (x < y → K tgt L r σ) ∧ (¬ x < y → K (pc + 3) L r σ))
  | .if_icmp .ge off => k2 st (fun x y r => (y ≤ x → K tgt L r σ) ∧ (¬ y ≤ x → K (pc + 3) L r σ))
  | .if_icmp .gt off => k2 st (fun x y r => (y < x → K tgt L r σ) ∧ (¬ y < x → K (pc + 3) L r σ))
  | .if_icmp .le off => k2 st (fun x y r => (x ≤ y → K tgt L r σ) ∧ (¬ x ≤ y → K (pc + 3) L r σ))
  | .tableswitch dflt lo hi offs => k1 st (fun x r => ksw pc dflt lo hi offs x (fun t => K t L r σ))
  | .invokevirtual idx => kcall E k false idx K pc L st σ
  | .invokestatic idx => kcall E k true idx K pc L st σ
  | .ireturn => kr1 st (fun v => post (some (mI (bif Nat.beq (mrt k) 2 then v &&& 1 else v))) σ)
  | .areturn => kr2 st (fun x => post (some (.inr (.inr x))) σ)
  | .return_ => kr0 st (post none σ)
  | .new _ => kr0 st (post (some mThr) σ)
  | _ => False
def mstep (E : mE) (k : Nat) (post : Option mV → mS → Prop) (K : mK) : mK := fun pc L st σ => match cod k pc with
  | some (i, len, tgt, cv, _) => wpi E k post K pc len tgt cv L st σ i
  | none => False
/-- up to n instructions, to the next beginning of a loop -/
def mgo (E : mE) (k : Nat) (post : Option mV → mS → Prop) (G : mK) : Nat → mK
  | 0 => G
  | n + 1 => fun pc L st σ => match cod k pc with
    | some (i, len, tgt, cv, hd) => bif hd then G pc L st σ else wpi E k post (mgo E k post G n) pc len tgt cv L st σ i
    | none => False
/-- G is closed under the method's instructions -/
def mCl (E : mE) (k : Nat) (post : Option mV → mS → Prop) (G : mK) : Prop := ∀ pc L st σ, mstep E k post G pc L st σ → G pc L st σ
/-- a method, from arguments and cells: it ends, and post holds -/
def mEc (E : mE) : Prop := ∀ k a σ post, (∀ G, mCl E k post G → G 0 (mini (mml k) a) [] σ) → E k a σ post
def Ev : mE := fun k a σ post => ∀ E, mEc E → E k a σ post
