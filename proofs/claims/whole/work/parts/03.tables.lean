/-! THE TABLES OF THE SMALL MACHINE (written by wip/whole/gen_tables.py out of the class file rows) -/
abbrev mV : Type := Int32 ⊕ (Int64 ⊕ (Nat × Nat))
abbrev mS : Type := Nat → Nat → Nat → Int32
abbrev mL : Type := List (Option mV)
/-- an instruction, its length, where it goes, its number, whether a loop begins there -/
abbrev mIn : Type := Instr × Nat × Nat × Int32 × Bool
abbrev mSh : Type := (Nat × List (Option Nat)) ⊕ ((Bool × Nat) ⊕ (Nat × Nat))
/-- the shape of a group of cells: an object (its number among the classes, its fields: a number, or a cell of that group), an array of numbers (of booleans?, length), an array of cells (their group, length) -/
def shpb (g : Nat) : Option mSh :=
  (bif Nat.ble 27 g then
   (bif Nat.ble 62 g then
    (bif Nat.ble 71 g then
     (bif Nat.ble 75 g then
      (bif Nat.ble 78 g then (bif Nat.ble 79 g then (bif Nat.beq g 79 then some (.inr (.inl (false, 144))) else none) else (bif Nat.beq g 78 then some (.inr (.inl (false, 144))) else none)) else (bif Nat.ble 77 g then (bif Nat.beq g 77 then some (.inr (.inl (false, 402))) else none) else (bif Nat.beq g 75 then some (.inr (.inl (false, 144))) else none)))
     else
      (bif Nat.ble 72 g then (bif Nat.ble 74 g then (bif Nat.beq g 74 then some (.inr (.inl (false, 144))) else none) else (bif Nat.beq g 72 then some (.inr (.inl (true, 144))) else none)) else (bif Nat.beq g 71 then some (.inr (.inl (false, 144))) else none)))
    else
     (bif Nat.ble 66 g then
      (bif Nat.ble 69 g then (bif Nat.ble 70 g then (bif Nat.beq g 70 then some (.inr (.inl (false, 144))) else none) else (bif Nat.beq g 69 then some (.inr (.inl (false, 10))) else none)) else (bif Nat.ble 67 g then (bif Nat.beq g 67 then some (.inr (.inl (false, 20))) else none) else (bif Nat.beq g 66 then some (.inr (.inl (false, 20))) else none)))
     else
      (bif Nat.ble 64 g then (bif Nat.ble 65 g then (bif Nat.beq g 65 then some (.inr (.inl (false, 20))) else none) else (bif Nat.beq g 64 then some (.inr (.inl (false, 20))) else none)) else (bif Nat.beq g 62 then some (.inr (.inl (true, 30))) else none))))
   else
    (bif Nat.ble 54 g then
     (bif Nat.ble 58 g then
      (bif Nat.ble 60 g then (bif Nat.ble 61 g then (bif Nat.beq g 61 then some (.inr (.inl (false, 30))) else none) else (bif Nat.beq g 60 then some (.inr (.inl (false, 30))) else none)) else (bif Nat.ble 59 g then (bif Nat.beq g 59 then some (.inr (.inl (false, 30))) else none) else (bif Nat.beq g 58 then some (.inr (.inl (false, 30))) else none)))
     else
      (bif Nat.ble 55 g then (bif Nat.ble 56 g then (bif Nat.beq g 56 then some (.inr (.inl (false, 144))) else none) else (bif Nat.beq g 55 then some (.inr (.inl (true, 1584))) else none)) else (bif Nat.beq g 54 then some (.inr (.inl (false, 10))) else none)))
    else
     (bif Nat.ble 30 g then
      (bif Nat.ble 31 g then (bif Nat.ble 40 g then (bif Nat.beq g 40 then some (.inl (8, [none, none, none, none, some 54, some 55, some 56, none, some 58, some 59, some 60, some 61, some 62, none, some 64, some 65, some 66, some 67, none, some 69, some 70, some 71, some 72, none, some 74, some 75, none, some 77, some 78, some 79])) else none) else (bif Nat.beq g 31 then some (.inr (.inl (false, 80))) else none)) else (bif Nat.beq g 30 then some (.inr (.inl (false, 144))) else none))
     else
      (bif Nat.ble 28 g then (bif Nat.ble 29 g then (bif Nat.beq g 29 then some (.inr (.inl (false, 144))) else none) else (bif Nat.beq g 28 then some (.inr (.inl (false, 144))) else none)) else (bif Nat.beq g 27 then some (.inl (5, [some 1, some 7, some 13, some 22, some 28, some 29, some 30, none, none, none])) else none)))))
  else
   (bif Nat.ble 13 g then
    (bif Nat.ble 20 g then
     (bif Nat.ble 23 g then
      (bif Nat.ble 25 g then (bif Nat.ble 26 g then (bif Nat.beq g 26 then some (.inr (.inl (false, 21))) else none) else (bif Nat.beq g 25 then some (.inr (.inl (false, 21))) else none)) else (bif Nat.ble 24 g then (bif Nat.beq g 24 then some (.inr (.inl (false, 21))) else none) else (bif Nat.beq g 23 then some (.inr (.inl (false, 21))) else none)))
     else
      (bif Nat.ble 21 g then (bif Nat.ble 22 g then (bif Nat.beq g 22 then some (.inl (3, [none, some 23, some 24, some 25, some 26])) else none) else (bif Nat.beq g 21 then some (.inr (.inl (false, 30))) else none)) else (bif Nat.beq g 20 then some (.inr (.inl (true, 30))) else none)))
    else
     (bif Nat.ble 16 g then
      (bif Nat.ble 18 g then (bif Nat.ble 19 g then (bif Nat.beq g 19 then some (.inr (.inl (false, 30))) else none) else (bif Nat.beq g 18 then some (.inr (.inl (false, 30))) else none)) else (bif Nat.ble 17 g then (bif Nat.beq g 17 then some (.inr (.inl (false, 30))) else none) else (bif Nat.beq g 16 then some (.inr (.inl (false, 30))) else none)))
     else
      (bif Nat.ble 14 g then (bif Nat.ble 15 g then (bif Nat.beq g 15 then some (.inr (.inl (false, 30))) else none) else (bif Nat.beq g 14 then some (.inr (.inl (false, 30))) else none)) else (bif Nat.beq g 13 then some (.inl (1, [none, some 14, some 15, some 16, some 17, some 18, some 19, some 20, some 21])) else none))))
   else
    (bif Nat.ble 6 g then
     (bif Nat.ble 9 g then
      (bif Nat.ble 11 g then (bif Nat.ble 12 g then (bif Nat.beq g 12 then some (.inr (.inl (false, 144))) else none) else (bif Nat.beq g 11 then some (.inr (.inl (false, 144))) else none)) else (bif Nat.ble 10 g then (bif Nat.beq g 10 then some (.inl (4, [none, none, none, none, none, none, none, some 11, some 12])) else none) else (bif Nat.beq g 9 then some (.inr (.inl (true, 144))) else none)))
     else
      (bif Nat.ble 7 g then (bif Nat.ble 8 g then (bif Nat.beq g 8 then some (.inr (.inr (10, 10))) else none) else (bif Nat.beq g 7 then some (.inl (0, [some 1, some 4, some 8, some 9, none, none])) else none)) else (bif Nat.beq g 6 then some (.inr (.inl (false, 144))) else none)))
    else
     (bif Nat.ble 3 g then
      (bif Nat.ble 4 g then (bif Nat.ble 5 g then (bif Nat.beq g 5 then some (.inr (.inl (true, 144))) else none) else (bif Nat.beq g 4 then some (.inl (6, [some 1, some 5, some 6, none])) else none)) else (bif Nat.beq g 3 then some (.inr (.inl (false, 144))) else none))
     else
      (bif Nat.ble 1 g then (bif Nat.ble 2 g then (bif Nat.beq g 2 then some (.inr (.inl (false, 144))) else none) else (bif Nat.beq g 1 then some (.inl (2, [none, none, none, some 2, some 3])) else none)) else (bif Nat.beq g 0 then some (.inl (7, [some 1, some 4, some 7, some 13, some 22, some 27, some 31, none])) else none))))))
def shp (g : Nat) : Option mSh := bif Nat.ble 100 g then none else shpb g
def mcs : Bool → List (Nat × Nat)
  | false => [(0, 0), (1, 0), (2, 0), (3, 0), (4, 0), (5, 0), (6, 0), (7, 0), (8, 0), (9, 0), (10, 0), (10, 1), (10, 2), (10, 3), (10, 4), (10, 5), (10, 6), (10, 7), (10, 8), (10, 9), (11, 0), (11, 1), (11, 2), (11, 3), (11, 4), (11, 5), (11, 6), (11, 7), (11, 8), (11, 9), (12, 0), (12, 1), (12, 2), (12, 3), (12, 4), (12, 5), (12, 6), (12, 7), (12, 8), (12, 9), (13, 0), (14, 0), (15, 0), (16, 0), (17, 0), (18, 0), (19, 0), (20, 0), (21, 0), (22, 0), (23, 0), (24, 0), (25, 0), (26, 0), (27, 0), (28, 0), (29, 0), (30, 0), (31, 0)]
  | true => [(40, 0), (54, 0), (55, 0), (56, 0), (58, 0), (59, 0), (60, 0), (61, 0), (62, 0), (64, 0), (65, 0), (66, 0), (67, 0), (69, 0), (70, 0), (71, 0), (72, 0), (74, 0), (75, 0), (77, 0), (78, 0), (79, 0)]
def qX0_clear (pc : Nat) : Option mIn :=
  (bif Nat.ble 14 pc then
   (bif Nat.ble 20 pc then
    (bif Nat.ble 24 pc then (bif Nat.ble 27 pc then (bif Nat.beq pc 27 then some (.return_, 1, 0, 0, false) else none) else (bif Nat.beq pc 24 then some (.goto (-17), 3, 7, 0, false) else none)) else (bif Nat.ble 21 pc then (bif Nat.beq pc 21 then some (.iinc 1 1, 3, 0, 1, false) else none) else (bif Nat.beq pc 20 then some (.bastore, 1, 0, 0, false) else none)))
   else
    (bif Nat.ble 18 pc then (bif Nat.ble 19 pc then (bif Nat.beq pc 19 then some (.iconst 0, 1, 0, 0, false) else none) else (bif Nat.beq pc 18 then some (.iload_n 1, 1, 0, 0, false) else none)) else (bif Nat.ble 15 pc then (bif Nat.beq pc 15 then some (.getfield 17, 3, 0, 0, false) else none) else (bif Nat.beq pc 14 then some (.aload_n 0, 1, 0, 0, false) else none))))
  else
   (bif Nat.ble 6 pc then
    (bif Nat.ble 8 pc then (bif Nat.ble 11 pc then (bif Nat.beq pc 11 then some (.if_icmp .ge 16, 3, 27, 0, false) else none) else (bif Nat.beq pc 8 then some (.sipush 144, 3, 0, 144, false) else none)) else (bif Nat.ble 7 pc then (bif Nat.beq pc 7 then some (.iload_n 1, 1, 0, 0, true) else none) else (bif Nat.beq pc 6 then some (.istore_n 1, 1, 0, 0, false) else none)))
   else
    (bif Nat.ble 2 pc then (bif Nat.ble 5 pc then (bif Nat.beq pc 5 then some (.iconst 0, 1, 0, 0, false) else none) else (bif Nat.beq pc 2 then some (.putfield 34, 3, 0, 0, false) else none)) else (bif Nat.ble 1 pc then (bif Nat.beq pc 1 then some (.iconst 0, 1, 0, 0, false) else none) else (bif Nat.beq pc 0 then some (.aload_n 0, 1, 0, 0, false) else none)))))
def qX0_isEmpty (pc : Nat) : Option mIn :=
  (bif Nat.ble 7 pc then
   (bif Nat.ble 11 pc then (bif Nat.ble 12 pc then (bif Nat.beq pc 12 then some (.ireturn, 1, 0, 0, false) else none) else (bif Nat.beq pc 11 then some (.iconst 0, 1, 0, 0, false) else none)) else (bif Nat.ble 8 pc then (bif Nat.beq pc 8 then some (.goto 4, 3, 12, 0, false) else none) else (bif Nat.beq pc 7 then some (.iconst 1, 1, 0, 1, false) else none)))
  else
   (bif Nat.ble 1 pc then (bif Nat.ble 4 pc then (bif Nat.beq pc 4 then some (.ifCond .ne 7, 3, 11, 0, false) else none) else (bif Nat.beq pc 1 then some (.getfield 34, 3, 0, 0, false) else none)) else (bif Nat.beq pc 0 then some (.aload_n 0, 1, 0, 0, false) else none)))
def qX0_isFull (pc : Nat) : Option mIn :=
  (bif Nat.ble 9 pc then
   (bif Nat.ble 13 pc then (bif Nat.ble 14 pc then (bif Nat.beq pc 14 then some (.ireturn, 1, 0, 0, false) else none) else (bif Nat.beq pc 13 then some (.iconst 0, 1, 0, 0, false) else none)) else (bif Nat.ble 10 pc then (bif Nat.beq pc 10 then some (.goto 4, 3, 14, 0, false) else none) else (bif Nat.beq pc 9 then some (.iconst 1, 1, 0, 1, false) else none)))
  else
   (bif Nat.ble 4 pc then (bif Nat.ble 6 pc then (bif Nat.beq pc 6 then some (.if_icmp .lt 7, 3, 13, 0, false) else none) else (bif Nat.beq pc 4 then some (.bipush 10, 2, 0, 10, false) else none)) else (bif Nat.ble 1 pc then (bif Nat.beq pc 1 then some (.getfield 34, 3, 0, 0, false) else none) else (bif Nat.beq pc 0 then some (.aload_n 0, 1, 0, 0, false) else none))))
def qX0_hasStep (pc : Nat) : Option mIn :=
  (bif Nat.ble 7 pc then
   (bif Nat.ble 14 pc then
    (bif Nat.ble 17 pc then (bif Nat.ble 18 pc then (bif Nat.beq pc 18 then some (.ireturn, 1, 0, 0, false) else none) else (bif Nat.beq pc 17 then some (.iconst 0, 1, 0, 0, false) else none)) else (bif Nat.beq pc 14 then some (.goto 4, 3, 18, 0, false) else none))
   else
    (bif Nat.ble 10 pc then (bif Nat.ble 13 pc then (bif Nat.beq pc 13 then some (.iconst 1, 1, 0, 1, false) else none) else (bif Nat.beq pc 10 then some (.if_icmp .ge 7, 3, 17, 0, false) else none)) else (bif Nat.beq pc 7 then some (.getfield 34, 3, 0, 0, false) else none)))
  else
   (bif Nat.ble 2 pc then
    (bif Nat.ble 5 pc then (bif Nat.ble 6 pc then (bif Nat.beq pc 6 then some (.aload_n 0, 1, 0, 0, false) else none) else (bif Nat.beq pc 5 then some (.iload_n 1, 1, 0, 0, false) else none)) else (bif Nat.beq pc 2 then some (.if_icmp .lt 15, 3, 17, 0, false) else none))
   else
    (bif Nat.ble 1 pc then (bif Nat.beq pc 1 then some (.iconst 1, 1, 0, 1, false) else none) else (bif Nat.beq pc 0 then some (.iload_n 1, 1, 0, 0, false) else none))))
def qX0_latestYear (pc : Nat) : Option mIn :=
  (bif Nat.ble 15 pc then
   (bif Nat.ble 20 pc then
    (bif Nat.ble 22 pc then (bif Nat.ble 25 pc then (bif Nat.beq pc 25 then some (.ireturn, 1, 0, 0, false) else none) else (bif Nat.beq pc 22 then some (.getfield 37, 3, 0, 0, false) else none)) else (bif Nat.ble 21 pc then (bif Nat.beq pc 21 then some (.aaload, 1, 0, 0, false) else none) else (bif Nat.beq pc 20 then some (.isub, 1, 0, 0, false) else none)))
   else
    (bif Nat.ble 16 pc then (bif Nat.ble 19 pc then (bif Nat.beq pc 19 then some (.iconst 1, 1, 0, 1, false) else none) else (bif Nat.beq pc 16 then some (.getfield 34, 3, 0, 0, false) else none)) else (bif Nat.beq pc 15 then some (.aload_n 0, 1, 0, 0, false) else none)))
  else
   (bif Nat.ble 7 pc then
    (bif Nat.ble 11 pc then (bif Nat.ble 12 pc then (bif Nat.beq pc 12 then some (.getfield 11, 3, 0, 0, false) else none) else (bif Nat.beq pc 11 then some (.aload_n 0, 1, 0, 0, false) else none)) else (bif Nat.ble 8 pc then (bif Nat.beq pc 8 then some (.goto 17, 3, 25, 0, false) else none) else (bif Nat.beq pc 7 then some (.iconst (-1), 1, 0, -1, false) else none)))
   else
    (bif Nat.ble 1 pc then (bif Nat.ble 4 pc then (bif Nat.beq pc 4 then some (.ifCond .ne 7, 3, 11, 0, false) else none) else (bif Nat.beq pc 1 then some (.getfield 34, 3, 0, 0, false) else none)) else (bif Nat.beq pc 0 then some (.aload_n 0, 1, 0, 0, false) else none))))
def qX0_draftLine (pc : Nat) : Option mIn :=
  (bif Nat.ble 34 pc then
   (bif Nat.ble 52 pc then
    (bif Nat.ble 62 pc then
     (bif Nat.ble 67 pc then
      (bif Nat.ble 70 pc then (bif Nat.ble 71 pc then (bif Nat.beq pc 71 then some (.ireturn, 1, 0, 0, false) else none) else (bif Nat.beq pc 70 then some (.iload_n 3, 1, 0, 0, false) else none)) else (bif Nat.beq pc 67 then some (.goto (-62), 3, 5, 0, false) else none))
     else
      (bif Nat.ble 63 pc then (bif Nat.ble 64 pc then (bif Nat.beq pc 64 then some (.iinc 4 1, 3, 0, 1, false) else none) else (bif Nat.beq pc 63 then some (.istore_n 3, 1, 0, 0, false) else none)) else (bif Nat.beq pc 62 then some (.iadd, 1, 0, 0, false) else none)))
    else
     (bif Nat.ble 57 pc then
      (bif Nat.ble 58 pc then (bif Nat.ble 61 pc then (bif Nat.beq pc 61 then some (.iconst 0, 1, 0, 0, false) else none) else (bif Nat.beq pc 58 then some (.goto 4, 3, 62, 0, false) else none)) else (bif Nat.beq pc 57 then some (.iconst 1, 1, 0, 1, false) else none))
     else
      (bif Nat.ble 54 pc then (bif Nat.beq pc 54 then some (.ifCond .eq 7, 3, 61, 0, false) else none) else (bif Nat.beq pc 52 then some (.iload 5, 2, 0, 0, false) else none))))
   else
    (bif Nat.ble 44 pc then
     (bif Nat.ble 48 pc then
      (bif Nat.ble 50 pc then (bif Nat.ble 51 pc then (bif Nat.beq pc 51 then some (.iload_n 3, 1, 0, 0, false) else none) else (bif Nat.beq pc 50 then some (.bastore, 1, 0, 0, false) else none)) else (bif Nat.beq pc 48 then some (.iload 5, 2, 0, 0, false) else none))
     else
      (bif Nat.ble 45 pc then (bif Nat.beq pc 45 then some (.invokevirtual 45, 3, 0, 0, false) else none) else (bif Nat.beq pc 44 then some (.iload_n 1, 1, 0, 0, false) else none)))
    else
     (bif Nat.ble 38 pc then
      (bif Nat.ble 39 pc then (bif Nat.ble 42 pc then (bif Nat.beq pc 42 then some (.iload 4, 2, 0, 0, false) else none) else (bif Nat.beq pc 39 then some (.getfield 25, 3, 0, 0, false) else none)) else (bif Nat.beq pc 38 then some (.aload_n 0, 1, 0, 0, false) else none))
     else
      (bif Nat.ble 35 pc then (bif Nat.beq pc 35 then some (.getfield 17, 3, 0, 0, false) else none) else (bif Nat.beq pc 34 then some (.aload_n 0, 1, 0, 0, false) else none)))))
  else
   (bif Nat.ble 18 pc then
    (bif Nat.ble 24 pc then
     (bif Nat.ble 28 pc then
      (bif Nat.ble 31 pc then (bif Nat.ble 32 pc then (bif Nat.beq pc 32 then some (.istore 5, 2, 0, 0, false) else none) else (bif Nat.beq pc 31 then some (.iconst 0, 1, 0, 0, false) else none)) else (bif Nat.beq pc 28 then some (.goto 4, 3, 32, 0, false) else none))
     else
      (bif Nat.ble 27 pc then (bif Nat.beq pc 27 then some (.iconst 1, 1, 0, 1, false) else none) else (bif Nat.beq pc 24 then some (.if_icmp .ne 7, 3, 31, 0, false) else none)))
    else
     (bif Nat.ble 21 pc then
      (bif Nat.ble 22 pc then (bif Nat.ble 23 pc then (bif Nat.beq pc 23 then some (.iconst 1, 1, 0, 1, false) else none) else (bif Nat.beq pc 22 then some (.iand, 1, 0, 0, false) else none)) else (bif Nat.beq pc 21 then some (.iconst 1, 1, 0, 1, false) else none))
     else
      (bif Nat.ble 20 pc then (bif Nat.beq pc 20 then some (.ishr, 1, 0, 0, false) else none) else (bif Nat.beq pc 18 then some (.iload 4, 2, 0, 0, false) else none))))
   else
    (bif Nat.ble 7 pc then
     (bif Nat.ble 11 pc then
      (bif Nat.ble 14 pc then (bif Nat.ble 17 pc then (bif Nat.beq pc 17 then some (.iload_n 2, 1, 0, 0, false) else none) else (bif Nat.beq pc 14 then some (.if_icmp .ge 56, 3, 70, 0, false) else none)) else (bif Nat.beq pc 11 then some (.getfield 40, 3, 0, 0, false) else none))
     else
      (bif Nat.ble 8 pc then (bif Nat.beq pc 8 then some (.getfield 25, 3, 0, 0, false) else none) else (bif Nat.beq pc 7 then some (.aload_n 0, 1, 0, 0, false) else none)))
    else
     (bif Nat.ble 2 pc then
      (bif Nat.ble 3 pc then (bif Nat.ble 5 pc then (bif Nat.beq pc 5 then some (.iload 4, 2, 0, 0, true) else none) else (bif Nat.beq pc 3 then some (.istore 4, 2, 0, 0, false) else none)) else (bif Nat.beq pc 2 then some (.iconst 0, 1, 0, 0, false) else none))
     else
      (bif Nat.ble 1 pc then (bif Nat.beq pc 1 then some (.istore_n 3, 1, 0, 0, false) else none) else (bif Nat.beq pc 0 then some (.iconst 0, 1, 0, 0, false) else none))))))
def qX0_add (pc : Nat) : Option mIn :=
  (bif Nat.ble 59 pc then
   (bif Nat.ble 93 pc then
    (bif Nat.ble 112 pc then
     (bif Nat.ble 120 pc then
      (bif Nat.ble 122 pc then
       (bif Nat.ble 125 pc then (bif Nat.ble 126 pc then (bif Nat.beq pc 126 then some (.ireturn, 1, 0, 0, false) else none) else (bif Nat.beq pc 125 then some (.iload_n 2, 1, 0, 0, false) else none)) else (bif Nat.beq pc 122 then some (.putfield 34, 3, 0, 0, false) else none))
      else
       (bif Nat.ble 121 pc then (bif Nat.beq pc 121 then some (.iadd, 1, 0, 0, false) else none) else (bif Nat.beq pc 120 then some (.iconst 1, 1, 0, 1, false) else none)))
     else
      (bif Nat.ble 116 pc then (bif Nat.ble 117 pc then (bif Nat.beq pc 117 then some (.getfield 34, 3, 0, 0, false) else none) else (bif Nat.beq pc 116 then some (.dup, 1, 0, 0, false) else none)) else (bif Nat.ble 115 pc then (bif Nat.beq pc 115 then some (.aload_n 0, 1, 0, 0, false) else none) else (bif Nat.beq pc 112 then some (.invokevirtual 73, 3, 0, 0, false) else none))))
    else
     (bif Nat.ble 103 pc then
      (bif Nat.ble 107 pc then
       (bif Nat.ble 108 pc then (bif Nat.ble 111 pc then (bif Nat.beq pc 111 then some (.aload_n 3, 1, 0, 0, false) else none) else (bif Nat.beq pc 108 then some (.getfield 29, 3, 0, 0, false) else none)) else (bif Nat.beq pc 107 then some (.aload_n 0, 1, 0, 0, false) else none))
      else
       (bif Nat.ble 104 pc then (bif Nat.beq pc 104 then some (.invokevirtual 67, 3, 0, 0, false) else none) else (bif Nat.beq pc 103 then some (.aload_n 3, 1, 0, 0, false) else none)))
     else
      (bif Nat.ble 99 pc then (bif Nat.ble 100 pc then (bif Nat.beq pc 100 then some (.getfield 29, 3, 0, 0, false) else none) else (bif Nat.beq pc 99 then some (.aload_n 0, 1, 0, 0, false) else none)) else (bif Nat.ble 96 pc then (bif Nat.beq pc 96 then some (.goto (-71), 3, 25, 0, false) else none) else (bif Nat.beq pc 93 then some (.iinc 4 1, 3, 0, 1, false) else none)))))
   else
    (bif Nat.ble 75 pc then
     (bif Nat.ble 83 pc then
      (bif Nat.ble 88 pc then
       (bif Nat.ble 89 pc then (bif Nat.ble 92 pc then (bif Nat.beq pc 92 then some (.iastore, 1, 0, 0, false) else none) else (bif Nat.beq pc 89 then some (.invokestatic 63, 3, 0, 0, false) else none)) else (bif Nat.beq pc 88 then some (.baload, 1, 0, 0, false) else none))
      else
       (bif Nat.ble 86 pc then (bif Nat.beq pc 86 then some (.iload 4, 2, 0, 0, false) else none) else (bif Nat.beq pc 83 then some (.getfield 17, 3, 0, 0, false) else none)))
     else
      (bif Nat.ble 80 pc then (bif Nat.ble 82 pc then (bif Nat.beq pc 82 then some (.aload_n 0, 1, 0, 0, false) else none) else (bif Nat.beq pc 80 then some (.iload 5, 2, 0, 0, false) else none)) else (bif Nat.ble 78 pc then (bif Nat.beq pc 78 then some (.iload 4, 2, 0, 0, false) else none) else (bif Nat.beq pc 75 then some (.getfield 59, 3, 0, 0, false) else none))))
    else
     (bif Nat.ble 68 pc then
      (bif Nat.ble 72 pc then (bif Nat.ble 74 pc then (bif Nat.beq pc 74 then some (.aload_n 3, 1, 0, 0, false) else none) else (bif Nat.beq pc 72 then some (.istore 5, 2, 0, 0, false) else none)) else (bif Nat.ble 71 pc then (bif Nat.beq pc 71 then some (.iconst 0, 1, 0, 0, false) else none) else (bif Nat.beq pc 68 then some (.goto 4, 3, 72, 0, false) else none)))
     else
      (bif Nat.ble 64 pc then (bif Nat.ble 67 pc then (bif Nat.beq pc 67 then some (.iconst 1, 1, 0, 1, false) else none) else (bif Nat.beq pc 64 then some (.ifCond .ne 7, 3, 71, 0, false) else none)) else (bif Nat.ble 61 pc then (bif Nat.beq pc 61 then some (.invokevirtual 55, 3, 0, 0, false) else none) else (bif Nat.beq pc 59 then some (.iload 4, 2, 0, 0, false) else none))))))
  else
   (bif Nat.ble 27 pc then
    (bif Nat.ble 45 pc then
     (bif Nat.ble 52 pc then
      (bif Nat.ble 56 pc then
       (bif Nat.ble 57 pc then (bif Nat.ble 58 pc then (bif Nat.beq pc 58 then some (.aaload, 1, 0, 0, false) else none) else (bif Nat.beq pc 57 then some (.isub, 1, 0, 0, false) else none)) else (bif Nat.beq pc 56 then some (.iconst 1, 1, 0, 1, false) else none))
      else
       (bif Nat.ble 55 pc then (bif Nat.beq pc 55 then some (.iload_n 2, 1, 0, 0, false) else none) else (bif Nat.beq pc 52 then some (.getfield 11, 3, 0, 0, false) else none)))
     else
      (bif Nat.ble 48 pc then (bif Nat.ble 51 pc then (bif Nat.beq pc 51 then some (.aload_n 0, 1, 0, 0, false) else none) else (bif Nat.beq pc 48 then some (.goto 24, 3, 72, 0, false) else none)) else (bif Nat.ble 47 pc then (bif Nat.beq pc 47 then some (.baload, 1, 0, 0, false) else none) else (bif Nat.beq pc 45 then some (.iload 4, 2, 0, 0, false) else none))))
    else
     (bif Nat.ble 37 pc then
      (bif Nat.ble 41 pc then (bif Nat.ble 42 pc then (bif Nat.beq pc 42 then some (.getfield 17, 3, 0, 0, false) else none) else (bif Nat.beq pc 41 then some (.aload_n 0, 1, 0, 0, false) else none)) else (bif Nat.ble 38 pc then (bif Nat.beq pc 38 then some (.ifCond .ne 13, 3, 51, 0, false) else none) else (bif Nat.beq pc 37 then some (.iload_n 2, 1, 0, 0, false) else none)))
     else
      (bif Nat.ble 31 pc then (bif Nat.ble 34 pc then (bif Nat.beq pc 34 then some (.if_icmp .ge 65, 3, 99, 0, false) else none) else (bif Nat.beq pc 31 then some (.getfield 52, 3, 0, 0, false) else none)) else (bif Nat.ble 28 pc then (bif Nat.beq pc 28 then some (.getfield 25, 3, 0, 0, false) else none) else (bif Nat.beq pc 27 then some (.aload_n 0, 1, 0, 0, false) else none)))))
   else
    (bif Nat.ble 12 pc then
     (bif Nat.ble 18 pc then
      (bif Nat.ble 22 pc then
       (bif Nat.ble 23 pc then (bif Nat.ble 25 pc then (bif Nat.beq pc 25 then some (.iload 4, 2, 0, 0, true) else none) else (bif Nat.beq pc 23 then some (.istore 4, 2, 0, 0, false) else none)) else (bif Nat.beq pc 22 then some (.iconst 0, 1, 0, 0, false) else none))
      else
       (bif Nat.ble 19 pc then (bif Nat.beq pc 19 then some (.putfield 49, 3, 0, 0, false) else none) else (bif Nat.beq pc 18 then some (.iconst (-1), 1, 0, -1, false) else none)))
     else
      (bif Nat.ble 14 pc then (bif Nat.ble 17 pc then (bif Nat.beq pc 17 then some (.aload_n 3, 1, 0, 0, false) else none) else (bif Nat.beq pc 14 then some (.putfield 37, 3, 0, 0, false) else none)) else (bif Nat.ble 13 pc then (bif Nat.beq pc 13 then some (.iload_n 1, 1, 0, 0, false) else none) else (bif Nat.beq pc 12 then some (.aload_n 3, 1, 0, 0, false) else none))))
    else
     (bif Nat.ble 6 pc then
      (bif Nat.ble 10 pc then (bif Nat.ble 11 pc then (bif Nat.beq pc 11 then some (.astore_n 3, 1, 0, 0, false) else none) else (bif Nat.beq pc 10 then some (.aaload, 1, 0, 0, false) else none)) else (bif Nat.ble 9 pc then (bif Nat.beq pc 9 then some (.iload_n 2, 1, 0, 0, false) else none) else (bif Nat.beq pc 6 then some (.getfield 11, 3, 0, 0, false) else none)))
     else
      (bif Nat.ble 4 pc then (bif Nat.ble 5 pc then (bif Nat.beq pc 5 then some (.aload_n 0, 1, 0, 0, false) else none) else (bif Nat.beq pc 4 then some (.istore_n 2, 1, 0, 0, false) else none)) else (bif Nat.ble 1 pc then (bif Nat.beq pc 1 then some (.getfield 34, 3, 0, 0, false) else none) else (bif Nat.beq pc 0 then some (.aload_n 0, 1, 0, 0, false) else none)))))))
def qX0_leafIn (pc : Nat) : Option mIn :=
  (bif Nat.ble 18 pc then
   (bif Nat.ble 30 pc then
    (bif Nat.ble 37 pc then
     (bif Nat.ble 38 pc then (bif Nat.ble 39 pc then (bif Nat.beq pc 39 then some (.areturn, 1, 0, 0, false) else none) else (bif Nat.beq pc 38 then some (.aaload, 1, 0, 0, false) else none)) else (bif Nat.beq pc 37 then some (.iload_n 2, 1, 0, 0, false) else none))
    else
     (bif Nat.ble 33 pc then (bif Nat.ble 34 pc then (bif Nat.beq pc 34 then some (.getfield 11, 3, 0, 0, false) else none) else (bif Nat.beq pc 33 then some (.aload_n 0, 1, 0, 0, false) else none)) else (bif Nat.beq pc 30 then some (.goto (-26), 3, 4, 0, false) else none)))
   else
    (bif Nat.ble 25 pc then
     (bif Nat.ble 26 pc then (bif Nat.ble 27 pc then (bif Nat.beq pc 27 then some (.iinc 3 1, 3, 0, 1, false) else none) else (bif Nat.beq pc 26 then some (.istore_n 2, 1, 0, 0, false) else none)) else (bif Nat.beq pc 25 then some (.iload_n 3, 1, 0, 0, false) else none))
    else
     (bif Nat.ble 21 pc then (bif Nat.ble 22 pc then (bif Nat.beq pc 22 then some (.if_icmp .gt 5, 3, 27, 0, false) else none) else (bif Nat.beq pc 21 then some (.iload_n 1, 1, 0, 0, false) else none)) else (bif Nat.beq pc 18 then some (.getfield 37, 3, 0, 0, false) else none))))
  else
   (bif Nat.ble 6 pc then
    (bif Nat.ble 13 pc then
     (bif Nat.ble 16 pc then (bif Nat.ble 17 pc then (bif Nat.beq pc 17 then some (.aaload, 1, 0, 0, false) else none) else (bif Nat.beq pc 16 then some (.iload_n 3, 1, 0, 0, false) else none)) else (bif Nat.beq pc 13 then some (.getfield 11, 3, 0, 0, false) else none))
    else
     (bif Nat.ble 9 pc then (bif Nat.ble 12 pc then (bif Nat.beq pc 12 then some (.aload_n 0, 1, 0, 0, false) else none) else (bif Nat.beq pc 9 then some (.if_icmp .ge 24, 3, 33, 0, false) else none)) else (bif Nat.beq pc 6 then some (.getfield 34, 3, 0, 0, false) else none)))
   else
    (bif Nat.ble 3 pc then
     (bif Nat.ble 4 pc then (bif Nat.ble 5 pc then (bif Nat.beq pc 5 then some (.aload_n 0, 1, 0, 0, false) else none) else (bif Nat.beq pc 4 then some (.iload_n 3, 1, 0, 0, true) else none)) else (bif Nat.beq pc 3 then some (.istore_n 3, 1, 0, 0, false) else none))
    else
     (bif Nat.ble 1 pc then (bif Nat.ble 2 pc then (bif Nat.beq pc 2 then some (.iconst 1, 1, 0, 1, false) else none) else (bif Nat.beq pc 1 then some (.istore_n 2, 1, 0, 0, false) else none)) else (bif Nat.beq pc 0 then some (.iconst 0, 1, 0, 0, false) else none)))))
def qX0_isSudden (pc : Nat) : Option mIn :=
  (bif Nat.ble 23 pc then
   (bif Nat.ble 35 pc then
    (bif Nat.ble 42 pc then
     (bif Nat.ble 46 pc then (bif Nat.ble 47 pc then (bif Nat.beq pc 47 then some (.ireturn, 1, 0, 0, false) else none) else (bif Nat.beq pc 46 then some (.iconst 0, 1, 0, 0, false) else none)) else (bif Nat.ble 43 pc then (bif Nat.beq pc 43 then some (.goto 4, 3, 47, 0, false) else none) else (bif Nat.beq pc 42 then some (.iconst 1, 1, 0, 1, false) else none)))
    else
     (bif Nat.ble 38 pc then (bif Nat.ble 39 pc then (bif Nat.beq pc 39 then some (.if_icmp .ne 7, 3, 46, 0, false) else none) else (bif Nat.beq pc 38 then some (.iconst 1, 1, 0, 1, false) else none)) else (bif Nat.beq pc 35 then some (.getfield 49, 3, 0, 0, false) else none)))
   else
    (bif Nat.ble 30 pc then
     (bif Nat.ble 31 pc then (bif Nat.ble 34 pc then (bif Nat.beq pc 34 then some (.aload_n 2, 1, 0, 0, false) else none) else (bif Nat.beq pc 31 then some (.goto 16, 3, 47, 0, false) else none)) else (bif Nat.beq pc 30 then some (.iconst 0, 1, 0, 0, false) else none))
    else
     (bif Nat.ble 26 pc then (bif Nat.ble 27 pc then (bif Nat.beq pc 27 then some (.goto 20, 3, 47, 0, false) else none) else (bif Nat.beq pc 26 then some (.iconst 1, 1, 0, 1, false) else none)) else (bif Nat.beq pc 23 then some (.if_icmp .le 7, 3, 30, 0, false) else none))))
  else
   (bif Nat.ble 8 pc then
    (bif Nat.ble 15 pc then
     (bif Nat.ble 19 pc then (bif Nat.ble 20 pc then (bif Nat.beq pc 20 then some (.getfield 21, 3, 0, 0, false) else none) else (bif Nat.beq pc 19 then some (.aload_n 0, 1, 0, 0, false) else none)) else (bif Nat.ble 16 pc then (bif Nat.beq pc 16 then some (.getfield 76, 3, 0, 0, false) else none) else (bif Nat.beq pc 15 then some (.aload_n 2, 1, 0, 0, false) else none)))
    else
     (bif Nat.ble 11 pc then (bif Nat.ble 12 pc then (bif Nat.beq pc 12 then some (.if_icmp .ne 22, 3, 34, 0, false) else none) else (bif Nat.beq pc 11 then some (.iconst (-1), 1, 0, -1, false) else none)) else (bif Nat.beq pc 8 then some (.getfield 49, 3, 0, 0, false) else none)))
   else
    (bif Nat.ble 5 pc then
     (bif Nat.ble 6 pc then (bif Nat.ble 7 pc then (bif Nat.beq pc 7 then some (.aload_n 2, 1, 0, 0, false) else none) else (bif Nat.beq pc 6 then some (.astore_n 2, 1, 0, 0, false) else none)) else (bif Nat.beq pc 5 then some (.aaload, 1, 0, 0, false) else none))
    else
     (bif Nat.ble 1 pc then (bif Nat.ble 4 pc then (bif Nat.beq pc 4 then some (.iload_n 1, 1, 0, 0, false) else none) else (bif Nat.beq pc 1 then some (.getfield 11, 3, 0, 0, false) else none)) else (bif Nat.beq pc 0 then some (.aload_n 0, 1, 0, 0, false) else none)))))
def qX0_kindBetween (pc : Nat) : Option mIn :=
  (bif Nat.ble 13 pc then
   (bif Nat.ble 18 pc then
    (bif Nat.ble 22 pc then (bif Nat.ble 23 pc then (bif Nat.beq pc 23 then some (.ireturn, 1, 0, 0, false) else none) else (bif Nat.beq pc 22 then some (.iconst 4, 1, 0, 4, false) else none)) else (bif Nat.ble 19 pc then (bif Nat.beq pc 19 then some (.goto 4, 3, 23, 0, false) else none) else (bif Nat.beq pc 18 then some (.iconst 3, 1, 0, 3, false) else none)))
   else
    (bif Nat.ble 14 pc then (bif Nat.ble 15 pc then (bif Nat.beq pc 15 then some (.ifCond .eq 7, 3, 22, 0, false) else none) else (bif Nat.beq pc 14 then some (.iload_n 0, 1, 0, 0, false) else none)) else (bif Nat.beq pc 13 then some (.ireturn, 1, 0, 0, false) else none)))
  else
   (bif Nat.ble 5 pc then
    (bif Nat.ble 9 pc then (bif Nat.ble 12 pc then (bif Nat.beq pc 12 then some (.iconst 1, 1, 0, 1, false) else none) else (bif Nat.beq pc 9 then some (.goto 4, 3, 13, 0, false) else none)) else (bif Nat.ble 8 pc then (bif Nat.beq pc 8 then some (.iconst 0, 1, 0, 0, false) else none) else (bif Nat.beq pc 5 then some (.ifCond .eq 7, 3, 12, 0, false) else none)))
   else
    (bif Nat.ble 1 pc then (bif Nat.ble 4 pc then (bif Nat.beq pc 4 then some (.iload_n 0, 1, 0, 0, false) else none) else (bif Nat.beq pc 1 then some (.ifCond .eq 13, 3, 14, 0, false) else none)) else (bif Nat.beq pc 0 then some (.iload_n 1, 1, 0, 0, false) else none))))
def qX1_clear (pc : Nat) : Option mIn :=
  (bif Nat.ble 2 pc then (bif Nat.ble 5 pc then (bif Nat.beq pc 5 then some (.return_, 1, 0, 0, false) else none) else (bif Nat.beq pc 2 then some (.putfield 37, 3, 0, 0, false) else none)) else (bif Nat.ble 1 pc then (bif Nat.beq pc 1 then some (.iconst 0, 1, 0, 0, false) else none) else (bif Nat.beq pc 0 then some (.aload_n 0, 1, 0, 0, false) else none)))
def qX1_isFull (pc : Nat) : Option mIn :=
  (bif Nat.ble 9 pc then
   (bif Nat.ble 13 pc then (bif Nat.ble 14 pc then (bif Nat.beq pc 14 then some (.ireturn, 1, 0, 0, false) else none) else (bif Nat.beq pc 13 then some (.iconst 0, 1, 0, 0, false) else none)) else (bif Nat.ble 10 pc then (bif Nat.beq pc 10 then some (.goto 4, 3, 14, 0, false) else none) else (bif Nat.beq pc 9 then some (.iconst 1, 1, 0, 1, false) else none)))
  else
   (bif Nat.ble 4 pc then (bif Nat.ble 6 pc then (bif Nat.beq pc 6 then some (.if_icmp .lt 7, 3, 13, 0, false) else none) else (bif Nat.beq pc 4 then some (.bipush 30, 2, 0, 30, false) else none)) else (bif Nat.ble 1 pc then (bif Nat.beq pc 1 then some (.getfield 37, 3, 0, 0, false) else none) else (bif Nat.beq pc 0 then some (.aload_n 0, 1, 0, 0, false) else none))))
def qX1_has (pc : Nat) : Option mIn :=
  (bif Nat.ble 9 pc then
   (bif Nat.ble 13 pc then
    (bif Nat.ble 16 pc then (bif Nat.ble 17 pc then (bif Nat.beq pc 17 then some (.ireturn, 1, 0, 0, false) else none) else (bif Nat.beq pc 16 then some (.iconst 0, 1, 0, 0, false) else none)) else (bif Nat.beq pc 13 then some (.goto 4, 3, 17, 0, false) else none))
   else
    (bif Nat.ble 12 pc then (bif Nat.beq pc 12 then some (.iconst 1, 1, 0, 1, false) else none) else (bif Nat.beq pc 9 then some (.if_icmp .ge 7, 3, 16, 0, false) else none)))
  else
   (bif Nat.ble 4 pc then
    (bif Nat.ble 5 pc then (bif Nat.ble 6 pc then (bif Nat.beq pc 6 then some (.getfield 37, 3, 0, 0, false) else none) else (bif Nat.beq pc 5 then some (.aload_n 0, 1, 0, 0, false) else none)) else (bif Nat.beq pc 4 then some (.iload_n 1, 1, 0, 0, false) else none))
   else
    (bif Nat.ble 1 pc then (bif Nat.beq pc 1 then some (.ifCond .lt 15, 3, 16, 0, false) else none) else (bif Nat.beq pc 0 then some (.iload_n 1, 1, 0, 0, false) else none))))
def qX1_add (pc : Nat) : Option mIn :=
  (bif Nat.ble 67 pc then
   (bif Nat.ble 103 pc then
    (bif Nat.ble 121 pc then
     (bif Nat.ble 129 pc then
      (bif Nat.ble 131 pc then
       (bif Nat.ble 134 pc then (bif Nat.ble 136 pc then (bif Nat.beq pc 136 then some (.ireturn, 1, 0, 0, false) else none) else (bif Nat.beq pc 134 then some (.iload 7, 2, 0, 0, false) else none)) else (bif Nat.beq pc 131 then some (.putfield 37, 3, 0, 0, false) else none))
      else
       (bif Nat.ble 130 pc then (bif Nat.beq pc 130 then some (.iadd, 1, 0, 0, false) else none) else (bif Nat.beq pc 129 then some (.iconst 1, 1, 0, 1, false) else none)))
     else
      (bif Nat.ble 124 pc then
       (bif Nat.ble 125 pc then (bif Nat.ble 126 pc then (bif Nat.beq pc 126 then some (.getfield 37, 3, 0, 0, false) else none) else (bif Nat.beq pc 125 then some (.dup, 1, 0, 0, false) else none)) else (bif Nat.beq pc 124 then some (.aload_n 0, 1, 0, 0, false) else none))
      else
       (bif Nat.ble 123 pc then (bif Nat.beq pc 123 then some (.iastore, 1, 0, 0, false) else none) else (bif Nat.beq pc 121 then some (.iload 7, 2, 0, 0, false) else none))))
    else
     (bif Nat.ble 109 pc then
      (bif Nat.ble 115 pc then
       (bif Nat.ble 116 pc then (bif Nat.ble 119 pc then (bif Nat.beq pc 119 then some (.iload 8, 2, 0, 0, false) else none) else (bif Nat.beq pc 116 then some (.getfield 34, 3, 0, 0, false) else none)) else (bif Nat.beq pc 115 then some (.aload_n 0, 1, 0, 0, false) else none))
      else
       (bif Nat.ble 112 pc then (bif Nat.beq pc 112 then some (.goto (-43), 3, 69, 0, false) else none) else (bif Nat.beq pc 109 then some (.iinc 8 (-1), 3, 0, -1, false) else none)))
     else
      (bif Nat.ble 106 pc then
       (bif Nat.ble 107 pc then (bif Nat.ble 108 pc then (bif Nat.beq pc 108 then some (.iastore, 1, 0, 0, false) else none) else (bif Nat.beq pc 107 then some (.iaload, 1, 0, 0, false) else none)) else (bif Nat.beq pc 106 then some (.isub, 1, 0, 0, false) else none))
      else
       (bif Nat.ble 105 pc then (bif Nat.beq pc 105 then some (.iconst 1, 1, 0, 1, false) else none) else (bif Nat.beq pc 103 then some (.iload 8, 2, 0, 0, false) else none)))))
   else
    (bif Nat.ble 85 pc then
     (bif Nat.ble 93 pc then
      (bif Nat.ble 97 pc then
       (bif Nat.ble 99 pc then (bif Nat.ble 100 pc then (bif Nat.beq pc 100 then some (.getfield 34, 3, 0, 0, false) else none) else (bif Nat.beq pc 99 then some (.aload_n 0, 1, 0, 0, false) else none)) else (bif Nat.beq pc 97 then some (.iload 8, 2, 0, 0, false) else none))
      else
       (bif Nat.ble 94 pc then (bif Nat.beq pc 94 then some (.getfield 34, 3, 0, 0, false) else none) else (bif Nat.beq pc 93 then some (.aload_n 0, 1, 0, 0, false) else none)))
     else
      (bif Nat.ble 87 pc then
       (bif Nat.ble 88 pc then (bif Nat.ble 90 pc then (bif Nat.beq pc 90 then some (.if_icmp .le 25, 3, 115, 0, false) else none) else (bif Nat.beq pc 88 then some (.iload 6, 2, 0, 0, false) else none)) else (bif Nat.beq pc 87 then some (.iaload, 1, 0, 0, false) else none))
      else
       (bif Nat.ble 86 pc then (bif Nat.beq pc 86 then some (.iaload, 1, 0, 0, false) else none) else (bif Nat.beq pc 85 then some (.isub, 1, 0, 0, false) else none))))
    else
     (bif Nat.ble 75 pc then
      (bif Nat.ble 79 pc then
       (bif Nat.ble 82 pc then (bif Nat.ble 84 pc then (bif Nat.beq pc 84 then some (.iconst 1, 1, 0, 1, false) else none) else (bif Nat.beq pc 82 then some (.iload 8, 2, 0, 0, false) else none)) else (bif Nat.beq pc 79 then some (.getfield 34, 3, 0, 0, false) else none))
      else
       (bif Nat.ble 78 pc then (bif Nat.beq pc 78 then some (.aload_n 0, 1, 0, 0, false) else none) else (bif Nat.beq pc 75 then some (.getfield 27, 3, 0, 0, false) else none)))
     else
      (bif Nat.ble 71 pc then (bif Nat.ble 74 pc then (bif Nat.beq pc 74 then some (.aload_n 0, 1, 0, 0, false) else none) else (bif Nat.beq pc 71 then some (.ifCond .le 44, 3, 115, 0, false) else none)) else (bif Nat.ble 69 pc then (bif Nat.beq pc 69 then some (.iload 8, 2, 0, 0, true) else none) else (bif Nat.beq pc 67 then some (.istore 8, 2, 0, 0, false) else none))))))
  else
   (bif Nat.ble 31 pc then
    (bif Nat.ble 49 pc then
     (bif Nat.ble 58 pc then
      (bif Nat.ble 63 pc then
       (bif Nat.ble 64 pc then (bif Nat.ble 65 pc then (bif Nat.beq pc 65 then some (.iload 7, 2, 0, 0, false) else none) else (bif Nat.beq pc 64 then some (.bastore, 1, 0, 0, false) else none)) else (bif Nat.beq pc 63 then some (.iconst 0, 1, 0, 0, false) else none))
      else
       (bif Nat.ble 61 pc then (bif Nat.beq pc 61 then some (.iload 7, 2, 0, 0, false) else none) else (bif Nat.beq pc 58 then some (.getfield 30, 3, 0, 0, false) else none)))
     else
      (bif Nat.ble 54 pc then
       (bif Nat.ble 56 pc then (bif Nat.ble 57 pc then (bif Nat.beq pc 57 then some (.aload_n 0, 1, 0, 0, false) else none) else (bif Nat.beq pc 56 then some (.iastore, 1, 0, 0, false) else none)) else (bif Nat.beq pc 54 then some (.iload 6, 2, 0, 0, false) else none))
      else
       (bif Nat.ble 52 pc then (bif Nat.beq pc 52 then some (.iload 7, 2, 0, 0, false) else none) else (bif Nat.beq pc 49 then some (.getfield 27, 3, 0, 0, false) else none))))
    else
     (bif Nat.ble 40 pc then
      (bif Nat.ble 45 pc then
       (bif Nat.ble 47 pc then (bif Nat.ble 48 pc then (bif Nat.beq pc 48 then some (.aload_n 0, 1, 0, 0, false) else none) else (bif Nat.beq pc 47 then some (.iastore, 1, 0, 0, false) else none)) else (bif Nat.beq pc 45 then some (.iload 5, 2, 0, 0, false) else none))
      else
       (bif Nat.ble 43 pc then (bif Nat.beq pc 43 then some (.iload 7, 2, 0, 0, false) else none) else (bif Nat.beq pc 40 then some (.getfield 24, 3, 0, 0, false) else none)))
     else
      (bif Nat.ble 36 pc then
       (bif Nat.ble 38 pc then (bif Nat.ble 39 pc then (bif Nat.beq pc 39 then some (.aload_n 0, 1, 0, 0, false) else none) else (bif Nat.beq pc 38 then some (.iastore, 1, 0, 0, false) else none)) else (bif Nat.beq pc 36 then some (.iload 4, 2, 0, 0, false) else none))
      else
       (bif Nat.ble 34 pc then (bif Nat.beq pc 34 then some (.iload 7, 2, 0, 0, false) else none) else (bif Nat.beq pc 31 then some (.getfield 21, 3, 0, 0, false) else none)))))
   else
    (bif Nat.ble 15 pc then
     (bif Nat.ble 23 pc then
      (bif Nat.ble 28 pc then
       (bif Nat.ble 29 pc then (bif Nat.ble 30 pc then (bif Nat.beq pc 30 then some (.aload_n 0, 1, 0, 0, false) else none) else (bif Nat.beq pc 29 then some (.iastore, 1, 0, 0, false) else none)) else (bif Nat.beq pc 28 then some (.iload_n 3, 1, 0, 0, false) else none))
      else
       (bif Nat.ble 26 pc then (bif Nat.beq pc 26 then some (.iload 7, 2, 0, 0, false) else none) else (bif Nat.beq pc 23 then some (.getfield 18, 3, 0, 0, false) else none)))
     else
      (bif Nat.ble 20 pc then
       (bif Nat.ble 21 pc then (bif Nat.ble 22 pc then (bif Nat.beq pc 22 then some (.aload_n 0, 1, 0, 0, false) else none) else (bif Nat.beq pc 21 then some (.iastore, 1, 0, 0, false) else none)) else (bif Nat.beq pc 20 then some (.iload_n 2, 1, 0, 0, false) else none))
      else
       (bif Nat.ble 18 pc then (bif Nat.beq pc 18 then some (.iload 7, 2, 0, 0, false) else none) else (bif Nat.beq pc 15 then some (.getfield 15, 3, 0, 0, false) else none))))
    else
     (bif Nat.ble 7 pc then
      (bif Nat.ble 12 pc then
       (bif Nat.ble 13 pc then (bif Nat.ble 14 pc then (bif Nat.beq pc 14 then some (.aload_n 0, 1, 0, 0, false) else none) else (bif Nat.beq pc 13 then some (.iastore, 1, 0, 0, false) else none)) else (bif Nat.beq pc 12 then some (.iload_n 1, 1, 0, 0, false) else none))
      else
       (bif Nat.ble 10 pc then (bif Nat.beq pc 10 then some (.iload 7, 2, 0, 0, false) else none) else (bif Nat.beq pc 7 then some (.getfield 9, 3, 0, 0, false) else none)))
     else
      (bif Nat.ble 4 pc then (bif Nat.ble 6 pc then (bif Nat.beq pc 6 then some (.aload_n 0, 1, 0, 0, false) else none) else (bif Nat.beq pc 4 then some (.istore 7, 2, 0, 0, false) else none)) else (bif Nat.ble 1 pc then (bif Nat.beq pc 1 then some (.getfield 37, 3, 0, 0, false) else none) else (bif Nat.beq pc 0 then some (.aload_n 0, 1, 0, 0, false) else none)))))))
def qX1_notStruck (pc : Nat) : Option mIn :=
  (bif Nat.ble 17 pc then
   (bif Nat.ble 27 pc then
    (bif Nat.ble 32 pc then
     (bif Nat.ble 35 pc then (bif Nat.ble 36 pc then (bif Nat.beq pc 36 then some (.ireturn, 1, 0, 0, false) else none) else (bif Nat.beq pc 35 then some (.iload_n 1, 1, 0, 0, false) else none)) else (bif Nat.beq pc 32 then some (.goto (-28), 3, 4, 0, false) else none))
    else
     (bif Nat.ble 28 pc then (bif Nat.ble 29 pc then (bif Nat.beq pc 29 then some (.iinc 2 1, 3, 0, 1, false) else none) else (bif Nat.beq pc 28 then some (.istore_n 1, 1, 0, 0, false) else none)) else (bif Nat.beq pc 27 then some (.iadd, 1, 0, 0, false) else none)))
   else
    (bif Nat.ble 22 pc then
     (bif Nat.ble 23 pc then (bif Nat.ble 26 pc then (bif Nat.beq pc 26 then some (.iconst 1, 1, 0, 1, false) else none) else (bif Nat.beq pc 23 then some (.goto 4, 3, 27, 0, false) else none)) else (bif Nat.beq pc 22 then some (.iconst 0, 1, 0, 0, false) else none))
    else
     (bif Nat.ble 18 pc then (bif Nat.ble 19 pc then (bif Nat.beq pc 19 then some (.ifCond .eq 7, 3, 26, 0, false) else none) else (bif Nat.beq pc 18 then some (.baload, 1, 0, 0, false) else none)) else (bif Nat.beq pc 17 then some (.iload_n 2, 1, 0, 0, false) else none))))
  else
   (bif Nat.ble 5 pc then
    (bif Nat.ble 12 pc then
     (bif Nat.ble 13 pc then (bif Nat.ble 14 pc then (bif Nat.beq pc 14 then some (.getfield 30, 3, 0, 0, false) else none) else (bif Nat.beq pc 13 then some (.aload_n 0, 1, 0, 0, false) else none)) else (bif Nat.beq pc 12 then some (.iload_n 1, 1, 0, 0, false) else none))
    else
     (bif Nat.ble 6 pc then (bif Nat.ble 9 pc then (bif Nat.beq pc 9 then some (.if_icmp .ge 26, 3, 35, 0, false) else none) else (bif Nat.beq pc 6 then some (.getfield 37, 3, 0, 0, false) else none)) else (bif Nat.beq pc 5 then some (.aload_n 0, 1, 0, 0, false) else none)))
   else
    (bif Nat.ble 2 pc then
     (bif Nat.ble 3 pc then (bif Nat.ble 4 pc then (bif Nat.beq pc 4 then some (.iload_n 2, 1, 0, 0, true) else none) else (bif Nat.beq pc 3 then some (.istore_n 2, 1, 0, 0, false) else none)) else (bif Nat.beq pc 2 then some (.iconst 0, 1, 0, 0, false) else none))
    else
     (bif Nat.ble 1 pc then (bif Nat.beq pc 1 then some (.istore_n 1, 1, 0, 0, false) else none) else (bif Nat.beq pc 0 then some (.iconst 0, 1, 0, 0, false) else none)))))
def qX2_lay (pc : Nat) : Option mIn :=
  (bif Nat.ble 34 pc then
   (bif Nat.ble 51 pc then
    (bif Nat.ble 57 pc then
     (bif Nat.ble 64 pc then
      (bif Nat.ble 67 pc then (bif Nat.ble 70 pc then (bif Nat.beq pc 70 then some (.return_, 1, 0, 0, false) else none) else (bif Nat.beq pc 67 then some (.goto (-48), 3, 19, 0, false) else none)) else (bif Nat.beq pc 64 then some (.iinc 3 1, 3, 0, 1, false) else none))
     else
      (bif Nat.ble 58 pc then (bif Nat.ble 61 pc then (bif Nat.beq pc 61 then some (.goto (-34), 3, 27, 0, false) else none) else (bif Nat.beq pc 58 then some (.iinc 4 1, 3, 0, 1, false) else none)) else (bif Nat.beq pc 57 then some (.iastore, 1, 0, 0, false) else none)))
    else
     (bif Nat.ble 53 pc then
      (bif Nat.ble 55 pc then (bif Nat.ble 56 pc then (bif Nat.beq pc 56 then some (.iload_n 3, 1, 0, 0, false) else none) else (bif Nat.beq pc 55 then some (.iadd, 1, 0, 0, false) else none)) else (bif Nat.beq pc 53 then some (.iload 4, 2, 0, 0, false) else none))
     else
      (bif Nat.ble 52 pc then (bif Nat.beq pc 52 then some (.imul, 1, 0, 0, false) else none) else (bif Nat.beq pc 51 then some (.iload_n 1, 1, 0, 0, false) else none))))
   else
    (bif Nat.ble 42 pc then
     (bif Nat.ble 46 pc then
      (bif Nat.ble 47 pc then (bif Nat.ble 50 pc then (bif Nat.beq pc 50 then some (.iload_n 3, 1, 0, 0, false) else none) else (bif Nat.beq pc 47 then some (.getfield 25, 3, 0, 0, false) else none)) else (bif Nat.beq pc 46 then some (.aload_n 0, 1, 0, 0, false) else none))
     else
      (bif Nat.ble 43 pc then (bif Nat.ble 45 pc then (bif Nat.beq pc 45 then some (.iastore, 1, 0, 0, false) else none) else (bif Nat.beq pc 43 then some (.iload 4, 2, 0, 0, false) else none)) else (bif Nat.beq pc 42 then some (.iadd, 1, 0, 0, false) else none)))
    else
     (bif Nat.ble 38 pc then
      (bif Nat.ble 39 pc then (bif Nat.ble 40 pc then (bif Nat.beq pc 40 then some (.iload 4, 2, 0, 0, false) else none) else (bif Nat.beq pc 39 then some (.imul, 1, 0, 0, false) else none)) else (bif Nat.beq pc 38 then some (.iload_n 1, 1, 0, 0, false) else none))
     else
      (bif Nat.ble 37 pc then (bif Nat.beq pc 37 then some (.iload_n 3, 1, 0, 0, false) else none) else (bif Nat.beq pc 34 then some (.getfield 21, 3, 0, 0, false) else none)))))
  else
   (bif Nat.ble 17 pc then
    (bif Nat.ble 24 pc then
     (bif Nat.ble 29 pc then
      (bif Nat.ble 30 pc then (bif Nat.ble 33 pc then (bif Nat.beq pc 33 then some (.aload_n 0, 1, 0, 0, false) else none) else (bif Nat.beq pc 30 then some (.if_icmp .ge 34, 3, 64, 0, false) else none)) else (bif Nat.beq pc 29 then some (.iload_n 1, 1, 0, 0, false) else none))
     else
      (bif Nat.ble 25 pc then (bif Nat.ble 27 pc then (bif Nat.beq pc 27 then some (.iload 4, 2, 0, 0, true) else none) else (bif Nat.beq pc 25 then some (.istore 4, 2, 0, 0, false) else none)) else (bif Nat.beq pc 24 then some (.iconst 0, 1, 0, 0, false) else none)))
    else
     (bif Nat.ble 19 pc then
      (bif Nat.ble 20 pc then (bif Nat.ble 21 pc then (bif Nat.beq pc 21 then some (.if_icmp .ge 49, 3, 70, 0, false) else none) else (bif Nat.beq pc 20 then some (.iload_n 2, 1, 0, 0, false) else none)) else (bif Nat.beq pc 19 then some (.iload_n 3, 1, 0, 0, true) else none))
     else
      (bif Nat.ble 18 pc then (bif Nat.beq pc 18 then some (.istore_n 3, 1, 0, 0, false) else none) else (bif Nat.beq pc 17 then some (.iconst 0, 1, 0, 0, false) else none))))
   else
    (bif Nat.ble 7 pc then
     (bif Nat.ble 12 pc then
      (bif Nat.ble 13 pc then (bif Nat.ble 14 pc then (bif Nat.beq pc 14 then some (.putfield 18, 3, 0, 0, false) else none) else (bif Nat.beq pc 13 then some (.imul, 1, 0, 0, false) else none)) else (bif Nat.beq pc 12 then some (.iload_n 2, 1, 0, 0, false) else none))
     else
      (bif Nat.ble 10 pc then (bif Nat.ble 11 pc then (bif Nat.beq pc 11 then some (.iload_n 1, 1, 0, 0, false) else none) else (bif Nat.beq pc 10 then some (.aload_n 0, 1, 0, 0, false) else none)) else (bif Nat.beq pc 7 then some (.putfield 15, 3, 0, 0, false) else none)))
    else
     (bif Nat.ble 2 pc then
      (bif Nat.ble 5 pc then (bif Nat.ble 6 pc then (bif Nat.beq pc 6 then some (.iload_n 2, 1, 0, 0, false) else none) else (bif Nat.beq pc 5 then some (.aload_n 0, 1, 0, 0, false) else none)) else (bif Nat.beq pc 2 then some (.putfield 9, 3, 0, 0, false) else none))
     else
      (bif Nat.ble 1 pc then (bif Nat.beq pc 1 then some (.iload_n 1, 1, 0, 0, false) else none) else (bif Nat.beq pc 0 then some (.aload_n 0, 1, 0, 0, false) else none))))))
def qX2_hasLine (pc : Nat) : Option mIn :=
  (bif Nat.ble 9 pc then
   (bif Nat.ble 13 pc then
    (bif Nat.ble 16 pc then (bif Nat.ble 17 pc then (bif Nat.beq pc 17 then some (.ireturn, 1, 0, 0, false) else none) else (bif Nat.beq pc 16 then some (.iconst 0, 1, 0, 0, false) else none)) else (bif Nat.beq pc 13 then some (.goto 4, 3, 17, 0, false) else none))
   else
    (bif Nat.ble 12 pc then (bif Nat.beq pc 12 then some (.iconst 1, 1, 0, 1, false) else none) else (bif Nat.beq pc 9 then some (.if_icmp .ge 7, 3, 16, 0, false) else none)))
  else
   (bif Nat.ble 4 pc then
    (bif Nat.ble 5 pc then (bif Nat.ble 6 pc then (bif Nat.beq pc 6 then some (.getfield 15, 3, 0, 0, false) else none) else (bif Nat.beq pc 5 then some (.aload_n 0, 1, 0, 0, false) else none)) else (bif Nat.beq pc 4 then some (.iload_n 1, 1, 0, 0, false) else none))
   else
    (bif Nat.ble 1 pc then (bif Nat.beq pc 1 then some (.ifCond .lt 15, 3, 16, 0, false) else none) else (bif Nat.beq pc 0 then some (.iload_n 1, 1, 0, 0, false) else none))))
def qX2_has (pc : Nat) : Option mIn :=
  (bif Nat.ble 13 pc then
   (bif Nat.ble 20 pc then
    (bif Nat.ble 24 pc then (bif Nat.ble 25 pc then (bif Nat.beq pc 25 then some (.ireturn, 1, 0, 0, false) else none) else (bif Nat.beq pc 24 then some (.iconst 0, 1, 0, 0, false) else none)) else (bif Nat.ble 21 pc then (bif Nat.beq pc 21 then some (.goto 4, 3, 25, 0, false) else none) else (bif Nat.beq pc 20 then some (.iconst 1, 1, 0, 1, false) else none)))
   else
    (bif Nat.ble 14 pc then (bif Nat.ble 17 pc then (bif Nat.beq pc 17 then some (.ifCond .eq 7, 3, 24, 0, false) else none) else (bif Nat.beq pc 14 then some (.invokevirtual 28, 3, 0, 0, false) else none)) else (bif Nat.beq pc 13 then some (.iload_n 2, 1, 0, 0, false) else none)))
  else
   (bif Nat.ble 5 pc then
    (bif Nat.ble 9 pc then (bif Nat.ble 12 pc then (bif Nat.beq pc 12 then some (.aload_n 0, 1, 0, 0, false) else none) else (bif Nat.beq pc 9 then some (.if_icmp .ge 15, 3, 24, 0, false) else none)) else (bif Nat.ble 6 pc then (bif Nat.beq pc 6 then some (.getfield 9, 3, 0, 0, false) else none) else (bif Nat.beq pc 5 then some (.aload_n 0, 1, 0, 0, false) else none)))
   else
    (bif Nat.ble 1 pc then (bif Nat.ble 4 pc then (bif Nat.beq pc 4 then some (.iload_n 1, 1, 0, 0, false) else none) else (bif Nat.beq pc 1 then some (.ifCond .lt 23, 3, 24, 0, false) else none)) else (bif Nat.beq pc 0 then some (.iload_n 1, 1, 0, 0, false) else none))))
def qX2_hasBox (pc : Nat) : Option mIn :=
  (bif Nat.ble 19 pc then
   (bif Nat.ble 27 pc then
    (bif Nat.ble 31 pc then
     (bif Nat.ble 34 pc then (bif Nat.ble 35 pc then (bif Nat.beq pc 35 then some (.ireturn, 1, 0, 0, false) else none) else (bif Nat.beq pc 34 then some (.iconst 0, 1, 0, 0, false) else none)) else (bif Nat.beq pc 31 then some (.goto 4, 3, 35, 0, false) else none))
    else
     (bif Nat.ble 30 pc then (bif Nat.beq pc 30 then some (.iconst 1, 1, 0, 1, false) else none) else (bif Nat.beq pc 27 then some (.if_icmp .gt 7, 3, 34, 0, false) else none)))
   else
    (bif Nat.ble 21 pc then
     (bif Nat.ble 24 pc then (bif Nat.ble 25 pc then (bif Nat.beq pc 25 then some (.iload 4, 2, 0, 0, false) else none) else (bif Nat.beq pc 24 then some (.iload_n 2, 1, 0, 0, false) else none)) else (bif Nat.beq pc 21 then some (.if_icmp .gt 13, 3, 34, 0, false) else none))
    else
     (bif Nat.ble 20 pc then (bif Nat.beq pc 20 then some (.iload_n 3, 1, 0, 0, false) else none) else (bif Nat.beq pc 19 then some (.iload_n 1, 1, 0, 0, false) else none))))
  else
   (bif Nat.ble 9 pc then
    (bif Nat.ble 11 pc then
     (bif Nat.ble 13 pc then (bif Nat.ble 16 pc then (bif Nat.beq pc 16 then some (.ifCond .eq 18, 3, 34, 0, false) else none) else (bif Nat.beq pc 13 then some (.invokevirtual 32, 3, 0, 0, false) else none)) else (bif Nat.beq pc 11 then some (.iload 4, 2, 0, 0, false) else none))
    else
     (bif Nat.ble 10 pc then (bif Nat.beq pc 10 then some (.iload_n 3, 1, 0, 0, false) else none) else (bif Nat.beq pc 9 then some (.aload_n 0, 1, 0, 0, false) else none)))
   else
    (bif Nat.ble 2 pc then
     (bif Nat.ble 3 pc then (bif Nat.ble 6 pc then (bif Nat.beq pc 6 then some (.ifCond .eq 28, 3, 34, 0, false) else none) else (bif Nat.beq pc 3 then some (.invokevirtual 32, 3, 0, 0, false) else none)) else (bif Nat.beq pc 2 then some (.iload_n 2, 1, 0, 0, false) else none))
    else
     (bif Nat.ble 1 pc then (bif Nat.beq pc 1 then some (.iload_n 1, 1, 0, 0, false) else none) else (bif Nat.beq pc 0 then some (.aload_n 0, 1, 0, 0, false) else none)))))
def qX2_cellAt (pc : Nat) : Option mIn :=
  (bif Nat.ble 5 pc then
   (bif Nat.ble 7 pc then (bif Nat.ble 8 pc then (bif Nat.beq pc 8 then some (.ireturn, 1, 0, 0, false) else none) else (bif Nat.beq pc 7 then some (.iadd, 1, 0, 0, false) else none)) else (bif Nat.ble 6 pc then (bif Nat.beq pc 6 then some (.iload_n 1, 1, 0, 0, false) else none) else (bif Nat.beq pc 5 then some (.imul, 1, 0, 0, false) else none)))
  else
   (bif Nat.ble 1 pc then (bif Nat.ble 2 pc then (bif Nat.beq pc 2 then some (.getfield 9, 3, 0, 0, false) else none) else (bif Nat.beq pc 1 then some (.aload_n 0, 1, 0, 0, false) else none)) else (bif Nat.beq pc 0 then some (.iload_n 2, 1, 0, 0, false) else none)))
def qX2_beside (pc : Nat) : Option mIn :=
  (bif Nat.ble 70 pc then
   (bif Nat.ble 92 pc then
    (bif Nat.ble 103 pc then
     (bif Nat.ble 108 pc then
      (bif Nat.ble 112 pc then (bif Nat.ble 113 pc then (bif Nat.beq pc 113 then some (.ireturn, 1, 0, 0, false) else none) else (bif Nat.beq pc 112 then some (.iconst (-1), 1, 0, -1, false) else none)) else (bif Nat.ble 109 pc then (bif Nat.beq pc 109 then some (.goto 4, 3, 113, 0, false) else none) else (bif Nat.beq pc 108 then some (.iadd, 1, 0, 0, false) else none)))
     else
      (bif Nat.ble 104 pc then (bif Nat.ble 105 pc then (bif Nat.beq pc 105 then some (.getfield 9, 3, 0, 0, false) else none) else (bif Nat.beq pc 104 then some (.aload_n 0, 1, 0, 0, false) else none)) else (bif Nat.beq pc 103 then some (.iload_n 1, 1, 0, 0, false) else none)))
    else
     (bif Nat.ble 95 pc then
      (bif Nat.ble 99 pc then (bif Nat.ble 100 pc then (bif Nat.beq pc 100 then some (.if_icmp .ge 12, 3, 112, 0, false) else none) else (bif Nat.beq pc 99 then some (.isub, 1, 0, 0, false) else none)) else (bif Nat.ble 98 pc then (bif Nat.beq pc 98 then some (.iconst 1, 1, 0, 1, false) else none) else (bif Nat.beq pc 95 then some (.getfield 15, 3, 0, 0, false) else none)))
     else
      (bif Nat.ble 93 pc then (bif Nat.ble 94 pc then (bif Nat.beq pc 94 then some (.aload_n 0, 1, 0, 0, false) else none) else (bif Nat.beq pc 93 then some (.iaload, 1, 0, 0, false) else none)) else (bif Nat.beq pc 92 then some (.iload_n 1, 1, 0, 0, false) else none))))
   else
    (bif Nat.ble 81 pc then
     (bif Nat.ble 86 pc then
      (bif Nat.ble 88 pc then (bif Nat.ble 89 pc then (bif Nat.beq pc 89 then some (.getfield 25, 3, 0, 0, false) else none) else (bif Nat.beq pc 88 then some (.aload_n 0, 1, 0, 0, false) else none)) else (bif Nat.ble 87 pc then (bif Nat.beq pc 87 then some (.ireturn, 1, 0, 0, false) else none) else (bif Nat.beq pc 86 then some (.iconst (-1), 1, 0, -1, false) else none)))
     else
      (bif Nat.ble 82 pc then (bif Nat.ble 83 pc then (bif Nat.beq pc 83 then some (.goto 4, 3, 87, 0, false) else none) else (bif Nat.beq pc 82 then some (.iadd, 1, 0, 0, false) else none)) else (bif Nat.beq pc 81 then some (.iconst 1, 1, 0, 1, false) else none)))
    else
     (bif Nat.ble 75 pc then
      (bif Nat.ble 77 pc then (bif Nat.ble 80 pc then (bif Nat.beq pc 80 then some (.iload_n 1, 1, 0, 0, false) else none) else (bif Nat.beq pc 77 then some (.if_icmp .ge 9, 3, 86, 0, false) else none)) else (bif Nat.ble 76 pc then (bif Nat.beq pc 76 then some (.isub, 1, 0, 0, false) else none) else (bif Nat.beq pc 75 then some (.iconst 1, 1, 0, 1, false) else none)))
     else
      (bif Nat.ble 71 pc then (bif Nat.ble 72 pc then (bif Nat.beq pc 72 then some (.getfield 9, 3, 0, 0, false) else none) else (bif Nat.beq pc 71 then some (.aload_n 0, 1, 0, 0, false) else none)) else (bif Nat.beq pc 70 then some (.iaload, 1, 0, 0, false) else none)))))
  else
   (bif Nat.ble 48 pc then
    (bif Nat.ble 59 pc then
     (bif Nat.ble 64 pc then
      (bif Nat.ble 66 pc then (bif Nat.ble 69 pc then (bif Nat.beq pc 69 then some (.iload_n 1, 1, 0, 0, false) else none) else (bif Nat.beq pc 66 then some (.getfield 21, 3, 0, 0, false) else none)) else (bif Nat.ble 65 pc then (bif Nat.beq pc 65 then some (.aload_n 0, 1, 0, 0, false) else none) else (bif Nat.beq pc 64 then some (.ireturn, 1, 0, 0, false) else none)))
     else
      (bif Nat.ble 60 pc then (bif Nat.ble 63 pc then (bif Nat.beq pc 63 then some (.iconst (-1), 1, 0, -1, false) else none) else (bif Nat.beq pc 60 then some (.goto 4, 3, 64, 0, false) else none)) else (bif Nat.beq pc 59 then some (.isub, 1, 0, 0, false) else none)))
    else
     (bif Nat.ble 53 pc then
      (bif Nat.ble 57 pc then (bif Nat.ble 58 pc then (bif Nat.beq pc 58 then some (.iconst 1, 1, 0, 1, false) else none) else (bif Nat.beq pc 57 then some (.iload_n 1, 1, 0, 0, false) else none)) else (bif Nat.ble 54 pc then (bif Nat.beq pc 54 then some (.ifCond .le 9, 3, 63, 0, false) else none) else (bif Nat.beq pc 53 then some (.iaload, 1, 0, 0, false) else none)))
     else
      (bif Nat.ble 49 pc then (bif Nat.ble 52 pc then (bif Nat.beq pc 52 then some (.iload_n 1, 1, 0, 0, false) else none) else (bif Nat.beq pc 49 then some (.getfield 21, 3, 0, 0, false) else none)) else (bif Nat.beq pc 48 then some (.aload_n 0, 1, 0, 0, false) else none))))
   else
    (bif Nat.ble 37 pc then
     (bif Nat.ble 42 pc then
      (bif Nat.ble 46 pc then (bif Nat.ble 47 pc then (bif Nat.beq pc 47 then some (.ireturn, 1, 0, 0, false) else none) else (bif Nat.beq pc 46 then some (.iconst (-1), 1, 0, -1, false) else none)) else (bif Nat.ble 43 pc then (bif Nat.beq pc 43 then some (.goto 4, 3, 47, 0, false) else none) else (bif Nat.beq pc 42 then some (.isub, 1, 0, 0, false) else none)))
     else
      (bif Nat.ble 38 pc then (bif Nat.ble 39 pc then (bif Nat.beq pc 39 then some (.getfield 9, 3, 0, 0, false) else none) else (bif Nat.beq pc 38 then some (.aload_n 0, 1, 0, 0, false) else none)) else (bif Nat.beq pc 37 then some (.iload_n 1, 1, 0, 0, false) else none)))
    else
     (bif Nat.ble 29 pc then
      (bif Nat.ble 33 pc then (bif Nat.ble 34 pc then (bif Nat.beq pc 34 then some (.ifCond .le 12, 3, 46, 0, false) else none) else (bif Nat.beq pc 33 then some (.iaload, 1, 0, 0, false) else none)) else (bif Nat.ble 32 pc then (bif Nat.beq pc 32 then some (.iload_n 1, 1, 0, 0, false) else none) else (bif Nat.beq pc 29 then some (.getfield 25, 3, 0, 0, false) else none)))
     else
      (bif Nat.ble 1 pc then (bif Nat.ble 28 pc then (bif Nat.beq pc 28 then some (.aload_n 0, 1, 0, 0, false) else none) else (bif Nat.beq pc 1 then some (.tableswitch 87 0 2 #[27, 47, 64], 27, 0, 0, false) else none)) else (bif Nat.beq pc 0 then some (.iload_n 2, 1, 0, 0, false) else none))))))
def qX2_apart (pc : Nat) : Option mIn :=
  (bif Nat.ble 17 pc then
   (bif Nat.ble 26 pc then
    (bif Nat.ble 29 pc then
     (bif Nat.ble 32 pc then (bif Nat.ble 35 pc then (bif Nat.beq pc 35 then some (.ireturn, 1, 0, 0, false) else none) else (bif Nat.beq pc 32 then some (.invokestatic 42, 3, 0, 0, false) else none)) else (bif Nat.beq pc 29 then some (.invokestatic 36, 3, 0, 0, false) else none))
    else
     (bif Nat.ble 27 pc then (bif Nat.ble 28 pc then (bif Nat.beq pc 28 then some (.isub, 1, 0, 0, false) else none) else (bif Nat.beq pc 27 then some (.iaload, 1, 0, 0, false) else none)) else (bif Nat.beq pc 26 then some (.iload_n 2, 1, 0, 0, false) else none)))
   else
    (bif Nat.ble 21 pc then
     (bif Nat.ble 22 pc then (bif Nat.ble 23 pc then (bif Nat.beq pc 23 then some (.getfield 25, 3, 0, 0, false) else none) else (bif Nat.beq pc 22 then some (.aload_n 0, 1, 0, 0, false) else none)) else (bif Nat.beq pc 21 then some (.iaload, 1, 0, 0, false) else none))
    else
     (bif Nat.ble 20 pc then (bif Nat.beq pc 20 then some (.iload_n 1, 1, 0, 0, false) else none) else (bif Nat.beq pc 17 then some (.getfield 25, 3, 0, 0, false) else none))))
  else
   (bif Nat.ble 7 pc then
    (bif Nat.ble 12 pc then
     (bif Nat.ble 13 pc then (bif Nat.ble 16 pc then (bif Nat.beq pc 16 then some (.aload_n 0, 1, 0, 0, false) else none) else (bif Nat.beq pc 13 then some (.invokestatic 36, 3, 0, 0, false) else none)) else (bif Nat.beq pc 12 then some (.isub, 1, 0, 0, false) else none))
    else
     (bif Nat.ble 10 pc then (bif Nat.ble 11 pc then (bif Nat.beq pc 11 then some (.iaload, 1, 0, 0, false) else none) else (bif Nat.beq pc 10 then some (.iload_n 2, 1, 0, 0, false) else none)) else (bif Nat.beq pc 7 then some (.getfield 21, 3, 0, 0, false) else none)))
   else
    (bif Nat.ble 4 pc then
     (bif Nat.ble 5 pc then (bif Nat.ble 6 pc then (bif Nat.beq pc 6 then some (.aload_n 0, 1, 0, 0, false) else none) else (bif Nat.beq pc 5 then some (.iaload, 1, 0, 0, false) else none)) else (bif Nat.beq pc 4 then some (.iload_n 1, 1, 0, 0, false) else none))
    else
     (bif Nat.ble 1 pc then (bif Nat.beq pc 1 then some (.getfield 21, 3, 0, 0, false) else none) else (bif Nat.beq pc 0 then some (.aload_n 0, 1, 0, 0, false) else none)))))
def qX2_walk (pc : Nat) : Option mIn :=
  (bif Nat.ble 17 pc then
   (bif Nat.ble 26 pc then
    (bif Nat.ble 29 pc then
     (bif Nat.ble 32 pc then (bif Nat.ble 33 pc then (bif Nat.beq pc 33 then some (.ireturn, 1, 0, 0, false) else none) else (bif Nat.beq pc 32 then some (.iadd, 1, 0, 0, false) else none)) else (bif Nat.beq pc 29 then some (.invokestatic 36, 3, 0, 0, false) else none))
    else
     (bif Nat.ble 27 pc then (bif Nat.ble 28 pc then (bif Nat.beq pc 28 then some (.isub, 1, 0, 0, false) else none) else (bif Nat.beq pc 27 then some (.iaload, 1, 0, 0, false) else none)) else (bif Nat.beq pc 26 then some (.iload_n 2, 1, 0, 0, false) else none)))
   else
    (bif Nat.ble 21 pc then
     (bif Nat.ble 22 pc then (bif Nat.ble 23 pc then (bif Nat.beq pc 23 then some (.getfield 25, 3, 0, 0, false) else none) else (bif Nat.beq pc 22 then some (.aload_n 0, 1, 0, 0, false) else none)) else (bif Nat.beq pc 21 then some (.iaload, 1, 0, 0, false) else none))
    else
     (bif Nat.ble 20 pc then (bif Nat.beq pc 20 then some (.iload_n 1, 1, 0, 0, false) else none) else (bif Nat.beq pc 17 then some (.getfield 25, 3, 0, 0, false) else none))))
  else
   (bif Nat.ble 7 pc then
    (bif Nat.ble 12 pc then
     (bif Nat.ble 13 pc then (bif Nat.ble 16 pc then (bif Nat.beq pc 16 then some (.aload_n 0, 1, 0, 0, false) else none) else (bif Nat.beq pc 13 then some (.invokestatic 36, 3, 0, 0, false) else none)) else (bif Nat.beq pc 12 then some (.isub, 1, 0, 0, false) else none))
    else
     (bif Nat.ble 10 pc then (bif Nat.ble 11 pc then (bif Nat.beq pc 11 then some (.iaload, 1, 0, 0, false) else none) else (bif Nat.beq pc 10 then some (.iload_n 2, 1, 0, 0, false) else none)) else (bif Nat.beq pc 7 then some (.getfield 21, 3, 0, 0, false) else none)))
   else
    (bif Nat.ble 4 pc then
     (bif Nat.ble 5 pc then (bif Nat.ble 6 pc then (bif Nat.beq pc 6 then some (.aload_n 0, 1, 0, 0, false) else none) else (bif Nat.beq pc 5 then some (.iaload, 1, 0, 0, false) else none)) else (bif Nat.beq pc 4 then some (.iload_n 1, 1, 0, 0, false) else none))
    else
     (bif Nat.ble 1 pc then (bif Nat.beq pc 1 then some (.getfield 21, 3, 0, 0, false) else none) else (bif Nat.beq pc 0 then some (.aload_n 0, 1, 0, 0, false) else none)))))
def qX3_isFull (pc : Nat) : Option mIn :=
  (bif Nat.ble 9 pc then
   (bif Nat.ble 13 pc then (bif Nat.ble 14 pc then (bif Nat.beq pc 14 then some (.ireturn, 1, 0, 0, false) else none) else (bif Nat.beq pc 13 then some (.iconst 0, 1, 0, 0, false) else none)) else (bif Nat.ble 10 pc then (bif Nat.beq pc 10 then some (.goto 4, 3, 14, 0, false) else none) else (bif Nat.beq pc 9 then some (.iconst 1, 1, 0, 1, false) else none)))
  else
   (bif Nat.ble 4 pc then (bif Nat.ble 6 pc then (bif Nat.beq pc 6 then some (.if_icmp .lt 7, 3, 13, 0, false) else none) else (bif Nat.beq pc 4 then some (.bipush 20, 2, 0, 20, false) else none)) else (bif Nat.ble 1 pc then (bif Nat.beq pc 1 then some (.getfield 24, 3, 0, 0, false) else none) else (bif Nat.beq pc 0 then some (.aload_n 0, 1, 0, 0, false) else none))))
def qX3_add (pc : Nat) : Option mIn :=
  (bif Nat.ble 28 pc then
   (bif Nat.ble 40 pc then
    (bif Nat.ble 48 pc then
     (bif Nat.ble 51 pc then
      (bif Nat.ble 52 pc then (bif Nat.ble 55 pc then (bif Nat.beq pc 55 then some (.ireturn, 1, 0, 0, false) else none) else (bif Nat.beq pc 52 then some (.getfield 24, 3, 0, 0, false) else none)) else (bif Nat.beq pc 51 then some (.aload_n 0, 1, 0, 0, false) else none))
     else
      (bif Nat.ble 50 pc then (bif Nat.beq pc 50 then some (.iastore, 1, 0, 0, false) else none) else (bif Nat.beq pc 48 then some (.iload 4, 2, 0, 0, false) else none)))
    else
     (bif Nat.ble 44 pc then (bif Nat.ble 45 pc then (bif Nat.beq pc 45 then some (.getfield 24, 3, 0, 0, false) else none) else (bif Nat.beq pc 44 then some (.aload_n 0, 1, 0, 0, false) else none)) else (bif Nat.ble 41 pc then (bif Nat.beq pc 41 then some (.getfield 21, 3, 0, 0, false) else none) else (bif Nat.beq pc 40 then some (.aload_n 0, 1, 0, 0, false) else none))))
   else
    (bif Nat.ble 34 pc then
     (bif Nat.ble 38 pc then (bif Nat.ble 39 pc then (bif Nat.beq pc 39 then some (.iastore, 1, 0, 0, false) else none) else (bif Nat.beq pc 38 then some (.iload_n 3, 1, 0, 0, false) else none)) else (bif Nat.ble 35 pc then (bif Nat.beq pc 35 then some (.getfield 24, 3, 0, 0, false) else none) else (bif Nat.beq pc 34 then some (.aload_n 0, 1, 0, 0, false) else none)))
    else
     (bif Nat.ble 30 pc then (bif Nat.ble 31 pc then (bif Nat.beq pc 31 then some (.getfield 18, 3, 0, 0, false) else none) else (bif Nat.beq pc 30 then some (.aload_n 0, 1, 0, 0, false) else none)) else (bif Nat.ble 29 pc then (bif Nat.beq pc 29 then some (.iastore, 1, 0, 0, false) else none) else (bif Nat.beq pc 28 then some (.iload_n 2, 1, 0, 0, false) else none)))))
  else
   (bif Nat.ble 14 pc then
    (bif Nat.ble 20 pc then
     (bif Nat.ble 24 pc then (bif Nat.ble 25 pc then (bif Nat.beq pc 25 then some (.getfield 24, 3, 0, 0, false) else none) else (bif Nat.beq pc 24 then some (.aload_n 0, 1, 0, 0, false) else none)) else (bif Nat.ble 21 pc then (bif Nat.beq pc 21 then some (.getfield 15, 3, 0, 0, false) else none) else (bif Nat.beq pc 20 then some (.aload_n 0, 1, 0, 0, false) else none)))
    else
     (bif Nat.ble 18 pc then (bif Nat.ble 19 pc then (bif Nat.beq pc 19 then some (.iastore, 1, 0, 0, false) else none) else (bif Nat.beq pc 18 then some (.iload_n 1, 1, 0, 0, false) else none)) else (bif Nat.ble 15 pc then (bif Nat.beq pc 15 then some (.getfield 24, 3, 0, 0, false) else none) else (bif Nat.beq pc 14 then some (.aload_n 0, 1, 0, 0, false) else none))))
   else
    (bif Nat.ble 6 pc then
     (bif Nat.ble 10 pc then (bif Nat.ble 11 pc then (bif Nat.beq pc 11 then some (.getfield 9, 3, 0, 0, false) else none) else (bif Nat.beq pc 10 then some (.aload_n 0, 1, 0, 0, false) else none)) else (bif Nat.ble 7 pc then (bif Nat.beq pc 7 then some (.putfield 24, 3, 0, 0, false) else none) else (bif Nat.beq pc 6 then some (.iadd, 1, 0, 0, false) else none)))
    else
     (bif Nat.ble 2 pc then (bif Nat.ble 5 pc then (bif Nat.beq pc 5 then some (.iconst 1, 1, 0, 1, false) else none) else (bif Nat.beq pc 2 then some (.getfield 24, 3, 0, 0, false) else none)) else (bif Nat.ble 1 pc then (bif Nat.beq pc 1 then some (.dup, 1, 0, 0, false) else none) else (bif Nat.beq pc 0 then some (.aload_n 0, 1, 0, 0, false) else none))))))
def qX3_placeFor (pc : Nat) : Option mIn :=
  (bif Nat.ble 22 pc then
   (bif Nat.ble 33 pc then
    (bif Nat.ble 39 pc then
     (bif Nat.ble 45 pc then (bif Nat.ble 46 pc then (bif Nat.beq pc 46 then some (.ireturn, 1, 0, 0, false) else none) else (bif Nat.beq pc 45 then some (.iload_n 2, 1, 0, 0, false) else none)) else (bif Nat.ble 42 pc then (bif Nat.beq pc 42 then some (.goto (-38), 3, 4, 0, false) else none) else (bif Nat.beq pc 39 then some (.iinc 3 1, 3, 0, 1, false) else none)))
    else
     (bif Nat.ble 37 pc then (bif Nat.ble 38 pc then (bif Nat.beq pc 38 then some (.istore_n 2, 1, 0, 0, false) else none) else (bif Nat.beq pc 37 then some (.iload_n 3, 1, 0, 0, false) else none)) else (bif Nat.ble 34 pc then (bif Nat.beq pc 34 then some (.if_icmp .lt 5, 3, 39, 0, false) else none) else (bif Nat.beq pc 33 then some (.iaload, 1, 0, 0, false) else none))))
   else
    (bif Nat.ble 27 pc then
     (bif Nat.ble 29 pc then (bif Nat.ble 32 pc then (bif Nat.beq pc 32 then some (.iload_n 2, 1, 0, 0, false) else none) else (bif Nat.beq pc 29 then some (.getfield 9, 3, 0, 0, false) else none)) else (bif Nat.ble 28 pc then (bif Nat.beq pc 28 then some (.aload_n 0, 1, 0, 0, false) else none) else (bif Nat.beq pc 27 then some (.iaload, 1, 0, 0, false) else none)))
    else
     (bif Nat.ble 23 pc then (bif Nat.ble 26 pc then (bif Nat.beq pc 26 then some (.iload_n 3, 1, 0, 0, false) else none) else (bif Nat.beq pc 23 then some (.getfield 9, 3, 0, 0, false) else none)) else (bif Nat.beq pc 22 then some (.aload_n 0, 1, 0, 0, false) else none))))
  else
   (bif Nat.ble 9 pc then
    (bif Nat.ble 16 pc then
     (bif Nat.ble 18 pc then (bif Nat.ble 19 pc then (bif Nat.beq pc 19 then some (.if_icmp .gt 20, 3, 39, 0, false) else none) else (bif Nat.beq pc 18 then some (.iload_n 1, 1, 0, 0, false) else none)) else (bif Nat.ble 17 pc then (bif Nat.beq pc 17 then some (.iaload, 1, 0, 0, false) else none) else (bif Nat.beq pc 16 then some (.iload_n 3, 1, 0, 0, false) else none)))
    else
     (bif Nat.ble 12 pc then (bif Nat.ble 13 pc then (bif Nat.beq pc 13 then some (.getfield 9, 3, 0, 0, false) else none) else (bif Nat.beq pc 12 then some (.aload_n 0, 1, 0, 0, false) else none)) else (bif Nat.beq pc 9 then some (.if_icmp .gt 36, 3, 45, 0, false) else none)))
   else
    (bif Nat.ble 3 pc then
     (bif Nat.ble 5 pc then (bif Nat.ble 6 pc then (bif Nat.beq pc 6 then some (.getfield 24, 3, 0, 0, false) else none) else (bif Nat.beq pc 5 then some (.aload_n 0, 1, 0, 0, false) else none)) else (bif Nat.ble 4 pc then (bif Nat.beq pc 4 then some (.iload_n 3, 1, 0, 0, true) else none) else (bif Nat.beq pc 3 then some (.istore_n 3, 1, 0, 0, false) else none)))
    else
     (bif Nat.ble 1 pc then (bif Nat.ble 2 pc then (bif Nat.beq pc 2 then some (.iconst 1, 1, 0, 1, false) else none) else (bif Nat.beq pc 1 then some (.istore_n 2, 1, 0, 0, false) else none)) else (bif Nat.beq pc 0 then some (.iconst 0, 1, 0, 0, false) else none)))))
def qX4_isDry (pc : Nat) : Option mIn :=
  (bif Nat.ble 7 pc then
   (bif Nat.ble 11 pc then
    (bif Nat.ble 14 pc then (bif Nat.ble 15 pc then (bif Nat.beq pc 15 then some (.ireturn, 1, 0, 0, false) else none) else (bif Nat.beq pc 14 then some (.iconst 0, 1, 0, 0, false) else none)) else (bif Nat.beq pc 11 then some (.goto 4, 3, 15, 0, false) else none))
   else
    (bif Nat.ble 10 pc then (bif Nat.beq pc 10 then some (.iconst 1, 1, 0, 1, false) else none) else (bif Nat.beq pc 7 then some (.if_icmp .lt 7, 3, 14, 0, false) else none)))
  else
   (bif Nat.ble 4 pc then
    (bif Nat.ble 5 pc then (bif Nat.ble 6 pc then (bif Nat.beq pc 6 then some (.iconst 2, 1, 0, 2, false) else none) else (bif Nat.beq pc 5 then some (.iaload, 1, 0, 0, false) else none)) else (bif Nat.beq pc 4 then some (.iload_n 1, 1, 0, 0, false) else none))
   else
    (bif Nat.ble 1 pc then (bif Nat.beq pc 1 then some (.getfield 15, 3, 0, 0, false) else none) else (bif Nat.beq pc 0 then some (.aload_n 0, 1, 0, 0, false) else none))))
def qX4_isNew (pc : Nat) : Option mIn :=
  (bif Nat.ble 14 pc then
   (bif Nat.ble 20 pc then
    (bif Nat.ble 24 pc then (bif Nat.ble 25 pc then (bif Nat.beq pc 25 then some (.ireturn, 1, 0, 0, false) else none) else (bif Nat.beq pc 24 then some (.iconst 0, 1, 0, 0, false) else none)) else (bif Nat.ble 21 pc then (bif Nat.beq pc 21 then some (.goto 4, 3, 25, 0, false) else none) else (bif Nat.beq pc 20 then some (.iconst 1, 1, 0, 1, false) else none)))
   else
    (bif Nat.ble 16 pc then (bif Nat.ble 17 pc then (bif Nat.beq pc 17 then some (.if_icmp .ne 7, 3, 24, 0, false) else none) else (bif Nat.beq pc 16 then some (.iconst 3, 1, 0, 3, false) else none)) else (bif Nat.ble 15 pc then (bif Nat.beq pc 15 then some (.iaload, 1, 0, 0, false) else none) else (bif Nat.beq pc 14 then some (.iload_n 1, 1, 0, 0, false) else none))))
  else
   (bif Nat.ble 6 pc then
    (bif Nat.ble 10 pc then (bif Nat.ble 11 pc then (bif Nat.beq pc 11 then some (.getfield 15, 3, 0, 0, false) else none) else (bif Nat.beq pc 10 then some (.aload_n 0, 1, 0, 0, false) else none)) else (bif Nat.ble 7 pc then (bif Nat.beq pc 7 then some (.if_icmp .eq 13, 3, 20, 0, false) else none) else (bif Nat.beq pc 6 then some (.iconst 2, 1, 0, 2, false) else none)))
   else
    (bif Nat.ble 4 pc then (bif Nat.ble 5 pc then (bif Nat.beq pc 5 then some (.iaload, 1, 0, 0, false) else none) else (bif Nat.beq pc 4 then some (.iload_n 1, 1, 0, 0, false) else none)) else (bif Nat.ble 1 pc then (bif Nat.beq pc 1 then some (.getfield 15, 3, 0, 0, false) else none) else (bif Nat.beq pc 0 then some (.aload_n 0, 1, 0, 0, false) else none)))))
def qX4_wasWater (pc : Nat) : Option mIn :=
  (bif Nat.ble 10 pc then
   (bif Nat.ble 17 pc then
    (bif Nat.ble 21 pc then (bif Nat.ble 22 pc then (bif Nat.beq pc 22 then some (.ireturn, 1, 0, 0, false) else none) else (bif Nat.beq pc 21 then some (.iconst 0, 1, 0, 0, false) else none)) else (bif Nat.ble 18 pc then (bif Nat.beq pc 18 then some (.goto 4, 3, 22, 0, false) else none) else (bif Nat.beq pc 17 then some (.iconst 1, 1, 0, 1, false) else none)))
   else
    (bif Nat.ble 11 pc then (bif Nat.ble 14 pc then (bif Nat.beq pc 14 then some (.ifCond .eq 7, 3, 21, 0, false) else none) else (bif Nat.beq pc 11 then some (.invokevirtual 22, 3, 0, 0, false) else none)) else (bif Nat.beq pc 10 then some (.iload_n 1, 1, 0, 0, false) else none)))
  else
   (bif Nat.ble 5 pc then
    (bif Nat.ble 6 pc then (bif Nat.ble 9 pc then (bif Nat.beq pc 9 then some (.aload_n 0, 1, 0, 0, false) else none) else (bif Nat.beq pc 6 then some (.ifCond .eq 11, 3, 17, 0, false) else none)) else (bif Nat.beq pc 5 then some (.iaload, 1, 0, 0, false) else none))
   else
    (bif Nat.ble 1 pc then (bif Nat.ble 4 pc then (bif Nat.beq pc 4 then some (.iload_n 1, 1, 0, 0, false) else none) else (bif Nat.beq pc 1 then some (.getfield 15, 3, 0, 0, false) else none)) else (bif Nat.beq pc 0 then some (.aload_n 0, 1, 0, 0, false) else none))))
def qX5_forgetFirst (pc : Nat) : Option mIn :=
  (bif Nat.ble 4 pc then
   (bif Nat.ble 5 pc then (bif Nat.ble 8 pc then (bif Nat.beq pc 8 then some (.return_, 1, 0, 0, false) else none) else (bif Nat.beq pc 5 then some (.invokestatic 37, 3, 0, 0, false) else none)) else (bif Nat.beq pc 4 then some (.iconst (-1), 1, 0, -1, false) else none))
  else
   (bif Nat.ble 1 pc then (bif Nat.beq pc 1 then some (.getfield 9, 3, 0, 0, false) else none) else (bif Nat.beq pc 0 then some (.aload_n 0, 1, 0, 0, false) else none)))
def qX5_setFirst (pc : Nat) : Option mIn :=
  (bif Nat.ble 23 pc then
   (bif Nat.ble 36 pc then
    (bif Nat.ble 43 pc then
     (bif Nat.ble 46 pc then (bif Nat.ble 49 pc then (bif Nat.beq pc 49 then some (.return_, 1, 0, 0, false) else none) else (bif Nat.beq pc 46 then some (.goto (-43), 3, 3, 0, false) else none)) else (bif Nat.beq pc 43 then some (.iinc 6 1, 3, 0, 1, false) else none))
    else
     (bif Nat.ble 37 pc then (bif Nat.ble 40 pc then (bif Nat.beq pc 40 then some (.goto (-27), 3, 13, 0, false) else none) else (bif Nat.beq pc 37 then some (.iinc 7 1, 3, 0, 1, false) else none)) else (bif Nat.beq pc 36 then some (.iastore, 1, 0, 0, false) else none)))
   else
    (bif Nat.ble 29 pc then
     (bif Nat.ble 31 pc then (bif Nat.ble 34 pc then (bif Nat.beq pc 34 then some (.iload 5, 2, 0, 0, false) else none) else (bif Nat.beq pc 31 then some (.invokevirtual 43, 3, 0, 0, false) else none)) else (bif Nat.beq pc 29 then some (.iload 6, 2, 0, 0, false) else none))
    else
     (bif Nat.ble 24 pc then (bif Nat.ble 27 pc then (bif Nat.beq pc 27 then some (.iload 7, 2, 0, 0, false) else none) else (bif Nat.beq pc 24 then some (.getfield 21, 3, 0, 0, false) else none)) else (bif Nat.beq pc 23 then some (.aload_n 0, 1, 0, 0, false) else none))))
  else
   (bif Nat.ble 11 pc then
    (bif Nat.ble 16 pc then
     (bif Nat.ble 19 pc then (bif Nat.ble 20 pc then (bif Nat.beq pc 20 then some (.getfield 9, 3, 0, 0, false) else none) else (bif Nat.beq pc 19 then some (.aload_n 0, 1, 0, 0, false) else none)) else (bif Nat.beq pc 16 then some (.if_icmp .gt 27, 3, 43, 0, false) else none))
    else
     (bif Nat.ble 13 pc then (bif Nat.ble 15 pc then (bif Nat.beq pc 15 then some (.iload_n 3, 1, 0, 0, false) else none) else (bif Nat.beq pc 13 then some (.iload 7, 2, 0, 0, true) else none)) else (bif Nat.beq pc 11 then some (.istore 7, 2, 0, 0, false) else none)))
   else
    (bif Nat.ble 5 pc then
     (bif Nat.ble 7 pc then (bif Nat.ble 10 pc then (bif Nat.beq pc 10 then some (.iload_n 1, 1, 0, 0, false) else none) else (bif Nat.beq pc 7 then some (.if_icmp .gt 42, 3, 49, 0, false) else none)) else (bif Nat.beq pc 5 then some (.iload 4, 2, 0, 0, false) else none))
    else
     (bif Nat.ble 1 pc then (bif Nat.ble 3 pc then (bif Nat.beq pc 3 then some (.iload 6, 2, 0, 0, true) else none) else (bif Nat.beq pc 1 then some (.istore 6, 2, 0, 0, false) else none)) else (bif Nat.beq pc 0 then some (.iload_n 2, 1, 0, 0, false) else none)))))
def qX5_runFromFirst (pc : Nat) : Option mIn :=
  (bif Nat.ble 21 pc then
   (bif Nat.ble 28 pc then
    (bif Nat.ble 33 pc then
     (bif Nat.ble 36 pc then (bif Nat.ble 37 pc then (bif Nat.beq pc 37 then some (.return_, 1, 0, 0, false) else none) else (bif Nat.beq pc 36 then some (.pop, 1, 0, 0, false) else none)) else (bif Nat.beq pc 33 then some (.invokevirtual 65, 3, 0, 0, false) else none))
    else
     (bif Nat.ble 31 pc then (bif Nat.ble 32 pc then (bif Nat.beq pc 32 then some (.iload_n 1, 1, 0, 0, false) else none) else (bif Nat.beq pc 31 then some (.aload_n 0, 1, 0, 0, false) else none)) else (bif Nat.beq pc 28 then some (.putfield 62, 3, 0, 0, false) else none)))
   else
    (bif Nat.ble 23 pc then
     (bif Nat.ble 26 pc then (bif Nat.ble 27 pc then (bif Nat.beq pc 27 then some (.iload_n 2, 1, 0, 0, false) else none) else (bif Nat.beq pc 26 then some (.aload_n 0, 1, 0, 0, false) else none)) else (bif Nat.beq pc 23 then some (.putfield 59, 3, 0, 0, false) else none))
    else
     (bif Nat.ble 22 pc then (bif Nat.beq pc 22 then some (.iconst 0, 1, 0, 0, false) else none) else (bif Nat.beq pc 21 then some (.aload_n 0, 1, 0, 0, false) else none))))
  else
   (bif Nat.ble 9 pc then
    (bif Nat.ble 16 pc then
     (bif Nat.ble 17 pc then (bif Nat.ble 18 pc then (bif Nat.beq pc 18 then some (.putfield 55, 3, 0, 0, false) else none) else (bif Nat.beq pc 17 then some (.iconst 0, 1, 0, 0, false) else none)) else (bif Nat.beq pc 16 then some (.aload_n 0, 1, 0, 0, false) else none))
    else
     (bif Nat.ble 10 pc then (bif Nat.ble 13 pc then (bif Nat.beq pc 13 then some (.invokestatic 49, 3, 0, 0, false) else none) else (bif Nat.beq pc 10 then some (.sipush 144, 3, 0, 144, false) else none)) else (bif Nat.beq pc 9 then some (.iconst 0, 1, 0, 0, false) else none)))
   else
    (bif Nat.ble 4 pc then
     (bif Nat.ble 5 pc then (bif Nat.ble 6 pc then (bif Nat.beq pc 6 then some (.getfield 15, 3, 0, 0, false) else none) else (bif Nat.beq pc 5 then some (.aload_n 0, 1, 0, 0, false) else none)) else (bif Nat.beq pc 4 then some (.iconst 0, 1, 0, 0, false) else none))
    else
     (bif Nat.ble 1 pc then (bif Nat.beq pc 1 then some (.getfield 9, 3, 0, 0, false) else none) else (bif Nat.beq pc 0 then some (.aload_n 0, 1, 0, 0, false) else none)))))
def qX5_runTo (pc : Nat) : Option mIn :=
  (bif Nat.ble 30 pc then
   (bif Nat.ble 44 pc then
    (bif Nat.ble 52 pc then
     (bif Nat.ble 58 pc then
      (bif Nat.ble 61 pc then (bif Nat.ble 62 pc then (bif Nat.beq pc 62 then some (.ireturn, 1, 0, 0, false) else none) else (bif Nat.beq pc 61 then some (.iload_n 2, 1, 0, 0, false) else none)) else (bif Nat.beq pc 58 then some (.goto (-54), 3, 4, 0, false) else none))
     else
      (bif Nat.ble 55 pc then (bif Nat.beq pc 55 then some (.iinc 3 1, 3, 0, 1, false) else none) else (bif Nat.beq pc 52 then some (.invokevirtual 84, 3, 0, 0, false) else none)))
    else
     (bif Nat.ble 48 pc then (bif Nat.ble 51 pc then (bif Nat.beq pc 51 then some (.aload_n 0, 1, 0, 0, false) else none) else (bif Nat.beq pc 48 then some (.goto 7, 3, 55, 0, false) else none)) else (bif Nat.ble 45 pc then (bif Nat.beq pc 45 then some (.invokevirtual 81, 3, 0, 0, false) else none) else (bif Nat.beq pc 44 then some (.aload_n 0, 1, 0, 0, false) else none))))
   else
    (bif Nat.ble 36 pc then
     (bif Nat.ble 39 pc then (bif Nat.ble 41 pc then (bif Nat.beq pc 41 then some (.if_icmp .gt 10, 3, 51, 0, false) else none) else (bif Nat.beq pc 39 then some (.iload 5, 2, 0, 0, false) else none)) else (bif Nat.ble 37 pc then (bif Nat.beq pc 37 then some (.iload 4, 2, 0, 0, false) else none) else (bif Nat.beq pc 36 then some (.istore_n 2, 1, 0, 0, false) else none)))
    else
     (bif Nat.ble 34 pc then (bif Nat.ble 35 pc then (bif Nat.beq pc 35 then some (.iconst 1, 1, 0, 1, false) else none) else (bif Nat.beq pc 34 then some (.ireturn, 1, 0, 0, false) else none)) else (bif Nat.ble 33 pc then (bif Nat.beq pc 33 then some (.iload_n 2, 1, 0, 0, false) else none) else (bif Nat.beq pc 30 then some (.if_icmp .le 5, 3, 35, 0, false) else none)))))
  else
   (bif Nat.ble 11 pc then
    (bif Nat.ble 20 pc then
     (bif Nat.ble 24 pc then
      (bif Nat.ble 26 pc then (bif Nat.ble 29 pc then (bif Nat.beq pc 29 then some (.iload_n 1, 1, 0, 0, false) else none) else (bif Nat.beq pc 26 then some (.invokestatic 76, 3, 0, 0, false) else none)) else (bif Nat.beq pc 24 then some (.iload 5, 2, 0, 0, false) else none))
     else
      (bif Nat.ble 22 pc then (bif Nat.beq pc 22 then some (.iload 4, 2, 0, 0, false) else none) else (bif Nat.beq pc 20 then some (.istore 5, 2, 0, 0, false) else none)))
    else
     (bif Nat.ble 16 pc then (bif Nat.ble 17 pc then (bif Nat.beq pc 17 then some (.invokevirtual 73, 3, 0, 0, false) else none) else (bif Nat.beq pc 16 then some (.aload_n 0, 1, 0, 0, false) else none)) else (bif Nat.ble 14 pc then (bif Nat.beq pc 14 then some (.istore 4, 2, 0, 0, false) else none) else (bif Nat.beq pc 11 then some (.invokevirtual 69, 3, 0, 0, false) else none))))
   else
    (bif Nat.ble 4 pc then
     (bif Nat.ble 7 pc then (bif Nat.ble 10 pc then (bif Nat.beq pc 10 then some (.aload_n 0, 1, 0, 0, false) else none) else (bif Nat.beq pc 7 then some (.if_icmp .ge 54, 3, 61, 0, false) else none)) else (bif Nat.ble 5 pc then (bif Nat.beq pc 5 then some (.bipush 40, 2, 0, 40, false) else none) else (bif Nat.beq pc 4 then some (.iload_n 3, 1, 0, 0, true) else none)))
    else
     (bif Nat.ble 2 pc then (bif Nat.ble 3 pc then (bif Nat.beq pc 3 then some (.istore_n 3, 1, 0, 0, false) else none) else (bif Nat.beq pc 2 then some (.iconst 0, 1, 0, 0, false) else none)) else (bif Nat.ble 1 pc then (bif Nat.beq pc 1 then some (.istore_n 2, 1, 0, 0, false) else none) else (bif Nat.beq pc 0 then some (.iconst 0, 1, 0, 0, false) else none))))))
def qX5_nextStepYear (pc : Nat) : Option mIn :=
  (bif Nat.ble 20 pc then
   (bif Nat.ble 29 pc then
    (bif Nat.ble 33 pc then
     (bif Nat.ble 36 pc then (bif Nat.ble 39 pc then (bif Nat.beq pc 39 then some (.ireturn, 1, 0, 0, false) else none) else (bif Nat.beq pc 36 then some (.sipush 201, 3, 0, 201, false) else none)) else (bif Nat.beq pc 33 then some (.goto 6, 3, 39, 0, false) else none))
    else
     (bif Nat.ble 30 pc then (bif Nat.beq pc 30 then some (.getfield 96, 3, 0, 0, false) else none) else (bif Nat.beq pc 29 then some (.aaload, 1, 0, 0, false) else none)))
   else
    (bif Nat.ble 24 pc then
     (bif Nat.ble 27 pc then (bif Nat.ble 28 pc then (bif Nat.beq pc 28 then some (.iadd, 1, 0, 0, false) else none) else (bif Nat.beq pc 27 then some (.iconst 1, 1, 0, 1, false) else none)) else (bif Nat.beq pc 24 then some (.getfield 55, 3, 0, 0, false) else none))
    else
     (bif Nat.ble 23 pc then (bif Nat.beq pc 23 then some (.aload_n 0, 1, 0, 0, false) else none) else (bif Nat.beq pc 20 then some (.getfield 92, 3, 0, 0, false) else none))))
  else
   (bif Nat.ble 7 pc then
    (bif Nat.ble 13 pc then
     (bif Nat.ble 16 pc then (bif Nat.ble 17 pc then (bif Nat.beq pc 17 then some (.getfield 25, 3, 0, 0, false) else none) else (bif Nat.beq pc 16 then some (.aload_n 0, 1, 0, 0, false) else none)) else (bif Nat.beq pc 13 then some (.if_icmp .ge 23, 3, 36, 0, false) else none))
    else
     (bif Nat.ble 10 pc then (bif Nat.beq pc 10 then some (.getfield 87, 3, 0, 0, false) else none) else (bif Nat.beq pc 7 then some (.getfield 25, 3, 0, 0, false) else none)))
   else
    (bif Nat.ble 4 pc then
     (bif Nat.ble 5 pc then (bif Nat.ble 6 pc then (bif Nat.beq pc 6 then some (.aload_n 0, 1, 0, 0, false) else none) else (bif Nat.beq pc 5 then some (.iadd, 1, 0, 0, false) else none)) else (bif Nat.beq pc 4 then some (.iconst 1, 1, 0, 1, false) else none))
    else
     (bif Nat.ble 1 pc then (bif Nat.beq pc 1 then some (.getfield 55, 3, 0, 0, false) else none) else (bif Nat.beq pc 0 then some (.aload_n 0, 1, 0, 0, false) else none)))))
def qX5_nextDeedYear (pc : Nat) : Option mIn :=
  (bif Nat.ble 21 pc then
   (bif Nat.ble 32 pc then
    (bif Nat.ble 34 pc then
     (bif Nat.ble 37 pc then (bif Nat.ble 40 pc then (bif Nat.beq pc 40 then some (.ireturn, 1, 0, 0, false) else none) else (bif Nat.beq pc 37 then some (.sipush 201, 3, 0, 201, false) else none)) else (bif Nat.beq pc 34 then some (.goto 6, 3, 40, 0, false) else none))
    else
     (bif Nat.ble 33 pc then (bif Nat.beq pc 33 then some (.iaload, 1, 0, 0, false) else none) else (bif Nat.beq pc 32 then some (.iaload, 1, 0, 0, false) else none)))
   else
    (bif Nat.ble 25 pc then
     (bif Nat.ble 28 pc then (bif Nat.ble 29 pc then (bif Nat.beq pc 29 then some (.getfield 59, 3, 0, 0, false) else none) else (bif Nat.beq pc 28 then some (.aload_n 0, 1, 0, 0, false) else none)) else (bif Nat.beq pc 25 then some (.getfield 109, 3, 0, 0, false) else none))
    else
     (bif Nat.ble 22 pc then (bif Nat.beq pc 22 then some (.getfield 29, 3, 0, 0, false) else none) else (bif Nat.beq pc 21 then some (.aload_n 0, 1, 0, 0, false) else none))))
  else
   (bif Nat.ble 8 pc then
    (bif Nat.ble 14 pc then
     (bif Nat.ble 15 pc then (bif Nat.ble 18 pc then (bif Nat.beq pc 18 then some (.getfield 106, 3, 0, 0, false) else none) else (bif Nat.beq pc 15 then some (.getfield 29, 3, 0, 0, false) else none)) else (bif Nat.beq pc 14 then some (.aload_n 0, 1, 0, 0, false) else none))
    else
     (bif Nat.ble 11 pc then (bif Nat.beq pc 11 then some (.if_icmp .ge 26, 3, 37, 0, false) else none) else (bif Nat.beq pc 8 then some (.getfield 101, 3, 0, 0, false) else none)))
   else
    (bif Nat.ble 4 pc then (bif Nat.ble 5 pc then (bif Nat.beq pc 5 then some (.getfield 29, 3, 0, 0, false) else none) else (bif Nat.beq pc 4 then some (.aload_n 0, 1, 0, 0, false) else none)) else (bif Nat.ble 1 pc then (bif Nat.beq pc 1 then some (.getfield 59, 3, 0, 0, false) else none) else (bif Nat.beq pc 0 then some (.aload_n 0, 1, 0, 0, false) else none)))))
def qX5_takeStep (pc : Nat) : Option mIn :=
  (bif Nat.ble 61 pc then
   (bif Nat.ble 91 pc then
    (bif Nat.ble 105 pc then
     (bif Nat.ble 113 pc then
      (bif Nat.ble 115 pc then (bif Nat.ble 118 pc then (bif Nat.beq pc 118 then some (.return_, 1, 0, 0, false) else none) else (bif Nat.beq pc 115 then some (.invokevirtual 130, 3, 0, 0, false) else none)) else (bif Nat.ble 114 pc then (bif Nat.beq pc 114 then some (.iaload, 1, 0, 0, false) else none) else (bif Nat.beq pc 113 then some (.iload_n 2, 1, 0, 0, false) else none)))
     else
      (bif Nat.ble 107 pc then (bif Nat.ble 110 pc then (bif Nat.beq pc 110 then some (.getfield 127, 3, 0, 0, false) else none) else (bif Nat.beq pc 107 then some (.getfield 33, 3, 0, 0, false) else none)) else (bif Nat.ble 106 pc then (bif Nat.beq pc 106 then some (.aload_n 0, 1, 0, 0, false) else none) else (bif Nat.beq pc 105 then some (.aload_n 1, 1, 0, 0, false) else none))))
    else
     (bif Nat.ble 98 pc then
      (bif Nat.ble 101 pc then (bif Nat.ble 104 pc then (bif Nat.beq pc 104 then some (.aload_n 0, 1, 0, 0, false) else none) else (bif Nat.beq pc 101 then some (.if_icmp .ne 17, 3, 118, 0, false) else none)) else (bif Nat.ble 100 pc then (bif Nat.beq pc 100 then some (.iconst 1, 1, 0, 1, false) else none) else (bif Nat.beq pc 98 then some (.iload 4, 2, 0, 0, false) else none)))
     else
      (bif Nat.ble 95 pc then (bif Nat.ble 96 pc then (bif Nat.beq pc 96 then some (.istore 4, 2, 0, 0, false) else none) else (bif Nat.beq pc 95 then some (.iaload, 1, 0, 0, false) else none)) else (bif Nat.ble 94 pc then (bif Nat.beq pc 94 then some (.iload_n 2, 1, 0, 0, false) else none) else (bif Nat.beq pc 91 then some (.getfield 124, 3, 0, 0, false) else none)))))
   else
    (bif Nat.ble 75 pc then
     (bif Nat.ble 83 pc then
      (bif Nat.ble 87 pc then (bif Nat.ble 88 pc then (bif Nat.beq pc 88 then some (.getfield 33, 3, 0, 0, false) else none) else (bif Nat.beq pc 87 then some (.aload_n 0, 1, 0, 0, false) else none)) else (bif Nat.ble 84 pc then (bif Nat.beq pc 84 then some (.goto 12, 3, 96, 0, false) else none) else (bif Nat.beq pc 83 then some (.iaload, 1, 0, 0, false) else none)))
     else
      (bif Nat.ble 79 pc then (bif Nat.ble 82 pc then (bif Nat.beq pc 82 then some (.iload_n 2, 1, 0, 0, false) else none) else (bif Nat.beq pc 79 then some (.getfield 121, 3, 0, 0, false) else none)) else (bif Nat.ble 76 pc then (bif Nat.beq pc 76 then some (.getfield 33, 3, 0, 0, false) else none) else (bif Nat.beq pc 75 then some (.aload_n 0, 1, 0, 0, false) else none))))
    else
     (bif Nat.ble 69 pc then
      (bif Nat.ble 71 pc then (bif Nat.ble 72 pc then (bif Nat.beq pc 72 then some (.ifCond .eq 15, 3, 87, 0, false) else none) else (bif Nat.beq pc 71 then some (.iload_n 3, 1, 0, 0, false) else none)) else (bif Nat.ble 70 pc then (bif Nat.beq pc 70 then some (.istore_n 3, 1, 0, 0, false) else none) else (bif Nat.beq pc 69 then some (.iconst 0, 1, 0, 0, false) else none)))
     else
      (bif Nat.ble 65 pc then (bif Nat.ble 66 pc then (bif Nat.beq pc 66 then some (.goto 4, 3, 70, 0, false) else none) else (bif Nat.beq pc 65 then some (.iconst 1, 1, 0, 1, false) else none)) else (bif Nat.ble 62 pc then (bif Nat.beq pc 62 then some (.if_icmp .eq 7, 3, 69, 0, false) else none) else (bif Nat.beq pc 61 then some (.iconst 0, 1, 0, 0, false) else none))))))
  else
   (bif Nat.ble 27 pc then
    (bif Nat.ble 43 pc then
     (bif Nat.ble 51 pc then
      (bif Nat.ble 57 pc then (bif Nat.ble 58 pc then (bif Nat.beq pc 58 then some (.goto 4, 3, 62, 0, false) else none) else (bif Nat.beq pc 57 then some (.iconst 1, 1, 0, 1, false) else none)) else (bif Nat.ble 54 pc then (bif Nat.beq pc 54 then some (.if_icmp .ne 7, 3, 61, 0, false) else none) else (bif Nat.beq pc 51 then some (.getfield 62, 3, 0, 0, false) else none)))
     else
      (bif Nat.ble 47 pc then (bif Nat.ble 50 pc then (bif Nat.beq pc 50 then some (.aload_n 0, 1, 0, 0, false) else none) else (bif Nat.beq pc 47 then some (.getfield 55, 3, 0, 0, false) else none)) else (bif Nat.ble 46 pc then (bif Nat.beq pc 46 then some (.aload_n 0, 1, 0, 0, false) else none) else (bif Nat.beq pc 43 then some (.invokevirtual 118, 3, 0, 0, false) else none))))
    else
     (bif Nat.ble 35 pc then
      (bif Nat.ble 39 pc then (bif Nat.ble 40 pc then (bif Nat.beq pc 40 then some (.getfield 55, 3, 0, 0, false) else none) else (bif Nat.beq pc 39 then some (.aload_n 0, 1, 0, 0, false) else none)) else (bif Nat.ble 36 pc then (bif Nat.beq pc 36 then some (.getfield 25, 3, 0, 0, false) else none) else (bif Nat.beq pc 35 then some (.aload_n 0, 1, 0, 0, false) else none)))
     else
      (bif Nat.ble 31 pc then (bif Nat.ble 34 pc then (bif Nat.beq pc 34 then some (.istore_n 2, 1, 0, 0, false) else none) else (bif Nat.beq pc 31 then some (.invokevirtual 112, 3, 0, 0, false) else none)) else (bif Nat.ble 28 pc then (bif Nat.beq pc 28 then some (.getfield 96, 3, 0, 0, false) else none) else (bif Nat.beq pc 27 then some (.aload_n 1, 1, 0, 0, false) else none)))))
   else
    (bif Nat.ble 11 pc then
     (bif Nat.ble 21 pc then
      (bif Nat.ble 23 pc then (bif Nat.ble 24 pc then (bif Nat.beq pc 24 then some (.getfield 33, 3, 0, 0, false) else none) else (bif Nat.beq pc 23 then some (.aload_n 0, 1, 0, 0, false) else none)) else (bif Nat.ble 22 pc then (bif Nat.beq pc 22 then some (.astore_n 1, 1, 0, 0, false) else none) else (bif Nat.beq pc 21 then some (.aaload, 1, 0, 0, false) else none)))
     else
      (bif Nat.ble 17 pc then (bif Nat.ble 18 pc then (bif Nat.beq pc 18 then some (.getfield 55, 3, 0, 0, false) else none) else (bif Nat.beq pc 17 then some (.aload_n 0, 1, 0, 0, false) else none)) else (bif Nat.ble 14 pc then (bif Nat.beq pc 14 then some (.getfield 92, 3, 0, 0, false) else none) else (bif Nat.beq pc 11 then some (.getfield 25, 3, 0, 0, false) else none))))
    else
     (bif Nat.ble 5 pc then
      (bif Nat.ble 7 pc then (bif Nat.ble 10 pc then (bif Nat.beq pc 10 then some (.aload_n 0, 1, 0, 0, false) else none) else (bif Nat.beq pc 7 then some (.putfield 55, 3, 0, 0, false) else none)) else (bif Nat.ble 6 pc then (bif Nat.beq pc 6 then some (.iadd, 1, 0, 0, false) else none) else (bif Nat.beq pc 5 then some (.iconst 1, 1, 0, 1, false) else none)))
     else
      (bif Nat.ble 1 pc then (bif Nat.ble 2 pc then (bif Nat.beq pc 2 then some (.getfield 55, 3, 0, 0, false) else none) else (bif Nat.beq pc 1 then some (.dup, 1, 0, 0, false) else none)) else (bif Nat.beq pc 0 then some (.aload_n 0, 1, 0, 0, false) else none))))))
def qX5_shiftOwners (pc : Nat) : Option mIn :=
  (bif Nat.ble 50 pc then
   (bif Nat.ble 76 pc then
    (bif Nat.ble 88 pc then
     (bif Nat.ble 94 pc then
      (bif Nat.ble 98 pc then (bif Nat.ble 101 pc then (bif Nat.beq pc 101 then some (.return_, 1, 0, 0, false) else none) else (bif Nat.beq pc 98 then some (.goto (-96), 3, 2, 0, false) else none)) else (bif Nat.ble 95 pc then (bif Nat.beq pc 95 then some (.iinc 3 1, 3, 0, 1, false) else none) else (bif Nat.beq pc 94 then some (.iastore, 1, 0, 0, false) else none)))
     else
      (bif Nat.ble 91 pc then (bif Nat.ble 93 pc then (bif Nat.beq pc 93 then some (.iaload, 1, 0, 0, false) else none) else (bif Nat.beq pc 91 then some (.iload 5, 2, 0, 0, false) else none)) else (bif Nat.beq pc 88 then some (.getfield 15, 3, 0, 0, false) else none)))
    else
     (bif Nat.ble 80 pc then
      (bif Nat.ble 84 pc then (bif Nat.ble 87 pc then (bif Nat.beq pc 87 then some (.aload_n 0, 1, 0, 0, false) else none) else (bif Nat.beq pc 84 then some (.goto 10, 3, 94, 0, false) else none)) else (bif Nat.ble 83 pc then (bif Nat.beq pc 83 then some (.iconst (-1), 1, 0, -1, false) else none) else (bif Nat.beq pc 80 then some (.if_icmp .ne 7, 3, 87, 0, false) else none)))
     else
      (bif Nat.ble 77 pc then (bif Nat.ble 79 pc then (bif Nat.beq pc 79 then some (.iconst (-1), 1, 0, -1, false) else none) else (bif Nat.beq pc 77 then some (.iload 5, 2, 0, 0, false) else none)) else (bif Nat.beq pc 76 then some (.iload_n 3, 1, 0, 0, false) else none))))
   else
    (bif Nat.ble 64 pc then
     (bif Nat.ble 69 pc then
      (bif Nat.ble 72 pc then (bif Nat.ble 73 pc then (bif Nat.beq pc 73 then some (.getfield 15, 3, 0, 0, false) else none) else (bif Nat.beq pc 72 then some (.aload_n 0, 1, 0, 0, false) else none)) else (bif Nat.ble 70 pc then (bif Nat.beq pc 70 then some (.istore 5, 2, 0, 0, false) else none) else (bif Nat.beq pc 69 then some (.iaload, 1, 0, 0, false) else none)))
     else
      (bif Nat.ble 65 pc then (bif Nat.ble 68 pc then (bif Nat.beq pc 68 then some (.iload_n 3, 1, 0, 0, false) else none) else (bif Nat.beq pc 65 then some (.getfield 140, 3, 0, 0, false) else none)) else (bif Nat.beq pc 64 then some (.aload_n 1, 1, 0, 0, false) else none)))
    else
     (bif Nat.ble 56 pc then
      (bif Nat.ble 60 pc then (bif Nat.ble 61 pc then (bif Nat.beq pc 61 then some (.ifCond .ne 34, 3, 95, 0, false) else none) else (bif Nat.beq pc 60 then some (.iload_n 2, 1, 0, 0, false) else none)) else (bif Nat.ble 57 pc then (bif Nat.beq pc 57 then some (.if_icmp .ne 38, 3, 95, 0, false) else none) else (bif Nat.beq pc 56 then some (.iconst 3, 1, 0, 3, false) else none)))
     else
      (bif Nat.ble 51 pc then (bif Nat.ble 54 pc then (bif Nat.beq pc 54 then some (.iload 4, 2, 0, 0, false) else none) else (bif Nat.beq pc 51 then some (.if_icmp .eq 13, 3, 64, 0, false) else none)) else (bif Nat.beq pc 50 then some (.iconst 2, 1, 0, 2, false) else none)))))
  else
   (bif Nat.ble 24 pc then
    (bif Nat.ble 38 pc then
     (bif Nat.ble 43 pc then
      (bif Nat.ble 45 pc then (bif Nat.ble 48 pc then (bif Nat.beq pc 48 then some (.iload 4, 2, 0, 0, false) else none) else (bif Nat.beq pc 45 then some (.goto 50, 3, 95, 0, false) else none)) else (bif Nat.ble 44 pc then (bif Nat.beq pc 44 then some (.iastore, 1, 0, 0, false) else none) else (bif Nat.beq pc 43 then some (.iconst (-1), 1, 0, -1, false) else none)))
     else
      (bif Nat.ble 39 pc then (bif Nat.ble 42 pc then (bif Nat.beq pc 42 then some (.iload_n 3, 1, 0, 0, false) else none) else (bif Nat.beq pc 39 then some (.getfield 15, 3, 0, 0, false) else none)) else (bif Nat.beq pc 38 then some (.aload_n 0, 1, 0, 0, false) else none)))
    else
     (bif Nat.ble 30 pc then
      (bif Nat.ble 34 pc then (bif Nat.ble 35 pc then (bif Nat.beq pc 35 then some (.if_icmp .ne 13, 3, 48, 0, false) else none) else (bif Nat.beq pc 34 then some (.iconst 1, 1, 0, 1, false) else none)) else (bif Nat.ble 33 pc then (bif Nat.beq pc 33 then some (.iload_n 2, 1, 0, 0, false) else none) else (bif Nat.beq pc 30 then some (.if_icmp .ne 18, 3, 48, 0, false) else none)))
     else
      (bif Nat.ble 27 pc then (bif Nat.ble 29 pc then (bif Nat.beq pc 29 then some (.iconst 3, 1, 0, 3, false) else none) else (bif Nat.beq pc 27 then some (.iload 4, 2, 0, 0, false) else none)) else (bif Nat.beq pc 24 then some (.if_icmp .eq 14, 3, 38, 0, false) else none))))
   else
    (bif Nat.ble 13 pc then
     (bif Nat.ble 18 pc then
      (bif Nat.ble 21 pc then (bif Nat.ble 23 pc then (bif Nat.beq pc 23 then some (.iconst 1, 1, 0, 1, false) else none) else (bif Nat.beq pc 21 then some (.iload 4, 2, 0, 0, false) else none)) else (bif Nat.ble 19 pc then (bif Nat.beq pc 19 then some (.istore 4, 2, 0, 0, false) else none) else (bif Nat.beq pc 18 then some (.iaload, 1, 0, 0, false) else none)))
     else
      (bif Nat.ble 14 pc then (bif Nat.ble 17 pc then (bif Nat.beq pc 17 then some (.iload_n 3, 1, 0, 0, false) else none) else (bif Nat.beq pc 14 then some (.getfield 137, 3, 0, 0, false) else none)) else (bif Nat.beq pc 13 then some (.aload_n 1, 1, 0, 0, false) else none)))
    else
     (bif Nat.ble 3 pc then
      (bif Nat.ble 7 pc then (bif Nat.ble 10 pc then (bif Nat.beq pc 10 then some (.if_icmp .ge 91, 3, 101, 0, false) else none) else (bif Nat.beq pc 7 then some (.getfield 134, 3, 0, 0, false) else none)) else (bif Nat.ble 4 pc then (bif Nat.beq pc 4 then some (.getfield 21, 3, 0, 0, false) else none) else (bif Nat.beq pc 3 then some (.aload_n 0, 1, 0, 0, false) else none)))
     else
      (bif Nat.ble 1 pc then (bif Nat.ble 2 pc then (bif Nat.beq pc 2 then some (.iload_n 3, 1, 0, 0, true) else none) else (bif Nat.beq pc 1 then some (.istore_n 3, 1, 0, 0, false) else none)) else (bif Nat.beq pc 0 then some (.iconst 0, 1, 0, 0, false) else none))))))
def qX5_takeDeed (pc : Nat) : Option mIn :=
  (bif Nat.ble 73 pc then
   (bif Nat.ble 115 pc then
    (bif Nat.ble 135 pc then
     (bif Nat.ble 144 pc then
      (bif Nat.ble 151 pc then
       (bif Nat.ble 154 pc then (bif Nat.ble 157 pc then (bif Nat.beq pc 157 then some (.return_, 1, 0, 0, false) else none) else (bif Nat.beq pc 154 then some (.goto (-95), 3, 59, 0, false) else none)) else (bif Nat.beq pc 151 then some (.iinc 3 1, 3, 0, 1, false) else none))
      else
       (bif Nat.ble 145 pc then (bif Nat.ble 148 pc then (bif Nat.beq pc 148 then some (.goto (-65), 3, 83, 0, false) else none) else (bif Nat.beq pc 145 then some (.iinc 4 1, 3, 0, 1, false) else none)) else (bif Nat.beq pc 144 then some (.iastore, 1, 0, 0, false) else none)))
     else
      (bif Nat.ble 139 pc then
       (bif Nat.ble 142 pc then (bif Nat.ble 143 pc then (bif Nat.beq pc 143 then some (.iaload, 1, 0, 0, false) else none) else (bif Nat.beq pc 142 then some (.iload_n 1, 1, 0, 0, false) else none)) else (bif Nat.beq pc 139 then some (.getfield 162, 3, 0, 0, false) else none))
      else
       (bif Nat.ble 136 pc then (bif Nat.beq pc 136 then some (.getfield 29, 3, 0, 0, false) else none) else (bif Nat.beq pc 135 then some (.aload_n 0, 1, 0, 0, false) else none))))
    else
     (bif Nat.ble 125 pc then
      (bif Nat.ble 129 pc then
       (bif Nat.ble 130 pc then (bif Nat.ble 133 pc then (bif Nat.beq pc 133 then some (.iload 5, 2, 0, 0, false) else none) else (bif Nat.beq pc 130 then some (.getfield 15, 3, 0, 0, false) else none)) else (bif Nat.beq pc 129 then some (.aload_n 0, 1, 0, 0, false) else none))
      else
       (bif Nat.ble 126 pc then (bif Nat.beq pc 126 then some (.if_icmp .eq 19, 3, 145, 0, false) else none) else (bif Nat.beq pc 125 then some (.iconst (-1), 1, 0, -1, false) else none)))
     else
      (bif Nat.ble 119 pc then
       (bif Nat.ble 122 pc then (bif Nat.ble 124 pc then (bif Nat.beq pc 124 then some (.iaload, 1, 0, 0, false) else none) else (bif Nat.beq pc 122 then some (.iload 5, 2, 0, 0, false) else none)) else (bif Nat.beq pc 119 then some (.getfield 15, 3, 0, 0, false) else none))
      else
       (bif Nat.ble 118 pc then (bif Nat.beq pc 118 then some (.aload_n 0, 1, 0, 0, false) else none) else (bif Nat.beq pc 115 then some (.ifCond .eq 30, 3, 145, 0, false) else none)))))
   else
    (bif Nat.ble 93 pc then
     (bif Nat.ble 103 pc then
      (bif Nat.ble 109 pc then
       (bif Nat.ble 110 pc then (bif Nat.ble 112 pc then (bif Nat.beq pc 112 then some (.invokevirtual 159, 3, 0, 0, false) else none) else (bif Nat.beq pc 110 then some (.iload 5, 2, 0, 0, false) else none)) else (bif Nat.beq pc 109 then some (.aload_n 2, 1, 0, 0, false) else none))
      else
       (bif Nat.ble 104 pc then (bif Nat.ble 107 pc then (bif Nat.beq pc 107 then some (.istore 5, 2, 0, 0, false) else none) else (bif Nat.beq pc 104 then some (.invokevirtual 43, 3, 0, 0, false) else none)) else (bif Nat.beq pc 103 then some (.iload_n 3, 1, 0, 0, false) else none)))
     else
      (bif Nat.ble 97 pc then
       (bif Nat.ble 98 pc then (bif Nat.ble 101 pc then (bif Nat.beq pc 101 then some (.iload 4, 2, 0, 0, false) else none) else (bif Nat.beq pc 98 then some (.getfield 21, 3, 0, 0, false) else none)) else (bif Nat.beq pc 97 then some (.aload_n 0, 1, 0, 0, false) else none))
      else
       (bif Nat.ble 94 pc then (bif Nat.beq pc 94 then some (.if_icmp .gt 57, 3, 151, 0, false) else none) else (bif Nat.beq pc 93 then some (.iaload, 1, 0, 0, false) else none))))
    else
     (bif Nat.ble 83 pc then
      (bif Nat.ble 86 pc then
       (bif Nat.ble 89 pc then (bif Nat.ble 92 pc then (bif Nat.beq pc 92 then some (.iload_n 1, 1, 0, 0, false) else none) else (bif Nat.beq pc 89 then some (.getfield 156, 3, 0, 0, false) else none)) else (bif Nat.beq pc 86 then some (.getfield 29, 3, 0, 0, false) else none))
      else
       (bif Nat.ble 85 pc then (bif Nat.beq pc 85 then some (.aload_n 0, 1, 0, 0, false) else none) else (bif Nat.beq pc 83 then some (.iload 4, 2, 0, 0, true) else none)))
     else
      (bif Nat.ble 79 pc then
       (bif Nat.ble 80 pc then (bif Nat.ble 81 pc then (bif Nat.beq pc 81 then some (.istore 4, 2, 0, 0, false) else none) else (bif Nat.beq pc 80 then some (.iaload, 1, 0, 0, false) else none)) else (bif Nat.beq pc 79 then some (.iload_n 1, 1, 0, 0, false) else none))
      else
       (bif Nat.ble 76 pc then (bif Nat.beq pc 76 then some (.getfield 153, 3, 0, 0, false) else none) else (bif Nat.beq pc 73 then some (.getfield 29, 3, 0, 0, false) else none))))))
  else
   (bif Nat.ble 36 pc then
    (bif Nat.ble 56 pc then
     (bif Nat.ble 61 pc then
      (bif Nat.ble 68 pc then
       (bif Nat.ble 69 pc then (bif Nat.ble 72 pc then (bif Nat.beq pc 72 then some (.aload_n 0, 1, 0, 0, false) else none) else (bif Nat.beq pc 69 then some (.if_icmp .gt 88, 3, 157, 0, false) else none)) else (bif Nat.beq pc 68 then some (.iaload, 1, 0, 0, false) else none))
      else
       (bif Nat.ble 64 pc then (bif Nat.ble 67 pc then (bif Nat.beq pc 67 then some (.iload_n 1, 1, 0, 0, false) else none) else (bif Nat.beq pc 64 then some (.getfield 150, 3, 0, 0, false) else none)) else (bif Nat.beq pc 61 then some (.getfield 29, 3, 0, 0, false) else none)))
     else
      (bif Nat.ble 58 pc then
       (bif Nat.ble 59 pc then (bif Nat.ble 60 pc then (bif Nat.beq pc 60 then some (.aload_n 0, 1, 0, 0, false) else none) else (bif Nat.beq pc 59 then some (.iload_n 3, 1, 0, 0, true) else none)) else (bif Nat.beq pc 58 then some (.istore_n 3, 1, 0, 0, false) else none))
      else
       (bif Nat.ble 57 pc then (bif Nat.beq pc 57 then some (.iaload, 1, 0, 0, false) else none) else (bif Nat.beq pc 56 then some (.iload_n 1, 1, 0, 0, false) else none))))
    else
     (bif Nat.ble 47 pc then
      (bif Nat.ble 49 pc then
       (bif Nat.ble 50 pc then (bif Nat.ble 53 pc then (bif Nat.beq pc 53 then some (.getfield 147, 3, 0, 0, false) else none) else (bif Nat.beq pc 50 then some (.getfield 29, 3, 0, 0, false) else none)) else (bif Nat.beq pc 49 then some (.aload_n 0, 1, 0, 0, false) else none))
      else
       (bif Nat.ble 48 pc then (bif Nat.beq pc 48 then some (.astore_n 2, 1, 0, 0, false) else none) else (bif Nat.beq pc 47 then some (.aaload, 1, 0, 0, false) else none)))
     else
      (bif Nat.ble 40 pc then
       (bif Nat.ble 43 pc then (bif Nat.ble 44 pc then (bif Nat.beq pc 44 then some (.getfield 55, 3, 0, 0, false) else none) else (bif Nat.beq pc 43 then some (.aload_n 0, 1, 0, 0, false) else none)) else (bif Nat.beq pc 40 then some (.getfield 92, 3, 0, 0, false) else none))
      else
       (bif Nat.ble 37 pc then (bif Nat.beq pc 37 then some (.getfield 25, 3, 0, 0, false) else none) else (bif Nat.beq pc 36 then some (.aload_n 0, 1, 0, 0, false) else none)))))
   else
    (bif Nat.ble 18 pc then
     (bif Nat.ble 27 pc then
      (bif Nat.ble 31 pc then
       (bif Nat.ble 32 pc then (bif Nat.ble 35 pc then (bif Nat.beq pc 35 then some (.return_, 1, 0, 0, false) else none) else (bif Nat.beq pc 32 then some (.ifCond .eq 4, 3, 36, 0, false) else none)) else (bif Nat.beq pc 31 then some (.baload, 1, 0, 0, false) else none))
      else
       (bif Nat.ble 30 pc then (bif Nat.beq pc 30 then some (.iload_n 1, 1, 0, 0, false) else none) else (bif Nat.beq pc 27 then some (.getfield 143, 3, 0, 0, false) else none)))
     else
      (bif Nat.ble 20 pc then
       (bif Nat.ble 23 pc then (bif Nat.ble 24 pc then (bif Nat.beq pc 24 then some (.getfield 29, 3, 0, 0, false) else none) else (bif Nat.beq pc 23 then some (.aload_n 0, 1, 0, 0, false) else none)) else (bif Nat.beq pc 20 then some (.putfield 59, 3, 0, 0, false) else none))
      else
       (bif Nat.ble 19 pc then (bif Nat.beq pc 19 then some (.iadd, 1, 0, 0, false) else none) else (bif Nat.beq pc 18 then some (.iconst 1, 1, 0, 1, false) else none))))
    else
     (bif Nat.ble 11 pc then
      (bif Nat.ble 13 pc then
       (bif Nat.ble 14 pc then (bif Nat.ble 15 pc then (bif Nat.beq pc 15 then some (.getfield 59, 3, 0, 0, false) else none) else (bif Nat.beq pc 14 then some (.dup, 1, 0, 0, false) else none)) else (bif Nat.beq pc 13 then some (.aload_n 0, 1, 0, 0, false) else none))
      else
       (bif Nat.ble 12 pc then (bif Nat.beq pc 12 then some (.istore_n 1, 1, 0, 0, false) else none) else (bif Nat.beq pc 11 then some (.iaload, 1, 0, 0, false) else none)))
     else
      (bif Nat.ble 4 pc then
       (bif Nat.ble 7 pc then (bif Nat.ble 8 pc then (bif Nat.beq pc 8 then some (.getfield 59, 3, 0, 0, false) else none) else (bif Nat.beq pc 7 then some (.aload_n 0, 1, 0, 0, false) else none)) else (bif Nat.beq pc 4 then some (.getfield 109, 3, 0, 0, false) else none))
      else
       (bif Nat.ble 1 pc then (bif Nat.beq pc 1 then some (.getfield 29, 3, 0, 0, false) else none) else (bif Nat.beq pc 0 then some (.aload_n 0, 1, 0, 0, false) else none)))))))
def qX5_dryOf (pc : Nat) : Option mIn :=
  (bif Nat.ble 27 pc then
   (bif Nat.ble 45 pc then
    (bif Nat.ble 53 pc then
     (bif Nat.ble 59 pc then (bif Nat.ble 60 pc then (bif Nat.beq pc 60 then some (.ireturn, 1, 0, 0, false) else none) else (bif Nat.beq pc 59 then some (.iload_n 3, 1, 0, 0, false) else none)) else (bif Nat.ble 56 pc then (bif Nat.beq pc 56 then some (.goto (-38), 3, 18, 0, false) else none) else (bif Nat.beq pc 53 then some (.iinc 4 1, 3, 0, 1, false) else none)))
    else
     (bif Nat.ble 47 pc then (bif Nat.ble 50 pc then (bif Nat.beq pc 50 then some (.iinc 3 1, 3, 0, 1, false) else none) else (bif Nat.beq pc 47 then some (.if_icmp .ne 6, 3, 53, 0, false) else none)) else (bif Nat.ble 46 pc then (bif Nat.beq pc 46 then some (.iload_n 1, 1, 0, 0, false) else none) else (bif Nat.beq pc 45 then some (.iaload, 1, 0, 0, false) else none))))
   else
    (bif Nat.ble 36 pc then
     (bif Nat.ble 40 pc then (bif Nat.ble 43 pc then (bif Nat.beq pc 43 then some (.iload 4, 2, 0, 0, false) else none) else (bif Nat.beq pc 40 then some (.getfield 15, 3, 0, 0, false) else none)) else (bif Nat.ble 39 pc then (bif Nat.beq pc 39 then some (.aload_n 0, 1, 0, 0, false) else none) else (bif Nat.beq pc 36 then some (.ifCond .eq 17, 3, 53, 0, false) else none)))
    else
     (bif Nat.ble 31 pc then (bif Nat.ble 33 pc then (bif Nat.beq pc 33 then some (.invokevirtual 159, 3, 0, 0, false) else none) else (bif Nat.beq pc 31 then some (.iload 4, 2, 0, 0, false) else none)) else (bif Nat.ble 30 pc then (bif Nat.beq pc 30 then some (.aload_n 2, 1, 0, 0, false) else none) else (bif Nat.beq pc 27 then some (.if_icmp .ge 32, 3, 59, 0, false) else none)))))
  else
   (bif Nat.ble 13 pc then
    (bif Nat.ble 18 pc then
     (bif Nat.ble 21 pc then (bif Nat.ble 24 pc then (bif Nat.beq pc 24 then some (.getfield 134, 3, 0, 0, false) else none) else (bif Nat.beq pc 21 then some (.getfield 21, 3, 0, 0, false) else none)) else (bif Nat.ble 20 pc then (bif Nat.beq pc 20 then some (.aload_n 0, 1, 0, 0, false) else none) else (bif Nat.beq pc 18 then some (.iload 4, 2, 0, 0, true) else none)))
    else
     (bif Nat.ble 15 pc then (bif Nat.ble 16 pc then (bif Nat.beq pc 16 then some (.istore 4, 2, 0, 0, false) else none) else (bif Nat.beq pc 15 then some (.iconst 0, 1, 0, 0, false) else none)) else (bif Nat.ble 14 pc then (bif Nat.beq pc 14 then some (.istore_n 3, 1, 0, 0, false) else none) else (bif Nat.beq pc 13 then some (.iconst 0, 1, 0, 0, false) else none))))
   else
    (bif Nat.ble 7 pc then
     (bif Nat.ble 11 pc then (bif Nat.ble 12 pc then (bif Nat.beq pc 12 then some (.astore_n 2, 1, 0, 0, false) else none) else (bif Nat.beq pc 11 then some (.aaload, 1, 0, 0, false) else none)) else (bif Nat.ble 8 pc then (bif Nat.beq pc 8 then some (.getfield 55, 3, 0, 0, false) else none) else (bif Nat.beq pc 7 then some (.aload_n 0, 1, 0, 0, false) else none)))
    else
     (bif Nat.ble 1 pc then (bif Nat.ble 4 pc then (bif Nat.beq pc 4 then some (.getfield 92, 3, 0, 0, false) else none) else (bif Nat.beq pc 1 then some (.getfield 25, 3, 0, 0, false) else none)) else (bif Nat.beq pc 0 then some (.aload_n 0, 1, 0, 0, false) else none)))))
def qX5_dryByWaterOf (pc : Nat) : Option mIn :=
  (bif Nat.ble 33 pc then
   (bif Nat.ble 51 pc then
    (bif Nat.ble 60 pc then
     (bif Nat.ble 66 pc then
      (bif Nat.ble 69 pc then (bif Nat.ble 70 pc then (bif Nat.beq pc 70 then some (.ireturn, 1, 0, 0, false) else none) else (bif Nat.beq pc 69 then some (.iload_n 3, 1, 0, 0, false) else none)) else (bif Nat.beq pc 66 then some (.goto (-48), 3, 18, 0, false) else none))
     else
      (bif Nat.ble 63 pc then (bif Nat.beq pc 63 then some (.iinc 4 1, 3, 0, 1, false) else none) else (bif Nat.beq pc 60 then some (.iinc 3 1, 3, 0, 1, false) else none)))
    else
     (bif Nat.ble 54 pc then (bif Nat.ble 57 pc then (bif Nat.beq pc 57 then some (.ifCond .eq 6, 3, 63, 0, false) else none) else (bif Nat.beq pc 54 then some (.invokevirtual 165, 3, 0, 0, false) else none)) else (bif Nat.ble 52 pc then (bif Nat.beq pc 52 then some (.iload 4, 2, 0, 0, false) else none) else (bif Nat.beq pc 51 then some (.aload_n 2, 1, 0, 0, false) else none))))
   else
    (bif Nat.ble 43 pc then
     (bif Nat.ble 46 pc then
      (bif Nat.ble 47 pc then (bif Nat.ble 50 pc then (bif Nat.beq pc 50 then some (.aload_n 0, 1, 0, 0, false) else none) else (bif Nat.beq pc 47 then some (.if_icmp .ne 16, 3, 63, 0, false) else none)) else (bif Nat.beq pc 46 then some (.iload_n 1, 1, 0, 0, false) else none))
     else
      (bif Nat.ble 45 pc then (bif Nat.beq pc 45 then some (.iaload, 1, 0, 0, false) else none) else (bif Nat.beq pc 43 then some (.iload 4, 2, 0, 0, false) else none)))
    else
     (bif Nat.ble 39 pc then (bif Nat.ble 40 pc then (bif Nat.beq pc 40 then some (.getfield 15, 3, 0, 0, false) else none) else (bif Nat.beq pc 39 then some (.aload_n 0, 1, 0, 0, false) else none)) else (bif Nat.ble 36 pc then (bif Nat.beq pc 36 then some (.ifCond .eq 27, 3, 63, 0, false) else none) else (bif Nat.beq pc 33 then some (.invokevirtual 159, 3, 0, 0, false) else none)))))
  else
   (bif Nat.ble 15 pc then
    (bif Nat.ble 21 pc then
     (bif Nat.ble 27 pc then
      (bif Nat.ble 30 pc then (bif Nat.ble 31 pc then (bif Nat.beq pc 31 then some (.iload 4, 2, 0, 0, false) else none) else (bif Nat.beq pc 30 then some (.aload_n 2, 1, 0, 0, false) else none)) else (bif Nat.beq pc 27 then some (.if_icmp .ge 42, 3, 69, 0, false) else none))
     else
      (bif Nat.ble 24 pc then (bif Nat.beq pc 24 then some (.getfield 134, 3, 0, 0, false) else none) else (bif Nat.beq pc 21 then some (.getfield 21, 3, 0, 0, false) else none)))
    else
     (bif Nat.ble 18 pc then (bif Nat.ble 20 pc then (bif Nat.beq pc 20 then some (.aload_n 0, 1, 0, 0, false) else none) else (bif Nat.beq pc 18 then some (.iload 4, 2, 0, 0, true) else none)) else (bif Nat.ble 16 pc then (bif Nat.beq pc 16 then some (.istore 4, 2, 0, 0, false) else none) else (bif Nat.beq pc 15 then some (.iconst 0, 1, 0, 0, false) else none))))
   else
    (bif Nat.ble 8 pc then
     (bif Nat.ble 12 pc then
      (bif Nat.ble 13 pc then (bif Nat.ble 14 pc then (bif Nat.beq pc 14 then some (.istore_n 3, 1, 0, 0, false) else none) else (bif Nat.beq pc 13 then some (.iconst 0, 1, 0, 0, false) else none)) else (bif Nat.beq pc 12 then some (.astore_n 2, 1, 0, 0, false) else none))
     else
      (bif Nat.ble 11 pc then (bif Nat.beq pc 11 then some (.aaload, 1, 0, 0, false) else none) else (bif Nat.beq pc 8 then some (.getfield 55, 3, 0, 0, false) else none)))
    else
     (bif Nat.ble 4 pc then (bif Nat.ble 7 pc then (bif Nat.beq pc 7 then some (.aload_n 0, 1, 0, 0, false) else none) else (bif Nat.beq pc 4 then some (.getfield 92, 3, 0, 0, false) else none)) else (bif Nat.ble 1 pc then (bif Nat.beq pc 1 then some (.getfield 25, 3, 0, 0, false) else none) else (bif Nat.beq pc 0 then some (.aload_n 0, 1, 0, 0, false) else none))))))
def qX5_isByWater (pc : Nat) : Option mIn :=
  (bif Nat.ble 20 pc then
   (bif Nat.ble 33 pc then
    (bif Nat.ble 38 pc then
     (bif Nat.ble 41 pc then (bif Nat.ble 42 pc then (bif Nat.beq pc 42 then some (.ireturn, 1, 0, 0, false) else none) else (bif Nat.beq pc 41 then some (.iconst 0, 1, 0, 0, false) else none)) else (bif Nat.beq pc 38 then some (.goto (-36), 3, 2, 0, false) else none))
    else
     (bif Nat.ble 34 pc then (bif Nat.ble 35 pc then (bif Nat.beq pc 35 then some (.iinc 3 1, 3, 0, 1, false) else none) else (bif Nat.beq pc 34 then some (.ireturn, 1, 0, 0, false) else none)) else (bif Nat.beq pc 33 then some (.iconst 1, 1, 0, 1, false) else none)))
   else
    (bif Nat.ble 25 pc then
     (bif Nat.ble 27 pc then (bif Nat.ble 30 pc then (bif Nat.beq pc 30 then some (.ifCond .ne 5, 3, 35, 0, false) else none) else (bif Nat.beq pc 27 then some (.invokevirtual 159, 3, 0, 0, false) else none)) else (bif Nat.beq pc 25 then some (.iload 4, 2, 0, 0, false) else none))
    else
     (bif Nat.ble 21 pc then (bif Nat.ble 24 pc then (bif Nat.beq pc 24 then some (.aload_n 1, 1, 0, 0, false) else none) else (bif Nat.beq pc 21 then some (.if_icmp .eq 14, 3, 35, 0, false) else none)) else (bif Nat.beq pc 20 then some (.iconst (-1), 1, 0, -1, false) else none))))
  else
   (bif Nat.ble 8 pc then
    (bif Nat.ble 13 pc then
     (bif Nat.ble 16 pc then (bif Nat.ble 18 pc then (bif Nat.beq pc 18 then some (.iload 4, 2, 0, 0, false) else none) else (bif Nat.beq pc 16 then some (.istore 4, 2, 0, 0, false) else none)) else (bif Nat.beq pc 13 then some (.invokevirtual 169, 3, 0, 0, false) else none))
    else
     (bif Nat.ble 11 pc then (bif Nat.ble 12 pc then (bif Nat.beq pc 12 then some (.iload_n 3, 1, 0, 0, false) else none) else (bif Nat.beq pc 11 then some (.iload_n 2, 1, 0, 0, false) else none)) else (bif Nat.beq pc 8 then some (.getfield 21, 3, 0, 0, false) else none)))
   else
    (bif Nat.ble 3 pc then
     (bif Nat.ble 4 pc then (bif Nat.ble 7 pc then (bif Nat.beq pc 7 then some (.aload_n 0, 1, 0, 0, false) else none) else (bif Nat.beq pc 4 then some (.if_icmp .ge 37, 3, 41, 0, false) else none)) else (bif Nat.beq pc 3 then some (.iconst 4, 1, 0, 4, false) else none))
    else
     (bif Nat.ble 1 pc then (bif Nat.ble 2 pc then (bif Nat.beq pc 2 then some (.iload_n 3, 1, 0, 0, true) else none) else (bif Nat.beq pc 1 then some (.istore_n 3, 1, 0, 0, false) else none)) else (bif Nat.beq pc 0 then some (.iconst 0, 1, 0, 0, false) else none)))))
def qX5_keep (pc : Nat) : Option mIn :=
  (bif Nat.ble 6 pc then
   (bif Nat.ble 10 pc then
    (bif Nat.ble 13 pc then (bif Nat.ble 16 pc then (bif Nat.beq pc 16 then some (.return_, 1, 0, 0, false) else none) else (bif Nat.beq pc 13 then some (.invokestatic 49, 3, 0, 0, false) else none)) else (bif Nat.beq pc 10 then some (.sipush 144, 3, 0, 144, false) else none))
   else
    (bif Nat.ble 9 pc then (bif Nat.beq pc 9 then some (.iconst 0, 1, 0, 0, false) else none) else (bif Nat.beq pc 6 then some (.getfield 18, 3, 0, 0, false) else none)))
  else
   (bif Nat.ble 4 pc then (bif Nat.ble 5 pc then (bif Nat.beq pc 5 then some (.aload_n 0, 1, 0, 0, false) else none) else (bif Nat.beq pc 4 then some (.iconst 0, 1, 0, 0, false) else none)) else (bif Nat.ble 1 pc then (bif Nat.beq pc 1 then some (.getfield 15, 3, 0, 0, false) else none) else (bif Nat.beq pc 0 then some (.aload_n 0, 1, 0, 0, false) else none))))
def qX5_differing (pc : Nat) : Option mIn :=
  (bif Nat.ble 19 pc then
   (bif Nat.ble 27 pc then
    (bif Nat.ble 36 pc then
     (bif Nat.ble 39 pc then (bif Nat.ble 40 pc then (bif Nat.beq pc 40 then some (.ireturn, 1, 0, 0, false) else none) else (bif Nat.beq pc 39 then some (.iload_n 1, 1, 0, 0, false) else none)) else (bif Nat.beq pc 36 then some (.goto (-32), 3, 4, 0, false) else none))
    else
     (bif Nat.ble 30 pc then (bif Nat.ble 33 pc then (bif Nat.beq pc 33 then some (.iinc 2 1, 3, 0, 1, false) else none) else (bif Nat.beq pc 30 then some (.iinc 1 1, 3, 0, 1, false) else none)) else (bif Nat.beq pc 27 then some (.if_icmp .eq 6, 3, 33, 0, false) else none)))
   else
    (bif Nat.ble 22 pc then
     (bif Nat.ble 25 pc then (bif Nat.ble 26 pc then (bif Nat.beq pc 26 then some (.iaload, 1, 0, 0, false) else none) else (bif Nat.beq pc 25 then some (.iload_n 2, 1, 0, 0, false) else none)) else (bif Nat.beq pc 22 then some (.getfield 18, 3, 0, 0, false) else none))
    else
     (bif Nat.ble 20 pc then (bif Nat.ble 21 pc then (bif Nat.beq pc 21 then some (.aload_n 0, 1, 0, 0, false) else none) else (bif Nat.beq pc 20 then some (.iaload, 1, 0, 0, false) else none)) else (bif Nat.beq pc 19 then some (.iload_n 2, 1, 0, 0, false) else none))))
  else
   (bif Nat.ble 5 pc then
    (bif Nat.ble 12 pc then
     (bif Nat.ble 15 pc then (bif Nat.ble 16 pc then (bif Nat.beq pc 16 then some (.getfield 15, 3, 0, 0, false) else none) else (bif Nat.beq pc 15 then some (.aload_n 0, 1, 0, 0, false) else none)) else (bif Nat.beq pc 12 then some (.if_icmp .ge 27, 3, 39, 0, false) else none))
    else
     (bif Nat.ble 6 pc then (bif Nat.ble 9 pc then (bif Nat.beq pc 9 then some (.getfield 134, 3, 0, 0, false) else none) else (bif Nat.beq pc 6 then some (.getfield 21, 3, 0, 0, false) else none)) else (bif Nat.beq pc 5 then some (.aload_n 0, 1, 0, 0, false) else none)))
   else
    (bif Nat.ble 2 pc then
     (bif Nat.ble 3 pc then (bif Nat.ble 4 pc then (bif Nat.beq pc 4 then some (.iload_n 2, 1, 0, 0, true) else none) else (bif Nat.beq pc 3 then some (.istore_n 2, 1, 0, 0, false) else none)) else (bif Nat.beq pc 2 then some (.iconst 0, 1, 0, 0, false) else none))
    else
     (bif Nat.ble 1 pc then (bif Nat.beq pc 1 then some (.istore_n 1, 1, 0, 0, false) else none) else (bif Nat.beq pc 0 then some (.iconst 0, 1, 0, 0, false) else none)))))
def qX5_runAheadOf (pc : Nat) : Option mIn :=
  (bif Nat.ble 10 pc then
   (bif Nat.ble 15 pc then
    (bif Nat.ble 16 pc then (bif Nat.ble 19 pc then (bif Nat.beq pc 19 then some (.return_, 1, 0, 0, false) else none) else (bif Nat.beq pc 16 then some (.invokevirtual 172, 3, 0, 0, false) else none)) else (bif Nat.beq pc 15 then some (.iconst (-1), 1, 0, -1, false) else none))
   else
    (bif Nat.ble 13 pc then (bif Nat.ble 14 pc then (bif Nat.beq pc 14 then some (.isub, 1, 0, 0, false) else none) else (bif Nat.beq pc 13 then some (.iconst 1, 1, 0, 1, false) else none)) else (bif Nat.beq pc 10 then some (.getfield 96, 3, 0, 0, false) else none)))
  else
   (bif Nat.ble 5 pc then
    (bif Nat.ble 8 pc then (bif Nat.ble 9 pc then (bif Nat.beq pc 9 then some (.aaload, 1, 0, 0, false) else none) else (bif Nat.beq pc 8 then some (.iload_n 1, 1, 0, 0, false) else none)) else (bif Nat.beq pc 5 then some (.getfield 92, 3, 0, 0, false) else none))
   else
    (bif Nat.ble 1 pc then (bif Nat.ble 2 pc then (bif Nat.beq pc 2 then some (.getfield 25, 3, 0, 0, false) else none) else (bif Nat.beq pc 1 then some (.aload_n 0, 1, 0, 0, false) else none)) else (bif Nat.beq pc 0 then some (.aload_n 0, 1, 0, 0, false) else none))))
def qX5_changedBy (pc : Nat) : Option mIn :=
  (bif Nat.ble 9 pc then
   (bif Nat.ble 13 pc then
    (bif Nat.ble 14 pc then (bif Nat.ble 17 pc then (bif Nat.beq pc 17 then some (.ireturn, 1, 0, 0, false) else none) else (bif Nat.beq pc 14 then some (.invokevirtual 183, 3, 0, 0, false) else none)) else (bif Nat.beq pc 13 then some (.aload_n 0, 1, 0, 0, false) else none))
   else
    (bif Nat.ble 10 pc then (bif Nat.beq pc 10 then some (.invokevirtual 81, 3, 0, 0, false) else none) else (bif Nat.beq pc 9 then some (.aload_n 0, 1, 0, 0, false) else none)))
  else
   (bif Nat.ble 2 pc then
    (bif Nat.ble 5 pc then (bif Nat.ble 6 pc then (bif Nat.beq pc 6 then some (.invokevirtual 180, 3, 0, 0, false) else none) else (bif Nat.beq pc 5 then some (.aload_n 0, 1, 0, 0, false) else none)) else (bif Nat.beq pc 2 then some (.invokevirtual 176, 3, 0, 0, false) else none))
   else
    (bif Nat.ble 1 pc then (bif Nat.beq pc 1 then some (.iload_n 1, 1, 0, 0, false) else none) else (bif Nat.beq pc 0 then some (.aload_n 0, 1, 0, 0, false) else none))))
def qX5_wonBy (pc : Nat) : Option mIn :=
  (bif Nat.ble 11 pc then
   (bif Nat.ble 17 pc then
    (bif Nat.ble 21 pc then (bif Nat.ble 22 pc then (bif Nat.beq pc 22 then some (.ireturn, 1, 0, 0, false) else none) else (bif Nat.beq pc 21 then some (.isub, 1, 0, 0, false) else none)) else (bif Nat.ble 20 pc then (bif Nat.beq pc 20 then some (.iload_n 3, 1, 0, 0, false) else none) else (bif Nat.beq pc 17 then some (.invokevirtual 186, 3, 0, 0, false) else none)))
   else
    (bif Nat.ble 15 pc then (bif Nat.ble 16 pc then (bif Nat.beq pc 16 then some (.iload_n 1, 1, 0, 0, false) else none) else (bif Nat.beq pc 15 then some (.aload_n 0, 1, 0, 0, false) else none)) else (bif Nat.ble 12 pc then (bif Nat.beq pc 12 then some (.invokevirtual 81, 3, 0, 0, false) else none) else (bif Nat.beq pc 11 then some (.aload_n 0, 1, 0, 0, false) else none))))
  else
   (bif Nat.ble 5 pc then
    (bif Nat.ble 7 pc then (bif Nat.ble 10 pc then (bif Nat.beq pc 10 then some (.istore_n 3, 1, 0, 0, false) else none) else (bif Nat.beq pc 7 then some (.invokevirtual 186, 3, 0, 0, false) else none)) else (bif Nat.ble 6 pc then (bif Nat.beq pc 6 then some (.iload_n 1, 1, 0, 0, false) else none) else (bif Nat.beq pc 5 then some (.aload_n 0, 1, 0, 0, false) else none)))
   else
    (bif Nat.ble 1 pc then (bif Nat.ble 2 pc then (bif Nat.beq pc 2 then some (.invokevirtual 176, 3, 0, 0, false) else none) else (bif Nat.beq pc 1 then some (.iload_n 2, 1, 0, 0, false) else none)) else (bif Nat.beq pc 0 then some (.aload_n 0, 1, 0, 0, false) else none))))
def qX5_changedByDoubt (pc : Nat) : Option mIn :=
  (bif Nat.ble 3 pc then
   (bif Nat.ble 7 pc then (bif Nat.ble 10 pc then (bif Nat.beq pc 10 then some (.ireturn, 1, 0, 0, false) else none) else (bif Nat.beq pc 7 then some (.invokevirtual 183, 3, 0, 0, false) else none)) else (bif Nat.ble 6 pc then (bif Nat.beq pc 6 then some (.aload_n 0, 1, 0, 0, false) else none) else (bif Nat.beq pc 3 then some (.invokevirtual 172, 3, 0, 0, false) else none)))
  else
   (bif Nat.ble 1 pc then (bif Nat.ble 2 pc then (bif Nat.beq pc 2 then some (.iload_n 1, 1, 0, 0, false) else none) else (bif Nat.beq pc 1 then some (.iload_n 2, 1, 0, 0, false) else none)) else (bif Nat.beq pc 0 then some (.aload_n 0, 1, 0, 0, false) else none)))
def qX6_measure (pc : Nat) : Option mIn :=
  (bif Nat.ble 52 pc then
   (bif Nat.ble 81 pc then
    (bif Nat.ble 92 pc then
     (bif Nat.ble 100 pc then
      (bif Nat.ble 106 pc then (bif Nat.ble 109 pc then (bif Nat.beq pc 109 then some (.return_, 1, 0, 0, false) else none) else (bif Nat.beq pc 106 then some (.goto (-89), 3, 17, 0, false) else none)) else (bif Nat.ble 103 pc then (bif Nat.beq pc 103 then some (.iinc 2 1, 3, 0, 1, false) else none) else (bif Nat.beq pc 100 then some (.putfield 32, 3, 0, 0, false) else none)))
     else
      (bif Nat.ble 94 pc then (bif Nat.ble 97 pc then (bif Nat.beq pc 97 then some (.invokestatic 48, 3, 0, 0, false) else none) else (bif Nat.beq pc 94 then some (.invokevirtual 57, 3, 0, 0, false) else none)) else (bif Nat.ble 93 pc then (bif Nat.beq pc 93 then some (.iload_n 2, 1, 0, 0, false) else none) else (bif Nat.beq pc 92 then some (.aload_n 1, 1, 0, 0, false) else none))))
    else
     (bif Nat.ble 86 pc then
      (bif Nat.ble 88 pc then (bif Nat.ble 91 pc then (bif Nat.beq pc 91 then some (.aload_n 0, 1, 0, 0, false) else none) else (bif Nat.beq pc 88 then some (.getfield 32, 3, 0, 0, false) else none)) else (bif Nat.ble 87 pc then (bif Nat.beq pc 87 then some (.aload_n 1, 1, 0, 0, false) else none) else (bif Nat.beq pc 86 then some (.aload_n 1, 1, 0, 0, false) else none)))
     else
      (bif Nat.ble 82 pc then (bif Nat.ble 83 pc then (bif Nat.beq pc 83 then some (.putfield 23, 3, 0, 0, false) else none) else (bif Nat.beq pc 82 then some (.iadd, 1, 0, 0, false) else none)) else (bif Nat.beq pc 81 then some (.iconst 1, 1, 0, 1, false) else none))))
   else
    (bif Nat.ble 67 pc then
     (bif Nat.ble 73 pc then
      (bif Nat.ble 77 pc then (bif Nat.ble 78 pc then (bif Nat.beq pc 78 then some (.getfield 23, 3, 0, 0, false) else none) else (bif Nat.beq pc 77 then some (.dup, 1, 0, 0, false) else none)) else (bif Nat.ble 76 pc then (bif Nat.beq pc 76 then some (.aload_n 1, 1, 0, 0, false) else none) else (bif Nat.beq pc 73 then some (.if_icmp .ne 30, 3, 103, 0, false) else none)))
     else
      (bif Nat.ble 71 pc then (bif Nat.ble 72 pc then (bif Nat.beq pc 72 then some (.iconst 1, 1, 0, 1, false) else none) else (bif Nat.beq pc 71 then some (.iaload, 1, 0, 0, false) else none)) else (bif Nat.ble 70 pc then (bif Nat.beq pc 70 then some (.iload_n 2, 1, 0, 0, false) else none) else (bif Nat.beq pc 67 then some (.getfield 54, 3, 0, 0, false) else none))))
    else
     (bif Nat.ble 57 pc then
      (bif Nat.ble 63 pc then (bif Nat.ble 66 pc then (bif Nat.beq pc 66 then some (.aload_n 1, 1, 0, 0, false) else none) else (bif Nat.beq pc 63 then some (.goto 40, 3, 103, 0, false) else none)) else (bif Nat.ble 60 pc then (bif Nat.beq pc 60 then some (.putfield 32, 3, 0, 0, false) else none) else (bif Nat.beq pc 57 then some (.invokestatic 48, 3, 0, 0, false) else none)))
     else
      (bif Nat.ble 53 pc then (bif Nat.ble 54 pc then (bif Nat.beq pc 54 then some (.invokevirtual 44, 3, 0, 0, false) else none) else (bif Nat.beq pc 53 then some (.iload_n 2, 1, 0, 0, false) else none)) else (bif Nat.beq pc 52 then some (.aload_n 1, 1, 0, 0, false) else none)))))
  else
   (bif Nat.ble 25 pc then
    (bif Nat.ble 38 pc then
     (bif Nat.ble 46 pc then
      (bif Nat.ble 48 pc then (bif Nat.ble 51 pc then (bif Nat.beq pc 51 then some (.aload_n 0, 1, 0, 0, false) else none) else (bif Nat.beq pc 48 then some (.getfield 32, 3, 0, 0, false) else none)) else (bif Nat.ble 47 pc then (bif Nat.beq pc 47 then some (.aload_n 1, 1, 0, 0, false) else none) else (bif Nat.beq pc 46 then some (.aload_n 1, 1, 0, 0, false) else none)))
     else
      (bif Nat.ble 42 pc then (bif Nat.ble 43 pc then (bif Nat.beq pc 43 then some (.putfield 29, 3, 0, 0, false) else none) else (bif Nat.beq pc 42 then some (.iadd, 1, 0, 0, false) else none)) else (bif Nat.ble 41 pc then (bif Nat.beq pc 41 then some (.iconst 1, 1, 0, 1, false) else none) else (bif Nat.beq pc 38 then some (.getfield 29, 3, 0, 0, false) else none))))
    else
     (bif Nat.ble 30 pc then
      (bif Nat.ble 36 pc then (bif Nat.ble 37 pc then (bif Nat.beq pc 37 then some (.dup, 1, 0, 0, false) else none) else (bif Nat.beq pc 36 then some (.aload_n 1, 1, 0, 0, false) else none)) else (bif Nat.ble 33 pc then (bif Nat.beq pc 33 then some (.ifCond .eq 33, 3, 66, 0, false) else none) else (bif Nat.beq pc 30 then some (.invokevirtual 40, 3, 0, 0, false) else none)))
     else
      (bif Nat.ble 28 pc then (bif Nat.ble 29 pc then (bif Nat.beq pc 29 then some (.iload_n 2, 1, 0, 0, false) else none) else (bif Nat.beq pc 28 then some (.aload_n 1, 1, 0, 0, false) else none)) else (bif Nat.beq pc 25 then some (.if_icmp .ge 84, 3, 109, 0, false) else none))))
   else
    (bif Nat.ble 11 pc then
     (bif Nat.ble 17 pc then
      (bif Nat.ble 19 pc then (bif Nat.ble 22 pc then (bif Nat.beq pc 22 then some (.getfield 35, 3, 0, 0, false) else none) else (bif Nat.beq pc 19 then some (.getfield 19, 3, 0, 0, false) else none)) else (bif Nat.ble 18 pc then (bif Nat.beq pc 18 then some (.aload_n 0, 1, 0, 0, false) else none) else (bif Nat.beq pc 17 then some (.iload_n 2, 1, 0, 0, true) else none)))
     else
      (bif Nat.ble 15 pc then (bif Nat.ble 16 pc then (bif Nat.beq pc 16 then some (.istore_n 2, 1, 0, 0, false) else none) else (bif Nat.beq pc 15 then some (.iconst 0, 1, 0, 0, false) else none)) else (bif Nat.ble 12 pc then (bif Nat.beq pc 12 then some (.putfield 32, 3, 0, 0, false) else none) else (bif Nat.beq pc 11 then some (.iconst 0, 1, 0, 0, false) else none))))
    else
     (bif Nat.ble 5 pc then
      (bif Nat.ble 7 pc then (bif Nat.ble 10 pc then (bif Nat.beq pc 10 then some (.aload_n 1, 1, 0, 0, false) else none) else (bif Nat.beq pc 7 then some (.putfield 29, 3, 0, 0, false) else none)) else (bif Nat.ble 6 pc then (bif Nat.beq pc 6 then some (.iconst 0, 1, 0, 0, false) else none) else (bif Nat.beq pc 5 then some (.aload_n 1, 1, 0, 0, false) else none)))
     else
      (bif Nat.ble 1 pc then (bif Nat.ble 2 pc then (bif Nat.beq pc 2 then some (.putfield 23, 3, 0, 0, false) else none) else (bif Nat.beq pc 1 then some (.iconst 0, 1, 0, 0, false) else none)) else (bif Nat.beq pc 0 then some (.aload_n 1, 1, 0, 0, false) else none))))))
def qX6_dryParts (pc : Nat) : Option mIn :=
  (bif Nat.ble 33 pc then
   (bif Nat.ble 50 pc then
    (bif Nat.ble 59 pc then
     (bif Nat.ble 65 pc then
      (bif Nat.ble 68 pc then (bif Nat.ble 69 pc then (bif Nat.beq pc 69 then some (.ireturn, 1, 0, 0, false) else none) else (bif Nat.beq pc 68 then some (.iload_n 2, 1, 0, 0, false) else none)) else (bif Nat.beq pc 65 then some (.goto (-31), 3, 34, 0, false) else none))
     else
      (bif Nat.ble 62 pc then (bif Nat.beq pc 62 then some (.iinc 3 1, 3, 0, 1, false) else none) else (bif Nat.beq pc 59 then some (.iinc 2 1, 3, 0, 1, false) else none)))
    else
     (bif Nat.ble 54 pc then
      (bif Nat.ble 55 pc then (bif Nat.ble 56 pc then (bif Nat.beq pc 56 then some (.invokevirtual 63, 3, 0, 0, false) else none) else (bif Nat.beq pc 55 then some (.iload_n 3, 1, 0, 0, false) else none)) else (bif Nat.beq pc 54 then some (.aload_n 0, 1, 0, 0, false) else none))
     else
      (bif Nat.ble 51 pc then (bif Nat.beq pc 51 then some (.ifCond .eq 11, 3, 62, 0, false) else none) else (bif Nat.beq pc 50 then some (.baload, 1, 0, 0, false) else none))))
   else
    (bif Nat.ble 39 pc then
     (bif Nat.ble 45 pc then
      (bif Nat.ble 46 pc then (bif Nat.ble 49 pc then (bif Nat.beq pc 49 then some (.iload_n 3, 1, 0, 0, false) else none) else (bif Nat.beq pc 46 then some (.getfield 9, 3, 0, 0, false) else none)) else (bif Nat.beq pc 45 then some (.aload_n 0, 1, 0, 0, false) else none))
     else
      (bif Nat.ble 42 pc then (bif Nat.beq pc 42 then some (.if_icmp .ge 26, 3, 68, 0, false) else none) else (bif Nat.beq pc 39 then some (.getfield 35, 3, 0, 0, false) else none)))
    else
     (bif Nat.ble 35 pc then (bif Nat.ble 36 pc then (bif Nat.beq pc 36 then some (.getfield 19, 3, 0, 0, false) else none) else (bif Nat.beq pc 35 then some (.aload_n 0, 1, 0, 0, false) else none)) else (bif Nat.ble 34 pc then (bif Nat.beq pc 34 then some (.iload_n 3, 1, 0, 0, true) else none) else (bif Nat.beq pc 33 then some (.istore_n 3, 1, 0, 0, false) else none)))))
  else
   (bif Nat.ble 17 pc then
    (bif Nat.ble 24 pc then
     (bif Nat.ble 30 pc then
      (bif Nat.ble 31 pc then (bif Nat.ble 32 pc then (bif Nat.beq pc 32 then some (.iconst 0, 1, 0, 0, false) else none) else (bif Nat.beq pc 31 then some (.istore_n 2, 1, 0, 0, false) else none)) else (bif Nat.beq pc 30 then some (.iconst 0, 1, 0, 0, false) else none))
     else
      (bif Nat.ble 27 pc then (bif Nat.beq pc 27 then some (.goto (-25), 3, 2, 0, false) else none) else (bif Nat.beq pc 24 then some (.iinc 2 1, 3, 0, 1, false) else none)))
    else
     (bif Nat.ble 19 pc then
      (bif Nat.ble 20 pc then (bif Nat.ble 23 pc then (bif Nat.beq pc 23 then some (.bastore, 1, 0, 0, false) else none) else (bif Nat.beq pc 20 then some (.invokevirtual 60, 3, 0, 0, false) else none)) else (bif Nat.beq pc 19 then some (.iload_n 2, 1, 0, 0, false) else none))
     else
      (bif Nat.ble 18 pc then (bif Nat.beq pc 18 then some (.aload_n 1, 1, 0, 0, false) else none) else (bif Nat.beq pc 17 then some (.iload_n 2, 1, 0, 0, false) else none))))
   else
    (bif Nat.ble 4 pc then
     (bif Nat.ble 10 pc then
      (bif Nat.ble 13 pc then (bif Nat.ble 14 pc then (bif Nat.beq pc 14 then some (.getfield 9, 3, 0, 0, false) else none) else (bif Nat.beq pc 13 then some (.aload_n 0, 1, 0, 0, false) else none)) else (bif Nat.beq pc 10 then some (.if_icmp .ge 20, 3, 30, 0, false) else none))
     else
      (bif Nat.ble 7 pc then (bif Nat.beq pc 7 then some (.getfield 35, 3, 0, 0, false) else none) else (bif Nat.beq pc 4 then some (.getfield 19, 3, 0, 0, false) else none)))
    else
     (bif Nat.ble 2 pc then (bif Nat.ble 3 pc then (bif Nat.beq pc 3 then some (.aload_n 0, 1, 0, 0, false) else none) else (bif Nat.beq pc 2 then some (.iload_n 2, 1, 0, 0, true) else none)) else (bif Nat.ble 1 pc then (bif Nat.beq pc 1 then some (.istore_n 2, 1, 0, 0, false) else none) else (bif Nat.beq pc 0 then some (.iconst 0, 1, 0, 0, false) else none))))))
def qX6_apartFromFast (pc : Nat) : Option mIn :=
  (bif Nat.ble 25 pc then
   (bif Nat.ble 37 pc then
    (bif Nat.ble 44 pc then
     (bif Nat.ble 50 pc then (bif Nat.ble 51 pc then (bif Nat.beq pc 51 then some (.ireturn, 1, 0, 0, false) else none) else (bif Nat.beq pc 50 then some (.iload_n 3, 1, 0, 0, false) else none)) else (bif Nat.ble 47 pc then (bif Nat.beq pc 47 then some (.goto (-41), 3, 6, 0, false) else none) else (bif Nat.beq pc 44 then some (.iinc 4 1, 3, 0, 1, false) else none)))
    else
     (bif Nat.ble 40 pc then (bif Nat.ble 43 pc then (bif Nat.beq pc 43 then some (.istore_n 3, 1, 0, 0, false) else none) else (bif Nat.beq pc 40 then some (.invokestatic 70, 3, 0, 0, false) else none)) else (bif Nat.beq pc 37 then some (.invokevirtual 67, 3, 0, 0, false) else none)))
   else
    (bif Nat.ble 30 pc then
     (bif Nat.ble 34 pc then (bif Nat.ble 35 pc then (bif Nat.beq pc 35 then some (.iload 4, 2, 0, 0, false) else none) else (bif Nat.beq pc 34 then some (.iload_n 2, 1, 0, 0, false) else none)) else (bif Nat.ble 31 pc then (bif Nat.beq pc 31 then some (.getfield 19, 3, 0, 0, false) else none) else (bif Nat.beq pc 30 then some (.aload_n 0, 1, 0, 0, false) else none)))
    else
     (bif Nat.ble 26 pc then (bif Nat.ble 29 pc then (bif Nat.beq pc 29 then some (.iload_n 3, 1, 0, 0, false) else none) else (bif Nat.beq pc 26 then some (.if_icmp .ne 18, 3, 44, 0, false) else none)) else (bif Nat.beq pc 25 then some (.iconst 4, 1, 0, 4, false) else none))))
  else
   (bif Nat.ble 9 pc then
    (bif Nat.ble 18 pc then
     (bif Nat.ble 22 pc then (bif Nat.ble 24 pc then (bif Nat.beq pc 24 then some (.iaload, 1, 0, 0, false) else none) else (bif Nat.beq pc 22 then some (.iload 4, 2, 0, 0, false) else none)) else (bif Nat.ble 19 pc then (bif Nat.beq pc 19 then some (.getfield 54, 3, 0, 0, false) else none) else (bif Nat.beq pc 18 then some (.aload_n 1, 1, 0, 0, false) else none)))
    else
     (bif Nat.ble 12 pc then (bif Nat.ble 15 pc then (bif Nat.beq pc 15 then some (.if_icmp .ge 35, 3, 50, 0, false) else none) else (bif Nat.beq pc 12 then some (.getfield 35, 3, 0, 0, false) else none)) else (bif Nat.beq pc 9 then some (.getfield 19, 3, 0, 0, false) else none)))
   else
    (bif Nat.ble 4 pc then
     (bif Nat.ble 6 pc then (bif Nat.ble 8 pc then (bif Nat.beq pc 8 then some (.aload_n 0, 1, 0, 0, false) else none) else (bif Nat.beq pc 6 then some (.iload 4, 2, 0, 0, true) else none)) else (bif Nat.beq pc 4 then some (.istore 4, 2, 0, 0, false) else none))
    else
     (bif Nat.ble 2 pc then (bif Nat.ble 3 pc then (bif Nat.beq pc 3 then some (.iconst 0, 1, 0, 0, false) else none) else (bif Nat.beq pc 2 then some (.istore_n 3, 1, 0, 0, false) else none)) else (bif Nat.beq pc 0 then some (.bipush 13, 2, 0, 13, false) else none)))))
def qX6_apartFromOldWater (pc : Nat) : Option mIn :=
  (bif Nat.ble 24 pc then
   (bif Nat.ble 35 pc then
    (bif Nat.ble 42 pc then
     (bif Nat.ble 48 pc then (bif Nat.ble 49 pc then (bif Nat.beq pc 49 then some (.ireturn, 1, 0, 0, false) else none) else (bif Nat.beq pc 48 then some (.iload_n 3, 1, 0, 0, false) else none)) else (bif Nat.ble 45 pc then (bif Nat.beq pc 45 then some (.goto (-39), 3, 6, 0, false) else none) else (bif Nat.beq pc 42 then some (.iinc 4 1, 3, 0, 1, false) else none)))
    else
     (bif Nat.ble 38 pc then (bif Nat.ble 41 pc then (bif Nat.beq pc 41 then some (.istore_n 3, 1, 0, 0, false) else none) else (bif Nat.beq pc 38 then some (.invokestatic 70, 3, 0, 0, false) else none)) else (bif Nat.beq pc 35 then some (.invokevirtual 67, 3, 0, 0, false) else none)))
   else
    (bif Nat.ble 29 pc then
     (bif Nat.ble 32 pc then (bif Nat.ble 33 pc then (bif Nat.beq pc 33 then some (.iload 4, 2, 0, 0, false) else none) else (bif Nat.beq pc 32 then some (.iload_n 2, 1, 0, 0, false) else none)) else (bif Nat.beq pc 29 then some (.getfield 19, 3, 0, 0, false) else none))
    else
     (bif Nat.ble 27 pc then (bif Nat.ble 28 pc then (bif Nat.beq pc 28 then some (.aload_n 0, 1, 0, 0, false) else none) else (bif Nat.beq pc 27 then some (.iload_n 3, 1, 0, 0, false) else none)) else (bif Nat.beq pc 24 then some (.ifCond .eq 18, 3, 42, 0, false) else none))))
  else
   (bif Nat.ble 9 pc then
    (bif Nat.ble 18 pc then
     (bif Nat.ble 19 pc then (bif Nat.ble 21 pc then (bif Nat.beq pc 21 then some (.invokevirtual 73, 3, 0, 0, false) else none) else (bif Nat.beq pc 19 then some (.iload 4, 2, 0, 0, false) else none)) else (bif Nat.beq pc 18 then some (.aload_n 1, 1, 0, 0, false) else none))
    else
     (bif Nat.ble 12 pc then (bif Nat.ble 15 pc then (bif Nat.beq pc 15 then some (.if_icmp .ge 33, 3, 48, 0, false) else none) else (bif Nat.beq pc 12 then some (.getfield 35, 3, 0, 0, false) else none)) else (bif Nat.beq pc 9 then some (.getfield 19, 3, 0, 0, false) else none)))
   else
    (bif Nat.ble 4 pc then
     (bif Nat.ble 6 pc then (bif Nat.ble 8 pc then (bif Nat.beq pc 8 then some (.aload_n 0, 1, 0, 0, false) else none) else (bif Nat.beq pc 6 then some (.iload 4, 2, 0, 0, true) else none)) else (bif Nat.beq pc 4 then some (.istore 4, 2, 0, 0, false) else none))
    else
     (bif Nat.ble 2 pc then (bif Nat.ble 3 pc then (bif Nat.beq pc 3 then some (.iconst 0, 1, 0, 0, false) else none) else (bif Nat.beq pc 2 then some (.istore_n 3, 1, 0, 0, false) else none)) else (bif Nat.beq pc 0 then some (.bipush 13, 2, 0, 13, false) else none)))))
def qX6_sortParts (pc : Nat) : Option mIn :=
  (bif Nat.ble 57 pc then
   (bif Nat.ble 85 pc then
    (bif Nat.ble 99 pc then
     (bif Nat.ble 105 pc then
      (bif Nat.ble 111 pc then (bif Nat.ble 114 pc then (bif Nat.beq pc 114 then some (.return_, 1, 0, 0, false) else none) else (bif Nat.beq pc 111 then some (.goto (-69), 3, 42, 0, false) else none)) else (bif Nat.ble 108 pc then (bif Nat.beq pc 108 then some (.iinc 2 1, 3, 0, 1, false) else none) else (bif Nat.beq pc 105 then some (.invokevirtual 90, 3, 0, 0, false) else none)))
     else
      (bif Nat.ble 103 pc then (bif Nat.ble 104 pc then (bif Nat.beq pc 104 then some (.aload_n 1, 1, 0, 0, false) else none) else (bif Nat.beq pc 103 then some (.aload_n 0, 1, 0, 0, false) else none)) else (bif Nat.ble 100 pc then (bif Nat.beq pc 100 then some (.putfield 79, 3, 0, 0, false) else none) else (bif Nat.beq pc 99 then some (.iadd, 1, 0, 0, false) else none))))
    else
     (bif Nat.ble 93 pc then
      (bif Nat.ble 95 pc then (bif Nat.ble 98 pc then (bif Nat.beq pc 98 then some (.iconst 1, 1, 0, 1, false) else none) else (bif Nat.beq pc 95 then some (.getfield 79, 3, 0, 0, false) else none)) else (bif Nat.ble 94 pc then (bif Nat.beq pc 94 then some (.dup, 1, 0, 0, false) else none) else (bif Nat.beq pc 93 then some (.aload_n 1, 1, 0, 0, false) else none)))
     else
      (bif Nat.ble 87 pc then (bif Nat.ble 90 pc then (bif Nat.beq pc 90 then some (.goto 18, 3, 108, 0, false) else none) else (bif Nat.beq pc 87 then some (.invokevirtual 86, 3, 0, 0, false) else none)) else (bif Nat.ble 86 pc then (bif Nat.beq pc 86 then some (.aload_n 1, 1, 0, 0, false) else none) else (bif Nat.beq pc 85 then some (.aload_n 0, 1, 0, 0, false) else none)))))
   else
    (bif Nat.ble 69 pc then
     (bif Nat.ble 77 pc then
      (bif Nat.ble 79 pc then (bif Nat.ble 82 pc then (bif Nat.beq pc 82 then some (.ifCond .eq 11, 3, 93, 0, false) else none) else (bif Nat.beq pc 79 then some (.invokevirtual 82, 3, 0, 0, false) else none)) else (bif Nat.ble 78 pc then (bif Nat.beq pc 78 then some (.aload_n 1, 1, 0, 0, false) else none) else (bif Nat.beq pc 77 then some (.aload_n 0, 1, 0, 0, false) else none)))
     else
      (bif Nat.ble 73 pc then (bif Nat.ble 74 pc then (bif Nat.beq pc 74 then some (.putfield 76, 3, 0, 0, false) else none) else (bif Nat.beq pc 73 then some (.iadd, 1, 0, 0, false) else none)) else (bif Nat.ble 72 pc then (bif Nat.beq pc 72 then some (.iconst 1, 1, 0, 1, false) else none) else (bif Nat.beq pc 69 then some (.getfield 76, 3, 0, 0, false) else none))))
    else
     (bif Nat.ble 63 pc then
      (bif Nat.ble 67 pc then (bif Nat.ble 68 pc then (bif Nat.beq pc 68 then some (.dup, 1, 0, 0, false) else none) else (bif Nat.beq pc 67 then some (.aload_n 1, 1, 0, 0, false) else none)) else (bif Nat.ble 64 pc then (bif Nat.beq pc 64 then some (.invokevirtual 63, 3, 0, 0, false) else none) else (bif Nat.beq pc 63 then some (.iload_n 2, 1, 0, 0, false) else none)))
     else
      (bif Nat.ble 59 pc then (bif Nat.ble 62 pc then (bif Nat.beq pc 62 then some (.aload_n 0, 1, 0, 0, false) else none) else (bif Nat.beq pc 59 then some (.ifCond .eq 49, 3, 108, 0, false) else none)) else (bif Nat.ble 58 pc then (bif Nat.beq pc 58 then some (.baload, 1, 0, 0, false) else none) else (bif Nat.beq pc 57 then some (.iload_n 2, 1, 0, 0, false) else none))))))
  else
   (bif Nat.ble 27 pc then
    (bif Nat.ble 41 pc then
     (bif Nat.ble 47 pc then
      (bif Nat.ble 53 pc then (bif Nat.ble 54 pc then (bif Nat.beq pc 54 then some (.getfield 9, 3, 0, 0, false) else none) else (bif Nat.beq pc 53 then some (.aload_n 0, 1, 0, 0, false) else none)) else (bif Nat.ble 50 pc then (bif Nat.beq pc 50 then some (.if_icmp .ge 64, 3, 114, 0, false) else none) else (bif Nat.beq pc 47 then some (.getfield 35, 3, 0, 0, false) else none)))
     else
      (bif Nat.ble 43 pc then (bif Nat.ble 44 pc then (bif Nat.beq pc 44 then some (.getfield 19, 3, 0, 0, false) else none) else (bif Nat.beq pc 43 then some (.aload_n 0, 1, 0, 0, false) else none)) else (bif Nat.ble 42 pc then (bif Nat.beq pc 42 then some (.iload_n 2, 1, 0, 0, true) else none) else (bif Nat.beq pc 41 then some (.istore_n 2, 1, 0, 0, false) else none))))
    else
     (bif Nat.ble 33 pc then
      (bif Nat.ble 37 pc then (bif Nat.ble 40 pc then (bif Nat.beq pc 40 then some (.iconst 0, 1, 0, 0, false) else none) else (bif Nat.beq pc 37 then some (.goto (-25), 3, 12, 0, false) else none)) else (bif Nat.ble 34 pc then (bif Nat.beq pc 34 then some (.iinc 2 1, 3, 0, 1, false) else none) else (bif Nat.beq pc 33 then some (.bastore, 1, 0, 0, false) else none)))
     else
      (bif Nat.ble 29 pc then (bif Nat.ble 30 pc then (bif Nat.beq pc 30 then some (.invokevirtual 40, 3, 0, 0, false) else none) else (bif Nat.beq pc 29 then some (.iload_n 2, 1, 0, 0, false) else none)) else (bif Nat.ble 28 pc then (bif Nat.beq pc 28 then some (.aload_n 1, 1, 0, 0, false) else none) else (bif Nat.beq pc 27 then some (.iload_n 2, 1, 0, 0, false) else none)))))
   else
    (bif Nat.ble 11 pc then
     (bif Nat.ble 17 pc then
      (bif Nat.ble 23 pc then (bif Nat.ble 24 pc then (bif Nat.beq pc 24 then some (.getfield 9, 3, 0, 0, false) else none) else (bif Nat.beq pc 23 then some (.aload_n 0, 1, 0, 0, false) else none)) else (bif Nat.ble 20 pc then (bif Nat.beq pc 20 then some (.if_icmp .ge 20, 3, 40, 0, false) else none) else (bif Nat.beq pc 17 then some (.getfield 35, 3, 0, 0, false) else none)))
     else
      (bif Nat.ble 13 pc then (bif Nat.ble 14 pc then (bif Nat.beq pc 14 then some (.getfield 19, 3, 0, 0, false) else none) else (bif Nat.beq pc 13 then some (.aload_n 0, 1, 0, 0, false) else none)) else (bif Nat.ble 12 pc then (bif Nat.beq pc 12 then some (.iload_n 2, 1, 0, 0, true) else none) else (bif Nat.beq pc 11 then some (.istore_n 2, 1, 0, 0, false) else none))))
    else
     (bif Nat.ble 5 pc then
      (bif Nat.ble 7 pc then (bif Nat.ble 10 pc then (bif Nat.beq pc 10 then some (.iconst 0, 1, 0, 0, false) else none) else (bif Nat.beq pc 7 then some (.putfield 79, 3, 0, 0, false) else none)) else (bif Nat.ble 6 pc then (bif Nat.beq pc 6 then some (.iconst 0, 1, 0, 0, false) else none) else (bif Nat.beq pc 5 then some (.aload_n 1, 1, 0, 0, false) else none)))
     else
      (bif Nat.ble 1 pc then (bif Nat.ble 2 pc then (bif Nat.beq pc 2 then some (.putfield 76, 3, 0, 0, false) else none) else (bif Nat.beq pc 1 then some (.iconst 0, 1, 0, 0, false) else none)) else (bif Nat.beq pc 0 then some (.aload_n 1, 1, 0, 0, false) else none))))))
def qX6_gather (pc : Nat) : Option mIn :=
  (bif Nat.ble 57 pc then
   (bif Nat.ble 92 pc then
    (bif Nat.ble 106 pc then
     (bif Nat.ble 114 pc then
      (bif Nat.ble 120 pc then
       (bif Nat.ble 123 pc then (bif Nat.ble 126 pc then (bif Nat.beq pc 126 then some (.return_, 1, 0, 0, false) else none) else (bif Nat.beq pc 123 then some (.goto (-102), 3, 21, 0, false) else none)) else (bif Nat.beq pc 120 then some (.iinc 2 1, 3, 0, 1, false) else none))
      else
       (bif Nat.ble 117 pc then (bif Nat.beq pc 117 then some (.goto (-79), 3, 38, 0, false) else none) else (bif Nat.beq pc 114 then some (.iinc 3 1, 3, 0, 1, false) else none)))
     else
      (bif Nat.ble 110 pc then (bif Nat.ble 111 pc then (bif Nat.beq pc 111 then some (.putfield 93, 3, 0, 0, false) else none) else (bif Nat.beq pc 110 then some (.iadd, 1, 0, 0, false) else none)) else (bif Nat.ble 109 pc then (bif Nat.beq pc 109 then some (.iconst 1, 1, 0, 1, false) else none) else (bif Nat.beq pc 106 then some (.getfield 93, 3, 0, 0, false) else none))))
    else
     (bif Nat.ble 98 pc then
      (bif Nat.ble 103 pc then
       (bif Nat.ble 104 pc then (bif Nat.ble 105 pc then (bif Nat.beq pc 105 then some (.dup, 1, 0, 0, false) else none) else (bif Nat.beq pc 104 then some (.aload_n 0, 1, 0, 0, false) else none)) else (bif Nat.beq pc 103 then some (.iastore, 1, 0, 0, false) else none))
      else
       (bif Nat.ble 101 pc then (bif Nat.beq pc 101 then some (.iload 4, 2, 0, 0, false) else none) else (bif Nat.beq pc 98 then some (.getfield 93, 3, 0, 0, false) else none)))
     else
      (bif Nat.ble 94 pc then (bif Nat.ble 97 pc then (bif Nat.beq pc 97 then some (.aload_n 0, 1, 0, 0, false) else none) else (bif Nat.beq pc 94 then some (.getfield 15, 3, 0, 0, false) else none)) else (bif Nat.ble 93 pc then (bif Nat.beq pc 93 then some (.aload_n 0, 1, 0, 0, false) else none) else (bif Nat.beq pc 92 then some (.bastore, 1, 0, 0, false) else none)))))
   else
    (bif Nat.ble 72 pc then
     (bif Nat.ble 82 pc then
      (bif Nat.ble 86 pc then
       (bif Nat.ble 89 pc then (bif Nat.ble 91 pc then (bif Nat.beq pc 91 then some (.iconst 0, 1, 0, 0, false) else none) else (bif Nat.beq pc 89 then some (.iload 4, 2, 0, 0, false) else none)) else (bif Nat.beq pc 86 then some (.getfield 9, 3, 0, 0, false) else none))
      else
       (bif Nat.ble 85 pc then (bif Nat.beq pc 85 then some (.aload_n 0, 1, 0, 0, false) else none) else (bif Nat.beq pc 82 then some (.if_icmp .ge 32, 3, 114, 0, false) else none)))
     else
      (bif Nat.ble 76 pc then (bif Nat.ble 79 pc then (bif Nat.beq pc 79 then some (.sipush 144, 3, 0, 144, false) else none) else (bif Nat.beq pc 76 then some (.getfield 93, 3, 0, 0, false) else none)) else (bif Nat.ble 75 pc then (bif Nat.beq pc 75 then some (.aload_n 0, 1, 0, 0, false) else none) else (bif Nat.beq pc 72 then some (.ifCond .eq 42, 3, 114, 0, false) else none))))
    else
     (bif Nat.ble 65 pc then
      (bif Nat.ble 69 pc then (bif Nat.ble 71 pc then (bif Nat.beq pc 71 then some (.baload, 1, 0, 0, false) else none) else (bif Nat.beq pc 69 then some (.iload 4, 2, 0, 0, false) else none)) else (bif Nat.ble 66 pc then (bif Nat.beq pc 66 then some (.getfield 9, 3, 0, 0, false) else none) else (bif Nat.beq pc 65 then some (.aload_n 0, 1, 0, 0, false) else none)))
     else
      (bif Nat.ble 61 pc then (bif Nat.ble 62 pc then (bif Nat.beq pc 62 then some (.if_icmp .eq 52, 3, 114, 0, false) else none) else (bif Nat.beq pc 61 then some (.iconst (-1), 1, 0, -1, false) else none)) else (bif Nat.ble 59 pc then (bif Nat.beq pc 59 then some (.iload 4, 2, 0, 0, false) else none) else (bif Nat.beq pc 57 then some (.istore 4, 2, 0, 0, false) else none))))))
  else
   (bif Nat.ble 23 pc then
    (bif Nat.ble 40 pc then
     (bif Nat.ble 48 pc then
      (bif Nat.ble 52 pc then
       (bif Nat.ble 53 pc then (bif Nat.ble 54 pc then (bif Nat.beq pc 54 then some (.invokevirtual 96, 3, 0, 0, false) else none) else (bif Nat.beq pc 53 then some (.iload_n 3, 1, 0, 0, false) else none)) else (bif Nat.beq pc 52 then some (.iaload, 1, 0, 0, false) else none))
      else
       (bif Nat.ble 51 pc then (bif Nat.beq pc 51 then some (.iload_n 2, 1, 0, 0, false) else none) else (bif Nat.beq pc 48 then some (.getfield 15, 3, 0, 0, false) else none)))
     else
      (bif Nat.ble 44 pc then (bif Nat.ble 47 pc then (bif Nat.beq pc 47 then some (.aload_n 0, 1, 0, 0, false) else none) else (bif Nat.beq pc 44 then some (.getfield 19, 3, 0, 0, false) else none)) else (bif Nat.ble 43 pc then (bif Nat.beq pc 43 then some (.aload_n 0, 1, 0, 0, false) else none) else (bif Nat.beq pc 40 then some (.if_icmp .ge 80, 3, 120, 0, false) else none))))
    else
     (bif Nat.ble 33 pc then
      (bif Nat.ble 37 pc then
       (bif Nat.ble 38 pc then (bif Nat.ble 39 pc then (bif Nat.beq pc 39 then some (.iconst 4, 1, 0, 4, false) else none) else (bif Nat.beq pc 38 then some (.iload_n 3, 1, 0, 0, true) else none)) else (bif Nat.beq pc 37 then some (.istore_n 3, 1, 0, 0, false) else none))
      else
       (bif Nat.ble 36 pc then (bif Nat.beq pc 36 then some (.iconst 0, 1, 0, 0, false) else none) else (bif Nat.beq pc 33 then some (.if_icmp .ge 93, 3, 126, 0, false) else none)))
     else
      (bif Nat.ble 29 pc then (bif Nat.ble 30 pc then (bif Nat.beq pc 30 then some (.sipush 144, 3, 0, 144, false) else none) else (bif Nat.beq pc 29 then some (.iload_n 2, 1, 0, 0, false) else none)) else (bif Nat.ble 26 pc then (bif Nat.beq pc 26 then some (.if_icmp .ge 100, 3, 126, 0, false) else none) else (bif Nat.beq pc 23 then some (.getfield 93, 3, 0, 0, false) else none)))))
   else
    (bif Nat.ble 12 pc then
     (bif Nat.ble 16 pc then
      (bif Nat.ble 20 pc then
       (bif Nat.ble 21 pc then (bif Nat.ble 22 pc then (bif Nat.beq pc 22 then some (.aload_n 0, 1, 0, 0, false) else none) else (bif Nat.beq pc 21 then some (.iload_n 2, 1, 0, 0, true) else none)) else (bif Nat.beq pc 20 then some (.istore_n 2, 1, 0, 0, false) else none))
      else
       (bif Nat.ble 19 pc then (bif Nat.beq pc 19 then some (.iconst 0, 1, 0, 0, false) else none) else (bif Nat.beq pc 16 then some (.putfield 93, 3, 0, 0, false) else none)))
     else
      (bif Nat.ble 14 pc then (bif Nat.ble 15 pc then (bif Nat.beq pc 15 then some (.iconst 1, 1, 0, 1, false) else none) else (bif Nat.beq pc 14 then some (.aload_n 0, 1, 0, 0, false) else none)) else (bif Nat.ble 13 pc then (bif Nat.beq pc 13 then some (.iastore, 1, 0, 0, false) else none) else (bif Nat.beq pc 12 then some (.iload_n 1, 1, 0, 0, false) else none))))
    else
     (bif Nat.ble 6 pc then
      (bif Nat.ble 8 pc then (bif Nat.ble 11 pc then (bif Nat.beq pc 11 then some (.iconst 0, 1, 0, 0, false) else none) else (bif Nat.beq pc 8 then some (.getfield 15, 3, 0, 0, false) else none)) else (bif Nat.ble 7 pc then (bif Nat.beq pc 7 then some (.aload_n 0, 1, 0, 0, false) else none) else (bif Nat.beq pc 6 then some (.bastore, 1, 0, 0, false) else none)))
     else
      (bif Nat.ble 4 pc then (bif Nat.ble 5 pc then (bif Nat.beq pc 5 then some (.iconst 0, 1, 0, 0, false) else none) else (bif Nat.beq pc 4 then some (.iload_n 1, 1, 0, 0, false) else none)) else (bif Nat.ble 1 pc then (bif Nat.beq pc 1 then some (.getfield 9, 3, 0, 0, false) else none) else (bif Nat.beq pc 0 then some (.aload_n 0, 1, 0, 0, false) else none)))))))
def qX6_partIsByFast (pc : Nat) : Option mIn :=
  (bif Nat.ble 28 pc then
   (bif Nat.ble 46 pc then
    (bif Nat.ble 55 pc then
     (bif Nat.ble 61 pc then
      (bif Nat.ble 64 pc then (bif Nat.ble 65 pc then (bif Nat.beq pc 65 then some (.ireturn, 1, 0, 0, false) else none) else (bif Nat.beq pc 64 then some (.iconst 0, 1, 0, 0, false) else none)) else (bif Nat.beq pc 61 then some (.goto (-59), 3, 2, 0, false) else none))
     else
      (bif Nat.ble 58 pc then (bif Nat.beq pc 58 then some (.iinc 2 1, 3, 0, 1, false) else none) else (bif Nat.beq pc 55 then some (.goto (-43), 3, 12, 0, false) else none)))
    else
     (bif Nat.ble 50 pc then
      (bif Nat.ble 51 pc then (bif Nat.ble 52 pc then (bif Nat.beq pc 52 then some (.iinc 3 1, 3, 0, 1, false) else none) else (bif Nat.beq pc 51 then some (.ireturn, 1, 0, 0, false) else none)) else (bif Nat.beq pc 50 then some (.iconst 1, 1, 0, 1, false) else none))
     else
      (bif Nat.ble 47 pc then (bif Nat.beq pc 47 then some (.if_icmp .ne 5, 3, 52, 0, false) else none) else (bif Nat.beq pc 46 then some (.iconst 4, 1, 0, 4, false) else none))))
   else
    (bif Nat.ble 36 pc then
     (bif Nat.ble 40 pc then
      (bif Nat.ble 43 pc then (bif Nat.ble 45 pc then (bif Nat.beq pc 45 then some (.iaload, 1, 0, 0, false) else none) else (bif Nat.beq pc 43 then some (.iload 4, 2, 0, 0, false) else none)) else (bif Nat.beq pc 40 then some (.getfield 54, 3, 0, 0, false) else none))
     else
      (bif Nat.ble 39 pc then (bif Nat.beq pc 39 then some (.aload_n 1, 1, 0, 0, false) else none) else (bif Nat.beq pc 36 then some (.if_icmp .eq 16, 3, 52, 0, false) else none)))
    else
     (bif Nat.ble 33 pc then (bif Nat.ble 35 pc then (bif Nat.beq pc 35 then some (.iconst (-1), 1, 0, -1, false) else none) else (bif Nat.beq pc 33 then some (.iload 4, 2, 0, 0, false) else none)) else (bif Nat.ble 31 pc then (bif Nat.beq pc 31 then some (.istore 4, 2, 0, 0, false) else none) else (bif Nat.beq pc 28 then some (.invokevirtual 96, 3, 0, 0, false) else none)))))
  else
   (bif Nat.ble 13 pc then
    (bif Nat.ble 21 pc then
     (bif Nat.ble 25 pc then
      (bif Nat.ble 26 pc then (bif Nat.ble 27 pc then (bif Nat.beq pc 27 then some (.iload_n 3, 1, 0, 0, false) else none) else (bif Nat.beq pc 26 then some (.iaload, 1, 0, 0, false) else none)) else (bif Nat.beq pc 25 then some (.iload_n 2, 1, 0, 0, false) else none))
     else
      (bif Nat.ble 22 pc then (bif Nat.beq pc 22 then some (.getfield 15, 3, 0, 0, false) else none) else (bif Nat.beq pc 21 then some (.aload_n 0, 1, 0, 0, false) else none)))
    else
     (bif Nat.ble 17 pc then (bif Nat.ble 18 pc then (bif Nat.beq pc 18 then some (.getfield 19, 3, 0, 0, false) else none) else (bif Nat.beq pc 17 then some (.aload_n 0, 1, 0, 0, false) else none)) else (bif Nat.ble 14 pc then (bif Nat.beq pc 14 then some (.if_icmp .ge 44, 3, 58, 0, false) else none) else (bif Nat.beq pc 13 then some (.iconst 4, 1, 0, 4, false) else none))))
   else
    (bif Nat.ble 4 pc then
     (bif Nat.ble 10 pc then
      (bif Nat.ble 11 pc then (bif Nat.ble 12 pc then (bif Nat.beq pc 12 then some (.iload_n 3, 1, 0, 0, true) else none) else (bif Nat.beq pc 11 then some (.istore_n 3, 1, 0, 0, false) else none)) else (bif Nat.beq pc 10 then some (.iconst 0, 1, 0, 0, false) else none))
     else
      (bif Nat.ble 7 pc then (bif Nat.beq pc 7 then some (.if_icmp .ge 57, 3, 64, 0, false) else none) else (bif Nat.beq pc 4 then some (.getfield 93, 3, 0, 0, false) else none)))
    else
     (bif Nat.ble 2 pc then (bif Nat.ble 3 pc then (bif Nat.beq pc 3 then some (.aload_n 0, 1, 0, 0, false) else none) else (bif Nat.beq pc 2 then some (.iload_n 2, 1, 0, 0, true) else none)) else (bif Nat.ble 1 pc then (bif Nat.beq pc 1 then some (.istore_n 2, 1, 0, 0, false) else none) else (bif Nat.beq pc 0 then some (.iconst 0, 1, 0, 0, false) else none))))))
def qX6_settleShore (pc : Nat) : Option mIn :=
  (bif Nat.ble 23 pc then
   (bif Nat.ble 35 pc then
    (bif Nat.ble 41 pc then
     (bif Nat.ble 45 pc then (bif Nat.ble 48 pc then (bif Nat.beq pc 48 then some (.return_, 1, 0, 0, false) else none) else (bif Nat.beq pc 45 then some (.goto (-43), 3, 2, 0, false) else none)) else (bif Nat.ble 42 pc then (bif Nat.beq pc 42 then some (.iinc 2 1, 3, 0, 1, false) else none) else (bif Nat.beq pc 41 then some (.iastore, 1, 0, 0, false) else none)))
    else
     (bif Nat.ble 37 pc then (bif Nat.ble 38 pc then (bif Nat.beq pc 38 then some (.invokevirtual 102, 3, 0, 0, false) else none) else (bif Nat.beq pc 37 then some (.iadd, 1, 0, 0, false) else none)) else (bif Nat.ble 36 pc then (bif Nat.beq pc 36 then some (.iconst 1, 1, 0, 1, false) else none) else (bif Nat.beq pc 35 then some (.iload_n 2, 1, 0, 0, false) else none))))
   else
    (bif Nat.ble 31 pc then
     (bif Nat.ble 33 pc then (bif Nat.ble 34 pc then (bif Nat.beq pc 34 then some (.iload_n 2, 1, 0, 0, false) else none) else (bif Nat.beq pc 33 then some (.aload_n 1, 1, 0, 0, false) else none)) else (bif Nat.ble 32 pc then (bif Nat.beq pc 32 then some (.aload_n 0, 1, 0, 0, false) else none) else (bif Nat.beq pc 31 then some (.iaload, 1, 0, 0, false) else none)))
    else
     (bif Nat.ble 27 pc then (bif Nat.ble 30 pc then (bif Nat.beq pc 30 then some (.iload_n 2, 1, 0, 0, false) else none) else (bif Nat.beq pc 27 then some (.getfield 15, 3, 0, 0, false) else none)) else (bif Nat.ble 26 pc then (bif Nat.beq pc 26 then some (.aload_n 0, 1, 0, 0, false) else none) else (bif Nat.beq pc 23 then some (.getfield 99, 3, 0, 0, false) else none)))))
  else
   (bif Nat.ble 11 pc then
    (bif Nat.ble 19 pc then
     (bif Nat.ble 21 pc then (bif Nat.ble 22 pc then (bif Nat.beq pc 22 then some (.aload_n 1, 1, 0, 0, false) else none) else (bif Nat.beq pc 21 then some (.iastore, 1, 0, 0, false) else none)) else (bif Nat.ble 20 pc then (bif Nat.beq pc 20 then some (.iconst 2, 1, 0, 2, false) else none) else (bif Nat.beq pc 19 then some (.iaload, 1, 0, 0, false) else none)))
    else
     (bif Nat.ble 15 pc then (bif Nat.ble 18 pc then (bif Nat.beq pc 18 then some (.iload_n 2, 1, 0, 0, false) else none) else (bif Nat.beq pc 15 then some (.getfield 15, 3, 0, 0, false) else none)) else (bif Nat.ble 14 pc then (bif Nat.beq pc 14 then some (.aload_n 0, 1, 0, 0, false) else none) else (bif Nat.beq pc 11 then some (.getfield 54, 3, 0, 0, false) else none))))
   else
    (bif Nat.ble 3 pc then
     (bif Nat.ble 7 pc then (bif Nat.ble 10 pc then (bif Nat.beq pc 10 then some (.aload_n 1, 1, 0, 0, false) else none) else (bif Nat.beq pc 7 then some (.if_icmp .ge 41, 3, 48, 0, false) else none)) else (bif Nat.ble 4 pc then (bif Nat.beq pc 4 then some (.getfield 93, 3, 0, 0, false) else none) else (bif Nat.beq pc 3 then some (.aload_n 0, 1, 0, 0, false) else none)))
    else
     (bif Nat.ble 1 pc then (bif Nat.ble 2 pc then (bif Nat.beq pc 2 then some (.iload_n 2, 1, 0, 0, true) else none) else (bif Nat.beq pc 1 then some (.istore_n 2, 1, 0, 0, false) else none)) else (bif Nat.beq pc 0 then some (.iconst 0, 1, 0, 0, false) else none)))))
def qX6_settleIsle (pc : Nat) : Option mIn :=
  (bif Nat.ble 26 pc then
   (bif Nat.ble 38 pc then
    (bif Nat.ble 44 pc then
     (bif Nat.ble 48 pc then (bif Nat.ble 51 pc then (bif Nat.beq pc 51 then some (.return_, 1, 0, 0, false) else none) else (bif Nat.beq pc 48 then some (.goto (-35), 3, 13, 0, false) else none)) else (bif Nat.ble 45 pc then (bif Nat.beq pc 45 then some (.iinc 3 1, 3, 0, 1, false) else none) else (bif Nat.beq pc 44 then some (.iastore, 1, 0, 0, false) else none)))
    else
     (bif Nat.ble 42 pc then (bif Nat.ble 43 pc then (bif Nat.beq pc 43 then some (.iload_n 2, 1, 0, 0, false) else none) else (bif Nat.beq pc 42 then some (.iaload, 1, 0, 0, false) else none)) else (bif Nat.ble 41 pc then (bif Nat.beq pc 41 then some (.iload_n 3, 1, 0, 0, false) else none) else (bif Nat.beq pc 38 then some (.getfield 15, 3, 0, 0, false) else none))))
   else
    (bif Nat.ble 32 pc then
     (bif Nat.ble 34 pc then (bif Nat.ble 37 pc then (bif Nat.beq pc 37 then some (.aload_n 0, 1, 0, 0, false) else none) else (bif Nat.beq pc 34 then some (.getfield 99, 3, 0, 0, false) else none)) else (bif Nat.ble 33 pc then (bif Nat.beq pc 33 then some (.aload_n 1, 1, 0, 0, false) else none) else (bif Nat.beq pc 32 then some (.iastore, 1, 0, 0, false) else none)))
    else
     (bif Nat.ble 30 pc then (bif Nat.ble 31 pc then (bif Nat.beq pc 31 then some (.iconst 3, 1, 0, 3, false) else none) else (bif Nat.beq pc 30 then some (.iaload, 1, 0, 0, false) else none)) else (bif Nat.ble 29 pc then (bif Nat.beq pc 29 then some (.iload_n 3, 1, 0, 0, false) else none) else (bif Nat.beq pc 26 then some (.getfield 15, 3, 0, 0, false) else none)))))
  else
   (bif Nat.ble 12 pc then
    (bif Nat.ble 18 pc then
     (bif Nat.ble 22 pc then (bif Nat.ble 25 pc then (bif Nat.beq pc 25 then some (.aload_n 0, 1, 0, 0, false) else none) else (bif Nat.beq pc 22 then some (.getfield 54, 3, 0, 0, false) else none)) else (bif Nat.ble 21 pc then (bif Nat.beq pc 21 then some (.aload_n 1, 1, 0, 0, false) else none) else (bif Nat.beq pc 18 then some (.if_icmp .ge 33, 3, 51, 0, false) else none)))
    else
     (bif Nat.ble 14 pc then (bif Nat.ble 15 pc then (bif Nat.beq pc 15 then some (.getfield 93, 3, 0, 0, false) else none) else (bif Nat.beq pc 14 then some (.aload_n 0, 1, 0, 0, false) else none)) else (bif Nat.ble 13 pc then (bif Nat.beq pc 13 then some (.iload_n 3, 1, 0, 0, true) else none) else (bif Nat.beq pc 12 then some (.istore_n 3, 1, 0, 0, false) else none))))
   else
    (bif Nat.ble 4 pc then
     (bif Nat.ble 10 pc then (bif Nat.ble 11 pc then (bif Nat.beq pc 11 then some (.iconst 0, 1, 0, 0, false) else none) else (bif Nat.beq pc 10 then some (.istore_n 2, 1, 0, 0, false) else none)) else (bif Nat.ble 7 pc then (bif Nat.beq pc 7 then some (.invokevirtual 102, 3, 0, 0, false) else none) else (bif Nat.beq pc 4 then some (.getfield 93, 3, 0, 0, false) else none)))
    else
     (bif Nat.ble 2 pc then (bif Nat.ble 3 pc then (bif Nat.beq pc 3 then some (.aload_n 0, 1, 0, 0, false) else none) else (bif Nat.beq pc 2 then some (.iconst 0, 1, 0, 0, false) else none)) else (bif Nat.ble 1 pc then (bif Nat.beq pc 1 then some (.aload_n 1, 1, 0, 0, false) else none) else (bif Nat.beq pc 0 then some (.aload_n 0, 1, 0, 0, false) else none))))))
def qX6_fastNearestTo (pc : Nat) : Option mIn :=
  (bif Nat.ble 42 pc then
   (bif Nat.ble 64 pc then
    (bif Nat.ble 75 pc then
     (bif Nat.ble 84 pc then
      (bif Nat.ble 87 pc then (bif Nat.ble 89 pc then (bif Nat.beq pc 89 then some (.ireturn, 1, 0, 0, false) else none) else (bif Nat.beq pc 87 then some (.iload 4, 2, 0, 0, false) else none)) else (bif Nat.beq pc 84 then some (.goto (-74), 3, 10, 0, false) else none))
     else
      (bif Nat.ble 78 pc then (bif Nat.ble 81 pc then (bif Nat.beq pc 81 then some (.iinc 6 1, 3, 0, 1, false) else none) else (bif Nat.beq pc 78 then some (.goto (-42), 3, 36, 0, false) else none)) else (bif Nat.beq pc 75 then some (.iinc 7 1, 3, 0, 1, false) else none)))
    else
     (bif Nat.ble 69 pc then
      (bif Nat.ble 71 pc then (bif Nat.ble 73 pc then (bif Nat.beq pc 73 then some (.istore 4, 2, 0, 0, false) else none) else (bif Nat.beq pc 71 then some (.iload 6, 2, 0, 0, false) else none)) else (bif Nat.beq pc 69 then some (.istore 5, 2, 0, 0, false) else none))
     else
      (bif Nat.ble 67 pc then (bif Nat.beq pc 67 then some (.iload 8, 2, 0, 0, false) else none) else (bif Nat.beq pc 64 then some (.if_icmp .ge 11, 3, 75, 0, false) else none))))
   else
    (bif Nat.ble 52 pc then
     (bif Nat.ble 58 pc then
      (bif Nat.ble 60 pc then (bif Nat.ble 62 pc then (bif Nat.beq pc 62 then some (.iload 5, 2, 0, 0, false) else none) else (bif Nat.beq pc 60 then some (.iload 8, 2, 0, 0, false) else none)) else (bif Nat.beq pc 58 then some (.istore 8, 2, 0, 0, false) else none))
     else
      (bif Nat.ble 54 pc then (bif Nat.ble 55 pc then (bif Nat.beq pc 55 then some (.invokevirtual 106, 3, 0, 0, false) else none) else (bif Nat.beq pc 54 then some (.iaload, 1, 0, 0, false) else none)) else (bif Nat.beq pc 52 then some (.iload 7, 2, 0, 0, false) else none)))
    else
     (bif Nat.ble 46 pc then
      (bif Nat.ble 48 pc then (bif Nat.ble 49 pc then (bif Nat.beq pc 49 then some (.getfield 15, 3, 0, 0, false) else none) else (bif Nat.beq pc 48 then some (.aload_n 0, 1, 0, 0, false) else none)) else (bif Nat.beq pc 46 then some (.iload 6, 2, 0, 0, false) else none))
     else
      (bif Nat.ble 43 pc then (bif Nat.beq pc 43 then some (.getfield 19, 3, 0, 0, false) else none) else (bif Nat.beq pc 42 then some (.aload_n 0, 1, 0, 0, false) else none)))))
  else
   (bif Nat.ble 22 pc then
    (bif Nat.ble 30 pc then
     (bif Nat.ble 36 pc then
      (bif Nat.ble 38 pc then (bif Nat.ble 39 pc then (bif Nat.beq pc 39 then some (.if_icmp .ge 42, 3, 81, 0, false) else none) else (bif Nat.beq pc 38 then some (.iload_n 3, 1, 0, 0, false) else none)) else (bif Nat.beq pc 36 then some (.iload 7, 2, 0, 0, true) else none))
     else
      (bif Nat.ble 33 pc then (bif Nat.ble 34 pc then (bif Nat.beq pc 34 then some (.istore 7, 2, 0, 0, false) else none) else (bif Nat.beq pc 33 then some (.iload_n 2, 1, 0, 0, false) else none)) else (bif Nat.beq pc 30 then some (.if_icmp .ne 51, 3, 81, 0, false) else none)))
    else
     (bif Nat.ble 26 pc then
      (bif Nat.ble 28 pc then (bif Nat.ble 29 pc then (bif Nat.beq pc 29 then some (.iconst 4, 1, 0, 4, false) else none) else (bif Nat.beq pc 28 then some (.iaload, 1, 0, 0, false) else none)) else (bif Nat.beq pc 26 then some (.iload 6, 2, 0, 0, false) else none))
     else
      (bif Nat.ble 23 pc then (bif Nat.beq pc 23 then some (.getfield 54, 3, 0, 0, false) else none) else (bif Nat.beq pc 22 then some (.aload_n 1, 1, 0, 0, false) else none))))
   else
    (bif Nat.ble 8 pc then
     (bif Nat.ble 13 pc then
      (bif Nat.ble 16 pc then (bif Nat.ble 19 pc then (bif Nat.beq pc 19 then some (.if_icmp .ge 68, 3, 87, 0, false) else none) else (bif Nat.beq pc 16 then some (.getfield 35, 3, 0, 0, false) else none)) else (bif Nat.beq pc 13 then some (.getfield 19, 3, 0, 0, false) else none))
     else
      (bif Nat.ble 10 pc then (bif Nat.ble 12 pc then (bif Nat.beq pc 12 then some (.aload_n 0, 1, 0, 0, false) else none) else (bif Nat.beq pc 10 then some (.iload 6, 2, 0, 0, true) else none)) else (bif Nat.beq pc 8 then some (.istore 6, 2, 0, 0, false) else none)))
    else
     (bif Nat.ble 3 pc then
      (bif Nat.ble 5 pc then (bif Nat.ble 7 pc then (bif Nat.beq pc 7 then some (.iconst 0, 1, 0, 0, false) else none) else (bif Nat.beq pc 5 then some (.istore 5, 2, 0, 0, false) else none)) else (bif Nat.beq pc 3 then some (.bipush 24, 2, 0, 24, false) else none))
     else
      (bif Nat.ble 1 pc then (bif Nat.beq pc 1 then some (.istore 4, 2, 0, 0, false) else none) else (bif Nat.beq pc 0 then some (.iconst (-1), 1, 0, -1, false) else none))))))
def qX7_land (pc : Nat) : Option mIn :=
  (bif Nat.ble 25 pc then
   (bif Nat.ble 40 pc then
    (bif Nat.ble 48 pc then
     (bif Nat.ble 54 pc then (bif Nat.ble 55 pc then (bif Nat.beq pc 55 then some (.ireturn, 1, 0, 0, false) else none) else (bif Nat.beq pc 54 then some (.iconst 1, 1, 0, 1, false) else none)) else (bif Nat.ble 51 pc then (bif Nat.beq pc 51 then some (.invokevirtual 73, 3, 0, 0, false) else none) else (bif Nat.beq pc 48 then some (.getfield 53, 3, 0, 0, false) else none)))
    else
     (bif Nat.ble 44 pc then (bif Nat.ble 47 pc then (bif Nat.beq pc 47 then some (.aload_n 0, 1, 0, 0, false) else none) else (bif Nat.beq pc 44 then some (.invokevirtual 72, 3, 0, 0, false) else none)) else (bif Nat.ble 41 pc then (bif Nat.beq pc 41 then some (.getfield 37, 3, 0, 0, false) else none) else (bif Nat.beq pc 40 then some (.aload_n 0, 1, 0, 0, false) else none))))
   else
    (bif Nat.ble 30 pc then
     (bif Nat.ble 34 pc then (bif Nat.ble 37 pc then (bif Nat.beq pc 37 then some (.invokevirtual 69, 3, 0, 0, false) else none) else (bif Nat.beq pc 34 then some (.getfield 30, 3, 0, 0, false) else none)) else (bif Nat.ble 33 pc then (bif Nat.beq pc 33 then some (.aload_n 0, 1, 0, 0, false) else none) else (bif Nat.beq pc 30 then some (.invokevirtual 65, 3, 0, 0, false) else none)))
    else
     (bif Nat.ble 28 pc then (bif Nat.ble 29 pc then (bif Nat.beq pc 29 then some (.iload_n 2, 1, 0, 0, false) else none) else (bif Nat.beq pc 28 then some (.iload_n 1, 1, 0, 0, false) else none)) else (bif Nat.beq pc 25 then some (.getfield 12, 3, 0, 0, false) else none))))
  else
   (bif Nat.ble 12 pc then
    (bif Nat.ble 19 pc then
     (bif Nat.ble 23 pc then (bif Nat.ble 24 pc then (bif Nat.beq pc 24 then some (.aload_n 0, 1, 0, 0, false) else none) else (bif Nat.beq pc 23 then some (.ireturn, 1, 0, 0, false) else none)) else (bif Nat.ble 22 pc then (bif Nat.beq pc 22 then some (.iconst 0, 1, 0, 0, false) else none) else (bif Nat.beq pc 19 then some (.if_icmp .le 5, 3, 24, 0, false) else none)))
    else
     (bif Nat.ble 16 pc then (bif Nat.ble 17 pc then (bif Nat.beq pc 17 then some (.bipush 12, 2, 0, 12, false) else none) else (bif Nat.beq pc 16 then some (.iload_n 2, 1, 0, 0, false) else none)) else (bif Nat.ble 13 pc then (bif Nat.beq pc 13 then some (.if_icmp .lt 9, 3, 22, 0, false) else none) else (bif Nat.beq pc 12 then some (.iconst 1, 1, 0, 1, false) else none))))
   else
    (bif Nat.ble 5 pc then
     (bif Nat.ble 8 pc then (bif Nat.ble 11 pc then (bif Nat.beq pc 11 then some (.iload_n 2, 1, 0, 0, false) else none) else (bif Nat.beq pc 8 then some (.if_icmp .gt 14, 3, 22, 0, false) else none)) else (bif Nat.ble 6 pc then (bif Nat.beq pc 6 then some (.bipush 12, 2, 0, 12, false) else none) else (bif Nat.beq pc 5 then some (.iload_n 1, 1, 0, 0, false) else none)))
    else
     (bif Nat.ble 1 pc then (bif Nat.ble 2 pc then (bif Nat.beq pc 2 then some (.if_icmp .lt 20, 3, 22, 0, false) else none) else (bif Nat.beq pc 1 then some (.iconst 1, 1, 0, 1, false) else none)) else (bif Nat.beq pc 0 then some (.iload_n 1, 1, 0, 0, false) else none)))))
def qX7_water (pc : Nat) : Option mIn :=
  (bif Nat.ble 18 pc then
   (bif Nat.ble 24 pc then
    (bif Nat.ble 28 pc then
     (bif Nat.ble 29 pc then (bif Nat.ble 32 pc then (bif Nat.beq pc 32 then some (.ireturn, 1, 0, 0, false) else none) else (bif Nat.beq pc 29 then some (.invokevirtual 84, 3, 0, 0, false) else none)) else (bif Nat.beq pc 28 then some (.iload_n 2, 1, 0, 0, false) else none))
    else
     (bif Nat.ble 27 pc then (bif Nat.beq pc 27 then some (.iload_n 1, 1, 0, 0, false) else none) else (bif Nat.beq pc 24 then some (.getfield 30, 3, 0, 0, false) else none)))
   else
    (bif Nat.ble 22 pc then (bif Nat.ble 23 pc then (bif Nat.beq pc 23 then some (.aload_n 0, 1, 0, 0, false) else none) else (bif Nat.beq pc 22 then some (.ireturn, 1, 0, 0, false) else none)) else (bif Nat.ble 21 pc then (bif Nat.beq pc 21 then some (.iconst (-1), 1, 0, -1, false) else none) else (bif Nat.beq pc 18 then some (.ifCond .eq 5, 3, 23, 0, false) else none))))
  else
   (bif Nat.ble 8 pc then
    (bif Nat.ble 12 pc then (bif Nat.ble 15 pc then (bif Nat.beq pc 15 then some (.invokevirtual 80, 3, 0, 0, false) else none) else (bif Nat.beq pc 12 then some (.getfield 30, 3, 0, 0, false) else none)) else (bif Nat.ble 11 pc then (bif Nat.beq pc 11 then some (.aload_n 0, 1, 0, 0, false) else none) else (bif Nat.beq pc 8 then some (.ifCond .eq 13, 3, 21, 0, false) else none)))
   else
    (bif Nat.ble 4 pc then (bif Nat.ble 5 pc then (bif Nat.beq pc 5 then some (.invokevirtual 76, 3, 0, 0, false) else none) else (bif Nat.beq pc 4 then some (.iload_n 1, 1, 0, 0, false) else none)) else (bif Nat.ble 1 pc then (bif Nat.beq pc 1 then some (.getfield 12, 3, 0, 0, false) else none) else (bif Nat.beq pc 0 then some (.aload_n 0, 1, 0, 0, false) else none)))))
def qX7_sheet (pc : Nat) : Option mIn :=
  (bif Nat.ble 65 pc then
   (bif Nat.ble 99 pc then
    (bif Nat.ble 116 pc then
     (bif Nat.ble 125 pc then
      (bif Nat.ble 129 pc then
       (bif Nat.ble 132 pc then (bif Nat.ble 134 pc then (bif Nat.beq pc 134 then some (.ireturn, 1, 0, 0, false) else none) else (bif Nat.beq pc 132 then some (.iload 7, 2, 0, 0, false) else none)) else (bif Nat.beq pc 129 then some (.goto (-47), 3, 82, 0, false) else none))
      else
       (bif Nat.ble 126 pc then (bif Nat.beq pc 126 then some (.iinc 8 1, 3, 0, 1, false) else none) else (bif Nat.beq pc 125 then some (.pop, 1, 0, 0, false) else none)))
     else
      (bif Nat.ble 120 pc then (bif Nat.ble 122 pc then (bif Nat.beq pc 122 then some (.invokevirtual 84, 3, 0, 0, false) else none) else (bif Nat.beq pc 120 then some (.iload 9, 2, 0, 0, false) else none)) else (bif Nat.ble 117 pc then (bif Nat.beq pc 117 then some (.goto 5, 3, 122, 0, false) else none) else (bif Nat.beq pc 116 then some (.iand, 1, 0, 0, false) else none))))
    else
     (bif Nat.ble 106 pc then
      (bif Nat.ble 108 pc then
       (bif Nat.ble 111 pc then (bif Nat.ble 113 pc then (bif Nat.beq pc 113 then some (.sipush 255, 3, 0, 255, false) else none) else (bif Nat.beq pc 111 then some (.iload 9, 2, 0, 0, false) else none)) else (bif Nat.beq pc 108 then some (.ifCond .ne 12, 3, 120, 0, false) else none))
      else
       (bif Nat.ble 107 pc then (bif Nat.beq pc 107 then some (.iload_n 2, 1, 0, 0, false) else none) else (bif Nat.beq pc 106 then some (.iadd, 1, 0, 0, false) else none)))
     else
      (bif Nat.ble 103 pc then (bif Nat.ble 104 pc then (bif Nat.beq pc 104 then some (.iload 8, 2, 0, 0, false) else none) else (bif Nat.beq pc 103 then some (.iload_n 1, 1, 0, 0, false) else none)) else (bif Nat.ble 100 pc then (bif Nat.beq pc 100 then some (.getfield 30, 3, 0, 0, false) else none) else (bif Nat.beq pc 99 then some (.aload_n 0, 1, 0, 0, false) else none)))))
   else
    (bif Nat.ble 82 pc then
     (bif Nat.ble 91 pc then
      (bif Nat.ble 95 pc then
       (bif Nat.ble 96 pc then (bif Nat.ble 97 pc then (bif Nat.beq pc 97 then some (.istore 9, 2, 0, 0, false) else none) else (bif Nat.beq pc 96 then some (.iadd, 1, 0, 0, false) else none)) else (bif Nat.beq pc 95 then some (.imul, 1, 0, 0, false) else none))
      else
       (bif Nat.ble 93 pc then (bif Nat.beq pc 93 then some (.iload 5, 2, 0, 0, false) else none) else (bif Nat.beq pc 91 then some (.iload 8, 2, 0, 0, false) else none)))
     else
      (bif Nat.ble 86 pc then (bif Nat.ble 89 pc then (bif Nat.beq pc 89 then some (.iload 4, 2, 0, 0, false) else none) else (bif Nat.beq pc 86 then some (.if_icmp .ge 46, 3, 132, 0, false) else none)) else (bif Nat.ble 84 pc then (bif Nat.beq pc 84 then some (.iload 7, 2, 0, 0, false) else none) else (bif Nat.beq pc 82 then some (.iload 8, 2, 0, 0, true) else none))))
    else
     (bif Nat.ble 73 pc then
      (bif Nat.ble 77 pc then
       (bif Nat.ble 79 pc then (bif Nat.ble 80 pc then (bif Nat.beq pc 80 then some (.istore 8, 2, 0, 0, false) else none) else (bif Nat.beq pc 79 then some (.iconst 0, 1, 0, 0, false) else none)) else (bif Nat.beq pc 77 then some (.istore 7, 2, 0, 0, false) else none))
      else
       (bif Nat.ble 74 pc then (bif Nat.beq pc 74 then some (.invokestatic 91, 3, 0, 0, false) else none) else (bif Nat.beq pc 73 then some (.isub, 1, 0, 0, false) else none)))
     else
      (bif Nat.ble 69 pc then (bif Nat.ble 72 pc then (bif Nat.beq pc 72 then some (.iload_n 1, 1, 0, 0, false) else none) else (bif Nat.beq pc 69 then some (.getfield 88, 3, 0, 0, false) else none)) else (bif Nat.ble 66 pc then (bif Nat.beq pc 66 then some (.getfield 12, 3, 0, 0, false) else none) else (bif Nat.beq pc 65 then some (.aload_n 0, 1, 0, 0, false) else none))))))
  else
   (bif Nat.ble 33 pc then
    (bif Nat.ble 51 pc then
     (bif Nat.ble 57 pc then
      (bif Nat.ble 61 pc then
       (bif Nat.ble 63 pc then (bif Nat.ble 64 pc then (bif Nat.beq pc 64 then some (.iload_n 3, 1, 0, 0, false) else none) else (bif Nat.beq pc 63 then some (.ireturn, 1, 0, 0, false) else none)) else (bif Nat.beq pc 61 then some (.bipush (-2), 2, 0, -2, false) else none))
      else
       (bif Nat.ble 58 pc then (bif Nat.beq pc 58 then some (.ifCond .ge 6, 3, 64, 0, false) else none) else (bif Nat.beq pc 57 then some (.iload_n 3, 1, 0, 0, false) else none)))
     else
      (bif Nat.ble 55 pc then (bif Nat.ble 56 pc then (bif Nat.beq pc 56 then some (.ireturn, 1, 0, 0, false) else none) else (bif Nat.beq pc 55 then some (.iconst 0, 1, 0, 0, false) else none)) else (bif Nat.ble 52 pc then (bif Nat.beq pc 52 then some (.if_icmp .ne 5, 3, 57, 0, false) else none) else (bif Nat.beq pc 51 then some (.iconst 2, 1, 0, 2, false) else none))))
    else
     (bif Nat.ble 42 pc then
      (bif Nat.ble 48 pc then
       (bif Nat.ble 49 pc then (bif Nat.ble 50 pc then (bif Nat.beq pc 50 then some (.iload_n 2, 1, 0, 0, false) else none) else (bif Nat.beq pc 49 then some (.ireturn, 1, 0, 0, false) else none)) else (bif Nat.beq pc 48 then some (.iconst (-1), 1, 0, -1, false) else none))
      else
       (bif Nat.ble 45 pc then (bif Nat.beq pc 45 then some (.ifCond .eq 5, 3, 50, 0, false) else none) else (bif Nat.beq pc 42 then some (.invokevirtual 80, 3, 0, 0, false) else none)))
     else
      (bif Nat.ble 38 pc then (bif Nat.ble 39 pc then (bif Nat.beq pc 39 then some (.getfield 30, 3, 0, 0, false) else none) else (bif Nat.beq pc 38 then some (.aload_n 0, 1, 0, 0, false) else none)) else (bif Nat.ble 35 pc then (bif Nat.beq pc 35 then some (.if_icmp .gt 13, 3, 48, 0, false) else none) else (bif Nat.beq pc 33 then some (.bipush 20, 2, 0, 20, false) else none)))))
   else
    (bif Nat.ble 14 pc then
     (bif Nat.ble 21 pc then
      (bif Nat.ble 27 pc then
       (bif Nat.ble 29 pc then (bif Nat.ble 32 pc then (bif Nat.beq pc 32 then some (.iload_n 3, 1, 0, 0, false) else none) else (bif Nat.beq pc 29 then some (.ifCond .eq 19, 3, 48, 0, false) else none)) else (bif Nat.beq pc 27 then some (.iload 6, 2, 0, 0, false) else none))
      else
       (bif Nat.ble 24 pc then (bif Nat.beq pc 24 then some (.ifCond .eq 24, 3, 48, 0, false) else none) else (bif Nat.beq pc 21 then some (.invokevirtual 76, 3, 0, 0, false) else none)))
     else
      (bif Nat.ble 17 pc then (bif Nat.ble 20 pc then (bif Nat.beq pc 20 then some (.iload_n 1, 1, 0, 0, false) else none) else (bif Nat.beq pc 17 then some (.getfield 12, 3, 0, 0, false) else none)) else (bif Nat.ble 16 pc then (bif Nat.beq pc 16 then some (.aload_n 0, 1, 0, 0, false) else none) else (bif Nat.beq pc 14 then some (.istore 6, 2, 0, 0, false) else none))))
    else
     (bif Nat.ble 6 pc then
      (bif Nat.ble 10 pc then (bif Nat.ble 13 pc then (bif Nat.beq pc 13 then some (.iconst 0, 1, 0, 0, false) else none) else (bif Nat.beq pc 10 then some (.goto 4, 3, 14, 0, false) else none)) else (bif Nat.ble 9 pc then (bif Nat.beq pc 9 then some (.iconst 1, 1, 0, 1, false) else none) else (bif Nat.beq pc 6 then some (.if_icmp .gt 7, 3, 13, 0, false) else none)))
     else
      (bif Nat.ble 4 pc then (bif Nat.ble 5 pc then (bif Nat.beq pc 5 then some (.iconst 2, 1, 0, 2, false) else none) else (bif Nat.beq pc 4 then some (.iload_n 2, 1, 0, 0, false) else none)) else (bif Nat.ble 1 pc then (bif Nat.beq pc 1 then some (.ifCond .lt 12, 3, 13, 0, false) else none) else (bif Nat.beq pc 0 then some (.iload_n 2, 1, 0, 0, false) else none)))))))
def qX7_map (pc : Nat) : Option mIn :=
  (bif Nat.ble 19 pc then
   (bif Nat.ble 30 pc then
    (bif Nat.ble 34 pc then
     (bif Nat.ble 35 pc then (bif Nat.ble 38 pc then (bif Nat.beq pc 38 then some (.ireturn, 1, 0, 0, false) else none) else (bif Nat.beq pc 35 then some (.invokevirtual 103, 3, 0, 0, false) else none)) else (bif Nat.beq pc 34 then some (.iload_n 1, 1, 0, 0, false) else none))
    else
     (bif Nat.ble 31 pc then (bif Nat.beq pc 31 then some (.getfield 30, 3, 0, 0, false) else none) else (bif Nat.beq pc 30 then some (.aload_n 0, 1, 0, 0, false) else none)))
   else
    (bif Nat.ble 25 pc then
     (bif Nat.ble 28 pc then (bif Nat.ble 29 pc then (bif Nat.beq pc 29 then some (.ireturn, 1, 0, 0, false) else none) else (bif Nat.beq pc 28 then some (.iconst (-1), 1, 0, -1, false) else none)) else (bif Nat.beq pc 25 then some (.if_icmp .gt 5, 3, 30, 0, false) else none))
    else
     (bif Nat.ble 22 pc then (bif Nat.beq pc 22 then some (.invokevirtual 99, 3, 0, 0, false) else none) else (bif Nat.beq pc 19 then some (.getfield 30, 3, 0, 0, false) else none))))
  else
   (bif Nat.ble 8 pc then
    (bif Nat.ble 14 pc then
     (bif Nat.ble 17 pc then (bif Nat.ble 18 pc then (bif Nat.beq pc 18 then some (.aload_n 0, 1, 0, 0, false) else none) else (bif Nat.beq pc 17 then some (.iload_n 1, 1, 0, 0, false) else none)) else (bif Nat.beq pc 14 then some (.ifCond .ne 14, 3, 28, 0, false) else none))
    else
     (bif Nat.ble 11 pc then (bif Nat.beq pc 11 then some (.invokevirtual 80, 3, 0, 0, false) else none) else (bif Nat.beq pc 8 then some (.getfield 30, 3, 0, 0, false) else none)))
   else
    (bif Nat.ble 4 pc then (bif Nat.ble 7 pc then (bif Nat.beq pc 7 then some (.aload_n 0, 1, 0, 0, false) else none) else (bif Nat.beq pc 4 then some (.ifCond .eq 24, 3, 28, 0, false) else none)) else (bif Nat.ble 1 pc then (bif Nat.beq pc 1 then some (.invokestatic 96, 3, 0, 0, false) else none) else (bif Nat.beq pc 0 then some (.iload_n 1, 1, 0, 0, false) else none)))))
def qX7_own (pc : Nat) : Option mIn :=
  (bif Nat.ble 30 pc then
   (bif Nat.ble 41 pc then
    (bif Nat.ble 45 pc then
     (bif Nat.ble 50 pc then (bif Nat.ble 51 pc then (bif Nat.beq pc 51 then some (.ireturn, 1, 0, 0, false) else none) else (bif Nat.beq pc 50 then some (.iconst 1, 1, 0, 1, false) else none)) else (bif Nat.ble 47 pc then (bif Nat.beq pc 47 then some (.invokevirtual 117, 3, 0, 0, false) else none) else (bif Nat.beq pc 45 then some (.iload 5, 2, 0, 0, false) else none)))
    else
     (bif Nat.ble 42 pc then (bif Nat.ble 43 pc then (bif Nat.beq pc 43 then some (.iload 4, 2, 0, 0, false) else none) else (bif Nat.beq pc 42 then some (.iload_n 3, 1, 0, 0, false) else none)) else (bif Nat.beq pc 41 then some (.iload_n 2, 1, 0, 0, false) else none)))
   else
    (bif Nat.ble 35 pc then
     (bif Nat.ble 37 pc then (bif Nat.ble 40 pc then (bif Nat.beq pc 40 then some (.iload_n 1, 1, 0, 0, false) else none) else (bif Nat.beq pc 37 then some (.getfield 53, 3, 0, 0, false) else none)) else (bif Nat.ble 36 pc then (bif Nat.beq pc 36 then some (.aload_n 0, 1, 0, 0, false) else none) else (bif Nat.beq pc 35 then some (.ireturn, 1, 0, 0, false) else none)))
    else
     (bif Nat.ble 31 pc then (bif Nat.ble 34 pc then (bif Nat.beq pc 34 then some (.iconst 0, 1, 0, 0, false) else none) else (bif Nat.beq pc 31 then some (.if_icmp .le 5, 3, 36, 0, false) else none)) else (bif Nat.beq pc 30 then some (.iconst 1, 1, 0, 1, false) else none))))
  else
   (bif Nat.ble 12 pc then
    (bif Nat.ble 20 pc then
     (bif Nat.ble 24 pc then (bif Nat.ble 27 pc then (bif Nat.beq pc 27 then some (.getfield 114, 3, 0, 0, false) else none) else (bif Nat.beq pc 24 then some (.getfield 30, 3, 0, 0, false) else none)) else (bif Nat.ble 23 pc then (bif Nat.beq pc 23 then some (.aload_n 0, 1, 0, 0, false) else none) else (bif Nat.beq pc 20 then some (.ifCond .eq 14, 3, 34, 0, false) else none)))
    else
     (bif Nat.ble 15 pc then (bif Nat.ble 17 pc then (bif Nat.beq pc 17 then some (.invokestatic 111, 3, 0, 0, false) else none) else (bif Nat.beq pc 15 then some (.iload 5, 2, 0, 0, false) else none)) else (bif Nat.beq pc 12 then some (.ifCond .eq 22, 3, 34, 0, false) else none)))
   else
    (bif Nat.ble 5 pc then
     (bif Nat.ble 7 pc then (bif Nat.ble 9 pc then (bif Nat.beq pc 9 then some (.invokevirtual 107, 3, 0, 0, false) else none) else (bif Nat.beq pc 7 then some (.iload 4, 2, 0, 0, false) else none)) else (bif Nat.ble 6 pc then (bif Nat.beq pc 6 then some (.iload_n 3, 1, 0, 0, false) else none) else (bif Nat.beq pc 5 then some (.iload_n 2, 1, 0, 0, false) else none)))
    else
     (bif Nat.ble 1 pc then (bif Nat.ble 4 pc then (bif Nat.beq pc 4 then some (.iload_n 1, 1, 0, 0, false) else none) else (bif Nat.beq pc 1 then some (.getfield 12, 3, 0, 0, false) else none)) else (bif Nat.beq pc 0 then some (.aload_n 0, 1, 0, 0, false) else none)))))
def qX7_deed (pc : Nat) : Option mIn :=
  (bif Nat.ble 32 pc then
   (bif Nat.ble 47 pc then
    (bif Nat.ble 52 pc then
     (bif Nat.ble 56 pc then (bif Nat.ble 59 pc then (bif Nat.beq pc 59 then some (.ireturn, 1, 0, 0, false) else none) else (bif Nat.beq pc 56 then some (.invokevirtual 125, 3, 0, 0, false) else none)) else (bif Nat.ble 54 pc then (bif Nat.beq pc 54 then some (.iload 6, 2, 0, 0, false) else none) else (bif Nat.beq pc 52 then some (.iload 5, 2, 0, 0, false) else none)))
    else
     (bif Nat.ble 49 pc then (bif Nat.ble 50 pc then (bif Nat.beq pc 50 then some (.iload 4, 2, 0, 0, false) else none) else (bif Nat.beq pc 49 then some (.iload_n 3, 1, 0, 0, false) else none)) else (bif Nat.ble 48 pc then (bif Nat.beq pc 48 then some (.iload_n 2, 1, 0, 0, false) else none) else (bif Nat.beq pc 47 then some (.iload_n 1, 1, 0, 0, false) else none))))
   else
    (bif Nat.ble 41 pc then
     (bif Nat.ble 43 pc then (bif Nat.ble 44 pc then (bif Nat.beq pc 44 then some (.getfield 37, 3, 0, 0, false) else none) else (bif Nat.beq pc 43 then some (.aload_n 0, 1, 0, 0, false) else none)) else (bif Nat.ble 42 pc then (bif Nat.beq pc 42 then some (.ireturn, 1, 0, 0, false) else none) else (bif Nat.beq pc 41 then some (.iconst (-1), 1, 0, -1, false) else none)))
    else
     (bif Nat.ble 35 pc then (bif Nat.ble 38 pc then (bif Nat.beq pc 38 then some (.ifCond .eq 5, 3, 43, 0, false) else none) else (bif Nat.beq pc 35 then some (.invokevirtual 124, 3, 0, 0, false) else none)) else (bif Nat.beq pc 32 then some (.getfield 37, 3, 0, 0, false) else none))))
  else
   (bif Nat.ble 12 pc then
    (bif Nat.ble 23 pc then
     (bif Nat.ble 28 pc then (bif Nat.ble 31 pc then (bif Nat.beq pc 31 then some (.aload_n 0, 1, 0, 0, false) else none) else (bif Nat.beq pc 28 then some (.ifCond .eq 13, 3, 41, 0, false) else none)) else (bif Nat.ble 25 pc then (bif Nat.beq pc 25 then some (.invokestatic 96, 3, 0, 0, false) else none) else (bif Nat.beq pc 23 then some (.iload 6, 2, 0, 0, false) else none)))
    else
     (bif Nat.ble 17 pc then (bif Nat.ble 20 pc then (bif Nat.beq pc 20 then some (.ifCond .eq 21, 3, 41, 0, false) else none) else (bif Nat.beq pc 17 then some (.invokestatic 121, 3, 0, 0, false) else none)) else (bif Nat.ble 15 pc then (bif Nat.beq pc 15 then some (.iload 5, 2, 0, 0, false) else none) else (bif Nat.beq pc 12 then some (.ifCond .eq 29, 3, 41, 0, false) else none))))
   else
    (bif Nat.ble 5 pc then
     (bif Nat.ble 7 pc then (bif Nat.ble 9 pc then (bif Nat.beq pc 9 then some (.invokevirtual 107, 3, 0, 0, false) else none) else (bif Nat.beq pc 7 then some (.iload 4, 2, 0, 0, false) else none)) else (bif Nat.ble 6 pc then (bif Nat.beq pc 6 then some (.iload_n 3, 1, 0, 0, false) else none) else (bif Nat.beq pc 5 then some (.iload_n 2, 1, 0, 0, false) else none)))
    else
     (bif Nat.ble 1 pc then (bif Nat.ble 4 pc then (bif Nat.beq pc 4 then some (.iload_n 1, 1, 0, 0, false) else none) else (bif Nat.beq pc 1 then some (.getfield 12, 3, 0, 0, false) else none)) else (bif Nat.beq pc 0 then some (.aload_n 0, 1, 0, 0, false) else none)))))
def qX7_strike (pc : Nat) : Option mIn :=
  (bif Nat.ble 13 pc then
   (bif Nat.ble 21 pc then
    (bif Nat.ble 23 pc then (bif Nat.ble 24 pc then (bif Nat.beq pc 24 then some (.ireturn, 1, 0, 0, false) else none) else (bif Nat.beq pc 23 then some (.iconst 1, 1, 0, 1, false) else none)) else (bif Nat.ble 22 pc then (bif Nat.beq pc 22 then some (.bastore, 1, 0, 0, false) else none) else (bif Nat.beq pc 21 then some (.iload_n 2, 1, 0, 0, false) else none)))
   else
    (bif Nat.ble 17 pc then (bif Nat.ble 20 pc then (bif Nat.beq pc 20 then some (.iload_n 1, 1, 0, 0, false) else none) else (bif Nat.beq pc 17 then some (.getfield 131, 3, 0, 0, false) else none)) else (bif Nat.ble 14 pc then (bif Nat.beq pc 14 then some (.getfield 37, 3, 0, 0, false) else none) else (bif Nat.beq pc 13 then some (.aload_n 0, 1, 0, 0, false) else none))))
  else
   (bif Nat.ble 5 pc then
    (bif Nat.ble 11 pc then (bif Nat.ble 12 pc then (bif Nat.beq pc 12 then some (.ireturn, 1, 0, 0, false) else none) else (bif Nat.beq pc 11 then some (.iconst 0, 1, 0, 0, false) else none)) else (bif Nat.ble 8 pc then (bif Nat.beq pc 8 then some (.ifCond .ne 5, 3, 13, 0, false) else none) else (bif Nat.beq pc 5 then some (.invokevirtual 128, 3, 0, 0, false) else none)))
   else
    (bif Nat.ble 1 pc then (bif Nat.ble 4 pc then (bif Nat.beq pc 4 then some (.iload_n 1, 1, 0, 0, false) else none) else (bif Nat.beq pc 1 then some (.getfield 37, 3, 0, 0, false) else none)) else (bif Nat.beq pc 0 then some (.aload_n 0, 1, 0, 0, false) else none))))
def qX7_law (pc : Nat) : Option mIn :=
  (bif Nat.ble 35 pc then
   (bif Nat.ble 57 pc then
    (bif Nat.ble 64 pc then
     (bif Nat.ble 66 pc then
      (bif Nat.ble 68 pc then (bif Nat.ble 71 pc then (bif Nat.beq pc 71 then some (.ireturn, 1, 0, 0, false) else none) else (bif Nat.beq pc 68 then some (.invokevirtual 140, 3, 0, 0, false) else none)) else (bif Nat.beq pc 66 then some (.iload 4, 2, 0, 0, false) else none))
     else
      (bif Nat.ble 65 pc then (bif Nat.beq pc 65 then some (.iload_n 3, 1, 0, 0, false) else none) else (bif Nat.beq pc 64 then some (.iload_n 2, 1, 0, 0, false) else none)))
    else
     (bif Nat.ble 59 pc then
      (bif Nat.ble 60 pc then (bif Nat.ble 63 pc then (bif Nat.beq pc 63 then some (.iload_n 1, 1, 0, 0, false) else none) else (bif Nat.beq pc 60 then some (.getfield 44, 3, 0, 0, false) else none)) else (bif Nat.beq pc 59 then some (.aload_n 0, 1, 0, 0, false) else none))
     else
      (bif Nat.ble 58 pc then (bif Nat.beq pc 58 then some (.ireturn, 1, 0, 0, false) else none) else (bif Nat.beq pc 57 then some (.iconst (-1), 1, 0, -1, false) else none))))
   else
    (bif Nat.ble 44 pc then
     (bif Nat.ble 48 pc then
      (bif Nat.ble 51 pc then (bif Nat.ble 54 pc then (bif Nat.beq pc 54 then some (.ifCond .eq 5, 3, 59, 0, false) else none) else (bif Nat.beq pc 51 then some (.invokevirtual 139, 3, 0, 0, false) else none)) else (bif Nat.beq pc 48 then some (.getfield 44, 3, 0, 0, false) else none))
     else
      (bif Nat.ble 47 pc then (bif Nat.beq pc 47 then some (.aload_n 0, 1, 0, 0, false) else none) else (bif Nat.beq pc 44 then some (.ifCond .eq 13, 3, 57, 0, false) else none)))
    else
     (bif Nat.ble 39 pc then (bif Nat.ble 42 pc then (bif Nat.beq pc 42 then some (.iload 5, 2, 0, 0, false) else none) else (bif Nat.beq pc 39 then some (.ifCond .eq 18, 3, 57, 0, false) else none)) else (bif Nat.ble 36 pc then (bif Nat.beq pc 36 then some (.invokestatic 96, 3, 0, 0, false) else none) else (bif Nat.beq pc 35 then some (.iload_n 1, 1, 0, 0, false) else none)))))
  else
   (bif Nat.ble 15 pc then
    (bif Nat.ble 25 pc then
     (bif Nat.ble 29 pc then
      (bif Nat.ble 32 pc then (bif Nat.ble 33 pc then (bif Nat.beq pc 33 then some (.istore 5, 2, 0, 0, false) else none) else (bif Nat.beq pc 32 then some (.iconst 0, 1, 0, 0, false) else none)) else (bif Nat.beq pc 29 then some (.goto 4, 3, 33, 0, false) else none))
     else
      (bif Nat.ble 28 pc then (bif Nat.beq pc 28 then some (.iconst 1, 1, 0, 1, false) else none) else (bif Nat.beq pc 25 then some (.ifCond .eq 7, 3, 32, 0, false) else none)))
    else
     (bif Nat.ble 20 pc then
      (bif Nat.ble 21 pc then (bif Nat.ble 22 pc then (bif Nat.beq pc 22 then some (.invokestatic 135, 3, 0, 0, false) else none) else (bif Nat.beq pc 21 then some (.iconst 2, 1, 0, 2, false) else none)) else (bif Nat.beq pc 20 then some (.iconst 0, 1, 0, 0, false) else none))
     else
      (bif Nat.ble 18 pc then (bif Nat.beq pc 18 then some (.iload 4, 2, 0, 0, false) else none) else (bif Nat.beq pc 15 then some (.ifCond .eq 17, 3, 32, 0, false) else none))))
   else
    (bif Nat.ble 6 pc then
     (bif Nat.ble 10 pc then
      (bif Nat.ble 11 pc then (bif Nat.ble 12 pc then (bif Nat.beq pc 12 then some (.invokestatic 135, 3, 0, 0, false) else none) else (bif Nat.beq pc 11 then some (.iconst 1, 1, 0, 1, false) else none)) else (bif Nat.beq pc 10 then some (.iconst 0, 1, 0, 0, false) else none))
     else
      (bif Nat.ble 9 pc then (bif Nat.beq pc 9 then some (.iload_n 3, 1, 0, 0, false) else none) else (bif Nat.beq pc 6 then some (.ifCond .eq 26, 3, 32, 0, false) else none)))
    else
     (bif Nat.ble 2 pc then (bif Nat.ble 3 pc then (bif Nat.beq pc 3 then some (.invokestatic 135, 3, 0, 0, false) else none) else (bif Nat.beq pc 2 then some (.iconst 1, 1, 0, 1, false) else none)) else (bif Nat.ble 1 pc then (bif Nat.beq pc 1 then some (.iconst 0, 1, 0, 0, false) else none) else (bif Nat.beq pc 0 then some (.iload_n 2, 1, 0, 0, false) else none))))))
def qX7_reach (pc : Nat) : Option mIn :=
  (bif Nat.ble 13 pc then
   (bif Nat.ble 21 pc then
    (bif Nat.ble 25 pc then
     (bif Nat.ble 28 pc then (bif Nat.ble 29 pc then (bif Nat.beq pc 29 then some (.ireturn, 1, 0, 0, false) else none) else (bif Nat.beq pc 28 then some (.iload_n 2, 1, 0, 0, false) else none)) else (bif Nat.beq pc 25 then some (.putfield 143, 3, 0, 0, false) else none))
    else
     (bif Nat.ble 24 pc then (bif Nat.beq pc 24 then some (.iload_n 1, 1, 0, 0, false) else none) else (bif Nat.beq pc 21 then some (.getfield 30, 3, 0, 0, false) else none)))
   else
    (bif Nat.ble 19 pc then (bif Nat.ble 20 pc then (bif Nat.beq pc 20 then some (.aload_n 0, 1, 0, 0, false) else none) else (bif Nat.beq pc 19 then some (.istore_n 2, 1, 0, 0, false) else none)) else (bif Nat.ble 16 pc then (bif Nat.beq pc 16 then some (.getfield 143, 3, 0, 0, false) else none) else (bif Nat.beq pc 13 then some (.getfield 30, 3, 0, 0, false) else none))))
  else
   (bif Nat.ble 7 pc then
    (bif Nat.ble 11 pc then (bif Nat.ble 12 pc then (bif Nat.beq pc 12 then some (.aload_n 0, 1, 0, 0, false) else none) else (bif Nat.beq pc 11 then some (.ireturn, 1, 0, 0, false) else none)) else (bif Nat.ble 10 pc then (bif Nat.beq pc 10 then some (.iconst (-1), 1, 0, -1, false) else none) else (bif Nat.beq pc 7 then some (.ifCond .ne 5, 3, 12, 0, false) else none)))
   else
    (bif Nat.ble 2 pc then (bif Nat.ble 4 pc then (bif Nat.beq pc 4 then some (.invokestatic 135, 3, 0, 0, false) else none) else (bif Nat.beq pc 2 then some (.bipush 12, 2, 0, 12, false) else none)) else (bif Nat.ble 1 pc then (bif Nat.beq pc 1 then some (.iconst 1, 1, 0, 1, false) else none) else (bif Nat.beq pc 0 then some (.iload_n 1, 1, 0, 0, false) else none)))))
def qX7_judge (pc : Nat) : Option mIn :=
  (bif Nat.ble 20 pc then
   (bif Nat.ble 29 pc then
    (bif Nat.ble 32 pc then
     (bif Nat.ble 35 pc then (bif Nat.ble 36 pc then (bif Nat.beq pc 36 then some (.ireturn, 1, 0, 0, false) else none) else (bif Nat.beq pc 35 then some (.iconst 1, 1, 0, 1, false) else none)) else (bif Nat.beq pc 32 then some (.putfield 153, 3, 0, 0, false) else none))
    else
     (bif Nat.ble 30 pc then (bif Nat.ble 31 pc then (bif Nat.beq pc 31 then some (.iload_n 2, 1, 0, 0, false) else none) else (bif Nat.beq pc 30 then some (.aaload, 1, 0, 0, false) else none)) else (bif Nat.beq pc 29 then some (.iload_n 1, 1, 0, 0, false) else none)))
   else
    (bif Nat.ble 22 pc then
     (bif Nat.ble 23 pc then (bif Nat.ble 26 pc then (bif Nat.beq pc 26 then some (.getfield 149, 3, 0, 0, false) else none) else (bif Nat.beq pc 23 then some (.getfield 30, 3, 0, 0, false) else none)) else (bif Nat.beq pc 22 then some (.aload_n 0, 1, 0, 0, false) else none))
    else
     (bif Nat.ble 21 pc then (bif Nat.beq pc 21 then some (.ireturn, 1, 0, 0, false) else none) else (bif Nat.beq pc 20 then some (.iconst 0, 1, 0, 0, false) else none))))
  else
   (bif Nat.ble 11 pc then
    (bif Nat.ble 13 pc then
     (bif Nat.ble 14 pc then (bif Nat.ble 17 pc then (bif Nat.beq pc 17 then some (.ifCond .ne 5, 3, 22, 0, false) else none) else (bif Nat.beq pc 14 then some (.invokestatic 135, 3, 0, 0, false) else none)) else (bif Nat.beq pc 13 then some (.iconst 1, 1, 0, 1, false) else none))
    else
     (bif Nat.ble 12 pc then (bif Nat.beq pc 12 then some (.iconst (-1), 1, 0, -1, false) else none) else (bif Nat.beq pc 11 then some (.iload_n 2, 1, 0, 0, false) else none)))
   else
    (bif Nat.ble 4 pc then
     (bif Nat.ble 5 pc then (bif Nat.ble 8 pc then (bif Nat.beq pc 8 then some (.ifCond .eq 12, 3, 20, 0, false) else none) else (bif Nat.beq pc 5 then some (.invokevirtual 146, 3, 0, 0, false) else none)) else (bif Nat.beq pc 4 then some (.iload_n 1, 1, 0, 0, false) else none))
    else
     (bif Nat.ble 1 pc then (bif Nat.beq pc 1 then some (.getfield 30, 3, 0, 0, false) else none) else (bif Nat.beq pc 0 then some (.aload_n 0, 1, 0, 0, false) else none)))))
def qX7_count (pc : Nat) : Option mIn :=
  (bif Nat.ble 79 pc then
   (bif Nat.ble 96 pc then
    (bif Nat.ble 104 pc then
     (bif Nat.ble 108 pc then
      (bif Nat.ble 109 pc then (bif Nat.ble 110 pc then (bif Nat.beq pc 110 then some (.ireturn, 1, 0, 0, false) else none) else (bif Nat.beq pc 109 then some (.iconst (-1), 1, 0, -1, false) else none)) else (bif Nat.beq pc 108 then some (.ireturn, 1, 0, 0, false) else none))
     else
      (bif Nat.ble 105 pc then (bif Nat.beq pc 105 then some (.getfield 61, 3, 0, 0, false) else none) else (bif Nat.beq pc 104 then some (.aload_n 0, 1, 0, 0, false) else none)))
    else
     (bif Nat.ble 100 pc then (bif Nat.ble 103 pc then (bif Nat.beq pc 103 then some (.ireturn, 1, 0, 0, false) else none) else (bif Nat.beq pc 100 then some (.getfield 143, 3, 0, 0, false) else none)) else (bif Nat.ble 97 pc then (bif Nat.beq pc 97 then some (.getfield 30, 3, 0, 0, false) else none) else (bif Nat.beq pc 96 then some (.aload_n 0, 1, 0, 0, false) else none))))
   else
    (bif Nat.ble 87 pc then
     (bif Nat.ble 89 pc then
      (bif Nat.ble 92 pc then (bif Nat.ble 95 pc then (bif Nat.beq pc 95 then some (.ireturn, 1, 0, 0, false) else none) else (bif Nat.beq pc 92 then some (.getfield 167, 3, 0, 0, false) else none)) else (bif Nat.beq pc 89 then some (.getfield 44, 3, 0, 0, false) else none))
     else
      (bif Nat.ble 88 pc then (bif Nat.beq pc 88 then some (.aload_n 0, 1, 0, 0, false) else none) else (bif Nat.beq pc 87 then some (.ireturn, 1, 0, 0, false) else none)))
    else
     (bif Nat.ble 81 pc then (bif Nat.ble 84 pc then (bif Nat.beq pc 84 then some (.invokevirtual 164, 3, 0, 0, false) else none) else (bif Nat.beq pc 81 then some (.getfield 37, 3, 0, 0, false) else none)) else (bif Nat.ble 80 pc then (bif Nat.beq pc 80 then some (.aload_n 0, 1, 0, 0, false) else none) else (bif Nat.beq pc 79 then some (.ireturn, 1, 0, 0, false) else none)))))
  else
   (bif Nat.ble 60 pc then
    (bif Nat.ble 68 pc then
     (bif Nat.ble 72 pc then
      (bif Nat.ble 73 pc then (bif Nat.ble 76 pc then (bif Nat.beq pc 76 then some (.getfield 161, 3, 0, 0, false) else none) else (bif Nat.beq pc 73 then some (.getfield 37, 3, 0, 0, false) else none)) else (bif Nat.beq pc 72 then some (.aload_n 0, 1, 0, 0, false) else none))
     else
      (bif Nat.ble 71 pc then (bif Nat.beq pc 71 then some (.ireturn, 1, 0, 0, false) else none) else (bif Nat.beq pc 68 then some (.getfield 114, 3, 0, 0, false) else none)))
    else
     (bif Nat.ble 64 pc then (bif Nat.ble 65 pc then (bif Nat.beq pc 65 then some (.getfield 30, 3, 0, 0, false) else none) else (bif Nat.beq pc 64 then some (.aload_n 0, 1, 0, 0, false) else none)) else (bif Nat.ble 63 pc then (bif Nat.beq pc 63 then some (.ireturn, 1, 0, 0, false) else none) else (bif Nat.beq pc 60 then some (.getfield 88, 3, 0, 0, false) else none))))
   else
    (bif Nat.ble 52 pc then
     (bif Nat.ble 56 pc then (bif Nat.ble 57 pc then (bif Nat.beq pc 57 then some (.getfield 12, 3, 0, 0, false) else none) else (bif Nat.beq pc 56 then some (.aload_n 0, 1, 0, 0, false) else none)) else (bif Nat.ble 55 pc then (bif Nat.beq pc 55 then some (.ireturn, 1, 0, 0, false) else none) else (bif Nat.beq pc 52 then some (.getfield 158, 3, 0, 0, false) else none)))
    else
     (bif Nat.ble 48 pc then (bif Nat.ble 49 pc then (bif Nat.beq pc 49 then some (.getfield 12, 3, 0, 0, false) else none) else (bif Nat.beq pc 48 then some (.aload_n 0, 1, 0, 0, false) else none)) else (bif Nat.ble 1 pc then (bif Nat.beq pc 1 then some (.tableswitch 108 0 7 #[47, 55, 63, 71, 79, 87, 95, 103], 47, 0, 0, false) else none) else (bif Nat.beq pc 0 then some (.iload_n 1, 1, 0, 0, false) else none))))))
def qX7_wet (pc : Nat) : Option mIn :=
  (bif Nat.ble 31 pc then
   (bif Nat.ble 44 pc then
    (bif Nat.ble 54 pc then
     (bif Nat.ble 58 pc then (bif Nat.ble 59 pc then (bif Nat.beq pc 59 then some (.ireturn, 1, 0, 0, false) else none) else (bif Nat.beq pc 58 then some (.iconst 1, 1, 0, 1, false) else none)) else (bif Nat.ble 55 pc then (bif Nat.beq pc 55 then some (.goto 4, 3, 59, 0, false) else none) else (bif Nat.beq pc 54 then some (.iconst 0, 1, 0, 0, false) else none)))
    else
     (bif Nat.ble 48 pc then (bif Nat.ble 51 pc then (bif Nat.beq pc 51 then some (.ifCond .eq 7, 3, 58, 0, false) else none) else (bif Nat.beq pc 48 then some (.invokevirtual 183, 3, 0, 0, false) else none)) else (bif Nat.ble 45 pc then (bif Nat.beq pc 45 then some (.invokevirtual 180, 3, 0, 0, false) else none) else (bif Nat.beq pc 44 then some (.iload_n 2, 1, 0, 0, false) else none))))
   else
    (bif Nat.ble 36 pc then
     (bif Nat.ble 40 pc then (bif Nat.ble 43 pc then (bif Nat.beq pc 43 then some (.iload_n 1, 1, 0, 0, false) else none) else (bif Nat.beq pc 40 then some (.getfield 12, 3, 0, 0, false) else none)) else (bif Nat.ble 39 pc then (bif Nat.beq pc 39 then some (.aload_n 0, 1, 0, 0, false) else none) else (bif Nat.beq pc 36 then some (.invokevirtual 176, 3, 0, 0, false) else none)))
    else
     (bif Nat.ble 32 pc then (bif Nat.ble 35 pc then (bif Nat.beq pc 35 then some (.iload_n 3, 1, 0, 0, false) else none) else (bif Nat.beq pc 32 then some (.getfield 30, 3, 0, 0, false) else none)) else (bif Nat.beq pc 31 then some (.aload_n 0, 1, 0, 0, false) else none))))
  else
   (bif Nat.ble 13 pc then
    (bif Nat.ble 23 pc then
     (bif Nat.ble 29 pc then (bif Nat.ble 30 pc then (bif Nat.beq pc 30 then some (.ireturn, 1, 0, 0, false) else none) else (bif Nat.beq pc 29 then some (.iconst (-1), 1, 0, -1, false) else none)) else (bif Nat.ble 26 pc then (bif Nat.beq pc 26 then some (.ifCond .eq 5, 3, 31, 0, false) else none) else (bif Nat.beq pc 23 then some (.invokevirtual 173, 3, 0, 0, false) else none)))
    else
     (bif Nat.ble 19 pc then (bif Nat.ble 20 pc then (bif Nat.beq pc 20 then some (.getfield 30, 3, 0, 0, false) else none) else (bif Nat.beq pc 19 then some (.aload_n 0, 1, 0, 0, false) else none)) else (bif Nat.ble 16 pc then (bif Nat.beq pc 16 then some (.ifCond .eq 13, 3, 29, 0, false) else none) else (bif Nat.beq pc 13 then some (.invokestatic 96, 3, 0, 0, false) else none))))
   else
    (bif Nat.ble 5 pc then
     (bif Nat.ble 9 pc then (bif Nat.ble 12 pc then (bif Nat.beq pc 12 then some (.iload_n 3, 1, 0, 0, false) else none) else (bif Nat.beq pc 9 then some (.ifCond .eq 20, 3, 29, 0, false) else none)) else (bif Nat.ble 6 pc then (bif Nat.beq pc 6 then some (.invokevirtual 170, 3, 0, 0, false) else none) else (bif Nat.beq pc 5 then some (.iload_n 2, 1, 0, 0, false) else none)))
    else
     (bif Nat.ble 1 pc then (bif Nat.ble 4 pc then (bif Nat.beq pc 4 then some (.iload_n 1, 1, 0, 0, false) else none) else (bif Nat.beq pc 1 then some (.getfield 12, 3, 0, 0, false) else none)) else (bif Nat.beq pc 0 then some (.aload_n 0, 1, 0, 0, false) else none)))))
def qX7_owner (pc : Nat) : Option mIn :=
  (bif Nat.ble 32 pc then
   (bif Nat.ble 45 pc then
    (bif Nat.ble 53 pc then
     (bif Nat.ble 57 pc then (bif Nat.ble 58 pc then (bif Nat.beq pc 58 then some (.ireturn, 1, 0, 0, false) else none) else (bif Nat.beq pc 57 then some (.iaload, 1, 0, 0, false) else none)) else (bif Nat.ble 54 pc then (bif Nat.beq pc 54 then some (.invokevirtual 180, 3, 0, 0, false) else none) else (bif Nat.beq pc 53 then some (.iload_n 2, 1, 0, 0, false) else none)))
    else
     (bif Nat.ble 49 pc then (bif Nat.ble 52 pc then (bif Nat.beq pc 52 then some (.iload_n 1, 1, 0, 0, false) else none) else (bif Nat.beq pc 49 then some (.getfield 12, 3, 0, 0, false) else none)) else (bif Nat.ble 48 pc then (bif Nat.beq pc 48 then some (.aload_n 0, 1, 0, 0, false) else none) else (bif Nat.beq pc 45 then some (.getfield 189, 3, 0, 0, false) else none))))
   else
    (bif Nat.ble 37 pc then
     (bif Nat.ble 41 pc then (bif Nat.ble 42 pc then (bif Nat.beq pc 42 then some (.getfield 53, 3, 0, 0, false) else none) else (bif Nat.beq pc 41 then some (.aload_n 0, 1, 0, 0, false) else none)) else (bif Nat.ble 38 pc then (bif Nat.beq pc 38 then some (.invokevirtual 186, 3, 0, 0, false) else none) else (bif Nat.beq pc 37 then some (.iconst (-1), 1, 0, -1, false) else none)))
    else
     (bif Nat.ble 33 pc then (bif Nat.ble 36 pc then (bif Nat.beq pc 36 then some (.iload_n 3, 1, 0, 0, false) else none) else (bif Nat.beq pc 33 then some (.getfield 53, 3, 0, 0, false) else none)) else (bif Nat.beq pc 32 then some (.aload_n 0, 1, 0, 0, false) else none))))
  else
   (bif Nat.ble 13 pc then
    (bif Nat.ble 23 pc then
     (bif Nat.ble 29 pc then (bif Nat.ble 31 pc then (bif Nat.beq pc 31 then some (.ireturn, 1, 0, 0, false) else none) else (bif Nat.beq pc 29 then some (.bipush (-2), 2, 0, -2, false) else none)) else (bif Nat.ble 26 pc then (bif Nat.beq pc 26 then some (.ifCond .eq 6, 3, 32, 0, false) else none) else (bif Nat.beq pc 23 then some (.invokevirtual 173, 3, 0, 0, false) else none)))
    else
     (bif Nat.ble 19 pc then (bif Nat.ble 20 pc then (bif Nat.beq pc 20 then some (.getfield 30, 3, 0, 0, false) else none) else (bif Nat.beq pc 19 then some (.aload_n 0, 1, 0, 0, false) else none)) else (bif Nat.ble 16 pc then (bif Nat.beq pc 16 then some (.ifCond .eq 13, 3, 29, 0, false) else none) else (bif Nat.beq pc 13 then some (.invokestatic 96, 3, 0, 0, false) else none))))
   else
    (bif Nat.ble 5 pc then
     (bif Nat.ble 9 pc then (bif Nat.ble 12 pc then (bif Nat.beq pc 12 then some (.iload_n 3, 1, 0, 0, false) else none) else (bif Nat.beq pc 9 then some (.ifCond .eq 20, 3, 29, 0, false) else none)) else (bif Nat.ble 6 pc then (bif Nat.beq pc 6 then some (.invokevirtual 170, 3, 0, 0, false) else none) else (bif Nat.beq pc 5 then some (.iload_n 2, 1, 0, 0, false) else none)))
    else
     (bif Nat.ble 1 pc then (bif Nat.ble 4 pc then (bif Nat.beq pc 4 then some (.iload_n 1, 1, 0, 0, false) else none) else (bif Nat.beq pc 1 then some (.getfield 12, 3, 0, 0, false) else none)) else (bif Nat.beq pc 0 then some (.aload_n 0, 1, 0, 0, false) else none)))))
def qX7_area (pc : Nat) : Option mIn :=
  (bif Nat.ble 3 pc then
   (bif Nat.ble 4 pc then (bif Nat.ble 7 pc then (bif Nat.beq pc 7 then some (.ireturn, 1, 0, 0, false) else none) else (bif Nat.beq pc 4 then some (.invokevirtual 192, 3, 0, 0, false) else none)) else (bif Nat.beq pc 3 then some (.iload_n 2, 1, 0, 0, false) else none))
  else
   (bif Nat.ble 1 pc then (bif Nat.ble 2 pc then (bif Nat.beq pc 2 then some (.iload_n 2, 1, 0, 0, false) else none) else (bif Nat.beq pc 1 then some (.iload_n 1, 1, 0, 0, false) else none)) else (bif Nat.beq pc 0 then some (.aload_n 0, 1, 0, 0, false) else none)))
def qX7_front (pc : Nat) : Option mIn :=
  (bif Nat.ble 26 pc then
   (bif Nat.ble 33 pc then
    (bif Nat.ble 40 pc then
     (bif Nat.ble 41 pc then (bif Nat.ble 44 pc then (bif Nat.beq pc 44 then some (.ireturn, 1, 0, 0, false) else none) else (bif Nat.beq pc 41 then some (.invokevirtual 196, 3, 0, 0, false) else none)) else (bif Nat.beq pc 40 then some (.iload_n 1, 1, 0, 0, false) else none))
    else
     (bif Nat.ble 36 pc then (bif Nat.ble 37 pc then (bif Nat.beq pc 37 then some (.getfield 53, 3, 0, 0, false) else none) else (bif Nat.beq pc 36 then some (.aload_n 0, 1, 0, 0, false) else none)) else (bif Nat.beq pc 33 then some (.invokevirtual 186, 3, 0, 0, false) else none)))
   else
    (bif Nat.ble 28 pc then
     (bif Nat.ble 31 pc then (bif Nat.ble 32 pc then (bif Nat.beq pc 32 then some (.iconst (-1), 1, 0, -1, false) else none) else (bif Nat.beq pc 31 then some (.iload_n 2, 1, 0, 0, false) else none)) else (bif Nat.beq pc 28 then some (.getfield 53, 3, 0, 0, false) else none))
    else
     (bif Nat.ble 27 pc then (bif Nat.beq pc 27 then some (.aload_n 0, 1, 0, 0, false) else none) else (bif Nat.beq pc 26 then some (.ireturn, 1, 0, 0, false) else none))))
  else
   (bif Nat.ble 11 pc then
    (bif Nat.ble 18 pc then
     (bif Nat.ble 21 pc then (bif Nat.ble 24 pc then (bif Nat.beq pc 24 then some (.bipush (-2), 2, 0, -2, false) else none) else (bif Nat.beq pc 21 then some (.ifCond .eq 6, 3, 27, 0, false) else none)) else (bif Nat.beq pc 18 then some (.invokevirtual 173, 3, 0, 0, false) else none))
    else
     (bif Nat.ble 14 pc then (bif Nat.ble 15 pc then (bif Nat.beq pc 15 then some (.getfield 30, 3, 0, 0, false) else none) else (bif Nat.beq pc 14 then some (.aload_n 0, 1, 0, 0, false) else none)) else (bif Nat.beq pc 11 then some (.ifCond .eq 13, 3, 24, 0, false) else none)))
   else
    (bif Nat.ble 4 pc then
     (bif Nat.ble 7 pc then (bif Nat.ble 8 pc then (bif Nat.beq pc 8 then some (.invokestatic 96, 3, 0, 0, false) else none) else (bif Nat.beq pc 7 then some (.iload_n 2, 1, 0, 0, false) else none)) else (bif Nat.beq pc 4 then some (.ifCond .eq 20, 3, 24, 0, false) else none))
    else
     (bif Nat.ble 1 pc then (bif Nat.beq pc 1 then some (.invokestatic 111, 3, 0, 0, false) else none) else (bif Nat.beq pc 0 then some (.iload_n 1, 1, 0, 0, false) else none)))))
def qX7_tax (pc : Nat) : Option mIn :=
  (bif Nat.ble 56 pc then
   (bif Nat.ble 82 pc then
    (bif Nat.ble 97 pc then
     (bif Nat.ble 102 pc then
      (bif Nat.ble 108 pc then (bif Nat.ble 110 pc then (bif Nat.beq pc 110 then some (.ireturn, 1, 0, 0, false) else none) else (bif Nat.beq pc 108 then some (.iload 5, 2, 0, 0, false) else none)) else (bif Nat.ble 105 pc then (bif Nat.beq pc 105 then some (.goto (-38), 3, 67, 0, false) else none) else (bif Nat.beq pc 102 then some (.iinc 6 1, 3, 0, 1, false) else none)))
     else
      (bif Nat.ble 99 pc then (bif Nat.ble 100 pc then (bif Nat.beq pc 100 then some (.istore 5, 2, 0, 0, false) else none) else (bif Nat.beq pc 99 then some (.iadd, 1, 0, 0, false) else none)) else (bif Nat.beq pc 97 then some (.iload 4, 2, 0, 0, false) else none)))
    else
     (bif Nat.ble 89 pc then
      (bif Nat.ble 93 pc then (bif Nat.ble 95 pc then (bif Nat.beq pc 95 then some (.iload 5, 2, 0, 0, false) else none) else (bif Nat.beq pc 93 then some (.istore 4, 2, 0, 0, false) else none)) else (bif Nat.ble 90 pc then (bif Nat.beq pc 90 then some (.invokevirtual 199, 3, 0, 0, false) else none) else (bif Nat.beq pc 89 then some (.iload_n 1, 1, 0, 0, false) else none)))
     else
      (bif Nat.ble 85 pc then (bif Nat.ble 86 pc then (bif Nat.beq pc 86 then some (.getfield 53, 3, 0, 0, false) else none) else (bif Nat.beq pc 85 then some (.aload_n 0, 1, 0, 0, false) else none)) else (bif Nat.beq pc 82 then some (.ifCond .eq 13, 3, 95, 0, false) else none))))
   else
    (bif Nat.ble 67 pc then
     (bif Nat.ble 73 pc then
      (bif Nat.ble 77 pc then (bif Nat.ble 79 pc then (bif Nat.beq pc 79 then some (.invokevirtual 202, 3, 0, 0, false) else none) else (bif Nat.beq pc 77 then some (.iload 6, 2, 0, 0, false) else none)) else (bif Nat.ble 74 pc then (bif Nat.beq pc 74 then some (.getfield 53, 3, 0, 0, false) else none) else (bif Nat.beq pc 73 then some (.aload_n 0, 1, 0, 0, false) else none)))
     else
      (bif Nat.ble 69 pc then (bif Nat.ble 70 pc then (bif Nat.beq pc 70 then some (.if_icmp .gt 38, 3, 108, 0, false) else none) else (bif Nat.beq pc 69 then some (.iload_n 3, 1, 0, 0, false) else none)) else (bif Nat.beq pc 67 then some (.iload 6, 2, 0, 0, true) else none)))
    else
     (bif Nat.ble 62 pc then
      (bif Nat.ble 64 pc then (bif Nat.ble 65 pc then (bif Nat.beq pc 65 then some (.istore 6, 2, 0, 0, false) else none) else (bif Nat.beq pc 64 then some (.iadd, 1, 0, 0, false) else none)) else (bif Nat.ble 63 pc then (bif Nat.beq pc 63 then some (.iconst 1, 1, 0, 1, false) else none) else (bif Nat.beq pc 62 then some (.iload_n 2, 1, 0, 0, false) else none)))
     else
      (bif Nat.ble 58 pc then (bif Nat.ble 60 pc then (bif Nat.beq pc 60 then some (.istore 5, 2, 0, 0, false) else none) else (bif Nat.beq pc 58 then some (.iload 4, 2, 0, 0, false) else none)) else (bif Nat.beq pc 56 then some (.istore 4, 2, 0, 0, false) else none)))))
  else
   (bif Nat.ble 27 pc then
    (bif Nat.ble 43 pc then
     (bif Nat.ble 48 pc then
      (bif Nat.ble 52 pc then (bif Nat.ble 53 pc then (bif Nat.beq pc 53 then some (.invokevirtual 199, 3, 0, 0, false) else none) else (bif Nat.beq pc 52 then some (.iload_n 1, 1, 0, 0, false) else none)) else (bif Nat.ble 49 pc then (bif Nat.beq pc 49 then some (.getfield 53, 3, 0, 0, false) else none) else (bif Nat.beq pc 48 then some (.aload_n 0, 1, 0, 0, false) else none)))
     else
      (bif Nat.ble 44 pc then (bif Nat.ble 45 pc then (bif Nat.beq pc 45 then some (.invokevirtual 186, 3, 0, 0, false) else none) else (bif Nat.beq pc 44 then some (.iconst (-1), 1, 0, -1, false) else none)) else (bif Nat.beq pc 43 then some (.iload_n 2, 1, 0, 0, false) else none)))
    else
     (bif Nat.ble 36 pc then
      (bif Nat.ble 39 pc then (bif Nat.ble 40 pc then (bif Nat.beq pc 40 then some (.getfield 53, 3, 0, 0, false) else none) else (bif Nat.beq pc 39 then some (.aload_n 0, 1, 0, 0, false) else none)) else (bif Nat.ble 38 pc then (bif Nat.beq pc 38 then some (.ireturn, 1, 0, 0, false) else none) else (bif Nat.beq pc 36 then some (.bipush (-2), 2, 0, -2, false) else none)))
     else
      (bif Nat.ble 30 pc then (bif Nat.ble 33 pc then (bif Nat.beq pc 33 then some (.ifCond .eq 6, 3, 39, 0, false) else none) else (bif Nat.beq pc 30 then some (.invokevirtual 173, 3, 0, 0, false) else none)) else (bif Nat.beq pc 27 then some (.getfield 30, 3, 0, 0, false) else none))))
   else
    (bif Nat.ble 14 pc then
     (bif Nat.ble 21 pc then
      (bif Nat.ble 23 pc then (bif Nat.ble 26 pc then (bif Nat.beq pc 26 then some (.aload_n 0, 1, 0, 0, false) else none) else (bif Nat.beq pc 23 then some (.if_icmp .gt 13, 3, 36, 0, false) else none)) else (bif Nat.ble 22 pc then (bif Nat.beq pc 22 then some (.iload_n 3, 1, 0, 0, false) else none) else (bif Nat.beq pc 21 then some (.iload_n 2, 1, 0, 0, false) else none)))
     else
      (bif Nat.ble 15 pc then (bif Nat.ble 18 pc then (bif Nat.beq pc 18 then some (.ifCond .eq 18, 3, 36, 0, false) else none) else (bif Nat.beq pc 15 then some (.invokestatic 96, 3, 0, 0, false) else none)) else (bif Nat.beq pc 14 then some (.iload_n 3, 1, 0, 0, false) else none)))
    else
     (bif Nat.ble 7 pc then
      (bif Nat.ble 8 pc then (bif Nat.ble 11 pc then (bif Nat.beq pc 11 then some (.ifCond .eq 25, 3, 36, 0, false) else none) else (bif Nat.beq pc 8 then some (.invokestatic 96, 3, 0, 0, false) else none)) else (bif Nat.beq pc 7 then some (.iload_n 2, 1, 0, 0, false) else none))
     else
      (bif Nat.ble 1 pc then (bif Nat.ble 4 pc then (bif Nat.beq pc 4 then some (.ifCond .eq 32, 3, 36, 0, false) else none) else (bif Nat.beq pc 1 then some (.invokestatic 111, 3, 0, 0, false) else none)) else (bif Nat.beq pc 0 then some (.iload_n 1, 1, 0, 0, false) else none))))))
def qX7_chain (pc : Nat) : Option mIn :=
  (bif Nat.ble 74 pc then
   (bif Nat.ble 114 pc then
    (bif Nat.ble 132 pc then
     (bif Nat.ble 145 pc then
      (bif Nat.ble 149 pc then
       (bif Nat.ble 150 pc then (bif Nat.ble 151 pc then (bif Nat.beq pc 151 then some (.ireturn, 1, 0, 0, false) else none) else (bif Nat.beq pc 150 then some (.idiv, 1, 0, 0, false) else none)) else (bif Nat.beq pc 149 then some (.iconst 2, 1, 0, 2, false) else none))
      else
       (bif Nat.ble 146 pc then (bif Nat.beq pc 146 then some (.getfield 61, 3, 0, 0, false) else none) else (bif Nat.beq pc 145 then some (.aload_n 0, 1, 0, 0, false) else none)))
     else
      (bif Nat.ble 136 pc then
       (bif Nat.ble 139 pc then (bif Nat.ble 142 pc then (bif Nat.beq pc 142 then some (.goto (-54), 3, 88, 0, false) else none) else (bif Nat.beq pc 139 then some (.iinc 6 1, 3, 0, 1, false) else none)) else (bif Nat.beq pc 136 then some (.invokevirtual 208, 3, 0, 0, false) else none))
      else
       (bif Nat.ble 134 pc then (bif Nat.beq pc 134 then some (.iload 6, 2, 0, 0, false) else none) else (bif Nat.beq pc 132 then some (.iload 5, 2, 0, 0, false) else none))))
    else
     (bif Nat.ble 124 pc then
      (bif Nat.ble 128 pc then
       (bif Nat.ble 129 pc then (bif Nat.ble 131 pc then (bif Nat.beq pc 131 then some (.aload_n 0, 1, 0, 0, false) else none) else (bif Nat.beq pc 129 then some (.istore 5, 2, 0, 0, false) else none)) else (bif Nat.beq pc 128 then some (.iaload, 1, 0, 0, false) else none))
      else
       (bif Nat.ble 127 pc then (bif Nat.beq pc 127 then some (.iload_n 3, 1, 0, 0, false) else none) else (bif Nat.beq pc 124 then some (.getfield 189, 3, 0, 0, false) else none)))
     else
      (bif Nat.ble 117 pc then
       (bif Nat.ble 120 pc then (bif Nat.ble 121 pc then (bif Nat.beq pc 121 then some (.getfield 53, 3, 0, 0, false) else none) else (bif Nat.beq pc 120 then some (.aload_n 0, 1, 0, 0, false) else none)) else (bif Nat.beq pc 117 then some (.if_icmp .eq 22, 3, 139, 0, false) else none))
      else
       (bif Nat.ble 115 pc then (bif Nat.beq pc 115 then some (.iload 5, 2, 0, 0, false) else none) else (bif Nat.beq pc 114 then some (.iaload, 1, 0, 0, false) else none)))))
   else
    (bif Nat.ble 93 pc then
     (bif Nat.ble 105 pc then
      (bif Nat.ble 107 pc then
       (bif Nat.ble 110 pc then (bif Nat.ble 113 pc then (bif Nat.beq pc 113 then some (.iload_n 3, 1, 0, 0, false) else none) else (bif Nat.beq pc 110 then some (.getfield 189, 3, 0, 0, false) else none)) else (bif Nat.beq pc 107 then some (.getfield 53, 3, 0, 0, false) else none))
      else
       (bif Nat.ble 106 pc then (bif Nat.beq pc 106 then some (.aload_n 0, 1, 0, 0, false) else none) else (bif Nat.beq pc 105 then some (.pop, 1, 0, 0, false) else none)))
     else
      (bif Nat.ble 97 pc then
       (bif Nat.ble 100 pc then (bif Nat.ble 102 pc then (bif Nat.beq pc 102 then some (.invokevirtual 202, 3, 0, 0, false) else none) else (bif Nat.beq pc 100 then some (.iload 6, 2, 0, 0, false) else none)) else (bif Nat.beq pc 97 then some (.getfield 53, 3, 0, 0, false) else none))
      else
       (bif Nat.ble 96 pc then (bif Nat.beq pc 96 then some (.aload_n 0, 1, 0, 0, false) else none) else (bif Nat.beq pc 93 then some (.if_icmp .gt 52, 3, 145, 0, false) else none))))
    else
     (bif Nat.ble 84 pc then
      (bif Nat.ble 86 pc then
       (bif Nat.ble 88 pc then (bif Nat.ble 90 pc then (bif Nat.beq pc 90 then some (.sipush 200, 3, 0, 200, false) else none) else (bif Nat.beq pc 88 then some (.iload 6, 2, 0, 0, true) else none)) else (bif Nat.beq pc 86 then some (.istore 6, 2, 0, 0, false) else none))
      else
       (bif Nat.ble 85 pc then (bif Nat.beq pc 85 then some (.iadd, 1, 0, 0, false) else none) else (bif Nat.beq pc 84 then some (.iconst 1, 1, 0, 1, false) else none)))
     else
      (bif Nat.ble 77 pc then
       (bif Nat.ble 79 pc then (bif Nat.ble 82 pc then (bif Nat.beq pc 82 then some (.iload 4, 2, 0, 0, false) else none) else (bif Nat.beq pc 79 then some (.invokevirtual 208, 3, 0, 0, false) else none)) else (bif Nat.beq pc 77 then some (.iload 4, 2, 0, 0, false) else none))
      else
       (bif Nat.ble 75 pc then (bif Nat.beq pc 75 then some (.iload 5, 2, 0, 0, false) else none) else (bif Nat.beq pc 74 then some (.aload_n 0, 1, 0, 0, false) else none))))))
  else
   (bif Nat.ble 35 pc then
    (bif Nat.ble 55 pc then
     (bif Nat.ble 66 pc then
      (bif Nat.ble 69 pc then
       (bif Nat.ble 70 pc then (bif Nat.ble 71 pc then (bif Nat.beq pc 71 then some (.putfield 61, 3, 0, 0, false) else none) else (bif Nat.beq pc 70 then some (.iconst 0, 1, 0, 0, false) else none)) else (bif Nat.beq pc 69 then some (.aload_n 0, 1, 0, 0, false) else none))
      else
       (bif Nat.ble 67 pc then (bif Nat.beq pc 67 then some (.istore 5, 2, 0, 0, false) else none) else (bif Nat.beq pc 66 then some (.iaload, 1, 0, 0, false) else none)))
     else
      (bif Nat.ble 59 pc then
       (bif Nat.ble 62 pc then (bif Nat.ble 65 pc then (bif Nat.beq pc 65 then some (.iload_n 3, 1, 0, 0, false) else none) else (bif Nat.beq pc 62 then some (.getfield 189, 3, 0, 0, false) else none)) else (bif Nat.beq pc 59 then some (.getfield 53, 3, 0, 0, false) else none))
      else
       (bif Nat.ble 58 pc then (bif Nat.beq pc 58 then some (.aload_n 0, 1, 0, 0, false) else none) else (bif Nat.beq pc 55 then some (.invokevirtual 186, 3, 0, 0, false) else none))))
    else
     (bif Nat.ble 46 pc then
      (bif Nat.ble 49 pc then
       (bif Nat.ble 52 pc then (bif Nat.ble 54 pc then (bif Nat.beq pc 54 then some (.iconst (-1), 1, 0, -1, false) else none) else (bif Nat.beq pc 52 then some (.iload 4, 2, 0, 0, false) else none)) else (bif Nat.beq pc 49 then some (.getfield 53, 3, 0, 0, false) else none))
      else
       (bif Nat.ble 48 pc then (bif Nat.beq pc 48 then some (.aload_n 0, 1, 0, 0, false) else none) else (bif Nat.beq pc 46 then some (.istore 4, 2, 0, 0, false) else none)))
     else
      (bif Nat.ble 41 pc then
       (bif Nat.ble 42 pc then (bif Nat.ble 43 pc then (bif Nat.beq pc 43 then some (.getfield 205, 3, 0, 0, false) else none) else (bif Nat.beq pc 42 then some (.aaload, 1, 0, 0, false) else none)) else (bif Nat.beq pc 41 then some (.iconst 0, 1, 0, 0, false) else none))
      else
       (bif Nat.ble 38 pc then (bif Nat.beq pc 38 then some (.getfield 149, 3, 0, 0, false) else none) else (bif Nat.beq pc 35 then some (.getfield 30, 3, 0, 0, false) else none)))))
   else
    (bif Nat.ble 19 pc then
     (bif Nat.ble 28 pc then
      (bif Nat.ble 30 pc then
       (bif Nat.ble 33 pc then (bif Nat.ble 34 pc then (bif Nat.beq pc 34 then some (.aload_n 0, 1, 0, 0, false) else none) else (bif Nat.beq pc 33 then some (.istore_n 3, 1, 0, 0, false) else none)) else (bif Nat.beq pc 30 then some (.invokevirtual 180, 3, 0, 0, false) else none))
      else
       (bif Nat.ble 29 pc then (bif Nat.beq pc 29 then some (.iload_n 2, 1, 0, 0, false) else none) else (bif Nat.beq pc 28 then some (.iload_n 1, 1, 0, 0, false) else none)))
     else
      (bif Nat.ble 23 pc then
       (bif Nat.ble 24 pc then (bif Nat.ble 25 pc then (bif Nat.beq pc 25 then some (.getfield 12, 3, 0, 0, false) else none) else (bif Nat.beq pc 24 then some (.aload_n 0, 1, 0, 0, false) else none)) else (bif Nat.beq pc 23 then some (.ireturn, 1, 0, 0, false) else none))
      else
       (bif Nat.ble 22 pc then (bif Nat.beq pc 22 then some (.iconst (-1), 1, 0, -1, false) else none) else (bif Nat.beq pc 19 then some (.ifCond .eq 5, 3, 24, 0, false) else none))))
    else
     (bif Nat.ble 6 pc then
      (bif Nat.ble 12 pc then
       (bif Nat.ble 13 pc then (bif Nat.ble 16 pc then (bif Nat.beq pc 16 then some (.invokevirtual 173, 3, 0, 0, false) else none) else (bif Nat.beq pc 13 then some (.getfield 30, 3, 0, 0, false) else none)) else (bif Nat.beq pc 12 then some (.aload_n 0, 1, 0, 0, false) else none))
      else
       (bif Nat.ble 9 pc then (bif Nat.beq pc 9 then some (.ifCond .eq 13, 3, 22, 0, false) else none) else (bif Nat.beq pc 6 then some (.invokevirtual 170, 3, 0, 0, false) else none)))
     else
      (bif Nat.ble 4 pc then (bif Nat.ble 5 pc then (bif Nat.beq pc 5 then some (.iload_n 2, 1, 0, 0, false) else none) else (bif Nat.beq pc 4 then some (.iload_n 1, 1, 0, 0, false) else none)) else (bif Nat.ble 1 pc then (bif Nat.beq pc 1 then some (.getfield 12, 3, 0, 0, false) else none) else (bif Nat.beq pc 0 then some (.aload_n 0, 1, 0, 0, false) else none)))))))
def qX7_banks (pc : Nat) : Option mIn :=
  (bif Nat.ble 18 pc then
   (bif Nat.ble 24 pc then
    (bif Nat.ble 28 pc then
     (bif Nat.ble 31 pc then (bif Nat.ble 34 pc then (bif Nat.beq pc 34 then some (.ireturn, 1, 0, 0, false) else none) else (bif Nat.beq pc 31 then some (.invokevirtual 211, 3, 0, 0, false) else none)) else (bif Nat.beq pc 28 then some (.invokevirtual 176, 3, 0, 0, false) else none))
    else
     (bif Nat.ble 27 pc then (bif Nat.beq pc 27 then some (.iload_n 1, 1, 0, 0, false) else none) else (bif Nat.beq pc 24 then some (.getfield 30, 3, 0, 0, false) else none)))
   else
    (bif Nat.ble 20 pc then (bif Nat.ble 23 pc then (bif Nat.beq pc 23 then some (.aload_n 0, 1, 0, 0, false) else none) else (bif Nat.beq pc 20 then some (.getfield 21, 3, 0, 0, false) else none)) else (bif Nat.ble 19 pc then (bif Nat.beq pc 19 then some (.aload_n 0, 1, 0, 0, false) else none) else (bif Nat.beq pc 18 then some (.ireturn, 1, 0, 0, false) else none))))
  else
   (bif Nat.ble 8 pc then
    (bif Nat.ble 14 pc then (bif Nat.ble 17 pc then (bif Nat.beq pc 17 then some (.iconst (-1), 1, 0, -1, false) else none) else (bif Nat.beq pc 14 then some (.ifCond .eq 5, 3, 19, 0, false) else none)) else (bif Nat.ble 11 pc then (bif Nat.beq pc 11 then some (.invokevirtual 173, 3, 0, 0, false) else none) else (bif Nat.beq pc 8 then some (.getfield 30, 3, 0, 0, false) else none)))
   else
    (bif Nat.ble 4 pc then (bif Nat.ble 7 pc then (bif Nat.beq pc 7 then some (.aload_n 0, 1, 0, 0, false) else none) else (bif Nat.beq pc 4 then some (.ifCond .eq 13, 3, 17, 0, false) else none)) else (bif Nat.ble 1 pc then (bif Nat.beq pc 1 then some (.invokestatic 96, 3, 0, 0, false) else none) else (bif Nat.beq pc 0 then some (.iload_n 1, 1, 0, 0, false) else none)))))
def qX7_step (pc : Nat) : Option mIn :=
  (bif Nat.ble 87 pc then
   (bif Nat.ble 109 pc then
    (bif Nat.ble 119 pc then
     (bif Nat.ble 124 pc then
      (bif Nat.ble 128 pc then (bif Nat.ble 129 pc then (bif Nat.beq pc 129 then some (.ireturn, 1, 0, 0, false) else none) else (bif Nat.beq pc 128 then some (.iconst (-1), 1, 0, -1, false) else none)) else (bif Nat.ble 127 pc then (bif Nat.beq pc 127 then some (.ireturn, 1, 0, 0, false) else none) else (bif Nat.beq pc 124 then some (.invokevirtual 233, 3, 0, 0, false) else none)))
     else
      (bif Nat.ble 120 pc then (bif Nat.ble 123 pc then (bif Nat.beq pc 123 then some (.iload_n 1, 1, 0, 0, false) else none) else (bif Nat.beq pc 120 then some (.getfield 53, 3, 0, 0, false) else none)) else (bif Nat.beq pc 119 then some (.aload_n 0, 1, 0, 0, false) else none)))
    else
     (bif Nat.ble 114 pc then
      (bif Nat.ble 115 pc then (bif Nat.ble 118 pc then (bif Nat.beq pc 118 then some (.ireturn, 1, 0, 0, false) else none) else (bif Nat.beq pc 115 then some (.getfield 230, 3, 0, 0, false) else none)) else (bif Nat.beq pc 114 then some (.aload_n 3, 1, 0, 0, false) else none))
     else
      (bif Nat.ble 110 pc then (bif Nat.ble 113 pc then (bif Nat.beq pc 113 then some (.ireturn, 1, 0, 0, false) else none) else (bif Nat.beq pc 110 then some (.getfield 227, 3, 0, 0, false) else none)) else (bif Nat.beq pc 109 then some (.aload_n 3, 1, 0, 0, false) else none))))
   else
    (bif Nat.ble 97 pc then
     (bif Nat.ble 104 pc then
      (bif Nat.ble 107 pc then (bif Nat.ble 108 pc then (bif Nat.beq pc 108 then some (.ireturn, 1, 0, 0, false) else none) else (bif Nat.beq pc 107 then some (.iconst 0, 1, 0, 0, false) else none)) else (bif Nat.beq pc 104 then some (.goto 4, 3, 108, 0, false) else none))
     else
      (bif Nat.ble 100 pc then (bif Nat.ble 103 pc then (bif Nat.beq pc 103 then some (.iconst 1, 1, 0, 1, false) else none) else (bif Nat.beq pc 100 then some (.ifCond .eq 7, 3, 107, 0, false) else none)) else (bif Nat.beq pc 97 then some (.invokevirtual 224, 3, 0, 0, false) else none)))
    else
     (bif Nat.ble 92 pc then
      (bif Nat.ble 93 pc then (bif Nat.ble 96 pc then (bif Nat.beq pc 96 then some (.iload_n 1, 1, 0, 0, false) else none) else (bif Nat.beq pc 93 then some (.getfield 30, 3, 0, 0, false) else none)) else (bif Nat.beq pc 92 then some (.aload_n 0, 1, 0, 0, false) else none))
     else
      (bif Nat.ble 88 pc then (bif Nat.ble 91 pc then (bif Nat.beq pc 91 then some (.ireturn, 1, 0, 0, false) else none) else (bif Nat.beq pc 88 then some (.getfield 221, 3, 0, 0, false) else none)) else (bif Nat.beq pc 87 then some (.aload_n 3, 1, 0, 0, false) else none)))))
  else
   (bif Nat.ble 22 pc then
    (bif Nat.ble 77 pc then
     (bif Nat.ble 82 pc then
      (bif Nat.ble 83 pc then (bif Nat.ble 86 pc then (bif Nat.beq pc 86 then some (.ireturn, 1, 0, 0, false) else none) else (bif Nat.beq pc 83 then some (.getfield 218, 3, 0, 0, false) else none)) else (bif Nat.beq pc 82 then some (.aload_n 3, 1, 0, 0, false) else none))
     else
      (bif Nat.ble 78 pc then (bif Nat.ble 81 pc then (bif Nat.beq pc 81 then some (.ireturn, 1, 0, 0, false) else none) else (bif Nat.beq pc 78 then some (.getfield 215, 3, 0, 0, false) else none)) else (bif Nat.beq pc 77 then some (.aload_n 3, 1, 0, 0, false) else none)))
    else
     (bif Nat.ble 72 pc then
      (bif Nat.ble 73 pc then (bif Nat.ble 76 pc then (bif Nat.beq pc 76 then some (.ireturn, 1, 0, 0, false) else none) else (bif Nat.beq pc 73 then some (.getfield 205, 3, 0, 0, false) else none)) else (bif Nat.beq pc 72 then some (.aload_n 3, 1, 0, 0, false) else none))
     else
      (bif Nat.ble 23 pc then (bif Nat.ble 24 pc then (bif Nat.beq pc 24 then some (.tableswitch 104 0 7 #[48, 53, 58, 63, 68, 85, 90, 95], 48, 0, 0, false) else none) else (bif Nat.beq pc 23 then some (.iload_n 2, 1, 0, 0, false) else none)) else (bif Nat.beq pc 22 then some (.astore_n 3, 1, 0, 0, false) else none))))
   else
    (bif Nat.ble 12 pc then
     (bif Nat.ble 17 pc then
      (bif Nat.ble 20 pc then (bif Nat.ble 21 pc then (bif Nat.beq pc 21 then some (.aaload, 1, 0, 0, false) else none) else (bif Nat.beq pc 20 then some (.iload_n 1, 1, 0, 0, false) else none)) else (bif Nat.beq pc 17 then some (.getfield 149, 3, 0, 0, false) else none))
     else
      (bif Nat.ble 13 pc then (bif Nat.ble 14 pc then (bif Nat.beq pc 14 then some (.getfield 30, 3, 0, 0, false) else none) else (bif Nat.beq pc 13 then some (.aload_n 0, 1, 0, 0, false) else none)) else (bif Nat.beq pc 12 then some (.ireturn, 1, 0, 0, false) else none)))
    else
     (bif Nat.ble 5 pc then
      (bif Nat.ble 8 pc then (bif Nat.ble 11 pc then (bif Nat.beq pc 11 then some (.iconst (-1), 1, 0, -1, false) else none) else (bif Nat.beq pc 8 then some (.ifCond .ne 5, 3, 13, 0, false) else none)) else (bif Nat.beq pc 5 then some (.invokevirtual 146, 3, 0, 0, false) else none))
     else
      (bif Nat.ble 1 pc then (bif Nat.ble 4 pc then (bif Nat.beq pc 4 then some (.iload_n 1, 1, 0, 0, false) else none) else (bif Nat.beq pc 1 then some (.getfield 30, 3, 0, 0, false) else none)) else (bif Nat.beq pc 0 then some (.aload_n 0, 1, 0, 0, false) else none))))))
def qX7_moved (pc : Nat) : Option mIn :=
  (bif Nat.ble 21 pc then
   (bif Nat.ble 29 pc then
    (bif Nat.ble 33 pc then
     (bif Nat.ble 34 pc then (bif Nat.ble 37 pc then (bif Nat.beq pc 37 then some (.ireturn, 1, 0, 0, false) else none) else (bif Nat.beq pc 34 then some (.invokevirtual 243, 3, 0, 0, false) else none)) else (bif Nat.beq pc 33 then some (.iload_n 2, 1, 0, 0, false) else none))
    else
     (bif Nat.ble 32 pc then (bif Nat.beq pc 32 then some (.iload_n 1, 1, 0, 0, false) else none) else (bif Nat.beq pc 29 then some (.getfield 53, 3, 0, 0, false) else none)))
   else
    (bif Nat.ble 24 pc then
     (bif Nat.ble 27 pc then (bif Nat.ble 28 pc then (bif Nat.beq pc 28 then some (.aload_n 0, 1, 0, 0, false) else none) else (bif Nat.beq pc 27 then some (.athrow, 1, 0, 0, false) else none)) else (bif Nat.beq pc 24 then some (.invokespecial 240, 3, 0, 0, false) else none))
    else
     (bif Nat.ble 22 pc then (bif Nat.beq pc 22 then some (.ldc 238, 2, 0, 0, false) else none) else (bif Nat.beq pc 21 then some (.dup, 1, 0, 0, false) else none))))
  else
   (bif Nat.ble 8 pc then
    (bif Nat.ble 12 pc then
     (bif Nat.ble 15 pc then (bif Nat.ble 18 pc then (bif Nat.beq pc 18 then some (.new 236, 3, 0, 0, false) else none) else (bif Nat.beq pc 15 then some (.ifCond .ne 13, 3, 28, 0, false) else none)) else (bif Nat.beq pc 12 then some (.invokevirtual 146, 3, 0, 0, false) else none))
    else
     (bif Nat.ble 11 pc then (bif Nat.beq pc 11 then some (.iload_n 2, 1, 0, 0, false) else none) else (bif Nat.beq pc 8 then some (.getfield 30, 3, 0, 0, false) else none)))
   else
    (bif Nat.ble 4 pc then (bif Nat.ble 7 pc then (bif Nat.beq pc 7 then some (.aload_n 0, 1, 0, 0, false) else none) else (bif Nat.beq pc 4 then some (.ifCond .eq 14, 3, 18, 0, false) else none)) else (bif Nat.ble 1 pc then (bif Nat.beq pc 1 then some (.invokestatic 121, 3, 0, 0, false) else none) else (bif Nat.beq pc 0 then some (.iload_n 1, 1, 0, 0, false) else none)))))
def qX7_doubt (pc : Nat) : Option mIn :=
  (bif Nat.ble 24 pc then
   (bif Nat.ble 36 pc then
    (bif Nat.ble 41 pc then
     (bif Nat.ble 42 pc then (bif Nat.ble 45 pc then (bif Nat.beq pc 45 then some (.ireturn, 1, 0, 0, false) else none) else (bif Nat.beq pc 42 then some (.invokevirtual 249, 3, 0, 0, false) else none)) else (bif Nat.beq pc 41 then some (.iload_n 2, 1, 0, 0, false) else none))
    else
     (bif Nat.ble 37 pc then (bif Nat.ble 40 pc then (bif Nat.beq pc 40 then some (.iload_n 1, 1, 0, 0, false) else none) else (bif Nat.beq pc 37 then some (.getfield 53, 3, 0, 0, false) else none)) else (bif Nat.beq pc 36 then some (.aload_n 0, 1, 0, 0, false) else none)))
   else
    (bif Nat.ble 29 pc then
     (bif Nat.ble 30 pc then (bif Nat.ble 33 pc then (bif Nat.beq pc 33 then some (.invokevirtual 246, 3, 0, 0, false) else none) else (bif Nat.beq pc 30 then some (.getfield 53, 3, 0, 0, false) else none)) else (bif Nat.beq pc 29 then some (.aload_n 0, 1, 0, 0, false) else none))
    else
     (bif Nat.ble 25 pc then (bif Nat.ble 26 pc then (bif Nat.beq pc 26 then some (.invokevirtual 186, 3, 0, 0, false) else none) else (bif Nat.beq pc 25 then some (.iconst (-1), 1, 0, -1, false) else none)) else (bif Nat.beq pc 24 then some (.iload_n 2, 1, 0, 0, false) else none))))
  else
   (bif Nat.ble 12 pc then
    (bif Nat.ble 19 pc then
     (bif Nat.ble 20 pc then (bif Nat.ble 21 pc then (bif Nat.beq pc 21 then some (.getfield 53, 3, 0, 0, false) else none) else (bif Nat.beq pc 20 then some (.aload_n 0, 1, 0, 0, false) else none)) else (bif Nat.beq pc 19 then some (.ireturn, 1, 0, 0, false) else none))
    else
     (bif Nat.ble 15 pc then (bif Nat.ble 18 pc then (bif Nat.beq pc 18 then some (.iconst (-1), 1, 0, -1, false) else none) else (bif Nat.beq pc 15 then some (.ifCond .ne 5, 3, 20, 0, false) else none)) else (bif Nat.beq pc 12 then some (.invokestatic 96, 3, 0, 0, false) else none)))
   else
    (bif Nat.ble 5 pc then
     (bif Nat.ble 8 pc then (bif Nat.ble 11 pc then (bif Nat.beq pc 11 then some (.iload_n 2, 1, 0, 0, false) else none) else (bif Nat.beq pc 8 then some (.ifCond .eq 10, 3, 18, 0, false) else none)) else (bif Nat.beq pc 5 then some (.invokevirtual 146, 3, 0, 0, false) else none))
    else
     (bif Nat.ble 1 pc then (bif Nat.ble 4 pc then (bif Nat.beq pc 4 then some (.iload_n 1, 1, 0, 0, false) else none) else (bif Nat.beq pc 1 then some (.getfield 30, 3, 0, 0, false) else none)) else (bif Nat.beq pc 0 then some (.aload_n 0, 1, 0, 0, false) else none)))))
def qX7_weak (pc : Nat) : Option mIn :=
  (bif Nat.ble 48 pc then
   (bif Nat.ble 77 pc then
    (bif Nat.ble 91 pc then
     (bif Nat.ble 95 pc then
      (bif Nat.ble 101 pc then (bif Nat.ble 102 pc then (bif Nat.beq pc 102 then some (.ireturn, 1, 0, 0, false) else none) else (bif Nat.beq pc 101 then some (.iload_n 2, 1, 0, 0, false) else none)) else (bif Nat.ble 98 pc then (bif Nat.beq pc 98 then some (.goto (-56), 3, 42, 0, false) else none) else (bif Nat.beq pc 95 then some (.iinc 4 1, 3, 0, 1, false) else none)))
     else
      (bif Nat.ble 92 pc then (bif Nat.ble 94 pc then (bif Nat.beq pc 94 then some (.istore_n 2, 1, 0, 0, false) else none) else (bif Nat.beq pc 92 then some (.iload 4, 2, 0, 0, false) else none)) else (bif Nat.beq pc 91 then some (.istore_n 3, 1, 0, 0, false) else none)))
    else
     (bif Nat.ble 83 pc then
      (bif Nat.ble 86 pc then (bif Nat.ble 89 pc then (bif Nat.beq pc 89 then some (.iload 5, 2, 0, 0, false) else none) else (bif Nat.beq pc 86 then some (.if_icmp .le 9, 3, 95, 0, false) else none)) else (bif Nat.ble 85 pc then (bif Nat.beq pc 85 then some (.iload_n 3, 1, 0, 0, false) else none) else (bif Nat.beq pc 83 then some (.iload 5, 2, 0, 0, false) else none)))
     else
      (bif Nat.ble 78 pc then (bif Nat.ble 81 pc then (bif Nat.beq pc 81 then some (.istore 5, 2, 0, 0, false) else none) else (bif Nat.beq pc 78 then some (.invokevirtual 249, 3, 0, 0, false) else none)) else (bif Nat.beq pc 77 then some (.iload_n 1, 1, 0, 0, false) else none))))
   else
    (bif Nat.ble 63 pc then
     (bif Nat.ble 68 pc then
      (bif Nat.ble 72 pc then (bif Nat.ble 75 pc then (bif Nat.beq pc 75 then some (.iload 4, 2, 0, 0, false) else none) else (bif Nat.beq pc 72 then some (.getfield 53, 3, 0, 0, false) else none)) else (bif Nat.ble 71 pc then (bif Nat.beq pc 71 then some (.aload_n 0, 1, 0, 0, false) else none) else (bif Nat.beq pc 68 then some (.if_icmp .ne 27, 3, 95, 0, false) else none)))
     else
      (bif Nat.ble 64 pc then (bif Nat.ble 67 pc then (bif Nat.beq pc 67 then some (.iconst (-1), 1, 0, -1, false) else none) else (bif Nat.beq pc 64 then some (.getfield 153, 3, 0, 0, false) else none)) else (bif Nat.beq pc 63 then some (.aaload, 1, 0, 0, false) else none)))
    else
     (bif Nat.ble 55 pc then
      (bif Nat.ble 58 pc then (bif Nat.ble 61 pc then (bif Nat.beq pc 61 then some (.iload 4, 2, 0, 0, false) else none) else (bif Nat.beq pc 58 then some (.getfield 149, 3, 0, 0, false) else none)) else (bif Nat.beq pc 55 then some (.getfield 30, 3, 0, 0, false) else none))
     else
      (bif Nat.ble 51 pc then (bif Nat.ble 54 pc then (bif Nat.beq pc 54 then some (.aload_n 0, 1, 0, 0, false) else none) else (bif Nat.beq pc 51 then some (.if_icmp .ge 50, 3, 101, 0, false) else none)) else (bif Nat.beq pc 48 then some (.getfield 114, 3, 0, 0, false) else none)))))
  else
   (bif Nat.ble 25 pc then
    (bif Nat.ble 37 pc then
     (bif Nat.ble 40 pc then
      (bif Nat.ble 44 pc then (bif Nat.ble 45 pc then (bif Nat.beq pc 45 then some (.getfield 30, 3, 0, 0, false) else none) else (bif Nat.beq pc 44 then some (.aload_n 0, 1, 0, 0, false) else none)) else (bif Nat.ble 42 pc then (bif Nat.beq pc 42 then some (.iload 4, 2, 0, 0, true) else none) else (bif Nat.beq pc 40 then some (.istore 4, 2, 0, 0, false) else none)))
     else
      (bif Nat.ble 38 pc then (bif Nat.ble 39 pc then (bif Nat.beq pc 39 then some (.iconst 1, 1, 0, 1, false) else none) else (bif Nat.beq pc 38 then some (.istore_n 3, 1, 0, 0, false) else none)) else (bif Nat.beq pc 37 then some (.iconst (-1), 1, 0, -1, false) else none)))
    else
     (bif Nat.ble 32 pc then
      (bif Nat.ble 35 pc then (bif Nat.ble 36 pc then (bif Nat.beq pc 36 then some (.istore_n 2, 1, 0, 0, false) else none) else (bif Nat.beq pc 35 then some (.iconst (-1), 1, 0, -1, false) else none)) else (bif Nat.beq pc 32 then some (.invokevirtual 246, 3, 0, 0, false) else none))
     else
      (bif Nat.ble 28 pc then (bif Nat.ble 29 pc then (bif Nat.beq pc 29 then some (.getfield 53, 3, 0, 0, false) else none) else (bif Nat.beq pc 28 then some (.aload_n 0, 1, 0, 0, false) else none)) else (bif Nat.beq pc 25 then some (.invokevirtual 186, 3, 0, 0, false) else none))))
   else
    (bif Nat.ble 14 pc then
     (bif Nat.ble 19 pc then
      (bif Nat.ble 23 pc then (bif Nat.ble 24 pc then (bif Nat.beq pc 24 then some (.iconst (-1), 1, 0, -1, false) else none) else (bif Nat.beq pc 23 then some (.iload_n 1, 1, 0, 0, false) else none)) else (bif Nat.ble 20 pc then (bif Nat.beq pc 20 then some (.getfield 53, 3, 0, 0, false) else none) else (bif Nat.beq pc 19 then some (.aload_n 0, 1, 0, 0, false) else none)))
     else
      (bif Nat.ble 17 pc then (bif Nat.ble 18 pc then (bif Nat.beq pc 18 then some (.ireturn, 1, 0, 0, false) else none) else (bif Nat.beq pc 17 then some (.iconst (-1), 1, 0, -1, false) else none)) else (bif Nat.beq pc 14 then some (.ifCond .eq 5, 3, 19, 0, false) else none)))
    else
     (bif Nat.ble 7 pc then
      (bif Nat.ble 8 pc then (bif Nat.ble 11 pc then (bif Nat.beq pc 11 then some (.invokevirtual 173, 3, 0, 0, false) else none) else (bif Nat.beq pc 8 then some (.getfield 30, 3, 0, 0, false) else none)) else (bif Nat.beq pc 7 then some (.aload_n 0, 1, 0, 0, false) else none))
     else
      (bif Nat.ble 1 pc then (bif Nat.ble 4 pc then (bif Nat.beq pc 4 then some (.ifCond .eq 13, 3, 17, 0, false) else none) else (bif Nat.beq pc 1 then some (.invokestatic 96, 3, 0, 0, false) else none)) else (bif Nat.beq pc 0 then some (.iload_n 1, 1, 0, 0, false) else none))))))
def qX7_row (pc : Nat) : Option mIn :=
  (bif Nat.ble 16 pc then
   (bif Nat.ble 23 pc then
    (bif Nat.ble 27 pc then (bif Nat.ble 28 pc then (bif Nat.beq pc 28 then some (.ireturn, 1, 0, 0, false) else none) else (bif Nat.beq pc 27 then some (.iaload, 1, 0, 0, false) else none)) else (bif Nat.ble 26 pc then (bif Nat.beq pc 26 then some (.iload_n 1, 1, 0, 0, false) else none) else (bif Nat.beq pc 23 then some (.getfield 57, 3, 0, 0, false) else none)))
   else
    (bif Nat.ble 21 pc then (bif Nat.ble 22 pc then (bif Nat.beq pc 22 then some (.aload_n 0, 1, 0, 0, false) else none) else (bif Nat.beq pc 21 then some (.athrow, 1, 0, 0, false) else none)) else (bif Nat.ble 18 pc then (bif Nat.beq pc 18 then some (.invokespecial 240, 3, 0, 0, false) else none) else (bif Nat.beq pc 16 then some (.ldc 252, 2, 0, 0, false) else none))))
  else
   (bif Nat.ble 6 pc then
    (bif Nat.ble 12 pc then (bif Nat.ble 15 pc then (bif Nat.beq pc 15 then some (.dup, 1, 0, 0, false) else none) else (bif Nat.beq pc 12 then some (.new 236, 3, 0, 0, false) else none)) else (bif Nat.ble 9 pc then (bif Nat.beq pc 9 then some (.if_icmp .lt 13, 3, 22, 0, false) else none) else (bif Nat.beq pc 6 then some (.getfield 61, 3, 0, 0, false) else none)))
   else
    (bif Nat.ble 4 pc then (bif Nat.ble 5 pc then (bif Nat.beq pc 5 then some (.aload_n 0, 1, 0, 0, false) else none) else (bif Nat.beq pc 4 then some (.iload_n 1, 1, 0, 0, false) else none)) else (bif Nat.ble 1 pc then (bif Nat.beq pc 1 then some (.ifCond .lt 11, 3, 12, 0, false) else none) else (bif Nat.beq pc 0 then some (.iload_n 1, 1, 0, 0, false) else none)))))
def qX7_tell (pc : Nat) : Option mIn :=
  (bif Nat.ble 24 pc then
   (bif Nat.ble 35 pc then
    (bif Nat.ble 41 pc then
     (bif Nat.ble 43 pc then (bif Nat.ble 46 pc then (bif Nat.beq pc 46 then some (.return_, 1, 0, 0, false) else none) else (bif Nat.beq pc 43 then some (.putfield 61, 3, 0, 0, false) else none)) else (bif Nat.ble 42 pc then (bif Nat.beq pc 42 then some (.iadd, 1, 0, 0, false) else none) else (bif Nat.beq pc 41 then some (.iconst 2, 1, 0, 2, false) else none)))
    else
     (bif Nat.ble 37 pc then (bif Nat.ble 38 pc then (bif Nat.beq pc 38 then some (.getfield 61, 3, 0, 0, false) else none) else (bif Nat.beq pc 37 then some (.dup, 1, 0, 0, false) else none)) else (bif Nat.ble 36 pc then (bif Nat.beq pc 36 then some (.aload_n 0, 1, 0, 0, false) else none) else (bif Nat.beq pc 35 then some (.iastore, 1, 0, 0, false) else none))))
   else
    (bif Nat.ble 29 pc then
     (bif Nat.ble 33 pc then (bif Nat.ble 34 pc then (bif Nat.beq pc 34 then some (.iload_n 2, 1, 0, 0, false) else none) else (bif Nat.beq pc 33 then some (.iadd, 1, 0, 0, false) else none)) else (bif Nat.ble 32 pc then (bif Nat.beq pc 32 then some (.iconst 1, 1, 0, 1, false) else none) else (bif Nat.beq pc 29 then some (.getfield 61, 3, 0, 0, false) else none)))
    else
     (bif Nat.ble 25 pc then (bif Nat.ble 28 pc then (bif Nat.beq pc 28 then some (.aload_n 0, 1, 0, 0, false) else none) else (bif Nat.beq pc 25 then some (.getfield 57, 3, 0, 0, false) else none)) else (bif Nat.beq pc 24 then some (.aload_n 0, 1, 0, 0, false) else none))))
  else
   (bif Nat.ble 11 pc then
    (bif Nat.ble 18 pc then
     (bif Nat.ble 22 pc then (bif Nat.ble 23 pc then (bif Nat.beq pc 23 then some (.iastore, 1, 0, 0, false) else none) else (bif Nat.beq pc 22 then some (.iload_n 1, 1, 0, 0, false) else none)) else (bif Nat.ble 19 pc then (bif Nat.beq pc 19 then some (.getfield 61, 3, 0, 0, false) else none) else (bif Nat.beq pc 18 then some (.aload_n 0, 1, 0, 0, false) else none)))
    else
     (bif Nat.ble 14 pc then (bif Nat.ble 15 pc then (bif Nat.beq pc 15 then some (.getfield 57, 3, 0, 0, false) else none) else (bif Nat.beq pc 14 then some (.aload_n 0, 1, 0, 0, false) else none)) else (bif Nat.beq pc 11 then some (.if_icmp .gt 35, 3, 46, 0, false) else none)))
   else
    (bif Nat.ble 5 pc then
     (bif Nat.ble 7 pc then (bif Nat.ble 10 pc then (bif Nat.beq pc 10 then some (.arraylength, 1, 0, 0, false) else none) else (bif Nat.beq pc 7 then some (.getfield 57, 3, 0, 0, false) else none)) else (bif Nat.ble 6 pc then (bif Nat.beq pc 6 then some (.aload_n 0, 1, 0, 0, false) else none) else (bif Nat.beq pc 5 then some (.iadd, 1, 0, 0, false) else none)))
    else
     (bif Nat.ble 1 pc then (bif Nat.ble 4 pc then (bif Nat.beq pc 4 then some (.iconst 2, 1, 0, 2, false) else none) else (bif Nat.beq pc 1 then some (.getfield 61, 3, 0, 0, false) else none)) else (bif Nat.beq pc 0 then some (.aload_n 0, 1, 0, 0, false) else none)))))
def qX7_isBetween (pc : Nat) : Option mIn :=
  (bif Nat.ble 7 pc then
   (bif Nat.ble 11 pc then
    (bif Nat.ble 14 pc then (bif Nat.ble 15 pc then (bif Nat.beq pc 15 then some (.ireturn, 1, 0, 0, false) else none) else (bif Nat.beq pc 14 then some (.iconst 0, 1, 0, 0, false) else none)) else (bif Nat.beq pc 11 then some (.goto 4, 3, 15, 0, false) else none))
   else
    (bif Nat.ble 10 pc then (bif Nat.beq pc 10 then some (.iconst 1, 1, 0, 1, false) else none) else (bif Nat.beq pc 7 then some (.if_icmp .gt 7, 3, 14, 0, false) else none)))
  else
   (bif Nat.ble 2 pc then
    (bif Nat.ble 5 pc then (bif Nat.ble 6 pc then (bif Nat.beq pc 6 then some (.iload_n 2, 1, 0, 0, false) else none) else (bif Nat.beq pc 5 then some (.iload_n 0, 1, 0, 0, false) else none)) else (bif Nat.beq pc 2 then some (.if_icmp .lt 12, 3, 14, 0, false) else none))
   else
    (bif Nat.ble 1 pc then (bif Nat.beq pc 1 then some (.iload_n 1, 1, 0, 0, false) else none) else (bif Nat.beq pc 0 then some (.iload_n 0, 1, 0, 0, false) else none))))
def qX7_isYear (pc : Nat) : Option mIn :=
  (bif Nat.ble 2 pc then
   (bif Nat.ble 5 pc then (bif Nat.ble 8 pc then (bif Nat.beq pc 8 then some (.ireturn, 1, 0, 0, false) else none) else (bif Nat.beq pc 5 then some (.invokestatic 135, 3, 0, 0, false) else none)) else (bif Nat.beq pc 2 then some (.sipush 200, 3, 0, 200, false) else none))
  else
   (bif Nat.ble 1 pc then (bif Nat.beq pc 1 then some (.iconst 0, 1, 0, 0, false) else none) else (bif Nat.beq pc 0 then some (.iload_n 0, 1, 0, 0, false) else none)))
def qX7_isOwner (pc : Nat) : Option mIn :=
  (bif Nat.ble 2 pc then
   (bif Nat.ble 4 pc then (bif Nat.ble 7 pc then (bif Nat.beq pc 7 then some (.ireturn, 1, 0, 0, false) else none) else (bif Nat.beq pc 4 then some (.invokestatic 135, 3, 0, 0, false) else none)) else (bif Nat.beq pc 2 then some (.bipush 9, 2, 0, 9, false) else none))
  else
   (bif Nat.ble 1 pc then (bif Nat.beq pc 1 then some (.iconst 0, 1, 0, 0, false) else none) else (bif Nat.beq pc 0 then some (.iload_n 0, 1, 0, 0, false) else none)))
def qX7_isOwnerOrNone (pc : Nat) : Option mIn :=
  (bif Nat.ble 9 pc then
   (bif Nat.ble 13 pc then
    (bif Nat.ble 16 pc then (bif Nat.ble 17 pc then (bif Nat.beq pc 17 then some (.ireturn, 1, 0, 0, false) else none) else (bif Nat.beq pc 16 then some (.iconst 0, 1, 0, 0, false) else none)) else (bif Nat.beq pc 13 then some (.goto 4, 3, 17, 0, false) else none))
   else
    (bif Nat.ble 12 pc then (bif Nat.beq pc 12 then some (.iconst 1, 1, 0, 1, false) else none) else (bif Nat.beq pc 9 then some (.ifCond .eq 7, 3, 16, 0, false) else none)))
  else
   (bif Nat.ble 2 pc then
    (bif Nat.ble 5 pc then (bif Nat.ble 6 pc then (bif Nat.beq pc 6 then some (.invokestatic 121, 3, 0, 0, false) else none) else (bif Nat.beq pc 5 then some (.iload_n 0, 1, 0, 0, false) else none)) else (bif Nat.beq pc 2 then some (.if_icmp .eq 10, 3, 12, 0, false) else none))
   else
    (bif Nat.ble 1 pc then (bif Nat.beq pc 1 then some (.iconst (-1), 1, 0, -1, false) else none) else (bif Nat.beq pc 0 then some (.iload_n 0, 1, 0, 0, false) else none))))
def qX8_thrown (pc : Nat) : Option mIn :=
  (bif Nat.ble 1 pc then (bif Nat.ble 4 pc then (bif Nat.beq pc 4 then some (.ireturn, 1, 0, 0, false) else none) else (bif Nat.beq pc 1 then some (.getfield 3, 3, 0, 0, false) else none)) else (bif Nat.beq pc 0 then some (.aload_n 0, 1, 0, 0, false) else none))
def qX8_in (pc : Nat) : Option mIn :=
  (bif Nat.ble 9 pc then
   (bif Nat.ble 14 pc then
    (bif Nat.ble 17 pc then (bif Nat.ble 18 pc then (bif Nat.beq pc 18 then some (.ireturn, 1, 0, 0, false) else none) else (bif Nat.beq pc 17 then some (.iconst 0, 1, 0, 0, false) else none)) else (bif Nat.beq pc 14 then some (.goto 4, 3, 18, 0, false) else none))
   else
    (bif Nat.ble 10 pc then (bif Nat.ble 13 pc then (bif Nat.beq pc 13 then some (.iconst 1, 1, 0, 1, false) else none) else (bif Nat.beq pc 10 then some (.ifCond .gt 7, 3, 17, 0, false) else none)) else (bif Nat.beq pc 9 then some (.lcmp, 1, 0, 0, false) else none)))
  else
   (bif Nat.ble 3 pc then
    (bif Nat.ble 6 pc then (bif Nat.ble 7 pc then (bif Nat.beq pc 7 then some (.lload 4, 2, 0, 0, false) else none) else (bif Nat.beq pc 6 then some (.lload_n 0, 1, 0, 0, false) else none)) else (bif Nat.beq pc 3 then some (.ifCond .lt 14, 3, 17, 0, false) else none))
   else
    (bif Nat.ble 1 pc then (bif Nat.ble 2 pc then (bif Nat.beq pc 2 then some (.lcmp, 1, 0, 0, false) else none) else (bif Nat.beq pc 1 then some (.lload_n 2, 1, 0, 0, false) else none)) else (bif Nat.beq pc 0 then some (.lload_n 0, 1, 0, 0, false) else none))))
def qX8_refuse (pc : Nat) : Option mIn :=
  (bif Nat.ble 2 pc then
   (bif Nat.ble 5 pc then (bif Nat.ble 6 pc then (bif Nat.beq pc 6 then some (.ireturn, 1, 0, 0, false) else none) else (bif Nat.beq pc 5 then some (.iconst 0, 1, 0, 0, false) else none)) else (bif Nat.beq pc 2 then some (.putfield 3, 3, 0, 0, false) else none))
  else
   (bif Nat.ble 1 pc then (bif Nat.beq pc 1 then some (.iconst 1, 1, 0, 1, false) else none) else (bif Nat.beq pc 0 then some (.aload_n 0, 1, 0, 0, false) else none)))
def qX8_lays (pc : Nat) : Option mIn :=
  (bif Nat.ble 30 pc then
   (bif Nat.ble 44 pc then
    (bif Nat.ble 52 pc then
     (bif Nat.ble 54 pc then
      (bif Nat.ble 57 pc then (bif Nat.ble 60 pc then (bif Nat.beq pc 60 then some (.return_, 1, 0, 0, false) else none) else (bif Nat.beq pc 57 then some (.goto (-16), 3, 41, 0, false) else none)) else (bif Nat.beq pc 54 then some (.iinc 1 1, 3, 0, 1, false) else none))
     else
      (bif Nat.ble 53 pc then (bif Nat.beq pc 53 then some (.iastore, 1, 0, 0, false) else none) else (bif Nat.beq pc 52 then some (.iconst (-1), 1, 0, -1, false) else none)))
    else
     (bif Nat.ble 48 pc then (bif Nat.ble 51 pc then (bif Nat.beq pc 51 then some (.iload_n 1, 1, 0, 0, false) else none) else (bif Nat.beq pc 48 then some (.getfield 60, 3, 0, 0, false) else none)) else (bif Nat.ble 47 pc then (bif Nat.beq pc 47 then some (.aload_n 0, 1, 0, 0, false) else none) else (bif Nat.beq pc 44 then some (.if_icmp .ge 16, 3, 60, 0, false) else none))))
   else
    (bif Nat.ble 36 pc then
     (bif Nat.ble 40 pc then
      (bif Nat.ble 41 pc then (bif Nat.ble 42 pc then (bif Nat.beq pc 42 then some (.bipush 10, 2, 0, 10, false) else none) else (bif Nat.beq pc 41 then some (.iload_n 1, 1, 0, 0, true) else none)) else (bif Nat.beq pc 40 then some (.istore_n 1, 1, 0, 0, false) else none))
     else
      (bif Nat.ble 39 pc then (bif Nat.beq pc 39 then some (.iconst 0, 1, 0, 0, false) else none) else (bif Nat.beq pc 36 then some (.goto (-24), 3, 12, 0, false) else none)))
    else
     (bif Nat.ble 32 pc then (bif Nat.ble 33 pc then (bif Nat.beq pc 33 then some (.iinc 1 1, 3, 0, 1, false) else none) else (bif Nat.beq pc 32 then some (.iastore, 1, 0, 0, false) else none)) else (bif Nat.ble 31 pc then (bif Nat.beq pc 31 then some (.iconst (-1), 1, 0, -1, false) else none) else (bif Nat.beq pc 30 then some (.iload_n 1, 1, 0, 0, false) else none)))))
  else
   (bif Nat.ble 13 pc then
    (bif Nat.ble 23 pc then
     (bif Nat.ble 25 pc then
      (bif Nat.ble 26 pc then (bif Nat.ble 27 pc then (bif Nat.beq pc 27 then some (.getfield 27, 3, 0, 0, false) else none) else (bif Nat.beq pc 26 then some (.aload_n 0, 1, 0, 0, false) else none)) else (bif Nat.beq pc 25 then some (.bastore, 1, 0, 0, false) else none))
     else
      (bif Nat.ble 24 pc then (bif Nat.beq pc 24 then some (.iconst 0, 1, 0, 0, false) else none) else (bif Nat.beq pc 23 then some (.iload_n 1, 1, 0, 0, false) else none)))
    else
     (bif Nat.ble 19 pc then (bif Nat.ble 20 pc then (bif Nat.beq pc 20 then some (.getfield 23, 3, 0, 0, false) else none) else (bif Nat.beq pc 19 then some (.aload_n 0, 1, 0, 0, false) else none)) else (bif Nat.ble 16 pc then (bif Nat.beq pc 16 then some (.if_icmp .ge 23, 3, 39, 0, false) else none) else (bif Nat.beq pc 13 then some (.sipush 144, 3, 0, 144, false) else none))))
   else
    (bif Nat.ble 6 pc then
     (bif Nat.ble 10 pc then
      (bif Nat.ble 11 pc then (bif Nat.ble 12 pc then (bif Nat.beq pc 12 then some (.iload_n 1, 1, 0, 0, true) else none) else (bif Nat.beq pc 11 then some (.istore_n 1, 1, 0, 0, false) else none)) else (bif Nat.beq pc 10 then some (.iconst 0, 1, 0, 0, false) else none))
     else
      (bif Nat.ble 7 pc then (bif Nat.beq pc 7 then some (.putfield 93, 3, 0, 0, false) else none) else (bif Nat.beq pc 6 then some (.iconst 0, 1, 0, 0, false) else none)))
    else
     (bif Nat.ble 2 pc then (bif Nat.ble 5 pc then (bif Nat.beq pc 5 then some (.aload_n 0, 1, 0, 0, false) else none) else (bif Nat.beq pc 2 then some (.putfield 90, 3, 0, 0, false) else none)) else (bif Nat.ble 1 pc then (bif Nat.beq pc 1 then some (.iconst 0, 1, 0, 0, false) else none) else (bif Nat.beq pc 0 then some (.aload_n 0, 1, 0, 0, false) else none))))))
def qX8_isCell (pc : Nat) : Option mIn :=
  (bif Nat.ble 18 pc then
   (bif Nat.ble 26 pc then
    (bif Nat.ble 33 pc then
     (bif Nat.ble 36 pc then (bif Nat.ble 37 pc then (bif Nat.beq pc 37 then some (.ireturn, 1, 0, 0, false) else none) else (bif Nat.beq pc 36 then some (.iconst 0, 1, 0, 0, false) else none)) else (bif Nat.beq pc 33 then some (.goto 4, 3, 37, 0, false) else none))
    else
     (bif Nat.ble 29 pc then (bif Nat.ble 32 pc then (bif Nat.beq pc 32 then some (.iconst 1, 1, 0, 1, false) else none) else (bif Nat.beq pc 29 then some (.ifCond .eq 7, 3, 36, 0, false) else none)) else (bif Nat.beq pc 26 then some (.invokestatic 96, 3, 0, 0, false) else none)))
   else
    (bif Nat.ble 23 pc then
     (bif Nat.ble 24 pc then (bif Nat.ble 25 pc then (bif Nat.beq pc 25 then some (.i2l, 1, 0, 0, false) else none) else (bif Nat.beq pc 24 then some (.isub, 1, 0, 0, false) else none)) else (bif Nat.beq pc 23 then some (.iconst 1, 1, 0, 1, false) else none))
    else
     (bif Nat.ble 19 pc then (bif Nat.ble 20 pc then (bif Nat.beq pc 20 then some (.getfield 16, 3, 0, 0, false) else none) else (bif Nat.beq pc 19 then some (.aload_n 0, 1, 0, 0, false) else none)) else (bif Nat.beq pc 18 then some (.lconst 0, 1, 0, 0, false) else none))))
  else
   (bif Nat.ble 8 pc then
    (bif Nat.ble 13 pc then
     (bif Nat.ble 16 pc then (bif Nat.ble 17 pc then (bif Nat.beq pc 17 then some (.i2l, 1, 0, 0, false) else none) else (bif Nat.beq pc 16 then some (.iload_n 2, 1, 0, 0, false) else none)) else (bif Nat.beq pc 13 then some (.ifCond .eq 23, 3, 36, 0, false) else none))
    else
     (bif Nat.ble 9 pc then (bif Nat.ble 10 pc then (bif Nat.beq pc 10 then some (.invokestatic 96, 3, 0, 0, false) else none) else (bif Nat.beq pc 9 then some (.i2l, 1, 0, 0, false) else none)) else (bif Nat.beq pc 8 then some (.isub, 1, 0, 0, false) else none)))
   else
    (bif Nat.ble 3 pc then
     (bif Nat.ble 4 pc then (bif Nat.ble 7 pc then (bif Nat.beq pc 7 then some (.iconst 1, 1, 0, 1, false) else none) else (bif Nat.beq pc 4 then some (.getfield 13, 3, 0, 0, false) else none)) else (bif Nat.beq pc 3 then some (.aload_n 0, 1, 0, 0, false) else none))
    else
     (bif Nat.ble 1 pc then (bif Nat.ble 2 pc then (bif Nat.beq pc 2 then some (.lconst 0, 1, 0, 0, false) else none) else (bif Nat.beq pc 1 then some (.i2l, 1, 0, 0, false) else none)) else (bif Nat.beq pc 0 then some (.iload_n 1, 1, 0, 0, false) else none)))))
def qX8_isYear (pc : Nat) : Option mIn :=
  (bif Nat.ble 3 pc then
   (bif Nat.ble 6 pc then (bif Nat.ble 9 pc then (bif Nat.beq pc 9 then some (.ireturn, 1, 0, 0, false) else none) else (bif Nat.beq pc 6 then some (.invokestatic 96, 3, 0, 0, false) else none)) else (bif Nat.beq pc 3 then some (.ldc2_w 100, 3, 0, 0, false) else none))
  else
   (bif Nat.ble 1 pc then (bif Nat.ble 2 pc then (bif Nat.beq pc 2 then some (.lconst 0, 1, 0, 0, false) else none) else (bif Nat.beq pc 1 then some (.i2l, 1, 0, 0, false) else none)) else (bif Nat.beq pc 0 then some (.iload_n 0, 1, 0, 0, false) else none)))
def qX8_cell (pc : Nat) : Option mIn :=
  (bif Nat.ble 4 pc then
   (bif Nat.ble 5 pc then (bif Nat.ble 6 pc then (bif Nat.beq pc 6 then some (.ireturn, 1, 0, 0, false) else none) else (bif Nat.beq pc 5 then some (.iadd, 1, 0, 0, false) else none)) else (bif Nat.beq pc 4 then some (.iload_n 0, 1, 0, 0, false) else none))
  else
   (bif Nat.ble 2 pc then (bif Nat.ble 3 pc then (bif Nat.beq pc 3 then some (.imul, 1, 0, 0, false) else none) else (bif Nat.beq pc 2 then some (.iload_n 1, 1, 0, 0, false) else none)) else (bif Nat.beq pc 0 then some (.bipush 12, 2, 0, 12, false) else none)))
def qX8_land (pc : Nat) : Option mIn :=
  (bif Nat.ble 23 pc then
   (bif Nat.ble 36 pc then
    (bif Nat.ble 41 pc then
     (bif Nat.ble 45 pc then (bif Nat.ble 46 pc then (bif Nat.beq pc 46 then some (.ireturn, 1, 0, 0, false) else none) else (bif Nat.beq pc 45 then some (.iconst 1, 1, 0, 1, false) else none)) else (bif Nat.ble 42 pc then (bif Nat.beq pc 42 then some (.invokevirtual 87, 3, 0, 0, false) else none) else (bif Nat.beq pc 41 then some (.aload_n 0, 1, 0, 0, false) else none)))
    else
     (bif Nat.ble 37 pc then (bif Nat.ble 38 pc then (bif Nat.beq pc 38 then some (.putfield 16, 3, 0, 0, false) else none) else (bif Nat.beq pc 37 then some (.iload_n 2, 1, 0, 0, false) else none)) else (bif Nat.beq pc 36 then some (.aload_n 0, 1, 0, 0, false) else none)))
   else
    (bif Nat.ble 30 pc then
     (bif Nat.ble 32 pc then (bif Nat.ble 33 pc then (bif Nat.beq pc 33 then some (.putfield 13, 3, 0, 0, false) else none) else (bif Nat.beq pc 32 then some (.iload_n 1, 1, 0, 0, false) else none)) else (bif Nat.ble 31 pc then (bif Nat.beq pc 31 then some (.aload_n 0, 1, 0, 0, false) else none) else (bif Nat.beq pc 30 then some (.ireturn, 1, 0, 0, false) else none)))
    else
     (bif Nat.ble 26 pc then (bif Nat.ble 29 pc then (bif Nat.beq pc 29 then some (.iconst 0, 1, 0, 0, false) else none) else (bif Nat.beq pc 26 then some (.ifCond .ne 5, 3, 31, 0, false) else none)) else (bif Nat.beq pc 23 then some (.invokestatic 96, 3, 0, 0, false) else none))))
  else
   (bif Nat.ble 8 pc then
    (bif Nat.ble 17 pc then
     (bif Nat.ble 19 pc then (bif Nat.ble 20 pc then (bif Nat.beq pc 20 then some (.ldc2_w 102, 3, 0, 0, false) else none) else (bif Nat.beq pc 19 then some (.lconst 1, 1, 0, 0, false) else none)) else (bif Nat.ble 18 pc then (bif Nat.beq pc 18 then some (.i2l, 1, 0, 0, false) else none) else (bif Nat.beq pc 17 then some (.iload_n 2, 1, 0, 0, false) else none)))
    else
     (bif Nat.ble 11 pc then (bif Nat.ble 14 pc then (bif Nat.beq pc 14 then some (.ifCond .eq 15, 3, 29, 0, false) else none) else (bif Nat.beq pc 11 then some (.invokestatic 96, 3, 0, 0, false) else none)) else (bif Nat.beq pc 8 then some (.ldc2_w 102, 3, 0, 0, false) else none)))
   else
    (bif Nat.ble 5 pc then
     (bif Nat.ble 6 pc then (bif Nat.ble 7 pc then (bif Nat.beq pc 7 then some (.lconst 1, 1, 0, 0, false) else none) else (bif Nat.beq pc 6 then some (.i2l, 1, 0, 0, false) else none)) else (bif Nat.beq pc 5 then some (.iload_n 1, 1, 0, 0, false) else none))
    else
     (bif Nat.ble 1 pc then (bif Nat.ble 2 pc then (bif Nat.beq pc 2 then some (.putfield 3, 3, 0, 0, false) else none) else (bif Nat.beq pc 1 then some (.iconst 0, 1, 0, 0, false) else none)) else (bif Nat.beq pc 0 then some (.aload_n 0, 1, 0, 0, false) else none)))))
def qX8_rowOf (pc : Nat) : Option mIn :=
  (bif Nat.ble 35 pc then
   (bif Nat.ble 54 pc then
    (bif Nat.ble 64 pc then
     (bif Nat.ble 69 pc then
      (bif Nat.ble 72 pc then (bif Nat.ble 73 pc then (bif Nat.beq pc 73 then some (.ireturn, 1, 0, 0, false) else none) else (bif Nat.beq pc 72 then some (.iload_n 3, 1, 0, 0, false) else none)) else (bif Nat.beq pc 69 then some (.goto (-64), 3, 5, 0, false) else none))
     else
      (bif Nat.ble 65 pc then (bif Nat.ble 66 pc then (bif Nat.beq pc 66 then some (.iinc 4 1, 3, 0, 1, false) else none) else (bif Nat.beq pc 65 then some (.istore_n 3, 1, 0, 0, false) else none)) else (bif Nat.beq pc 64 then some (.iadd, 1, 0, 0, false) else none)))
    else
     (bif Nat.ble 59 pc then
      (bif Nat.ble 60 pc then (bif Nat.ble 63 pc then (bif Nat.beq pc 63 then some (.iconst 0, 1, 0, 0, false) else none) else (bif Nat.beq pc 60 then some (.goto 4, 3, 64, 0, false) else none)) else (bif Nat.beq pc 59 then some (.iconst 1, 1, 0, 1, false) else none))
     else
      (bif Nat.ble 56 pc then (bif Nat.beq pc 56 then some (.ifCond .eq 7, 3, 63, 0, false) else none) else (bif Nat.beq pc 54 then some (.iload 5, 2, 0, 0, false) else none))))
   else
    (bif Nat.ble 45 pc then
     (bif Nat.ble 50 pc then
      (bif Nat.ble 52 pc then (bif Nat.ble 53 pc then (bif Nat.beq pc 53 then some (.iload_n 3, 1, 0, 0, false) else none) else (bif Nat.beq pc 52 then some (.bastore, 1, 0, 0, false) else none)) else (bif Nat.beq pc 50 then some (.iload 5, 2, 0, 0, false) else none))
     else
      (bif Nat.ble 46 pc then (bif Nat.ble 49 pc then (bif Nat.beq pc 49 then some (.iadd, 1, 0, 0, false) else none) else (bif Nat.beq pc 46 then some (.invokestatic 104, 3, 0, 0, false) else none)) else (bif Nat.beq pc 45 then some (.iload_n 1, 1, 0, 0, false) else none)))
    else
     (bif Nat.ble 39 pc then
      (bif Nat.ble 42 pc then (bif Nat.ble 43 pc then (bif Nat.beq pc 43 then some (.iload 4, 2, 0, 0, false) else none) else (bif Nat.beq pc 42 then some (.imul, 1, 0, 0, false) else none)) else (bif Nat.beq pc 39 then some (.getfield 90, 3, 0, 0, false) else none))
     else
      (bif Nat.ble 38 pc then (bif Nat.beq pc 38 then some (.aload_n 0, 1, 0, 0, false) else none) else (bif Nat.beq pc 35 then some (.sipush 144, 3, 0, 144, false) else none)))))
  else
   (bif Nat.ble 17 pc then
    (bif Nat.ble 24 pc then
     (bif Nat.ble 29 pc then
      (bif Nat.ble 31 pc then (bif Nat.ble 32 pc then (bif Nat.beq pc 32 then some (.getfield 23, 3, 0, 0, false) else none) else (bif Nat.beq pc 31 then some (.aload_n 0, 1, 0, 0, false) else none)) else (bif Nat.beq pc 29 then some (.istore 5, 2, 0, 0, false) else none))
     else
      (bif Nat.ble 25 pc then (bif Nat.ble 28 pc then (bif Nat.beq pc 28 then some (.iconst 0, 1, 0, 0, false) else none) else (bif Nat.beq pc 25 then some (.goto 4, 3, 29, 0, false) else none)) else (bif Nat.beq pc 24 then some (.iconst 1, 1, 0, 1, false) else none)))
    else
     (bif Nat.ble 19 pc then
      (bif Nat.ble 20 pc then (bif Nat.ble 21 pc then (bif Nat.beq pc 21 then some (.if_icmp .ne 7, 3, 28, 0, false) else none) else (bif Nat.beq pc 20 then some (.iconst 1, 1, 0, 1, false) else none)) else (bif Nat.beq pc 19 then some (.iand, 1, 0, 0, false) else none))
     else
      (bif Nat.ble 18 pc then (bif Nat.beq pc 18 then some (.iconst 1, 1, 0, 1, false) else none) else (bif Nat.beq pc 17 then some (.ishr, 1, 0, 0, false) else none))))
   else
    (bif Nat.ble 7 pc then
     (bif Nat.ble 11 pc then
      (bif Nat.ble 14 pc then (bif Nat.ble 15 pc then (bif Nat.beq pc 15 then some (.iload 4, 2, 0, 0, false) else none) else (bif Nat.beq pc 14 then some (.iload_n 2, 1, 0, 0, false) else none)) else (bif Nat.beq pc 11 then some (.if_icmp .ge 61, 3, 72, 0, false) else none))
     else
      (bif Nat.ble 8 pc then (bif Nat.beq pc 8 then some (.getfield 13, 3, 0, 0, false) else none) else (bif Nat.beq pc 7 then some (.aload_n 0, 1, 0, 0, false) else none)))
    else
     (bif Nat.ble 2 pc then
      (bif Nat.ble 3 pc then (bif Nat.ble 5 pc then (bif Nat.beq pc 5 then some (.iload 4, 2, 0, 0, true) else none) else (bif Nat.beq pc 3 then some (.istore 4, 2, 0, 0, false) else none)) else (bif Nat.beq pc 2 then some (.iconst 0, 1, 0, 0, false) else none))
     else
      (bif Nat.ble 1 pc then (bif Nat.beq pc 1 then some (.istore_n 3, 1, 0, 0, false) else none) else (bif Nat.beq pc 0 then some (.iconst 0, 1, 0, 0, false) else none))))))
def qX8_water (pc : Nat) : Option mIn :=
  (bif Nat.ble 18 pc then
   (bif Nat.ble 31 pc then
    (bif Nat.ble 36 pc then
     (bif Nat.ble 39 pc then (bif Nat.ble 40 pc then (bif Nat.beq pc 40 then some (.ireturn, 1, 0, 0, false) else none) else (bif Nat.beq pc 39 then some (.iconst (-1), 1, 0, -1, false) else none)) else (bif Nat.beq pc 36 then some (.goto 4, 3, 40, 0, false) else none))
    else
     (bif Nat.ble 32 pc then (bif Nat.ble 33 pc then (bif Nat.beq pc 33 then some (.invokevirtual 108, 3, 0, 0, false) else none) else (bif Nat.beq pc 32 then some (.iload_n 2, 1, 0, 0, false) else none)) else (bif Nat.beq pc 31 then some (.iload_n 1, 1, 0, 0, false) else none)))
   else
    (bif Nat.ble 25 pc then
     (bif Nat.ble 27 pc then (bif Nat.ble 30 pc then (bif Nat.beq pc 30 then some (.aload_n 0, 1, 0, 0, false) else none) else (bif Nat.beq pc 27 then some (.if_icmp .ge 12, 3, 39, 0, false) else none)) else (bif Nat.beq pc 25 then some (.bipush 10, 2, 0, 10, false) else none))
    else
     (bif Nat.ble 21 pc then (bif Nat.ble 22 pc then (bif Nat.beq pc 22 then some (.getfield 90, 3, 0, 0, false) else none) else (bif Nat.beq pc 21 then some (.aload_n 0, 1, 0, 0, false) else none)) else (bif Nat.beq pc 18 then some (.ifCond .eq 21, 3, 39, 0, false) else none))))
  else
   (bif Nat.ble 8 pc then
    (bif Nat.ble 13 pc then
     (bif Nat.ble 14 pc then (bif Nat.ble 15 pc then (bif Nat.beq pc 15 then some (.invokestatic 96, 3, 0, 0, false) else none) else (bif Nat.beq pc 14 then some (.i2l, 1, 0, 0, false) else none)) else (bif Nat.beq pc 13 then some (.isub, 1, 0, 0, false) else none))
    else
     (bif Nat.ble 9 pc then (bif Nat.ble 12 pc then (bif Nat.beq pc 12 then some (.iconst 1, 1, 0, 1, false) else none) else (bif Nat.beq pc 9 then some (.getfield 16, 3, 0, 0, false) else none)) else (bif Nat.beq pc 8 then some (.aload_n 0, 1, 0, 0, false) else none)))
   else
    (bif Nat.ble 5 pc then
     (bif Nat.ble 6 pc then (bif Nat.ble 7 pc then (bif Nat.beq pc 7 then some (.lconst 0, 1, 0, 0, false) else none) else (bif Nat.beq pc 6 then some (.i2l, 1, 0, 0, false) else none)) else (bif Nat.beq pc 5 then some (.iload_n 1, 1, 0, 0, false) else none))
    else
     (bif Nat.ble 1 pc then (bif Nat.ble 2 pc then (bif Nat.beq pc 2 then some (.putfield 3, 3, 0, 0, false) else none) else (bif Nat.beq pc 1 then some (.iconst 0, 1, 0, 0, false) else none)) else (bif Nat.beq pc 0 then some (.aload_n 0, 1, 0, 0, false) else none)))))
def qX8_sheet (pc : Nat) : Option mIn :=
  (bif Nat.ble 63 pc then
   (bif Nat.ble 94 pc then
    (bif Nat.ble 113 pc then
     (bif Nat.ble 120 pc then
      (bif Nat.ble 125 pc then
       (bif Nat.ble 128 pc then (bif Nat.ble 130 pc then (bif Nat.beq pc 130 then some (.ireturn, 1, 0, 0, false) else none) else (bif Nat.beq pc 128 then some (.iload 6, 2, 0, 0, false) else none)) else (bif Nat.beq pc 125 then some (.goto (-42), 3, 83, 0, false) else none))
      else
       (bif Nat.ble 122 pc then (bif Nat.beq pc 122 then some (.iinc 8 1, 3, 0, 1, false) else none) else (bif Nat.beq pc 120 then some (.istore 7, 2, 0, 0, false) else none)))
     else
      (bif Nat.ble 117 pc then (bif Nat.ble 119 pc then (bif Nat.beq pc 119 then some (.iadd, 1, 0, 0, false) else none) else (bif Nat.beq pc 117 then some (.iload 5, 2, 0, 0, false) else none)) else (bif Nat.ble 115 pc then (bif Nat.beq pc 115 then some (.iload 7, 2, 0, 0, false) else none) else (bif Nat.beq pc 113 then some (.istore 9, 2, 0, 0, false) else none))))
    else
     (bif Nat.ble 101 pc then
      (bif Nat.ble 105 pc then
       (bif Nat.ble 108 pc then (bif Nat.ble 110 pc then (bif Nat.beq pc 110 then some (.invokevirtual 108, 3, 0, 0, false) else none) else (bif Nat.beq pc 108 then some (.iload 7, 2, 0, 0, false) else none)) else (bif Nat.beq pc 105 then some (.goto 5, 3, 110, 0, false) else none))
      else
       (bif Nat.ble 104 pc then (bif Nat.beq pc 104 then some (.iand, 1, 0, 0, false) else none) else (bif Nat.beq pc 101 then some (.sipush 255, 3, 0, 255, false) else none)))
     else
      (bif Nat.ble 96 pc then (bif Nat.ble 99 pc then (bif Nat.beq pc 99 then some (.iload 7, 2, 0, 0, false) else none) else (bif Nat.beq pc 96 then some (.ifCond .ne 12, 3, 108, 0, false) else none)) else (bif Nat.ble 95 pc then (bif Nat.beq pc 95 then some (.iload_n 2, 1, 0, 0, false) else none) else (bif Nat.beq pc 94 then some (.iadd, 1, 0, 0, false) else none)))))
   else
    (bif Nat.ble 78 pc then
     (bif Nat.ble 85 pc then
      (bif Nat.ble 90 pc then
       (bif Nat.ble 91 pc then (bif Nat.ble 92 pc then (bif Nat.beq pc 92 then some (.iload 8, 2, 0, 0, false) else none) else (bif Nat.beq pc 91 then some (.iload_n 1, 1, 0, 0, false) else none)) else (bif Nat.beq pc 90 then some (.aload_n 0, 1, 0, 0, false) else none))
      else
       (bif Nat.ble 87 pc then (bif Nat.beq pc 87 then some (.if_icmp .ge 41, 3, 128, 0, false) else none) else (bif Nat.beq pc 85 then some (.iload 6, 2, 0, 0, false) else none)))
     else
      (bif Nat.ble 81 pc then (bif Nat.ble 83 pc then (bif Nat.beq pc 83 then some (.iload 8, 2, 0, 0, true) else none) else (bif Nat.beq pc 81 then some (.istore 8, 2, 0, 0, false) else none)) else (bif Nat.ble 80 pc then (bif Nat.beq pc 80 then some (.iconst 0, 1, 0, 0, false) else none) else (bif Nat.beq pc 78 then some (.istore 7, 2, 0, 0, false) else none))))
    else
     (bif Nat.ble 69 pc then
      (bif Nat.ble 71 pc then
       (bif Nat.ble 74 pc then (bif Nat.ble 76 pc then (bif Nat.beq pc 76 then some (.iload 4, 2, 0, 0, false) else none) else (bif Nat.beq pc 74 then some (.istore 6, 2, 0, 0, false) else none)) else (bif Nat.beq pc 71 then some (.invokestatic 113, 3, 0, 0, false) else none))
      else
       (bif Nat.ble 70 pc then (bif Nat.beq pc 70 then some (.isub, 1, 0, 0, false) else none) else (bif Nat.beq pc 69 then some (.iload_n 1, 1, 0, 0, false) else none)))
     else
      (bif Nat.ble 65 pc then (bif Nat.ble 66 pc then (bif Nat.beq pc 66 then some (.getfield 16, 3, 0, 0, false) else none) else (bif Nat.beq pc 65 then some (.aload_n 0, 1, 0, 0, false) else none)) else (bif Nat.ble 64 pc then (bif Nat.beq pc 64 then some (.iload_n 3, 1, 0, 0, false) else none) else (bif Nat.beq pc 63 then some (.ireturn, 1, 0, 0, false) else none))))))
  else
   (bif Nat.ble 30 pc then
    (bif Nat.ble 49 pc then
     (bif Nat.ble 55 pc then
      (bif Nat.ble 57 pc then
       (bif Nat.ble 58 pc then (bif Nat.ble 61 pc then (bif Nat.beq pc 61 then some (.bipush (-2), 2, 0, -2, false) else none) else (bif Nat.beq pc 58 then some (.ifCond .ge 6, 3, 64, 0, false) else none)) else (bif Nat.beq pc 57 then some (.iload_n 3, 1, 0, 0, false) else none))
      else
       (bif Nat.ble 56 pc then (bif Nat.beq pc 56 then some (.ireturn, 1, 0, 0, false) else none) else (bif Nat.beq pc 55 then some (.iconst 0, 1, 0, 0, false) else none)))
     else
      (bif Nat.ble 51 pc then (bif Nat.ble 52 pc then (bif Nat.beq pc 52 then some (.if_icmp .ne 5, 3, 57, 0, false) else none) else (bif Nat.beq pc 51 then some (.iconst 2, 1, 0, 2, false) else none)) else (bif Nat.ble 50 pc then (bif Nat.beq pc 50 then some (.iload_n 2, 1, 0, 0, false) else none) else (bif Nat.beq pc 49 then some (.ireturn, 1, 0, 0, false) else none))))
    else
     (bif Nat.ble 39 pc then
      (bif Nat.ble 43 pc then
       (bif Nat.ble 45 pc then (bif Nat.ble 48 pc then (bif Nat.beq pc 48 then some (.iconst (-1), 1, 0, -1, false) else none) else (bif Nat.beq pc 45 then some (.if_icmp .ne 5, 3, 50, 0, false) else none)) else (bif Nat.beq pc 43 then some (.bipush 10, 2, 0, 10, false) else none))
      else
       (bif Nat.ble 40 pc then (bif Nat.beq pc 40 then some (.getfield 90, 3, 0, 0, false) else none) else (bif Nat.beq pc 39 then some (.aload_n 0, 1, 0, 0, false) else none)))
     else
      (bif Nat.ble 34 pc then (bif Nat.ble 36 pc then (bif Nat.beq pc 36 then some (.if_icmp .gt 12, 3, 48, 0, false) else none) else (bif Nat.beq pc 34 then some (.bipush 20, 2, 0, 20, false) else none)) else (bif Nat.ble 33 pc then (bif Nat.beq pc 33 then some (.iload_n 3, 1, 0, 0, false) else none) else (bif Nat.beq pc 30 then some (.ifCond .eq 18, 3, 48, 0, false) else none)))))
   else
    (bif Nat.ble 13 pc then
     (bif Nat.ble 21 pc then
      (bif Nat.ble 23 pc then
       (bif Nat.ble 24 pc then (bif Nat.ble 27 pc then (bif Nat.beq pc 27 then some (.invokestatic 96, 3, 0, 0, false) else none) else (bif Nat.beq pc 24 then some (.ldc2_w 111, 3, 0, 0, false) else none)) else (bif Nat.beq pc 23 then some (.lconst 0, 1, 0, 0, false) else none))
      else
       (bif Nat.ble 22 pc then (bif Nat.beq pc 22 then some (.i2l, 1, 0, 0, false) else none) else (bif Nat.beq pc 21 then some (.iload_n 2, 1, 0, 0, false) else none)))
     else
      (bif Nat.ble 15 pc then (bif Nat.ble 18 pc then (bif Nat.beq pc 18 then some (.ifCond .eq 30, 3, 48, 0, false) else none) else (bif Nat.beq pc 15 then some (.invokestatic 96, 3, 0, 0, false) else none)) else (bif Nat.ble 14 pc then (bif Nat.beq pc 14 then some (.i2l, 1, 0, 0, false) else none) else (bif Nat.beq pc 13 then some (.isub, 1, 0, 0, false) else none))))
    else
     (bif Nat.ble 6 pc then
      (bif Nat.ble 8 pc then
       (bif Nat.ble 9 pc then (bif Nat.ble 12 pc then (bif Nat.beq pc 12 then some (.iconst 1, 1, 0, 1, false) else none) else (bif Nat.beq pc 9 then some (.getfield 16, 3, 0, 0, false) else none)) else (bif Nat.beq pc 8 then some (.aload_n 0, 1, 0, 0, false) else none))
      else
       (bif Nat.ble 7 pc then (bif Nat.beq pc 7 then some (.lconst 0, 1, 0, 0, false) else none) else (bif Nat.beq pc 6 then some (.i2l, 1, 0, 0, false) else none)))
     else
      (bif Nat.ble 2 pc then (bif Nat.ble 5 pc then (bif Nat.beq pc 5 then some (.iload_n 1, 1, 0, 0, false) else none) else (bif Nat.beq pc 2 then some (.putfield 3, 3, 0, 0, false) else none)) else (bif Nat.ble 1 pc then (bif Nat.beq pc 1 then some (.iconst 0, 1, 0, 0, false) else none) else (bif Nat.beq pc 0 then some (.aload_n 0, 1, 0, 0, false) else none)))))))
def qX8_map (pc : Nat) : Option mIn :=
  (bif Nat.ble 61 pc then
   (bif Nat.ble 92 pc then
    (bif Nat.ble 104 pc then
     (bif Nat.ble 112 pc then
      (bif Nat.ble 116 pc then
       (bif Nat.ble 117 pc then (bif Nat.ble 118 pc then (bif Nat.beq pc 118 then some (.ireturn, 1, 0, 0, false) else none) else (bif Nat.beq pc 117 then some (.isub, 1, 0, 0, false) else none)) else (bif Nat.beq pc 116 then some (.iconst 1, 1, 0, 1, false) else none))
      else
       (bif Nat.ble 113 pc then (bif Nat.beq pc 113 then some (.getfield 90, 3, 0, 0, false) else none) else (bif Nat.beq pc 112 then some (.aload_n 0, 1, 0, 0, false) else none)))
     else
      (bif Nat.ble 108 pc then (bif Nat.ble 109 pc then (bif Nat.beq pc 109 then some (.putfield 90, 3, 0, 0, false) else none) else (bif Nat.beq pc 108 then some (.iadd, 1, 0, 0, false) else none)) else (bif Nat.ble 107 pc then (bif Nat.beq pc 107 then some (.iconst 1, 1, 0, 1, false) else none) else (bif Nat.beq pc 104 then some (.getfield 90, 3, 0, 0, false) else none))))
    else
     (bif Nat.ble 96 pc then
      (bif Nat.ble 102 pc then (bif Nat.ble 103 pc then (bif Nat.beq pc 103 then some (.dup, 1, 0, 0, false) else none) else (bif Nat.beq pc 102 then some (.aload_n 0, 1, 0, 0, false) else none)) else (bif Nat.ble 99 pc then (bif Nat.beq pc 99 then some (.goto (-42), 3, 57, 0, false) else none) else (bif Nat.beq pc 96 then some (.iinc 2 1, 3, 0, 1, false) else none)))
     else
      (bif Nat.ble 94 pc then (bif Nat.ble 95 pc then (bif Nat.beq pc 95 then some (.bastore, 1, 0, 0, false) else none) else (bif Nat.beq pc 94 then some (.baload, 1, 0, 0, false) else none)) else (bif Nat.ble 93 pc then (bif Nat.beq pc 93 then some (.iadd, 1, 0, 0, false) else none) else (bif Nat.beq pc 92 then some (.iload_n 2, 1, 0, 0, false) else none)))))
   else
    (bif Nat.ble 77 pc then
     (bif Nat.ble 81 pc then
      (bif Nat.ble 87 pc then
       (bif Nat.ble 88 pc then (bif Nat.ble 91 pc then (bif Nat.beq pc 91 then some (.imul, 1, 0, 0, false) else none) else (bif Nat.beq pc 88 then some (.getfield 90, 3, 0, 0, false) else none)) else (bif Nat.beq pc 87 then some (.aload_n 0, 1, 0, 0, false) else none))
      else
       (bif Nat.ble 84 pc then (bif Nat.beq pc 84 then some (.sipush 144, 3, 0, 144, false) else none) else (bif Nat.beq pc 81 then some (.getfield 23, 3, 0, 0, false) else none)))
     else
      (bif Nat.ble 79 pc then (bif Nat.ble 80 pc then (bif Nat.beq pc 80 then some (.aload_n 0, 1, 0, 0, false) else none) else (bif Nat.beq pc 79 then some (.iadd, 1, 0, 0, false) else none)) else (bif Nat.ble 78 pc then (bif Nat.beq pc 78 then some (.iload_n 2, 1, 0, 0, false) else none) else (bif Nat.beq pc 77 then some (.imul, 1, 0, 0, false) else none))))
    else
     (bif Nat.ble 71 pc then
      (bif Nat.ble 75 pc then (bif Nat.ble 76 pc then (bif Nat.beq pc 76 then some (.iadd, 1, 0, 0, false) else none) else (bif Nat.beq pc 75 then some (.iconst 1, 1, 0, 1, false) else none)) else (bif Nat.ble 72 pc then (bif Nat.beq pc 72 then some (.getfield 90, 3, 0, 0, false) else none) else (bif Nat.beq pc 71 then some (.aload_n 0, 1, 0, 0, false) else none)))
     else
      (bif Nat.ble 65 pc then (bif Nat.ble 68 pc then (bif Nat.beq pc 68 then some (.sipush 144, 3, 0, 144, false) else none) else (bif Nat.beq pc 65 then some (.getfield 23, 3, 0, 0, false) else none)) else (bif Nat.ble 64 pc then (bif Nat.beq pc 64 then some (.aload_n 0, 1, 0, 0, false) else none) else (bif Nat.beq pc 61 then some (.if_icmp .ge 41, 3, 102, 0, false) else none))))))
  else
   (bif Nat.ble 34 pc then
    (bif Nat.ble 46 pc then
     (bif Nat.ble 54 pc then
      (bif Nat.ble 56 pc then
       (bif Nat.ble 57 pc then (bif Nat.ble 58 pc then (bif Nat.beq pc 58 then some (.sipush 144, 3, 0, 144, false) else none) else (bif Nat.beq pc 57 then some (.iload_n 2, 1, 0, 0, true) else none)) else (bif Nat.beq pc 56 then some (.istore_n 2, 1, 0, 0, false) else none))
      else
       (bif Nat.ble 55 pc then (bif Nat.beq pc 55 then some (.iconst 0, 1, 0, 0, false) else none) else (bif Nat.beq pc 54 then some (.iastore, 1, 0, 0, false) else none)))
     else
      (bif Nat.ble 50 pc then (bif Nat.ble 53 pc then (bif Nat.beq pc 53 then some (.iload_n 1, 1, 0, 0, false) else none) else (bif Nat.beq pc 50 then some (.getfield 90, 3, 0, 0, false) else none)) else (bif Nat.ble 49 pc then (bif Nat.beq pc 49 then some (.aload_n 0, 1, 0, 0, false) else none) else (bif Nat.beq pc 46 then some (.getfield 19, 3, 0, 0, false) else none))))
    else
     (bif Nat.ble 40 pc then
      (bif Nat.ble 44 pc then (bif Nat.ble 45 pc then (bif Nat.beq pc 45 then some (.aload_n 0, 1, 0, 0, false) else none) else (bif Nat.beq pc 44 then some (.ireturn, 1, 0, 0, false) else none)) else (bif Nat.ble 43 pc then (bif Nat.beq pc 43 then some (.iconst (-1), 1, 0, -1, false) else none) else (bif Nat.beq pc 40 then some (.if_icmp .gt 5, 3, 45, 0, false) else none)))
     else
      (bif Nat.ble 38 pc then (bif Nat.ble 39 pc then (bif Nat.beq pc 39 then some (.iaload, 1, 0, 0, false) else none) else (bif Nat.beq pc 38 then some (.isub, 1, 0, 0, false) else none)) else (bif Nat.ble 37 pc then (bif Nat.beq pc 37 then some (.iconst 1, 1, 0, 1, false) else none) else (bif Nat.beq pc 34 then some (.getfield 90, 3, 0, 0, false) else none)))))
   else
    (bif Nat.ble 16 pc then
     (bif Nat.ble 25 pc then
      (bif Nat.ble 29 pc then
       (bif Nat.ble 30 pc then (bif Nat.ble 33 pc then (bif Nat.beq pc 33 then some (.aload_n 0, 1, 0, 0, false) else none) else (bif Nat.beq pc 30 then some (.getfield 19, 3, 0, 0, false) else none)) else (bif Nat.beq pc 29 then some (.aload_n 0, 1, 0, 0, false) else none))
      else
       (bif Nat.ble 28 pc then (bif Nat.beq pc 28 then some (.iload_n 1, 1, 0, 0, false) else none) else (bif Nat.beq pc 25 then some (.ifCond .le 20, 3, 45, 0, false) else none)))
     else
      (bif Nat.ble 21 pc then (bif Nat.ble 22 pc then (bif Nat.beq pc 22 then some (.getfield 90, 3, 0, 0, false) else none) else (bif Nat.beq pc 21 then some (.aload_n 0, 1, 0, 0, false) else none)) else (bif Nat.ble 18 pc then (bif Nat.beq pc 18 then some (.if_icmp .eq 25, 3, 43, 0, false) else none) else (bif Nat.beq pc 16 then some (.bipush 10, 2, 0, 10, false) else none))))
    else
     (bif Nat.ble 6 pc then
      (bif Nat.ble 12 pc then (bif Nat.ble 13 pc then (bif Nat.beq pc 13 then some (.getfield 90, 3, 0, 0, false) else none) else (bif Nat.beq pc 12 then some (.aload_n 0, 1, 0, 0, false) else none)) else (bif Nat.ble 9 pc then (bif Nat.beq pc 9 then some (.ifCond .eq 34, 3, 43, 0, false) else none) else (bif Nat.beq pc 6 then some (.invokestatic 118, 3, 0, 0, false) else none)))
     else
      (bif Nat.ble 2 pc then (bif Nat.ble 5 pc then (bif Nat.beq pc 5 then some (.iload_n 1, 1, 0, 0, false) else none) else (bif Nat.beq pc 2 then some (.putfield 3, 3, 0, 0, false) else none)) else (bif Nat.ble 1 pc then (bif Nat.beq pc 1 then some (.iconst 0, 1, 0, 0, false) else none) else (bif Nat.beq pc 0 then some (.aload_n 0, 1, 0, 0, false) else none)))))))
def qX8_isBox (pc : Nat) : Option mIn :=
  (bif Nat.ble 19 pc then
   (bif Nat.ble 27 pc then
    (bif Nat.ble 31 pc then
     (bif Nat.ble 34 pc then (bif Nat.ble 35 pc then (bif Nat.beq pc 35 then some (.ireturn, 1, 0, 0, false) else none) else (bif Nat.beq pc 34 then some (.iconst 0, 1, 0, 0, false) else none)) else (bif Nat.beq pc 31 then some (.goto 4, 3, 35, 0, false) else none))
    else
     (bif Nat.ble 30 pc then (bif Nat.beq pc 30 then some (.iconst 1, 1, 0, 1, false) else none) else (bif Nat.beq pc 27 then some (.if_icmp .gt 7, 3, 34, 0, false) else none)))
   else
    (bif Nat.ble 21 pc then
     (bif Nat.ble 24 pc then (bif Nat.ble 25 pc then (bif Nat.beq pc 25 then some (.iload 4, 2, 0, 0, false) else none) else (bif Nat.beq pc 24 then some (.iload_n 2, 1, 0, 0, false) else none)) else (bif Nat.beq pc 21 then some (.if_icmp .gt 13, 3, 34, 0, false) else none))
    else
     (bif Nat.ble 20 pc then (bif Nat.beq pc 20 then some (.iload_n 3, 1, 0, 0, false) else none) else (bif Nat.beq pc 19 then some (.iload_n 1, 1, 0, 0, false) else none))))
  else
   (bif Nat.ble 9 pc then
    (bif Nat.ble 11 pc then
     (bif Nat.ble 13 pc then (bif Nat.ble 16 pc then (bif Nat.beq pc 16 then some (.ifCond .eq 18, 3, 34, 0, false) else none) else (bif Nat.beq pc 13 then some (.invokevirtual 122, 3, 0, 0, false) else none)) else (bif Nat.beq pc 11 then some (.iload 4, 2, 0, 0, false) else none))
    else
     (bif Nat.ble 10 pc then (bif Nat.beq pc 10 then some (.iload_n 3, 1, 0, 0, false) else none) else (bif Nat.beq pc 9 then some (.aload_n 0, 1, 0, 0, false) else none)))
   else
    (bif Nat.ble 2 pc then
     (bif Nat.ble 3 pc then (bif Nat.ble 6 pc then (bif Nat.beq pc 6 then some (.ifCond .eq 28, 3, 34, 0, false) else none) else (bif Nat.beq pc 3 then some (.invokevirtual 122, 3, 0, 0, false) else none)) else (bif Nat.beq pc 2 then some (.iload_n 2, 1, 0, 0, false) else none))
    else
     (bif Nat.ble 1 pc then (bif Nat.beq pc 1 then some (.iload_n 1, 1, 0, 0, false) else none) else (bif Nat.beq pc 0 then some (.aload_n 0, 1, 0, 0, false) else none)))))
def qX8_isInBox (pc : Nat) : Option mIn :=
  (bif Nat.ble 24 pc then
   (bif Nat.ble 34 pc then
    (bif Nat.ble 42 pc then
     (bif Nat.ble 46 pc then (bif Nat.ble 47 pc then (bif Nat.beq pc 47 then some (.ireturn, 1, 0, 0, false) else none) else (bif Nat.beq pc 46 then some (.iconst 0, 1, 0, 0, false) else none)) else (bif Nat.ble 43 pc then (bif Nat.beq pc 43 then some (.goto 4, 3, 47, 0, false) else none) else (bif Nat.beq pc 42 then some (.iconst 1, 1, 0, 1, false) else none)))
    else
     (bif Nat.ble 36 pc then (bif Nat.ble 39 pc then (bif Nat.beq pc 39 then some (.ifCond .eq 7, 3, 46, 0, false) else none) else (bif Nat.beq pc 36 then some (.invokestatic 96, 3, 0, 0, false) else none)) else (bif Nat.ble 35 pc then (bif Nat.beq pc 35 then some (.i2l, 1, 0, 0, false) else none) else (bif Nat.beq pc 34 then some (.idiv, 1, 0, 0, false) else none))))
   else
    (bif Nat.ble 29 pc then
     (bif Nat.ble 31 pc then (bif Nat.ble 32 pc then (bif Nat.beq pc 32 then some (.bipush 12, 2, 0, 12, false) else none) else (bif Nat.beq pc 31 then some (.iload_n 2, 1, 0, 0, false) else none)) else (bif Nat.ble 30 pc then (bif Nat.beq pc 30 then some (.i2l, 1, 0, 0, false) else none) else (bif Nat.beq pc 29 then some (.idiv, 1, 0, 0, false) else none)))
    else
     (bif Nat.ble 26 pc then (bif Nat.ble 27 pc then (bif Nat.beq pc 27 then some (.bipush 12, 2, 0, 12, false) else none) else (bif Nat.beq pc 26 then some (.iload_n 1, 1, 0, 0, false) else none)) else (bif Nat.ble 25 pc then (bif Nat.beq pc 25 then some (.i2l, 1, 0, 0, false) else none) else (bif Nat.beq pc 24 then some (.idiv, 1, 0, 0, false) else none)))))
  else
   (bif Nat.ble 10 pc then
    (bif Nat.ble 15 pc then
     (bif Nat.ble 21 pc then (bif Nat.ble 22 pc then (bif Nat.beq pc 22 then some (.bipush 12, 2, 0, 12, false) else none) else (bif Nat.beq pc 21 then some (.iload_n 0, 1, 0, 0, false) else none)) else (bif Nat.ble 18 pc then (bif Nat.beq pc 18 then some (.ifCond .eq 28, 3, 46, 0, false) else none) else (bif Nat.beq pc 15 then some (.invokestatic 96, 3, 0, 0, false) else none)))
    else
     (bif Nat.ble 13 pc then (bif Nat.ble 14 pc then (bif Nat.beq pc 14 then some (.i2l, 1, 0, 0, false) else none) else (bif Nat.beq pc 13 then some (.irem, 1, 0, 0, false) else none)) else (bif Nat.ble 11 pc then (bif Nat.beq pc 11 then some (.bipush 12, 2, 0, 12, false) else none) else (bif Nat.beq pc 10 then some (.iload_n 2, 1, 0, 0, false) else none))))
   else
    (bif Nat.ble 5 pc then
     (bif Nat.ble 8 pc then (bif Nat.ble 9 pc then (bif Nat.beq pc 9 then some (.i2l, 1, 0, 0, false) else none) else (bif Nat.beq pc 8 then some (.irem, 1, 0, 0, false) else none)) else (bif Nat.ble 6 pc then (bif Nat.beq pc 6 then some (.bipush 12, 2, 0, 12, false) else none) else (bif Nat.beq pc 5 then some (.iload_n 1, 1, 0, 0, false) else none)))
    else
     (bif Nat.ble 3 pc then (bif Nat.ble 4 pc then (bif Nat.beq pc 4 then some (.i2l, 1, 0, 0, false) else none) else (bif Nat.beq pc 3 then some (.irem, 1, 0, 0, false) else none)) else (bif Nat.ble 1 pc then (bif Nat.beq pc 1 then some (.bipush 12, 2, 0, 12, false) else none) else (bif Nat.beq pc 0 then some (.iload_n 0, 1, 0, 0, false) else none))))))
def qX8_own (pc : Nat) : Option mIn :=
  (bif Nat.ble 47 pc then
   (bif Nat.ble 72 pc then
    (bif Nat.ble 87 pc then
     (bif Nat.ble 91 pc then
      (bif Nat.ble 97 pc then (bif Nat.ble 98 pc then (bif Nat.beq pc 98 then some (.ireturn, 1, 0, 0, false) else none) else (bif Nat.beq pc 97 then some (.iconst 1, 1, 0, 1, false) else none)) else (bif Nat.ble 94 pc then (bif Nat.beq pc 94 then some (.goto (-49), 3, 45, 0, false) else none) else (bif Nat.beq pc 91 then some (.iinc 6 1, 3, 0, 1, false) else none)))
     else
      (bif Nat.ble 89 pc then (bif Nat.ble 90 pc then (bif Nat.beq pc 90 then some (.iastore, 1, 0, 0, false) else none) else (bif Nat.beq pc 89 then some (.iaload, 1, 0, 0, false) else none)) else (bif Nat.beq pc 87 then some (.iload 6, 2, 0, 0, false) else none)))
    else
     (bif Nat.ble 80 pc then
      (bif Nat.ble 83 pc then (bif Nat.ble 84 pc then (bif Nat.beq pc 84 then some (.getfield 27, 3, 0, 0, false) else none) else (bif Nat.beq pc 83 then some (.aload_n 0, 1, 0, 0, false) else none)) else (bif Nat.beq pc 80 then some (.goto 10, 3, 90, 0, false) else none))
     else
      (bif Nat.ble 75 pc then (bif Nat.ble 78 pc then (bif Nat.beq pc 78 then some (.iload 5, 2, 0, 0, false) else none) else (bif Nat.beq pc 75 then some (.ifCond .eq 8, 3, 83, 0, false) else none)) else (bif Nat.beq pc 72 then some (.invokestatic 134, 3, 0, 0, false) else none))))
   else
    (bif Nat.ble 61 pc then
     (bif Nat.ble 66 pc then
      (bif Nat.ble 67 pc then (bif Nat.ble 69 pc then (bif Nat.beq pc 69 then some (.invokestatic 104, 3, 0, 0, false) else none) else (bif Nat.beq pc 67 then some (.iload 4, 2, 0, 0, false) else none)) else (bif Nat.beq pc 66 then some (.iload_n 3, 1, 0, 0, false) else none))
     else
      (bif Nat.ble 62 pc then (bif Nat.ble 63 pc then (bif Nat.beq pc 63 then some (.invokestatic 104, 3, 0, 0, false) else none) else (bif Nat.beq pc 62 then some (.iload_n 2, 1, 0, 0, false) else none)) else (bif Nat.beq pc 61 then some (.iload_n 1, 1, 0, 0, false) else none)))
    else
     (bif Nat.ble 54 pc then
      (bif Nat.ble 57 pc then (bif Nat.ble 59 pc then (bif Nat.beq pc 59 then some (.iload 6, 2, 0, 0, false) else none) else (bif Nat.beq pc 57 then some (.iload 6, 2, 0, 0, false) else none)) else (bif Nat.beq pc 54 then some (.getfield 27, 3, 0, 0, false) else none))
     else
      (bif Nat.ble 50 pc then (bif Nat.ble 53 pc then (bif Nat.beq pc 53 then some (.aload_n 0, 1, 0, 0, false) else none) else (bif Nat.beq pc 50 then some (.if_icmp .ge 47, 3, 97, 0, false) else none)) else (bif Nat.beq pc 47 then some (.sipush 144, 3, 0, 144, false) else none)))))
  else
   (bif Nat.ble 20 pc then
    (bif Nat.ble 36 pc then
     (bif Nat.ble 41 pc then
      (bif Nat.ble 43 pc then (bif Nat.ble 45 pc then (bif Nat.beq pc 45 then some (.iload 6, 2, 0, 0, true) else none) else (bif Nat.beq pc 43 then some (.istore 6, 2, 0, 0, false) else none)) else (bif Nat.ble 42 pc then (bif Nat.beq pc 42 then some (.iconst 0, 1, 0, 0, false) else none) else (bif Nat.beq pc 41 then some (.ireturn, 1, 0, 0, false) else none)))
     else
      (bif Nat.ble 37 pc then (bif Nat.ble 40 pc then (bif Nat.beq pc 40 then some (.iconst 0, 1, 0, 0, false) else none) else (bif Nat.beq pc 37 then some (.if_icmp .le 5, 3, 42, 0, false) else none)) else (bif Nat.beq pc 36 then some (.iconst 1, 1, 0, 1, false) else none)))
    else
     (bif Nat.ble 29 pc then
      (bif Nat.ble 32 pc then (bif Nat.ble 33 pc then (bif Nat.beq pc 33 then some (.getfield 90, 3, 0, 0, false) else none) else (bif Nat.beq pc 32 then some (.aload_n 0, 1, 0, 0, false) else none)) else (bif Nat.beq pc 29 then some (.ifCond .eq 11, 3, 40, 0, false) else none))
     else
      (bif Nat.ble 23 pc then (bif Nat.ble 26 pc then (bif Nat.beq pc 26 then some (.invokestatic 96, 3, 0, 0, false) else none) else (bif Nat.beq pc 23 then some (.ldc2_w 132, 3, 0, 0, false) else none)) else (bif Nat.beq pc 20 then some (.ldc2_w 130, 3, 0, 0, false) else none))))
   else
    (bif Nat.ble 8 pc then
     (bif Nat.ble 14 pc then
      (bif Nat.ble 17 pc then (bif Nat.ble 19 pc then (bif Nat.beq pc 19 then some (.i2l, 1, 0, 0, false) else none) else (bif Nat.beq pc 17 then some (.iload 5, 2, 0, 0, false) else none)) else (bif Nat.beq pc 14 then some (.ifCond .eq 26, 3, 40, 0, false) else none))
     else
      (bif Nat.ble 9 pc then (bif Nat.ble 11 pc then (bif Nat.beq pc 11 then some (.invokevirtual 126, 3, 0, 0, false) else none) else (bif Nat.beq pc 9 then some (.iload 4, 2, 0, 0, false) else none)) else (bif Nat.beq pc 8 then some (.iload_n 3, 1, 0, 0, false) else none)))
    else
     (bif Nat.ble 5 pc then
      (bif Nat.ble 6 pc then (bif Nat.ble 7 pc then (bif Nat.beq pc 7 then some (.iload_n 2, 1, 0, 0, false) else none) else (bif Nat.beq pc 6 then some (.iload_n 1, 1, 0, 0, false) else none)) else (bif Nat.beq pc 5 then some (.aload_n 0, 1, 0, 0, false) else none))
     else
      (bif Nat.ble 1 pc then (bif Nat.ble 2 pc then (bif Nat.beq pc 2 then some (.putfield 3, 3, 0, 0, false) else none) else (bif Nat.beq pc 1 then some (.iconst 0, 1, 0, 0, false) else none)) else (bif Nat.beq pc 0 then some (.aload_n 0, 1, 0, 0, false) else none))))))
def qX8_deed (pc : Nat) : Option mIn :=
  (bif Nat.ble 67 pc then
   (bif Nat.ble 99 pc then
    (bif Nat.ble 112 pc then
     (bif Nat.ble 120 pc then
      (bif Nat.ble 124 pc then
       (bif Nat.ble 125 pc then (bif Nat.ble 126 pc then (bif Nat.beq pc 126 then some (.ireturn, 1, 0, 0, false) else none) else (bif Nat.beq pc 125 then some (.isub, 1, 0, 0, false) else none)) else (bif Nat.beq pc 124 then some (.iconst 1, 1, 0, 1, false) else none))
      else
       (bif Nat.ble 121 pc then (bif Nat.beq pc 121 then some (.getfield 93, 3, 0, 0, false) else none) else (bif Nat.beq pc 120 then some (.aload_n 0, 1, 0, 0, false) else none)))
     else
      (bif Nat.ble 116 pc then (bif Nat.ble 117 pc then (bif Nat.beq pc 117 then some (.putfield 93, 3, 0, 0, false) else none) else (bif Nat.beq pc 116 then some (.iadd, 1, 0, 0, false) else none)) else (bif Nat.ble 115 pc then (bif Nat.beq pc 115 then some (.iconst 1, 1, 0, 1, false) else none) else (bif Nat.beq pc 112 then some (.getfield 93, 3, 0, 0, false) else none))))
    else
     (bif Nat.ble 105 pc then
      (bif Nat.ble 109 pc then
       (bif Nat.ble 110 pc then (bif Nat.ble 111 pc then (bif Nat.beq pc 111 then some (.dup, 1, 0, 0, false) else none) else (bif Nat.beq pc 110 then some (.aload_n 0, 1, 0, 0, false) else none)) else (bif Nat.beq pc 109 then some (.bastore, 1, 0, 0, false) else none))
      else
       (bif Nat.ble 108 pc then (bif Nat.beq pc 108 then some (.iconst 0, 1, 0, 0, false) else none) else (bif Nat.beq pc 105 then some (.getfield 93, 3, 0, 0, false) else none)))
     else
      (bif Nat.ble 101 pc then (bif Nat.ble 104 pc then (bif Nat.beq pc 104 then some (.aload_n 0, 1, 0, 0, false) else none) else (bif Nat.beq pc 101 then some (.getfield 42, 3, 0, 0, false) else none)) else (bif Nat.ble 100 pc then (bif Nat.beq pc 100 then some (.aload_n 0, 1, 0, 0, false) else none) else (bif Nat.beq pc 99 then some (.iastore, 1, 0, 0, false) else none)))))
   else
    (bif Nat.ble 82 pc then
     (bif Nat.ble 89 pc then
      (bif Nat.ble 93 pc then
       (bif Nat.ble 94 pc then (bif Nat.ble 97 pc then (bif Nat.beq pc 97 then some (.iload 6, 2, 0, 0, false) else none) else (bif Nat.beq pc 94 then some (.getfield 93, 3, 0, 0, false) else none)) else (bif Nat.beq pc 93 then some (.aload_n 0, 1, 0, 0, false) else none))
      else
       (bif Nat.ble 90 pc then (bif Nat.beq pc 90 then some (.getfield 39, 3, 0, 0, false) else none) else (bif Nat.beq pc 89 then some (.aload_n 0, 1, 0, 0, false) else none)))
     else
      (bif Nat.ble 86 pc then (bif Nat.ble 88 pc then (bif Nat.beq pc 88 then some (.iastore, 1, 0, 0, false) else none) else (bif Nat.beq pc 86 then some (.iload 5, 2, 0, 0, false) else none)) else (bif Nat.ble 83 pc then (bif Nat.beq pc 83 then some (.getfield 93, 3, 0, 0, false) else none) else (bif Nat.beq pc 82 then some (.aload_n 0, 1, 0, 0, false) else none))))
    else
     (bif Nat.ble 74 pc then
      (bif Nat.ble 78 pc then (bif Nat.ble 79 pc then (bif Nat.beq pc 79 then some (.getfield 36, 3, 0, 0, false) else none) else (bif Nat.beq pc 78 then some (.aload_n 0, 1, 0, 0, false) else none)) else (bif Nat.ble 77 pc then (bif Nat.beq pc 77 then some (.iastore, 1, 0, 0, false) else none) else (bif Nat.beq pc 74 then some (.invokestatic 104, 3, 0, 0, false) else none)))
     else
      (bif Nat.ble 71 pc then (bif Nat.ble 72 pc then (bif Nat.beq pc 72 then some (.iload 4, 2, 0, 0, false) else none) else (bif Nat.beq pc 71 then some (.iload_n 3, 1, 0, 0, false) else none)) else (bif Nat.ble 68 pc then (bif Nat.beq pc 68 then some (.getfield 93, 3, 0, 0, false) else none) else (bif Nat.beq pc 67 then some (.aload_n 0, 1, 0, 0, false) else none))))))
  else
   (bif Nat.ble 32 pc then
    (bif Nat.ble 50 pc then
     (bif Nat.ble 58 pc then
      (bif Nat.ble 62 pc then
       (bif Nat.ble 63 pc then (bif Nat.ble 64 pc then (bif Nat.beq pc 64 then some (.getfield 33, 3, 0, 0, false) else none) else (bif Nat.beq pc 63 then some (.aload_n 0, 1, 0, 0, false) else none)) else (bif Nat.beq pc 62 then some (.iastore, 1, 0, 0, false) else none))
      else
       (bif Nat.ble 59 pc then (bif Nat.beq pc 59 then some (.invokestatic 104, 3, 0, 0, false) else none) else (bif Nat.beq pc 58 then some (.iload_n 2, 1, 0, 0, false) else none)))
     else
      (bif Nat.ble 54 pc then (bif Nat.ble 57 pc then (bif Nat.beq pc 57 then some (.iload_n 1, 1, 0, 0, false) else none) else (bif Nat.beq pc 54 then some (.getfield 93, 3, 0, 0, false) else none)) else (bif Nat.ble 53 pc then (bif Nat.beq pc 53 then some (.aload_n 0, 1, 0, 0, false) else none) else (bif Nat.beq pc 50 then some (.getfield 30, 3, 0, 0, false) else none))))
    else
     (bif Nat.ble 42 pc then
      (bif Nat.ble 47 pc then
       (bif Nat.ble 48 pc then (bif Nat.ble 49 pc then (bif Nat.beq pc 49 then some (.aload_n 0, 1, 0, 0, false) else none) else (bif Nat.beq pc 48 then some (.ireturn, 1, 0, 0, false) else none)) else (bif Nat.beq pc 47 then some (.iconst (-1), 1, 0, -1, false) else none))
      else
       (bif Nat.ble 44 pc then (bif Nat.beq pc 44 then some (.if_icmp .ne 5, 3, 49, 0, false) else none) else (bif Nat.beq pc 42 then some (.bipush 30, 2, 0, 30, false) else none)))
     else
      (bif Nat.ble 38 pc then (bif Nat.ble 39 pc then (bif Nat.beq pc 39 then some (.getfield 93, 3, 0, 0, false) else none) else (bif Nat.beq pc 38 then some (.aload_n 0, 1, 0, 0, false) else none)) else (bif Nat.ble 35 pc then (bif Nat.beq pc 35 then some (.ifCond .eq 12, 3, 47, 0, false) else none) else (bif Nat.beq pc 32 then some (.invokestatic 118, 3, 0, 0, false) else none)))))
   else
    (bif Nat.ble 11 pc then
     (bif Nat.ble 20 pc then
      (bif Nat.ble 24 pc then
       (bif Nat.ble 27 pc then (bif Nat.ble 30 pc then (bif Nat.beq pc 30 then some (.iload 6, 2, 0, 0, false) else none) else (bif Nat.beq pc 27 then some (.ifCond .eq 20, 3, 47, 0, false) else none)) else (bif Nat.beq pc 24 then some (.invokestatic 96, 3, 0, 0, false) else none))
      else
       (bif Nat.ble 21 pc then (bif Nat.beq pc 21 then some (.ldc2_w 132, 3, 0, 0, false) else none) else (bif Nat.beq pc 20 then some (.lconst 0, 1, 0, 0, false) else none)))
     else
      (bif Nat.ble 17 pc then (bif Nat.ble 19 pc then (bif Nat.beq pc 19 then some (.i2l, 1, 0, 0, false) else none) else (bif Nat.beq pc 17 then some (.iload 5, 2, 0, 0, false) else none)) else (bif Nat.ble 14 pc then (bif Nat.beq pc 14 then some (.ifCond .eq 33, 3, 47, 0, false) else none) else (bif Nat.beq pc 11 then some (.invokevirtual 126, 3, 0, 0, false) else none))))
    else
     (bif Nat.ble 6 pc then
      (bif Nat.ble 8 pc then (bif Nat.ble 9 pc then (bif Nat.beq pc 9 then some (.iload 4, 2, 0, 0, false) else none) else (bif Nat.beq pc 8 then some (.iload_n 3, 1, 0, 0, false) else none)) else (bif Nat.ble 7 pc then (bif Nat.beq pc 7 then some (.iload_n 2, 1, 0, 0, false) else none) else (bif Nat.beq pc 6 then some (.iload_n 1, 1, 0, 0, false) else none)))
     else
      (bif Nat.ble 2 pc then (bif Nat.ble 5 pc then (bif Nat.beq pc 5 then some (.aload_n 0, 1, 0, 0, false) else none) else (bif Nat.beq pc 2 then some (.putfield 3, 3, 0, 0, false) else none)) else (bif Nat.ble 1 pc then (bif Nat.beq pc 1 then some (.iconst 0, 1, 0, 0, false) else none) else (bif Nat.beq pc 0 then some (.aload_n 0, 1, 0, 0, false) else none)))))))
def qX8_strike (pc : Nat) : Option mIn :=
  (bif Nat.ble 15 pc then
   (bif Nat.ble 24 pc then
    (bif Nat.ble 29 pc then
     (bif Nat.ble 30 pc then (bif Nat.ble 31 pc then (bif Nat.beq pc 31 then some (.ireturn, 1, 0, 0, false) else none) else (bif Nat.beq pc 30 then some (.iconst 1, 1, 0, 1, false) else none)) else (bif Nat.beq pc 29 then some (.bastore, 1, 0, 0, false) else none))
    else
     (bif Nat.ble 27 pc then (bif Nat.ble 28 pc then (bif Nat.beq pc 28 then some (.iload_n 2, 1, 0, 0, false) else none) else (bif Nat.beq pc 27 then some (.iload_n 1, 1, 0, 0, false) else none)) else (bif Nat.beq pc 24 then some (.getfield 42, 3, 0, 0, false) else none)))
   else
    (bif Nat.ble 21 pc then
     (bif Nat.ble 22 pc then (bif Nat.ble 23 pc then (bif Nat.beq pc 23 then some (.aload_n 0, 1, 0, 0, false) else none) else (bif Nat.beq pc 22 then some (.ireturn, 1, 0, 0, false) else none)) else (bif Nat.beq pc 21 then some (.iconst 0, 1, 0, 0, false) else none))
    else
     (bif Nat.ble 18 pc then (bif Nat.beq pc 18 then some (.ifCond .ne 5, 3, 23, 0, false) else none) else (bif Nat.beq pc 15 then some (.invokestatic 96, 3, 0, 0, false) else none))))
  else
   (bif Nat.ble 7 pc then
    (bif Nat.ble 12 pc then
     (bif Nat.ble 13 pc then (bif Nat.ble 14 pc then (bif Nat.beq pc 14 then some (.i2l, 1, 0, 0, false) else none) else (bif Nat.beq pc 13 then some (.isub, 1, 0, 0, false) else none)) else (bif Nat.beq pc 12 then some (.iconst 1, 1, 0, 1, false) else none))
    else
     (bif Nat.ble 8 pc then (bif Nat.ble 9 pc then (bif Nat.beq pc 9 then some (.getfield 93, 3, 0, 0, false) else none) else (bif Nat.beq pc 8 then some (.aload_n 0, 1, 0, 0, false) else none)) else (bif Nat.beq pc 7 then some (.lconst 0, 1, 0, 0, false) else none)))
   else
    (bif Nat.ble 2 pc then
     (bif Nat.ble 5 pc then (bif Nat.ble 6 pc then (bif Nat.beq pc 6 then some (.i2l, 1, 0, 0, false) else none) else (bif Nat.beq pc 5 then some (.iload_n 1, 1, 0, 0, false) else none)) else (bif Nat.beq pc 2 then some (.putfield 3, 3, 0, 0, false) else none))
    else
     (bif Nat.ble 1 pc then (bif Nat.beq pc 1 then some (.iconst 0, 1, 0, 0, false) else none) else (bif Nat.beq pc 0 then some (.aload_n 0, 1, 0, 0, false) else none)))))
def qX8_law (pc : Nat) : Option mIn :=
  (bif Nat.ble 57 pc then
   (bif Nat.ble 85 pc then
    (bif Nat.ble 98 pc then
     (bif Nat.ble 104 pc then
      (bif Nat.ble 108 pc then (bif Nat.ble 111 pc then (bif Nat.beq pc 111 then some (.ireturn, 1, 0, 0, false) else none) else (bif Nat.beq pc 108 then some (.getfield 138, 3, 0, 0, false) else none)) else (bif Nat.ble 107 pc then (bif Nat.beq pc 107 then some (.aload_n 0, 1, 0, 0, false) else none) else (bif Nat.beq pc 104 then some (.putfield 138, 3, 0, 0, false) else none)))
     else
      (bif Nat.ble 102 pc then (bif Nat.ble 103 pc then (bif Nat.beq pc 103 then some (.iadd, 1, 0, 0, false) else none) else (bif Nat.beq pc 102 then some (.iconst 1, 1, 0, 1, false) else none)) else (bif Nat.ble 99 pc then (bif Nat.beq pc 99 then some (.getfield 138, 3, 0, 0, false) else none) else (bif Nat.beq pc 98 then some (.dup, 1, 0, 0, false) else none))))
    else
     (bif Nat.ble 91 pc then
      (bif Nat.ble 96 pc then (bif Nat.ble 97 pc then (bif Nat.beq pc 97 then some (.aload_n 0, 1, 0, 0, false) else none) else (bif Nat.beq pc 96 then some (.iastore, 1, 0, 0, false) else none)) else (bif Nat.ble 94 pc then (bif Nat.beq pc 94 then some (.iload 4, 2, 0, 0, false) else none) else (bif Nat.beq pc 91 then some (.getfield 138, 3, 0, 0, false) else none)))
     else
      (bif Nat.ble 87 pc then (bif Nat.ble 90 pc then (bif Nat.beq pc 90 then some (.aload_n 0, 1, 0, 0, false) else none) else (bif Nat.beq pc 87 then some (.getfield 54, 3, 0, 0, false) else none)) else (bif Nat.ble 86 pc then (bif Nat.beq pc 86 then some (.aload_n 0, 1, 0, 0, false) else none) else (bif Nat.beq pc 85 then some (.iastore, 1, 0, 0, false) else none)))))
   else
    (bif Nat.ble 71 pc then
     (bif Nat.ble 77 pc then
      (bif Nat.ble 81 pc then (bif Nat.ble 84 pc then (bif Nat.beq pc 84 then some (.iload_n 3, 1, 0, 0, false) else none) else (bif Nat.beq pc 81 then some (.getfield 138, 3, 0, 0, false) else none)) else (bif Nat.ble 80 pc then (bif Nat.beq pc 80 then some (.aload_n 0, 1, 0, 0, false) else none) else (bif Nat.beq pc 77 then some (.getfield 51, 3, 0, 0, false) else none)))
     else
      (bif Nat.ble 75 pc then (bif Nat.ble 76 pc then (bif Nat.beq pc 76 then some (.aload_n 0, 1, 0, 0, false) else none) else (bif Nat.beq pc 75 then some (.iastore, 1, 0, 0, false) else none)) else (bif Nat.ble 74 pc then (bif Nat.beq pc 74 then some (.iload_n 2, 1, 0, 0, false) else none) else (bif Nat.beq pc 71 then some (.getfield 138, 3, 0, 0, false) else none))))
    else
     (bif Nat.ble 65 pc then
      (bif Nat.ble 67 pc then (bif Nat.ble 70 pc then (bif Nat.beq pc 70 then some (.aload_n 0, 1, 0, 0, false) else none) else (bif Nat.beq pc 67 then some (.getfield 48, 3, 0, 0, false) else none)) else (bif Nat.ble 66 pc then (bif Nat.beq pc 66 then some (.aload_n 0, 1, 0, 0, false) else none) else (bif Nat.beq pc 65 then some (.iastore, 1, 0, 0, false) else none)))
     else
      (bif Nat.ble 61 pc then (bif Nat.ble 64 pc then (bif Nat.beq pc 64 then some (.iload_n 1, 1, 0, 0, false) else none) else (bif Nat.beq pc 61 then some (.getfield 138, 3, 0, 0, false) else none)) else (bif Nat.ble 60 pc then (bif Nat.beq pc 60 then some (.aload_n 0, 1, 0, 0, false) else none) else (bif Nat.beq pc 57 then some (.getfield 45, 3, 0, 0, false) else none))))))
  else
   (bif Nat.ble 25 pc then
    (bif Nat.ble 42 pc then
     (bif Nat.ble 51 pc then
      (bif Nat.ble 55 pc then (bif Nat.ble 56 pc then (bif Nat.beq pc 56 then some (.aload_n 0, 1, 0, 0, false) else none) else (bif Nat.beq pc 55 then some (.ireturn, 1, 0, 0, false) else none)) else (bif Nat.ble 54 pc then (bif Nat.beq pc 54 then some (.iconst (-1), 1, 0, -1, false) else none) else (bif Nat.beq pc 51 then some (.if_icmp .ne 5, 3, 56, 0, false) else none)))
     else
      (bif Nat.ble 46 pc then (bif Nat.ble 49 pc then (bif Nat.beq pc 49 then some (.bipush 20, 2, 0, 20, false) else none) else (bif Nat.beq pc 46 then some (.getfield 138, 3, 0, 0, false) else none)) else (bif Nat.ble 45 pc then (bif Nat.beq pc 45 then some (.aload_n 0, 1, 0, 0, false) else none) else (bif Nat.beq pc 42 then some (.ifCond .eq 12, 3, 54, 0, false) else none))))
    else
     (bif Nat.ble 34 pc then
      (bif Nat.ble 36 pc then (bif Nat.ble 39 pc then (bif Nat.beq pc 39 then some (.invokestatic 96, 3, 0, 0, false) else none) else (bif Nat.beq pc 36 then some (.ldc2_w 111, 3, 0, 0, false) else none)) else (bif Nat.ble 35 pc then (bif Nat.beq pc 35 then some (.lconst 0, 1, 0, 0, false) else none) else (bif Nat.beq pc 34 then some (.i2l, 1, 0, 0, false) else none)))
     else
      (bif Nat.ble 29 pc then (bif Nat.ble 32 pc then (bif Nat.beq pc 32 then some (.iload 4, 2, 0, 0, false) else none) else (bif Nat.beq pc 29 then some (.ifCond .eq 25, 3, 54, 0, false) else none)) else (bif Nat.ble 26 pc then (bif Nat.beq pc 26 then some (.invokestatic 96, 3, 0, 0, false) else none) else (bif Nat.beq pc 25 then some (.lconst 1, 1, 0, 0, false) else none)))))
   else
    (bif Nat.ble 13 pc then
     (bif Nat.ble 19 pc then
      (bif Nat.ble 23 pc then (bif Nat.ble 24 pc then (bif Nat.beq pc 24 then some (.lconst 0, 1, 0, 0, false) else none) else (bif Nat.beq pc 23 then some (.i2l, 1, 0, 0, false) else none)) else (bif Nat.ble 22 pc then (bif Nat.beq pc 22 then some (.iload_n 3, 1, 0, 0, false) else none) else (bif Nat.beq pc 19 then some (.ifCond .eq 35, 3, 54, 0, false) else none)))
     else
      (bif Nat.ble 15 pc then (bif Nat.ble 16 pc then (bif Nat.beq pc 16 then some (.invokestatic 96, 3, 0, 0, false) else none) else (bif Nat.beq pc 15 then some (.lconst 1, 1, 0, 0, false) else none)) else (bif Nat.ble 14 pc then (bif Nat.beq pc 14 then some (.lconst 0, 1, 0, 0, false) else none) else (bif Nat.beq pc 13 then some (.i2l, 1, 0, 0, false) else none))))
    else
     (bif Nat.ble 5 pc then
      (bif Nat.ble 9 pc then (bif Nat.ble 12 pc then (bif Nat.beq pc 12 then some (.iload_n 2, 1, 0, 0, false) else none) else (bif Nat.beq pc 9 then some (.ifCond .eq 45, 3, 54, 0, false) else none)) else (bif Nat.ble 6 pc then (bif Nat.beq pc 6 then some (.invokestatic 118, 3, 0, 0, false) else none) else (bif Nat.beq pc 5 then some (.iload_n 1, 1, 0, 0, false) else none)))
     else
      (bif Nat.ble 1 pc then (bif Nat.ble 2 pc then (bif Nat.beq pc 2 then some (.putfield 3, 3, 0, 0, false) else none) else (bif Nat.beq pc 1 then some (.iconst 0, 1, 0, 0, false) else none)) else (bif Nat.beq pc 0 then some (.aload_n 0, 1, 0, 0, false) else none))))))
def qX8_reach (pc : Nat) : Option mIn :=
  (bif Nat.ble 17 pc then
   (bif Nat.ble 24 pc then
    (bif Nat.ble 26 pc then
     (bif Nat.ble 29 pc then (bif Nat.ble 30 pc then (bif Nat.beq pc 30 then some (.ireturn, 1, 0, 0, false) else none) else (bif Nat.beq pc 29 then some (.iload_n 2, 1, 0, 0, false) else none)) else (bif Nat.beq pc 26 then some (.putfield 57, 3, 0, 0, false) else none))
    else
     (bif Nat.ble 25 pc then (bif Nat.beq pc 25 then some (.iload_n 1, 1, 0, 0, false) else none) else (bif Nat.beq pc 24 then some (.aload_n 0, 1, 0, 0, false) else none)))
   else
    (bif Nat.ble 19 pc then
     (bif Nat.ble 20 pc then (bif Nat.ble 23 pc then (bif Nat.beq pc 23 then some (.istore_n 2, 1, 0, 0, false) else none) else (bif Nat.beq pc 20 then some (.getfield 57, 3, 0, 0, false) else none)) else (bif Nat.beq pc 19 then some (.aload_n 0, 1, 0, 0, false) else none))
    else
     (bif Nat.ble 18 pc then (bif Nat.beq pc 18 then some (.ireturn, 1, 0, 0, false) else none) else (bif Nat.beq pc 17 then some (.iconst (-1), 1, 0, -1, false) else none))))
  else
   (bif Nat.ble 6 pc then
    (bif Nat.ble 8 pc then
     (bif Nat.ble 11 pc then (bif Nat.ble 14 pc then (bif Nat.beq pc 14 then some (.ifCond .ne 5, 3, 19, 0, false) else none) else (bif Nat.beq pc 11 then some (.invokestatic 96, 3, 0, 0, false) else none)) else (bif Nat.beq pc 8 then some (.ldc2_w 102, 3, 0, 0, false) else none))
    else
     (bif Nat.ble 7 pc then (bif Nat.beq pc 7 then some (.lconst 1, 1, 0, 0, false) else none) else (bif Nat.beq pc 6 then some (.i2l, 1, 0, 0, false) else none)))
   else
    (bif Nat.ble 2 pc then (bif Nat.ble 5 pc then (bif Nat.beq pc 5 then some (.iload_n 1, 1, 0, 0, false) else none) else (bif Nat.beq pc 2 then some (.putfield 3, 3, 0, 0, false) else none)) else (bif Nat.ble 1 pc then (bif Nat.beq pc 1 then some (.iconst 0, 1, 0, 0, false) else none) else (bif Nat.beq pc 0 then some (.aload_n 0, 1, 0, 0, false) else none)))))
def qX8_isStep (pc : Nat) : Option mIn :=
  (bif Nat.ble 7 pc then
   (bif Nat.ble 9 pc then
    (bif Nat.ble 10 pc then (bif Nat.ble 13 pc then (bif Nat.beq pc 13 then some (.ireturn, 1, 0, 0, false) else none) else (bif Nat.beq pc 10 then some (.invokestatic 96, 3, 0, 0, false) else none)) else (bif Nat.beq pc 9 then some (.i2l, 1, 0, 0, false) else none))
   else
    (bif Nat.ble 8 pc then (bif Nat.beq pc 8 then some (.isub, 1, 0, 0, false) else none) else (bif Nat.beq pc 7 then some (.iconst 1, 1, 0, 1, false) else none)))
  else
   (bif Nat.ble 2 pc then
    (bif Nat.ble 3 pc then (bif Nat.ble 4 pc then (bif Nat.beq pc 4 then some (.getfield 90, 3, 0, 0, false) else none) else (bif Nat.beq pc 3 then some (.aload_n 0, 1, 0, 0, false) else none)) else (bif Nat.beq pc 2 then some (.lconst 1, 1, 0, 0, false) else none))
   else
    (bif Nat.ble 1 pc then (bif Nat.beq pc 1 then some (.i2l, 1, 0, 0, false) else none) else (bif Nat.beq pc 0 then some (.iload_n 1, 1, 0, 0, false) else none))))
def qX8_judge (pc : Nat) : Option mIn :=
  (bif Nat.ble 19 pc then
   (bif Nat.ble 28 pc then
    (bif Nat.ble 33 pc then
     (bif Nat.ble 34 pc then (bif Nat.ble 35 pc then (bif Nat.beq pc 35 then some (.ireturn, 1, 0, 0, false) else none) else (bif Nat.beq pc 34 then some (.iconst 1, 1, 0, 1, false) else none)) else (bif Nat.beq pc 33 then some (.iastore, 1, 0, 0, false) else none))
    else
     (bif Nat.ble 31 pc then (bif Nat.ble 32 pc then (bif Nat.beq pc 32 then some (.iload_n 2, 1, 0, 0, false) else none) else (bif Nat.beq pc 31 then some (.iload_n 1, 1, 0, 0, false) else none)) else (bif Nat.beq pc 28 then some (.getfield 60, 3, 0, 0, false) else none)))
   else
    (bif Nat.ble 25 pc then
     (bif Nat.ble 26 pc then (bif Nat.ble 27 pc then (bif Nat.beq pc 27 then some (.aload_n 0, 1, 0, 0, false) else none) else (bif Nat.beq pc 26 then some (.ireturn, 1, 0, 0, false) else none)) else (bif Nat.beq pc 25 then some (.iconst 0, 1, 0, 0, false) else none))
    else
     (bif Nat.ble 22 pc then (bif Nat.beq pc 22 then some (.ifCond .ne 5, 3, 27, 0, false) else none) else (bif Nat.beq pc 19 then some (.invokestatic 96, 3, 0, 0, false) else none))))
  else
   (bif Nat.ble 7 pc then
    (bif Nat.ble 14 pc then
     (bif Nat.ble 15 pc then (bif Nat.ble 18 pc then (bif Nat.beq pc 18 then some (.lconst 1, 1, 0, 0, false) else none) else (bif Nat.beq pc 15 then some (.ldc2_w 130, 3, 0, 0, false) else none)) else (bif Nat.beq pc 14 then some (.i2l, 1, 0, 0, false) else none))
    else
     (bif Nat.ble 10 pc then (bif Nat.ble 13 pc then (bif Nat.beq pc 13 then some (.iload_n 2, 1, 0, 0, false) else none) else (bif Nat.beq pc 10 then some (.ifCond .eq 15, 3, 25, 0, false) else none)) else (bif Nat.beq pc 7 then some (.invokevirtual 141, 3, 0, 0, false) else none)))
   else
    (bif Nat.ble 2 pc then
     (bif Nat.ble 5 pc then (bif Nat.ble 6 pc then (bif Nat.beq pc 6 then some (.iload_n 1, 1, 0, 0, false) else none) else (bif Nat.beq pc 5 then some (.aload_n 0, 1, 0, 0, false) else none)) else (bif Nat.beq pc 2 then some (.putfield 3, 3, 0, 0, false) else none))
    else
     (bif Nat.ble 1 pc then (bif Nat.beq pc 1 then some (.iconst 0, 1, 0, 0, false) else none) else (bif Nat.beq pc 0 then some (.aload_n 0, 1, 0, 0, false) else none)))))
def qX8_count (pc : Nat) : Option mIn :=
  (bif Nat.ble 41 pc then
   (bif Nat.ble 108 pc then
    (bif Nat.ble 116 pc then
     (bif Nat.ble 121 pc then
      (bif Nat.ble 125 pc then (bif Nat.ble 126 pc then (bif Nat.beq pc 126 then some (.ireturn, 1, 0, 0, false) else none) else (bif Nat.beq pc 125 then some (.iconst (-1), 1, 0, -1, false) else none)) else (bif Nat.ble 124 pc then (bif Nat.beq pc 124 then some (.ireturn, 1, 0, 0, false) else none) else (bif Nat.beq pc 121 then some (.getfield 144, 3, 0, 0, false) else none)))
     else
      (bif Nat.ble 119 pc then (bif Nat.ble 120 pc then (bif Nat.beq pc 120 then some (.aload_n 0, 1, 0, 0, false) else none) else (bif Nat.beq pc 119 then some (.ireturn, 1, 0, 0, false) else none)) else (bif Nat.beq pc 116 then some (.getfield 57, 3, 0, 0, false) else none)))
    else
     (bif Nat.ble 111 pc then
      (bif Nat.ble 114 pc then (bif Nat.ble 115 pc then (bif Nat.beq pc 115 then some (.aload_n 0, 1, 0, 0, false) else none) else (bif Nat.beq pc 114 then some (.ireturn, 1, 0, 0, false) else none)) else (bif Nat.beq pc 111 then some (.getfield 138, 3, 0, 0, false) else none))
     else
      (bif Nat.ble 109 pc then (bif Nat.ble 110 pc then (bif Nat.beq pc 110 then some (.aload_n 0, 1, 0, 0, false) else none) else (bif Nat.beq pc 109 then some (.ireturn, 1, 0, 0, false) else none)) else (bif Nat.beq pc 108 then some (.iload_n 2, 1, 0, 0, false) else none))))
   else
    (bif Nat.ble 97 pc then
     (bif Nat.ble 102 pc then
      (bif Nat.ble 104 pc then (bif Nat.ble 107 pc then (bif Nat.beq pc 107 then some (.ireturn, 1, 0, 0, false) else none) else (bif Nat.beq pc 104 then some (.getfield 93, 3, 0, 0, false) else none)) else (bif Nat.ble 103 pc then (bif Nat.beq pc 103 then some (.aload_n 0, 1, 0, 0, false) else none) else (bif Nat.beq pc 102 then some (.ireturn, 1, 0, 0, false) else none)))
     else
      (bif Nat.ble 98 pc then (bif Nat.ble 99 pc then (bif Nat.beq pc 99 then some (.getfield 90, 3, 0, 0, false) else none) else (bif Nat.beq pc 98 then some (.aload_n 0, 1, 0, 0, false) else none)) else (bif Nat.beq pc 97 then some (.ireturn, 1, 0, 0, false) else none)))
    else
     (bif Nat.ble 92 pc then
      (bif Nat.ble 93 pc then (bif Nat.ble 94 pc then (bif Nat.beq pc 94 then some (.getfield 16, 3, 0, 0, false) else none) else (bif Nat.beq pc 93 then some (.aload_n 0, 1, 0, 0, false) else none)) else (bif Nat.beq pc 92 then some (.ireturn, 1, 0, 0, false) else none))
     else
      (bif Nat.ble 88 pc then (bif Nat.ble 89 pc then (bif Nat.beq pc 89 then some (.getfield 13, 3, 0, 0, false) else none) else (bif Nat.beq pc 88 then some (.aload_n 0, 1, 0, 0, false) else none)) else (bif Nat.beq pc 41 then some (.tableswitch 84 0 7 #[47, 52, 57, 62, 67, 69, 74, 79], 47, 0, 0, false) else none)))))
  else
   (bif Nat.ble 18 pc then
    (bif Nat.ble 28 pc then
     (bif Nat.ble 33 pc then
      (bif Nat.ble 37 pc then (bif Nat.ble 40 pc then (bif Nat.beq pc 40 then some (.iload_n 1, 1, 0, 0, false) else none) else (bif Nat.beq pc 37 then some (.goto (-28), 3, 9, 0, false) else none)) else (bif Nat.ble 34 pc then (bif Nat.beq pc 34 then some (.iinc 3 1, 3, 0, 1, false) else none) else (bif Nat.beq pc 33 then some (.istore_n 2, 1, 0, 0, false) else none)))
     else
      (bif Nat.ble 31 pc then (bif Nat.ble 32 pc then (bif Nat.beq pc 32 then some (.iadd, 1, 0, 0, false) else none) else (bif Nat.beq pc 31 then some (.iconst 1, 1, 0, 1, false) else none)) else (bif Nat.beq pc 28 then some (.goto 4, 3, 32, 0, false) else none)))
    else
     (bif Nat.ble 23 pc then
      (bif Nat.ble 24 pc then (bif Nat.ble 27 pc then (bif Nat.beq pc 27 then some (.iconst 0, 1, 0, 0, false) else none) else (bif Nat.beq pc 24 then some (.ifCond .eq 7, 3, 31, 0, false) else none)) else (bif Nat.beq pc 23 then some (.baload, 1, 0, 0, false) else none))
     else
      (bif Nat.ble 19 pc then (bif Nat.ble 22 pc then (bif Nat.beq pc 22 then some (.iload_n 3, 1, 0, 0, false) else none) else (bif Nat.beq pc 19 then some (.getfield 42, 3, 0, 0, false) else none)) else (bif Nat.beq pc 18 then some (.aload_n 0, 1, 0, 0, false) else none))))
   else
    (bif Nat.ble 8 pc then
     (bif Nat.ble 11 pc then
      (bif Nat.ble 14 pc then (bif Nat.ble 17 pc then (bif Nat.beq pc 17 then some (.iload_n 2, 1, 0, 0, false) else none) else (bif Nat.beq pc 14 then some (.if_icmp .ge 26, 3, 40, 0, false) else none)) else (bif Nat.beq pc 11 then some (.getfield 93, 3, 0, 0, false) else none))
     else
      (bif Nat.ble 9 pc then (bif Nat.ble 10 pc then (bif Nat.beq pc 10 then some (.aload_n 0, 1, 0, 0, false) else none) else (bif Nat.beq pc 9 then some (.iload_n 3, 1, 0, 0, true) else none)) else (bif Nat.beq pc 8 then some (.istore_n 3, 1, 0, 0, false) else none)))
    else
     (bif Nat.ble 5 pc then
      (bif Nat.ble 6 pc then (bif Nat.ble 7 pc then (bif Nat.beq pc 7 then some (.iconst 0, 1, 0, 0, false) else none) else (bif Nat.beq pc 6 then some (.istore_n 2, 1, 0, 0, false) else none)) else (bif Nat.beq pc 5 then some (.iconst 0, 1, 0, 0, false) else none))
     else
      (bif Nat.ble 1 pc then (bif Nat.ble 2 pc then (bif Nat.beq pc 2 then some (.putfield 3, 3, 0, 0, false) else none) else (bif Nat.beq pc 1 then some (.iconst 0, 1, 0, 0, false) else none)) else (bif Nat.beq pc 0 then some (.aload_n 0, 1, 0, 0, false) else none))))))
def qX8_mapIn (pc : Nat) : Option mIn :=
  (bif Nat.ble 17 pc then
   (bif Nat.ble 26 pc then
    (bif Nat.ble 31 pc then
     (bif Nat.ble 34 pc then (bif Nat.ble 35 pc then (bif Nat.beq pc 35 then some (.ireturn, 1, 0, 0, false) else none) else (bif Nat.beq pc 34 then some (.iload_n 2, 1, 0, 0, false) else none)) else (bif Nat.beq pc 31 then some (.goto (-27), 3, 4, 0, false) else none))
    else
     (bif Nat.ble 27 pc then (bif Nat.ble 28 pc then (bif Nat.beq pc 28 then some (.iinc 3 1, 3, 0, 1, false) else none) else (bif Nat.beq pc 27 then some (.istore_n 2, 1, 0, 0, false) else none)) else (bif Nat.beq pc 26 then some (.iload_n 2, 1, 0, 0, false) else none)))
   else
    (bif Nat.ble 19 pc then
     (bif Nat.ble 22 pc then (bif Nat.ble 23 pc then (bif Nat.beq pc 23 then some (.goto 4, 3, 27, 0, false) else none) else (bif Nat.beq pc 22 then some (.iload_n 3, 1, 0, 0, false) else none)) else (bif Nat.beq pc 19 then some (.if_icmp .gt 7, 3, 26, 0, false) else none))
    else
     (bif Nat.ble 18 pc then (bif Nat.beq pc 18 then some (.iload_n 1, 1, 0, 0, false) else none) else (bif Nat.beq pc 17 then some (.iaload, 1, 0, 0, false) else none))))
  else
   (bif Nat.ble 5 pc then
    (bif Nat.ble 12 pc then
     (bif Nat.ble 13 pc then (bif Nat.ble 16 pc then (bif Nat.beq pc 16 then some (.iload_n 3, 1, 0, 0, false) else none) else (bif Nat.beq pc 13 then some (.getfield 19, 3, 0, 0, false) else none)) else (bif Nat.beq pc 12 then some (.aload_n 0, 1, 0, 0, false) else none))
    else
     (bif Nat.ble 6 pc then (bif Nat.ble 9 pc then (bif Nat.beq pc 9 then some (.if_icmp .ge 25, 3, 34, 0, false) else none) else (bif Nat.beq pc 6 then some (.getfield 90, 3, 0, 0, false) else none)) else (bif Nat.beq pc 5 then some (.aload_n 0, 1, 0, 0, false) else none)))
   else
    (bif Nat.ble 2 pc then
     (bif Nat.ble 3 pc then (bif Nat.ble 4 pc then (bif Nat.beq pc 4 then some (.iload_n 3, 1, 0, 0, true) else none) else (bif Nat.beq pc 3 then some (.istore_n 3, 1, 0, 0, false) else none)) else (bif Nat.beq pc 2 then some (.iconst 1, 1, 0, 1, false) else none))
    else
     (bif Nat.ble 1 pc then (bif Nat.beq pc 1 then some (.istore_n 2, 1, 0, 0, false) else none) else (bif Nat.beq pc 0 then some (.iconst 0, 1, 0, 0, false) else none)))))
def qX8_isWet (pc : Nat) : Option mIn :=
  (bif Nat.ble 8 pc then
   (bif Nat.ble 10 pc then
    (bif Nat.ble 11 pc then (bif Nat.ble 12 pc then (bif Nat.beq pc 12 then some (.ireturn, 1, 0, 0, false) else none) else (bif Nat.beq pc 11 then some (.baload, 1, 0, 0, false) else none)) else (bif Nat.beq pc 10 then some (.iadd, 1, 0, 0, false) else none))
   else
    (bif Nat.ble 9 pc then (bif Nat.beq pc 9 then some (.iload_n 2, 1, 0, 0, false) else none) else (bif Nat.beq pc 8 then some (.imul, 1, 0, 0, false) else none)))
  else
   (bif Nat.ble 4 pc then (bif Nat.ble 7 pc then (bif Nat.beq pc 7 then some (.iload_n 1, 1, 0, 0, false) else none) else (bif Nat.beq pc 4 then some (.sipush 144, 3, 0, 144, false) else none)) else (bif Nat.ble 1 pc then (bif Nat.beq pc 1 then some (.getfield 23, 3, 0, 0, false) else none) else (bif Nat.beq pc 0 then some (.aload_n 0, 1, 0, 0, false) else none))))
def qX8_isOn (pc : Nat) : Option mIn :=
  (bif Nat.ble 14 pc then
   (bif Nat.ble 22 pc then
    (bif Nat.ble 26 pc then (bif Nat.ble 27 pc then (bif Nat.beq pc 27 then some (.ireturn, 1, 0, 0, false) else none) else (bif Nat.beq pc 26 then some (.iconst 0, 1, 0, 0, false) else none)) else (bif Nat.ble 23 pc then (bif Nat.beq pc 23 then some (.goto 4, 3, 27, 0, false) else none) else (bif Nat.beq pc 22 then some (.iconst 1, 1, 0, 1, false) else none)))
   else
    (bif Nat.ble 16 pc then (bif Nat.ble 19 pc then (bif Nat.beq pc 19 then some (.if_icmp .ge 7, 3, 26, 0, false) else none) else (bif Nat.beq pc 16 then some (.getfield 16, 3, 0, 0, false) else none)) else (bif Nat.ble 15 pc then (bif Nat.beq pc 15 then some (.aload_n 0, 1, 0, 0, false) else none) else (bif Nat.beq pc 14 then some (.idiv, 1, 0, 0, false) else none))))
  else
   (bif Nat.ble 5 pc then
    (bif Nat.ble 11 pc then (bif Nat.ble 12 pc then (bif Nat.beq pc 12 then some (.bipush 12, 2, 0, 12, false) else none) else (bif Nat.beq pc 11 then some (.iload_n 1, 1, 0, 0, false) else none)) else (bif Nat.ble 8 pc then (bif Nat.beq pc 8 then some (.if_icmp .ge 18, 3, 26, 0, false) else none) else (bif Nat.beq pc 5 then some (.getfield 13, 3, 0, 0, false) else none)))
   else
    (bif Nat.ble 3 pc then (bif Nat.ble 4 pc then (bif Nat.beq pc 4 then some (.aload_n 0, 1, 0, 0, false) else none) else (bif Nat.beq pc 3 then some (.irem, 1, 0, 0, false) else none)) else (bif Nat.ble 1 pc then (bif Nat.beq pc 1 then some (.bipush 12, 2, 0, 12, false) else none) else (bif Nat.beq pc 0 then some (.iload_n 1, 1, 0, 0, false) else none)))))
def qX8_wet (pc : Nat) : Option mIn :=
  (bif Nat.ble 28 pc then
   (bif Nat.ble 39 pc then
    (bif Nat.ble 49 pc then
     (bif Nat.ble 53 pc then (bif Nat.ble 54 pc then (bif Nat.beq pc 54 then some (.ireturn, 1, 0, 0, false) else none) else (bif Nat.beq pc 53 then some (.iconst (-1), 1, 0, -1, false) else none)) else (bif Nat.ble 50 pc then (bif Nat.beq pc 50 then some (.goto 4, 3, 54, 0, false) else none) else (bif Nat.beq pc 49 then some (.iconst 0, 1, 0, 0, false) else none)))
    else
     (bif Nat.ble 45 pc then (bif Nat.ble 46 pc then (bif Nat.beq pc 46 then some (.goto 8, 3, 54, 0, false) else none) else (bif Nat.beq pc 45 then some (.iconst 1, 1, 0, 1, false) else none)) else (bif Nat.ble 42 pc then (bif Nat.beq pc 42 then some (.ifCond .eq 7, 3, 49, 0, false) else none) else (bif Nat.beq pc 39 then some (.invokevirtual 151, 3, 0, 0, false) else none))))
   else
    (bif Nat.ble 31 pc then
     (bif Nat.ble 35 pc then (bif Nat.ble 36 pc then (bif Nat.beq pc 36 then some (.invokestatic 104, 3, 0, 0, false) else none) else (bif Nat.beq pc 35 then some (.iload_n 2, 1, 0, 0, false) else none)) else (bif Nat.ble 34 pc then (bif Nat.beq pc 34 then some (.iload_n 1, 1, 0, 0, false) else none) else (bif Nat.beq pc 31 then some (.invokevirtual 147, 3, 0, 0, false) else none)))
    else
     (bif Nat.ble 29 pc then (bif Nat.ble 30 pc then (bif Nat.beq pc 30 then some (.iload_n 3, 1, 0, 0, false) else none) else (bif Nat.beq pc 29 then some (.aload_n 0, 1, 0, 0, false) else none)) else (bif Nat.beq pc 28 then some (.aload_n 0, 1, 0, 0, false) else none))))
  else
   (bif Nat.ble 11 pc then
    (bif Nat.ble 18 pc then
     (bif Nat.ble 22 pc then (bif Nat.ble 25 pc then (bif Nat.beq pc 25 then some (.ifCond .le 28, 3, 53, 0, false) else none) else (bif Nat.beq pc 22 then some (.getfield 90, 3, 0, 0, false) else none)) else (bif Nat.ble 21 pc then (bif Nat.beq pc 21 then some (.aload_n 0, 1, 0, 0, false) else none) else (bif Nat.beq pc 18 then some (.ifCond .eq 35, 3, 53, 0, false) else none)))
    else
     (bif Nat.ble 14 pc then (bif Nat.ble 15 pc then (bif Nat.beq pc 15 then some (.invokestatic 118, 3, 0, 0, false) else none) else (bif Nat.beq pc 14 then some (.iload_n 3, 1, 0, 0, false) else none)) else (bif Nat.beq pc 11 then some (.ifCond .eq 42, 3, 53, 0, false) else none)))
   else
    (bif Nat.ble 5 pc then
     (bif Nat.ble 7 pc then (bif Nat.ble 8 pc then (bif Nat.beq pc 8 then some (.invokevirtual 122, 3, 0, 0, false) else none) else (bif Nat.beq pc 7 then some (.iload_n 2, 1, 0, 0, false) else none)) else (bif Nat.ble 6 pc then (bif Nat.beq pc 6 then some (.iload_n 1, 1, 0, 0, false) else none) else (bif Nat.beq pc 5 then some (.aload_n 0, 1, 0, 0, false) else none)))
    else
     (bif Nat.ble 1 pc then (bif Nat.ble 2 pc then (bif Nat.beq pc 2 then some (.putfield 3, 3, 0, 0, false) else none) else (bif Nat.beq pc 1 then some (.iconst 0, 1, 0, 0, false) else none)) else (bif Nat.beq pc 0 then some (.aload_n 0, 1, 0, 0, false) else none)))))
def qX8_kinds (pc : Nat) : Option mIn :=
  (bif Nat.ble 32 pc then
   (bif Nat.ble 56 pc then
    (bif Nat.ble 66 pc then
     (bif Nat.ble 71 pc then
      (bif Nat.ble 74 pc then (bif Nat.ble 77 pc then (bif Nat.beq pc 77 then some (.return_, 1, 0, 0, false) else none) else (bif Nat.beq pc 74 then some (.goto (-72), 3, 2, 0, false) else none)) else (bif Nat.beq pc 71 then some (.iinc 2 1, 3, 0, 1, false) else none))
     else
      (bif Nat.ble 69 pc then (bif Nat.ble 70 pc then (bif Nat.beq pc 70 then some (.iastore, 1, 0, 0, false) else none) else (bif Nat.beq pc 69 then some (.iconst 0, 1, 0, 0, false) else none)) else (bif Nat.beq pc 66 then some (.goto 4, 3, 70, 0, false) else none)))
    else
     (bif Nat.ble 60 pc then
      (bif Nat.ble 62 pc then (bif Nat.ble 65 pc then (bif Nat.beq pc 65 then some (.iconst 1, 1, 0, 1, false) else none) else (bif Nat.beq pc 62 then some (.ifCond .eq 7, 3, 69, 0, false) else none)) else (bif Nat.beq pc 60 then some (.iload 4, 2, 0, 0, false) else none))
     else
      (bif Nat.ble 57 pc then (bif Nat.beq pc 57 then some (.goto 13, 3, 70, 0, false) else none) else (bif Nat.beq pc 56 then some (.iconst 2, 1, 0, 2, false) else none))))
   else
    (bif Nat.ble 43 pc then
     (bif Nat.ble 49 pc then
      (bif Nat.ble 52 pc then (bif Nat.ble 53 pc then (bif Nat.beq pc 53 then some (.goto 17, 3, 70, 0, false) else none) else (bif Nat.beq pc 52 then some (.iconst 3, 1, 0, 3, false) else none)) else (bif Nat.beq pc 49 then some (.ifCond .eq 7, 3, 56, 0, false) else none))
     else
      (bif Nat.ble 44 pc then (bif Nat.ble 47 pc then (bif Nat.beq pc 47 then some (.iload 4, 2, 0, 0, false) else none) else (bif Nat.beq pc 44 then some (.ifCond .eq 16, 3, 60, 0, false) else none)) else (bif Nat.beq pc 43 then some (.iload_n 3, 1, 0, 0, false) else none)))
    else
     (bif Nat.ble 36 pc then
      (bif Nat.ble 39 pc then (bif Nat.ble 40 pc then (bif Nat.beq pc 40 then some (.goto 30, 3, 70, 0, false) else none) else (bif Nat.beq pc 39 then some (.iconst (-1), 1, 0, -1, false) else none)) else (bif Nat.beq pc 36 then some (.ifCond .ne 7, 3, 43, 0, false) else none))
     else
      (bif Nat.ble 33 pc then (bif Nat.beq pc 33 then some (.invokevirtual 154, 3, 0, 0, false) else none) else (bif Nat.beq pc 32 then some (.iload_n 2, 1, 0, 0, false) else none)))))
  else
   (bif Nat.ble 14 pc then
    (bif Nat.ble 21 pc then
     (bif Nat.ble 27 pc then
      (bif Nat.ble 30 pc then (bif Nat.ble 31 pc then (bif Nat.beq pc 31 then some (.aload_n 0, 1, 0, 0, false) else none) else (bif Nat.beq pc 30 then some (.iload_n 2, 1, 0, 0, false) else none)) else (bif Nat.beq pc 27 then some (.getfield 63, 3, 0, 0, false) else none))
     else
      (bif Nat.ble 24 pc then (bif Nat.ble 26 pc then (bif Nat.beq pc 26 then some (.aload_n 0, 1, 0, 0, false) else none) else (bif Nat.beq pc 24 then some (.istore 4, 2, 0, 0, false) else none)) else (bif Nat.beq pc 21 then some (.invokevirtual 151, 3, 0, 0, false) else none)))
    else
     (bif Nat.ble 18 pc then
      (bif Nat.ble 19 pc then (bif Nat.ble 20 pc then (bif Nat.beq pc 20 then some (.iload_n 2, 1, 0, 0, false) else none) else (bif Nat.beq pc 19 then some (.iload_n 1, 1, 0, 0, false) else none)) else (bif Nat.beq pc 18 then some (.aload_n 0, 1, 0, 0, false) else none))
     else
      (bif Nat.ble 17 pc then (bif Nat.beq pc 17 then some (.istore_n 3, 1, 0, 0, false) else none) else (bif Nat.beq pc 14 then some (.invokevirtual 151, 3, 0, 0, false) else none))))
   else
    (bif Nat.ble 9 pc then
     (bif Nat.ble 11 pc then
      (bif Nat.ble 12 pc then (bif Nat.ble 13 pc then (bif Nat.beq pc 13 then some (.iload_n 2, 1, 0, 0, false) else none) else (bif Nat.beq pc 12 then some (.isub, 1, 0, 0, false) else none)) else (bif Nat.beq pc 11 then some (.iconst 1, 1, 0, 1, false) else none))
     else
      (bif Nat.ble 10 pc then (bif Nat.beq pc 10 then some (.iload_n 1, 1, 0, 0, false) else none) else (bif Nat.beq pc 9 then some (.aload_n 0, 1, 0, 0, false) else none)))
    else
     (bif Nat.ble 2 pc then
      (bif Nat.ble 3 pc then (bif Nat.ble 6 pc then (bif Nat.beq pc 6 then some (.if_icmp .ge 71, 3, 77, 0, false) else none) else (bif Nat.beq pc 3 then some (.sipush 144, 3, 0, 144, false) else none)) else (bif Nat.beq pc 2 then some (.iload_n 2, 1, 0, 0, true) else none))
     else
      (bif Nat.ble 1 pc then (bif Nat.beq pc 1 then some (.istore_n 2, 1, 0, 0, false) else none) else (bif Nat.beq pc 0 then some (.iconst 0, 1, 0, 0, false) else none))))))
def qX8_apart (pc : Nat) : Option mIn :=
  (bif Nat.ble 13 pc then
   (bif Nat.ble 19 pc then
    (bif Nat.ble 21 pc then
     (bif Nat.ble 24 pc then (bif Nat.ble 27 pc then (bif Nat.beq pc 27 then some (.ireturn, 1, 0, 0, false) else none) else (bif Nat.beq pc 24 then some (.invokestatic 160, 3, 0, 0, false) else none)) else (bif Nat.beq pc 21 then some (.invokestatic 157, 3, 0, 0, false) else none))
    else
     (bif Nat.ble 20 pc then (bif Nat.beq pc 20 then some (.isub, 1, 0, 0, false) else none) else (bif Nat.beq pc 19 then some (.idiv, 1, 0, 0, false) else none)))
   else
    (bif Nat.ble 16 pc then (bif Nat.ble 17 pc then (bif Nat.beq pc 17 then some (.bipush 12, 2, 0, 12, false) else none) else (bif Nat.beq pc 16 then some (.iload_n 1, 1, 0, 0, false) else none)) else (bif Nat.ble 15 pc then (bif Nat.beq pc 15 then some (.idiv, 1, 0, 0, false) else none) else (bif Nat.beq pc 13 then some (.bipush 12, 2, 0, 12, false) else none))))
  else
   (bif Nat.ble 5 pc then
    (bif Nat.ble 8 pc then
     (bif Nat.ble 9 pc then (bif Nat.ble 12 pc then (bif Nat.beq pc 12 then some (.iload_n 0, 1, 0, 0, false) else none) else (bif Nat.beq pc 9 then some (.invokestatic 157, 3, 0, 0, false) else none)) else (bif Nat.beq pc 8 then some (.isub, 1, 0, 0, false) else none))
    else
     (bif Nat.ble 7 pc then (bif Nat.beq pc 7 then some (.irem, 1, 0, 0, false) else none) else (bif Nat.beq pc 5 then some (.bipush 12, 2, 0, 12, false) else none)))
   else
    (bif Nat.ble 3 pc then (bif Nat.ble 4 pc then (bif Nat.beq pc 4 then some (.iload_n 1, 1, 0, 0, false) else none) else (bif Nat.beq pc 3 then some (.irem, 1, 0, 0, false) else none)) else (bif Nat.ble 1 pc then (bif Nat.beq pc 1 then some (.bipush 12, 2, 0, 12, false) else none) else (bif Nat.beq pc 0 then some (.iload_n 0, 1, 0, 0, false) else none)))))
def qX8_away (pc : Nat) : Option mIn :=
  (bif Nat.ble 13 pc then
   (bif Nat.ble 19 pc then
    (bif Nat.ble 21 pc then
     (bif Nat.ble 24 pc then (bif Nat.ble 25 pc then (bif Nat.beq pc 25 then some (.ireturn, 1, 0, 0, false) else none) else (bif Nat.beq pc 24 then some (.iadd, 1, 0, 0, false) else none)) else (bif Nat.beq pc 21 then some (.invokestatic 157, 3, 0, 0, false) else none))
    else
     (bif Nat.ble 20 pc then (bif Nat.beq pc 20 then some (.isub, 1, 0, 0, false) else none) else (bif Nat.beq pc 19 then some (.idiv, 1, 0, 0, false) else none)))
   else
    (bif Nat.ble 16 pc then (bif Nat.ble 17 pc then (bif Nat.beq pc 17 then some (.bipush 12, 2, 0, 12, false) else none) else (bif Nat.beq pc 16 then some (.iload_n 1, 1, 0, 0, false) else none)) else (bif Nat.ble 15 pc then (bif Nat.beq pc 15 then some (.idiv, 1, 0, 0, false) else none) else (bif Nat.beq pc 13 then some (.bipush 12, 2, 0, 12, false) else none))))
  else
   (bif Nat.ble 5 pc then
    (bif Nat.ble 8 pc then
     (bif Nat.ble 9 pc then (bif Nat.ble 12 pc then (bif Nat.beq pc 12 then some (.iload_n 0, 1, 0, 0, false) else none) else (bif Nat.beq pc 9 then some (.invokestatic 157, 3, 0, 0, false) else none)) else (bif Nat.beq pc 8 then some (.isub, 1, 0, 0, false) else none))
    else
     (bif Nat.ble 7 pc then (bif Nat.beq pc 7 then some (.irem, 1, 0, 0, false) else none) else (bif Nat.beq pc 5 then some (.bipush 12, 2, 0, 12, false) else none)))
   else
    (bif Nat.ble 3 pc then (bif Nat.ble 4 pc then (bif Nat.beq pc 4 then some (.iload_n 1, 1, 0, 0, false) else none) else (bif Nat.beq pc 3 then some (.irem, 1, 0, 0, false) else none)) else (bif Nat.ble 1 pc then (bif Nat.beq pc 1 then some (.bipush 12, 2, 0, 12, false) else none) else (bif Nat.beq pc 0 then some (.iload_n 0, 1, 0, 0, false) else none)))))
def qX8_kindsOf (pc : Nat) : Option mIn :=
  (bif Nat.ble 17 pc then
   (bif Nat.ble 27 pc then
    (bif Nat.ble 32 pc then
     (bif Nat.ble 35 pc then (bif Nat.ble 36 pc then (bif Nat.beq pc 36 then some (.ireturn, 1, 0, 0, false) else none) else (bif Nat.beq pc 35 then some (.iload_n 2, 1, 0, 0, false) else none)) else (bif Nat.beq pc 32 then some (.goto (-28), 3, 4, 0, false) else none))
    else
     (bif Nat.ble 28 pc then (bif Nat.ble 29 pc then (bif Nat.beq pc 29 then some (.iinc 3 1, 3, 0, 1, false) else none) else (bif Nat.beq pc 28 then some (.istore_n 2, 1, 0, 0, false) else none)) else (bif Nat.beq pc 27 then some (.iadd, 1, 0, 0, false) else none)))
   else
    (bif Nat.ble 22 pc then
     (bif Nat.ble 23 pc then (bif Nat.ble 26 pc then (bif Nat.beq pc 26 then some (.iconst 0, 1, 0, 0, false) else none) else (bif Nat.beq pc 23 then some (.goto 4, 3, 27, 0, false) else none)) else (bif Nat.beq pc 22 then some (.iconst 1, 1, 0, 1, false) else none))
    else
     (bif Nat.ble 18 pc then (bif Nat.ble 19 pc then (bif Nat.beq pc 19 then some (.if_icmp .ne 7, 3, 26, 0, false) else none) else (bif Nat.beq pc 18 then some (.iload_n 1, 1, 0, 0, false) else none)) else (bif Nat.beq pc 17 then some (.iaload, 1, 0, 0, false) else none))))
  else
   (bif Nat.ble 5 pc then
    (bif Nat.ble 12 pc then
     (bif Nat.ble 13 pc then (bif Nat.ble 16 pc then (bif Nat.beq pc 16 then some (.iload_n 3, 1, 0, 0, false) else none) else (bif Nat.beq pc 13 then some (.getfield 63, 3, 0, 0, false) else none)) else (bif Nat.beq pc 12 then some (.aload_n 0, 1, 0, 0, false) else none))
    else
     (bif Nat.ble 8 pc then (bif Nat.ble 11 pc then (bif Nat.beq pc 11 then some (.iload_n 2, 1, 0, 0, false) else none) else (bif Nat.beq pc 8 then some (.if_icmp .ge 27, 3, 35, 0, false) else none)) else (bif Nat.beq pc 5 then some (.sipush 144, 3, 0, 144, false) else none)))
   else
    (bif Nat.ble 2 pc then
     (bif Nat.ble 3 pc then (bif Nat.ble 4 pc then (bif Nat.beq pc 4 then some (.iload_n 3, 1, 0, 0, true) else none) else (bif Nat.beq pc 3 then some (.istore_n 3, 1, 0, 0, false) else none)) else (bif Nat.beq pc 2 then some (.iconst 0, 1, 0, 0, false) else none))
    else
     (bif Nat.ble 1 pc then (bif Nat.beq pc 1 then some (.istore_n 2, 1, 0, 0, false) else none) else (bif Nat.beq pc 0 then some (.iconst 0, 1, 0, 0, false) else none)))))
def qX8_far (pc : Nat) : Option mIn :=
  (bif Nat.ble 69 pc then
   (bif Nat.ble 105 pc then
    (bif Nat.ble 125 pc then
     (bif Nat.ble 136 pc then
      (bif Nat.ble 140 pc then
       (bif Nat.ble 143 pc then (bif Nat.ble 144 pc then (bif Nat.beq pc 144 then some (.ireturn, 1, 0, 0, false) else none) else (bif Nat.beq pc 143 then some (.iload_n 1, 1, 0, 0, false) else none)) else (bif Nat.beq pc 140 then some (.goto (-136), 3, 4, 0, false) else none))
      else
       (bif Nat.ble 137 pc then (bif Nat.beq pc 137 then some (.iinc 2 1, 3, 0, 1, false) else none) else (bif Nat.beq pc 136 then some (.istore_n 1, 1, 0, 0, false) else none)))
     else
      (bif Nat.ble 131 pc then
       (bif Nat.ble 132 pc then (bif Nat.ble 133 pc then (bif Nat.beq pc 133 then some (.invokestatic 160, 3, 0, 0, false) else none) else (bif Nat.beq pc 132 then some (.iload_n 3, 1, 0, 0, false) else none)) else (bif Nat.beq pc 131 then some (.iload_n 1, 1, 0, 0, false) else none))
      else
       (bif Nat.ble 128 pc then (bif Nat.beq pc 128 then some (.goto (-88), 3, 40, 0, false) else none) else (bif Nat.beq pc 125 then some (.iinc 4 1, 3, 0, 1, false) else none))))
    else
     (bif Nat.ble 114 pc then
      (bif Nat.ble 120 pc then
       (bif Nat.ble 123 pc then (bif Nat.ble 124 pc then (bif Nat.beq pc 124 then some (.istore_n 3, 1, 0, 0, false) else none) else (bif Nat.beq pc 123 then some (.iload_n 3, 1, 0, 0, false) else none)) else (bif Nat.beq pc 120 then some (.goto 4, 3, 124, 0, false) else none))
      else
       (bif Nat.ble 117 pc then (bif Nat.beq pc 117 then some (.invokestatic 113, 3, 0, 0, false) else none) else (bif Nat.beq pc 114 then some (.invokestatic 163, 3, 0, 0, false) else none)))
     else
      (bif Nat.ble 110 pc then
       (bif Nat.ble 111 pc then (bif Nat.ble 112 pc then (bif Nat.beq pc 112 then some (.iload 4, 2, 0, 0, false) else none) else (bif Nat.beq pc 111 then some (.iload_n 2, 1, 0, 0, false) else none)) else (bif Nat.beq pc 110 then some (.iload_n 3, 1, 0, 0, false) else none))
      else
       (bif Nat.ble 107 pc then (bif Nat.beq pc 107 then some (.ifCond .eq 16, 3, 123, 0, false) else none) else (bif Nat.beq pc 105 then some (.iload 5, 2, 0, 0, false) else none)))))
   else
    (bif Nat.ble 87 pc then
     (bif Nat.ble 95 pc then
      (bif Nat.ble 99 pc then
       (bif Nat.ble 102 pc then (bif Nat.ble 103 pc then (bif Nat.beq pc 103 then some (.istore 5, 2, 0, 0, false) else none) else (bif Nat.beq pc 102 then some (.iconst 0, 1, 0, 0, false) else none)) else (bif Nat.beq pc 99 then some (.goto 4, 3, 103, 0, false) else none))
      else
       (bif Nat.ble 98 pc then (bif Nat.beq pc 98 then some (.iconst 1, 1, 0, 1, false) else none) else (bif Nat.beq pc 95 then some (.if_icmp .ne 7, 3, 102, 0, false) else none)))
     else
      (bif Nat.ble 91 pc then
       (bif Nat.ble 93 pc then (bif Nat.ble 94 pc then (bif Nat.beq pc 94 then some (.iconst 3, 1, 0, 3, false) else none) else (bif Nat.beq pc 93 then some (.iaload, 1, 0, 0, false) else none)) else (bif Nat.beq pc 91 then some (.iload 4, 2, 0, 0, false) else none))
      else
       (bif Nat.ble 88 pc then (bif Nat.beq pc 88 then some (.getfield 63, 3, 0, 0, false) else none) else (bif Nat.beq pc 87 then some (.aload_n 0, 1, 0, 0, false) else none))))
    else
     (bif Nat.ble 77 pc then
      (bif Nat.ble 82 pc then
       (bif Nat.ble 83 pc then (bif Nat.ble 84 pc then (bif Nat.beq pc 84 then some (.if_icmp .eq 14, 3, 98, 0, false) else none) else (bif Nat.beq pc 83 then some (.iconst 2, 1, 0, 2, false) else none)) else (bif Nat.beq pc 82 then some (.iaload, 1, 0, 0, false) else none))
      else
       (bif Nat.ble 80 pc then (bif Nat.beq pc 80 then some (.iload 4, 2, 0, 0, false) else none) else (bif Nat.beq pc 77 then some (.getfield 63, 3, 0, 0, false) else none)))
     else
      (bif Nat.ble 73 pc then (bif Nat.ble 76 pc then (bif Nat.beq pc 76 then some (.aload_n 0, 1, 0, 0, false) else none) else (bif Nat.beq pc 73 then some (.goto 30, 3, 103, 0, false) else none)) else (bif Nat.ble 72 pc then (bif Nat.beq pc 72 then some (.iconst 0, 1, 0, 0, false) else none) else (bif Nat.beq pc 69 then some (.goto 34, 3, 103, 0, false) else none))))))
  else
   (bif Nat.ble 31 pc then
    (bif Nat.ble 52 pc then
     (bif Nat.ble 59 pc then
      (bif Nat.ble 64 pc then
       (bif Nat.ble 65 pc then (bif Nat.ble 68 pc then (bif Nat.beq pc 68 then some (.iconst 1, 1, 0, 1, false) else none) else (bif Nat.beq pc 65 then some (.ifCond .ne 7, 3, 72, 0, false) else none)) else (bif Nat.beq pc 64 then some (.iaload, 1, 0, 0, false) else none))
      else
       (bif Nat.ble 62 pc then (bif Nat.beq pc 62 then some (.iload 4, 2, 0, 0, false) else none) else (bif Nat.beq pc 59 then some (.getfield 63, 3, 0, 0, false) else none)))
     else
      (bif Nat.ble 54 pc then
       (bif Nat.ble 55 pc then (bif Nat.ble 58 pc then (bif Nat.beq pc 58 then some (.aload_n 0, 1, 0, 0, false) else none) else (bif Nat.beq pc 55 then some (.if_icmp .ne 21, 3, 76, 0, false) else none)) else (bif Nat.beq pc 54 then some (.iconst 2, 1, 0, 2, false) else none))
      else
       (bif Nat.ble 53 pc then (bif Nat.beq pc 53 then some (.iaload, 1, 0, 0, false) else none) else (bif Nat.beq pc 52 then some (.iload_n 2, 1, 0, 0, false) else none))))
    else
     (bif Nat.ble 40 pc then
      (bif Nat.ble 45 pc then
       (bif Nat.ble 48 pc then (bif Nat.ble 49 pc then (bif Nat.beq pc 49 then some (.getfield 63, 3, 0, 0, false) else none) else (bif Nat.beq pc 48 then some (.aload_n 0, 1, 0, 0, false) else none)) else (bif Nat.beq pc 45 then some (.if_icmp .ge 86, 3, 131, 0, false) else none))
      else
       (bif Nat.ble 42 pc then (bif Nat.beq pc 42 then some (.sipush 144, 3, 0, 144, false) else none) else (bif Nat.beq pc 40 then some (.iload 4, 2, 0, 0, true) else none)))
     else
      (bif Nat.ble 36 pc then
       (bif Nat.ble 37 pc then (bif Nat.ble 38 pc then (bif Nat.beq pc 38 then some (.istore 4, 2, 0, 0, false) else none) else (bif Nat.beq pc 37 then some (.iconst 0, 1, 0, 0, false) else none)) else (bif Nat.beq pc 36 then some (.istore_n 3, 1, 0, 0, false) else none))
      else
       (bif Nat.ble 34 pc then (bif Nat.beq pc 34 then some (.bipush 13, 2, 0, 13, false) else none) else (bif Nat.beq pc 31 then some (.goto 106, 3, 137, 0, false) else none)))))
   else
    (bif Nat.ble 15 pc then
     (bif Nat.ble 22 pc then
      (bif Nat.ble 26 pc then
       (bif Nat.ble 27 pc then (bif Nat.ble 28 pc then (bif Nat.beq pc 28 then some (.if_icmp .eq 6, 3, 34, 0, false) else none) else (bif Nat.beq pc 27 then some (.iconst 2, 1, 0, 2, false) else none)) else (bif Nat.beq pc 26 then some (.iaload, 1, 0, 0, false) else none))
      else
       (bif Nat.ble 25 pc then (bif Nat.beq pc 25 then some (.iload_n 2, 1, 0, 0, false) else none) else (bif Nat.beq pc 22 then some (.getfield 63, 3, 0, 0, false) else none)))
     else
      (bif Nat.ble 17 pc then
       (bif Nat.ble 18 pc then (bif Nat.ble 21 pc then (bif Nat.beq pc 21 then some (.aload_n 0, 1, 0, 0, false) else none) else (bif Nat.beq pc 18 then some (.if_icmp .eq 16, 3, 34, 0, false) else none)) else (bif Nat.beq pc 17 then some (.iconst 1, 1, 0, 1, false) else none))
      else
       (bif Nat.ble 16 pc then (bif Nat.beq pc 16 then some (.iaload, 1, 0, 0, false) else none) else (bif Nat.beq pc 15 then some (.iload_n 2, 1, 0, 0, false) else none))))
    else
     (bif Nat.ble 4 pc then
      (bif Nat.ble 8 pc then
       (bif Nat.ble 11 pc then (bif Nat.ble 12 pc then (bif Nat.beq pc 12 then some (.getfield 63, 3, 0, 0, false) else none) else (bif Nat.beq pc 11 then some (.aload_n 0, 1, 0, 0, false) else none)) else (bif Nat.beq pc 8 then some (.if_icmp .ge 135, 3, 143, 0, false) else none))
      else
       (bif Nat.ble 5 pc then (bif Nat.beq pc 5 then some (.sipush 144, 3, 0, 144, false) else none) else (bif Nat.beq pc 4 then some (.iload_n 2, 1, 0, 0, true) else none)))
     else
      (bif Nat.ble 2 pc then (bif Nat.ble 3 pc then (bif Nat.beq pc 3 then some (.istore_n 2, 1, 0, 0, false) else none) else (bif Nat.beq pc 2 then some (.iconst 0, 1, 0, 0, false) else none)) else (bif Nat.ble 1 pc then (bif Nat.beq pc 1 then some (.istore_n 1, 1, 0, 0, false) else none) else (bif Nat.beq pc 0 then some (.iconst 0, 1, 0, 0, false) else none)))))))
def qX8_isSudden (pc : Nat) : Option mIn :=
  (bif Nat.ble 24 pc then
   (bif Nat.ble 34 pc then
    (bif Nat.ble 39 pc then
     (bif Nat.ble 42 pc then (bif Nat.ble 43 pc then (bif Nat.beq pc 43 then some (.ireturn, 1, 0, 0, false) else none) else (bif Nat.beq pc 42 then some (.iconst 0, 1, 0, 0, false) else none)) else (bif Nat.beq pc 39 then some (.goto 4, 3, 43, 0, false) else none))
    else
     (bif Nat.ble 35 pc then (bif Nat.ble 38 pc then (bif Nat.beq pc 38 then some (.iconst 1, 1, 0, 1, false) else none) else (bif Nat.beq pc 35 then some (.if_icmp .ne 7, 3, 42, 0, false) else none)) else (bif Nat.beq pc 34 then some (.iconst 1, 1, 0, 1, false) else none)))
   else
    (bif Nat.ble 29 pc then
     (bif Nat.ble 32 pc then (bif Nat.ble 33 pc then (bif Nat.beq pc 33 then some (.iaload, 1, 0, 0, false) else none) else (bif Nat.beq pc 32 then some (.iload_n 1, 1, 0, 0, false) else none)) else (bif Nat.beq pc 29 then some (.getfield 60, 3, 0, 0, false) else none))
    else
     (bif Nat.ble 25 pc then (bif Nat.ble 28 pc then (bif Nat.beq pc 28 then some (.aload_n 0, 1, 0, 0, false) else none) else (bif Nat.beq pc 25 then some (.goto 18, 3, 43, 0, false) else none)) else (bif Nat.beq pc 24 then some (.iconst 0, 1, 0, 0, false) else none))))
  else
   (bif Nat.ble 10 pc then
    (bif Nat.ble 17 pc then
     (bif Nat.ble 20 pc then (bif Nat.ble 21 pc then (bif Nat.beq pc 21 then some (.goto 22, 3, 43, 0, false) else none) else (bif Nat.beq pc 20 then some (.iconst 1, 1, 0, 1, false) else none)) else (bif Nat.beq pc 17 then some (.if_icmp .le 7, 3, 24, 0, false) else none))
    else
     (bif Nat.ble 13 pc then (bif Nat.ble 14 pc then (bif Nat.beq pc 14 then some (.getfield 57, 3, 0, 0, false) else none) else (bif Nat.beq pc 13 then some (.aload_n 0, 1, 0, 0, false) else none)) else (bif Nat.beq pc 10 then some (.invokevirtual 166, 3, 0, 0, false) else none)))
   else
    (bif Nat.ble 5 pc then
     (bif Nat.ble 6 pc then (bif Nat.ble 9 pc then (bif Nat.beq pc 9 then some (.aload_n 0, 1, 0, 0, false) else none) else (bif Nat.beq pc 6 then some (.ifCond .ge 22, 3, 28, 0, false) else none)) else (bif Nat.beq pc 5 then some (.iaload, 1, 0, 0, false) else none))
    else
     (bif Nat.ble 1 pc then (bif Nat.ble 4 pc then (bif Nat.beq pc 4 then some (.iload_n 1, 1, 0, 0, false) else none) else (bif Nat.beq pc 1 then some (.getfield 60, 3, 0, 0, false) else none)) else (bif Nat.beq pc 0 then some (.aload_n 0, 1, 0, 0, false) else none)))))
def qX8_findsParts (pc : Nat) : Option mIn :=
  (bif Nat.ble 133 pc then
   (bif Nat.ble 204 pc then
    (bif Nat.ble 236 pc then
     (bif Nat.ble 253 pc then
      (bif Nat.ble 260 pc then
       (bif Nat.ble 266 pc then
        (bif Nat.ble 269 pc then (bif Nat.ble 272 pc then (bif Nat.beq pc 272 then some (.return_, 1, 0, 0, false) else none) else (bif Nat.beq pc 269 then some (.goto (-64), 3, 205, 0, false) else none)) else (bif Nat.beq pc 266 then some (.iinc 1 1, 3, 0, 1, false) else none))
       else
        (bif Nat.ble 263 pc then (bif Nat.beq pc 263 then some (.goto (-49), 3, 214, 0, false) else none) else (bif Nat.beq pc 260 then some (.iinc 2 1, 3, 0, 1, false) else none)))
      else
       (bif Nat.ble 257 pc then
        (bif Nat.ble 258 pc then (bif Nat.ble 259 pc then (bif Nat.beq pc 259 then some (.bastore, 1, 0, 0, false) else none) else (bif Nat.beq pc 258 then some (.iconst 1, 1, 0, 1, false) else none)) else (bif Nat.beq pc 257 then some (.iaload, 1, 0, 0, false) else none))
       else
        (bif Nat.ble 256 pc then (bif Nat.beq pc 256 then some (.iload_n 1, 1, 0, 0, false) else none) else (bif Nat.beq pc 253 then some (.getfield 66, 3, 0, 0, false) else none))))
     else
      (bif Nat.ble 244 pc then
       (bif Nat.ble 248 pc then
        (bif Nat.ble 249 pc then (bif Nat.ble 252 pc then (bif Nat.beq pc 252 then some (.aload_n 0, 1, 0, 0, false) else none) else (bif Nat.beq pc 249 then some (.getfield 69, 3, 0, 0, false) else none)) else (bif Nat.beq pc 248 then some (.aload_n 0, 1, 0, 0, false) else none))
       else
        (bif Nat.ble 245 pc then (bif Nat.beq pc 245 then some (.if_icmp .ne 15, 3, 260, 0, false) else none) else (bif Nat.beq pc 244 then some (.iconst 1, 1, 0, 1, false) else none)))
      else
       (bif Nat.ble 240 pc then (bif Nat.ble 241 pc then (bif Nat.beq pc 241 then some (.invokestatic 170, 3, 0, 0, false) else none) else (bif Nat.beq pc 240 then some (.iload_n 2, 1, 0, 0, false) else none)) else (bif Nat.ble 239 pc then (bif Nat.beq pc 239 then some (.iload_n 1, 1, 0, 0, false) else none) else (bif Nat.beq pc 236 then some (.ifCond .ne 24, 3, 260, 0, false) else none)))))
    else
     (bif Nat.ble 221 pc then
      (bif Nat.ble 227 pc then
       (bif Nat.ble 231 pc then
        (bif Nat.ble 234 pc then (bif Nat.ble 235 pc then (bif Nat.beq pc 235 then some (.iaload, 1, 0, 0, false) else none) else (bif Nat.beq pc 234 then some (.iload_n 2, 1, 0, 0, false) else none)) else (bif Nat.beq pc 231 then some (.getfield 63, 3, 0, 0, false) else none))
       else
        (bif Nat.ble 230 pc then (bif Nat.beq pc 230 then some (.aload_n 0, 1, 0, 0, false) else none) else (bif Nat.beq pc 227 then some (.ifCond .lt 39, 3, 266, 0, false) else none)))
      else
       (bif Nat.ble 225 pc then (bif Nat.ble 226 pc then (bif Nat.beq pc 226 then some (.iaload, 1, 0, 0, false) else none) else (bif Nat.beq pc 225 then some (.iload_n 1, 1, 0, 0, false) else none)) else (bif Nat.ble 222 pc then (bif Nat.beq pc 222 then some (.getfield 66, 3, 0, 0, false) else none) else (bif Nat.beq pc 221 then some (.aload_n 0, 1, 0, 0, false) else none))))
     else
      (bif Nat.ble 212 pc then
       (bif Nat.ble 214 pc then
        (bif Nat.ble 215 pc then (bif Nat.ble 218 pc then (bif Nat.beq pc 218 then some (.if_icmp .ge 48, 3, 266, 0, false) else none) else (bif Nat.beq pc 215 then some (.sipush 144, 3, 0, 144, false) else none)) else (bif Nat.beq pc 214 then some (.iload_n 2, 1, 0, 0, true) else none))
       else
        (bif Nat.ble 213 pc then (bif Nat.beq pc 213 then some (.istore_n 2, 1, 0, 0, false) else none) else (bif Nat.beq pc 212 then some (.iconst 0, 1, 0, 0, false) else none)))
      else
       (bif Nat.ble 206 pc then (bif Nat.ble 209 pc then (bif Nat.beq pc 209 then some (.if_icmp .ge 63, 3, 272, 0, false) else none) else (bif Nat.beq pc 206 then some (.sipush 144, 3, 0, 144, false) else none)) else (bif Nat.ble 205 pc then (bif Nat.beq pc 205 then some (.iload_n 1, 1, 0, 0, true) else none) else (bif Nat.beq pc 204 then some (.istore_n 1, 1, 0, 0, false) else none))))))
   else
    (bif Nat.ble 171 pc then
     (bif Nat.ble 186 pc then
      (bif Nat.ble 195 pc then
       (bif Nat.ble 197 pc then
        (bif Nat.ble 200 pc then (bif Nat.ble 203 pc then (bif Nat.beq pc 203 then some (.iconst 0, 1, 0, 0, false) else none) else (bif Nat.beq pc 200 then some (.goto (-41), 3, 159, 0, false) else none)) else (bif Nat.beq pc 197 then some (.iinc 1 1, 3, 0, 1, false) else none))
       else
        (bif Nat.ble 196 pc then (bif Nat.beq pc 196 then some (.bastore, 1, 0, 0, false) else none) else (bif Nat.beq pc 195 then some (.iconst 0, 1, 0, 0, false) else none)))
      else
       (bif Nat.ble 190 pc then
        (bif Nat.ble 191 pc then (bif Nat.ble 194 pc then (bif Nat.beq pc 194 then some (.iload_n 1, 1, 0, 0, false) else none) else (bif Nat.beq pc 191 then some (.getfield 69, 3, 0, 0, false) else none)) else (bif Nat.beq pc 190 then some (.aload_n 0, 1, 0, 0, false) else none))
       else
        (bif Nat.ble 187 pc then (bif Nat.beq pc 187 then some (.putfield 173, 3, 0, 0, false) else none) else (bif Nat.beq pc 186 then some (.iadd, 1, 0, 0, false) else none))))
     else
      (bif Nat.ble 177 pc then
       (bif Nat.ble 181 pc then
        (bif Nat.ble 182 pc then (bif Nat.ble 185 pc then (bif Nat.beq pc 185 then some (.iconst 0, 1, 0, 0, false) else none) else (bif Nat.beq pc 182 then some (.goto 4, 3, 186, 0, false) else none)) else (bif Nat.beq pc 181 then some (.iconst 1, 1, 0, 1, false) else none))
       else
        (bif Nat.ble 178 pc then (bif Nat.beq pc 178 then some (.if_icmp .ne 7, 3, 185, 0, false) else none) else (bif Nat.beq pc 177 then some (.iload_n 1, 1, 0, 0, false) else none)))
      else
       (bif Nat.ble 175 pc then (bif Nat.ble 176 pc then (bif Nat.beq pc 176 then some (.iaload, 1, 0, 0, false) else none) else (bif Nat.beq pc 175 then some (.iload_n 1, 1, 0, 0, false) else none)) else (bif Nat.ble 172 pc then (bif Nat.beq pc 172 then some (.getfield 66, 3, 0, 0, false) else none) else (bif Nat.beq pc 171 then some (.aload_n 0, 1, 0, 0, false) else none)))))
    else
     (bif Nat.ble 154 pc then
      (bif Nat.ble 160 pc then
       (bif Nat.ble 166 pc then
        (bif Nat.ble 167 pc then (bif Nat.ble 168 pc then (bif Nat.beq pc 168 then some (.getfield 173, 3, 0, 0, false) else none) else (bif Nat.beq pc 167 then some (.dup, 1, 0, 0, false) else none)) else (bif Nat.beq pc 166 then some (.aload_n 0, 1, 0, 0, false) else none))
       else
        (bif Nat.ble 163 pc then (bif Nat.beq pc 163 then some (.if_icmp .ge 40, 3, 203, 0, false) else none) else (bif Nat.beq pc 160 then some (.sipush 144, 3, 0, 144, false) else none)))
      else
       (bif Nat.ble 158 pc then (bif Nat.ble 159 pc then (bif Nat.beq pc 159 then some (.iload_n 1, 1, 0, 0, true) else none) else (bif Nat.beq pc 158 then some (.istore_n 1, 1, 0, 0, false) else none)) else (bif Nat.ble 157 pc then (bif Nat.beq pc 157 then some (.iconst 0, 1, 0, 0, false) else none) else (bif Nat.beq pc 154 then some (.putfield 173, 3, 0, 0, false) else none))))
     else
      (bif Nat.ble 143 pc then
       (bif Nat.ble 149 pc then
        (bif Nat.ble 152 pc then (bif Nat.ble 153 pc then (bif Nat.beq pc 153 then some (.iconst 0, 1, 0, 0, false) else none) else (bif Nat.beq pc 152 then some (.aload_n 0, 1, 0, 0, false) else none)) else (bif Nat.beq pc 149 then some (.goto (-111), 3, 38, 0, false) else none))
       else
        (bif Nat.ble 146 pc then (bif Nat.beq pc 146 then some (.iinc 1 1, 3, 0, 1, false) else none) else (bif Nat.beq pc 143 then some (.goto 9, 3, 152, 0, false) else none)))
      else
       (bif Nat.ble 139 pc then (bif Nat.ble 140 pc then (bif Nat.beq pc 140 then some (.ifCond .ne 6, 3, 146, 0, false) else none) else (bif Nat.beq pc 139 then some (.iload_n 2, 1, 0, 0, false) else none)) else (bif Nat.ble 136 pc then (bif Nat.beq pc 136 then some (.goto (-87), 3, 49, 0, false) else none) else (bif Nat.beq pc 133 then some (.iinc 3 1, 3, 0, 1, false) else none)))))))
  else
   (bif Nat.ble 64 pc then
    (bif Nat.ble 100 pc then
     (bif Nat.ble 116 pc then
      (bif Nat.ble 124 pc then
       (bif Nat.ble 126 pc then
        (bif Nat.ble 127 pc then (bif Nat.ble 130 pc then (bif Nat.beq pc 130 then some (.goto (-71), 3, 59, 0, false) else none) else (bif Nat.beq pc 127 then some (.iinc 4 1, 3, 0, 1, false) else none)) else (bif Nat.beq pc 126 then some (.istore_n 2, 1, 0, 0, false) else none))
       else
        (bif Nat.ble 125 pc then (bif Nat.beq pc 125 then some (.iconst 1, 1, 0, 1, false) else none) else (bif Nat.beq pc 124 then some (.iastore, 1, 0, 0, false) else none)))
      else
       (bif Nat.ble 118 pc then
        (bif Nat.ble 121 pc then (bif Nat.ble 123 pc then (bif Nat.beq pc 123 then some (.iaload, 1, 0, 0, false) else none) else (bif Nat.beq pc 121 then some (.iload 4, 2, 0, 0, false) else none)) else (bif Nat.beq pc 118 then some (.getfield 66, 3, 0, 0, false) else none))
       else
        (bif Nat.ble 117 pc then (bif Nat.beq pc 117 then some (.aload_n 0, 1, 0, 0, false) else none) else (bif Nat.beq pc 116 then some (.iload_n 3, 1, 0, 0, false) else none))))
     else
      (bif Nat.ble 107 pc then
       (bif Nat.ble 109 pc then
        (bif Nat.ble 112 pc then (bif Nat.ble 113 pc then (bif Nat.beq pc 113 then some (.getfield 66, 3, 0, 0, false) else none) else (bif Nat.beq pc 112 then some (.aload_n 0, 1, 0, 0, false) else none)) else (bif Nat.beq pc 109 then some (.if_icmp .ge 18, 3, 127, 0, false) else none))
       else
        (bif Nat.ble 108 pc then (bif Nat.beq pc 108 then some (.iaload, 1, 0, 0, false) else none) else (bif Nat.beq pc 107 then some (.iload_n 3, 1, 0, 0, false) else none)))
      else
       (bif Nat.ble 103 pc then (bif Nat.ble 104 pc then (bif Nat.beq pc 104 then some (.getfield 66, 3, 0, 0, false) else none) else (bif Nat.beq pc 103 then some (.aload_n 0, 1, 0, 0, false) else none)) else (bif Nat.ble 102 pc then (bif Nat.beq pc 102 then some (.iaload, 1, 0, 0, false) else none) else (bif Nat.beq pc 100 then some (.iload 4, 2, 0, 0, false) else none)))))
    else
     (bif Nat.ble 82 pc then
      (bif Nat.ble 89 pc then
       (bif Nat.ble 93 pc then
        (bif Nat.ble 96 pc then (bif Nat.ble 97 pc then (bif Nat.beq pc 97 then some (.getfield 66, 3, 0, 0, false) else none) else (bif Nat.beq pc 96 then some (.aload_n 0, 1, 0, 0, false) else none)) else (bif Nat.beq pc 93 then some (.if_icmp .ne 34, 3, 127, 0, false) else none))
       else
        (bif Nat.ble 92 pc then (bif Nat.beq pc 92 then some (.iconst 1, 1, 0, 1, false) else none) else (bif Nat.beq pc 89 then some (.invokestatic 170, 3, 0, 0, false) else none)))
      else
       (bif Nat.ble 86 pc then (bif Nat.ble 87 pc then (bif Nat.beq pc 87 then some (.iload 4, 2, 0, 0, false) else none) else (bif Nat.beq pc 86 then some (.iload_n 3, 1, 0, 0, false) else none)) else (bif Nat.ble 83 pc then (bif Nat.beq pc 83 then some (.ifCond .lt 44, 3, 127, 0, false) else none) else (bif Nat.beq pc 82 then some (.iaload, 1, 0, 0, false) else none))))
     else
      (bif Nat.ble 72 pc then
       (bif Nat.ble 76 pc then
        (bif Nat.ble 77 pc then (bif Nat.ble 80 pc then (bif Nat.beq pc 80 then some (.iload 4, 2, 0, 0, false) else none) else (bif Nat.beq pc 77 then some (.getfield 66, 3, 0, 0, false) else none)) else (bif Nat.beq pc 76 then some (.aload_n 0, 1, 0, 0, false) else none))
       else
        (bif Nat.ble 73 pc then (bif Nat.beq pc 73 then some (.ifCond .lt 60, 3, 133, 0, false) else none) else (bif Nat.beq pc 72 then some (.iaload, 1, 0, 0, false) else none)))
      else
       (bif Nat.ble 68 pc then (bif Nat.ble 71 pc then (bif Nat.beq pc 71 then some (.iload_n 3, 1, 0, 0, false) else none) else (bif Nat.beq pc 68 then some (.getfield 66, 3, 0, 0, false) else none)) else (bif Nat.ble 67 pc then (bif Nat.beq pc 67 then some (.aload_n 0, 1, 0, 0, false) else none) else (bif Nat.beq pc 64 then some (.if_icmp .ge 69, 3, 133, 0, false) else none))))))
   else
    (bif Nat.ble 30 pc then
     (bif Nat.ble 47 pc then
      (bif Nat.ble 53 pc then
       (bif Nat.ble 57 pc then
        (bif Nat.ble 59 pc then (bif Nat.ble 61 pc then (bif Nat.beq pc 61 then some (.sipush 144, 3, 0, 144, false) else none) else (bif Nat.beq pc 59 then some (.iload 4, 2, 0, 0, true) else none)) else (bif Nat.beq pc 57 then some (.istore 4, 2, 0, 0, false) else none))
       else
        (bif Nat.ble 56 pc then (bif Nat.beq pc 56 then some (.iconst 0, 1, 0, 0, false) else none) else (bif Nat.beq pc 53 then some (.if_icmp .ge 86, 3, 139, 0, false) else none)))
      else
       (bif Nat.ble 49 pc then (bif Nat.ble 50 pc then (bif Nat.beq pc 50 then some (.sipush 144, 3, 0, 144, false) else none) else (bif Nat.beq pc 49 then some (.iload_n 3, 1, 0, 0, true) else none)) else (bif Nat.ble 48 pc then (bif Nat.beq pc 48 then some (.istore_n 3, 1, 0, 0, false) else none) else (bif Nat.beq pc 47 then some (.iconst 0, 1, 0, 0, false) else none))))
     else
      (bif Nat.ble 38 pc then
       (bif Nat.ble 42 pc then
        (bif Nat.ble 45 pc then (bif Nat.ble 46 pc then (bif Nat.beq pc 46 then some (.istore_n 2, 1, 0, 0, false) else none) else (bif Nat.beq pc 45 then some (.iconst 0, 1, 0, 0, false) else none)) else (bif Nat.beq pc 42 then some (.if_icmp .ge 110, 3, 152, 0, false) else none))
       else
        (bif Nat.ble 39 pc then (bif Nat.beq pc 39 then some (.sipush 144, 3, 0, 144, false) else none) else (bif Nat.beq pc 38 then some (.iload_n 1, 1, 0, 0, true) else none)))
      else
       (bif Nat.ble 36 pc then (bif Nat.ble 37 pc then (bif Nat.beq pc 37 then some (.istore_n 1, 1, 0, 0, false) else none) else (bif Nat.beq pc 36 then some (.iconst 0, 1, 0, 0, false) else none)) else (bif Nat.ble 33 pc then (bif Nat.beq pc 33 then some (.goto (-31), 3, 2, 0, false) else none) else (bif Nat.beq pc 30 then some (.iinc 1 1, 3, 0, 1, false) else none)))))
    else
     (bif Nat.ble 15 pc then
      (bif Nat.ble 21 pc then
       (bif Nat.ble 25 pc then
        (bif Nat.ble 28 pc then (bif Nat.ble 29 pc then (bif Nat.beq pc 29 then some (.iastore, 1, 0, 0, false) else none) else (bif Nat.beq pc 28 then some (.iconst (-1), 1, 0, -1, false) else none)) else (bif Nat.beq pc 25 then some (.goto 4, 3, 29, 0, false) else none))
       else
        (bif Nat.ble 24 pc then (bif Nat.beq pc 24 then some (.iload_n 1, 1, 0, 0, false) else none) else (bif Nat.beq pc 21 then some (.if_icmp .ne 7, 3, 28, 0, false) else none)))
      else
       (bif Nat.ble 19 pc then (bif Nat.ble 20 pc then (bif Nat.beq pc 20 then some (.iconst 2, 1, 0, 2, false) else none) else (bif Nat.beq pc 19 then some (.iaload, 1, 0, 0, false) else none)) else (bif Nat.ble 18 pc then (bif Nat.beq pc 18 then some (.iload_n 1, 1, 0, 0, false) else none) else (bif Nat.beq pc 15 then some (.getfield 63, 3, 0, 0, false) else none))))
     else
      (bif Nat.ble 6 pc then
       (bif Nat.ble 10 pc then
        (bif Nat.ble 13 pc then (bif Nat.ble 14 pc then (bif Nat.beq pc 14 then some (.aload_n 0, 1, 0, 0, false) else none) else (bif Nat.beq pc 13 then some (.iload_n 1, 1, 0, 0, false) else none)) else (bif Nat.beq pc 10 then some (.getfield 66, 3, 0, 0, false) else none))
       else
        (bif Nat.ble 9 pc then (bif Nat.beq pc 9 then some (.aload_n 0, 1, 0, 0, false) else none) else (bif Nat.beq pc 6 then some (.if_icmp .ge 30, 3, 36, 0, false) else none)))
      else
       (bif Nat.ble 2 pc then (bif Nat.ble 3 pc then (bif Nat.beq pc 3 then some (.sipush 144, 3, 0, 144, false) else none) else (bif Nat.beq pc 2 then some (.iload_n 1, 1, 0, 0, true) else none)) else (bif Nat.ble 1 pc then (bif Nat.beq pc 1 then some (.istore_n 1, 1, 0, 0, false) else none) else (bif Nat.beq pc 0 then some (.iconst 0, 1, 0, 0, false) else none))))))))
def qX8_nearest (pc : Nat) : Option mIn :=
  (bif Nat.ble 21 pc then
   (bif Nat.ble 34 pc then
    (bif Nat.ble 39 pc then
     (bif Nat.ble 45 pc then (bif Nat.ble 46 pc then (bif Nat.beq pc 46 then some (.ireturn, 1, 0, 0, false) else none) else (bif Nat.beq pc 45 then some (.iload_n 2, 1, 0, 0, false) else none)) else (bif Nat.ble 42 pc then (bif Nat.beq pc 42 then some (.goto (-38), 3, 4, 0, false) else none) else (bif Nat.beq pc 39 then some (.iinc 3 1, 3, 0, 1, false) else none)))
    else
     (bif Nat.ble 37 pc then (bif Nat.ble 38 pc then (bif Nat.beq pc 38 then some (.istore_n 2, 1, 0, 0, false) else none) else (bif Nat.beq pc 37 then some (.iload_n 3, 1, 0, 0, false) else none)) else (bif Nat.beq pc 34 then some (.if_icmp .ge 5, 3, 39, 0, false) else none)))
   else
    (bif Nat.ble 26 pc then
     (bif Nat.ble 30 pc then (bif Nat.ble 31 pc then (bif Nat.beq pc 31 then some (.invokestatic 170, 3, 0, 0, false) else none) else (bif Nat.beq pc 30 then some (.iload_n 2, 1, 0, 0, false) else none)) else (bif Nat.ble 29 pc then (bif Nat.beq pc 29 then some (.iload_n 1, 1, 0, 0, false) else none) else (bif Nat.beq pc 26 then some (.invokestatic 170, 3, 0, 0, false) else none)))
    else
     (bif Nat.ble 24 pc then (bif Nat.ble 25 pc then (bif Nat.beq pc 25 then some (.iload_n 3, 1, 0, 0, false) else none) else (bif Nat.beq pc 24 then some (.iload_n 1, 1, 0, 0, false) else none)) else (bif Nat.beq pc 21 then some (.ifCond .lt 16, 3, 37, 0, false) else none))))
  else
   (bif Nat.ble 8 pc then
    (bif Nat.ble 15 pc then
     (bif Nat.ble 17 pc then (bif Nat.ble 20 pc then (bif Nat.beq pc 20 then some (.iload_n 2, 1, 0, 0, false) else none) else (bif Nat.beq pc 17 then some (.ifCond .ne 22, 3, 39, 0, false) else none)) else (bif Nat.ble 16 pc then (bif Nat.beq pc 16 then some (.iaload, 1, 0, 0, false) else none) else (bif Nat.beq pc 15 then some (.iload_n 3, 1, 0, 0, false) else none)))
    else
     (bif Nat.ble 11 pc then (bif Nat.ble 12 pc then (bif Nat.beq pc 12 then some (.getfield 63, 3, 0, 0, false) else none) else (bif Nat.beq pc 11 then some (.aload_n 0, 1, 0, 0, false) else none)) else (bif Nat.beq pc 8 then some (.if_icmp .ge 37, 3, 45, 0, false) else none)))
   else
    (bif Nat.ble 3 pc then
     (bif Nat.ble 4 pc then (bif Nat.ble 5 pc then (bif Nat.beq pc 5 then some (.sipush 144, 3, 0, 144, false) else none) else (bif Nat.beq pc 4 then some (.iload_n 3, 1, 0, 0, true) else none)) else (bif Nat.beq pc 3 then some (.istore_n 3, 1, 0, 0, false) else none))
    else
     (bif Nat.ble 1 pc then (bif Nat.ble 2 pc then (bif Nat.beq pc 2 then some (.iconst 0, 1, 0, 0, false) else none) else (bif Nat.beq pc 1 then some (.istore_n 2, 1, 0, 0, false) else none)) else (bif Nat.beq pc 0 then some (.iconst (-1), 1, 0, -1, false) else none)))))
def qX8_awayFromPart (pc : Nat) : Option mIn :=
  (bif Nat.ble 22 pc then
   (bif Nat.ble 35 pc then
    (bif Nat.ble 40 pc then
     (bif Nat.ble 46 pc then (bif Nat.ble 47 pc then (bif Nat.beq pc 47 then some (.ireturn, 1, 0, 0, false) else none) else (bif Nat.beq pc 46 then some (.iload_n 3, 1, 0, 0, false) else none)) else (bif Nat.ble 43 pc then (bif Nat.beq pc 43 then some (.goto (-37), 3, 6, 0, false) else none) else (bif Nat.beq pc 40 then some (.iinc 4 1, 3, 0, 1, false) else none)))
    else
     (bif Nat.ble 38 pc then (bif Nat.ble 39 pc then (bif Nat.beq pc 39 then some (.istore_n 3, 1, 0, 0, false) else none) else (bif Nat.beq pc 38 then some (.iload_n 3, 1, 0, 0, false) else none)) else (bif Nat.beq pc 35 then some (.goto 4, 3, 39, 0, false) else none)))
   else
    (bif Nat.ble 28 pc then
     (bif Nat.ble 29 pc then (bif Nat.ble 32 pc then (bif Nat.beq pc 32 then some (.invokestatic 113, 3, 0, 0, false) else none) else (bif Nat.beq pc 29 then some (.invokestatic 170, 3, 0, 0, false) else none)) else (bif Nat.beq pc 28 then some (.iload_n 2, 1, 0, 0, false) else none))
    else
     (bif Nat.ble 25 pc then (bif Nat.ble 26 pc then (bif Nat.beq pc 26 then some (.iload 4, 2, 0, 0, false) else none) else (bif Nat.beq pc 25 then some (.iload_n 3, 1, 0, 0, false) else none)) else (bif Nat.beq pc 22 then some (.if_icmp .ne 16, 3, 38, 0, false) else none))))
  else
   (bif Nat.ble 11 pc then
    (bif Nat.ble 18 pc then
     (bif Nat.ble 20 pc then (bif Nat.ble 21 pc then (bif Nat.beq pc 21 then some (.iload_n 1, 1, 0, 0, false) else none) else (bif Nat.beq pc 20 then some (.iaload, 1, 0, 0, false) else none)) else (bif Nat.beq pc 18 then some (.iload 4, 2, 0, 0, false) else none))
    else
     (bif Nat.ble 14 pc then (bif Nat.ble 15 pc then (bif Nat.beq pc 15 then some (.getfield 66, 3, 0, 0, false) else none) else (bif Nat.beq pc 14 then some (.aload_n 0, 1, 0, 0, false) else none)) else (bif Nat.beq pc 11 then some (.if_icmp .ge 35, 3, 46, 0, false) else none)))
   else
    (bif Nat.ble 4 pc then
     (bif Nat.ble 6 pc then (bif Nat.ble 8 pc then (bif Nat.beq pc 8 then some (.sipush 144, 3, 0, 144, false) else none) else (bif Nat.beq pc 6 then some (.iload 4, 2, 0, 0, true) else none)) else (bif Nat.beq pc 4 then some (.istore 4, 2, 0, 0, false) else none))
    else
     (bif Nat.ble 2 pc then (bif Nat.ble 3 pc then (bif Nat.beq pc 3 then some (.iconst 0, 1, 0, 0, false) else none) else (bif Nat.beq pc 2 then some (.istore_n 3, 1, 0, 0, false) else none)) else (bif Nat.beq pc 0 then some (.bipush 24, 2, 0, 24, false) else none)))))
def qX8_nearestToPart (pc : Nat) : Option mIn :=
  (bif Nat.ble 29 pc then
   (bif Nat.ble 44 pc then
    (bif Nat.ble 52 pc then
     (bif Nat.ble 56 pc then
      (bif Nat.ble 59 pc then (bif Nat.ble 60 pc then (bif Nat.beq pc 60 then some (.ireturn, 1, 0, 0, false) else none) else (bif Nat.beq pc 59 then some (.iload_n 2, 1, 0, 0, false) else none)) else (bif Nat.beq pc 56 then some (.goto (-49), 3, 7, 0, false) else none))
     else
      (bif Nat.ble 53 pc then (bif Nat.beq pc 53 then some (.iinc 4 1, 3, 0, 1, false) else none) else (bif Nat.beq pc 52 then some (.istore_n 3, 1, 0, 0, false) else none)))
    else
     (bif Nat.ble 49 pc then (bif Nat.ble 50 pc then (bif Nat.beq pc 50 then some (.iload 5, 2, 0, 0, false) else none) else (bif Nat.beq pc 49 then some (.istore_n 2, 1, 0, 0, false) else none)) else (bif Nat.ble 47 pc then (bif Nat.beq pc 47 then some (.iload 4, 2, 0, 0, false) else none) else (bif Nat.beq pc 44 then some (.if_icmp .ge 9, 3, 53, 0, false) else none))))
   else
    (bif Nat.ble 37 pc then
     (bif Nat.ble 41 pc then (bif Nat.ble 43 pc then (bif Nat.beq pc 43 then some (.iload_n 3, 1, 0, 0, false) else none) else (bif Nat.beq pc 41 then some (.iload 5, 2, 0, 0, false) else none)) else (bif Nat.ble 38 pc then (bif Nat.beq pc 38 then some (.ifCond .lt 9, 3, 47, 0, false) else none) else (bif Nat.beq pc 37 then some (.iload_n 2, 1, 0, 0, false) else none)))
    else
     (bif Nat.ble 32 pc then (bif Nat.ble 35 pc then (bif Nat.beq pc 35 then some (.istore 5, 2, 0, 0, false) else none) else (bif Nat.beq pc 32 then some (.invokevirtual 176, 3, 0, 0, false) else none)) else (bif Nat.ble 30 pc then (bif Nat.beq pc 30 then some (.iload 4, 2, 0, 0, false) else none) else (bif Nat.beq pc 29 then some (.iload_n 1, 1, 0, 0, false) else none)))))
  else
   (bif Nat.ble 12 pc then
    (bif Nat.ble 21 pc then
     (bif Nat.ble 25 pc then (bif Nat.ble 28 pc then (bif Nat.beq pc 28 then some (.aload_n 0, 1, 0, 0, false) else none) else (bif Nat.beq pc 25 then some (.goto 28, 3, 53, 0, false) else none)) else (bif Nat.ble 22 pc then (bif Nat.beq pc 22 then some (.ifCond .eq 6, 3, 28, 0, false) else none) else (bif Nat.beq pc 21 then some (.iaload, 1, 0, 0, false) else none)))
    else
     (bif Nat.ble 16 pc then (bif Nat.ble 19 pc then (bif Nat.beq pc 19 then some (.iload 4, 2, 0, 0, false) else none) else (bif Nat.beq pc 16 then some (.getfield 63, 3, 0, 0, false) else none)) else (bif Nat.ble 15 pc then (bif Nat.beq pc 15 then some (.aload_n 0, 1, 0, 0, false) else none) else (bif Nat.beq pc 12 then some (.if_icmp .ge 47, 3, 59, 0, false) else none))))
   else
    (bif Nat.ble 4 pc then
     (bif Nat.ble 7 pc then (bif Nat.ble 9 pc then (bif Nat.beq pc 9 then some (.sipush 144, 3, 0, 144, false) else none) else (bif Nat.beq pc 7 then some (.iload 4, 2, 0, 0, true) else none)) else (bif Nat.ble 5 pc then (bif Nat.beq pc 5 then some (.istore 4, 2, 0, 0, false) else none) else (bif Nat.beq pc 4 then some (.iconst 0, 1, 0, 0, false) else none)))
    else
     (bif Nat.ble 2 pc then (bif Nat.ble 3 pc then (bif Nat.beq pc 3 then some (.istore_n 3, 1, 0, 0, false) else none) else (bif Nat.beq pc 2 then some (.iconst 0, 1, 0, 0, false) else none)) else (bif Nat.ble 1 pc then (bif Nat.beq pc 1 then some (.istore_n 2, 1, 0, 0, false) else none) else (bif Nat.beq pc 0 then some (.iconst (-1), 1, 0, -1, false) else none))))))
def qX8_lawIn (pc : Nat) : Option mIn :=
  (bif Nat.ble 24 pc then
   (bif Nat.ble 38 pc then
    (bif Nat.ble 44 pc then
     (bif Nat.ble 50 pc then (bif Nat.ble 51 pc then (bif Nat.beq pc 51 then some (.ireturn, 1, 0, 0, false) else none) else (bif Nat.beq pc 50 then some (.iload_n 2, 1, 0, 0, false) else none)) else (bif Nat.ble 47 pc then (bif Nat.beq pc 47 then some (.goto (-38), 3, 9, 0, false) else none) else (bif Nat.beq pc 44 then some (.iinc 3 (-1), 3, 0, -1, false) else none)))
    else
     (bif Nat.ble 42 pc then (bif Nat.ble 43 pc then (bif Nat.beq pc 43 then some (.istore_n 2, 1, 0, 0, false) else none) else (bif Nat.beq pc 42 then some (.iload_n 3, 1, 0, 0, false) else none)) else (bif Nat.ble 39 pc then (bif Nat.beq pc 39 then some (.if_icmp .le 5, 3, 44, 0, false) else none) else (bif Nat.beq pc 38 then some (.iaload, 1, 0, 0, false) else none))))
   else
    (bif Nat.ble 32 pc then
     (bif Nat.ble 34 pc then (bif Nat.ble 37 pc then (bif Nat.beq pc 37 then some (.iload_n 2, 1, 0, 0, false) else none) else (bif Nat.beq pc 34 then some (.getfield 45, 3, 0, 0, false) else none)) else (bif Nat.ble 33 pc then (bif Nat.beq pc 33 then some (.aload_n 0, 1, 0, 0, false) else none) else (bif Nat.beq pc 32 then some (.iaload, 1, 0, 0, false) else none)))
    else
     (bif Nat.ble 28 pc then (bif Nat.ble 31 pc then (bif Nat.beq pc 31 then some (.iload_n 3, 1, 0, 0, false) else none) else (bif Nat.beq pc 28 then some (.getfield 45, 3, 0, 0, false) else none)) else (bif Nat.ble 27 pc then (bif Nat.beq pc 27 then some (.aload_n 0, 1, 0, 0, false) else none) else (bif Nat.beq pc 24 then some (.ifCond .lt 18, 3, 42, 0, false) else none)))))
  else
   (bif Nat.ble 10 pc then
    (bif Nat.ble 18 pc then
     (bif Nat.ble 20 pc then (bif Nat.ble 23 pc then (bif Nat.beq pc 23 then some (.iload_n 2, 1, 0, 0, false) else none) else (bif Nat.beq pc 20 then some (.if_icmp .gt 24, 3, 44, 0, false) else none)) else (bif Nat.ble 19 pc then (bif Nat.beq pc 19 then some (.iload_n 1, 1, 0, 0, false) else none) else (bif Nat.beq pc 18 then some (.iaload, 1, 0, 0, false) else none)))
    else
     (bif Nat.ble 14 pc then (bif Nat.ble 17 pc then (bif Nat.beq pc 17 then some (.iload_n 3, 1, 0, 0, false) else none) else (bif Nat.beq pc 14 then some (.getfield 45, 3, 0, 0, false) else none)) else (bif Nat.ble 13 pc then (bif Nat.beq pc 13 then some (.aload_n 0, 1, 0, 0, false) else none) else (bif Nat.beq pc 10 then some (.ifCond .lt 40, 3, 50, 0, false) else none))))
   else
    (bif Nat.ble 6 pc then
     (bif Nat.ble 8 pc then (bif Nat.ble 9 pc then (bif Nat.beq pc 9 then some (.iload_n 3, 1, 0, 0, true) else none) else (bif Nat.beq pc 8 then some (.istore_n 3, 1, 0, 0, false) else none)) else (bif Nat.ble 7 pc then (bif Nat.beq pc 7 then some (.isub, 1, 0, 0, false) else none) else (bif Nat.beq pc 6 then some (.iconst 1, 1, 0, 1, false) else none)))
    else
     (bif Nat.ble 2 pc then (bif Nat.ble 3 pc then (bif Nat.beq pc 3 then some (.getfield 138, 3, 0, 0, false) else none) else (bif Nat.beq pc 2 then some (.aload_n 0, 1, 0, 0, false) else none)) else (bif Nat.ble 1 pc then (bif Nat.beq pc 1 then some (.istore_n 2, 1, 0, 0, false) else none) else (bif Nat.beq pc 0 then some (.iconst (-1), 1, 0, -1, false) else none))))))
def qX8_steps (pc : Nat) : Option mIn :=
  (bif Nat.ble 157 pc then
   (bif Nat.ble 247 pc then
    (bif Nat.ble 289 pc then
     (bif Nat.ble 313 pc then
      (bif Nat.ble 323 pc then
       (bif Nat.ble 327 pc then
        (bif Nat.ble 330 pc then (bif Nat.ble 333 pc then (bif Nat.beq pc 333 then some (.return_, 1, 0, 0, false) else none) else (bif Nat.beq pc 330 then some (.goto (-25), 3, 305, 0, false) else none)) else (bif Nat.beq pc 327 then some (.iinc 7 1, 3, 0, 1, false) else none))
       else
        (bif Nat.ble 325 pc then (bif Nat.ble 326 pc then (bif Nat.beq pc 326 then some (.iastore, 1, 0, 0, false) else none) else (bif Nat.beq pc 325 then some (.iaload, 1, 0, 0, false) else none)) else (bif Nat.beq pc 323 then some (.iload 7, 2, 0, 0, false) else none)))
      else
       (bif Nat.ble 317 pc then
        (bif Nat.ble 319 pc then (bif Nat.ble 320 pc then (bif Nat.beq pc 320 then some (.getfield 75, 3, 0, 0, false) else none) else (bif Nat.beq pc 319 then some (.aload_n 0, 1, 0, 0, false) else none)) else (bif Nat.beq pc 317 then some (.iload 7, 2, 0, 0, false) else none))
       else
        (bif Nat.ble 314 pc then (bif Nat.beq pc 314 then some (.getfield 72, 3, 0, 0, false) else none) else (bif Nat.beq pc 313 then some (.aload_n 0, 1, 0, 0, false) else none))))
     else
      (bif Nat.ble 299 pc then
       (bif Nat.ble 305 pc then
        (bif Nat.ble 307 pc then (bif Nat.ble 310 pc then (bif Nat.beq pc 310 then some (.if_icmp .ge 23, 3, 333, 0, false) else none) else (bif Nat.beq pc 307 then some (.sipush 144, 3, 0, 144, false) else none)) else (bif Nat.beq pc 305 then some (.iload 7, 2, 0, 0, true) else none))
       else
        (bif Nat.ble 302 pc then (bif Nat.ble 303 pc then (bif Nat.beq pc 303 then some (.istore 7, 2, 0, 0, false) else none) else (bif Nat.beq pc 302 then some (.iconst 0, 1, 0, 0, false) else none)) else (bif Nat.beq pc 299 then some (.goto (-199), 3, 100, 0, false) else none)))
      else
       (bif Nat.ble 294 pc then
        (bif Nat.ble 295 pc then (bif Nat.ble 296 pc then (bif Nat.beq pc 296 then some (.iinc 7 1, 3, 0, 1, false) else none) else (bif Nat.beq pc 295 then some (.iastore, 1, 0, 0, false) else none)) else (bif Nat.beq pc 294 then some (.iaload, 1, 0, 0, false) else none))
       else
        (bif Nat.ble 292 pc then (bif Nat.beq pc 292 then some (.iload 7, 2, 0, 0, false) else none) else (bif Nat.beq pc 289 then some (.getfield 72, 3, 0, 0, false) else none)))))
    else
     (bif Nat.ble 268 pc then
      (bif Nat.ble 278 pc then
       (bif Nat.ble 284 pc then
        (bif Nat.ble 285 pc then (bif Nat.ble 288 pc then (bif Nat.beq pc 288 then some (.aload_n 0, 1, 0, 0, false) else none) else (bif Nat.beq pc 285 then some (.goto 10, 3, 295, 0, false) else none)) else (bif Nat.beq pc 284 then some (.iconst (-1), 1, 0, -1, false) else none))
       else
        (bif Nat.ble 280 pc then (bif Nat.ble 281 pc then (bif Nat.beq pc 281 then some (.if_icmp .ne 7, 3, 288, 0, false) else none) else (bif Nat.beq pc 280 then some (.iconst 1, 1, 0, 1, false) else none)) else (bif Nat.beq pc 278 then some (.iload 6, 2, 0, 0, false) else none)))
      else
       (bif Nat.ble 272 pc then
        (bif Nat.ble 273 pc then (bif Nat.ble 276 pc then (bif Nat.beq pc 276 then some (.iload 7, 2, 0, 0, false) else none) else (bif Nat.beq pc 273 then some (.getfield 75, 3, 0, 0, false) else none)) else (bif Nat.beq pc 272 then some (.aload_n 0, 1, 0, 0, false) else none))
       else
        (bif Nat.ble 269 pc then (bif Nat.beq pc 269 then some (.goto 27, 3, 296, 0, false) else none) else (bif Nat.beq pc 268 then some (.iastore, 1, 0, 0, false) else none))))
     else
      (bif Nat.ble 257 pc then
       (bif Nat.ble 264 pc then
        (bif Nat.ble 266 pc then (bif Nat.ble 267 pc then (bif Nat.beq pc 267 then some (.iaload, 1, 0, 0, false) else none) else (bif Nat.beq pc 266 then some (.iaload, 1, 0, 0, false) else none)) else (bif Nat.beq pc 264 then some (.iload 7, 2, 0, 0, false) else none))
       else
        (bif Nat.ble 260 pc then (bif Nat.ble 261 pc then (bif Nat.beq pc 261 then some (.getfield 66, 3, 0, 0, false) else none) else (bif Nat.beq pc 260 then some (.aload_n 0, 1, 0, 0, false) else none)) else (bif Nat.beq pc 257 then some (.getfield 75, 3, 0, 0, false) else none)))
      else
       (bif Nat.ble 252 pc then
        (bif Nat.ble 253 pc then (bif Nat.ble 256 pc then (bif Nat.beq pc 256 then some (.aload_n 0, 1, 0, 0, false) else none) else (bif Nat.beq pc 253 then some (.goto 15, 3, 268, 0, false) else none)) else (bif Nat.beq pc 252 then some (.iconst (-1), 1, 0, -1, false) else none))
       else
        (bif Nat.ble 249 pc then (bif Nat.beq pc 249 then some (.if_icmp .ne 7, 3, 256, 0, false) else none) else (bif Nat.beq pc 247 then some (.iload 7, 2, 0, 0, false) else none))))))
   else
    (bif Nat.ble 202 pc then
     (bif Nat.ble 225 pc then
      (bif Nat.ble 235 pc then
       (bif Nat.ble 241 pc then
        (bif Nat.ble 244 pc then (bif Nat.ble 246 pc then (bif Nat.beq pc 246 then some (.iaload, 1, 0, 0, false) else none) else (bif Nat.beq pc 244 then some (.iload 7, 2, 0, 0, false) else none)) else (bif Nat.beq pc 241 then some (.getfield 66, 3, 0, 0, false) else none))
       else
        (bif Nat.ble 237 pc then (bif Nat.ble 240 pc then (bif Nat.beq pc 240 then some (.aload_n 0, 1, 0, 0, false) else none) else (bif Nat.beq pc 237 then some (.ifCond .ne 15, 3, 252, 0, false) else none)) else (bif Nat.beq pc 235 then some (.iload 8, 2, 0, 0, false) else none)))
      else
       (bif Nat.ble 229 pc then
        (bif Nat.ble 231 pc then (bif Nat.ble 232 pc then (bif Nat.beq pc 232 then some (.goto 36, 3, 268, 0, false) else none) else (bif Nat.beq pc 231 then some (.iaload, 1, 0, 0, false) else none)) else (bif Nat.beq pc 229 then some (.iload 9, 2, 0, 0, false) else none))
       else
        (bif Nat.ble 226 pc then (bif Nat.beq pc 226 then some (.getfield 72, 3, 0, 0, false) else none) else (bif Nat.beq pc 225 then some (.aload_n 0, 1, 0, 0, false) else none))))
     else
      (bif Nat.ble 212 pc then
       (bif Nat.ble 218 pc then
        (bif Nat.ble 220 pc then (bif Nat.ble 222 pc then (bif Nat.beq pc 222 then some (.ifCond .lt 13, 3, 235, 0, false) else none) else (bif Nat.beq pc 220 then some (.iload 9, 2, 0, 0, false) else none)) else (bif Nat.beq pc 218 then some (.iload 7, 2, 0, 0, false) else none))
       else
        (bif Nat.ble 214 pc then (bif Nat.ble 215 pc then (bif Nat.beq pc 215 then some (.getfield 75, 3, 0, 0, false) else none) else (bif Nat.beq pc 214 then some (.aload_n 0, 1, 0, 0, false) else none)) else (bif Nat.beq pc 212 then some (.istore 9, 2, 0, 0, false) else none)))
      else
       (bif Nat.ble 205 pc then
        (bif Nat.ble 208 pc then (bif Nat.ble 211 pc then (bif Nat.beq pc 211 then some (.iconst (-1), 1, 0, -1, false) else none) else (bif Nat.beq pc 208 then some (.goto 4, 3, 212, 0, false) else none)) else (bif Nat.beq pc 205 then some (.invokevirtual 195, 3, 0, 0, false) else none))
       else
        (bif Nat.ble 203 pc then (bif Nat.beq pc 203 then some (.iload 7, 2, 0, 0, false) else none) else (bif Nat.beq pc 202 then some (.aload_n 0, 1, 0, 0, false) else none)))))
    else
     (bif Nat.ble 178 pc then
      (bif Nat.ble 190 pc then
       (bif Nat.ble 196 pc then
        (bif Nat.ble 197 pc then (bif Nat.ble 199 pc then (bif Nat.beq pc 199 then some (.if_icmp .ne 12, 3, 211, 0, false) else none) else (bif Nat.beq pc 197 then some (.iload 7, 2, 0, 0, false) else none)) else (bif Nat.beq pc 196 then some (.iaload, 1, 0, 0, false) else none))
       else
        (bif Nat.ble 191 pc then (bif Nat.ble 194 pc then (bif Nat.beq pc 194 then some (.iload 7, 2, 0, 0, false) else none) else (bif Nat.beq pc 191 then some (.getfield 66, 3, 0, 0, false) else none)) else (bif Nat.beq pc 190 then some (.aload_n 0, 1, 0, 0, false) else none)))
      else
       (bif Nat.ble 182 pc then
        (bif Nat.ble 184 pc then (bif Nat.ble 187 pc then (bif Nat.beq pc 187 then some (.goto 25, 3, 212, 0, false) else none) else (bif Nat.beq pc 184 then some (.invokevirtual 192, 3, 0, 0, false) else none)) else (bif Nat.beq pc 182 then some (.iload 7, 2, 0, 0, false) else none))
       else
        (bif Nat.ble 181 pc then (bif Nat.beq pc 181 then some (.aload_n 0, 1, 0, 0, false) else none) else (bif Nat.beq pc 178 then some (.ifCond .eq 12, 3, 190, 0, false) else none))))
     else
      (bif Nat.ble 166 pc then
       (bif Nat.ble 171 pc then
        (bif Nat.ble 173 pc then (bif Nat.ble 176 pc then (bif Nat.beq pc 176 then some (.iload 8, 2, 0, 0, false) else none) else (bif Nat.beq pc 173 then some (.ifCond .ne 99, 3, 272, 0, false) else none)) else (bif Nat.beq pc 171 then some (.iload 6, 2, 0, 0, false) else none))
       else
        (bif Nat.ble 168 pc then (bif Nat.beq pc 168 then some (.ifCond .ne 8, 3, 176, 0, false) else none) else (bif Nat.beq pc 166 then some (.iload 8, 2, 0, 0, false) else none)))
      else
       (bif Nat.ble 162 pc then
        (bif Nat.ble 163 pc then (bif Nat.ble 164 pc then (bif Nat.beq pc 164 then some (.istore 8, 2, 0, 0, false) else none) else (bif Nat.beq pc 163 then some (.baload, 1, 0, 0, false) else none)) else (bif Nat.beq pc 162 then some (.iaload, 1, 0, 0, false) else none))
       else
        (bif Nat.ble 160 pc then (bif Nat.beq pc 160 then some (.iload 7, 2, 0, 0, false) else none) else (bif Nat.beq pc 157 then some (.getfield 66, 3, 0, 0, false) else none)))))))
  else
   (bif Nat.ble 78 pc then
    (bif Nat.ble 120 pc then
     (bif Nat.ble 139 pc then
      (bif Nat.ble 147 pc then
       (bif Nat.ble 152 pc then
        (bif Nat.ble 153 pc then (bif Nat.ble 156 pc then (bif Nat.beq pc 156 then some (.aload_n 0, 1, 0, 0, false) else none) else (bif Nat.beq pc 153 then some (.getfield 69, 3, 0, 0, false) else none)) else (bif Nat.beq pc 152 then some (.aload_n 0, 1, 0, 0, false) else none))
       else
        (bif Nat.ble 148 pc then (bif Nat.ble 149 pc then (bif Nat.beq pc 149 then some (.if_icmp .ne 147, 3, 296, 0, false) else none) else (bif Nat.beq pc 148 then some (.iconst 2, 1, 0, 2, false) else none)) else (bif Nat.beq pc 147 then some (.iaload, 1, 0, 0, false) else none)))
      else
       (bif Nat.ble 141 pc then
        (bif Nat.ble 142 pc then (bif Nat.ble 145 pc then (bif Nat.beq pc 145 then some (.iload 7, 2, 0, 0, false) else none) else (bif Nat.beq pc 142 then some (.getfield 63, 3, 0, 0, false) else none)) else (bif Nat.beq pc 141 then some (.aload_n 0, 1, 0, 0, false) else none))
       else
        (bif Nat.ble 140 pc then (bif Nat.beq pc 140 then some (.iastore, 1, 0, 0, false) else none) else (bif Nat.beq pc 139 then some (.iconst (-1), 1, 0, -1, false) else none))))
     else
      (bif Nat.ble 128 pc then
       (bif Nat.ble 133 pc then
        (bif Nat.ble 134 pc then (bif Nat.ble 137 pc then (bif Nat.beq pc 137 then some (.iload 7, 2, 0, 0, false) else none) else (bif Nat.beq pc 134 then some (.getfield 75, 3, 0, 0, false) else none)) else (bif Nat.beq pc 133 then some (.aload_n 0, 1, 0, 0, false) else none))
       else
        (bif Nat.ble 129 pc then (bif Nat.ble 130 pc then (bif Nat.beq pc 130 then some (.if_icmp .ne 11, 3, 141, 0, false) else none) else (bif Nat.beq pc 129 then some (.iconst 1, 1, 0, 1, false) else none)) else (bif Nat.beq pc 128 then some (.iaload, 1, 0, 0, false) else none)))
      else
       (bif Nat.ble 122 pc then
        (bif Nat.ble 123 pc then (bif Nat.ble 126 pc then (bif Nat.beq pc 126 then some (.iload 7, 2, 0, 0, false) else none) else (bif Nat.beq pc 123 then some (.getfield 63, 3, 0, 0, false) else none)) else (bif Nat.beq pc 122 then some (.aload_n 0, 1, 0, 0, false) else none))
       else
        (bif Nat.ble 121 pc then (bif Nat.beq pc 121 then some (.iastore, 1, 0, 0, false) else none) else (bif Nat.beq pc 120 then some (.iaload, 1, 0, 0, false) else none)))))
    else
     (bif Nat.ble 97 pc then
      (bif Nat.ble 108 pc then
       (bif Nat.ble 114 pc then
        (bif Nat.ble 115 pc then (bif Nat.ble 118 pc then (bif Nat.beq pc 118 then some (.iload 7, 2, 0, 0, false) else none) else (bif Nat.beq pc 115 then some (.getfield 72, 3, 0, 0, false) else none)) else (bif Nat.beq pc 114 then some (.aload_n 0, 1, 0, 0, false) else none))
       else
        (bif Nat.ble 109 pc then (bif Nat.ble 112 pc then (bif Nat.beq pc 112 then some (.iload 7, 2, 0, 0, false) else none) else (bif Nat.beq pc 109 then some (.getfield 75, 3, 0, 0, false) else none)) else (bif Nat.beq pc 108 then some (.aload_n 0, 1, 0, 0, false) else none)))
      else
       (bif Nat.ble 100 pc then
        (bif Nat.ble 102 pc then (bif Nat.ble 105 pc then (bif Nat.beq pc 105 then some (.if_icmp .ge 197, 3, 302, 0, false) else none) else (bif Nat.beq pc 102 then some (.sipush 144, 3, 0, 144, false) else none)) else (bif Nat.beq pc 100 then some (.iload 7, 2, 0, 0, true) else none))
       else
        (bif Nat.ble 98 pc then (bif Nat.beq pc 98 then some (.istore 7, 2, 0, 0, false) else none) else (bif Nat.beq pc 97 then some (.iconst 0, 1, 0, 0, false) else none))))
     else
      (bif Nat.ble 89 pc then
       (bif Nat.ble 93 pc then
        (bif Nat.ble 94 pc then (bif Nat.ble 95 pc then (bif Nat.beq pc 95 then some (.istore 6, 2, 0, 0, false) else none) else (bif Nat.beq pc 94 then some (.iaload, 1, 0, 0, false) else none)) else (bif Nat.beq pc 93 then some (.iload_n 3, 1, 0, 0, false) else none))
       else
        (bif Nat.ble 90 pc then (bif Nat.beq pc 90 then some (.getfield 54, 3, 0, 0, false) else none) else (bif Nat.beq pc 89 then some (.aload_n 0, 1, 0, 0, false) else none)))
      else
       (bif Nat.ble 82 pc then
        (bif Nat.ble 85 pc then (bif Nat.ble 86 pc then (bif Nat.beq pc 86 then some (.goto 9, 3, 95, 0, false) else none) else (bif Nat.beq pc 85 then some (.iconst 0, 1, 0, 0, false) else none)) else (bif Nat.beq pc 82 then some (.ifCond .ge 7, 3, 89, 0, false) else none))
       else
        (bif Nat.ble 81 pc then (bif Nat.beq pc 81 then some (.iload_n 3, 1, 0, 0, false) else none) else (bif Nat.beq pc 78 then some (.invokevirtual 189, 3, 0, 0, false) else none))))))
   else
    (bif Nat.ble 36 pc then
     (bif Nat.ble 59 pc then
      (bif Nat.ble 68 pc then
       (bif Nat.ble 73 pc then
        (bif Nat.ble 76 pc then (bif Nat.ble 77 pc then (bif Nat.beq pc 77 then some (.aload_n 0, 1, 0, 0, false) else none) else (bif Nat.beq pc 76 then some (.return_, 1, 0, 0, false) else none)) else (bif Nat.beq pc 73 then some (.ifCond .ne 4, 3, 77, 0, false) else none))
       else
        (bif Nat.ble 69 pc then (bif Nat.ble 71 pc then (bif Nat.beq pc 71 then some (.iload 5, 2, 0, 0, false) else none) else (bif Nat.beq pc 69 then some (.istore 5, 2, 0, 0, false) else none)) else (bif Nat.beq pc 68 then some (.iaload, 1, 0, 0, false) else none)))
      else
       (bif Nat.ble 63 pc then
        (bif Nat.ble 64 pc then (bif Nat.ble 67 pc then (bif Nat.beq pc 67 then some (.iload_n 3, 1, 0, 0, false) else none) else (bif Nat.beq pc 64 then some (.getfield 48, 3, 0, 0, false) else none)) else (bif Nat.beq pc 63 then some (.aload_n 0, 1, 0, 0, false) else none))
       else
        (bif Nat.ble 60 pc then (bif Nat.beq pc 60 then some (.goto 9, 3, 69, 0, false) else none) else (bif Nat.beq pc 59 then some (.iaload, 1, 0, 0, false) else none))))
     else
      (bif Nat.ble 46 pc then
       (bif Nat.ble 54 pc then
        (bif Nat.ble 55 pc then (bif Nat.ble 58 pc then (bif Nat.beq pc 58 then some (.iload_n 3, 1, 0, 0, false) else none) else (bif Nat.beq pc 55 then some (.getfield 51, 3, 0, 0, false) else none)) else (bif Nat.beq pc 54 then some (.aload_n 0, 1, 0, 0, false) else none))
       else
        (bif Nat.ble 49 pc then (bif Nat.ble 51 pc then (bif Nat.beq pc 51 then some (.ifCond .eq 12, 3, 63, 0, false) else none) else (bif Nat.beq pc 49 then some (.iload 4, 2, 0, 0, false) else none)) else (bif Nat.beq pc 46 then some (.goto 23, 3, 69, 0, false) else none)))
      else
       (bif Nat.ble 41 pc then
        (bif Nat.ble 42 pc then (bif Nat.ble 45 pc then (bif Nat.beq pc 45 then some (.iconst 1, 1, 0, 1, false) else none) else (bif Nat.beq pc 42 then some (.goto 27, 3, 69, 0, false) else none)) else (bif Nat.beq pc 41 then some (.iconst 0, 1, 0, 0, false) else none))
       else
        (bif Nat.ble 38 pc then (bif Nat.beq pc 38 then some (.ifCond .eq 7, 3, 45, 0, false) else none) else (bif Nat.beq pc 36 then some (.iload 4, 2, 0, 0, false) else none)))))
    else
     (bif Nat.ble 16 pc then
      (bif Nat.ble 25 pc then
       (bif Nat.ble 30 pc then
        (bif Nat.ble 32 pc then (bif Nat.ble 33 pc then (bif Nat.beq pc 33 then some (.ifCond .ge 16, 3, 49, 0, false) else none) else (bif Nat.beq pc 32 then some (.iload_n 3, 1, 0, 0, false) else none)) else (bif Nat.beq pc 30 then some (.istore 4, 2, 0, 0, false) else none))
       else
        (bif Nat.ble 26 pc then (bif Nat.ble 29 pc then (bif Nat.beq pc 29 then some (.iconst 0, 1, 0, 0, false) else none) else (bif Nat.beq pc 26 then some (.goto 4, 3, 30, 0, false) else none)) else (bif Nat.beq pc 25 then some (.iconst 1, 1, 0, 1, false) else none)))
      else
       (bif Nat.ble 18 pc then
        (bif Nat.ble 21 pc then (bif Nat.ble 22 pc then (bif Nat.beq pc 22 then some (.if_icmp .eq 7, 3, 29, 0, false) else none) else (bif Nat.beq pc 21 then some (.iload_n 2, 1, 0, 0, false) else none)) else (bif Nat.beq pc 18 then some (.invokevirtual 186, 3, 0, 0, false) else none))
       else
        (bif Nat.ble 17 pc then (bif Nat.beq pc 17 then some (.iload_n 1, 1, 0, 0, false) else none) else (bif Nat.beq pc 16 then some (.aload_n 0, 1, 0, 0, false) else none))))
     else
      (bif Nat.ble 7 pc then
       (bif Nat.ble 11 pc then
        (bif Nat.ble 12 pc then (bif Nat.ble 15 pc then (bif Nat.beq pc 15 then some (.istore_n 3, 1, 0, 0, false) else none) else (bif Nat.beq pc 12 then some (.invokevirtual 183, 3, 0, 0, false) else none)) else (bif Nat.beq pc 11 then some (.iaload, 1, 0, 0, false) else none))
       else
        (bif Nat.ble 10 pc then (bif Nat.beq pc 10 then some (.iload_n 1, 1, 0, 0, false) else none) else (bif Nat.beq pc 7 then some (.getfield 19, 3, 0, 0, false) else none)))
      else
       (bif Nat.ble 2 pc then
        (bif Nat.ble 5 pc then (bif Nat.ble 6 pc then (bif Nat.beq pc 6 then some (.aload_n 0, 1, 0, 0, false) else none) else (bif Nat.beq pc 5 then some (.aload_n 0, 1, 0, 0, false) else none)) else (bif Nat.beq pc 2 then some (.invokevirtual 179, 3, 0, 0, false) else none))
       else
        (bif Nat.ble 1 pc then (bif Nat.beq pc 1 then some (.iload_n 1, 1, 0, 0, false) else none) else (bif Nat.beq pc 0 then some (.aload_n 0, 1, 0, 0, false) else none))))))))
def qX8_begins (pc : Nat) : Option mIn :=
  (bif Nat.ble 14 pc then
   (bif Nat.ble 20 pc then
    (bif Nat.ble 24 pc then (bif Nat.ble 27 pc then (bif Nat.beq pc 27 then some (.return_, 1, 0, 0, false) else none) else (bif Nat.beq pc 24 then some (.goto (-22), 3, 2, 0, false) else none)) else (bif Nat.ble 21 pc then (bif Nat.beq pc 21 then some (.iinc 1 1, 3, 0, 1, false) else none) else (bif Nat.beq pc 20 then some (.iastore, 1, 0, 0, false) else none)))
   else
    (bif Nat.ble 18 pc then (bif Nat.ble 19 pc then (bif Nat.beq pc 19 then some (.iaload, 1, 0, 0, false) else none) else (bif Nat.beq pc 18 then some (.iload_n 1, 1, 0, 0, false) else none)) else (bif Nat.ble 15 pc then (bif Nat.beq pc 15 then some (.getfield 27, 3, 0, 0, false) else none) else (bif Nat.beq pc 14 then some (.aload_n 0, 1, 0, 0, false) else none))))
  else
   (bif Nat.ble 6 pc then
    (bif Nat.ble 10 pc then (bif Nat.ble 13 pc then (bif Nat.beq pc 13 then some (.iload_n 1, 1, 0, 0, false) else none) else (bif Nat.beq pc 10 then some (.getfield 72, 3, 0, 0, false) else none)) else (bif Nat.ble 9 pc then (bif Nat.beq pc 9 then some (.aload_n 0, 1, 0, 0, false) else none) else (bif Nat.beq pc 6 then some (.if_icmp .ge 21, 3, 27, 0, false) else none)))
   else
    (bif Nat.ble 2 pc then (bif Nat.ble 3 pc then (bif Nat.beq pc 3 then some (.sipush 144, 3, 0, 144, false) else none) else (bif Nat.beq pc 2 then some (.iload_n 1, 1, 0, 0, true) else none)) else (bif Nat.ble 1 pc then (bif Nat.beq pc 1 then some (.istore_n 1, 1, 0, 0, false) else none) else (bif Nat.beq pc 0 then some (.iconst 0, 1, 0, 0, false) else none)))))
def qX8_stepIn (pc : Nat) : Option mIn :=
  (bif Nat.ble 15 pc then
   (bif Nat.ble 21 pc then
    (bif Nat.ble 25 pc then
     (bif Nat.ble 28 pc then (bif Nat.ble 29 pc then (bif Nat.beq pc 29 then some (.ireturn, 1, 0, 0, false) else none) else (bif Nat.beq pc 28 then some (.iconst (-1), 1, 0, -1, false) else none)) else (bif Nat.beq pc 25 then some (.goto (-23), 3, 2, 0, false) else none))
    else
     (bif Nat.ble 22 pc then (bif Nat.beq pc 22 then some (.iinc 2 1, 3, 0, 1, false) else none) else (bif Nat.beq pc 21 then some (.ireturn, 1, 0, 0, false) else none)))
   else
    (bif Nat.ble 17 pc then (bif Nat.ble 20 pc then (bif Nat.beq pc 20 then some (.iload_n 2, 1, 0, 0, false) else none) else (bif Nat.beq pc 17 then some (.if_icmp .ne 5, 3, 22, 0, false) else none)) else (bif Nat.ble 16 pc then (bif Nat.beq pc 16 then some (.iload_n 1, 1, 0, 0, false) else none) else (bif Nat.beq pc 15 then some (.iaload, 1, 0, 0, false) else none))))
  else
   (bif Nat.ble 4 pc then
    (bif Nat.ble 10 pc then
     (bif Nat.ble 11 pc then (bif Nat.ble 14 pc then (bif Nat.beq pc 14 then some (.iload_n 2, 1, 0, 0, false) else none) else (bif Nat.beq pc 11 then some (.getfield 19, 3, 0, 0, false) else none)) else (bif Nat.beq pc 10 then some (.aload_n 0, 1, 0, 0, false) else none))
    else
     (bif Nat.ble 7 pc then (bif Nat.beq pc 7 then some (.if_icmp .ge 21, 3, 28, 0, false) else none) else (bif Nat.beq pc 4 then some (.getfield 90, 3, 0, 0, false) else none)))
   else
    (bif Nat.ble 2 pc then (bif Nat.ble 3 pc then (bif Nat.beq pc 3 then some (.aload_n 0, 1, 0, 0, false) else none) else (bif Nat.beq pc 2 then some (.iload_n 2, 1, 0, 0, true) else none)) else (bif Nat.ble 1 pc then (bif Nat.beq pc 1 then some (.istore_n 2, 1, 0, 0, false) else none) else (bif Nat.beq pc 0 then some (.iconst 1, 1, 0, 1, false) else none)))))
def qX8_deedsIn (pc : Nat) : Option mIn :=
  (bif Nat.ble 63 pc then
   (bif Nat.ble 100 pc then
    (bif Nat.ble 117 pc then
     (bif Nat.ble 124 pc then
      (bif Nat.ble 130 pc then
       (bif Nat.ble 133 pc then (bif Nat.ble 136 pc then (bif Nat.beq pc 136 then some (.return_, 1, 0, 0, false) else none) else (bif Nat.beq pc 133 then some (.goto (-125), 3, 8, 0, false) else none)) else (bif Nat.beq pc 130 then some (.iinc 3 1, 3, 0, 1, false) else none))
      else
       (bif Nat.ble 127 pc then (bif Nat.beq pc 127 then some (.goto (-86), 3, 41, 0, false) else none) else (bif Nat.beq pc 124 then some (.iinc 4 1, 3, 0, 1, false) else none)))
     else
      (bif Nat.ble 122 pc then (bif Nat.ble 123 pc then (bif Nat.beq pc 123 then some (.iastore, 1, 0, 0, false) else none) else (bif Nat.beq pc 122 then some (.iaload, 1, 0, 0, false) else none)) else (bif Nat.ble 120 pc then (bif Nat.beq pc 120 then some (.iload 4, 2, 0, 0, false) else none) else (bif Nat.beq pc 117 then some (.getfield 72, 3, 0, 0, false) else none))))
    else
     (bif Nat.ble 108 pc then
      (bif Nat.ble 112 pc then
       (bif Nat.ble 113 pc then (bif Nat.ble 116 pc then (bif Nat.beq pc 116 then some (.aload_n 0, 1, 0, 0, false) else none) else (bif Nat.beq pc 113 then some (.goto 10, 3, 123, 0, false) else none)) else (bif Nat.beq pc 112 then some (.iaload, 1, 0, 0, false) else none))
      else
       (bif Nat.ble 111 pc then (bif Nat.beq pc 111 then some (.iload_n 3, 1, 0, 0, false) else none) else (bif Nat.beq pc 108 then some (.getfield 36, 3, 0, 0, false) else none)))
     else
      (bif Nat.ble 104 pc then (bif Nat.ble 107 pc then (bif Nat.beq pc 107 then some (.aload_n 0, 1, 0, 0, false) else none) else (bif Nat.beq pc 104 then some (.ifCond .eq 12, 3, 116, 0, false) else none)) else (bif Nat.ble 102 pc then (bif Nat.beq pc 102 then some (.iload 5, 2, 0, 0, false) else none) else (bif Nat.beq pc 100 then some (.iload 4, 2, 0, 0, false) else none)))))
   else
    (bif Nat.ble 83 pc then
     (bif Nat.ble 90 pc then
      (bif Nat.ble 94 pc then
       (bif Nat.ble 96 pc then (bif Nat.ble 97 pc then (bif Nat.beq pc 97 then some (.getfield 72, 3, 0, 0, false) else none) else (bif Nat.beq pc 96 then some (.aload_n 0, 1, 0, 0, false) else none)) else (bif Nat.beq pc 94 then some (.istore 5, 2, 0, 0, false) else none))
      else
       (bif Nat.ble 93 pc then (bif Nat.beq pc 93 then some (.iconst 0, 1, 0, 0, false) else none) else (bif Nat.beq pc 90 then some (.goto 4, 3, 94, 0, false) else none)))
     else
      (bif Nat.ble 86 pc then (bif Nat.ble 89 pc then (bif Nat.beq pc 89 then some (.iconst 1, 1, 0, 1, false) else none) else (bif Nat.beq pc 86 then some (.ifCond .lt 7, 3, 93, 0, false) else none)) else (bif Nat.ble 85 pc then (bif Nat.beq pc 85 then some (.iaload, 1, 0, 0, false) else none) else (bif Nat.beq pc 83 then some (.iload 4, 2, 0, 0, false) else none))))
    else
     (bif Nat.ble 71 pc then
      (bif Nat.ble 76 pc then
       (bif Nat.ble 79 pc then (bif Nat.ble 80 pc then (bif Nat.beq pc 80 then some (.getfield 72, 3, 0, 0, false) else none) else (bif Nat.beq pc 79 then some (.aload_n 0, 1, 0, 0, false) else none)) else (bif Nat.beq pc 76 then some (.ifCond .ne 17, 3, 93, 0, false) else none))
      else
       (bif Nat.ble 73 pc then (bif Nat.beq pc 73 then some (.invokevirtual 151, 3, 0, 0, false) else none) else (bif Nat.beq pc 71 then some (.iload 4, 2, 0, 0, false) else none)))
     else
      (bif Nat.ble 69 pc then (bif Nat.ble 70 pc then (bif Nat.beq pc 70 then some (.iload_n 2, 1, 0, 0, false) else none) else (bif Nat.beq pc 69 then some (.aload_n 0, 1, 0, 0, false) else none)) else (bif Nat.ble 66 pc then (bif Nat.beq pc 66 then some (.ifCond .eq 27, 3, 93, 0, false) else none) else (bif Nat.beq pc 63 then some (.invokestatic 134, 3, 0, 0, false) else none))))))
  else
   (bif Nat.ble 30 pc then
    (bif Nat.ble 49 pc then
     (bif Nat.ble 56 pc then
      (bif Nat.ble 58 pc then
       (bif Nat.ble 61 pc then (bif Nat.ble 62 pc then (bif Nat.beq pc 62 then some (.iaload, 1, 0, 0, false) else none) else (bif Nat.beq pc 61 then some (.iload_n 3, 1, 0, 0, false) else none)) else (bif Nat.beq pc 58 then some (.getfield 33, 3, 0, 0, false) else none))
      else
       (bif Nat.ble 57 pc then (bif Nat.beq pc 57 then some (.aload_n 0, 1, 0, 0, false) else none) else (bif Nat.beq pc 56 then some (.iaload, 1, 0, 0, false) else none)))
     else
      (bif Nat.ble 52 pc then (bif Nat.ble 55 pc then (bif Nat.beq pc 55 then some (.iload_n 3, 1, 0, 0, false) else none) else (bif Nat.beq pc 52 then some (.getfield 30, 3, 0, 0, false) else none)) else (bif Nat.ble 51 pc then (bif Nat.beq pc 51 then some (.aload_n 0, 1, 0, 0, false) else none) else (bif Nat.beq pc 49 then some (.iload 4, 2, 0, 0, false) else none))))
    else
     (bif Nat.ble 38 pc then
      (bif Nat.ble 41 pc then
       (bif Nat.ble 43 pc then (bif Nat.ble 46 pc then (bif Nat.beq pc 46 then some (.if_icmp .ge 84, 3, 130, 0, false) else none) else (bif Nat.beq pc 43 then some (.sipush 144, 3, 0, 144, false) else none)) else (bif Nat.beq pc 41 then some (.iload 4, 2, 0, 0, true) else none))
      else
       (bif Nat.ble 39 pc then (bif Nat.beq pc 39 then some (.istore 4, 2, 0, 0, false) else none) else (bif Nat.beq pc 38 then some (.iconst 0, 1, 0, 0, false) else none)))
     else
      (bif Nat.ble 32 pc then (bif Nat.ble 35 pc then (bif Nat.beq pc 35 then some (.goto 95, 3, 130, 0, false) else none) else (bif Nat.beq pc 32 then some (.if_icmp .eq 6, 3, 38, 0, false) else none)) else (bif Nat.ble 31 pc then (bif Nat.beq pc 31 then some (.iload_n 1, 1, 0, 0, false) else none) else (bif Nat.beq pc 30 then some (.iaload, 1, 0, 0, false) else none)))))
   else
    (bif Nat.ble 13 pc then
     (bif Nat.ble 21 pc then
      (bif Nat.ble 25 pc then
       (bif Nat.ble 26 pc then (bif Nat.ble 29 pc then (bif Nat.beq pc 29 then some (.iload_n 3, 1, 0, 0, false) else none) else (bif Nat.beq pc 26 then some (.getfield 39, 3, 0, 0, false) else none)) else (bif Nat.beq pc 25 then some (.aload_n 0, 1, 0, 0, false) else none))
      else
       (bif Nat.ble 22 pc then (bif Nat.beq pc 22 then some (.ifCond .ne 108, 3, 130, 0, false) else none) else (bif Nat.beq pc 21 then some (.baload, 1, 0, 0, false) else none)))
     else
      (bif Nat.ble 17 pc then (bif Nat.ble 20 pc then (bif Nat.beq pc 20 then some (.iload_n 3, 1, 0, 0, false) else none) else (bif Nat.beq pc 17 then some (.getfield 42, 3, 0, 0, false) else none)) else (bif Nat.ble 16 pc then (bif Nat.beq pc 16 then some (.aload_n 0, 1, 0, 0, false) else none) else (bif Nat.beq pc 13 then some (.if_icmp .ge 123, 3, 136, 0, false) else none))))
    else
     (bif Nat.ble 6 pc then
      (bif Nat.ble 8 pc then
       (bif Nat.ble 9 pc then (bif Nat.ble 10 pc then (bif Nat.beq pc 10 then some (.getfield 93, 3, 0, 0, false) else none) else (bif Nat.beq pc 9 then some (.aload_n 0, 1, 0, 0, false) else none)) else (bif Nat.beq pc 8 then some (.iload_n 3, 1, 0, 0, true) else none))
      else
       (bif Nat.ble 7 pc then (bif Nat.beq pc 7 then some (.istore_n 3, 1, 0, 0, false) else none) else (bif Nat.beq pc 6 then some (.iconst 0, 1, 0, 0, false) else none)))
     else
      (bif Nat.ble 2 pc then (bif Nat.ble 5 pc then (bif Nat.beq pc 5 then some (.istore_n 2, 1, 0, 0, false) else none) else (bif Nat.beq pc 2 then some (.invokevirtual 147, 3, 0, 0, false) else none)) else (bif Nat.ble 1 pc then (bif Nat.beq pc 1 then some (.iload_n 1, 1, 0, 0, false) else none) else (bif Nat.beq pc 0 then some (.aload_n 0, 1, 0, 0, false) else none)))))))
def qX8_goes (pc : Nat) : Option mIn :=
  (bif Nat.ble 13 pc then
   (bif Nat.ble 22 pc then
    (bif Nat.ble 26 pc then
     (bif Nat.ble 27 pc then (bif Nat.ble 30 pc then (bif Nat.beq pc 30 then some (.return_, 1, 0, 0, false) else none) else (bif Nat.beq pc 27 then some (.invokevirtual 205, 3, 0, 0, false) else none)) else (bif Nat.beq pc 26 then some (.iload_n 1, 1, 0, 0, false) else none))
    else
     (bif Nat.ble 25 pc then (bif Nat.beq pc 25 then some (.aload_n 0, 1, 0, 0, false) else none) else (bif Nat.beq pc 22 then some (.invokevirtual 201, 3, 0, 0, false) else none)))
   else
    (bif Nat.ble 17 pc then
     (bif Nat.ble 18 pc then (bif Nat.ble 21 pc then (bif Nat.beq pc 21 then some (.iconst 0, 1, 0, 0, false) else none) else (bif Nat.beq pc 18 then some (.goto 4, 3, 22, 0, false) else none)) else (bif Nat.beq pc 17 then some (.iconst 1, 1, 0, 1, false) else none))
    else
     (bif Nat.ble 14 pc then (bif Nat.beq pc 14 then some (.if_icmp .ne 7, 3, 21, 0, false) else none) else (bif Nat.beq pc 13 then some (.iload_n 2, 1, 0, 0, false) else none))))
  else
   (bif Nat.ble 6 pc then
    (bif Nat.ble 10 pc then
     (bif Nat.ble 11 pc then (bif Nat.ble 12 pc then (bif Nat.beq pc 12 then some (.iload_n 3, 1, 0, 0, false) else none) else (bif Nat.beq pc 11 then some (.iload_n 3, 1, 0, 0, false) else none)) else (bif Nat.beq pc 10 then some (.aload_n 0, 1, 0, 0, false) else none))
    else
     (bif Nat.ble 7 pc then (bif Nat.beq pc 7 then some (.ifCond .le 18, 3, 25, 0, false) else none) else (bif Nat.beq pc 6 then some (.iload_n 3, 1, 0, 0, false) else none)))
   else
    (bif Nat.ble 2 pc then (bif Nat.ble 5 pc then (bif Nat.beq pc 5 then some (.istore_n 3, 1, 0, 0, false) else none) else (bif Nat.beq pc 2 then some (.invokevirtual 198, 3, 0, 0, false) else none)) else (bif Nat.ble 1 pc then (bif Nat.beq pc 1 then some (.iload_n 1, 1, 0, 0, false) else none) else (bif Nat.beq pc 0 then some (.aload_n 0, 1, 0, 0, false) else none)))))
def qX8_upTo (pc : Nat) : Option mIn :=
  (bif Nat.ble 11 pc then
   (bif Nat.ble 14 pc then
    (bif Nat.ble 20 pc then (bif Nat.ble 23 pc then (bif Nat.beq pc 23 then some (.return_, 1, 0, 0, false) else none) else (bif Nat.beq pc 20 then some (.goto (-14), 3, 6, 0, false) else none)) else (bif Nat.ble 17 pc then (bif Nat.beq pc 17 then some (.iinc 3 1, 3, 0, 1, false) else none) else (bif Nat.beq pc 14 then some (.invokevirtual 211, 3, 0, 0, false) else none)))
   else
    (bif Nat.ble 12 pc then (bif Nat.ble 13 pc then (bif Nat.beq pc 13 then some (.iload_n 2, 1, 0, 0, false) else none) else (bif Nat.beq pc 12 then some (.iload_n 3, 1, 0, 0, false) else none)) else (bif Nat.beq pc 11 then some (.aload_n 0, 1, 0, 0, false) else none)))
  else
   (bif Nat.ble 5 pc then
    (bif Nat.ble 7 pc then (bif Nat.ble 8 pc then (bif Nat.beq pc 8 then some (.if_icmp .gt 15, 3, 23, 0, false) else none) else (bif Nat.beq pc 7 then some (.iload_n 1, 1, 0, 0, false) else none)) else (bif Nat.ble 6 pc then (bif Nat.beq pc 6 then some (.iload_n 3, 1, 0, 0, true) else none) else (bif Nat.beq pc 5 then some (.istore_n 3, 1, 0, 0, false) else none)))
   else
    (bif Nat.ble 1 pc then (bif Nat.ble 4 pc then (bif Nat.beq pc 4 then some (.iconst 0, 1, 0, 0, false) else none) else (bif Nat.beq pc 1 then some (.invokevirtual 208, 3, 0, 0, false) else none)) else (bif Nat.beq pc 0 then some (.aload_n 0, 1, 0, 0, false) else none))))
def qX8_owner (pc : Nat) : Option mIn :=
  (bif Nat.ble 25 pc then
   (bif Nat.ble 37 pc then
    (bif Nat.ble 42 pc then
     (bif Nat.ble 46 pc then (bif Nat.ble 47 pc then (bif Nat.beq pc 47 then some (.ireturn, 1, 0, 0, false) else none) else (bif Nat.beq pc 46 then some (.iaload, 1, 0, 0, false) else none)) else (bif Nat.ble 43 pc then (bif Nat.beq pc 43 then some (.invokestatic 104, 3, 0, 0, false) else none) else (bif Nat.beq pc 42 then some (.iload_n 2, 1, 0, 0, false) else none)))
    else
     (bif Nat.ble 38 pc then (bif Nat.ble 41 pc then (bif Nat.beq pc 41 then some (.iload_n 1, 1, 0, 0, false) else none) else (bif Nat.beq pc 38 then some (.getfield 72, 3, 0, 0, false) else none)) else (bif Nat.beq pc 37 then some (.aload_n 0, 1, 0, 0, false) else none)))
   else
    (bif Nat.ble 31 pc then
     (bif Nat.ble 33 pc then (bif Nat.ble 34 pc then (bif Nat.beq pc 34 then some (.invokevirtual 215, 3, 0, 0, false) else none) else (bif Nat.beq pc 33 then some (.iconst (-1), 1, 0, -1, false) else none)) else (bif Nat.ble 32 pc then (bif Nat.beq pc 32 then some (.iload_n 3, 1, 0, 0, false) else none) else (bif Nat.beq pc 31 then some (.aload_n 0, 1, 0, 0, false) else none)))
    else
     (bif Nat.ble 28 pc then (bif Nat.ble 30 pc then (bif Nat.beq pc 30 then some (.ireturn, 1, 0, 0, false) else none) else (bif Nat.beq pc 28 then some (.bipush (-2), 2, 0, -2, false) else none)) else (bif Nat.beq pc 25 then some (.ifCond .ne 6, 3, 31, 0, false) else none))))
  else
   (bif Nat.ble 8 pc then
    (bif Nat.ble 15 pc then
     (bif Nat.ble 21 pc then (bif Nat.ble 22 pc then (bif Nat.beq pc 22 then some (.getfield 90, 3, 0, 0, false) else none) else (bif Nat.beq pc 21 then some (.aload_n 0, 1, 0, 0, false) else none)) else (bif Nat.ble 18 pc then (bif Nat.beq pc 18 then some (.ifCond .eq 10, 3, 28, 0, false) else none) else (bif Nat.beq pc 15 then some (.invokestatic 118, 3, 0, 0, false) else none)))
    else
     (bif Nat.ble 11 pc then (bif Nat.ble 14 pc then (bif Nat.beq pc 14 then some (.iload_n 3, 1, 0, 0, false) else none) else (bif Nat.beq pc 11 then some (.ifCond .eq 17, 3, 28, 0, false) else none)) else (bif Nat.beq pc 8 then some (.invokevirtual 122, 3, 0, 0, false) else none)))
   else
    (bif Nat.ble 5 pc then
     (bif Nat.ble 6 pc then (bif Nat.ble 7 pc then (bif Nat.beq pc 7 then some (.iload_n 2, 1, 0, 0, false) else none) else (bif Nat.beq pc 6 then some (.iload_n 1, 1, 0, 0, false) else none)) else (bif Nat.beq pc 5 then some (.aload_n 0, 1, 0, 0, false) else none))
    else
     (bif Nat.ble 1 pc then (bif Nat.ble 2 pc then (bif Nat.beq pc 2 then some (.putfield 3, 3, 0, 0, false) else none) else (bif Nat.beq pc 1 then some (.iconst 0, 1, 0, 0, false) else none)) else (bif Nat.beq pc 0 then some (.aload_n 0, 1, 0, 0, false) else none)))))
def qX8_areaOn (pc : Nat) : Option mIn :=
  (bif Nat.ble 30 pc then
   (bif Nat.ble 45 pc then
    (bif Nat.ble 51 pc then
     (bif Nat.ble 57 pc then (bif Nat.ble 58 pc then (bif Nat.beq pc 58 then some (.ireturn, 1, 0, 0, false) else none) else (bif Nat.beq pc 57 then some (.iload_n 3, 1, 0, 0, false) else none)) else (bif Nat.ble 54 pc then (bif Nat.beq pc 54 then some (.goto (-49), 3, 5, 0, false) else none) else (bif Nat.beq pc 51 then some (.iinc 4 1, 3, 0, 1, false) else none)))
    else
     (bif Nat.ble 49 pc then (bif Nat.ble 50 pc then (bif Nat.beq pc 50 then some (.istore_n 3, 1, 0, 0, false) else none) else (bif Nat.beq pc 49 then some (.iadd, 1, 0, 0, false) else none)) else (bif Nat.ble 48 pc then (bif Nat.beq pc 48 then some (.iconst 0, 1, 0, 0, false) else none) else (bif Nat.beq pc 45 then some (.goto 4, 3, 49, 0, false) else none))))
   else
    (bif Nat.ble 39 pc then
     (bif Nat.ble 41 pc then (bif Nat.ble 44 pc then (bif Nat.beq pc 44 then some (.iconst 1, 1, 0, 1, false) else none) else (bif Nat.beq pc 41 then some (.if_icmp .ne 7, 3, 48, 0, false) else none)) else (bif Nat.ble 40 pc then (bif Nat.beq pc 40 then some (.iload_n 2, 1, 0, 0, false) else none) else (bif Nat.beq pc 39 then some (.iaload, 1, 0, 0, false) else none)))
    else
     (bif Nat.ble 34 pc then (bif Nat.ble 37 pc then (bif Nat.beq pc 37 then some (.iload 4, 2, 0, 0, false) else none) else (bif Nat.beq pc 34 then some (.getfield 72, 3, 0, 0, false) else none)) else (bif Nat.ble 33 pc then (bif Nat.beq pc 33 then some (.aload_n 0, 1, 0, 0, false) else none) else (bif Nat.beq pc 30 then some (.ifCond .ne 18, 3, 48, 0, false) else none)))))
  else
   (bif Nat.ble 14 pc then
    (bif Nat.ble 23 pc then
     (bif Nat.ble 25 pc then (bif Nat.ble 27 pc then (bif Nat.beq pc 27 then some (.invokevirtual 151, 3, 0, 0, false) else none) else (bif Nat.beq pc 25 then some (.iload 4, 2, 0, 0, false) else none)) else (bif Nat.ble 24 pc then (bif Nat.beq pc 24 then some (.iload_n 1, 1, 0, 0, false) else none) else (bif Nat.beq pc 23 then some (.aload_n 0, 1, 0, 0, false) else none)))
    else
     (bif Nat.ble 17 pc then (bif Nat.ble 20 pc then (bif Nat.beq pc 20 then some (.ifCond .eq 28, 3, 48, 0, false) else none) else (bif Nat.beq pc 17 then some (.invokevirtual 154, 3, 0, 0, false) else none)) else (bif Nat.ble 15 pc then (bif Nat.beq pc 15 then some (.iload 4, 2, 0, 0, false) else none) else (bif Nat.beq pc 14 then some (.aload_n 0, 1, 0, 0, false) else none))))
   else
    (bif Nat.ble 5 pc then
     (bif Nat.ble 10 pc then (bif Nat.ble 13 pc then (bif Nat.beq pc 13 then some (.iload_n 3, 1, 0, 0, false) else none) else (bif Nat.beq pc 10 then some (.if_icmp .ge 47, 3, 57, 0, false) else none)) else (bif Nat.ble 7 pc then (bif Nat.beq pc 7 then some (.sipush 144, 3, 0, 144, false) else none) else (bif Nat.beq pc 5 then some (.iload 4, 2, 0, 0, true) else none)))
    else
     (bif Nat.ble 2 pc then (bif Nat.ble 3 pc then (bif Nat.beq pc 3 then some (.istore 4, 2, 0, 0, false) else none) else (bif Nat.beq pc 2 then some (.iconst 0, 1, 0, 0, false) else none)) else (bif Nat.ble 1 pc then (bif Nat.beq pc 1 then some (.istore_n 3, 1, 0, 0, false) else none) else (bif Nat.beq pc 0 then some (.iconst 0, 1, 0, 0, false) else none))))))
def qX8_isAsked (pc : Nat) : Option mIn :=
  (bif Nat.ble 18 pc then
   (bif Nat.ble 28 pc then
    (bif Nat.ble 32 pc then (bif Nat.ble 33 pc then (bif Nat.beq pc 33 then some (.ireturn, 1, 0, 0, false) else none) else (bif Nat.beq pc 32 then some (.iconst 0, 1, 0, 0, false) else none)) else (bif Nat.ble 29 pc then (bif Nat.beq pc 29 then some (.goto 4, 3, 33, 0, false) else none) else (bif Nat.beq pc 28 then some (.iconst 1, 1, 0, 1, false) else none)))
   else
    (bif Nat.ble 22 pc then (bif Nat.ble 25 pc then (bif Nat.beq pc 25 then some (.ifCond .le 7, 3, 32, 0, false) else none) else (bif Nat.beq pc 22 then some (.getfield 90, 3, 0, 0, false) else none)) else (bif Nat.ble 21 pc then (bif Nat.beq pc 21 then some (.aload_n 0, 1, 0, 0, false) else none) else (bif Nat.beq pc 18 then some (.ifCond .eq 14, 3, 32, 0, false) else none))))
  else
   (bif Nat.ble 8 pc then
    (bif Nat.ble 14 pc then (bif Nat.ble 15 pc then (bif Nat.beq pc 15 then some (.invokestatic 118, 3, 0, 0, false) else none) else (bif Nat.beq pc 14 then some (.iload_n 2, 1, 0, 0, false) else none)) else (bif Nat.ble 11 pc then (bif Nat.beq pc 11 then some (.ifCond .eq 21, 3, 32, 0, false) else none) else (bif Nat.beq pc 8 then some (.invokestatic 96, 3, 0, 0, false) else none)))
   else
    (bif Nat.ble 2 pc then (bif Nat.ble 5 pc then (bif Nat.beq pc 5 then some (.ldc2_w 132, 3, 0, 0, false) else none) else (bif Nat.beq pc 2 then some (.ldc2_w 130, 3, 0, 0, false) else none)) else (bif Nat.ble 1 pc then (bif Nat.beq pc 1 then some (.i2l, 1, 0, 0, false) else none) else (bif Nat.beq pc 0 then some (.iload_n 1, 1, 0, 0, false) else none)))))
def qX8_area (pc : Nat) : Option mIn :=
  (bif Nat.ble 17 pc then
   (bif Nat.ble 24 pc then
    (bif Nat.ble 29 pc then
     (bif Nat.ble 30 pc then (bif Nat.ble 33 pc then (bif Nat.beq pc 33 then some (.ireturn, 1, 0, 0, false) else none) else (bif Nat.beq pc 30 then some (.invokevirtual 221, 3, 0, 0, false) else none)) else (bif Nat.beq pc 29 then some (.iload_n 1, 1, 0, 0, false) else none))
    else
     (bif Nat.ble 25 pc then (bif Nat.ble 26 pc then (bif Nat.beq pc 26 then some (.invokevirtual 147, 3, 0, 0, false) else none) else (bif Nat.beq pc 25 then some (.iload_n 2, 1, 0, 0, false) else none)) else (bif Nat.beq pc 24 then some (.aload_n 0, 1, 0, 0, false) else none)))
   else
    (bif Nat.ble 19 pc then
     (bif Nat.ble 20 pc then (bif Nat.ble 23 pc then (bif Nat.beq pc 23 then some (.aload_n 0, 1, 0, 0, false) else none) else (bif Nat.beq pc 20 then some (.invokevirtual 215, 3, 0, 0, false) else none)) else (bif Nat.beq pc 19 then some (.iconst (-1), 1, 0, -1, false) else none))
    else
     (bif Nat.ble 18 pc then (bif Nat.beq pc 18 then some (.iload_n 2, 1, 0, 0, false) else none) else (bif Nat.beq pc 17 then some (.aload_n 0, 1, 0, 0, false) else none))))
  else
   (bif Nat.ble 7 pc then
    (bif Nat.ble 11 pc then
     (bif Nat.ble 14 pc then (bif Nat.ble 16 pc then (bif Nat.beq pc 16 then some (.ireturn, 1, 0, 0, false) else none) else (bif Nat.beq pc 14 then some (.bipush (-2), 2, 0, -2, false) else none)) else (bif Nat.beq pc 11 then some (.ifCond .ne 6, 3, 17, 0, false) else none))
    else
     (bif Nat.ble 8 pc then (bif Nat.beq pc 8 then some (.invokevirtual 218, 3, 0, 0, false) else none) else (bif Nat.beq pc 7 then some (.iload_n 2, 1, 0, 0, false) else none)))
   else
    (bif Nat.ble 2 pc then
     (bif Nat.ble 5 pc then (bif Nat.ble 6 pc then (bif Nat.beq pc 6 then some (.iload_n 1, 1, 0, 0, false) else none) else (bif Nat.beq pc 5 then some (.aload_n 0, 1, 0, 0, false) else none)) else (bif Nat.beq pc 2 then some (.putfield 3, 3, 0, 0, false) else none))
    else
     (bif Nat.ble 1 pc then (bif Nat.beq pc 1 then some (.iconst 0, 1, 0, 0, false) else none) else (bif Nat.beq pc 0 then some (.aload_n 0, 1, 0, 0, false) else none)))))
def qX8_isByWater (pc : Nat) : Option mIn :=
  (bif Nat.ble 28 pc then
   (bif Nat.ble 46 pc then
    (bif Nat.ble 52 pc then
     (bif Nat.ble 58 pc then (bif Nat.ble 59 pc then (bif Nat.beq pc 59 then some (.ireturn, 1, 0, 0, false) else none) else (bif Nat.beq pc 58 then some (.iload_n 3, 1, 0, 0, false) else none)) else (bif Nat.ble 55 pc then (bif Nat.beq pc 55 then some (.goto (-50), 3, 5, 0, false) else none) else (bif Nat.beq pc 52 then some (.iinc 4 1, 3, 0, 1, false) else none)))
    else
     (bif Nat.ble 50 pc then (bif Nat.ble 51 pc then (bif Nat.beq pc 51 then some (.istore_n 3, 1, 0, 0, false) else none) else (bif Nat.beq pc 50 then some (.iconst 0, 1, 0, 0, false) else none)) else (bif Nat.ble 47 pc then (bif Nat.beq pc 47 then some (.goto 4, 3, 51, 0, false) else none) else (bif Nat.beq pc 46 then some (.iconst 1, 1, 0, 1, false) else none))))
   else
    (bif Nat.ble 37 pc then
     (bif Nat.ble 42 pc then (bif Nat.ble 43 pc then (bif Nat.beq pc 43 then some (.if_icmp .ne 7, 3, 50, 0, false) else none) else (bif Nat.beq pc 42 then some (.iconst 1, 1, 0, 1, false) else none)) else (bif Nat.ble 39 pc then (bif Nat.beq pc 39 then some (.invokestatic 170, 3, 0, 0, false) else none) else (bif Nat.beq pc 37 then some (.iload 4, 2, 0, 0, false) else none)))
    else
     (bif Nat.ble 33 pc then (bif Nat.ble 36 pc then (bif Nat.beq pc 36 then some (.iload_n 2, 1, 0, 0, false) else none) else (bif Nat.beq pc 33 then some (.ifCond .eq 17, 3, 50, 0, false) else none)) else (bif Nat.ble 30 pc then (bif Nat.beq pc 30 then some (.invokevirtual 151, 3, 0, 0, false) else none) else (bif Nat.beq pc 28 then some (.iload 4, 2, 0, 0, false) else none)))))
  else
   (bif Nat.ble 13 pc then
    (bif Nat.ble 20 pc then
     (bif Nat.ble 26 pc then (bif Nat.ble 27 pc then (bif Nat.beq pc 27 then some (.iload_n 1, 1, 0, 0, false) else none) else (bif Nat.beq pc 26 then some (.aload_n 0, 1, 0, 0, false) else none)) else (bif Nat.ble 23 pc then (bif Nat.beq pc 23 then some (.ifCond .eq 27, 3, 50, 0, false) else none) else (bif Nat.beq pc 20 then some (.invokevirtual 154, 3, 0, 0, false) else none)))
    else
     (bif Nat.ble 17 pc then (bif Nat.ble 18 pc then (bif Nat.beq pc 18 then some (.iload 4, 2, 0, 0, false) else none) else (bif Nat.beq pc 17 then some (.aload_n 0, 1, 0, 0, false) else none)) else (bif Nat.ble 14 pc then (bif Nat.beq pc 14 then some (.ifCond .ne 32, 3, 46, 0, false) else none) else (bif Nat.beq pc 13 then some (.iload_n 3, 1, 0, 0, false) else none))))
   else
    (bif Nat.ble 3 pc then
     (bif Nat.ble 7 pc then (bif Nat.ble 10 pc then (bif Nat.beq pc 10 then some (.if_icmp .ge 48, 3, 58, 0, false) else none) else (bif Nat.beq pc 7 then some (.sipush 144, 3, 0, 144, false) else none)) else (bif Nat.ble 5 pc then (bif Nat.beq pc 5 then some (.iload 4, 2, 0, 0, true) else none) else (bif Nat.beq pc 3 then some (.istore 4, 2, 0, 0, false) else none)))
    else
     (bif Nat.ble 1 pc then (bif Nat.ble 2 pc then (bif Nat.beq pc 2 then some (.iconst 0, 1, 0, 0, false) else none) else (bif Nat.beq pc 1 then some (.istore_n 3, 1, 0, 0, false) else none)) else (bif Nat.beq pc 0 then some (.iconst 0, 1, 0, 0, false) else none)))))
def qX8_front (pc : Nat) : Option mIn :=
  (bif Nat.ble 46 pc then
   (bif Nat.ble 75 pc then
    (bif Nat.ble 89 pc then
     (bif Nat.ble 93 pc then
      (bif Nat.ble 99 pc then (bif Nat.ble 101 pc then (bif Nat.beq pc 101 then some (.ireturn, 1, 0, 0, false) else none) else (bif Nat.beq pc 99 then some (.iload 4, 2, 0, 0, false) else none)) else (bif Nat.ble 96 pc then (bif Nat.beq pc 96 then some (.goto (-61), 3, 35, 0, false) else none) else (bif Nat.beq pc 93 then some (.iinc 5 1, 3, 0, 1, false) else none)))
     else
      (bif Nat.ble 90 pc then (bif Nat.ble 91 pc then (bif Nat.beq pc 91 then some (.istore 4, 2, 0, 0, false) else none) else (bif Nat.beq pc 90 then some (.iadd, 1, 0, 0, false) else none)) else (bif Nat.beq pc 89 then some (.iconst 0, 1, 0, 0, false) else none)))
    else
     (bif Nat.ble 79 pc then
      (bif Nat.ble 85 pc then (bif Nat.ble 86 pc then (bif Nat.beq pc 86 then some (.goto 4, 3, 90, 0, false) else none) else (bif Nat.beq pc 85 then some (.iconst 1, 1, 0, 1, false) else none)) else (bif Nat.ble 82 pc then (bif Nat.beq pc 82 then some (.ifCond .eq 7, 3, 89, 0, false) else none) else (bif Nat.beq pc 79 then some (.invokevirtual 224, 3, 0, 0, false) else none)))
     else
      (bif Nat.ble 76 pc then (bif Nat.ble 77 pc then (bif Nat.beq pc 77 then some (.iload 5, 2, 0, 0, false) else none) else (bif Nat.beq pc 76 then some (.iload_n 3, 1, 0, 0, false) else none)) else (bif Nat.beq pc 75 then some (.aload_n 0, 1, 0, 0, false) else none))))
   else
    (bif Nat.ble 61 pc then
     (bif Nat.ble 68 pc then
      (bif Nat.ble 71 pc then (bif Nat.ble 72 pc then (bif Nat.beq pc 72 then some (.if_icmp .ne 17, 3, 89, 0, false) else none) else (bif Nat.beq pc 71 then some (.iload_n 1, 1, 0, 0, false) else none)) else (bif Nat.ble 70 pc then (bif Nat.beq pc 70 then some (.iaload, 1, 0, 0, false) else none) else (bif Nat.beq pc 68 then some (.iload 5, 2, 0, 0, false) else none)))
     else
      (bif Nat.ble 64 pc then (bif Nat.ble 65 pc then (bif Nat.beq pc 65 then some (.getfield 72, 3, 0, 0, false) else none) else (bif Nat.beq pc 64 then some (.aload_n 0, 1, 0, 0, false) else none)) else (bif Nat.beq pc 61 then some (.ifCond .ne 28, 3, 89, 0, false) else none)))
    else
     (bif Nat.ble 54 pc then
      (bif Nat.ble 56 pc then (bif Nat.ble 58 pc then (bif Nat.beq pc 58 then some (.invokevirtual 151, 3, 0, 0, false) else none) else (bif Nat.beq pc 56 then some (.iload 5, 2, 0, 0, false) else none)) else (bif Nat.ble 55 pc then (bif Nat.beq pc 55 then some (.iload_n 3, 1, 0, 0, false) else none) else (bif Nat.beq pc 54 then some (.aload_n 0, 1, 0, 0, false) else none)))
     else
      (bif Nat.ble 48 pc then (bif Nat.ble 51 pc then (bif Nat.beq pc 51 then some (.ifCond .eq 38, 3, 89, 0, false) else none) else (bif Nat.beq pc 48 then some (.invokevirtual 154, 3, 0, 0, false) else none)) else (bif Nat.beq pc 46 then some (.iload 5, 2, 0, 0, false) else none)))))
  else
   (bif Nat.ble 20 pc then
    (bif Nat.ble 32 pc then
     (bif Nat.ble 37 pc then
      (bif Nat.ble 43 pc then (bif Nat.ble 45 pc then (bif Nat.beq pc 45 then some (.aload_n 0, 1, 0, 0, false) else none) else (bif Nat.beq pc 43 then some (.iload 4, 2, 0, 0, false) else none)) else (bif Nat.ble 40 pc then (bif Nat.beq pc 40 then some (.if_icmp .ge 59, 3, 99, 0, false) else none) else (bif Nat.beq pc 37 then some (.sipush 144, 3, 0, 144, false) else none)))
     else
      (bif Nat.ble 33 pc then (bif Nat.ble 35 pc then (bif Nat.beq pc 35 then some (.iload 5, 2, 0, 0, true) else none) else (bif Nat.beq pc 33 then some (.istore 5, 2, 0, 0, false) else none)) else (bif Nat.beq pc 32 then some (.iconst 0, 1, 0, 0, false) else none)))
    else
     (bif Nat.ble 25 pc then
      (bif Nat.ble 29 pc then (bif Nat.ble 30 pc then (bif Nat.beq pc 30 then some (.istore 4, 2, 0, 0, false) else none) else (bif Nat.beq pc 29 then some (.iconst 0, 1, 0, 0, false) else none)) else (bif Nat.ble 28 pc then (bif Nat.beq pc 28 then some (.istore_n 3, 1, 0, 0, false) else none) else (bif Nat.beq pc 25 then some (.invokevirtual 147, 3, 0, 0, false) else none)))
     else
      (bif Nat.ble 23 pc then (bif Nat.ble 24 pc then (bif Nat.beq pc 24 then some (.iload_n 2, 1, 0, 0, false) else none) else (bif Nat.beq pc 23 then some (.aload_n 0, 1, 0, 0, false) else none)) else (bif Nat.beq pc 20 then some (.invokevirtual 215, 3, 0, 0, false) else none))))
   else
    (bif Nat.ble 8 pc then
     (bif Nat.ble 16 pc then
      (bif Nat.ble 18 pc then (bif Nat.ble 19 pc then (bif Nat.beq pc 19 then some (.iconst (-1), 1, 0, -1, false) else none) else (bif Nat.beq pc 18 then some (.iload_n 2, 1, 0, 0, false) else none)) else (bif Nat.ble 17 pc then (bif Nat.beq pc 17 then some (.aload_n 0, 1, 0, 0, false) else none) else (bif Nat.beq pc 16 then some (.ireturn, 1, 0, 0, false) else none)))
     else
      (bif Nat.ble 11 pc then (bif Nat.ble 14 pc then (bif Nat.beq pc 14 then some (.bipush (-2), 2, 0, -2, false) else none) else (bif Nat.beq pc 11 then some (.ifCond .ne 6, 3, 17, 0, false) else none)) else (bif Nat.beq pc 8 then some (.invokevirtual 218, 3, 0, 0, false) else none)))
    else
     (bif Nat.ble 5 pc then
      (bif Nat.ble 6 pc then (bif Nat.ble 7 pc then (bif Nat.beq pc 7 then some (.iload_n 2, 1, 0, 0, false) else none) else (bif Nat.beq pc 6 then some (.iload_n 1, 1, 0, 0, false) else none)) else (bif Nat.beq pc 5 then some (.aload_n 0, 1, 0, 0, false) else none))
     else
      (bif Nat.ble 1 pc then (bif Nat.ble 2 pc then (bif Nat.beq pc 2 then some (.putfield 3, 3, 0, 0, false) else none) else (bif Nat.beq pc 1 then some (.iconst 0, 1, 0, 0, false) else none)) else (bif Nat.beq pc 0 then some (.aload_n 0, 1, 0, 0, false) else none))))))
def qX8_tax (pc : Nat) : Option mIn :=
  (bif Nat.ble 41 pc then
   (bif Nat.ble 64 pc then
    (bif Nat.ble 75 pc then
     (bif Nat.ble 81 pc then
      (bif Nat.ble 84 pc then (bif Nat.ble 86 pc then (bif Nat.beq pc 86 then some (.ireturn, 1, 0, 0, false) else none) else (bif Nat.beq pc 84 then some (.iload 4, 2, 0, 0, false) else none)) else (bif Nat.beq pc 81 then some (.goto (-42), 3, 39, 0, false) else none))
     else
      (bif Nat.ble 76 pc then (bif Nat.ble 78 pc then (bif Nat.beq pc 78 then some (.iinc 5 1, 3, 0, 1, false) else none) else (bif Nat.beq pc 76 then some (.istore 4, 2, 0, 0, false) else none)) else (bif Nat.beq pc 75 then some (.iadd, 1, 0, 0, false) else none)))
    else
     (bif Nat.ble 68 pc then
      (bif Nat.ble 71 pc then (bif Nat.ble 72 pc then (bif Nat.beq pc 72 then some (.invokevirtual 221, 3, 0, 0, false) else none) else (bif Nat.beq pc 71 then some (.iload_n 1, 1, 0, 0, false) else none)) else (bif Nat.beq pc 68 then some (.invokevirtual 147, 3, 0, 0, false) else none))
     else
      (bif Nat.ble 65 pc then (bif Nat.ble 66 pc then (bif Nat.beq pc 66 then some (.iload 5, 2, 0, 0, false) else none) else (bif Nat.beq pc 65 then some (.aload_n 0, 1, 0, 0, false) else none)) else (bif Nat.beq pc 64 then some (.aload_n 0, 1, 0, 0, false) else none))))
   else
    (bif Nat.ble 52 pc then
     (bif Nat.ble 57 pc then
      (bif Nat.ble 60 pc then (bif Nat.ble 61 pc then (bif Nat.beq pc 61 then some (.goto 14, 3, 75, 0, false) else none) else (bif Nat.beq pc 60 then some (.iconst 0, 1, 0, 0, false) else none)) else (bif Nat.beq pc 57 then some (.if_icmp .ge 7, 3, 64, 0, false) else none))
     else
      (bif Nat.ble 54 pc then (bif Nat.ble 56 pc then (bif Nat.beq pc 56 then some (.iload_n 2, 1, 0, 0, false) else none) else (bif Nat.beq pc 54 then some (.iload 5, 2, 0, 0, false) else none)) else (bif Nat.beq pc 52 then some (.iload 4, 2, 0, 0, false) else none)))
    else
     (bif Nat.ble 46 pc then
      (bif Nat.ble 48 pc then (bif Nat.ble 49 pc then (bif Nat.beq pc 49 then some (.invokevirtual 211, 3, 0, 0, false) else none) else (bif Nat.beq pc 48 then some (.iconst (-1), 1, 0, -1, false) else none)) else (bif Nat.beq pc 46 then some (.iload 5, 2, 0, 0, false) else none))
     else
      (bif Nat.ble 42 pc then (bif Nat.ble 45 pc then (bif Nat.beq pc 45 then some (.aload_n 0, 1, 0, 0, false) else none) else (bif Nat.beq pc 42 then some (.if_icmp .gt 42, 3, 84, 0, false) else none)) else (bif Nat.beq pc 41 then some (.iload_n 3, 1, 0, 0, false) else none)))))
  else
   (bif Nat.ble 21 pc then
    (bif Nat.ble 30 pc then
     (bif Nat.ble 36 pc then
      (bif Nat.ble 37 pc then (bif Nat.ble 39 pc then (bif Nat.beq pc 39 then some (.iload 5, 2, 0, 0, true) else none) else (bif Nat.beq pc 37 then some (.istore 5, 2, 0, 0, false) else none)) else (bif Nat.beq pc 36 then some (.iconst 0, 1, 0, 0, false) else none))
     else
      (bif Nat.ble 32 pc then (bif Nat.ble 33 pc then (bif Nat.beq pc 33 then some (.invokevirtual 208, 3, 0, 0, false) else none) else (bif Nat.beq pc 32 then some (.aload_n 0, 1, 0, 0, false) else none)) else (bif Nat.beq pc 30 then some (.istore 4, 2, 0, 0, false) else none)))
    else
     (bif Nat.ble 26 pc then
      (bif Nat.ble 28 pc then (bif Nat.ble 29 pc then (bif Nat.beq pc 29 then some (.iconst 0, 1, 0, 0, false) else none) else (bif Nat.beq pc 28 then some (.ireturn, 1, 0, 0, false) else none)) else (bif Nat.beq pc 26 then some (.bipush (-2), 2, 0, -2, false) else none))
     else
      (bif Nat.ble 22 pc then (bif Nat.ble 23 pc then (bif Nat.beq pc 23 then some (.if_icmp .le 6, 3, 29, 0, false) else none) else (bif Nat.beq pc 22 then some (.iload_n 3, 1, 0, 0, false) else none)) else (bif Nat.beq pc 21 then some (.iload_n 2, 1, 0, 0, false) else none))))
   else
    (bif Nat.ble 7 pc then
     (bif Nat.ble 14 pc then
      (bif Nat.ble 15 pc then (bif Nat.ble 18 pc then (bif Nat.beq pc 18 then some (.ifCond .eq 8, 3, 26, 0, false) else none) else (bif Nat.beq pc 15 then some (.invokestatic 118, 3, 0, 0, false) else none)) else (bif Nat.beq pc 14 then some (.iload_n 3, 1, 0, 0, false) else none))
     else
      (bif Nat.ble 8 pc then (bif Nat.ble 11 pc then (bif Nat.beq pc 11 then some (.ifCond .eq 15, 3, 26, 0, false) else none) else (bif Nat.beq pc 8 then some (.invokevirtual 218, 3, 0, 0, false) else none)) else (bif Nat.beq pc 7 then some (.iload_n 2, 1, 0, 0, false) else none)))
    else
     (bif Nat.ble 2 pc then
      (bif Nat.ble 5 pc then (bif Nat.ble 6 pc then (bif Nat.beq pc 6 then some (.iload_n 1, 1, 0, 0, false) else none) else (bif Nat.beq pc 5 then some (.aload_n 0, 1, 0, 0, false) else none)) else (bif Nat.beq pc 2 then some (.putfield 3, 3, 0, 0, false) else none))
     else
      (bif Nat.ble 1 pc then (bif Nat.beq pc 1 then some (.iconst 0, 1, 0, 0, false) else none) else (bif Nat.beq pc 0 then some (.aload_n 0, 1, 0, 0, false) else none))))))
def qX8_chain (pc : Nat) : Option mIn :=
  (bif Nat.ble 75 pc then
   (bif Nat.ble 112 pc then
    (bif Nat.ble 128 pc then
     (bif Nat.ble 139 pc then
      (bif Nat.ble 146 pc then
       (bif Nat.ble 147 pc then (bif Nat.ble 148 pc then (bif Nat.beq pc 148 then some (.ireturn, 1, 0, 0, false) else none) else (bif Nat.beq pc 147 then some (.idiv, 1, 0, 0, false) else none)) else (bif Nat.beq pc 146 then some (.iconst 2, 1, 0, 2, false) else none))
      else
       (bif Nat.ble 142 pc then (bif Nat.ble 143 pc then (bif Nat.beq pc 143 then some (.getfield 144, 3, 0, 0, false) else none) else (bif Nat.beq pc 142 then some (.aload_n 0, 1, 0, 0, false) else none)) else (bif Nat.beq pc 139 then some (.goto (-98), 3, 41, 0, false) else none)))
     else
      (bif Nat.ble 132 pc then
       (bif Nat.ble 133 pc then (bif Nat.ble 136 pc then (bif Nat.beq pc 136 then some (.iinc 4 1, 3, 0, 1, false) else none) else (bif Nat.beq pc 133 then some (.putfield 144, 3, 0, 0, false) else none)) else (bif Nat.beq pc 132 then some (.iadd, 1, 0, 0, false) else none))
      else
       (bif Nat.ble 131 pc then (bif Nat.beq pc 131 then some (.iconst 2, 1, 0, 2, false) else none) else (bif Nat.beq pc 128 then some (.getfield 144, 3, 0, 0, false) else none))))
    else
     (bif Nat.ble 121 pc then
      (bif Nat.ble 125 pc then
       (bif Nat.ble 126 pc then (bif Nat.ble 127 pc then (bif Nat.beq pc 127 then some (.dup, 1, 0, 0, false) else none) else (bif Nat.beq pc 126 then some (.aload_n 0, 1, 0, 0, false) else none)) else (bif Nat.beq pc 125 then some (.iastore, 1, 0, 0, false) else none))
      else
       (bif Nat.ble 122 pc then (bif Nat.ble 123 pc then (bif Nat.beq pc 123 then some (.iload 4, 2, 0, 0, false) else none) else (bif Nat.beq pc 122 then some (.iadd, 1, 0, 0, false) else none)) else (bif Nat.beq pc 121 then some (.iconst 1, 1, 0, 1, false) else none)))
     else
      (bif Nat.ble 114 pc then
       (bif Nat.ble 117 pc then (bif Nat.ble 118 pc then (bif Nat.beq pc 118 then some (.getfield 144, 3, 0, 0, false) else none) else (bif Nat.beq pc 117 then some (.aload_n 0, 1, 0, 0, false) else none)) else (bif Nat.beq pc 114 then some (.getfield 78, 3, 0, 0, false) else none))
      else
       (bif Nat.ble 113 pc then (bif Nat.beq pc 113 then some (.aload_n 0, 1, 0, 0, false) else none) else (bif Nat.beq pc 112 then some (.iastore, 1, 0, 0, false) else none)))))
   else
    (bif Nat.ble 93 pc then
     (bif Nat.ble 102 pc then
      (bif Nat.ble 107 pc then
       (bif Nat.ble 110 pc then (bif Nat.ble 111 pc then (bif Nat.beq pc 111 then some (.iaload, 1, 0, 0, false) else none) else (bif Nat.beq pc 110 then some (.iload_n 3, 1, 0, 0, false) else none)) else (bif Nat.beq pc 107 then some (.getfield 72, 3, 0, 0, false) else none))
      else
       (bif Nat.ble 103 pc then (bif Nat.ble 106 pc then (bif Nat.beq pc 106 then some (.aload_n 0, 1, 0, 0, false) else none) else (bif Nat.beq pc 103 then some (.getfield 144, 3, 0, 0, false) else none)) else (bif Nat.beq pc 102 then some (.aload_n 0, 1, 0, 0, false) else none)))
     else
      (bif Nat.ble 95 pc then
       (bif Nat.ble 98 pc then (bif Nat.ble 99 pc then (bif Nat.beq pc 99 then some (.getfield 78, 3, 0, 0, false) else none) else (bif Nat.beq pc 98 then some (.aload_n 0, 1, 0, 0, false) else none)) else (bif Nat.beq pc 95 then some (.if_icmp .eq 41, 3, 136, 0, false) else none))
      else
       (bif Nat.ble 94 pc then (bif Nat.beq pc 94 then some (.iaload, 1, 0, 0, false) else none) else (bif Nat.beq pc 93 then some (.isub, 1, 0, 0, false) else none))))
    else
     (bif Nat.ble 84 pc then
      (bif Nat.ble 88 pc then
       (bif Nat.ble 89 pc then (bif Nat.ble 92 pc then (bif Nat.beq pc 92 then some (.iconst 2, 1, 0, 2, false) else none) else (bif Nat.beq pc 89 then some (.getfield 144, 3, 0, 0, false) else none)) else (bif Nat.beq pc 88 then some (.aload_n 0, 1, 0, 0, false) else none))
      else
       (bif Nat.ble 85 pc then (bif Nat.beq pc 85 then some (.getfield 78, 3, 0, 0, false) else none) else (bif Nat.beq pc 84 then some (.aload_n 0, 1, 0, 0, false) else none)))
     else
      (bif Nat.ble 79 pc then
       (bif Nat.ble 82 pc then (bif Nat.ble 83 pc then (bif Nat.beq pc 83 then some (.iaload, 1, 0, 0, false) else none) else (bif Nat.beq pc 82 then some (.iload_n 3, 1, 0, 0, false) else none)) else (bif Nat.beq pc 79 then some (.getfield 72, 3, 0, 0, false) else none))
      else
       (bif Nat.ble 78 pc then (bif Nat.beq pc 78 then some (.aload_n 0, 1, 0, 0, false) else none) else (bif Nat.beq pc 75 then some (.if_icmp .le 61, 3, 136, 0, false) else none))))))
  else
   (bif Nat.ble 35 pc then
    (bif Nat.ble 56 pc then
     (bif Nat.ble 64 pc then
      (bif Nat.ble 70 pc then
       (bif Nat.ble 73 pc then (bif Nat.ble 74 pc then (bif Nat.beq pc 74 then some (.iaload, 1, 0, 0, false) else none) else (bif Nat.beq pc 73 then some (.iconst 0, 1, 0, 0, false) else none)) else (bif Nat.beq pc 70 then some (.getfield 19, 3, 0, 0, false) else none))
      else
       (bif Nat.ble 67 pc then (bif Nat.ble 69 pc then (bif Nat.beq pc 69 then some (.aload_n 0, 1, 0, 0, false) else none) else (bif Nat.beq pc 67 then some (.iload 4, 2, 0, 0, false) else none)) else (bif Nat.beq pc 64 then some (.if_icmp .eq 34, 3, 98, 0, false) else none)))
     else
      (bif Nat.ble 59 pc then
       (bif Nat.ble 62 pc then (bif Nat.ble 63 pc then (bif Nat.beq pc 63 then some (.iaload, 1, 0, 0, false) else none) else (bif Nat.beq pc 62 then some (.iconst 0, 1, 0, 0, false) else none)) else (bif Nat.beq pc 59 then some (.getfield 19, 3, 0, 0, false) else none))
      else
       (bif Nat.ble 58 pc then (bif Nat.beq pc 58 then some (.aload_n 0, 1, 0, 0, false) else none) else (bif Nat.beq pc 56 then some (.iload 4, 2, 0, 0, false) else none))))
    else
     (bif Nat.ble 46 pc then
      (bif Nat.ble 50 pc then
       (bif Nat.ble 52 pc then (bif Nat.ble 53 pc then (bif Nat.beq pc 53 then some (.invokevirtual 211, 3, 0, 0, false) else none) else (bif Nat.beq pc 52 then some (.iconst (-1), 1, 0, -1, false) else none)) else (bif Nat.beq pc 50 then some (.iload 4, 2, 0, 0, false) else none))
      else
       (bif Nat.ble 49 pc then (bif Nat.beq pc 49 then some (.aload_n 0, 1, 0, 0, false) else none) else (bif Nat.beq pc 46 then some (.if_icmp .ge 96, 3, 142, 0, false) else none)))
     else
      (bif Nat.ble 39 pc then
       (bif Nat.ble 41 pc then (bif Nat.ble 43 pc then (bif Nat.beq pc 43 then some (.sipush 201, 3, 0, 201, false) else none) else (bif Nat.beq pc 41 then some (.iload 4, 2, 0, 0, true) else none)) else (bif Nat.beq pc 39 then some (.istore 4, 2, 0, 0, false) else none))
      else
       (bif Nat.ble 38 pc then (bif Nat.beq pc 38 then some (.iconst 0, 1, 0, 0, false) else none) else (bif Nat.beq pc 35 then some (.invokevirtual 208, 3, 0, 0, false) else none)))))
   else
    (bif Nat.ble 18 pc then
     (bif Nat.ble 25 pc then
      (bif Nat.ble 30 pc then
       (bif Nat.ble 31 pc then (bif Nat.ble 34 pc then (bif Nat.beq pc 34 then some (.aload_n 0, 1, 0, 0, false) else none) else (bif Nat.beq pc 31 then some (.putfield 144, 3, 0, 0, false) else none)) else (bif Nat.beq pc 30 then some (.iconst 0, 1, 0, 0, false) else none))
      else
       (bif Nat.ble 28 pc then (bif Nat.ble 29 pc then (bif Nat.beq pc 29 then some (.aload_n 0, 1, 0, 0, false) else none) else (bif Nat.beq pc 28 then some (.istore_n 3, 1, 0, 0, false) else none)) else (bif Nat.beq pc 25 then some (.invokestatic 104, 3, 0, 0, false) else none)))
     else
      (bif Nat.ble 22 pc then
       (bif Nat.ble 23 pc then (bif Nat.ble 24 pc then (bif Nat.beq pc 24 then some (.iload_n 2, 1, 0, 0, false) else none) else (bif Nat.beq pc 23 then some (.iload_n 1, 1, 0, 0, false) else none)) else (bif Nat.beq pc 22 then some (.ireturn, 1, 0, 0, false) else none))
      else
       (bif Nat.ble 21 pc then (bif Nat.beq pc 21 then some (.iconst (-1), 1, 0, -1, false) else none) else (bif Nat.beq pc 18 then some (.ifCond .ne 5, 3, 23, 0, false) else none))))
    else
     (bif Nat.ble 7 pc then
      (bif Nat.ble 11 pc then
       (bif Nat.ble 14 pc then (bif Nat.ble 15 pc then (bif Nat.beq pc 15 then some (.getfield 90, 3, 0, 0, false) else none) else (bif Nat.beq pc 14 then some (.aload_n 0, 1, 0, 0, false) else none)) else (bif Nat.beq pc 11 then some (.ifCond .eq 10, 3, 21, 0, false) else none))
      else
       (bif Nat.ble 8 pc then (bif Nat.beq pc 8 then some (.invokevirtual 122, 3, 0, 0, false) else none) else (bif Nat.beq pc 7 then some (.iload_n 2, 1, 0, 0, false) else none)))
     else
      (bif Nat.ble 2 pc then
       (bif Nat.ble 5 pc then (bif Nat.ble 6 pc then (bif Nat.beq pc 6 then some (.iload_n 1, 1, 0, 0, false) else none) else (bif Nat.beq pc 5 then some (.aload_n 0, 1, 0, 0, false) else none)) else (bif Nat.beq pc 2 then some (.putfield 3, 3, 0, 0, false) else none))
      else
       (bif Nat.ble 1 pc then (bif Nat.beq pc 1 then some (.iconst 0, 1, 0, 0, false) else none) else (bif Nat.beq pc 0 then some (.aload_n 0, 1, 0, 0, false) else none)))))))
def qX8_banks (pc : Nat) : Option mIn :=
  (bif Nat.ble 107 pc then
   (bif Nat.ble 163 pc then
    (bif Nat.ble 195 pc then
     (bif Nat.ble 208 pc then
      (bif Nat.ble 215 pc then
       (bif Nat.ble 221 pc then (bif Nat.ble 223 pc then (bif Nat.beq pc 223 then some (.ireturn, 1, 0, 0, false) else none) else (bif Nat.beq pc 221 then some (.iload 4, 2, 0, 0, false) else none)) else (bif Nat.ble 218 pc then (bif Nat.beq pc 218 then some (.goto (-33), 3, 185, 0, false) else none) else (bif Nat.beq pc 215 then some (.iinc 5 1, 3, 0, 1, false) else none)))
      else
       (bif Nat.ble 212 pc then (bif Nat.ble 213 pc then (bif Nat.beq pc 213 then some (.istore 4, 2, 0, 0, false) else none) else (bif Nat.beq pc 212 then some (.iadd, 1, 0, 0, false) else none)) else (bif Nat.ble 211 pc then (bif Nat.beq pc 211 then some (.iconst 0, 1, 0, 0, false) else none) else (bif Nat.beq pc 208 then some (.goto 4, 3, 212, 0, false) else none))))
     else
      (bif Nat.ble 201 pc then
       (bif Nat.ble 204 pc then (bif Nat.ble 207 pc then (bif Nat.beq pc 207 then some (.iconst 1, 1, 0, 1, false) else none) else (bif Nat.beq pc 204 then some (.if_icmp .ne 7, 3, 211, 0, false) else none)) else (bif Nat.ble 202 pc then (bif Nat.beq pc 202 then some (.iload 5, 2, 0, 0, false) else none) else (bif Nat.beq pc 201 then some (.iaload, 1, 0, 0, false) else none)))
      else
       (bif Nat.ble 196 pc then (bif Nat.ble 199 pc then (bif Nat.beq pc 199 then some (.iload 5, 2, 0, 0, false) else none) else (bif Nat.beq pc 196 then some (.getfield 81, 3, 0, 0, false) else none)) else (bif Nat.beq pc 195 then some (.aload_n 0, 1, 0, 0, false) else none))))
    else
     (bif Nat.ble 180 pc then
      (bif Nat.ble 185 pc then
       (bif Nat.ble 190 pc then (bif Nat.ble 193 pc then (bif Nat.beq pc 193 then some (.iload 4, 2, 0, 0, false) else none) else (bif Nat.beq pc 190 then some (.if_icmp .ge 31, 3, 221, 0, false) else none)) else (bif Nat.ble 187 pc then (bif Nat.beq pc 187 then some (.sipush 144, 3, 0, 144, false) else none) else (bif Nat.beq pc 185 then some (.iload 5, 2, 0, 0, true) else none)))
      else
       (bif Nat.ble 182 pc then (bif Nat.ble 183 pc then (bif Nat.beq pc 183 then some (.istore 5, 2, 0, 0, false) else none) else (bif Nat.beq pc 182 then some (.iconst 0, 1, 0, 0, false) else none)) else (bif Nat.beq pc 180 then some (.istore 4, 2, 0, 0, false) else none)))
     else
      (bif Nat.ble 170 pc then
       (bif Nat.ble 176 pc then (bif Nat.ble 179 pc then (bif Nat.beq pc 179 then some (.iconst 0, 1, 0, 0, false) else none) else (bif Nat.beq pc 176 then some (.goto (-104), 3, 72, 0, false) else none)) else (bif Nat.ble 173 pc then (bif Nat.beq pc 173 then some (.goto (-92), 3, 81, 0, false) else none) else (bif Nat.beq pc 170 then some (.iinc 4 1, 3, 0, 1, false) else none)))
      else
       (bif Nat.ble 164 pc then (bif Nat.ble 167 pc then (bif Nat.beq pc 167 then some (.goto (-75), 3, 92, 0, false) else none) else (bif Nat.beq pc 164 then some (.iinc 5 1, 3, 0, 1, false) else none)) else (bif Nat.beq pc 163 then some (.istore_n 3, 1, 0, 0, false) else none)))))
   else
    (bif Nat.ble 137 pc then
     (bif Nat.ble 149 pc then
      (bif Nat.ble 158 pc then
       (bif Nat.ble 161 pc then (bif Nat.ble 162 pc then (bif Nat.beq pc 162 then some (.iconst 1, 1, 0, 1, false) else none) else (bif Nat.beq pc 161 then some (.iastore, 1, 0, 0, false) else none)) else (bif Nat.ble 160 pc then (bif Nat.beq pc 160 then some (.iaload, 1, 0, 0, false) else none) else (bif Nat.beq pc 158 then some (.iload 5, 2, 0, 0, false) else none)))
      else
       (bif Nat.ble 154 pc then (bif Nat.ble 155 pc then (bif Nat.beq pc 155 then some (.getfield 81, 3, 0, 0, false) else none) else (bif Nat.beq pc 154 then some (.aload_n 0, 1, 0, 0, false) else none)) else (bif Nat.ble 152 pc then (bif Nat.beq pc 152 then some (.iload 4, 2, 0, 0, false) else none) else (bif Nat.beq pc 149 then some (.getfield 81, 3, 0, 0, false) else none))))
     else
      (bif Nat.ble 142 pc then
       (bif Nat.ble 145 pc then (bif Nat.ble 148 pc then (bif Nat.beq pc 148 then some (.aload_n 0, 1, 0, 0, false) else none) else (bif Nat.beq pc 145 then some (.if_icmp .ge 19, 3, 164, 0, false) else none)) else (bif Nat.ble 144 pc then (bif Nat.beq pc 144 then some (.iaload, 1, 0, 0, false) else none) else (bif Nat.beq pc 142 then some (.iload 4, 2, 0, 0, false) else none)))
      else
       (bif Nat.ble 138 pc then (bif Nat.ble 139 pc then (bif Nat.beq pc 139 then some (.getfield 81, 3, 0, 0, false) else none) else (bif Nat.beq pc 138 then some (.aload_n 0, 1, 0, 0, false) else none)) else (bif Nat.beq pc 137 then some (.iaload, 1, 0, 0, false) else none))))
    else
     (bif Nat.ble 122 pc then
      (bif Nat.ble 128 pc then
       (bif Nat.ble 132 pc then (bif Nat.ble 135 pc then (bif Nat.beq pc 135 then some (.iload 5, 2, 0, 0, false) else none) else (bif Nat.beq pc 132 then some (.getfield 81, 3, 0, 0, false) else none)) else (bif Nat.ble 131 pc then (bif Nat.beq pc 131 then some (.aload_n 0, 1, 0, 0, false) else none) else (bif Nat.beq pc 128 then some (.if_icmp .ne 36, 3, 164, 0, false) else none)))
      else
       (bif Nat.ble 124 pc then (bif Nat.ble 127 pc then (bif Nat.beq pc 127 then some (.iconst 1, 1, 0, 1, false) else none) else (bif Nat.beq pc 124 then some (.invokestatic 170, 3, 0, 0, false) else none)) else (bif Nat.beq pc 122 then some (.iload 5, 2, 0, 0, false) else none)))
     else
      (bif Nat.ble 114 pc then
       (bif Nat.ble 117 pc then (bif Nat.ble 120 pc then (bif Nat.beq pc 120 then some (.iload 4, 2, 0, 0, false) else none) else (bif Nat.beq pc 117 then some (.ifCond .lt 47, 3, 164, 0, false) else none)) else (bif Nat.ble 116 pc then (bif Nat.beq pc 116 then some (.iaload, 1, 0, 0, false) else none) else (bif Nat.beq pc 114 then some (.iload 5, 2, 0, 0, false) else none)))
      else
       (bif Nat.ble 110 pc then (bif Nat.ble 111 pc then (bif Nat.beq pc 111 then some (.getfield 81, 3, 0, 0, false) else none) else (bif Nat.beq pc 110 then some (.aload_n 0, 1, 0, 0, false) else none)) else (bif Nat.beq pc 107 then some (.ifCond .lt 63, 3, 170, 0, false) else none))))))
  else
   (bif Nat.ble 51 pc then
    (bif Nat.ble 77 pc then
     (bif Nat.ble 90 pc then
      (bif Nat.ble 100 pc then
       (bif Nat.ble 104 pc then (bif Nat.ble 106 pc then (bif Nat.beq pc 106 then some (.iaload, 1, 0, 0, false) else none) else (bif Nat.beq pc 104 then some (.iload 4, 2, 0, 0, false) else none)) else (bif Nat.ble 101 pc then (bif Nat.beq pc 101 then some (.getfield 81, 3, 0, 0, false) else none) else (bif Nat.beq pc 100 then some (.aload_n 0, 1, 0, 0, false) else none)))
      else
       (bif Nat.ble 94 pc then (bif Nat.ble 97 pc then (bif Nat.beq pc 97 then some (.if_icmp .ge 73, 3, 170, 0, false) else none) else (bif Nat.beq pc 94 then some (.sipush 144, 3, 0, 144, false) else none)) else (bif Nat.ble 92 pc then (bif Nat.beq pc 92 then some (.iload 5, 2, 0, 0, true) else none) else (bif Nat.beq pc 90 then some (.istore 5, 2, 0, 0, false) else none))))
     else
      (bif Nat.ble 81 pc then
       (bif Nat.ble 86 pc then (bif Nat.ble 89 pc then (bif Nat.beq pc 89 then some (.iconst 0, 1, 0, 0, false) else none) else (bif Nat.beq pc 86 then some (.if_icmp .ge 90, 3, 176, 0, false) else none)) else (bif Nat.ble 83 pc then (bif Nat.beq pc 83 then some (.sipush 144, 3, 0, 144, false) else none) else (bif Nat.beq pc 81 then some (.iload 4, 2, 0, 0, true) else none)))
      else
       (bif Nat.ble 78 pc then (bif Nat.ble 79 pc then (bif Nat.beq pc 79 then some (.istore 4, 2, 0, 0, false) else none) else (bif Nat.beq pc 78 then some (.iconst 0, 1, 0, 0, false) else none)) else (bif Nat.beq pc 77 then some (.istore_n 3, 1, 0, 0, false) else none))))
    else
     (bif Nat.ble 64 pc then
      (bif Nat.ble 71 pc then
       (bif Nat.ble 73 pc then (bif Nat.ble 76 pc then (bif Nat.beq pc 76 then some (.iconst 0, 1, 0, 0, false) else none) else (bif Nat.beq pc 73 then some (.ifCond .eq 106, 3, 179, 0, false) else none)) else (bif Nat.ble 72 pc then (bif Nat.beq pc 72 then some (.iload_n 3, 1, 0, 0, true) else none) else (bif Nat.beq pc 71 then some (.istore_n 3, 1, 0, 0, false) else none)))
      else
       (bif Nat.ble 67 pc then (bif Nat.ble 70 pc then (bif Nat.beq pc 70 then some (.iconst 1, 1, 0, 1, false) else none) else (bif Nat.beq pc 67 then some (.goto (-38), 3, 29, 0, false) else none)) else (bif Nat.beq pc 64 then some (.iinc 3 1, 3, 0, 1, false) else none)))
     else
      (bif Nat.ble 58 pc then
       (bif Nat.ble 62 pc then (bif Nat.ble 63 pc then (bif Nat.beq pc 63 then some (.iastore, 1, 0, 0, false) else none) else (bif Nat.beq pc 62 then some (.iconst (-1), 1, 0, -1, false) else none)) else (bif Nat.ble 59 pc then (bif Nat.beq pc 59 then some (.goto 4, 3, 63, 0, false) else none) else (bif Nat.beq pc 58 then some (.iload_n 3, 1, 0, 0, false) else none)))
      else
       (bif Nat.ble 52 pc then (bif Nat.ble 55 pc then (bif Nat.beq pc 55 then some (.ifCond .ne 7, 3, 62, 0, false) else none) else (bif Nat.beq pc 52 then some (.invokevirtual 151, 3, 0, 0, false) else none)) else (bif Nat.beq pc 51 then some (.iload_n 3, 1, 0, 0, false) else none)))))
   else
    (bif Nat.ble 26 pc then
     (bif Nat.ble 37 pc then
      (bif Nat.ble 43 pc then
       (bif Nat.ble 49 pc then (bif Nat.ble 50 pc then (bif Nat.beq pc 50 then some (.iload_n 2, 1, 0, 0, false) else none) else (bif Nat.beq pc 49 then some (.aload_n 0, 1, 0, 0, false) else none)) else (bif Nat.ble 46 pc then (bif Nat.beq pc 46 then some (.ifCond .eq 16, 3, 62, 0, false) else none) else (bif Nat.beq pc 43 then some (.invokevirtual 154, 3, 0, 0, false) else none)))
      else
       (bif Nat.ble 41 pc then (bif Nat.ble 42 pc then (bif Nat.beq pc 42 then some (.iload_n 3, 1, 0, 0, false) else none) else (bif Nat.beq pc 41 then some (.aload_n 0, 1, 0, 0, false) else none)) else (bif Nat.ble 40 pc then (bif Nat.beq pc 40 then some (.iload_n 3, 1, 0, 0, false) else none) else (bif Nat.beq pc 37 then some (.getfield 81, 3, 0, 0, false) else none))))
     else
      (bif Nat.ble 29 pc then
       (bif Nat.ble 33 pc then (bif Nat.ble 36 pc then (bif Nat.beq pc 36 then some (.aload_n 0, 1, 0, 0, false) else none) else (bif Nat.beq pc 33 then some (.if_icmp .ge 37, 3, 70, 0, false) else none)) else (bif Nat.ble 30 pc then (bif Nat.beq pc 30 then some (.sipush 144, 3, 0, 144, false) else none) else (bif Nat.beq pc 29 then some (.iload_n 3, 1, 0, 0, true) else none)))
      else
       (bif Nat.ble 27 pc then (bif Nat.ble 28 pc then (bif Nat.beq pc 28 then some (.istore_n 3, 1, 0, 0, false) else none) else (bif Nat.beq pc 27 then some (.iconst 0, 1, 0, 0, false) else none)) else (bif Nat.beq pc 26 then some (.istore_n 2, 1, 0, 0, false) else none))))
    else
     (bif Nat.ble 13 pc then
      (bif Nat.ble 20 pc then
       (bif Nat.ble 22 pc then (bif Nat.ble 23 pc then (bif Nat.beq pc 23 then some (.invokevirtual 147, 3, 0, 0, false) else none) else (bif Nat.beq pc 22 then some (.iload_n 1, 1, 0, 0, false) else none)) else (bif Nat.ble 21 pc then (bif Nat.beq pc 21 then some (.aload_n 0, 1, 0, 0, false) else none) else (bif Nat.beq pc 20 then some (.ireturn, 1, 0, 0, false) else none)))
      else
       (bif Nat.ble 16 pc then (bif Nat.ble 19 pc then (bif Nat.beq pc 19 then some (.iconst (-1), 1, 0, -1, false) else none) else (bif Nat.beq pc 16 then some (.ifCond .ne 5, 3, 21, 0, false) else none)) else (bif Nat.beq pc 13 then some (.getfield 90, 3, 0, 0, false) else none)))
     else
      (bif Nat.ble 5 pc then
       (bif Nat.ble 9 pc then (bif Nat.ble 12 pc then (bif Nat.beq pc 12 then some (.aload_n 0, 1, 0, 0, false) else none) else (bif Nat.beq pc 9 then some (.ifCond .eq 10, 3, 19, 0, false) else none)) else (bif Nat.ble 6 pc then (bif Nat.beq pc 6 then some (.invokestatic 118, 3, 0, 0, false) else none) else (bif Nat.beq pc 5 then some (.iload_n 1, 1, 0, 0, false) else none)))
      else
       (bif Nat.ble 1 pc then (bif Nat.ble 2 pc then (bif Nat.beq pc 2 then some (.putfield 3, 3, 0, 0, false) else none) else (bif Nat.beq pc 1 then some (.iconst 0, 1, 0, 0, false) else none)) else (bif Nat.beq pc 0 then some (.aload_n 0, 1, 0, 0, false) else none)))))))
def qX8_walks (pc : Nat) : Option mIn :=
  (bif Nat.ble 22 pc then
   (bif Nat.ble 33 pc then
    (bif Nat.ble 41 pc then
     (bif Nat.ble 43 pc then (bif Nat.ble 46 pc then (bif Nat.beq pc 46 then some (.return_, 1, 0, 0, false) else none) else (bif Nat.beq pc 43 then some (.invokevirtual 201, 3, 0, 0, false) else none)) else (bif Nat.ble 42 pc then (bif Nat.beq pc 42 then some (.iconst 0, 1, 0, 0, false) else none) else (bif Nat.beq pc 41 then some (.iload_n 1, 1, 0, 0, false) else none)))
    else
     (bif Nat.ble 37 pc then (bif Nat.ble 40 pc then (bif Nat.beq pc 40 then some (.aload_n 0, 1, 0, 0, false) else none) else (bif Nat.beq pc 37 then some (.goto (-22), 3, 15, 0, false) else none)) else (bif Nat.ble 34 pc then (bif Nat.beq pc 34 then some (.iinc 2 1, 3, 0, 1, false) else none) else (bif Nat.beq pc 33 then some (.iastore, 1, 0, 0, false) else none))))
   else
    (bif Nat.ble 27 pc then
     (bif Nat.ble 31 pc then (bif Nat.ble 32 pc then (bif Nat.beq pc 32 then some (.iaload, 1, 0, 0, false) else none) else (bif Nat.beq pc 31 then some (.iload_n 2, 1, 0, 0, false) else none)) else (bif Nat.ble 28 pc then (bif Nat.beq pc 28 then some (.getfield 72, 3, 0, 0, false) else none) else (bif Nat.beq pc 27 then some (.aload_n 0, 1, 0, 0, false) else none)))
    else
     (bif Nat.ble 23 pc then (bif Nat.ble 26 pc then (bif Nat.beq pc 26 then some (.iload_n 2, 1, 0, 0, false) else none) else (bif Nat.beq pc 23 then some (.getfield 84, 3, 0, 0, false) else none)) else (bif Nat.beq pc 22 then some (.aload_n 0, 1, 0, 0, false) else none))))
  else
   (bif Nat.ble 9 pc then
    (bif Nat.ble 14 pc then
     (bif Nat.ble 16 pc then (bif Nat.ble 19 pc then (bif Nat.beq pc 19 then some (.if_icmp .ge 21, 3, 40, 0, false) else none) else (bif Nat.beq pc 16 then some (.sipush 144, 3, 0, 144, false) else none)) else (bif Nat.ble 15 pc then (bif Nat.beq pc 15 then some (.iload_n 2, 1, 0, 0, true) else none) else (bif Nat.beq pc 14 then some (.istore_n 2, 1, 0, 0, false) else none)))
    else
     (bif Nat.ble 10 pc then (bif Nat.ble 13 pc then (bif Nat.beq pc 13 then some (.iconst 0, 1, 0, 0, false) else none) else (bif Nat.beq pc 10 then some (.invokevirtual 215, 3, 0, 0, false) else none)) else (bif Nat.beq pc 9 then some (.iconst (-1), 1, 0, -1, false) else none)))
   else
    (bif Nat.ble 5 pc then
     (bif Nat.ble 7 pc then (bif Nat.ble 8 pc then (bif Nat.beq pc 8 then some (.isub, 1, 0, 0, false) else none) else (bif Nat.beq pc 7 then some (.iconst 1, 1, 0, 1, false) else none)) else (bif Nat.ble 6 pc then (bif Nat.beq pc 6 then some (.iaload, 1, 0, 0, false) else none) else (bif Nat.beq pc 5 then some (.iload_n 1, 1, 0, 0, false) else none)))
    else
     (bif Nat.ble 1 pc then (bif Nat.ble 2 pc then (bif Nat.beq pc 2 then some (.getfield 19, 3, 0, 0, false) else none) else (bif Nat.beq pc 1 then some (.aload_n 0, 1, 0, 0, false) else none)) else (bif Nat.beq pc 0 then some (.aload_n 0, 1, 0, 0, false) else none)))))
def qX8_shores (pc : Nat) : Option mIn :=
  (bif Nat.ble 22 pc then
   (bif Nat.ble 35 pc then
    (bif Nat.ble 38 pc then
     (bif Nat.ble 44 pc then (bif Nat.ble 45 pc then (bif Nat.beq pc 45 then some (.ireturn, 1, 0, 0, false) else none) else (bif Nat.beq pc 44 then some (.iload_n 1, 1, 0, 0, false) else none)) else (bif Nat.ble 41 pc then (bif Nat.beq pc 41 then some (.goto (-37), 3, 4, 0, false) else none) else (bif Nat.beq pc 38 then some (.iinc 2 1, 3, 0, 1, false) else none)))
    else
     (bif Nat.ble 36 pc then (bif Nat.ble 37 pc then (bif Nat.beq pc 37 then some (.istore_n 1, 1, 0, 0, false) else none) else (bif Nat.beq pc 36 then some (.iadd, 1, 0, 0, false) else none)) else (bif Nat.beq pc 35 then some (.iconst 0, 1, 0, 0, false) else none)))
   else
    (bif Nat.ble 27 pc then
     (bif Nat.ble 31 pc then (bif Nat.ble 32 pc then (bif Nat.beq pc 32 then some (.goto 4, 3, 36, 0, false) else none) else (bif Nat.beq pc 31 then some (.iconst 1, 1, 0, 1, false) else none)) else (bif Nat.ble 28 pc then (bif Nat.beq pc 28 then some (.ifCond .eq 7, 3, 35, 0, false) else none) else (bif Nat.beq pc 27 then some (.baload, 1, 0, 0, false) else none)))
    else
     (bif Nat.ble 23 pc then (bif Nat.ble 26 pc then (bif Nat.beq pc 26 then some (.iload_n 2, 1, 0, 0, false) else none) else (bif Nat.beq pc 23 then some (.getfield 69, 3, 0, 0, false) else none)) else (bif Nat.beq pc 22 then some (.aload_n 0, 1, 0, 0, false) else none))))
  else
   (bif Nat.ble 11 pc then
    (bif Nat.ble 16 pc then
     (bif Nat.ble 18 pc then (bif Nat.ble 19 pc then (bif Nat.beq pc 19 then some (.if_icmp .ne 16, 3, 35, 0, false) else none) else (bif Nat.beq pc 18 then some (.iload_n 2, 1, 0, 0, false) else none)) else (bif Nat.ble 17 pc then (bif Nat.beq pc 17 then some (.iaload, 1, 0, 0, false) else none) else (bif Nat.beq pc 16 then some (.iload_n 2, 1, 0, 0, false) else none)))
    else
     (bif Nat.ble 12 pc then (bif Nat.ble 13 pc then (bif Nat.beq pc 13 then some (.getfield 66, 3, 0, 0, false) else none) else (bif Nat.beq pc 12 then some (.aload_n 0, 1, 0, 0, false) else none)) else (bif Nat.beq pc 11 then some (.iload_n 1, 1, 0, 0, false) else none)))
   else
    (bif Nat.ble 3 pc then
     (bif Nat.ble 5 pc then (bif Nat.ble 8 pc then (bif Nat.beq pc 8 then some (.if_icmp .ge 36, 3, 44, 0, false) else none) else (bif Nat.beq pc 5 then some (.sipush 144, 3, 0, 144, false) else none)) else (bif Nat.ble 4 pc then (bif Nat.beq pc 4 then some (.iload_n 2, 1, 0, 0, true) else none) else (bif Nat.beq pc 3 then some (.istore_n 2, 1, 0, 0, false) else none)))
    else
     (bif Nat.ble 1 pc then (bif Nat.ble 2 pc then (bif Nat.beq pc 2 then some (.iconst 0, 1, 0, 0, false) else none) else (bif Nat.beq pc 1 then some (.istore_n 1, 1, 0, 0, false) else none)) else (bif Nat.beq pc 0 then some (.iconst 0, 1, 0, 0, false) else none)))))
def qX8_step (pc : Nat) : Option mIn :=
  (bif Nat.ble 115 pc then
   (bif Nat.ble 155 pc then
    (bif Nat.ble 176 pc then
     (bif Nat.ble 187 pc then
      (bif Nat.ble 192 pc then
       (bif Nat.ble 195 pc then (bif Nat.ble 196 pc then (bif Nat.beq pc 196 then some (.ireturn, 1, 0, 0, false) else none) else (bif Nat.beq pc 195 then some (.iload_n 3, 1, 0, 0, false) else none)) else (bif Nat.beq pc 192 then some (.goto (-45), 3, 147, 0, false) else none))
      else
       (bif Nat.ble 188 pc then (bif Nat.ble 189 pc then (bif Nat.beq pc 189 then some (.iinc 4 1, 3, 0, 1, false) else none) else (bif Nat.beq pc 188 then some (.istore_n 3, 1, 0, 0, false) else none)) else (bif Nat.beq pc 187 then some (.iadd, 1, 0, 0, false) else none)))
     else
      (bif Nat.ble 182 pc then
       (bif Nat.ble 183 pc then (bif Nat.ble 186 pc then (bif Nat.beq pc 186 then some (.iconst 0, 1, 0, 0, false) else none) else (bif Nat.beq pc 183 then some (.goto 4, 3, 187, 0, false) else none)) else (bif Nat.beq pc 182 then some (.iconst 1, 1, 0, 1, false) else none))
      else
       (bif Nat.ble 178 pc then (bif Nat.ble 179 pc then (bif Nat.beq pc 179 then some (.if_icmp .eq 7, 3, 186, 0, false) else none) else (bif Nat.beq pc 178 then some (.iaload, 1, 0, 0, false) else none)) else (bif Nat.beq pc 176 then some (.iload 4, 2, 0, 0, false) else none))))
    else
     (bif Nat.ble 165 pc then
      (bif Nat.ble 171 pc then
       (bif Nat.ble 172 pc then (bif Nat.ble 173 pc then (bif Nat.beq pc 173 then some (.getfield 84, 3, 0, 0, false) else none) else (bif Nat.beq pc 172 then some (.aload_n 0, 1, 0, 0, false) else none)) else (bif Nat.beq pc 171 then some (.iaload, 1, 0, 0, false) else none))
      else
       (bif Nat.ble 166 pc then (bif Nat.ble 169 pc then (bif Nat.beq pc 169 then some (.iload 4, 2, 0, 0, false) else none) else (bif Nat.beq pc 166 then some (.getfield 72, 3, 0, 0, false) else none)) else (bif Nat.beq pc 165 then some (.aload_n 0, 1, 0, 0, false) else none)))
     else
      (bif Nat.ble 157 pc then
       (bif Nat.ble 159 pc then (bif Nat.ble 162 pc then (bif Nat.beq pc 162 then some (.ifCond .eq 24, 3, 186, 0, false) else none) else (bif Nat.beq pc 159 then some (.invokevirtual 154, 3, 0, 0, false) else none)) else (bif Nat.beq pc 157 then some (.iload 4, 2, 0, 0, false) else none))
      else
       (bif Nat.ble 156 pc then (bif Nat.beq pc 156 then some (.aload_n 0, 1, 0, 0, false) else none) else (bif Nat.beq pc 155 then some (.iload_n 3, 1, 0, 0, false) else none)))))
   else
    (bif Nat.ble 136 pc then
     (bif Nat.ble 143 pc then
      (bif Nat.ble 147 pc then
       (bif Nat.ble 149 pc then (bif Nat.ble 152 pc then (bif Nat.beq pc 152 then some (.if_icmp .ge 43, 3, 195, 0, false) else none) else (bif Nat.beq pc 149 then some (.sipush 144, 3, 0, 144, false) else none)) else (bif Nat.beq pc 147 then some (.iload 4, 2, 0, 0, true) else none))
      else
       (bif Nat.ble 144 pc then (bif Nat.ble 145 pc then (bif Nat.beq pc 145 then some (.istore 4, 2, 0, 0, false) else none) else (bif Nat.beq pc 144 then some (.iconst 0, 1, 0, 0, false) else none)) else (bif Nat.beq pc 143 then some (.istore_n 3, 1, 0, 0, false) else none)))
     else
      (bif Nat.ble 138 pc then
       (bif Nat.ble 139 pc then (bif Nat.ble 142 pc then (bif Nat.beq pc 142 then some (.iconst 0, 1, 0, 0, false) else none) else (bif Nat.beq pc 139 then some (.invokevirtual 235, 3, 0, 0, false) else none)) else (bif Nat.beq pc 138 then some (.iload_n 1, 1, 0, 0, false) else none))
      else
       (bif Nat.ble 137 pc then (bif Nat.beq pc 137 then some (.aload_n 0, 1, 0, 0, false) else none) else (bif Nat.beq pc 136 then some (.ireturn, 1, 0, 0, false) else none))))
    else
     (bif Nat.ble 124 pc then
      (bif Nat.ble 131 pc then
       (bif Nat.ble 132 pc then (bif Nat.ble 135 pc then (bif Nat.beq pc 135 then some (.isub, 1, 0, 0, false) else none) else (bif Nat.beq pc 132 then some (.invokevirtual 232, 3, 0, 0, false) else none)) else (bif Nat.beq pc 131 then some (.aload_n 0, 1, 0, 0, false) else none))
      else
       (bif Nat.ble 127 pc then (bif Nat.ble 128 pc then (bif Nat.beq pc 128 then some (.getfield 173, 3, 0, 0, false) else none) else (bif Nat.beq pc 127 then some (.aload_n 0, 1, 0, 0, false) else none)) else (bif Nat.beq pc 124 then some (.invokevirtual 189, 3, 0, 0, false) else none)))
     else
      (bif Nat.ble 119 pc then
       (bif Nat.ble 122 pc then (bif Nat.ble 123 pc then (bif Nat.beq pc 123 then some (.aload_n 0, 1, 0, 0, false) else none) else (bif Nat.beq pc 122 then some (.ireturn, 1, 0, 0, false) else none)) else (bif Nat.beq pc 119 then some (.getfield 173, 3, 0, 0, false) else none))
      else
       (bif Nat.ble 118 pc then (bif Nat.beq pc 118 then some (.aload_n 0, 1, 0, 0, false) else none) else (bif Nat.beq pc 115 then some (.invokevirtual 189, 3, 0, 0, false) else none))))))
  else
   (bif Nat.ble 80 pc then
    (bif Nat.ble 95 pc then
     (bif Nat.ble 105 pc then
      (bif Nat.ble 112 pc then
       (bif Nat.ble 113 pc then (bif Nat.ble 114 pc then (bif Nat.beq pc 114 then some (.aload_n 0, 1, 0, 0, false) else none) else (bif Nat.beq pc 113 then some (.ireturn, 1, 0, 0, false) else none)) else (bif Nat.beq pc 112 then some (.iconst 0, 1, 0, 0, false) else none))
      else
       (bif Nat.ble 108 pc then (bif Nat.ble 109 pc then (bif Nat.beq pc 109 then some (.goto 4, 3, 113, 0, false) else none) else (bif Nat.beq pc 108 then some (.iconst 1, 1, 0, 1, false) else none)) else (bif Nat.beq pc 105 then some (.ifCond .eq 7, 3, 112, 0, false) else none)))
     else
      (bif Nat.ble 100 pc then
       (bif Nat.ble 101 pc then (bif Nat.ble 102 pc then (bif Nat.beq pc 102 then some (.invokevirtual 186, 3, 0, 0, false) else none) else (bif Nat.beq pc 101 then some (.iload_n 1, 1, 0, 0, false) else none)) else (bif Nat.beq pc 100 then some (.aload_n 0, 1, 0, 0, false) else none))
      else
       (bif Nat.ble 96 pc then (bif Nat.ble 99 pc then (bif Nat.beq pc 99 then some (.ireturn, 1, 0, 0, false) else none) else (bif Nat.beq pc 96 then some (.invokevirtual 166, 3, 0, 0, false) else none)) else (bif Nat.beq pc 95 then some (.aload_n 0, 1, 0, 0, false) else none))))
    else
     (bif Nat.ble 85 pc then
      (bif Nat.ble 90 pc then
       (bif Nat.ble 91 pc then (bif Nat.ble 94 pc then (bif Nat.beq pc 94 then some (.ireturn, 1, 0, 0, false) else none) else (bif Nat.beq pc 91 then some (.invokevirtual 229, 3, 0, 0, false) else none)) else (bif Nat.beq pc 90 then some (.iconst 2, 1, 0, 2, false) else none))
      else
       (bif Nat.ble 88 pc then (bif Nat.ble 89 pc then (bif Nat.beq pc 89 then some (.aload_n 0, 1, 0, 0, false) else none) else (bif Nat.beq pc 88 then some (.ireturn, 1, 0, 0, false) else none)) else (bif Nat.beq pc 85 then some (.invokevirtual 229, 3, 0, 0, false) else none)))
     else
      (bif Nat.ble 82 pc then
       (bif Nat.ble 83 pc then (bif Nat.ble 84 pc then (bif Nat.beq pc 84 then some (.iconst 1, 1, 0, 1, false) else none) else (bif Nat.beq pc 83 then some (.aload_n 0, 1, 0, 0, false) else none)) else (bif Nat.beq pc 82 then some (.ireturn, 1, 0, 0, false) else none))
      else
       (bif Nat.ble 81 pc then (bif Nat.beq pc 81 then some (.iaload, 1, 0, 0, false) else none) else (bif Nat.beq pc 80 then some (.iload_n 1, 1, 0, 0, false) else none)))))
   else
    (bif Nat.ble 19 pc then
     (bif Nat.ble 28 pc then
      (bif Nat.ble 33 pc then
       (bif Nat.ble 76 pc then (bif Nat.ble 77 pc then (bif Nat.beq pc 77 then some (.getfield 19, 3, 0, 0, false) else none) else (bif Nat.beq pc 76 then some (.aload_n 0, 1, 0, 0, false) else none)) else (bif Nat.beq pc 33 then some (.tableswitch 104 0 6 #[43, 50, 56, 62, 67, 81, 90], 43, 0, 0, false) else none))
      else
       (bif Nat.ble 29 pc then (bif Nat.ble 32 pc then (bif Nat.beq pc 32 then some (.iload_n 2, 1, 0, 0, false) else none) else (bif Nat.beq pc 29 then some (.invokevirtual 179, 3, 0, 0, false) else none)) else (bif Nat.beq pc 28 then some (.iload_n 1, 1, 0, 0, false) else none)))
     else
      (bif Nat.ble 25 pc then
       (bif Nat.ble 26 pc then (bif Nat.ble 27 pc then (bif Nat.beq pc 27 then some (.aload_n 0, 1, 0, 0, false) else none) else (bif Nat.beq pc 26 then some (.ireturn, 1, 0, 0, false) else none)) else (bif Nat.beq pc 25 then some (.iconst (-1), 1, 0, -1, false) else none))
      else
       (bif Nat.ble 22 pc then (bif Nat.beq pc 22 then some (.ifCond .ne 5, 3, 27, 0, false) else none) else (bif Nat.beq pc 19 then some (.invokestatic 96, 3, 0, 0, false) else none))))
    else
     (bif Nat.ble 7 pc then
      (bif Nat.ble 14 pc then
       (bif Nat.ble 15 pc then (bif Nat.ble 16 pc then (bif Nat.beq pc 16 then some (.ldc2_w 227, 3, 0, 0, false) else none) else (bif Nat.beq pc 15 then some (.lconst 0, 1, 0, 0, false) else none)) else (bif Nat.beq pc 14 then some (.i2l, 1, 0, 0, false) else none))
      else
       (bif Nat.ble 10 pc then (bif Nat.ble 13 pc then (bif Nat.beq pc 13 then some (.iload_n 2, 1, 0, 0, false) else none) else (bif Nat.beq pc 10 then some (.ifCond .eq 15, 3, 25, 0, false) else none)) else (bif Nat.beq pc 7 then some (.invokevirtual 141, 3, 0, 0, false) else none)))
     else
      (bif Nat.ble 2 pc then
       (bif Nat.ble 5 pc then (bif Nat.ble 6 pc then (bif Nat.beq pc 6 then some (.iload_n 1, 1, 0, 0, false) else none) else (bif Nat.beq pc 5 then some (.aload_n 0, 1, 0, 0, false) else none)) else (bif Nat.beq pc 2 then some (.putfield 3, 3, 0, 0, false) else none))
      else
       (bif Nat.ble 1 pc then (bif Nat.beq pc 1 then some (.iconst 0, 1, 0, 0, false) else none) else (bif Nat.beq pc 0 then some (.aload_n 0, 1, 0, 0, false) else none)))))))
def qX8_moved (pc : Nat) : Option mIn :=
  (bif Nat.ble 42 pc then
   (bif Nat.ble 66 pc then
    (bif Nat.ble 76 pc then
     (bif Nat.ble 79 pc then
      (bif Nat.ble 82 pc then (bif Nat.ble 83 pc then (bif Nat.beq pc 83 then some (.ireturn, 1, 0, 0, false) else none) else (bif Nat.beq pc 82 then some (.isub, 1, 0, 0, false) else none)) else (bif Nat.beq pc 79 then some (.invokevirtual 221, 3, 0, 0, false) else none))
     else
      (bif Nat.ble 77 pc then (bif Nat.ble 78 pc then (bif Nat.beq pc 78 then some (.iload_n 1, 1, 0, 0, false) else none) else (bif Nat.beq pc 77 then some (.isub, 1, 0, 0, false) else none)) else (bif Nat.beq pc 76 then some (.iconst 1, 1, 0, 1, false) else none)))
    else
     (bif Nat.ble 73 pc then
      (bif Nat.ble 74 pc then (bif Nat.ble 75 pc then (bif Nat.beq pc 75 then some (.iload_n 2, 1, 0, 0, false) else none) else (bif Nat.beq pc 74 then some (.aload_n 0, 1, 0, 0, false) else none)) else (bif Nat.beq pc 73 then some (.iload_n 3, 1, 0, 0, false) else none))
     else
      (bif Nat.ble 67 pc then (bif Nat.ble 70 pc then (bif Nat.beq pc 70 then some (.goto (-25), 3, 45, 0, false) else none) else (bif Nat.beq pc 67 then some (.iinc 4 1, 3, 0, 1, false) else none)) else (bif Nat.beq pc 66 then some (.iastore, 1, 0, 0, false) else none))))
   else
    (bif Nat.ble 54 pc then
     (bif Nat.ble 60 pc then
      (bif Nat.ble 63 pc then (bif Nat.ble 65 pc then (bif Nat.beq pc 65 then some (.iaload, 1, 0, 0, false) else none) else (bif Nat.beq pc 63 then some (.iload 4, 2, 0, 0, false) else none)) else (bif Nat.beq pc 60 then some (.getfield 84, 3, 0, 0, false) else none))
     else
      (bif Nat.ble 57 pc then (bif Nat.ble 59 pc then (bif Nat.beq pc 59 then some (.aload_n 0, 1, 0, 0, false) else none) else (bif Nat.beq pc 57 then some (.iload 4, 2, 0, 0, false) else none)) else (bif Nat.beq pc 54 then some (.getfield 72, 3, 0, 0, false) else none)))
    else
     (bif Nat.ble 47 pc then
      (bif Nat.ble 50 pc then (bif Nat.ble 53 pc then (bif Nat.beq pc 53 then some (.aload_n 0, 1, 0, 0, false) else none) else (bif Nat.beq pc 50 then some (.if_icmp .ge 23, 3, 73, 0, false) else none)) else (bif Nat.beq pc 47 then some (.sipush 144, 3, 0, 144, false) else none))
     else
      (bif Nat.ble 43 pc then (bif Nat.ble 45 pc then (bif Nat.beq pc 45 then some (.iload 4, 2, 0, 0, true) else none) else (bif Nat.beq pc 43 then some (.istore 4, 2, 0, 0, false) else none)) else (bif Nat.beq pc 42 then some (.iconst 0, 1, 0, 0, false) else none)))))
  else
   (bif Nat.ble 22 pc then
    (bif Nat.ble 32 pc then
     (bif Nat.ble 37 pc then
      (bif Nat.ble 38 pc then (bif Nat.ble 41 pc then (bif Nat.beq pc 41 then some (.istore_n 3, 1, 0, 0, false) else none) else (bif Nat.beq pc 38 then some (.invokevirtual 221, 3, 0, 0, false) else none)) else (bif Nat.beq pc 37 then some (.iload_n 1, 1, 0, 0, false) else none))
     else
      (bif Nat.ble 35 pc then (bif Nat.ble 36 pc then (bif Nat.beq pc 36 then some (.iload_n 2, 1, 0, 0, false) else none) else (bif Nat.beq pc 35 then some (.aload_n 0, 1, 0, 0, false) else none)) else (bif Nat.beq pc 32 then some (.invokevirtual 235, 3, 0, 0, false) else none)))
    else
     (bif Nat.ble 29 pc then
      (bif Nat.ble 30 pc then (bif Nat.ble 31 pc then (bif Nat.beq pc 31 then some (.iload_n 2, 1, 0, 0, false) else none) else (bif Nat.beq pc 30 then some (.aload_n 0, 1, 0, 0, false) else none)) else (bif Nat.beq pc 29 then some (.ireturn, 1, 0, 0, false) else none))
     else
      (bif Nat.ble 25 pc then (bif Nat.ble 26 pc then (bif Nat.beq pc 26 then some (.invokevirtual 238, 3, 0, 0, false) else none) else (bif Nat.beq pc 25 then some (.aload_n 0, 1, 0, 0, false) else none)) else (bif Nat.beq pc 22 then some (.ifCond .ne 8, 3, 30, 0, false) else none))))
   else
    (bif Nat.ble 8 pc then
     (bif Nat.ble 17 pc then
      (bif Nat.ble 18 pc then (bif Nat.ble 19 pc then (bif Nat.beq pc 19 then some (.invokevirtual 141, 3, 0, 0, false) else none) else (bif Nat.beq pc 18 then some (.iload_n 2, 1, 0, 0, false) else none)) else (bif Nat.beq pc 17 then some (.aload_n 0, 1, 0, 0, false) else none))
     else
      (bif Nat.ble 11 pc then (bif Nat.ble 14 pc then (bif Nat.beq pc 14 then some (.ifCond .eq 11, 3, 25, 0, false) else none) else (bif Nat.beq pc 11 then some (.invokestatic 96, 3, 0, 0, false) else none)) else (bif Nat.beq pc 8 then some (.ldc2_w 132, 3, 0, 0, false) else none)))
    else
     (bif Nat.ble 5 pc then
      (bif Nat.ble 6 pc then (bif Nat.ble 7 pc then (bif Nat.beq pc 7 then some (.lconst 0, 1, 0, 0, false) else none) else (bif Nat.beq pc 6 then some (.i2l, 1, 0, 0, false) else none)) else (bif Nat.beq pc 5 then some (.iload_n 1, 1, 0, 0, false) else none))
     else
      (bif Nat.ble 1 pc then (bif Nat.ble 2 pc then (bif Nat.beq pc 2 then some (.putfield 3, 3, 0, 0, false) else none) else (bif Nat.beq pc 1 then some (.iconst 0, 1, 0, 0, false) else none)) else (bif Nat.beq pc 0 then some (.aload_n 0, 1, 0, 0, false) else none))))))
def qX8_unlike (pc : Nat) : Option mIn :=
  (bif Nat.ble 42 pc then
   (bif Nat.ble 69 pc then
    (bif Nat.ble 83 pc then
     (bif Nat.ble 86 pc then
      (bif Nat.ble 92 pc then (bif Nat.ble 93 pc then (bif Nat.beq pc 93 then some (.ireturn, 1, 0, 0, false) else none) else (bif Nat.beq pc 92 then some (.iload_n 3, 1, 0, 0, false) else none)) else (bif Nat.ble 89 pc then (bif Nat.beq pc 89 then some (.goto (-45), 3, 44, 0, false) else none) else (bif Nat.beq pc 86 then some (.iinc 4 1, 3, 0, 1, false) else none)))
     else
      (bif Nat.ble 84 pc then (bif Nat.ble 85 pc then (bif Nat.beq pc 85 then some (.istore_n 3, 1, 0, 0, false) else none) else (bif Nat.beq pc 84 then some (.iadd, 1, 0, 0, false) else none)) else (bif Nat.beq pc 83 then some (.iconst 0, 1, 0, 0, false) else none)))
    else
     (bif Nat.ble 75 pc then
      (bif Nat.ble 79 pc then (bif Nat.ble 80 pc then (bif Nat.beq pc 80 then some (.goto 4, 3, 84, 0, false) else none) else (bif Nat.beq pc 79 then some (.iconst 1, 1, 0, 1, false) else none)) else (bif Nat.ble 76 pc then (bif Nat.beq pc 76 then some (.if_icmp .eq 7, 3, 83, 0, false) else none) else (bif Nat.beq pc 75 then some (.iaload, 1, 0, 0, false) else none)))
     else
      (bif Nat.ble 70 pc then (bif Nat.ble 73 pc then (bif Nat.beq pc 73 then some (.iload 4, 2, 0, 0, false) else none) else (bif Nat.beq pc 70 then some (.getfield 84, 3, 0, 0, false) else none)) else (bif Nat.beq pc 69 then some (.aload_n 0, 1, 0, 0, false) else none))))
   else
    (bif Nat.ble 54 pc then
     (bif Nat.ble 62 pc then
      (bif Nat.ble 66 pc then (bif Nat.ble 68 pc then (bif Nat.beq pc 68 then some (.iaload, 1, 0, 0, false) else none) else (bif Nat.beq pc 66 then some (.iload 4, 2, 0, 0, false) else none)) else (bif Nat.ble 63 pc then (bif Nat.beq pc 63 then some (.getfield 72, 3, 0, 0, false) else none) else (bif Nat.beq pc 62 then some (.aload_n 0, 1, 0, 0, false) else none)))
     else
      (bif Nat.ble 56 pc then (bif Nat.ble 59 pc then (bif Nat.beq pc 59 then some (.ifCond .eq 24, 3, 83, 0, false) else none) else (bif Nat.beq pc 56 then some (.invokevirtual 154, 3, 0, 0, false) else none)) else (bif Nat.beq pc 54 then some (.iload 4, 2, 0, 0, false) else none)))
    else
     (bif Nat.ble 49 pc then
      (bif Nat.ble 52 pc then (bif Nat.ble 53 pc then (bif Nat.beq pc 53 then some (.aload_n 0, 1, 0, 0, false) else none) else (bif Nat.beq pc 52 then some (.iload_n 3, 1, 0, 0, false) else none)) else (bif Nat.beq pc 49 then some (.if_icmp .ge 43, 3, 92, 0, false) else none))
     else
      (bif Nat.ble 44 pc then (bif Nat.ble 46 pc then (bif Nat.beq pc 46 then some (.sipush 144, 3, 0, 144, false) else none) else (bif Nat.beq pc 44 then some (.iload 4, 2, 0, 0, true) else none)) else (bif Nat.beq pc 42 then some (.istore 4, 2, 0, 0, false) else none)))))
  else
   (bif Nat.ble 21 pc then
    (bif Nat.ble 33 pc then
     (bif Nat.ble 36 pc then
      (bif Nat.ble 40 pc then (bif Nat.ble 41 pc then (bif Nat.beq pc 41 then some (.iconst 0, 1, 0, 0, false) else none) else (bif Nat.beq pc 40 then some (.istore_n 3, 1, 0, 0, false) else none)) else (bif Nat.ble 39 pc then (bif Nat.beq pc 39 then some (.iconst 0, 1, 0, 0, false) else none) else (bif Nat.beq pc 36 then some (.invokevirtual 215, 3, 0, 0, false) else none)))
     else
      (bif Nat.ble 34 pc then (bif Nat.ble 35 pc then (bif Nat.beq pc 35 then some (.iload_n 1, 1, 0, 0, false) else none) else (bif Nat.beq pc 34 then some (.iload_n 2, 1, 0, 0, false) else none)) else (bif Nat.beq pc 33 then some (.aload_n 0, 1, 0, 0, false) else none)))
    else
     (bif Nat.ble 26 pc then
      (bif Nat.ble 27 pc then (bif Nat.ble 30 pc then (bif Nat.beq pc 30 then some (.goto (-22), 3, 8, 0, false) else none) else (bif Nat.beq pc 27 then some (.iinc 3 1, 3, 0, 1, false) else none)) else (bif Nat.beq pc 26 then some (.iastore, 1, 0, 0, false) else none))
     else
      (bif Nat.ble 24 pc then (bif Nat.ble 25 pc then (bif Nat.beq pc 25 then some (.iaload, 1, 0, 0, false) else none) else (bif Nat.beq pc 24 then some (.iload_n 3, 1, 0, 0, false) else none)) else (bif Nat.beq pc 21 then some (.getfield 72, 3, 0, 0, false) else none))))
   else
    (bif Nat.ble 8 pc then
     (bif Nat.ble 15 pc then
      (bif Nat.ble 19 pc then (bif Nat.ble 20 pc then (bif Nat.beq pc 20 then some (.aload_n 0, 1, 0, 0, false) else none) else (bif Nat.beq pc 19 then some (.iload_n 3, 1, 0, 0, false) else none)) else (bif Nat.ble 16 pc then (bif Nat.beq pc 16 then some (.getfield 84, 3, 0, 0, false) else none) else (bif Nat.beq pc 15 then some (.aload_n 0, 1, 0, 0, false) else none)))
     else
      (bif Nat.ble 9 pc then (bif Nat.ble 12 pc then (bif Nat.beq pc 12 then some (.if_icmp .ge 21, 3, 33, 0, false) else none) else (bif Nat.beq pc 9 then some (.sipush 144, 3, 0, 144, false) else none)) else (bif Nat.beq pc 8 then some (.iload_n 3, 1, 0, 0, true) else none)))
    else
     (bif Nat.ble 3 pc then
      (bif Nat.ble 6 pc then (bif Nat.ble 7 pc then (bif Nat.beq pc 7 then some (.istore_n 3, 1, 0, 0, false) else none) else (bif Nat.beq pc 6 then some (.iconst 0, 1, 0, 0, false) else none)) else (bif Nat.beq pc 3 then some (.invokevirtual 215, 3, 0, 0, false) else none))
     else
      (bif Nat.ble 1 pc then (bif Nat.ble 2 pc then (bif Nat.beq pc 2 then some (.iconst (-1), 1, 0, -1, false) else none) else (bif Nat.beq pc 1 then some (.iload_n 2, 1, 0, 0, false) else none)) else (bif Nat.beq pc 0 then some (.aload_n 0, 1, 0, 0, false) else none))))))
def qX8_doubt (pc : Nat) : Option mIn :=
  (bif Nat.ble 14 pc then
   (bif Nat.ble 22 pc then
    (bif Nat.ble 26 pc then
     (bif Nat.ble 29 pc then (bif Nat.ble 30 pc then (bif Nat.beq pc 30 then some (.ireturn, 1, 0, 0, false) else none) else (bif Nat.beq pc 29 then some (.iconst (-1), 1, 0, -1, false) else none)) else (bif Nat.beq pc 26 then some (.goto 4, 3, 30, 0, false) else none))
    else
     (bif Nat.ble 23 pc then (bif Nat.beq pc 23 then some (.invokevirtual 241, 3, 0, 0, false) else none) else (bif Nat.beq pc 22 then some (.iload_n 2, 1, 0, 0, false) else none)))
   else
    (bif Nat.ble 20 pc then (bif Nat.ble 21 pc then (bif Nat.beq pc 21 then some (.iload_n 1, 1, 0, 0, false) else none) else (bif Nat.beq pc 20 then some (.aload_n 0, 1, 0, 0, false) else none)) else (bif Nat.ble 17 pc then (bif Nat.beq pc 17 then some (.ifCond .eq 12, 3, 29, 0, false) else none) else (bif Nat.beq pc 14 then some (.invokestatic 118, 3, 0, 0, false) else none))))
  else
   (bif Nat.ble 6 pc then
    (bif Nat.ble 10 pc then (bif Nat.ble 13 pc then (bif Nat.beq pc 13 then some (.iload_n 2, 1, 0, 0, false) else none) else (bif Nat.beq pc 10 then some (.ifCond .eq 19, 3, 29, 0, false) else none)) else (bif Nat.ble 7 pc then (bif Nat.beq pc 7 then some (.invokevirtual 141, 3, 0, 0, false) else none) else (bif Nat.beq pc 6 then some (.iload_n 1, 1, 0, 0, false) else none)))
   else
    (bif Nat.ble 2 pc then (bif Nat.ble 5 pc then (bif Nat.beq pc 5 then some (.aload_n 0, 1, 0, 0, false) else none) else (bif Nat.beq pc 2 then some (.putfield 3, 3, 0, 0, false) else none)) else (bif Nat.ble 1 pc then (bif Nat.beq pc 1 then some (.iconst 0, 1, 0, 0, false) else none) else (bif Nat.beq pc 0 then some (.aload_n 0, 1, 0, 0, false) else none)))))
def qX8_weak (pc : Nat) : Option mIn :=
  (bif Nat.ble 35 pc then
   (bif Nat.ble 56 pc then
    (bif Nat.ble 65 pc then
     (bif Nat.ble 69 pc then
      (bif Nat.ble 72 pc then (bif Nat.ble 73 pc then (bif Nat.beq pc 73 then some (.ireturn, 1, 0, 0, false) else none) else (bif Nat.beq pc 72 then some (.iload_n 2, 1, 0, 0, false) else none)) else (bif Nat.beq pc 69 then some (.goto (-57), 3, 12, 0, false) else none))
     else
      (bif Nat.ble 66 pc then (bif Nat.beq pc 66 then some (.iinc 4 1, 3, 0, 1, false) else none) else (bif Nat.beq pc 65 then some (.istore_n 3, 1, 0, 0, false) else none)))
    else
     (bif Nat.ble 60 pc then
      (bif Nat.ble 62 pc then (bif Nat.ble 63 pc then (bif Nat.beq pc 63 then some (.iload 5, 2, 0, 0, false) else none) else (bif Nat.beq pc 62 then some (.istore_n 2, 1, 0, 0, false) else none)) else (bif Nat.beq pc 60 then some (.iload 4, 2, 0, 0, false) else none))
     else
      (bif Nat.ble 57 pc then (bif Nat.beq pc 57 then some (.if_icmp .le 9, 3, 66, 0, false) else none) else (bif Nat.beq pc 56 then some (.iload_n 3, 1, 0, 0, false) else none))))
   else
    (bif Nat.ble 45 pc then
     (bif Nat.ble 50 pc then
      (bif Nat.ble 51 pc then (bif Nat.ble 54 pc then (bif Nat.beq pc 54 then some (.iload 5, 2, 0, 0, false) else none) else (bif Nat.beq pc 51 then some (.ifCond .lt 9, 3, 60, 0, false) else none)) else (bif Nat.beq pc 50 then some (.iload_n 2, 1, 0, 0, false) else none))
     else
      (bif Nat.ble 48 pc then (bif Nat.beq pc 48 then some (.istore 5, 2, 0, 0, false) else none) else (bif Nat.beq pc 45 then some (.invokevirtual 241, 3, 0, 0, false) else none)))
    else
     (bif Nat.ble 41 pc then
      (bif Nat.ble 42 pc then (bif Nat.ble 44 pc then (bif Nat.beq pc 44 then some (.iload_n 1, 1, 0, 0, false) else none) else (bif Nat.beq pc 42 then some (.iload 4, 2, 0, 0, false) else none)) else (bif Nat.beq pc 41 then some (.aload_n 0, 1, 0, 0, false) else none))
     else
      (bif Nat.ble 38 pc then (bif Nat.beq pc 38 then some (.goto 28, 3, 66, 0, false) else none) else (bif Nat.beq pc 35 then some (.ifCond .lt 6, 3, 41, 0, false) else none)))))
  else
   (bif Nat.ble 14 pc then
    (bif Nat.ble 25 pc then
     (bif Nat.ble 29 pc then
      (bif Nat.ble 32 pc then (bif Nat.ble 34 pc then (bif Nat.beq pc 34 then some (.iaload, 1, 0, 0, false) else none) else (bif Nat.beq pc 32 then some (.iload 4, 2, 0, 0, false) else none)) else (bif Nat.beq pc 29 then some (.getfield 60, 3, 0, 0, false) else none))
     else
      (bif Nat.ble 28 pc then (bif Nat.beq pc 28 then some (.aload_n 0, 1, 0, 0, false) else none) else (bif Nat.beq pc 25 then some (.ifCond .eq 47, 3, 72, 0, false) else none)))
    else
     (bif Nat.ble 18 pc then
      (bif Nat.ble 21 pc then (bif Nat.ble 22 pc then (bif Nat.beq pc 22 then some (.invokestatic 118, 3, 0, 0, false) else none) else (bif Nat.beq pc 21 then some (.iload_n 1, 1, 0, 0, false) else none)) else (bif Nat.beq pc 18 then some (.if_icmp .ge 54, 3, 72, 0, false) else none))
     else
      (bif Nat.ble 15 pc then (bif Nat.beq pc 15 then some (.getfield 90, 3, 0, 0, false) else none) else (bif Nat.beq pc 14 then some (.aload_n 0, 1, 0, 0, false) else none))))
   else
    (bif Nat.ble 7 pc then
     (bif Nat.ble 9 pc then
      (bif Nat.ble 10 pc then (bif Nat.ble 12 pc then (bif Nat.beq pc 12 then some (.iload 4, 2, 0, 0, true) else none) else (bif Nat.beq pc 10 then some (.istore 4, 2, 0, 0, false) else none)) else (bif Nat.beq pc 9 then some (.iconst 1, 1, 0, 1, false) else none))
     else
      (bif Nat.ble 8 pc then (bif Nat.beq pc 8 then some (.istore_n 3, 1, 0, 0, false) else none) else (bif Nat.beq pc 7 then some (.iconst 0, 1, 0, 0, false) else none)))
    else
     (bif Nat.ble 2 pc then
      (bif Nat.ble 5 pc then (bif Nat.ble 6 pc then (bif Nat.beq pc 6 then some (.istore_n 2, 1, 0, 0, false) else none) else (bif Nat.beq pc 5 then some (.iconst (-1), 1, 0, -1, false) else none)) else (bif Nat.beq pc 2 then some (.putfield 3, 3, 0, 0, false) else none))
     else
      (bif Nat.ble 1 pc then (bif Nat.beq pc 1 then some (.iconst 0, 1, 0, 0, false) else none) else (bif Nat.beq pc 0 then some (.aload_n 0, 1, 0, 0, false) else none))))))
def qX8_row (pc : Nat) : Option mIn :=
  (bif Nat.ble 14 pc then
   (bif Nat.ble 25 pc then
    (bif Nat.ble 30 pc then
     (bif Nat.ble 31 pc then (bif Nat.ble 34 pc then (bif Nat.beq pc 34 then some (.ireturn, 1, 0, 0, false) else none) else (bif Nat.beq pc 31 then some (.invokevirtual 238, 3, 0, 0, false) else none)) else (bif Nat.beq pc 30 then some (.aload_n 0, 1, 0, 0, false) else none))
    else
     (bif Nat.ble 26 pc then (bif Nat.ble 27 pc then (bif Nat.beq pc 27 then some (.goto 7, 3, 34, 0, false) else none) else (bif Nat.beq pc 26 then some (.iaload, 1, 0, 0, false) else none)) else (bif Nat.beq pc 25 then some (.iload_n 1, 1, 0, 0, false) else none)))
   else
    (bif Nat.ble 18 pc then
     (bif Nat.ble 21 pc then (bif Nat.ble 22 pc then (bif Nat.beq pc 22 then some (.getfield 78, 3, 0, 0, false) else none) else (bif Nat.beq pc 21 then some (.aload_n 0, 1, 0, 0, false) else none)) else (bif Nat.beq pc 18 then some (.ifCond .eq 12, 3, 30, 0, false) else none))
    else
     (bif Nat.ble 15 pc then (bif Nat.beq pc 15 then some (.invokestatic 96, 3, 0, 0, false) else none) else (bif Nat.beq pc 14 then some (.i2l, 1, 0, 0, false) else none))))
  else
   (bif Nat.ble 7 pc then
    (bif Nat.ble 9 pc then
     (bif Nat.ble 12 pc then (bif Nat.ble 13 pc then (bif Nat.beq pc 13 then some (.isub, 1, 0, 0, false) else none) else (bif Nat.beq pc 12 then some (.iconst 1, 1, 0, 1, false) else none)) else (bif Nat.beq pc 9 then some (.getfield 144, 3, 0, 0, false) else none))
    else
     (bif Nat.ble 8 pc then (bif Nat.beq pc 8 then some (.aload_n 0, 1, 0, 0, false) else none) else (bif Nat.beq pc 7 then some (.lconst 0, 1, 0, 0, false) else none)))
   else
    (bif Nat.ble 2 pc then
     (bif Nat.ble 5 pc then (bif Nat.ble 6 pc then (bif Nat.beq pc 6 then some (.i2l, 1, 0, 0, false) else none) else (bif Nat.beq pc 5 then some (.iload_n 1, 1, 0, 0, false) else none)) else (bif Nat.beq pc 2 then some (.putfield 3, 3, 0, 0, false) else none))
    else
     (bif Nat.ble 1 pc then (bif Nat.beq pc 1 then some (.iconst 0, 1, 0, 0, false) else none) else (bif Nat.beq pc 0 then some (.aload_n 0, 1, 0, 0, false) else none)))))
def qJ7_fill_53178 (pc : Nat) : Option mIn :=
  (bif Nat.ble 7 pc then
   (bif Nat.ble 13 pc then
    (bif Nat.ble 17 pc then (bif Nat.ble 20 pc then (bif Nat.beq pc 20 then some (.return_, 1, 0, 0, false) else none) else (bif Nat.beq pc 17 then some (.goto (-12), 3, 5, 0, false) else none)) else (bif Nat.ble 14 pc then (bif Nat.beq pc 14 then some (.iinc 2 1, 3, 0, 1, false) else none) else (bif Nat.beq pc 13 then some (.iastore, 1, 0, 0, false) else none)))
   else
    (bif Nat.ble 11 pc then (bif Nat.ble 12 pc then (bif Nat.beq pc 12 then some (.iload_n 1, 1, 0, 0, false) else none) else (bif Nat.beq pc 11 then some (.iload_n 2, 1, 0, 0, false) else none)) else (bif Nat.ble 10 pc then (bif Nat.beq pc 10 then some (.aload_n 0, 1, 0, 0, false) else none) else (bif Nat.beq pc 7 then some (.if_icmp .ge 13, 3, 20, 0, false) else none))))
  else
   (bif Nat.ble 3 pc then
    (bif Nat.ble 5 pc then (bif Nat.ble 6 pc then (bif Nat.beq pc 6 then some (.iload_n 3, 1, 0, 0, false) else none) else (bif Nat.beq pc 5 then some (.iload_n 2, 1, 0, 0, true) else none)) else (bif Nat.ble 4 pc then (bif Nat.beq pc 4 then some (.istore_n 3, 1, 0, 0, false) else none) else (bif Nat.beq pc 3 then some (.arraylength, 1, 0, 0, false) else none)))
   else
    (bif Nat.ble 1 pc then (bif Nat.ble 2 pc then (bif Nat.beq pc 2 then some (.aload_n 0, 1, 0, 0, false) else none) else (bif Nat.beq pc 1 then some (.istore_n 2, 1, 0, 0, false) else none)) else (bif Nat.beq pc 0 then some (.iconst 0, 1, 0, 0, false) else none))))
def codb (k : Nat) : Nat → Option mIn :=
  (bif Nat.ble 73 k then
   (bif Nat.ble 109 k then
    (bif Nat.ble 127 k then
     (bif Nat.ble 136 k then
      (bif Nat.ble 141 k then
       (bif Nat.ble 143 k then
        (bif Nat.ble 144 k then (bif Nat.ble 145 k then (bif Nat.beq k 145 then qJ7_fill_53178 else (fun _ => none)) else (bif Nat.beq k 144 then qX8_row else (fun _ => none))) else (bif Nat.beq k 143 then qX8_weak else (fun _ => none)))
       else
        (bif Nat.ble 142 k then (bif Nat.beq k 142 then qX8_doubt else (fun _ => none)) else (bif Nat.beq k 141 then qX8_unlike else (fun _ => none))))
      else
       (bif Nat.ble 138 k then
        (bif Nat.ble 139 k then (bif Nat.ble 140 k then (bif Nat.beq k 140 then qX8_moved else (fun _ => none)) else (bif Nat.beq k 139 then qX8_step else (fun _ => none))) else (bif Nat.beq k 138 then qX8_shores else (fun _ => none)))
       else
        (bif Nat.ble 137 k then (bif Nat.beq k 137 then qX8_walks else (fun _ => none)) else (bif Nat.beq k 136 then qX8_banks else (fun _ => none)))))
     else
      (bif Nat.ble 131 k then
       (bif Nat.ble 133 k then
        (bif Nat.ble 134 k then (bif Nat.ble 135 k then (bif Nat.beq k 135 then qX8_chain else (fun _ => none)) else (bif Nat.beq k 134 then qX8_tax else (fun _ => none))) else (bif Nat.beq k 133 then qX8_front else (fun _ => none)))
       else
        (bif Nat.ble 132 k then (bif Nat.beq k 132 then qX8_isByWater else (fun _ => none)) else (bif Nat.beq k 131 then qX8_area else (fun _ => none))))
      else
       (bif Nat.ble 129 k then (bif Nat.ble 130 k then (bif Nat.beq k 130 then qX8_isAsked else (fun _ => none)) else (bif Nat.beq k 129 then qX8_areaOn else (fun _ => none))) else (bif Nat.ble 128 k then (bif Nat.beq k 128 then qX8_owner else (fun _ => none)) else (bif Nat.beq k 127 then qX8_upTo else (fun _ => none))))))
    else
     (bif Nat.ble 118 k then
      (bif Nat.ble 122 k then
       (bif Nat.ble 124 k then
        (bif Nat.ble 125 k then (bif Nat.ble 126 k then (bif Nat.beq k 126 then qX8_goes else (fun _ => none)) else (bif Nat.beq k 125 then qX8_deedsIn else (fun _ => none))) else (bif Nat.beq k 124 then qX8_stepIn else (fun _ => none)))
       else
        (bif Nat.ble 123 k then (bif Nat.beq k 123 then qX8_begins else (fun _ => none)) else (bif Nat.beq k 122 then qX8_steps else (fun _ => none))))
      else
       (bif Nat.ble 120 k then (bif Nat.ble 121 k then (bif Nat.beq k 121 then qX8_lawIn else (fun _ => none)) else (bif Nat.beq k 120 then qX8_nearestToPart else (fun _ => none))) else (bif Nat.ble 119 k then (bif Nat.beq k 119 then qX8_awayFromPart else (fun _ => none)) else (bif Nat.beq k 118 then qX8_nearest else (fun _ => none)))))
     else
      (bif Nat.ble 113 k then
       (bif Nat.ble 115 k then
        (bif Nat.ble 116 k then (bif Nat.ble 117 k then (bif Nat.beq k 117 then qX8_findsParts else (fun _ => none)) else (bif Nat.beq k 116 then qX8_isSudden else (fun _ => none))) else (bif Nat.beq k 115 then qX8_far else (fun _ => none)))
       else
        (bif Nat.ble 114 k then (bif Nat.beq k 114 then qX8_kindsOf else (fun _ => none)) else (bif Nat.beq k 113 then qX8_away else (fun _ => none))))
      else
       (bif Nat.ble 111 k then (bif Nat.ble 112 k then (bif Nat.beq k 112 then qX8_apart else (fun _ => none)) else (bif Nat.beq k 111 then qX8_kinds else (fun _ => none))) else (bif Nat.ble 110 k then (bif Nat.beq k 110 then qX8_wet else (fun _ => none)) else (bif Nat.beq k 109 then qX8_isOn else (fun _ => none)))))))
   else
    (bif Nat.ble 91 k then
     (bif Nat.ble 100 k then
      (bif Nat.ble 104 k then
       (bif Nat.ble 106 k then
        (bif Nat.ble 107 k then (bif Nat.ble 108 k then (bif Nat.beq k 108 then qX8_isWet else (fun _ => none)) else (bif Nat.beq k 107 then qX8_mapIn else (fun _ => none))) else (bif Nat.beq k 106 then qX8_count else (fun _ => none)))
       else
        (bif Nat.ble 105 k then (bif Nat.beq k 105 then qX8_judge else (fun _ => none)) else (bif Nat.beq k 104 then qX8_isStep else (fun _ => none))))
      else
       (bif Nat.ble 102 k then (bif Nat.ble 103 k then (bif Nat.beq k 103 then qX8_reach else (fun _ => none)) else (bif Nat.beq k 102 then qX8_law else (fun _ => none))) else (bif Nat.ble 101 k then (bif Nat.beq k 101 then qX8_strike else (fun _ => none)) else (bif Nat.beq k 100 then qX8_deed else (fun _ => none)))))
     else
      (bif Nat.ble 95 k then
       (bif Nat.ble 97 k then
        (bif Nat.ble 98 k then (bif Nat.ble 99 k then (bif Nat.beq k 99 then qX8_own else (fun _ => none)) else (bif Nat.beq k 98 then qX8_isInBox else (fun _ => none))) else (bif Nat.beq k 97 then qX8_isBox else (fun _ => none)))
       else
        (bif Nat.ble 96 k then (bif Nat.beq k 96 then qX8_map else (fun _ => none)) else (bif Nat.beq k 95 then qX8_sheet else (fun _ => none))))
      else
       (bif Nat.ble 93 k then (bif Nat.ble 94 k then (bif Nat.beq k 94 then qX8_water else (fun _ => none)) else (bif Nat.beq k 93 then qX8_rowOf else (fun _ => none))) else (bif Nat.ble 92 k then (bif Nat.beq k 92 then qX8_land else (fun _ => none)) else (bif Nat.beq k 91 then qX8_cell else (fun _ => none))))))
    else
     (bif Nat.ble 82 k then
      (bif Nat.ble 86 k then
       (bif Nat.ble 88 k then
        (bif Nat.ble 89 k then (bif Nat.ble 90 k then (bif Nat.beq k 90 then qX8_isYear else (fun _ => none)) else (bif Nat.beq k 89 then qX8_isCell else (fun _ => none))) else (bif Nat.beq k 88 then qX8_lays else (fun _ => none)))
       else
        (bif Nat.ble 87 k then (bif Nat.beq k 87 then qX8_refuse else (fun _ => none)) else (bif Nat.beq k 86 then qX8_in else (fun _ => none))))
      else
       (bif Nat.ble 84 k then (bif Nat.ble 85 k then (bif Nat.beq k 85 then qX8_thrown else (fun _ => none)) else (bif Nat.beq k 84 then qX7_isOwnerOrNone else (fun _ => none))) else (bif Nat.ble 83 k then (bif Nat.beq k 83 then qX7_isOwner else (fun _ => none)) else (bif Nat.beq k 82 then qX7_isYear else (fun _ => none)))))
     else
      (bif Nat.ble 77 k then
       (bif Nat.ble 79 k then
        (bif Nat.ble 80 k then (bif Nat.ble 81 k then (bif Nat.beq k 81 then qX7_isBetween else (fun _ => none)) else (bif Nat.beq k 80 then qX7_tell else (fun _ => none))) else (bif Nat.beq k 79 then qX7_row else (fun _ => none)))
       else
        (bif Nat.ble 78 k then (bif Nat.beq k 78 then qX7_weak else (fun _ => none)) else (bif Nat.beq k 77 then qX7_doubt else (fun _ => none))))
      else
       (bif Nat.ble 75 k then (bif Nat.ble 76 k then (bif Nat.beq k 76 then qX7_moved else (fun _ => none)) else (bif Nat.beq k 75 then qX7_step else (fun _ => none))) else (bif Nat.ble 74 k then (bif Nat.beq k 74 then qX7_banks else (fun _ => none)) else (bif Nat.beq k 73 then qX7_chain else (fun _ => none))))))))
  else
   (bif Nat.ble 36 k then
    (bif Nat.ble 54 k then
     (bif Nat.ble 63 k then
      (bif Nat.ble 68 k then
       (bif Nat.ble 70 k then
        (bif Nat.ble 71 k then (bif Nat.ble 72 k then (bif Nat.beq k 72 then qX7_tax else (fun _ => none)) else (bif Nat.beq k 71 then qX7_front else (fun _ => none))) else (bif Nat.beq k 70 then qX7_area else (fun _ => none)))
       else
        (bif Nat.ble 69 k then (bif Nat.beq k 69 then qX7_owner else (fun _ => none)) else (bif Nat.beq k 68 then qX7_wet else (fun _ => none))))
      else
       (bif Nat.ble 65 k then
        (bif Nat.ble 66 k then (bif Nat.ble 67 k then (bif Nat.beq k 67 then qX7_count else (fun _ => none)) else (bif Nat.beq k 66 then qX7_judge else (fun _ => none))) else (bif Nat.beq k 65 then qX7_reach else (fun _ => none)))
       else
        (bif Nat.ble 64 k then (bif Nat.beq k 64 then qX7_law else (fun _ => none)) else (bif Nat.beq k 63 then qX7_strike else (fun _ => none)))))
     else
      (bif Nat.ble 58 k then
       (bif Nat.ble 60 k then
        (bif Nat.ble 61 k then (bif Nat.ble 62 k then (bif Nat.beq k 62 then qX7_deed else (fun _ => none)) else (bif Nat.beq k 61 then qX7_own else (fun _ => none))) else (bif Nat.beq k 60 then qX7_map else (fun _ => none)))
       else
        (bif Nat.ble 59 k then (bif Nat.beq k 59 then qX7_sheet else (fun _ => none)) else (bif Nat.beq k 58 then qX7_water else (fun _ => none))))
      else
       (bif Nat.ble 56 k then (bif Nat.ble 57 k then (bif Nat.beq k 57 then qX7_land else (fun _ => none)) else (bif Nat.beq k 56 then qX6_fastNearestTo else (fun _ => none))) else (bif Nat.ble 55 k then (bif Nat.beq k 55 then qX6_settleIsle else (fun _ => none)) else (bif Nat.beq k 54 then qX6_settleShore else (fun _ => none))))))
    else
     (bif Nat.ble 45 k then
      (bif Nat.ble 49 k then
       (bif Nat.ble 51 k then
        (bif Nat.ble 52 k then (bif Nat.ble 53 k then (bif Nat.beq k 53 then qX6_partIsByFast else (fun _ => none)) else (bif Nat.beq k 52 then qX6_gather else (fun _ => none))) else (bif Nat.beq k 51 then qX6_sortParts else (fun _ => none)))
       else
        (bif Nat.ble 50 k then (bif Nat.beq k 50 then qX6_apartFromOldWater else (fun _ => none)) else (bif Nat.beq k 49 then qX6_apartFromFast else (fun _ => none))))
      else
       (bif Nat.ble 47 k then (bif Nat.ble 48 k then (bif Nat.beq k 48 then qX6_dryParts else (fun _ => none)) else (bif Nat.beq k 47 then qX6_measure else (fun _ => none))) else (bif Nat.ble 46 k then (bif Nat.beq k 46 then qX5_changedByDoubt else (fun _ => none)) else (bif Nat.beq k 45 then qX5_wonBy else (fun _ => none)))))
     else
      (bif Nat.ble 40 k then
       (bif Nat.ble 42 k then
        (bif Nat.ble 43 k then (bif Nat.ble 44 k then (bif Nat.beq k 44 then qX5_changedBy else (fun _ => none)) else (bif Nat.beq k 43 then qX5_runAheadOf else (fun _ => none))) else (bif Nat.beq k 42 then qX5_differing else (fun _ => none)))
       else
        (bif Nat.ble 41 k then (bif Nat.beq k 41 then qX5_keep else (fun _ => none)) else (bif Nat.beq k 40 then qX5_isByWater else (fun _ => none))))
      else
       (bif Nat.ble 38 k then (bif Nat.ble 39 k then (bif Nat.beq k 39 then qX5_dryByWaterOf else (fun _ => none)) else (bif Nat.beq k 38 then qX5_dryOf else (fun _ => none))) else (bif Nat.ble 37 k then (bif Nat.beq k 37 then qX5_takeDeed else (fun _ => none)) else (bif Nat.beq k 36 then qX5_shiftOwners else (fun _ => none)))))))
   else
    (bif Nat.ble 18 k then
     (bif Nat.ble 27 k then
      (bif Nat.ble 31 k then
       (bif Nat.ble 33 k then
        (bif Nat.ble 34 k then (bif Nat.ble 35 k then (bif Nat.beq k 35 then qX5_takeStep else (fun _ => none)) else (bif Nat.beq k 34 then qX5_nextDeedYear else (fun _ => none))) else (bif Nat.beq k 33 then qX5_nextStepYear else (fun _ => none)))
       else
        (bif Nat.ble 32 k then (bif Nat.beq k 32 then qX5_runTo else (fun _ => none)) else (bif Nat.beq k 31 then qX5_runFromFirst else (fun _ => none))))
      else
       (bif Nat.ble 29 k then (bif Nat.ble 30 k then (bif Nat.beq k 30 then qX5_setFirst else (fun _ => none)) else (bif Nat.beq k 29 then qX5_forgetFirst else (fun _ => none))) else (bif Nat.ble 28 k then (bif Nat.beq k 28 then qX4_wasWater else (fun _ => none)) else (bif Nat.beq k 27 then qX4_isNew else (fun _ => none)))))
     else
      (bif Nat.ble 22 k then
       (bif Nat.ble 24 k then
        (bif Nat.ble 25 k then (bif Nat.ble 26 k then (bif Nat.beq k 26 then qX4_isDry else (fun _ => none)) else (bif Nat.beq k 25 then qX3_placeFor else (fun _ => none))) else (bif Nat.beq k 24 then qX3_add else (fun _ => none)))
       else
        (bif Nat.ble 23 k then (bif Nat.beq k 23 then qX3_isFull else (fun _ => none)) else (bif Nat.beq k 22 then qX2_walk else (fun _ => none))))
      else
       (bif Nat.ble 20 k then (bif Nat.ble 21 k then (bif Nat.beq k 21 then qX2_apart else (fun _ => none)) else (bif Nat.beq k 20 then qX2_beside else (fun _ => none))) else (bif Nat.ble 19 k then (bif Nat.beq k 19 then qX2_cellAt else (fun _ => none)) else (bif Nat.beq k 18 then qX2_hasBox else (fun _ => none))))))
    else
     (bif Nat.ble 9 k then
      (bif Nat.ble 13 k then
       (bif Nat.ble 15 k then
        (bif Nat.ble 16 k then (bif Nat.ble 17 k then (bif Nat.beq k 17 then qX2_has else (fun _ => none)) else (bif Nat.beq k 16 then qX2_hasLine else (fun _ => none))) else (bif Nat.beq k 15 then qX2_lay else (fun _ => none)))
       else
        (bif Nat.ble 14 k then (bif Nat.beq k 14 then qX1_notStruck else (fun _ => none)) else (bif Nat.beq k 13 then qX1_add else (fun _ => none))))
      else
       (bif Nat.ble 11 k then (bif Nat.ble 12 k then (bif Nat.beq k 12 then qX1_has else (fun _ => none)) else (bif Nat.beq k 11 then qX1_isFull else (fun _ => none))) else (bif Nat.ble 10 k then (bif Nat.beq k 10 then qX1_clear else (fun _ => none)) else (bif Nat.beq k 9 then qX0_kindBetween else (fun _ => none)))))
     else
      (bif Nat.ble 4 k then
       (bif Nat.ble 6 k then
        (bif Nat.ble 7 k then (bif Nat.ble 8 k then (bif Nat.beq k 8 then qX0_isSudden else (fun _ => none)) else (bif Nat.beq k 7 then qX0_leafIn else (fun _ => none))) else (bif Nat.beq k 6 then qX0_add else (fun _ => none)))
       else
        (bif Nat.ble 5 k then (bif Nat.beq k 5 then qX0_draftLine else (fun _ => none)) else (bif Nat.beq k 4 then qX0_latestYear else (fun _ => none))))
      else
       (bif Nat.ble 2 k then (bif Nat.ble 3 k then (bif Nat.beq k 3 then qX0_hasStep else (fun _ => none)) else (bif Nat.beq k 2 then qX0_isFull else (fun _ => none))) else (bif Nat.ble 1 k then (bif Nat.beq k 1 then qX0_isEmpty else (fun _ => none)) else (bif Nat.beq k 0 then qX0_clear else (fun _ => none)))))))))
def clen (k : Nat) : Nat :=
  (bif Nat.ble 73 k then
   (bif Nat.ble 109 k then
    (bif Nat.ble 127 k then
     (bif Nat.ble 136 k then
      (bif Nat.ble 141 k then
       (bif Nat.ble 143 k then
        (bif Nat.ble 144 k then (bif Nat.ble 145 k then (bif Nat.beq k 145 then 21 else 0) else (bif Nat.beq k 144 then 35 else 0)) else (bif Nat.beq k 143 then 74 else 0))
       else
        (bif Nat.ble 142 k then (bif Nat.beq k 142 then 31 else 0) else (bif Nat.beq k 141 then 94 else 0)))
      else
       (bif Nat.ble 138 k then
        (bif Nat.ble 139 k then (bif Nat.ble 140 k then (bif Nat.beq k 140 then 84 else 0) else (bif Nat.beq k 139 then 197 else 0)) else (bif Nat.beq k 138 then 46 else 0))
       else
        (bif Nat.ble 137 k then (bif Nat.beq k 137 then 47 else 0) else (bif Nat.beq k 136 then 224 else 0))))
     else
      (bif Nat.ble 131 k then
       (bif Nat.ble 133 k then
        (bif Nat.ble 134 k then (bif Nat.ble 135 k then (bif Nat.beq k 135 then 149 else 0) else (bif Nat.beq k 134 then 87 else 0)) else (bif Nat.beq k 133 then 102 else 0))
       else
        (bif Nat.ble 132 k then (bif Nat.beq k 132 then 60 else 0) else (bif Nat.beq k 131 then 34 else 0)))
      else
       (bif Nat.ble 129 k then (bif Nat.ble 130 k then (bif Nat.beq k 130 then 34 else 0) else (bif Nat.beq k 129 then 59 else 0)) else (bif Nat.ble 128 k then (bif Nat.beq k 128 then 48 else 0) else (bif Nat.beq k 127 then 24 else 0)))))
    else
     (bif Nat.ble 118 k then
      (bif Nat.ble 122 k then
       (bif Nat.ble 124 k then
        (bif Nat.ble 125 k then (bif Nat.ble 126 k then (bif Nat.beq k 126 then 31 else 0) else (bif Nat.beq k 125 then 137 else 0)) else (bif Nat.beq k 124 then 30 else 0))
       else
        (bif Nat.ble 123 k then (bif Nat.beq k 123 then 28 else 0) else (bif Nat.beq k 122 then 334 else 0)))
      else
       (bif Nat.ble 120 k then (bif Nat.ble 121 k then (bif Nat.beq k 121 then 52 else 0) else (bif Nat.beq k 120 then 61 else 0)) else (bif Nat.ble 119 k then (bif Nat.beq k 119 then 48 else 0) else (bif Nat.beq k 118 then 47 else 0))))
     else
      (bif Nat.ble 113 k then
       (bif Nat.ble 115 k then
        (bif Nat.ble 116 k then (bif Nat.ble 117 k then (bif Nat.beq k 117 then 273 else 0) else (bif Nat.beq k 116 then 44 else 0)) else (bif Nat.beq k 115 then 145 else 0))
       else
        (bif Nat.ble 114 k then (bif Nat.beq k 114 then 37 else 0) else (bif Nat.beq k 113 then 26 else 0)))
      else
       (bif Nat.ble 111 k then (bif Nat.ble 112 k then (bif Nat.beq k 112 then 28 else 0) else (bif Nat.beq k 111 then 78 else 0)) else (bif Nat.ble 110 k then (bif Nat.beq k 110 then 55 else 0) else (bif Nat.beq k 109 then 28 else 0))))))
   else
    (bif Nat.ble 91 k then
     (bif Nat.ble 100 k then
      (bif Nat.ble 104 k then
       (bif Nat.ble 106 k then
        (bif Nat.ble 107 k then (bif Nat.ble 108 k then (bif Nat.beq k 108 then 13 else 0) else (bif Nat.beq k 107 then 36 else 0)) else (bif Nat.beq k 106 then 127 else 0))
       else
        (bif Nat.ble 105 k then (bif Nat.beq k 105 then 36 else 0) else (bif Nat.beq k 104 then 14 else 0)))
      else
       (bif Nat.ble 102 k then (bif Nat.ble 103 k then (bif Nat.beq k 103 then 31 else 0) else (bif Nat.beq k 102 then 112 else 0)) else (bif Nat.ble 101 k then (bif Nat.beq k 101 then 32 else 0) else (bif Nat.beq k 100 then 127 else 0))))
     else
      (bif Nat.ble 95 k then
       (bif Nat.ble 97 k then
        (bif Nat.ble 98 k then (bif Nat.ble 99 k then (bif Nat.beq k 99 then 99 else 0) else (bif Nat.beq k 98 then 48 else 0)) else (bif Nat.beq k 97 then 36 else 0))
       else
        (bif Nat.ble 96 k then (bif Nat.beq k 96 then 119 else 0) else (bif Nat.beq k 95 then 131 else 0)))
      else
       (bif Nat.ble 93 k then (bif Nat.ble 94 k then (bif Nat.beq k 94 then 41 else 0) else (bif Nat.beq k 93 then 74 else 0)) else (bif Nat.ble 92 k then (bif Nat.beq k 92 then 47 else 0) else (bif Nat.beq k 91 then 7 else 0)))))
    else
     (bif Nat.ble 82 k then
      (bif Nat.ble 86 k then
       (bif Nat.ble 88 k then
        (bif Nat.ble 89 k then (bif Nat.ble 90 k then (bif Nat.beq k 90 then 10 else 0) else (bif Nat.beq k 89 then 38 else 0)) else (bif Nat.beq k 88 then 61 else 0))
       else
        (bif Nat.ble 87 k then (bif Nat.beq k 87 then 7 else 0) else (bif Nat.beq k 86 then 19 else 0)))
      else
       (bif Nat.ble 84 k then (bif Nat.ble 85 k then (bif Nat.beq k 85 then 5 else 0) else (bif Nat.beq k 84 then 18 else 0)) else (bif Nat.ble 83 k then (bif Nat.beq k 83 then 8 else 0) else (bif Nat.beq k 82 then 9 else 0))))
     else
      (bif Nat.ble 77 k then
       (bif Nat.ble 79 k then
        (bif Nat.ble 80 k then (bif Nat.ble 81 k then (bif Nat.beq k 81 then 16 else 0) else (bif Nat.beq k 80 then 47 else 0)) else (bif Nat.beq k 79 then 29 else 0))
       else
        (bif Nat.ble 78 k then (bif Nat.beq k 78 then 103 else 0) else (bif Nat.beq k 77 then 46 else 0)))
      else
       (bif Nat.ble 75 k then (bif Nat.ble 76 k then (bif Nat.beq k 76 then 38 else 0) else (bif Nat.beq k 75 then 130 else 0)) else (bif Nat.ble 74 k then (bif Nat.beq k 74 then 35 else 0) else (bif Nat.beq k 73 then 152 else 0)))))))
  else
   (bif Nat.ble 36 k then
    (bif Nat.ble 54 k then
     (bif Nat.ble 63 k then
      (bif Nat.ble 68 k then
       (bif Nat.ble 70 k then
        (bif Nat.ble 71 k then (bif Nat.ble 72 k then (bif Nat.beq k 72 then 111 else 0) else (bif Nat.beq k 71 then 45 else 0)) else (bif Nat.beq k 70 then 8 else 0))
       else
        (bif Nat.ble 69 k then (bif Nat.beq k 69 then 59 else 0) else (bif Nat.beq k 68 then 60 else 0)))
      else
       (bif Nat.ble 65 k then
        (bif Nat.ble 66 k then (bif Nat.ble 67 k then (bif Nat.beq k 67 then 111 else 0) else (bif Nat.beq k 66 then 37 else 0)) else (bif Nat.beq k 65 then 30 else 0))
       else
        (bif Nat.ble 64 k then (bif Nat.beq k 64 then 72 else 0) else (bif Nat.beq k 63 then 25 else 0))))
     else
      (bif Nat.ble 58 k then
       (bif Nat.ble 60 k then
        (bif Nat.ble 61 k then (bif Nat.ble 62 k then (bif Nat.beq k 62 then 60 else 0) else (bif Nat.beq k 61 then 52 else 0)) else (bif Nat.beq k 60 then 39 else 0))
       else
        (bif Nat.ble 59 k then (bif Nat.beq k 59 then 135 else 0) else (bif Nat.beq k 58 then 33 else 0)))
      else
       (bif Nat.ble 56 k then (bif Nat.ble 57 k then (bif Nat.beq k 57 then 56 else 0) else (bif Nat.beq k 56 then 90 else 0)) else (bif Nat.ble 55 k then (bif Nat.beq k 55 then 52 else 0) else (bif Nat.beq k 54 then 49 else 0)))))
    else
     (bif Nat.ble 45 k then
      (bif Nat.ble 49 k then
       (bif Nat.ble 51 k then
        (bif Nat.ble 52 k then (bif Nat.ble 53 k then (bif Nat.beq k 53 then 66 else 0) else (bif Nat.beq k 52 then 127 else 0)) else (bif Nat.beq k 51 then 115 else 0))
       else
        (bif Nat.ble 50 k then (bif Nat.beq k 50 then 50 else 0) else (bif Nat.beq k 49 then 52 else 0)))
      else
       (bif Nat.ble 47 k then (bif Nat.ble 48 k then (bif Nat.beq k 48 then 70 else 0) else (bif Nat.beq k 47 then 110 else 0)) else (bif Nat.ble 46 k then (bif Nat.beq k 46 then 11 else 0) else (bif Nat.beq k 45 then 23 else 0))))
     else
      (bif Nat.ble 40 k then
       (bif Nat.ble 42 k then
        (bif Nat.ble 43 k then (bif Nat.ble 44 k then (bif Nat.beq k 44 then 18 else 0) else (bif Nat.beq k 43 then 20 else 0)) else (bif Nat.beq k 42 then 41 else 0))
       else
        (bif Nat.ble 41 k then (bif Nat.beq k 41 then 17 else 0) else (bif Nat.beq k 40 then 43 else 0)))
      else
       (bif Nat.ble 38 k then (bif Nat.ble 39 k then (bif Nat.beq k 39 then 71 else 0) else (bif Nat.beq k 38 then 61 else 0)) else (bif Nat.ble 37 k then (bif Nat.beq k 37 then 158 else 0) else (bif Nat.beq k 36 then 102 else 0))))))
   else
    (bif Nat.ble 18 k then
     (bif Nat.ble 27 k then
      (bif Nat.ble 31 k then
       (bif Nat.ble 33 k then
        (bif Nat.ble 34 k then (bif Nat.ble 35 k then (bif Nat.beq k 35 then 119 else 0) else (bif Nat.beq k 34 then 41 else 0)) else (bif Nat.beq k 33 then 40 else 0))
       else
        (bif Nat.ble 32 k then (bif Nat.beq k 32 then 63 else 0) else (bif Nat.beq k 31 then 38 else 0)))
      else
       (bif Nat.ble 29 k then (bif Nat.ble 30 k then (bif Nat.beq k 30 then 50 else 0) else (bif Nat.beq k 29 then 9 else 0)) else (bif Nat.ble 28 k then (bif Nat.beq k 28 then 23 else 0) else (bif Nat.beq k 27 then 26 else 0))))
     else
      (bif Nat.ble 22 k then
       (bif Nat.ble 24 k then
        (bif Nat.ble 25 k then (bif Nat.ble 26 k then (bif Nat.beq k 26 then 16 else 0) else (bif Nat.beq k 25 then 47 else 0)) else (bif Nat.beq k 24 then 56 else 0))
       else
        (bif Nat.ble 23 k then (bif Nat.beq k 23 then 15 else 0) else (bif Nat.beq k 22 then 34 else 0)))
      else
       (bif Nat.ble 20 k then (bif Nat.ble 21 k then (bif Nat.beq k 21 then 36 else 0) else (bif Nat.beq k 20 then 114 else 0)) else (bif Nat.ble 19 k then (bif Nat.beq k 19 then 9 else 0) else (bif Nat.beq k 18 then 36 else 0)))))
    else
     (bif Nat.ble 9 k then
      (bif Nat.ble 13 k then
       (bif Nat.ble 15 k then
        (bif Nat.ble 16 k then (bif Nat.ble 17 k then (bif Nat.beq k 17 then 26 else 0) else (bif Nat.beq k 16 then 18 else 0)) else (bif Nat.beq k 15 then 71 else 0))
       else
        (bif Nat.ble 14 k then (bif Nat.beq k 14 then 37 else 0) else (bif Nat.beq k 13 then 137 else 0)))
      else
       (bif Nat.ble 11 k then (bif Nat.ble 12 k then (bif Nat.beq k 12 then 18 else 0) else (bif Nat.beq k 11 then 15 else 0)) else (bif Nat.ble 10 k then (bif Nat.beq k 10 then 6 else 0) else (bif Nat.beq k 9 then 24 else 0))))
     else
      (bif Nat.ble 4 k then
       (bif Nat.ble 6 k then
        (bif Nat.ble 7 k then (bif Nat.ble 8 k then (bif Nat.beq k 8 then 48 else 0) else (bif Nat.beq k 7 then 40 else 0)) else (bif Nat.beq k 6 then 127 else 0))
       else
        (bif Nat.ble 5 k then (bif Nat.beq k 5 then 72 else 0) else (bif Nat.beq k 4 then 26 else 0)))
      else
       (bif Nat.ble 2 k then (bif Nat.ble 3 k then (bif Nat.beq k 3 then 19 else 0) else (bif Nat.beq k 2 then 15 else 0)) else (bif Nat.ble 1 k then (bif Nat.beq k 1 then 13 else 0) else (bif Nat.beq k 0 then 28 else 0))))))))
def cod (k pc : Nat) : Option mIn := bif Nat.ble 146 k then none else bif Nat.ble (clen k) pc then none else codb k pc
abbrev nMeth : Nat := 146
abbrev kX0_clear : Nat := 0
abbrev kX0_isEmpty : Nat := 1
abbrev kX0_isFull : Nat := 2
abbrev kX0_hasStep : Nat := 3
abbrev kX0_latestYear : Nat := 4
abbrev kX0_draftLine : Nat := 5
abbrev kX0_add : Nat := 6
abbrev kX0_leafIn : Nat := 7
abbrev kX0_isSudden : Nat := 8
abbrev kX0_kindBetween : Nat := 9
abbrev kX1_clear : Nat := 10
abbrev kX1_isFull : Nat := 11
abbrev kX1_has : Nat := 12
abbrev kX1_add : Nat := 13
abbrev kX1_notStruck : Nat := 14
abbrev kX2_lay : Nat := 15
abbrev kX2_hasLine : Nat := 16
abbrev kX2_has : Nat := 17
abbrev kX2_hasBox : Nat := 18
abbrev kX2_cellAt : Nat := 19
abbrev kX2_beside : Nat := 20
abbrev kX2_apart : Nat := 21
abbrev kX2_walk : Nat := 22
abbrev kX3_isFull : Nat := 23
abbrev kX3_add : Nat := 24
abbrev kX3_placeFor : Nat := 25
abbrev kX4_isDry : Nat := 26
abbrev kX4_isNew : Nat := 27
abbrev kX4_wasWater : Nat := 28
abbrev kX5_forgetFirst : Nat := 29
abbrev kX5_setFirst : Nat := 30
abbrev kX5_runFromFirst : Nat := 31
abbrev kX5_runTo : Nat := 32
abbrev kX5_nextStepYear : Nat := 33
abbrev kX5_nextDeedYear : Nat := 34
abbrev kX5_takeStep : Nat := 35
abbrev kX5_shiftOwners : Nat := 36
abbrev kX5_takeDeed : Nat := 37
abbrev kX5_dryOf : Nat := 38
abbrev kX5_dryByWaterOf : Nat := 39
abbrev kX5_isByWater : Nat := 40
abbrev kX5_keep : Nat := 41
abbrev kX5_differing : Nat := 42
abbrev kX5_runAheadOf : Nat := 43
abbrev kX5_changedBy : Nat := 44
abbrev kX5_wonBy : Nat := 45
abbrev kX5_changedByDoubt : Nat := 46
abbrev kX6_measure : Nat := 47
abbrev kX6_dryParts : Nat := 48
abbrev kX6_apartFromFast : Nat := 49
abbrev kX6_apartFromOldWater : Nat := 50
abbrev kX6_sortParts : Nat := 51
abbrev kX6_gather : Nat := 52
abbrev kX6_partIsByFast : Nat := 53
abbrev kX6_settleShore : Nat := 54
abbrev kX6_settleIsle : Nat := 55
abbrev kX6_fastNearestTo : Nat := 56
abbrev kX7_land : Nat := 57
abbrev kX7_water : Nat := 58
abbrev kX7_sheet : Nat := 59
abbrev kX7_map : Nat := 60
abbrev kX7_own : Nat := 61
abbrev kX7_deed : Nat := 62
abbrev kX7_strike : Nat := 63
abbrev kX7_law : Nat := 64
abbrev kX7_reach : Nat := 65
abbrev kX7_judge : Nat := 66
abbrev kX7_count : Nat := 67
abbrev kX7_wet : Nat := 68
abbrev kX7_owner : Nat := 69
abbrev kX7_area : Nat := 70
abbrev kX7_front : Nat := 71
abbrev kX7_tax : Nat := 72
abbrev kX7_chain : Nat := 73
abbrev kX7_banks : Nat := 74
abbrev kX7_step : Nat := 75
abbrev kX7_moved : Nat := 76
abbrev kX7_doubt : Nat := 77
abbrev kX7_weak : Nat := 78
abbrev kX7_row : Nat := 79
abbrev kX7_tell : Nat := 80
abbrev kX7_isBetween : Nat := 81
abbrev kX7_isYear : Nat := 82
abbrev kX7_isOwner : Nat := 83
abbrev kX7_isOwnerOrNone : Nat := 84
abbrev kX8_thrown : Nat := 85
abbrev kX8_in : Nat := 86
abbrev kX8_refuse : Nat := 87
abbrev kX8_lays : Nat := 88
abbrev kX8_isCell : Nat := 89
abbrev kX8_isYear : Nat := 90
abbrev kX8_cell : Nat := 91
abbrev kX8_land : Nat := 92
abbrev kX8_rowOf : Nat := 93
abbrev kX8_water : Nat := 94
abbrev kX8_sheet : Nat := 95
abbrev kX8_map : Nat := 96
abbrev kX8_isBox : Nat := 97
abbrev kX8_isInBox : Nat := 98
abbrev kX8_own : Nat := 99
abbrev kX8_deed : Nat := 100
abbrev kX8_strike : Nat := 101
abbrev kX8_law : Nat := 102
abbrev kX8_reach : Nat := 103
abbrev kX8_isStep : Nat := 104
abbrev kX8_judge : Nat := 105
abbrev kX8_count : Nat := 106
abbrev kX8_mapIn : Nat := 107
abbrev kX8_isWet : Nat := 108
abbrev kX8_isOn : Nat := 109
abbrev kX8_wet : Nat := 110
abbrev kX8_kinds : Nat := 111
abbrev kX8_apart : Nat := 112
abbrev kX8_away : Nat := 113
abbrev kX8_kindsOf : Nat := 114
abbrev kX8_far : Nat := 115
abbrev kX8_isSudden : Nat := 116
abbrev kX8_findsParts : Nat := 117
abbrev kX8_nearest : Nat := 118
abbrev kX8_awayFromPart : Nat := 119
abbrev kX8_nearestToPart : Nat := 120
abbrev kX8_lawIn : Nat := 121
abbrev kX8_steps : Nat := 122
abbrev kX8_begins : Nat := 123
abbrev kX8_stepIn : Nat := 124
abbrev kX8_deedsIn : Nat := 125
abbrev kX8_goes : Nat := 126
abbrev kX8_upTo : Nat := 127
abbrev kX8_owner : Nat := 128
abbrev kX8_areaOn : Nat := 129
abbrev kX8_isAsked : Nat := 130
abbrev kX8_area : Nat := 131
abbrev kX8_isByWater : Nat := 132
abbrev kX8_front : Nat := 133
abbrev kX8_tax : Nat := 134
abbrev kX8_chain : Nat := 135
abbrev kX8_banks : Nat := 136
abbrev kX8_walks : Nat := 137
abbrev kX8_shores : Nat := 138
abbrev kX8_step : Nat := 139
abbrev kX8_moved : Nat := 140
abbrev kX8_unlike : Nat := 141
abbrev kX8_doubt : Nat := 142
abbrev kX8_weak : Nat := 143
abbrev kX8_row : Nat := 144
abbrev kJ7_fill_53178 : Nat := 145
def mcl (k : Nat) : Nat :=
  (bif Nat.ble 73 k then
   (bif Nat.ble 109 k then
    (bif Nat.ble 127 k then
     (bif Nat.ble 136 k then
      (bif Nat.ble 141 k then
       (bif Nat.ble 143 k then
        (bif Nat.ble 144 k then (bif Nat.ble 145 k then (bif Nat.beq k 145 then 9 else 0) else (bif Nat.beq k 144 then 8 else 0)) else (bif Nat.beq k 143 then 8 else 0))
       else
        (bif Nat.ble 142 k then (bif Nat.beq k 142 then 8 else 0) else (bif Nat.beq k 141 then 8 else 0)))
      else
       (bif Nat.ble 138 k then
        (bif Nat.ble 139 k then (bif Nat.ble 140 k then (bif Nat.beq k 140 then 8 else 0) else (bif Nat.beq k 139 then 8 else 0)) else (bif Nat.beq k 138 then 8 else 0))
       else
        (bif Nat.ble 137 k then (bif Nat.beq k 137 then 8 else 0) else (bif Nat.beq k 136 then 8 else 0))))
     else
      (bif Nat.ble 131 k then
       (bif Nat.ble 133 k then
        (bif Nat.ble 134 k then (bif Nat.ble 135 k then (bif Nat.beq k 135 then 8 else 0) else (bif Nat.beq k 134 then 8 else 0)) else (bif Nat.beq k 133 then 8 else 0))
       else
        (bif Nat.ble 132 k then (bif Nat.beq k 132 then 8 else 0) else (bif Nat.beq k 131 then 8 else 0)))
      else
       (bif Nat.ble 129 k then (bif Nat.ble 130 k then (bif Nat.beq k 130 then 8 else 0) else (bif Nat.beq k 129 then 8 else 0)) else (bif Nat.ble 128 k then (bif Nat.beq k 128 then 8 else 0) else (bif Nat.beq k 127 then 8 else 0)))))
    else
     (bif Nat.ble 118 k then
      (bif Nat.ble 122 k then
       (bif Nat.ble 124 k then
        (bif Nat.ble 125 k then (bif Nat.ble 126 k then (bif Nat.beq k 126 then 8 else 0) else (bif Nat.beq k 125 then 8 else 0)) else (bif Nat.beq k 124 then 8 else 0))
       else
        (bif Nat.ble 123 k then (bif Nat.beq k 123 then 8 else 0) else (bif Nat.beq k 122 then 8 else 0)))
      else
       (bif Nat.ble 120 k then (bif Nat.ble 121 k then (bif Nat.beq k 121 then 8 else 0) else (bif Nat.beq k 120 then 8 else 0)) else (bif Nat.ble 119 k then (bif Nat.beq k 119 then 8 else 0) else (bif Nat.beq k 118 then 8 else 0))))
     else
      (bif Nat.ble 113 k then
       (bif Nat.ble 115 k then
        (bif Nat.ble 116 k then (bif Nat.ble 117 k then (bif Nat.beq k 117 then 8 else 0) else (bif Nat.beq k 116 then 8 else 0)) else (bif Nat.beq k 115 then 8 else 0))
       else
        (bif Nat.ble 114 k then (bif Nat.beq k 114 then 8 else 0) else (bif Nat.beq k 113 then 8 else 0)))
      else
       (bif Nat.ble 111 k then (bif Nat.ble 112 k then (bif Nat.beq k 112 then 8 else 0) else (bif Nat.beq k 111 then 8 else 0)) else (bif Nat.ble 110 k then (bif Nat.beq k 110 then 8 else 0) else (bif Nat.beq k 109 then 8 else 0))))))
   else
    (bif Nat.ble 91 k then
     (bif Nat.ble 100 k then
      (bif Nat.ble 104 k then
       (bif Nat.ble 106 k then
        (bif Nat.ble 107 k then (bif Nat.ble 108 k then (bif Nat.beq k 108 then 8 else 0) else (bif Nat.beq k 107 then 8 else 0)) else (bif Nat.beq k 106 then 8 else 0))
       else
        (bif Nat.ble 105 k then (bif Nat.beq k 105 then 8 else 0) else (bif Nat.beq k 104 then 8 else 0)))
      else
       (bif Nat.ble 102 k then (bif Nat.ble 103 k then (bif Nat.beq k 103 then 8 else 0) else (bif Nat.beq k 102 then 8 else 0)) else (bif Nat.ble 101 k then (bif Nat.beq k 101 then 8 else 0) else (bif Nat.beq k 100 then 8 else 0))))
     else
      (bif Nat.ble 95 k then
       (bif Nat.ble 97 k then
        (bif Nat.ble 98 k then (bif Nat.ble 99 k then (bif Nat.beq k 99 then 8 else 0) else (bif Nat.beq k 98 then 8 else 0)) else (bif Nat.beq k 97 then 8 else 0))
       else
        (bif Nat.ble 96 k then (bif Nat.beq k 96 then 8 else 0) else (bif Nat.beq k 95 then 8 else 0)))
      else
       (bif Nat.ble 93 k then (bif Nat.ble 94 k then (bif Nat.beq k 94 then 8 else 0) else (bif Nat.beq k 93 then 8 else 0)) else (bif Nat.ble 92 k then (bif Nat.beq k 92 then 8 else 0) else (bif Nat.beq k 91 then 8 else 0)))))
    else
     (bif Nat.ble 82 k then
      (bif Nat.ble 86 k then
       (bif Nat.ble 88 k then
        (bif Nat.ble 89 k then (bif Nat.ble 90 k then (bif Nat.beq k 90 then 8 else 0) else (bif Nat.beq k 89 then 8 else 0)) else (bif Nat.beq k 88 then 8 else 0))
       else
        (bif Nat.ble 87 k then (bif Nat.beq k 87 then 8 else 0) else (bif Nat.beq k 86 then 8 else 0)))
      else
       (bif Nat.ble 84 k then (bif Nat.ble 85 k then (bif Nat.beq k 85 then 8 else 0) else (bif Nat.beq k 84 then 7 else 0)) else (bif Nat.ble 83 k then (bif Nat.beq k 83 then 7 else 0) else (bif Nat.beq k 82 then 7 else 0))))
     else
      (bif Nat.ble 77 k then
       (bif Nat.ble 79 k then
        (bif Nat.ble 80 k then (bif Nat.ble 81 k then (bif Nat.beq k 81 then 7 else 0) else (bif Nat.beq k 80 then 7 else 0)) else (bif Nat.beq k 79 then 7 else 0))
       else
        (bif Nat.ble 78 k then (bif Nat.beq k 78 then 7 else 0) else (bif Nat.beq k 77 then 7 else 0)))
      else
       (bif Nat.ble 75 k then (bif Nat.ble 76 k then (bif Nat.beq k 76 then 7 else 0) else (bif Nat.beq k 75 then 7 else 0)) else (bif Nat.ble 74 k then (bif Nat.beq k 74 then 7 else 0) else (bif Nat.beq k 73 then 7 else 0)))))))
  else
   (bif Nat.ble 36 k then
    (bif Nat.ble 54 k then
     (bif Nat.ble 63 k then
      (bif Nat.ble 68 k then
       (bif Nat.ble 70 k then
        (bif Nat.ble 71 k then (bif Nat.ble 72 k then (bif Nat.beq k 72 then 7 else 0) else (bif Nat.beq k 71 then 7 else 0)) else (bif Nat.beq k 70 then 7 else 0))
       else
        (bif Nat.ble 69 k then (bif Nat.beq k 69 then 7 else 0) else (bif Nat.beq k 68 then 7 else 0)))
      else
       (bif Nat.ble 65 k then
        (bif Nat.ble 66 k then (bif Nat.ble 67 k then (bif Nat.beq k 67 then 7 else 0) else (bif Nat.beq k 66 then 7 else 0)) else (bif Nat.beq k 65 then 7 else 0))
       else
        (bif Nat.ble 64 k then (bif Nat.beq k 64 then 7 else 0) else (bif Nat.beq k 63 then 7 else 0))))
     else
      (bif Nat.ble 58 k then
       (bif Nat.ble 60 k then
        (bif Nat.ble 61 k then (bif Nat.ble 62 k then (bif Nat.beq k 62 then 7 else 0) else (bif Nat.beq k 61 then 7 else 0)) else (bif Nat.beq k 60 then 7 else 0))
       else
        (bif Nat.ble 59 k then (bif Nat.beq k 59 then 7 else 0) else (bif Nat.beq k 58 then 7 else 0)))
      else
       (bif Nat.ble 56 k then (bif Nat.ble 57 k then (bif Nat.beq k 57 then 7 else 0) else (bif Nat.beq k 56 then 6 else 0)) else (bif Nat.ble 55 k then (bif Nat.beq k 55 then 6 else 0) else (bif Nat.beq k 54 then 6 else 0)))))
    else
     (bif Nat.ble 45 k then
      (bif Nat.ble 49 k then
       (bif Nat.ble 51 k then
        (bif Nat.ble 52 k then (bif Nat.ble 53 k then (bif Nat.beq k 53 then 6 else 0) else (bif Nat.beq k 52 then 6 else 0)) else (bif Nat.beq k 51 then 6 else 0))
       else
        (bif Nat.ble 50 k then (bif Nat.beq k 50 then 6 else 0) else (bif Nat.beq k 49 then 6 else 0)))
      else
       (bif Nat.ble 47 k then (bif Nat.ble 48 k then (bif Nat.beq k 48 then 6 else 0) else (bif Nat.beq k 47 then 6 else 0)) else (bif Nat.ble 46 k then (bif Nat.beq k 46 then 5 else 0) else (bif Nat.beq k 45 then 5 else 0))))
     else
      (bif Nat.ble 40 k then
       (bif Nat.ble 42 k then
        (bif Nat.ble 43 k then (bif Nat.ble 44 k then (bif Nat.beq k 44 then 5 else 0) else (bif Nat.beq k 43 then 5 else 0)) else (bif Nat.beq k 42 then 5 else 0))
       else
        (bif Nat.ble 41 k then (bif Nat.beq k 41 then 5 else 0) else (bif Nat.beq k 40 then 5 else 0)))
      else
       (bif Nat.ble 38 k then (bif Nat.ble 39 k then (bif Nat.beq k 39 then 5 else 0) else (bif Nat.beq k 38 then 5 else 0)) else (bif Nat.ble 37 k then (bif Nat.beq k 37 then 5 else 0) else (bif Nat.beq k 36 then 5 else 0))))))
   else
    (bif Nat.ble 18 k then
     (bif Nat.ble 27 k then
      (bif Nat.ble 31 k then
       (bif Nat.ble 33 k then
        (bif Nat.ble 34 k then (bif Nat.ble 35 k then (bif Nat.beq k 35 then 5 else 0) else (bif Nat.beq k 34 then 5 else 0)) else (bif Nat.beq k 33 then 5 else 0))
       else
        (bif Nat.ble 32 k then (bif Nat.beq k 32 then 5 else 0) else (bif Nat.beq k 31 then 5 else 0)))
      else
       (bif Nat.ble 29 k then (bif Nat.ble 30 k then (bif Nat.beq k 30 then 5 else 0) else (bif Nat.beq k 29 then 5 else 0)) else (bif Nat.ble 28 k then (bif Nat.beq k 28 then 4 else 0) else (bif Nat.beq k 27 then 4 else 0))))
     else
      (bif Nat.ble 22 k then
       (bif Nat.ble 24 k then
        (bif Nat.ble 25 k then (bif Nat.ble 26 k then (bif Nat.beq k 26 then 4 else 0) else (bif Nat.beq k 25 then 3 else 0)) else (bif Nat.beq k 24 then 3 else 0))
       else
        (bif Nat.ble 23 k then (bif Nat.beq k 23 then 3 else 0) else (bif Nat.beq k 22 then 2 else 0)))
      else
       (bif Nat.ble 20 k then (bif Nat.ble 21 k then (bif Nat.beq k 21 then 2 else 0) else (bif Nat.beq k 20 then 2 else 0)) else (bif Nat.ble 19 k then (bif Nat.beq k 19 then 2 else 0) else (bif Nat.beq k 18 then 2 else 0)))))
    else
     (bif Nat.ble 9 k then
      (bif Nat.ble 13 k then
       (bif Nat.ble 15 k then
        (bif Nat.ble 16 k then (bif Nat.ble 17 k then (bif Nat.beq k 17 then 2 else 0) else (bif Nat.beq k 16 then 2 else 0)) else (bif Nat.beq k 15 then 2 else 0))
       else
        (bif Nat.ble 14 k then (bif Nat.beq k 14 then 1 else 0) else (bif Nat.beq k 13 then 1 else 0)))
      else
       (bif Nat.ble 11 k then (bif Nat.ble 12 k then (bif Nat.beq k 12 then 1 else 0) else (bif Nat.beq k 11 then 1 else 0)) else (bif Nat.ble 10 k then (bif Nat.beq k 10 then 1 else 0) else (bif Nat.beq k 9 then 0 else 0))))
     else
      (bif Nat.ble 4 k then
       (bif Nat.ble 6 k then
        (bif Nat.ble 7 k then (bif Nat.ble 8 k then (bif Nat.beq k 8 then 0 else 0) else (bif Nat.beq k 7 then 0 else 0)) else (bif Nat.beq k 6 then 0 else 0))
       else
        (bif Nat.ble 5 k then (bif Nat.beq k 5 then 0 else 0) else (bif Nat.beq k 4 then 0 else 0)))
      else
       (bif Nat.ble 2 k then (bif Nat.ble 3 k then (bif Nat.beq k 3 then 0 else 0) else (bif Nat.beq k 2 then 0 else 0)) else (bif Nat.ble 1 k then (bif Nat.beq k 1 then 0 else 0) else (bif Nat.beq k 0 then 0 else 0))))))))
/-- a field of a class file: number of its class, of the field -/
def fldb (c idx : Nat) : Option (Nat × Nat) :=
  (bif Nat.ble 4 c then
   (bif Nat.ble 6 c then
    (bif Nat.ble 7 c then (bif Nat.ble 8 c then (bif Nat.beq c 8 then (bif Nat.ble 57 idx then (bif Nat.ble 78 idx then (bif Nat.ble 93 idx then (bif Nat.ble 144 idx then (bif Nat.ble 173 idx then (bif Nat.beq idx 173 then some (8, 23) else none) else (bif Nat.beq idx 144 then some (8, 26) else none)) else (bif Nat.ble 138 idx then (bif Nat.beq idx 138 then some (8, 13) else none) else (bif Nat.beq idx 93 then some (8, 7) else none))) else (bif Nat.ble 84 idx then (bif Nat.ble 90 idx then (bif Nat.beq idx 90 then some (8, 3) else none) else (bif Nat.beq idx 84 then some (8, 29) else none)) else (bif Nat.ble 81 idx then (bif Nat.beq idx 81 then some (8, 28) else none) else (bif Nat.beq idx 78 then some (8, 27) else none)))) else (bif Nat.ble 66 idx then (bif Nat.ble 72 idx then (bif Nat.ble 75 idx then (bif Nat.beq idx 75 then some (8, 25) else none) else (bif Nat.beq idx 72 then some (8, 24) else none)) else (bif Nat.ble 69 idx then (bif Nat.beq idx 69 then some (8, 22) else none) else (bif Nat.beq idx 66 then some (8, 21) else none))) else (bif Nat.ble 60 idx then (bif Nat.ble 63 idx then (bif Nat.beq idx 63 then some (8, 20) else none) else (bif Nat.beq idx 60 then some (8, 19) else none)) else (bif Nat.beq idx 57 then some (8, 18) else none)))) else (bif Nat.ble 33 idx then (bif Nat.ble 45 idx then (bif Nat.ble 51 idx then (bif Nat.ble 54 idx then (bif Nat.beq idx 54 then some (8, 17) else none) else (bif Nat.beq idx 51 then some (8, 16) else none)) else (bif Nat.ble 48 idx then (bif Nat.beq idx 48 then some (8, 15) else none) else (bif Nat.beq idx 45 then some (8, 14) else none))) else (bif Nat.ble 39 idx then (bif Nat.ble 42 idx then (bif Nat.beq idx 42 then some (8, 12) else none) else (bif Nat.beq idx 39 then some (8, 11) else none)) else (bif Nat.ble 36 idx then (bif Nat.beq idx 36 then some (8, 10) else none) else (bif Nat.beq idx 33 then some (8, 9) else none)))) else (bif Nat.ble 19 idx then (bif Nat.ble 27 idx then (bif Nat.ble 30 idx then (bif Nat.beq idx 30 then some (8, 8) else none) else (bif Nat.beq idx 27 then some (8, 6) else none)) else (bif Nat.ble 23 idx then (bif Nat.beq idx 23 then some (8, 5) else none) else (bif Nat.beq idx 19 then some (8, 4) else none))) else (bif Nat.ble 13 idx then (bif Nat.ble 16 idx then (bif Nat.beq idx 16 then some (8, 2) else none) else (bif Nat.beq idx 13 then some (8, 1) else none)) else (bif Nat.beq idx 3 then some (8, 0) else none))))) else none) else (bif Nat.beq c 7 then (bif Nat.ble 149 idx then (bif Nat.ble 205 idx then (bif Nat.ble 221 idx then (bif Nat.ble 227 idx then (bif Nat.ble 230 idx then (bif Nat.beq idx 230 then some (4, 5) else none) else (bif Nat.beq idx 227 then some (4, 4) else none)) else (bif Nat.beq idx 221 then some (4, 3) else none)) else (bif Nat.ble 215 idx then (bif Nat.ble 218 idx then (bif Nat.beq idx 218 then some (4, 2) else none) else (bif Nat.beq idx 215 then some (4, 1) else none)) else (bif Nat.beq idx 205 then some (4, 0) else none))) else (bif Nat.ble 161 idx then (bif Nat.ble 167 idx then (bif Nat.ble 189 idx then (bif Nat.beq idx 189 then some (5, 5) else none) else (bif Nat.beq idx 167 then some (3, 0) else none)) else (bif Nat.beq idx 161 then some (1, 0) else none)) else (bif Nat.ble 153 idx then (bif Nat.ble 158 idx then (bif Nat.beq idx 158 then some (2, 0) else none) else (bif Nat.beq idx 153 then some (4, 6) else none)) else (bif Nat.beq idx 149 then some (0, 2) else none)))) else (bif Nat.ble 57 idx then (bif Nat.ble 114 idx then (bif Nat.ble 131 idx then (bif Nat.ble 143 idx then (bif Nat.beq idx 143 then some (0, 5) else none) else (bif Nat.beq idx 131 then some (1, 7) else none)) else (bif Nat.beq idx 114 then some (0, 4) else none)) else (bif Nat.ble 61 idx then (bif Nat.ble 88 idx then (bif Nat.beq idx 88 then some (2, 1) else none) else (bif Nat.beq idx 61 then some (7, 7) else none)) else (bif Nat.beq idx 57 then some (7, 6) else none))) else (bif Nat.ble 37 idx then (bif Nat.ble 44 idx then (bif Nat.ble 53 idx then (bif Nat.beq idx 53 then some (7, 5) else none) else (bif Nat.beq idx 44 then some (7, 4) else none)) else (bif Nat.beq idx 37 then some (7, 3) else none)) else (bif Nat.ble 21 idx then (bif Nat.ble 30 idx then (bif Nat.beq idx 30 then some (7, 2) else none) else (bif Nat.beq idx 21 then some (7, 1) else none)) else (bif Nat.beq idx 12 then some (7, 0) else none))))) else none)) else (bif Nat.beq c 6 then (bif Nat.ble 35 idx then (bif Nat.ble 79 idx then (bif Nat.ble 93 idx then (bif Nat.ble 99 idx then (bif Nat.beq idx 99 then some (4, 8) else none) else (bif Nat.beq idx 93 then some (6, 3) else none)) else (bif Nat.beq idx 79 then some (4, 5) else none)) else (bif Nat.ble 54 idx then (bif Nat.ble 76 idx then (bif Nat.beq idx 76 then some (4, 4) else none) else (bif Nat.beq idx 54 then some (4, 7) else none)) else (bif Nat.beq idx 35 then some (2, 2) else none))) else (bif Nat.ble 23 idx then (bif Nat.ble 29 idx then (bif Nat.ble 32 idx then (bif Nat.beq idx 32 then some (4, 3) else none) else (bif Nat.beq idx 29 then some (4, 2) else none)) else (bif Nat.beq idx 23 then some (4, 1) else none)) else (bif Nat.ble 15 idx then (bif Nat.ble 19 idx then (bif Nat.beq idx 19 then some (6, 0) else none) else (bif Nat.beq idx 15 then some (6, 2) else none)) else (bif Nat.beq idx 9 then some (6, 1) else none)))) else none))
   else
    (bif Nat.ble 5 c then (bif Nat.beq c 5 then (bif Nat.ble 106 idx then (bif Nat.ble 140 idx then (bif Nat.ble 150 idx then (bif Nat.ble 156 idx then (bif Nat.ble 162 idx then (bif Nat.beq idx 162 then some (1, 5) else none) else (bif Nat.beq idx 156 then some (1, 3) else none)) else (bif Nat.ble 153 idx then (bif Nat.beq idx 153 then some (1, 1) else none) else (bif Nat.beq idx 150 then some (1, 4) else none))) else (bif Nat.ble 143 idx then (bif Nat.ble 147 idx then (bif Nat.beq idx 147 then some (1, 2) else none) else (bif Nat.beq idx 143 then some (1, 7) else none)) else (bif Nat.beq idx 140 then some (4, 8) else none))) else (bif Nat.ble 124 idx then (bif Nat.ble 134 idx then (bif Nat.ble 137 idx then (bif Nat.beq idx 137 then some (4, 7) else none) else (bif Nat.beq idx 134 then some (2, 2) else none)) else (bif Nat.ble 127 idx then (bif Nat.beq idx 127 then some (3, 4) else none) else (bif Nat.beq idx 124 then some (3, 2) else none))) else (bif Nat.ble 109 idx then (bif Nat.ble 121 idx then (bif Nat.beq idx 121 then some (3, 3) else none) else (bif Nat.beq idx 109 then some (1, 8) else none)) else (bif Nat.beq idx 106 then some (1, 6) else none)))) else (bif Nat.ble 55 idx then (bif Nat.ble 87 idx then (bif Nat.ble 96 idx then (bif Nat.ble 101 idx then (bif Nat.beq idx 101 then some (1, 0) else none) else (bif Nat.beq idx 96 then some (4, 0) else none)) else (bif Nat.ble 92 idx then (bif Nat.beq idx 92 then some (0, 2) else none) else (bif Nat.beq idx 87 then some (0, 4) else none))) else (bif Nat.ble 59 idx then (bif Nat.ble 62 idx then (bif Nat.beq idx 62 then some (5, 9) else none) else (bif Nat.beq idx 59 then some (5, 8) else none)) else (bif Nat.beq idx 55 then some (5, 7) else none))) else (bif Nat.ble 21 idx then (bif Nat.ble 29 idx then (bif Nat.ble 33 idx then (bif Nat.beq idx 33 then some (5, 3) else none) else (bif Nat.beq idx 29 then some (5, 2) else none)) else (bif Nat.ble 25 idx then (bif Nat.beq idx 25 then some (5, 1) else none) else (bif Nat.beq idx 21 then some (5, 0) else none))) else (bif Nat.ble 15 idx then (bif Nat.ble 18 idx then (bif Nat.beq idx 18 then some (5, 6) else none) else (bif Nat.beq idx 15 then some (5, 5) else none)) else (bif Nat.beq idx 9 then some (5, 4) else none))))) else none) else (bif Nat.beq c 4 then (bif Nat.ble 15 idx then (bif Nat.ble 19 idx then (bif Nat.beq idx 19 then some (4, 8) else none) else (bif Nat.beq idx 15 then some (4, 7) else none)) else (bif Nat.beq idx 9 then some (4, 6) else none)) else none)))
  else
   (bif Nat.ble 2 c then (bif Nat.ble 3 c then (bif Nat.beq c 3 then (bif Nat.ble 18 idx then (bif Nat.ble 21 idx then (bif Nat.ble 24 idx then (bif Nat.beq idx 24 then some (3, 0) else none) else (bif Nat.beq idx 21 then some (3, 4) else none)) else (bif Nat.beq idx 18 then some (3, 3) else none)) else (bif Nat.ble 15 idx then (bif Nat.beq idx 15 then some (3, 2) else none) else (bif Nat.beq idx 9 then some (3, 1) else none))) else none) else (bif Nat.beq c 2 then (bif Nat.ble 18 idx then (bif Nat.ble 21 idx then (bif Nat.ble 25 idx then (bif Nat.beq idx 25 then some (2, 4) else none) else (bif Nat.beq idx 21 then some (2, 3) else none)) else (bif Nat.beq idx 18 then some (2, 2) else none)) else (bif Nat.ble 15 idx then (bif Nat.beq idx 15 then some (2, 1) else none) else (bif Nat.beq idx 9 then some (2, 0) else none))) else none)) else (bif Nat.ble 1 c then (bif Nat.beq c 1 then (bif Nat.ble 24 idx then (bif Nat.ble 30 idx then (bif Nat.ble 34 idx then (bif Nat.ble 37 idx then (bif Nat.beq idx 37 then some (1, 0) else none) else (bif Nat.beq idx 34 then some (1, 8) else none)) else (bif Nat.beq idx 30 then some (1, 7) else none)) else (bif Nat.ble 27 idx then (bif Nat.beq idx 27 then some (1, 6) else none) else (bif Nat.beq idx 24 then some (1, 5) else none))) else (bif Nat.ble 18 idx then (bif Nat.ble 21 idx then (bif Nat.beq idx 21 then some (1, 4) else none) else (bif Nat.beq idx 18 then some (1, 3) else none)) else (bif Nat.ble 15 idx then (bif Nat.beq idx 15 then some (1, 2) else none) else (bif Nat.beq idx 9 then some (1, 1) else none)))) else none) else (bif Nat.beq c 0 then (bif Nat.ble 37 idx then (bif Nat.ble 52 idx then (bif Nat.ble 59 idx then (bif Nat.ble 76 idx then (bif Nat.beq idx 76 then some (4, 3) else none) else (bif Nat.beq idx 59 then some (4, 7) else none)) else (bif Nat.beq idx 52 then some (2, 2) else none)) else (bif Nat.ble 40 idx then (bif Nat.ble 49 idx then (bif Nat.beq idx 49 then some (4, 6) else none) else (bif Nat.beq idx 40 then some (2, 0) else none)) else (bif Nat.beq idx 37 then some (4, 0) else none))) else (bif Nat.ble 25 idx then (bif Nat.ble 29 idx then (bif Nat.ble 34 idx then (bif Nat.beq idx 34 then some (0, 4) else none) else (bif Nat.beq idx 29 then some (0, 1) else none)) else (bif Nat.beq idx 25 then some (0, 0) else none)) else (bif Nat.ble 17 idx then (bif Nat.ble 21 idx then (bif Nat.beq idx 21 then some (0, 5) else none) else (bif Nat.beq idx 17 then some (0, 3) else none)) else (bif Nat.beq idx 11 then some (0, 2) else none)))) else none))))
/-- a method of a class file: static?, its number, how many arguments; 1000: arraycopy, 1001 .. 1003: abs, max, min -/
def mthb (c idx : Nat) : Option (Bool × Nat × Nat) :=
  (bif Nat.ble 5 c then
   (bif Nat.ble 7 c then (bif Nat.ble 8 c then (bif Nat.beq c 8 then (bif Nat.ble 179 idx then (bif Nat.ble 211 idx then (bif Nat.ble 229 idx then (bif Nat.ble 235 idx then (bif Nat.ble 238 idx then (bif Nat.ble 241 idx then (bif Nat.beq idx 241 then some (false, 141, 2) else none) else (bif Nat.beq idx 238 then some (false, 87, 0) else none)) else (bif Nat.beq idx 235 then some (false, 137, 1) else none)) else (bif Nat.ble 232 idx then (bif Nat.beq idx 232 then some (false, 138, 0) else none) else (bif Nat.beq idx 229 then some (false, 114, 1) else none))) else (bif Nat.ble 218 idx then (bif Nat.ble 221 idx then (bif Nat.ble 224 idx then (bif Nat.beq idx 224 then some (false, 132, 2) else none) else (bif Nat.beq idx 221 then some (false, 129, 2) else none)) else (bif Nat.beq idx 218 then some (false, 130, 2) else none)) else (bif Nat.ble 215 idx then (bif Nat.beq idx 215 then some (false, 127, 2) else none) else (bif Nat.beq idx 211 then some (false, 126, 2) else none)))) else (bif Nat.ble 195 idx then (bif Nat.ble 201 idx then (bif Nat.ble 205 idx then (bif Nat.ble 208 idx then (bif Nat.beq idx 208 then some (false, 123, 0) else none) else (bif Nat.beq idx 205 then some (false, 125, 1) else none)) else (bif Nat.beq idx 201 then some (false, 122, 2) else none)) else (bif Nat.ble 198 idx then (bif Nat.beq idx 198 then some (false, 124, 1) else none) else (bif Nat.beq idx 195 then some (false, 120, 1) else none))) else (bif Nat.ble 186 idx then (bif Nat.ble 189 idx then (bif Nat.ble 192 idx then (bif Nat.beq idx 192 then some (false, 118, 1) else none) else (bif Nat.beq idx 189 then some (false, 117, 0) else none)) else (bif Nat.beq idx 186 then some (false, 116, 1) else none)) else (bif Nat.ble 183 idx then (bif Nat.beq idx 183 then some (false, 121, 1) else none) else (bif Nat.beq idx 179 then some (false, 111, 1) else none))))) else (bif Nat.ble 141 idx then (bif Nat.ble 160 idx then (bif Nat.ble 166 idx then (bif Nat.ble 170 idx then (bif Nat.ble 176 idx then (bif Nat.beq idx 176 then some (false, 119, 2) else none) else (bif Nat.beq idx 170 then some (true, 113, 2) else none)) else (bif Nat.beq idx 166 then some (false, 115, 0) else none)) else (bif Nat.ble 163 idx then (bif Nat.beq idx 163 then some (true, 112, 2) else none) else (bif Nat.beq idx 160 then some (true, 1002, 2) else none))) else (bif Nat.ble 151 idx then (bif Nat.ble 154 idx then (bif Nat.ble 157 idx then (bif Nat.beq idx 157 then some (true, 1001, 1) else none) else (bif Nat.beq idx 154 then some (false, 109, 1) else none)) else (bif Nat.beq idx 151 then some (false, 108, 2) else none)) else (bif Nat.ble 147 idx then (bif Nat.beq idx 147 then some (false, 107, 1) else none) else (bif Nat.beq idx 141 then some (false, 104, 1) else none)))) else (bif Nat.ble 113 idx then (bif Nat.ble 122 idx then (bif Nat.ble 126 idx then (bif Nat.ble 134 idx then (bif Nat.beq idx 134 then some (true, 98, 3) else none) else (bif Nat.beq idx 126 then some (false, 97, 4) else none)) else (bif Nat.beq idx 122 then some (false, 89, 2) else none)) else (bif Nat.ble 118 idx then (bif Nat.beq idx 118 then some (true, 90, 1) else none) else (bif Nat.beq idx 113 then some (true, 1003, 2) else none))) else (bif Nat.ble 104 idx then (bif Nat.ble 108 idx then (bif Nat.beq idx 108 then some (false, 93, 2) else none) else (bif Nat.beq idx 104 then some (true, 91, 2) else none)) else (bif Nat.ble 96 idx then (bif Nat.beq idx 96 then some (true, 86, 3) else none) else (bif Nat.beq idx 87 then some (false, 88, 0) else none)))))) else none) else (bif Nat.beq c 7 then (bif Nat.ble 140 idx then (bif Nat.ble 196 idx then (bif Nat.ble 224 idx then (bif Nat.ble 243 idx then (bif Nat.ble 246 idx then (bif Nat.ble 249 idx then (bif Nat.beq idx 249 then some (false, 46, 2) else none) else (bif Nat.beq idx 246 then some (false, 41, 0) else none)) else (bif Nat.beq idx 243 then some (false, 45, 2) else none)) else (bif Nat.ble 233 idx then (bif Nat.beq idx 233 then some (false, 44, 1) else none) else (bif Nat.beq idx 224 then some (false, 8, 1) else none))) else (bif Nat.ble 202 idx then (bif Nat.ble 208 idx then (bif Nat.ble 211 idx then (bif Nat.beq idx 211 then some (false, 48, 1) else none) else (bif Nat.beq idx 208 then some (false, 80, 2) else none)) else (bif Nat.beq idx 202 then some (false, 32, 1) else none)) else (bif Nat.ble 199 idx then (bif Nat.beq idx 199 then some (false, 38, 1) else none) else (bif Nat.beq idx 196 then some (false, 39, 1) else none)))) else (bif Nat.ble 176 idx then (bif Nat.ble 183 idx then (bif Nat.ble 186 idx then (bif Nat.ble 192 idx then (bif Nat.beq idx 192 then some (false, 72, 3) else none) else (bif Nat.beq idx 186 then some (false, 31, 2) else none)) else (bif Nat.beq idx 183 then some (false, 26, 1) else none)) else (bif Nat.ble 180 idx then (bif Nat.beq idx 180 then some (false, 19, 2) else none) else (bif Nat.beq idx 176 then some (false, 7, 1) else none))) else (bif Nat.ble 164 idx then (bif Nat.ble 170 idx then (bif Nat.ble 173 idx then (bif Nat.beq idx 173 then some (false, 1, 0) else none) else (bif Nat.beq idx 170 then some (false, 17, 2) else none)) else (bif Nat.beq idx 164 then some (false, 14, 0) else none)) else (bif Nat.ble 146 idx then (bif Nat.beq idx 146 then some (false, 3, 1) else none) else (bif Nat.beq idx 140 then some (false, 24, 4) else none))))) else (bif Nat.ble 103 idx then (bif Nat.ble 124 idx then (bif Nat.ble 128 idx then (bif Nat.ble 135 idx then (bif Nat.ble 139 idx then (bif Nat.beq idx 139 then some (false, 23, 0) else none) else (bif Nat.beq idx 135 then some (true, 81, 3) else none)) else (bif Nat.beq idx 128 then some (false, 12, 1) else none)) else (bif Nat.ble 125 idx then (bif Nat.beq idx 125 then some (false, 13, 6) else none) else (bif Nat.beq idx 124 then some (false, 11, 0) else none))) else (bif Nat.ble 111 idx then (bif Nat.ble 117 idx then (bif Nat.ble 121 idx then (bif Nat.beq idx 121 then some (true, 83, 1) else none) else (bif Nat.beq idx 117 then some (false, 30, 5) else none)) else (bif Nat.beq idx 111 then some (true, 84, 1) else none)) else (bif Nat.ble 107 idx then (bif Nat.beq idx 107 then some (false, 18, 4) else none) else (bif Nat.beq idx 103 then some (false, 6, 1) else none)))) else (bif Nat.ble 80 idx then (bif Nat.ble 91 idx then (bif Nat.ble 96 idx then (bif Nat.ble 99 idx then (bif Nat.beq idx 99 then some (false, 4, 0) else none) else (bif Nat.beq idx 96 then some (true, 82, 1) else none)) else (bif Nat.beq idx 91 then some (true, 1003, 2) else none)) else (bif Nat.ble 84 idx then (bif Nat.beq idx 84 then some (false, 5, 2) else none) else (bif Nat.beq idx 80 then some (false, 2, 0) else none))) else (bif Nat.ble 72 idx then (bif Nat.ble 73 idx then (bif Nat.ble 76 idx then (bif Nat.beq idx 76 then some (false, 16, 1) else none) else (bif Nat.beq idx 73 then some (false, 29, 0) else none)) else (bif Nat.beq idx 72 then some (false, 10, 0) else none)) else (bif Nat.ble 69 idx then (bif Nat.beq idx 69 then some (false, 0, 0) else none) else (bif Nat.beq idx 65 then some (false, 15, 2) else none)))))) else none)) else (bif Nat.ble 6 c then (bif Nat.beq c 6 then (bif Nat.ble 70 idx then (bif Nat.ble 90 idx then (bif Nat.ble 102 idx then (bif Nat.ble 106 idx then (bif Nat.beq idx 106 then some (false, 22, 2) else none) else (bif Nat.beq idx 102 then some (false, 56, 3) else none)) else (bif Nat.ble 96 idx then (bif Nat.beq idx 96 then some (false, 20, 2) else none) else (bif Nat.beq idx 90 then some (false, 55, 1) else none))) else (bif Nat.ble 82 idx then (bif Nat.ble 86 idx then (bif Nat.beq idx 86 then some (false, 54, 1) else none) else (bif Nat.beq idx 82 then some (false, 53, 1) else none)) else (bif Nat.ble 73 idx then (bif Nat.beq idx 73 then some (false, 28, 1) else none) else (bif Nat.beq idx 70 then some (true, 1003, 2) else none)))) else (bif Nat.ble 57 idx then (bif Nat.ble 63 idx then (bif Nat.ble 67 idx then (bif Nat.beq idx 67 then some (false, 21, 2) else none) else (bif Nat.beq idx 63 then some (false, 52, 1) else none)) else (bif Nat.ble 60 idx then (bif Nat.beq idx 60 then some (false, 26, 1) else none) else (bif Nat.beq idx 57 then some (false, 50, 2) else none))) else (bif Nat.ble 44 idx then (bif Nat.ble 48 idx then (bif Nat.beq idx 48 then some (true, 1002, 2) else none) else (bif Nat.beq idx 44 then some (false, 49, 2) else none)) else (bif Nat.beq idx 40 then some (false, 27, 1) else none)))) else none) else (bif Nat.beq c 5 then (bif Nat.ble 118 idx then (bif Nat.ble 172 idx then (bif Nat.ble 180 idx then (bif Nat.ble 183 idx then (bif Nat.ble 186 idx then (bif Nat.beq idx 186 then some (false, 38, 1) else none) else (bif Nat.beq idx 183 then some (false, 42, 0) else none)) else (bif Nat.beq idx 180 then some (false, 41, 0) else none)) else (bif Nat.ble 176 idx then (bif Nat.beq idx 176 then some (false, 43, 1) else none) else (bif Nat.beq idx 172 then some (false, 31, 2) else none))) else (bif Nat.ble 159 idx then (bif Nat.ble 165 idx then (bif Nat.ble 169 idx then (bif Nat.beq idx 169 then some (false, 20, 2) else none) else (bif Nat.beq idx 165 then some (false, 40, 2) else none)) else (bif Nat.beq idx 159 then some (false, 26, 1) else none)) else (bif Nat.ble 130 idx then (bif Nat.beq idx 130 then some (false, 36, 2) else none) else (bif Nat.beq idx 118 then some (false, 8, 1) else none)))) else (bif Nat.ble 73 idx then (bif Nat.ble 81 idx then (bif Nat.ble 84 idx then (bif Nat.ble 112 idx then (bif Nat.beq idx 112 then some (false, 25, 1) else none) else (bif Nat.beq idx 84 then some (false, 37, 0) else none)) else (bif Nat.beq idx 81 then some (false, 35, 0) else none)) else (bif Nat.ble 76 idx then (bif Nat.beq idx 76 then some (true, 1003, 2) else none) else (bif Nat.beq idx 73 then some (false, 34, 0) else none))) else (bif Nat.ble 49 idx then (bif Nat.ble 65 idx then (bif Nat.ble 69 idx then (bif Nat.beq idx 69 then some (false, 33, 0) else none) else (bif Nat.beq idx 65 then some (false, 32, 1) else none)) else (bif Nat.beq idx 49 then some (true, 1000, 5) else none)) else (bif Nat.ble 43 idx then (bif Nat.beq idx 43 then some (false, 19, 2) else none) else (bif Nat.beq idx 37 then some (true, 145, 2) else none))))) else none)))
  else
   (bif Nat.ble 2 c then (bif Nat.ble 4 c then (bif Nat.beq c 4 then (bif Nat.beq idx 22 then some (false, 27, 1) else none) else none) else (bif Nat.beq c 2 then (bif Nat.ble 36 idx then (bif Nat.ble 42 idx then (bif Nat.beq idx 42 then some (true, 1002, 2) else none) else (bif Nat.beq idx 36 then some (true, 1001, 1) else none)) else (bif Nat.ble 32 idx then (bif Nat.beq idx 32 then some (false, 17, 2) else none) else (bif Nat.beq idx 28 then some (false, 16, 1) else none))) else none)) else (bif Nat.beq c 0 then (bif Nat.ble 63 idx then (bif Nat.ble 67 idx then (bif Nat.ble 73 idx then (bif Nat.beq idx 73 then some (false, 51, 1) else none) else (bif Nat.beq idx 67 then some (false, 47, 1) else none)) else (bif Nat.beq idx 63 then some (true, 9, 2) else none)) else (bif Nat.ble 55 idx then (bif Nat.beq idx 55 then some (false, 26, 1) else none) else (bif Nat.beq idx 45 then some (false, 19, 2) else none))) else none)))
def fld (c idx : Nat) : Option (Nat × Nat) := bif Nat.ble 10 c then none else bif Nat.ble 300 idx then none else fldb c idx
def mth (c idx : Nat) : Option (Bool × Nat × Nat) := bif Nat.ble 10 c then none else bif Nat.ble 300 idx then none else mthb c idx
def lcnb (c idx : Nat) : Option Int64 :=
  bif Nat.beq c 8 then (bif Nat.ble 130 idx then (bif Nat.ble 132 idx then (bif Nat.ble 227 idx then (bif Nat.beq idx 227 then some (7 : Int64) else none) else (bif Nat.beq idx 132 then some (9 : Int64) else none)) else (bif Nat.beq idx 130 then some (-1 : Int64) else none)) else (bif Nat.ble 102 idx then (bif Nat.ble 111 idx then (bif Nat.beq idx 111 then some (2 : Int64) else none) else (bif Nat.beq idx 102 then some (12 : Int64) else none)) else (bif Nat.beq idx 100 then some (200 : Int64) else none))) else none
def lcn (c idx : Nat) : Option Int64 := bif Nat.ble 10 c then none else bif Nat.ble 300 idx then none else lcnb c idx
/-- what a method answers: 0 nothing, 1 an int, 2 a boolean, 3 a cell -/
def mrt (k : Nat) : Nat :=
  (bif Nat.ble 73 k then
   (bif Nat.ble 109 k then
    (bif Nat.ble 127 k then
     (bif Nat.ble 136 k then
      (bif Nat.ble 141 k then
       (bif Nat.ble 143 k then
        (bif Nat.ble 144 k then (bif Nat.ble 145 k then (bif Nat.beq k 145 then 0 else 0) else (bif Nat.beq k 144 then 1 else 0)) else (bif Nat.beq k 143 then 1 else 0))
       else
        (bif Nat.ble 142 k then (bif Nat.beq k 142 then 1 else 0) else (bif Nat.beq k 141 then 1 else 0)))
      else
       (bif Nat.ble 138 k then
        (bif Nat.ble 139 k then (bif Nat.ble 140 k then (bif Nat.beq k 140 then 1 else 0) else (bif Nat.beq k 139 then 1 else 0)) else (bif Nat.beq k 138 then 1 else 0))
       else
        (bif Nat.ble 137 k then (bif Nat.beq k 137 then 0 else 0) else (bif Nat.beq k 136 then 1 else 0))))
     else
      (bif Nat.ble 131 k then
       (bif Nat.ble 133 k then
        (bif Nat.ble 134 k then (bif Nat.ble 135 k then (bif Nat.beq k 135 then 1 else 0) else (bif Nat.beq k 134 then 1 else 0)) else (bif Nat.beq k 133 then 1 else 0))
       else
        (bif Nat.ble 132 k then (bif Nat.beq k 132 then 2 else 0) else (bif Nat.beq k 131 then 1 else 0)))
      else
       (bif Nat.ble 129 k then (bif Nat.ble 130 k then (bif Nat.beq k 130 then 2 else 0) else (bif Nat.beq k 129 then 1 else 0)) else (bif Nat.ble 128 k then (bif Nat.beq k 128 then 1 else 0) else (bif Nat.beq k 127 then 0 else 0)))))
    else
     (bif Nat.ble 118 k then
      (bif Nat.ble 122 k then
       (bif Nat.ble 124 k then
        (bif Nat.ble 125 k then (bif Nat.ble 126 k then (bif Nat.beq k 126 then 0 else 0) else (bif Nat.beq k 125 then 0 else 0)) else (bif Nat.beq k 124 then 1 else 0))
       else
        (bif Nat.ble 123 k then (bif Nat.beq k 123 then 0 else 0) else (bif Nat.beq k 122 then 0 else 0)))
      else
       (bif Nat.ble 120 k then (bif Nat.ble 121 k then (bif Nat.beq k 121 then 1 else 0) else (bif Nat.beq k 120 then 1 else 0)) else (bif Nat.ble 119 k then (bif Nat.beq k 119 then 1 else 0) else (bif Nat.beq k 118 then 1 else 0))))
     else
      (bif Nat.ble 113 k then
       (bif Nat.ble 115 k then
        (bif Nat.ble 116 k then (bif Nat.ble 117 k then (bif Nat.beq k 117 then 0 else 0) else (bif Nat.beq k 116 then 2 else 0)) else (bif Nat.beq k 115 then 1 else 0))
       else
        (bif Nat.ble 114 k then (bif Nat.beq k 114 then 1 else 0) else (bif Nat.beq k 113 then 1 else 0)))
      else
       (bif Nat.ble 111 k then (bif Nat.ble 112 k then (bif Nat.beq k 112 then 1 else 0) else (bif Nat.beq k 111 then 0 else 0)) else (bif Nat.ble 110 k then (bif Nat.beq k 110 then 1 else 0) else (bif Nat.beq k 109 then 2 else 0))))))
   else
    (bif Nat.ble 91 k then
     (bif Nat.ble 100 k then
      (bif Nat.ble 104 k then
       (bif Nat.ble 106 k then
        (bif Nat.ble 107 k then (bif Nat.ble 108 k then (bif Nat.beq k 108 then 2 else 0) else (bif Nat.beq k 107 then 1 else 0)) else (bif Nat.beq k 106 then 1 else 0))
       else
        (bif Nat.ble 105 k then (bif Nat.beq k 105 then 2 else 0) else (bif Nat.beq k 104 then 2 else 0)))
      else
       (bif Nat.ble 102 k then (bif Nat.ble 103 k then (bif Nat.beq k 103 then 1 else 0) else (bif Nat.beq k 102 then 1 else 0)) else (bif Nat.ble 101 k then (bif Nat.beq k 101 then 2 else 0) else (bif Nat.beq k 100 then 1 else 0))))
     else
      (bif Nat.ble 95 k then
       (bif Nat.ble 97 k then
        (bif Nat.ble 98 k then (bif Nat.ble 99 k then (bif Nat.beq k 99 then 2 else 0) else (bif Nat.beq k 98 then 2 else 0)) else (bif Nat.beq k 97 then 2 else 0))
       else
        (bif Nat.ble 96 k then (bif Nat.beq k 96 then 1 else 0) else (bif Nat.beq k 95 then 1 else 0)))
      else
       (bif Nat.ble 93 k then (bif Nat.ble 94 k then (bif Nat.beq k 94 then 1 else 0) else (bif Nat.beq k 93 then 1 else 0)) else (bif Nat.ble 92 k then (bif Nat.beq k 92 then 2 else 0) else (bif Nat.beq k 91 then 1 else 0)))))
    else
     (bif Nat.ble 82 k then
      (bif Nat.ble 86 k then
       (bif Nat.ble 88 k then
        (bif Nat.ble 89 k then (bif Nat.ble 90 k then (bif Nat.beq k 90 then 2 else 0) else (bif Nat.beq k 89 then 2 else 0)) else (bif Nat.beq k 88 then 0 else 0))
       else
        (bif Nat.ble 87 k then (bif Nat.beq k 87 then 1 else 0) else (bif Nat.beq k 86 then 2 else 0)))
      else
       (bif Nat.ble 84 k then (bif Nat.ble 85 k then (bif Nat.beq k 85 then 1 else 0) else (bif Nat.beq k 84 then 2 else 0)) else (bif Nat.ble 83 k then (bif Nat.beq k 83 then 2 else 0) else (bif Nat.beq k 82 then 2 else 0))))
     else
      (bif Nat.ble 77 k then
       (bif Nat.ble 79 k then
        (bif Nat.ble 80 k then (bif Nat.ble 81 k then (bif Nat.beq k 81 then 2 else 0) else (bif Nat.beq k 80 then 0 else 0)) else (bif Nat.beq k 79 then 1 else 0))
       else
        (bif Nat.ble 78 k then (bif Nat.beq k 78 then 1 else 0) else (bif Nat.beq k 77 then 1 else 0)))
      else
       (bif Nat.ble 75 k then (bif Nat.ble 76 k then (bif Nat.beq k 76 then 1 else 0) else (bif Nat.beq k 75 then 1 else 0)) else (bif Nat.ble 74 k then (bif Nat.beq k 74 then 1 else 0) else (bif Nat.beq k 73 then 1 else 0)))))))
  else
   (bif Nat.ble 36 k then
    (bif Nat.ble 54 k then
     (bif Nat.ble 63 k then
      (bif Nat.ble 68 k then
       (bif Nat.ble 70 k then
        (bif Nat.ble 71 k then (bif Nat.ble 72 k then (bif Nat.beq k 72 then 1 else 0) else (bif Nat.beq k 71 then 1 else 0)) else (bif Nat.beq k 70 then 1 else 0))
       else
        (bif Nat.ble 69 k then (bif Nat.beq k 69 then 1 else 0) else (bif Nat.beq k 68 then 1 else 0)))
      else
       (bif Nat.ble 65 k then
        (bif Nat.ble 66 k then (bif Nat.ble 67 k then (bif Nat.beq k 67 then 1 else 0) else (bif Nat.beq k 66 then 2 else 0)) else (bif Nat.beq k 65 then 1 else 0))
       else
        (bif Nat.ble 64 k then (bif Nat.beq k 64 then 1 else 0) else (bif Nat.beq k 63 then 2 else 0))))
     else
      (bif Nat.ble 58 k then
       (bif Nat.ble 60 k then
        (bif Nat.ble 61 k then (bif Nat.ble 62 k then (bif Nat.beq k 62 then 1 else 0) else (bif Nat.beq k 61 then 2 else 0)) else (bif Nat.beq k 60 then 1 else 0))
       else
        (bif Nat.ble 59 k then (bif Nat.beq k 59 then 1 else 0) else (bif Nat.beq k 58 then 1 else 0)))
      else
       (bif Nat.ble 56 k then (bif Nat.ble 57 k then (bif Nat.beq k 57 then 2 else 0) else (bif Nat.beq k 56 then 1 else 0)) else (bif Nat.ble 55 k then (bif Nat.beq k 55 then 0 else 0) else (bif Nat.beq k 54 then 0 else 0)))))
    else
     (bif Nat.ble 45 k then
      (bif Nat.ble 49 k then
       (bif Nat.ble 51 k then
        (bif Nat.ble 52 k then (bif Nat.ble 53 k then (bif Nat.beq k 53 then 2 else 0) else (bif Nat.beq k 52 then 0 else 0)) else (bif Nat.beq k 51 then 0 else 0))
       else
        (bif Nat.ble 50 k then (bif Nat.beq k 50 then 1 else 0) else (bif Nat.beq k 49 then 1 else 0)))
      else
       (bif Nat.ble 47 k then (bif Nat.ble 48 k then (bif Nat.beq k 48 then 1 else 0) else (bif Nat.beq k 47 then 0 else 0)) else (bif Nat.ble 46 k then (bif Nat.beq k 46 then 1 else 0) else (bif Nat.beq k 45 then 1 else 0))))
     else
      (bif Nat.ble 40 k then
       (bif Nat.ble 42 k then
        (bif Nat.ble 43 k then (bif Nat.ble 44 k then (bif Nat.beq k 44 then 1 else 0) else (bif Nat.beq k 43 then 0 else 0)) else (bif Nat.beq k 42 then 1 else 0))
       else
        (bif Nat.ble 41 k then (bif Nat.beq k 41 then 0 else 0) else (bif Nat.beq k 40 then 2 else 0)))
      else
       (bif Nat.ble 38 k then (bif Nat.ble 39 k then (bif Nat.beq k 39 then 1 else 0) else (bif Nat.beq k 38 then 1 else 0)) else (bif Nat.ble 37 k then (bif Nat.beq k 37 then 0 else 0) else (bif Nat.beq k 36 then 0 else 0))))))
   else
    (bif Nat.ble 18 k then
     (bif Nat.ble 27 k then
      (bif Nat.ble 31 k then
       (bif Nat.ble 33 k then
        (bif Nat.ble 34 k then (bif Nat.ble 35 k then (bif Nat.beq k 35 then 0 else 0) else (bif Nat.beq k 34 then 1 else 0)) else (bif Nat.beq k 33 then 1 else 0))
       else
        (bif Nat.ble 32 k then (bif Nat.beq k 32 then 2 else 0) else (bif Nat.beq k 31 then 0 else 0)))
      else
       (bif Nat.ble 29 k then (bif Nat.ble 30 k then (bif Nat.beq k 30 then 0 else 0) else (bif Nat.beq k 29 then 0 else 0)) else (bif Nat.ble 28 k then (bif Nat.beq k 28 then 2 else 0) else (bif Nat.beq k 27 then 2 else 0))))
     else
      (bif Nat.ble 22 k then
       (bif Nat.ble 24 k then
        (bif Nat.ble 25 k then (bif Nat.ble 26 k then (bif Nat.beq k 26 then 2 else 0) else (bif Nat.beq k 25 then 1 else 0)) else (bif Nat.beq k 24 then 1 else 0))
       else
        (bif Nat.ble 23 k then (bif Nat.beq k 23 then 2 else 0) else (bif Nat.beq k 22 then 1 else 0)))
      else
       (bif Nat.ble 20 k then (bif Nat.ble 21 k then (bif Nat.beq k 21 then 1 else 0) else (bif Nat.beq k 20 then 1 else 0)) else (bif Nat.ble 19 k then (bif Nat.beq k 19 then 1 else 0) else (bif Nat.beq k 18 then 2 else 0)))))
    else
     (bif Nat.ble 9 k then
      (bif Nat.ble 13 k then
       (bif Nat.ble 15 k then
        (bif Nat.ble 16 k then (bif Nat.ble 17 k then (bif Nat.beq k 17 then 2 else 0) else (bif Nat.beq k 16 then 2 else 0)) else (bif Nat.beq k 15 then 0 else 0))
       else
        (bif Nat.ble 14 k then (bif Nat.beq k 14 then 1 else 0) else (bif Nat.beq k 13 then 1 else 0)))
      else
       (bif Nat.ble 11 k then (bif Nat.ble 12 k then (bif Nat.beq k 12 then 2 else 0) else (bif Nat.beq k 11 then 2 else 0)) else (bif Nat.ble 10 k then (bif Nat.beq k 10 then 0 else 0) else (bif Nat.beq k 9 then 1 else 0))))
     else
      (bif Nat.ble 4 k then
       (bif Nat.ble 6 k then
        (bif Nat.ble 7 k then (bif Nat.ble 8 k then (bif Nat.beq k 8 then 2 else 0) else (bif Nat.beq k 7 then 3 else 0)) else (bif Nat.beq k 6 then 1 else 0))
       else
        (bif Nat.ble 5 k then (bif Nat.beq k 5 then 1 else 0) else (bif Nat.beq k 4 then 1 else 0)))
      else
       (bif Nat.ble 2 k then (bif Nat.ble 3 k then (bif Nat.beq k 3 then 2 else 0) else (bif Nat.beq k 2 then 2 else 0)) else (bif Nat.ble 1 k then (bif Nat.beq k 1 then 2 else 0) else (bif Nat.beq k 0 then 0 else 0))))))))
def mml (k : Nat) : Nat :=
  (bif Nat.ble 73 k then
   (bif Nat.ble 109 k then
    (bif Nat.ble 127 k then
     (bif Nat.ble 136 k then
      (bif Nat.ble 141 k then
       (bif Nat.ble 143 k then
        (bif Nat.ble 144 k then (bif Nat.ble 145 k then (bif Nat.beq k 145 then 4 else 0) else (bif Nat.beq k 144 then 2 else 0)) else (bif Nat.beq k 143 then 6 else 0))
       else
        (bif Nat.ble 142 k then (bif Nat.beq k 142 then 3 else 0) else (bif Nat.beq k 141 then 5 else 0)))
      else
       (bif Nat.ble 138 k then
        (bif Nat.ble 139 k then (bif Nat.ble 140 k then (bif Nat.beq k 140 then 5 else 0) else (bif Nat.beq k 139 then 5 else 0)) else (bif Nat.beq k 138 then 3 else 0))
       else
        (bif Nat.ble 137 k then (bif Nat.beq k 137 then 3 else 0) else (bif Nat.beq k 136 then 6 else 0))))
     else
      (bif Nat.ble 131 k then
       (bif Nat.ble 133 k then
        (bif Nat.ble 134 k then (bif Nat.ble 135 k then (bif Nat.beq k 135 then 5 else 0) else (bif Nat.beq k 134 then 6 else 0)) else (bif Nat.beq k 133 then 6 else 0))
       else
        (bif Nat.ble 132 k then (bif Nat.beq k 132 then 5 else 0) else (bif Nat.beq k 131 then 3 else 0)))
      else
       (bif Nat.ble 129 k then (bif Nat.ble 130 k then (bif Nat.beq k 130 then 3 else 0) else (bif Nat.beq k 129 then 5 else 0)) else (bif Nat.ble 128 k then (bif Nat.beq k 128 then 4 else 0) else (bif Nat.beq k 127 then 4 else 0)))))
    else
     (bif Nat.ble 118 k then
      (bif Nat.ble 122 k then
       (bif Nat.ble 124 k then
        (bif Nat.ble 125 k then (bif Nat.ble 126 k then (bif Nat.beq k 126 then 4 else 0) else (bif Nat.beq k 125 then 6 else 0)) else (bif Nat.beq k 124 then 3 else 0))
       else
        (bif Nat.ble 123 k then (bif Nat.beq k 123 then 2 else 0) else (bif Nat.beq k 122 then 10 else 0)))
      else
       (bif Nat.ble 120 k then (bif Nat.ble 121 k then (bif Nat.beq k 121 then 4 else 0) else (bif Nat.beq k 120 then 6 else 0)) else (bif Nat.ble 119 k then (bif Nat.beq k 119 then 5 else 0) else (bif Nat.beq k 118 then 4 else 0))))
     else
      (bif Nat.ble 113 k then
       (bif Nat.ble 115 k then
        (bif Nat.ble 116 k then (bif Nat.ble 117 k then (bif Nat.beq k 117 then 5 else 0) else (bif Nat.beq k 116 then 2 else 0)) else (bif Nat.beq k 115 then 6 else 0))
       else
        (bif Nat.ble 114 k then (bif Nat.beq k 114 then 4 else 0) else (bif Nat.beq k 113 then 2 else 0)))
      else
       (bif Nat.ble 111 k then (bif Nat.ble 112 k then (bif Nat.beq k 112 then 2 else 0) else (bif Nat.beq k 111 then 5 else 0)) else (bif Nat.ble 110 k then (bif Nat.beq k 110 then 4 else 0) else (bif Nat.beq k 109 then 2 else 0))))))
   else
    (bif Nat.ble 91 k then
     (bif Nat.ble 100 k then
      (bif Nat.ble 104 k then
       (bif Nat.ble 106 k then
        (bif Nat.ble 107 k then (bif Nat.ble 108 k then (bif Nat.beq k 108 then 3 else 0) else (bif Nat.beq k 107 then 4 else 0)) else (bif Nat.beq k 106 then 4 else 0))
       else
        (bif Nat.ble 105 k then (bif Nat.beq k 105 then 3 else 0) else (bif Nat.beq k 104 then 2 else 0)))
      else
       (bif Nat.ble 102 k then (bif Nat.ble 103 k then (bif Nat.beq k 103 then 3 else 0) else (bif Nat.beq k 102 then 5 else 0)) else (bif Nat.ble 101 k then (bif Nat.beq k 101 then 3 else 0) else (bif Nat.beq k 100 then 7 else 0))))
     else
      (bif Nat.ble 95 k then
       (bif Nat.ble 97 k then
        (bif Nat.ble 98 k then (bif Nat.ble 99 k then (bif Nat.beq k 99 then 7 else 0) else (bif Nat.beq k 98 then 3 else 0)) else (bif Nat.beq k 97 then 5 else 0))
       else
        (bif Nat.ble 96 k then (bif Nat.beq k 96 then 3 else 0) else (bif Nat.beq k 95 then 10 else 0)))
      else
       (bif Nat.ble 93 k then (bif Nat.ble 94 k then (bif Nat.beq k 94 then 3 else 0) else (bif Nat.beq k 93 then 6 else 0)) else (bif Nat.ble 92 k then (bif Nat.beq k 92 then 3 else 0) else (bif Nat.beq k 91 then 2 else 0)))))
    else
     (bif Nat.ble 82 k then
      (bif Nat.ble 86 k then
       (bif Nat.ble 88 k then
        (bif Nat.ble 89 k then (bif Nat.ble 90 k then (bif Nat.beq k 90 then 1 else 0) else (bif Nat.beq k 89 then 3 else 0)) else (bif Nat.beq k 88 then 2 else 0))
       else
        (bif Nat.ble 87 k then (bif Nat.beq k 87 then 1 else 0) else (bif Nat.beq k 86 then 6 else 0)))
      else
       (bif Nat.ble 84 k then (bif Nat.ble 85 k then (bif Nat.beq k 85 then 1 else 0) else (bif Nat.beq k 84 then 1 else 0)) else (bif Nat.ble 83 k then (bif Nat.beq k 83 then 1 else 0) else (bif Nat.beq k 82 then 1 else 0))))
     else
      (bif Nat.ble 77 k then
       (bif Nat.ble 79 k then
        (bif Nat.ble 80 k then (bif Nat.ble 81 k then (bif Nat.beq k 81 then 3 else 0) else (bif Nat.beq k 80 then 3 else 0)) else (bif Nat.beq k 79 then 2 else 0))
       else
        (bif Nat.ble 78 k then (bif Nat.beq k 78 then 6 else 0) else (bif Nat.beq k 77 then 3 else 0)))
      else
       (bif Nat.ble 75 k then (bif Nat.ble 76 k then (bif Nat.beq k 76 then 3 else 0) else (bif Nat.beq k 75 then 4 else 0)) else (bif Nat.ble 74 k then (bif Nat.beq k 74 then 2 else 0) else (bif Nat.beq k 73 then 7 else 0)))))))
  else
   (bif Nat.ble 36 k then
    (bif Nat.ble 54 k then
     (bif Nat.ble 63 k then
      (bif Nat.ble 68 k then
       (bif Nat.ble 70 k then
        (bif Nat.ble 71 k then (bif Nat.ble 72 k then (bif Nat.beq k 72 then 7 else 0) else (bif Nat.beq k 71 then 3 else 0)) else (bif Nat.beq k 70 then 3 else 0))
       else
        (bif Nat.ble 69 k then (bif Nat.beq k 69 then 4 else 0) else (bif Nat.beq k 68 then 4 else 0)))
      else
       (bif Nat.ble 65 k then
        (bif Nat.ble 66 k then (bif Nat.ble 67 k then (bif Nat.beq k 67 then 2 else 0) else (bif Nat.beq k 66 then 3 else 0)) else (bif Nat.beq k 65 then 3 else 0))
       else
        (bif Nat.ble 64 k then (bif Nat.beq k 64 then 6 else 0) else (bif Nat.beq k 63 then 3 else 0))))
     else
      (bif Nat.ble 58 k then
       (bif Nat.ble 60 k then
        (bif Nat.ble 61 k then (bif Nat.ble 62 k then (bif Nat.beq k 62 then 7 else 0) else (bif Nat.beq k 61 then 6 else 0)) else (bif Nat.beq k 60 then 2 else 0))
       else
        (bif Nat.ble 59 k then (bif Nat.beq k 59 then 10 else 0) else (bif Nat.beq k 58 then 3 else 0)))
      else
       (bif Nat.ble 56 k then (bif Nat.ble 57 k then (bif Nat.beq k 57 then 3 else 0) else (bif Nat.beq k 56 then 9 else 0)) else (bif Nat.ble 55 k then (bif Nat.beq k 55 then 4 else 0) else (bif Nat.beq k 54 then 3 else 0)))))
    else
     (bif Nat.ble 45 k then
      (bif Nat.ble 49 k then
       (bif Nat.ble 51 k then
        (bif Nat.ble 52 k then (bif Nat.ble 53 k then (bif Nat.beq k 53 then 5 else 0) else (bif Nat.beq k 52 then 5 else 0)) else (bif Nat.beq k 51 then 3 else 0))
       else
        (bif Nat.ble 50 k then (bif Nat.beq k 50 then 5 else 0) else (bif Nat.beq k 49 then 5 else 0)))
      else
       (bif Nat.ble 47 k then (bif Nat.ble 48 k then (bif Nat.beq k 48 then 4 else 0) else (bif Nat.beq k 47 then 3 else 0)) else (bif Nat.ble 46 k then (bif Nat.beq k 46 then 3 else 0) else (bif Nat.beq k 45 then 4 else 0))))
     else
      (bif Nat.ble 40 k then
       (bif Nat.ble 42 k then
        (bif Nat.ble 43 k then (bif Nat.ble 44 k then (bif Nat.beq k 44 then 2 else 0) else (bif Nat.beq k 43 then 2 else 0)) else (bif Nat.beq k 42 then 3 else 0))
       else
        (bif Nat.ble 41 k then (bif Nat.beq k 41 then 1 else 0) else (bif Nat.beq k 40 then 5 else 0)))
      else
       (bif Nat.ble 38 k then (bif Nat.ble 39 k then (bif Nat.beq k 39 then 5 else 0) else (bif Nat.beq k 38 then 5 else 0)) else (bif Nat.ble 37 k then (bif Nat.beq k 37 then 6 else 0) else (bif Nat.beq k 36 then 6 else 0))))))
   else
    (bif Nat.ble 18 k then
     (bif Nat.ble 27 k then
      (bif Nat.ble 31 k then
       (bif Nat.ble 33 k then
        (bif Nat.ble 34 k then (bif Nat.ble 35 k then (bif Nat.beq k 35 then 5 else 0) else (bif Nat.beq k 34 then 1 else 0)) else (bif Nat.beq k 33 then 1 else 0))
       else
        (bif Nat.ble 32 k then (bif Nat.beq k 32 then 6 else 0) else (bif Nat.beq k 31 then 3 else 0)))
      else
       (bif Nat.ble 29 k then (bif Nat.ble 30 k then (bif Nat.beq k 30 then 8 else 0) else (bif Nat.beq k 29 then 1 else 0)) else (bif Nat.ble 28 k then (bif Nat.beq k 28 then 2 else 0) else (bif Nat.beq k 27 then 2 else 0))))
     else
      (bif Nat.ble 22 k then
       (bif Nat.ble 24 k then
        (bif Nat.ble 25 k then (bif Nat.ble 26 k then (bif Nat.beq k 26 then 2 else 0) else (bif Nat.beq k 25 then 4 else 0)) else (bif Nat.beq k 24 then 5 else 0))
       else
        (bif Nat.ble 23 k then (bif Nat.beq k 23 then 1 else 0) else (bif Nat.beq k 22 then 3 else 0)))
      else
       (bif Nat.ble 20 k then (bif Nat.ble 21 k then (bif Nat.beq k 21 then 3 else 0) else (bif Nat.beq k 20 then 3 else 0)) else (bif Nat.ble 19 k then (bif Nat.beq k 19 then 3 else 0) else (bif Nat.beq k 18 then 5 else 0)))))
    else
     (bif Nat.ble 9 k then
      (bif Nat.ble 13 k then
       (bif Nat.ble 15 k then
        (bif Nat.ble 16 k then (bif Nat.ble 17 k then (bif Nat.beq k 17 then 3 else 0) else (bif Nat.beq k 16 then 2 else 0)) else (bif Nat.beq k 15 then 5 else 0))
       else
        (bif Nat.ble 14 k then (bif Nat.beq k 14 then 3 else 0) else (bif Nat.beq k 13 then 9 else 0)))
      else
       (bif Nat.ble 11 k then (bif Nat.ble 12 k then (bif Nat.beq k 12 then 2 else 0) else (bif Nat.beq k 11 then 1 else 0)) else (bif Nat.ble 10 k then (bif Nat.beq k 10 then 1 else 0) else (bif Nat.beq k 9 then 2 else 0))))
     else
      (bif Nat.ble 4 k then
       (bif Nat.ble 6 k then
        (bif Nat.ble 7 k then (bif Nat.ble 8 k then (bif Nat.beq k 8 then 3 else 0) else (bif Nat.beq k 7 then 4 else 0)) else (bif Nat.beq k 6 then 6 else 0))
       else
        (bif Nat.ble 5 k then (bif Nat.beq k 5 then 6 else 0) else (bif Nat.beq k 4 then 1 else 0)))
      else
       (bif Nat.ble 2 k then (bif Nat.ble 3 k then (bif Nat.beq k 3 then 2 else 0) else (bif Nat.beq k 2 then 1 else 0)) else (bif Nat.ble 1 k then (bif Nat.beq k 1 then 1 else 0) else (bif Nat.beq k 0 then 2 else 0))))))))
