set_option maxHeartbeats 8000000 in
set_option maxRecDepth 100000 in
theorem c_X4_init (l : Launch) (dC : Nat → ClassId) (dI : Nat → Nat → Nat) (cI cZ cL : ClassId) (h0 : Nat) : cMet l dC dI cI cZ cL yX4_init (wc yX4_init cX4_init 1) { frames := 1, cells := 2, slots := 288, locals := 12 } [.ref h0] [(h0, .inr (4, [.int 0, .int 0, .int 0, .int 0, .int 0, .int 0, .int 0, .null, .null]))] (fun u => (∃ q13 q22 : Nat, u = [(h0, .inr (4, [.int 0, .int 0, .int 0, .int 0, .int 0, .int 0, .int (-1), .ref q13, .ref q22])), (q13, .inl (cI, 144, .inl (fun _ => 0))), (q22, .inl (cI, 144, .inl (fun _ => 0)))])) 2 288 := by
  intro sz
  refine Met.ofW (cc := cX4_init) (maxL := 1) (ret := none) (by decide) rfl ?_
  intro p e s m args below meth c s₁ B hml hv
  obtain ⟨rfl, hsz, hP, hK, hD0, hnw⟩ := hv
  have hx := B.exec
  have hb := B.bytes
  have hr := B.returns
  have hts := atoms_spec (ws := wc yX4_init cX4_init 1) B.pre
  have hown : s.vm.findClass RX4 = some m.cls := findClass_of_methodNamed B.named
  have hlocks := B.notSynchronized
  have hin : meth.name = "<init>" := (name_of_methodNamed B.named B.method).1
  subst hsz
  have hD := hD0.self (sz := s.heap.size)
  generalize hAe : va_A [(h0, .inr (4, [.int 0, .int 0, .int 0, .int 0, .int 0, .int 0, .int 0, .null, .null]))] s.heap.size = A at hD ⊢
  have hA : ∀ q : Nat, s.heap.size ≤ q → A q := fun q h => by rw [← hAe]; exact Or.inr h
  have hS : va_S A s.heap s.heap [] := va_S.rf
  have hP : va_P (dC, dI) cls [(h0, .inr (4, [.int 0, .int 0, .int 0, .int 0, .int 0, .int 0, .int 0, .null, .null]))] s.heap := hP
  have hl := lv_entry ([.ref h0]) (n := 1) (Nat.le_of_ble_eq_true rfl)
  rw [lg_entry_eq]
  generalize (lg_sl ([.ref h0]) ++ List.replicate (1 - (lg_sl ([.ref h0])).length) Slot.unset).toArray = ls at hl ⊢
  have hl : lv_has ls 1 [(0, .ref h0)] := hl
  refine lv_aload_n hx hb dX4_init_0 rfl (lv_at hl 0 rfl) ?_
  refine W.objInit hx hb hown (hts (.methodLink RX4 3 objectInit) (mem_c (by decide +kernel))) (hts (.instanceMethod objectInit) (mem_c (by decide +kernel))) (hts (.code objectInit ⟨#[0xb1]⟩ 1 none) (mem_c (by decide +kernel))) rfl (by rw [hml]; exact hl.1) rfl dX4_init_1 (Nat.le_of_ble_eq_true rfl) (Nat.le_of_ble_eq_true rfl) ?_
  refine W.eq (g2 := F0 m 4 ls []) rfl ?_
  refine lv_aload_n hx hb dX4_init_4 rfl (lv_at hl 0 rfl) ?_
  refine lv_iconst (v := (-1)) hx hb dX4_init_5 (by decide) ?_
  refine va_put (D := (dC, dI)) (ci := 4) (v := .int (-1)) (ty := .int) (C := RX4) (T := TX4) (N := 9) hx hb hts (in_c 4 rfl) tyX4 tyX4_ok nmX4 hown hK hP hD hS 0 rfl rfl 6 (by decide) (hts (.fieldLink RX4 9 "MovingBanks$Leaf" "judged" "I") (mem_c (by decide +kernel))) (fun _ h9 => h9) rfl (by decide +kernel) rfl rfl (Nat.le_of_ble_eq_true rfl) dX4_init_6 (fun H locs hP hD hS => ?_)
  have hP : va_P (dC, dI) cls [(h0, .inr (4, [.int 0, .int 0, .int 0, .int 0, .int 0, .int 0, .int (-1), .null, .null]))] H := hP
  have hD : va_D A [(h0, .inr (4, [.int 0, .int 0, .int 0, .int 0, .int 0, .int 0, .int (-1), .null, .null]))] := hD
  refine lv_aload_n hx hb dX4_init_9 rfl (lv_at hl 0 rfl) ?_
  refine lv_sipush (v := 144) hx hb dX4_init_10 (by decide) ?_
  refine nw_a (n := 144) (N' := 144) (atype := .int) (ty := .int) (cA := cI) (a0 := (144, .inl (fun _ => 0))) hx hb (hts (.arrayClass .int) (mem_c (by decide +kernel))) rfl hK 0 rfl hP hD hS hA (fun _ => rfl) (by decide) (by decide) (by decide) (Nat.le_of_ble_eq_true rfl) (Nat.le_of_ble_eq_true rfl) dX4_init_13 (fun q13 H hP hD hS => ?_)
  have hP : va_P (dC, dI) cls [(h0, .inr (4, [.int 0, .int 0, .int 0, .int 0, .int 0, .int 0, .int (-1), .null, .null])), (q13, .inl (cI, 144, .inl (fun _ => 0)))] H := hP
  have hD : va_D A [(h0, .inr (4, [.int 0, .int 0, .int 0, .int 0, .int 0, .int 0, .int (-1), .null, .null])), (q13, .inl (cI, 144, .inl (fun _ => 0)))] := hD
  refine va_putF (D := (dC, dI)) (ci := 4) (v := .ref q13) (ty := .array .int) (C := RX4) (T := TX4) (N := 9) hx hb hts (in_c 4 rfl) tyX4 tyX4_ok nmX4 hown hK hP hD hS 0 rfl rfl 7 (by decide) (hts (.fieldLink RX4 15 "MovingBanks$Leaf" "kinds" "[I") (mem_c (by decide +kernel))) (fun _ h9 => h9) rfl hin rfl (by decide +kernel) rfl rfl (Nat.le_of_ble_eq_true rfl) dX4_init_15 (fun H locs hP hD hS => ?_)
  have hP : va_P (dC, dI) cls [(h0, .inr (4, [.int 0, .int 0, .int 0, .int 0, .int 0, .int 0, .int (-1), .ref q13, .null])), (q13, .inl (cI, 144, .inl (fun _ => 0)))] H := hP
  have hD : va_D A [(h0, .inr (4, [.int 0, .int 0, .int 0, .int 0, .int 0, .int 0, .int (-1), .ref q13, .null])), (q13, .inl (cI, 144, .inl (fun _ => 0)))] := hD
  refine lv_aload_n hx hb dX4_init_18 rfl (lv_at hl 0 rfl) ?_
  refine lv_sipush (v := 144) hx hb dX4_init_19 (by decide) ?_
  refine nw_a (n := 144) (N' := 144) (atype := .int) (ty := .int) (cA := cI) (a0 := (144, .inl (fun _ => 0))) hx hb (hts (.arrayClass .int) (mem_c (by decide +kernel))) rfl hK 0 rfl hP hD hS hA (fun _ => rfl) (by decide) (by decide) (by decide) (Nat.le_of_ble_eq_true rfl) (Nat.le_of_ble_eq_true rfl) dX4_init_22 (fun q22 H hP hD hS => ?_)
  have hP : va_P (dC, dI) cls [(h0, .inr (4, [.int 0, .int 0, .int 0, .int 0, .int 0, .int 0, .int (-1), .ref q13, .null])), (q13, .inl (cI, 144, .inl (fun _ => 0))), (q22, .inl (cI, 144, .inl (fun _ => 0)))] H := hP
  have hD : va_D A [(h0, .inr (4, [.int 0, .int 0, .int 0, .int 0, .int 0, .int 0, .int (-1), .ref q13, .null])), (q13, .inl (cI, 144, .inl (fun _ => 0))), (q22, .inl (cI, 144, .inl (fun _ => 0)))] := hD
  refine va_putF (D := (dC, dI)) (ci := 4) (v := .ref q22) (ty := .array .int) (C := RX4) (T := TX4) (N := 9) hx hb hts (in_c 4 rfl) tyX4 tyX4_ok nmX4 hown hK hP hD hS 0 rfl rfl 8 (by decide) (hts (.fieldLink RX4 19 "MovingBanks$Leaf" "heirOf" "[I") (mem_c (by decide +kernel))) (fun _ h9 => h9) rfl hin rfl (by decide +kernel) rfl rfl (Nat.le_of_ble_eq_true rfl) dX4_init_24 (fun H locs hP hD hS => ?_)
  have hP : va_P (dC, dI) cls [(h0, .inr (4, [.int 0, .int 0, .int 0, .int 0, .int 0, .int 0, .int (-1), .ref q13, .ref q22])), (q13, .inl (cI, 144, .inl (fun _ => 0))), (q22, .inl (cI, 144, .inl (fun _ => 0)))] H := hP
  have hD : va_D A [(h0, .inr (4, [.int 0, .int 0, .int 0, .int 0, .int 0, .int 0, .int (-1), .ref q13, .ref q22])), (q13, .inl (cI, 144, .inl (fun _ => 0))), (q22, .inl (cI, 144, .inl (fun _ => 0)))] := hD
  refine W.widen (k := 2) (n := 288) (Nat.le_of_ble_eq_true rfl) (Nat.le_of_ble_eq_true rfl) ?_
  exact W.vret hx hb hr (fun t ht hW => ⟨⟨[(h0, .inr (4, [.int 0, .int 0, .int 0, .int 0, .int 0, .int 0, .int (-1), .ref q13, .ref q22])), (q13, .inl (cI, 144, .inl (fun _ => 0))), (q22, .inl (cI, 144, .inl (fun _ => 0)))], rfl, ⟨q13, q22, rfl⟩, by rw [ht]; exact hP, va_K.moved hW.alike hK, hD⟩, hS.F ht⟩) hS.2.2 dX4_init_27
set_option maxHeartbeats 8000000 in
set_option maxRecDepth 100000 in
theorem c_X2_init (l : Launch) (dC : Nat → ClassId) (dI : Nat → Nat → Nat) (cI cZ cL : ClassId) (h0 : Nat) : cMet l dC dI cI cZ cL yX2_init (wc yX2_init cX2_init 1) { frames := 1, cells := 2, slots := 288, locals := 12 } [.ref h0] [(h0, .inr (2, [.int 0, .int 0, .int 0, .null, .null]))] (fun u => (∃ q23 q32 : Nat, u = [(h0, .inr (2, [.int 1, .int 1, .int 1, .ref q23, .ref q32])), (q23, .inl (cI, 144, .inl (fun _ => 0))), (q32, .inl (cI, 144, .inl (fun _ => 0)))])) 2 288 := by
  intro sz
  refine Met.ofW (cc := cX2_init) (maxL := 1) (ret := none) (by decide) rfl ?_
  intro p e s m args below meth c s₁ B hml hv
  obtain ⟨rfl, hsz, hP, hK, hD0, hnw⟩ := hv
  have hx := B.exec
  have hb := B.bytes
  have hr := B.returns
  have hts := atoms_spec (ws := wc yX2_init cX2_init 1) B.pre
  have hown : s.vm.findClass RX2 = some m.cls := findClass_of_methodNamed B.named
  have hlocks := B.notSynchronized
  have hin : meth.name = "<init>" := (name_of_methodNamed B.named B.method).1
  subst hsz
  have hD := hD0.self (sz := s.heap.size)
  generalize hAe : va_A [(h0, .inr (2, [.int 0, .int 0, .int 0, .null, .null]))] s.heap.size = A at hD ⊢
  have hA : ∀ q : Nat, s.heap.size ≤ q → A q := fun q h => by rw [← hAe]; exact Or.inr h
  have hS : va_S A s.heap s.heap [] := va_S.rf
  have hP : va_P (dC, dI) cls [(h0, .inr (2, [.int 0, .int 0, .int 0, .null, .null]))] s.heap := hP
  have hl := lv_entry ([.ref h0]) (n := 1) (Nat.le_of_ble_eq_true rfl)
  rw [lg_entry_eq]
  generalize (lg_sl ([.ref h0]) ++ List.replicate (1 - (lg_sl ([.ref h0])).length) Slot.unset).toArray = ls at hl ⊢
  have hl : lv_has ls 1 [(0, .ref h0)] := hl
  refine lv_aload_n hx hb dX2_init_0 rfl (lv_at hl 0 rfl) ?_
  refine W.objInit hx hb hown (hts (.methodLink RX2 3 objectInit) (mem_c (by decide +kernel))) (hts (.instanceMethod objectInit) (mem_c (by decide +kernel))) (hts (.code objectInit ⟨#[0xb1]⟩ 1 none) (mem_c (by decide +kernel))) rfl (by rw [hml]; exact hl.1) rfl dX2_init_1 (Nat.le_of_ble_eq_true rfl) (Nat.le_of_ble_eq_true rfl) ?_
  refine W.eq (g2 := F0 m 4 ls []) rfl ?_
  refine lv_aload_n hx hb dX2_init_4 rfl (lv_at hl 0 rfl) ?_
  refine lv_iconst (v := 1) hx hb dX2_init_5 (by decide) ?_
  refine va_put (D := (dC, dI)) (ci := 2) (v := .int 1) (ty := .int) (C := RX2) (T := TX2) (N := 5) hx hb hts (in_c 2 rfl) tyX2 tyX2_ok nmX2 hown hK hP hD hS 0 rfl rfl 0 (by decide) (hts (.fieldLink RX2 9 "MovingBanks$Ground" "wide" "I") (mem_c (by decide +kernel))) (fun _ h9 => h9) rfl (by decide +kernel) rfl rfl (Nat.le_of_ble_eq_true rfl) dX2_init_6 (fun H locs hP hD hS => ?_)
  have hP : va_P (dC, dI) cls [(h0, .inr (2, [.int 1, .int 0, .int 0, .null, .null]))] H := hP
  have hD : va_D A [(h0, .inr (2, [.int 1, .int 0, .int 0, .null, .null]))] := hD
  refine lv_aload_n hx hb dX2_init_9 rfl (lv_at hl 0 rfl) ?_
  refine lv_iconst (v := 1) hx hb dX2_init_10 (by decide) ?_
  refine va_put (D := (dC, dI)) (ci := 2) (v := .int 1) (ty := .int) (C := RX2) (T := TX2) (N := 5) hx hb hts (in_c 2 rfl) tyX2 tyX2_ok nmX2 hown hK hP hD hS 0 rfl rfl 1 (by decide) (hts (.fieldLink RX2 15 "MovingBanks$Ground" "high" "I") (mem_c (by decide +kernel))) (fun _ h9 => h9) rfl (by decide +kernel) rfl rfl (Nat.le_of_ble_eq_true rfl) dX2_init_11 (fun H locs hP hD hS => ?_)
  have hP : va_P (dC, dI) cls [(h0, .inr (2, [.int 1, .int 1, .int 0, .null, .null]))] H := hP
  have hD : va_D A [(h0, .inr (2, [.int 1, .int 1, .int 0, .null, .null]))] := hD
  refine lv_aload_n hx hb dX2_init_14 rfl (lv_at hl 0 rfl) ?_
  refine lv_iconst (v := 1) hx hb dX2_init_15 (by decide) ?_
  refine va_put (D := (dC, dI)) (ci := 2) (v := .int 1) (ty := .int) (C := RX2) (T := TX2) (N := 5) hx hb hts (in_c 2 rfl) tyX2 tyX2_ok nmX2 hown hK hP hD hS 0 rfl rfl 2 (by decide) (hts (.fieldLink RX2 18 "MovingBanks$Ground" "cells" "I") (mem_c (by decide +kernel))) (fun _ h9 => h9) rfl (by decide +kernel) rfl rfl (Nat.le_of_ble_eq_true rfl) dX2_init_16 (fun H locs hP hD hS => ?_)
  have hP : va_P (dC, dI) cls [(h0, .inr (2, [.int 1, .int 1, .int 1, .null, .null]))] H := hP
  have hD : va_D A [(h0, .inr (2, [.int 1, .int 1, .int 1, .null, .null]))] := hD
  refine lv_aload_n hx hb dX2_init_19 rfl (lv_at hl 0 rfl) ?_
  refine lv_sipush (v := 144) hx hb dX2_init_20 (by decide) ?_
  refine nw_a (n := 144) (N' := 144) (atype := .int) (ty := .int) (cA := cI) (a0 := (144, .inl (fun _ => 0))) hx hb (hts (.arrayClass .int) (mem_c (by decide +kernel))) rfl hK 0 rfl hP hD hS hA (fun _ => rfl) (by decide) (by decide) (by decide) (Nat.le_of_ble_eq_true rfl) (Nat.le_of_ble_eq_true rfl) dX2_init_23 (fun q23 H hP hD hS => ?_)
  have hP : va_P (dC, dI) cls [(h0, .inr (2, [.int 1, .int 1, .int 1, .null, .null])), (q23, .inl (cI, 144, .inl (fun _ => 0)))] H := hP
  have hD : va_D A [(h0, .inr (2, [.int 1, .int 1, .int 1, .null, .null])), (q23, .inl (cI, 144, .inl (fun _ => 0)))] := hD
  refine va_putF (D := (dC, dI)) (ci := 2) (v := .ref q23) (ty := .array .int) (C := RX2) (T := TX2) (N := 5) hx hb hts (in_c 2 rfl) tyX2 tyX2_ok nmX2 hown hK hP hD hS 0 rfl rfl 3 (by decide) (hts (.fieldLink RX2 21 "MovingBanks$Ground" "columns" "[I") (mem_c (by decide +kernel))) (fun _ h9 => h9) rfl hin rfl (by decide +kernel) rfl rfl (Nat.le_of_ble_eq_true rfl) dX2_init_25 (fun H locs hP hD hS => ?_)
  have hP : va_P (dC, dI) cls [(h0, .inr (2, [.int 1, .int 1, .int 1, .ref q23, .null])), (q23, .inl (cI, 144, .inl (fun _ => 0)))] H := hP
  have hD : va_D A [(h0, .inr (2, [.int 1, .int 1, .int 1, .ref q23, .null])), (q23, .inl (cI, 144, .inl (fun _ => 0)))] := hD
  refine lv_aload_n hx hb dX2_init_28 rfl (lv_at hl 0 rfl) ?_
  refine lv_sipush (v := 144) hx hb dX2_init_29 (by decide) ?_
  refine nw_a (n := 144) (N' := 144) (atype := .int) (ty := .int) (cA := cI) (a0 := (144, .inl (fun _ => 0))) hx hb (hts (.arrayClass .int) (mem_c (by decide +kernel))) rfl hK 0 rfl hP hD hS hA (fun _ => rfl) (by decide) (by decide) (by decide) (Nat.le_of_ble_eq_true rfl) (Nat.le_of_ble_eq_true rfl) dX2_init_32 (fun q32 H hP hD hS => ?_)
  have hP : va_P (dC, dI) cls [(h0, .inr (2, [.int 1, .int 1, .int 1, .ref q23, .null])), (q23, .inl (cI, 144, .inl (fun _ => 0))), (q32, .inl (cI, 144, .inl (fun _ => 0)))] H := hP
  have hD : va_D A [(h0, .inr (2, [.int 1, .int 1, .int 1, .ref q23, .null])), (q23, .inl (cI, 144, .inl (fun _ => 0))), (q32, .inl (cI, 144, .inl (fun _ => 0)))] := hD
  refine va_putF (D := (dC, dI)) (ci := 2) (v := .ref q32) (ty := .array .int) (C := RX2) (T := TX2) (N := 5) hx hb hts (in_c 2 rfl) tyX2 tyX2_ok nmX2 hown hK hP hD hS 0 rfl rfl 4 (by decide) (hts (.fieldLink RX2 25 "MovingBanks$Ground" "lines" "[I") (mem_c (by decide +kernel))) (fun _ h9 => h9) rfl hin rfl (by decide +kernel) rfl rfl (Nat.le_of_ble_eq_true rfl) dX2_init_34 (fun H locs hP hD hS => ?_)
  have hP : va_P (dC, dI) cls [(h0, .inr (2, [.int 1, .int 1, .int 1, .ref q23, .ref q32])), (q23, .inl (cI, 144, .inl (fun _ => 0))), (q32, .inl (cI, 144, .inl (fun _ => 0)))] H := hP
  have hD : va_D A [(h0, .inr (2, [.int 1, .int 1, .int 1, .ref q23, .ref q32])), (q23, .inl (cI, 144, .inl (fun _ => 0))), (q32, .inl (cI, 144, .inl (fun _ => 0)))] := hD
  refine W.widen (k := 2) (n := 288) (Nat.le_of_ble_eq_true rfl) (Nat.le_of_ble_eq_true rfl) ?_
  exact W.vret hx hb hr (fun t ht hW => ⟨⟨[(h0, .inr (2, [.int 1, .int 1, .int 1, .ref q23, .ref q32])), (q23, .inl (cI, 144, .inl (fun _ => 0))), (q32, .inl (cI, 144, .inl (fun _ => 0)))], rfl, ⟨q23, q32, rfl⟩, by rw [ht]; exact hP, va_K.moved hW.alike hK, hD⟩, hS.F ht⟩) hS.2.2 dX2_init_37
set_option maxHeartbeats 8000000 in
set_option maxRecDepth 100000 in
theorem c_X6_init (l : Launch) (dC : Nat → ClassId) (dI : Nat → Nat → Nat) (cI cZ cL : ClassId) (h0 g1 : Nat) : cMet l dC dI cI cZ cL yX6_init (wc yX6_init cX6_init 2) { frames := 1, cells := 2, slots := 288, locals := 12 } [.ref h0, .ref g1] [(h0, .inr (6, [.null, .null, .null, .int 0]))] (fun u => (∃ q8 q17 : Nat, u = [(h0, .inr (6, [.ref g1, .ref q8, .ref q17, .int 0])), (q8, .inl (cZ, 144, .inl (fun _ => 0))), (q17, .inl (cI, 144, .inl (fun _ => 0)))])) 2 288 := by
  intro sz
  refine Met.ofW (cc := cX6_init) (maxL := 2) (ret := none) (by decide) rfl ?_
  intro p e s m args below meth c s₁ B hml hv
  obtain ⟨rfl, hsz, hP, hK, hD0, hnw⟩ := hv
  have hx := B.exec
  have hb := B.bytes
  have hr := B.returns
  have hts := atoms_spec (ws := wc yX6_init cX6_init 2) B.pre
  have hown : s.vm.findClass RX6 = some m.cls := findClass_of_methodNamed B.named
  have hlocks := B.notSynchronized
  have hin : meth.name = "<init>" := (name_of_methodNamed B.named B.method).1
  subst hsz
  have hD := hD0.self (sz := s.heap.size)
  generalize hAe : va_A [(h0, .inr (6, [.null, .null, .null, .int 0]))] s.heap.size = A at hD ⊢
  have hA : ∀ q : Nat, s.heap.size ≤ q → A q := fun q h => by rw [← hAe]; exact Or.inr h
  have hS : va_S A s.heap s.heap [] := va_S.rf
  have hP : va_P (dC, dI) cls [(h0, .inr (6, [.null, .null, .null, .int 0]))] s.heap := hP
  have hl := lv_entry ([.ref h0, .ref g1]) (n := 2) (Nat.le_of_ble_eq_true rfl)
  rw [lg_entry_eq]
  generalize (lg_sl ([.ref h0, .ref g1]) ++ List.replicate (2 - (lg_sl ([.ref h0, .ref g1])).length) Slot.unset).toArray = ls at hl ⊢
  have hl : lv_has ls 2 [(0, .ref h0), (1, .ref g1)] := hl
  refine lv_aload_n hx hb dX6_init_0 rfl (lv_at hl 0 rfl) ?_
  refine W.objInit hx hb hown (hts (.methodLink RX6 3 objectInit) (mem_c (by decide +kernel))) (hts (.instanceMethod objectInit) (mem_c (by decide +kernel))) (hts (.code objectInit ⟨#[0xb1]⟩ 1 none) (mem_c (by decide +kernel))) rfl (by rw [hml]; exact hl.1) rfl dX6_init_1 (Nat.le_of_ble_eq_true rfl) (Nat.le_of_ble_eq_true rfl) ?_
  refine W.eq (g2 := F0 m 4 ls []) rfl ?_
  refine lv_aload_n hx hb dX6_init_4 rfl (lv_at hl 0 rfl) ?_
  refine lv_sipush (v := 144) hx hb dX6_init_5 (by decide) ?_
  refine nw_a (n := 144) (N' := 144) (atype := .boolean) (ty := .boolean) (cA := cZ) (a0 := (144, .inl (fun _ => 0))) hx hb (hts (.arrayClass .boolean) (mem_c (by decide +kernel))) rfl hK 1 rfl hP hD hS hA (fun _ => rfl) (by decide) (by decide) (by decide) (Nat.le_of_ble_eq_true rfl) (Nat.le_of_ble_eq_true rfl) dX6_init_8 (fun q8 H hP hD hS => ?_)
  have hP : va_P (dC, dI) cls [(h0, .inr (6, [.null, .null, .null, .int 0])), (q8, .inl (cZ, 144, .inl (fun _ => 0)))] H := hP
  have hD : va_D A [(h0, .inr (6, [.null, .null, .null, .int 0])), (q8, .inl (cZ, 144, .inl (fun _ => 0)))] := hD
  refine va_putF (D := (dC, dI)) (ci := 6) (v := .ref q8) (ty := .array .boolean) (C := RX6) (T := TX6) (N := 4) hx hb hts (in_c 6 rfl) tyX6 tyX6_ok nmX6 hown hK hP hD hS 0 rfl rfl 1 (by decide) (hts (.fieldLink RX6 9 "MovingBanks$Survey" "open" "[Z") (mem_c (by decide +kernel))) (fun _ h9 => h9) rfl hin rfl (by decide +kernel) rfl rfl (Nat.le_of_ble_eq_true rfl) dX6_init_10 (fun H locs hP hD hS => ?_)
  have hP : va_P (dC, dI) cls [(h0, .inr (6, [.null, .ref q8, .null, .int 0])), (q8, .inl (cZ, 144, .inl (fun _ => 0)))] H := hP
  have hD : va_D A [(h0, .inr (6, [.null, .ref q8, .null, .int 0])), (q8, .inl (cZ, 144, .inl (fun _ => 0)))] := hD
  refine lv_aload_n hx hb dX6_init_13 rfl (lv_at hl 0 rfl) ?_
  refine lv_sipush (v := 144) hx hb dX6_init_14 (by decide) ?_
  refine nw_a (n := 144) (N' := 144) (atype := .int) (ty := .int) (cA := cI) (a0 := (144, .inl (fun _ => 0))) hx hb (hts (.arrayClass .int) (mem_c (by decide +kernel))) rfl hK 0 rfl hP hD hS hA (fun _ => rfl) (by decide) (by decide) (by decide) (Nat.le_of_ble_eq_true rfl) (Nat.le_of_ble_eq_true rfl) dX6_init_17 (fun q17 H hP hD hS => ?_)
  have hP : va_P (dC, dI) cls [(h0, .inr (6, [.null, .ref q8, .null, .int 0])), (q8, .inl (cZ, 144, .inl (fun _ => 0))), (q17, .inl (cI, 144, .inl (fun _ => 0)))] H := hP
  have hD : va_D A [(h0, .inr (6, [.null, .ref q8, .null, .int 0])), (q8, .inl (cZ, 144, .inl (fun _ => 0))), (q17, .inl (cI, 144, .inl (fun _ => 0)))] := hD
  refine va_putF (D := (dC, dI)) (ci := 6) (v := .ref q17) (ty := .array .int) (C := RX6) (T := TX6) (N := 4) hx hb hts (in_c 6 rfl) tyX6 tyX6_ok nmX6 hown hK hP hD hS 0 rfl rfl 2 (by decide) (hts (.fieldLink RX6 15 "MovingBanks$Survey" "part" "[I") (mem_c (by decide +kernel))) (fun _ h9 => h9) rfl hin rfl (by decide +kernel) rfl rfl (Nat.le_of_ble_eq_true rfl) dX6_init_19 (fun H locs hP hD hS => ?_)
  have hP : va_P (dC, dI) cls [(h0, .inr (6, [.null, .ref q8, .ref q17, .int 0])), (q8, .inl (cZ, 144, .inl (fun _ => 0))), (q17, .inl (cI, 144, .inl (fun _ => 0)))] H := hP
  have hD : va_D A [(h0, .inr (6, [.null, .ref q8, .ref q17, .int 0])), (q8, .inl (cZ, 144, .inl (fun _ => 0))), (q17, .inl (cI, 144, .inl (fun _ => 0)))] := hD
  refine lv_aload_n hx hb dX6_init_22 rfl (lv_at hl 0 rfl) ?_
  refine lv_aload_n hx hb dX6_init_23 rfl (lv_at hl 1 rfl) ?_
  refine va_putF (D := (dC, dI)) (ci := 6) (v := .ref g1) (ty := .object "MovingBanks$Ground") (C := RX6) (T := TX6) (N := 4) hx hb hts (in_c 6 rfl) tyX6 tyX6_ok nmX6 hown hK hP hD hS 0 rfl rfl 0 (by decide) (hts (.fieldLink RX6 19 "MovingBanks$Survey" "ground" "LMovingBanks$Ground;") (mem_c (by decide +kernel))) (fun _ h9 => h9) rfl hin rfl (by decide +kernel) rfl rfl (Nat.le_of_ble_eq_true rfl) dX6_init_24 (fun H locs hP hD hS => ?_)
  have hP : va_P (dC, dI) cls [(h0, .inr (6, [.ref g1, .ref q8, .ref q17, .int 0])), (q8, .inl (cZ, 144, .inl (fun _ => 0))), (q17, .inl (cI, 144, .inl (fun _ => 0)))] H := hP
  have hD : va_D A [(h0, .inr (6, [.ref g1, .ref q8, .ref q17, .int 0])), (q8, .inl (cZ, 144, .inl (fun _ => 0))), (q17, .inl (cI, 144, .inl (fun _ => 0)))] := hD
  refine W.widen (k := 2) (n := 288) (Nat.le_of_ble_eq_true rfl) (Nat.le_of_ble_eq_true rfl) ?_
  exact W.vret hx hb hr (fun t ht hW => ⟨⟨[(h0, .inr (6, [.ref g1, .ref q8, .ref q17, .int 0])), (q8, .inl (cZ, 144, .inl (fun _ => 0))), (q17, .inl (cI, 144, .inl (fun _ => 0)))], rfl, ⟨q8, q17, rfl⟩, by rw [ht]; exact hP, va_K.moved hW.alike hK, hD⟩, hS.F ht⟩) hS.2.2 dX6_init_27
set_option maxHeartbeats 8000000 in
set_option maxRecDepth 100000 in
theorem c_X1_init (l : Launch) (dC : Nat → ClassId) (dI : Nat → Nat → Nat) (cI cZ cL : ClassId) (h0 : Nat) : cMet l dC dI cI cZ cL yX1_init (wc yX1_init cX1_init 1) { frames := 1, cells := 8, slots := 240, locals := 12 } [.ref h0] [(h0, .inr (1, [.int 0, .null, .null, .null, .null, .null, .null, .null, .null]))] (fun u => (∃ q7 q15 q23 q31 q39 q47 q55 q63 : Nat, u = [(h0, .inr (1, [.int 0, .ref q7, .ref q15, .ref q23, .ref q31, .ref q39, .ref q47, .ref q55, .ref q63])), (q7, .inl (cI, 30, .inl (fun _ => 0))), (q15, .inl (cI, 30, .inl (fun _ => 0))), (q23, .inl (cI, 30, .inl (fun _ => 0))), (q31, .inl (cI, 30, .inl (fun _ => 0))), (q39, .inl (cI, 30, .inl (fun _ => 0))), (q47, .inl (cI, 30, .inl (fun _ => 0))), (q55, .inl (cZ, 30, .inl (fun _ => 0))), (q63, .inl (cI, 30, .inl (fun _ => 0)))])) 8 240 := by
  intro sz
  refine Met.ofW (cc := cX1_init) (maxL := 1) (ret := none) (by decide) rfl ?_
  intro p e s m args below meth c s₁ B hml hv
  obtain ⟨rfl, hsz, hP, hK, hD0, hnw⟩ := hv
  have hx := B.exec
  have hb := B.bytes
  have hr := B.returns
  have hts := atoms_spec (ws := wc yX1_init cX1_init 1) B.pre
  have hown : s.vm.findClass RX1 = some m.cls := findClass_of_methodNamed B.named
  have hlocks := B.notSynchronized
  have hin : meth.name = "<init>" := (name_of_methodNamed B.named B.method).1
  subst hsz
  have hD := hD0.self (sz := s.heap.size)
  generalize hAe : va_A [(h0, .inr (1, [.int 0, .null, .null, .null, .null, .null, .null, .null, .null]))] s.heap.size = A at hD ⊢
  have hA : ∀ q : Nat, s.heap.size ≤ q → A q := fun q h => by rw [← hAe]; exact Or.inr h
  have hS : va_S A s.heap s.heap [] := va_S.rf
  have hP : va_P (dC, dI) cls [(h0, .inr (1, [.int 0, .null, .null, .null, .null, .null, .null, .null, .null]))] s.heap := hP
  have hl := lv_entry ([.ref h0]) (n := 1) (Nat.le_of_ble_eq_true rfl)
  rw [lg_entry_eq]
  generalize (lg_sl ([.ref h0]) ++ List.replicate (1 - (lg_sl ([.ref h0])).length) Slot.unset).toArray = ls at hl ⊢
  have hl : lv_has ls 1 [(0, .ref h0)] := hl
  refine lv_aload_n hx hb dX1_init_0 rfl (lv_at hl 0 rfl) ?_
  refine W.objInit hx hb hown (hts (.methodLink RX1 3 objectInit) (mem_c (by decide +kernel))) (hts (.instanceMethod objectInit) (mem_c (by decide +kernel))) (hts (.code objectInit ⟨#[0xb1]⟩ 1 none) (mem_c (by decide +kernel))) rfl (by rw [hml]; exact hl.1) rfl dX1_init_1 (Nat.le_of_ble_eq_true rfl) (Nat.le_of_ble_eq_true rfl) ?_
  refine W.eq (g2 := F0 m 4 ls []) rfl ?_
  refine lv_aload_n hx hb dX1_init_4 rfl (lv_at hl 0 rfl) ?_
  refine lv_bipush (v := 30) hx hb dX1_init_5 (by decide) ?_
  refine nw_a (n := 30) (N' := 30) (atype := .int) (ty := .int) (cA := cI) (a0 := (30, .inl (fun _ => 0))) hx hb (hts (.arrayClass .int) (mem_c (by decide +kernel))) rfl hK 0 rfl hP hD hS hA (fun _ => rfl) (by decide) (by decide) (by decide) (Nat.le_of_ble_eq_true rfl) (Nat.le_of_ble_eq_true rfl) dX1_init_7 (fun q7 H hP hD hS => ?_)
  have hP : va_P (dC, dI) cls [(h0, .inr (1, [.int 0, .null, .null, .null, .null, .null, .null, .null, .null])), (q7, .inl (cI, 30, .inl (fun _ => 0)))] H := hP
  have hD : va_D A [(h0, .inr (1, [.int 0, .null, .null, .null, .null, .null, .null, .null, .null])), (q7, .inl (cI, 30, .inl (fun _ => 0)))] := hD
  refine va_putF (D := (dC, dI)) (ci := 1) (v := .ref q7) (ty := .array .int) (C := RX1) (T := TX1) (N := 9) hx hb hts (in_c 1 rfl) tyX1 tyX1_ok nmX1 hown hK hP hD hS 0 rfl rfl 1 (by decide) (hts (.fieldLink RX1 9 "MovingBanks$Deeds" "left" "[I") (mem_c (by decide +kernel))) (fun _ h9 => h9) rfl hin rfl (by decide +kernel) rfl rfl (Nat.le_of_ble_eq_true rfl) dX1_init_9 (fun H locs hP hD hS => ?_)
  have hP : va_P (dC, dI) cls [(h0, .inr (1, [.int 0, .ref q7, .null, .null, .null, .null, .null, .null, .null])), (q7, .inl (cI, 30, .inl (fun _ => 0)))] H := hP
  have hD : va_D A [(h0, .inr (1, [.int 0, .ref q7, .null, .null, .null, .null, .null, .null, .null])), (q7, .inl (cI, 30, .inl (fun _ => 0)))] := hD
  refine lv_aload_n hx hb dX1_init_12 rfl (lv_at hl 0 rfl) ?_
  refine lv_bipush (v := 30) hx hb dX1_init_13 (by decide) ?_
  refine nw_a (n := 30) (N' := 30) (atype := .int) (ty := .int) (cA := cI) (a0 := (30, .inl (fun _ => 0))) hx hb (hts (.arrayClass .int) (mem_c (by decide +kernel))) rfl hK 0 rfl hP hD hS hA (fun _ => rfl) (by decide) (by decide) (by decide) (Nat.le_of_ble_eq_true rfl) (Nat.le_of_ble_eq_true rfl) dX1_init_15 (fun q15 H hP hD hS => ?_)
  have hP : va_P (dC, dI) cls [(h0, .inr (1, [.int 0, .ref q7, .null, .null, .null, .null, .null, .null, .null])), (q7, .inl (cI, 30, .inl (fun _ => 0))), (q15, .inl (cI, 30, .inl (fun _ => 0)))] H := hP
  have hD : va_D A [(h0, .inr (1, [.int 0, .ref q7, .null, .null, .null, .null, .null, .null, .null])), (q7, .inl (cI, 30, .inl (fun _ => 0))), (q15, .inl (cI, 30, .inl (fun _ => 0)))] := hD
  refine va_putF (D := (dC, dI)) (ci := 1) (v := .ref q15) (ty := .array .int) (C := RX1) (T := TX1) (N := 9) hx hb hts (in_c 1 rfl) tyX1 tyX1_ok nmX1 hown hK hP hD hS 0 rfl rfl 2 (by decide) (hts (.fieldLink RX1 15 "MovingBanks$Deeds" "top" "[I") (mem_c (by decide +kernel))) (fun _ h9 => h9) rfl hin rfl (by decide +kernel) rfl rfl (Nat.le_of_ble_eq_true rfl) dX1_init_17 (fun H locs hP hD hS => ?_)
  have hP : va_P (dC, dI) cls [(h0, .inr (1, [.int 0, .ref q7, .ref q15, .null, .null, .null, .null, .null, .null])), (q7, .inl (cI, 30, .inl (fun _ => 0))), (q15, .inl (cI, 30, .inl (fun _ => 0)))] H := hP
  have hD : va_D A [(h0, .inr (1, [.int 0, .ref q7, .ref q15, .null, .null, .null, .null, .null, .null])), (q7, .inl (cI, 30, .inl (fun _ => 0))), (q15, .inl (cI, 30, .inl (fun _ => 0)))] := hD
  refine lv_aload_n hx hb dX1_init_20 rfl (lv_at hl 0 rfl) ?_
  refine lv_bipush (v := 30) hx hb dX1_init_21 (by decide) ?_
  refine nw_a (n := 30) (N' := 30) (atype := .int) (ty := .int) (cA := cI) (a0 := (30, .inl (fun _ => 0))) hx hb (hts (.arrayClass .int) (mem_c (by decide +kernel))) rfl hK 0 rfl hP hD hS hA (fun _ => rfl) (by decide) (by decide) (by decide) (Nat.le_of_ble_eq_true rfl) (Nat.le_of_ble_eq_true rfl) dX1_init_23 (fun q23 H hP hD hS => ?_)
  have hP : va_P (dC, dI) cls [(h0, .inr (1, [.int 0, .ref q7, .ref q15, .null, .null, .null, .null, .null, .null])), (q7, .inl (cI, 30, .inl (fun _ => 0))), (q15, .inl (cI, 30, .inl (fun _ => 0))), (q23, .inl (cI, 30, .inl (fun _ => 0)))] H := hP
  have hD : va_D A [(h0, .inr (1, [.int 0, .ref q7, .ref q15, .null, .null, .null, .null, .null, .null])), (q7, .inl (cI, 30, .inl (fun _ => 0))), (q15, .inl (cI, 30, .inl (fun _ => 0))), (q23, .inl (cI, 30, .inl (fun _ => 0)))] := hD
  refine va_putF (D := (dC, dI)) (ci := 1) (v := .ref q23) (ty := .array .int) (C := RX1) (T := TX1) (N := 9) hx hb hts (in_c 1 rfl) tyX1 tyX1_ok nmX1 hown hK hP hD hS 0 rfl rfl 3 (by decide) (hts (.fieldLink RX1 18 "MovingBanks$Deeds" "right" "[I") (mem_c (by decide +kernel))) (fun _ h9 => h9) rfl hin rfl (by decide +kernel) rfl rfl (Nat.le_of_ble_eq_true rfl) dX1_init_25 (fun H locs hP hD hS => ?_)
  have hP : va_P (dC, dI) cls [(h0, .inr (1, [.int 0, .ref q7, .ref q15, .ref q23, .null, .null, .null, .null, .null])), (q7, .inl (cI, 30, .inl (fun _ => 0))), (q15, .inl (cI, 30, .inl (fun _ => 0))), (q23, .inl (cI, 30, .inl (fun _ => 0)))] H := hP
  have hD : va_D A [(h0, .inr (1, [.int 0, .ref q7, .ref q15, .ref q23, .null, .null, .null, .null, .null])), (q7, .inl (cI, 30, .inl (fun _ => 0))), (q15, .inl (cI, 30, .inl (fun _ => 0))), (q23, .inl (cI, 30, .inl (fun _ => 0)))] := hD
  refine lv_aload_n hx hb dX1_init_28 rfl (lv_at hl 0 rfl) ?_
  refine lv_bipush (v := 30) hx hb dX1_init_29 (by decide) ?_
  refine nw_a (n := 30) (N' := 30) (atype := .int) (ty := .int) (cA := cI) (a0 := (30, .inl (fun _ => 0))) hx hb (hts (.arrayClass .int) (mem_c (by decide +kernel))) rfl hK 0 rfl hP hD hS hA (fun _ => rfl) (by decide) (by decide) (by decide) (Nat.le_of_ble_eq_true rfl) (Nat.le_of_ble_eq_true rfl) dX1_init_31 (fun q31 H hP hD hS => ?_)
  have hP : va_P (dC, dI) cls [(h0, .inr (1, [.int 0, .ref q7, .ref q15, .ref q23, .null, .null, .null, .null, .null])), (q7, .inl (cI, 30, .inl (fun _ => 0))), (q15, .inl (cI, 30, .inl (fun _ => 0))), (q23, .inl (cI, 30, .inl (fun _ => 0))), (q31, .inl (cI, 30, .inl (fun _ => 0)))] H := hP
  have hD : va_D A [(h0, .inr (1, [.int 0, .ref q7, .ref q15, .ref q23, .null, .null, .null, .null, .null])), (q7, .inl (cI, 30, .inl (fun _ => 0))), (q15, .inl (cI, 30, .inl (fun _ => 0))), (q23, .inl (cI, 30, .inl (fun _ => 0))), (q31, .inl (cI, 30, .inl (fun _ => 0)))] := hD
  refine va_putF (D := (dC, dI)) (ci := 1) (v := .ref q31) (ty := .array .int) (C := RX1) (T := TX1) (N := 9) hx hb hts (in_c 1 rfl) tyX1 tyX1_ok nmX1 hown hK hP hD hS 0 rfl rfl 4 (by decide) (hts (.fieldLink RX1 21 "MovingBanks$Deeds" "bottom" "[I") (mem_c (by decide +kernel))) (fun _ h9 => h9) rfl hin rfl (by decide +kernel) rfl rfl (Nat.le_of_ble_eq_true rfl) dX1_init_33 (fun H locs hP hD hS => ?_)
  have hP : va_P (dC, dI) cls [(h0, .inr (1, [.int 0, .ref q7, .ref q15, .ref q23, .ref q31, .null, .null, .null, .null])), (q7, .inl (cI, 30, .inl (fun _ => 0))), (q15, .inl (cI, 30, .inl (fun _ => 0))), (q23, .inl (cI, 30, .inl (fun _ => 0))), (q31, .inl (cI, 30, .inl (fun _ => 0)))] H := hP
  have hD : va_D A [(h0, .inr (1, [.int 0, .ref q7, .ref q15, .ref q23, .ref q31, .null, .null, .null, .null])), (q7, .inl (cI, 30, .inl (fun _ => 0))), (q15, .inl (cI, 30, .inl (fun _ => 0))), (q23, .inl (cI, 30, .inl (fun _ => 0))), (q31, .inl (cI, 30, .inl (fun _ => 0)))] := hD
  refine lv_aload_n hx hb dX1_init_36 rfl (lv_at hl 0 rfl) ?_
  refine lv_bipush (v := 30) hx hb dX1_init_37 (by decide) ?_
  refine nw_a (n := 30) (N' := 30) (atype := .int) (ty := .int) (cA := cI) (a0 := (30, .inl (fun _ => 0))) hx hb (hts (.arrayClass .int) (mem_c (by decide +kernel))) rfl hK 0 rfl hP hD hS hA (fun _ => rfl) (by decide) (by decide) (by decide) (Nat.le_of_ble_eq_true rfl) (Nat.le_of_ble_eq_true rfl) dX1_init_39 (fun q39 H hP hD hS => ?_)
  have hP : va_P (dC, dI) cls [(h0, .inr (1, [.int 0, .ref q7, .ref q15, .ref q23, .ref q31, .null, .null, .null, .null])), (q7, .inl (cI, 30, .inl (fun _ => 0))), (q15, .inl (cI, 30, .inl (fun _ => 0))), (q23, .inl (cI, 30, .inl (fun _ => 0))), (q31, .inl (cI, 30, .inl (fun _ => 0))), (q39, .inl (cI, 30, .inl (fun _ => 0)))] H := hP
  have hD : va_D A [(h0, .inr (1, [.int 0, .ref q7, .ref q15, .ref q23, .ref q31, .null, .null, .null, .null])), (q7, .inl (cI, 30, .inl (fun _ => 0))), (q15, .inl (cI, 30, .inl (fun _ => 0))), (q23, .inl (cI, 30, .inl (fun _ => 0))), (q31, .inl (cI, 30, .inl (fun _ => 0))), (q39, .inl (cI, 30, .inl (fun _ => 0)))] := hD
  refine va_putF (D := (dC, dI)) (ci := 1) (v := .ref q39) (ty := .array .int) (C := RX1) (T := TX1) (N := 9) hx hb hts (in_c 1 rfl) tyX1 tyX1_ok nmX1 hown hK hP hD hS 0 rfl rfl 5 (by decide) (hts (.fieldLink RX1 24 "MovingBanks$Deeds" "givenTo" "[I") (mem_c (by decide +kernel))) (fun _ h9 => h9) rfl hin rfl (by decide +kernel) rfl rfl (Nat.le_of_ble_eq_true rfl) dX1_init_41 (fun H locs hP hD hS => ?_)
  have hP : va_P (dC, dI) cls [(h0, .inr (1, [.int 0, .ref q7, .ref q15, .ref q23, .ref q31, .ref q39, .null, .null, .null])), (q7, .inl (cI, 30, .inl (fun _ => 0))), (q15, .inl (cI, 30, .inl (fun _ => 0))), (q23, .inl (cI, 30, .inl (fun _ => 0))), (q31, .inl (cI, 30, .inl (fun _ => 0))), (q39, .inl (cI, 30, .inl (fun _ => 0)))] H := hP
  have hD : va_D A [(h0, .inr (1, [.int 0, .ref q7, .ref q15, .ref q23, .ref q31, .ref q39, .null, .null, .null])), (q7, .inl (cI, 30, .inl (fun _ => 0))), (q15, .inl (cI, 30, .inl (fun _ => 0))), (q23, .inl (cI, 30, .inl (fun _ => 0))), (q31, .inl (cI, 30, .inl (fun _ => 0))), (q39, .inl (cI, 30, .inl (fun _ => 0)))] := hD
  refine lv_aload_n hx hb dX1_init_44 rfl (lv_at hl 0 rfl) ?_
  refine lv_bipush (v := 30) hx hb dX1_init_45 (by decide) ?_
  refine nw_a (n := 30) (N' := 30) (atype := .int) (ty := .int) (cA := cI) (a0 := (30, .inl (fun _ => 0))) hx hb (hts (.arrayClass .int) (mem_c (by decide +kernel))) rfl hK 0 rfl hP hD hS hA (fun _ => rfl) (by decide) (by decide) (by decide) (Nat.le_of_ble_eq_true rfl) (Nat.le_of_ble_eq_true rfl) dX1_init_47 (fun q47 H hP hD hS => ?_)
  have hP : va_P (dC, dI) cls [(h0, .inr (1, [.int 0, .ref q7, .ref q15, .ref q23, .ref q31, .ref q39, .null, .null, .null])), (q7, .inl (cI, 30, .inl (fun _ => 0))), (q15, .inl (cI, 30, .inl (fun _ => 0))), (q23, .inl (cI, 30, .inl (fun _ => 0))), (q31, .inl (cI, 30, .inl (fun _ => 0))), (q39, .inl (cI, 30, .inl (fun _ => 0))), (q47, .inl (cI, 30, .inl (fun _ => 0)))] H := hP
  have hD : va_D A [(h0, .inr (1, [.int 0, .ref q7, .ref q15, .ref q23, .ref q31, .ref q39, .null, .null, .null])), (q7, .inl (cI, 30, .inl (fun _ => 0))), (q15, .inl (cI, 30, .inl (fun _ => 0))), (q23, .inl (cI, 30, .inl (fun _ => 0))), (q31, .inl (cI, 30, .inl (fun _ => 0))), (q39, .inl (cI, 30, .inl (fun _ => 0))), (q47, .inl (cI, 30, .inl (fun _ => 0)))] := hD
  refine va_putF (D := (dC, dI)) (ci := 1) (v := .ref q47) (ty := .array .int) (C := RX1) (T := TX1) (N := 9) hx hb hts (in_c 1 rfl) tyX1 tyX1_ok nmX1 hown hK hP hD hS 0 rfl rfl 6 (by decide) (hts (.fieldLink RX1 27 "MovingBanks$Deeds" "years" "[I") (mem_c (by decide +kernel))) (fun _ h9 => h9) rfl hin rfl (by decide +kernel) rfl rfl (Nat.le_of_ble_eq_true rfl) dX1_init_49 (fun H locs hP hD hS => ?_)
  have hP : va_P (dC, dI) cls [(h0, .inr (1, [.int 0, .ref q7, .ref q15, .ref q23, .ref q31, .ref q39, .ref q47, .null, .null])), (q7, .inl (cI, 30, .inl (fun _ => 0))), (q15, .inl (cI, 30, .inl (fun _ => 0))), (q23, .inl (cI, 30, .inl (fun _ => 0))), (q31, .inl (cI, 30, .inl (fun _ => 0))), (q39, .inl (cI, 30, .inl (fun _ => 0))), (q47, .inl (cI, 30, .inl (fun _ => 0)))] H := hP
  have hD : va_D A [(h0, .inr (1, [.int 0, .ref q7, .ref q15, .ref q23, .ref q31, .ref q39, .ref q47, .null, .null])), (q7, .inl (cI, 30, .inl (fun _ => 0))), (q15, .inl (cI, 30, .inl (fun _ => 0))), (q23, .inl (cI, 30, .inl (fun _ => 0))), (q31, .inl (cI, 30, .inl (fun _ => 0))), (q39, .inl (cI, 30, .inl (fun _ => 0))), (q47, .inl (cI, 30, .inl (fun _ => 0)))] := hD
  refine lv_aload_n hx hb dX1_init_52 rfl (lv_at hl 0 rfl) ?_
  refine lv_bipush (v := 30) hx hb dX1_init_53 (by decide) ?_
  refine nw_a (n := 30) (N' := 30) (atype := .boolean) (ty := .boolean) (cA := cZ) (a0 := (30, .inl (fun _ => 0))) hx hb (hts (.arrayClass .boolean) (mem_c (by decide +kernel))) rfl hK 1 rfl hP hD hS hA (fun _ => rfl) (by decide) (by decide) (by decide) (Nat.le_of_ble_eq_true rfl) (Nat.le_of_ble_eq_true rfl) dX1_init_55 (fun q55 H hP hD hS => ?_)
  have hP : va_P (dC, dI) cls [(h0, .inr (1, [.int 0, .ref q7, .ref q15, .ref q23, .ref q31, .ref q39, .ref q47, .null, .null])), (q7, .inl (cI, 30, .inl (fun _ => 0))), (q15, .inl (cI, 30, .inl (fun _ => 0))), (q23, .inl (cI, 30, .inl (fun _ => 0))), (q31, .inl (cI, 30, .inl (fun _ => 0))), (q39, .inl (cI, 30, .inl (fun _ => 0))), (q47, .inl (cI, 30, .inl (fun _ => 0))), (q55, .inl (cZ, 30, .inl (fun _ => 0)))] H := hP
  have hD : va_D A [(h0, .inr (1, [.int 0, .ref q7, .ref q15, .ref q23, .ref q31, .ref q39, .ref q47, .null, .null])), (q7, .inl (cI, 30, .inl (fun _ => 0))), (q15, .inl (cI, 30, .inl (fun _ => 0))), (q23, .inl (cI, 30, .inl (fun _ => 0))), (q31, .inl (cI, 30, .inl (fun _ => 0))), (q39, .inl (cI, 30, .inl (fun _ => 0))), (q47, .inl (cI, 30, .inl (fun _ => 0))), (q55, .inl (cZ, 30, .inl (fun _ => 0)))] := hD
  refine va_putF (D := (dC, dI)) (ci := 1) (v := .ref q55) (ty := .array .boolean) (C := RX1) (T := TX1) (N := 9) hx hb hts (in_c 1 rfl) tyX1 tyX1_ok nmX1 hown hK hP hD hS 0 rfl rfl 7 (by decide) (hts (.fieldLink RX1 30 "MovingBanks$Deeds" "struck" "[Z") (mem_c (by decide +kernel))) (fun _ h9 => h9) rfl hin rfl (by decide +kernel) rfl rfl (Nat.le_of_ble_eq_true rfl) dX1_init_57 (fun H locs hP hD hS => ?_)
  have hP : va_P (dC, dI) cls [(h0, .inr (1, [.int 0, .ref q7, .ref q15, .ref q23, .ref q31, .ref q39, .ref q47, .ref q55, .null])), (q7, .inl (cI, 30, .inl (fun _ => 0))), (q15, .inl (cI, 30, .inl (fun _ => 0))), (q23, .inl (cI, 30, .inl (fun _ => 0))), (q31, .inl (cI, 30, .inl (fun _ => 0))), (q39, .inl (cI, 30, .inl (fun _ => 0))), (q47, .inl (cI, 30, .inl (fun _ => 0))), (q55, .inl (cZ, 30, .inl (fun _ => 0)))] H := hP
  have hD : va_D A [(h0, .inr (1, [.int 0, .ref q7, .ref q15, .ref q23, .ref q31, .ref q39, .ref q47, .ref q55, .null])), (q7, .inl (cI, 30, .inl (fun _ => 0))), (q15, .inl (cI, 30, .inl (fun _ => 0))), (q23, .inl (cI, 30, .inl (fun _ => 0))), (q31, .inl (cI, 30, .inl (fun _ => 0))), (q39, .inl (cI, 30, .inl (fun _ => 0))), (q47, .inl (cI, 30, .inl (fun _ => 0))), (q55, .inl (cZ, 30, .inl (fun _ => 0)))] := hD
  refine lv_aload_n hx hb dX1_init_60 rfl (lv_at hl 0 rfl) ?_
  refine lv_bipush (v := 30) hx hb dX1_init_61 (by decide) ?_
  refine nw_a (n := 30) (N' := 30) (atype := .int) (ty := .int) (cA := cI) (a0 := (30, .inl (fun _ => 0))) hx hb (hts (.arrayClass .int) (mem_c (by decide +kernel))) rfl hK 0 rfl hP hD hS hA (fun _ => rfl) (by decide) (by decide) (by decide) (Nat.le_of_ble_eq_true rfl) (Nat.le_of_ble_eq_true rfl) dX1_init_63 (fun q63 H hP hD hS => ?_)
  have hP : va_P (dC, dI) cls [(h0, .inr (1, [.int 0, .ref q7, .ref q15, .ref q23, .ref q31, .ref q39, .ref q47, .ref q55, .null])), (q7, .inl (cI, 30, .inl (fun _ => 0))), (q15, .inl (cI, 30, .inl (fun _ => 0))), (q23, .inl (cI, 30, .inl (fun _ => 0))), (q31, .inl (cI, 30, .inl (fun _ => 0))), (q39, .inl (cI, 30, .inl (fun _ => 0))), (q47, .inl (cI, 30, .inl (fun _ => 0))), (q55, .inl (cZ, 30, .inl (fun _ => 0))), (q63, .inl (cI, 30, .inl (fun _ => 0)))] H := hP
  have hD : va_D A [(h0, .inr (1, [.int 0, .ref q7, .ref q15, .ref q23, .ref q31, .ref q39, .ref q47, .ref q55, .null])), (q7, .inl (cI, 30, .inl (fun _ => 0))), (q15, .inl (cI, 30, .inl (fun _ => 0))), (q23, .inl (cI, 30, .inl (fun _ => 0))), (q31, .inl (cI, 30, .inl (fun _ => 0))), (q39, .inl (cI, 30, .inl (fun _ => 0))), (q47, .inl (cI, 30, .inl (fun _ => 0))), (q55, .inl (cZ, 30, .inl (fun _ => 0))), (q63, .inl (cI, 30, .inl (fun _ => 0)))] := hD
  refine va_putF (D := (dC, dI)) (ci := 1) (v := .ref q63) (ty := .array .int) (C := RX1) (T := TX1) (N := 9) hx hb hts (in_c 1 rfl) tyX1 tyX1_ok nmX1 hown hK hP hD hS 0 rfl rfl 8 (by decide) (hts (.fieldLink RX1 34 "MovingBanks$Deeds" "order" "[I") (mem_c (by decide +kernel))) (fun _ h9 => h9) rfl hin rfl (by decide +kernel) rfl rfl (Nat.le_of_ble_eq_true rfl) dX1_init_65 (fun H locs hP hD hS => ?_)
  have hP : va_P (dC, dI) cls [(h0, .inr (1, [.int 0, .ref q7, .ref q15, .ref q23, .ref q31, .ref q39, .ref q47, .ref q55, .ref q63])), (q7, .inl (cI, 30, .inl (fun _ => 0))), (q15, .inl (cI, 30, .inl (fun _ => 0))), (q23, .inl (cI, 30, .inl (fun _ => 0))), (q31, .inl (cI, 30, .inl (fun _ => 0))), (q39, .inl (cI, 30, .inl (fun _ => 0))), (q47, .inl (cI, 30, .inl (fun _ => 0))), (q55, .inl (cZ, 30, .inl (fun _ => 0))), (q63, .inl (cI, 30, .inl (fun _ => 0)))] H := hP
  have hD : va_D A [(h0, .inr (1, [.int 0, .ref q7, .ref q15, .ref q23, .ref q31, .ref q39, .ref q47, .ref q55, .ref q63])), (q7, .inl (cI, 30, .inl (fun _ => 0))), (q15, .inl (cI, 30, .inl (fun _ => 0))), (q23, .inl (cI, 30, .inl (fun _ => 0))), (q31, .inl (cI, 30, .inl (fun _ => 0))), (q39, .inl (cI, 30, .inl (fun _ => 0))), (q47, .inl (cI, 30, .inl (fun _ => 0))), (q55, .inl (cZ, 30, .inl (fun _ => 0))), (q63, .inl (cI, 30, .inl (fun _ => 0)))] := hD
  refine W.widen (k := 8) (n := 240) (Nat.le_of_ble_eq_true rfl) (Nat.le_of_ble_eq_true rfl) ?_
  exact W.vret hx hb hr (fun t ht hW => ⟨⟨[(h0, .inr (1, [.int 0, .ref q7, .ref q15, .ref q23, .ref q31, .ref q39, .ref q47, .ref q55, .ref q63])), (q7, .inl (cI, 30, .inl (fun _ => 0))), (q15, .inl (cI, 30, .inl (fun _ => 0))), (q23, .inl (cI, 30, .inl (fun _ => 0))), (q31, .inl (cI, 30, .inl (fun _ => 0))), (q39, .inl (cI, 30, .inl (fun _ => 0))), (q47, .inl (cI, 30, .inl (fun _ => 0))), (q55, .inl (cZ, 30, .inl (fun _ => 0))), (q63, .inl (cI, 30, .inl (fun _ => 0)))], rfl, ⟨q7, q15, q23, q31, q39, q47, q55, q63, rfl⟩, by rw [ht]; exact hP, va_K.moved hW.alike hK, hD⟩, hS.F ht⟩) hS.2.2 dX1_init_68
set_option maxHeartbeats 8000000 in
set_option maxRecDepth 100000 in
theorem c_X3_init (l : Launch) (dC : Nat → ClassId) (dI : Nat → Nat → Nat) (cI cZ cL : ClassId) (h0 : Nat) : cMet l dC dI cI cZ cL yX3_init (wc yX3_init cX3_init 1) { frames := 1, cells := 4, slots := 84, locals := 12 } [.ref h0] [(h0, .inr (3, [.int 0, .null, .null, .null, .null]))] (fun u => (∃ q7 q15 q23 q31 : Nat, u = [(h0, .inr (3, [.int 0, .ref q7, .ref q15, .ref q23, .ref q31])), (q7, .inl (cI, 21, .inl (upd (fun _ => 0) 0 (-1)))), (q15, .inl (cI, 21, .inl (upd (fun _ => 0) 0 1))), (q23, .inl (cI, 21, .inl (upd (fun _ => 0) 0 0))), (q31, .inl (cI, 21, .inl (upd (fun _ => 0) 0 0)))])) 4 84 := by
  intro sz
  refine Met.ofW (cc := cX3_init) (maxL := 1) (ret := none) (by decide) rfl ?_
  intro p e s m args below meth c s₁ B hml hv
  obtain ⟨rfl, hsz, hP, hK, hD0, hnw⟩ := hv
  have hx := B.exec
  have hb := B.bytes
  have hr := B.returns
  have hts := atoms_spec (ws := wc yX3_init cX3_init 1) B.pre
  have hown : s.vm.findClass RX3 = some m.cls := findClass_of_methodNamed B.named
  have hlocks := B.notSynchronized
  have hin : meth.name = "<init>" := (name_of_methodNamed B.named B.method).1
  subst hsz
  have hD := hD0.self (sz := s.heap.size)
  generalize hAe : va_A [(h0, .inr (3, [.int 0, .null, .null, .null, .null]))] s.heap.size = A at hD ⊢
  have hA : ∀ q : Nat, s.heap.size ≤ q → A q := fun q h => by rw [← hAe]; exact Or.inr h
  have hS : va_S A s.heap s.heap [] := va_S.rf
  have hP : va_P (dC, dI) cls [(h0, .inr (3, [.int 0, .null, .null, .null, .null]))] s.heap := hP
  have hl := lv_entry ([.ref h0]) (n := 1) (Nat.le_of_ble_eq_true rfl)
  rw [lg_entry_eq]
  generalize (lg_sl ([.ref h0]) ++ List.replicate (1 - (lg_sl ([.ref h0])).length) Slot.unset).toArray = ls at hl ⊢
  have hl : lv_has ls 1 [(0, .ref h0)] := hl
  refine lv_aload_n hx hb dX3_init_0 rfl (lv_at hl 0 rfl) ?_
  refine W.objInit hx hb hown (hts (.methodLink RX3 3 objectInit) (mem_c (by decide +kernel))) (hts (.instanceMethod objectInit) (mem_c (by decide +kernel))) (hts (.code objectInit ⟨#[0xb1]⟩ 1 none) (mem_c (by decide +kernel))) rfl (by rw [hml]; exact hl.1) rfl dX3_init_1 (Nat.le_of_ble_eq_true rfl) (Nat.le_of_ble_eq_true rfl) ?_
  refine W.eq (g2 := F0 m 4 ls []) rfl ?_
  refine lv_aload_n hx hb dX3_init_4 rfl (lv_at hl 0 rfl) ?_
  refine lv_bipush (v := 21) hx hb dX3_init_5 (by decide) ?_
  refine nw_a (n := 21) (N' := 21) (atype := .int) (ty := .int) (cA := cI) (a0 := (21, .inl (fun _ => 0))) hx hb (hts (.arrayClass .int) (mem_c (by decide +kernel))) rfl hK 0 rfl hP hD hS hA (fun _ => rfl) (by decide) (by decide) (by decide) (Nat.le_of_ble_eq_true rfl) (Nat.le_of_ble_eq_true rfl) dX3_init_7 (fun q7 H hP hD hS => ?_)
  have hP : va_P (dC, dI) cls [(h0, .inr (3, [.int 0, .null, .null, .null, .null])), (q7, .inl (cI, 21, .inl (fun _ => 0)))] H := hP
  have hD : va_D A [(h0, .inr (3, [.int 0, .null, .null, .null, .null])), (q7, .inl (cI, 21, .inl (fun _ => 0)))] := hD
  refine va_putF (D := (dC, dI)) (ci := 3) (v := .ref q7) (ty := .array .int) (C := RX3) (T := TX3) (N := 5) hx hb hts (in_c 3 rfl) tyX3 tyX3_ok nmX3 hown hK hP hD hS 0 rfl rfl 1 (by decide) (hts (.fieldLink RX3 9 "MovingBanks$Laws" "years" "[I") (mem_c (by decide +kernel))) (fun _ h9 => h9) rfl hin rfl (by decide +kernel) rfl rfl (Nat.le_of_ble_eq_true rfl) dX3_init_9 (fun H locs hP hD hS => ?_)
  have hP : va_P (dC, dI) cls [(h0, .inr (3, [.int 0, .ref q7, .null, .null, .null])), (q7, .inl (cI, 21, .inl (fun _ => 0)))] H := hP
  have hD : va_D A [(h0, .inr (3, [.int 0, .ref q7, .null, .null, .null])), (q7, .inl (cI, 21, .inl (fun _ => 0)))] := hD
  refine lv_aload_n hx hb dX3_init_12 rfl (lv_at hl 0 rfl) ?_
  refine lv_bipush (v := 21) hx hb dX3_init_13 (by decide) ?_
  refine nw_a (n := 21) (N' := 21) (atype := .int) (ty := .int) (cA := cI) (a0 := (21, .inl (fun _ => 0))) hx hb (hts (.arrayClass .int) (mem_c (by decide +kernel))) rfl hK 0 rfl hP hD hS hA (fun _ => rfl) (by decide) (by decide) (by decide) (Nat.le_of_ble_eq_true rfl) (Nat.le_of_ble_eq_true rfl) dX3_init_15 (fun q15 H hP hD hS => ?_)
  have hP : va_P (dC, dI) cls [(h0, .inr (3, [.int 0, .ref q7, .null, .null, .null])), (q7, .inl (cI, 21, .inl (fun _ => 0))), (q15, .inl (cI, 21, .inl (fun _ => 0)))] H := hP
  have hD : va_D A [(h0, .inr (3, [.int 0, .ref q7, .null, .null, .null])), (q7, .inl (cI, 21, .inl (fun _ => 0))), (q15, .inl (cI, 21, .inl (fun _ => 0)))] := hD
  refine va_putF (D := (dC, dI)) (ci := 3) (v := .ref q15) (ty := .array .int) (C := RX3) (T := TX3) (N := 5) hx hb hts (in_c 3 rfl) tyX3 tyX3_ok nmX3 hown hK hP hD hS 0 rfl rfl 2 (by decide) (hts (.fieldLink RX3 15 "MovingBanks$Laws" "forSlow" "[I") (mem_c (by decide +kernel))) (fun _ h9 => h9) rfl hin rfl (by decide +kernel) rfl rfl (Nat.le_of_ble_eq_true rfl) dX3_init_17 (fun H locs hP hD hS => ?_)
  have hP : va_P (dC, dI) cls [(h0, .inr (3, [.int 0, .ref q7, .ref q15, .null, .null])), (q7, .inl (cI, 21, .inl (fun _ => 0))), (q15, .inl (cI, 21, .inl (fun _ => 0)))] H := hP
  have hD : va_D A [(h0, .inr (3, [.int 0, .ref q7, .ref q15, .null, .null])), (q7, .inl (cI, 21, .inl (fun _ => 0))), (q15, .inl (cI, 21, .inl (fun _ => 0)))] := hD
  refine lv_aload_n hx hb dX3_init_20 rfl (lv_at hl 0 rfl) ?_
  refine lv_bipush (v := 21) hx hb dX3_init_21 (by decide) ?_
  refine nw_a (n := 21) (N' := 21) (atype := .int) (ty := .int) (cA := cI) (a0 := (21, .inl (fun _ => 0))) hx hb (hts (.arrayClass .int) (mem_c (by decide +kernel))) rfl hK 0 rfl hP hD hS hA (fun _ => rfl) (by decide) (by decide) (by decide) (Nat.le_of_ble_eq_true rfl) (Nat.le_of_ble_eq_true rfl) dX3_init_23 (fun q23 H hP hD hS => ?_)
  have hP : va_P (dC, dI) cls [(h0, .inr (3, [.int 0, .ref q7, .ref q15, .null, .null])), (q7, .inl (cI, 21, .inl (fun _ => 0))), (q15, .inl (cI, 21, .inl (fun _ => 0))), (q23, .inl (cI, 21, .inl (fun _ => 0)))] H := hP
  have hD : va_D A [(h0, .inr (3, [.int 0, .ref q7, .ref q15, .null, .null])), (q7, .inl (cI, 21, .inl (fun _ => 0))), (q15, .inl (cI, 21, .inl (fun _ => 0))), (q23, .inl (cI, 21, .inl (fun _ => 0)))] := hD
  refine va_putF (D := (dC, dI)) (ci := 3) (v := .ref q23) (ty := .array .int) (C := RX3) (T := TX3) (N := 5) hx hb hts (in_c 3 rfl) tyX3 tyX3_ok nmX3 hown hK hP hD hS 0 rfl rfl 3 (by decide) (hts (.fieldLink RX3 18 "MovingBanks$Laws" "forSudden" "[I") (mem_c (by decide +kernel))) (fun _ h9 => h9) rfl hin rfl (by decide +kernel) rfl rfl (Nat.le_of_ble_eq_true rfl) dX3_init_25 (fun H locs hP hD hS => ?_)
  have hP : va_P (dC, dI) cls [(h0, .inr (3, [.int 0, .ref q7, .ref q15, .ref q23, .null])), (q7, .inl (cI, 21, .inl (fun _ => 0))), (q15, .inl (cI, 21, .inl (fun _ => 0))), (q23, .inl (cI, 21, .inl (fun _ => 0)))] H := hP
  have hD : va_D A [(h0, .inr (3, [.int 0, .ref q7, .ref q15, .ref q23, .null])), (q7, .inl (cI, 21, .inl (fun _ => 0))), (q15, .inl (cI, 21, .inl (fun _ => 0))), (q23, .inl (cI, 21, .inl (fun _ => 0)))] := hD
  refine lv_aload_n hx hb dX3_init_28 rfl (lv_at hl 0 rfl) ?_
  refine lv_bipush (v := 21) hx hb dX3_init_29 (by decide) ?_
  refine nw_a (n := 21) (N' := 21) (atype := .int) (ty := .int) (cA := cI) (a0 := (21, .inl (fun _ => 0))) hx hb (hts (.arrayClass .int) (mem_c (by decide +kernel))) rfl hK 0 rfl hP hD hS hA (fun _ => rfl) (by decide) (by decide) (by decide) (Nat.le_of_ble_eq_true rfl) (Nat.le_of_ble_eq_true rfl) dX3_init_31 (fun q31 H hP hD hS => ?_)
  have hP : va_P (dC, dI) cls [(h0, .inr (3, [.int 0, .ref q7, .ref q15, .ref q23, .null])), (q7, .inl (cI, 21, .inl (fun _ => 0))), (q15, .inl (cI, 21, .inl (fun _ => 0))), (q23, .inl (cI, 21, .inl (fun _ => 0))), (q31, .inl (cI, 21, .inl (fun _ => 0)))] H := hP
  have hD : va_D A [(h0, .inr (3, [.int 0, .ref q7, .ref q15, .ref q23, .null])), (q7, .inl (cI, 21, .inl (fun _ => 0))), (q15, .inl (cI, 21, .inl (fun _ => 0))), (q23, .inl (cI, 21, .inl (fun _ => 0))), (q31, .inl (cI, 21, .inl (fun _ => 0)))] := hD
  refine va_putF (D := (dC, dI)) (ci := 3) (v := .ref q31) (ty := .array .int) (C := RX3) (T := TX3) (N := 5) hx hb hts (in_c 3 rfl) tyX3 tyX3_ok nmX3 hown hK hP hD hS 0 rfl rfl 4 (by decide) (hts (.fieldLink RX3 21 "MovingBanks$Laws" "forIsles" "[I") (mem_c (by decide +kernel))) (fun _ h9 => h9) rfl hin rfl (by decide +kernel) rfl rfl (Nat.le_of_ble_eq_true rfl) dX3_init_33 (fun H locs hP hD hS => ?_)
  have hP : va_P (dC, dI) cls [(h0, .inr (3, [.int 0, .ref q7, .ref q15, .ref q23, .ref q31])), (q7, .inl (cI, 21, .inl (fun _ => 0))), (q15, .inl (cI, 21, .inl (fun _ => 0))), (q23, .inl (cI, 21, .inl (fun _ => 0))), (q31, .inl (cI, 21, .inl (fun _ => 0)))] H := hP
  have hD : va_D A [(h0, .inr (3, [.int 0, .ref q7, .ref q15, .ref q23, .ref q31])), (q7, .inl (cI, 21, .inl (fun _ => 0))), (q15, .inl (cI, 21, .inl (fun _ => 0))), (q23, .inl (cI, 21, .inl (fun _ => 0))), (q31, .inl (cI, 21, .inl (fun _ => 0)))] := hD
  refine lv_aload_n hx hb dX3_init_36 rfl (lv_at hl 0 rfl) ?_
  refine va_get (D := (dC, dI)) (ci := 3) (v := .ref q7) (C := RX3) (T := TX3) (N := 5) hx hb hts (in_c 3 rfl) hown hK hP 0 rfl rfl 1 (by decide) (hts (.fieldLink RX3 9 "MovingBanks$Laws" "years" "[I") (mem_c (by decide +kernel))) (fun _ h9 => h9) rfl dX3_init_37 ?_
  refine lv_iconst (v := 0) hx hb dX3_init_40 (by decide) ?_
  refine lv_iconst (v := (-1)) hx hb dX3_init_41 (by decide) ?_
  refine va_iast (D := (dC, dI)) (i := 0) (x := (-1)) hx hb hK hP hD hS 1 0 rfl rfl (vp_in_nI (n := 0) (N := 21) (by omega) (by omega)) dX3_init_42 (fun H locs hP hD hS => ?_)
  have hP : va_P (dC, dI) cls [(h0, .inr (3, [.int 0, .ref q7, .ref q15, .ref q23, .ref q31])), (q7, .inl (cI, 21, .inl (upd (fun _ => 0) 0 (-1)))), (q15, .inl (cI, 21, .inl (fun _ => 0))), (q23, .inl (cI, 21, .inl (fun _ => 0))), (q31, .inl (cI, 21, .inl (fun _ => 0)))] H := hP
  have hD : va_D A [(h0, .inr (3, [.int 0, .ref q7, .ref q15, .ref q23, .ref q31])), (q7, .inl (cI, 21, .inl (upd (fun _ => 0) 0 (-1)))), (q15, .inl (cI, 21, .inl (fun _ => 0))), (q23, .inl (cI, 21, .inl (fun _ => 0))), (q31, .inl (cI, 21, .inl (fun _ => 0)))] := hD
  refine lv_aload_n hx hb dX3_init_43 rfl (lv_at hl 0 rfl) ?_
  refine va_get (D := (dC, dI)) (ci := 3) (v := .ref q15) (C := RX3) (T := TX3) (N := 5) hx hb hts (in_c 3 rfl) hown hK hP 0 rfl rfl 2 (by decide) (hts (.fieldLink RX3 15 "MovingBanks$Laws" "forSlow" "[I") (mem_c (by decide +kernel))) (fun _ h9 => h9) rfl dX3_init_44 ?_
  refine lv_iconst (v := 0) hx hb dX3_init_47 (by decide) ?_
  refine lv_iconst (v := 1) hx hb dX3_init_48 (by decide) ?_
  refine va_iast (D := (dC, dI)) (i := 0) (x := 1) hx hb hK hP hD hS 2 0 rfl rfl (vp_in_nI (n := 0) (N := 21) (by omega) (by omega)) dX3_init_49 (fun H locs hP hD hS => ?_)
  have hP : va_P (dC, dI) cls [(h0, .inr (3, [.int 0, .ref q7, .ref q15, .ref q23, .ref q31])), (q7, .inl (cI, 21, .inl (upd (fun _ => 0) 0 (-1)))), (q15, .inl (cI, 21, .inl (upd (fun _ => 0) 0 1))), (q23, .inl (cI, 21, .inl (fun _ => 0))), (q31, .inl (cI, 21, .inl (fun _ => 0)))] H := hP
  have hD : va_D A [(h0, .inr (3, [.int 0, .ref q7, .ref q15, .ref q23, .ref q31])), (q7, .inl (cI, 21, .inl (upd (fun _ => 0) 0 (-1)))), (q15, .inl (cI, 21, .inl (upd (fun _ => 0) 0 1))), (q23, .inl (cI, 21, .inl (fun _ => 0))), (q31, .inl (cI, 21, .inl (fun _ => 0)))] := hD
  refine lv_aload_n hx hb dX3_init_50 rfl (lv_at hl 0 rfl) ?_
  refine va_get (D := (dC, dI)) (ci := 3) (v := .ref q23) (C := RX3) (T := TX3) (N := 5) hx hb hts (in_c 3 rfl) hown hK hP 0 rfl rfl 3 (by decide) (hts (.fieldLink RX3 18 "MovingBanks$Laws" "forSudden" "[I") (mem_c (by decide +kernel))) (fun _ h9 => h9) rfl dX3_init_51 ?_
  refine lv_iconst (v := 0) hx hb dX3_init_54 (by decide) ?_
  refine lv_iconst (v := 0) hx hb dX3_init_55 (by decide) ?_
  refine va_iast (D := (dC, dI)) (i := 0) (x := 0) hx hb hK hP hD hS 3 0 rfl rfl (vp_in_nI (n := 0) (N := 21) (by omega) (by omega)) dX3_init_56 (fun H locs hP hD hS => ?_)
  have hP : va_P (dC, dI) cls [(h0, .inr (3, [.int 0, .ref q7, .ref q15, .ref q23, .ref q31])), (q7, .inl (cI, 21, .inl (upd (fun _ => 0) 0 (-1)))), (q15, .inl (cI, 21, .inl (upd (fun _ => 0) 0 1))), (q23, .inl (cI, 21, .inl (upd (fun _ => 0) 0 0))), (q31, .inl (cI, 21, .inl (fun _ => 0)))] H := hP
  have hD : va_D A [(h0, .inr (3, [.int 0, .ref q7, .ref q15, .ref q23, .ref q31])), (q7, .inl (cI, 21, .inl (upd (fun _ => 0) 0 (-1)))), (q15, .inl (cI, 21, .inl (upd (fun _ => 0) 0 1))), (q23, .inl (cI, 21, .inl (upd (fun _ => 0) 0 0))), (q31, .inl (cI, 21, .inl (fun _ => 0)))] := hD
  refine lv_aload_n hx hb dX3_init_57 rfl (lv_at hl 0 rfl) ?_
  refine va_get (D := (dC, dI)) (ci := 3) (v := .ref q31) (C := RX3) (T := TX3) (N := 5) hx hb hts (in_c 3 rfl) hown hK hP 0 rfl rfl 4 (by decide) (hts (.fieldLink RX3 21 "MovingBanks$Laws" "forIsles" "[I") (mem_c (by decide +kernel))) (fun _ h9 => h9) rfl dX3_init_58 ?_
  refine lv_iconst (v := 0) hx hb dX3_init_61 (by decide) ?_
  refine lv_iconst (v := 0) hx hb dX3_init_62 (by decide) ?_
  refine va_iast (D := (dC, dI)) (i := 0) (x := 0) hx hb hK hP hD hS 4 0 rfl rfl (vp_in_nI (n := 0) (N := 21) (by omega) (by omega)) dX3_init_63 (fun H locs hP hD hS => ?_)
  have hP : va_P (dC, dI) cls [(h0, .inr (3, [.int 0, .ref q7, .ref q15, .ref q23, .ref q31])), (q7, .inl (cI, 21, .inl (upd (fun _ => 0) 0 (-1)))), (q15, .inl (cI, 21, .inl (upd (fun _ => 0) 0 1))), (q23, .inl (cI, 21, .inl (upd (fun _ => 0) 0 0))), (q31, .inl (cI, 21, .inl (upd (fun _ => 0) 0 0)))] H := hP
  have hD : va_D A [(h0, .inr (3, [.int 0, .ref q7, .ref q15, .ref q23, .ref q31])), (q7, .inl (cI, 21, .inl (upd (fun _ => 0) 0 (-1)))), (q15, .inl (cI, 21, .inl (upd (fun _ => 0) 0 1))), (q23, .inl (cI, 21, .inl (upd (fun _ => 0) 0 0))), (q31, .inl (cI, 21, .inl (upd (fun _ => 0) 0 0)))] := hD
  refine W.widen (k := 4) (n := 84) (Nat.le_of_ble_eq_true rfl) (Nat.le_of_ble_eq_true rfl) ?_
  exact W.vret hx hb hr (fun t ht hW => ⟨⟨[(h0, .inr (3, [.int 0, .ref q7, .ref q15, .ref q23, .ref q31])), (q7, .inl (cI, 21, .inl (upd (fun _ => 0) 0 (-1)))), (q15, .inl (cI, 21, .inl (upd (fun _ => 0) 0 1))), (q23, .inl (cI, 21, .inl (upd (fun _ => 0) 0 0))), (q31, .inl (cI, 21, .inl (upd (fun _ => 0) 0 0)))], rfl, ⟨q7, q15, q23, q31, rfl⟩, by rw [ht]; exact hP, va_K.moved hW.alike hK, hD⟩, hS.F ht⟩) hS.2.2 dX3_init_64
set_option maxHeartbeats 8000000 in
set_option maxRecDepth 100000 in
theorem c_X5_init (l : Launch) (dC : Nat → ClassId) (dI : Nat → Nat → Nat) (cI cZ cL : ClassId) (h0 g1 g2 g3 g4 : Nat) : cMet l dC dI cI cZ cL yX5_init (wc yX5_init cX5_init 5) { frames := 1, cells := 3, slots := 432, locals := 23 } [.ref h0, .ref g1, .ref g2, .ref g3, .ref g4] [(h0, .inr (5, [.null, .null, .null, .null, .null, .null, .null, .int 0, .int 0, .int 0]))] (fun u => (∃ q8 q17 q26 : Nat, u = [(h0, .inr (5, [.ref g1, .ref g2, .ref g3, .ref g4, .ref q8, .ref q17, .ref q26, .int 0, .int 0, .int 0])), (q17, .inl (cI, 144, .inl (fun _ => 0))), (q26, .inl (cI, 144, .inl (fun _ => 0))), (q8, .inl (cI, 144, .inl (fil (fun _ => 0) ((-1)) 144)))])) 3 432 := by
  intro sz
  refine Met.ofW (cc := cX5_init) (maxL := 5) (ret := none) (by decide) rfl ?_
  intro p e s m args below meth c s₁ B hml hv
  obtain ⟨rfl, hsz, hP, hK, hD0, hnw⟩ := hv
  have hx := B.exec
  have hb := B.bytes
  have hr := B.returns
  have hts := atoms_spec (ws := wc yX5_init cX5_init 5) B.pre
  have hown : s.vm.findClass RX5 = some m.cls := findClass_of_methodNamed B.named
  have hlocks := B.notSynchronized
  have hin : meth.name = "<init>" := (name_of_methodNamed B.named B.method).1
  subst hsz
  have hD := hD0.self (sz := s.heap.size)
  generalize hAe : va_A [(h0, .inr (5, [.null, .null, .null, .null, .null, .null, .null, .int 0, .int 0, .int 0]))] s.heap.size = A at hD ⊢
  have hA : ∀ q : Nat, s.heap.size ≤ q → A q := fun q h => by rw [← hAe]; exact Or.inr h
  have hS : va_S A s.heap s.heap [] := va_S.rf
  have hP : va_P (dC, dI) cls [(h0, .inr (5, [.null, .null, .null, .null, .null, .null, .null, .int 0, .int 0, .int 0]))] s.heap := hP
  have hl := lv_entry ([.ref h0, .ref g1, .ref g2, .ref g3, .ref g4]) (n := 5) (Nat.le_of_ble_eq_true rfl)
  rw [lg_entry_eq]
  generalize (lg_sl ([.ref h0, .ref g1, .ref g2, .ref g3, .ref g4]) ++ List.replicate (5 - (lg_sl ([.ref h0, .ref g1, .ref g2, .ref g3, .ref g4])).length) Slot.unset).toArray = ls at hl ⊢
  have hl : lv_has ls 5 [(0, .ref h0), (1, .ref g1), (2, .ref g2), (3, .ref g3), (4, .ref g4)] := hl
  refine lv_aload_n hx hb dX5_init_0 rfl (lv_at hl 0 rfl) ?_
  refine W.objInit hx hb hown (hts (.methodLink RX5 3 objectInit) (mem_c (by decide +kernel))) (hts (.instanceMethod objectInit) (mem_c (by decide +kernel))) (hts (.code objectInit ⟨#[0xb1]⟩ 1 none) (mem_c (by decide +kernel))) rfl (by rw [hml]; exact hl.1) rfl dX5_init_1 (Nat.le_of_ble_eq_true rfl) (Nat.le_of_ble_eq_true rfl) ?_
  refine W.eq (g2 := F0 m 4 ls []) rfl ?_
  refine lv_aload_n hx hb dX5_init_4 rfl (lv_at hl 0 rfl) ?_
  refine lv_sipush (v := 144) hx hb dX5_init_5 (by decide) ?_
  refine nw_a (n := 144) (N' := 144) (atype := .int) (ty := .int) (cA := cI) (a0 := (144, .inl (fun _ => 0))) hx hb (hts (.arrayClass .int) (mem_c (by decide +kernel))) rfl hK 0 rfl hP hD hS hA (fun _ => rfl) (by decide) (by decide) (by decide) (Nat.le_of_ble_eq_true rfl) (Nat.le_of_ble_eq_true rfl) dX5_init_8 (fun q8 H hP hD hS => ?_)
  have hP : va_P (dC, dI) cls [(h0, .inr (5, [.null, .null, .null, .null, .null, .null, .null, .int 0, .int 0, .int 0])), (q8, .inl (cI, 144, .inl (fun _ => 0)))] H := hP
  have hD : va_D A [(h0, .inr (5, [.null, .null, .null, .null, .null, .null, .null, .int 0, .int 0, .int 0])), (q8, .inl (cI, 144, .inl (fun _ => 0)))] := hD
  refine va_putF (D := (dC, dI)) (ci := 5) (v := .ref q8) (ty := .array .int) (C := RX5) (T := TX5) (N := 10) hx hb hts (in_c 5 rfl) tyX5 tyX5_ok nmX5 hown hK hP hD hS 0 rfl rfl 4 (by decide) (hts (.fieldLink RX5 9 "MovingBanks$Replay" "firstOwners" "[I") (mem_c (by decide +kernel))) (fun _ h9 => h9) rfl hin rfl (by decide +kernel) rfl rfl (Nat.le_of_ble_eq_true rfl) dX5_init_10 (fun H locs hP hD hS => ?_)
  have hP : va_P (dC, dI) cls [(h0, .inr (5, [.null, .null, .null, .null, .ref q8, .null, .null, .int 0, .int 0, .int 0])), (q8, .inl (cI, 144, .inl (fun _ => 0)))] H := hP
  have hD : va_D A [(h0, .inr (5, [.null, .null, .null, .null, .ref q8, .null, .null, .int 0, .int 0, .int 0])), (q8, .inl (cI, 144, .inl (fun _ => 0)))] := hD
  refine lv_aload_n hx hb dX5_init_13 rfl (lv_at hl 0 rfl) ?_
  refine lv_sipush (v := 144) hx hb dX5_init_14 (by decide) ?_
  refine nw_a (n := 144) (N' := 144) (atype := .int) (ty := .int) (cA := cI) (a0 := (144, .inl (fun _ => 0))) hx hb (hts (.arrayClass .int) (mem_c (by decide +kernel))) rfl hK 0 rfl hP hD hS hA (fun _ => rfl) (by decide) (by decide) (by decide) (Nat.le_of_ble_eq_true rfl) (Nat.le_of_ble_eq_true rfl) dX5_init_17 (fun q17 H hP hD hS => ?_)
  have hP : va_P (dC, dI) cls [(h0, .inr (5, [.null, .null, .null, .null, .ref q8, .null, .null, .int 0, .int 0, .int 0])), (q8, .inl (cI, 144, .inl (fun _ => 0))), (q17, .inl (cI, 144, .inl (fun _ => 0)))] H := hP
  have hD : va_D A [(h0, .inr (5, [.null, .null, .null, .null, .ref q8, .null, .null, .int 0, .int 0, .int 0])), (q8, .inl (cI, 144, .inl (fun _ => 0))), (q17, .inl (cI, 144, .inl (fun _ => 0)))] := hD
  refine va_putF (D := (dC, dI)) (ci := 5) (v := .ref q17) (ty := .array .int) (C := RX5) (T := TX5) (N := 10) hx hb hts (in_c 5 rfl) tyX5 tyX5_ok nmX5 hown hK hP hD hS 0 rfl rfl 5 (by decide) (hts (.fieldLink RX5 15 "MovingBanks$Replay" "owners" "[I") (mem_c (by decide +kernel))) (fun _ h9 => h9) rfl hin rfl (by decide +kernel) rfl rfl (Nat.le_of_ble_eq_true rfl) dX5_init_19 (fun H locs hP hD hS => ?_)
  have hP : va_P (dC, dI) cls [(h0, .inr (5, [.null, .null, .null, .null, .ref q8, .ref q17, .null, .int 0, .int 0, .int 0])), (q8, .inl (cI, 144, .inl (fun _ => 0))), (q17, .inl (cI, 144, .inl (fun _ => 0)))] H := hP
  have hD : va_D A [(h0, .inr (5, [.null, .null, .null, .null, .ref q8, .ref q17, .null, .int 0, .int 0, .int 0])), (q8, .inl (cI, 144, .inl (fun _ => 0))), (q17, .inl (cI, 144, .inl (fun _ => 0)))] := hD
  refine lv_aload_n hx hb dX5_init_22 rfl (lv_at hl 0 rfl) ?_
  refine lv_sipush (v := 144) hx hb dX5_init_23 (by decide) ?_
  refine nw_a (n := 144) (N' := 144) (atype := .int) (ty := .int) (cA := cI) (a0 := (144, .inl (fun _ => 0))) hx hb (hts (.arrayClass .int) (mem_c (by decide +kernel))) rfl hK 0 rfl hP hD hS hA (fun _ => rfl) (by decide) (by decide) (by decide) (Nat.le_of_ble_eq_true rfl) (Nat.le_of_ble_eq_true rfl) dX5_init_26 (fun q26 H hP hD hS => ?_)
  have hP : va_P (dC, dI) cls [(h0, .inr (5, [.null, .null, .null, .null, .ref q8, .ref q17, .null, .int 0, .int 0, .int 0])), (q8, .inl (cI, 144, .inl (fun _ => 0))), (q17, .inl (cI, 144, .inl (fun _ => 0))), (q26, .inl (cI, 144, .inl (fun _ => 0)))] H := hP
  have hD : va_D A [(h0, .inr (5, [.null, .null, .null, .null, .ref q8, .ref q17, .null, .int 0, .int 0, .int 0])), (q8, .inl (cI, 144, .inl (fun _ => 0))), (q17, .inl (cI, 144, .inl (fun _ => 0))), (q26, .inl (cI, 144, .inl (fun _ => 0)))] := hD
  refine va_putF (D := (dC, dI)) (ci := 5) (v := .ref q26) (ty := .array .int) (C := RX5) (T := TX5) (N := 10) hx hb hts (in_c 5 rfl) tyX5 tyX5_ok nmX5 hown hK hP hD hS 0 rfl rfl 6 (by decide) (hts (.fieldLink RX5 18 "MovingBanks$Replay" "keptOwners" "[I") (mem_c (by decide +kernel))) (fun _ h9 => h9) rfl hin rfl (by decide +kernel) rfl rfl (Nat.le_of_ble_eq_true rfl) dX5_init_28 (fun H locs hP hD hS => ?_)
  have hP : va_P (dC, dI) cls [(h0, .inr (5, [.null, .null, .null, .null, .ref q8, .ref q17, .ref q26, .int 0, .int 0, .int 0])), (q8, .inl (cI, 144, .inl (fun _ => 0))), (q17, .inl (cI, 144, .inl (fun _ => 0))), (q26, .inl (cI, 144, .inl (fun _ => 0)))] H := hP
  have hD : va_D A [(h0, .inr (5, [.null, .null, .null, .null, .ref q8, .ref q17, .ref q26, .int 0, .int 0, .int 0])), (q8, .inl (cI, 144, .inl (fun _ => 0))), (q17, .inl (cI, 144, .inl (fun _ => 0))), (q26, .inl (cI, 144, .inl (fun _ => 0)))] := hD
  refine lv_aload_n hx hb dX5_init_31 rfl (lv_at hl 0 rfl) ?_
  refine lv_aload_n hx hb dX5_init_32 rfl (lv_at hl 1 rfl) ?_
  refine va_putF (D := (dC, dI)) (ci := 5) (v := .ref g1) (ty := .object "MovingBanks$Ground") (C := RX5) (T := TX5) (N := 10) hx hb hts (in_c 5 rfl) tyX5 tyX5_ok nmX5 hown hK hP hD hS 0 rfl rfl 0 (by decide) (hts (.fieldLink RX5 21 "MovingBanks$Replay" "ground" "LMovingBanks$Ground;") (mem_c (by decide +kernel))) (fun _ h9 => h9) rfl hin rfl (by decide +kernel) rfl rfl (Nat.le_of_ble_eq_true rfl) dX5_init_33 (fun H locs hP hD hS => ?_)
  have hP : va_P (dC, dI) cls [(h0, .inr (5, [.ref g1, .null, .null, .null, .ref q8, .ref q17, .ref q26, .int 0, .int 0, .int 0])), (q8, .inl (cI, 144, .inl (fun _ => 0))), (q17, .inl (cI, 144, .inl (fun _ => 0))), (q26, .inl (cI, 144, .inl (fun _ => 0)))] H := hP
  have hD : va_D A [(h0, .inr (5, [.ref g1, .null, .null, .null, .ref q8, .ref q17, .ref q26, .int 0, .int 0, .int 0])), (q8, .inl (cI, 144, .inl (fun _ => 0))), (q17, .inl (cI, 144, .inl (fun _ => 0))), (q26, .inl (cI, 144, .inl (fun _ => 0)))] := hD
  refine lv_aload_n hx hb dX5_init_36 rfl (lv_at hl 0 rfl) ?_
  refine lv_aload_n hx hb dX5_init_37 rfl (lv_at hl 2 rfl) ?_
  refine va_putF (D := (dC, dI)) (ci := 5) (v := .ref g2) (ty := .object "MovingBanks$Atlas") (C := RX5) (T := TX5) (N := 10) hx hb hts (in_c 5 rfl) tyX5 tyX5_ok nmX5 hown hK hP hD hS 0 rfl rfl 1 (by decide) (hts (.fieldLink RX5 25 "MovingBanks$Replay" "atlas" "LMovingBanks$Atlas;") (mem_c (by decide +kernel))) (fun _ h9 => h9) rfl hin rfl (by decide +kernel) rfl rfl (Nat.le_of_ble_eq_true rfl) dX5_init_38 (fun H locs hP hD hS => ?_)
  have hP : va_P (dC, dI) cls [(h0, .inr (5, [.ref g1, .ref g2, .null, .null, .ref q8, .ref q17, .ref q26, .int 0, .int 0, .int 0])), (q8, .inl (cI, 144, .inl (fun _ => 0))), (q17, .inl (cI, 144, .inl (fun _ => 0))), (q26, .inl (cI, 144, .inl (fun _ => 0)))] H := hP
  have hD : va_D A [(h0, .inr (5, [.ref g1, .ref g2, .null, .null, .ref q8, .ref q17, .ref q26, .int 0, .int 0, .int 0])), (q8, .inl (cI, 144, .inl (fun _ => 0))), (q17, .inl (cI, 144, .inl (fun _ => 0))), (q26, .inl (cI, 144, .inl (fun _ => 0)))] := hD
  refine lv_aload_n hx hb dX5_init_41 rfl (lv_at hl 0 rfl) ?_
  refine lv_aload_n hx hb dX5_init_42 rfl (lv_at hl 3 rfl) ?_
  refine va_putF (D := (dC, dI)) (ci := 5) (v := .ref g3) (ty := .object "MovingBanks$Deeds") (C := RX5) (T := TX5) (N := 10) hx hb hts (in_c 5 rfl) tyX5 tyX5_ok nmX5 hown hK hP hD hS 0 rfl rfl 2 (by decide) (hts (.fieldLink RX5 29 "MovingBanks$Replay" "deeds" "LMovingBanks$Deeds;") (mem_c (by decide +kernel))) (fun _ h9 => h9) rfl hin rfl (by decide +kernel) rfl rfl (Nat.le_of_ble_eq_true rfl) dX5_init_43 (fun H locs hP hD hS => ?_)
  have hP : va_P (dC, dI) cls [(h0, .inr (5, [.ref g1, .ref g2, .ref g3, .null, .ref q8, .ref q17, .ref q26, .int 0, .int 0, .int 0])), (q8, .inl (cI, 144, .inl (fun _ => 0))), (q17, .inl (cI, 144, .inl (fun _ => 0))), (q26, .inl (cI, 144, .inl (fun _ => 0)))] H := hP
  have hD : va_D A [(h0, .inr (5, [.ref g1, .ref g2, .ref g3, .null, .ref q8, .ref q17, .ref q26, .int 0, .int 0, .int 0])), (q8, .inl (cI, 144, .inl (fun _ => 0))), (q17, .inl (cI, 144, .inl (fun _ => 0))), (q26, .inl (cI, 144, .inl (fun _ => 0)))] := hD
  refine lv_aload_n hx hb dX5_init_46 rfl (lv_at hl 0 rfl) ?_
  refine lv_aload hx hb dX5_init_47 (lv_at hl 4 rfl) ?_
  refine va_putF (D := (dC, dI)) (ci := 5) (v := .ref g4) (ty := .object "MovingBanks$Laws") (C := RX5) (T := TX5) (N := 10) hx hb hts (in_c 5 rfl) tyX5 tyX5_ok nmX5 hown hK hP hD hS 0 rfl rfl 3 (by decide) (hts (.fieldLink RX5 33 "MovingBanks$Replay" "laws" "LMovingBanks$Laws;") (mem_c (by decide +kernel))) (fun _ h9 => h9) rfl hin rfl (by decide +kernel) rfl rfl (Nat.le_of_ble_eq_true rfl) dX5_init_49 (fun H locs hP hD hS => ?_)
  have hP : va_P (dC, dI) cls [(h0, .inr (5, [.ref g1, .ref g2, .ref g3, .ref g4, .ref q8, .ref q17, .ref q26, .int 0, .int 0, .int 0])), (q8, .inl (cI, 144, .inl (fun _ => 0))), (q17, .inl (cI, 144, .inl (fun _ => 0))), (q26, .inl (cI, 144, .inl (fun _ => 0)))] H := hP
  have hD : va_D A [(h0, .inr (5, [.ref g1, .ref g2, .ref g3, .ref g4, .ref q8, .ref q17, .ref q26, .int 0, .int 0, .int 0])), (q8, .inl (cI, 144, .inl (fun _ => 0))), (q17, .inl (cI, 144, .inl (fun _ => 0))), (q26, .inl (cI, 144, .inl (fun _ => 0)))] := hD
  refine lv_aload_n hx hb dX5_init_52 rfl (lv_at hl 0 rfl) ?_
  refine va_get (D := (dC, dI)) (ci := 5) (v := .ref q8) (C := RX5) (T := TX5) (N := 10) hx hb hts (in_c 5 rfl) hown hK hP 0 rfl rfl 4 (by decide) (hts (.fieldLink RX5 9 "MovingBanks$Replay" "firstOwners" "[I") (mem_c (by decide +kernel))) (fun _ h9 => h9) rfl dX5_init_53 ?_
  refine lv_iconst (v := (-1)) hx hb dX5_init_56 (by decide) ?_
  have hPc := hP.sub (ws' := [(q8, .inl (cI, 144, .inl (fun _ => 0)))]) [1] rfl
  have hDc := hD.sub (ws' := [(q8, .inl (cI, 144, .inl (fun _ => 0)))]) [1] (by decide) rfl
  have hFc := va_free (wc := [(q8, .inl (cI, 144, .inl (fun _ => 0)))]) hD hS hA [1] rfl
  refine va_callv (va_runS (As := [.ref q8, .int (-1)]) (rest := []) ⟨hx, hb, hml, hown, hts⟩ (c_fill l dC dI cI cZ cL q8 144 (by omega) (fun _ => 0) ((-1)) H.size) (va_cwS 2 hts (good_s (by decide +kernel) (by decide +kernel)) rfl rfl rfl (by decide +kernel) ⟨Nat.le_of_ble_eq_true rfl, Nat.le_of_ble_eq_true rfl⟩) ⟨cP_blind, fun U hU hW => ⟨rfl, by rw [hU], by rw [hU]; exact hPc, va_K.moved hW.alike hK, hDc.weaken (fun _ _ _ _ => trivial), nwP.warm hW hnw⟩⟩ rfl rfl hl.1 rfl (lv_room (Nat.le_of_ble_eq_true rfl)) dX5_init_57 ⟨Nat.le_of_ble_eq_true rfl, Nat.le_of_ble_eq_true rfl⟩) hS (fun q _ h => hFc q h) hFc (fun u t H1 locs ht hvm hw hB hz1 hk1 hS => ?_)
  obtain ⟨hP1, hK1, hD1⟩ := hB
  rw [ht] at hP1
  subst hw
  obtain ⟨hP, hD⟩ := va_join (wr := [(h0, .inr (5, [.ref g1, .ref g2, .ref g3, .ref g4, .ref q8, .ref q17, .ref q26, .int 0, .int 0, .int 0])), (q17, .inl (cI, 144, .inl (fun _ => 0))), (q26, .inl (cI, 144, .inl (fun _ => 0)))]) (w1 := [(q8, .inl (cI, 144, .inl (fil (fun _ => 0) ((-1)) 144)))]) hP hD [1] [0, 2, 3] rfl rfl (by decide) (by decide) hk1 hFc hP1 hD1
  generalize H1 = H at hP hS ⊢
  have hP : va_P (dC, dI) cls [(h0, .inr (5, [.ref g1, .ref g2, .ref g3, .ref g4, .ref q8, .ref q17, .ref q26, .int 0, .int 0, .int 0])), (q17, .inl (cI, 144, .inl (fun _ => 0))), (q26, .inl (cI, 144, .inl (fun _ => 0))), (q8, .inl (cI, 144, .inl (fil (fun _ => 0) ((-1)) 144)))] H := hP
  have hD : va_D A [(h0, .inr (5, [.ref g1, .ref g2, .ref g3, .ref g4, .ref q8, .ref q17, .ref q26, .int 0, .int 0, .int 0])), (q17, .inl (cI, 144, .inl (fun _ => 0))), (q26, .inl (cI, 144, .inl (fun _ => 0))), (q8, .inl (cI, 144, .inl (fil (fun _ => 0) ((-1)) 144)))] := hD
  refine W.widen (k := 3) (n := 432) (Nat.le_of_ble_eq_true rfl) (Nat.le_of_ble_eq_true rfl) ?_
  exact W.vret hx hb hr (fun t ht hW => ⟨⟨[(h0, .inr (5, [.ref g1, .ref g2, .ref g3, .ref g4, .ref q8, .ref q17, .ref q26, .int 0, .int 0, .int 0])), (q17, .inl (cI, 144, .inl (fun _ => 0))), (q26, .inl (cI, 144, .inl (fun _ => 0))), (q8, .inl (cI, 144, .inl (fil (fun _ => 0) ((-1)) 144)))], rfl, ⟨q8, q17, q26, rfl⟩, by rw [ht]; exact hP, va_K.moved hW.alike hK, hD⟩, hS.F ht⟩) hS.2.2 dX5_init_60
