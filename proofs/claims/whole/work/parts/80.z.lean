/-! THE FIRST CELLS, AND A CALL WITH ITS FRAME -/
def adX (tab : List (List Nat)) (g i : Nat) : Nat := (tab.getD g []).getD i 0
def sig0 : mS := fun g _ => bif Nat.beq g 1 then (fun j => bif Nat.ble j 2 then 1 else 0) else bif Nat.beq g 7 then (fun j => bif Nat.beq j 5 then 1 else 0) else bif Nat.beq g 10 then (fun j => bif Nat.beq j 6 then (-1) else 0) else bif Nat.beq g 23 then upd (fun _ => 0) 0 (-1) else bif Nat.beq g 24 then upd (fun _ => 0) 0 1 else bif Nat.beq g 25 then upd (fun _ => 0) 0 0 else bif Nat.beq g 26 then upd (fun _ => 0) 0 0 else bif Nat.beq g 28 then fil (fun _ => 0) (-1) 144 else (fun _ => 0)
def tau0 : mS := fun g _ j => bif Nat.beq g 40 then (bif Nat.beq j 1 then 1 else bif Nat.beq j 2 then 1 else bif Nat.beq j 18 then 1 else 0) else 0
def posM (g : Nat) : Nat := bif Nat.beq g 40 then 0 else bif Nat.beq g 54 then 1 else bif Nat.beq g 55 then 2 else bif Nat.beq g 56 then 3 else bif Nat.beq g 58 then 4 else bif Nat.beq g 59 then 5 else bif Nat.beq g 60 then 6 else bif Nat.beq g 61 then 7 else bif Nat.beq g 62 then 8 else bif Nat.beq g 64 then 9 else bif Nat.beq g 65 then 10 else bif Nat.beq g 66 then 11 else bif Nat.beq g 67 then 12 else bif Nat.beq g 69 then 13 else bif Nat.beq g 70 then 14 else bif Nat.beq g 71 then 15 else bif Nat.beq g 72 then 16 else bif Nat.beq g 74 then 17 else bif Nat.beq g 75 then 18 else bif Nat.beq g 77 then 19 else bif Nat.beq g 78 then 20 else 21
def adM (qs : List Nat) (g _i : Nat) : Nat := qs.getD (posM g) 0
theorem good_w {y : MethodName} {b : ByteArray} {n : Nat} {own C : String} {idx j : Nat} (hj : j < 146) (h2 : ([.methodLink own idx (ycd j), .instanceMethod (ycd j), .selects C (ycd j) (ycd j), .initialized C] : List Cond).all (fun w => decide (w ∈ lw_tbl) && goodWord w) = true) : GoodIn (wc y b n) (wsV own idx C (ycd j) (wk j)) := by
  intro w hw
  have hm : w ∈ mw := by
    rcases List.mem_append.mp (show w ∈ ([.methodLink own idx (ycd j), .instanceMethod (ycd j), .selects C (ycd j) (ycd j), .initialized C] : List Cond) ++ wk j by unfold wsV at hw; simpa using hw) with q | q
    · exact mem_m (List.all_eq_true.mp h2 w q)
    · rcases List.mem_cons.mp q with q | q
      · rw [q]; exact codeW hj
      · exact q
  exact ⟨List.mem_cons_of_mem _ hm, mw_good hm⟩
section MCG
variable {p : Program} {l : Launch} {e : Env} {R : Room} {s : State} {m : MethodId} {args : Array Value} {below : List Frame} {meth : Method} {c : Code} {Q : State → Prop}
variable {dC : Nat → ClassId} {dI : Nat → Nat → Nat} {ad : Nat → Nat → Nat} {cI cZ cL : ClassId} {b : Bool} {A : Nat → Prop}
theorem m_callG {pc cells slots mc ms : Nat} {ls : Array Slot} {st0 rest : List Value} {H H0 : Heap} {locs : List Loc} {A1 : Nat → Prop} {a : Array Value} {free : Addr → Prop} {post : Option mV → mS → Prop}
    (hr : va_Run p l e R s m args below meth c H locs cells slots mc ms (F0 m pc ls st0) rest (mQc dC dI ad cI cZ cL b post A1 a) free) (hS : va_S A H0 H locs) (hA : ∀ q, q < H.size → A1 q → A q) (hf : ∀ q, free q → A q)
    (kk : ∀ (r : Option mV) (σ' : mS) (H1 : Heap) (locs1 : List Loc), (∀ v, r = some v → vok b v) → post r σ' → va_P (dC, dI) cls (wld ad cI cZ cL b σ') H1 → va_S A H0 H1 locs1 → H.size ≤ H1.size → (∀ q : Nat, q < H.size → ¬ A1 q → H1[q]? = H[q]?) → W p l e R s m args below meth c H1 locs1 (cells + mc) (slots + ms) Q (F0 m (pc + 3) ls ((r.map (mval ad)).toList ++ rest))) :
    W p l e R s m args below meth c H locs cells slots Q (F0 m pc ls st0) := by
  intro T hT X
  obtain ⟨v, st₀, t, T', L, h0, X', hL, e1, e2, ⟨⟨r, σ', hv, hvk, hp, hPw, hKw⟩, hz, hk⟩, st⟩ := hr T hT X
  simp only [Outcome.returned.injEq] at hv
  subst hv
  rw [h0] at hz hk
  obtain ⟨t2, a1, b1⟩ := kk r σ' T'.heap (locs ++ L) hvk hp (by rw [e1]; exact hPw)
    ⟨Nat.le_trans hS.1 (by rw [e1]; exact hz), fun q h1 h2 => by rw [e1, hk q (Nat.lt_of_lt_of_le h1 hS.1) (fun z => h2 (hA q (Nat.lt_of_lt_of_le h1 hS.1) z))]; exact hS.2.1 q h1 h2, fun q hq => by
      rcases List.mem_append.mp hq with h | h
      · exact hS.2.2 q h
      · exact hf _ (hL q h)⟩ (by rw [e1]; exact hz) (fun q h1 h2 => by rw [e1]; exact hk q h1 h2) T' rfl X'
  exact ⟨t2, st t2 a1, b1⟩
end MCG
