/-! BOTH: what holds between the class and the reference -/
def TG (τ t : mS) : Prop := (∀ j, j ≠ 0 → j ≠ 23 → j ≠ 26 → t 40 0 j = τ 40 0 j) ∧ ∀ g, g ≠ 40 → g ≠ 70 → g ≠ 71 → g ≠ 72 → g ≠ 74 → g ≠ 75 → g ≠ 77 → g ≠ 78 → g ≠ 79 → t g 0 = τ g 0
theorem TG.rf {τ : mS} : TG τ τ := ⟨fun _ _ _ _ => rfl, fun _ _ _ _ _ _ _ _ _ _ => rfl⟩
theorem QM.tg {τ t : mS} (h : QM τ t) : TG τ t := ⟨fun j a b _ => h.1 j a b, fun g a b c d e f _ i j => h.2.1 g a b c d e f i j⟩
theorem TG.g {τ t : mS} (h : TG τ t) {g : Nat} (q : g ≠ 40 ∧ g ≠ 70 ∧ g ≠ 71 ∧ g ≠ 72 ∧ g ≠ 74 ∧ g ≠ 75 ∧ g ≠ 77 ∧ g ≠ 78 ∧ g ≠ 79) : t g 0 = τ g 0 := h.2 g q.1 q.2.1 q.2.2.1 q.2.2.2.1 q.2.2.2.2.1 q.2.2.2.2.2.1 q.2.2.2.2.2.2.1 q.2.2.2.2.2.2.2.1 q.2.2.2.2.2.2.2.2
theorem QX.c {σ s : mS} (h : QX σ s) : CX σ s := fun g i _ a b c d e f _ => h g i a b c d e f
theorem CX.rf {σ : mS} : CX σ σ := fun _ _ _ _ _ _ _ _ _ _ => rfl
theorem CX.g {σ s : mS} (h : CX σ s) {g : Nat} (i : Nat) (q : g ≠ 0 ∧ g ≠ 4 ∧ g ≠ 5 ∧ g ≠ 6 ∧ g ≠ 27 ∧ g ≠ 29 ∧ g ≠ 30 ∧ g ≠ 31) : s g i = σ g i := h g i q.1 q.2.1 q.2.2.1 q.2.2.2.1 q.2.2.2.2.1 q.2.2.2.2.2.1 q.2.2.2.2.2.2.1 q.2.2.2.2.2.2.2
theorem kdM_tg {τ t : mS} (h : TG τ t) (W H m : Nat) : kdM t W H m = kdM τ W H m := by unfold kdM wtr; rw [h.g (g := 55) (by decide)]
theorem MI.tg {τ t : mS} {W H mp dn ln : Nat} (k : TG τ t) (h : MI τ W H mp dn ln) : MI t W H mp dn ln := by
  unfold MI dedOK at h ⊢
  rw [k.1 1 (by decide) (by decide) (by decide), k.1 2 (by decide) (by decide) (by decide), k.1 3 (by decide) (by decide) (by decide), k.1 7 (by decide) (by decide) (by decide), k.1 13 (by decide) (by decide) (by decide), k.g (g := 55) (by decide), k.g (g := 54) (by decide), k.g (g := 56) (by decide), k.g (g := 58) (by decide), k.g (g := 59) (by decide)]
  exact h
theorem LVs.g {σ s τ t : mS} {W H mp : Nat} (h : CX σ s) (k : TG τ t) (I : LVs σ τ W H mp) : LVs s t W H mp := by
  obtain ⟨h1, h2, h3⟩ := I
  refine ⟨?_, ?_, fun m hm => ?_⟩
  · rw [h.g (g := 7) 0 (by decide)]; exact h1
  · rw [h.g (g := 7) 0 (by decide), k.1 18 (by decide) (by decide) (by decide)]; exact h2
  · rw [h.g (g := 10) m (by decide), h.g (g := 11) m (by decide), h.g (g := 12) m (by decide), kdM_tg k, k.g (g := 54) (by decide), k.g (g := 69) (by decide)]
    exact h3 m hm
theorem LWs.g {σ s τ t : mS} {ln : Nat} (h : CX σ s) (k : TG τ t) (I : LWs σ τ ln) : LWs s t ln := by
  unfold LWs at I ⊢
  rw [h.g (g := 22) 0 (by decide), h.g (g := 23) 0 (by decide), h.g (g := 24) 0 (by decide), h.g (g := 25) 0 (by decide), h.g (g := 26) 0 (by decide), k.g (g := 64) (by decide), k.g (g := 65) (by decide), k.g (g := 66) (by decide), k.g (g := 67) (by decide)]
  exact I
theorem DDs.g {σ s τ t : mS} {W H dn : Nat} (h : CX σ s) (k : TG τ t) (I : DDs σ τ W H dn) : DDs s t W H dn := by
  unfold DDs DD1 at I ⊢
  rw [h.g (g := 13) 0 (by decide), h.g (g := 14) 0 (by decide), h.g (g := 15) 0 (by decide), h.g (g := 16) 0 (by decide), h.g (g := 17) 0 (by decide), h.g (g := 18) 0 (by decide), h.g (g := 19) 0 (by decide), h.g (g := 20) 0 (by decide), h.g (g := 21) 0 (by decide), k.g (g := 58) (by decide), k.g (g := 59) (by decide), k.g (g := 60) (by decide), k.g (g := 61) (by decide), k.g (g := 62) (by decide)]
  exact I
theorem ST.g {σ s τ t : mS} {W H mp dn ln : Nat} (h : CX σ s) (k : TG τ t) (I : ST σ τ W H mp dn ln) : ST s t W H mp dn ln :=
  ⟨I.1.fr (h.g (g := 1) 0 (by decide)) (h.g (g := 2) 0 (by decide)) (h.g (g := 3) 0 (by decide)), I.2.1.g h k, I.2.2.1.g h k, I.2.2.2.1.g h k, I.2.2.2.2.tg k⟩
theorem FO.g {σ s τ t : mS} {W N : Nat} (h : CX σ s) (k : TG τ t) (I : FO σ τ W N) : FO s t W N := by
  unfold FO at I ⊢
  rw [h.g (g := 28) 0 (by decide), k.g (g := 56) (by decide)]
  exact I
/-- the rows of both -/
def RW (σ τ : mS) (rw : Nat) : Prop := rw ≤ 80 ∧ σ 0 0 7 = nI rw ∧ τ 40 0 26 = nI rw ∧ ∀ j, j < rw → σ 31 0 j = τ 77 0 j
/-- what holds between the class and the reference at every call -/
def RX (σ τ : mS) (W H mp dn ln rw : Nat) : Prop := ST σ τ W H mp dn ln ∧ FO σ τ W (W * H) ∧ tl0 τ ∧ (mp < 10 → ∀ k, k < W * H → σ 9 0 k = τ 55 0 (144 * mp + emb W k)) ∧ (∀ m, mp ≤ m → m < 10 → τ 69 0 m = -1) ∧ RW σ τ rw
theorem RX.g {σ s τ t : mS} {W H mp dn ln rw rw' : Nat} (h : CX σ s) (k : TG τ t) (ht : tl0 t) (hr : RW s t rw') (I : RX σ τ W H mp dn ln rw) : RX s t W H mp dn ln rw' := by
  obtain ⟨h1, h2, -, h4, h5, -⟩ := I
  refine ⟨h1.g h k, h2.g h k, ht, ?_, ?_, hr⟩
  · rw [h.g (g := 9) 0 (by decide), k.g (g := 55) (by decide)]; exact h4
  · rw [k.g (g := 69) (by decide)]; exact h5
theorem RW.q {σ s τ t : mS} {rw : Nat} (h : QX σ s) (k : QM τ t) (I : RW σ τ rw) : RW s t rw := by
  obtain ⟨h1, h2, h3, h4⟩ := I
  refine ⟨h1, ?_, ?_, ?_⟩
  · rw [h 0 0 (by decide) (by decide) (by decide) (by decide) (by decide) (by decide)]; exact h2
  · rw [k.1 26 (by decide) (by decide)]; exact h3
  · rw [h 31 0 (by decide) (by decide) (by decide) (by decide) (by decide) (by decide), k.g (g := 77) (by decide)]; exact h4
theorem RX.q {σ s τ t : mS} {W H mp dn ln rw : Nat} (h : QX σ s) (k : QM τ t) (I : RX σ τ W H mp dn ln rw) : RX s t W H mp dn ln rw := I.g h.c k.tg k.2.2 (I.2.2.2.2.2.q h k)
theorem th_q {τ : mS} (h : tl0 τ) : QM τ (th0 τ) := QM.keepT KeepT.th h
def RXe (σ τ : mS) : Prop := ∃ W H mp dn ln rw, RX σ τ W H mp dn ln rw
/-- both calls answer alike, and what holds between them holds on -/
def Pair (kx : Nat) (ax : List mV) (km : Nat) (am : List mV) (σ τ : mS) : Prop := ∃ (v : Int32) (PX PM : mS → Prop), Ev kx (xX :: ax) σ (fun r s => r = some (mI v) ∧ PX s) ∧ Ev km (mM :: am) τ (fun r t => r = some (mI v) ∧ PM t) ∧ ∀ s t, PX s → PM t → RXe s t
theorem pair_q {kx km : Nat} {ax am : List mV} {σ τ : mS} {W H mp dn ln rw : Nat} (hR : RX σ τ W H mp dn ln rw) (v : Int32) (h1 : Ev kx (xX :: ax) σ (fun r s => r = some (mI v) ∧ QX σ s)) (h2 : Ev km (mM :: am) τ (fun r t => r = some (mI v) ∧ QM τ t)) : Pair kx ax km am σ τ :=
  ⟨v, QX σ, QM τ, h1, h2, fun _ _ a b => ⟨W, H, mp, dn, ln, rw, hR.q a b⟩⟩
theorem ask_q {τ t : mS} (h : askQ τ t) : QM τ t := QM.ask h
