/-! THE SMALL MACHINE: what follows of its words alone -/
theorem k1_mono {st : List mV} {K K' : Int32 → List mV → Prop} (h : ∀ x r, K x r → K' x r) : k1 st K → k1 st K' := by
  unfold k1
  split
  · exact h _ _
  · exact id
theorem k2_mono {st : List mV} {K K' : Int32 → Int32 → List mV → Prop} (h : ∀ x y r, K x y r → K' x y r) : k2 st K → k2 st K' := by
  unfold k2
  split
  · exact h _ _ _
  · exact id
theorem bif_mono {b : Bool} {A A' B B' : Prop} (ha : A → A') (hb : B → B') : (bif b then A else B) → (bif b then A' else B') := by
  cases b
  · exact hb
  · exact ha
theorem kA_mono {st : List mV} {b : Bool} {K K' : Nat → Nat → Nat → Int32 → List mV → Prop} (h : ∀ g i n j r, K g i n j r → K' g i n j r) : kA st b K → kA st b K' := by
  unfold kA
  split
  · split
    · exact bif_mono id (h _ _ _ _ _)
    · exact id
  · exact id
theorem kS_mono {st : List mV} {b : Bool} {K K' : Nat → Nat → Nat → Int32 → Int32 → List mV → Prop} (h : ∀ g i n j v r, K g i n j v r → K' g i n j v r) : kS st b K → kS st b K' := by
  unfold kS
  split
  · exact kA_mono (fun _ _ _ _ _ => h _ _ _ _ _ _)
  · exact id
theorem kO_mono {st : List mV} {K K' : Nat → Nat → Nat → List (Option Nat) → List mV → Prop} (h : ∀ g i c fs r, K g i c fs r → K' g i c fs r) : kO st K → kO st K' := by
  unfold kO
  split
  · split
    · exact h _ _ _ _ _
    · exact id
  · exact id
theorem kop_mono {α : Type} {o : Option α} {K K' : α → Prop} (h : ∀ v, K v → K' v) : kop o K → kop o K' := by
  unfold kop
  split
  · exact h _
  · exact id
theorem kiv_mono {v : mV} {K K' : Int32 → Prop} (h : ∀ v, K v → K' v) : kiv v K → kiv v K' := by
  unfold kiv
  split
  · exact h _
  · exact id
theorem kjv_mono {v : mV} {K K' : Int64 → Prop} (h : ∀ v, K v → K' v) : kjv v K → kjv v K' := by
  unfold kjv
  split
  · exact h _
  · exact id
theorem krv_mono {v : mV} {K K' : Nat × Nat → Prop} (h : ∀ v, K v → K' v) : krv v K → krv v K' := by
  unfold krv
  split
  · exact h _
  · exact id
theorem kR_mono {st : List mV} {K K' : Nat × Nat → List mV → Prop} (h : ∀ x r, K x r → K' x r) : kR st K → kR st K' := by
  unfold kR
  split
  · exact h _ _
  · exact id
theorem kJJ_mono {st : List mV} {K K' : Int64 → Int64 → List mV → Prop} (h : ∀ x y r, K x y r → K' x y r) : kJJ st K → kJJ st K' := by
  unfold kJJ
  split
  · exact h _ _ _
  · exact id
theorem kr1_mono {st : List mV} {K K' : Int32 → Prop} (h : ∀ x, K x → K' x) : kr1 st K → kr1 st K' := by
  unfold kr1
  split
  · exact h _
  · exact id
theorem kr2_mono {st : List mV} {K K' : Nat × Nat → Prop} (h : ∀ x, K x → K' x) : kr2 st K → kr2 st K' := by
  unfold kr2
  split
  · exact h _
  · exact id
theorem kr0_mono {st : List mV} {K K' : Prop} (h : K → K') : kr0 st K → kr0 st K' := by
  unfold kr0
  split
  · exact h
  · exact id
theorem kdp_mono {st : List mV} {K K' : mV → List mV → Prop} (h : ∀ x r, K x r → K' x r) : kdp st K → kdp st K' := by
  unfold kdp
  split
  · exact h _ _
  · exact h _ _
  · exact id
theorem kQ_mono {st : List mV} {K K' : Nat → Nat → Int32 → List mV → Prop} (h : ∀ g n j r, K g n j r → K' g n j r) : kQ st K → kQ st K' := by
  unfold kQ
  split
  · split
    · exact h _ _ _ _
    · exact id
  · exact id
theorem kN_mono {st : List mV} {K K' : Nat → List mV → Prop} (h : ∀ n r, K n r → K' n r) : kN st K → kN st K' := by
  unfold kN
  split
  · split
    · exact h _ _
    · exact id
  · exact id
theorem kfs_mono {fs : List (Option Nat)} {f : Nat} {K K1 : Prop} {K' K1' : Nat → Prop} (h : K → K1) (h' : ∀ g, K' g → K1' g) : kfs fs f K K' → kfs fs f K1 K1' := by
  unfold kfs
  split
  · exact h
  · exact h' _
  · exact id
theorem kcp_mono {st : List mV} {K K' : Nat → Nat → Nat → Nat → Nat → Nat → Int32 → Int32 → Int32 → Prop} (h : ∀ a b c d e f g i j, K a b c d e f g i j → K' a b c d e f g i j) : kcp st K → kcp st K' := by
  unfold kcp
  split
  · split
    · exact h _ _ _ _ _ _ _ _ _
    · exact id
  · exact id
theorem kld_mono {L : mL} {i : Nat} {K K' : mV → Prop} (h : ∀ v, K v → K' v) : kld L i K → kld L i K' := by
  unfold kld
  split
  · exact h _
  · exact id
theorem kgo_mono {pc : Nat} {off : Int} {K K' : Nat → Prop} (h : ∀ t, K t → K' t) : kgo pc off K → kgo pc off K' := fun q => ⟨h _ q.1, q.2⟩
theorem ksw_mono {pc : Nat} {d lo hi : Int} {offs : Array Int} {x : Int32} {K K' : Nat → Prop} (h : ∀ t, K t → K' t) : ksw pc d lo hi offs x K → ksw pc d lo hi offs x K' :=
  fun q => ⟨fun a => kgo_mono h (q.1 a), fun n off a b => kgo_mono h (q.2 n off a b)⟩
theorem br_mono {c A A' B B' : Prop} (ha : A → A') (hb : B → B') : (c → A) ∧ (¬ c → B) → (c → A') ∧ (¬ c → B') := fun h => ⟨fun q => ha (h.1 q), fun q => hb (h.2 q)⟩
theorem br_mono' {c A A' B B' : Prop} (ha : A → A') (hb : B → B') : (¬ c → A) ∧ (c → B) → (¬ c → A') ∧ (c → B') := fun h => ⟨fun q => ha (h.1 q), fun q => hb (h.2 q)⟩
theorem ktk_mono {K K' : List mV → List mV → Prop} (h : ∀ a r, K a r → K' a r) : ∀ (n : Nat) (st a : List mV), ktk n st a K → ktk n st a K'
  | 0, _, _ => h _ _
  | n + 1, v :: r, a => ktk_mono h n r (v :: a)
  | n + 1, [], _ => id
theorem kcl_mono {E E' : mE} {stat : Bool} {j n : Nat} {K K' : mK} {pc : Nat} {L : mL} {st : List mV} {σ : mS} (hE : ∀ j a σ p, E j a σ p → E' j a σ p) (hK : ∀ pc L st σ, K pc L st σ → K' pc L st σ) : kcl E stat j n K pc L st σ → kcl E' stat j n K' pc L st σ := by
  unfold kcl
  refine bif_mono (kcp_mono (fun _ _ _ _ _ _ _ _ _ q => ⟨q.1, hK _ _ _ _ q.2⟩)) (bif_mono (k1_mono (fun _ _ => bif_mono (hK _ _ _ _) id)) (bif_mono (k2_mono (fun _ _ _ => bif_mono (hK _ _ _ _) id)) (bif_mono (k2_mono (fun _ _ _ => bif_mono (hK _ _ _ _) id)) ?_)))
  refine ktk_mono (fun a r => bif_mono ?_ id) n st []
  rintro ⟨p, h3, h4⟩
  exact ⟨p, hE _ _ _ _ h3, fun r σ' q => hK _ _ _ _ (h4 r σ' q)⟩
theorem kcall_mono {E E' : mE} {k : Nat} {stat : Bool} {idx : Nat} {K K' : mK} {pc : Nat} {L : mL} {st : List mV} {σ : mS} (hE : ∀ j a σ p, E j a σ p → E' j a σ p) (hK : ∀ pc L st σ, K pc L st σ → K' pc L st σ) : kcall E k stat idx K pc L st σ → kcall E' k stat idx K' pc L st σ :=
  kop_mono (fun _ => bif_mono id (kcl_mono hE hK))
set_option maxHeartbeats 2000000 in
theorem wpi_mono {E E' : mE} {k : Nat} {post post' : Option mV → mS → Prop} {K K' : mK} (hE : ∀ j a σ p, E j a σ p → E' j a σ p) (hp : ∀ r σ, post r σ → post' r σ) (hK : ∀ pc L st σ, K pc L st σ → K' pc L st σ) (pc len tgt : Nat) (cv : Int32) (L : mL) (st : List mV) (σ : mS) (i : Instr) :
    wpi E k post K pc len tgt cv L st σ i → wpi E' k post' K' pc len tgt cv L st σ i := by
  cases i with
  | ifCond c off => cases c <;> exact k1_mono (fun _ _ => by first | exact br_mono (hK _ _ _ _) (hK _ _ _ _) | exact br_mono' (hK _ _ _ _) (hK _ _ _ _))
  | if_icmp c off => cases c <;> exact k2_mono (fun _ _ _ => by first | exact br_mono (hK _ _ _ _) (hK _ _ _ _) | exact br_mono' (hK _ _ _ _) (hK _ _ _ _))
  | goto off => exact hK _ _ _ _
  | tableswitch d lo hi offs => exact k1_mono (fun _ _ => ksw_mono (fun _ => hK _ _ _ _))
  | invokevirtual idx => exact kcall_mono hE hK
  | invokestatic idx => exact kcall_mono hE hK
  | ireturn => exact kr1_mono (fun _ => hp _ _)
  | areturn => exact kr2_mono (fun _ => hp _ _)
  | return_ => exact kr0_mono (hp _ _)
  | new idx => exact kr0_mono (hp _ _)
  | ldc2_w idx => exact kop_mono (fun _ => hK _ _ _ _)
  | iload_n i => exact kld_mono (fun v => kiv_mono (fun _ => hK _ _ _ _))
  | iload i => exact kld_mono (fun v => kiv_mono (fun _ => hK _ _ _ _))
  | lload_n i => exact kld_mono (fun v => kjv_mono (fun _ => hK _ _ _ _))
  | lload i => exact kld_mono (fun v => kjv_mono (fun _ => hK _ _ _ _))
  | aload_n i => exact kld_mono (fun v => krv_mono (fun _ => hK _ _ _ _))
  | aload i => exact kld_mono (fun v => krv_mono (fun _ => hK _ _ _ _))
  | istore_n i => exact k1_mono (fun _ _ => hK _ _ _ _)
  | istore i => exact k1_mono (fun _ _ => hK _ _ _ _)
  | astore_n i => exact kR_mono (fun _ _ => hK _ _ _ _)
  | iinc i n => exact kld_mono (fun v => kiv_mono (fun _ => hK _ _ _ _))
  | getfield idx => exact kop_mono (fun _ => kO_mono (fun g i c fs r => bif_mono (kfs_mono (hK _ _ _ _) (fun _ => hK _ _ _ _)) id))
  | putfield idx => exact kop_mono (fun _ => k1_mono (fun _ _ => kO_mono (fun g i c fs r => bif_mono (kfs_mono (hK _ _ _ _) (fun _ => id)) id)))
  | iaload => exact kA_mono (fun _ _ _ _ _ h => ⟨h.1, hK _ _ _ _ h.2⟩)
  | baload => exact kA_mono (fun _ _ _ _ _ h => ⟨h.1, hK _ _ _ _ h.2⟩)
  | iastore => exact kS_mono (fun _ _ _ _ _ _ h => ⟨h.1, hK _ _ _ _ h.2⟩)
  | bastore => exact kS_mono (fun _ _ _ _ _ _ h => ⟨h.1, hK _ _ _ _ h.2⟩)
  | aaload => exact kQ_mono (fun _ _ _ _ h => ⟨h.1, hK _ _ _ _ h.2⟩)
  | arraylength => exact kN_mono (fun _ _ => hK _ _ _ _)
  | idiv => exact k2_mono (fun _ _ _ h => ⟨h.1, hK _ _ _ _ h.2⟩)
  | irem => exact k2_mono (fun _ _ _ h => ⟨h.1, hK _ _ _ _ h.2⟩)
  | lcmp => exact kJJ_mono (fun _ _ _ => hK _ _ _ _)
  | dup => exact kdp_mono (K := fun v r => K (pc + len) L (v :: v :: r) σ) (K' := fun v r => K' (pc + len) L (v :: v :: r) σ) (fun _ _ => hK _ _ _ _)
  | _ => first | exact hK _ _ _ _ | exact k1_mono (fun _ _ => hK _ _ _ _) | exact k2_mono (fun _ _ _ => hK _ _ _ _) | exact id
theorem mstep_mono {E E' : mE} {k : Nat} {post post' : Option mV → mS → Prop} {K K' : mK} (hE : ∀ j a σ p, E j a σ p → E' j a σ p) (hp : ∀ r σ, post r σ → post' r σ) (hK : ∀ pc L st σ, K pc L st σ → K' pc L st σ) (pc : Nat) (L : mL) (st : List mV) (σ : mS) :
    mstep E k post K pc L st σ → mstep E' k post' K' pc L st σ := by
  unfold mstep
  split
  · exact wpi_mono hE hp hK _ _ _ _ _ _ _ _
  · exact id
theorem mgo_G {E : mE} {k : Nat} {post : Option mV → mS → Prop} {G : mK} (hG : mCl E k post G) : ∀ (n : Nat) (pc : Nat) (L : mL) (st : List mV) (σ : mS), mgo E k post G n pc L st σ → G pc L st σ
  | 0, _, _, _, _, h => h
  | n + 1, pc, L, st, σ, h => by
    unfold mgo at h
    cases hc : cod k pc with
    | none => rw [hc] at h; exact h.elim
    | some x =>
      obtain ⟨i, len, tgt, cv, hd⟩ := x
      rw [hc] at h
      cases hd with
      | true => exact h
      | false =>
        refine hG pc L st σ ?_
        unfold mstep
        rw [hc]
        exact wpi_mono (fun _ _ _ _ q => q) (fun _ _ q => q) (mgo_G hG n) _ _ _ _ _ _ _ _ h
/-- on from here to the next beginning of a loop, a call, a branch, the end -/
theorem mCl.run {E : mE} {k : Nat} {post : Option mV → mS → Prop} {G : mK} (hG : mCl E k post G) {pc : Nat} {L : mL} {st : List mV} {σ : mS} (h : mstep E k post (mgo E k post G 400) pc L st σ) : G pc L st σ :=
  hG _ _ _ _ (mstep_mono (fun _ _ _ _ q => q) (fun _ _ q => q) (mgo_G hG 400) _ _ _ _ h)
theorem Ev.intro {k : Nat} {a : List mV} {σ : mS} {post : Option mV → mS → Prop} (h : ∀ G, mCl Ev k post G → G 0 (mini (mml k) a) [] σ) : Ev k a σ post := by
  intro E hE
  refine hE k a σ post fun G hG => h G fun pc L st σ hs => hG pc L st σ ?_
  exact mstep_mono (fun j a σ p hv => hv E hE) (fun _ _ q => q) (fun _ _ _ _ q => q) _ _ _ _ hs
theorem Ev.mono {k : Nat} {a : List mV} {σ : mS} {post post' : Option mV → mS → Prop} (h : Ev k a σ post) (hp : ∀ r σ, post r σ → post' r σ) : Ev k a σ post' := by
  intro E hE
  refine h (fun k a σ p => ∀ p', (∀ r σ, p r σ → p' r σ) → E k a σ p') ?_ post' hp
  intro k a σ p hc p' hpp
  refine hE k a σ p' fun G hG => hc G fun pc L st σ hs => hG pc L st σ ?_
  exact mstep_mono (fun j a σ q hv => hv q (fun _ _ z => z)) hpp (fun _ _ _ _ q => q) _ _ _ _ hs
