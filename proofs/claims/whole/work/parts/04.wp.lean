theorem zC_mono {c : Bool} {P Q : Prop} (h : P → Q) : zC c P → zC c Q := by
  cases c
  · exact id
  · exact h
theorem zCond_mono {c : Bool} {X Y X2 Y2 : Prop} (h : X → X2) (g : Y → Y2) : (cond c X Y) → (cond c X2 Y2) := by
  cases c
  · exact g
  · exact h
theorem zS1_mono {st : List Vl} {k k2 : Int → List Vl → Prop} (h : ∀ x0 x1, k x0 x1 → k2 x0 x1) : zS1 st k → zS1 st k2 := by
  unfold zS1
  split <;> first | exact h _ _ | exact id
theorem zS2_mono {st : List Vl} {k k2 : Int → Int → List Vl → Prop} (h : ∀ x0 x1 x2, k x0 x1 x2 → k2 x0 x1 x2) : zS2 st k → zS2 st k2 := by
  unfold zS2
  split <;> first | exact h _ _ _ | exact id
theorem zL1_mono {st : List Vl} {k k2 : Int → List Vl → Prop} (h : ∀ x0 x1, k x0 x1 → k2 x0 x1) : zL1 st k → zL1 st k2 := by
  unfold zL1
  split <;> first | exact h _ _ | exact id
theorem zL2_mono {st : List Vl} {k k2 : Int → Int → List Vl → Prop} (h : ∀ x0 x1 x2, k x0 x1 x2 → k2 x0 x1 x2) : zL2 st k → zL2 st k2 := by
  unfold zL2
  split <;> first | exact h _ _ _ | exact id
theorem zLI_mono {st : List Vl} {k k2 : Int → Int → List Vl → Prop} (h : ∀ x0 x1 x2, k x0 x1 x2 → k2 x0 x1 x2) : zLI st k → zLI st k2 := by
  unfold zLI
  split <;> first | exact h _ _ _ | exact id
theorem zR1_mono {st : List Vl} {k k2 : Nat → List Vl → Prop} (h : ∀ x0 x1, k x0 x1 → k2 x0 x1) : zR1 st k → zR1 st k2 := by
  unfold zR1
  split <;> first | exact h _ _ | exact id
theorem zRI_mono {st : List Vl} {k k2 : Nat → Int → List Vl → Prop} (h : ∀ x0 x1 x2, k x0 x1 x2 → k2 x0 x1 x2) : zRI st k → zRI st k2 := by
  unfold zRI
  split <;> first | exact h _ _ _ | exact id
theorem zRJ_mono {st : List Vl} {k k2 : Nat → Int → List Vl → Prop} (h : ∀ x0 x1 x2, k x0 x1 x2 → k2 x0 x1 x2) : zRJ st k → zRJ st k2 := by
  unfold zRJ
  split <;> first | exact h _ _ _ | exact id
theorem zRII_mono {st : List Vl} {k k2 : Nat → Int → Int → List Vl → Prop} (h : ∀ x0 x1 x2 x3, k x0 x1 x2 x3 → k2 x0 x1 x2 x3) : zRII st k → zRII st k2 := by
  unfold zRII
  split <;> first | exact h _ _ _ _ | exact id
theorem zRIL_mono {st : List Vl} {k k2 : Nat → Int → Int → List Vl → Prop} (h : ∀ x0 x1 x2 x3, k x0 x1 x2 x3 → k2 x0 x1 x2 x3) : zRIL st k → zRIL st k2 := by
  unfold zRIL
  split <;> first | exact h _ _ _ _ | exact id
theorem zRIR_mono {st : List Vl} {k k2 : Nat → Int → Nat → List Vl → Prop} (h : ∀ x0 x1 x2 x3, k x0 x1 x2 x3 → k2 x0 x1 x2 x3) : zRIR st k → zRIR st k2 := by
  unfold zRIR
  split <;> first | exact h _ _ _ _ | exact id
theorem zIIRIR_mono {st : List Vl} {k k2 : Nat → Int → Nat → Int → Int → List Vl → Prop} (h : ∀ x0 x1 x2 x3 x4 x5, k x0 x1 x2 x3 x4 x5 → k2 x0 x1 x2 x3 x4 x5) : zIIRIR st k → zIIRIR st k2 := by
  unfold zIIRIR
  split <;> first | exact h _ _ _ _ _ _ | exact id
theorem zDup_mono {st : List Vl} {k k2 : List Vl → Prop} (h : ∀ x0, k x0 → k2 x0) : zDup st k → zDup st k2 := by
  unfold zDup
  split <;> first | exact h _ | exact id
theorem zDup2_mono {st : List Vl} {k k2 : List Vl → Prop} (h : ∀ x0, k x0 → k2 x0) : zDup2 st k → zDup2 st k2 := by
  unfold zDup2
  split <;> first | exact h _ | exact id
theorem zPop1_mono {st : List Vl} {k k2 : List Vl → Prop} (h : ∀ x0, k x0 → k2 x0) : zPop1 st k → zPop1 st k2 := by
  unfold zPop1
  split <;> first | exact h _ | exact id
theorem zLdI_mono {L : Lc} {i : Nat} {k k2 : Int → Prop} (h : ∀ x, k x → k2 x) : zLdI L i k → zLdI L i k2 := by
  unfold zLdI
  split <;> first | exact h _ | exact id
theorem zLdL_mono {L : Lc} {i : Nat} {k k2 : Int → Prop} (h : ∀ x, k x → k2 x) : zLdL L i k → zLdL L i k2 := by
  unfold zLdL
  split <;> first | exact h _ | exact id
theorem zLdR_mono {L : Lc} {i : Nat} {k k2 : Nat → Prop} (h : ∀ x, k x → k2 x) : zLdR L i k → zLdR L i k2 := by
  unfold zLdR
  split <;> first | exact h _ | exact id
theorem zPops_mono {k k2 : List Vl → List Vl → Prop} (h : ∀ x y, k x y → k2 x y) : ∀ (n : Nat) (acc st : List Vl), zPops n acc st k → zPops n acc st k2
  | 0, _, _, q => h _ _ q
  | _ + 1, _, [], q => q
  | n + 1, acc, v :: st, q => zPops_mono h n (v :: acc) st q
theorem zTsw_mono {pc : Nat} {J J2 : Nat → Prop} {x : Int} (h : ∀ q, J q → J2 q) : ∀ (os : List Int) (lo : Int), zTsw pc J x lo os → zTsw pc J2 x lo os
  | [], _, q => q
  | _ :: os, _, ⟨q1, q2⟩ => ⟨fun e => h _ (q1 e), zTsw_mono h os _ q2⟩
abbrev zMono (Γ : Gm) : Prop := ∀ (μ : Nat) (as : List Vl) (M : Mm) (K K2 : Kt), (∀ z M, K z M → K2 z M) → Γ μ as M K → Γ μ as M K2
theorem zEx_mono {Γ : Gm} {K K2 : Kt} {F F2 : Lc → List Vl → Mm → Prop} {J J2 : Nat → Lc → List Vl → Mm → Prop} {pc : Nat} {i : Instr} {a b : Nat} {v : Int} {w : Nat} {L : Lc} {st : List Vl} {M : Mm} (hG : zMono Γ) (hK : ∀ z M, K z M → K2 z M) (hF : ∀ L st M, F L st M → F2 L st M) (hJ : ∀ q L st M, J q L st M → J2 q L st M) : zEx Γ K F J pc i a b v w L st M → zEx Γ K2 F2 J2 pc i a b v w L st M := by
  cases i
  case iconst => exact hF _ _ _
  case bipush => exact hF _ _ _
  case sipush => exact hF _ _ _
  case ldc => exact hF _ _ _
  case ldc_w => exact hF _ _ _
  case ldc2_w => exact hF _ _ _
  case lconst => exact hF _ _ _
  case getstatic => exact hF _ _ _
  case iload => exact zLdI_mono fun _ => hF _ _ _
  case iload_n => exact zLdI_mono fun _ => hF _ _ _
  case iinc => exact zLdI_mono fun _ => hF _ _ _
  case lload => exact zLdL_mono fun _ => hF _ _ _
  case lload_n => exact zLdL_mono fun _ => hF _ _ _
  case aload => exact zLdR_mono fun _ => hF _ _ _
  case aload_n => exact zLdR_mono fun _ => hF _ _ _
  case istore => exact zS1_mono fun _ _ => hF _ _ _
  case istore_n => exact zS1_mono fun _ _ => hF _ _ _
  case i2b => exact zS1_mono fun _ _ => hF _ _ _
  case lstore => exact zL1_mono fun _ _ => hF _ _ _
  case lstore_n => exact zL1_mono fun _ _ => hF _ _ _
  case l2i => exact zL1_mono fun _ _ => hF _ _ _
  case astore => exact zR1_mono fun _ _ => hF _ _ _
  case astore_n => exact zR1_mono fun _ _ => hF _ _ _
  case iadd => exact zS2_mono fun _ _ _ => hF _ _ _
  case isub => exact zS2_mono fun _ _ _ => hF _ _ _
  case imul => exact zS2_mono fun _ _ _ => hF _ _ _
  case iand => exact zS2_mono fun _ _ _ => hF _ _ _
  case ior => exact zS2_mono fun _ _ _ => hF _ _ _
  case ixor => exact zS2_mono fun _ _ _ => hF _ _ _
  case ladd => exact zL2_mono fun _ _ _ => hF _ _ _
  case lsub => exact zL2_mono fun _ _ _ => hF _ _ _
  case lmul => exact zL2_mono fun _ _ _ => hF _ _ _
  case land => exact zL2_mono fun _ _ _ => hF _ _ _
  case lor => exact zL2_mono fun _ _ _ => hF _ _ _
  case lxor => exact zL2_mono fun _ _ _ => hF _ _ _
  case idiv => exact zS2_mono fun _ _ _ => zC_mono (zC_mono (zC_mono (hF _ _ _)))
  case irem => exact zS2_mono fun _ _ _ => zC_mono (zC_mono (zC_mono (hF _ _ _)))
  case ldiv => exact zL2_mono fun _ _ _ => zC_mono (zC_mono (zC_mono (hF _ _ _)))
  case lrem => exact zL2_mono fun _ _ _ => zC_mono (zC_mono (zC_mono (hF _ _ _)))
  case ishl => exact zS2_mono fun _ _ _ => zC_mono (hF _ _ _)
  case ishr => exact zS2_mono fun _ _ _ => zC_mono (zC_mono (hF _ _ _))
  case lshl => exact zLI_mono fun _ _ _ => zC_mono (hF _ _ _)
  case lshr => exact zLI_mono fun _ _ _ => zC_mono (zC_mono (hF _ _ _))
  case lushr => exact zLI_mono fun _ _ _ => hF _ _ _
  case i2l => exact zS1_mono fun _ _ => zC_mono (hF _ _ _)
  case lcmp => exact zL2_mono fun _ _ _ => zC_mono (zC_mono (hF _ _ _))
  case dup => exact zDup_mono (st := st) (k := fun r => F L r M) (k2 := fun r => F2 L r M) fun r => hF L r M
  case dup2 => exact zDup2_mono (st := st) (k := fun r => F L r M) (k2 := fun r => F2 L r M) fun r => hF L r M
  case pop => exact zPop1_mono fun _ => hF _ _ _
  case goto => exact hJ _ _ _ _
  case ifCond => exact zS1_mono fun _ _ => zC_mono ((fun q => ⟨fun e => hJ _ _ _ _ (q.1 e), fun e => hF _ _ _ (q.2 e)⟩))
  case if_icmp => exact zS2_mono fun _ _ _ => zC_mono (zC_mono ((fun q => ⟨fun e => hJ _ _ _ _ (q.1 e), fun e => hF _ _ _ (q.2 e)⟩)))
  case tableswitch => exact zS1_mono fun _ _ => zC_mono ((fun q => ⟨zTsw_mono (fun _ => hJ _ _ _ _) _ _ q.1, fun e => hJ _ _ _ _ (q.2 e)⟩))
  case getfield => exact zR1_mono fun _ _ => zC_mono (hF _ _ _)
  case putfield => exact zCond_mono (zRI_mono fun _ _ _ => zC_mono (hF _ _ _)) (zRJ_mono fun _ _ _ => zC_mono (hF _ _ _))
  case iaload => exact zCond_mono (zRI_mono fun _ _ _ => zC_mono (zC_mono (hF _ _ _))) (zRI_mono fun _ _ _ => zC_mono (zC_mono (hF _ _ _)))
  case baload => exact zRI_mono fun _ _ _ => zC_mono (zC_mono (hF _ _ _))
  case laload => exact zRI_mono fun _ _ _ => zC_mono (zC_mono (hF _ _ _))
  case aaload => exact zRI_mono fun _ _ _ => zC_mono (zC_mono (hF _ _ _))
  case iastore => exact zRII_mono fun _ _ _ _ => zC_mono (zC_mono (hF _ _ _))
  case lastore => exact zRIL_mono fun _ _ _ _ => zC_mono (zC_mono (hF _ _ _))
  case aastore => exact zRIR_mono fun _ _ _ _ => zC_mono (zC_mono (zC_mono (hF _ _ _)))
  case bastore => exact zCond_mono (zRII_mono fun _ _ _ _ => zC_mono (zC_mono (zC_mono (hF _ _ _)))) (zRII_mono fun _ _ _ _ => zC_mono (zC_mono (zC_mono (hF _ _ _))))
  case arraylength => exact zCond_mono (zR1_mono fun _ _ => zC_mono (hF _ _ _)) (zR1_mono fun _ _ => zC_mono (hF _ _ _))
  case invokevirtual => exact zPops_mono (fun _ _ => zC_mono (zC_mono ((hG _ _ _ _ _ fun _ _ => hF _ _ _)))) _ _ _
  case invokestatic => exact zCond_mono (zPops_mono (fun _ _ => zC_mono ((hG _ _ _ _ _ fun _ _ => hF _ _ _))) _ _ _) (zCond_mono (zS2_mono fun _ _ _ => zC_mono (zC_mono (zC_mono (hF _ _ _)))) (zCond_mono (zS2_mono fun _ _ _ => zC_mono (zC_mono (zC_mono (hF _ _ _)))) (zIIRIR_mono fun _ _ _ _ _ _ => zC_mono (zC_mono (zC_mono (zC_mono (zC_mono (hF _ _ _))))))))
  case ireturn => exact zS1_mono fun _ _ => zC_mono (zCond_mono (zC_mono (hK _ _)) (hK _ _))
  case lreturn => exact zL1_mono fun _ _ => zC_mono (hK _ _)
  case return_ => exact zC_mono (hK _ _)
  all_goals exact id
theorem zStp_mono {Γ : Gm} {μ : Nat} {K K2 : Kt} {P P2 : Pm} {pc : Nat} {L : Lc} {st : List Vl} {M : Mm} (hG : zMono Γ) (hK : ∀ z M, K z M → K2 z M) (hP : ∀ q L st M, P q L st M → P2 q L st M) : zStp Γ μ K P pc L st M → zStp Γ μ K2 P2 pc L st M := by
  unfold zStp
  split
  · exact zEx_mono hG hK (fun _ _ _ => hP _ _ _ _) hP
  · exact id
theorem zWp_intro {Γ : Gm} {μ : Nat} {K : Kt} {pc : Nat} {L : Lc} {st : List Vl} {M : Mm} (hG : zMono Γ) (h : zStp Γ μ K (zWp Γ μ K) pc L st M) : zWp Γ μ K pc L st M :=
  fun P hP => hP _ _ _ _ (zStp_mono hG (fun _ _ q => q) (fun _ _ _ _ q => q P hP) h)
theorem zWp_elim {Γ : Gm} {μ : Nat} {K : Kt} {pc : Nat} {L : Lc} {st : List Vl} {M : Mm} (hG : zMono Γ) (h : zWp Γ μ K pc L st M) : zStp Γ μ K (zWp Γ μ K) pc L st M :=
  h (fun pc L st M => zStp Γ μ K (zWp Γ μ K) pc L st M) (fun _ _ _ _ q => zStp_mono hG (fun _ _ q => q) (fun _ _ _ _ q => zWp_intro hG q) q)
theorem zWp_eq {Γ : Gm} {μ : Nat} {K : Kt} {pc : Nat} {L : Lc} {st : List Vl} {M : Mm} (hG : zMono Γ) : zWp Γ μ K pc L st M = zStp Γ μ K (zWp Γ μ K) pc L st M := propext ⟨zWp_elim hG, zWp_intro hG⟩
theorem zWp_mono {Γ : Gm} {μ : Nat} {K K2 : Kt} {pc : Nat} {L : Lc} {st : List Vl} {M : Mm} (hG : zMono Γ) (hK : ∀ z M, K z M → K2 z M) (h : zWp Γ μ K pc L st M) : zWp Γ μ K2 pc L st M :=
  h (zWp Γ μ K2) (fun _ _ _ _ q => zWp_intro hG (zStp_mono hG hK (fun _ _ _ _ q => q) q))
theorem zSp_mono : ∀ d : Nat, zMono (zSp d)
  | 0, _, _, _, _, _, _, h => h
  | d + 1, _, _, _, _, _, hK, h => zC_mono (zWp_mono (zSp_mono d) hK) h
theorem zwp_blk0 {Γ : Gm} (hG : zMono Γ) {μ : Nat} {K : Kt} {pg : List En} {stops : List Nat} (hp : zPg μ = pg) : ∀ (fuel pc : Nat) (L : Lc) (st : List Vl) (M : Mm), zWp Γ μ K pc L st M = zBk Γ μ K pg stops fuel pc L st M
  | 0, _, _, _, _ => rfl
  | f + 1, pc, L, st, M => by
    rw [zWp_eq hG]
    unfold zStp zBk zF
    rw [hp]
    split
    · rename_i p i nx a b v w _
      have e1 : (zWp Γ μ K nx) = (fun L' st' M' => cond (zIn nx stops) (zWp Γ μ K nx L' st' M') (zBk Γ μ K pg stops f nx L' st' M')) := by
        funext L' st' M'
        cases zIn nx stops
        · exact zwp_blk0 hG hp f nx L' st' M'
        · rfl
      have e2 : (zWp Γ μ K) = (fun q L' st' M' => cond (zIn q stops) (zWp Γ μ K q L' st' M') (zBk Γ μ K pg stops f q L' st' M')) := by
        funext q L' st' M'
        cases zIn q stops
        · exact zwp_blk0 hG hp f q L' st' M'
        · rfl
      conv => lhs; rw [e1]
      conv => lhs; arg 4; rw [e2]
    · rfl
theorem zwp_blk {d μ : Nat} {K : Kt} {pg : List En} {stops : List Nat} {fuel pc : Nat} {L : Lc} {st : List Vl} {M : Mm} (hp : zPg μ = pg) : zWp (zSp d) μ K pc L st M = zBk (zSp d) μ K pg stops fuel pc L st M := zwp_blk0 (zSp_mono d) hp fuel pc L st M
