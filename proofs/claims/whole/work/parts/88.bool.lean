/-! the machine keeps arrays of booleans at 0 and 1 -/
theorem zC_mc {c : Bool} {P Q : Prop} (h : c = true → P → Q) : zC c P → zC c Q := by
  cases c
  · exact id
  · exact h rfl
def zBl (M : Mm) : Prop := ∀ c, zArr c 3 = true → ∀ i, zBo (M c i) = true
theorem zArr_t {o t u : Nat} (h : zArr o t = true) (g : zArr o u = true) : t = u := by
  unfold zArr at h g
  generalize zSh[o]? = q at h g
  rcases q with _ | ⟨_ | t', c⟩
  · exact absurd (show false = true from h) (by decide)
  · exact absurd (show false = true from h) (by decide)
  · rw [← Nat.eq_of_beq_eq_true h, ← Nat.eq_of_beq_eq_true g]
theorem zObj_na {o a u : Nat} (h : zObj o a = true) (g : zArr o u = true) : False := by
  unfold zObj at h
  unfold zArr at g
  generalize zSh[o]? = q at h g
  rcases q with _ | ⟨_ | t', c⟩
  · exact absurd (show false = true from h) (by decide)
  · exact absurd (show false = true from g) (by decide)
  · exact absurd (show false = true from h) (by decide)
theorem zBl_up {M : Mm} {o : Nat} {i x : Int} (h : zBl M) (g : zArr o 3 = true → zBo x = true) : zBl (zUp M o i x) := by
  intro c hc j
  rw [zUp_app]
  by_cases e : c = o
  · subst e
    rw [if_pos rfl]
    by_cases e2 : j = i
    · rw [if_pos e2]; exact g hc
    · rw [if_neg e2]; exact h _ hc j
  · rw [if_neg e]; exact h c hc j
theorem zBl_cp {M : Mm} {s d : Nat} {sp dp n : Int} (h : zBl M) (g : zArr d 3 = true → False) : zBl (zCpy M s sp d dp n) := by
  intro c hc j
  unfold zCpy
  by_cases e : c = d
  · subst e
    exact absurd hc g
  · rw [if_neg e]; exact h c hc j
abbrev zBlG (Γ : Gm) : Prop := ∀ (μ : Nat) (as : List Vl) (M : Mm) (K K2 : Kt), zBl M → (∀ z M, zBl M → K z M → K2 z M) → Γ μ as M K → Γ μ as M K2
theorem zEx_bl {Γ : Gm} {K K2 : Kt} {F F2 : Lc → List Vl → Mm → Prop} {J J2 : Nat → Lc → List Vl → Mm → Prop} {pc : Nat} {i : Instr} {a b : Nat} {v : Int} {w : Nat} {L : Lc} {st : List Vl} {M : Mm} (hb : zBl M) (hG : zBlG Γ) (hK : ∀ z M, zBl M → K z M → K2 z M) (hF : ∀ L st M, zBl M → F L st M → F2 L st M) (hJ : ∀ q L st M, zBl M → J q L st M → J2 q L st M) : zEx Γ K F J pc i a b v w L st M → zEx Γ K2 F2 J2 pc i a b v w L st M := by
  cases i
  case iconst => exact hF _ _ _ hb
  case bipush => exact hF _ _ _ hb
  case sipush => exact hF _ _ _ hb
  case ldc => exact hF _ _ _ hb
  case ldc_w => exact hF _ _ _ hb
  case ldc2_w => exact hF _ _ _ hb
  case lconst => exact hF _ _ _ hb
  case getstatic => exact hF _ _ _ hb
  case iload => exact zLdI_mono fun _ => hF _ _ _ hb
  case iload_n => exact zLdI_mono fun _ => hF _ _ _ hb
  case iinc => exact zLdI_mono fun _ => hF _ _ _ hb
  case lload => exact zLdL_mono fun _ => hF _ _ _ hb
  case lload_n => exact zLdL_mono fun _ => hF _ _ _ hb
  case aload => exact zLdR_mono fun _ => hF _ _ _ hb
  case aload_n => exact zLdR_mono fun _ => hF _ _ _ hb
  case istore => exact zS1_mono fun _ _ => hF _ _ _ hb
  case istore_n => exact zS1_mono fun _ _ => hF _ _ _ hb
  case i2b => exact zS1_mono fun _ _ => hF _ _ _ hb
  case lstore => exact zL1_mono fun _ _ => hF _ _ _ hb
  case lstore_n => exact zL1_mono fun _ _ => hF _ _ _ hb
  case l2i => exact zL1_mono fun _ _ => hF _ _ _ hb
  case astore => exact zR1_mono fun _ _ => hF _ _ _ hb
  case astore_n => exact zR1_mono fun _ _ => hF _ _ _ hb
  case iadd => exact zS2_mono fun _ _ _ => hF _ _ _ hb
  case isub => exact zS2_mono fun _ _ _ => hF _ _ _ hb
  case imul => exact zS2_mono fun _ _ _ => hF _ _ _ hb
  case iand => exact zS2_mono fun _ _ _ => hF _ _ _ hb
  case ior => exact zS2_mono fun _ _ _ => hF _ _ _ hb
  case ixor => exact zS2_mono fun _ _ _ => hF _ _ _ hb
  case ladd => exact zL2_mono fun _ _ _ => hF _ _ _ hb
  case lsub => exact zL2_mono fun _ _ _ => hF _ _ _ hb
  case lmul => exact zL2_mono fun _ _ _ => hF _ _ _ hb
  case land => exact zL2_mono fun _ _ _ => hF _ _ _ hb
  case lor => exact zL2_mono fun _ _ _ => hF _ _ _ hb
  case lxor => exact zL2_mono fun _ _ _ => hF _ _ _ hb
  case idiv => exact zS2_mono fun _ _ _ => zC_mono (zC_mono (zC_mono (hF _ _ _ hb)))
  case irem => exact zS2_mono fun _ _ _ => zC_mono (zC_mono (zC_mono (hF _ _ _ hb)))
  case ldiv => exact zL2_mono fun _ _ _ => zC_mono (zC_mono (zC_mono (hF _ _ _ hb)))
  case lrem => exact zL2_mono fun _ _ _ => zC_mono (zC_mono (zC_mono (hF _ _ _ hb)))
  case ishl => exact zS2_mono fun _ _ _ => zC_mono (hF _ _ _ hb)
  case ishr => exact zS2_mono fun _ _ _ => zC_mono (zC_mono (hF _ _ _ hb))
  case lshl => exact zLI_mono fun _ _ _ => zC_mono (hF _ _ _ hb)
  case lshr => exact zLI_mono fun _ _ _ => zC_mono (zC_mono (hF _ _ _ hb))
  case lushr => exact zLI_mono fun _ _ _ => hF _ _ _ hb
  case i2l => exact zS1_mono fun _ _ => zC_mono (hF _ _ _ hb)
  case lcmp => exact zL2_mono fun _ _ _ => zC_mono (zC_mono (hF _ _ _ hb))
  case dup => exact zDup_mono (st := st) (k := fun r => F L r M) (k2 := fun r => F2 L r M) fun r => hF L r M hb
  case dup2 => exact zDup2_mono (st := st) (k := fun r => F L r M) (k2 := fun r => F2 L r M) fun r => hF L r M hb
  case pop => exact zPop1_mono fun _ => hF _ _ _ hb
  case goto => exact hJ _ _ _ _ hb
  case ifCond => exact zS1_mono fun _ _ => zC_mono ((fun q => ⟨fun e => hJ _ _ _ _ hb (q.1 e), fun e => hF _ _ _ hb (q.2 e)⟩))
  case if_icmp => exact zS2_mono fun _ _ _ => zC_mono (zC_mono ((fun q => ⟨fun e => hJ _ _ _ _ hb (q.1 e), fun e => hF _ _ _ hb (q.2 e)⟩)))
  case tableswitch => exact zS1_mono fun _ _ => zC_mono ((fun q => ⟨zTsw_mono (fun _ => hJ _ _ _ _ hb) _ _ q.1, fun e => hJ _ _ _ _ hb (q.2 e)⟩))
  case getfield => exact zR1_mono fun _ _ => zC_mono (hF _ _ _ hb)
  case putfield => exact zCond_mono (zRI_mono fun _ _ _ => zC_mc fun e => hF _ _ _ (zBl_up hb fun g => (zObj_na e g).elim)) (zRJ_mono fun _ _ _ => zC_mc fun e => hF _ _ _ (zBl_up hb fun g => (zObj_na e g).elim))
  case iaload => exact zCond_mono (zRI_mono fun _ _ _ => zC_mono (zC_mono (hF _ _ _ hb))) (zRI_mono fun _ _ _ => zC_mono (zC_mono (hF _ _ _ hb)))
  case baload => exact zRI_mono fun _ _ _ => zC_mono (zC_mono (hF _ _ _ hb))
  case laload => exact zRI_mono fun _ _ _ => zC_mono (zC_mono (hF _ _ _ hb))
  case aaload => exact zRI_mono fun _ _ _ => zC_mono (zC_mono (hF _ _ _ hb))
  case iastore => exact zRII_mono fun _ _ _ _ => zC_mc fun e => zC_mono (hF _ _ _ (zBl_up hb fun g => absurd (zArr_t e g) (by decide)))
  case lastore => exact zRIL_mono fun _ _ _ _ => zC_mc fun e => zC_mono (hF _ _ _ (zBl_up hb fun g => absurd (zArr_t e g) (by decide)))
  case aastore => exact zRIR_mono fun _ _ _ _ => zC_mc fun e => zC_mono (zC_mono (hF _ _ _ (zBl_up hb fun g => absurd (zArr_t e g) (by decide))))
  case bastore => exact zCond_mono (zRII_mono fun _ _ _ _ => zC_mono (zC_mono (zC_mc fun e => hF _ _ _ (zBl_up hb fun _ => e)))) (zRII_mono fun _ _ _ _ => zC_mc fun e => zC_mono (zC_mono (hF _ _ _ (zBl_up hb fun g => absurd (zArr_t e g) (by decide)))))
  case arraylength => exact zCond_mono (zR1_mono fun _ _ => zC_mono (hF _ _ _ hb)) (zR1_mono fun _ _ => zC_mono (hF _ _ _ hb))
  case invokevirtual => exact zPops_mono (fun _ _ => zC_mono (zC_mono ((hG _ _ _ _ _ hb fun _ _ g => hF _ _ _ g)))) _ _ _
  case invokestatic => exact zCond_mono (zPops_mono (fun _ _ => zC_mono ((hG _ _ _ _ _ hb fun _ _ g => hF _ _ _ g))) _ _ _) (zCond_mono (zS2_mono fun _ _ _ => zC_mono (zC_mono (zC_mono (hF _ _ _ hb)))) (zCond_mono (zS2_mono fun _ _ _ => zC_mono (zC_mono (zC_mono (hF _ _ _ hb)))) (zIIRIR_mono fun _ _ _ _ _ _ => zC_mono (zC_mono (zC_mc fun e => zC_mono (zC_mono (hF _ _ _ (zBl_cp hb fun g => by
      have t := zArr_t e g
      cases hw : Nat.beq w 1
      · rw [hw] at t; exact absurd t (by decide)
      · rw [hw] at t; exact absurd t (by decide)))))))))
  case ireturn => exact zS1_mono fun _ _ => zC_mono (zCond_mono (zC_mono (hK _ _ hb)) (hK _ _ hb))
  case lreturn => exact zL1_mono fun _ _ => zC_mono (hK _ _ hb)
  case return_ => exact zC_mono (hK _ _ hb)
  all_goals exact id
theorem zWp_bl {Γ : Gm} {μ : Nat} {K K2 : Kt} {pc : Nat} {L : Lc} {st : List Vl} {M : Mm} (hM : zMono Γ) (hG : zBlG Γ) (hK : ∀ z M, zBl M → K z M → K2 z M) (hb : zBl M) (h : zWp Γ μ K pc L st M) : zWp Γ μ K2 pc L st M := by
  refine h (fun pc L st M => zBl M → zWp Γ μ K2 pc L st M) ?_ hb
  intro pc L st M q b
  refine zWp_intro hM ?_
  revert q
  unfold zStp
  split
  · exact zEx_bl b hG hK (fun _ _ _ b q => q b) (fun _ _ _ _ b q => q b)
  · exact id
theorem zSp_bl : ∀ d : Nat, zBlG (zSp d)
  | 0, _, _, _, _, _, _, _, h => h
  | d + 1, _, _, _, _, _, hb, hK, h => zC_mono (zWp_bl (zSp_mono d) (zSp_bl d) hK hb) h
theorem zBl_2 {μ μ' : Nat} {as as' : List Vl} {M : Mm} {I : Mm → Prop} (hb : zBl M) (h : zSp 16 μ as M (fun z M1 => zSp 16 μ' as' M1 (fun z2 M2 => z2 = z ∧ I M2))) : zSp 16 μ as M (fun z M1 => zSp 16 μ' as' M1 (fun z2 M2 => z2 = z ∧ (I M2 ∧ zBl M2))) :=
  zSp_bl 16 _ _ _ _ _ hb (fun _ _ b1 h1 => zSp_bl 16 _ _ _ _ _ b1 (fun _ _ b2 h2 => ⟨h2.1, h2.2, b2⟩) h1) h
