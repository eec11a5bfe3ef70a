/-! LAYER 3: a line, a grammar's lines, read by the class -/
def xPo (T : Int → Int) (n : Int) (K : Kt) (M : Mm) (r : Gr) : Prop := (∀ M', r.1 ≠ 0 → xQ M M' → K 0 (zUp (zUp M' 2 6 r.1) 2 7 r.2.1)) ∧ (∀ M', r.1 = 0 → xR r.2.2.1 M' → xTk T n r.2.2.2.1 r.2.2.2.2 M' → xQ M M' → K 1 M')
theorem xPo_q {T : Int → Int} {n : Int} {K : Kt} {M M1 : Mm} {r : Gr} (h : xPo T n K M r) (q : xQ M M1) : xPo T n K M1 r := ⟨fun M' a b => h.1 M' a (xQ_trans q b), fun M' a b c e => h.2 M' a b c (xQ_trans q e)⟩
theorem x_close {d : Nat} {T : Int → Int} {n p x2 x3 x4 : Int} {w : Bool} {M G : Mm} {K : Kt} (hT : tpOk T n) (hx : xR G M) (h : xTk T n p w M) (hP : xPo T n K M (gCl T n G p w)) : zWp (zSp (d + 4)) 35 K 128 [some (.inr (.inr 2)), some (.inr (.inr 14)), some (.inl x2), some (.inl x3), some (.inl x4)] [] M := by
  rw [fe_35_128]
  unfold gCl at hP
  refine x_passSign (d := d) hT h (by decide) ?_ ?_
  · intro M1 c1 c2 f1 f2
    rw [if_pos ⟨c1, c2⟩] at hP
    exact zC_i (by decide) (hP.2 M1 rfl (xR_fr hx (fun c _ _ => f2.1 c (by omega))) f1 (xQ_of f2))
  · intro c
    rw [if_neg c] at hP
    exact zC_i (by decide) (hP.1 M (show (1 : Int) ≠ 0 by decide) xQ_refl)
theorem x_lineB {d : Nat} {T : Int → Int} {n p fm : Int} {M G : Mm} {K : Kt} (hT : tpOk T n) (hg : gLn G) (hG : G 4 0 < 24) (hf : fm = 0 ∨ fm = 1) (hx : xR G M) (h : xTk T n p true M) (hP : xPo T n K M (gLb T n G p fm)) : zSp (d + 6) 76 [.inr (.inr 2)] M (fun z2 M2 => zC (zR32 z2) ((¬ z2 = 0 → zSp (d + 6) 23 [.inr (.inr 14), .inl (M2 2 5)] M2 (fun z3 M3 => zC (zR32 z3) ((z3 = (-1) → zSp (d + 6) 67 [.inr (.inr 2)] M3 (fun _ M4 => zSp (d + 6) 36 [.inr (.inr 2), .inr (.inr 14)] M4 (fun z5 M5 => zC (zR32 z5) ((¬ z5 = (-1) → zSp (d + 6) 26 [.inr (.inr 14), .inl (M2 2 5), .inl z5, .inl fm] M5 (fun _ M6 => zC (zR32 fm) ((fm = 0 → zWp (zSp (d + 6)) 35 K 128 [some (.inr (.inr 2)), some (.inr (.inr 14)), some (.inl fm), some (.inl (M2 2 5)), some (.inl z5)] [] M6) ∧ (¬ (fm = 0) → zSp (d + 6) 78 [.inr (.inr 2), .inl 58] M6 (fun z7 M7 => zC (zR32 z7) ((z7 = 0 → K 0 M7) ∧ (¬ (z7 = 0) → zSp (d + 6) 37 [.inr (.inr 2), .inr (.inr 14)] M7 (fun z8 M8 => zC (zR32 z8) ((¬ z8 = 0 → zWp (zSp (d + 6)) 35 K 128 [some (.inr (.inr 2)), some (.inr (.inr 14)), some (.inl fm), some (.inl (M2 2 5)), some (.inl z5)] [] M8) ∧ (¬ (¬ z8 = 0) → K 0 M8)))))))))) ∧ (¬ (¬ z5 = (-1)) → K 0 M5))))) ∧ (¬ (z3 = (-1)) → zSp (d + 6) 66 [.inr (.inr 2), .inl 3] M3 (fun z9 M9 => zC (zBo z9) (K z9 M9)))))) ∧ (¬ (¬ z2 = 0) → zSp (d + 6) 66 [.inr (.inr 2), .inl 1] M2 (fun z10 M10 => zC (zBo z10) (K z10 M10))))) := by
  have c0 := hg.1
  have pn := h.2.2.2.2.2.2
  have e14 : M 14 0 = G 4 0 := by rw [hx 4 (by decide) (by decide)]
  have e15 : M 15 = G 5 := hx 5 (by decide) (by decide)
  unfold gLb at hP
  refine x_isName h ?_
  by_cases nm : isNm T n p true
  · rw [fl_t nm]
    rw [if_pos nm] at hP
    have vb := tVa_1 pn nm.1
    have v5 : M 2 5 = tVa T n p := h.2.2.2.2.1 (by rw [nm.1]; decide) (by rw [nm.1]; decide)
    refine zC_i (by decide) ⟨fun _ => ?_, fun q => absurd (by decide) q⟩
    rw [v5]
    refine x_findLine (L := G 4 0) (.inr rfl) (zr (by omega) (by omega)) e14 (by omega) (fun i i0 i1 => ?_) ?_
    · rw [show M (14 + 1) = G 5 from e15]
      have := (hg.2.1 i i0 i1).1
      exact zr (by omega) (by omega)
    rw [show M (14 + 1) = G 5 from e15, show fd (G 5) (tVa T n p) (G 4 0).toNat 0 = gLf G (tVa T n p) from rfl]
    have lf := gLf_s (v := tVa T n p) hg
    refine zC_i (zr (by omega) (by omega)) ⟨fun q => ?_, fun q => ?_⟩
    · rw [if_pos q] at hP
      refine x_adv (d := d + 3) hT h ?_
      intro M1 f1 f2 f3
      have e : decide (tKi T n p true = 1 ∨ tKi T n p true = 2) = true := decide_eq_true_iff.mpr (.inl nm.1)
      rw [e] at f1
      have q1 : xQ M M1 := xQ_of ⟨f3, f2⟩
      refine x_readSort (d := d + 2) hT hg (xR_fr hx (fun c _ _ => f3 c (by omega))) f1 ?_ ?_
      · intro k hk ek
        rw [if_pos (by omega)] at hP
        refine zC_i (by decide) ⟨fun q => absurd rfl q, fun _ => ?_⟩
        have := hP.1 M1 (by show -(gSr T n (tEn T n p) true G) ≠ 0; omega) q1
        rw [show (-(gSr T n (tEn T n p) true G), tQ T n (tEn T n p), G, p, true).1 = k by show -(gSr T n (tEn T n p) true G) = k; omega] at this
        exact this
      · intro M2 nm2 g0 g1 g2 g3
        have pn2 := f1.2.2.2.2.2.2
        obtain ⟨s1, s2, s3, s4⟩ := gSg_k hg pn2 nm2 g0
        rw [if_neg (by omega)] at hP
        have al := gAL_k (nm := tVa T n p) (s := gSr T n (tEn T n p) true G) (fm := fm) s1 (by rw [s2]; exact hG) vb ⟨g0, s3⟩ hf
        have s41 := s1.1
        refine zC_i (zr (by omega) (by omega)) ⟨fun _ => ?_, fun q => absurd (by omega) q⟩
        refine x_addLine (d := d + 5) s1 g2 (by rw [s2]; exact hG) hf ?_
        intro M3 k1 k2
        have kt : xTk T n (tEn T n (tEn T n p)) true M3 := xTk_fr g1 (fun j _ _ => by rw [k2 2 (by omega)]) (k2 3 (by omega))
        have q3 : xQ M M3 := xQ_trans q1 (xQ_trans g3 ⟨fun c _ c2 => k2 c c2, fun j _ _ _ _ => by rw [k2 2 (by omega)]⟩)
        refine zC_i (zr (by omega) (by omega)) ⟨fun q0 => ?_, fun q0 => ?_⟩
        · rw [if_pos q0] at hP
          exact x_close (d := d + 2) hT k1 kt (xPo_q hP q3)
        · rw [if_neg q0] at hP
          unfold gFm at hP
          refine x_passSign (d := d + 2) hT kt (by decide) ?_ ?_
          · intro M4 u1 u2 u3 u4
            rw [if_pos ⟨u1, u2⟩] at hP
            have q4 := xQ_trans q3 (xQ_of u4)
            have x4 : xR (gAL (gSg T n (tEn T n p) G) (tVa T n p) (gSr T n (tEn T n p) true G) fm) M4 := xR_fr k1 (fun c _ _ => u4.1 c (by omega))
            have e40 := al.2.1
            rw [s2] at e40
            have a8 := al.2.2.2.1
            rw [s2] at a8
            refine zC_i (by decide) ⟨fun q => absurd q (by decide), fun _ => ?_⟩
            rw [me_37, x4 4 (by decide) (by decide), e40]
            refine x_behind_l (d := d) (l := G 4 0 + 1 - 1) hT 5 M4 _ 0 _ false none (by omega) (by omega) (by omega) al.1 (by rw [e40]; omega) (by rw [e40]) (by rw [show G 4 0 + 1 - 1 = G 4 0 by omega]; exact a8) x4 u3 ?_ ?_
            · intro M5 k qq ek eq hk x5
              rw [if_neg (by omega)] at hP
              refine zC_i (by decide) ⟨fun q => absurd rfl q, fun _ => ?_⟩
              have := hP.1 M5 (by omega) (xQ_trans q4 x5)
              rw [ek, eq] at this
              exact this
            · intro M5 ek x5 k5 q5
              rw [if_pos ek] at hP
              refine zC_i (by decide) ⟨fun _ => ?_, fun q => absurd (by decide) q⟩
              exact x_close (d := d + 2) hT x5 k5 (xPo_q hP (xQ_trans q4 q5))
          · intro u
            rw [if_neg u] at hP
            exact zC_i (by decide) ⟨fun _ => hP.1 M3 (show (1 : Int) ≠ 0 by decide) q3, fun q => absurd rfl q⟩
    · rw [if_neg q] at hP
      exact x_fail h (zC_i (by decide) (hP.1 M (show (3 : Int) ≠ 0 by decide) xQ_refl))
  · rw [fl_f nm]
    rw [if_neg nm] at hP
    exact zC_i (by decide) ⟨fun q => absurd rfl q, fun _ => x_fail h (zC_i (by decide) (hP.1 M (show (1 : Int) ≠ 0 by decide) xQ_refl))⟩
theorem x_readLine {d : Nat} {T : Int → Int} {n p : Int} {w : Bool} {M G : Mm} {K : Kt} (hT : tpOk T n) (hg : gLn G) (hx : xR G M) (h : xTk T n p w M) (hP : xPo T n K M (gLi T n G p w)) : zSp (d + 7) 35 [.inr (.inr 2), .inr (.inr 14)] M K := by
  have c0 := hg.1
  have e14 : M 14 0 = G 4 0 := by rw [hx 4 (by decide) (by decide)]
  unfold gLi at hP
  have go : ∀ fm : Int, (fm = if tVa T n p = 217658368 then 1 else 0) → tKi T n p w = 1 → (tVa T n p = 217658368 ∨ tVa T n p = 407934976) → zWp (zSp (d + 6)) 35 K 26 [some (.inr (.inr 2)), some (.inr (.inr 14)), some (.inl fm), none, none] [] M := by
    intro fm hfm k1 hw
    have hf : fm = 0 ∨ fm = 1 := by rw [hfm]; split <;> omega
    rw [if_pos ⟨k1, hw⟩] at hP
    rw [fe_35_26, e14]
    refine zC_i (zr (by omega) (by omega)) ⟨fun q => ?_, fun q => ?_⟩
    · rw [if_neg q, ← hfm] at hP
      refine x_adv (d := d + 3) hT h ?_
      intro M1 f1 f2 f3
      have e : decide (tKi T n p w = 1 ∨ tKi T n p w = 2) = true := decide_eq_true_iff.mpr (.inl k1)
      rw [e] at f1
      exact x_lineB hT hg (by omega) hf (xR_fr hx (fun c _ _ => f3 c (by omega))) f1 (xPo_q hP (xQ_of ⟨f3, f2⟩))
    · rw [if_pos (Decidable.not_not.mp q)] at hP
      exact x_fail h (zC_i (by decide) (hP.1 M (by show (4 : Int) ≠ 0; decide) xQ_refl))
  rw [me_35]
  refine x_isWord h (by decide) ?_
  by_cases c1 : tKi T n p w = 1 ∧ tVa T n p = 217658368
  · rw [fl_t c1]
    exact zC_i (by decide) ⟨fun _ => go 1 (by rw [if_pos c1.2]) c1.1 (.inl c1.2), fun q => absurd (by decide) q⟩
  · rw [fl_f c1]
    refine zC_i (by decide) ⟨fun q => absurd rfl q, fun _ => ?_⟩
    refine x_isWord h (by decide) ?_
    by_cases c2 : tKi T n p w = 1 ∧ tVa T n p = 407934976
    · rw [fl_t c2]
      exact zC_i (by decide) ⟨fun _ => go 0 (by rw [if_neg (fun e => c1 ⟨c2.1, e⟩)]) c2.1 (.inr c2.2), fun q => absurd (by decide) q⟩
    · rw [fl_f c2]
      rw [if_neg (fun e => e.2.elim (fun a => c1 ⟨e.1, a⟩) (fun a => c2 ⟨e.1, a⟩))] at hP
      exact zC_i (by decide) ⟨fun q => absurd rfl q, fun _ => x_fail h (zC_i (by decide) (hP.1 M (by show (1 : Int) ≠ 0; decide) xQ_refl))⟩
