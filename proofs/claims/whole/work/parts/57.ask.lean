/-! LAYER 3: calls that look -/
theorem ite_t {P : Prop} [Decidable P] (h : (if P then (1 : Int) else 0) ≠ 0) : P := by
  by_cases c : P
  · exact c
  · rw [if_neg c] at h; exact absurd rfl h
theorem ite_f {P : Prop} [Decidable P] (h : (if P then (1 : Int) else 0) = 0) : ¬ P := fun c => by
  rw [if_pos c] at h; omega
-- forgetting
def jNew (J : Js) (s : Int) : Js := ([], s, J.2.2.1, J.2.2.2.1, J.2.2.2.2)
theorem x_forget {d : Nat} {M : Mm} {K : Kt} (hK : ∀ M', xTd M' [] → (∀ c, c ≠ 138 → c ≠ 145 → M' c = M c) → K 0 M') : zSp (d + 2) 92 [.inr (.inr 138)] M K := by
  rw [me_92]
  refine x_fill (n := 1024) rfl rfl (by decide) ?_
  intro M1 f1 f2
  refine hK M1 ⟨by rw [f2 138 (by decide), zUp_here]; rfl, by decide, fun i hi => absurd hi (Nat.not_lt_zero i), fun h h0 h1 => f1 h h0 h1⟩ (fun c c1 c2 => by rw [f2 c c2, zUp_away c1])
theorem mTd_nil {M : Mm} (h : M 154 57 = 0) : mTd M [] := ⟨h, fun i hi => absurd hi (Nat.not_lt_zero i)⟩
theorem jOk_new {L n : Int} {J : Js} {s : Int} (hs : 0 ≤ s ∧ s < 2147483648) : jOk L n (jNew J s) := ⟨fun i j _ hj => absurd hj (Nat.not_lt_zero j), Nat.zero_le _, fun i hi => absurd hi (Nat.not_lt_zero i), hs⟩
theorem st_6 : zStep_6 Inv := by
  intro M hI a1 h1
  obtain ⟨G, ot, B, J, vs, H, n, l, tn, tA, fk, fp, hP, hX, hM⟩ := hI
  have hend : Inv (zUp M 154 0 0) := ⟨G, ot, B, J, vs, H, n, l, tn, tA, fk, fp, hP, iX_thr hX _ _, iM_thr hM 0⟩
  obtain ⟨p1, p2, p3, p4, p5, p6, p7, p8⟩ := hP
  have hr := zR32_iff.mp h1
  rw [me_103]
  refine x_canVote (d := 14) h1 ?_
  refine zC_i zr01 ⟨fun c => ?_, fun c => ?_⟩
  · have c := ite_t c
    refine x_forget ?_
    intro M1 f1 f2
    have hM1 := iM_up hM (M' := M1) (fun c hc => by rw [f2 c (by omega) (by omega), zUp_away (by omega)])
    rw [me_245]
    refine zC_i h1 (m_isIn (d := 14) (zr_to64 h1) (by decide) (by decide) ?_)
    rw [if_pos (by omega)]
    (repeat (first | (with_reducible refine zC_i ?hob ?_; case hob => first | assumption | decide | exact zr (by omega) (by omega) | exact zs (by omega) (by omega) | exact zd (by omega) (by omega)) | (with_reducible refine zIfT ?hob ?_; case hob => first | assumption | omega | decide) | (with_reducible refine zIfF ?hob ?_; case hob => first | assumption | omega | decide)))
    rw [me_209]
    refine ⟨by rw [zUp_there (by decide), hM1.2.2.2.2.1, hX.2.2.2.2.1], G, ot, B, jNew J J.2.1, a1, H, n, l, tn, tA, fk, fp, ⟨p1, p2, p3, jOk_new p4.2.2.2, by omega, p6, p7, p8⟩, ?_, ?_⟩
    · refine iX_thr (iX_thr (iX_thr ?_ _ _) _ _) _ _
      obtain ⟨q1, q2, q3, q4, q5, q6, q7, q8, q9, q10⟩ := hX
      have e : ∀ c, c ≠ 138 → c ≠ 145 → c ≠ 147 → M1 c = M c := fun c c1 c2 c3 => by rw [f2 c c1 c2, zUp_away c3]
      have e147 : ∀ j, j ≠ 3 → M1 147 j = M 147 j := fun j hj => by rw [f2 147 (by decide) (by decide), zUp_there hj]
      obtain ⟨a1', a2', a3', a4'⟩ := q6
      have e1 := e 1 (by decide) (by decide) (by decide)
      refine ⟨xG_fr q1 fun c c1 c2 => e c (by omega) (by omega) (by omega), xTo_fr q2 (fun c c1 c2 => e c (by omega) (by omega) (by omega)), xBg_fr q3 fun c c1 c2 => e c (by omega) (by omega) (by omega), ⟨f1, by rw [e147 4 (by decide)]; exact q4.2.1, by rw [e147 5 (by decide)]; exact q4.2.2.1, by rw [e147 6 (by decide)]; exact q4.2.2.2.1, by rw [e147 7 (by decide)]; exact q4.2.2.2.2⟩, by rw [f2 147 (by decide) (by decide), zUp_here], ⟨a1', by rw [e 0 (by decide) (by decide) (by decide)]; exact a2', by unfold xPa; rw [e1]; exact a3', fun i i0 i1 => ?_⟩, by rw [e 2 (by decide) (by decide) (by decide)]; exact q7, by rw [e 3 (by decide) (by decide) (by decide)]; exact q8, by rw [e 2 (by decide) (by decide) (by decide)]; exact q9, by rw [e 2 (by decide) (by decide) (by decide)]; exact q10⟩
      rw [e1]
      obtain ⟨qt, q54, qe⟩ := xPa_t a3' (i := i) i0 (by omega)
      unfold xT at qt
      exact xTo_fr (a4' i i0 i1) (fun c c1 c2 => e c (by omega) (by omega) (by omega))
    · obtain ⟨w1, w2, w3, w4, w5, w6, w7, w8, w9, w10⟩ := hM1
      refine ⟨mG_fr w1 rfl rfl rfl rfl rfl, mTo_fr w2 (fun _ _ _ => rfl), mBg_fr w3 (fun c hc => by rw [zUp_away (by omega), zUp_away (by omega), zUp_away (by omega)]) rfl, ⟨mTd_nil (by rw [zUp_here]), w4.2.1, w4.2.2.1, w4.2.2.2.1, w4.2.2.2.2⟩, by rw [zUp_there (by decide), zUp_here], mA_fr w6 (fun p _ => rfl) rfl rfl, w7, w8, w9, w10⟩
  · have c := ite_f (show (if 1 ≤ a1 ∧ a1 ≤ 9 ∧ a1 % 2 = 1 then (1 : Int) else 0) = 0 by omega)
    rw [me_245]
    refine zC_i h1 (m_isIn (d := 14) (zr_to64 h1) (by decide) (by decide) ?_)
    by_cases c2 : 1 ≤ a1 ∧ a1 ≤ 9
    · rw [if_pos c2]
      (repeat (first | (with_reducible refine zC_i ?hob ?_; case hob => first | assumption | decide | exact zr (by omega) (by omega) | exact zs (by omega) (by omega) | exact zd (by omega) (by omega)) | (with_reducible refine zIfT ?hob ?_; case hob => first | assumption | omega | decide) | (with_reducible refine zIfF ?hob ?_; case hob => first | assumption | omega | decide)))
      exact ⟨rfl, hend⟩
    · rw [if_neg c2]
      (repeat (first | (with_reducible refine zC_i ?hob ?_; case hob => first | assumption | decide | exact zr (by omega) (by omega) | exact zs (by omega) (by omega) | exact zd (by omega) (by omega)) | (with_reducible refine zIfT ?hob ?_; case hob => first | assumption | omega | decide) | (with_reducible refine zIfF ?hob ?_; case hob => first | assumption | omega | decide)))
      exact ⟨rfl, hend⟩
theorem st_7 : zStep_7 Inv := by
  intro M hI a1 h1
  obtain ⟨G, ot, B, J, vs, H, n, l, tn, tA, fk, fp, hP, hX, hM⟩ := hI
  have hend : Inv (zUp M 154 0 0) := ⟨G, ot, B, J, vs, H, n, l, tn, tA, fk, fp, hP, iX_thr hX _ _, iM_thr hM 0⟩
  obtain ⟨p1, p2, p3, p4, p5, p6, p7, p8⟩ := hP
  have hr := zR32_iff.mp h1
  rw [me_104]
  refine zC_i h1 ⟨fun c => ?_, fun c => ?_⟩
  · refine x_forget (d := 13) ?_
    intro M1 f1 f2
    have hM1 := iM_up hM (M' := M1) (fun c hc => by rw [f2 c (by omega) (by omega), zUp_away (by omega)])
    rw [me_246]
    (repeat (first | (with_reducible refine zC_i ?hob ?_; case hob => first | assumption | decide | exact zr (by omega) (by omega) | exact zs (by omega) (by omega) | exact zd (by omega) (by omega)) | (with_reducible refine zIfT ?hob ?_; case hob => first | assumption | omega | decide) | (with_reducible refine zIfF ?hob ?_; case hob => first | assumption | omega | decide)))
    rw [me_209]
    refine ⟨rfl, G, ot, B, jNew J a1, vs, H, n, l, tn, tA, fk, fp, ⟨p1, p2, p3, jOk_new (by omega), p5, p6, p7, p8⟩, ?_, ?_⟩
    · refine iX_thr (iX_thr (iX_thr ?_ _ _) _ _) _ _
      obtain ⟨q1, q2, q3, q4, q5, q6, q7, q8, q9, q10⟩ := hX
      have e : ∀ c, c ≠ 138 → c ≠ 145 → c ≠ 147 → M1 c = M c := fun c c1 c2 c3 => by rw [f2 c c1 c2, zUp_away c3]
      have e147 : ∀ j, j ≠ 4 → M1 147 j = M 147 j := fun j hj => by rw [f2 147 (by decide) (by decide), zUp_there hj]
      obtain ⟨a1', a2', a3', a4'⟩ := q6
      have e1 := e 1 (by decide) (by decide) (by decide)
      refine ⟨xG_fr q1 fun c c1 c2 => e c (by omega) (by omega) (by omega), xTo_fr q2 (fun c c1 c2 => e c (by omega) (by omega) (by omega)), xBg_fr q3 fun c c1 c2 => e c (by omega) (by omega) (by omega), ⟨f1, by rw [f2 147 (by decide) (by decide), zUp_here]; rfl, by rw [e147 5 (by decide)]; exact q4.2.2.1, by rw [e147 6 (by decide)]; exact q4.2.2.2.1, by rw [e147 7 (by decide)]; exact q4.2.2.2.2⟩, by rw [e147 3 (by decide)]; exact q5, ⟨a1', by rw [e 0 (by decide) (by decide) (by decide)]; exact a2', by unfold xPa; rw [e1]; exact a3', fun i i0 i1 => ?_⟩, by rw [e 2 (by decide) (by decide) (by decide)]; exact q7, by rw [e 3 (by decide) (by decide) (by decide)]; exact q8, by rw [e 2 (by decide) (by decide) (by decide)]; exact q9, by rw [e 2 (by decide) (by decide) (by decide)]; exact q10⟩
      rw [e1]
      obtain ⟨qt, q54, qe⟩ := xPa_t a3' (i := i) i0 (by omega)
      unfold xT at qt
      exact xTo_fr (a4' i i0 i1) (fun c c1 c2 => e c (by omega) (by omega) (by omega))
    · obtain ⟨w1, w2, w3, w4, w5, w6, w7, w8, w9, w10⟩ := hM1
      refine ⟨mG_fr w1 rfl rfl rfl rfl rfl, mTo_fr w2 (fun _ _ _ => rfl), mBg_fr w3 (fun c hc => by rw [zUp_away (by omega), zUp_away (by omega), zUp_away (by omega)]) rfl, ⟨mTd_nil (by rw [zUp_here]), by rw [zUp_there (by decide), zUp_here]; rfl, w4.2.2.1, w4.2.2.2.1, w4.2.2.2.2⟩, w5, mA_fr w6 (fun p _ => rfl) rfl rfl, w7, w8, w9, w10⟩
  · rw [me_246]
    (repeat (first | (with_reducible refine zC_i ?hob ?_; case hob => first | assumption | decide | exact zr (by omega) (by omega) | exact zs (by omega) (by omega) | exact zd (by omega) (by omega)) | (with_reducible refine zIfT ?hob ?_; case hob => first | assumption | omega | decide) | (with_reducible refine zIfF ?hob ?_; case hob => first | assumption | omega | decide)))
    exact ⟨rfl, hend⟩
-- the size of the input on both sides
def oSz : Option Tr → Int
  | none => 0
  | some t => tSz t
theorem xTo_n {M : Mm} {ot : Option Tr} (h : xTo M 38 ot) : M 38 1 = oSz ot := by
  match ot, h with
  | none, h => exact h
  | some t, h => exact h.1.1
theorem mTo_n {M : Mm} {ot : Option Tr} (h : mTo M 0 ot) : M 165 0 = oSz ot := by
  match ot, h with
  | none, h => exact h
  | some t, h => exact h.1.1
theorem oSz_b {G : Mm} {ot : Option Tr} (h : tOk G ot) : 0 ≤ oSz ot ∧ oSz ot ≤ 80 := by
  match ot, h with
  | none, h => exact ⟨Int.le_refl 0, by decide⟩
  | some t, h =>
    have := tSz_pos t
    have := (h t rfl).1
    show 0 ≤ tSz t ∧ tSz t ≤ 80
    omega
theorem st_8 : zStep_8 Inv := by
  intro M hI a1 h1
  obtain ⟨G, ot, B, J, vs, H, n, l, tn, tA, fk, fp, hP, hX, hM⟩ := hI
  have hend : Inv (zUp M 154 0 0) := ⟨G, ot, B, J, vs, H, n, l, tn, tA, fk, fp, hP, iX_thr hX _ _, iM_thr hM 0⟩
  have ob := oSz_b hP.2.1
  have xn := xTo_n hX.2.1
  have mn := mTo_n hM.2.1
  have go : ∀ (z : Int), (∀ K : Kt, K z (zUp M 154 0 0) → zSp 16 254 [.inr (.inr 154), .inl a1] M K) → zSp 16 254 [.inr (.inr 154), .inl a1] M (fun z2 M2 => z2 = z ∧ Inv M2) := fun z h => h _ ⟨rfl, hend⟩
  rw [me_105]
  refine zC_i h1 ⟨⟨fun c => ?_, fun c => ?_, fun c => ?_, fun c => ?_, fun c => ?_, fun c => ?_, fun c => ?_, fun c => ?_, fun c => ?_, fun c => ?_, fun c => ?_, fun c => ?_, trivial⟩, fun c => ?_⟩
  · subst c
    rw [hX.1 4 (by decide) (by decide)]
    refine go _ fun K hK => ?_
    rw [me_254]
    refine zC_i h1 ⟨⟨fun _ => ?_, fun q => absurd q (by decide), fun q => absurd q (by decide), fun q => absurd q (by decide), fun q => absurd q (by decide), fun q => absurd q (by decide), fun q => absurd q (by decide), fun q => absurd q (by decide), fun q => absurd q (by decide), fun q => absurd q (by decide), fun q => absurd q (by decide), fun q => absurd q (by decide), trivial⟩, fun q => absurd q (by decide)⟩
    rw [hM.1.1]; exact hK
  · subst c
    rw [hX.1 4 (by decide) (by decide)]
    refine go _ fun K hK => ?_
    rw [me_254]
    refine zC_i h1 ⟨⟨fun q => absurd q (by decide), fun _ => ?_, fun q => absurd q (by decide), fun q => absurd q (by decide), fun q => absurd q (by decide), fun q => absurd q (by decide), fun q => absurd q (by decide), fun q => absurd q (by decide), fun q => absurd q (by decide), fun q => absurd q (by decide), fun q => absurd q (by decide), fun q => absurd q (by decide), trivial⟩, fun q => absurd q (by decide)⟩
    rw [hM.1.2.1]; exact hK
  · subst c
    rw [xn]
    refine go _ fun K hK => ?_
    rw [me_254]
    refine zC_i h1 ⟨⟨fun q => absurd q (by decide), fun q => absurd q (by decide), fun _ => ?_, fun q => absurd q (by decide), fun q => absurd q (by decide), fun q => absurd q (by decide), fun q => absurd q (by decide), fun q => absurd q (by decide), fun q => absurd q (by decide), fun q => absurd q (by decide), fun q => absurd q (by decide), fun q => absurd q (by decide), trivial⟩, fun q => absurd q (by decide)⟩
    refine m_many (by decide) ?_
    rw [zUp_away (by decide), mn]; exact hK
  · subst c
    rw [hX.2.2.1.1]
    refine go _ fun K hK => ?_
    rw [me_254]
    refine zC_i h1 ⟨⟨fun q => absurd q (by decide), fun q => absurd q (by decide), fun q => absurd q (by decide), fun _ => ?_, fun q => absurd q (by decide), fun q => absurd q (by decide), fun q => absurd q (by decide), fun q => absurd q (by decide), fun q => absurd q (by decide), fun q => absurd q (by decide), fun q => absurd q (by decide), fun q => absurd q (by decide), trivial⟩, fun q => absurd q (by decide)⟩
    rw [hM.2.2.1.1]; exact hK
  · subst c
    rw [hX.2.2.2.2.1]
    refine go _ fun K hK => ?_
    rw [me_254]
    refine zC_i h1 ⟨⟨fun q => absurd q (by decide), fun q => absurd q (by decide), fun q => absurd q (by decide), fun q => absurd q (by decide), fun _ => ?_, fun q => absurd q (by decide), fun q => absurd q (by decide), fun q => absurd q (by decide), fun q => absurd q (by decide), fun q => absurd q (by decide), fun q => absurd q (by decide), fun q => absurd q (by decide), trivial⟩, fun q => absurd q (by decide)⟩
    rw [hM.2.2.2.2.1]; exact hK
  · subst c
    rw [hX.2.2.2.1.1.1]
    refine go _ fun K hK => ?_
    rw [me_254]
    refine zC_i h1 ⟨⟨fun q => absurd q (by decide), fun q => absurd q (by decide), fun q => absurd q (by decide), fun q => absurd q (by decide), fun q => absurd q (by decide), fun _ => ?_, fun q => absurd q (by decide), fun q => absurd q (by decide), fun q => absurd q (by decide), fun q => absurd q (by decide), fun q => absurd q (by decide), fun q => absurd q (by decide), trivial⟩, fun q => absurd q (by decide)⟩
    rw [hM.2.2.2.1.1.1]; exact hK
  · subst c
    rw [hX.2.2.2.1.2.2.1]
    refine go _ fun K hK => ?_
    rw [me_254]
    refine zC_i h1 ⟨⟨fun q => absurd q (by decide), fun q => absurd q (by decide), fun q => absurd q (by decide), fun q => absurd q (by decide), fun q => absurd q (by decide), fun q => absurd q (by decide), fun _ => ?_, fun q => absurd q (by decide), fun q => absurd q (by decide), fun q => absurd q (by decide), fun q => absurd q (by decide), fun q => absurd q (by decide), trivial⟩, fun q => absurd q (by decide)⟩
    rw [hM.2.2.2.1.2.2.1]; exact hK
  · subst c
    rw [hX.2.2.2.1.2.2.2.1]
    refine go _ fun K hK => ?_
    rw [me_254]
    refine zC_i h1 ⟨⟨fun q => absurd q (by decide), fun q => absurd q (by decide), fun q => absurd q (by decide), fun q => absurd q (by decide), fun q => absurd q (by decide), fun q => absurd q (by decide), fun q => absurd q (by decide), fun _ => ?_, fun q => absurd q (by decide), fun q => absurd q (by decide), fun q => absurd q (by decide), fun q => absurd q (by decide), trivial⟩, fun q => absurd q (by decide)⟩
    rw [hM.2.2.2.1.2.2.2.1]; exact hK
  · subst c
    rw [hX.2.2.2.1.2.2.2.2]
    refine go _ fun K hK => ?_
    rw [me_254]
    refine zC_i h1 ⟨⟨fun q => absurd q (by decide), fun q => absurd q (by decide), fun q => absurd q (by decide), fun q => absurd q (by decide), fun q => absurd q (by decide), fun q => absurd q (by decide), fun q => absurd q (by decide), fun q => absurd q (by decide), fun _ => ?_, fun q => absurd q (by decide), fun q => absurd q (by decide), fun q => absurd q (by decide), trivial⟩, fun q => absurd q (by decide)⟩
    rw [hM.2.2.2.1.2.2.2.2]; exact hK
  · subst c
    rw [hX.2.2.2.1.2.1]
    refine go _ fun K hK => ?_
    rw [me_254]
    refine zC_i h1 ⟨⟨fun q => absurd q (by decide), fun q => absurd q (by decide), fun q => absurd q (by decide), fun q => absurd q (by decide), fun q => absurd q (by decide), fun q => absurd q (by decide), fun q => absurd q (by decide), fun q => absurd q (by decide), fun q => absurd q (by decide), fun _ => ?_, fun q => absurd q (by decide), fun q => absurd q (by decide), trivial⟩, fun q => absurd q (by decide)⟩
    rw [hM.2.2.2.1.2.1]; exact hK
  · subst c
    rw [hX.2.2.2.2.2.1.2.1]
    refine go _ fun K hK => ?_
    rw [me_254]
    refine zC_i h1 ⟨⟨fun q => absurd q (by decide), fun q => absurd q (by decide), fun q => absurd q (by decide), fun q => absurd q (by decide), fun q => absurd q (by decide), fun q => absurd q (by decide), fun q => absurd q (by decide), fun q => absurd q (by decide), fun q => absurd q (by decide), fun q => absurd q (by decide), fun _ => ?_, fun q => absurd q (by decide), trivial⟩, fun q => absurd q (by decide)⟩
    rw [hM.2.2.2.2.2.1.2.2.1]; exact hK
  · subst c
    have m11 : ∀ K : Kt, zSp 15 174 [.inr (.inr 154), .inl 0] (zUp M 154 0 0) (fun z2 M2 => zC (zR32 z2) ((¬ z2 = 0 → zSp 15 199 [.inr (.inr 154), .inl 0] M2 (fun z3 M3 => K z3 M3)) ∧ (¬ (¬ z2 = 0) → K (-1) M2))) → zSp 16 254 [.inr (.inr 154), .inl 11] M K := by
      intro K hK
      rw [me_254]
      exact zC_i h1 ⟨⟨fun q => absurd q (by decide), fun q => absurd q (by decide), fun q => absurd q (by decide), fun q => absurd q (by decide), fun q => absurd q (by decide), fun q => absurd q (by decide), fun q => absurd q (by decide), fun q => absurd q (by decide), fun q => absurd q (by decide), fun q => absurd q (by decide), fun q => absurd q (by decide), fun _ => hK, trivial⟩, fun q => absurd q (by decide)⟩
    rw [xn]
    refine zC_i (zr (by omega) (by omega)) ⟨fun c => ?_, fun c => ?_⟩
    · match ot, hX, hM, xn, mn, c, ob, hP, hend with
      | none, hX, hM, xn, mn, c, ob, hP, hend => exact absurd rfl c
      | some t, hX, hM, xn, mn, c, ob, hP, hend =>
        refine m11 _ (m_many (by decide) ?_)
        rw [zUp_away (by decide), mn]
        refine zC_i (zr (by omega) (by omega)) ⟨fun _ => ?_, fun q => absurd c q⟩
        have ht : mTr (zUp M 154 0 0) 0 t := mTr_fr hM.2.1 (fun _ _ _ => rfl)
        refine m_deepOf (d := 13) (by decide) ht ?_
        intro M2 g
        refine ⟨hX.2.1.2.2.1.symm, G, some t, B, J, vs, H, n, l, tn, tA, fk, fp, hP, iX_up (iX_thr hX 0 0) (fun c hc => g c (by omega)), iM_fr (iM_thr hM 0) (fun c hc => g c (by omega)) (fun p _ => by rw [g 165 (by decide)]) (fun j _ => by rw [g 154 (by decide)])⟩
    · refine m11 _ (m_many (by decide) ?_)
      rw [zUp_away (by decide), mn]
      refine zC_i (zr (by omega) (by omega)) ⟨fun q => absurd q c, fun _ => ⟨rfl, hend⟩⟩
  · rw [me_254]
    exact zC_i h1 ⟨⟨fun q => by omega, fun q => by omega, fun q => by omega, fun q => by omega, fun q => by omega, fun q => by omega, fun q => by omega, fun q => by omega, fun q => by omega, fun q => by omega, fun q => by omega, fun q => by omega, trivial⟩, fun _ => ⟨rfl, hend⟩⟩
