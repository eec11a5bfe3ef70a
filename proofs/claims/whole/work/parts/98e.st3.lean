/-! LAYER 3: step 3, the input -/
theorem x_copyNP {d : Nat} {M : Mm} {K : Kt} {b o : Nat} {t : Tr} (hb : xT b) (ho : xT o) (hne : o ≠ b) (ht : xNP M o t) (t5 : tSz t ≤ 80)
    (hK : ∀ M', xTr M' b t → (∀ c, c < b ∨ b + 8 ≤ c → M' c = M c) → K 0 M') : zSp (d + 3) 80 [.inr (.inr b), .inr (.inr o)] M K := by
  have hb' := hb
  have ho' := ho
  unfold xT at hb' ho'
  rw [me_80]
  simp only [(xT_c hb).1, (xT_c ho).1, zC_t]
  rw [me_79]
  simp only [(xT_c hb).1, (xT_c ho).1, zC_t]
  obtain ⟨t1, t2, t3, t4⟩ := ht
  have q1 := tSz_pos t
  rw [zUp_away hne, t1]
  refine x_addAll hb ho hne (n := 0) (zUp_here) (by decide) (by decide) (by omega) t5 (by omega) ?_
  intro M1 f1 f2 f3 f4 f5
  rw [zUp_away (show o + 1 ≠ b by omega), zUp_away (show b + 1 ≠ b by omega)] at f3
  rw [zUp_away (show o + 2 ≠ b by omega), zUp_away (show b + 2 ≠ b by omega)] at f4
  refine x_settle hb (t := t) ⟨by omega, ?_, ?_, ?_⟩ t5 ?_
  · rw [f3, if_pos (by omega)]; exact t2
  · rw [f4, if_pos (by omega)]; exact t3
  · refine tAll_mono t 0 0 ?_ t4
    intro k u a q v c1 c2 c3 c4 c5 c6 hx
    have p1 := tSz_pos u
    rw [f3, f4, if_pos (by omega), if_pos (by omega), show 0 + (k - 0) = k by omega]
    exact hx
  · intro M2 g1 g2
    refine hK M2 g1 ?_
    intro c hc
    rw [g2 c hc, f5 c (by omega) (by omega) (by omega), zUp_away (by omega)]
theorem gIf_f {T : Int → Int} {n k q k' q' : Int} {G : Mm} (h : gIf T n G k q) (h' : gIf T n G k' q') : k' = k ∧ q' = q := by
  rcases h with ⟨x1, x2, x3⟩ | ⟨x1, x2, x3, x4⟩ <;> rcases h' with ⟨y1, y2, y3⟩ | ⟨y1, y2, y3, y4⟩
  · exact ⟨by rw [x2, y2], by rw [x3, y3]⟩
  · omega
  · omega
  · exact ⟨by rw [x3, y3], by rw [x4, y4]⟩
theorem gIf_t {T : Int → Int} {n k q : Int} {G : Mm} (h : gIf T n G k q) (h1 : (gIn T n G 1000 [] 0 false).1 = 0) (h2 : tKi T n (gIn T n G 1000 [] 0 false).2.2.2.1 (gIn T n G 1000 [] 0 false).2.2.2.2 = 0) : False := by
  rcases h with ⟨x1, x2, x3⟩ | ⟨x1, x2, x3, x4⟩
  · omega
  · exact x2 h2
theorem iM_nK {G : Mm} {ot : Option Tr} {B : List Bg} {J : Js} {vs : Int} {H : Int → Option Tr} {n l tn fk fp k q : Int} {tA : Int → Int} {M M' : Mm} (h : iM G ot B J vs H n l tn tA fk fp M) (v : nK M M') (f8 : M' 154 8 = k) (f9 : M' 154 9 = q) : iM G ot B J vs H n l 0 tA k q M' :=
  iM_rd h (fun c hc => v.1 c (by omega) (by omega) (by omega) (by omega)) (fun p hp => v.2.1 p (by omega)) (fun j hj => v.2.2.1 j (by omega)) v.2.2.2 f8 f9
theorem st_3 : ∀ M : Mm, Inv M → zSp 16 100 [.inr (.inr 0)] M (fun z M1 => zSp 16 182 [.inr (.inr 154)] M1 (fun z2 M2 => z2 = z ∧ Inv M2)) := by
  intro M hI
  obtain ⟨G, ot, B, J, vs, H, n, l, tn, tA, fk, fp, hP, hX, hM⟩ := hI
  obtain ⟨p1, p2, p3, p4, p5, p6, p7, p8⟩ := hP
  have hT : tpOk tA tn := ⟨p7, p8⟩
  have e4 : M 4 0 = G 4 0 := by rw [hX.1 4 (by decide) (by decide)]
  have gb := p1.1.1
  have xb38 : xT 38 := by unfold xT; decide
  have xb46 : xT 46 := by unfold xT; decide
  have w7 := hM.2.2.2.2.2.2.1
  have w8 := hM.2.2.2.2.2.2.2.1
  have w9 := hM.2.2.2.2.2.2.2.2.1
  have w10 := hM.2.2.2.2.2.2.2.2.2
  have a9 := hX.2.2.2.2.2.2.2.2.1
  have a10 := hX.2.2.2.2.2.2.2.2.2
  rw [me_100, e4]
  refine zC_i (zr (by omega) (by omega)) ⟨fun h4 => ?_, fun h4 => ?_⟩
  · refine x_input38 (d := 8) (T := tA) (n := tn) hT p1.1 hX.1 ⟨hX.2.2.2.2.2.2.1, hX.2.2.2.2.2.2.2.1⟩ ?_ ?_
    · intro M1 k q hf f6 f7 fv
      refine zC_i (by decide) ⟨fun z => absurd rfl z, fun _ => ?_⟩
      have fc : ∀ c, 154 ≤ c → (zUp M1 2 1 0) c = M c := fun c hc => by rw [zUp_away (by omega), fv c (by omega) (by omega) (by omega) (by omega) (by omega) (by omega)]
      have hX1 : iX G ot B J vs H n 0 tA k q (zUp M1 2 1 0) := iX_rd hX (fun c hc => by rw [zUp_away (by omega), fv c (by omega) (by omega) (by omega) (by omega) (by omega) (by omega)]) zUp_here (by rw [zUp_there (by decide)]; exact f6) (by rw [zUp_there (by decide)]; exact f7)
      have hM1 := iM_up hM fc
      refine m_input182 (d := 7) (T := tA) (n := tn) hT p1.1 hM1.1 (by rw [fc 154 (by decide)]; exact w7) (fun i i0 i1 => by rw [fc 155 (by decide)]; exact w8 i i0 i1) h4 ?_ ?_
      · intro M2 k2 q2 h2 u8 u9 nk
        obtain ⟨ek, eq⟩ := gIf_f hf h2
        rw [ek] at u8
        rw [eq] at u9
        exact ⟨rfl, G, ot, B, J, vs, H, n, l, 0, tA, k, q, ⟨p1, p2, p3, p4, p5, p6, by omega, fun i i0 i1 => by omega⟩, iX_up hX1 (fun c hc => nk.1 c (by omega) (by omega) (by omega) (by omega)), iM_nK hM1 nk u8 u9⟩
      · intro M2 t e1 e2
        exact (gIf_t hf e1 e2).elim
    · intro M1 t ht hd f6 f7 fv
      obtain ⟨g1, g2, g3, g4, g5⟩ := ht
      refine zC_i (by decide) ⟨fun _ => ?_, fun z => absurd (by decide) z⟩
      have hX1 : iX G ot B J vs H n 0 tA 0 (-1) (zUp M1 2 1 0) := iX_rd hX (fun c hc => by rw [zUp_away (by omega), fv c (by omega) (by omega) (by omega) (by omega) (by omega) (by omega)]) zUp_here (by rw [zUp_there (by decide)]; exact f6) (by rw [zUp_there (by decide)]; exact f7)
      have hn := hX1.2.2.2.2.2.1.1
      refine x_remember (d := 11) hX1.2.2.2.2.2.1 hX1.2.1 ?_
      intro M2 k1 k2 k3
      have hX2 := iX_rem hX1 k1 k2
      have np : xNP M2 46 t := by
        refine xNP_of ?_ (fun k k0 k1 => ?_)
        · rw [k2 46 (by decide) (by decide) (by decide), zUp_away (by decide)]; exact hd.2.1
        · rw [k2 (46 + 1) (by decide) (by decide) (by decide), k2 (46 + 2) (by decide) (by decide) (by decide), zUp_away (by decide), zUp_away (by decide)]
          exact hd.2.2 k k0 k1
      refine x_copyNP (d := 12) xb38 xb46 (by decide) np g4 ?_
      intro M3 u1 u2
      have hX3 := iX_in (ot' := some t) hX2 u1 u2
      refine x_forget (d := 13) ?_
      intro M4 d1 d2
      have hX4 := iX_new hX3 d1 d2
      have e38 : M4 38 1 = tSz t := by rw [d2 38 (by decide) (by decide)]; exact u1.1.1
      have fc : ∀ c, 154 ≤ c → M4 c = M c := fun c hc => by rw [d2 c (by omega) (by omega), u2 c (by omega), k2 c (by omega) (by omega) (by omega), zUp_away (by omega), fv c (by omega) (by omega) (by omega) (by omega) (by omega) (by omega)]
      have hM4 := iM_up hM fc
      rw [e38]
      refine m_input182 (d := 7) (T := tA) (n := tn) hT p1.1 hM4.1 (by rw [fc 154 (by decide)]; exact w7) (fun i i0 i1 => by rw [fc 155 (by decide)]; exact w8 i i0 i1) h4 ?_ ?_
      · intro M5 k q hf
        exact (gIf_t hf g1 g2).elim
      · intro M5 t' e1 e2 e3 md u8 u9 nk
        have et : t' = t := by
          rw [g3] at e3
          exact (Option.some.inj e3).symm
        rw [et] at md
        have hM5 := iM_nK hM4 nk u8 u9
        have hX5 := iX_up hX4 (M' := M5) (fun c hc => nk.1 c (by omega) (by omega) (by omega) (by omega))
        refine m_keeps (d := 13) hM5.2.2.2.2.2.1 hM5.2.1 ?_
        intro M6 v1 v2 v3 v4
        have hM6 := iM_rem hM5 v1 v2 v3 v4
        have ht6 : mTo M6 322 (some t) := by
          refine mTr_of g4 ?_ (fun k k0 k1 => ?_)
          · rw [v2 322 (by decide)]; exact md.2.1
          · rw [v2 _ (by omega), v2 _ (by omega)]; exact md.2.2 k k0 k1
        refine m_copies (d := 14) (by decide) (by decide) (by decide) ht6 ?_
        intro M7 y1 y2 y3
        have hM7 := iM_in (ot' := some t) hM6 y1 (fun i hi => y2 i (by omega)) y3
        rw [me_209]
        have hM8 := iM_new hM7
        have hX8 : iX G (some t) B (jNew J J.2.1) vs (hP H n ot) (hN n) 0 tA 0 (-1) (zUp M7 154 57 0) := iX_up hX5 (fun c hc => by rw [zUp_away (by omega), y3 c (by omega), v3 c (by omega) (by omega)])
        refine m_many (by decide) ⟨?_, G, some t, B, jNew J J.2.1, vs, hP H n ot, hN n, (l + 1) % 10, 0, tA, 0, -1, ⟨p1, fun t' et' => by rw [← Option.some.inj et']; exact ⟨g4, g5⟩, p3, jOk_new p4.2.2.2, p5, hP_ok hn p6 p2, by omega, fun i i0 i1 => by omega⟩, hX8, hM8⟩
        rw [zUp_away (by decide)]
        exact mTo_n y1
  · have z0 : G 4 0 = 0 := Decidable.not_not.mp h4
    have hX1 : iX G ot B J vs H n 0 tA fk fp (zUp M 2 1 0) := iX_rd hX (fun c hc => by rw [zUp_away (by omega)]) zUp_here (by rw [zUp_there (by decide)]; exact a9) (by rw [zUp_there (by decide)]; exact a10)
    have hM1 := iM_up hM (M' := zUp M 2 1 0) (fun c hc => zUp_away (by omega))
    rw [me_182, hM1.1.1]
    refine zC_i (zr (by omega) (by omega)) ⟨fun z => absurd z0 z, fun _ => ?_⟩
    refine ⟨rfl, G, ot, B, J, vs, H, n, l, 0, tA, fk, fp, ⟨p1, p2, p3, p4, p5, p6, by omega, fun i i0 i1 => by omega⟩, iX_thr (iX_thr hX1 _ _) _ _, ?_⟩
    refine iM_rd hM1 (fun c hc => by rw [zUp_away (by omega), zUp_away (by omega)]) (fun p _ => by rw [zUp_away (by decide), zUp_away (by decide)]) (fun j hj => by rw [zUp_there (by omega), zUp_there (by omega)]) zUp_here ?_ ?_
    · rw [zUp_there (by decide), zUp_there (by decide), zUp_away (by decide)]; exact w9
    · rw [zUp_there (by decide), zUp_there (by decide), zUp_away (by decide)]; exact w10
