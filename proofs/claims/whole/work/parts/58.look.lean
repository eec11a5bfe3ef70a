/-! LAYER 3: letter, line, least, node, holding, counts -/
theorem x_letterOf {d : Nat} {M : Mm} {K : Kt} {w i : Int} (hw : 0 ≤ w ∧ w < 1073741824) (hi : 0 ≤ i ∧ i < 6) (hK : K (w / 2 ^ (25 - 5 * i).toNat % 32) M) : zSp (d + 1) 63 [.inl w, .inl i] M K := by
  rw [me_63]
  have hp : (0 : Int) < 2 ^ (25 - 5 * i).toNat := Int.pow_pos (by decide)
  have h1 : 0 ≤ w / 2 ^ (25 - 5 * i).toNat := Int.ediv_nonneg hw.1 (Int.le_of_lt hp)
  have h2 : w / 2 ^ (25 - 5 * i).toNat ≤ w := Int.ediv_le_self _ hw.1
  rw [zA31 h1 (by omega)]
  (repeat (first | (with_reducible refine zC_i ?hob ?_; case hob => first | assumption | decide | exact zr (by omega) (by omega) | exact zs (by omega) (by omega) | exact zd (by omega) (by omega)) | (with_reducible refine zIfT ?hob ?_; case hob => first | assumption | omega | decide) | (with_reducible refine zIfF ?hob ?_; case hob => first | assumption | omega | decide)))
  exact hK
theorem m_l112 {d : Nat} {M : Mm} {K : Kt} {x1 x2 i x4 w : Int} (hw : 0 ≤ w ∧ w < 1073741824) (hi : 0 ≤ i ∧ i < 6) (hK : K (w / 2 ^ (25 - 5 * i).toNat % 32) M) : zWp (zSp d) 255 K 112 [some (.inr (.inr 154)), some (.inl x1), some (.inl x2), some (.inl i), some (.inl x4), none, none] [.inr (.inl w)] M := by
  rw [fe_255_112]
  have hp : (0 : Int) < 2 ^ (25 - 5 * i).toNat := Int.pow_pos (by decide)
  have h1 : 0 ≤ w / 2 ^ (25 - 5 * i).toNat := Int.ediv_nonneg hw.1 (Int.le_of_lt hp)
  have h2 : w / 2 ^ (25 - 5 * i).toNat ≤ w := Int.ediv_le_self _ hw.1
  rw [show 5 * (5 - i) = 25 - 5 * i by omega, zL31 h1 (by omega)]
  exact zC_i (zr64 (by omega) (by omega)) (zC_i (zs (by omega) (by omega)) hK)
theorem st_9 : zStep_9 Inv := by
  intro M hI a1 h1 a2 h2 a3 h3
  obtain ⟨G, ot, B, J, vs, H, n, l, tn, tA, fk, fp, hP, hX, hM⟩ := hI
  have hend : Inv (zUp M 154 0 0) := ⟨G, ot, B, J, vs, H, n, l, tn, tA, fk, fp, hP, iX_thr hX _ _, iM_thr hM 0⟩
  have gb := hP.1.1.1
  have b6 := hP.2.2.1.1
  have e40 : M 4 0 = G 4 0 := by rw [hX.1 4 (by decide) (by decide)]
  have e41 : M 4 1 = G 4 1 := by rw [hX.1 4 (by decide) (by decide)]
  have e24 := hX.2.2.1.1
  -- the reference
  have hm : ∀ (z : Int), ((0 ≤ a3 ∧ a3 < 6 ∧ 0 ≤ a2 ∧ ((a1 = 0 ∧ a2 < G 4 0 ∧ z = G 5 a2 / 2 ^ (25 - 5 * a3).toNat % 32) ∨ (a1 = 1 ∧ a2 < G 4 1 ∧ z = G 11 a2 / 2 ^ (25 - 5 * a3).toNat % 32) ∨ (a1 = 2 ∧ a2 < B.length ∧ z = (bg B a2.toNat).1 / 2 ^ (25 - 5 * a3).toNat % 32))) ∨ (z = -1 ∧ ¬ (0 ≤ a3 ∧ a3 < 6 ∧ 0 ≤ a2 ∧ ((a1 = 0 ∧ a2 < G 4 0) ∨ (a1 = 1 ∧ a2 < G 4 1) ∨ (a1 = 2 ∧ a2 < B.length))))) → zSp 16 255 [.inr (.inr 154), .inl a1, .inl a2, .inl a3] M (fun z2 M2 => z2 = z ∧ Inv M2) := by
    intro z hz
    have h49 : ∀ y, (y = (if a1 = 0 then G 4 0 else if a1 = 1 then G 4 1 else if a1 = 2 then (B.length : Int) else 0)) → zWp (zSp 15) 255 (fun z2 M2 => z2 = z ∧ Inv M2) 49 [some (.inr (.inr 154)), some (.inl a1), some (.inl a2), some (.inl a3), none, none, none] [.inl y] (zUp M 154 0 0) := by
      intro y hy
      have yb : 0 ≤ y ∧ y ≤ 24 := by
        rw [hy]
        split
        · omega
        · split
          · omega
          · split <;> omega
      rw [fe_255_49]
      refine zC_i h2 (zC_i (zr (by omega) (by omega)) (m_isIn (d := 14) (zr_to64 h2) (by decide) (zr64 (by omega) (by omega)) ?_))
      by_cases c : 0 ≤ a2 ∧ a2 ≤ y - 1
      · rw [if_pos c]
        refine zC_i (by decide) ⟨fun q => absurd q (by decide), fun _ => zC_i h3 (m_isIn (d := 14) (zr_to64 h3) (by decide) (by decide) ?_)⟩
        by_cases c3 : 0 ≤ a3 ∧ a3 ≤ 5
        · rw [if_pos c3]
          refine zC_i (by decide) ⟨fun _ => zC_i h1 ⟨fun q0 => zC_i h1 ⟨fun q1 => ?_, fun q1 => ?_⟩, fun q0 => ?_⟩, fun q => absurd (by decide) q⟩
          · rw [if_neg q0, if_neg q1] at hy
            have c2 : a1 = 2 := by
              by_cases c2 : a1 = 2
              · exact c2
              · rw [if_neg c2] at hy; omega
            rw [if_pos c2] at hy
            have nm := (mBs_get B 0 0 hM.2.2.1.2 a2.toNat (by omega)).1
            rw [show (0 : Int) + ((a2.toNat : Nat) : Int) = a2 by omega] at nm
            have bk := (hP.2.2.1.2.2.1 _ (bg_mem (j := a2.toNat) (by omega))).1
            rw [zUp_away (show (174 : Nat) ≠ 154 by decide), nm]
            refine zC_i (zs (by omega) (by omega)) (m_l112 bk (by omega) ⟨?_, hend⟩)
            rcases hz with ⟨_, _, _, hz⟩ | hz
            · rcases hz with hz | hz | hz
              · omega
              · omega
              · exact hz.2.2.symm
            · omega
          · rw [if_neg q0, if_pos (by omega)] at hy
            have sn := hM.1.2.2.2 a2 c.1 (by omega)
            have sk := hP.1.1.2.2 a2 c.1 (by omega)
            rw [zUp_away (show (158 : Nat) ≠ 154 by decide), sn.1]
            refine zC_i (zs (by omega) (by omega)) (m_l112 sk (by omega) ⟨?_, hend⟩)
            rcases hz with ⟨_, _, _, hz⟩ | hz
            · rcases hz with hz | hz | hz
              · omega
              · exact hz.2.2.symm
              · omega
            · omega
          · rw [if_pos (by omega)] at hy
            have sn := hM.1.2.2.1 a2 c.1 (by omega)
            have sk := (hP.1.1.2.1 a2 c.1 (by omega)).1
            rw [zUp_away (show (157 : Nat) ≠ 154 by decide), sn.1]
            refine zC_i (zs (by omega) (by omega)) (m_l112 sk (by omega) ⟨?_, hend⟩)
            rcases hz with ⟨_, _, _, hz⟩ | hz
            · rcases hz with hz | hz | hz
              · exact hz.2.2.symm
              · omega
              · omega
            · omega
        · rw [if_neg c3]
          refine zC_i (by decide) ⟨fun q => absurd rfl q, fun _ => ⟨?_, hend⟩⟩
          rcases hz with hz | hz
          · omega
          · exact hz.1.symm
      · rw [if_neg c]
        refine zC_i (by decide) ⟨fun _ => ⟨?_, hend⟩, fun q => absurd rfl q⟩
        rcases hz with hz | hz
        · exfalso
          obtain ⟨z1, z2, z3, z4⟩ := hz
          rcases z4 with z4 | z4 | z4
          · rw [if_pos z4.1] at hy; omega
          · rw [if_neg (by omega), if_pos z4.1] at hy; omega
          · rw [if_neg (by omega), if_neg (by omega), if_pos z4.1] at hy; omega
        · exact hz.1.symm
    rw [me_255]
    refine zC_i h1 ⟨fun q0 => zC_i h1 ⟨fun q1 => zC_i h1 ⟨fun q2 => ?_, fun q2 => ?_⟩, fun q1 => ?_⟩, fun q0 => ?_⟩
    · exact h49 0 (by rw [if_neg q0, if_neg q1, if_neg q2])
    · rw [hM.2.2.1.1]
      exact h49 _ (by rw [if_neg q0, if_neg q1, if_pos (by omega)])
    · rw [hM.1.2.1]
      exact h49 _ (by rw [if_neg q0, if_pos (by omega)])
    · rw [hM.1.1]
      exact h49 _ (by rw [if_pos (by omega)])
  have no : ¬ (0 ≤ a3 ∧ a3 < 6 ∧ 0 ≤ a2 ∧ ((a1 = 0 ∧ a2 < G 4 0) ∨ (a1 = 1 ∧ a2 < G 4 1) ∨ (a1 = 2 ∧ a2 < B.length))) → zSp 16 255 [.inr (.inr 154), .inl a1, .inl a2, .inl a3] M (fun z2 M2 => z2 = -1 ∧ Inv M2) := fun h => hm (-1) (.inr ⟨rfl, h⟩)
  have h75 : 0 ≤ a3 → a3 < 6 → 0 ≤ a2 → ¬ (a1 = 0 ∧ a2 < G 4 0) → ¬ (a1 = 1 ∧ a2 < G 4 1) → zWp (zSp 15) 106 (fun z M1 => zSp 16 255 [.inr (.inr 154), .inl a1, .inl a2, .inl a3] M1 (fun z2 M2 => z2 = z ∧ Inv M2)) 75 [some (.inr (.inr 0)), some (.inl a1), some (.inl a2), some (.inl a3)] [] M := by
    intro q1 q2 q3 q4 q5
    rw [fe_106_75, e24]
    refine zC_i h1 ⟨fun c => no (by omega), fun c => zC_i h2 (zC_i (zr (by omega) (by omega)) ⟨fun c2 => no (by omega), fun c2 => zC_i (zs (by omega) (by omega)) ?_⟩)⟩
    have nm := (xBs_get B 0 0 hX.2.2.1.2 a2.toNat (by omega)).1
    rw [show (0 : Int) + ((a2.toNat : Nat) : Int) = a2 by omega] at nm
    have nm : M 25 a2 = (bg B a2.toNat).1 := nm
    have bk := (hP.2.2.1.2.2.1 _ (bg_mem (j := a2.toNat) (by omega))).1
    rw [nm]
    exact x_letterOf bk ⟨q1, q2⟩ (hm _ (.inl ⟨q1, q2, q3, .inr (.inr ⟨by omega, by omega, rfl⟩)⟩))
  have h45 : 0 ≤ a3 → a3 < 6 → 0 ≤ a2 → ¬ (a1 = 0 ∧ a2 < G 4 0) → zWp (zSp 15) 106 (fun z M1 => zSp 16 255 [.inr (.inr 154), .inl a1, .inl a2, .inl a3] M1 (fun z2 M2 => z2 = z ∧ Inv M2)) 45 [some (.inr (.inr 0)), some (.inl a1), some (.inl a2), some (.inl a3)] [] M := by
    intro q1 q2 q3 q4
    rw [fe_106_45, e41]
    refine zC_i h1 ⟨fun c => h75 q1 q2 q3 q4 (by omega), fun c => zC_i h2 (zC_i (zr (by omega) (by omega)) ⟨fun c2 => h75 q1 q2 q3 q4 (by omega), fun c2 => zC_i (zs (by omega) (by omega)) ?_⟩)⟩
    have sk := hP.1.1.2.2 a2 q3 (by omega)
    rw [hX.1 11 (by decide) (by decide)]
    exact x_letterOf sk ⟨q1, q2⟩ (hm _ (.inl ⟨q1, q2, q3, .inr (.inl ⟨by omega, by omega, rfl⟩)⟩))
  rw [me_106, e40]
  refine zC_i h3 ⟨fun c => no (by omega), fun c => zC_i h3 ⟨fun c2 => no (by omega), fun c2 => zC_i h2 ⟨fun c3 => zC_i h1 ⟨fun c4 => h45 (by omega) (by omega) c3 (by omega), fun c4 => zC_i h2 (zC_i (zr (by omega) (by omega)) ⟨fun c5 => h45 (by omega) (by omega) c3 (by omega), fun c5 => zC_i (zs (by omega) (by omega)) ?_⟩)⟩, fun c3 => no (by omega)⟩⟩⟩
  have sk := (hP.1.1.2.1 a2 c3 (by omega)).1
  rw [hX.1 5 (by decide) (by decide)]
  exact x_letterOf sk (by omega) (hm _ (.inl ⟨by omega, by omega, c3, .inl ⟨by omega, by omega, rfl⟩⟩))
theorem m_isLine {d : Nat} {M G : Mm} {K : Kt} {a : Int} (hg : gLn G) (hm : mG G M) (ha : zR32 a = true) (hK : K (fl (0 ≤ a ∧ a < G 4 0)) M) : zSp (d + 2) 256 [.inr (.inr 154), .inl a] M K := by
  have gb := hg.1
  rw [me_256, hm.1]
  refine zC_i ha (zC_i (zr (by omega) (by omega)) (m_isIn (zr_to64 ha) (by decide) (zr64 (by omega) (by omega)) ?_))
  by_cases c : 0 ≤ a ∧ a < G 4 0
  · rw [if_pos (by omega)]
    rw [fl_t c] at hK
    exact zC_i (by decide) hK
  · rw [if_neg (by omega)]
    rw [fl_f c] at hK
    exact zC_i (by decide) hK
theorem st_10 : zStep_10 Inv := by
  intro M hI a1 h1 a2 h2
  obtain ⟨G, ot, B, J, vs, H, n, l, tn, tA, fk, fp, hP, hX, hM⟩ := hI
  have hend : Inv (zUp M 154 0 0) := ⟨G, ot, B, J, vs, H, n, l, tn, tA, fk, fp, hP, iX_thr hX _ _, iM_thr hM 0⟩
  have gb := hP.1.1.1
  have e40 : M 4 0 = G 4 0 := by rw [hX.1 4 (by decide) (by decide)]
  have hm1 : mG G (zUp M 154 0 0) := (iM_thr hM 0).1
  have no : ¬ (0 ≤ a1 ∧ a1 < G 4 0) → zSp 16 257 [.inr (.inr 154), .inl a1, .inl a2] M (fun z2 M2 => z2 = -1 ∧ Inv M2) := by
    intro hc
    rw [me_257]
    refine m_isLine (d := 13) hP.1.1 hm1 h1 ?_
    rw [fl_f hc]
    exact zC_i (by decide) ⟨fun q => absurd rfl q, fun _ => ⟨rfl, hend⟩⟩
  rw [me_107, e40]
  refine zC_i h1 ⟨fun c => no (by omega), fun c => zC_i h1 (zC_i (zr (by omega) (by omega)) ⟨fun c2 => ?_, fun c2 => no (by omega)⟩)⟩
  obtain ⟨l1, l2, l3, l4, l5, l6⟩ := hP.1.1.2.1 a1 (by omega) c2
  obtain ⟨k1, k2, k3, k4, k5, k6⟩ := hM.1.2.2.1 a1 (by omega) c2
  have yes : ∀ (K : Kt), zC (zR32 a2) (((a2 = 0 → zSp 15 170 [.inr (.inr 154), .inl a1, .inl 1] (zUp M 154 0 0) (fun z2 M2 => K z2 M2)) ∧ ((a2 = 1 → zSp 15 170 [.inr (.inr 154), .inl a1, .inl 0] (zUp M 154 0 0) (fun z3 M3 => K z3 M3)) ∧ ((a2 = 2 → zSp 15 170 [.inr (.inr 154), .inl a1, .inl 2] (zUp M 154 0 0) (fun z4 M4 => K z4 M4)) ∧ ((a2 = 3 → zSp 15 170 [.inr (.inr 154), .inl a1, .inl 3] (zUp M 154 0 0) (fun z5 M5 => K z5 M5)) ∧ True)))) ∧ ((a2 < 0 ∨ 3 < a2) → zC (zR32 a2) (zSp 15 170 [.inr (.inr 154), .inl a1, .inl 2] (zUp M 154 0 0) (fun z6 M6 => zC (zR32 (9 + z6)) (zSp 15 137 [.inr (.inl a2), .inr (.inl 10), .inr (.inl (9 + z6))] M6 (fun z7 M7 => zC (zR32 z7) ((z7 = 0 → K (-1) M7) ∧ (¬ (z7 = 0) → zSp 15 170 [.inr (.inr 154), .inl a1, .inl ((4 + a2) - 10)] M7 (fun z8 M8 => K z8 M8))))))))) → zSp 16 257 [.inr (.inr 154), .inl a1, .inl a2] M K := by
    intro K hK
    rw [me_257]
    refine m_isLine (d := 13) hP.1.1 hm1 h1 ?_
    rw [fl_t ⟨by omega, c2⟩]
    exact zC_i (by decide) ⟨fun _ => hK, fun q => absurd (by decide) q⟩
  have i0 : zSm (8 * a1 + 1) 194 = true := zs (by omega) (by omega)
  refine zC_i h2 ⟨⟨fun q => ?_, fun q => ?_, fun q => ?_, fun q => ?_, trivial⟩, fun q => ?_⟩
  · refine zC_i (zs (by omega) (by omega)) ?_
    rw [hX.1 6 (by decide) (by decide)]
    have fin : zSp 16 257 [.inr (.inr 154), .inl a1, .inl a2] M (fun z2 M2 => z2 = G 6 a1 ∧ Inv M2) := by
      refine yes _ (zC_i h2 ⟨⟨fun _ => ?_, fun q => by omega, fun q => by omega, fun q => by omega, trivial⟩, fun q => by omega⟩)
      rw [me_170]
      exact zC_i i0 ⟨k3, hend⟩
    rcases l2 with e | e
    · rw [e] at fin ⊢
      exact zC_i (by decide) ⟨fun _ => fin, fun q => absurd rfl q⟩
    · rw [e] at fin ⊢
      exact zC_i (by decide) ⟨fun q => absurd q (by decide), fun _ => fin⟩
  · refine zC_i (zs (by omega) (by omega)) ?_
    rw [hX.1 7 (by decide) (by decide)]
    refine yes _ (zC_i h2 ⟨⟨fun q => by omega, fun _ => ?_, fun q => by omega, fun q => by omega, trivial⟩, fun q => by omega⟩)
    rw [me_170]
    exact zC_i (zs (by omega) (by omega)) ⟨k2, hend⟩
  · refine zC_i (zs (by omega) (by omega)) ?_
    rw [hX.1 8 (by decide) (by decide)]
    refine yes _ (zC_i h2 ⟨⟨fun q => by omega, fun q => by omega, fun _ => ?_, fun q => by omega, trivial⟩, fun q => by omega⟩)
    rw [me_170]
    exact zC_i (zs (by omega) (by omega)) ⟨k4, hend⟩
  · refine zC_i (zs (by omega) (by omega)) ?_
    rw [hX.1 9 (by decide) (by decide)]
    have fin : zSp 16 257 [.inr (.inr 154), .inl a1, .inl a2] M (fun z2 M2 => z2 = G 9 a1 ∧ Inv M2) := by
      refine yes _ (zC_i h2 ⟨⟨fun q => by omega, fun q => by omega, fun q => by omega, fun _ => ?_, trivial⟩, fun q => by omega⟩)
      rw [me_170]
      exact zC_i (zs (by omega) (by omega)) ⟨k5, hend⟩
    rcases l5 with e | e
    · rw [e] at fin ⊢
      exact zC_i (by decide) ⟨fun _ => fin, fun q => absurd rfl q⟩
    · rw [e.1] at fin ⊢
      exact zC_i (by decide) ⟨fun q => absurd q (by decide), fun _ => fin⟩
  · have hr2 := zR32_iff.mp h2
    have go : ∀ z, ((10 ≤ a2 ∧ a2 < 10 + G 8 a1 ∧ z = G 10 (a1 * 4 + (a2 - 10))) ∨ (¬ (10 ≤ a2 ∧ a2 < 10 + G 8 a1) ∧ z = -1)) → zSp 16 257 [.inr (.inr 154), .inl a1, .inl a2] M (fun z2 M2 => z2 = z ∧ Inv M2) := by
      intro z hz
      refine yes _ (zC_i h2 ⟨⟨fun q => by omega, fun q => by omega, fun q => by omega, fun q => by omega, trivial⟩, fun _ => zC_i h2 ?_⟩)
      rw [me_170]
      refine zC_i (zs (by omega) (by omega)) ?_
      rw [zUp_away (show (156 : Nat) ≠ 154 by decide), k4]
      refine zC_i (zr (by omega) (by omega)) (m_isIn (d := 14) (zr_to64 h2) (by decide) (zr64 (by omega) (by omega)) ?_)
      by_cases c3 : 10 ≤ a2 ∧ a2 < 10 + G 8 a1
      · rw [if_pos (by omega)]
        refine zC_i (by decide) ⟨fun q => absurd q (by decide), fun _ => ?_⟩
        rw [me_170]
        have e := k6 (a2 - 10) (by omega) (by omega)
        rw [show 8 * a1 + (4 + a2 - 10) = 8 * a1 + (4 + (a2 - 10)) by omega]
        refine zC_i (zs (by omega) (by omega)) ⟨?_, hend⟩
        rw [zUp_away (show (156 : Nat) ≠ 154 by decide), e]
        omega
      · rw [if_neg (by omega)]
        exact zC_i (by decide) ⟨fun _ => ⟨by omega, hend⟩, fun q => absurd rfl q⟩
    rw [hX.1 8 (by decide) (by decide)]
    refine zC_i h2 ⟨fun c3 => go _ (.inr ⟨by omega, rfl⟩), fun c3 => zC_i (zs (by omega) (by omega)) (zC_i (zr (by omega) (by omega)) (zC_i (zr (by omega) (by omega)) ⟨fun c4 => ?_, fun c4 => go _ (.inr ⟨by omega, rfl⟩)⟩))⟩
    exact x_sortBehind hX.1 (by omega) (by omega) (go _ (.inl ⟨by omega, by omega, rfl⟩))
theorem st_11 : zStep_11 Inv := by
  intro M hI a1 h1 a2 h2
  obtain ⟨G, ot, B, J, vs, H, n, l, tn, tA, fk, fp, hP, hX, hM⟩ := hI
  have hend : Inv (zUp M 154 0 0) := ⟨G, ot, B, J, vs, H, n, l, tn, tA, fk, fp, hP, iX_thr hX _ _, iM_thr hM 0⟩
  have gb := hP.1.1.1
  have e41 : M 4 1 = G 4 1 := by rw [hX.1 4 (by decide) (by decide)]
  have hm1 : mG G (zUp M 154 0 0) := (iM_thr hM 0).1
  have hm : ∀ z, ((0 ≤ a1 ∧ a1 < G 4 1 ∧ ((a2 = -1 ∧ z = G 12 a1) ∨ (0 ≤ a2 ∧ a2 < G 12 a1 ∧ z = tNm (tSub (gT G 6 a1) a2)))) ∨ (z = -1 ∧ ¬ (0 ≤ a1 ∧ a1 < G 4 1 ∧ (a2 = -1 ∨ (0 ≤ a2 ∧ a2 < G 12 a1))))) → zSp 16 258 [.inr (.inr 154), .inl a1, .inl a2] M (fun z2 M2 => z2 = z ∧ Inv M2) := by
    intro z hz
    rw [me_258, hM.1.2.1]
    refine zC_i h1 (zC_i (zr (by omega) (by omega)) (m_isIn (d := 14) (zr_to64 h1) (by decide) (zr64 (by omega) (by omega)) ?_))
    by_cases c : 0 ≤ a1 ∧ a1 < G 4 1
    · have gl := (hP.1.2 a1 c.1 c.2).1
      have e12 := (hm1.2.2.2 a1 c.1 c.2).2.1
      rw [if_pos (by omega)]
      refine zC_i (by decide) ⟨fun _ => zC_i h2 ⟨fun q => zC_i h2 (zC_i (zs (by omega) (by omega)) ?_), fun q => ?_⟩, fun q => absurd (by decide) q⟩
      · rw [e12]
        refine zC_i (zr (by omega) (by omega)) (m_isIn (d := 14) (zr_to64 h2) (by decide) (zr64 (by omega) (by omega)) ?_)
        by_cases c2 : 0 ≤ a2 ∧ a2 < G 12 a1
        · rw [if_pos (by omega)]
          refine zC_i (by decide) ⟨fun q => absurd q (by decide), fun _ => m_leastAt (d := 13) hP.1 hm1 c.1 c.2 c2.1 c2.2 ⟨?_, hend⟩⟩
          rcases hz with hz | hz
          · rcases hz.2.2 with q2 | q2
            · omega
            · exact q2.2.2.symm
          · omega
        · rw [if_neg (by omega)]
          exact zC_i (by decide) ⟨fun _ => ⟨by omega, hend⟩, fun q => absurd rfl q⟩
      · refine zC_i (zs (by omega) (by omega)) ⟨?_, hend⟩
        rw [e12]
        omega
    · rw [if_neg (by omega)]
      exact zC_i (by decide) ⟨fun q => absurd rfl q, fun _ => ⟨by omega, hend⟩⟩
  rw [me_108, e41]
  refine zC_i h1 ⟨fun c => hm _ (.inr ⟨rfl, by omega⟩), fun c => zC_i h1 (zC_i (zr (by omega) (by omega)) ⟨fun c2 => ?_, fun c2 => hm _ (.inr ⟨rfl, by omega⟩)⟩)⟩
  have gl := (hP.1.2 a1 (by omega) c2).1
  rw [hX.1 12 (by decide) (by decide)]
  refine zC_i h2 ⟨fun c3 => zC_i h2 ⟨fun c4 => hm _ (.inr ⟨rfl, by omega⟩), fun c4 => zC_i (zs (by omega) (by omega)) (zC_i h2 (zC_i (zr (by omega) (by omega)) ⟨fun c5 => ?_, fun c5 => hm _ (.inr ⟨rfl, by omega⟩)⟩))⟩, fun c3 => zC_i (zs (by omega) (by omega)) (hm _ (.inl ⟨by omega, c2, .inl ⟨by omega, rfl⟩⟩))⟩
  exact x_leastName (d := 13) hP.1 hX.1 (by omega) c2 (by omega) c5 (hm _ (.inl ⟨by omega, c2, .inr ⟨by omega, c5, rfl⟩⟩))
