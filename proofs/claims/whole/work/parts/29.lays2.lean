theorem zBo_fl {P : Prop} [Decidable P] : zBo (fl P) = true := by
  rcases @fl_b P _ with h | h <;> rw [h] <;> decide
theorem m_chain {d : Nat} {G : Mm} {K : Kt} {b k z ln l : Int} {nm : Int → Int} (hg : gLn G) (hb : 0 ≤ b ∧ b + 161 ≤ 2093) (hk0 : 0 ≤ k) (hz : k + z ≤ 80) (hln : 0 ≤ ln ∧ ln < G 4 0) (hnm : nm k = ln) : ∀ (t : Tr) (M : Mm), mG G M → tSz t ≤ z → M 165 (b + 81 + k) = z → M 178 k = l →
    tKids (fun c u _ _ _ => M 165 (b + 81 + c) = tSz u) t k l →
    (∀ M', (∀ c, c ≠ 177 → c ≠ 178 → c ≠ 179 → c ≠ 180 → M' c = M c) → (∀ j, j ≤ k ∨ k + tSz t ≤ j → (M' 177 j = M 177 j ∧ M' 178 j = M 178 j ∧ M' 179 j = M 179 j ∧ M' 180 j = M 180 j)) → tKids (mLy G M' nm) t k l →
      zWp (zSp (d + 2)) 196 K 63 [some (.inr (.inr 154)), some (.inl b), some (.inl k), some (.inl (tKd t)), some (.inl ln), some (.inl (k + tSz t))] [] M') →
    zWp (zSp (d + 2)) 196 K 63 [some (.inr (.inr 154)), some (.inl b), some (.inl k), some (.inl 0), some (.inl ln), some (.inl (k + 1))] [] M
  | .var _, M, hm, h1, h2, h3, h4, hK => hK M (fun _ _ _ _ _ => rfl) (fun _ _ => ⟨rfl, rfl, rfl, rfl⟩) trivial
  | .op f s, M, hm, h1, h2, h3, h4, hK => by
    have h1 : tSz f + tSz s ≤ z := h1
    have q1 := tSz_pos f
    have q2 := tSz_pos s
    have q3 := tKd_nn f
    have q4 := tKd_lt f
    have q5 := gNeed_b hg hln.1 hln.2
    refine m_chain hg hb hk0 hz hln hnm f M hm (by omega) h2 h3 h4.1 ?_
    intro M1 f1 f2 f3
    have e165 : M1 165 = M 165 := f1 165 (by decide) (by decide) (by decide) (by decide)
    have hm1 : mG G M1 := mG_fr hm (f1 156 (by decide) (by decide) (by decide) (by decide)) (f1 157 (by decide) (by decide) (by decide) (by decide)) (f1 158 (by decide) (by decide) (by decide) (by decide)) (f1 162 (by decide) (by decide) (by decide) (by decide)) (f1 163 (by decide) (by decide) (by decide) (by decide))
    have h4s : M 165 (b + 81 + (k + tSz f)) = tSz s := h4.2
    have e178 : M1 178 k = l := by rw [(f2 k (by omega)).2.1]; exact h3
    rw [fe_196_63, me_176]
    refine zC_i (by first | assumption | decide | exact zr (by omega) (by omega) | exact zs (by omega) (by omega) | exact zd (by omega) (by omega)) ?_
    rw [e165, h2]
    refine zC_i (by first | assumption | decide | exact zr (by omega) (by omega) | exact zs (by omega) (by omega) | exact zd (by omega) (by omega)) (zC_i (by first | assumption | decide | exact zr (by omega) (by omega) | exact zs (by omega) (by omega) | exact zd (by omega) (by omega)) ⟨fun c => ?_, fun c => ?_⟩)
    · omega
    refine zC_i (by first | assumption | decide | exact zr (by omega) (by omega) | exact zs (by omega) (by omega) | exact zd (by omega) (by omega)) (zC_i (by first | assumption | decide | exact zr (by omega) (by omega) | exact zs (by omega) (by omega) | exact zd (by omega) (by omega)) (zC_i (by first | assumption | decide | exact zr (by omega) (by omega) | exact zs (by omega) (by omega) | exact zd (by omega) (by omega)) (zC_i (by first | assumption | decide | exact zr (by omega) (by omega) | exact zs (by omega) (by omega) | exact zd (by omega) (by omega)) ?_)))
    rw [e178]
    have hm2 : mG G (zUp (zUp (zUp M1 177 (k + tSz f) k) 178 (k + tSz f) (l + 1)) 179 (k + tSz f) (tKd f)) := mG_fr hm1 rfl rfl rfl rfl rfl
    refine m_fixed hg hm2 hln.1 hln.2 ?_
    have hend : zWp (zSp (d + 2)) 196 K 128 [some (.inr (.inr 154)), some (.inl b), some (.inl k), some (.inl (tKd f)), some (.inl ln), some (.inl (k + tSz f))] [.inl (fl (gNeed G ln ≤ tKd f)), .inl (k + tSz f), .inr (.inr 180)] (zUp (zUp (zUp M1 177 (k + tSz f) k) 178 (k + tSz f) (l + 1)) 179 (k + tSz f) (tKd f)) := by
      rw [fe_196_128]
      refine zC_i (by first | assumption | decide | exact zr (by omega) (by omega) | exact zs (by omega) (by omega) | exact zd (by omega) (by omega)) (zC_i zBo_fl ?_)
      rw [me_176]
      refine zC_i (by first | assumption | decide | exact zr (by omega) (by omega) | exact zs (by omega) (by omega) | exact zd (by omega) (by omega)) ?_
      simp only [zUp_away (show (165 : Nat) ≠ 177 by decide), zUp_away (show (165 : Nat) ≠ 178 by decide), zUp_away (show (165 : Nat) ≠ 179 by decide), zUp_away (show (165 : Nat) ≠ 180 by decide), e165, h4s]
      have e9 : k + tSz f + tSz s = k + tSz (.op f s) := by show _ = k + (tSz f + tSz s); omega
      rw [e9]
      refine hK _ ?_ ?_ ⟨tKids_mono f k l ?_ f3, ?_⟩
      · intro c c1 c2 c3 c4
        rw [zUp_away c4, zUp_away c3, zUp_away c2, zUp_away c1, f1 c c1 c2 c3 c4]
      · intro j hj
        have hj : j ≤ k ∨ k + (tSz f + tSz s) ≤ j := hj
        have hne : j ≠ k + tSz f := by omega
        obtain ⟨w1, w2, w3, w4⟩ := f2 j (by omega)
        simp (disch := omega) only [zUp_hit, zUp_away, if_neg]
        exact ⟨w1, w2, w3, w4⟩
      · intro j u a q v c1 c2 hx
        have p1 := tSz_pos u
        unfold mLy at hx ⊢
        simp (disch := omega) only [zUp_hit, zUp_away, if_neg]
        exact hx
      · unfold mLy
        simp (disch := omega) only [zUp_hit, zUp_away, ↓reduceIte]
        rw [hnm]
        refine ⟨?_, ?_, ?_, ?_⟩ <;> first | trivial | rfl
    refine zC_i (by first | assumption | decide | exact zr (by omega) (by omega) | exact zs (by omega) (by omega) | exact zd (by omega) (by omega)) (zC_i (by first | assumption | decide | exact zr (by omega) (by omega) | exact zs (by omega) (by omega) | exact zd (by omega) (by omega)) ⟨fun c => ?_, fun c => ?_⟩)
    · rw [fl_f (by omega)] at hend
      exact hend
    · rw [fl_t (by omega)] at hend
      exact hend
theorem m_visit {d : Nat} {G : Mm} {K : Kt} {b n : Int} {nm : Int → Int} (hg : gLn G) (hb : 0 ≤ b ∧ b + 161 ≤ 2093) (hn : n ≤ 80) : ∀ (t : Tr) (M : Mm) (i l : Int) (u3 u4 u5 : Option Vl), mG G M → M 165 b = n → 0 ≤ i → i + tSz t ≤ n → (∀ c, nm c = M 165 (b + 1 + c)) →
    tAll (fun c u _ _ _ => M 165 (b + 1 + c) = tNm u ∧ M 165 (b + 81 + c) = tSz u) t i l → tVal (G 4 0) t → tKids (mLy G M nm) t i l → M 178 i = l → 0 ≤ l → l ≤ i → l ≤ M 154 46 → M 154 46 ≤ 80 →
    (∀ M' u3 u4 u5, (∀ c, c ≠ 177 → c ≠ 178 → c ≠ 179 → c ≠ 180 → c ≠ 154 → M' c = M c) → (∀ j, j ≠ 46 → M' 154 j = M 154 j) → M' 154 46 = zMax (M 154 46) (l + tDp t) → (∀ j, j ≤ i ∨ i + tSz t ≤ j → (M' 177 j = M 177 j ∧ M' 178 j = M 178 j ∧ M' 179 j = M 179 j ∧ M' 180 j = M 180 j)) → tAll (mLy G M' nm) t i l →
      zWp (zSp (d + 2)) 196 K 7 [some (.inr (.inr 154)), some (.inl b), some (.inl (i + tSz t)), u3, u4, u5] [] M') →
    zWp (zSp (d + 2)) 196 K 7 [some (.inr (.inr 154)), some (.inl b), some (.inl (i + 1)), u3, u4, u5] [] M
  | .var _, M, i, l, u3, u4, u5, hm, h1, h2, h3, h4, h5, h6, h7, h8, h9, h10, h11, h12, hK => by
    refine hK M u3 u4 u5 (fun _ _ _ _ _ _ => rfl) (fun _ _ => rfl) ?_ (fun _ _ => ⟨rfl, rfl, rfl, rfl⟩) trivial
    show M 154 46 = zMax (M 154 46) (l + 0)
    have := @zMax_b (M 154 46) (l + 0)
    omega
  | .op f s, M, i, l, u3, u4, u5, hm, h1, h2, h3, h4, h5, h6, h7, h8, h9, h10, h11, h12, hK => by
    have h3 : i + (tSz f + tSz s) ≤ n := h3
    have q1 := tSz_pos f
    have q2 := tSz_pos s
    have q5 := tDp_b f
    have q6 := tDp_b s
    obtain ⟨h5f, ⟨h5n, h5z⟩, h5s⟩ := h5
    refine m_visit hg hb hn f M i l u3 u4 u5 hm h1 h2 (by omega) h4 h5f h6.1 h7.1 h8 h9 h10 h11 h12 ?_
    intro M1 u3 u4 u5 f1 f2 f3 f4 f5
    have z1 := @zMax_b (M 154 46) (l + tDp f)
    have e165 : M1 165 = M 165 := f1 165 (by decide) (by decide) (by decide) (by decide) (by decide)
    have hm1 : mG G M1 := mG_fr hm (f1 156 (by decide) (by decide) (by decide) (by decide) (by decide)) (f1 157 (by decide) (by decide) (by decide) (by decide) (by decide)) (f1 158 (by decide) (by decide) (by decide) (by decide) (by decide)) (f1 162 (by decide) (by decide) (by decide) (by decide) (by decide)) (f1 163 (by decide) (by decide) (by decide) (by decide) (by decide))
    have hp := f4 (i + tSz f) (by omega)
    have h7s : mLy G M nm (i + tSz f) s i (tKd f) (l + 1) := h7.2
    unfold mLy at h7s
    obtain ⟨s1, s2, s3, s4⟩ := h7s
    have hv := tVal_nm s h6.2
    rw [fe_196_7, me_174]
    refine zC_i (by first | assumption | decide | exact zr (by omega) (by omega) | exact zs (by omega) (by omega) | exact zd (by omega) (by omega)) ?_
    rw [e165, h1]
    refine zC_i (by first | assumption | decide | exact zr (by omega) (by omega) | exact zs (by omega) (by omega) | exact zd (by omega) (by omega)) (zC_i (by first | assumption | decide | exact zr (by omega) (by omega) | exact zs (by omega) (by omega) | exact zd (by omega) (by omega)) ⟨fun c => ?_, fun c => zC_i (by first | assumption | decide | exact zr (by omega) (by omega) | exact zs (by omega) (by omega) | exact zd (by omega) (by omega)) ⟨fun _ => ?_, fun c => absurd (by omega) c⟩⟩)
    · omega
    rw [fe_196_48, me_175]
    refine zC_i (by first | assumption | decide | exact zr (by omega) (by omega) | exact zs (by omega) (by omega) | exact zd (by omega) (by omega)) ?_
    rw [e165, h5n]
    refine m_chain (nm := nm) (l := l + 1) (z := tSz s) hg hb (by omega) (by omega) hv (by rw [h4, h5n]) s M1 hm1 (by omega) (by rw [e165]; exact h5z) (by rw [hp.2.1]; exact s2) ?_ ?_
    · rw [e165]
      exact tKids_mono s _ _ (fun _ _ _ _ _ _ _ h => h.2) (tAll_kids s _ _ h5s)
    intro M2 g1 g2 g3
    have hp2 := g2 (i + tSz f) (by omega)
    have d165 : M2 165 = M 165 := by rw [g1 165 (by decide) (by decide) (by decide) (by decide), e165]
    have d154 : M2 154 = M1 154 := g1 154 (by decide) (by decide) (by decide) (by decide)
    have hm2 : mG G M2 := mG_fr hm1 (g1 156 (by decide) (by decide) (by decide) (by decide)) (g1 157 (by decide) (by decide) (by decide) (by decide)) (g1 158 (by decide) (by decide) (by decide) (by decide)) (g1 162 (by decide) (by decide) (by decide) (by decide)) (g1 163 (by decide) (by decide) (by decide) (by decide))
    have d178 : M2 178 (i + tSz f) = l + 1 := by rw [hp2.2.1, hp.2.1]; exact s2
    rw [fe_196_63, me_176]
    refine zC_i (by first | assumption | decide | exact zr (by omega) (by omega) | exact zs (by omega) (by omega) | exact zd (by omega) (by omega)) ?_
    rw [d165, h5z, d178, d154]
    have hend : ∀ M3 u3 u4 u5, (∀ c, c ≠ 154 → M3 c = M2 c) → (∀ j, j ≠ 46 → M3 154 j = M2 154 j) → M3 154 46 = zMax (M1 154 46) (l + 1) → zWp (zSp (d + 2)) 196 K 7 [some (.inr (.inr 154)), some (.inl b), some (.inl (i + tSz f + 1)), u3, u4, u5] [] M3 := by
      intro M3 u3 u4 u5 k1 k2 k3
      have z2 := @zMax_b (M1 154 46) (l + 1)
      have c165 : M3 165 = M 165 := by rw [k1 165 (by decide), d165]
      have hm3 : mG G M3 := mG_fr hm2 (k1 156 (by decide)) (k1 157 (by decide)) (k1 158 (by decide)) (k1 162 (by decide)) (k1 163 (by decide))
      refine m_visit hg hb hn s M3 (i + tSz f) (l + 1) u3 u4 u5 hm3 (by rw [c165]; exact h1) (by omega) (by omega) (by rw [c165]; exact h4) (by rw [c165]; exact h5s) h6.2 ?_ (by rw [k1 178 (by decide)]; exact d178) (by omega) (by omega) (by omega) (by omega) ?_
      · unfold mLy at g3 ⊢
        rw [k1 177 (by decide), k1 178 (by decide), k1 179 (by decide), k1 180 (by decide)]
        exact g3
      intro M4 u3 u4 u5 p1 p2 p3 p4 p5
      have z3 := @zMax_b (M3 154 46) (l + 1 + tDp s)
      have z4 := @zMax_b (tDp f) (tDp s + 1)
      have z5 := @zMax_b (M 154 46) (l + zMax (tDp f) (tDp s + 1))
      have e9 : i + tSz f + tSz s = i + tSz (.op f s) := by show _ = i + (tSz f + tSz s); omega
      have hall : ∀ j, j ≤ i + tSz f → (M4 177 j = M1 177 j ∧ M4 178 j = M1 178 j ∧ M4 179 j = M1 179 j ∧ M4 180 j = M1 180 j) := by
        intro j hj
        obtain ⟨w1, w2, w3, w4⟩ := p4 j (.inl hj)
        obtain ⟨v1, v2, v3, v4⟩ := g2 j (.inl hj)
        rw [w1, w2, w3, w4, k1 177 (by decide), k1 178 (by decide), k1 179 (by decide), k1 180 (by decide)]
        exact ⟨v1, v2, v3, v4⟩
      rw [e9]
      refine hK M4 u3 u4 u5 ?_ ?_ ?_ ?_ ⟨?_, ?_, p5⟩
      · intro c c1 c2 c3 c4 c5
        rw [p1 c c1 c2 c3 c4 c5, k1 c c5, g1 c c1 c2 c3 c4, f1 c c1 c2 c3 c4 c5]
      · intro j hj
        rw [p2 j hj, k2 j hj, d154, f2 j hj]
      · show M4 154 46 = zMax (M 154 46) (l + zMax (tDp f) (tDp s + 1))
        omega
      · intro j hj
        have hj : j ≤ i ∨ i + (tSz f + tSz s) ≤ j := hj
        rcases hj with hj | hj
        · obtain ⟨w1, w2, w3, w4⟩ := hall j (by omega)
          obtain ⟨v1, v2, v3, v4⟩ := f4 j (by omega)
          rw [w1, w2, w3, w4]
          exact ⟨v1, v2, v3, v4⟩
        · obtain ⟨w1, w2, w3, w4⟩ := p4 j (by omega)
          obtain ⟨v1, v2, v3, v4⟩ := g2 j (by omega)
          obtain ⟨x1, x2, x3, x4⟩ := f4 j (by omega)
          rw [w1, w2, w3, w4, k1 177 (by decide), k1 178 (by decide), k1 179 (by decide), k1 180 (by decide), v1, v2, v3, v4]
          exact ⟨x1, x2, x3, x4⟩
      · refine tAll_mono f i l ?_ f5
        intro k u a q v c1 c2 c3 c4 c5 c6 hx
        have p1 := tSz_pos u
        obtain ⟨w1, w2, w3, w4⟩ := hall k (by omega)
        unfold mLy at hx ⊢
        rw [w1, w2, w3, w4]
        exact hx
      · obtain ⟨w1, w2, w3, w4⟩ := hall (i + tSz f) (by omega)
        unfold mLy
        rw [w1, w2, w3, w4, hp.1, hp.2.1, hp.2.2.1, hp.2.2.2]
        exact ⟨s1, s2, s3, s4⟩
    have z2 := @zMax_b (M1 154 46) (l + 1)
    refine zC_i (by first | assumption | decide | exact zr (by omega) (by omega) | exact zs (by omega) (by omega) | exact zd (by omega) (by omega)) (zC_i (by first | assumption | decide | exact zr (by omega) (by omega) | exact zs (by omega) (by omega) | exact zd (by omega) (by omega)) ⟨fun _ => zC_i (by first | assumption | decide | exact zr (by omega) (by omega) | exact zs (by omega) (by omega) | exact zd (by omega) (by omega)) (zC_i (by first | assumption | decide | exact zr (by omega) (by omega) | exact zs (by omega) (by omega) | exact zd (by omega) (by omega)) (zC_i (by first | assumption | decide | exact zr (by omega) (by omega) | exact zs (by omega) (by omega) | exact zd (by omega) (by omega)) ⟨fun c => ?_, fun c => zC_i (by first | assumption | decide | exact zr (by omega) (by omega) | exact zs (by omega) (by omega) | exact zd (by omega) (by omega)) ?_⟩)), fun c => absurd (by omega) c⟩)
    · exact hend M2 _ _ _ (fun _ _ => rfl) (fun _ _ => rfl) (by rw [d154]; omega)
    · exact hend _ _ _ _ (fun c hc => zUp_away hc) (fun j hj => zUp_there hj) (by rw [zUp_here]; omega)
/-- what lays leaves for the tree at b -/
def mLay (G M : Mm) (t : Tr) (b : Int) : Prop := M 154 46 = tDp t ∧ M 177 0 = -1 ∧ M 178 0 = 0 ∧ M 179 0 = -1 ∧ M 180 0 = 0 ∧ tAll (mLy G M (fun a => M 165 (b + 1 + a))) t 0 0
theorem m_lays {d : Nat} {M G : Mm} {K : Kt} {b : Int} {t : Tr} (hg : gLn G) (hm : mG G M) (hb : 0 ≤ b ∧ b + 161 ≤ 2093) (ht : mTr M b t) (hv : tVal (G 4 0) t)
    (hK : ∀ M', mLay G M' t b → (∀ c, c ≠ 177 → c ≠ 178 → c ≠ 179 → c ≠ 180 → c ≠ 154 → M' c = M c) → (∀ j, j ≠ 46 → M' 154 j = M 154 j) → K 0 M') : zSp (d + 3) 196 [.inr (.inr 154), .inl b] M K := by
  obtain ⟨⟨t1, t2, t3, t4⟩, t5⟩ := ht
  have q1 := tSz_pos t
  have q5 := tDp_b t
  have hv' := tVal_nm t hv
  rw [me_196, fe_196_7, me_174]
  refine zC_i (by first | assumption | decide | exact zr (by omega) (by omega) | exact zs (by omega) (by omega) | exact zd (by omega) (by omega)) ?_
  rw [zUp_away (by decide), t1]
  refine zC_i (by first | assumption | decide | exact zr (by omega) (by omega) | exact zs (by omega) (by omega) | exact zd (by omega) (by omega)) (zC_i (by first | assumption | decide | exact zr (by omega) (by omega) | exact zs (by omega) (by omega) | exact zd (by omega) (by omega)) ⟨fun c => ?_, fun c => zC_i (by first | assumption | decide | exact zr (by omega) (by omega) | exact zs (by omega) (by omega) | exact zd (by omega) (by omega)) ⟨fun c => absurd rfl c, fun _ => ?_⟩⟩)
  · omega
  rw [fe_196_48, me_175]
  refine zC_i (by first | assumption | decide | exact zr (by omega) (by omega) | exact zs (by omega) (by omega) | exact zd (by omega) (by omega)) ?_
  have e165 : (zUp (zUp (zUp (zUp (zUp M 154 46 0) 177 0 (-1)) 178 0 0) 179 0 (-1)) 180 0 0) 165 = M 165 := rfl
  have hm1 : mG G (zUp (zUp (zUp (zUp (zUp M 154 46 0) 177 0 (-1)) 178 0 0) 179 0 (-1)) 180 0 0) := mG_fr hm rfl rfl rfl rfl rfl
  rw [e165, t2]
  refine m_chain (l := 0) (z := tSz t) (nm := fun a => M 165 (b + 1 + a)) hg hb (by omega) (by omega) hv' t2 t _ hm1 (by omega) (by rw [e165]; exact t3) rfl ?_ ?_
  · rw [e165]
    exact tKids_mono t _ _ (fun _ _ _ _ _ _ _ h => h.2) (tAll_kids t _ _ t4)
  intro M1 f1 f2 f3
  have r0 := f2 0 (by omega)
  have d165 : M1 165 = M 165 := by rw [f1 165 (by decide) (by decide) (by decide) (by decide), e165]
  have d178 : M1 178 0 = 0 := by rw [r0.2.1]; rfl
  have d154 : M1 154 46 = 0 := by rw [f1 154 (by decide) (by decide) (by decide) (by decide)]; rfl
  have hm2 : mG G M1 := mG_fr hm1 (f1 156 (by decide) (by decide) (by decide) (by decide)) (f1 157 (by decide) (by decide) (by decide) (by decide)) (f1 158 (by decide) (by decide) (by decide) (by decide)) (f1 162 (by decide) (by decide) (by decide) (by decide)) (f1 163 (by decide) (by decide) (by decide) (by decide))
  rw [fe_196_63, me_176]
  refine zC_i (by first | assumption | decide | exact zr (by omega) (by omega) | exact zs (by omega) (by omega) | exact zd (by omega) (by omega)) ?_
  rw [d165, t3, d178, d154]
  refine zC_i (by first | assumption | decide | exact zr (by omega) (by omega) | exact zs (by omega) (by omega) | exact zd (by omega) (by omega)) (zC_i (by first | assumption | decide | exact zr (by omega) (by omega) | exact zs (by omega) (by omega) | exact zd (by omega) (by omega)) ⟨fun _ => zC_i (by first | assumption | decide | exact zr (by omega) (by omega) | exact zs (by omega) (by omega) | exact zd (by omega) (by omega)) (zC_i (by first | assumption | decide | exact zr (by omega) (by omega) | exact zs (by omega) (by omega) | exact zd (by omega) (by omega)) (zC_i (by first | assumption | decide | exact zr (by omega) (by omega) | exact zs (by omega) (by omega) | exact zd (by omega) (by omega)) ⟨fun _ => ?_, fun c => absurd (by omega) c⟩)), fun c => absurd (by omega) c⟩)
  refine m_visit (nm := fun a => M 165 (b + 1 + a)) hg hb t5 t M1 0 0 _ _ _ hm2 (by rw [d165]; exact t1) (by omega) (by omega) (by rw [d165]; exact fun _ => rfl) (by rw [d165]; exact t4) hv f3 d178 (by omega) (by omega) (by omega) (by omega) ?_
  intro M2 u3 u4 u5 g1 g2 g3 g4 g5
  have k0 := g4 0 (by omega)
  have z3 := @zMax_b (M1 154 46) (0 + tDp t)
  have c165 : M2 165 = M 165 := by rw [g1 165 (by decide) (by decide) (by decide) (by decide) (by decide), d165]
  rw [fe_196_7, me_174]
  refine zC_i (by first | assumption | decide | exact zr (by omega) (by omega) | exact zs (by omega) (by omega) | exact zd (by omega) (by omega)) ?_
  rw [c165, t1]
  refine zC_i (by first | assumption | decide | exact zr (by omega) (by omega) | exact zs (by omega) (by omega) | exact zd (by omega) (by omega)) (zC_i (by first | assumption | decide | exact zr (by omega) (by omega) | exact zs (by omega) (by omega) | exact zd (by omega) (by omega)) ⟨fun _ => ?_, fun c => absurd (by omega) c⟩)
  refine hK M2 ⟨by omega, ?_, ?_, ?_, ?_, ?_⟩ ?_ ?_
  · rw [k0.1, r0.1]; rfl
  · rw [k0.2.1, r0.2.1]; rfl
  · rw [k0.2.2.1, r0.2.2.1]; rfl
  · rw [k0.2.2.2, r0.2.2.2]; rfl
  · rw [c165]; exact g5
  · intro c c1 c2 c3 c4 c5
    rw [g1 c c1 c2 c3 c4 c5, f1 c c1 c2 c3 c4, zUp_away c4, zUp_away c3, zUp_away c2, zUp_away c1, zUp_away c5]
  · intro j hj
    rw [g2 j hj, f1 154 (by decide) (by decide) (by decide) (by decide)]
    simp only [zUp_away (show (154 : Nat) ≠ 180 by decide), zUp_away (show (154 : Nat) ≠ 179 by decide), zUp_away (show (154 : Nat) ≠ 178 by decide), zUp_away (show (154 : Nat) ≠ 177 by decide), zUp_there hj]
