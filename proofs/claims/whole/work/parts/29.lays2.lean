theorem zBo_fl {P : Prop} [Decidable P] : zBo (fl P) = true := by
  rcases @fl_b P _ with h | h <;> rw [h] <;> decide
theorem m_chain {d : Nat} {G : Mm} {K : Kt} {b k z ln l : Int} {nm : Int → Int} (hg : gLn G) (hb : 0 ≤ b ∧ b + 161 ≤ 2093) (hk0 : 0 ≤ k) (hz : k + z ≤ 80) (hln : 0 ≤ ln ∧ ln < G 4 0) (hnm : nm k = ln) : ∀ (t : Tr) (M : Mm), mG G M → tSz t ≤ z → M 165 (b + 81 + k) = z → M 178 k = l →
    tKids (fun c u _ _ _ => M 165 (b + 81 + c) = tSz u) t k l →
    (∀ M', (∀ c, c ≠ 177 → c ≠ 178 → c ≠ 179 → c ≠ 180 → M' c = M c) → (∀ j, j ≤ k ∨ k + tSz t ≤ j → (M' 177 j = M 177 j ∧ M' 178 j = M 178 j ∧ M' 179 j = M 179 j ∧ M' 180 j = M 180 j)) → tKids (mLy G M' nm) t k l →
      zWp (zSp (d + 2)) 196 K 63 [some (.inr (.inr 154)), some (.inl b), some (.inl k), some (.inl (tKd t)), some (.inl ln), some (.inl (k + tSz t))] [] M') →
    zWp (zSp (d + 2)) 196 K 63 [some (.inr (.inr 154)), some (.inl b), some (.inl k), some (.inl 0), some (.inl ln), some (.inl (k + 1))] [] M
  | .var _, M, hm, h1, h2, h3, h4, hK => hK M (fun _ _ _ _ _ => rfl) (fun _ _ => ⟨rfl, rfl, rfl, rfl⟩) trivial
  | .op f s, M, hm, h1, h2, h3, h4, hK => by
    have h1 : tSz f + tSz s ≤ z := h1
    have q1 := tSz_pos f
    have q2 := tSz_pos s
    have q3 := tKd_nn f
    have q4 := tKd_lt f
    have q5 := gNeed_b hg hln.1 hln.2
    refine m_chain hg hb hk0 hz hln hnm f M hm (by omega) h2 h3 h4.1 ?_
    intro M1 f1 f2 f3
    have e165 : M1 165 = M 165 := f1 165 (by decide) (by decide) (by decide) (by decide)
    have hm1 : mG G M1 := mG_fr hm (f1 156 (by decide) (by decide) (by decide) (by decide)) (f1 157 (by decide) (by decide) (by decide) (by decide)) (f1 158 (by decide) (by decide) (by decide) (by decide)) (f1 162 (by decide) (by decide) (by decide) (by decide)) (f1 163 (by decide) (by decide) (by decide) (by decide))
    have h4s : M 165 (b + 81 + (k + tSz f)) = tSz s := h4.2
    have e178 : M1 178 k = l := by rw [(f2 k (by omega)).2.1]; exact h3
    rw [fe_196_63, me_176]
    refine zC_i (by first | assumption | decide | exact zr (by omega) (by omega) | exact zs (by omega) (by omega) | exact zd (by omega) (by omega)) ?_
    rw [e165, h2]
    refine zC_i (by first | assumption | decide | exact zr (by omega) (by omega) | exact zs (by omega) (by omega) | exact zd (by omega) (by omega)) (zC_i (by first | assumption | decide | exact zr (by omega) (by omega) | exact zs (by omega) (by omega) | exact zd (by omega) (by omega)) ⟨fun c => ?_, fun c => ?_⟩)
    · omega
    refine zC_i (by first | assumption | decide | exact zr (by omega) (by omega) | exact zs (by omega) (by omega) | exact zd (by omega) (by omega)) (zC_i (by first | assumption | decide | exact zr (by omega) (by omega) | exact zs (by omega) (by omega) | exact zd (by omega) (by omega)) (zC_i (by first | assumption | decide | exact zr (by omega) (by omega) | exact zs (by omega) (by omega) | exact zd (by omega) (by omega)) (zC_i (by first | assumption | decide | exact zr (by omega) (by omega) | exact zs (by omega) (by omega) | exact zd (by omega) (by omega)) ?_)))
    rw [e178]
    have hm2 : mG G (zUp (zUp (zUp M1 177 (k + tSz f) k) 178 (k + tSz f) (l + 1)) 179 (k + tSz f) (tKd f)) := mG_fr hm1 rfl rfl rfl rfl rfl
    refine m_fixed hg hm2 hln.1 hln.2 ?_
    have hend : zWp (zSp (d + 2)) 196 K 128 [some (.inr (.inr 154)), some (.inl b), some (.inl k), some (.inl (tKd f)), some (.inl ln), some (.inl (k + tSz f))] [.inl (fl (gNeed G ln ≤ tKd f)), .inl (k + tSz f), .inr (.inr 180)] (zUp (zUp (zUp M1 177 (k + tSz f) k) 178 (k + tSz f) (l + 1)) 179 (k + tSz f) (tKd f)) := by
      rw [fe_196_128]
      refine zC_i (by first | assumption | decide | exact zr (by omega) (by omega) | exact zs (by omega) (by omega) | exact zd (by omega) (by omega)) (zC_i zBo_fl ?_)
      rw [me_176]
      refine zC_i (by first | assumption | decide | exact zr (by omega) (by omega) | exact zs (by omega) (by omega) | exact zd (by omega) (by omega)) ?_
      simp only [zUp_away (show (165 : Nat) ≠ 177 by decide), zUp_away (show (165 : Nat) ≠ 178 by decide), zUp_away (show (165 : Nat) ≠ 179 by decide), zUp_away (show (165 : Nat) ≠ 180 by decide), e165, h4s]
      have e9 : k + tSz f + tSz s = k + tSz (.op f s) := by show _ = k + (tSz f + tSz s); omega
      rw [e9]
      refine hK _ ?_ ?_ ⟨tKids_mono f k l ?_ f3, ?_⟩
      · intro c c1 c2 c3 c4
        rw [zUp_away c4, zUp_away c3, zUp_away c2, zUp_away c1, f1 c c1 c2 c3 c4]
      · intro j hj
        have hj : j ≤ k ∨ k + (tSz f + tSz s) ≤ j := hj
        have hne : j ≠ k + tSz f := by omega
        obtain ⟨w1, w2, w3, w4⟩ := f2 j (by omega)
        simp (disch := omega) only [zUp_hit, zUp_away, if_neg]
        exact ⟨w1, w2, w3, w4⟩
      · intro j u a q v c1 c2 hx
        have p1 := tSz_pos u
        unfold mLy at hx ⊢
        simp (disch := omega) only [zUp_hit, zUp_away, if_neg]
        exact hx
      · unfold mLy
        simp (disch := omega) only [zUp_hit, zUp_away, ↓reduceIte]
        rw [hnm]
        refine ⟨?_, ?_, ?_, ?_⟩ <;> first | trivial | rfl
    refine zC_i (by first | assumption | decide | exact zr (by omega) (by omega) | exact zs (by omega) (by omega) | exact zd (by omega) (by omega)) (zC_i (by first | assumption | decide | exact zr (by omega) (by omega) | exact zs (by omega) (by omega) | exact zd (by omega) (by omega)) ⟨fun c => ?_, fun c => ?_⟩)
    · rw [fl_f (by omega)] at hend
      exact hend
    · rw [fl_t (by omega)] at hend
      exact hend
