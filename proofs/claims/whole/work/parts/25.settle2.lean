/-! LAYER 3: settle, forward and backward -/
def xFo (M : Mm) (b : Nat) : Int → Tr → Int → Int → Int → Prop := fun k u a q v => M (b + 3) k = a ∧ M (b + 4) k = q ∧ M (b + 5) k = v ∧ M (b + 6) k = 1 ∧ M (b + 7) k = tKd u
theorem x_fore {d : Nat} {K : Kt} {b : Nat} {n : Int} (hb : xT b) (hn : n ≤ 80) : ∀ (t : Tr) (M : Mm) (i l : Int) (x2 x3 : Option Vl), 0 ≤ i → i + tSz t ≤ n → M b 1 = n →
    tAll (fun k u _ _ _ => M (b + 2) k = tKd u) t i l → tKd t ≤ M (b + 2) i → M (b + 2) i ≤ 80 → M (b + 7) i = 0 → M (b + 5) i = l → 0 ≤ l → l ≤ i → l ≤ M b 2 → M b 2 ≤ 80 →
    (∀ M' x2 x3, (∀ c, c ≠ b → c ≠ b + 3 → c ≠ b + 4 → c ≠ b + 5 → c ≠ b + 6 → c ≠ b + 7 → M' c = M c) → (∀ j, j ≠ 2 → M' b j = M b j) → M' b 2 = zMax (M b 2) (l + tDp t) →
      (∀ j, j ≤ i → M' (b + 3) j = M (b + 3) j ∧ M' (b + 4) j = M (b + 4) j ∧ M' (b + 5) j = M (b + 5) j ∧ M' (b + 6) j = M (b + 6) j) → (∀ j, j < i → M' (b + 7) j = M (b + 7) j) → M' (b + 7) i = tKd t →
      tAll (xFo M' b) t i l → (∃ m : Nat, m < tSz t ∧ tCl M' b m (i + tSz t - 1) i) →
      zWp (zSp d) 84 K 7 [some (.inr (.inr b)), some (.inl (i + tSz t)), x2, x3] [] M') →
    zWp (zSp d) 84 K 7 [some (.inr (.inr b)), some (.inl (i + 1)), x2, x3] [] M
  | .var nm, M, i, l, x2, x3, h0, h1, h2, hp, hp1, hp2, hf, hl, hl0, hl1, hd, hd2, hk => by
    refine hk M x2 x3 (fun _ _ _ _ _ _ _ => rfl) (fun _ _ => rfl) ?_ (fun _ _ => ⟨rfl, rfl, rfl, rfl⟩) (fun _ _ => rfl) hf trivial ⟨0, ?_, ?_⟩
    · show M b 2 = zMax (M b 2) (l + 0)
      have := @zMax_b (M b 2) (l + 0)
      omega
    · show ((0 : Nat) : Int) < 1
      decide
    · show i + 1 - 1 = i
      omega
  | .op f s, M, i, l, x2, x3, h0, h1, h2, hp, hp1, hp2, hf, hl, hl0, hl1, hd, hd2, hk => by
    obtain ⟨o, ⟨a1, a2, a3, a4, a5, a6, a7⟩, l1, l2, l3, l4, l5, l6, l7⟩ := xT_c hb
    have h1 : i + (tSz f + tSz s) ≤ n := h1
    have hp1 : tKd f + 1 ≤ M (b + 2) i := hp1
    have q1 := tSz_pos f
    have q2 := tSz_pos s
    have q3 := tKd_nn f
    have q4 := tKd_nn s
    have q5 := tDp_b f
    have q6 := tDp_b s
    have q7 := tKd_lt s
    obtain ⟨hp3, hp4, hp5⟩ := hp
    refine x_fore hb hn f M i l x2 x3 h0 (by omega) h2 hp3 (by omega) hp2 hf hl hl0 hl1 hd hd2 ?_
    intro M1 y2 y3 f1 f2 f3 f4 f5 f6 f7 f8
    obtain ⟨m, hm, hc⟩ := f8
    have z1 := @zMax_b (M b 2) (l + tDp f)
    have e2 : M1 (b + 2) = M (b + 2) := f1 (b + 2) (by omega) (by omega) (by omega) (by omega) (by omega) (by omega)
    have e1 : M1 b 1 = n := by rw [f2 1 (by decide)]; exact h2
    have e5 : M1 (b + 5) i = l := by rw [(f4 i (by omega)).2.2.1]; exact hl
    rw [fe_84_7]
    simp only [o, zC_t, e1]
    refine zC_i (by first | assumption | decide | exact zr (by omega) (by omega) | exact zs (by omega) (by omega) | exact zd (by omega) (by omega)) (zC_i (by first | assumption | decide | exact zr (by omega) (by omega) | exact zs (by omega) (by omega) | exact zd (by omega) (by omega)) ⟨fun c => ?_, fun c => ?_⟩)
    · omega
    refine x_climb hb (x1 := i + tSz f) (a := i) (by omega) (by omega) (.inr (by rw [e2, f6]; omega)) (fun x3 => ?_) m _ 0 hc (by omega) (by omega)
    refine x_one hb (by omega) (by omega) (by omega) (by rw [e5]; omega) ?_
    intro M2 y2 y3 g1 g2 g3 g4 g5 g6 g7 g8
    have z2 := @zMax_b (M1 b 2) (M1 (b + 5) i + 1)
    rw [e5] at z2 g3
    have d2 : M2 (b + 2) = M (b + 2) := by rw [g1 (b + 2) (by omega) (by omega) (by omega) (by omega) (by omega) (by omega), e2]
    refine x_fore hb hn s M2 (i + tSz f) (l + 1) y2 y3 (by omega) (by omega) (by rw [g2 1 (by decide)]; exact e1) (by rw [d2]; exact hp5) (by rw [d2, hp4]; omega) (by rw [d2, hp4]; omega) (by rw [g8, if_pos rfl]) (by rw [g6, if_pos rfl, e5]) (by omega) (by omega) (by omega) (by omega) ?_
    intro M3 y2 y3 k1 k2 k3 k4 k5 k6 k7 k8
    obtain ⟨m', hm', hc'⟩ := k8
    have z3 := @zMax_b (M2 b 2) (l + 1 + tDp s)
    have z4 := @zMax_b (tDp f) (tDp s + 1)
    have z5 := @zMax_b (M b 2) (l + zMax (tDp f) (tDp s + 1))
    have d3 : M3 (b + 2) = M (b + 2) := by rw [k1 (b + 2) (by omega) (by omega) (by omega) (by omega) (by omega) (by omega), d2]
    have e9 : i + tSz f + tSz s = i + tSz (.op f s) := by show _ = i + (tSz f + tSz s); omega
    rw [e9]
    refine hk M3 y2 y3 ?_ ?_ ?_ ?_ ?_ ?_ ?_ ?_
    · intro c c1 c2 c3 c4 c5 c6
      rw [k1 c c1 c2 c3 c4 c5 c6, g1 c c1 c2 c3 c4 c5 c6, f1 c c1 c2 c3 c4 c5 c6]
    · intro j hj
      rw [k2 j hj, g2 j hj, f2 j hj]
    · show M3 b 2 = zMax (M b 2) (l + zMax (tDp f) (tDp s + 1))
      omega
    · intro j hj
      obtain ⟨w1, w2, w3, w4⟩ := k4 j (by omega)
      obtain ⟨v1, v2, v3, v4⟩ := f4 j hj
      rw [w1, w2, w3, w4, g4, g5, g6, g7, if_neg (by omega), if_neg (by omega), if_neg (by omega), if_neg (by omega)]
      exact ⟨v1, v2, v3, v4⟩
    · intro j hj
      rw [k5 j (by omega), g8, if_neg (by omega), if_neg (by omega), f5 j hj]
    · rw [k5 i (by omega), g8, if_neg (by omega), if_pos rfl, f6]
      rfl
    · refine ⟨tAll_mono f i l ?_ f7, ?_, k7⟩
      · intro k u a q v c1 c2 c3 c4 c5 c6 hx
        have p1 := tSz_pos u
        obtain ⟨w1, w2, w3, w4⟩ := k4 k (by omega)
        unfold xFo at hx ⊢
        rw [w1, w2, w3, w4, g4, g5, g6, g7, if_neg (by omega), if_neg (by omega), if_neg (by omega), if_neg (by omega), k5 k (by omega), g8, if_neg (by omega), if_neg (by omega)]
        exact hx
      · obtain ⟨w1, w2, w3, w4⟩ := k4 (i + tSz f) (by omega)
        unfold xFo
        rw [w1, w2, w3, w4, g4, g5, g6, g7, if_pos rfl, if_pos rfl, if_pos rfl, if_pos rfl, f6, e5]
        exact ⟨rfl, rfl, rfl, rfl, k6⟩
    · refine ⟨m' + 1, by show ((m' + 1 : Nat) : Int) < tSz f + tSz s; omega, ?_⟩
      obtain ⟨w1, w2, w3, w4⟩ := k4 (i + tSz f) (by omega)
      rw [← e9]
      refine tCl_snoc m' _ (i + tSz f) i hc' (by omega) ?_ ?_
      · rw [d3, k6, hp4]; omega
      · rw [w1, g4, if_pos rfl]
theorem x_back {d : Nat} {K : Kt} {b : Nat} {n : Int} (hb : xT b) (hn : n ≤ 80) : ∀ (t : Tr) (M : Mm) (i l : Int) (x2 x3 : Option Vl), 0 ≤ i → i + tSz t ≤ n →
    tAll (fun k _ a _ _ => M (b + 3) k = a ∧ M (b + 6) k = 1) t i l →
    (∀ M', (∀ c, c ≠ b + 6 → M' c = M c) → (∀ j, j < i → M' (b + 6) j = M (b + 6) j) → (∀ j, i + tSz t ≤ j → M' (b + 6) j = M (b + 6) j) → M' (b + 6) i = M (b + 6) i + tSz t - 1 → tAll (fun k u _ _ _ => M' (b + 6) k = tSz u) t i l →
      zWp (zSp d) 84 K 165 [some (.inr (.inr b)), some (.inl i), x2, x3] [] M') →
    zWp (zSp d) 84 K 165 [some (.inr (.inr b)), some (.inl (i + tSz t - 1)), x2, x3] [] M
  | .var nm, M, i, l, x2, x3, h0, h1, hp, hk => by
    have h := hk M (fun _ _ => rfl) (fun _ _ => rfl) (fun _ _ => rfl) (by show M (b + 6) i = M (b + 6) i + 1 - 1; omega) trivial
    rw [show i + tSz (.var nm) - 1 = i by show i + 1 - 1 = i; omega]
    exact h
  | .op f s, M, i, l, x2, x3, h0, h1, hp, hk => by
    obtain ⟨o, ⟨a1, a2, a3, a4, a5, a6, a7⟩, l1, l2, l3, l4, l5, l6, l7⟩ := xT_c hb
    have h1 : i + (tSz f + tSz s) ≤ n := h1
    have q1 := tSz_pos f
    have q2 := tSz_pos s
    obtain ⟨hp3, ⟨hp4, hp6⟩, hp5⟩ := hp
    rw [show i + tSz (.op f s) - 1 = i + tSz f + tSz s - 1 by show i + (tSz f + tSz s) - 1 = _; omega]
    refine x_back hb hn s M (i + tSz f) (l + 1) x2 x3 (by omega) (by omega) hp5 ?_
    intro M1 f1 f2 f3 f4 f5
    have e3 : M1 (b + 3) = M (b + 3) := f1 (b + 3) (by omega)
    rw [fe_84_165]
    simp only [o, a3, a6, l3, l6, zC_t, e3, hp4]
    refine zC_i (by first | assumption | decide | exact zr (by omega) (by omega) | exact zs (by omega) (by omega) | exact zd (by omega) (by omega)) ⟨fun c => ?_, fun c => ?_⟩
    · omega
    (repeat (refine zC_i (by first | assumption | decide | exact zr (by omega) (by omega) | exact zs (by omega) (by omega) | exact zd (by omega) (by omega)) ?_))
    refine ⟨fun c => ?_, fun c => ?_⟩
    · omega
    (repeat (refine zC_i (by first | assumption | decide | exact zr (by omega) (by omega) | exact zs (by omega) (by omega) | exact zd (by omega) (by omega)) ?_))
    rw [show i + tSz f + -1 = i + tSz f - 1 by omega]
    refine x_back hb hn f _ i l x2 x3 h0 (by omega) ?_ ?_
    · refine tAll_mono f i l ?_ hp3
      intro k u a q v c1 c2 c3 c4 c5 c6 hx
      have p1 := tSz_pos u
      rw [zUp_away (by omega), e3, zUp_hit, if_neg (by omega), f2 k (by omega)]
      exact hx
    intro M2 g1 g2 g3 g4 g5
    refine hk M2 ?_ ?_ ?_ ?_ ⟨g5, ?_, ?_⟩
    · intro c hc
      rw [g1 c hc, zUp_away hc, f1 c hc]
    · intro j hj
      rw [g2 j hj, zUp_hit, if_neg (by omega), f2 j (by omega)]
    · intro j hj
      have hj : i + (tSz f + tSz s) ≤ j := hj
      rw [g3 j (by omega), zUp_hit, if_neg (by omega), f3 j (by omega)]
    · rw [g4, zUp_here, f2 i (by omega), f4, hp6]
      show _ = M (b + 6) i + (tSz f + tSz s) - 1
      omega
    · show M2 (b + 6) (i + tSz f) = tSz s
      rw [g3 (i + tSz f) (by omega), zUp_hit, if_neg (by omega), f4, hp6]
      omega
    · refine tAll_mono s _ _ ?_ f5
      intro k u a q v c1 c2 c3 c4 c5 c6 hx
      rw [g3 k (by omega), zUp_hit, if_neg (by omega)]
      exact hx
/-- the names and parts of a tree stand in the class's arrays -/
def xNP (M : Mm) (b : Nat) (t : Tr) : Prop := M b 1 = tSz t ∧ M (b + 1) 0 = tNm t ∧ M (b + 2) 0 = tKd t ∧ tAll (fun k u _ _ _ => M (b + 1) k = tNm u ∧ M (b + 2) k = tKd u) t 0 0
/-- a settled tree -/
def xTr (M : Mm) (b : Nat) (t : Tr) : Prop := xNP M b t ∧ tSz t ≤ 80 ∧ M b 2 = tDp t ∧ M (b + 3) 0 = -1 ∧ M (b + 4) 0 = -1 ∧ M (b + 5) 0 = 0 ∧ M (b + 6) 0 = tSz t ∧ tAll (fun k u a q v => M (b + 3) k = a ∧ M (b + 4) k = q ∧ M (b + 5) k = v ∧ M (b + 6) k = tSz u) t 0 0
theorem x_settle {d : Nat} {M : Mm} {K : Kt} {b : Nat} {t : Tr} (hb : xT b) (ht : xNP M b t) (hz : tSz t ≤ 80) (hK : ∀ M', xTr M' b t → (∀ c, c < b ∨ b + 8 ≤ c → M' c = M c) → K 0 M') : zSp (d + 1) 84 [.inr (.inr b)] M K := by
  obtain ⟨o, ⟨a1, a2, a3, a4, a5, a6, a7⟩, l1, l2, l3, l4, l5, l6, l7⟩ := xT_c hb
  obtain ⟨t1, t2, t3, t4⟩ := ht
  have q1 := tSz_pos t
  have q2 := tKd_lt t
  have q3 := tDp_b t
  have q4 := tKd_nn t
  rw [me_84]
  simp only [o, zC_t]
  rw [fe_84_7]
  simp only [o, zC_t, zUp_there (show (1 : Int) ≠ 2 by decide)]
  refine zC_i (by first | assumption | decide | exact zr (by omega) (by omega) | exact zs (by omega) (by omega) | exact zd (by omega) (by omega)) (zC_i (by first | assumption | decide | exact zr (by omega) (by omega) | exact zs (by omega) (by omega) | exact zd (by omega) (by omega)) ⟨fun c => ?_, fun c => ?_⟩)
  · omega
  rw [fe_84_21]
  refine zC_i (by first | assumption | decide | exact zr (by omega) (by omega) | exact zs (by omega) (by omega) | exact zd (by omega) (by omega)) (zC_i (by first | assumption | decide | exact zr (by omega) (by omega) | exact zs (by omega) (by omega) | exact zd (by omega) (by omega)) ⟨fun _ => ?_, fun c => absurd (by decide) c⟩)
  rw [fe_84_58]
  simp only [o, a3, l3, zC_t]
  refine zC_i (by first | assumption | decide | exact zr (by omega) (by omega) | exact zs (by omega) (by omega) | exact zd (by omega) (by omega)) (zC_i (by first | assumption | decide | exact zr (by omega) (by omega) | exact zs (by omega) (by omega) | exact zd (by omega) (by omega)) ⟨fun c => absurd c (by decide), fun _ => ?_⟩)
  rw [fe_84_84]
  simp only [o, a4, l4, zC_t]
  refine zC_i (by first | assumption | decide | exact zr (by omega) (by omega) | exact zs (by omega) (by omega) | exact zd (by omega) (by omega)) (zC_i (by first | assumption | decide | exact zr (by omega) (by omega) | exact zs (by omega) (by omega) | exact zd (by omega) (by omega)) ⟨fun c => absurd c (by decide), fun _ => ?_⟩)
  rw [fe_84_106]
  simp only [o, a5, l5, zC_t]
  refine zC_i (by first | assumption | decide | exact zr (by omega) (by omega) | exact zs (by omega) (by omega) | exact zd (by omega) (by omega)) (zC_i (by first | assumption | decide | exact zr (by omega) (by omega) | exact zs (by omega) (by omega) | exact zd (by omega) (by omega)) ⟨fun _ => ?_, fun c => absurd (by decide) c⟩)
  rw [fe_84_121]
  simp only [o, a5, a6, a7, l5, l6, l7, zC_t]
  simp (disch := omega) only [zUp_hit, zUp_away, if_pos, if_neg, ↓reduceIte]
  (repeat (refine zC_i (by first | assumption | decide | exact zr (by omega) (by omega) | exact zs (by omega) (by omega) | exact zd (by omega) (by omega)) ?_))
  have em : zMax 0 0 = 0 := rfl
  refine x_fore hb hz t _ 0 0 _ _ (by omega) (by omega) ?_ ?_ ?_ ?_ ?_ ?_ (by omega) (by omega) ?_ ?_ ?_
  · simp (disch := omega) only [zUp_hit, zUp_away, if_neg, ↓reduceIte]
    exact t1
  · simp (disch := omega) only [zUp_away]
    exact tAll_mono t 0 0 (fun _ _ _ _ _ _ _ _ _ _ _ h => h.2) t4
  · simp (disch := omega) only [zUp_away]
    omega
  · simp (disch := omega) only [zUp_away]
    omega
  · simp (disch := omega) only [zUp_hit, zUp_away, ↓reduceIte]
  · simp (disch := omega) only [zUp_hit, zUp_away, ↓reduceIte]
  · simp (disch := omega) only [zUp_hit, zUp_away, ↓reduceIte, em]
    decide
  · simp (disch := omega) only [zUp_hit, zUp_away, ↓reduceIte, em]
    decide
  simp (disch := omega) only [zUp_hit, zUp_away, ↓reduceIte, em]
  intro M1 y2 y3 f1 f2 f3 f4 f5 f6 f7 f8
  have z1 := @zMax_b 0 (0 + tDp t)
  have e1 : M1 b 1 = tSz t := by
    rw [f2 1 (by decide), if_neg (by decide), if_neg (by decide)]
    exact t1
  have r0 := f4 0 (by omega)
  simp (disch := omega) only [zUp_hit, zUp_away, ↓reduceIte] at r0
  obtain ⟨r3, r4, r5, r6⟩ := r0
  rw [fe_84_7]
  simp only [o, zC_t, e1]
  refine zC_i (by first | assumption | decide | exact zr (by omega) (by omega) | exact zs (by omega) (by omega) | exact zd (by omega) (by omega)) (zC_i (by first | assumption | decide | exact zr (by omega) (by omega) | exact zs (by omega) (by omega) | exact zd (by omega) (by omega)) ⟨fun _ => ?_, fun c => absurd (by omega) c⟩)
  rw [show tSz t - 1 = 0 + tSz t - 1 by omega]
  refine x_back hb hz t M1 0 0 _ _ (by omega) (by omega) (tAll_mono t 0 0 (fun _ _ _ _ _ _ _ _ _ _ _ h => ⟨h.1, h.2.2.2.1⟩) f7) ?_
  intro M2 g1 g2 g3 g4 g5
  rw [fe_84_165]
  refine zC_i (by first | assumption | decide | exact zr (by omega) (by omega) | exact zs (by omega) (by omega) | exact zd (by omega) (by omega)) ⟨fun _ => ?_, fun c => absurd (by omega) c⟩
  have w : ∀ c, c ≠ b + 6 → c ≠ b → c ≠ b + 3 → c ≠ b + 4 → c ≠ b + 5 → c ≠ b + 7 → M2 c = M c := fun c c6 c0 c3 c4 c5 c7 => by
    rw [g1 c c6, f1 c c0 c3 c4 c5 c6 c7]
    simp only [zUp_away c0, zUp_away c3, zUp_away c4, zUp_away c5, zUp_away c6, zUp_away c7]
  refine hK M2 ⟨⟨?_, ?_, ?_, ?_⟩, hz, ?_, ?_, ?_, ?_, ?_, ?_⟩ ?_
  · rw [g1 b (by omega)]; exact e1
  · rw [w (b + 1) (by omega) (by omega) (by omega) (by omega) (by omega) (by omega)]; exact t2
  · rw [w (b + 2) (by omega) (by omega) (by omega) (by omega) (by omega) (by omega)]; exact t3
  · rw [w (b + 1) (by omega) (by omega) (by omega) (by omega) (by omega) (by omega), w (b + 2) (by omega) (by omega) (by omega) (by omega) (by omega) (by omega)]; exact t4
  · rw [g1 b (by omega), f3]; omega
  · rw [g1 (b + 3) (by omega)]; exact r3
  · rw [g1 (b + 4) (by omega)]; exact r4
  · rw [g1 (b + 5) (by omega)]; exact r5
  · rw [g4, r6]; omega
  · have h := tAll_and t 0 0 f7 g5
    refine tAll_mono t 0 0 ?_ h
    intro k u a q v _ _ _ _ _ _ hx
    obtain ⟨⟨x1, x2, x3, x4, x5⟩, x6⟩ := hx
    rw [g1 (b + 3) (by omega), g1 (b + 4) (by omega), g1 (b + 5) (by omega)]
    exact ⟨x1, x2, x3, x6⟩
  · intro c hc
    exact w c (by omega) (by omega) (by omega) (by omega) (by omega) (by omega)
