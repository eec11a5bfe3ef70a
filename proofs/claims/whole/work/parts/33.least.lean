/-! LAYER 3: the least trees -/
theorem tSub_sub : ∀ (t : Tr) (j i : Int), 0 ≤ j → j < tSz t → 0 ≤ i → i < tSz (tSub t j) → tSub (tSub t j) i = tSub t (j + i)
  | .var n, j, i, h0, h1, h2, h3 => rfl
  | .op f s, j, i, h0, h1, h2, h3 => by
    have h1 : j < tSz f + tSz s := h1
    have q1 := tSz_pos f
    by_cases c : j = 0
    · subst c
      rw [tSub_0, Int.zero_add]
    · by_cases c2 : j < tSz f
      · have pb := tPl_b h0 c2
        rw [tSub_f c c2] at h3 ⊢
        rw [tSub_sub f j i h0 c2 h2 h3, tSub_f (by omega) (by omega)]
      · rw [tSub_s (by omega)] at h3 ⊢
        rw [tSub_sub s (j - tSz f) i (by omega) (by omega) h2 h3, tSub_s (by omega), show j - tSz f + i = j + i - tSz f by omega]
def gRk (G : Mm) (z : Int) : Nat → Nat
  | 0 => 0
  | n + 1 => gRk G z n + (if G 12 n < z then 1 else 0)
theorem gRk_le {G : Mm} {z z' : Int} (h : z ≤ z') : ∀ n : Nat, gRk G z n ≤ gRk G z' n ∧ gRk G z n ≤ n
  | 0 => ⟨Nat.le_refl 0, Nat.le_refl 0⟩
  | n + 1 => by
    have ih := gRk_le (G := G) h n
    unfold gRk
    by_cases c : G 12 n < z
    · rw [if_pos c, if_pos (by omega)]; omega
    · rw [if_neg c]
      split <;> omega
theorem gRk_lt {G : Mm} {z z' : Int} (h : z < z') : ∀ (n : Nat) (s : Int), 0 ≤ s → s < n → G 12 s = z → gRk G z n < gRk G z' n ∧ gRk G z n < n
  | 0, s, h0, h1, h2 => by omega
  | n + 1, s, h0, h1, h2 => by
    unfold gRk
    by_cases c : s = (n : Int)
    · rw [← c, h2, if_neg (by omega), if_pos (by omega)]
      have := gRk_le (G := G) (Int.le_of_lt h) n
      omega
    · have ih := gRk_lt h n s h0 (by omega) h2
      by_cases c : G 12 n < z
      · rw [if_pos c, if_pos (by omega)]; omega
      · rw [if_neg c]
        split <;> omega
def gTp (G : Mm) (h : Int → Tr) (l : Int) : Nat → Tr
  | 0 => .var l.toNat
  | j + 1 => .op (gTp G h l j) (h (G 10 (l * 4 + j)))
def gT (G : Mm) : Nat → Int → Tr
  | 0, s => .var (G 13 s).toNat
  | n + 1, s => gTp G (gT G n) (G 13 s) (gNeed G (G 13 s)).toNat
def gR (G : Mm) (s : Int) : Nat := gRk G (G 12 s) (G 4 1).toNat
theorem gSum_le {G : Mm} {l : Int} : ∀ (j i : Nat), (∀ i : Nat, i < j → 1 ≤ G 12 (G 10 (l * 4 + i))) → i ≤ j → gSum G l i ≤ gSum G l j ∧ 1 ≤ gSum G l i
  | 0, i, h, hi => by
    rw [show i = 0 by omega]
    exact ⟨Int.le_refl _, Int.le_refl 1⟩
  | j + 1, i, h, hi => by
    have h1 := h j (by omega)
    by_cases c : i = j + 1
    · subst c
      have ih := gSum_le j j (fun i hi => h i (by omega)) (Nat.le_refl _)
      refine ⟨Int.le_refl _, ?_⟩
      show 1 ≤ gSum G l j + G 12 (G 10 (l * 4 + j))
      omega
    · have ih := gSum_le j i (fun i hi => h i (by omega)) (by omega)
      refine ⟨?_, ih.2⟩
      show _ ≤ gSum G l j + G 12 (G 10 (l * 4 + j))
      omega
/-- parts of a least tree: their sorts, sizes -/
theorem gPart {G : Mm} (hg : gOk G) {s : Int} (h0 : 0 ≤ s) (h1 : s < G 4 1) {i : Nat} (hi : (i : Int) < gNeed G (G 13 s)) : 0 ≤ G 10 (G 13 s * 4 + i) ∧ G 10 (G 13 s * 4 + i) < G 4 1 ∧ 1 ≤ G 12 (G 10 (G 13 s * 4 + i)) ∧ gSum G (G 13 s) (i + 1) ≤ G 12 s ∧ 1 ≤ gSum G (G 13 s) i ∧ G 12 (G 10 (G 13 s * 4 + i)) < G 12 s ∧ gR G (G 10 (G 13 s * 4 + i)) < gR G s := by
  obtain ⟨⟨b1, b2⟩, ⟨b3, b4⟩, b5, b6⟩ := hg.2 s h0 h1
  obtain ⟨c1, c2, c3, c4, c5, c6⟩ := hg.1.2.1 _ b3 b4
  have nb := gNeed_b hg.1 b3 b4
  have hp : ∀ i : Nat, i < (gNeed G (G 13 s)).toNat → 1 ≤ G 12 (G 10 (G 13 s * 4 + i)) := fun i hi => by
    have q := c6 i (by omega) (by omega)
    exact (hg.2 _ q.1 q.2).1.1
  have q := c6 i (by omega) (by omega)
  have s1 := gSum_le (G := G) (l := G 13 s) _ (i + 1) hp (by omega)
  have s2 := gSum_le (G := G) (l := G 13 s) _ i hp (by omega)
  have s3 : gSum G (G 13 s) (i + 1) = gSum G (G 13 s) i + G 12 (G 10 (G 13 s * 4 + i)) := rfl
  have h2 : G 12 (G 10 (G 13 s * 4 + i)) < G 12 s := by omega
  refine ⟨q.1, q.2, hp i (by omega), by omega, by omega, h2, ?_⟩
  exact (gRk_lt h2 _ _ q.1 (by omega) rfl).1
theorem gR_lt {G : Mm} (hg : gOk G) {s : Int} (h0 : 0 ≤ s) (h1 : s < G 4 1) : gR G s < 6 := by
  have b := hg.1.1
  have := (gRk_lt (G := G) (z := G 12 s) (z' := G 12 s + 1) (by omega) (G 4 1).toNat s h0 (by omega) rfl).2
  unfold gR
  omega
/-- what holds of each node of a least tree -/
def gNd (G : Mm) (u : Tr) : Prop := (0 ≤ tNm u ∧ tNm u < G 4 0) ∧ tSz u = G 12 (G 7 (tNm u)) ∧ tKd u = gNeed G (tNm u) ∧ G 13 (G 7 (tNm u)) = tNm u
theorem gTp_ok {G : Mm} {h : Int → Tr} {l : Int} (hl : 0 ≤ l ∧ l < G 4 0) : ∀ (j : Nat), (∀ i : Nat, i < j → tSz (h (G 10 (l * 4 + i))) = G 12 (G 10 (l * 4 + i)) ∧ tVal (G 4 0) (h (G 10 (l * 4 + i))) ∧ gNd G (h (G 10 (l * 4 + i))) ∧ ∀ p q, tAll (fun _ u _ _ _ => gNd G u) (h (G 10 (l * 4 + i))) p q) → tSz (gTp G h l j) = gSum G l j ∧ tNm (gTp G h l j) = l ∧ tKd (gTp G h l j) = j ∧ tVal (G 4 0) (gTp G h l j) ∧ ∀ p q, tAll (fun _ u _ _ _ => gNd G u) (gTp G h l j) p q
  | 0, H => ⟨rfl, by show ((l.toNat : Nat) : Int) = l; omega, rfl, by show ((l.toNat : Nat) : Int) < G 4 0; omega, fun _ _ => trivial⟩
  | j + 1, H => by
    obtain ⟨i1, i2, i3, i4, i5⟩ := gTp_ok hl j (fun i hi => H i (by omega))
    obtain ⟨g1, g2, g3, g4⟩ := H j (by omega)
    refine ⟨?_, i2, ?_, ⟨i4, g2⟩, fun p q => ⟨i5 p q, g3, g4 _ _⟩⟩
    · show tSz (gTp G h l j) + tSz (h (G 10 (l * 4 + j))) = gSum G l j + G 12 (G 10 (l * 4 + j))
      rw [i1, g1]
    · show tKd (gTp G h l j) + 1 = ((j + 1 : Nat) : Int)
      omega
theorem gT_ok {G : Mm} (hg : gOk G) : ∀ (n : Nat) (s : Int), 0 ≤ s → s < G 4 1 → gR G s ≤ n → tSz (gT G n s) = G 12 s ∧ tVal (G 4 0) (gT G n s) ∧ gNd G (gT G n s) ∧ tNm (gT G n s) = G 13 s ∧ ∀ p q, tAll (fun _ u _ _ _ => gNd G u) (gT G n s) p q
  | 0, s, h0, h1, hr => by
    obtain ⟨⟨b1, b2⟩, ⟨b3, b4⟩, b5, b6⟩ := hg.2 s h0 h1
    have nb := gNeed_b hg.1 b3 b4
    have nz : gNeed G (G 13 s) = 0 := by
      by_cases c : gNeed G (G 13 s) = 0
      · exact c
      · have := (gPart hg h0 h1 (i := 0) (by show (0 : Int) < _; omega)).2.2.2.2.2.2
        omega
    have e1 : tNm (.var (G 13 s).toNat) = G 13 s := by show (((G 13 s).toNat : Nat) : Int) = _; omega
    rw [nz] at b6
    refine ⟨?_, ?_, ⟨?_, ?_, ?_, ?_⟩, e1, fun _ _ => trivial⟩
    · show 1 = G 12 s
      rw [b6]; rfl
    · show (((G 13 s).toNat : Nat) : Int) < G 4 0
      omega
    · show 0 ≤ tNm (.var (G 13 s).toNat) ∧ tNm (.var (G 13 s).toNat) < G 4 0
      rw [e1]; omega
    · show 1 = G 12 (G 7 (tNm (.var (G 13 s).toNat)))
      rw [e1, b5, b6]; rfl
    · show 0 = gNeed G (tNm (.var (G 13 s).toNat))
      rw [e1, nz]
    · show G 13 (G 7 (tNm (.var (G 13 s).toNat))) = tNm (.var (G 13 s).toNat)
      rw [e1, b5]
  | n + 1, s, h0, h1, hr => by
    obtain ⟨⟨b1, b2⟩, ⟨b3, b4⟩, b5, b6⟩ := hg.2 s h0 h1
    have nb := gNeed_b hg.1 b3 b4
    obtain ⟨i1, i2, i3, i4, i5⟩ := gTp_ok (G := G) (h := gT G n) (l := G 13 s) ⟨b3, b4⟩ (gNeed G (G 13 s)).toNat (fun i hi => by
      have gp := gPart hg h0 h1 (i := i) (by omega)
      have ih := gT_ok hg n _ gp.1 gp.2.1 (by omega)
      exact ⟨ih.1, ih.2.1, ih.2.2.1, ih.2.2.2.2⟩)
    refine ⟨?_, i4, ⟨?_, ?_, ?_, ?_⟩, i2, i5⟩
    · show tSz (gTp G (gT G n) (G 13 s) (gNeed G (G 13 s)).toNat) = _
      rw [i1, b6]
    · show 0 ≤ tNm (gTp G (gT G n) (G 13 s) (gNeed G (G 13 s)).toNat) ∧ tNm (gTp G (gT G n) (G 13 s) (gNeed G (G 13 s)).toNat) < _
      rw [i2]; omega
    · show tSz (gTp G (gT G n) (G 13 s) (gNeed G (G 13 s)).toNat) = G 12 (G 7 (tNm (gTp G (gT G n) (G 13 s) (gNeed G (G 13 s)).toNat)))
      rw [i1, i2, b5, ← b6]
    · show tKd (gTp G (gT G n) (G 13 s) (gNeed G (G 13 s)).toNat) = gNeed G (tNm (gTp G (gT G n) (G 13 s) (gNeed G (G 13 s)).toNat))
      rw [i2, i3]; omega
    · show G 13 (G 7 (tNm (gTp G (gT G n) (G 13 s) (gNeed G (G 13 s)).toNat))) = tNm (gTp G (gT G n) (G 13 s) (gNeed G (G 13 s)).toNat)
      rw [i2, b5]
theorem gTp_sz {G : Mm} {h : Int → Tr} {l : Int} : ∀ (j : Nat), (∀ i : Nat, i < j → tSz (h (G 10 (l * 4 + i))) = G 12 (G 10 (l * 4 + i))) → tSz (gTp G h l j) = gSum G l j
  | 0, H => rfl
  | j + 1, H => by
    show tSz (gTp G h l j) + tSz (h (G 10 (l * 4 + j))) = gSum G l j + G 12 (G 10 (l * 4 + j))
    rw [gTp_sz j (fun i hi => H i (by omega)), H j (by omega)]
theorem gTp_sub {G : Mm} {h : Int → Tr} {l : Int} : ∀ (j i : Nat) (k : Int), (∀ i : Nat, i < j → tSz (h (G 10 (l * 4 + i))) = G 12 (G 10 (l * 4 + i))) → (∀ i : Nat, i < j → 1 ≤ G 12 (G 10 (l * 4 + i))) → i < j → gSum G l i ≤ k → k < gSum G l (i + 1) → tSub (gTp G h l j) k = tSub (h (G 10 (l * 4 + i))) (k - gSum G l i)
  | 0, i, k, H, H1, hi, h1, h2 => by omega
  | j + 1, i, k, H, H1, hi, h1, h2 => by
    have z := gTp_sz (G := G) (h := h) (l := l) j (fun i hi => H i (by omega))
    have s1 := gSum_le (G := G) (l := l) j i (fun i hi => H1 i (by omega)) (by omega)
    show tSub (.op (gTp G h l j) (h (G 10 (l * 4 + j)))) k = _
    by_cases c : i = j
    · subst c
      rw [tSub_s (by omega), z]
    · have s2 := gSum_le (G := G) (l := l) j (i + 1) (fun i hi => H1 i (by omega)) (by omega)
      rw [tSub_f (by omega) (by omega)]
      exact gTp_sub j i k (fun i hi => H i (by omega)) (fun i hi => H1 i (by omega)) (by omega) h1 h2
/-- one step down in a least tree -/
theorem gT_down {G : Mm} (hg : gOk G) {n : Nat} {s : Int} (h0 : 0 ≤ s) (h1 : s < G 4 1) (hr : gR G s ≤ n + 1) {i : Nat} (hi : (i : Int) < gNeed G (G 13 s)) {k : Int} (k1 : gSum G (G 13 s) i ≤ k) (k2 : k < gSum G (G 13 s) (i + 1)) : tSub (gT G (n + 1) s) k = tSub (gT G n (G 10 (G 13 s * 4 + i))) (k - gSum G (G 13 s) i) := by
  refine gTp_sub (h := gT G n) (l := G 13 s) (gNeed G (G 13 s)).toNat i k ?_ ?_ (by omega) k1 k2
  · intro i hi
    have gp := gPart hg h0 h1 (i := i) (by omega)
    exact (gT_ok hg n _ gp.1 gp.2.1 (by omega)).1
  · intro i hi
    exact (gPart hg h0 h1 (i := i) (by omega)).2.2.1
theorem x_sortBehind {d : Nat} {M G : Mm} {K : Kt} {l i : Int} (hx : xG G M) (hl : 0 ≤ l ∧ l < 24) (hi : 0 ≤ i ∧ i < 4) (hK : K (G 10 (l * 4 + i)) M) : zSp (d + 1) 28 [.inr (.inr 4), .inl l, .inl i] M K := by
  rw [me_28]
  simp only [show zObj 4 2 = true from rfl, show zArr (4 + 6) 0 = true from rfl, show zLen (4 + 6) = 96 from rfl, zC_t]
  refine zC_i (zs (by omega) (by omega)) ?_
  rw [hx 10 (by decide) (by decide)]
  exact hK
theorem x_ln_in {d : Nat} {M G : Mm} {K : Kt} {x1 x2 s k x5 : Int} (hg : gOk G) (hx : xG G M) (h0 : 0 ≤ s) (h1 : s < G 4 1) (hk1 : k < G 12 s)
    (hK : ∀ (i : Nat) (u7 u8 : Option Vl) (x7 : Int), (i : Int) < gNeed G (G 13 s) → gSum G (G 13 s) i ≤ k → k < gSum G (G 13 s) (i + 1) → zWp (zSp (d + 1)) 33 K 101 [some (.inr (.inr 4)), some (.inl x1), some (.inl x2), some (.inl (G 13 s)), some (.inl (k - gSum G (G 13 s) i)), some (.inl x5), some (.inl (G 13 (G 10 (G 13 s * 4 + i)))), some (.inl x7), u8] [] M) :
    ∀ (m i : Nat) (x7 : Int) (u8 : Option Vl), (i : Int) + m = gNeed G (G 13 s) → x7 = i → gSum G (G 13 s) i ≤ k → zWp (zSp (d + 1)) 33 K 34 [some (.inr (.inr 4)), some (.inl x1), some (.inl x2), some (.inl (G 13 s)), some (.inl (k - gSum G (G 13 s) i)), some (.inl x5), some (.inl (-1)), some (.inl x7), u8] [] M
  | 0, i, x7, u8, hm, hi, hs => by
    obtain ⟨⟨b1, b2⟩, ⟨b3, b4⟩, b5, b6⟩ := hg.2 s h0 h1
    rw [show (gNeed G (G 13 s)).toNat = i by omega] at b6
    omega
  | m + 1, i, x7, u8, hm, hi, hs => by
    obtain ⟨⟨b1, b2⟩, ⟨b3, b4⟩, b5, b6⟩ := hg.2 s h0 h1
    have nb := gNeed_b hg.1 b3 b4
    have gb := hg.1.1
    have gp := gPart hg h0 h1 (i := i) (by omega)
    have gl := hg.2 _ gp.1 gp.2.1
    have e12 : M (4 + 8) = G 12 := hx 12 (by decide) (by decide)
    have e13 : M (4 + 9) = G 13 := hx 13 (by decide) (by decide)
    have s3 : gSum G (G 13 s) (i + 1) = gSum G (G 13 s) i + G 12 (G 10 (G 13 s * 4 + i)) := rfl
    rw [fe_33_34]
    simp only [show zObj 4 2 = true from rfl, show zArr (4 + 8) 0 = true from rfl, show zLen (4 + 8) = 6 from rfl, show zArr (4 + 9) 0 = true from rfl, show zLen (4 + 9) = 6 from rfl, zC_t, e12, e13]
    refine x_needed hg.1 hx b3 b4 ?_
    (repeat (first | refine zC_i (by first | assumption | decide | exact zr (by omega) (by omega) | exact zs (by omega) (by omega) | exact zd (by omega) (by omega)) ?_ | refine zIfT (by first | assumption | omega | decide) ?_ | refine zIfF (by first | assumption | omega | decide) ?_))
    refine x_sortBehind hx (by omega) (by omega) ?_
    rw [show G 13 s * 4 + x7 = G 13 s * 4 + (i : Int) by rw [hi], e12, e13]
    (repeat (first | refine zC_i (by first | assumption | decide | exact zr (by omega) (by omega) | exact zs (by omega) (by omega) | exact zd (by omega) (by omega)) ?_ | refine zIfT (by first | assumption | omega | decide) ?_ | refine zIfF (by first | assumption | omega | decide) ?_))
    refine ⟨fun c => ?_, fun c => ?_⟩
    · refine zC_i (by first | assumption | decide | exact zr (by omega) (by omega) | exact zs (by omega) (by omega) | exact zd (by omega) (by omega)) ?_
      rw [show k - gSum G (G 13 s) i - G 12 (G 10 (G 13 s * 4 + i)) = k - gSum G (G 13 s) (i + 1) by omega]
      exact x_ln_in hg hx h0 h1 hk1 hK m (i + 1) _ _ (by omega) (by omega) (by omega)
    · refine zC_i (by first | assumption | decide | exact zr (by omega) (by omega) | exact zs (by omega) (by omega) | exact zd (by omega) (by omega)) ?_
      rw [fe_33_34]
      simp only [show zObj 4 2 = true from rfl, zC_t]
      refine x_needed hg.1 hx b3 b4 ?_
      have hend := hK i (some (.inl (x7 + 1))) (some (.inl (G 10 (G 13 s * 4 + i)))) (x7 + 1) (by omega) hs (by omega)
      refine zC_i (by first | assumption | decide | exact zr (by omega) (by omega) | exact zs (by omega) (by omega) | exact zd (by omega) (by omega)) (zC_i (by first | assumption | decide | exact zr (by omega) (by omega) | exact zs (by omega) (by omega) | exact zd (by omega) (by omega)) ⟨fun _ => hend, fun _ => zC_i (by first | assumption | decide | exact zr (by omega) (by omega) | exact zs (by omega) (by omega) | exact zd (by omega) (by omega)) ⟨fun _ => hend, fun c => ?_⟩⟩)
      omega
theorem x_ln_out {d : Nat} {M G : Mm} {K : Kt} {x1 x2 : Int} (hg : gOk G) (hx : xG G M) : ∀ (n : Nat) (s k x5 : Int) (u6 u7 u8 : Option Vl), 0 ≤ s → s < G 4 1 → gR G s ≤ n → 0 ≤ x5 → x5 + n ≤ 6 → 0 ≤ k → k < G 12 s → K (tNm (tSub (gT G n s) k)) M → zWp (zSp (d + 1)) 33 K 13 [some (.inr (.inr 4)), some (.inl x1), some (.inl x2), some (.inl (G 13 s)), some (.inl k), some (.inl x5), u6, u7, u8] [] M
  | 0, s, k, x5, u6, u7, u8, h0, h1, hr, h5, hn, k0, k1, hK => by
    have gt := gT_ok hg 0 s h0 h1 hr
    have gz := gt.1
    obtain ⟨⟨b1, b2⟩, ⟨b3, b4⟩, b5, b6⟩ := hg.2 s h0 h1
    have hz : tSz (gT G 0 s) = 1 := rfl
    have : k = 0 := by omega
    subst this
    rw [tSub_0, gt.2.2.2.1] at hK
    rw [fe_33_13]
    refine zC_i (by first | assumption | decide | exact zr (by omega) (by omega) | exact zs (by omega) (by omega) | exact zd (by omega) (by omega)) ⟨fun _ => hK, fun _ => zC_i (by first | assumption | decide | exact zr (by omega) (by omega) | exact zs (by omega) (by omega) | exact zd (by omega) (by omega)) ⟨fun _ => hK, fun c => ?_⟩⟩
    omega
  | n + 1, s, k, x5, u6, u7, u8, h0, h1, hr, h5, hn, k0, k1, hK => by
    have gt := gT_ok hg (n + 1) s h0 h1 hr
    have gb := hg.1.1
    obtain ⟨⟨b1, b2⟩, ⟨b3, b4⟩, b5, b6⟩ := hg.2 s h0 h1
    have nb := gNeed_b hg.1 b3 b4
    rw [fe_33_13]
    by_cases c : k = 0
    · subst c
      rw [tSub_0, gt.2.2.2.1] at hK
      refine zC_i (by first | assumption | decide | exact zr (by omega) (by omega) | exact zs (by omega) (by omega) | exact zd (by omega) (by omega)) ⟨fun _ => hK, fun _ => zC_i (by first | assumption | decide | exact zr (by omega) (by omega) | exact zs (by omega) (by omega) | exact zd (by omega) (by omega)) ⟨fun _ => hK, fun c => ?_⟩⟩
      omega
    · (repeat (first | refine zC_i (by first | assumption | decide | exact zr (by omega) (by omega) | exact zs (by omega) (by omega) | exact zd (by omega) (by omega)) ?_ | refine zIfT (by first | assumption | omega | decide) ?_ | refine zIfF (by first | assumption | omega | decide) ?_))
      have h := x_ln_in (d := d) (K := K) (x1 := x1) (x2 := x2) (k := k) (x5 := x5) hg hx h0 h1 k1 ?_ (gNeed G (G 13 s)).toNat 0 0 u8 (by omega) rfl (by show 1 ≤ k; omega)
      · rw [show k - gSum G (G 13 s) 0 = k + -1 by show k - 1 = _; omega] at h
        exact h
      · intro i u7 u8 x7 hi c1 c2
        have gp := gPart hg h0 h1 (i := i) (by omega)
        obtain ⟨⟨d1, d2⟩, ⟨d3, d4⟩, d5, d6⟩ := hg.2 _ gp.1 gp.2.1
        have s3 : gSum G (G 13 s) (i + 1) = gSum G (G 13 s) i + G 12 (G 10 (G 13 s * 4 + i)) := rfl
        rw [fe_33_101]
        (repeat (first | refine zC_i (by first | assumption | decide | exact zr (by omega) (by omega) | exact zs (by omega) (by omega) | exact zd (by omega) (by omega)) ?_ | refine zIfT (by first | assumption | omega | decide) ?_ | refine zIfF (by first | assumption | omega | decide) ?_))
        refine x_ln_out hg hx n _ _ (x5 + 1) _ _ _ gp.1 gp.2.1 (by omega) (by omega) (by omega) (by omega) (by omega) ?_
        rw [gT_down hg h0 h1 hr hi c1 c2] at hK
        exact hK
theorem x_leastName {d : Nat} {M G : Mm} {K : Kt} {s k : Int} (hg : gOk G) (hx : xG G M) (h0 : 0 ≤ s) (h1 : s < G 4 1) (k0 : 0 ≤ k) (k1 : k < G 12 s) (hK : K (tNm (tSub (gT G 6 s) k)) M) : zSp (d + 2) 33 [.inr (.inr 4), .inl s, .inl k] M K := by
  have gb := hg.1.1
  have gr := gR_lt hg h0 h1
  rw [me_33]
  simp only [show zObj 4 2 = true from rfl, show zArr (4 + 9) 0 = true from rfl, show zLen (4 + 9) = 6 from rfl, zC_t]
  refine zC_i (zs (by omega) (by omega)) ?_
  rw [hx 13 (by decide) (by decide)]
  exact x_ln_out hg hx 6 s k 0 _ _ _ h0 h1 (by omega) (by omega) (by omega) k0 k1 hK
theorem m_part_of {d : Nat} {M G : Mm} {K : Kt} {l i : Int} (hg : gLn G) (hm : mG G M) (hl : 0 ≤ l ∧ l < G 4 0) (hi : 0 ≤ i ∧ i < G 8 l) (hK : K (G 10 (l * 4 + i)) M) : zSp (d + 1) 170 [.inr (.inr 154), .inl l, .inl (4 + i)] M K := by
  have c0 := hg.1
  obtain ⟨_, _, _, c4, _, _⟩ := hg.2.1 l hl.1 hl.2
  obtain ⟨_, _, _, _, _, e6⟩ := hm.2.2.1 l hl.1 hl.2
  rw [me_170, e6 i hi.1 hi.2]
  exact zC_i (zs (by omega) (by omega)) hK
theorem m_la_in {d : Nat} {M G : Mm} {K : Kt} {x1 x2 s k : Int} (hg : gOk G) (hm : mG G M) (h0 : 0 ≤ s) (h1 : s < G 4 1) (hk1 : k < G 12 s)
    (hK : ∀ (i : Nat) (u5 u6 : Option Vl), (i : Int) < gNeed G (G 13 s) → gSum G (G 13 s) i ≤ k → k < gSum G (G 13 s) (i + 1) → zWp (zSp (d + 1)) 198 K 5 [some (.inr (.inr 154)), some (.inl x1), some (.inl x2), some (.inl (G 10 (G 13 s * 4 + i))), some (.inl (k - gSum G (G 13 s) i)), u5, u6] [] M) :
    ∀ (m i : Nat) (x6 : Int), (i : Int) + m = gNeed G (G 13 s) → x6 = i → gSum G (G 13 s) i ≤ k → zWp (zSp (d + 1)) 198 K 24 [some (.inr (.inr 154)), some (.inl x1), some (.inl x2), some (.inl s), some (.inl (k - gSum G (G 13 s) i)), some (.inl (G 13 s)), some (.inl x6)] [] M
  | 0, i, x6, hn, hi, hs => by
    obtain ⟨⟨b1, b2⟩, ⟨b3, b4⟩, b5, b6⟩ := hg.2 s h0 h1
    rw [show (gNeed G (G 13 s)).toNat = i by omega] at b6
    omega
  | m + 1, i, x6, hn, hi, hs => by
    obtain ⟨⟨b1, b2⟩, ⟨b3, b4⟩, b5, b6⟩ := hg.2 s h0 h1
    have nb := gNeed_b hg.1 b3 b4
    have gb := hg.1.1
    have gp := gPart hg h0 h1 (i := i) (by omega)
    have gl := hg.2 _ gp.1 gp.2.1
    have s3 : gSum G (G 13 s) (i + 1) = gSum G (G 13 s) i + G 12 (G 10 (G 13 s * 4 + i)) := rfl
    have e12 := (hm.2.2.2 _ gp.1 gp.2.1).2.1
    rw [fe_198_24]
    refine m_part_of hg.1 hm ⟨b3, b4⟩ (by omega) ?_
    have hi6 : G 13 s * 4 + x6 = G 13 s * 4 + (i : Int) := by rw [hi]
    rw [hi6, e12]
    (repeat (first | refine zC_i (by first | assumption | decide | exact zr (by omega) (by omega) | exact zs (by omega) (by omega) | exact zd (by omega) (by omega)) ?_ | refine zIfT (by first | assumption | omega | decide) ?_ | refine zIfF (by first | assumption | omega | decide) ?_))
    refine ⟨fun c => ?_, fun c => ?_⟩
    · refine m_part_of hg.1 hm ⟨b3, b4⟩ (by omega) ?_
      rw [hi6]
      exact hK i _ _ (by omega) hs (by omega)
    · refine m_part_of hg.1 hm ⟨b3, b4⟩ (by omega) ?_
      rw [hi6]
      refine zC_i (by first | assumption | decide | exact zr (by omega) (by omega) | exact zs (by omega) (by omega) | exact zd (by omega) (by omega)) ?_
      rw [e12, show k - gSum G (G 13 s) i - G 12 (G 10 (G 13 s * 4 + i)) = k - gSum G (G 13 s) (i + 1) by omega]
      exact m_la_in hg hm h0 h1 hk1 hK m (i + 1) _ (by omega) (by omega) (by omega)
theorem m_la_out {d : Nat} {M G : Mm} {K : Kt} {x1 x2 : Int} (hg : gOk G) (hm : mG G M) : ∀ (n : Nat) (s k : Int) (u5 u6 : Option Vl), 0 ≤ s → s < G 4 1 → gR G s ≤ n → 0 ≤ k → k < G 12 s → K (tNm (tSub (gT G n s) k)) M → zWp (zSp (d + 1)) 198 K 5 [some (.inr (.inr 154)), some (.inl x1), some (.inl x2), some (.inl s), some (.inl k), u5, u6] [] M
  | 0, s, k, u5, u6, h0, h1, hr, k0, k1, hK => by
    have gt := gT_ok hg 0 s h0 h1 hr
    have gz := gt.1
    have gb := hg.1.1
    have e13 := (hm.2.2.2 _ h0 h1).2.2
    have hz : tSz (gT G 0 s) = 1 := rfl
    have : k = 0 := by omega
    subst this
    rw [tSub_0, gt.2.2.2.1] at hK
    rw [fe_198_5, e13]
    (repeat (first | refine zC_i (by first | assumption | decide | exact zr (by omega) (by omega) | exact zs (by omega) (by omega) | exact zd (by omega) (by omega)) ?_ | refine zIfT (by first | assumption | omega | decide) ?_ | refine zIfF (by first | assumption | omega | decide) ?_))
    exact hK
  | n + 1, s, k, u5, u6, h0, h1, hr, k0, k1, hK => by
    have gt := gT_ok hg (n + 1) s h0 h1 hr
    have gb := hg.1.1
    obtain ⟨⟨b1, b2⟩, ⟨b3, b4⟩, b5, b6⟩ := hg.2 s h0 h1
    have nb := gNeed_b hg.1 b3 b4
    have e13 := (hm.2.2.2 _ h0 h1).2.2
    rw [fe_198_5, e13]
    by_cases c : k = 0
    · subst c
      rw [tSub_0, gt.2.2.2.1] at hK
      (repeat (first | refine zC_i (by first | assumption | decide | exact zr (by omega) (by omega) | exact zs (by omega) (by omega) | exact zd (by omega) (by omega)) ?_ | refine zIfT (by first | assumption | omega | decide) ?_ | refine zIfF (by first | assumption | omega | decide) ?_))
      exact hK
    · (repeat (first | refine zC_i (by first | assumption | decide | exact zr (by omega) (by omega) | exact zs (by omega) (by omega) | exact zd (by omega) (by omega)) ?_ | refine zIfT (by first | assumption | omega | decide) ?_ | refine zIfF (by first | assumption | omega | decide) ?_))
      have h := m_la_in (d := d) (K := K) (x1 := x1) (x2 := x2) (k := k) hg hm h0 h1 k1 ?_ (gNeed G (G 13 s)).toNat 0 0 (by omega) rfl (by show 1 ≤ k; omega)
      · rw [show k - gSum G (G 13 s) 0 = k + -1 by show k - 1 = _; omega] at h
        exact h
      · intro i u5 u6 hi c1 c2
        have gp := gPart hg h0 h1 (i := i) (by omega)
        have s3 : gSum G (G 13 s) (i + 1) = gSum G (G 13 s) i + G 12 (G 10 (G 13 s * 4 + i)) := rfl
        refine m_la_out hg hm n _ _ _ _ gp.1 gp.2.1 (by omega) (by omega) (by omega) ?_
        rw [gT_down hg h0 h1 hr hi c1 c2] at hK
        exact hK
theorem m_leastAt {d : Nat} {M G : Mm} {K : Kt} {s k : Int} (hg : gOk G) (hm : mG G M) (h0 : 0 ≤ s) (h1 : s < G 4 1) (k0 : 0 ≤ k) (k1 : k < G 12 s) (hK : K (tNm (tSub (gT G 6 s) k)) M) : zSp (d + 2) 198 [.inr (.inr 154), .inl s, .inl k] M K := by
  have gr := gR_lt hg h0 h1
  rw [me_198]
  exact m_la_out hg hm 6 s k _ _ h0 h1 (by omega) k0 k1 hK
