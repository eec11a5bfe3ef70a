/-! LAYER 3: what stands next, read by the reference -/
def mTp (T : Int → Int) (n : Int) (M : Mm) : Prop := M 154 3 = n ∧ (∀ i, 0 ≤ i → i < n → M 155 i = T i)
def mTk (T : Int → Int) (n p : Int) (w : Bool) (M : Mm) : Prop := mTp T n M ∧ (0 ≤ p ∧ p ≤ n) ∧ (p ≤ M 154 4 ∧ M 154 4 ≤ n ∧ rq (cW T) n (M 154 4) = tQ T n p) ∧ (-1 ≤ M 154 5 ∧ (w = true → M 154 5 = p) ∧ (w = false → M 154 5 < p))
/-- what reading a word changes -/
def nF (M M' : Mm) : Prop := (∀ c, c ≠ 154 → M' c = M c) ∧ (∀ j, j ≠ 4 → j ≠ 5 → j ≠ 10 → j ≠ 11 → M' 154 j = M 154 j)
theorem nF_refl {M : Mm} : nF M M := ⟨fun _ _ => rfl, fun _ _ _ _ _ => rfl⟩
theorem nF_trans {M M' M'' : Mm} (h : nF M M') (h' : nF M' M'') : nF M M'' := ⟨fun c hc => by rw [h'.1 c hc, h.1 c hc], fun j a b c d => by rw [h'.2 j a b c d, h.2 j a b c d]⟩
theorem nF_bad {M M' : Mm} (h : nF M M') : M' 154 6 = M 154 6 := h.2 6 (by decide) (by decide) (by decide) (by decide)
theorem nF_up {M M' : Mm} {j v : Int} (h : nF M M') (hj : j = 4 ∨ j = 5 ∨ j = 10 ∨ j = 11) : nF M (zUp M' 154 j v) := ⟨fun c hc => by rw [zUp_away hc, h.1 c hc], fun i a b c d => by rw [zUp_there (by omega), h.2 i a b c d]⟩
theorem mTp_fr {T : Int → Int} {n : Int} {M M' : Mm} (h : mTp T n M) (f3 : M' 154 3 = M 154 3) (f : M' 155 = M 155) : mTp T n M' := ⟨by rw [f3]; exact h.1, by rw [f]; exact h.2⟩
theorem mTk_fr {T : Int → Int} {n p : Int} {w : Bool} {M M' : Mm} (h : mTk T n p w M) (f : M' 155 = M 155) (f3 : M' 154 3 = M 154 3) (f4 : M' 154 4 = M 154 4) (f5 : M' 154 5 = M 154 5) : mTk T n p w M' := ⟨mTp_fr h.1 f3 f, h.2.1, by rw [f4]; exact h.2.2.1, by rw [f5]; exact h.2.2.2⟩
theorem m_ws {d : Nat} {T : Int → Int} {n : Int} {K : Kt} (hT : tpOk T n) : ∀ (m : Nat) (M : Mm) (a : Int), a + m = n → 0 ≤ a → M 154 4 = a → mTp T n M →
    (∀ M', M' 154 4 = rq (cW T) n a → (∀ j, j ≠ 4 → M' 154 j = M 154 j) → (∀ c, c ≠ 154 → M' c = M c) → K (rq (cW T) n a) M') → zWp (zSp d) 149 K 0 [some (.inr (.inr 154))] [] M
  | 0, M, a, hm, h0, ha, hx, hK => by
    have hn := hT.1
    rw [fe_149_0, ha, hx.1]
    refine zC_i (zr (by omega) (by omega)) (zC_i (zr (by omega) (by omega)) ⟨fun _ => ?_, fun c => absurd (by omega) c⟩)
    have := hK M (by rw [ha]; exact (rq_end (by omega)).symm) (fun _ _ => rfl) (fun _ _ => rfl)
    rw [rq_end (by omega)] at this
    exact this
  | m + 1, M, a, hm, h0, ha, hx, hK => by
    have hn := hT.1
    have hb := hT.2 a h0 (by omega)
    have e := hx.2 a h0 (by omega)
    rw [fe_149_0, ha, hx.1, e]
    have on : (T a = 32 ∨ T a = 10) → zWp (zSp d) 149 K 0 [some (.inr (.inr 154))] [] (zUp M 154 4 (a + 1)) := by
      intro hw
      have st := rq_on (f := cW T) (show a < n by omega) (cW_t.mpr hw)
      refine m_ws hT m _ (a + 1) (by omega) (by omega) zUp_here ⟨by rw [zUp_there (by decide)]; exact hx.1, hx.2⟩ ?_
      intro M' f1 f2 f3
      rw [← st] at f1 ⊢
      exact hK M' f1 (fun j hj => by rw [f2 j hj, zUp_there hj]) (fun c hc => by rw [f3 c hc, zUp_away hc])
    refine zC_i (zr (by omega) (by omega)) (zC_i (zr (by omega) (by omega)) ⟨fun c => absurd c (by omega), fun _ => zC_i (zs (by omega) (by omega)) (zC_i (zr (by omega) (by omega)) ⟨fun q => on (.inl q), fun q => zC_i (zs (by omega) (by omega)) (zC_i (zr (by omega) (by omega)) ⟨fun q2 => ?_, fun q2 => on (.inr (Decidable.not_not.mp q2))⟩)⟩)⟩)
    have of := rq_off (f := cW T) (n := n) (cW_f.mpr (show ¬ (T a = 32 ∨ T a = 10) by omega))
    have := hK M (by rw [ha]; exact of.symm) (fun _ _ => rfl) (fun _ _ => rfl)
    rw [of] at this
    exact this
theorem m_next {d : Nat} {T : Int → Int} {n p : Int} {w : Bool} {M : Mm} {K : Kt} (hT : tpOk T n) (h : mTk T n p w M)
    (hK : ∀ M', mTk T n p w M' → M' 154 4 = tQ T n p → (∀ j, j ≠ 4 → M' 154 j = M 154 j) → (∀ c, c ≠ 154 → M' c = M c) → K (tQ T n p) M') : zSp (d + 1) 149 [.inr (.inr 154)] M K := by
  have h' := h
  obtain ⟨h1, h2, h3, h4⟩ := h'
  have sq := tQ_s (T := T) h2.2
  rw [me_149]
  refine m_ws hT (n - M 154 4).toNat M (M 154 4) (by omega) (by omega) rfl h1 ?_
  intro M' f1 f2 f3
  rw [h3.2.2] at f1 ⊢
  refine hK M' ⟨mTp_fr h1 (f2 3 (by decide)) (f3 155 (by decide)), h2, ⟨by omega, by omega, ?_⟩, by rw [f2 5 (by decide)]; exact h4⟩ f1 f2 f3
  rw [f1]
  exact rq_mid sq.1 (Int.le_refl _) h2.2
theorem nx_nF {M M' : Mm} (f2 : ∀ j, j ≠ 4 → M' 154 j = M 154 j) (f3 : ∀ c, c ≠ 154 → M' c = M c) : nF M M' := ⟨f3, fun j a _ _ _ => f2 j a⟩
theorem m_fine {d : Nat} {M : Mm} {K : Kt} (h : M 154 6 = 0) (hK : K 1 M) : zSp (d + 1) 143 [.inr (.inr 154)] M K := by
  rw [me_143, h]
  exact zC_i (by decide) ⟨fun q => absurd rfl q, fun _ => hK⟩
theorem m_unfine {d : Nat} {M : Mm} {K : Kt} (h : 1 ≤ M 154 6 ∧ M 154 6 ≤ 5) (hK : K 0 M) : zSp (d + 1) 143 [.inr (.inr 154)] M K := by
  rw [me_143]
  exact zC_i (zr (by omega) (by omega)) ⟨fun _ => hK, fun q => absurd (by omega) q⟩
theorem m_fail {d : Nat} {M : Mm} {K : Kt} {k p : Int} (h : M 154 6 = 0) (hK : K 0 (zUp (zUp M 154 6 k) 154 7 p)) : zSp (d + 1) 144 [.inr (.inr 154), .inl k, .inl p] M K := by
  rw [me_144, h]
  exact zC_i (by decide) ⟨fun _ => hK, fun q => absurd rfl q⟩
theorem m_unfail {d : Nat} {M : Mm} {K : Kt} {k p : Int} (h : 1 ≤ M 154 6 ∧ M 154 6 ≤ 5) (hK : K 0 M) : zSp (d + 1) 144 [.inr (.inr 154), .inl k, .inl p] M K := by
  rw [me_144]
  exact zC_i (zr (by omega) (by omega)) ⟨fun q => absurd q (by omega), fun _ => hK⟩
theorem tKi_0 {T : Int → Int} {n p : Int} {w : Bool} : tKi T n p w = 0 ↔ n ≤ tQ T n p := by
  unfold tKi
  by_cases c : n ≤ tQ T n p
  · rw [if_pos c]; exact ⟨fun _ => c, fun _ => rfl⟩
  · rw [if_neg c]
    constructor
    · intro h
      exfalso
      repeat' split at h
      all_goals omega
    · intro h; exact absurd h c
theorem tKi_3 {T : Int → Int} {n p : Int} {w : Bool} (c : tQ T n p < n) : tKi T n p w = 3 ↔ (cL T (tQ T n p) = false ∧ cD T (tQ T n p) = false) := by
  unfold tKi
  rw [if_neg (by omega)]
  by_cases c1 : cL T (tQ T n p) = true
  · rw [if_pos c1, c1]
    constructor
    · intro h
      split at h <;> omega
    · intro h; exact absurd h.1 (by decide)
  · have c1f : cL T (tQ T n p) = false := by simpa using c1
    rw [if_neg c1, c1f]
    by_cases c2 : cD T (tQ T n p) = true
    · rw [if_pos c2, c2]
      constructor
      · intro h
        split at h <;> omega
      · intro h; exact absurd h.2 (by decide)
    · rw [if_neg c2]
      exact ⟨fun _ => ⟨rfl, by simpa using c2⟩, fun _ => rfl⟩
theorem tKi_1 {T : Int → Int} {n p : Int} {w : Bool} : tKi T n p w = 1 ↔ (tQ T n p < n ∧ cL T (tQ T n p) = true ∧ ¬ (w = true ∧ tQ T n p ≤ p) ∧ rq (cL T) n (tQ T n p) - tQ T n p ≤ 6) := by
  unfold tKi
  by_cases c : n ≤ tQ T n p
  · rw [if_pos c]; exact ⟨fun h => absurd h (by decide), fun h => by omega⟩
  · rw [if_neg c]
    by_cases c1 : cL T (tQ T n p) = true
    · rw [if_pos c1]
      by_cases c2 : (w = true ∧ tQ T n p ≤ p) ∨ 6 < rq (cL T) n (tQ T n p) - tQ T n p
      · rw [if_pos c2]
        refine ⟨fun h => absurd h (by decide), fun h => ?_⟩
        rcases c2 with c2 | c2
        · exact absurd c2 h.2.2.1
        · omega
      · rw [if_neg c2]
        exact ⟨fun _ => ⟨by omega, c1, fun h => c2 (.inl h), by omega⟩, fun _ => rfl⟩
    · rw [if_neg c1]
      refine ⟨fun h => ?_, fun h => absurd h.2.1 c1⟩
      exfalso
      repeat' split at h
      all_goals omega
theorem tKi_2 {T : Int → Int} {n p : Int} {w : Bool} : tKi T n p w = 2 ↔ (tQ T n p < n ∧ cD T (tQ T n p) = true ∧ ¬ (w = true ∧ tQ T n p ≤ p) ∧ rq (cD T) n (tQ T n p) - tQ T n p ≤ 3) := by
  unfold tKi
  by_cases c : n ≤ tQ T n p
  · rw [if_pos c]; exact ⟨fun h => absurd h (by decide), fun h => by omega⟩
  · rw [if_neg c]
    by_cases c1 : cL T (tQ T n p) = true
    · rw [if_pos c1]
      refine ⟨fun h => ?_, fun h => ?_⟩
      · exfalso
        split at h <;> omega
      · exfalso
        have a := cL_t.mp c1
        have b := cD_t.mp h.2.1
        omega
    · rw [if_neg c1]
      by_cases c3 : cD T (tQ T n p) = true
      · rw [if_pos c3]
        by_cases c2 : (w = true ∧ tQ T n p ≤ p) ∨ 3 < rq (cD T) n (tQ T n p) - tQ T n p
        · rw [if_pos c2]
          refine ⟨fun h => absurd h (by decide), fun h => ?_⟩
          rcases c2 with c2 | c2
          · exact absurd c2 h.2.2.1
          · omega
        · rw [if_neg c2]
          exact ⟨fun _ => ⟨by omega, c3, fun h => c2 (.inl h), by omega⟩, fun _ => rfl⟩
      · rw [if_neg c3]
        exact ⟨fun h => absurd h (by decide), fun h => absurd h.2.1 c3⟩
theorem m_isOver {d : Nat} {T : Int → Int} {n p : Int} {w : Bool} {M : Mm} {K : Kt} (hT : tpOk T n) (h : mTk T n p w M)
    (hK : ∀ M', mTk T n p w M' → nF M M' → K (fl (tKi T n p w = 0)) M') : zSp (d + 2) 150 [.inr (.inr 154)] M K := by
  have hn := hT.1
  have sq := tQ_s (T := T) h.2.1.2
  have p0 := h.2.1
  rw [me_150]
  refine m_next hT h ?_
  intro M1 f1 f2 f3 f4
  have hK := hK M1 f1 (nx_nF f3 f4)
  rw [f1.1.1]
  refine zC_i (zr (by omega) (by omega)) (zC_i (zr (by omega) (by omega)) ⟨fun c => ?_, fun c => ?_⟩)
  · rw [fl_f (fun h => by have := tKi_0.mp h; omega)] at hK; exact hK
  · rw [fl_t (tKi_0.mpr (by omega))] at hK; exact hK
def sgn (c : Int) : Prop := (33 ≤ c ∧ c ≤ 127) ∧ ¬ (97 ≤ c ∧ c ≤ 122) ∧ ¬ (48 ≤ c ∧ c ≤ 57)
theorem tVa_3 {T : Int → Int} {n p : Int} {w : Bool} (h : tKi T n p w = 3) (c : tQ T n p < n) : tVa T n p = T (tQ T n p) ∧ tEn T n p = tQ T n p + 1 := by
  have a := (tKi_3 c).mp h
  unfold tVa tEn
  rw [a.1, a.2, if_neg (by decide), if_neg (by decide), if_neg (by omega)]
  exact ⟨rfl, by rw [if_neg (by decide), if_neg (by decide)]⟩
theorem m_isSign {d : Nat} {T : Int → Int} {n p a : Int} {w : Bool} {M : Mm} {K : Kt} (hT : tpOk T n) (h : mTk T n p w M) (ha : sgn a)
    (hK : ∀ M', mTk T n p w M' → M' 154 4 = tQ T n p → nF M M' → K (fl (tKi T n p w = 3 ∧ tVa T n p = a)) M') : zSp (d + 2) 152 [.inr (.inr 154), .inl a] M K := by
  have hn := hT.1
  have sq := tQ_s (T := T) h.2.1.2
  have p0 := h.2.1
  have ha' := ha
  unfold sgn at ha'
  rw [me_152]
  refine m_next hT h ?_
  intro M1 f1 f2 f3 f4
  have hK := hK M1 f1 f2 (nx_nF f3 f4)
  rw [f1.1.1, f2]
  refine zC_i (zr (by omega) (by omega)) (zC_i (zr (by omega) (by omega)) ⟨fun c => ?_, fun c => ?_⟩)
  · rw [fl_f (fun h => by have := (tKi_0 (w := w)).mpr c; omega)] at hK; exact hK
  · have hb := hT.2 (tQ T n p) (by omega) (by omega)
    have hc : tQ T n p < n := by omega
    rw [f1.1.2 _ (by omega) hc]
    refine zC_i (zs (by omega) (by omega)) (zC_i (zr (by omega) (by omega)) (zC_i (zr (by omega) (by omega)) ⟨fun q => ?_, fun q => ?_⟩))
    · rw [fl_f (fun h => q (by rw [← (tVa_3 h.1 hc).1]; exact h.2))] at hK; exact hK
    · have q := Decidable.not_not.mp q
      have k3 : tKi T n p w = 3 := (tKi_3 hc).mpr ⟨cL_f.mpr (by rw [q]; exact ha.2.1), cD_f.mpr (by rw [q]; exact ha.2.2)⟩
      rw [fl_t ⟨k3, by rw [(tVa_3 k3 hc).1]; exact q⟩] at hK
      exact hK
/-- a sign is passed -/
theorem mTk_sign {T : Int → Int} {n p : Int} {w : Bool} {M : Mm} (h : mTk T n p w M) (h4 : M 154 4 = tQ T n p) (k : tKi T n p w = 3) : mTk T n (tEn T n p) false (zUp M 154 4 (M 154 4 + 1)) ∧ nF M (zUp M 154 4 (M 154 4 + 1)) := by
  obtain ⟨h1, h2, h3, h5⟩ := h
  have sq := tQ_s (T := T) h2.2
  have c : tQ T n p < n := by
    by_cases c : n ≤ tQ T n p
    · have := (tKi_0 (w := w)).mpr c; omega
    · omega
  have e := (tVa_3 k c).2
  refine ⟨⟨mTp_fr h1 (zUp_there (by decide)) (zUp_away (by decide)), by omega, ⟨by rw [zUp_here]; omega, by rw [zUp_here]; omega, ?_⟩, ?_⟩, nF_up nF_refl (.inl rfl)⟩
  · rw [zUp_here, h4, e]; rfl
  · rw [zUp_there (by decide), e]
    refine ⟨h5.1, fun h => absurd h (by decide), fun _ => ?_⟩
    cases w
    · have := h5.2.2 rfl; omega
    · have := h5.2.1 rfl; omega
