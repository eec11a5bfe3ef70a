/-! LAYER 3: words, names and numbers of the reference -/
theorem m_here {d : Nat} {T : Int → Int} {n k : Int} {M : Mm} {K : Kt} (hT : tpOk T n) (h : mTp T n M) (hk : 0 ≤ k ∧ k ≤ n) (hK : K (if k < n then T k else 0) M) : zSp (d + 1) 146 [.inr (.inr 154), .inl k] M K := by
  have hn := hT.1
  rw [me_146, h.1]
  refine zC_i (zr (by omega) (by omega)) (zC_i (zr (by omega) (by omega)) ⟨fun c => ?_, fun c => zC_i (zs (by omega) (by omega)) ?_⟩)
  · rw [if_neg (by omega)] at hK; exact hK
  · rw [if_pos (by omega)] at hK
    rw [h.2 k hk.1 (by omega)]; exact hK
theorem m_isL {d : Nat} {T : Int → Int} {n k : Int} {M : Mm} {K : Kt} (hT : tpOk T n) (h : mTp T n M) (hk : 0 ≤ k ∧ k ≤ n) (hK : K (fl (k < n ∧ cL T k = true)) M) : zSp (d + 2) 147 [.inr (.inr 154), .inl k] M K := by
  rw [me_147]
  refine m_here hT h hk ?_
  by_cases c : k < n
  · have hb := hT.2 k hk.1 c
    rw [if_pos c]
    refine zC_i (zr (by omega) (by omega)) (m_isIn (zr64 (by omega) (by omega)) (by decide) (by decide) ?_)
    by_cases c2 : 97 ≤ T k ∧ T k ≤ 122
    · rw [if_pos c2]
      rw [fl_t ⟨c, cL_t.mpr c2⟩] at hK
      exact zC_i (by decide) hK
    · rw [if_neg c2]
      rw [fl_f (fun h => c2 (cL_t.mp h.2))] at hK
      exact zC_i (by decide) hK
  · rw [if_neg c]
    refine zC_i (by decide) (m_isIn (by decide) (by decide) (by decide) ?_)
    rw [if_neg (by decide)]
    rw [fl_f (fun h => c h.1)] at hK
    exact zC_i (by decide) hK
theorem m_isD {d : Nat} {T : Int → Int} {n k : Int} {M : Mm} {K : Kt} (hT : tpOk T n) (h : mTp T n M) (hk : 0 ≤ k ∧ k ≤ n) (hK : K (fl (k < n ∧ cD T k = true)) M) : zSp (d + 2) 148 [.inr (.inr 154), .inl k] M K := by
  rw [me_148]
  refine m_here hT h hk ?_
  by_cases c : k < n
  · have hb := hT.2 k hk.1 c
    rw [if_pos c]
    refine zC_i (zr (by omega) (by omega)) (m_isIn (zr64 (by omega) (by omega)) (by decide) (by decide) ?_)
    by_cases c2 : 48 ≤ T k ∧ T k ≤ 57
    · rw [if_pos c2]
      rw [fl_t ⟨c, cD_t.mpr c2⟩] at hK
      exact zC_i (by decide) hK
    · rw [if_neg c2]
      rw [fl_f (fun h => c2 (cD_t.mp h.2))] at hK
      exact zC_i (by decide) hK
  · rw [if_neg c]
    refine zC_i (by decide) (m_isIn (by decide) (by decide) (by decide) ?_)
    rw [if_neg (by decide)]
    rw [fl_f (fun h => c h.1)] at hK
    exact zC_i (by decide) hK
theorem wV_pad {T : Int → Int} {x : Int} {k : Nat} (hk : k ≤ 6) : wV T x k = wv T x k * 32 ^ (6 - k) := rfl
theorem m_pad {d : Nat} {K : Kt} {x1 : Int} : ∀ (m : Nat) (M : Mm) (x2 v : Int), x2 + m = 6 → 0 ≤ x2 → M 154 10 = v → (∀ M', M' 154 10 = v * 32 ^ m → (∀ j, j ≠ 10 → M' 154 j = M 154 j) → (∀ c, c ≠ 154 → M' c = M c) → K 1 M') → zWp (zSp d) 156 K 109 [some (.inr (.inr 154)), some (.inl x1), some (.inl x2)] [] M
  | 0, M, x2, v, hm, h0, hv, hK => by
    rw [fe_156_109]
    refine zC_i (zr (by omega) (by omega)) ⟨fun _ => hK M (by rw [hv]; show v = v * 1; omega) (fun _ _ => rfl) (fun _ _ => rfl), fun c => absurd (by omega) c⟩
  | m + 1, M, x2, v, hm, h0, hv, hK => by
    rw [fe_156_109, hv]
    refine zC_i (zr (by omega) (by omega)) ⟨fun q => absurd q (by omega), fun _ => ?_⟩
    refine m_pad m _ (x2 + 1) (v * 32) (by omega) (by omega) zUp_here ?_
    intro M' f1 f2 f3
    refine hK M' ?_ (fun j hj => by rw [f2 j hj, zUp_there hj]) (fun c hc => by rw [f3 c hc, zUp_away hc])
    rw [f1, Int.pow_succ, Int.mul_comm ((32 : Int) ^ m) 32, Int.mul_assoc]
theorem m_sees_l {d : Nat} {T : Int → Int} {n q : Int} {K : Kt} (hT : tpOk T n) (hq : 0 ≤ q ∧ q ≤ n) : ∀ (m : Nat) (M : Mm) (k : Nat), q + k + m = rq (cL T) n q → mTp T n M → M 154 11 = k → M 154 10 = wv T q (if k ≤ 6 then k else 6) →
    (∀ M', M' 154 11 = rq (cL T) n q - q → (rq (cL T) n q - q ≤ 6 → M' 154 10 = wV T q (rq (cL T) n q - q).toNat) → (∀ j, j ≠ 10 → j ≠ 11 → M' 154 j = M 154 j) → (∀ c, c ≠ 154 → M' c = M c) → K 1 M') →
    zWp (zSp (d + 2)) 156 K 33 [some (.inr (.inr 154)), some (.inl q), none] [] M
  | 0, M, k, hm, hx, h11, h10, hK => by
    have hn := hT.1
    have sp := rq_spec (f := cL T) hq.2
    rw [fe_156_33, h11]
    refine m_isL hT hx (by omega) ?_
    rw [fl_f (fun h => by
      have := sp.2.2.2 (by omega)
      rw [show rq (cL T) n q = q + k by omega] at this
      rw [this] at h
      exact absurd h.2 (by decide))]
    refine zC_i (by decide) ⟨fun _ => ?_, fun c => absurd rfl c⟩
    rw [h11]
    by_cases c6 : k ≤ 6
    · refine m_pad (6 - k) M k _ (by omega) (by omega) h10 ?_
      intro M' f1 f2 f3
      refine hK M' (by rw [f2 11 (by decide), h11]; omega) (fun _ => ?_) (fun j j1 j2 => f2 j j1) f3
      rw [f1, if_pos c6, show (rq (cL T) n q - q).toNat = k by omega]
      rfl
    · rw [fe_156_109]
      exact zC_i (zr (by omega) (by omega)) ⟨fun _ => hK M (by rw [h11]; omega) (fun h => by omega) (fun _ _ _ => rfl) (fun _ _ => rfl), fun c => absurd (by omega) c⟩
  | m + 1, M, k, hm, hx, h11, h10, hK => by
    have hn := hT.1
    have sp := rq_spec (f := cL T) hq.2
    have tr := rq_in (f := cL T) hq.2 (k := k) (by omega) (by omega)
    have hb := hT.2 (q + k) (by omega) (by omega)
    rw [fe_156_33, h11]
    refine m_isL hT hx (by omega) ?_
    rw [fl_t ⟨by omega, tr⟩, h11]
    have nx : ∀ y, y = wv T q (if k + 1 ≤ 6 then k + 1 else 6) → zWp (zSp (d + 2)) 156 K 88 [some (.inr (.inr 154)), some (.inl q), none] [.inr (.inl y), .inr (.inr 154)] M := by
      intro y hy
      rw [fe_156_88, h11]
      refine m_sees_l hT hq m _ (k + 1) (by omega) (mTp_fr hx (by rw [zUp_there (by decide), zUp_there (by decide)]) (by rw [zUp_away (by decide), zUp_away (by decide)])) (by rw [zUp_here]; omega) (by rw [zUp_there (by decide), zUp_here]; exact hy) ?_
      intro M' f1 f2 f3 f4
      exact hK M' f1 f2 (fun j j1 j2 => by rw [f3 j j1 j2, zUp_there j2, zUp_there j1]) (fun c hc => by rw [f4 c hc, zUp_away hc, zUp_away hc])
    refine zC_i (by decide) ⟨fun q => absurd q (by decide), fun _ => zC_i (zr (by omega) (by omega)) ⟨fun c6 => nx _ ?_, fun c6 => ?_⟩⟩
    · rw [h10, if_neg (by omega : ¬ (k + 1 ≤ 6))]
      by_cases ck : k ≤ 6
      · rw [if_pos ck, show k = 6 by omega]
      · rw [if_neg ck]
    · rw [hx.2 (q + k) (by omega) (by omega)]
      refine zC_i (zs (by omega) (by omega)) (zC_i (zr (by omega) (by omega)) (nx _ ?_))
      rw [h10, if_pos (by omega), if_pos (by omega)]
      show 32 * wv T q k + T (q + k) - 96 = 32 * wv T q k + (T (q + k) - 96)
      omega
/-- what a word looks like to the reference -/
def mWd (T : Int → Int) (n p : Int) (M : Mm) : Prop := M 154 4 = tQ T n p ∧ M 154 11 = tEn T n p - tQ T n p ∧ M 154 10 = tVa T n p
theorem tok_1 {T : Int → Int} {n p : Int} {w : Bool} (h : tKi T n p w = 1) : tEn T n p = rq (cL T) n (tQ T n p) ∧ tVa T n p = wV T (tQ T n p) (rq (cL T) n (tQ T n p) - tQ T n p).toNat := by
  obtain ⟨h1, h2, h3, h4⟩ := tKi_1.mp h
  unfold tEn tVa
  rw [if_neg (by omega), if_pos h2, if_pos h2]
  exact ⟨rfl, rfl⟩
theorem m_sees {d : Nat} {T : Int → Int} {n p : Int} {w : Bool} {M : Mm} {K : Kt} (hT : tpOk T n) (h : mTk T n p w M)
    (hK0 : ∀ M', tKi T n p w ≠ 1 → mTk T n p w M' → nF M M' → K 0 M') (hK1 : ∀ M', mTk T n p w M' → nF M M' → (tKi T n p w = 1 → M' 154 11 ≤ 6 ∧ mWd T n p M') → (tKi T n p w ≠ 1 → 6 < M' 154 11) → (0 ≤ M' 154 11 ∧ M' 154 11 ≤ 1000) → K 1 M') : zSp (d + 3) 156 [.inr (.inr 154)] M K := by
  have hn := hT.1
  have p0 := h.2.1
  have sq := tQ_s (T := T) p0.2
  rw [me_156]
  refine m_next (d := d + 1) hT h ?_
  intro M1 f1 f2 f3 f4
  have mk2 : mTk T n p w (zUp (zUp M1 154 11 0) 154 10 0) := mTk_fr f1 (by rw [zUp_away (by decide), zUp_away (by decide)]) (by rw [zUp_there (by decide), zUp_there (by decide)]) (by rw [zUp_there (by decide), zUp_there (by decide)]) (by rw [zUp_there (by decide), zUp_there (by decide)])
  have nf2 : nF M (zUp (zUp M1 154 11 0) 154 10 0) := nF_up (nF_up (nx_nF f3 f4) (by omega)) (by omega)
  refine m_isL (d := d) hT mk2.1 (by omega) ?_
  by_cases c : tQ T n p < n ∧ cL T (tQ T n p) = true
  · rw [fl_t c]
    have h5 := mk2.2.2.2
    refine zC_i (by decide) ⟨fun q => absurd q (by decide), fun _ => zC_i (zr (by omega) (by omega)) (zC_i (zr (by omega) (by cases w <;> simp at h5 <;> omega)) ⟨fun ne => ?_, fun ne => ?_⟩)⟩
    · have nt : ¬ (w = true ∧ tQ T n p ≤ p) := fun ⟨a, b⟩ => ne (by rw [h5.2.1 a]; omega)
      have sp := rq_spec (f := cL T) sq.2
      refine m_sees_l hT ⟨by omega, sq.2⟩ (rq (cL T) n (tQ T n p) - tQ T n p).toNat _ 0 (by omega) mk2.1 (by rw [zUp_there (by decide), zUp_here]; rfl) zUp_here ?_
      intro M' g1 g2 g3 g4
      refine hK1 M' (mTk_fr mk2 (g4 155 (by decide)) (g3 3 (by decide) (by decide)) (g3 4 (by decide) (by decide)) (g3 5 (by decide) (by decide))) (nF_trans nf2 ⟨g4, fun j a b c d => g3 j c d⟩) (fun k1 => ?_) (fun k1 => ?_) (by omega)
      · have c6 := (tKi_1.mp k1).2.2.2
        have tk := tok_1 k1
        refine ⟨by omega, by rw [g3 4 (by decide) (by decide), zUp_there (by decide), zUp_there (by decide)]; exact f2, by rw [g1, tk.1], by rw [g2 c6, tk.2]⟩
      · by_cases c6 : rq (cL T) n (tQ T n p) - tQ T n p ≤ 6
        · exact absurd (tKi_1.mpr ⟨c.1, c.2, nt, c6⟩) k1
        · omega
    · have ne := Decidable.not_not.mp ne
      refine hK0 _ (fun k1 => ?_) mk2 nf2
      have k1 := (tKi_1.mp k1).2.2.1
      cases w
      · have := h5.2.2 rfl; omega
      · exact k1 ⟨rfl, by have := h5.2.1 rfl; omega⟩
  · rw [fl_f c]
    refine zC_i (by decide) ⟨fun _ => hK0 _ (fun k1 => ?_) mk2 nf2, fun q => absurd rfl q⟩
    have k1 := tKi_1.mp k1
    exact c ⟨k1.1, k1.2.1⟩
theorem tVa_1 {T : Int → Int} {n p : Int} {w : Bool} (hp : p ≤ n) (h : tKi T n p w = 1) : 0 ≤ tVa T n p ∧ tVa T n p < 1073741824 := by
  have tk := tok_1 h
  obtain ⟨h1, h2, h3, h4⟩ := tKi_1.mp h
  rw [tk.2]
  refine wV_b (by omega) (fun i hi => ?_)
  exact cL_t.mp (rq_in (f := cL T) (show tQ T n p ≤ n by omega) (k := i) (by omega) (by omega))
theorem m_isWord {d : Nat} {T : Int → Int} {n p a : Int} {w : Bool} {M : Mm} {K : Kt} (hT : tpOk T n) (h : mTk T n p w M) (ha : zR64 a = true)
    (hK : ∀ M', mTk T n p w M' → nF M M' → (tKi T n p w = 1 → mWd T n p M') → K (fl (tKi T n p w = 1 ∧ tVa T n p = a)) M') : zSp (d + 4) 157 [.inr (.inr 154), .inr (.inl a)] M K := by
  have p0 := h.2.1
  rw [me_157]
  refine m_sees hT h ?_ ?_
  · intro M1 k1 f1 f2
    have hK := hK M1 f1 f2 (fun q => absurd q k1)
    rw [fl_f (fun q => k1 q.1)] at hK
    exact zC_i (by decide) ⟨fun _ => hK, fun q => absurd rfl q⟩
  · intro M1 f1 f2 f3 f4 f5
    have hK := hK M1 f1 f2 (fun q => (f3 q).2)
    refine zC_i (by decide) ⟨fun q => absurd q (by decide), fun _ => zC_i (zr (by omega) (by omega)) ⟨fun c6 => ?_, fun c6 => ?_⟩⟩
    · have nk : tKi T n p w ≠ 1 := fun q => by have := (f3 q).1; omega
      rw [fl_f (fun q => nk q.1)] at hK
      exact hK
    · have k1 : tKi T n p w = 1 := by
        by_cases k1 : tKi T n p w = 1
        · exact k1
        · have := f4 k1; omega
      have wd := (f3 k1).2
      have vb := tVa_1 p0.2 k1
      rw [wd.2.2]
      refine zC_i (zr64 (by omega) (by omega)) (zC_i ha (zC_i zLcmp_r ⟨fun q => ?_, fun q => ?_⟩))
      · rw [fl_f (fun e => q (zLcmp_eq.mpr e.2))] at hK; exact hK
      · rw [fl_t ⟨k1, zLcmp_eq.mp (Decidable.not_not.mp q)⟩] at hK; exact hK
theorem m_pass {d : Nat} {T : Int → Int} {n p : Int} {w : Bool} {M : Mm} {K : Kt} (h : mTk T n p w M) (hk : tKi T n p w = 1) (hd : mWd T n p M)
    (hK : ∀ M', mTk T n (tEn T n p) true M' → nF M M' → K 0 M') : zSp (d + 1) 158 [.inr (.inr 154)] M K := by
  obtain ⟨h1, h2, h3, h4⟩ := h
  obtain ⟨w1, w2, w3⟩ := hd
  have sq := tQ_s (T := T) h2.2
  have se := tEn_s (T := T) h2.2
  rw [me_158, w1, w2, show tQ T n p + (tEn T n p - tQ T n p) = tEn T n p by omega]
  refine hK _ ⟨mTp_fr h1 (by rw [zUp_there (by decide), zUp_there (by decide)]) (by rw [zUp_away (by decide), zUp_away (by decide)]), by omega, ⟨by rw [zUp_there (by decide), zUp_here]; omega, by rw [zUp_there (by decide), zUp_here]; omega, by rw [zUp_there (by decide), zUp_here]; rfl⟩, ⟨by rw [zUp_here]; omega, fun _ => zUp_here, fun q => absurd q (by decide)⟩⟩ (nF_up (nF_up nF_refl (by omega)) (by omega))
/-- the word of six letters, as the reference makes it -/
def pl (a : Int) : Int := if a = 0 then 0 else a - 96
def pkd (a1 a2 a3 a4 a5 a6 : Int) : Int := 32 * (32 * (32 * (32 * (32 * a1 + pl a2) + pl a3) + pl a4) + pl a5) + pl a6 - 3221225472
theorem pl_b {a : Int} (h : 0 ≤ a ∧ a ≤ 127) : -96 ≤ pl a ∧ pl a ≤ 127 := by
  unfold pl
  split <;> omega
theorem m_packed {d : Nat} {M : Mm} {K : Kt} {a1 a2 a3 a4 a5 a6 : Int} (h : (0 ≤ a1 ∧ a1 ≤ 127) ∧ (0 ≤ a2 ∧ a2 ≤ 127) ∧ (0 ≤ a3 ∧ a3 ≤ 127) ∧ (0 ≤ a4 ∧ a4 ≤ 127) ∧ (0 ≤ a5 ∧ a5 ≤ 127) ∧ (0 ≤ a6 ∧ a6 ≤ 127)) (hK : K (pkd a1 a2 a3 a4 a5 a6) M) : zSp (d + 1) 155 [.inl a1, .inl a2, .inl a3, .inl a4, .inl a5, .inl a6] M K := by
  obtain ⟨h1, h2, h3, h4, h5, h6⟩ := h
  have b2 := pl_b h2
  have b3 := pl_b h3
  have b4 := pl_b h4
  have b5 := pl_b h5
  have b6 := pl_b h6
  have s6 : ∀ y0 y1 : Int, y1 = pl a5 → y0 = 32 * (32 * (32 * (32 * a1 + pl a2) + pl a3) + pl a4) → ∀ x6 : Int, zWp (zSp d) 155 K 90 [some (.inl a1), some (.inl a2), some (.inl a3), some (.inl a4), some (.inl a5), some (.inl a6), some (.inr (.inl x6)), none] [.inl y1, .inr (.inl y0)] M := by
    intro y0 y1 e1 e0 x6
    rw [fe_155_90]
    refine zC_i (zr (by omega) (by omega)) (zC_i (zr (by omega) (by omega)) ⟨fun c => zC_i (zr (by omega) (by omega)) ?_, fun c => ?_⟩)
    · have e6 : pl a6 = a6 - 96 := if_neg c
      rw [show 32 * (y0 + y1) + (a6 - 96) - 3221225472 = pkd a1 a2 a3 a4 a5 a6 by unfold pkd; rw [e6, e0, e1]]
      exact hK
    · have e6 : pl a6 = 0 := if_pos (Decidable.not_not.mp c)
      rw [show 32 * (y0 + y1) + 0 - 3221225472 = pkd a1 a2 a3 a4 a5 a6 by unfold pkd; rw [e6, e0, e1]]
      exact hK
  have s5 : ∀ y0 y1 : Int, y1 = pl a4 → y0 = 32 * (32 * (32 * a1 + pl a2) + pl a3) → ∀ x6 : Int, zWp (zSp d) 155 K 66 [some (.inl a1), some (.inl a2), some (.inl a3), some (.inl a4), some (.inl a5), some (.inl a6), some (.inr (.inl x6)), none] [.inl y1, .inr (.inl y0)] M := by
    intro y0 y1 e1 e0 x6
    rw [fe_155_66]
    refine zC_i (zr (by omega) (by omega)) (zC_i (zr (by omega) (by omega)) ⟨fun c => s6 _ _ (if_neg c).symm (by rw [e0, e1]) _, fun c => s6 _ _ (if_pos (Decidable.not_not.mp c)).symm (by rw [e0, e1]) _⟩)
  have s4 : ∀ y0 y1 : Int, y1 = pl a3 → y0 = 32 * (32 * a1 + pl a2) → ∀ x6 : Int, zWp (zSp d) 155 K 44 [some (.inl a1), some (.inl a2), some (.inl a3), some (.inl a4), some (.inl a5), some (.inl a6), some (.inr (.inl x6)), none] [.inl y1, .inr (.inl y0)] M := by
    intro y0 y1 e1 e0 x6
    rw [fe_155_44]
    refine zC_i (zr (by omega) (by omega)) (zC_i (zr (by omega) (by omega)) ⟨fun c => s5 _ _ (if_neg c).symm (by rw [e0, e1]) _, fun c => s5 _ _ (if_pos (Decidable.not_not.mp c)).symm (by rw [e0, e1]) _⟩)
  have s3 : ∀ y0 y1 : Int, y1 = pl a2 → y0 = 32 * a1 → ∀ x6 : Int, zWp (zSp d) 155 K 22 [some (.inl a1), some (.inl a2), some (.inl a3), some (.inl a4), some (.inl a5), some (.inl a6), some (.inr (.inl x6)), none] [.inl y1, .inr (.inl y0)] M := by
    intro y0 y1 e1 e0 x6
    rw [fe_155_22]
    refine zC_i (zr (by omega) (by omega)) (zC_i (zr (by omega) (by omega)) ⟨fun c => s4 _ _ (if_neg c).symm (by rw [e0, e1]) _, fun c => s4 _ _ (if_pos (Decidable.not_not.mp c)).symm (by rw [e0, e1]) _⟩)
  rw [me_155]
  exact zC_i (zr (by omega) (by omega)) (zC_i (zr (by omega) (by omega)) ⟨fun c => s3 _ _ (if_neg c).symm rfl _, fun c => s3 _ _ (if_pos (Decidable.not_not.mp c)).symm rfl _⟩)
theorem pkd_b {a1 a2 a3 a4 a5 a6 : Int} (h : (0 ≤ a1 ∧ a1 ≤ 127) ∧ (0 ≤ a2 ∧ a2 ≤ 127) ∧ (0 ≤ a3 ∧ a3 ≤ 127) ∧ (0 ≤ a4 ∧ a4 ≤ 127) ∧ (0 ≤ a5 ∧ a5 ≤ 127) ∧ (0 ≤ a6 ∧ a6 ≤ 127)) : zR64 (pkd a1 a2 a3 a4 a5 a6) = true := by
  obtain ⟨h1, h2, h3, h4, h5, h6⟩ := h
  have b2 := pl_b h2
  have b3 := pl_b h3
  have b4 := pl_b h4
  have b5 := pl_b h5
  have b6 := pl_b h6
  unfold pkd
  exact zr64 (by omega) (by omega)
theorem m_own1 {d : Nat} {M : Mm} {K1 R : Mm → Prop} {v a1 a2 a3 a4 a5 a6 : Int} (h : (0 ≤ a1 ∧ a1 ≤ 127) ∧ (0 ≤ a2 ∧ a2 ≤ 127) ∧ (0 ≤ a3 ∧ a3 ≤ 127) ∧ (0 ≤ a4 ∧ a4 ≤ 127) ∧ (0 ≤ a5 ∧ a5 ≤ 127) ∧ (0 ≤ a6 ∧ a6 ≤ 127)) (hv : zR64 v = true) (h1 : v = pkd a1 a2 a3 a4 a5 a6 → K1 M) (h2 : v ≠ pkd a1 a2 a3 a4 a5 a6 → R M) :
    zSp (d + 1) 155 [.inl a1, .inl a2, .inl a3, .inl a4, .inl a5, .inl a6] M (fun z1 M1 => zC (zR64 v) (zC (zR64 z1) (zC (zR32 (zLcmp v z1)) ((zLcmp v z1 = 0 → K1 M1) ∧ (¬ (zLcmp v z1 = 0) → R M1))))) :=
  m_packed h (zC_i hv (zC_i (pkd_b h) (zC_i zLcmp_r ⟨fun q => h1 (zLcmp_eq.mp q), fun q => h2 (fun e => q (zLcmp_eq.mpr e))⟩)))
abbrev own (v : Int) : Prop := v ∈ zOwnL
theorem m_isOwn {d : Nat} {M : Mm} {K : Kt} {v : Int} (h : M 154 10 = v) (hv : zR64 v = true) (hK : K (fl (own v)) M) : zSp (d + 2) 160 [.inr (.inr 154)] M K := by
  have yes : ∀ {u : Int}, v = u → u ∈ zOwnL → K 1 M := fun e hu => by
    have o : own v := by rw [e]; exact hu
    rw [fl_t o] at hK
    exact hK
  subst h
  rw [me_160]
  refine m_own1 (a1 := 102) (a2 := 111) (a3 := 114) (a4 := 109) (a5 := 0) (a6 := 0) (by decide) hv (fun e => yes e (by decide)) (fun n0 => ?_)
  refine m_own1 (a1 := 108) (a2 := 101) (a3 := 97) (a4 := 102) (a5 := 0) (a6 := 0) (by decide) hv (fun e => yes e (by decide)) (fun n1 => ?_)
  refine m_own1 (a1 := 98) (a2 := 117) (a3 := 103) (a4 := 0) (a5 := 0) (a6 := 0) (by decide) hv (fun e => yes e (by decide)) (fun n2 => ?_)
  refine m_own1 (a1 := 111) (a2 := 100) (a3 := 100) (a4 := 115) (a5 := 0) (a6 := 0) (by decide) hv (fun e => yes e (by decide)) (fun n3 => ?_)
  refine m_own1 (a1 := 119) (a2 := 104) (a3 := 101) (a4 := 110) (a5 := 0) (a6 := 0) (by decide) hv (fun e => yes e (by decide)) (fun n4 => ?_)
  refine m_own1 (a1 := 111) (a2 := 114) (a3 := 0) (a4 := 0) (a5 := 0) (a6 := 0) (by decide) hv (fun e => yes e (by decide)) (fun n5 => ?_)
  refine m_own1 (a1 := 97) (a2 := 110) (a3 := 100) (a4 := 0) (a5 := 0) (a6 := 0) (by decide) hv (fun e => yes e (by decide)) (fun n6 => ?_)
  refine m_own1 (a1 := 110) (a2 := 111) (a3 := 116) (a4 := 0) (a5 := 0) (a6 := 0) (by decide) hv (fun e => yes e (by decide)) (fun n7 => ?_)
  refine m_own1 (a1 := 115) (a2 := 105) (a3 := 122) (a4 := 101) (a5 := 0) (a6 := 0) (by decide) hv (fun e => yes e (by decide)) (fun n8 => ?_)
  refine m_own1 (a1 := 100) (a2 := 101) (a3 := 101) (a4 := 112) (a5 := 0) (a6 := 0) (by decide) hv (fun e => yes e (by decide)) (fun n9 => ?_)
  refine m_own1 (a1 := 104) (a2 := 97) (a3 := 115) (a4 := 0) (a5 := 0) (a6 := 0) (by decide) hv (fun e => yes e (by decide)) (fun n10 => ?_)
  refine m_own1 (a1 := 117) (a2 := 110) (a3 := 100) (a4 := 101) (a5 := 114) (a6 := 0) (by decide) hv (fun e => yes e (by decide)) (fun n11 => ?_)
  refine m_packed (a1 := 110) (a2 := 101) (a3 := 120) (a4 := 116) (a5 := 0) (a6 := 0) (by decide) ?_
  refine zC_i hv (zC_i (by decide) (zC_i zLcmp_r ⟨fun q => ?_, fun q => yes (zLcmp_eq.mp (Decidable.not_not.mp q)) (by decide)⟩))
  have n12 := fun e => q (zLcmp_eq.mpr e)
  have no : ¬ own (M 154 10) := by
    intro hm
    unfold own zOwnL at hm
    simp only [List.mem_cons, List.not_mem_nil, or_false] at hm
    rcases hm with e | e | e | e | e | e | e | e | e | e | e | e | e
    · exact n0 e
    · exact n1 e
    · exact n2 e
    · exact n3 e
    · exact n4 e
    · exact n5 e
    · exact n6 e
    · exact n7 e
    · exact n8 e
    · exact n9 e
    · exact n10 e
    · exact n11 e
    · exact n12 e
  rw [fl_f no] at hK
  exact hK
