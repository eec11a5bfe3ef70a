/-! LAYER 3: counts of a tree, the reference -/
theorem m_many {d : Nat} {M : Mm} {K : Kt} {b : Int} (hb : 0 ≤ b ∧ b + 161 ≤ 2093) (hK : K (M 165 b) M) : zSp (d + 1) 174 [.inr (.inr 154), .inl b] M K := by
  rw [me_174]
  exact zC_i (zs (by omega) (by omega)) hK
theorem m_nameOf {d : Nat} {M : Mm} {K : Kt} {b k : Int} {t : Tr} (hb : 0 ≤ b ∧ b + 161 ≤ 2093) (ht : mTr M b t) (h0 : 0 ≤ k) (h1 : k < tSz t) (hK : K (tNm (tSub t k)) M) : zSp (d + 1) 175 [.inr (.inr 154), .inl b, .inl k] M K := by
  have hz := ht.2
  rw [me_175, (mTr_at ht h0 h1).1]
  exact zC_i (zs (by omega) (by omega)) hK
theorem m_sizeOf {d : Nat} {M : Mm} {K : Kt} {b k : Int} {t : Tr} (hb : 0 ≤ b ∧ b + 161 ≤ 2093) (ht : mTr M b t) (h0 : 0 ≤ k) (h1 : k < tSz t) (hK : K (tSz (tSub t k)) M) : zSp (d + 1) 176 [.inr (.inr 154), .inl b, .inl k] M K := by
  have hz := ht.2
  rw [me_176, (mTr_at ht h0 h1).2]
  exact zC_i (zs (by omega) (by omega)) hK
theorem m_flag {d : Nat} {M : Mm} {K : Kt} {x : Int} (h : x = 0 ∨ x = 1) (hK : K x M) : zSp (d + 1) 138 [.inl x] M K := by
  rw [me_138]
  rcases h with h | h <;> subst h
  · exact zC_i (by decide) ⟨fun _ => hK, fun c => absurd rfl c⟩
  · exact zC_i (by decide) ⟨fun c => absurd c (by decide), fun _ => hK⟩
theorem m_has_l {d : Nat} {M : Mm} {K : Kt} {b : Int} {t : Tr} {a : Int} (hb : 0 ≤ b ∧ b + 161 ≤ 2093) (ht : mTr M b t) (hv : tVal 24 t) (ha : zR32 a = true) : ∀ (m : Nat) (k n : Int), k + m = tSz t → 0 ≤ k → K (n + cHas t a m k) M → zWp (zSp (d + 1)) 202 K 5 [some (.inr (.inr 154)), some (.inl b), some (.inl a), some (.inl n), some (.inl k)] [] M
  | 0, k, n, h1, h2, hK => by
    have t1 := ht.1.1
    have t5 := ht.2
    rw [fe_202_5]
    refine m_many hb ?_
    rw [t1]
    (repeat (first | refine zC_i (by first | assumption | decide | exact zr (by omega) (by omega) | exact zs (by omega) (by omega) | exact zd (by omega) (by omega)) ?_ | refine zIfT (by first | assumption | omega | decide) ?_ | refine zIfF (by first | assumption | omega | decide) ?_))
    rw [show n + cHas t a 0 k = n from Int.add_zero n] at hK
    exact hK
  | m + 1, k, n, h1, h2, hK => by
    have t1 := ht.1.1
    have t5 := ht.2
    have hn := tNm_r hv k
    rw [show n + cHas t a (m + 1) k = n + fl (tNm (tSub t k) = a) + cHas t a m (k + 1) from (Int.add_assoc _ _ _).symm] at hK
    rw [fe_202_5]
    refine m_many hb ?_
    rw [t1]
    (repeat (first | refine zC_i (by first | assumption | decide | exact zr (by omega) (by omega) | exact zs (by omega) (by omega) | exact zd (by omega) (by omega)) ?_ | refine zIfT (by first | assumption | omega | decide) ?_ | refine zIfF (by first | assumption | omega | decide) ?_))
    refine m_nameOf hb ht h2 (by omega) ?_
    (repeat (first | refine zC_i (by first | assumption | decide | exact zr (by omega) (by omega) | exact zs (by omega) (by omega) | exact zd (by omega) (by omega)) ?_ | refine zIfT (by first | assumption | omega | decide) ?_ | refine zIfF (by first | assumption | omega | decide) ?_))
    refine ⟨fun hc => ?_, fun hc => ?_⟩
    · rw [fl_f hc] at hK
      rw [fe_202_32]
      refine m_flag (.inl rfl) ?_
      exact m_has_l hb ht hv ha m (k + 1) _ (by omega) (by omega) hK
    · rw [fl_t (by omega)] at hK
      rw [fe_202_32]
      refine m_flag (.inr rfl) ?_
      exact m_has_l hb ht hv ha m (k + 1) _ (by omega) (by omega) hK
theorem m_und_l {d : Nat} {M : Mm} {K : Kt} {b : Int} {t : Tr} {a x3 : Int} (hb : 0 ≤ b ∧ b + 161 ≤ 2093) (ht : mTr M b t) (hv : tVal 24 t) (ha : zR32 a = true) (h3 : zR32 x3 = true) : ∀ (m : Nat) (k n w : Int), k + m = tSz t → 0 ≤ k → 0 ≤ w ∧ w ≤ 80 → K (cUnd t a x3 m k n w) M → zWp (zSp (d + 1)) 200 K 9 [some (.inr (.inr 154)), some (.inl b), some (.inl a), some (.inl x3), some (.inl n), some (.inl w), some (.inl k)] [] M
  | 0, k, n, w, h1, h2, hw, hK => by
    have t1 := ht.1.1
    have t5 := ht.2
    rw [fe_200_9]
    refine m_many hb ?_
    rw [t1]
    (repeat (first | refine zC_i (by first | assumption | decide | exact zr (by omega) (by omega) | exact zs (by omega) (by omega) | exact zd (by omega) (by omega)) ?_ | refine zIfT (by first | assumption | omega | decide) ?_ | refine zIfF (by first | assumption | omega | decide) ?_))
    exact hK
  | m + 1, k, n, w, h1, h2, hw, hK => by
    have t1 := ht.1.1
    have t5 := ht.2
    have hn := tNm_r hv k
    have pb := tPl_b (t := t) h2 (by omega)
    have hK : K (cUnd t a x3 m (k + 1) (n + fl (k < w ∧ tNm (tSub t k) = x3)) (if tNm (tSub t k) = a then zMax w (k + tSz (tSub t k)) else w)) M := hK
    have h44 : ∀ y, y = fl (k < w ∧ tNm (tSub t k) = x3) → zWp (zSp (d + 1)) 200 K 44 [some (.inr (.inr 154)), some (.inl b), some (.inl a), some (.inl x3), some (.inl n), some (.inl w), some (.inl k)] [.inl y, .inl n] M := by
      intro y hy
      have hb2 : y = 0 ∨ y = 1 := by rw [hy]; exact fl_b
      rw [fe_200_44]
      refine m_flag hb2 (m_nameOf hb ht h2 (by omega) ?_)
      rw [hy]
      (repeat (first | refine zC_i (by first | assumption | decide | exact zr (by omega) (by omega) | exact zs (by omega) (by omega) | exact zd (by omega) (by omega)) ?_ | refine zIfT (by first | assumption | omega | decide) ?_ | refine zIfF (by first | assumption | omega | decide) ?_))
      refine ⟨fun hc => ?_, fun hc => ?_⟩
      · rw [if_neg hc] at hK
        exact m_und_l hb ht hv ha h3 m (k + 1) _ w (by omega) (by omega) hw hK
      · rw [if_pos (by omega)] at hK
        have z := @zMax_b w (k + tSz (tSub t k))
        refine m_sizeOf hb ht h2 (by omega) ?_
        (repeat (first | refine zC_i (by first | assumption | decide | exact zr (by omega) (by omega) | exact zs (by omega) (by omega) | exact zd (by omega) (by omega)) ?_ | refine zIfT (by first | assumption | omega | decide) ?_ | refine zIfF (by first | assumption | omega | decide) ?_))
        refine ⟨fun hc2 => ?_, fun hc2 => ?_⟩
        · rw [show zMax w (k + tSz (tSub t k)) = w by omega] at hK
          exact m_und_l hb ht hv ha h3 m (k + 1) _ _ (by omega) (by omega) hw hK
        · rw [show zMax w (k + tSz (tSub t k)) = k + tSz (tSub t k) by omega] at hK
          refine m_sizeOf hb ht h2 (by omega) ?_
          exact m_und_l hb ht hv ha h3 m (k + 1) _ _ (by omega) (by omega) (by omega) hK
    rw [fe_200_9]
    refine m_many hb ?_
    rw [t1]
    (repeat (first | refine zC_i (by first | assumption | decide | exact zr (by omega) (by omega) | exact zs (by omega) (by omega) | exact zd (by omega) (by omega)) ?_ | refine zIfT (by first | assumption | omega | decide) ?_ | refine zIfF (by first | assumption | omega | decide) ?_))
    refine ⟨fun hc => ?_, fun hc => ?_⟩
    · rw [fe_200_43]
      exact h44 0 (fl_f (by omega)).symm
    · refine m_nameOf hb ht h2 (by omega) ?_
      (repeat (first | refine zC_i (by first | assumption | decide | exact zr (by omega) (by omega) | exact zs (by omega) (by omega) | exact zd (by omega) (by omega)) ?_ | refine zIfT (by first | assumption | omega | decide) ?_ | refine zIfF (by first | assumption | omega | decide) ?_))
      refine ⟨fun hc2 => ?_, fun hc2 => ?_⟩
      · rw [fe_200_43]
        exact h44 0 (fl_f (by omega)).symm
      · exact h44 1 (fl_t (by omega)).symm
-- next
def cKid (a b : Int) : Tr → Int
  | .var _ => 0
  | .op f s => cKid a b f + fl (cLast f = a ∧ tNm s = b)
def cNon (a b : Int) : Tr → Int
  | .var _ => 0
  | .op f s => cNon a b f + (cKid a b s + cNon a b s)
theorem cNon_eq {a b : Int} : ∀ t : Tr, cKid a b t + cNon a b t = cNext a b t
  | .var _ => rfl
  | .op f s => by
    have h1 := cNon_eq (a := a) (b := b) f
    have h2 := cNon_eq (a := a) (b := b) s
    show cKid a b f + fl (cLast f = a ∧ tNm s = b) + (cNon a b f + (cKid a b s + cNon a b s)) = cNext a b f + fl (cLast f = a ∧ tNm s = b) + cNext a b s
    omega
theorem cKid_sum {t : Tr} {a b : Int} : ∀ (u : Tr) (i l : Int), tAll (fun k w _ _ _ => w = tSub t k) u i l → cSum (fun k => cKid a b (tSub t k)) (tSz u - 1).toNat (i + 1) = cNon a b u
  | .var n, i, l, hA => rfl
  | .op f s, i, l, hA => by
    have q1 := tSz_pos f
    have q2 := tSz_pos s
    obtain ⟨hf, e1, hs⟩ := hA
    have ih1 := cKid_sum (t := t) (a := a) (b := b) f i l hf
    have ih2 := cKid_sum (t := t) (a := a) (b := b) s (i + tSz f) (l + 1) hs
    rw [show (tSz (.op f s) - 1).toNat = (tSz f - 1).toNat + ((tSz s - 1).toNat + 1) by show (tSz f + tSz s - 1).toNat = _; omega, cSum_split, ih1, show i + 1 + (((tSz f - 1).toNat : Nat) : Int) = i + tSz f by omega]
    show _ + (cKid a b (tSub t (i + tSz f)) + cSum _ (tSz s - 1).toNat (i + tSz f + 1)) = cNon a b f + (cKid a b s + cNon a b s)
    rw [ih2, ← e1]
theorem cKid_all {t : Tr} {a b : Int} : cSum (fun k => cKid a b (tSub t k)) (tSz t).toNat 0 = cNext a b t := by
  have q1 := tSz_pos t
  have h := cKid_sum (t := t) (a := a) (b := b) t 0 0 (tAll_put fun k c1 c2 => rfl)
  rw [show (tSz t).toNat = (tSz t - 1).toNat + 1 by omega]
  show cKid a b (tSub t 0) + cSum _ _ (0 + 1) = _
  rw [h, tSub_0]
  exact cNon_eq t
theorem m_nxt_c {d : Nat} {M : Mm} {K : Kt} {b : Int} {t : Tr} {a x3 x5 z n : Int} (hb : 0 ≤ b ∧ b + 161 ≤ 2093) (ht : mTr M b t) (hv : tVal 24 t) (ha : zR32 a = true) (h3 : zR32 x3 = true) (ha0 : 0 ≤ a) (hk : 0 ≤ x5) (hz : x5 + z ≤ tSz t) : ∀ (u : Tr) (l : Int) (u8 : Option Vl), tSz u ≤ z → tKids (fun k w _ _ _ => w = tSub t k) u x5 l →
    (∀ u8 n', n' = n + cKid a x3 u + fl (cLast u = a ∧ tSz u < z ∧ tNm (tSub t (x5 + tSz u)) = x3) → zWp (zSp (d + 1)) 201 K 34 [some (.inr (.inr 154)), some (.inl b), some (.inl a), some (.inl x3), some (.inl n'), some (.inl x5), some (.inl (x5 + z)), some (.inl (x5 + tSz u)), u8] [] M) →
    zWp (zSp (d + 1)) 201 K 34 [some (.inr (.inr 154)), some (.inl b), some (.inl a), some (.inl x3), some (.inl n), some (.inl x5), some (.inl (x5 + z)), some (.inl (x5 + 1)), u8] [] M
  | .var v, l, u8, h1, hA, hK => hK u8 n (by
      have e : fl (cLast (.var v) = a ∧ tSz (.var v) < z ∧ tNm (tSub t (x5 + tSz (.var v))) = x3) = 0 := fl_f (fun q => by
        have q1 : (-1 : Int) = a := q.1
        omega)
      rw [e]
      show n = n + 0 + 0
      omega)
  | .op f s, l, u8, h1, hA, hK => by
    have h1 : tSz f + tSz s ≤ z := h1
    have q1 := tSz_pos f
    have q2 := tSz_pos s
    have t5 := ht.2
    obtain ⟨hf, e⟩ := hA
    have e : s = tSub t (x5 + tSz f) := e
    refine m_nxt_c hb ht hv ha h3 ha0 hk hz f l u8 (by omega) hf ?_
    intro u8 n1 hn1
    have hK : ∀ u8 n', n' = n + (cKid a x3 f + fl (cLast f = a ∧ tNm s = x3)) + fl (tNm s = a ∧ tSz f + tSz s < z ∧ tNm (tSub t (x5 + (tSz f + tSz s))) = x3) → zWp (zSp (d + 1)) 201 K 34 [some (.inr (.inr 154)), some (.inl b), some (.inl a), some (.inl x3), some (.inl n'), some (.inl x5), some (.inl (x5 + z)), some (.inl (x5 + (tSz f + tSz s))), u8] [] M := hK
    have en : fl (cLast f = a ∧ tSz f < z ∧ tNm (tSub t (x5 + tSz f)) = x3) = fl (cLast f = a ∧ tNm s = x3) := by
      rw [← e]
      by_cases c : cLast f = a ∧ tNm s = x3
      · rw [fl_t c, fl_t ⟨c.1, by omega, c.2⟩]
      · rw [fl_f c, fl_f (fun q => c ⟨q.1, q.2.2⟩)]
    rw [en] at hn1
    have h89 : ∀ y x8, y = fl (tNm s = a ∧ tSz f + tSz s < z ∧ tNm (tSub t (x5 + (tSz f + tSz s))) = x3) → zWp (zSp (d + 1)) 201 K 89 [some (.inr (.inr 154)), some (.inl b), some (.inl a), some (.inl x3), some (.inl n1), some (.inl x5), some (.inl (x5 + z)), some (.inl (x5 + tSz f)), some (.inl x8)] [.inl y, .inl n1] M := by
      intro y x8 hy
      rw [fe_201_89]
      refine m_flag (by rw [hy]; exact fl_b) (m_sizeOf hb ht (by omega) (by omega) ?_)
      rw [← e, Int.add_assoc x5]
      exact hK _ _ (by omega)
    have r1 := tNm_r hv (x5 + tSz f)
    have r2 := tNm_r hv (x5 + (tSz f + tSz s))
    rw [← e] at r1
    rw [fe_201_34]
    (repeat (first | refine zC_i (by first | assumption | decide | exact zr (by omega) (by omega) | exact zs (by omega) (by omega) | exact zd (by omega) (by omega)) ?_ | refine zIfT (by first | assumption | omega | decide) ?_ | refine zIfF (by first | assumption | omega | decide) ?_))
    refine m_sizeOf hb ht (by omega) (by omega) ?_
    rw [← e, Int.add_assoc x5]
    (repeat (first | refine zC_i (by first | assumption | decide | exact zr (by omega) (by omega) | exact zs (by omega) (by omega) | exact zd (by omega) (by omega)) ?_ | refine zIfT (by first | assumption | omega | decide) ?_ | refine zIfF (by first | assumption | omega | decide) ?_))
    refine ⟨fun hc => ?_, fun hc => ?_⟩
    · rw [fe_201_88]
      exact h89 0 _ (fl_f (by omega)).symm
    refine m_nameOf hb ht (by omega) (by omega) ?_
    rw [← e]
    (repeat (first | refine zC_i (by first | assumption | decide | exact zr (by omega) (by omega) | exact zs (by omega) (by omega) | exact zd (by omega) (by omega)) ?_ | refine zIfT (by first | assumption | omega | decide) ?_ | refine zIfF (by first | assumption | omega | decide) ?_))
    refine ⟨fun hc => ?_, fun hc => ?_⟩
    · rw [fe_201_88]
      exact h89 0 _ (fl_f (by omega)).symm
    refine m_nameOf hb ht (by omega) (by omega) ?_
    (repeat (first | refine zC_i (by first | assumption | decide | exact zr (by omega) (by omega) | exact zs (by omega) (by omega) | exact zd (by omega) (by omega)) ?_ | refine zIfT (by first | assumption | omega | decide) ?_ | refine zIfF (by first | assumption | omega | decide) ?_))
    refine ⟨fun hc => ?_, fun hc => ?_⟩
    · rw [fe_201_88]
      exact h89 0 _ (fl_f (by omega)).symm
    · exact h89 1 _ (fl_t (by omega)).symm
theorem m_nxt_l {d : Nat} {M : Mm} {K : Kt} {b : Int} {t : Tr} {a x3 : Int} (hb : 0 ≤ b ∧ b + 161 ≤ 2093) (ht : mTr M b t) (hv : tVal 24 t) (ha : zR32 a = true) (h3 : zR32 x3 = true) (ha0 : 0 ≤ a) : ∀ (m : Nat) (k n : Int) (u6 u7 u8 : Option Vl), k + m = tSz t → 0 ≤ k → K (n + cSum (fun k => cKid a x3 (tSub t k)) m k) M → zWp (zSp (d + 1)) 201 K 6 [some (.inr (.inr 154)), some (.inl b), some (.inl a), some (.inl x3), some (.inl n), some (.inl k), u6, u7, u8] [] M
  | 0, k, n, u6, u7, u8, h1, h2, hK => by
    have t1 := ht.1.1
    have t5 := ht.2
    rw [fe_201_6]
    refine m_many hb ?_
    rw [t1]
    (repeat (first | refine zC_i (by first | assumption | decide | exact zr (by omega) (by omega) | exact zs (by omega) (by omega) | exact zd (by omega) (by omega)) ?_ | refine zIfT (by first | assumption | omega | decide) ?_ | refine zIfF (by first | assumption | omega | decide) ?_))
    rw [show n + cSum (fun k => cKid a x3 (tSub t k)) 0 k = n from Int.add_zero n] at hK
    exact hK
  | m + 1, k, n, u6, u7, u8, h1, h2, hK => by
    have t1 := ht.1.1
    have t5 := ht.2
    have pb := tPl_b (t := t) h2 (by omega)
    rw [show n + cSum (fun k => cKid a x3 (tSub t k)) (m + 1) k = n + cKid a x3 (tSub t k) + cSum (fun k => cKid a x3 (tSub t k)) m (k + 1) from (Int.add_assoc _ _ _).symm] at hK
    rw [fe_201_6]
    refine m_many hb ?_
    rw [t1]
    (repeat (first | refine zC_i (by first | assumption | decide | exact zr (by omega) (by omega) | exact zs (by omega) (by omega) | exact zd (by omega) (by omega)) ?_ | refine zIfT (by first | assumption | omega | decide) ?_ | refine zIfF (by first | assumption | omega | decide) ?_))
    refine m_sizeOf hb ht h2 (by omega) ?_
    refine m_nxt_c hb ht hv ha h3 ha0 h2 (by omega) (tSub t k) (tLv t k) _ (by omega) (tAll_kids _ _ _ (tAll_getS (tAll_put (Φ := fun k w _ _ _ => w = tSub t k) fun _ _ _ => rfl) h2 (by omega))) ?_
    intro u8 n' hn'
    rw [fl_f (by omega), Int.add_zero] at hn'
    subst hn'
    rw [fe_201_34]
    (repeat (first | refine zC_i (by first | assumption | decide | exact zr (by omega) (by omega) | exact zs (by omega) (by omega) | exact zd (by omega) (by omega)) ?_ | refine zIfT (by first | assumption | omega | decide) ?_ | refine zIfF (by first | assumption | omega | decide) ?_))
    exact m_nxt_l hb ht hv ha h3 ha0 m (k + 1) _ _ _ _ (by omega) (by omega) hK
-- deep
theorem m_pop {d : Nat} {M : Mm} {K : Kt} {b x2 x4 l : Int} (h4 : 0 ≤ x4 ∧ x4 ≤ 80) (hl : 0 ≤ l) (h0 : l = 0 ∨ (x4 < M 189 (l - 1) ∧ M 189 (l - 1) ≤ 80)) (hk : zWp (zSp d) 199 K 40 [some (.inr (.inr 154)), some (.inl b), some (.inl x2), some (.inl l), some (.inl x4)] [] M) : ∀ (m : Nat) (x3 : Int), x3 = l + m → x3 ≤ 96 → (∀ j, l ≤ j → j < x3 → 0 ≤ M 189 j ∧ M 189 j ≤ x4) → zWp (zSp d) 199 K 17 [some (.inr (.inr 154)), some (.inl b), some (.inl x2), some (.inl x3), some (.inl x4)] [] M
  | 0, x3, h1, h2, h3 => by
    have h1 : x3 = l := by omega
    subst h1
    rw [fe_199_17]
    refine zC_i (by first | assumption | decide | exact zr (by omega) (by omega) | exact zs (by omega) (by omega) | exact zd (by omega) (by omega)) ⟨fun _ => hk, fun c => ?_⟩
    rcases h0 with h0 | h0
    · omega
    (repeat (first | refine zC_i (by first | assumption | decide | exact zr (by omega) (by omega) | exact zs (by omega) (by omega) | exact zd (by omega) (by omega)) ?_ | refine zIfT (by first | assumption | omega | decide) ?_ | refine zIfF (by first | assumption | omega | decide) ?_))
    exact hk
  | m + 1, x3, h1, h2, h3 => by
    have g := h3 (x3 - 1) (by omega) (by omega)
    rw [fe_199_17]
    (repeat (first | refine zC_i (by first | assumption | decide | exact zr (by omega) (by omega) | exact zs (by omega) (by omega) | exact zd (by omega) (by omega)) ?_ | refine zIfT (by first | assumption | omega | decide) ?_ | refine zIfF (by first | assumption | omega | decide) ?_))
    exact m_pop h4 hl h0 hk m (x3 + -1) (by omega) (by omega) (fun j c1 c2 => h3 j c1 (by omega))
theorem m_deep_l {d : Nat} {K : Kt} {b n : Int} {t : Tr} (hb : 0 ≤ b ∧ b + 161 ≤ 2093) (hn : n = tSz t) : ∀ (u : Tr) (M : Mm) (i l x2 x3 z : Int), mTr M b t → 0 ≤ i → 0 ≤ l → l ≤ i → tSz u ≤ z → i + z ≤ n → tAll (fun k w _ _ _ => w = tSub t k) u i l → M 189 l = i + z → l + 1 ≤ x3 → x3 ≤ i + 2 → (∀ j, l + 1 ≤ j → j < x3 → 0 ≤ M 189 j ∧ M 189 j ≤ i + 1) → l ≤ x2 → x2 ≤ 80 →
    (∀ M' x3, (∀ c, c ≠ 189 → M' c = M c) → (∀ j, j ≤ l → M' 189 j = M 189 j) → l + 1 ≤ x3 → x3 ≤ i + tSz u + 1 → (∀ j, l + 1 ≤ j → j < x3 → 0 ≤ M' 189 j ∧ M' 189 j ≤ i + tSz u) → zWp (zSp (d + 1)) 199 K 7 [some (.inr (.inr 154)), some (.inl b), some (.inl (zMax x2 (l + tDp u))), some (.inl x3), some (.inl (i + tSz u))] [] M') →
    zWp (zSp (d + 1)) 199 K 7 [some (.inr (.inr 154)), some (.inl b), some (.inl x2), some (.inl x3), some (.inl (i + 1))] [] M
  | .var _, M, i, l, x2, x3, z, ht, h0, h1, h2, h3, h4, hA, h5, h6, h7, h8, h9, h10, hK => by
    have zz := @zMax_b x2 (l + 0)
    have h := hK M x3 (fun _ _ => rfl) (fun _ _ => rfl) h6 (by show x3 ≤ i + 1 + 1; omega) h8
    rw [show zMax x2 (l + tDp (.var _)) = x2 by show zMax x2 (l + 0) = x2; omega] at h
    exact h
  | .op f s, M, i, l, x2, x3, z, ht, h0, h1, h2, h3, h4, hA, h5, h6, h7, h8, h9, h10, hK => by
    have h3 : tSz f + tSz s ≤ z := h3
    have q1 := tSz_pos f
    have q2 := tSz_pos s
    have q5 := tDp_b f
    have q6 := tDp_b s
    have t1 := ht.1.1
    have t5 := ht.2
    obtain ⟨hf, e, hs⟩ := hA
    have e : s = tSub t (i + tSz f) := e
    refine m_deep_l hb hn f M i l x2 x3 z ht h0 h1 h2 (by omega) h4 hf h5 h6 h7 h8 h9 h10 ?_
    intro M1 x3 f1 f2 f3 f4 f5
    have e165 : M1 165 = M 165 := f1 165 (by decide)
    have ht1 : mTr M1 b t := by unfold mTr mNS at ht ⊢; rw [e165]; exact ht
    have z1 := @zMax_b x2 (l + tDp f)
    have g5 : M1 189 l = i + z := by rw [f2 l (by omega)]; exact h5
    rw [fe_199_7]
    refine m_many hb ?_
    rw [e165, t1]
    (repeat (first | refine zC_i (by first | assumption | decide | exact zr (by omega) (by omega) | exact zs (by omega) (by omega) | exact zd (by omega) (by omega)) ?_ | refine zIfT (by first | assumption | omega | decide) ?_ | refine zIfF (by first | assumption | omega | decide) ?_))
    refine m_pop (l := l + 1) (by omega) (by omega) (.inr (by rw [Int.add_sub_cancel]; omega)) ?_ (x3 - (l + 1)).toNat x3 (by omega) (by omega) f5
    have h50 : ∀ y, y = zMax (zMax x2 (l + tDp f)) (l + 1) → zWp (zSp (d + 1)) 199 K 50 [some (.inr (.inr 154)), some (.inl b), some (.inl (zMax x2 (l + tDp f))), some (.inl (l + 1)), some (.inl (i + tSz f))] [.inl y] M1 := by
      intro y hy
      have z2 := @zMax_b (zMax x2 (l + tDp f)) (l + 1)
      rw [fe_199_50]
      refine m_sizeOf hb ht1 (by omega) (by omega) ?_
      rw [← e]
      (repeat (first | refine zC_i (by first | assumption | decide | exact zr (by omega) (by omega) | exact zs (by omega) (by omega) | exact zd (by omega) (by omega)) ?_ | refine zIfT (by first | assumption | omega | decide) ?_ | refine zIfF (by first | assumption | omega | decide) ?_))
      refine m_deep_l hb hn s _ (i + tSz f) (l + 1) y (l + 1 + 1) (tSz s) ?_ (by omega) (by omega) (by omega) (by omega) (by omega) hs (by rw [zUp_here]) (by omega) (by omega) (fun j c1 c2 => by omega) (by omega) (by omega) ?_
      · unfold mTr mNS at ht1 ⊢; rw [zUp_away (by decide)]; exact ht1
      intro M2 x3 k1 k2 k3 k4 k5
      have z3 := @zMax_b y (l + 1 + tDp s)
      have z4 := @zMax_b (tDp f) (tDp s + 1)
      have z5 := @zMax_b x2 (l + zMax (tDp f) (tDp s + 1))
      have h := hK M2 x3 (fun c hc => by rw [k1 c hc, zUp_away hc, f1 c hc]) (fun j hj => by rw [k2 j (by omega), zUp_there (by omega), f2 j hj]) (by omega) (by show x3 ≤ i + (tSz f + tSz s) + 1; omega) ?_
      · have h : zWp (zSp (d + 1)) 199 K 7 [some (.inr (.inr 154)), some (.inl b), some (.inl (zMax x2 (l + zMax (tDp f) (tDp s + 1)))), some (.inl x3), some (.inl (i + (tSz f + tSz s)))] [] M2 := h
        rw [show zMax y (l + 1 + tDp s) = zMax x2 (l + zMax (tDp f) (tDp s + 1)) by omega, show i + tSz f + tSz s = i + (tSz f + tSz s) by omega]
        exact h
      · intro j c1 c2
        show 0 ≤ M2 189 j ∧ M2 189 j ≤ i + (tSz f + tSz s)
        by_cases c : j = l + 1
        · rw [c, k2 (l + 1) (by omega), zUp_here]; omega
        · have := k5 j (by omega) c2
          omega
    have z2 := @zMax_b (zMax x2 (l + tDp f)) (l + 1)
    rw [fe_199_40]
    (repeat (first | refine zC_i (by first | assumption | decide | exact zr (by omega) (by omega) | exact zs (by omega) (by omega) | exact zd (by omega) (by omega)) ?_ | refine zIfT (by first | assumption | omega | decide) ?_ | refine zIfF (by first | assumption | omega | decide) ?_))
    refine ⟨fun hc => h50 _ (by omega), fun hc => h50 _ (by omega)⟩
theorem m_deepOf {d : Nat} {M : Mm} {K : Kt} {b : Int} {t : Tr} (hb : 0 ≤ b ∧ b + 161 ≤ 2093) (ht : mTr M b t) (hK : ∀ M', (∀ c, c ≠ 189 → M' c = M c) → K (tDp t) M') : zSp (d + 2) 199 [.inr (.inr 154), .inl b] M K := by
  have q1 := tSz_pos t
  have q5 := tDp_b t
  have t1 := ht.1.1
  have t5 := ht.2
  rw [me_199, fe_199_7]
  refine m_many hb ?_
  rw [t1]
  (repeat (first | refine zC_i (by first | assumption | decide | exact zr (by omega) (by omega) | exact zs (by omega) (by omega) | exact zd (by omega) (by omega)) ?_ | refine zIfT (by first | assumption | omega | decide) ?_ | refine zIfF (by first | assumption | omega | decide) ?_))
  rw [fe_199_17]
  (repeat (first | refine zC_i (by first | assumption | decide | exact zr (by omega) (by omega) | exact zs (by omega) (by omega) | exact zd (by omega) (by omega)) ?_ | refine zIfT (by first | assumption | omega | decide) ?_ | refine zIfF (by first | assumption | omega | decide) ?_))
  rw [fe_199_40]
  (repeat (first | refine zC_i (by first | assumption | decide | exact zr (by omega) (by omega) | exact zs (by omega) (by omega) | exact zd (by omega) (by omega)) ?_ | refine zIfT (by first | assumption | omega | decide) ?_ | refine zIfF (by first | assumption | omega | decide) ?_))
  rw [fe_199_50]
  refine m_sizeOf hb ht (by omega) (by omega) ?_
  rw [tSub_0]
  (repeat (first | refine zC_i (by first | assumption | decide | exact zr (by omega) (by omega) | exact zs (by omega) (by omega) | exact zd (by omega) (by omega)) ?_ | refine zIfT (by first | assumption | omega | decide) ?_ | refine zIfF (by first | assumption | omega | decide) ?_))
  refine m_deep_l hb rfl t _ 0 0 0 (0 + 1) (tSz t) ?_ (by omega) (by omega) (by omega) (by omega) (by omega) (tAll_put fun k c1 c2 => rfl) (by rw [zUp_here]) (by omega) (by omega) (fun j c1 c2 => by omega) (by omega) (by omega) ?_
  · unfold mTr mNS at ht ⊢; rw [zUp_away (by decide)]; exact ht
  intro M' x3 f1 f2 f3 f4 f5
  have z1 := @zMax_b 0 (0 + tDp t)
  have e165 : M' 165 = M 165 := by rw [f1 165 (by decide), zUp_away (by decide)]
  rw [fe_199_7]
  refine m_many hb ?_
  rw [e165, t1]
  (repeat (first | refine zC_i (by first | assumption | decide | exact zr (by omega) (by omega) | exact zs (by omega) (by omega) | exact zd (by omega) (by omega)) ?_ | refine zIfT (by first | assumption | omega | decide) ?_ | refine zIfF (by first | assumption | omega | decide) ?_))
  rw [show zMax 0 (0 + tDp t) = tDp t by omega]
  exact hK M' (fun c hc => by rw [f1 c hc, zUp_away hc])
theorem m_countOf {d : Nat} {M : Mm} {K : Kt} {b : Int} {t : Tr} {w a c : Int} (hb : 0 ≤ b ∧ b + 161 ≤ 2093) (ht : mTr M b t) (hv : tVal 24 t) (hw : 0 ≤ w ∧ w ≤ 4) (ha : zR32 a = true) (hc : zR32 c = true) (h4 : w = 4 → 0 ≤ a) (hK : ∀ M', (∀ c, c ≠ 189 → M' c = M c) → K (cCnt t w a c) M') : zSp (d + 3) 203 [.inr (.inr 154), .inl b, .inl w, .inl a, .inl c] M K := by
  have q1 := tSz_pos t
  have t1 := ht.1.1
  unfold cCnt at hK
  rw [me_203]
  refine zC_i (by first | assumption | decide | exact zr (by omega) (by omega) | exact zs (by omega) (by omega) | exact zd (by omega) (by omega)) ⟨⟨fun hw => ?_, fun hw => ?_, fun hw => ?_, fun hw => ?_, trivial⟩, fun hw => ?_⟩
  · refine m_many hb ?_
    rw [t1]
    rw [if_pos hw] at hK
    exact hK M (fun _ _ => rfl)
  · refine m_deepOf hb ht ?_
    rw [if_neg (by omega), if_pos hw] at hK
    exact hK
  · rw [if_neg (by omega), if_neg (by omega), if_pos hw] at hK
    rw [me_202]
    exact m_has_l hb ht hv ha (tSz t).toNat 0 0 (by omega) (by omega) (by rw [Int.zero_add]; exact hK M (fun _ _ => rfl))
  · rw [if_neg (by omega), if_neg (by omega), if_neg (by omega), if_pos hw] at hK
    rw [me_200]
    exact m_und_l hb ht hv ha hc (tSz t).toNat 0 0 0 (by omega) (by omega) (by omega) (hK M (fun _ _ => rfl))
  · rw [if_neg (by omega), if_neg (by omega), if_neg (by omega), if_neg (by omega)] at hK
    rw [me_201]
    refine m_nxt_l hb ht hv ha hc (h4 (by omega)) (tSz t).toNat 0 0 _ _ _ (by omega) (by omega) ?_
    rw [Int.zero_add, cKid_all]
    exact hK M (fun _ _ => rfl)
