/-! LAYER 3: single changes, one behind the other -/
abbrev Sg : Type := Int × Int × Int
def sH (G : Mm) (t : Tr) (k : Int) : Nat → Int → List Sg
  | 0, _ => []
  | m + 1, j => if G 7 (tNm (tSub t j)) = G 7 (tNm (tSub t k)) then (k, 2, j) :: sH G t k m (j + 1) else sH G t k m (j + 1)
def sNl (G : Mm) (t : Tr) (k : Int) : List Sg := (if tLst G t k then [(k, 1, -1)] else []) ++ sH G t k (tSz (tSub t k) - 1).toNat (k + 1)
def sN (G : Mm) (t : Tr) (k : Int) : List Sg := (if tStar G t k then [(k, 0, -1)] else []) ++ sNl G t k
def sL (G : Mm) (t : Tr) : Nat → Int → List Sg
  | 0, _ => []
  | m + 1, k => sN G t k ++ sL G t m (k + 1)
def sAll (G : Mm) (t : Tr) : List Sg := sL G t (tSz t).toNat 0
def sEf (M : Mm) (x : Int) : List Sg → Int → Mm
  | [], _ => M
  | (k, c, j) :: L, n => sEf (if n = x then zUp (zUp (zUp M 154 64 k) 154 65 c) 154 66 j else M) x L (n + 1)
theorem sEf_app {x : Int} : ∀ (L1 L2 : List Sg) (M : Mm) (n : Int), sEf M x (L1 ++ L2) n = sEf (sEf M x L1 n) x L2 (n + L1.length)
  | [], L2, M, n => by
    rw [show n + (([] : List Sg).length : Int) = n by show n + 0 = n; omega]
    rfl
  | (k, c, j) :: L1, L2, M, n => by
    show sEf _ x (L1 ++ L2) (n + 1) = sEf (sEf _ x L1 (n + 1)) x L2 (n + ((L1.length + 1 : Nat) : Int))
    rw [sEf_app L1 L2, show n + 1 + (L1.length : Int) = n + ((L1.length + 1 : Nat) : Int) by omega]
theorem sEf_fr {x : Int} : ∀ (L : List Sg) (M : Mm) (n : Int), (∀ c, c ≠ 154 → sEf M x L n c = M c) ∧ (∀ i, i ≠ 64 → i ≠ 65 → i ≠ 66 → sEf M x L n 154 i = M 154 i)
  | [], M, n => ⟨fun _ _ => rfl, fun _ _ _ _ => rfl⟩
  | (k, c, j) :: L, M, n => by
    have ih := sEf_fr (x := x) L (if n = x then zUp (zUp (zUp M 154 64 k) 154 65 c) 154 66 j else M) (n + 1)
    refine ⟨fun c' hc => ?_, fun i h1 h2 h3 => ?_⟩
    · show sEf _ x L (n + 1) c' = _
      rw [ih.1 c' hc]
      split
      · rw [zUp_away hc, zUp_away hc, zUp_away hc]
      · rfl
    · show sEf _ x L (n + 1) 154 i = _
      rw [ih.2 i h1 h2 h3]
      split
      · rw [zUp_there h3, zUp_there h2, zUp_there h1]
      · rfl
theorem sEf_past {x : Int} : ∀ (L : List Sg) (M : Mm) (n : Int), x < n → sEf M x L n = M
  | [], M, n, h => rfl
  | (k, c, j) :: L, M, n, h => by
    show sEf (if n = x then _ else M) x L (n + 1) = M
    rw [if_neg (by omega)]
    exact sEf_past L M (n + 1) (by omega)
theorem sEf_at {x : Int} : ∀ (L : List Sg) (M : Mm) (n : Int) (k c j : Int), n ≤ x → L[(x - n).toNat]? = some (k, c, j) → sEf M x L n 154 64 = k ∧ sEf M x L n 154 65 = c ∧ sEf M x L n 154 66 = j
  | [], M, n, k, c, j, h, e => by
    rw [List.getElem?_nil] at e
    exact absurd e (by simp)
  | (k', c', j') :: L, M, n, k, c, j, h, e => by
    by_cases hx : n = x
    · subst hx
      rw [show (n - n).toNat = 0 by omega] at e
      have e : some (k', c', j') = some (k, c, j) := e
      simp only [Option.some.injEq, Prod.mk.injEq] at e
      show sEf (if n = n then _ else M) n L (n + 1) 154 64 = k ∧ sEf (if n = n then _ else M) n L (n + 1) 154 65 = c ∧ sEf (if n = n then _ else M) n L (n + 1) 154 66 = j
      rw [if_pos rfl, sEf_past L _ _ (by omega), zUp_there (by decide), zUp_there (by decide), zUp_here, zUp_there (by decide), zUp_here, zUp_here]
      exact e
    · rw [show (x - n).toNat = (x - (n + 1)).toNat + 1 by omega] at e
      exact sEf_at L _ (n + 1) k c j (by omega) e
theorem m_canBeLeast {d : Nat} {M G : Mm} {K : Kt} {t : Tr} {k : Int} (hg : gOk G) (hm : mG G M) (ht : mTr M 0 t) (hv : tVal (G 4 0) t) (h0 : 0 ≤ k) (h1 : k < tSz t) (hK : K (fl (tLst G t k)) M) : zSp (d + 3) 218 [.inr (.inr 154), .inl k] M K := by
  have t5 := ht.2
  have pb := tPl_b h0 h1
  have gs := gLn_s hg.1 hv k
  have gz := (hg.2 _ gs.1 gs.2).1
  have gb := hg.1.1
  rw [me_218]
  refine m_sortAt (by decide) hg.1 hm ht hv h0 h1 ?_
  rw [(hm.2.2.2 _ gs.1 gs.2).2.1]
  (repeat (first | (with_reducible refine zC_i ?hob ?_; case hob => first | assumption | decide | exact zr (by omega) (by omega) | exact zs (by omega) (by omega) | exact zd (by omega) (by omega)) | (with_reducible refine zIfT ?hob ?_; case hob => first | assumption | omega | decide) | (with_reducible refine zIfF ?hob ?_; case hob => first | assumption | omega | decide)))
  refine m_sizeOf (by decide) ht h0 h1 ?_
  (repeat (first | (with_reducible refine zC_i ?hob ?_; case hob => first | assumption | decide | exact zr (by omega) (by omega) | exact zs (by omega) (by omega) | exact zd (by omega) (by omega)) | (with_reducible refine zIfT ?hob ?_; case hob => first | assumption | omega | decide) | (with_reducible refine zIfF ?hob ?_; case hob => first | assumption | omega | decide)))
  refine ⟨fun c => ?_, fun c => ?_⟩
  · rw [fl_f (by omega)] at hK
    exact hK
  · rw [fl_t (by omega)] at hK
    exact hK
/-- what the reference's look at single changes needs of the memory -/
def mS (G M : Mm) (t : Tr) : Prop := mG G M ∧ mTr M 0 t ∧ ∀ k, 0 ≤ k → k < tSz t → (M 180 k = 0 ∨ M 180 k = 1) ∧ (M 180 k = 1 ↔ tStar G t k)
theorem mS_fr {G M M' : Mm} {t : Tr} (h : mS G M t) (f : ∀ c, c ≠ 154 → M' c = M c) : mS G M' t := by
  refine ⟨mG_fr h.1 (f 156 (by decide)) (f 157 (by decide)) (f 158 (by decide)) (f 162 (by decide)) (f 163 (by decide)), mTr_fr h.2.1 (fun i _ _ => by rw [f 165 (by decide)]), ?_⟩
  rw [f 180 (by decide)]
  exact h.2.2
theorem m_sH {d : Nat} {G : Mm} {K : Kt} {t : Tr} {k x : Int} (hg : gOk G) (hv : tVal (G 4 0) t) (h0 : 0 ≤ k) (h1 : k < tSz t) (hx : zR32 x = true) : ∀ (m : Nat) (M : Mm) (j n : Int), j + m = k + tSz (tSub t k) → k < j → mS G M t → 0 ≤ n → n ≤ 100 * j + 10000 →
    (n + (sH G t k m j).length ≤ n + m → zWp (zSp (d + 4)) 221 K 9 [some (.inr (.inr 154)), some (.inl x), some (.inl (n + (sH G t k m j).length)), some (.inl (k + 1)), some (.inl (k + tSz (tSub t k)))] [] (sEf M x (sH G t k m j) n)) →
    zWp (zSp (d + 4)) 221 K 70 [some (.inr (.inr 154)), some (.inl x), some (.inl n), some (.inl k), some (.inl j)] [] M
  | 0, M, j, n, hj, hkj, hs, hn, hn2, hK => by
    have t5 := hs.2.1.2
    have pb := tPl_b h0 h1
    rw [fe_221_70]
    refine m_sizeOf (by decide) hs.2.1 h0 h1 ?_
    (repeat (first | (with_reducible refine zC_i ?hob ?_; case hob => first | assumption | decide | exact zr (by omega) (by omega) | exact zs (by omega) (by omega) | exact zd (by omega) (by omega)) | (with_reducible refine zIfT ?hob ?_; case hob => first | assumption | omega | decide) | (with_reducible refine zIfF ?hob ?_; case hob => first | assumption | omega | decide)))
    have hK := hK (by show n + 0 ≤ n + 0; omega)
    rw [show n + ((sH G t k 0 j).length : Int) = n by show n + 0 = n; omega, show k + tSz (tSub t k) = j by omega] at hK
    exact hK
  | m + 1, M, j, n, hj, hkj, hs, hn, hn2, hK => by
    have t5 := hs.2.1.2
    have pb := tPl_b h0 h1
    have gs1 := gLn_s hg.1 hv k
    have gs2 := gLn_s hg.1 hv j
    have gb := hg.1.1
    rw [fe_221_70]
    refine m_sizeOf (by decide) hs.2.1 h0 h1 ?_
    (repeat (first | (with_reducible refine zC_i ?hob ?_; case hob => first | assumption | decide | exact zr (by omega) (by omega) | exact zs (by omega) (by omega) | exact zd (by omega) (by omega)) | (with_reducible refine zIfT ?hob ?_; case hob => first | assumption | omega | decide) | (with_reducible refine zIfF ?hob ?_; case hob => first | assumption | omega | decide)))
    refine m_sortAt (by decide) hg.1 hs.1 hs.2.1 hv (by omega) (by omega) ?_
    refine m_sortAt (by decide) hg.1 hs.1 hs.2.1 hv (by omega) (by omega) ?_
    (repeat (first | (with_reducible refine zC_i ?hob ?_; case hob => first | assumption | decide | exact zr (by omega) (by omega) | exact zs (by omega) (by omega) | exact zd (by omega) (by omega)) | (with_reducible refine zIfT ?hob ?_; case hob => first | assumption | omega | decide) | (with_reducible refine zIfF ?hob ?_; case hob => first | assumption | omega | decide)))
    refine ⟨fun c => ?_, fun c => ?_⟩
    · have e : sH G t k (m + 1) j = (k, 2, j) :: sH G t k m (j + 1) := if_pos c
      rw [e] at hK
      have hK : (n + ((sH G t k m (j + 1)).length + 1 : Nat) ≤ n + ((m + 1 : Nat) : Int)) → zWp (zSp (d + 4)) 221 K 9 [some (.inr (.inr 154)), some (.inl x), some (.inl (n + ((sH G t k m (j + 1)).length + 1 : Nat))), some (.inl (k + 1)), some (.inl (k + tSz (tSub t k)))] [] (sEf (if n = x then zUp (zUp (zUp M 154 64 k) 154 65 2) 154 66 j else M) x (sH G t k m (j + 1)) (n + 1)) := hK
      rw [show n + ((((sH G t k m (j + 1)).length + 1 : Nat)) : Int) = n + 1 + ((sH G t k m (j + 1)).length : Int) by omega] at hK
      (repeat (first | (with_reducible refine zC_i ?hob ?_; case hob => first | assumption | decide | exact zr (by omega) (by omega) | exact zs (by omega) (by omega) | exact zd (by omega) (by omega)) | (with_reducible refine zIfT ?hob ?_; case hob => first | assumption | omega | decide) | (with_reducible refine zIfF ?hob ?_; case hob => first | assumption | omega | decide)))
      refine ⟨fun c2 => ?_, fun c2 => ?_⟩
      · rw [if_neg c2] at hK
        exact m_sH hg hv h0 h1 hx m M (j + 1) (n + 1) (by omega) (by omega) hs (by omega) (by omega) (fun q => hK (by omega))
      · rw [if_pos (by omega)] at hK
        rw [me_220]
        exact m_sH hg hv h0 h1 hx m _ (j + 1) (n + 1) (by omega) (by omega) (mS_fr hs fun c hc => by rw [zUp_away hc, zUp_away hc, zUp_away hc]) (by omega) (by omega) (fun q => hK (by omega))
    · have e : sH G t k (m + 1) j = sH G t k m (j + 1) := if_neg c
      rw [e] at hK
      exact m_sH hg hv h0 h1 hx m M (j + 1) n (by omega) (by omega) hs hn (by omega) (fun q => hK (by omega))
theorem sH_len {G : Mm} {t : Tr} {k : Int} : ∀ (m : Nat) (j : Int), (sH G t k m j).length ≤ m
  | 0, j => Nat.le_refl 0
  | m + 1, j => by
    have ih := sH_len (G := G) (t := t) (k := k) m (j + 1)
    unfold sH
    split
    · show (sH G t k m (j + 1)).length + 1 ≤ m + 1
      omega
    · omega
theorem sNl_len {G : Mm} {t : Tr} {k : Int} : ((sNl G t k).length : Int) ≤ tSz (tSub t k) := by
  have h := sH_len (G := G) (t := t) (k := k) (tSz (tSub t k) - 1).toNat (k + 1)
  have p := tSz_pos (tSub t k)
  unfold sNl
  rw [List.length_append]
  split
  · show (((1 + (sH G t k (tSz (tSub t k) - 1).toNat (k + 1)).length : Nat)) : Int) ≤ _
    omega
  · show (((0 + (sH G t k (tSz (tSub t k) - 1).toNat (k + 1)).length : Nat)) : Int) ≤ _
    omega
theorem sN_len {G : Mm} {t : Tr} {k : Int} : ((sN G t k).length : Int) ≤ tSz (tSub t k) + 1 := by
  have h := sNl_len (G := G) (t := t) (k := k)
  unfold sN
  rw [List.length_append]
  split
  · show (((1 + (sNl G t k).length : Nat)) : Int) ≤ _
    omega
  · show (((0 + (sNl G t k).length : Nat)) : Int) ≤ _
    omega
theorem m_sL {d : Nat} {G : Mm} {K : Kt} {t : Tr} {x : Int} (hg : gOk G) (hv : tVal (G 4 0) t) (hx : zR32 x = true) : ∀ (m : Nat) (M : Mm) (k n : Int) (u4 : Option Vl), k + m = tSz t → 0 ≤ k → mS G M t → 0 ≤ n → n ≤ 100 * k → K (n + (sL G t m k).length) (sEf M x (sL G t m k) n) →
    zWp (zSp (d + 4)) 221 K 9 [some (.inr (.inr 154)), some (.inl x), some (.inl n), some (.inl k), u4] [] M
  | 0, M, k, n, u4, hk, h0, hs, hn, hn2, hK => by
    have t5 := hs.2.1.2
    rw [fe_221_9]
    refine m_many (by decide) ?_
    rw [hs.2.1.1.1]
    (repeat (first | (with_reducible refine zC_i ?hob ?_; case hob => first | assumption | decide | exact zr (by omega) (by omega) | exact zs (by omega) (by omega) | exact zd (by omega) (by omega)) | (with_reducible refine zIfT ?hob ?_; case hob => first | assumption | omega | decide) | (with_reducible refine zIfF ?hob ?_; case hob => first | assumption | omega | decide)))
    rw [show n + ((sL G t 0 k).length : Int) = n by show n + 0 = n; omega] at hK
    exact hK
  | m + 1, M, k, n, u4, hk, h0, hs, hn, hn2, hK => by
    have t5 := hs.2.1.2
    have pb := tPl_b (t := t) h0 (by omega)
    obtain ⟨s1, s2⟩ := hs.2.2 k h0 (by omega)
    have lN := sN_len (G := G) (t := t) (k := k)
    have lNl := sNl_len (G := G) (t := t) (k := k)
    have hK : K (n + (sN G t k ++ sL G t m (k + 1)).length) (sEf M x (sN G t k ++ sL G t m (k + 1)) n) := hK
    rw [List.length_append, sEf_app, show n + (((sN G t k).length + (sL G t m (k + 1)).length : Nat) : Int) = n + (sN G t k).length + (sL G t m (k + 1)).length by omega] at hK
    -- behind this node
    have hnx : ∀ u4, zWp (zSp (d + 4)) 221 K 9 [some (.inr (.inr 154)), some (.inl x), some (.inl (n + (sN G t k).length)), some (.inl (k + 1)), u4] [] (sEf M x (sN G t k) n) :=
      fun u4 => m_sL hg hv hx m _ (k + 1) _ u4 (by omega) (by omega) (mS_fr hs (sEf_fr _ _ _).1) (by omega) (by omega) hK
    -- from the look at the least on
    have h42 : ∀ (M1 : Mm) (n1 : Int), mS G M1 t → n ≤ n1 → n1 ≤ n + 1 → n1 + (sNl G t k).length = n + (sN G t k).length → sEf M1 x (sNl G t k) n1 = sEf M x (sN G t k) n → zWp (zSp (d + 4)) 221 K 42 [some (.inr (.inr 154)), some (.inl x), some (.inl n1), some (.inl k), u4] [] M1 := by
      intro M1 n1 hs1 c1 c1' c2 c3
      rw [← c2, ← c3] at hnx
      unfold sNl at hnx
      rw [sEf_app, List.length_append] at hnx
      rw [fe_221_42]
      refine m_canBeLeast hg hs1.1 hs1.2.1 hv h0 (by omega) ?_
      by_cases hl : tLst G t k
      · rw [fl_t hl]
        rw [if_pos hl] at hnx
        (repeat (first | (with_reducible refine zC_i ?hob ?_; case hob => first | assumption | decide | exact zr (by omega) (by omega) | exact zs (by omega) (by omega) | exact zd (by omega) (by omega)) | (with_reducible refine zIfT ?hob ?_; case hob => first | assumption | omega | decide) | (with_reducible refine zIfF ?hob ?_; case hob => first | assumption | omega | decide)))
        refine ⟨fun c4 => ?_, fun c4 => ?_⟩
        · refine m_sH hg hv h0 (by omega) hx (tSz (tSub t k) - 1).toNat M1 (k + 1) (n1 + 1) (by omega) (by omega) hs1 (by omega) (by omega) (fun q => ?_)
          have := hnx (some (.inl (k + tSz (tSub t k))))
          have e1 : sEf M1 x [(k, 1, -1)] n1 = M1 := by
            show (if n1 = x then _ else M1) = M1
            rw [if_neg c4]
          rw [e1] at this
          rw [show n1 + ((([(k, 1, -1)] : List Sg).length + (sH G t k (tSz (tSub t k) - 1).toNat (k + 1)).length : Nat) : Int) = n1 + 1 + (sH G t k (tSz (tSub t k) - 1).toNat (k + 1)).length by show n1 + ((1 + _ : Nat) : Int) = _; omega] at this
          exact this
        · rw [me_220]
          refine m_sH hg hv h0 (by omega) hx (tSz (tSub t k) - 1).toNat _ (k + 1) (n1 + 1) (by omega) (by omega) (mS_fr hs1 fun c hc => by rw [zUp_away hc, zUp_away hc, zUp_away hc]) (by omega) (by omega) (fun q => ?_)
          have := hnx (some (.inl (k + tSz (tSub t k))))
          have e1 : sEf M1 x [(k, 1, -1)] n1 = zUp (zUp (zUp M1 154 64 k) 154 65 1) 154 66 (-1) := by
            show (if n1 = x then _ else M1) = _
            rw [if_pos (by omega)]
          rw [e1] at this
          rw [show n1 + ((([(k, 1, -1)] : List Sg).length + (sH G t k (tSz (tSub t k) - 1).toNat (k + 1)).length : Nat) : Int) = n1 + 1 + (sH G t k (tSz (tSub t k) - 1).toNat (k + 1)).length by show n1 + ((1 + _ : Nat) : Int) = _; omega] at this
          exact this
      · rw [fl_f hl]
        rw [if_neg hl] at hnx
        (repeat (first | (with_reducible refine zC_i ?hob ?_; case hob => first | assumption | decide | exact zr (by omega) (by omega) | exact zs (by omega) (by omega) | exact zd (by omega) (by omega)) | (with_reducible refine zIfT ?hob ?_; case hob => first | assumption | omega | decide) | (with_reducible refine zIfF ?hob ?_; case hob => first | assumption | omega | decide)))
        refine m_sH hg hv h0 (by omega) hx (tSz (tSub t k) - 1).toNat M1 (k + 1) n1 (by omega) (by omega) hs1 (by omega) (by omega) (fun q => ?_)
        have := hnx (some (.inl (k + tSz (tSub t k))))
        rw [show n1 + ((([] : List Sg).length + (sH G t k (tSz (tSub t k) - 1).toNat (k + 1)).length : Nat) : Int) = n1 + (sH G t k (tSz (tSub t k) - 1).toNat (k + 1)).length by show n1 + ((0 + _ : Nat) : Int) = _; omega, show n1 + (([] : List Sg).length : Int) = n1 by show n1 + 0 = n1; omega] at this
        exact this
    rw [fe_221_9]
    refine m_many (by decide) ?_
    rw [hs.2.1.1.1]
    refine zC_i (by first | assumption | decide | exact zr (by omega) (by omega) | exact zs (by omega) (by omega) | exact zd (by omega) (by omega)) (zC_i (by first | assumption | decide | exact zr (by omega) (by omega) | exact zs (by omega) (by omega) | exact zd (by omega) (by omega)) (zIfF (by omega) (zC_i (by first | assumption | decide | exact zr (by omega) (by omega) | exact zs (by omega) (by omega) | exact zd (by omega) (by omega)) (zC_i (by rcases s1 with h | h <;> rw [h] <;> decide) ⟨fun c => ?_, fun c => ?_⟩))))
    · have hst : ¬ tStar G t k := fun q => by rw [← s2] at q; omega
      refine h42 M n hs (by omega) (by omega) ?_ ?_
      · unfold sN
        rw [if_neg hst]
        rfl
      · unfold sN
        rw [if_neg hst]
        rfl
    · have hst : tStar G t k := s2.mp (by omega)
      have eN : sN G t k = (k, 0, -1) :: sNl G t k := by
        unfold sN
        rw [if_pos hst]
        rfl
      (repeat (first | (with_reducible refine zC_i ?hob ?_; case hob => first | assumption | decide | exact zr (by omega) (by omega) | exact zs (by omega) (by omega) | exact zd (by omega) (by omega)) | (with_reducible refine zIfT ?hob ?_; case hob => first | assumption | omega | decide) | (with_reducible refine zIfF ?hob ?_; case hob => first | assumption | omega | decide)))
      refine ⟨fun c4 => ?_, fun c4 => ?_⟩
      · rw [fe_221_39]
        refine h42 M (n + 1) hs (by omega) (by omega) ?_ ?_
        · rw [eN, List.length_cons]; omega
        · rw [eN]
          show _ = sEf (if n = x then _ else M) x _ (n + 1)
          rw [if_neg c4]
      · rw [me_220, fe_221_39]
        refine h42 _ (n + 1) (mS_fr hs fun c hc => by rw [zUp_away hc, zUp_away hc, zUp_away hc]) (by omega) (by omega) ?_ ?_
        · rw [eN, List.length_cons]; omega
        · rw [eN]
          show _ = sEf (if n = x then _ else M) x _ (n + 1)
          rw [if_pos (by omega)]
