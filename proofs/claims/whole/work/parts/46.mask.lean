/-! LAYER 3: asking for a verdict, the reference -/
def mEn (M : Mm) (L : List Te) (i : Nat) : Prop := M 182 i = tSz (te L i).1 ∧ M 183 i = (te L i).2.1 ∧ M 184 i = (te L i).2.2.1 ∧ M 185 i = (te L i).2.2.2 ∧ ∀ k, 0 ≤ k → k < tSz (te L i).1 → M 181 (80 * (i : Int) + k) = 100 * tNm (tSub (te L i).1 k) + tSz (tSub (te L i).1 k)
def mTd (M : Mm) (L : List Te) : Prop := M 154 57 = L.length ∧ ∀ i : Nat, i < L.length → mEn M L i
def mJ (M : Mm) (J : Js) : Prop := mTd M J.1 ∧ M 154 47 = J.2.1 ∧ M 154 49 = J.2.2.1 ∧ M 154 50 = J.2.2.2.1 ∧ M 154 51 = J.2.2.2.2
theorem m_cell {d : Nat} {M : Mm} {K : Kt} {b k : Int} {t : Tr} (hb : 0 ≤ b ∧ b + 161 ≤ 2093) (ht : mTr M b t) (h0 : 0 ≤ k) (h1 : k < tSz t) (hK : K (100 * tNm (tSub t k) + tSz (tSub t k)) M) : zSp (d + 2) 210 [.inr (.inr 154), .inl b, .inl k] M K := by
  rw [me_210]
  refine m_nameOf hb ht h0 h1 (m_sizeOf hb ht h0 h1 hK)
theorem m_isTried_l {d : Nat} {M : Mm} {K : Kt} {p : Int} {t : Tr} {L : List Te} {i : Nat} {x1 : Int} (hp : 0 ≤ p ∧ p + 161 ≤ 2093) (ht : mTr M p t) (hv : tVal 24 t) (hx : x1 = i) (hi : i < 600) (he : mEn M L i) (hz : tSz (te L i).1 = tSz t) (hv2 : tVal 24 (te L i).1) (hK1 : (te L i).1 = t → K 1 M) (hK0 : (te L i).1 ≠ t → K 0 M) : ∀ (m : Nat) (k : Int), k + m = tSz t → 0 ≤ k → (∀ j, 0 ≤ j → j < k → tNm (tSub (te L i).1 j) = tNm (tSub t j) ∧ tSz (tSub (te L i).1 j) = tSz (tSub t j)) → zWp (zSp (d + 2)) 211 K 18 [some (.inr (.inr 154)), some (.inl x1), some (.inl p), some (.inl k)] [] M
  | 0, k, hk, h0, h => by
    have t5 := ht.2
    rw [fe_211_18]
    refine m_many hp ?_
    rw [ht.1.1]
    (repeat (first | (with_reducible refine zC_i ?hob ?_; case hob => first | assumption | decide | exact zr (by omega) (by omega) | exact zs (by omega) (by omega) | exact zd (by omega) (by omega)) | (with_reducible refine zIfT ?hob ?_; case hob => first | assumption | omega | decide) | (with_reducible refine zIfF ?hob ?_; case hob => first | assumption | omega | decide)))
    exact hK1 (tEqS hz (fun j c1 c2 => h j c1 (by omega)))
  | m + 1, k, hk, h0, h => by
    have t5 := ht.2
    have pb := tPl_b (t := t) h0 (by omega)
    have pb2 := tPl_b (t := (te L i).1) h0 (by omega)
    have nb := tNm_b hv k
    have nb2 := tNm_b hv2 k
    have ec := he.2.2.2.2 k h0 (by omega)
    rw [fe_211_18]
    refine m_many hp ?_
    rw [ht.1.1]
    (repeat (first | (with_reducible refine zC_i ?hob ?_; case hob => first | assumption | decide | exact zr (by omega) (by omega) | exact zs (by omega) (by omega) | exact zd (by omega) (by omega)) | (with_reducible refine zIfT ?hob ?_; case hob => first | assumption | omega | decide) | (with_reducible refine zIfF ?hob ?_; case hob => first | assumption | omega | decide)))
    refine m_cell hp ht h0 (by omega) ?_
    rw [hx, ec]
    (repeat (first | (with_reducible refine zC_i ?hob ?_; case hob => first | assumption | decide | exact zr (by omega) (by omega) | exact zs (by omega) (by omega) | exact zd (by omega) (by omega)) | (with_reducible refine zIfT ?hob ?_; case hob => first | assumption | omega | decide) | (with_reducible refine zIfF ?hob ?_; case hob => first | assumption | omega | decide)))
    refine ⟨fun c => ?_, fun c => ?_⟩
    · rw [← hx]
      refine m_isTried_l hp ht hv hx hi he hz hv2 hK1 hK0 m (k + 1) (by omega) (by omega) (fun j c1 c2 => ?_)
      by_cases cj : j = k
      · rw [cj]; omega
      · exact h j c1 (by omega)
    · refine hK0 (fun e => ?_)
      rw [e] at c
      exact c rfl
theorem m_isTried {d : Nat} {M : Mm} {K : Kt} {p : Int} {t : Tr} {L : List Te} {i : Nat} {x1 : Int} (hp : 0 ≤ p ∧ p + 161 ≤ 2093) (ht : mTr M p t) (hv : tVal 24 t) (hx : x1 = i) (hi : i < 600) (he : mEn M L i) (hz2 : tSz (te L i).1 ≤ 80) (hv2 : tVal 24 (te L i).1) (hK1 : (te L i).1 = t → K 1 M) (hK0 : (te L i).1 ≠ t → K 0 M) : zSp (d + 3) 211 [.inr (.inr 154), .inl x1, .inl p] M K := by
  have t5 := ht.2
  have q1 := tSz_pos t
  have q2 := tSz_pos (te L i).1
  have e1 : M 182 x1 = tSz (te L i).1 := by rw [hx]; exact he.1
  rw [me_211, e1]
  refine zC_i (by first | assumption | decide | exact zr (by omega) (by omega) | exact zs (by omega) (by omega) | exact zd (by omega) (by omega)) (m_many hp ?_)
  rw [ht.1.1]
  (repeat (first | (with_reducible refine zC_i ?hob ?_; case hob => first | assumption | decide | exact zr (by omega) (by omega) | exact zs (by omega) (by omega) | exact zd (by omega) (by omega)) | (with_reducible refine zIfT ?hob ?_; case hob => first | assumption | omega | decide) | (with_reducible refine zIfF ?hob ?_; case hob => first | assumption | omega | decide)))
  refine ⟨fun c => ?_, fun c => ?_⟩
  · exact m_isTried_l hp ht hv hx hi he c hv2 hK1 hK0 (tSz t).toNat 0 (by omega) (by omega) (fun j c1 c2 => by omega)
  · exact hK0 (fun e => c (by rw [e]))
theorem m_vf_l {d : Nat} {M : Mm} {K : Kt} {p why wh : Int} {t : Tr} {J : Js} {L n : Int} (hp : 0 ≤ p ∧ p + 161 ≤ 2093) (ht : mTr M p t) (hv : tVal L t) (hL24 : L ≤ 24) (hJ : mJ M J) (hj : jOk L n J)
    (hK1 : (∀ i : Nat, i < J.1.length → (te J.1 i).1 ≠ t) → zWp (zSp (d + 3)) 213 K 3 [some (.inr (.inr 154)), some (.inl p), some (.inl why), some (.inl wh), some (.inl (J.1.length : Int)), none] [] M)
    (hK2 : ∀ i : Nat, i < J.1.length → (te J.1 i).1 = t → K (te J.1 i).2.1 (zUp M 154 49 (J.2.2.1 + 1))) : ∀ (m i : Nat) (x4 : Int), i + m = J.1.length → x4 = i → (∀ k : Nat, k < i → (te J.1 k).1 ≠ t) → zWp (zSp (d + 3)) 213 K 3 [some (.inr (.inr 154)), some (.inl p), some (.inl why), some (.inl wh), some (.inl x4), none] [] M
  | 0, i, x4, hi, hx, h => by
    rw [hx, show i = J.1.length by omega]
    exact hK1 (fun k hk => h k (by omega))
  | m + 1, i, x4, hi, hx, h => by
    have h6 := hj.2.1
    have he := hJ.1.2 i (by omega)
    have hz := hj.2.2.1 i (by omega)
    rw [fe_213_3, hJ.1.1]
    (repeat (first | (with_reducible refine zC_i ?hob ?_; case hob => first | assumption | decide | exact zr (by omega) (by omega) | exact zs (by omega) (by omega) | exact zd (by omega) (by omega)) | (with_reducible refine zIfT ?hob ?_; case hob => first | assumption | omega | decide) | (with_reducible refine zIfF ?hob ?_; case hob => first | assumption | omega | decide)))
    refine m_isTried hp ht (tVal_le hL24 t hv) hx (by omega) he hz.1 (tVal_le hL24 _ hz.2.1) (fun e => ?_) (fun e => ?_)
    · (repeat (first | (with_reducible refine zC_i ?hob ?_; case hob => first | assumption | decide | exact zr (by omega) (by omega) | exact zs (by omega) (by omega) | exact zd (by omega) (by omega)) | (with_reducible refine zIfT ?hob ?_; case hob => first | assumption | omega | decide) | (with_reducible refine zIfF ?hob ?_; case hob => first | assumption | omega | decide)))
      rw [hx, he.2.1, hJ.2.2.1]
      exact hK2 i (by omega) e
    · (repeat (first | (with_reducible refine zC_i ?hob ?_; case hob => first | assumption | decide | exact zr (by omega) (by omega) | exact zs (by omega) (by omega) | exact zd (by omega) (by omega)) | (with_reducible refine zIfT ?hob ?_; case hob => first | assumption | omega | decide) | (with_reducible refine zIfF ?hob ?_; case hob => first | assumption | omega | decide)))
      refine m_vf_l hp ht hv hL24 hJ hj hK1 hK2 m (i + 1) (x4 + 1) (by omega) (by omega) (fun k hk => ?_)
      by_cases ck : k = i
      · rw [ck]; exact e
      · exact h k (by omega)
theorem m_cells_l {d : Nat} {K : Kt} {p why wh a : Int} {t : Tr} (hp : 0 ≤ p ∧ p + 161 ≤ 2093) (ha : 0 ≤ a ∧ a < 600) : ∀ (m : Nat) (M : Mm) (k : Int), k + m = tSz t → 0 ≤ k → mTr M p t →
    (∀ M', (∀ q, M' 181 q = if 80 * a + k ≤ q ∧ q < 80 * a + tSz t then 100 * tNm (tSub t (q - 80 * a)) + tSz (tSub t (q - 80 * a)) else M 181 q) → (∀ c, c ≠ 181 → M' c = M c) → zWp (zSp (d + 2)) 213 K 102 [some (.inr (.inr 154)), some (.inl p), some (.inl why), some (.inl wh), some (.inl a), some (.inl (tSz t))] [] M') →
    zWp (zSp (d + 2)) 213 K 102 [some (.inr (.inr 154)), some (.inl p), some (.inl why), some (.inl wh), some (.inl a), some (.inl k)] [] M
  | 0, M, k, hk, h0, ht, hK => by
    rw [show k = tSz t by omega]
    exact hK M (fun q => by rw [if_neg (by omega)]) (fun _ _ => rfl)
  | m + 1, M, k, hk, h0, ht, hK => by
    have t5 := ht.2
    rw [fe_213_102]
    refine m_many hp ?_
    rw [ht.1.1]
    (repeat (first | (with_reducible refine zC_i ?hob ?_; case hob => first | assumption | decide | exact zr (by omega) (by omega) | exact zs (by omega) (by omega) | exact zd (by omega) (by omega)) | (with_reducible refine zIfT ?hob ?_; case hob => first | assumption | omega | decide) | (with_reducible refine zIfF ?hob ?_; case hob => first | assumption | omega | decide)))
    refine m_cell hp ht h0 (by omega) ?_
    (repeat (first | (with_reducible refine zC_i ?hob ?_; case hob => first | assumption | decide | exact zr (by omega) (by omega) | exact zs (by omega) (by omega) | exact zd (by omega) (by omega)) | (with_reducible refine zIfT ?hob ?_; case hob => first | assumption | omega | decide) | (with_reducible refine zIfF ?hob ?_; case hob => first | assumption | omega | decide)))
    refine m_cells_l hp ha m _ (k + 1) (by omega) (by omega) (mTr_fr ht fun i _ _ => by rw [zUp_away (by decide)]) ?_
    intro M' f1 f2
    refine hK M' (fun q => ?_) (fun c hc => by rw [f2 c hc, zUp_away hc])
    rw [f1, zUp_hit]
    by_cases c : q = 80 * a + k
    · rw [if_neg (by omega), if_pos c, if_pos (by omega), show q - 80 * a = k by omega]
    · by_cases c2 : 80 * a + (k + 1) ≤ q ∧ q < 80 * a + tSz t
      · rw [if_pos c2, if_pos (by omega)]
      · rw [if_neg c2, if_neg c, if_neg (by omega)]
theorem m_verdictOf {d : Nat} {M : Mm} {K : Kt} {p : Int} {t : Tr} {B : List Bg} {J : Js} {L vs why wh : Int} (hp : 0 ≤ p ∧ p + 161 ≤ 2093) (hB : bCx L B) (hmB : mBg M B) (ht : mTr M p t) (hv : tVal L t) (hJ : mJ M J) (hj : jOk L B.length J) (hvs : M 154 48 = vs) (hvs2 : 1 ≤ vs ∧ vs ≤ 9)
    (hK : ∀ M', mJ M' (jAsk B vs J t why wh).2 → (∀ c, c ≠ 154 → c ≠ 176 → c ≠ 189 → (c < 181 ∨ 186 < c) → M' c = M c) → (∀ j, j ≠ 47 → j ≠ 49 → j ≠ 50 → j ≠ 51 → j ≠ 57 → M' 154 j = M 154 j) → K (jAsk B vs J t why wh).1 M') : zSp (d + 8) 213 [.inr (.inr 154), .inl p, .inl why, .inl wh] M K := by
  have t5 := ht.2
  have t1 := ht.1.1
  have q1 := tSz_pos t
  have hv24 := tVal_le hB.2.2.2 t hv
  have h6 := hj.2.1
  have hB6 := hB.1
  rw [me_213]
  refine m_vf_l hp ht hv hB.2.2.2 hJ hj ?_ ?_ J.1.length 0 0 (by omega) rfl (fun k hk => absurd hk (Nat.not_lt_zero k))
  · intro hn
    have ef := fnd_no J.1 0 hn
    unfold jAsk at hK
    rw [if_pos ef] at hK
    obtain ⟨j1, j2, j3, j4, j5⟩ := hJ
    rw [fe_213_3, j1.1]
    (repeat (first | (with_reducible refine zC_i ?hob ?_; case hob => first | assumption | decide | exact zr (by omega) (by omega) | exact zs (by omega) (by omega) | exact zd (by omega) (by omega)) | (with_reducible refine zIfT ?hob ?_; case hob => first | assumption | omega | decide) | (with_reducible refine zIfF ?hob ?_; case hob => first | assumption | omega | decide)))
    refine ⟨fun c => ?_, fun c => ?_⟩
    · rw [if_neg (by omega)] at hK
      refine m_many hp ?_
      rw [zUp_away (by decide), t1]
      (repeat (first | (with_reducible refine zC_i ?hob ?_; case hob => first | assumption | decide | exact zr (by omega) (by omega) | exact zs (by omega) (by omega) | exact zd (by omega) (by omega)) | (with_reducible refine zIfT ?hob ?_; case hob => first | assumption | omega | decide) | (with_reducible refine zIfF ?hob ?_; case hob => first | assumption | omega | decide)))
      refine m_cells_l (t := t) hp (by omega) (tSz t).toNat _ 0 (by omega) (by omega) (mTr_fr ht fun i _ _ => rfl) ?_
      intro M1 f1 f2
      have e1 : ∀ c, c ≠ 181 → c ≠ 182 → c ≠ 154 → M1 c = M c := fun c c1 c2 c3 => by rw [f2 c c1, zUp_away c2, zUp_away c3]
      have e154 : ∀ j, j ≠ 57 → M1 154 j = M 154 j := fun j hj => by rw [f2 154 (by decide), zUp_away (by decide), zUp_there hj]
      have ht1 : mTr M1 p t := mTr_fr ht fun i _ _ => by rw [e1 165 (by decide) (by decide) (by decide)]
      have hmB1 : mBg M1 B := ⟨by rw [e154 37 (by decide)]; exact hmB.1, mBs_fr (e1 168 (by decide) (by decide) (by decide)) (e1 170 (by decide) (by decide) (by decide)) (e1 172 (by decide) (by decide) (by decide)) (e1 174 (by decide) (by decide) (by decide)) _ _ _ hmB.2⟩
      rw [fe_213_102]
      refine m_many hp ?_
      rw [ht1.1.1]
      (repeat (first | (with_reducible refine zC_i ?hob ?_; case hob => first | assumption | decide | exact zr (by omega) (by omega) | exact zs (by omega) (by omega) | exact zd (by omega) (by omega)) | (with_reducible refine zIfT ?hob ?_; case hob => first | assumption | omega | decide) | (with_reducible refine zIfF ?hob ?_; case hob => first | assumption | omega | decide)))
      rw [me_212]
      refine m_holdingOf (L := L) hp ht1 hv24 hB.2.2.2 hmB1.1 hB.1 hmB1.2 hB.2.2.1 hB.2.1 ?_
      intro M2 g1
      have hmB2 : mBg M2 B := ⟨by rw [g1 154 (by decide) (by decide)]; exact hmB1.1, mBs_fr (g1 168 (by decide) (by decide)) (g1 170 (by decide) (by decide)) (g1 172 (by decide) (by decide)) (g1 174 (by decide) (by decide)) _ _ _ hmB1.2⟩
      have s47 : M2 154 47 = J.2.1 := by rw [g1 154 (by decide) (by decide), e154 47 (by decide)]; exact j2
      refine m_votes (od := bOd B) (n := B.length) (vs := vs) (eBs_b B 0 0 hB.2.2.1 (by omega) (by decide)) (by omega) hvs2 (by rw [g1 154 (by decide) (by decide), e154 48 (by decide)]; exact hvs) hmB2.1 (mBg_od hmB2 hB) (by rw [s47]; exact hj.2.2.2) ?_
      rw [s47, show ((B.length : Int)).toNat = B.length by omega]
      intro M3 k1 k2 k3 k4
      (repeat (first | (with_reducible refine zC_i ?hob ?_; case hob => first | assumption | decide | exact zr (by omega) (by omega) | exact zs (by omega) (by omega) | exact zd (by omega) (by omega)) | (with_reducible refine zIfT ?hob ?_; case hob => first | assumption | omega | decide) | (with_reducible refine zIfF ?hob ?_; case hob => first | assumption | omega | decide)))
      rw [zUp_here]
      have eall : ∀ c, c ≠ 154 → c ≠ 176 → c ≠ 189 → c ≠ 181 → c ≠ 182 → c ≠ 186 → M3 c = M c := fun c c1 c2 c3 c4 c5 c6 => by rw [k1 c c1 c6, g1 c c2 c3, e1 c c4 c5 c1]
      have e57 : M3 154 57 = (J.1.length : Int) + 1 := by rw [k2 57 (by decide) (by decide), g1 154 (by decide) (by decide), f2 154 (by decide), zUp_away (by decide), zUp_here]
      have e182 : ∀ q, M3 182 q = if q = J.1.length then tSz t else M 182 q := fun q => by rw [k1 182 (by decide) (by decide), g1 182 (by decide) (by decide), f2 182 (by decide)]; rfl
      have e181 : ∀ q, M3 181 q = if 80 * (J.1.length : Int) + 0 ≤ q ∧ q < 80 * (J.1.length : Int) + tSz t then 100 * tNm (tSub t (q - 80 * (J.1.length : Int))) + tSz (tSub t (q - 80 * (J.1.length : Int))) else M 181 q := fun q => by rw [k1 181 (by decide) (by decide), g1 181 (by decide) (by decide), f1]; rfl
      refine hK _ ⟨⟨?_, ?_⟩, ?_, ?_, ?_, ?_⟩ ?_ ?_
      · show M3 154 57 = ((J.1 ++ [_]).length : Int)
        rw [List.length_append, e57]
        show (J.1.length : Int) + 1 = ((J.1.length + 1 : Nat) : Int)
        omega
      · intro i hi
        have hi : i < (J.1 ++ [(t, (vRes (bOd B) (eBs t B 0 0) B.length vs.toNat J.2.1).1, why, wh)]).length := hi
        rw [List.length_append] at hi
        have hi : i < J.1.length + 1 := hi
        show mEn _ (J.1 ++ [(t, (vRes (bOd B) (eBs t B 0 0) B.length vs.toNat J.2.1).1, why, wh)]) i
        unfold mEn
        by_cases ci : i = J.1.length
        · subst ci
          rw [te_new]
          refine ⟨?_, ?_, ?_, ?_, fun k k0 k1 => ?_⟩
          · show M3 182 _ = _
            rw [e182, if_pos rfl]
          · rw [zUp_away (by decide), zUp_away (by decide), zUp_here]
          · rw [zUp_away (by decide), zUp_here]
          · rw [zUp_here]
          · have k1 : k < tSz t := k1
            show M3 181 _ = _
            rw [e181, if_pos (by omega), show 80 * (J.1.length : Int) + k - 80 * (J.1.length : Int) = k by omega]
        · obtain ⟨m1, m2, m3, m4, m5⟩ := j1.2 i (by omega)
          have hzi := (hj.2.2.1 i (by omega)).1
          rw [te_app (by omega)]
          refine ⟨?_, ?_, ?_, ?_, fun k k0 k1 => ?_⟩
          · show M3 182 _ = _
            rw [e182, if_neg (by omega)]; exact m1
          · rw [zUp_away (by decide), zUp_away (by decide), zUp_there (by omega), eall 183 (by decide) (by decide) (by decide) (by decide) (by decide) (by decide)]; exact m2
          · rw [zUp_away (by decide), zUp_there (by omega), zUp_away (by decide), eall 184 (by decide) (by decide) (by decide) (by decide) (by decide) (by decide)]; exact m3
          · rw [zUp_there (by omega), zUp_away (by decide), zUp_away (by decide), eall 185 (by decide) (by decide) (by decide) (by decide) (by decide) (by decide)]; exact m4
          · show M3 181 _ = _
            rw [e181, if_neg (by omega)]; exact m5 k k0 k1
      · exact k4
      · show M3 154 49 = _
        rw [k2 49 (by decide) (by decide), g1 154 (by decide) (by decide), e154 49 (by decide)]; exact j3
      · show M3 154 50 = _
        rw [k3, g1 154 (by decide) (by decide), e154 50 (by decide), j4]
      · show M3 154 51 = _
        rw [k2 51 (by decide) (by decide), g1 154 (by decide) (by decide), e154 51 (by decide)]; exact j5
      · intro c c1 c2 c3 c4
        rw [zUp_away (by omega), zUp_away (by omega), zUp_away (by omega), eall c c1 c2 c3 (by omega) (by omega) (by omega)]
      · intro j c1 c2 c3 c4 c5
        show M3 154 j = _
        rw [k2 j c1 c3, g1 154 (by decide) (by decide), e154 j c5]
    · rw [if_pos (by omega)] at hK
      refine hK _ ⟨⟨?_, j1.2⟩, ?_, ?_, ?_, ?_⟩ ?_ ?_
      · rw [zUp_there (by decide)]; exact j1.1
      · rw [zUp_there (by decide)]; exact j2
      · rw [zUp_there (by decide)]; exact j3
      · rw [zUp_there (by decide)]; exact j4
      · rw [zUp_here, j5]
      · intro c c1 c2 c3 c4
        rw [zUp_away c1]
      · intro j c1 c2 c3 c4 c5
        rw [zUp_there c4]
  · intro i hi e
    have ef := fnd_d hj.1 hi e
    unfold jAsk at hK
    rw [if_neg (by omega), ef, show ((i : Int)).toNat = i by omega] at hK
    obtain ⟨j1, j2, j3, j4, j5⟩ := hJ
    refine hK _ ⟨⟨?_, j1.2⟩, ?_, ?_, ?_, ?_⟩ ?_ ?_
    · rw [zUp_there (by decide)]; exact j1.1
    · rw [zUp_there (by decide)]; exact j2
    · rw [zUp_here]
    · rw [zUp_there (by decide)]; exact j4
    · rw [zUp_there (by decide)]; exact j5
    · intro c c1 c2 c3 c4
      rw [zUp_away c1]
    · intro j c1 c2 c3 c4 c5
      rw [zUp_there c2]
