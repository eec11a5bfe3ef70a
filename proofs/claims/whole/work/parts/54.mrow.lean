/-! LAYER 3: reducing by rows: the reference -/
def mRw (M : Mm) (R : List Int) : Prop := M 154 70 = R.length ∧ R.length ≤ 80 ∧ rLs M 191 R 0
theorem m_gather_l {d : Nat} {G : Mm} {K : Kt} {t : Tr} {lev : Int} (hg : gOk G) (hv : tVal (G 4 0) t) (hl : zR32 lev = true) : ∀ (m : Nat) (M : Mm) (k n : Int), k + m = tSz t → 0 ≤ k → mG G M → mTr M 0 t → mLay G M t 0 → M 154 70 = n → 0 ≤ n → n ≤ k →
    (∀ M', M' 154 70 = n + (rRowL G t lev m k).length → (∀ j, j ≠ 70 → M' 154 j = M 154 j) → rLs M' 191 (rRowL G t lev m k) n → (∀ j, j < n → M' 191 j = M 191 j) → (∀ c, c ≠ 154 → c ≠ 191 → M' c = M c) → K 0 M') → zWp (zSp (d + 3)) 230 K 12 [some (.inr (.inr 154)), some (.inl lev), some (.inl k)] [] M
  | 0, M, k, n, hk, h0, hm, ht, hly, hn, hn0, hnk, hK => by
    have t5 := ht.2
    rw [fe_230_12]
    refine m_many (by decide) ?_
    rw [ht.1.1]
    (repeat (first | (with_reducible refine zC_i ?hob ?_; case hob => first | assumption | decide | exact zr (by omega) (by omega) | exact zs (by omega) (by omega) | exact zd (by omega) (by omega)) | (with_reducible refine zIfT ?hob ?_; case hob => first | assumption | omega | decide) | (with_reducible refine zIfF ?hob ?_; case hob => first | assumption | omega | decide)))
    exact hK M (by show _ = n + 0; omega) (fun _ _ => rfl) trivial (fun _ _ => rfl) (fun _ _ _ => rfl)
  | m + 1, M, k, n, hk, h0, hm, ht, hly, hn, hn0, hnk, hK => by
    have t5 := ht.2
    have la := mLay_at hly ht (k := k) h0 (by omega)
    have lb := tLv_dp t k
    have db := tDp_b t
    have pb := tPl_b (t := t) h0 (by omega)
    have hyes : tRow G t lev k → zWp (zSp (d + 3)) 230 K 51 [some (.inr (.inr 154)), some (.inl lev), some (.inl k)] [] M := by
      intro c
      have e : rRowL G t lev (m + 1) k = k :: rRowL G t lev m (k + 1) := if_pos c
      rw [e] at hK
      rw [fe_230_51, hn]
      (repeat (first | (with_reducible refine zC_i ?hob ?_; case hob => first | assumption | decide | exact zr (by omega) (by omega) | exact zs (by omega) (by omega) | exact zd (by omega) (by omega)) | (with_reducible refine zIfT ?hob ?_; case hob => first | assumption | omega | decide) | (with_reducible refine zIfF ?hob ?_; case hob => first | assumption | omega | decide)))
      refine m_gather_l hg hv hl m _ (k + 1) (n + 1) (by omega) (by omega) (mG_fr hm rfl rfl rfl rfl rfl) (mTr_fr ht fun _ _ _ => rfl) (mLay_fr hly (fun c c1 c2 => by rw [zUp_away (by omega), zUp_away (by omega)]) (fun _ _ _ => rfl) t5 (by rw [zUp_there (by decide), zUp_away (by decide)])) (by rw [zUp_here]) (by omega) (by omega) ?_
      intro M' f1 f2 f3 f4 f5
      refine hK M' (by rw [f1, List.length_cons]; omega) (fun j hj => by rw [f2 j hj, zUp_there hj, zUp_away (by decide)]) ⟨by rw [f4 n (by omega), zUp_away (by decide), zUp_here], f3⟩ (fun j hj => by rw [f4 j (by omega), zUp_away (by decide), zUp_there (by omega)]) (fun c c1 c2 => by rw [f5 c c1 c2, zUp_away c1, zUp_away c2])
    have hno : ¬ tRow G t lev k → zWp (zSp (d + 3)) 230 K 12 [some (.inr (.inr 154)), some (.inl lev), some (.inl (k + 1))] [] M := by
      intro c
      have e : rRowL G t lev (m + 1) k = rRowL G t lev m (k + 1) := if_neg c
      rw [e] at hK
      exact m_gather_l hg hv hl m M (k + 1) n (by omega) (by omega) hm ht hly hn hn0 (by omega) hK
    clear hK
    rw [fe_230_12]
    refine m_many (by decide) ?_
    rw [ht.1.1, la.2.1]
    (repeat (first | (with_reducible refine zC_i ?hob ?_; case hob => first | assumption | decide | exact zr (by omega) (by omega) | exact zs (by omega) (by omega) | exact zd (by omega) (by omega)) | (with_reducible refine zIfT ?hob ?_; case hob => first | assumption | omega | decide) | (with_reducible refine zIfF ?hob ?_; case hob => first | assumption | omega | decide)))
    refine ⟨fun c => hno (fun q => c q.1), fun c => ?_⟩
    refine zC_i (by first | assumption | decide | exact zr (by omega) (by omega) | exact zs (by omega) (by omega) | exact zd (by omega) (by omega)) (zC_i (by rcases la.2.2.2.1 with q | q <;> rw [q] <;> decide) ⟨fun c2 => ?_, fun c2 => ?_⟩)
    · exact hyes ⟨by omega, .inl (la.2.2.2.2.mp (by have := la.2.2.2.1; omega))⟩
    · refine m_canBeLeast hg hm ht hv h0 (by omega) ?_
      have b1 := @fl_b (tLst G t k) _
      (repeat (first | (with_reducible refine zC_i ?hob ?_; case hob => first | assumption | decide | exact zr (by omega) (by omega) | exact zs (by omega) (by omega) | exact zd (by omega) (by omega)) | (with_reducible refine zIfT ?hob ?_; case hob => first | assumption | omega | decide) | (with_reducible refine zIfF ?hob ?_; case hob => first | assumption | omega | decide)))
      refine ⟨fun c3 => hyes ⟨by omega, .inr (fl_1.mp (by omega))⟩, fun c3 => hno (fun q => ?_)⟩
      rcases q.2 with q | q
      · have := la.2.2.2.2.mpr q; omega
      · rw [fl_t q] at c3; omega
theorem m_laysRow {d : Nat} {M G : Mm} {K : Kt} {B : List Bg} {vs bug lev : Int} {S : Rs} (hg : gOk G) (hl : zR32 lev = true) (h : mRS G B vs bug M S) (ho : rsOk G B S) (hK : ∀ M', mRS G B vs bug M' S → mLay G M' S.1 0 → mRw M' (rRow0 G S.1 lev) → mFr M M' → K 0 M') : zSp (d + 4) 230 [.inr (.inr 154), .inl lev] M K := by
  have q1 := tSz_pos S.1
  have hz := ho.1
  have len := rRowL_len (G := G) (t := S.1) (lev := lev) (tSz S.1).toNat 0
  rw [me_230]
  refine m_layA (d := d) hg h ho ?_
  intro M1 f1 f2 f3 f4 f5
  have e : ∀ c, c ≠ 154 → (zUp M1 154 70 0) c = M1 c := fun c hc => zUp_away hc
  refine m_gather_l hg ho.2.1 hl (tSz S.1).toNat _ 0 0 (by omega) (by omega) (mG_fr f1.1 rfl rfl rfl rfl rfl) (mTr_fr f1.2.2.1 fun _ _ _ => rfl) (mLay_fr f2 (fun c c1 c2 => e c (by omega)) (fun _ _ _ => rfl) hz (by rw [zUp_there (by decide)])) (by rw [zUp_here]) (by omega) (by omega) ?_
  intro M' g1 g2 g3 g4 g5
  have gj : ∀ j, j ≠ 70 → M' 154 j = M1 154 j := fun j hj => by rw [g2 j hj, zUp_there hj]
  have gc : ∀ c, c ≠ 154 → c ≠ 191 → M' c = M1 c := fun c c1 c2 => by rw [g5 c c1 c2, e c c1]
  refine hK M' (mRS_fr f1 (fun c hc => gc c (by omega) (by omega)) (fun p _ _ => by rw [gc 165 (by decide) (by decide)]) (fun j hj => gj j (by omega))) (mLay_fr f2 (fun c c1 c2 => gc c (by omega) (by omega)) (fun p _ _ => by rw [gc 165 (by decide) (by decide)]) hz (gj 46 (by decide))) ⟨by rw [g1, Int.zero_add]; rfl, by show (rRowL G S.1 lev (tSz S.1).toNat 0).length ≤ 80; omega, g3⟩ (mFr_trans f3 ⟨fun c c1 c2 c3 => gc c c1 (by omega), fun p _ => by rw [gc 165 (by decide) (by decide)], fun j hj => gj j (by omega)⟩)
theorem m_mark_l {d : Nat} {G : Mm} {K : Kt} {t : Tr} {fr to w x4 x5 n lev : Int} (hfr : zR32 fr = true) (hto : zR32 to = true) (hw : w = 0 ∨ w = 1) (hn : n ≤ 80) : ∀ (R : List Int) (M : Mm) (i : Int), i + R.length = n → 0 ≤ i → M 154 70 = n → rLs M 191 R i → (∀ x ∈ R, 0 ≤ x ∧ x < 80) → (∀ x ∈ R, (M 180 x = 0 ∨ M 180 x = 1) ∧ (M 180 x = 1 ↔ tStar G t x)) →
    (∀ M', (∀ x, M' 187 x = if x ∈ rSel fr to w R i then (if tStar G t x then 0 else 1) else M 187 x) → (∀ c, c ≠ 187 → M' c = M c) → zWp (zSp d) 231 K 7 [some (.inr (.inr 154)), some (.inl fr), some (.inl to), some (.inl w), some (.inl x4), some (.inl x5), some (.inl n), none] [] M') → zWp (zSp d) 231 K 7 [some (.inr (.inr 154)), some (.inl fr), some (.inl to), some (.inl w), some (.inl x4), some (.inl x5), some (.inl i), none] [] M
  | [], M, i, hi, h0, hM, hr, hb, hst, hK => by
    have hi : i + 0 = n := hi
    rw [show i = n by omega]
    exact hK M (fun x => by rw [if_neg (by simp [rSel])]) (fun _ _ => rfl)
  | x :: R, M, i, hi, h0, hM, hr, hb, hst, hK => by
    have hi : i + ((R.length + 1 : Nat) : Int) = n := hi
    have hx := hb x List.mem_cons_self
    have hsx := hst x List.mem_cons_self
    have h33 : ∀ y, y = fl (fr ≤ i ∧ i < to) → zWp (zSp d) 231 K 33 [some (.inr (.inr 154)), some (.inl fr), some (.inl to), some (.inl w), some (.inl x4), some (.inl x5), some (.inl i), none] [.inl y] M := by
      intro y hy
      have yb : y = 0 ∨ y = 1 := by rw [hy]; exact fl_b
      rw [fe_231_33, hr.1]
      (repeat (first | (with_reducible refine zC_i ?hob ?_; case hob => first | assumption | decide | exact zr (by omega) (by omega) | exact zs (by omega) (by omega) | exact zd (by omega) (by omega)) | (with_reducible refine zIfT ?hob ?_; case hob => first | assumption | omega | decide) | (with_reducible refine zIfF ?hob ?_; case hob => first | assumption | omega | decide)))
      refine ⟨fun c => ?_, fun c => ?_⟩
      · have e : rSel fr to w (x :: R) i = rSel fr to w R (i + 1) := if_neg (by rw [← hy]; exact c)
        rw [e] at hK
        exact m_mark_l (x4 := x4) (x5 := x5) (lev := lev) hfr hto hw hn R M (i + 1) (by omega) (by omega) hM hr.2 (fun y hy => hb y (List.mem_cons_of_mem _ hy)) (fun y hy => hst y (List.mem_cons_of_mem _ hy)) hK
      · have e : rSel fr to w (x :: R) i = x :: rSel fr to w R (i + 1) := if_pos (by rw [← hy]; omega)
        rw [e] at hK
        have nx : ∀ v, v = (if tStar G t x then 0 else 1) → zWp (zSp d) 231 K 7 [some (.inr (.inr 154)), some (.inl fr), some (.inl to), some (.inl w), some (.inl x4), some (.inl x5), some (.inl (i + 1)), none] [] (zUp M 187 x v) := by
          intro v hv
          refine m_mark_l (x4 := x4) (x5 := x5) (lev := lev) hfr hto hw hn R _ (i + 1) (by omega) (by omega) (by rw [zUp_away (by decide)]; exact hM) (rLs_fr R (i + 1) hr.2 (fun j _ _ => by rw [zUp_away (by decide)])) (fun y hy => hb y (List.mem_cons_of_mem _ hy)) (fun y hy => by rw [zUp_away (by decide)]; exact hst y (List.mem_cons_of_mem _ hy)) ?_
          intro M' f1 f2
          refine hK M' (fun z => ?_) (fun c hc => by rw [f2 c hc, zUp_away hc])
          rw [f1, zUp_hit]
          by_cases cz : z ∈ rSel fr to w R (i + 1)
          · rw [if_pos cz, if_pos (List.mem_cons_of_mem _ cz)]
          · rw [if_neg cz]
            by_cases cx : z = x
            · rw [if_pos cx, if_pos (by rw [cx]; exact List.mem_cons_self), cx]; exact hv
            · rw [if_neg cx, if_neg (fun h => by
                rcases List.mem_cons.mp h with q | q
                · exact cx q
                · exact cz q)]
        refine zC_i (by first | assumption | decide | exact zr (by omega) (by omega) | exact zs (by omega) (by omega) | exact zd (by omega) (by omega)) (zC_i (by first | assumption | decide | exact zr (by omega) (by omega) | exact zs (by omega) (by omega) | exact zd (by omega) (by omega)) (zC_i (by first | assumption | decide | exact zr (by omega) (by omega) | exact zs (by omega) (by omega) | exact zd (by omega) (by omega)) (zC_i (by rcases hsx.1 with q | q <;> rw [q] <;> decide) ⟨fun c2 => ?_, fun c2 => ?_⟩)))
        · (repeat (first | (with_reducible refine zC_i ?hob ?_; case hob => first | assumption | decide | exact zr (by omega) (by omega) | exact zs (by omega) (by omega) | exact zd (by omega) (by omega)) | (with_reducible refine zIfT ?hob ?_; case hob => first | assumption | omega | decide) | (with_reducible refine zIfF ?hob ?_; case hob => first | assumption | omega | decide)))
          exact nx 1 (by rw [if_neg (fun q => by have := hsx.2.mpr q; omega)])
        · (repeat (first | (with_reducible refine zC_i ?hob ?_; case hob => first | assumption | decide | exact zr (by omega) (by omega) | exact zs (by omega) (by omega) | exact zd (by omega) (by omega)) | (with_reducible refine zIfT ?hob ?_; case hob => first | assumption | omega | decide) | (with_reducible refine zIfF ?hob ?_; case hob => first | assumption | omega | decide)))
          exact nx 0 (by rw [if_pos (hsx.2.mp (by have := hsx.1; omega))])
    rw [fe_231_7, hM]
    (repeat (first | (with_reducible refine zC_i ?hob ?_; case hob => first | assumption | decide | exact zr (by omega) (by omega) | exact zs (by omega) (by omega) | exact zd (by omega) (by omega)) | (with_reducible refine zIfT ?hob ?_; case hob => first | assumption | omega | decide) | (with_reducible refine zIfF ?hob ?_; case hob => first | assumption | omega | decide)))
    refine ⟨fun c => ?_, fun c => ?_⟩
    · rw [fe_231_32]
      exact h33 0 (fl_f (by omega)).symm
    · (repeat (first | (with_reducible refine zC_i ?hob ?_; case hob => first | assumption | decide | exact zr (by omega) (by omega) | exact zs (by omega) (by omega) | exact zd (by omega) (by omega)) | (with_reducible refine zIfT ?hob ?_; case hob => first | assumption | omega | decide) | (with_reducible refine zIfF ?hob ?_; case hob => first | assumption | omega | decide)))
      refine ⟨fun c2 => ?_, fun c2 => ?_⟩
      · rw [fe_231_32]
        exact h33 0 (fl_f (by omega)).symm
      · exact h33 1 (fl_t (by omega)).symm
theorem m_keep_l {d : Nat} {K : Kt} {fr to w x4 x5 n : Int} {g : Int → Int} (hfr : zR32 fr = true) (hto : zR32 to = true) (hw : w = 0 ∨ w = 1) (hn : n ≤ 80) : ∀ (R : List Int) (M : Mm) (i j : Int), i + R.length = n → 0 ≤ j → j ≤ i → M 154 70 = n → rLs M 191 R i → (∀ x ∈ R, 0 ≤ x ∧ x < 80) → (∀ x ∈ rNot fr to w R i, M 188 x = g x) →
    (∀ M', M' 154 70 = j + (rNot fr to w R i).length → (∀ p, p ≠ 70 → M' 154 p = M 154 p) → rLs M' 191 ((rNot fr to w R i).map g) j → (∀ p, p < j → M' 191 p = M 191 p) → (∀ c, c ≠ 154 → c ≠ 191 → M' c = M c) → K 1 M') → zWp (zSp d) 231 K 98 [some (.inr (.inr 154)), some (.inl fr), some (.inl to), some (.inl w), some (.inl x4), some (.inl x5), some (.inl j), some (.inl i)] [] M
  | [], M, i, j, hi, h0, hji, hM, hr, hb, hg, hK => by
    have hi : i + 0 = n := hi
    rw [fe_231_98, hM]
    (repeat (first | (with_reducible refine zC_i ?hob ?_; case hob => first | assumption | decide | exact zr (by omega) (by omega) | exact zs (by omega) (by omega) | exact zd (by omega) (by omega)) | (with_reducible refine zIfT ?hob ?_; case hob => first | assumption | omega | decide) | (with_reducible refine zIfF ?hob ?_; case hob => first | assumption | omega | decide)))
    exact hK _ (by rw [zUp_here]; show j = j + 0; omega) (fun p hp => zUp_there hp) trivial (fun p _ => by rw [zUp_away (by decide)]) (fun c c1 c2 => zUp_away c1)
  | x :: R, M, i, j, hi, h0, hji, hM, hr, hb, hg, hK => by
    have hi : i + ((R.length + 1 : Nat) : Int) = n := hi
    have hx := hb x List.mem_cons_self
    have h124 : ∀ y, y = fl (fr ≤ i ∧ i < to) → zWp (zSp d) 231 K 124 [some (.inr (.inr 154)), some (.inl fr), some (.inl to), some (.inl w), some (.inl x4), some (.inl x5), some (.inl j), some (.inl i)] [.inl y] M := by
      intro y hy
      have yb : y = 0 ∨ y = 1 := by rw [hy]; exact fl_b
      rw [fe_231_124, hr.1]
      (repeat (first | (with_reducible refine zC_i ?hob ?_; case hob => first | assumption | decide | exact zr (by omega) (by omega) | exact zs (by omega) (by omega) | exact zd (by omega) (by omega)) | (with_reducible refine zIfT ?hob ?_; case hob => first | assumption | omega | decide) | (with_reducible refine zIfF ?hob ?_; case hob => first | assumption | omega | decide)))
      refine ⟨fun c => ?_, fun c => ?_⟩
      · have e : rNot fr to w (x :: R) i = x :: rNot fr to w R (i + 1) := if_neg (by rw [← hy]; exact c)
        rw [e] at hK hg
        rw [hg x List.mem_cons_self]
        (repeat (first | (with_reducible refine zC_i ?hob ?_; case hob => first | assumption | decide | exact zr (by omega) (by omega) | exact zs (by omega) (by omega) | exact zd (by omega) (by omega)) | (with_reducible refine zIfT ?hob ?_; case hob => first | assumption | omega | decide) | (with_reducible refine zIfF ?hob ?_; case hob => first | assumption | omega | decide)))
        refine m_keep_l (g := g) hfr hto hw hn R _ (i + 1) (j + 1) (by omega) (by omega) (by omega) (by rw [zUp_away (by decide)]; exact hM) (rLs_fr R (i + 1) hr.2 (fun p c1 c2 => zUp_there (by omega))) (fun y hy => hb y (List.mem_cons_of_mem _ hy)) (fun y hy => by rw [zUp_away (by decide)]; exact hg y (List.mem_cons_of_mem _ hy)) ?_
        intro M' f1 f2 f3 f4 f5
        refine hK M' (by rw [f1, List.length_cons]; omega) (fun p hp => by rw [f2 p hp, zUp_away (by decide)]) ⟨by rw [f4 j (by omega), zUp_here], f3⟩ (fun p hp => by rw [f4 p (by omega), zUp_there (by omega)]) (fun c c1 c2 => by rw [f5 c c1 c2, zUp_away c2])
      · have e : rNot fr to w (x :: R) i = rNot fr to w R (i + 1) := if_pos (by rw [← hy]; omega)
        rw [e] at hK hg
        exact m_keep_l (g := g) hfr hto hw hn R M (i + 1) j (by omega) h0 (by omega) hM hr.2 (fun y hy => hb y (List.mem_cons_of_mem _ hy)) hg hK
    rw [fe_231_98, hM]
    (repeat (first | (with_reducible refine zC_i ?hob ?_; case hob => first | assumption | decide | exact zr (by omega) (by omega) | exact zs (by omega) (by omega) | exact zd (by omega) (by omega)) | (with_reducible refine zIfT ?hob ?_; case hob => first | assumption | omega | decide) | (with_reducible refine zIfF ?hob ?_; case hob => first | assumption | omega | decide)))
    refine ⟨fun c => ?_, fun c => ?_⟩
    · rw [fe_231_123]
      exact h124 0 (fl_f (by omega)).symm
    · (repeat (first | (with_reducible refine zC_i ?hob ?_; case hob => first | assumption | decide | exact zr (by omega) (by omega) | exact zs (by omega) (by omega) | exact zd (by omega) (by omega)) | (with_reducible refine zIfT ?hob ?_; case hob => first | assumption | omega | decide) | (with_reducible refine zIfF ?hob ?_; case hob => first | assumption | omega | decide)))
      refine ⟨fun c2 => ?_, fun c2 => ?_⟩
      · rw [fe_231_123]
        exact h124 0 (fl_f (by omega)).symm
      · exact h124 1 (fl_t (by omega)).symm
theorem m_takesRow {d : Nat} {M G : Mm} {K : Kt} {B : List Bg} {vs bug fr to w why lev : Int} {S : Rs} {R : List Int} (hg : gOk G) (hB : bCx (G 4 0) B) (hvs : 1 ≤ vs ∧ vs ≤ 9) (hb : 0 ≤ bug ∧ bug < 6) (h : mRS G B vs bug M S) (ho : rsOk G B S) (hly : mLay G M S.1 0) (hR : rOk G S.1 lev R) (hrw : mRw M R) (hfr : zR32 fr = true) (hto : zR32 to = true) (hw : w = 0 ∨ w = 1)
    (hK : ∀ M', mRS G B vs bug M' (rRw G B vs bug S R fr to w why lev).2.1 → mLay G M' (rRw G B vs bug S R fr to w why lev).2.1.1 0 → mRw M' (rRw G B vs bug S R fr to w why lev).2.2 → mFr M M' → ((rRw G B vs bug S R fr to w why lev).1 = 0 ∨ (rRw G B vs bug S R fr to w why lev).1 = 1) → K (rRw G B vs bug S R fr to w why lev).1 M') : zSp (d + 10) 231 [.inr (.inr 154), .inl fr, .inl to, .inl w, .inl why, .inl lev] M K := by
  have hz := ho.1
  have q1 := tSz_pos S.1
  have hS := rSel_sub (fr := fr) (to := to) (w := w) R 0
  have hN := rNot_sub (fr := fr) (to := to) (w := w) R 0
  have hD := rDisj (fr := fr) (to := to) (w := w) R 0 hR.2
  obtain ⟨m1, m2, m3, m4⟩ := rMk_bMk (H := tSub S.1 0) hR hS
  have hRb : ∀ x ∈ R, 0 ≤ x ∧ x < 80 := fun x hx => by have := hR.1 x hx; omega
  obtain ⟨r1, r2, r3⟩ := hrw
  rw [me_231]
  refine m_unmarks ?_
  intro M1 f1 f2
  refine m_mark_l (G := G) (t := S.1) (n := R.length) (lev := lev) hfr hto hw (by omega) R M1 0 (by omega) (by omega) (by rw [f2 154 (by decide)]; exact r1) (rLs_fr R 0 r3 (fun j _ _ => by rw [f2 191 (by decide)])) hRb (fun x hx => by
    have hr := hR.1 x hx
    have la := mLay_at hly h.2.2.1 (k := x) (by omega) hr.2.1
    rw [f2 180 (by decide)]
    exact ⟨la.2.2.2.1, la.2.2.2.2⟩) ?_
  intro M2 g1 g2
  have fall : ∀ c, c ≠ 187 → M2 c = M c := fun c hc => by rw [g2 c hc, f2 c hc]
  have h2 : mRS G B vs bug M2 S := mRS_fr h (fun c hc => fall c (by omega)) (fun p _ _ => by rw [fall 165 (by decide)]) (fun j _ => by rw [fall 154 (by decide)])
  have ly2 : mLay G M2 S.1 0 := mLay_fr hly (fun c c1 c2 => fall c (by omega)) (fun p _ _ => by rw [fall 165 (by decide)]) hz (by rw [fall 154 (by decide)])
  rw [fe_231_7, fall 154 (by decide), r1]
  (repeat (first | (with_reducible refine zC_i ?hob ?_; case hob => first | assumption | decide | exact zr (by omega) (by omega) | exact zs (by omega) (by omega) | exact zd (by omega) (by omega)) | (with_reducible refine zIfT ?hob ?_; case hob => first | assumption | omega | decide) | (with_reducible refine zIfF ?hob ?_; case hob => first | assumption | omega | decide)))
  refine m_builds (d := d + 4) (hj := 0) (mk := rMk G S.1 (rSel fr to w R 0)) hg h2.1 h2.2.2.1 ho.2.1 (by omega) (.inr (fun k => by have := rMk_v (G := G) (t := S.1) (S := rSel fr to w R 0) k; omega)) (fun k k0 k1 => by
    rw [g1]
    unfold rMk
    by_cases c : k ∈ rSel fr to w R 0
    · rw [if_pos c, if_pos c]
    · rw [if_neg c, if_neg c, f1 k k0 k1]) (by omega) m1 m2 ?_
  intro M3 k1 k2 k3 k4
  have fr3 : mFr M M3 := ⟨fun c c1 c2 c3 => by rw [k2 c c2 (by omega) (by omega) (by omega), fall c (by omega)], fun p hp => by rw [k3 p (by omega), fall 165 (by decide)], fun j hj => by rw [k2 154 (by decide) (by decide) (by decide) (by decide), fall 154 (by decide)]⟩
  have h3 : mRS G B vs bug M3 S := mRS_fr h2 (fun c hc => k2 c (by omega) (by omega) (by omega) (by omega)) (fun p c1 c2 => k3 p (by omega)) (fun j hj => by rw [k2 154 (by decide) (by decide) (by decide) (by decide)])
  have ly3 : mLay G M3 S.1 0 := mLay_fr ly2 (fun c c1 c2 => k2 c (by omega) (by omega) (by omega) (by omega)) (fun p c1 c2 => k3 p (by omega)) hz (by rw [k2 154 (by decide) (by decide) (by decide) (by decide)])
  refine m_isTaken (d := d) hg hB hvs hb h3 ho ly3 k1 (bT_val hg ho.2.1 (tVal_sub _ _ ho.2.1)) ?_
  intro M4 p1 p2 p3 p4 p5 p6
  have ls4 : rLs M4 191 R 0 := rLs_fr R 0 r3 (fun j _ _ => by rw [p4 191 (by omega), k2 191 (by decide) (by decide) (by decide) (by decide), fall 191 (by decide)])
  have len4 : M4 154 70 = R.length := by rw [p5, k2 154 (by decide) (by decide) (by decide) (by decide), fall 154 (by decide)]; exact r1
  unfold rRw at hK
  generalize hT : rTk B vs bug S (bT G (rMk G S.1 (rSel fr to w R 0)) (tSub S.1 0) S.1) why lev = T at *
  rcases p6 with q | q
  · rw [if_neg (by omega)] at hK
    rw [q]
    (repeat (first | (with_reducible refine zC_i ?hob ?_; case hob => first | assumption | decide | exact zr (by omega) (by omega) | exact zs (by omega) (by omega) | exact zd (by omega) (by omega)) | (with_reducible refine zIfT ?hob ?_; case hob => first | assumption | omega | decide) | (with_reducible refine zIfF ?hob ?_; case hob => first | assumption | omega | decide)))
    exact hK M4 p1 p2 ⟨len4, r2, ls4⟩ (mFr_trans fr3 p3) (.inl rfl)
  · rw [if_pos q] at hK
    rw [q]
    (repeat (first | (with_reducible refine zC_i ?hob ?_; case hob => first | assumption | decide | exact zr (by omega) (by omega) | exact zs (by omega) (by omega) | exact zd (by omega) (by omega)) | (with_reducible refine zIfT ?hob ?_; case hob => first | assumption | omega | decide) | (with_reducible refine zIfF ?hob ?_; case hob => first | assumption | omega | decide)))
    refine m_keep_l (n := R.length) (g := bPos G (rMk G S.1 (rSel fr to w R 0)) (tSub S.1 0) S.1 0) hfr hto hw (by omega) R M4 0 0 (by omega) (by omega) (by omega) len4 ls4 hRb ?_ ?_
    · intro x hx
      have hr := hR.1 x (hN x hx)
      have pb := tPl_b (t := S.1) (k := x) (by omega) hr.2.1
      rw [p4 188 (by omega)]
      exact k4 m3 x (by omega) hr.2.1 (bVis_lev (fun k _ _ hk => (m4 k hk).2) S.1 0 0 (by omega) (by omega) (tAll_put fun _ _ _ => rfl) x (by omega) (by omega) (by have := hr.2.2.1; omega) (.inr (by
        have := (pb.2.2.1 hr.1).2.2
        omega)))
    · intro M5 w1 w2 w3 w4 w5
      have len := rLen (fr := fr) (to := to) (w := w) R 0
      refine hK M5 (mRS_fr p1 (fun c hc => w5 c (by omega) (by omega)) (fun p _ _ => by rw [w5 165 (by decide) (by decide)]) (fun j hj => w2 j (by omega))) (mLay_fr p2 (fun c c1 c2 => w5 c (by omega) (by omega)) (fun p _ _ => by rw [w5 165 (by decide) (by decide)]) p1.2.2.1.2 (w2 46 (by decide))) ⟨?_, ?_, w3⟩ (mFr_trans (mFr_trans fr3 p3) ⟨fun c c1 c2 c3 => w5 c c1 (by omega), fun p _ => by rw [w5 165 (by decide) (by decide)], fun j hj => w2 j (by omega)⟩) (.inr rfl)
      · rw [w1, List.length_map]; omega
      · rw [List.length_map]; omega
theorem m_part_l {d : Nat} {G : Mm} {K : Kt} {B : List Bg} {vs bug n w why lev : Int} {R : List Int} (hg : gOk G) (hB : bCx (G 4 0) B) (hvs : 1 ≤ vs ∧ vs ≤ 9) (hb : 0 ≤ bug ∧ bug < 6) (hn : 1 ≤ n) (hl : n ≤ R.length) (hw : w = 1 ∨ (w = 0 ∧ 2 ≤ n)) : ∀ (m : Nat) (M : Mm) (i : Int) (S : Rs), i + m = n → 0 ≤ i → mRS G B vs bug M S → rsOk G B S → mLay G M S.1 0 → rOk G S.1 lev R → mRw M R →
    (∀ M', mRS G B vs bug M' (rPt G B vs bug n w why lev m i S R).2.1 → mLay G M' (rPt G B vs bug n w why lev m i S R).2.1.1 0 → mRw M' (rPt G B vs bug n w why lev m i S R).2.2 → mFr M M' → ((rPt G B vs bug n w why lev m i S R).1 = 0 ∨ (rPt G B vs bug n w why lev m i S R).1 = 1) → K (rPt G B vs bug n w why lev m i S R).1 M') →
    zWp (zSp (d + 10)) 233 K 3 [some (.inr (.inr 154)), some (.inl n), some (.inl w), some (.inl why), some (.inl lev), some (.inl i)] [] M
  | 0, M, i, S, hi, h0, h, ho, hly, hR, hrw, hK => by
    have r2 := hrw.2.1
    rw [fe_233_3]
    (repeat (first | (with_reducible refine zC_i ?hob ?_; case hob => first | assumption | decide | exact zr (by omega) (by omega) | exact zs (by omega) (by omega) | exact zd (by omega) (by omega)) | (with_reducible refine zIfT ?hob ?_; case hob => first | assumption | omega | decide) | (with_reducible refine zIfF ?hob ?_; case hob => first | assumption | omega | decide)))
    exact hK M h hly hrw mFr_refl (.inl rfl)
  | m + 1, M, i, S, hi, h0, h, ho, hly, hR, hrw, hK => by
    have r2 := hrw.2.1
    have p := rPart (len := R.length) hn hl (i := i) (by omega)
    have ne := rPt_ne (R := R) hn hl (i := i) (w := w) (by omega) hw
    have rw' := (rRw_ok hg (vs := vs) (bug := bug) (why := why) ho hR ne.1).1
    have mu1 := zmul80 (a := R.length) (i := i) (by omega) (by omega) (by omega) (by omega)
    have mu2 := zmul80 (a := R.length) (i := i + 1) (by omega) (by omega) (by omega) (by omega)
    unfold rPt at hK
    rw [fe_233_3]
    (repeat (first | (with_reducible refine zC_i ?hob ?_; case hob => first | assumption | decide | exact zr (by omega) (by omega) | exact zs (by omega) (by omega) | exact zd (by omega) (by omega)) | (with_reducible refine zIfT ?hob ?_; case hob => first | assumption | omega | decide) | (with_reducible refine zIfF ?hob ?_; case hob => first | assumption | omega | decide)))
    rw [me_232, hrw.1]
    (repeat (first | (with_reducible refine zC_i ?hob ?_; case hob => first | assumption | decide | exact zr (by omega) (by omega) | exact zs (by omega) (by omega) | exact zd (by omega) (by omega)) | (with_reducible refine zIfT ?hob ?_; case hob => first | assumption | omega | decide) | (with_reducible refine zIfF ?hob ?_; case hob => first | assumption | omega | decide)))
    rw [me_232, hrw.1]
    (repeat (first | (with_reducible refine zC_i ?hob ?_; case hob => first | assumption | decide | exact zr (by omega) (by omega) | exact zs (by omega) (by omega) | exact zd (by omega) (by omega)) | (with_reducible refine zIfT ?hob ?_; case hob => first | assumption | omega | decide) | (with_reducible refine zIfF ?hob ?_; case hob => first | assumption | omega | decide)))
    refine m_takesRow (d := d) hg hB hvs hb h ho hly hR hrw (zr (by omega) (by omega)) (zr (by omega) (by omega)) (by omega) ?_
    intro M1 f1 f2 f3 f4 f5
    generalize rRw G B vs bug S R (i * R.length / n) ((i + 1) * R.length / n) w why lev = Q at *
    obtain ⟨w1, w2, w3, w4⟩ := rw'
    (repeat (first | (with_reducible refine zC_i ?hob ?_; case hob => first | assumption | decide | exact zr (by omega) (by omega) | exact zs (by omega) (by omega) | exact zd (by omega) (by omega)) | (with_reducible refine zIfT ?hob ?_; case hob => first | assumption | omega | decide) | (with_reducible refine zIfF ?hob ?_; case hob => first | assumption | omega | decide)))
    refine ⟨fun c => ?_, fun c => ?_⟩
    · rw [if_neg (by omega)] at hK
      rcases w4 with q | q
      · omega
      rw [q.2.2.2] at f3
      refine m_part_l hg hB hvs hb hn hl hw m M1 (i + 1) Q.2.1 (by omega) (by omega) f1 w1 f2 (by rw [q.2.1]; exact hR) f3 ?_
      intro M' g1 g2 g3 g4 g5
      exact hK M' g1 g2 g3 (mFr_trans f4 g4) g5
    · rw [if_pos (by omega)] at hK
      have := hK M1 f1 f2 f3 f4 f5
      rw [show Q.1 = 1 by omega] at this
      exact this
theorem m_takesAPart {d : Nat} {M G : Mm} {K : Kt} {B : List Bg} {vs bug n w why lev : Int} {S : Rs} {R : List Int} (hg : gOk G) (hB : bCx (G 4 0) B) (hvs : 1 ≤ vs ∧ vs ≤ 9) (hb : 0 ≤ bug ∧ bug < 6) (hn : 1 ≤ n) (hl : n ≤ R.length) (hw : w = 1 ∨ (w = 0 ∧ 2 ≤ n)) (h : mRS G B vs bug M S) (ho : rsOk G B S) (hly : mLay G M S.1 0) (hR : rOk G S.1 lev R) (hrw : mRw M R)
    (hK : ∀ M', mRS G B vs bug M' (rPt G B vs bug n w why lev n.toNat 0 S R).2.1 → mLay G M' (rPt G B vs bug n w why lev n.toNat 0 S R).2.1.1 0 → mRw M' (rPt G B vs bug n w why lev n.toNat 0 S R).2.2 → mFr M M' → ((rPt G B vs bug n w why lev n.toNat 0 S R).1 = 0 ∨ (rPt G B vs bug n w why lev n.toNat 0 S R).1 = 1) → K (rPt G B vs bug n w why lev n.toNat 0 S R).1 M') : zSp (d + 11) 233 [.inr (.inr 154), .inl n, .inl w, .inl why, .inl lev] M K := by
  rw [me_233]
  exact m_part_l hg hB hvs hb hn hl hw n.toNat M 0 S (by omega) (by omega) h ho hly hR hrw hK
theorem m_halves_l {d : Nat} {G : Mm} {K : Kt} {B : List Bg} {vs bug lev : Int} (hg : gOk G) (hB : bCx (G 4 0) B) (hvs : 1 ≤ vs ∧ vs ≤ 9) (hb : 0 ≤ bug ∧ bug < 6) : ∀ (f : Nat) (M : Mm) (n : Int) (S : Rs) (R : List Int), 100 * tSz S.1 + (R.length - n) ≤ f → 2 ≤ n → n ≤ 80 → (2 ≤ (R.length : Int) → n ≤ R.length) → mRS G B vs bug M S → rsOk G B S → mLay G M S.1 0 → rOk G S.1 lev R → mRw M R →
    (∀ M', mRS G B vs bug M' (rHl G B vs bug lev f n S R) → mLay G M' (rHl G B vs bug lev f n S R).1 0 → mFr M M' → K 0 M') → zWp (zSp (d + 11)) 234 K 2 [some (.inr (.inr 154)), some (.inl lev), some (.inl n)] [] M
  | 0, M, n, S, R, hm, hn, hn8, hl, h, ho, hly, hR, hrw, hK => by
    have q1 := tSz_pos S.1
    have r2 := hrw.2.1
    rw [fe_234_2, hrw.1]
    (repeat (first | (with_reducible refine zC_i ?hob ?_; case hob => first | assumption | decide | exact zr (by omega) (by omega) | exact zs (by omega) (by omega) | exact zd (by omega) (by omega)) | (with_reducible refine zIfT ?hob ?_; case hob => first | assumption | omega | decide) | (with_reducible refine zIfF ?hob ?_; case hob => first | assumption | omega | decide)))
    exact hK M h hly mFr_refl
  | f + 1, M, n, S, R, hm, hn, hn8, hl, h, ho, hly, hR, hrw, hK => by
    have q1 := tSz_pos S.1
    have r2 := hrw.2.1
    unfold rHl at hK
    rw [fe_234_2, hrw.1]
    (repeat (first | (with_reducible refine zC_i ?hob ?_; case hob => first | assumption | decide | exact zr (by omega) (by omega) | exact zs (by omega) (by omega) | exact zd (by omega) (by omega)) | (with_reducible refine zIfT ?hob ?_; case hob => first | assumption | omega | decide) | (with_reducible refine zIfF ?hob ?_; case hob => first | assumption | omega | decide)))
    refine ⟨fun c => ?_, fun c => ?_⟩
    · rw [if_pos (by omega)] at hK
      exact hK M h hly mFr_refl
    rw [if_neg (by omega)] at hK
    have hl := hl (by omega)
    have r := (rPt_ok hg (vs := vs) (bug := bug) (why := 2) (lev := lev) (by omega) hl (.inr ⟨rfl, hn⟩) n.toNat 0 S (by omega) (by omega) ho hR).1
    refine m_takesAPart hg hB hvs hb (by omega) hl (.inr ⟨rfl, hn⟩) h ho hly hR hrw ?_
    intro M1 f1 f1l f2 f3 f4
    generalize rPt G B vs bug n 0 2 lev n.toNat 0 S R = P at *
    obtain ⟨r1, r2', r3, r4⟩ := r
    (repeat (first | (with_reducible refine zC_i ?hob ?_; case hob => first | assumption | decide | exact zr (by omega) (by omega) | exact zs (by omega) (by omega) | exact zd (by omega) (by omega)) | (with_reducible refine zIfT ?hob ?_; case hob => first | assumption | omega | decide) | (with_reducible refine zIfF ?hob ?_; case hob => first | assumption | omega | decide)))
    refine ⟨fun c2 => ?_, fun c2 => ?_⟩
    · rw [if_neg (by omega)] at hK
      rcases r4 with q | q
      · omega
      have eR : P.2.2 = R := q.2.2.2
      have p := rP2_ok hg (vs := vs) (bug := bug) (lev := lev) (n := n) (by omega) hl r1 (by rw [q.2.1]; exact hR)
      have hR1 : rOk G P.2.1.1 lev R := by rw [q.2.1]; exact hR
      rw [eR] at f2
      have h48 : ∀ M2, mRS G B vs bug M2 (rP2 G B vs bug n lev P.2.1 R).2.1 → mLay G M2 (rP2 G B vs bug n lev P.2.1 R).2.1.1 0 → mRw M2 R → mFr M M2 → (rP2 G B vs bug n lev P.2.1 R).1 = 0 → zWp (zSp (d + 11)) 234 K 48 [some (.inr (.inr 154)), some (.inl lev), some (.inl n)] [] M2 := by
        intro M2 g1 g1l g2 g3 g4
        rw [if_neg (by omega)] at hK
        obtain ⟨⟨p1, p2, p3, p4⟩, p5⟩ := p
        generalize rP2 G B vs bug n lev P.2.1 R = Q at *
        rcases p4 with w | w
        · omega
        have eS : Q.2.1.1 = S.1 := by rw [w.2.1, q.2.1]
        rw [fe_234_48, g2.1]
        (repeat (first | (with_reducible refine zC_i ?hob ?_; case hob => first | assumption | decide | exact zr (by omega) (by omega) | exact zs (by omega) (by omega) | exact zd (by omega) (by omega)) | (with_reducible refine zIfT ?hob ?_; case hob => first | assumption | omega | decide) | (with_reducible refine zIfF ?hob ?_; case hob => first | assumption | omega | decide)))
        refine ⟨fun c3 => ?_, fun c3 => ?_⟩
        · rw [if_neg (by omega)] at hK
          exact hK M2 g1 g1l g3
        · rw [if_pos (by omega)] at hK
          have nx : ∀ n', n' = zMin (2 * n) R.length → zWp (zSp (d + 11)) 234 K 2 [some (.inr (.inr 154)), some (.inl lev), some (.inl n')] [] M2 := by
            intro n' hn'
            have zm : zMin (2 * n) R.length ≤ R.length ∧ 2 ≤ zMin (2 * n) R.length ∧ n < zMin (2 * n) R.length := by unfold zMin; split <;> omega
            rw [← hn'] at zm hK
            exact m_halves_l hg hB hvs hb f M2 n' Q.2.1 R (by rw [eS]; omega) zm.2.1 (by omega) (fun _ => zm.1) g1 p1 g1l (by rw [w.2.1]; exact hR1) g2 (fun M' k1 k2 k3 => hK M' k1 k2 (mFr_trans g3 k3))
          (repeat (first | (with_reducible refine zC_i ?hob ?_; case hob => first | assumption | decide | exact zr (by omega) (by omega) | exact zs (by omega) (by omega) | exact zd (by omega) (by omega)) | (with_reducible refine zIfT ?hob ?_; case hob => first | assumption | omega | decide) | (with_reducible refine zIfF ?hob ?_; case hob => first | assumption | omega | decide)))
          refine ⟨fun c4 => nx _ ?_, fun c4 => nx _ ?_⟩
          · unfold zMin; split <;> omega
          · unfold zMin; split <;> omega
      (repeat (first | (with_reducible refine zC_i ?hob ?_; case hob => first | assumption | decide | exact zr (by omega) (by omega) | exact zs (by omega) (by omega) | exact zd (by omega) (by omega)) | (with_reducible refine zIfT ?hob ?_; case hob => first | assumption | omega | decide) | (with_reducible refine zIfF ?hob ?_; case hob => first | assumption | omega | decide)))
      refine ⟨fun c3 => ?_, fun c3 => ?_⟩
      · have e : rP2 G B vs bug n lev P.2.1 R = (0, P.2.1, R) := by unfold rP2; rw [if_neg (by omega)]
        exact h48 M1 (by rw [e]; exact f1) (by rw [e]; exact f1l) f2 f3 (by rw [e])
      · have e : rP2 G B vs bug n lev P.2.1 R = rPt G B vs bug n 1 3 lev n.toNat 0 P.2.1 R := by unfold rP2; rw [if_pos (by omega)]
        refine m_takesAPart hg hB hvs hb (by omega) hl (.inl rfl) f1 r1 f1l hR1 f2 ?_
        rw [← e]
        intro M2 g1 g1l g2 g3 g4
        obtain ⟨⟨p1, p2, p3, p4⟩, p5⟩ := p
        rcases g4 with g4 | g4
        · rw [g4]
          rcases p4 with w | w
          · omega
          rw [w.2.2.2] at g2
          (repeat (first | (with_reducible refine zC_i ?hob ?_; case hob => first | assumption | decide | exact zr (by omega) (by omega) | exact zs (by omega) (by omega) | exact zd (by omega) (by omega)) | (with_reducible refine zIfT ?hob ?_; case hob => first | assumption | omega | decide) | (with_reducible refine zIfF ?hob ?_; case hob => first | assumption | omega | decide)))
          exact h48 M2 g1 g1l g2 (mFr_trans f3 g3) g4
        · rw [if_pos g4] at hK
          rw [g4]
          have p6 := p5 g4
          have g22 := g2.2.1
          have sz : tSz (rP2 G B vs bug n lev P.2.1 R).2.1.1 < tSz S.1 := by
            rcases p4 with w | w
            · rw [q.2.1] at w; exact w.2
            · omega
          (repeat (first | (with_reducible refine zC_i ?hob ?_; case hob => first | assumption | decide | exact zr (by omega) (by omega) | exact zs (by omega) (by omega) | exact zd (by omega) (by omega)) | (with_reducible refine zIfT ?hob ?_; case hob => first | assumption | omega | decide) | (with_reducible refine zIfF ?hob ?_; case hob => first | assumption | omega | decide)))
          rw [show n + -1 = n - 1 by omega]
          exact m_halves_l hg hB hvs hb f M2 (n - 1) _ _ (by omega) (by omega) (by omega) (fun _ => p6.2) g1 p1 g1l p3 g2 (fun M' k1 k2 k3 => hK M' k1 k2 (mFr_trans (mFr_trans f3 g3) k3))
    · rw [if_pos (by omega)] at hK
      have f22 := f2.2.1
      have sz : tSz P.2.1.1 < tSz S.1 := by
        rcases r4 with w | w
        · exact w.2
        · omega
      exact m_halves_l hg hB hvs hb f M1 2 P.2.1 P.2.2 (by omega) (by omega) (by omega) (fun q => q) f1 r1 f1l r3 f2 (fun M' k1 k2 k3 => hK M' k1 k2 (mFr_trans f3 k3))
theorem m_byLevels_l {d : Nat} {G : Mm} {K : Kt} {B : List Bg} {vs bug : Int} (hg : gOk G) (hB : bCx (G 4 0) B) (hvs : 1 ≤ vs ∧ vs ≤ 9) (hb : 0 ≤ bug ∧ bug < 6) : ∀ (f : Nat) (M : Mm) (lev : Int) (S : Rs), lev + f = 80 → 1 ≤ lev → mRS G B vs bug M S → rsOk G B S → mLay G M S.1 0 →
    (∀ M', mRS G B vs bug M' (rLv G B vs bug f lev S) → mFr M M' → K 0 M') → zWp (zSp (d + 12)) 235 K 7 [some (.inr (.inr 154)), some (.inl lev)] [] M
  | 0, M, lev, S, hf, hl, h, ho, hly, hK => by
    have db := tDp_b S.1
    have hz := ho.1
    rw [fe_235_7, hly.1]
    (repeat (first | (with_reducible refine zC_i ?hob ?_; case hob => first | assumption | decide | exact zr (by omega) (by omega) | exact zs (by omega) (by omega) | exact zd (by omega) (by omega)) | (with_reducible refine zIfT ?hob ?_; case hob => first | assumption | omega | decide) | (with_reducible refine zIfF ?hob ?_; case hob => first | assumption | omega | decide)))
    exact hK M h mFr_refl
  | f + 1, M, lev, S, hf, hl, h, ho, hly, hK => by
    have hz := ho.1
    have db := tDp_b S.1
    unfold rLv at hK
    rw [fe_235_7, hly.1]
    (repeat (first | (with_reducible refine zC_i ?hob ?_; case hob => first | assumption | decide | exact zr (by omega) (by omega) | exact zs (by omega) (by omega) | exact zd (by omega) (by omega)) | (with_reducible refine zIfT ?hob ?_; case hob => first | assumption | omega | decide) | (with_reducible refine zIfF ?hob ?_; case hob => first | assumption | omega | decide)))
    refine ⟨fun c => ?_, fun c => ?_⟩
    · rw [if_pos c] at hK
      exact hK M h mFr_refl
    rw [if_neg c] at hK
    have hR := rRow0_ok (G := G) (t := S.1) hl
    refine m_laysRow (d := d + 8) hg (zr (by omega) (by omega)) h ho ?_
    intro M1 f1 f2 f3 f4
    have f32 := f3.2.1
    have h47 : ∀ M2 (S2 : Rs), mRS G B vs bug M2 S2 → rsOk G B S2 → mFr M M2 → (∀ M', mRS G B vs bug M' (rLv G B vs bug f (lev + 1) S2) → mFr M M' → K 0 M') → zWp (zSp (d + 12)) 235 K 47 [some (.inr (.inr 154)), some (.inl lev)] [] M2 := by
      intro M2 S2 g1 g2 g3 g4
      rw [fe_235_47]
      refine m_layA (d := d + 9) hg g1 g2 ?_
      intro M3 k1 k2 k3 k4 k5
      exact m_byLevels_l hg hB hvs hb f M3 (lev + 1) S2 (by omega) (by omega) k1 g2 k2 (fun M' w1 w2 => g4 M' w1 (mFr_trans (mFr_trans g3 k3) w2))
    rw [f3.1]
    (repeat (first | (with_reducible refine zC_i ?hob ?_; case hob => first | assumption | decide | exact zr (by omega) (by omega) | exact zs (by omega) (by omega) | exact zd (by omega) (by omega)) | (with_reducible refine zIfT ?hob ?_; case hob => first | assumption | omega | decide) | (with_reducible refine zIfF ?hob ?_; case hob => first | assumption | omega | decide)))
    refine ⟨fun c2 => ?_, fun c2 => ?_⟩
    · rw [if_pos c2] at hK
      exact h47 M1 S f1 ho f4 hK
    rw [if_neg c2] at hK
    have r := (rPt_ok hg (vs := vs) (bug := bug) (why := 1) (lev := lev) (n := 1) (by omega) (by omega) (.inl rfl) 1 0 S (by omega) (by omega) ho hR).1
    have ePt : rPt G B vs bug 1 1 1 lev 1 0 S (rRow0 G S.1 lev) = rRw G B vs bug S (rRow0 G S.1 lev) 0 (rRow0 G S.1 lev).length 1 1 lev := by
      have e0 : (0 : Int) * ((rRow0 G S.1 lev).length : Int) / 1 = 0 := by omega
      have e1 : ((0 : Int) + 1) * ((rRow0 G S.1 lev).length : Int) / 1 = (rRow0 G S.1 lev).length := by omega
      have ne := rPt_ne (R := rRow0 G S.1 lev) (n := 1) (i := 0) (w := 1) (by omega) (by omega) (by omega) (.inl rfl)
      rw [e0, e1] at ne
      have rr := (rRw_ok hg (vs := vs) (bug := bug) (why := 1) ho hR ne.1).1
      unfold rPt
      rw [e0, e1]
      obtain ⟨s1, s2, s3, s4⟩ := rr
      rcases s4 with q | q
      · rw [if_pos q.1]
      · rw [if_neg (by omega)]
        show (0, (rRw G B vs bug S (rRow0 G S.1 lev) 0 (rRow0 G S.1 lev).length 1 1 lev).2.1, rRow0 G S.1 lev) = _
        have : rRw G B vs bug S (rRow0 G S.1 lev) 0 (rRow0 G S.1 lev).length 1 1 lev = ((rRw G B vs bug S (rRow0 G S.1 lev) 0 (rRow0 G S.1 lev).length 1 1 lev).1, (rRw G B vs bug S (rRow0 G S.1 lev) 0 (rRow0 G S.1 lev).length 1 1 lev).2.1, (rRw G B vs bug S (rRow0 G S.1 lev) 0 (rRow0 G S.1 lev).length 1 1 lev).2.2) := rfl
        rw [this, q.1, q.2.2.2]
    rw [ePt] at hK r
    refine m_takesRow (d := d + 2) hg hB hvs hb f1 ho f2 hR f3 (by decide) (zr (by omega) (by omega)) (.inr rfl) ?_
    intro M2 g1 g1l g2 g3 g4
    generalize rRw G B vs bug S (rRow0 G S.1 lev) 0 (rRow0 G S.1 lev).length 1 1 lev = P at *
    obtain ⟨r1, r2, r3, r4⟩ := r
    (repeat (first | (with_reducible refine zC_i ?hob ?_; case hob => first | assumption | decide | exact zr (by omega) (by omega) | exact zs (by omega) (by omega) | exact zd (by omega) (by omega)) | (with_reducible refine zIfT ?hob ?_; case hob => first | assumption | omega | decide) | (with_reducible refine zIfF ?hob ?_; case hob => first | assumption | omega | decide)))
    refine ⟨fun c3 => ?_, fun c3 => ?_⟩
    · rw [if_pos (by omega)] at hK
      exact h47 M2 P.2.1 g1 r1 (mFr_trans f4 g3) hK
    · rw [if_neg (by omega)] at hK
      rcases r4 with q | q
      · omega
      rw [q.2.2.2] at g2
      have hR1 : rOk G P.2.1.1 lev (rRow0 G S.1 lev) := by rw [q.2.1]; exact hR
      have hh := rHl_ok hg (vs := vs) (bug := bug) (lev := lev) 100000 2 P.2.1 (rRow0 G S.1 lev) (by omega) (fun q => q) r1 hR1
      have z1 := r1.1
      rw [me_234]
      refine m_halves_l (d := d) hg hB hvs hb 100000 M2 2 P.2.1 (rRow0 G S.1 lev) (by omega) (by omega) (by omega) (fun q => q) g1 r1 g1l hR1 g2 ?_
      intro M3 k1 k2 k3
      exact h47 M3 _ k1 hh.1 (mFr_trans (mFr_trans f4 g3) k3) hK
theorem m_reduces {d : Nat} {M G : Mm} {K : Kt} {B : List Bg} {vs bug how : Int} {S : Rs} (hg : gOk G) (hB : bCx (G 4 0) B) (hvs : 1 ≤ vs ∧ vs ≤ 9) (hb : 0 ≤ bug ∧ bug < 6) (hh : 0 ≤ how ∧ how ≤ 3) (h : mRS G B vs bug M S) (ho : rsOk G B S)
    (hK : ∀ M', mRS G B vs bug M' (rAll G B vs bug how S) → mFr M M' → K 0 M') : zSp (d + 14) 239 [.inr (.inr 154), .inl how] M K := by
  have o1 : rsOk G B (rR1 G B vs bug how S) := by
    unfold rR1
    split
    · exact (rLv_ok hg 79 1 S (by omega) ho).1
    · exact ho
  have o2 : rsOk G B (rR2 G B vs bug how (rR1 G B vs bug how S)) := by
    unfold rR2
    split
    · exact (rNd_ok (fun k S h h0 h1 => rHoist_ok hg h h0 h1) 100000 0 _ o1 (by omega)).1
    · exact o1
  have h28 : ∀ M2, mRS G B vs bug M2 (rR2 G B vs bug how (rR1 G B vs bug how S)) → mFr M M2 → zWp (zSp (d + 13)) 239 K 28 [some (.inr (.inr 154)), some (.inl how)] [] M2 := by
    intro M2 g1 g2
    unfold rAll rR3 at hK
    have h38 : (how = 2 ∨ how = 3) → zWp (zSp (d + 13)) 239 K 38 [some (.inr (.inr 154)), some (.inl how)] [] M2 := by
      intro hc
      rw [if_pos hc] at hK
      rw [fe_239_38, me_238]
      refine m_layA (d := d + 9) hg g1 o2 ?_
      intro M3 k1 k2 k3 k4 k5
      have z2 := o2.1
      exact m_byNodes_l (d := d + 2) (P := rCut G B vs bug) hg (.inl ⟨rfl, rfl⟩) hB hvs hb 100000 M3 _ 0 (by omega) k1 o2 k2 (by omega) (by omega) (fun M4 w1 w2 w3 => hK M4 w1 (mFr_trans (mFr_trans g2 k3) w3))
    rw [fe_239_28]
    (repeat (first | (with_reducible refine zC_i ?hob ?_; case hob => first | assumption | decide | exact zr (by omega) (by omega) | exact zs (by omega) (by omega) | exact zd (by omega) (by omega)) | (with_reducible refine zIfT ?hob ?_; case hob => first | assumption | omega | decide) | (with_reducible refine zIfF ?hob ?_; case hob => first | assumption | omega | decide)))
    refine ⟨fun c => h38 (.inl c), fun c => ?_⟩
    (repeat (first | (with_reducible refine zC_i ?hob ?_; case hob => first | assumption | decide | exact zr (by omega) (by omega) | exact zs (by omega) (by omega) | exact zd (by omega) (by omega)) | (with_reducible refine zIfT ?hob ?_; case hob => first | assumption | omega | decide) | (with_reducible refine zIfF ?hob ?_; case hob => first | assumption | omega | decide)))
    refine ⟨fun c2 => ?_, fun c2 => h38 (.inr (by omega))⟩
    rw [if_neg (by omega)] at hK
    exact hK M2 g1 g2
  clear hK
  have h13 : ∀ M1, mRS G B vs bug M1 (rR1 G B vs bug how S) → mFr M M1 → zWp (zSp (d + 13)) 239 K 13 [some (.inr (.inr 154)), some (.inl how)] [] M1 := by
    intro M1 g1 g2
    unfold rR2 at h28
    have h23 : (how = 1 ∨ how = 3) → zWp (zSp (d + 13)) 239 K 23 [some (.inr (.inr 154)), some (.inl how)] [] M1 := by
      intro hc
      rw [if_pos hc] at h28
      rw [fe_239_23, me_238]
      refine m_layA (d := d + 9) hg g1 o1 ?_
      intro M3 k1 k2 k3 k4 k5
      have z2 := o1.1
      exact m_byNodes_l (d := d + 2) (P := rHoist G B vs bug) hg (.inr ⟨rfl, rfl⟩) hB hvs hb 100000 M3 _ 0 (by omega) k1 o1 k2 (by omega) (by omega) (fun M4 w1 w2 w3 => h28 M4 w1 (mFr_trans (mFr_trans g2 k3) w3))
    rw [fe_239_13]
    (repeat (first | (with_reducible refine zC_i ?hob ?_; case hob => first | assumption | decide | exact zr (by omega) (by omega) | exact zs (by omega) (by omega) | exact zd (by omega) (by omega)) | (with_reducible refine zIfT ?hob ?_; case hob => first | assumption | omega | decide) | (with_reducible refine zIfF ?hob ?_; case hob => first | assumption | omega | decide)))
    refine ⟨fun c => h23 (.inl c), fun c => ?_⟩
    (repeat (first | (with_reducible refine zC_i ?hob ?_; case hob => first | assumption | decide | exact zr (by omega) (by omega) | exact zs (by omega) (by omega) | exact zd (by omega) (by omega)) | (with_reducible refine zIfT ?hob ?_; case hob => first | assumption | omega | decide) | (with_reducible refine zIfF ?hob ?_; case hob => first | assumption | omega | decide)))
    refine ⟨fun c2 => ?_, fun c2 => h23 (.inr (by omega))⟩
    rw [if_neg (by omega)] at h28
    exact h28 M1 g1 g2
  unfold rR1 at h13
  have h9 : (how = 0 ∨ how = 3) → zWp (zSp (d + 13)) 239 K 9 [some (.inr (.inr 154)), some (.inl how)] [] M := by
    intro hc
    rw [if_pos hc] at h13
    rw [fe_239_9, me_235]
    refine m_layA (d := d + 9) hg h ho ?_
    intro M3 k1 k2 k3 k4 k5
    exact m_byLevels_l (d := d) hg hB hvs hb 79 M3 1 S (by omega) (by omega) k1 ho k2 (fun M4 w1 w2 => h13 M4 w1 (mFr_trans k3 w2))
  rw [me_239]
  (repeat (first | (with_reducible refine zC_i ?hob ?_; case hob => first | assumption | decide | exact zr (by omega) (by omega) | exact zs (by omega) (by omega) | exact zd (by omega) (by omega)) | (with_reducible refine zIfT ?hob ?_; case hob => first | assumption | omega | decide) | (with_reducible refine zIfF ?hob ?_; case hob => first | assumption | omega | decide)))
  refine ⟨fun c => h9 (.inl c), fun c => ?_⟩
  (repeat (first | (with_reducible refine zC_i ?hob ?_; case hob => first | assumption | decide | exact zr (by omega) (by omega) | exact zs (by omega) (by omega) | exact zd (by omega) (by omega)) | (with_reducible refine zIfT ?hob ?_; case hob => first | assumption | omega | decide) | (with_reducible refine zIfF ?hob ?_; case hob => first | assumption | omega | decide)))
  refine ⟨fun c2 => ?_, fun c2 => h9 (.inr (by omega))⟩
  rw [if_neg (by omega)] at h13
  exact h13 M h mFr_refl
theorem m_rounds_l {d : Nat} {G : Mm} {K : Kt} {B : List Bg} {vs bug how x1 : Int} (hg : gOk G) (hB : bCx (G 4 0) B) (hvs : 1 ≤ vs ∧ vs ≤ 9) (hb : 0 ≤ bug ∧ bug < 6) (hh : 0 ≤ how ∧ how ≤ 3) : ∀ (f : Nat) (M : Mm) (S : Rs) (x3 : Int), tSz S.1 ≤ f → -1 ≤ x3 → x3 < S.2.2 → mRS G B vs bug M S → rsOk G B S → tSz S.1 + S.2.2 ≤ 80 → 0 ≤ S.2.2 →
    (∀ M', mRS G B vs bug M' (rRo G B vs bug how f S) → mFr M M' → K (rRo G B vs bug how f S).2.2 M') → zWp (zSp (d + 14)) 240 K 66 [some (.inr (.inr 154)), some (.inl x1), some (.inl how), some (.inl x3)] [] M
  | 0, M, S, x3, hf, hx1, hx3, h, ho, ht8, ht0, hK => by
    have q0 := tSz_pos S.1
    omega
  | f + 1, M, S, x3, hf, hx1, hx3, h, ho, ht8, ht0, hK => by
    have q0 := tSz_pos S.1
    have ra := rAll_ok hg (vs := vs) (bug := bug) (how := how) ho
    have qa := tSz_pos (rAll G B vs bug how S).1
    have le1 := ra.2.1
    have le2 := ra.2.2
    unfold rRo at hK
    rw [fe_240_66, h.2.2.2.2.2.2]
    (repeat (first | (with_reducible refine zC_i ?hob ?_; case hob => first | assumption | decide | exact zr (by omega) (by omega) | exact zs (by omega) (by omega) | exact zd (by omega) (by omega)) | (with_reducible refine zIfT ?hob ?_; case hob => first | assumption | omega | decide) | (with_reducible refine zIfF ?hob ?_; case hob => first | assumption | omega | decide)))
    refine ⟨fun c => ?_, fun c => ?_⟩
    · rw [fe_240_87]
      refine m_reduces (d := d) hg hB hvs hb hh h ho ?_
      intro M1 f1 f2
      (repeat (first | (with_reducible refine zC_i ?hob ?_; case hob => first | assumption | decide | exact zr (by omega) (by omega) | exact zs (by omega) (by omega) | exact zd (by omega) (by omega)) | (with_reducible refine zIfT ?hob ?_; case hob => first | assumption | omega | decide) | (with_reducible refine zIfF ?hob ?_; case hob => first | assumption | omega | decide)))
      rw [if_pos (.inl c)] at hK
      rw [fe_240_66, f1.2.2.2.2.2.2]
      (repeat (first | (with_reducible refine zC_i ?hob ?_; case hob => first | assumption | decide | exact zr (by omega) (by omega) | exact zs (by omega) (by omega) | exact zd (by omega) (by omega)) | (with_reducible refine zIfT ?hob ?_; case hob => first | assumption | omega | decide) | (with_reducible refine zIfF ?hob ?_; case hob => first | assumption | omega | decide)))
      exact hK M1 f1 f2
    · rw [fe_240_87]
      refine m_reduces (d := d) hg hB hvs hb hh h ho ?_
      intro M1 f1 f2
      (repeat (first | (with_reducible refine zC_i ?hob ?_; case hob => first | assumption | decide | exact zr (by omega) (by omega) | exact zs (by omega) (by omega) | exact zd (by omega) (by omega)) | (with_reducible refine zIfT ?hob ?_; case hob => first | assumption | omega | decide) | (with_reducible refine zIfF ?hob ?_; case hob => first | assumption | omega | decide)))
      by_cases c2 : (rAll G B vs bug how S).2.2 = S.2.2
      · rw [if_pos (.inr c2)] at hK
        rw [fe_240_66, f1.2.2.2.2.2.2, c2]
        (repeat (first | (with_reducible refine zC_i ?hob ?_; case hob => first | assumption | decide | exact zr (by omega) (by omega) | exact zs (by omega) (by omega) | exact zd (by omega) (by omega)) | (with_reducible refine zIfT ?hob ?_; case hob => first | assumption | omega | decide) | (with_reducible refine zIfF ?hob ?_; case hob => first | assumption | omega | decide)))
        rw [c2] at hK
        exact hK M1 f1 f2
      · rw [if_neg (by omega)] at hK
        exact m_rounds_l hg hB hvs hb hh f M1 _ S.2.2 (by omega) (by omega) (by omega) f1 ra.1 (by omega) (by omega) (fun M' k1 k2 => hK M' k1 (mFr_trans f2 k2))
