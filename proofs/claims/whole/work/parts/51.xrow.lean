/-! LAYER 3: reducing by rows: the class -/
def rLs (M : Mm) (c : Nat) : List Int → Int → Prop
  | [], _ => True
  | x :: R, i => M c i = x ∧ rLs M c R (i + 1)
theorem rLs_fr {M M' : Mm} {c : Nat} : ∀ (R : List Int) (i : Int), rLs M c R i → (∀ j, i ≤ j → j < i + R.length → M' c j = M c j) → rLs M' c R i
  | [], i, h, f => trivial
  | x :: R, i, h, f => by
    have f : ∀ j, i ≤ j → j < i + ((R.length + 1 : Nat) : Int) → M' c j = M c j := f
    exact ⟨by rw [f i (by omega) (by omega)]; exact h.1, rLs_fr R (i + 1) h.2 (fun j c1 c2 => f j (by omega) (by omega))⟩
def xRw (M : Mm) (R : List Int) : Prop := M 150 6 = R.length ∧ R.length ≤ 80 ∧ rLs M 151 R 0
theorem x_gather_l {d : Nat} {G : Mm} {K : Kt} {t : Tr} {lev : Int} (hg : gOk G) (hv : tVal (G 4 0) t) (hl : zR32 lev = true) : ∀ (m : Nat) (M : Mm) (k n : Int), k + m = tSz t → 0 ≤ k → xG G M → xTr M 38 t → M 150 6 = n → 0 ≤ n → n ≤ k →
    (∀ M', M' 150 6 = n + (rRowL G t lev m k).length → (∀ j, j ≠ 6 → M' 150 j = M 150 j) → rLs M' 151 (rRowL G t lev m k) n → (∀ j, j < n → M' 151 j = M 151 j) → (∀ c, c ≠ 150 → c ≠ 151 → M' c = M c) → K 0 M') → zWp (zSp (d + 3)) 53 K 7 [some (.inr (.inr 150)), some (.inl lev), some (.inl k)] [] M
  | 0, M, k, n, hk, h0, hx, ht, hn, hn0, hnk, hK => by
    have t1 : M 38 1 = tSz t := ht.1.1
    have t5 := ht.2.1
    rw [fe_53_7, t1]
    (repeat (first | (with_reducible refine zC_i ?hob ?_; case hob => first | assumption | decide | exact zr (by omega) (by omega) | exact zs (by omega) (by omega) | exact zd (by omega) (by omega)) | (with_reducible refine zIfT ?hob ?_; case hob => first | assumption | omega | decide) | (with_reducible refine zIfF ?hob ?_; case hob => first | assumption | omega | decide)))
    exact hK M (by show _ = n + 0; omega) (fun _ _ => rfl) trivial (fun _ _ => rfl) (fun _ _ _ => rfl)
  | m + 1, M, k, n, hk, h0, hx, ht, hn, hn0, hnk, hK => by
    have t1 : M 38 1 = tSz t := ht.1.1
    have t5 := ht.2.1
    have xb38 : xT 38 := by unfold xT; decide
    rw [fe_53_7, t1]
    (repeat (first | (with_reducible refine zC_i ?hob ?_; case hob => first | assumption | decide | exact zr (by omega) (by omega) | exact zs (by omega) (by omega) | exact zd (by omega) (by omega)) | (with_reducible refine zIfT ?hob ?_; case hob => first | assumption | omega | decide) | (with_reducible refine zIfF ?hob ?_; case hob => first | assumption | omega | decide)))
    refine x_isInRow xb38 hg hx ht hv h0 (by omega) hl ?_
    by_cases c : tRow G t lev k
    · have e : rRowL G t lev (m + 1) k = k :: rRowL G t lev m (k + 1) := if_pos c
      rw [e] at hK
      rw [fl_t c, hn]
      (repeat (first | (with_reducible refine zC_i ?hob ?_; case hob => first | assumption | decide | exact zr (by omega) (by omega) | exact zs (by omega) (by omega) | exact zd (by omega) (by omega)) | (with_reducible refine zIfT ?hob ?_; case hob => first | assumption | omega | decide) | (with_reducible refine zIfF ?hob ?_; case hob => first | assumption | omega | decide)))
      refine x_gather_l hg hv hl m _ (k + 1) (n + 1) (by omega) (by omega) (xG_fr hx fun c c1 c2 => by rw [zUp_away (by omega), zUp_away (by omega)]) (xTr_fr ht fun c c1 c2 => by rw [zUp_away (by omega), zUp_away (by omega)]) (by rw [zUp_here]) (by omega) (by omega) ?_
      intro M' f1 f2 f3 f4 f5
      refine hK M' (by rw [f1, List.length_cons]; omega) (fun j hj => by rw [f2 j hj, zUp_there hj, zUp_away (by decide)]) ⟨by rw [f4 n (by omega), zUp_away (by decide), zUp_here], f3⟩ (fun j hj => by rw [f4 j (by omega), zUp_away (by decide), zUp_there (by omega)]) (fun c c1 c2 => by rw [f5 c c1 c2, zUp_away c1, zUp_away c2])
    · have e : rRowL G t lev (m + 1) k = rRowL G t lev m (k + 1) := if_neg c
      rw [e] at hK
      rw [fl_f c]
      (repeat (first | (with_reducible refine zC_i ?hob ?_; case hob => first | assumption | decide | exact zr (by omega) (by omega) | exact zs (by omega) (by omega) | exact zd (by omega) (by omega)) | (with_reducible refine zIfT ?hob ?_; case hob => first | assumption | omega | decide) | (with_reducible refine zIfF ?hob ?_; case hob => first | assumption | omega | decide)))
      exact x_gather_l hg hv hl m M (k + 1) n (by omega) (by omega) hx ht hn hn0 (by omega) hK
theorem x_gatherRow {d : Nat} {M G : Mm} {K : Kt} {t : Tr} {lev : Int} (hg : gOk G) (hv : tVal (G 4 0) t) (hl : zR32 lev = true) (hx : xG G M) (ht : xTr M 38 t) (hK : ∀ M', xRw M' (rRow0 G t lev) → (∀ j, j ≠ 6 → M' 150 j = M 150 j) → (∀ c, c ≠ 150 → c ≠ 151 → M' c = M c) → K 0 M') : zSp (d + 4) 53 [.inr (.inr 150), .inl lev] M K := by
  have q1 := tSz_pos t
  have t5 := ht.2.1
  have len := rRowL_len (G := G) (t := t) (lev := lev) (tSz t).toNat 0
  rw [me_53]
  refine x_gather_l hg hv hl (tSz t).toNat _ 0 0 (by omega) (by omega) (xG_fr hx fun c c1 c2 => zUp_away (by omega)) (xTr_fr ht fun c c1 c2 => zUp_away (by omega)) (by rw [zUp_here]) (by omega) (by omega) ?_
  intro M' f1 f2 f3 f4 f5
  refine hK M' ⟨by rw [f1, Int.zero_add]; rfl, by show (rRowL G t lev (tSz t).toNat 0).length ≤ 80; omega, f3⟩ (fun j hj => by rw [f2 j hj, zUp_there hj]) (fun c c1 c2 => by rw [f5 c c1 c2, zUp_away c1])
def rCg (M : Mm) (fr to w : Int) : List Int → Int → Prop
  | [], _ => True
  | x :: R, i => M 152 x = fl (fl (fr ≤ i ∧ i < to) = w) ∧ rCg M fr to w R (i + 1)
theorem rCg_s {M : Mm} {fr to w : Int} : ∀ (R : List Int) (i : Int), rCg M fr to w R i → (∀ x ∈ rSel fr to w R i, M 152 x = 1) ∧ (∀ x ∈ rNot fr to w R i, M 152 x = 0)
  | [], i, h => ⟨fun x hx => absurd hx (by simp [rSel]), fun x hx => absurd hx (by simp [rNot])⟩
  | y :: R, i, h => by
    have ih := rCg_s R (i + 1) h.2
    unfold rSel rNot
    by_cases c : fl (fr ≤ i ∧ i < to) = w
    · rw [if_pos c, if_pos c]
      refine ⟨fun x hx => ?_, ih.2⟩
      rcases List.mem_cons.mp hx with e | e
      · rw [e, h.1, fl_t c]
      · exact ih.1 x e
    · rw [if_neg c, if_neg c]
      refine ⟨ih.1, fun x hx => ?_⟩
      rcases List.mem_cons.mp hx with e | e
      · rw [e, h.1, fl_f c]
      · exact ih.2 x e
theorem x_clear_l {d : Nat} {K : Kt} {x1 x2 x3 : Int} : ∀ (m : Nat) (M : Mm) (k : Int), k + m = 80 → 0 ≤ k → (∀ j, 0 ≤ j → j < k → M 152 j = 0) → (∀ M', (∀ j, 0 ≤ j → j < 80 → M' 152 j = 0) → (∀ c, c ≠ 152 → M' c = M c) → zWp (zSp d) 56 K 27 [some (.inr (.inr 150)), some (.inl x1), some (.inl x2), some (.inl x3), some (.inl 0)] [] M') → zWp (zSp d) 56 K 3 [some (.inr (.inr 150)), some (.inl x1), some (.inl x2), some (.inl x3), some (.inl k)] [] M
  | 0, M, k, hk, h0, hz, hK => by
    rw [fe_56_3]
    (repeat (first | (with_reducible refine zC_i ?hob ?_; case hob => first | assumption | decide | exact zr (by omega) (by omega) | exact zs (by omega) (by omega) | exact zd (by omega) (by omega)) | (with_reducible refine zIfT ?hob ?_; case hob => first | assumption | omega | decide) | (with_reducible refine zIfF ?hob ?_; case hob => first | assumption | omega | decide)))
    exact hK M (fun j c1 c2 => hz j c1 (by omega)) (fun _ _ => rfl)
  | m + 1, M, k, hk, h0, hz, hK => by
    rw [fe_56_3]
    (repeat (first | (with_reducible refine zC_i ?hob ?_; case hob => first | assumption | decide | exact zr (by omega) (by omega) | exact zs (by omega) (by omega) | exact zd (by omega) (by omega)) | (with_reducible refine zIfT ?hob ?_; case hob => first | assumption | omega | decide) | (with_reducible refine zIfF ?hob ?_; case hob => first | assumption | omega | decide)))
    refine x_clear_l m _ (k + 1) (by omega) (by omega) (fun j c1 c2 => ?_) (fun M' g1 g2 => hK M' g1 (fun c hc => by rw [g2 c hc, zUp_away hc]))
    rw [zUp_hit]
    by_cases c : j = k
    · rw [if_pos c]
    · rw [if_neg c, hz j c1 (by omega)]
theorem x_mark_l {d : Nat} {K : Kt} {fr to w n : Int} (hfr : zR32 fr = true) (hto : zR32 to = true) (hw : w = 0 ∨ w = 1) (hn : n ≤ 80) : ∀ (R : List Int) (M : Mm) (i : Int), i + R.length = n → 0 ≤ i → M 150 6 = n → rLs M 151 R i → (∀ x ∈ R, 0 ≤ x ∧ x < 80) → rInc R →
    (∀ M', rCg M' fr to w R i → (∀ x, x ∉ R → M' 152 x = M 152 x) → (∀ c, c ≠ 152 → M' c = M c) → K 0 M') → zWp (zSp d) 56 K 27 [some (.inr (.inr 150)), some (.inl fr), some (.inl to), some (.inl w), some (.inl i)] [] M
  | [], M, i, hi, h0, hM, hr, hb, hinc, hK => by
    have hi : i + 0 = n := hi
    rw [fe_56_27, hM]
    (repeat (first | (with_reducible refine zC_i ?hob ?_; case hob => first | assumption | decide | exact zr (by omega) (by omega) | exact zs (by omega) (by omega) | exact zd (by omega) (by omega)) | (with_reducible refine zIfT ?hob ?_; case hob => first | assumption | omega | decide) | (with_reducible refine zIfF ?hob ?_; case hob => first | assumption | omega | decide)))
    exact hK M trivial (fun _ _ => rfl) (fun _ _ => rfl)
  | x :: R, M, i, hi, h0, hM, hr, hb, hinc, hK => by
    have hi : i + ((R.length + 1 : Nat) : Int) = n := hi
    have hx := hb x List.mem_cons_self
    have nx : ∀ v, v = fl (fl (fr ≤ i ∧ i < to) = w) → zWp (zSp d) 56 K 27 [some (.inr (.inr 150)), some (.inl fr), some (.inl to), some (.inl w), some (.inl (i + 1))] [] (zUp M 152 x v) := by
      intro v hv
      refine x_mark_l hfr hto hw hn R _ (i + 1) (by omega) (by omega) (by rw [zUp_away (by decide)]; exact hM) (rLs_fr R (i + 1) hr.2 (fun j _ _ => by rw [zUp_away (by decide)])) (fun y hy => hb y (List.mem_cons_of_mem _ hy)) hinc.2 ?_
      intro M' f1 f2 f3
      have xn : x ∉ R := fun h => by have := hinc.1 x h; omega
      refine hK M' ⟨by rw [f2 x xn, zUp_here]; exact hv, f1⟩ (fun y hy => ?_) (fun c hc => by rw [f3 c hc, zUp_away hc])
      have h1 : y ≠ x := fun e => hy (by rw [e]; exact List.mem_cons_self)
      have h2 : y ∉ R := fun e => hy (List.mem_cons_of_mem _ e)
      rw [f2 y h2, zUp_there h1]
    have h64 : ∀ y2, y2 = fl (fr ≤ i ∧ i < to) → zWp (zSp d) 56 K 64 [some (.inr (.inr 150)), some (.inl fr), some (.inl to), some (.inl w), some (.inl i)] [.inl y2, .inl x, .inr (.inr 152)] M := by
      intro y2 hy
      have yb : y2 = 0 ∨ y2 = 1 := by rw [hy]; exact fl_b
      rw [fe_56_64]
      (repeat (first | (with_reducible refine zC_i ?hob ?_; case hob => first | assumption | decide | exact zr (by omega) (by omega) | exact zs (by omega) (by omega) | exact zd (by omega) (by omega)) | (with_reducible refine zIfT ?hob ?_; case hob => first | assumption | omega | decide) | (with_reducible refine zIfF ?hob ?_; case hob => first | assumption | omega | decide)))
      refine ⟨fun c => ?_, fun c => ?_⟩
      · (repeat (first | (with_reducible refine zC_i ?hob ?_; case hob => first | assumption | decide | exact zr (by omega) (by omega) | exact zs (by omega) (by omega) | exact zd (by omega) (by omega)) | (with_reducible refine zIfT ?hob ?_; case hob => first | assumption | omega | decide) | (with_reducible refine zIfF ?hob ?_; case hob => first | assumption | omega | decide)))
        exact nx 0 (by rw [← hy, fl_f c])
      · (repeat (first | (with_reducible refine zC_i ?hob ?_; case hob => first | assumption | decide | exact zr (by omega) (by omega) | exact zs (by omega) (by omega) | exact zd (by omega) (by omega)) | (with_reducible refine zIfT ?hob ?_; case hob => first | assumption | omega | decide) | (with_reducible refine zIfF ?hob ?_; case hob => first | assumption | omega | decide)))
        exact nx 1 (by rw [← hy, fl_t (by omega)])
    rw [fe_56_27, hM, hr.1]
    (repeat (first | (with_reducible refine zC_i ?hob ?_; case hob => first | assumption | decide | exact zr (by omega) (by omega) | exact zs (by omega) (by omega) | exact zd (by omega) (by omega)) | (with_reducible refine zIfT ?hob ?_; case hob => first | assumption | omega | decide) | (with_reducible refine zIfF ?hob ?_; case hob => first | assumption | omega | decide)))
    refine ⟨fun c => ?_, fun c => ?_⟩
    · rw [fe_56_63]
      exact h64 0 (fl_f (by omega)).symm
    · (repeat (first | (with_reducible refine zC_i ?hob ?_; case hob => first | assumption | decide | exact zr (by omega) (by omega) | exact zs (by omega) (by omega) | exact zd (by omega) (by omega)) | (with_reducible refine zIfT ?hob ?_; case hob => first | assumption | omega | decide) | (with_reducible refine zIfF ?hob ?_; case hob => first | assumption | omega | decide)))
      refine ⟨fun c2 => ?_, fun c2 => ?_⟩
      · rw [fe_56_63]
        exact h64 0 (fl_f (by omega)).symm
      · exact h64 1 (fl_t (by omega)).symm
theorem x_keep_l {d : Nat} {K : Kt} {fr to w n : Int} {g : Int → Int} (hn : n ≤ 80) : ∀ (R : List Int) (M : Mm) (i j : Int), i + R.length = n → 0 ≤ j → j ≤ i → M 150 6 = n → rLs M 151 R i → (∀ x ∈ R, 0 ≤ x ∧ x < 80) → rCg M fr to w R i → (∀ x ∈ rNot fr to w R i, M 153 x = g x) →
    (∀ M', M' 150 6 = j + (rNot fr to w R i).length → (∀ p, p ≠ 6 → M' 150 p = M 150 p) → rLs M' 151 ((rNot fr to w R i).map g) j → (∀ p, p < j → M' 151 p = M 151 p) → (∀ c, c ≠ 150 → c ≠ 151 → M' c = M c) → K 0 M') → zWp (zSp d) 57 K 4 [some (.inr (.inr 150)), some (.inl j), some (.inl i)] [] M
  | [], M, i, j, hi, h0, hji, hM, hr, hb, hc, hg, hK => by
    have hi : i + 0 = n := hi
    rw [fe_57_4, hM]
    (repeat (first | (with_reducible refine zC_i ?hob ?_; case hob => first | assumption | decide | exact zr (by omega) (by omega) | exact zs (by omega) (by omega) | exact zd (by omega) (by omega)) | (with_reducible refine zIfT ?hob ?_; case hob => first | assumption | omega | decide) | (with_reducible refine zIfF ?hob ?_; case hob => first | assumption | omega | decide)))
    exact hK _ (by rw [zUp_here]; show j = j + 0; omega) (fun p hp => zUp_there hp) trivial (fun p _ => by rw [zUp_away (by decide)]) (fun c c1 c2 => zUp_away c1)
  | x :: R, M, i, j, hi, h0, hji, hM, hr, hb, hc, hg, hK => by
    have hi : i + ((R.length + 1 : Nat) : Int) = n := hi
    have hx := hb x List.mem_cons_self
    have hcx := hc.1
    have fb := @fl_b (fl (fr ≤ i ∧ i < to) = w) _
    rw [fe_57_4, hM, hr.1]
    by_cases c : fl (fr ≤ i ∧ i < to) = w
    · have e : rNot fr to w (x :: R) i = rNot fr to w R (i + 1) := if_pos c
      rw [e] at hK hg
      rw [hcx, fl_t c]
      (repeat (first | (with_reducible refine zC_i ?hob ?_; case hob => first | assumption | decide | exact zr (by omega) (by omega) | exact zs (by omega) (by omega) | exact zd (by omega) (by omega)) | (with_reducible refine zIfT ?hob ?_; case hob => first | assumption | omega | decide) | (with_reducible refine zIfF ?hob ?_; case hob => first | assumption | omega | decide)))
      exact x_keep_l hn R M (i + 1) j (by omega) h0 (by omega) hM hr.2 (fun y hy => hb y (List.mem_cons_of_mem _ hy)) hc.2 hg hK
    · have e : rNot fr to w (x :: R) i = x :: rNot fr to w R (i + 1) := if_neg c
      rw [e] at hK hg
      rw [hcx, fl_f c, hg x List.mem_cons_self]
      (repeat (first | (with_reducible refine zC_i ?hob ?_; case hob => first | assumption | decide | exact zr (by omega) (by omega) | exact zs (by omega) (by omega) | exact zd (by omega) (by omega)) | (with_reducible refine zIfT ?hob ?_; case hob => first | assumption | omega | decide) | (with_reducible refine zIfF ?hob ?_; case hob => first | assumption | omega | decide)))
      have hcR : rCg (zUp M 151 j (g x)) fr to w R (i + 1) := by
        have gen : ∀ (L : List Int) (i : Int), rCg M fr to w L i → rCg (zUp M 151 j (g x)) fr to w L i := by
          intro L
          induction L with
          | nil => exact fun _ _ => trivial
          | cons a L ih => exact fun i h => ⟨by rw [zUp_away (by decide)]; exact h.1, ih _ h.2⟩
        exact gen R _ hc.2
      refine x_keep_l (g := g) hn R _ (i + 1) (j + 1) (by omega) (by omega) (by omega) (by rw [zUp_away (by decide)]; exact hM) (rLs_fr R (i + 1) hr.2 (fun p c1 c2 => zUp_there (by omega))) (fun y hy => hb y (List.mem_cons_of_mem _ hy)) hcR (fun y hy => by rw [zUp_away (by decide)]; exact hg y (List.mem_cons_of_mem _ hy)) ?_
      intro M' f1 f2 f3 f4 f5
      refine hK M' (by rw [f1, List.length_cons]; omega) (fun p hp => by rw [f2 p hp, zUp_away (by decide)]) ⟨by rw [f4 j (by omega), zUp_here], f3⟩ (fun p hp => by rw [f4 p (by omega), zUp_there (by omega)]) (fun c c1 c2 => by rw [f5 c c1 c2, zUp_away c2])
theorem xRS_fr {G M M' : Mm} {B : List Bg} {vs bug : Int} {S : Rs} (h : xRS G B vs bug M S) (f : ∀ c, (c ≤ 45 ∨ (138 ≤ c ∧ c ≤ 147)) → M' c = M c) (f3 : M' 150 3 = M 150 3) (f4 : M' 150 4 = M 150 4) : xRS G B vs bug M' S := by
  obtain ⟨h1, h2, h3, h4, h5, h6, h7⟩ := h
  exact ⟨xG_fr h1 fun c c1 c2 => f c (by omega), xBg_fr h2 fun c c1 c2 => f c (by omega), xTr_fr h3 fun c c1 c2 => f c (by omega), xJ_fr h4 fun c c1 c2 => f c (by omega), by rw [f 147 (by omega)]; exact h5, by rw [f3]; exact h6, by rw [f4]; exact h7⟩
/-- one part of a row, in the class -/
theorem x_rowStep {d : Nat} {M G : Mm} {K : Kt} {B : List Bg} {vs bug fr to w why lev : Int} {S : Rs} {R : List Int} (hg : gOk G) (hB : bCx (G 4 0) B) (hvs : 0 ≤ vs ∧ vs ≤ 9) (hb : 0 ≤ bug ∧ bug < 6) (h : xRS G B vs bug M S) (ho : rsOk G B S) (hR : rOk G S.1 lev R) (hrw : xRw M R) (hfr : zR32 fr = true) (hto : zR32 to = true) (hw : w = 0 ∨ w = 1)
    (hK0 : ∀ M', xRS G B vs bug M' (rTk B vs bug S (bT G (rMk G S.1 (rSel fr to w R 0)) (tSub S.1 0) S.1) why lev).2 → xRw M' R → xFr M M' → (rTk B vs bug S (bT G (rMk G S.1 (rSel fr to w R 0)) (tSub S.1 0) S.1) why lev).1 = 0 → K 0 M')
    (hK1 : ∀ M', xRS G B vs bug M' (rTk B vs bug S (bT G (rMk G S.1 (rSel fr to w R 0)) (tSub S.1 0) S.1) why lev).2 → rLs M' 151 R 0 → M' 150 6 = R.length → rCg M' fr to w R 0 → (∀ x ∈ rNot fr to w R 0, M' 153 x = bPos G (rMk G S.1 (rSel fr to w R 0)) (tSub S.1 0) S.1 0 x) → xFr M M' → (rTk B vs bug S (bT G (rMk G S.1 (rSel fr to w R 0)) (tSub S.1 0) S.1) why lev).1 = 1 → K 1 M') :
    zSp (d + 6) 56 [.inr (.inr 150), .inl fr, .inl to, .inl w] M (fun _ M3 => zSp (d + 6) 91 [.inr (.inr 46), .inr (.inr 38), .inr (.inr 152), .inr (.inr 153)] M3 (fun _ M4 => zSp (d + 6) 52 [.inr (.inr 150), .inl why, .inl lev] M4 K)) := by
  have hz := ho.1
  have hS := rSel_sub (fr := fr) (to := to) (w := w) R 0
  have hN := rNot_sub (fr := fr) (to := to) (w := w) R 0
  have hD := rDisj (fr := fr) (to := to) (w := w) R 0 hR.2
  obtain ⟨m1, m2, m3, m4⟩ := rMk_bMk (H := tSub S.1 0) hR hS
  have hRb : ∀ x ∈ R, 0 ≤ x ∧ x < 80 := fun x hx => by have := hR.1 x hx; omega
  obtain ⟨r1, r2, r3⟩ := hrw
  rw [me_56]
  refine x_clear_l 80 M 0 rfl (by omega) (fun j c1 c2 => by omega) ?_
  intro M1 f1 f2
  refine x_mark_l (n := R.length) hfr hto hw (by omega) R M1 0 (by omega) (by omega) (by rw [f2 150 (by decide)]; exact r1) (rLs_fr R 0 r3 (fun j _ _ => by rw [f2 151 (by decide)])) hRb hR.2 ?_
  intro M2 g1 g2 g3
  have fall : ∀ c, c ≠ 152 → M2 c = M c := fun c hc => by rw [g3 c hc, f2 c hc]
  have h2 : xRS G B vs bug M2 S := xRS_fr h (fun c hc => fall c (by omega)) (by rw [fall 150 (by decide)]) (by rw [fall 150 (by decide)])
  have cg := rCg_s R 0 g1
  have hch : bCh G M2 S.1 (rMk G S.1 (rSel fr to w R 0)) := by
    intro k k0 k1
    by_cases cs : k ∈ rSel fr to w R 0
    · rw [cg.1 k cs, rMk_in cs]
      exact ⟨.inr rfl, fun q => absurd q (by decide), fun _ => rfl⟩
    · have e0 : M2 152 k = 0 := by
        by_cases cr : k ∈ R
        · have : k ∈ rNot fr to w R 0 := by
            have part : ∀ (L : List Int) (i : Int), k ∈ L → k ∈ rSel fr to w L i ∨ k ∈ rNot fr to w L i := by
              intro L
              induction L with
              | nil => exact fun _ h => absurd h (by simp)
              | cons a L ih =>
                intro i h
                unfold rSel rNot
                by_cases c : fl (fr ≤ i ∧ i < to) = w
                · rw [if_pos c, if_pos c]
                  rcases List.mem_cons.mp h with e | e
                  · exact .inl (by rw [e]; exact List.mem_cons_self)
                  · rcases ih (i + 1) e with q | q
                    · exact .inl (List.mem_cons_of_mem _ q)
                    · exact .inr q
                · rw [if_neg c, if_neg c]
                  rcases List.mem_cons.mp h with e | e
                  · exact .inr (by rw [e]; exact List.mem_cons_self)
                  · rcases ih (i + 1) e with q | q
                    · exact .inl q
                    · exact .inr (List.mem_cons_of_mem _ q)
            rcases part R 0 cr with q | q
            · exact absurd q cs
            · exact q
          exact cg.2 k this
        · rw [g2 k cr, f1 k k0 (by omega)]
      rw [e0, rMk_out cs]
      exact ⟨.inl rfl, fun _ => rfl, fun q => absurd q (by decide)⟩
  have h00 : M2 152 0 = 0 := by
    have := hch 0 (by omega) (by have := tSz_pos S.1; omega)
    rcases this.1 with q | q
    · exact q
    · have e := this.2.2 q
      rw [m3] at e
      split at e <;> omega
  refine x_becomeChanged (d := d + 2) hg h2.1 h2.2.2.1 ho.2.1 hch h00 m2 ?_
  intro M3 k1 k2 k3
  have fall3 : ∀ c, (c < 46 ∨ 54 ≤ c) → c ≠ 152 → c ≠ 153 → M3 c = M c := fun c c1 c2 c3 => by rw [k2 c c1 c3, fall c c2]
  have h3 : xRS G B vs bug M3 S := xRS_fr h (fun c hc => fall3 c (by omega) (by omega) (by omega)) (by rw [fall3 150 (by omega) (by decide) (by decide)]) (by rw [fall3 150 (by omega) (by decide) (by decide)])
  refine x_isTaken (d := d + 1) hB hvs hb h3 ho k1 (bT_val hg ho.2.1 (tVal_sub _ _ ho.2.1)) ?_
  intro M4 p1 p2 p3 p4 p5
  have fr4 : xFr M M4 := fun c hc => by rw [p2 c hc, fall3 c (by omega) (by omega) (by omega)]
  have len4 : M4 150 6 = R.length := by rw [p4, fall3 150 (by omega) (by decide) (by decide)]; exact r1
  have ls4 : rLs M4 151 R 0 := rLs_fr R 0 r3 (fun j _ _ => by rw [p3 151 (by omega) (by omega), fall3 151 (by omega) (by decide) (by decide)])
  rcases p5 with q | q
  · rw [q]
    exact hK0 M4 p1 ⟨len4, r2, ls4⟩ fr4 q
  · rw [q]
    refine hK1 M4 p1 ls4 len4 ?_ ?_ fr4 q
    · have gen : ∀ (L : List Int) (i : Int), rCg M2 fr to w L i → rCg M4 fr to w L i := by
        intro L
        induction L with
        | nil => exact fun _ _ => trivial
        | cons a L ih => exact fun i h => ⟨by rw [p3 152 (by omega) (by omega), k2 152 (by omega) (by decide)]; exact h.1, ih _ h.2⟩
      exact gen R 0 g1
    · intro x hx
      have hr := hR.1 x (hN x hx)
      have pb := tPl_b (t := S.1) (k := x) (by omega) hr.2.1
      rw [p3 153 (by omega) (by omega)]
      refine k3 x (by omega) hr.2.1 (rMk_out (hD x hx)) ?_
      exact bVis_lev (fun k _ _ hk => (m4 k hk).2) S.1 0 0 (by omega) (by omega) (tAll_put fun _ _ _ => rfl) x (by omega) (by omega) (by have := hr.2.2.1; omega) (.inr (by
        have := (pb.2.2.1 hr.1).2.2
        omega))
