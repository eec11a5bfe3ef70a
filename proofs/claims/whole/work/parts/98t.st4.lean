/-! LAYER 3: step 4, the bugs -/
theorem x_copyBg {d : Nat} {K : Kt} {M : Mm} {k : Int} (hk : M 31 3 = k) (h0 : 0 ≤ k ∧ k ≤ 333) (hK : ∀ M', (∀ c, (c < 24 ∨ 30 < c) → M' c = M c) → M' 24 0 = M 31 0 → M' 24 3 = k → (∀ i, 0 ≤ i → i < 6 → M' 25 i = M 32 i ∧ M' 26 i = M 33 i) → (∀ i, 0 ≤ i → i < k → M' 27 i = M 34 i ∧ M' 28 i = M 35 i ∧ M' 29 i = M 36 i ∧ M' 30 i = M 37 i) → K 0 M') : zSp (d + 1) 1 [.inr (.inr 24), .inr (.inr 31)] M K := by
  have c1 : ∀ (N : Mm) (s : Nat) (n : Int), zCpy N s 0 (24 + 1) 0 n 24 = N 24 := fun N s n => zCpy_ne 24 (by decide)
  have c2 : ∀ (N : Mm) (s : Nat) (n : Int), zCpy N s 0 (24 + 2) 0 n 24 = N 24 := fun N s n => zCpy_ne 24 (by decide)
  have c3 : ∀ (N : Mm) (s : Nat) (n : Int), zCpy N s 0 (24 + 3) 0 n 24 = N 24 := fun N s n => zCpy_ne 24 (by decide)
  have c4 : ∀ (N : Mm) (s : Nat) (n : Int), zCpy N s 0 (24 + 4) 0 n 24 = N 24 := fun N s n => zCpy_ne 24 (by decide)
  have c5 : ∀ (N : Mm) (s : Nat) (n : Int), zCpy N s 0 (24 + 5) 0 n 24 = N 24 := fun N s n => zCpy_ne 24 (by decide)
  rw [me_1]
  simp only [zUp_away (show (31 : Nat) ≠ 24 by decide), hk, c1, c2, c3, c4, c5, zUp_here]
  have co : zCo 0 0 k 333 333 = true := by
    unfold zCo
    simp only [Bool.and_eq_true, decide_eq_true_eq]
    omega
  iterate 44 (first | refine zC_i rfl ?_ | refine zC_i co ?_)
  refine hK _ (fun c hc => ?_) ?_ ?_ (fun i i0 i1 => ⟨?_, ?_⟩) (fun i i0 i1 => ⟨?_, ?_, ?_, ?_⟩)
  · rw [zCpy_ne c (by omega), zCpy_ne c (by omega), zCpy_ne c (by omega), zCpy_ne c (by omega), zCpy_ne c (by omega), zCpy_ne c (by omega), zUp_away (by omega), zUp_away (by omega)]
  · rw [zCpy_ne 24 (by decide), zCpy_ne 24 (by decide), zCpy_ne 24 (by decide), zCpy_ne 24 (by decide), zCpy_ne 24 (by decide), zCpy_ne 24 (by decide), zUp_there (by decide), zUp_here]
  · rw [zCpy_ne 24 (by decide), zCpy_ne 24 (by decide), zCpy_ne 24 (by decide), zCpy_ne 24 (by decide), zCpy_ne 24 (by decide), zCpy_ne 24 (by decide), zUp_here]
  · rw [zCpy_ne 25 (by decide), zCpy_ne 25 (by decide), zCpy_ne 25 (by decide), zCpy_ne 25 (by decide), zCpy_ne 25 (by decide), show (25 : Nat) = 24 + 1 from rfl, zCpy_in i0 i1, zUp_away (by decide), zUp_away (by decide)]
  · rw [zCpy_ne 26 (by decide), zCpy_ne 26 (by decide), zCpy_ne 26 (by decide), zCpy_ne 26 (by decide), show (26 : Nat) = 24 + 2 from rfl, zCpy_in i0 i1, zCpy_ne (31 + 2) (by decide), zUp_away (by decide), zUp_away (by decide)]
  · rw [zCpy_ne 27 (by decide), zCpy_ne 27 (by decide), zCpy_ne 27 (by decide), show (27 : Nat) = 24 + 3 from rfl, zCpy_in i0 i1, zCpy_ne (31 + 3) (by decide), zCpy_ne (31 + 3) (by decide), zUp_away (by decide), zUp_away (by decide)]
  · rw [zCpy_ne 28 (by decide), zCpy_ne 28 (by decide), show (28 : Nat) = 24 + 4 from rfl, zCpy_in i0 i1, zCpy_ne (31 + 4) (by decide), zCpy_ne (31 + 4) (by decide), zCpy_ne (31 + 4) (by decide), zUp_away (by decide), zUp_away (by decide)]
  · rw [zCpy_ne 29 (by decide), show (29 : Nat) = 24 + 5 from rfl, zCpy_in i0 i1, zCpy_ne (31 + 5) (by decide), zCpy_ne (31 + 5) (by decide), zCpy_ne (31 + 5) (by decide), zCpy_ne (31 + 5) (by decide), zUp_away (by decide), zUp_away (by decide)]
  · rw [show (30 : Nat) = 24 + 6 from rfl, zCpy_in i0 i1, zCpy_ne (31 + 6) (by decide), zCpy_ne (31 + 6) (by decide), zCpy_ne (31 + 6) (by decide), zCpy_ne (31 + 6) (by decide), zCpy_ne (31 + 6) (by decide), zUp_away (by decide), zUp_away (by decide)]
theorem xCd_mv {M M' : Mm} {b b' : Nat} : ∀ (O : List St5) (c : Int), (∀ (k : Nat) (i : Int), 3 ≤ k → k ≤ 6 → c ≤ i → i < c + O.length → M' (b' + k) i = M (b + k) i) → xCd M b O c → xCd M' b' O c
  | [], _, _, _ => trivial
  | s :: O, c, f, ⟨a1, a2⟩ => by
    have e : ((s :: O).length : Int) = O.length + 1 := by show ((O.length + 1 : Nat) : Int) = _; omega
    refine ⟨?_, xCd_mv O (c + 1) (fun k i k1 k2 i1 i2 => f k i k1 k2 (by omega) (by omega)) a2⟩
    unfold xStp at a1 ⊢
    rw [f 3 c (by decide) (by decide) (by omega) (by omega), f 4 c (by decide) (by decide) (by omega) (by omega), f 5 c (by decide) (by decide) (by omega) (by omega), f 6 c (by decide) (by decide) (by omega) (by omega)]
    exact a1
theorem xBq_mv {M M' : Mm} {b b' : Nat} : ∀ (B : List Bg) (i c : Int), (∀ j, i ≤ j → j < i + B.length → M' (b' + 1) j = M (b + 1) j ∧ M' (b' + 2) j = M (b + 2) j) → (∀ (k : Nat) (j : Int), 3 ≤ k → k ≤ 6 → c ≤ j → j < c + bLen B → M' (b' + k) j = M (b + k) j) → xBq M b B i c → xBq M' b' B i c
  | [], _, _, _, _, _ => trivial
  | (nm, od, cd) :: B, i, c, f1, f2, ⟨a1, a2, a3, a4, a5⟩ => by
    have e : (((nm, od, cd) :: B : List Bg).length : Int) = B.length + 1 := by show ((B.length + 1 : Nat) : Int) = _; omega
    have eb : bLen ((nm, od, cd) :: B) = cd.length + 1 + bLen B := rfl
    have nb := bLen_nn B
    have x := f1 i (by omega) (by omega)
    exact ⟨by rw [x.1]; exact a1, by rw [x.2]; exact a2, xCd_mv cd c (fun k j k1 k2 j1 j2 => f2 k j k1 k2 j1 (by omega)) a3, by rw [f2 3 _ (by decide) (by decide) (by omega) (by omega)]; exact a4, xBq_mv B (i + 1) (c + cd.length + 1) (fun j j1 j2 => f1 j (by omega) (by omega)) (fun k j k1 k2 j1 j2 => f2 k j k1 k2 (by omega) (by omega)) a5⟩
theorem m_cp136 {d : Nat} {K : Kt} {x1 k : Int} (h0 : 0 ≤ k ∧ k ≤ 400) : ∀ (m : Nat) (x : Int) (M : Mm), 0 ≤ x → x + m = 5 * k → M 154 38 = k → (∀ M', (∀ c, c ≠ 168 → M' c = M c) → (∀ j, M' 168 j = if x ≤ j ∧ j < 5 * k then M 169 j else M 168 j) → zWp (zSp d) 193 K 166 [some (.inr (.inr 154)), some (.inl x1), some (.inl 0)] [] M') → zWp (zSp d) 193 K 136 [some (.inr (.inr 154)), some (.inl x1), some (.inl x)] [] M
  | 0, x, M, hx, hm, hk, hK => by
    rw [fe_193_136, hk]
    exact zC_i (zr (by omega) (by omega)) (zC_i (zr (by omega) (by omega)) ⟨fun _ => hK M (fun _ _ => rfl) (fun j => by rw [if_neg (by omega)]), fun c => absurd (by omega) c⟩)
  | m + 1, x, M, hx, hm, hk, hK => by
    rw [fe_193_136, hk]
    have sm : zSm x 2000 = true := zs hx (by omega)
    refine zC_i (zr (by omega) (by omega)) (zC_i (zr (by omega) (by omega)) ⟨fun c => absurd c (by omega), fun _ => zC_i sm (zC_i sm ?_)⟩)
    refine m_cp136 h0 m (x + 1) _ (by omega) (by omega) (by rw [zUp_away (by decide)]; exact hk) ?_
    intro M' f1 f2
    refine hK M' (fun c a => by rw [f1 c a, zUp_away a]) (fun j => ?_)
    rw [f2 j, zUp_away (show (169 : Nat) ≠ 168 by decide)]
    by_cases e : j = x
    · rw [if_neg (by omega), if_pos (by omega), e, zUp_here]
    · rw [zUp_there e]
      by_cases e2 : x + 1 ≤ j ∧ j < 5 * k
      · rw [if_pos e2, if_pos (by omega)]
      · rw [if_neg e2, if_neg (by omega)]
theorem m_cp166 {d : Nat} {K : Kt} {x1 : Int} (h0 : 0 ≤ x1 ∧ x1 ≤ 6) : ∀ (m : Nat) (x : Int) (M : Mm), 0 ≤ x → x + m = x1 + 1 → (∀ M', (∀ c, c ≠ 170 → M' c = M c) → (∀ j, M' 170 j = if x ≤ j ∧ j ≤ x1 then M 171 j else M 170 j) → zWp (zSp d) 193 K 191 [some (.inr (.inr 154)), some (.inl x1), some (.inl 0)] [] M') → zWp (zSp d) 193 K 166 [some (.inr (.inr 154)), some (.inl x1), some (.inl x)] [] M
  | 0, x, M, hx, hm, hK => by
    rw [fe_193_166]
    exact zC_i (zr (by omega) (by omega)) (zC_i (zr (by omega) (by omega)) ⟨fun _ => hK M (fun _ _ => rfl) (fun j => by rw [if_neg (by omega)]), fun c => absurd (by omega) c⟩)
  | m + 1, x, M, hx, hm, hK => by
    rw [fe_193_166]
    have sm : zSm x 7 = true := zs hx (by omega)
    refine zC_i (zr (by omega) (by omega)) (zC_i (zr (by omega) (by omega)) ⟨fun c => absurd c (by omega), fun _ => zC_i sm (zC_i sm ?_)⟩)
    refine m_cp166 h0 m (x + 1) _ (by omega) (by omega) ?_
    intro M' f1 f2
    refine hK M' (fun c a => by rw [f1 c a, zUp_away a]) (fun j => ?_)
    rw [f2 j, zUp_away (show (171 : Nat) ≠ 170 by decide)]
    by_cases e : j = x
    · rw [if_neg (by omega), if_pos (by omega), e, zUp_here]
    · rw [zUp_there e]
      by_cases e2 : x + 1 ≤ j ∧ j ≤ x1
      · rw [if_pos e2, if_pos (by omega)]
      · rw [if_neg e2, if_neg (by omega)]
theorem m_cp191 {d : Nat} {K : Kt} {x1 : Int} (h0 : 0 ≤ x1 ∧ x1 ≤ 6) : ∀ (m : Nat) (x : Int) (M : Mm), 0 ≤ x → x + m = x1 → (∀ M', (∀ c, c ≠ 172 → c ≠ 174 → M' c = M c) → (∀ j, M' 172 j = if x ≤ j ∧ j < x1 then M 173 j else M 172 j) → (∀ j, M' 174 j = if x ≤ j ∧ j < x1 then M 175 j else M 174 j) → K x1 (zUp (zUp M' 154 37 x1) 154 57 0)) → zWp (zSp (d + 1)) 193 K 191 [some (.inr (.inr 154)), some (.inl x1), some (.inl x)] [] M
  | 0, x, M, hx, hm, hK => by
    rw [fe_193_191]
    refine zC_i (zr (by omega) (by omega)) (zC_i (zr (by omega) (by omega)) ⟨fun _ => ?_, fun c => absurd (by omega) c⟩)
    rw [me_209]
    exact hK M (fun _ _ _ => rfl) (fun j => by rw [if_neg (by omega)]) (fun j => by rw [if_neg (by omega)])
  | m + 1, x, M, hx, hm, hK => by
    rw [fe_193_191]
    have sm : zSm x 6 = true := zs hx (by omega)
    refine zC_i (zr (by omega) (by omega)) (zC_i (zr (by omega) (by omega)) ⟨fun c => absurd c (by omega), fun _ => zC_i sm (zC_i sm (zC_i sm (zC_i sm ?_)))⟩)
    refine m_cp191 h0 m (x + 1) _ (by omega) (by omega) ?_
    intro M' f1 f2 f3
    refine hK M' (fun c a b => by rw [f1 c a b, zUp_away b, zUp_away a]) (fun j => ?_) (fun j => ?_)
    · rw [f2 j, zUp_away (show (173 : Nat) ≠ 174 by decide), zUp_away (show (173 : Nat) ≠ 172 by decide), zUp_away (show (172 : Nat) ≠ 174 by decide)]
      by_cases e : j = x
      · rw [if_neg (by omega), if_pos (by omega), e, zUp_here]
      · rw [zUp_there e]
        by_cases e2 : x + 1 ≤ j ∧ j < x1
        · rw [if_pos e2, if_pos (by omega)]
        · rw [if_neg e2, if_neg (by omega)]
    · rw [f3 j, zUp_away (show (175 : Nat) ≠ 174 by decide), zUp_away (show (175 : Nat) ≠ 172 by decide)]
      by_cases e : j = x
      · rw [if_neg (by omega), if_pos (by omega), e, zUp_here]
      · rw [zUp_there e, zUp_away (show (174 : Nat) ≠ 172 by decide)]
        by_cases e2 : x + 1 ≤ j ∧ j < x1
        · rw [if_pos e2, if_pos (by omega)]
        · rw [if_neg e2, if_neg (by omega)]
def nKb (M M' : Mm) : Prop := (∀ c, c < 154 → M' c = M c) ∧ (∀ c, (c = 155 ∨ c = 156 ∨ c = 157 ∨ c = 158 ∨ c = 162 ∨ c = 163 ∨ c = 165 ∨ (181 ≤ c ∧ c ≤ 185)) → M' c = M c) ∧ (∀ j, (13 < j ∧ j ≠ 37 ∧ j ≠ 38 ∧ j ≠ 40 ∧ j ≠ 41 ∧ j ≠ 57) → M' 154 j = M 154 j) ∧ M' 154 2 = 0
def nKc (M M' : Mm) : Prop := (∀ c, (c = 168 ∨ c = 170 ∨ c = 172 ∨ c = 174) → M' c = M c) ∧ M' 154 37 = M 154 37 ∧ M' 154 57 = M 154 57
/-- the reference reads the bugs -/
theorem m_bugs193 {d : Nat} {T : Int → Int} {n : Int} {G M : Mm} {K : Kt} (hT : tpOk T n) (hg : gLn G) (hx : mG G M) (h2 : M 154 2 = n) (h155 : ∀ i, 0 ≤ i → i < n → M 155 i = T i) (h4 : G 4 0 ≠ 0)
    (hl6 : (gBu T n G 7 [] 0 false).1 = 0 → ((gBu T n G 7 [] 0 false).2.2.length : Int) ≤ 6 ∧ 3 * bLen (gBu T n G 7 [] 0 false).2.2 ≤ n)
    (hK0 : ∀ M', 1 ≤ (gBu T n G 7 [] 0 false).1 ∧ (gBu T n G 7 [] 0 false).1 ≤ 5 → M' 154 8 = (gBu T n G 7 [] 0 false).1 → M' 154 9 = (gBu T n G 7 [] 0 false).2.1 → nKb M M' → nKc M M' → K (-1) M')
    (hK1 : ∀ M', (gBu T n G 7 [] 0 false).1 = 0 → mBg M' (gBu T n G 7 [] 0 false).2.2 → M' 154 57 = 0 → M' 154 8 = 0 → M' 154 9 = -1 → nKb M M' → K ((gBu T n G 7 [] 0 false).2.2.length : Int) M') : zSp (d + 11) 193 [.inr (.inr 154)] M K := by
  have hn := hT.1
  have c0 := hg.1
  rw [me_193, hx.1]
  refine zC_i (zr (by omega) (by omega)) ⟨fun _ => ?_, fun z => absurd h4 z⟩
  rw [me_142]
  have h20 : (zUp M 154 0 0) 154 2 = n := by rw [zUp_there (by decide)]; exact h2
  rw [h20]
  have y : ∀ j, (zUp (zUp (zUp (zUp (zUp (zUp (zUp (zUp M 154 0 0) 154 3 n) 154 2 0) 154 4 0) 154 5 (-1)) 154 6 0) 154 7 (-1)) 154 38 0) 154 j = if j = 38 then 0 else if j = 7 then -1 else if j = 6 then 0 else if j = 5 then -1 else if j = 4 then 0 else if j = 2 then 0 else if j = 3 then n else if j = 0 then 0 else M 154 j := fun j => by
    rw [zUp_hit, zUp_hit, zUp_hit, zUp_hit, zUp_hit, zUp_hit, zUp_hit, zUp_hit]
  have yc : ∀ c, c ≠ 154 → (zUp (zUp (zUp (zUp (zUp (zUp (zUp (zUp M 154 0 0) 154 3 n) 154 2 0) 154 4 0) 154 5 (-1)) 154 6 0) 154 7 (-1)) 154 38 0) c = M c := fun c a => by rw [zUp_away a, zUp_away a, zUp_away a, zUp_away a, zUp_away a, zUp_away a, zUp_away a, zUp_away a]
  generalize (zUp (zUp (zUp (zUp (zUp (zUp (zUp (zUp M 154 0 0) 154 3 n) 154 2 0) 154 4 0) 154 5 (-1)) 154 6 0) 154 7 (-1)) 154 38 0) = M1 at y yc ⊢
  have t0 : mTk T n 0 false M1 := ⟨⟨by rw [y]; rfl, fun i i0 i1 => by rw [yc 155 (by decide)]; exact h155 i i0 i1⟩, ⟨by omega, by omega⟩, ⟨by rw [y]; exact Int.le_refl 0, by rw [y]; show (0 : Int) ≤ n; omega, by rw [y]; rfl⟩, ⟨by rw [y]; exact Int.le_refl (-1), fun q => absurd q (by decide), fun _ => by rw [y]; show (-1 : Int) < 0; decide⟩⟩
  have x1 : mG G M1 := mG_fr hx (yc 156 (by decide)) (yc 157 (by decide)) (yc 158 (by decide)) (yc 162 (by decide)) (yc 163 (by decide))
  have fb : ∀ {M' : Mm}, mB5 M1 M' → (∀ c, c ≠ 154 → c ≠ 169 → c ≠ 171 → c ≠ 173 → c ≠ 175 → c ≠ 176 → M' c = M c) ∧ (∀ j, (13 < j ∧ j ≠ 38 ∧ j ≠ 40 ∧ j ≠ 41) → M' 154 j = M 154 j) ∧ M' 154 2 = 0 := fun q => by
    refine ⟨fun c a b e f g i => by rw [q.1 c a b e f g i, yc c a], fun j hj => ?_, by rw [q.2 2 (by omega), y]; rfl⟩
    rw [q.2 j (by omega), y, if_neg (by omega), if_neg (by omega), if_neg (by omega), if_neg (by omega), if_neg (by omega), if_neg (by omega), if_neg (by omega), if_neg (by omega)]
  refine m_bugs_l (d := d) hT hg 7 [] M1 0 false (by show ((0 : Nat) : Int) + 7 = 7; omega) (by show ((0 : Nat) : Int) ≤ 6; omega) (by show (3 : Int) * 0 ≤ 0; decide) (fun x hx => absurd hx (by simp)) ⟨by rw [y]; rfl, trivial, fun i i0 i1 => by have : i < ((0 : Nat) : Int) := i1; omega⟩ t0 (by rw [y]; rfl) x1 ?_ ?_
  · intro M2 x e fl q
    obtain ⟨q1, q2, q3⟩ := fb q
    rw [fe_193_115]
    refine m_unRead e fl.1 fl.2.1 ?_
    refine zC_i (by decide) ⟨fun z => absurd rfl z, fun _ => ?_⟩
    refine hK0 _ e (by rw [zUp_there (by decide), zUp_here]) zUp_here ⟨fun c hc => by rw [zUp_away (by omega), zUp_away (by omega), q1 c (by omega) (by omega) (by omega) (by omega) (by omega) (by omega)], fun c hc => by rw [zUp_away (by omega), zUp_away (by omega), q1 c (by omega) (by omega) (by omega) (by omega) (by omega) (by omega)], fun j hj => by rw [zUp_there (by omega), zUp_there (by omega), q2 j (by omega)], by rw [zUp_there (by decide), zUp_there (by decide)]; exact q3⟩ ⟨fun c hc => by rw [zUp_away (by omega), zUp_away (by omega), q1 c (by omega) (by omega) (by omega) (by omega) (by omega) (by omega)], by rw [zUp_there (by decide), zUp_there (by decide), q2 37 (by omega)], by rw [zUp_there (by decide), zUp_there (by decide), q2 57 (by omega)]⟩
  · intro M2 e bi b6 q
    obtain ⟨q1, q2, q3⟩ := fb q
    obtain ⟨l6, l3⟩ := hl6 e
    generalize hR : (gBu T n G 7 [] 0 false).2.2 = B at *
    obtain ⟨cb1, cb2⟩ := cLen_b B
    obtain ⟨m, hm⟩ : ∃ m : Int, m = (B.length : Int) := ⟨_, rfl⟩
    rw [← hm] at l6 hK1 ⊢
    rw [fe_193_115]
    refine m_isRead b6 (zC_i (by decide) ⟨fun _ => zC_i (zs (by omega) (by omega)) ?_, fun z => absurd (by decide) z⟩)
    have e38 : (zUp (zUp M2 154 8 0) 154 9 (-1)) 154 38 = cLen B := by rw [zUp_there (by decide), zUp_there (by decide)]; exact bi.1
    rw [e38]
    refine m_cp136 (k := cLen B) (by omega) (5 * cLen B).toNat 0 _ (by omega) (by omega) (by rw [zUp_away (by decide)]; exact e38) ?_
    intro M3 f1 f2
    refine m_cp166 (by omega) (m + 1).toNat 0 M3 (by omega) (by omega) ?_
    intro M4 g1 g2
    refine m_cp191 (by omega) m.toNat 0 M4 (by omega) (by omega) ?_
    intro M5 k1 k2 k3
    have w171 : ∀ j, M4 170 j = if 0 ≤ j ∧ j ≤ m then (if j = m then cLen B else M2 171 j) else M3 170 j := fun j => by
      rw [g2 j, f1 171 (by decide), zUp_hit, zUp_away (by decide), zUp_away (by decide)]
    have fc : ∀ c, c ≠ 154 → c ≠ 168 → c ≠ 170 → c ≠ 171 → c ≠ 172 → c ≠ 174 → (zUp (zUp M5 154 37 m) 154 57 0) c = M2 c := fun c a1 a2 a3 a4 a5 a6 => by rw [zUp_away a1, zUp_away a1, k1 c a5 a6, g1 c a3, f1 c a2, zUp_away a4, zUp_away a1, zUp_away a1]
    have fj : ∀ j, (zUp (zUp M5 154 37 m) 154 57 0) 154 j = if j = 57 then 0 else if j = 37 then m else if j = 9 then -1 else if j = 8 then 0 else M2 154 j := fun j => by
      rw [zUp_hit, zUp_hit, k1 154 (by decide) (by decide), g1 154 (by decide), f1 154 (by decide), zUp_away (by decide), zUp_hit, zUp_hit]
    refine hK1 _ e ⟨by rw [fj]; exact hm, ?_⟩ (by rw [fj]; rfl) (by rw [fj]; rfl) (by rw [fj]; rfl) ⟨fun c hc => by rw [fc c (by omega) (by omega) (by omega) (by omega) (by omega) (by omega), q1 c (by omega) (by omega) (by omega) (by omega) (by omega) (by omega)], fun c hc => by rw [fc c (by omega) (by omega) (by omega) (by omega) (by omega) (by omega), q1 c (by omega) (by omega) (by omega) (by omega) (by omega) (by omega)], fun j hj => by rw [fj, if_neg (by omega), if_neg (by omega), if_neg (by omega), if_neg (by omega), q2 j (by omega)], by rw [fj, if_neg (by decide), if_neg (by decide), if_neg (by decide), if_neg (by decide)]; exact q3⟩
    refine mBq_s B 0 0 (mBq_fr B 0 0 (fun j j1 j2 => ⟨?_, ?_, ?_⟩) (fun j j1 j2 => ?_) bi.2.1) ?_
    · show (zUp (zUp M5 154 37 m) 154 57 0) 170 j = M2 171 j
      rw [zUp_away (by decide), zUp_away (by decide), k1 170 (by decide) (by decide), w171, if_pos (by omega), if_neg (by omega)]
    · show (zUp (zUp M5 154 37 m) 154 57 0) 174 j = M2 175 j
      rw [zUp_away (by decide), zUp_away (by decide), k3, if_pos (by omega), g1 175 (by decide), f1 175 (by decide), zUp_away (by decide), zUp_away (by decide), zUp_away (by decide)]
    · show (zUp (zUp M5 154 37 m) 154 57 0) 172 j = M2 173 j
      rw [zUp_away (by decide), zUp_away (by decide), k2, if_pos (by omega), g1 173 (by decide), f1 173 (by decide), zUp_away (by decide), zUp_away (by decide), zUp_away (by decide)]
    · show (zUp (zUp M5 154 37 m) 154 57 0) 168 j = M2 169 j
      rw [zUp_away (by decide), zUp_away (by decide), k1 168 (by decide) (by decide), g1 168 (by decide), f2, if_pos (by omega), zUp_away (by decide), zUp_away (by decide), zUp_away (by decide)]
    · show (zUp (zUp M5 154 37 m) 154 57 0) 170 (0 + (B.length : Int)) = 0 + cLen B
      rw [zUp_away (by decide), zUp_away (by decide), k1 170 (by decide) (by decide), w171, if_pos (by omega), if_pos (by omega)]
      omega
