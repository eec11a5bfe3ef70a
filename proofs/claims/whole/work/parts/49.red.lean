/-! LAYER 3: reducing: the pure side -/
noncomputable def rHo (G : Mm) (B : List Bg) (vs bug k : Int) : Nat → Int → Rs → Int × Rs
  | 0, _, S => (0, S)
  | m + 1, j, S => if G 7 (tNm (tSub S.1 j)) = G 7 (tNm (tSub S.1 k)) then (if (rTk B vs bug S (sTr G S.1 k 2 j) 4 k).1 = 1 then rTk B vs bug S (sTr G S.1 k 2 j) 4 k else rHo G B vs bug k m (j + 1) (rTk B vs bug S (sTr G S.1 k 2 j) 4 k).2) else rHo G B vs bug k m (j + 1) S
noncomputable def rHoist (G : Mm) (B : List Bg) (vs bug : Int) (k : Int) (S : Rs) : Int × Rs := rHo G B vs bug k (tSz (tSub S.1 k) - 1).toNat (k + 1) S
noncomputable def rCl (G : Mm) (B : List Bg) (vs bug : Int) (k : Int) (S : Rs) : Int × Rs := if tLst G S.1 k then rTk B vs bug S (sTr G S.1 k 1 (-1)) 5 k else (0, S)
noncomputable def rCut (G : Mm) (B : List Bg) (vs bug : Int) (k : Int) (S : Rs) : Int × Rs := if tStar G S.1 k then (if (rTk B vs bug S (sTr G S.1 k 0 (-1)) 5 k).1 = 1 then rTk B vs bug S (sTr G S.1 k 0 (-1)) 5 k else rCl G B vs bug k (rTk B vs bug S (sTr G S.1 k 0 (-1)) 5 k).2) else rCl G B vs bug k S
/-- by nodes: P is what is tried at a node -/
noncomputable def rNd (P : Int → Rs → Int × Rs) : Nat → Int → Rs → Rs
  | 0, _, S => S
  | f + 1, k, S => if tSz S.1 ≤ k then S else if (P k S).1 = 1 then rNd P f k (P k S).2 else rNd P f (k + 1) (P k S).2
def rStep (G : Mm) (B : List Bg) (S : Rs) (r : Int × Rs) : Prop := rsOk G B r.2 ∧ rsLe S r.2 ∧ ((r.1 = 1 ∧ tSz r.2.1 < tSz S.1) ∨ (r.1 = 0 ∧ r.2.1 = S.1 ∧ r.2.2.2 = S.2.2))
theorem rStep_tk {G : Mm} {B : List Bg} {vs bug why wh : Int} {S : Rs} {t' : Tr} (h : rsOk G B S) (hz : tSz t' < tSz S.1) (hv : tVal (G 4 0) t') : rStep G B S (rTk B vs bug S t' why wh) := by
  have r := rTk_ok (vs := vs) (bug := bug) (why := why) (wh := wh) h hz hv
  refine ⟨r.1, r.2.1, ?_⟩
  rcases r.2.2 with q | q
  · exact .inl ⟨q.1, by rw [q.2.1]; exact hz⟩
  · exact .inr q
theorem rsLe_trans {S S' S'' : Rs} (h : rsLe S S') (h' : rsLe S' S'') : rsLe S S'' := ⟨by have := h.1; have := h'.1; omega, by have := h.2; have := h'.2; omega⟩
theorem rsLe_refl {S : Rs} : rsLe S S := ⟨Int.le_refl _, Int.le_refl _⟩
theorem rStep_trans {G : Mm} {B : List Bg} {S S' : Rs} {r : Int × Rs} (h : S'.1 = S.1) (h2 : S'.2.2 = S.2.2) (hr : rStep G B S' r) : rStep G B S r := by
  refine ⟨hr.1, rsLe_trans ⟨by rw [h, h2]; exact Int.le_refl _, by rw [h2]; exact Int.le_refl _⟩ hr.2.1, ?_⟩
  rcases hr.2.2 with q | q
  · exact .inl ⟨q.1, by rw [← h]; exact q.2⟩
  · exact .inr ⟨q.1, by rw [q.2.1, h], by rw [q.2.2, h2]⟩
theorem sTr_lt {G : Mm} (hg : gOk G) {t : Tr} {k c j : Int} (hv : tVal (G 4 0) t) (h : sOk G t k c j) : tSz (sTr G t k c j) < tSz t := by
  obtain ⟨m1, m2, m3, m4, m5⟩ := sOk_mk h
  obtain ⟨h0, h1, h2⟩ := h
  have pb := tPl_b h0 h1
  have q1 := tSz_pos t
  by_cases ck : k = 0
  · subst ck
    unfold sTr bT
    have e : sMk 0 c 0 = c := if_pos rfl
    rw [e]
    rcases h2 with h2 | h2 | h2
    · have := h2.2.1
      rw [tPa_0] at this
      omega
    · rw [if_pos h2.1]
      have gsz := gT_sz hg (tVal_nm t hv)
      have h22 : G 12 (G 7 (tNm (tSub t 0))) < tSz (tSub t 0) := h2.2
      rw [tSub_0] at h22
      omega
    · have := m5 h2.1
      rw [tSub_0] at this
      rw [if_neg (by omega), if_pos h2.1, if_pos h2.1]
      exact this
  · have e0 : sMk k c 0 = -1 := if_neg (by omega)
    have ek : sMk k c k = c := if_pos rfl
    unfold sTr
    rw [bT_row e0]
    have vis : ∀ (u : Tr) (i : Int), i < k → k < i + tSz u → bVis (sMk k c) u i k := by
      intro u
      induction u with
      | var n => exact fun _ _ _ => trivial
      | op f s ihf ihs =>
        intro i c1 c2
        have c2 : k < i + (tSz f + tSz s) := c2
        show (if k < i + tSz f then bVis _ f i k else (k = i + tSz f ∨ (sMk k c (i + tSz f) = -1 ∧ bVis _ s (i + tSz f) k)))
        by_cases c3 : k < i + tSz f
        · rw [if_pos c3]; exact ihf i c1 c3
        · rw [if_neg c3]
          by_cases c4 : k = i + tSz f
          · exact .inl c4
          · exact .inr ⟨if_neg (by omega), ihs _ (by omega) (by omega)⟩
    refine bR_lt hg t 0 0 k hv m2 (by omega) (by omega) (vis t 0 (by omega) (by omega)) (by rw [ek]; omega) ?_ ?_
    · rw [ek, Int.sub_zero]
      intro hc
      rcases h2 with h2 | h2 | h2
      · omega
      · exact h2.2
      · omega
    · rw [ek, Int.sub_zero]
      intro hc
      rw [if_pos hc]
      exact m5 hc
theorem rHo_ok {G : Mm} (hg : gOk G) {B : List Bg} {vs bug k : Int} : ∀ (m : Nat) (j : Int) (S : Rs), rsOk G B S → 0 ≤ k → k < tSz S.1 → k < j → j + m ≤ k + tSz (tSub S.1 k) → rStep G B S (rHo G B vs bug k m j S)
  | 0, j, S, h, h0, h1, hj, hm => ⟨h, rsLe_refl, .inr ⟨rfl, rfl, rfl⟩⟩
  | m + 1, j, S, h, h0, h1, hj, hm => by
    unfold rHo
    split
    · have ok : sOk G S.1 k 2 j := ⟨h0, h1, .inr (.inr ⟨rfl, hj, by omega⟩)⟩
      have st := rStep_tk (vs := vs) (bug := bug) (why := 4) (wh := k) h (sTr_lt hg h.2.1 ok) (sTr_sz hg h.2.1 ok).2
      split
      · exact st
      · rcases st.2.2 with q | q
        · exact absurd q.1 (by assumption)
        · refine rStep_trans q.2.1 q.2.2 (rHo_ok hg m (j + 1) _ st.1 h0 (by rw [q.2.1]; exact h1) (by omega) (by rw [q.2.1]; omega))
    · exact rHo_ok hg m (j + 1) S h h0 h1 (by omega) (by omega)
theorem rHoist_ok {G : Mm} (hg : gOk G) {B : List Bg} {vs bug k : Int} {S : Rs} (h : rsOk G B S) (h0 : 0 ≤ k) (h1 : k < tSz S.1) : rStep G B S (rHoist G B vs bug k S) := by
  have p := tSz_pos (tSub S.1 k)
  exact rHo_ok hg _ _ S h h0 h1 (by omega) (by omega)
theorem rCl_ok {G : Mm} (hg : gOk G) {B : List Bg} {vs bug k : Int} {S : Rs} (h : rsOk G B S) (h0 : 0 ≤ k) (h1 : k < tSz S.1) : rStep G B S (rCl G B vs bug k S) := by
  unfold rCl
  split
  · have ok : sOk G S.1 k 1 (-1) := ⟨h0, h1, .inr (.inl ⟨rfl, by assumption⟩)⟩
    exact rStep_tk h (sTr_lt hg h.2.1 ok) (sTr_sz hg h.2.1 ok).2
  · exact ⟨h, rsLe_refl, .inr ⟨rfl, rfl, rfl⟩⟩
theorem rCut_ok {G : Mm} (hg : gOk G) {B : List Bg} {vs bug k : Int} {S : Rs} (h : rsOk G B S) (h0 : 0 ≤ k) (h1 : k < tSz S.1) : rStep G B S (rCut G B vs bug k S) := by
  unfold rCut
  split
  · have ok : sOk G S.1 k 0 (-1) := ⟨h0, h1, .inl ⟨rfl, by assumption⟩⟩
    have st := rStep_tk (vs := vs) (bug := bug) (why := 5) (wh := k) h (sTr_lt hg h.2.1 ok) (sTr_sz hg h.2.1 ok).2
    split
    · exact st
    · rcases st.2.2 with q | q
      · exact absurd q.1 (by assumption)
      · exact rStep_trans q.2.1 q.2.2 (rCl_ok hg st.1 h0 (by rw [q.2.1]; exact h1))
  · exact rCl_ok hg h h0 h1
theorem rNd_ok {G : Mm} {B : List Bg} {P : Int → Rs → Int × Rs} (hP : ∀ k S, rsOk G B S → 0 ≤ k → k < tSz S.1 → rStep G B S (P k S)) : ∀ (f : Nat) (k : Int) (S : Rs), rsOk G B S → 0 ≤ k → rsOk G B (rNd P f k S) ∧ rsLe S (rNd P f k S)
  | 0, k, S, h, h0 => ⟨h, rsLe_refl⟩
  | f + 1, k, S, h, h0 => by
    unfold rNd
    split
    · exact ⟨h, rsLe_refl⟩
    · have st := hP k S h h0 (by omega)
      split
      · have ih := rNd_ok hP f k (P k S).2 st.1 h0
        exact ⟨ih.1, rsLe_trans st.2.1 ih.2⟩
      · have ih := rNd_ok hP f (k + 1) (P k S).2 st.1 (by omega)
        exact ⟨ih.1, rsLe_trans st.2.1 ih.2⟩
-- rows
noncomputable def rRw (G : Mm) (B : List Bg) (vs bug : Int) (S : Rs) (R : List Int) (fr to w why lev : Int) : Int × Rs × List Int :=
  if (rTk B vs bug S (bT G (rMk G S.1 (rSel fr to w R 0)) (tSub S.1 0) S.1) why lev).1 = 1 then (1, (rTk B vs bug S (bT G (rMk G S.1 (rSel fr to w R 0)) (tSub S.1 0) S.1) why lev).2, (rNot fr to w R 0).map (bPos G (rMk G S.1 (rSel fr to w R 0)) (tSub S.1 0) S.1 0))
  else (0, (rTk B vs bug S (bT G (rMk G S.1 (rSel fr to w R 0)) (tSub S.1 0) S.1) why lev).2, R)
noncomputable def rPt (G : Mm) (B : List Bg) (vs bug n w why lev : Int) : Nat → Int → Rs → List Int → Int × Rs × List Int
  | 0, _, S, R => (0, S, R)
  | m + 1, i, S, R => if (rRw G B vs bug S R (i * R.length / n) ((i + 1) * R.length / n) w why lev).1 = 1 then rRw G B vs bug S R (i * R.length / n) ((i + 1) * R.length / n) w why lev else rPt G B vs bug n w why lev m (i + 1) (rRw G B vs bug S R (i * R.length / n) ((i + 1) * R.length / n) w why lev).2.1 R
def rRok (G : Mm) (B : List Bg) (lev : Int) (S : Rs) (R : List Int) (r : Int × Rs × List Int) : Prop := rsOk G B r.2.1 ∧ rsLe S r.2.1 ∧ rOk G r.2.1.1 lev r.2.2 ∧ ((r.1 = 1 ∧ tSz r.2.1.1 < tSz S.1) ∨ (r.1 = 0 ∧ r.2.1.1 = S.1 ∧ r.2.1.2.2 = S.2.2 ∧ r.2.2 = R))
theorem rRw_ok {G : Mm} (hg : gOk G) {B : List Bg} {vs bug fr to w why lev : Int} {S : Rs} {R : List Int} (h : rsOk G B S) (hR : rOk G S.1 lev R) (hne : rSel fr to w R 0 ≠ []) : rRok G B lev S R (rRw G B vs bug S R fr to w why lev) ∧ ((rRw G B vs bug S R fr to w why lev).1 = 1 → (rRw G B vs bug S R fr to w why lev).2.2.length = (rNot fr to w R 0).length) := by
  have hS := rSel_sub (fr := fr) (to := to) (w := w) R 0
  obtain ⟨m1, m2, m3, m4⟩ := rMk_bMk (H := tSub S.1 0) hR hS
  have hb := bT_row (G := G) (t := S.1) (H := tSub S.1 0) m3
  have hz : tSz (bT G (rMk G S.1 (rSel fr to w R 0)) (tSub S.1 0) S.1) < tSz S.1 := by rw [hb]; exact rRow_lt hg h.2.1 hR hS hne
  have hv : tVal (G 4 0) (bT G (rMk G S.1 (rSel fr to w R 0)) (tSub S.1 0) S.1) := bT_val hg h.2.1 (tVal_sub _ _ h.2.1)
  have r := rTk_ok (vs := vs) (bug := bug) (why := why) (wh := lev) h hz hv
  unfold rRw
  rcases r.2.2 with q | q
  · rw [if_pos q.1]
    refine ⟨⟨r.1, r.2.1, ?_, .inl ⟨rfl, by show tSz (rTk B vs bug S _ why lev).2.1 < _; rw [q.2.1]; exact hz⟩⟩, fun _ => by show (List.map _ _).length = _; rw [List.length_map]⟩
    show rOk G (rTk B vs bug S _ why lev).2.1 lev _
    rw [q.2.1, hb]
    exact rOk_next hR
  · rw [if_neg (by omega)]
    refine ⟨⟨r.1, r.2.1, ?_, .inr ⟨rfl, q.2.1, q.2.2, rfl⟩⟩, fun h => absurd h (by show ¬ (0 : Int) = 1; decide)⟩
    show rOk G (rTk B vs bug S _ why lev).2.1 lev R
    rw [q.2.1]
    exact hR
theorem zmulL {a b c : Int} (h : a ≤ b) (hc : 0 ≤ c) : a * c ≤ b * c := Int.mul_le_mul_of_nonneg_right h hc
/-- how a row is cut into parts -/
theorem rPart {len n i : Int} (hn : 1 ≤ n) (hl : n ≤ len) (hi : 0 ≤ i ∧ i < n) : 0 ≤ i * len / n ∧ i * len / n < (i + 1) * len / n ∧ (i + 1) * len / n ≤ len ∧ (i + 1) * len / n - i * len / n + (n - 1) ≤ len := by
  have e1 : (i + 1) * len = i * len + len := by rw [Int.add_mul, Int.one_mul]
  have h1 : i * len / n + 1 ≤ (i + 1) * len / n := by
    have : i * len / n + 1 = (i * len + 1 * n) / n := by rw [Int.add_mul_ediv_right _ _ (by omega)]
    rw [this]
    exact Int.ediv_le_ediv (by omega) (by rw [e1]; omega)
  have h0 : 0 ≤ i * len / n := Int.ediv_nonneg (Int.mul_nonneg hi.1 (by omega)) (by omega)
  have h2 : (i + 1) * len / n ≤ len := by
    have : (i + 1) * len ≤ n * len := zmulL (by omega) (by omega)
    have := Int.ediv_le_ediv (c := n) (by omega) this
    rwa [Int.mul_ediv_cancel_left _ (by omega)] at this
  have h3 : i ≤ i * len / n := by
    have : i * n ≤ i * len := Int.mul_le_mul_of_nonneg_left hl hi.1
    have := Int.ediv_le_ediv (c := n) (by omega) this
    rwa [Int.mul_ediv_cancel _ (by omega)] at this
  have h4 : (i + 1) * len / n + (n - (i + 1)) ≤ len := by
    have e : (i + 1) * len / n + (n - (i + 1)) = ((i + 1) * len + (n - (i + 1)) * n) / n := by rw [Int.add_mul_ediv_right _ _ (by omega)]
    have : (i + 1) * len + (n - (i + 1)) * n ≤ n * len := by
      have a : (n - (i + 1)) * n ≤ (n - (i + 1)) * len := Int.mul_le_mul_of_nonneg_left hl (by omega)
      have b : (i + 1) * len + (n - (i + 1)) * len = n * len := by rw [← Int.add_mul]; congr 1; omega
      omega
    have := Int.ediv_le_ediv (c := n) (by omega) this
    rw [e]
    rwa [Int.mul_ediv_cancel_left _ (by omega)] at this
  exact ⟨h0, by omega, h2, by omega⟩
theorem rSel_w {fr to : Int} : ∀ (R : List Int) (i : Int), rSel fr to 0 R i = rNot fr to 1 R i ∧ rNot fr to 0 R i = rSel fr to 1 R i
  | [], i => ⟨rfl, rfl⟩
  | x :: R, i => by
    have ih := rSel_w (fr := fr) (to := to) R (i + 1)
    unfold rSel rNot
    by_cases c : fr ≤ i ∧ i < to
    · rw [fl_t c, if_neg (by decide), if_pos rfl, if_neg (by decide), if_pos rfl, ih.1, ih.2]
      exact ⟨rfl, rfl⟩
    · rw [fl_f c, if_pos rfl, if_neg (by decide), if_pos rfl, if_neg (by decide), ih.1, ih.2]
      exact ⟨rfl, rfl⟩
theorem rPt_ne {R : List Int} {n i w : Int} (hn : 1 ≤ n) (hl : n ≤ R.length) (hi : 0 ≤ i ∧ i < n) (hw : w = 1 ∨ (w = 0 ∧ 2 ≤ n)) : rSel (i * R.length / n) ((i + 1) * R.length / n) w R 0 ≠ [] ∧ (w = 1 → n - 1 ≤ ((rNot (i * R.length / n) ((i + 1) * R.length / n) w R 0).length : Int)) ∧ (w = 0 → 1 ≤ (rNot (i * R.length / n) ((i + 1) * R.length / n) w R 0).length) := by
  have p := rPart hn hl hi
  have c := rSel_cnt (fr := i * R.length / n) (to := (i + 1) * R.length / n) R 0
  have l := rLen (fr := i * R.length / n) (to := (i + 1) * R.length / n) (w := 1) R 0
  have z1 : zMin ((i + 1) * R.length / n) (0 + R.length) = (i + 1) * R.length / n := by unfold zMin; rw [if_neg (by omega)]
  have z2 : zMax (i * R.length / n) 0 = i * R.length / n := by unfold zMax; rw [if_neg (by omega)]
  rw [z1, z2] at c
  have z3 := @zMax_b 0 ((i + 1) * R.length / n - i * R.length / n)
  rcases hw with h | ⟨h, h2⟩ <;> subst h
  · refine ⟨fun e => ?_, fun _ => by omega, fun q => absurd q (by decide)⟩
    rw [e] at c
    have c : (0 : Int) = _ := c
    omega
  · have sw := rSel_w (fr := i * R.length / n) (to := (i + 1) * R.length / n) R 0
    rw [sw.1, sw.2]
    refine ⟨fun e => ?_, fun q => absurd q (by decide), fun _ => by omega⟩
    rw [e] at l
    have l : _ + 0 = R.length := l
    omega
theorem rPt_ok {G : Mm} (hg : gOk G) {B : List Bg} {vs bug n w why lev : Int} {R : List Int} (hn : 1 ≤ n) (hl : n ≤ R.length) (hw : w = 1 ∨ (w = 0 ∧ 2 ≤ n)) : ∀ (m : Nat) (i : Int) (S : Rs), i + m = n → 0 ≤ i → rsOk G B S → rOk G S.1 lev R → rRok G B lev S R (rPt G B vs bug n w why lev m i S R) ∧ ((rPt G B vs bug n w why lev m i S R).1 = 1 → w = 1 → n - 1 ≤ ((rPt G B vs bug n w why lev m i S R).2.2.length : Int))
  | 0, i, S, hi, h0, h, hR => ⟨⟨h, rsLe_refl, hR, .inr ⟨rfl, rfl, rfl, rfl⟩⟩, fun h => absurd h (by show ¬ (0 : Int) = 1; decide)⟩
  | m + 1, i, S, hi, h0, h, hR => by
    have ne := rPt_ne (R := R) hn hl (i := i) (by omega) hw
    have r := rRw_ok hg (vs := vs) (bug := bug) (why := why) h hR ne.1
    unfold rPt
    split
    · rename_i c
      exact ⟨r.1, fun _ hw1 => by rw [r.2 c]; exact ne.2.1 hw1⟩
    · rename_i c
      obtain ⟨r1, r2, r3, r4⟩ := r.1
      rcases r4 with q | q
      · exact absurd q.1 c
      · have ih := rPt_ok hg (vs := vs) (bug := bug) (why := why) (lev := lev) hn hl hw m (i + 1) _ (by omega) (by omega) r1 (by rw [q.2.1]; exact hR)
        obtain ⟨⟨i1, i2, i3, i4⟩, i5⟩ := ih
        refine ⟨⟨i1, rsLe_trans r2 i2, i3, ?_⟩, i5⟩
        rcases i4 with p | p
        · exact .inl ⟨p.1, by rw [← q.2.1]; exact p.2⟩
        · exact .inr ⟨p.1, by rw [p.2.1, q.2.1], by rw [p.2.2.1, q.2.2.1], p.2.2.2⟩
/-- the second look, by parts that go -/
noncomputable def rP2 (G : Mm) (B : List Bg) (vs bug n lev : Int) (S : Rs) (R : List Int) : Int × Rs × List Int := if 2 < n then rPt G B vs bug n 1 3 lev n.toNat 0 S R else (0, S, R)
noncomputable def rHl (G : Mm) (B : List Bg) (vs bug lev : Int) : Nat → Int → Rs → List Int → Rs
  | 0, _, S, _ => S
  | f + 1, n, S, R => if (R.length : Int) < 2 then S else
    if (rPt G B vs bug n 0 2 lev n.toNat 0 S R).1 = 1 then rHl G B vs bug lev f 2 (rPt G B vs bug n 0 2 lev n.toNat 0 S R).2.1 (rPt G B vs bug n 0 2 lev n.toNat 0 S R).2.2
    else if (rP2 G B vs bug n lev (rPt G B vs bug n 0 2 lev n.toNat 0 S R).2.1 R).1 = 1 then rHl G B vs bug lev f (n - 1) (rP2 G B vs bug n lev (rPt G B vs bug n 0 2 lev n.toNat 0 S R).2.1 R).2.1 (rP2 G B vs bug n lev (rPt G B vs bug n 0 2 lev n.toNat 0 S R).2.1 R).2.2
    else if n < R.length then rHl G B vs bug lev f (zMin (2 * n) R.length) (rP2 G B vs bug n lev (rPt G B vs bug n 0 2 lev n.toNat 0 S R).2.1 R).2.1 R
    else (rP2 G B vs bug n lev (rPt G B vs bug n 0 2 lev n.toNat 0 S R).2.1 R).2.1
def rRowL (G : Mm) (t : Tr) (lev : Int) : Nat → Int → List Int
  | 0, _ => []
  | m + 1, k => if tRow G t lev k then k :: rRowL G t lev m (k + 1) else rRowL G t lev m (k + 1)
theorem rRowL_ok {G : Mm} {t : Tr} {lev : Int} (hl : 1 ≤ lev) : ∀ (m : Nat) (k : Int), 0 ≤ k → k + m ≤ tSz t → (∀ x ∈ rRowL G t lev m k, k ≤ x ∧ 0 < x ∧ x < tSz t ∧ tRow G t lev x) ∧ rInc (rRowL G t lev m k)
  | 0, k, h0, h1 => ⟨fun x hx => absurd hx (by simp [rRowL]), trivial⟩
  | m + 1, k, h0, h1 => by
    have ih := rRowL_ok (G := G) (t := t) hl m (k + 1) (by omega) (by omega)
    unfold rRowL
    split
    · rename_i c
      have k0 : 0 < k := by
        by_cases e : k = 0
        · have := c.1
          rw [e, tLv_0] at this
          omega
        · omega
      refine ⟨fun x hx => ?_, fun y hy => by have := (ih.1 y hy).1; omega, ih.2⟩
      rcases List.mem_cons.mp hx with e | e
      · subst e; exact ⟨Int.le_refl _, k0, by omega, c⟩
      · have := ih.1 x e
        exact ⟨by omega, this.2⟩
    · exact ⟨fun x hx => by have := ih.1 x hx; exact ⟨by omega, this.2⟩, ih.2⟩
theorem rRowL_len {G : Mm} {t : Tr} {lev : Int} : ∀ (m : Nat) (k : Int), (rRowL G t lev m k).length ≤ m
  | 0, k => Nat.le_refl 0
  | m + 1, k => by
    have ih := rRowL_len (G := G) (t := t) (lev := lev) m (k + 1)
    unfold rRowL
    split
    · show _ + 1 ≤ m + 1; omega
    · omega
def rRow0 (G : Mm) (t : Tr) (lev : Int) : List Int := rRowL G t lev (tSz t).toNat 0
theorem rRow0_ok {G : Mm} {t : Tr} {lev : Int} (hl : 1 ≤ lev) : rOk G t lev (rRow0 G t lev) := by
  have q := tSz_pos t
  have h := rRowL_ok (G := G) (t := t) hl (tSz t).toNat 0 (by omega) (by omega)
  exact ⟨fun x hx => (h.1 x hx).2, h.2⟩
noncomputable def rLv (G : Mm) (B : List Bg) (vs bug : Int) : Nat → Int → Rs → Rs
  | 0, _, S => S
  | f + 1, lev, S => if tDp S.1 < lev then S else if ((rRow0 G S.1 lev).length : Int) ≤ 0 then rLv G B vs bug f (lev + 1) S
    else if (rPt G B vs bug 1 1 1 lev 1 0 S (rRow0 G S.1 lev)).1 = 1 then rLv G B vs bug f (lev + 1) (rPt G B vs bug 1 1 1 lev 1 0 S (rRow0 G S.1 lev)).2.1
    else rLv G B vs bug f (lev + 1) (rHl G B vs bug lev 100000 2 (rPt G B vs bug 1 1 1 lev 1 0 S (rRow0 G S.1 lev)).2.1 (rRow0 G S.1 lev))
noncomputable def rR3 (G : Mm) (B : List Bg) (vs bug how : Int) (S : Rs) : Rs := if how = 2 ∨ how = 3 then rNd (rCut G B vs bug) 100000 0 S else S
noncomputable def rR2 (G : Mm) (B : List Bg) (vs bug how : Int) (S : Rs) : Rs := if how = 1 ∨ how = 3 then rNd (rHoist G B vs bug) 100000 0 S else S
noncomputable def rR1 (G : Mm) (B : List Bg) (vs bug how : Int) (S : Rs) : Rs := if how = 0 ∨ how = 3 then rLv G B vs bug 79 1 S else S
noncomputable def rAll (G : Mm) (B : List Bg) (vs bug how : Int) (S : Rs) : Rs := rR3 G B vs bug how (rR2 G B vs bug how (rR1 G B vs bug how S))
noncomputable def rRo (G : Mm) (B : List Bg) (vs bug how : Int) : Nat → Rs → Rs
  | 0, S => S
  | f + 1, S => if how ≠ 3 ∨ (rAll G B vs bug how S).2.2 = S.2.2 then rAll G B vs bug how S else rRo G B vs bug how f (rAll G B vs bug how S)
theorem rP2_ok {G : Mm} (hg : gOk G) {B : List Bg} {vs bug n lev : Int} {R : List Int} {S : Rs} (hn : 1 ≤ n) (hl : n ≤ R.length) (h : rsOk G B S) (hR : rOk G S.1 lev R) : rRok G B lev S R (rP2 G B vs bug n lev S R) ∧ ((rP2 G B vs bug n lev S R).1 = 1 → 2 < n ∧ n - 1 ≤ ((rP2 G B vs bug n lev S R).2.2.length : Int)) := by
  unfold rP2
  split
  · have r := rPt_ok hg (vs := vs) (bug := bug) (why := 3) (lev := lev) hn hl (.inl rfl) n.toNat 0 S (by omega) (by omega) h hR
    exact ⟨r.1, fun q => ⟨by assumption, r.2 q rfl⟩⟩
  · exact ⟨⟨h, rsLe_refl, hR, .inr ⟨rfl, rfl, rfl, rfl⟩⟩, fun h => absurd h (by show ¬ (0 : Int) = 1; decide)⟩
theorem rHl_ok {G : Mm} (hg : gOk G) {B : List Bg} {vs bug lev : Int} : ∀ (f : Nat) (n : Int) (S : Rs) (R : List Int), 2 ≤ n → (2 ≤ (R.length : Int) → n ≤ R.length) → rsOk G B S → rOk G S.1 lev R → rsOk G B (rHl G B vs bug lev f n S R) ∧ rsLe S (rHl G B vs bug lev f n S R)
  | 0, n, S, R, hn, hl, h, hR => ⟨h, rsLe_refl⟩
  | f + 1, n, S, R, hn, hl, h, hR => by
    unfold rHl
    split
    · exact ⟨h, rsLe_refl⟩
    · rename_i c
      have hl := hl (by omega)
      have r := (rPt_ok hg (vs := vs) (bug := bug) (why := 2) (lev := lev) (by omega) hl (.inr ⟨rfl, hn⟩) n.toNat 0 S (by omega) (by omega) h hR).1
      obtain ⟨r1, r2, r3, r4⟩ := r
      split
      · have ih := rHl_ok hg (vs := vs) (bug := bug) (lev := lev) f 2 _ _ (by omega) (fun q => q) r1 r3
        exact ⟨ih.1, rsLe_trans r2 ih.2⟩
      · rename_i c2
        rcases r4 with q | q
        · exact absurd q.1 c2
        · have p := rP2_ok hg (vs := vs) (bug := bug) (lev := lev) (n := n) (by omega) hl r1 (by rw [q.2.1]; exact hR)
          obtain ⟨⟨p1, p2, p3, p4⟩, p5⟩ := p
          have le := rsLe_trans r2 p2
          split
          · rename_i c3
            have p6 := p5 c3
            have ih := rHl_ok hg (vs := vs) (bug := bug) (lev := lev) f (n - 1) _ _ (by omega) (fun _ => p6.2) p1 p3
            exact ⟨ih.1, rsLe_trans le ih.2⟩
          · rename_i c3
            rcases p4 with w | w
            · exact absurd w.1 c3
            · split
              · rename_i c4
                have zm : zMin (2 * n) R.length ≤ R.length ∧ 2 ≤ zMin (2 * n) R.length := by unfold zMin; split <;> omega
                have ih := rHl_ok hg (vs := vs) (bug := bug) (lev := lev) f (zMin (2 * n) R.length) _ R zm.2 (fun _ => zm.1) p1 (by rw [w.2.1, q.2.1]; exact hR)
                exact ⟨ih.1, rsLe_trans le ih.2⟩
              · exact ⟨p1, le⟩
theorem rLv_ok {G : Mm} (hg : gOk G) {B : List Bg} {vs bug : Int} : ∀ (f : Nat) (lev : Int) (S : Rs), 1 ≤ lev → rsOk G B S → rsOk G B (rLv G B vs bug f lev S) ∧ rsLe S (rLv G B vs bug f lev S)
  | 0, lev, S, hl, h => ⟨h, rsLe_refl⟩
  | f + 1, lev, S, hl, h => by
    unfold rLv
    split
    · exact ⟨h, rsLe_refl⟩
    · split
      · exact rLv_ok hg f (lev + 1) S (by omega) h
      · rename_i c1 c2
        have hR := rRow0_ok (G := G) (t := S.1) hl
        have r := (rPt_ok hg (vs := vs) (bug := bug) (why := 1) (lev := lev) (n := 1) (by omega) (by omega) (.inl rfl) 1 0 S (by omega) (by omega) h hR).1
        obtain ⟨r1, r2, r3, r4⟩ := r
        split
        · have ih := rLv_ok hg (vs := vs) (bug := bug) f (lev + 1) _ (by omega) r1
          exact ⟨ih.1, rsLe_trans r2 ih.2⟩
        · rename_i c3
          rcases r4 with q | q
          · exact absurd q.1 c3
          · have hh := rHl_ok hg (vs := vs) (bug := bug) (lev := lev) 100000 2 _ (rRow0 G S.1 lev) (by omega) (fun q => q) r1 (by rw [q.2.1]; exact hR)
            have ih := rLv_ok hg (vs := vs) (bug := bug) f (lev + 1) _ (by omega) hh.1
            exact ⟨ih.1, rsLe_trans r2 (rsLe_trans hh.2 ih.2)⟩
theorem rAll_ok {G : Mm} (hg : gOk G) {B : List Bg} {vs bug how : Int} {S : Rs} (h : rsOk G B S) : rsOk G B (rAll G B vs bug how S) ∧ rsLe S (rAll G B vs bug how S) := by
  have h1 : rsOk G B (rR1 G B vs bug how S) ∧ rsLe S (rR1 G B vs bug how S) := by
    unfold rR1
    split
    · exact rLv_ok hg 79 1 S (by omega) h
    · exact ⟨h, rsLe_refl⟩
  have h2 : rsOk G B (rR2 G B vs bug how (rR1 G B vs bug how S)) ∧ rsLe (rR1 G B vs bug how S) (rR2 G B vs bug how (rR1 G B vs bug how S)) := by
    unfold rR2
    split
    · exact rNd_ok (fun k S h h0 h1 => rHoist_ok hg h h0 h1) 100000 0 _ h1.1 (by omega)
    · exact ⟨h1.1, rsLe_refl⟩
  have h3 : rsOk G B (rAll G B vs bug how S) ∧ rsLe (rR2 G B vs bug how (rR1 G B vs bug how S)) (rAll G B vs bug how S) := by
    unfold rAll rR3
    split
    · exact rNd_ok (fun k S h h0 h1 => rCut_ok hg h h0 h1) 100000 0 _ h2.1 (by omega)
    · exact ⟨h2.1, rsLe_refl⟩
  exact ⟨h3.1, rsLe_trans h1.2 (rsLe_trans h2.2 h3.2)⟩
