/-! LAYER 3: a tree by its places -/
def tSub : Tr → Int → Tr
  | .var n, _ => .var n
  | .op f s, k => if k = 0 then .op f s else if k < tSz f then tSub f k else tSub s (k - tSz f)
def tPa : Tr → Int → Int
  | .var _, _ => -1
  | .op f s, k => if k < tSz f then tPa f k else if k = tSz f then 0 else tPa s (k - tSz f) + tSz f
def tQl : Tr → Int → Int
  | .var _, _ => -1
  | .op f s, k => if k < tSz f then tQl f k else if k = tSz f then tKd f else tQl s (k - tSz f)
def tLv : Tr → Int → Int
  | .var _, _ => 0
  | .op f s, k => if k < tSz f then tLv f k else tLv s (k - tSz f) + 1
theorem tSub_0 : ∀ t : Tr, tSub t 0 = t
  | .var _ => rfl
  | .op f s => if_pos rfl
theorem tPa_0 : ∀ t : Tr, tPa t 0 = -1
  | .var _ => rfl
  | .op f s => by
    have := tSz_pos f
    show (if (0 : Int) < tSz f then _ else _) = _
    rw [if_pos (by omega)]; exact tPa_0 f
theorem tQl_0 : ∀ t : Tr, tQl t 0 = -1
  | .var _ => rfl
  | .op f s => by
    have := tSz_pos f
    show (if (0 : Int) < tSz f then _ else _) = _
    rw [if_pos (by omega)]; exact tQl_0 f
theorem tLv_0 : ∀ t : Tr, tLv t 0 = 0
  | .var _ => rfl
  | .op f s => by
    have := tSz_pos f
    show (if (0 : Int) < tSz f then _ else _) = _
    rw [if_pos (by omega)]; exact tLv_0 f
theorem tSub_f {f s : Tr} {k : Int} (h0 : k ≠ 0) (h : k < tSz f) : tSub (.op f s) k = tSub f k := by
  show (if k = 0 then _ else if k < tSz f then _ else _) = _
  rw [if_neg h0, if_pos h]
theorem tSub_s {f s : Tr} {k : Int} (h : tSz f ≤ k) : tSub (.op f s) k = tSub s (k - tSz f) := by
  have := tSz_pos f
  show (if k = 0 then _ else if k < tSz f then _ else _) = _
  rw [if_neg (by omega), if_neg (by omega)]
theorem tPa_f {f s : Tr} {k : Int} (h : k < tSz f) : tPa (.op f s) k = tPa f k := if_pos h
theorem tPa_m {f s : Tr} : tPa (.op f s) (tSz f) = 0 := by
  show (if tSz f < tSz f then _ else if tSz f = tSz f then _ else _) = _
  rw [if_neg (by omega), if_pos rfl]
theorem tPa_s {f s : Tr} {k : Int} (h : tSz f < k) : tPa (.op f s) k = tPa s (k - tSz f) + tSz f := by
  show (if k < tSz f then _ else if k = tSz f then _ else _) = _
  rw [if_neg (by omega), if_neg (by omega)]
theorem tQl_f {f s : Tr} {k : Int} (h : k < tSz f) : tQl (.op f s) k = tQl f k := if_pos h
theorem tQl_m {f s : Tr} : tQl (.op f s) (tSz f) = tKd f := by
  show (if tSz f < tSz f then _ else if tSz f = tSz f then _ else _) = _
  rw [if_neg (by omega), if_pos rfl]
theorem tQl_s {f s : Tr} {k : Int} (h : tSz f < k) : tQl (.op f s) k = tQl s (k - tSz f) := by
  show (if k < tSz f then _ else if k = tSz f then _ else _) = _
  rw [if_neg (by omega), if_neg (by omega)]
theorem tLv_f {f s : Tr} {k : Int} (h : k < tSz f) : tLv (.op f s) k = tLv f k := if_pos h
theorem tLv_s {f s : Tr} {k : Int} (h : tSz f ≤ k) : tLv (.op f s) k = tLv s (k - tSz f) + 1 := if_neg (by omega)
def tVw (t : Tr) (i l : Int) : Int → Tr → Int → Int → Int → Prop := fun k u a q v => u = tSub t (k - i) ∧ a = tPa t (k - i) + i ∧ q = tQl t (k - i) ∧ v = tLv t (k - i) + l
theorem tView : ∀ (t : Tr) (i l : Int), tAll (tVw t i l) t i l
  | .var _, _, _ => trivial
  | .op f s, i, l => by
    have q1 := tSz_pos f
    have q2 := tSz_pos s
    refine ⟨tAll_mono f i l ?_ (tView f i l), ?_, tAll_mono s _ _ ?_ (tView s (i + tSz f) (l + 1))⟩
    · intro k u a q v c1 c2 c3 c4 c5 c6 hx
      have p := tSz_pos u
      unfold tVw at hx ⊢
      rw [tSub_f (by omega) (by omega), tPa_f (by omega), tQl_f (by omega), tLv_f (by omega)]
      exact hx
    · unfold tVw
      rw [show i + tSz f - i = tSz f by omega, tSub_s (by omega), tPa_m, tQl_m, tLv_s (by omega), Int.sub_self, tSub_0, tLv_0]
      exact ⟨rfl, by omega, rfl, by omega⟩
    · intro k u a q v c1 c2 c3 c4 c5 c6 hx
      unfold tVw at hx ⊢
      rw [tSub_s (by omega), tPa_s (by omega), tQl_s (by omega), tLv_s (by omega), show k - i - tSz f = k - (i + tSz f) by omega]
      exact ⟨hx.1, by omega, hx.2.2.1, by omega⟩
/-- what stands at a place, by the functions -/
theorem tAll_get {Φ : Int → Tr → Int → Int → Int → Prop} {t : Tr} {k : Int} (h : tAll Φ t 0 0) (h0 : 0 < k) (h1 : k < tSz t) : Φ k (tSub t k) (tPa t k) (tQl t k) (tLv t k) := by
  obtain ⟨u, a, q, v, _, _, _, _, _, g⟩ := tAll_at t 0 0 k h0 (by omega)
  have e := (g _ (tView t 0 0)).1
  unfold tVw at e
  rw [Int.sub_zero, Int.add_zero, Int.add_zero] at e
  rw [← e.1, ← e.2.1, ← e.2.2.1, ← e.2.2.2]
  exact (g _ h).1
theorem tAll_put {Φ : Int → Tr → Int → Int → Int → Prop} {t : Tr} (h : ∀ k, 0 < k → k < tSz t → Φ k (tSub t k) (tPa t k) (tQl t k) (tLv t k)) : tAll Φ t 0 0 := by
  refine tAll_mono t 0 0 ?_ (tView t 0 0)
  intro k u a q v c1 c2 c3 c4 c5 c6 hx
  have p := tSz_pos u
  unfold tVw at hx
  rw [Int.sub_zero, Int.add_zero, Int.add_zero] at hx
  rw [hx.1, hx.2.1, hx.2.2.1, hx.2.2.2]
  exact h k c1 (by omega)
theorem tPl_b {t : Tr} {k : Int} (h0 : 0 ≤ k) (h1 : k < tSz t) : -1 ≤ tPa t k ∧ tPa t k < k ∧ (0 < k → 0 ≤ tPa t k ∧ 0 ≤ tQl t k ∧ 1 ≤ tLv t k) ∧ -1 ≤ tQl t k ∧ 0 ≤ tLv t k ∧ 1 ≤ tSz (tSub t k) ∧ k + tSz (tSub t k) ≤ tSz t := by
  have p := tSz_pos (tSub t k)
  by_cases c : k = 0
  · subst c
    rw [tPa_0, tQl_0, tLv_0, tSub_0] 
    rw [tSub_0] at p
    omega
  · obtain ⟨u, a, q, v, g1, g2, g3, g4, g5, g⟩ := tAll_at t 0 0 k (by omega) (by omega)
    have e := (g _ (tView t 0 0)).1
    unfold tVw at e
    rw [Int.sub_zero, Int.add_zero, Int.add_zero] at e
    rw [← e.1, ← e.2.1, ← e.2.2.1, ← e.2.2.2]
    rw [← e.1] at p
    omega
theorem tQl_lt : ∀ (t : Tr) (k : Int), 0 < k → k < tSz t → tQl t k < tKd (tSub t (tPa t k))
  | .var _, k, h0, h1 => by
    have h1 : k < 1 := h1
    omega
  | .op f s, k, h0, h1 => by
    have h1 : k < tSz f + tSz s := h1
    have q1 := tSz_pos f
    have q2 := tKd_nn f
    by_cases c : k < tSz f
    · have ih := tQl_lt f k h0 c
      have pb := tPl_b (t := f) (k := k) (by omega) c
      rw [tQl_f c, tPa_f c]
      by_cases c2 : tPa f k = 0
      · rw [c2, tSub_0] at ih ⊢
        show _ < tKd f + 1
        omega
      · rw [tSub_f c2 (by omega)]
        exact ih
    · by_cases c2 : k = tSz f
      · rw [c2, tQl_m, tPa_m, tSub_0]
        show _ < tKd f + 1
        omega
      · have ih := tQl_lt s (k - tSz f) (by omega) (by omega)
        have pb := tPl_b (t := s) (k := k - tSz f) (by omega) (by omega)
        rw [tQl_s (by omega), tPa_s (by omega), tSub_s (by omega), Int.add_sub_cancel]
        exact ih
theorem tVal_sub {L : Int} : ∀ (t : Tr) (k : Int), tVal L t → tVal L (tSub t k)
  | .var _, _, h => h
  | .op f s, k, h => by
    show tVal L (if k = 0 then _ else if k < tSz f then _ else _)
    split
    · exact h
    · split
      · exact tVal_sub f k h.1
      · exact tVal_sub s _ h.2
theorem tLv_dp : ∀ (t : Tr) (k : Int), tLv t k ≤ tDp t
  | .var _, _ => Int.le_refl 0
  | .op f s, k => by
    have h1 := tLv_dp f k
    have h2 := tLv_dp s (k - tSz f)
    have z := @zMax_b (tDp f) (tDp s + 1)
    show (if k < tSz f then _ else _) ≤ zMax (tDp f) (tDp s + 1)
    split <;> omega
/-- places of the class's tree -/
theorem xTr_at {M : Mm} {b : Nat} {t : Tr} (h : xTr M b t) {k : Int} (h0 : 0 ≤ k) (h1 : k < tSz t) : M (b + 1) k = tNm (tSub t k) ∧ M (b + 2) k = tKd (tSub t k) ∧ M (b + 3) k = tPa t k ∧ M (b + 4) k = tQl t k ∧ M (b + 5) k = tLv t k ∧ M (b + 6) k = tSz (tSub t k) := by
  obtain ⟨⟨t1, t2, t3, t4⟩, t5, t6, t7, t8, t9, t10, t11⟩ := h
  by_cases c : k = 0
  · subst c
    rw [tPa_0, tQl_0, tLv_0, tSub_0]
    exact ⟨t2, t3, t7, t8, t9, t10⟩
  · have a := tAll_get t4 (by omega) h1
    have b := tAll_get t11 (by omega) h1
    exact ⟨a.1, a.2, b⟩
theorem xNP_of {M : Mm} {b : Nat} {t : Tr} (h1 : M b 1 = tSz t) (h : ∀ k, 0 ≤ k → k < tSz t → M (b + 1) k = tNm (tSub t k) ∧ M (b + 2) k = tKd (tSub t k)) : xNP M b t := by
  have p := tSz_pos t
  have h0 := h 0 (by omega) (by omega)
  rw [tSub_0] at h0
  exact ⟨h1, h0.1, h0.2, tAll_put fun k c1 c2 => h k (by omega) c2⟩
theorem mTr_at {M : Mm} {b : Int} {t : Tr} (h : mTr M b t) {k : Int} (h0 : 0 ≤ k) (h1 : k < tSz t) : M 165 (b + 1 + k) = tNm (tSub t k) ∧ M 165 (b + 81 + k) = tSz (tSub t k) := by
  obtain ⟨⟨t1, t2, t3, t4⟩, t5⟩ := h
  by_cases c : k = 0
  · subst c
    rw [tSub_0]
    exact ⟨t2, t3⟩
  · exact tAll_get t4 (by omega) h1
theorem mTr_of {M : Mm} {b : Int} {t : Tr} (hz : tSz t ≤ 80) (h1 : M 165 b = tSz t) (h : ∀ k, 0 ≤ k → k < tSz t → M 165 (b + 1 + k) = tNm (tSub t k) ∧ M 165 (b + 81 + k) = tSz (tSub t k)) : mTr M b t := by
  have p := tSz_pos t
  have h0 := h 0 (by omega) (by omega)
  rw [tSub_0] at h0
  exact ⟨⟨h1, h0.1, h0.2, tAll_put fun k c1 c2 => h k (by omega) c2⟩, hz⟩
/-- the node stands for a star -/
abbrev tStar (G : Mm) (t : Tr) (k : Int) : Prop := 0 ≤ tPa t k ∧ gNeed G (tNm (tSub t (tPa t k))) ≤ tQl t k
theorem mLay_at {G M : Mm} {t : Tr} {b : Int} (h : mLay G M t b) (hm : mTr M b t) {k : Int} (h0 : 0 ≤ k) (h1 : k < tSz t) : M 177 k = tPa t k ∧ M 178 k = tLv t k ∧ M 179 k = tQl t k ∧ (M 180 k = 0 ∨ M 180 k = 1) ∧ (M 180 k = 1 ↔ tStar G t k) := by
  obtain ⟨t1, t2, t3, t4, t5, t6⟩ := h
  by_cases c : k = 0
  · subst c
    unfold tStar
    rw [tPa_0, tQl_0, tLv_0, t5]
    exact ⟨t2, t3, t4, .inl rfl, ⟨fun q => absurd q (by decide), fun q => absurd q.1 (by decide)⟩⟩
  · have a := tAll_get t6 (by omega) h1
    unfold mLy at a
    have pb := tPl_b h0 h1
    have e := (mTr_at hm (k := tPa t k) (by omega) (by omega)).1
    simp only [e] at a
    unfold tStar
    refine ⟨a.1, a.2.1, a.2.2.1, by rw [a.2.2.2]; exact fl_b, ?_⟩
    rw [a.2.2.2, fl_1]
    exact ⟨fun q => ⟨by omega, q⟩, fun q => q.2⟩
theorem zIfT {A P Q : Prop} (h : A) (p : P) : (A → P) ∧ (¬ A → Q) := ⟨fun _ => p, fun c => absurd h c⟩
theorem zIfF {A P Q : Prop} (h : ¬ A) (q : Q) : (A → P) ∧ (¬ A → Q) := ⟨fun c => absurd c h, fun _ => q⟩
theorem tAll_getS {Φ : Int → Tr → Int → Int → Int → Prop} {t : Tr} {k : Int} (h : tAll Φ t 0 0) (h0 : 0 ≤ k) (h1 : k < tSz t) : tAll Φ (tSub t k) k (tLv t k) := by
  by_cases c : k = 0
  · subst c
    rw [tSub_0, tLv_0]; exact h
  · obtain ⟨u, a, q, v, _, _, _, _, _, g⟩ := tAll_at t 0 0 k (by omega) (by omega)
    have e := (g _ (tView t 0 0)).1
    unfold tVw at e
    rw [Int.sub_zero, Int.add_zero, Int.add_zero] at e
    rw [← e.1, ← e.2.2.2]
    exact (g _ h).2
theorem tNm_b {L : Int} {t : Tr} (h : tVal L t) (k : Int) : 0 ≤ tNm (tSub t k) ∧ tNm (tSub t k) < L := tVal_nm _ (tVal_sub t k h)
