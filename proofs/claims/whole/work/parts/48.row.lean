/-! LAYER 3: rows, and reducing: the pure side -/
def rSel (fr to w : Int) : List Int → Int → List Int
  | [], _ => []
  | x :: R, i => if fl (fr ≤ i ∧ i < to) = w then x :: rSel fr to w R (i + 1) else rSel fr to w R (i + 1)
def rNot (fr to w : Int) : List Int → Int → List Int
  | [], _ => []
  | x :: R, i => if fl (fr ≤ i ∧ i < to) = w then rNot fr to w R (i + 1) else x :: rNot fr to w R (i + 1)
theorem rSel_sub {fr to w : Int} : ∀ (R : List Int) (i : Int), ∀ x ∈ rSel fr to w R i, x ∈ R
  | [], i, x, h => absurd h (by simp [rSel])
  | y :: R, i, x, h => by
    unfold rSel at h
    split at h
    · rcases List.mem_cons.mp h with e | e
      · rw [e]; exact List.mem_cons_self
      · exact List.mem_cons_of_mem _ (rSel_sub R _ x e)
    · exact List.mem_cons_of_mem _ (rSel_sub R _ x h)
theorem rNot_sub {fr to w : Int} : ∀ (R : List Int) (i : Int), ∀ x ∈ rNot fr to w R i, x ∈ R
  | [], i, x, h => absurd h (by simp [rNot])
  | y :: R, i, x, h => by
    unfold rNot at h
    split at h
    · exact List.mem_cons_of_mem _ (rNot_sub R _ x h)
    · rcases List.mem_cons.mp h with e | e
      · rw [e]; exact List.mem_cons_self
      · exact List.mem_cons_of_mem _ (rNot_sub R _ x e)
def rInc : List Int → Prop
  | [] => True
  | x :: R => (∀ y ∈ R, x < y) ∧ rInc R
theorem rNot_inc {fr to w : Int} : ∀ (R : List Int) (i : Int), rInc R → rInc (rNot fr to w R i)
  | [], i, h => trivial
  | y :: R, i, h => by
    unfold rNot
    split
    · exact rNot_inc R _ h.2
    · exact ⟨fun z hz => h.1 z (rNot_sub R _ z hz), rNot_inc R _ h.2⟩
theorem rDisj {fr to w : Int} : ∀ (R : List Int) (i : Int), rInc R → ∀ x ∈ rNot fr to w R i, x ∉ rSel fr to w R i
  | [], i, h, x, hx => absurd hx (by simp [rNot])
  | y :: R, i, h, x, hx => by
    unfold rNot at hx
    unfold rSel
    by_cases c : fl (fr ≤ i ∧ i < to) = w
    · rw [if_pos c] at hx ⊢
      intro hs
      rcases List.mem_cons.mp hs with e | e
      · have := h.1 x (rNot_sub R _ x hx)
        omega
      · exact rDisj R _ h.2 x hx e
    · rw [if_neg c] at hx ⊢
      intro hs
      rcases List.mem_cons.mp hx with e | e
      · have := h.1 x (rSel_sub R _ x hs)
        omega
      · exact rDisj R _ h.2 x e hs
theorem rLen {fr to w : Int} : ∀ (R : List Int) (i : Int), (rSel fr to w R i).length + (rNot fr to w R i).length = R.length
  | [], i => rfl
  | y :: R, i => by
    have ih := rLen (fr := fr) (to := to) (w := w) R (i + 1)
    unfold rSel rNot
    split
    · show (rSel fr to w R (i + 1)).length + 1 + _ = R.length + 1; omega
    · show _ + ((rNot fr to w R (i + 1)).length + 1) = R.length + 1; omega
/-- how many are within -/
theorem rSel_cnt {fr to : Int} : ∀ (R : List Int) (i : Int), ((rSel fr to 1 R i).length : Int) = zMax 0 (zMin to (i + R.length) - zMax fr i)
  | [], i => by
    have z1 := @zMax_b 0 (zMin to (i + (([] : List Int).length : Int)) - zMax fr i)
    have z2 := @zMax_b fr i
    have e : (([] : List Int).length : Int) = 0 := rfl
    show (0 : Int) = _
    unfold zMin at *
    rw [e] at z1 ⊢
    split at z1 <;> split <;> omega
  | y :: R, i => by
    have ih := rSel_cnt (fr := fr) (to := to) R (i + 1)
    have el : ((y :: R).length : Int) = (R.length : Int) + 1 := by show ((R.length + 1 : Nat) : Int) = _; omega
    rw [el, show i + ((R.length : Int) + 1) = i + 1 + R.length by omega]
    have z1 := @zMax_b 0 (zMin to (i + 1 + R.length) - zMax fr (i + 1))
    have z2 := @zMax_b fr i
    have z3 := @zMax_b fr (i + 1)
    have z4 := @zMax_b 0 (zMin to (i + 1 + R.length) - zMax fr i)
    have zm : zMin to (i + 1 + R.length) ≤ to ∧ zMin to (i + 1 + R.length) ≤ i + 1 + R.length ∧ (zMin to (i + 1 + R.length) = to ∨ zMin to (i + 1 + R.length) = i + 1 + R.length) := by
      unfold zMin; split <;> omega
    unfold rSel
    by_cases c : fr ≤ i ∧ i < to
    · rw [if_pos (fl_t c)]
      show (((rSel fr to 1 R (i + 1)).length + 1 : Nat) : Int) = _
      omega
    · rw [if_neg (by rw [fl_f c]; decide)]
      omega
def rMk (G : Mm) (t : Tr) (S : List Int) : Int → Int := fun x => if x ∈ S then (if tStar G t x then 0 else 1) else -1
def rOk (G : Mm) (t : Tr) (lev : Int) (R : List Int) : Prop := (∀ x ∈ R, 0 < x ∧ x < tSz t ∧ tRow G t lev x) ∧ rInc R
theorem rMk_in {G : Mm} {t : Tr} {S : List Int} {x : Int} (h : x ∈ S) : rMk G t S x = if tStar G t x then 0 else 1 := if_pos h
theorem rMk_out {G : Mm} {t : Tr} {S : List Int} {x : Int} (h : x ∉ S) : rMk G t S x = -1 := if_neg h
theorem rMk_v {G : Mm} {t : Tr} {S : List Int} (x : Int) : rMk G t S x = -1 ∨ rMk G t S x = 0 ∨ rMk G t S x = 1 := by
  unfold rMk
  split
  · split <;> omega
  · omega
theorem rMk_bMk {G : Mm} {t : Tr} {lev : Int} {R S : List Int} {H : Tr} (hR : rOk G t lev R) (hS : ∀ x ∈ S, x ∈ R) : bMk G (rMk G t S) H 0 t 0 0 0 ∧ tAll (bMk G (rMk G t S) H) t 0 0 ∧ rMk G t S 0 = -1 ∧ (∀ k, rMk G t S k ≠ -1 → k ∈ S ∧ tLv t k = lev) := by
  have h0 : rMk G t S 0 = -1 := rMk_out (fun h => by have := (hR.1 0 (hS 0 h)).1; omega)
  have h4 : ∀ k, rMk G t S k ≠ -1 → k ∈ S ∧ tLv t k = lev := by
    intro k hk
    by_cases c : k ∈ S
    · exact ⟨c, (hR.1 k (hS k c)).2.2.1⟩
    · exact absurd (rMk_out c) hk
  have gen : ∀ k, bMk G (rMk G t S) H k (tSub t k) 0 0 0 := by
    intro k
    have hv := rMk_v (G := G) (t := t) (S := S) k
    refine ⟨by omega, fun h1 => ?_, fun h2 => by omega⟩
    have hs := (h4 k (by omega)).1
    rw [rMk_in hs] at h1
    have hr := (hR.1 k (hS k hs)).2.2.2
    by_cases c : tStar G t k
    · rw [if_pos c] at h1; omega
    · rcases hr with hr | hr
      · exact absurd hr c
      · exact Int.le_of_lt hr
  refine ⟨?_, tAll_put fun k _ _ => gen k, h0, h4⟩
  have := gen 0
  rw [tSub_0] at this
  exact this
theorem tLv_in {t : Tr} {x y : Int} (h0 : 0 ≤ x) (h1 : x < tSz t) (c1 : x < y) (c2 : y < x + tSz (tSub t x)) : tLv t x < tLv t y := by
  have hA := tAll_getS (t := t) (tAll_put (Φ := fun k _ _ _ v => v = tLv t k) fun _ _ _ => rfl) h0 h1
  obtain ⟨u, a, q, v, _, _, _, g4, _, g⟩ := tAll_at (tSub t x) x (tLv t x) y c1 c2
  have := (g _ hA).1
  omega
/-- the row behind a change -/
theorem rOk_next {G : Mm} {t H : Tr} {lev fr to w : Int} {R : List Int} (hR : rOk G t lev R) : rOk G (bR G (rMk G t (rSel fr to w R 0)) H t 0) lev ((rNot fr to w R 0).map (bPos G (rMk G t (rSel fr to w R 0)) H t 0)) := by
  have hS := rSel_sub (fr := fr) (to := to) (w := w) R 0
  have hN := rNot_sub (fr := fr) (to := to) (w := w) R 0
  have hD := rDisj (fr := fr) (to := to) (w := w) R 0 hR.2
  have hNi := rNot_inc (fr := fr) (to := to) (w := w) R 0 hR.2
  generalize rSel fr to w R 0 = S at *
  generalize rNot fr to w R 0 = N at *
  obtain ⟨m1, m2, m3, m4⟩ := rMk_bMk (H := H) hR hS
  have hv : ∀ k, 0 < k → k < 0 + tSz t → rMk G t S k = -1 ∨ rMk G t S k = 0 ∨ rMk G t S k = 1 ∨ rMk G t S k = 2 := fun k _ _ => by
    have := rMk_v (G := G) (t := t) (S := S) k; omega
  have q1 := tSz_pos t
  have vis : ∀ x ∈ N, bVis (rMk G t S) t 0 x := fun x hx => by
    have hr := hR.1 x (hN x hx)
    exact bVis_lev (fun k _ _ hk => (m4 k hk).2) t 0 0 (by omega) (by omega) (tAll_put fun _ _ _ => rfl) x (by omega) (by omega) (by have := hr.2.2.1; omega) (.inr (by
      have := hr.2.2.1
      have pb := tPl_b (t := t) (k := x) (by omega) hr.2.1
      have := (pb.2.2.1 hr.1).2.2
      omega))
  have kept : ∀ x ∈ N, bKept G t (bR G (rMk G t S) H t 0) x (bPos G (rMk G t S) H t 0 x) := fun x hx => by
    have hr := hR.1 x (hN x hx)
    have := bPos_ok (G := G) (H := H) (nm := fun k => tNm (tSub t k)) t 0 0 hv (by rw [tSub_0]) (tAll_put fun k c1 c2 => ⟨rfl, fun h0 => ?_⟩) x hr.1 (by omega) (rMk_out (hD x hx)) (fun y c1 c2 => ?_) (vis x hx)
    · rw [Int.sub_zero] at this
      exact this
    · have hs := m4 k (by omega)
      rw [rMk_in hs.1] at h0
      by_cases c : tStar G t k
      · exact c.2
      · rw [if_neg c] at h0; omega
    · rw [Int.sub_zero] at c2
      have lt := tLv_in (by omega) hr.2.1 c1 c2
      refine rMk_out (fun hy => ?_)
      have := (hR.1 y (hS y hy)).2.2.1
      have := hr.2.2.1
      omega
  refine ⟨fun y hy => ?_, ?_⟩
  · obtain ⟨x, hx, e⟩ := List.mem_map.mp hy
    subst e
    have hr := hR.1 x (hN x hx)
    obtain ⟨k1, k2, k3, k4, k5⟩ := kept x hx
    refine ⟨k1, k2, by rw [k4]; exact hr.2.2.1, ?_⟩
    have pb2 := tPl_b (t := bR G (rMk G t S) H t 0) (k := bPos G (rMk G t S) H t 0 x) (by omega) k2
    rcases hr.2.2.2 with h | h
    · exact .inl ⟨(pb2.2.2.1 k1).1, k5 h.2⟩
    · right
      show G 12 _ < _
      rw [k3]
      exact h
  · have gen : ∀ (L : List Int), rInc L → (∀ x ∈ L, x ∈ N) → rInc (L.map (bPos G (rMk G t S) H t 0)) := by
      intro L
      induction L with
      | nil => exact fun _ _ => trivial
      | cons a L ih =>
        intro hi hs
        refine ⟨fun y hy => ?_, ih hi.2 (fun x hx => hs x (List.mem_cons_of_mem _ hx))⟩
        obtain ⟨x, hx, e⟩ := List.mem_map.mp hy
        subst e
        have ha := hR.1 a (hN a (hs a List.mem_cons_self))
        have hx2 := hs x (List.mem_cons_of_mem _ hx)
        have hr := hR.1 x (hN x hx2)
        exact bPos_mono t 0 a x hv (by omega) (hi.1 x hx) (by omega) (.inr (rMk_out (hD a (hs a List.mem_cons_self)))) (rMk_out (hD x hx2)) (vis a (hs a List.mem_cons_self)) (vis x hx2)
    exact gen N hNi (fun _ h => h)
theorem bT_row {G : Mm} {t H : Tr} {mk : Int → Int} (h : mk 0 = -1) : bT G mk H t = bR G mk H t 0 := by
  unfold bT
  rw [if_neg (by omega), if_neg (by omega)]
/-- a change of a row that is not empty makes it smaller -/
theorem rRow_lt {G : Mm} (hg : gOk G) {t H : Tr} {lev : Int} {R S : List Int} (hv : tVal (G 4 0) t) (hR : rOk G t lev R) (hS : ∀ x ∈ S, x ∈ R) (hne : S ≠ []) : tSz (bR G (rMk G t S) H t 0) < tSz t := by
  obtain ⟨m1, m2, m3, m4⟩ := rMk_bMk (H := H) hR hS
  have q1 := tSz_pos t
  match S, hne, hS, m1, m2, m3, m4 with
  | x :: S, _, hS, m1, m2, m3, m4 =>
    have hx : x ∈ x :: S := List.mem_cons_self
    have hr := hR.1 x (hS x hx)
    have pb := tPl_b (t := t) (k := x) (by omega) hr.2.1
    refine bR_lt hg t 0 0 x hv m2 hr.1 (by omega) (bVis_lev (fun k _ _ hk => (m4 k hk).2) t 0 0 (by omega) (by omega) (tAll_put fun _ _ _ => rfl) x (by omega) (by omega) (by have := hr.2.2.1; omega) (.inr (by
      have := (pb.2.2.1 hr.1).2.2
      omega))) ?_ ?_ ?_
    · rw [rMk_in hx]; split <;> omega
    · rw [rMk_in hx, Int.sub_zero]
      intro h1
      by_cases c : tStar G t x
      · rw [if_pos c] at h1; omega
      · rcases hr.2.2.2 with h | h
        · exact absurd h c
        · exact h
    · rw [rMk_in hx]
      intro h2
      split at h2 <;> omega
-- reducing: tree, judge, how many were taken
abbrev Rs : Type := Tr × Js × Int
noncomputable def rTk (B : List Bg) (vs bug : Int) (S : Rs) (t' : Tr) (why wh : Int) : Int × Rs :=
  if (jAsk B vs S.2.1 t' why wh).1 = bug then (1, (t', (jAsk B vs S.2.1 t' why wh).2, S.2.2 + 1)) else (0, (S.1, (jAsk B vs S.2.1 t' why wh).2, S.2.2))
def rsOk (G : Mm) (B : List Bg) (S : Rs) : Prop := tSz S.1 ≤ 80 ∧ tVal (G 4 0) S.1 ∧ jOk (G 4 0) B.length S.2.1
/-- what a step of reducing keeps -/
def rsLe (S S' : Rs) : Prop := tSz S'.1 + S'.2.2 ≤ tSz S.1 + S.2.2 ∧ S.2.2 ≤ S'.2.2
theorem rTk_ok {G : Mm} {B : List Bg} {vs bug why wh : Int} {S : Rs} {t' : Tr} (h : rsOk G B S) (hz : tSz t' < tSz S.1) (hv : tVal (G 4 0) t') : rsOk G B (rTk B vs bug S t' why wh).2 ∧ rsLe S (rTk B vs bug S t' why wh).2 ∧ (((rTk B vs bug S t' why wh).1 = 1 ∧ (rTk B vs bug S t' why wh).2.1 = t' ∧ (rTk B vs bug S t' why wh).2.2.2 = S.2.2 + 1) ∨ ((rTk B vs bug S t' why wh).1 = 0 ∧ (rTk B vs bug S t' why wh).2.1 = S.1 ∧ (rTk B vs bug S t' why wh).2.2.2 = S.2.2)) := by
  obtain ⟨h1, h2, h3⟩ := h
  have ja := jAsk_ok (vs := vs) (t := t') (why := why) (wh := wh) h3 (by omega) hv
  unfold rTk
  split
  · refine ⟨⟨by show tSz t' ≤ 80; omega, hv, ja.1⟩, ⟨by show tSz t' + (S.2.2 + 1) ≤ _; omega, by show S.2.2 ≤ S.2.2 + 1; omega⟩, .inl ⟨rfl, rfl, rfl⟩⟩
  · exact ⟨⟨h1, h2, ja.1⟩, ⟨Int.le_refl _, Int.le_refl _⟩, .inr ⟨rfl, rfl, rfl⟩⟩
