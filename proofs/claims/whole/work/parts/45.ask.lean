/-! LAYER 3: asking for a verdict -/
theorem eS_len {t : Tr} {s : St5} {st : List Int} {L : Int} (hs : sV L s) : (s.1 = 10 → (eS t s st).length = st.length) ∧ ((s.1 = 11 ∨ s.1 = 12) → 2 ≤ st.length → (eS t s st).length + 1 = st.length) ∧ (s.1 ≤ 4 → (eS t s st).length = st.length + 1) := by
  refine ⟨fun h => ?_, fun h h2 => ?_, fun h => ?_⟩
  · unfold eS
    rw [if_pos h]
    match st with
    | [] => rfl
    | x :: r => rfl
  · unfold eS
    rcases h with h | h
    · rw [if_neg (by omega), if_pos h]
      match st, h2 with
      | y :: x :: r, _ => rfl
    · rw [if_neg (by omega), if_neg (by omega), if_pos h]
      match st, h2 with
      | y :: x :: r, _ => rfl
  · unfold eS
    rw [if_neg (by omega), if_neg (by omega), if_neg (by omega)]
    rfl
theorem eL_ok {t : Tr} {L : Int} : ∀ (cd : List St5) (st : List Int), (∀ s ∈ cd, sV L s) → wL cd st.length → bits01 st → (eL t cd st).length = 1 ∧ bits01 (eL t cd st)
  | [], st, hs, hw, hb => by
    have hw : (st.length : Int) = 1 := hw
    exact ⟨by show st.length = 1; omega, hb⟩
  | s :: cd, st, hs, hw, hb => by
    have hsv := hs s List.mem_cons_self
    have el := eS_len (t := t) (st := st) hsv
    obtain ⟨w10, w11, w4⟩ := hw
    refine eL_ok cd (eS t s st) (fun s h => hs s (List.mem_cons_of_mem _ h)) ?_ (eS_01 hb)
    rcases hsv with (h | h | h) | h
    · rw [el.1 h]; exact (w10 h).2
    · have w := w11 (.inl h)
      have := el.2.1 (.inl h) (by omega)
      rw [show ((eS t s st).length : Int) = (st.length : Int) - 1 by omega]
      exact w.2
    · have w := w11 (.inr h)
      have := el.2.1 (.inr h) (by omega)
      rw [show ((eS t s st).length : Int) = (st.length : Int) - 1 by omega]
      exact w.2
    · have w := w4 h.1.2
      have := el.2.2 h.1.2
      rw [show ((eS t s st).length : Int) = (st.length : Int) + 1 by omega]
      exact w.2
theorem eB_01 {t : Tr} {L : Int} {cd : List St5} (hs : ∀ s ∈ cd, sV L s) (hw : wL cd 0) : eB t cd = 0 ∨ eB t cd = 1 := by
  have h := eL_ok (t := t) cd [] hs hw (fun _ h => absurd h (by simp))
  exact (eL_head h.2 h.1).2
theorem eBs_b {t : Tr} {L : Int} : ∀ (B : List Bg) (i : Nat) (a : Int), bOk L B → i + B.length ≤ 6 → 0 ≤ a ∧ a < 2 ^ i → 0 ≤ eBs t B i a ∧ eBs t B i a < 64
  | [], i, a, hB, hi, ha => by
    have hp : (2 : Nat) ^ i ≤ 2 ^ 6 := Nat.pow_le_pow_right (by decide) (by have : i + 0 ≤ 6 := hi; omega)
    have h64 : (2 : Nat) ^ 6 = 64 := rfl
    have e := zpow_nat i
    show 0 ≤ a ∧ a < 64
    omega
  | b :: B, i, a, hB, hi, ha => by
    have hi : i + (B.length + 1) ≤ 6 := hi
    obtain ⟨b1, b2, b3, b4⟩ := hB b List.mem_cons_self
    have ob := zOr_bit ha (by omega) (eB_01 (t := t) b3 b4)
    exact eBs_b B (i + 1) _ (fun x hx => hB x (List.mem_cons_of_mem _ hx)) (by omega) ob.2
def bg (B : List Bg) (j : Nat) : Bg := B.getD j (0, 0, [])
def bOd (B : List Bg) (i : Int) : Int := (bg B i.toNat).2.1
theorem xBs_get {M : Mm} {b : Nat} : ∀ (B : List Bg) (i c : Int), xBs M b B i c → ∀ j : Nat, j < B.length → M (b + 1) (i + j) = (bg B j).1 ∧ M (b + 2) (i + j) = (bg B j).2.1
  | [], i, c, h, j, hj => absurd hj (Nat.not_lt_zero j)
  | (nm, od, cd) :: B, i, c, h, j, hj => by
    obtain ⟨h1, h2, h3, h4, h5⟩ := h
    match j, hj with
    | 0, _ =>
      rw [show i + ((0 : Nat) : Int) = i by omega]
      exact ⟨h1, h2⟩
    | j + 1, hj =>
      have := xBs_get B (i + 1) _ h5 j (by have : j + 1 < B.length + 1 := hj; omega)
      rw [show i + 1 + (j : Int) = i + ((j + 1 : Nat) : Int) by omega] at this
      exact this
theorem mBs_get {M : Mm} : ∀ (B : List Bg) (i c : Int), mBs M B i c → ∀ j : Nat, j < B.length → M 174 (i + j) = (bg B j).1 ∧ M 172 (i + j) = (bg B j).2.1
  | [], i, c, h, j, hj => absurd hj (Nat.not_lt_zero j)
  | (nm, od, cd) :: B, i, c, h, j, hj => by
    obtain ⟨h1, h2, h3, h4, h5⟩ := h
    match j, hj with
    | 0, _ =>
      rw [show i + ((0 : Nat) : Int) = i by omega]
      exact ⟨h2, h3⟩
    | j + 1, hj =>
      have := mBs_get B (i + 1) _ h5 j (by have : j + 1 < B.length + 1 := hj; omega)
      rw [show i + 1 + (j : Int) = i + ((j + 1 : Nat) : Int) by omega] at this
      exact this
theorem bg_mem {B : List Bg} {j : Nat} (h : j < B.length) : bg B j ∈ B := by
  unfold bg
  rw [List.getD_eq_getElem?_getD, List.getElem?_eq_getElem h]
  exact List.getElem_mem h
/-- bugs over a grammar of L lines -/
def bCx (L : Int) (B : List Bg) : Prop := B.length ≤ 6 ∧ bLen B ≤ 333 ∧ bOk L B ∧ L ≤ 24
def xBg (M : Mm) (B : List Bg) : Prop := M 24 0 = B.length ∧ xBs M 24 B 0 0
def mBg (M : Mm) (B : List Bg) : Prop := M 154 37 = B.length ∧ mBs M B 0 0
theorem xBs_fr {M M' : Mm} {b : Nat} (f : ∀ c, b ≤ c → c ≤ b + 6 → M' c = M c) : ∀ (B : List Bg) (i c : Int), xBs M b B i c → xBs M' b B i c := by
  have fc : ∀ (cd : List St5) (c : Int), xCd M b cd c → xCd M' b cd c := by
    intro cd
    induction cd with
    | nil => exact fun _ _ => trivial
    | cons s L ih =>
      intro c h
      refine ⟨?_, ih _ h.2⟩
      have := h.1
      unfold xStp at this ⊢
      rw [f (b + 3) (by omega) (by omega), f (b + 4) (by omega) (by omega), f (b + 5) (by omega) (by omega), f (b + 6) (by omega) (by omega)]
      exact this
  intro B
  induction B with
  | nil =>
    intro i c h
    show M' b 3 = c
    rw [f b (by omega) (by omega)]; exact h
  | cons x B ih =>
    obtain ⟨nm, od, cd⟩ := x
    intro i c h
    obtain ⟨h1, h2, h3, h4, h5⟩ := h
    exact ⟨by rw [f (b + 1) (by omega) (by omega)]; exact h1, by rw [f (b + 2) (by omega) (by omega)]; exact h2, fc _ _ h3, by rw [f (b + 3) (by omega) (by omega)]; exact h4, ih _ _ h5⟩
theorem xBg_fr {M M' : Mm} {B : List Bg} (h : xBg M B) (f : ∀ c, 24 ≤ c → c ≤ 30 → M' c = M c) : xBg M' B :=
  ⟨by rw [f 24 (by decide) (by decide)]; exact h.1, xBs_fr (fun c c1 c2 => f c c1 c2) B 0 0 h.2⟩
theorem xBg_od {M : Mm} {B : List Bg} {L : Int} (h : xBg M B) (hB : bCx L B) : ∀ k, 0 ≤ k → k < (B.length : Int) → M 26 k = bOd B k ∧ 1 ≤ bOd B k ∧ bOd B k ≤ 100 := by
  intro k k0 k1
  have a := (xBs_get B 0 0 h.2 k.toNat (by omega)).2
  rw [show (0 : Int) + ((k.toNat : Nat) : Int) = k by omega] at a
  have b := (hB.2.2.1 _ (bg_mem (j := k.toNat) (by omega))).2.1
  exact ⟨a, b.1, b.2⟩
theorem mBg_od {M : Mm} {B : List Bg} {L : Int} (h : mBg M B) (hB : bCx L B) : ∀ k, 0 ≤ k → k < (B.length : Int) → M 172 k = bOd B k ∧ 1 ≤ bOd B k ∧ bOd B k ≤ 100 := by
  intro k k0 k1
  have a := (mBs_get B 0 0 h.2 k.toNat (by omega)).2
  rw [show (0 : Int) + ((k.toNat : Nat) : Int) = k by omega] at a
  have b := (hB.2.2.1 _ (bg_mem (j := k.toNat) (by omega))).2.1
  exact ⟨a, b.1, b.2⟩
-- the state of the judge: tried, seed, again, runs, out
abbrev Js : Type := List Te × Int × Int × Int × Int
noncomputable def fnd (t : Tr) : List Te → Int → Int
  | [], _ => -1
  | x :: L, i => @ite Int (x.1 = t) (Classical.propDecidable _) i (fnd t L (i + 1))
theorem fnd_no {t : Tr} : ∀ (L : List Te) (i : Int), (∀ j : Nat, j < L.length → (te L j).1 ≠ t) → fnd t L i = -1
  | [], i, h => rfl
  | x :: L, i, h => by
    unfold fnd
    rw [if_neg (show ¬ x.1 = t from h 0 (Nat.succ_pos _))]
    exact fnd_no L (i + 1) (fun j hj => h (j + 1) (Nat.succ_lt_succ hj))
theorem fnd_at {t : Tr} : ∀ (L : List Te) (i : Int) (a : Nat), a < L.length → (te L a).1 = t → (∀ j : Nat, j < a → (te L j).1 ≠ t) → fnd t L i = i + a
  | [], i, a, ha, e, h => absurd ha (Nat.not_lt_zero a)
  | x :: L, i, 0, ha, e, h => by
    unfold fnd
    rw [if_pos (show x.1 = t from e)]
    show i = i + 0
    omega
  | x :: L, i, a + 1, ha, e, h => by
    unfold fnd
    rw [if_neg (show ¬ x.1 = t from h 0 (Nat.succ_pos _))]
    have := fnd_at L (i + 1) a (Nat.lt_of_succ_lt_succ ha) e (fun j hj => h (j + 1) (Nat.succ_lt_succ hj))
    rw [this]
    omega
theorem fnd_d {t : Tr} {L : List Te} (hd : tDist L) {a : Nat} (ha : a < L.length) (e : (te L a).1 = t) : fnd t L 0 = a := by
  rw [fnd_at L 0 a ha e (fun j hj => by rw [← e]; exact hd j a hj ha)]
  omega
noncomputable def jAsk (B : List Bg) (vs : Int) (J : Js) (t : Tr) (why wh : Int) : Int × Js :=
  if fnd t J.1 0 = -1 then (if J.1.length = 600 then (-1, (J.1, J.2.1, J.2.2.1, J.2.2.2.1, J.2.2.2.2 + 1)) else ((vRes (bOd B) (eBs t B 0 0) B.length vs.toNat J.2.1).1, (J.1 ++ [(t, (vRes (bOd B) (eBs t B 0 0) B.length vs.toNat J.2.1).1, why, wh)], (vRes (bOd B) (eBs t B 0 0) B.length vs.toNat J.2.1).2, J.2.2.1, J.2.2.2.1 + vs, J.2.2.2.2)))
  else ((te J.1 (fnd t J.1 0).toNat).2.1, (J.1, J.2.1, J.2.2.1 + 1, J.2.2.2.1, J.2.2.2.2))
theorem vB_b {T : Int → Int} : ∀ (m : Nat) (i b n : Int), 0 ≤ b → b < n → 0 ≤ i → i + m ≤ n → 0 ≤ vB T m i b ∧ vB T m i b < n
  | 0, i, b, n, h0, h1, hi, hm => ⟨h0, h1⟩
  | m + 1, i, b, n, h0, h1, hi, hm => by
    unfold vB
    split
    · exact vB_b m (i + 1) i n hi (by omega) (by omega) (by omega)
    · exact vB_b m (i + 1) b n h0 h1 (by omega) (by omega)
theorem vRes_b {od : Int → Int} {bits s : Int} {n v : Nat} (hs : 0 ≤ s ∧ s < 2147483648) : (-1 ≤ (vRes od bits n v s).1 ∧ ((vRes od bits n v s).1 < n)) ∧ 0 ≤ (vRes od bits n v s).2 ∧ (vRes od bits n v s).2 < 2147483648 := by
  have vb := vL_b (od := od) (bits := bits) (n := n) v s (fun _ => 0) 0 hs (fun _ => ⟨Int.le_refl 0, Int.le_refl 0⟩)
  refine ⟨?_, vb.2⟩
  show -1 ≤ vV _ n ∧ vV _ n < (n : Int)
  unfold vV
  split
  · omega
  · have := vB_b (T := (vL od bits n v s (fun _ => 0)).1) (n - 1) 1 0 n (by omega) (by omega) (by omega) (by omega)
    split <;> omega
/-- a state that can be -/
def jOk (L n : Int) (J : Js) : Prop := tDist J.1 ∧ J.1.length ≤ 600 ∧ (∀ i : Nat, i < J.1.length → tSz (te J.1 i).1 ≤ 80 ∧ tVal L (te J.1 i).1 ∧ -1 ≤ (te J.1 i).2.1 ∧ (te J.1 i).2.1 < n) ∧ 0 ≤ J.2.1 ∧ J.2.1 < 2147483648
theorem te_app {L : List Te} {x : Te} {i : Nat} (h : i < L.length) : te (L ++ [x]) i = te L i := by
  unfold te
  rw [List.getD_eq_getElem?_getD, List.getD_eq_getElem?_getD, List.getElem?_append_left h]
theorem te_new {L : List Te} {x : Te} : te (L ++ [x]) L.length = x := by
  unfold te
  rw [List.getD_eq_getElem?_getD, List.getElem?_append_right (Nat.le_refl _), Nat.sub_self]
  rfl
theorem fnd_or {t : Tr} {L : List Te} (hd : tDist L) : (fnd t L 0 = -1 ∧ ∀ i : Nat, i < L.length → (te L i).1 ≠ t) ∨ (∃ a : Nat, a < L.length ∧ (te L a).1 = t ∧ fnd t L 0 = (a : Int)) := by
  by_cases h : ∃ a : Nat, a < L.length ∧ (te L a).1 = t
  · obtain ⟨a, ha, e⟩ := h
    exact .inr ⟨a, ha, e, fnd_d hd ha e⟩
  · have h2 : ∀ i : Nat, i < L.length → (te L i).1 ≠ t := fun i hi e => h ⟨i, hi, e⟩
    exact .inl ⟨fnd_no L 0 h2, h2⟩
theorem jAsk_ok {L vs : Int} {B : List Bg} {J : Js} {t : Tr} {why wh : Int} (hJ : jOk L B.length J) (hz : tSz t ≤ 80) (hv : tVal L t) : jOk L B.length (jAsk B vs J t why wh).2 ∧ -1 ≤ (jAsk B vs J t why wh).1 ∧ (jAsk B vs J t why wh).1 < B.length := by
  obtain ⟨hd, h6, he, hs⟩ := hJ
  have vb := vRes_b (od := bOd B) (bits := eBs t B 0 0) (n := B.length) (v := vs.toNat) hs
  unfold jAsk
  rcases fnd_or (t := t) hd with ⟨e, hn⟩ | ⟨a, ha, e, ef⟩
  · rw [if_pos e]
    by_cases c : J.1.length = 600
    · rw [if_pos c]
      exact ⟨⟨hd, h6, he, hs⟩, by show -1 ≤ (-1 : Int) ∧ (-1 : Int) < _; omega⟩
    · rw [if_neg c]
      refine ⟨⟨?_, ?_, ?_, vb.2⟩, vb.1⟩
      · intro i j hij hj
        have hj : j < (J.1 ++ [(t, (vRes (bOd B) (eBs t B 0 0) B.length vs.toNat J.2.1).1, why, wh)]).length := hj
        rw [List.length_append] at hj
        have hj : j < J.1.length + 1 := hj
        by_cases cj : j = J.1.length
        · subst cj
          rw [te_app (by omega), te_new]
          exact hn i (by omega)
        · rw [te_app (by omega), te_app (by omega)]
          exact hd i j hij (by omega)
      · show (J.1 ++ [_]).length ≤ 600
        rw [List.length_append]
        show J.1.length + 1 ≤ 600
        omega
      · intro i hi
        have hi : i < (J.1 ++ [(t, (vRes (bOd B) (eBs t B 0 0) B.length vs.toNat J.2.1).1, why, wh)]).length := hi
        rw [List.length_append] at hi
        have hi : i < J.1.length + 1 := hi
        by_cases ci : i = J.1.length
        · subst ci
          rw [te_new]
          exact ⟨hz, hv, vb.1⟩
        · rw [te_app (by omega)]
          exact he i (by omega)
  · rw [if_neg (by omega), ef]
    have := he a ha
    exact ⟨⟨hd, h6, he, hs⟩, by show -1 ≤ (te J.1 ((a : Int)).toNat).2.1 ∧ _; rw [show ((a : Int)).toNat = a by omega]; exact this.2.2⟩
def xJ (M : Mm) (J : Js) : Prop := xTd M J.1 ∧ M 147 4 = J.2.1 ∧ M 147 5 = J.2.2.1 ∧ M 147 6 = J.2.2.2.1 ∧ M 147 7 = J.2.2.2.2
theorem pv_app {L : List Te} {x : Te} {h : Int} : ∀ n : Nat, n ≤ L.length → pv (L ++ [x]) n h = pv L n h
  | 0, _ => rfl
  | n + 1, hn => by
    unfold pv
    rw [te_app (by omega), pv_app n (by omega)]
theorem tVal_le {L L' : Int} (h : L ≤ L') : ∀ t : Tr, tVal L t → tVal L' t
  | .var n, hv => Int.lt_of_lt_of_le hv h
  | .op f s, hv => ⟨tVal_le h f hv.1, tVal_le h s hv.2⟩
theorem xTd_fr {M M' : Mm} {L : List Te} (h : xTd M L) (f : ∀ c, 139 ≤ c → c ≤ 145 → M' c = M c) (f0 : M' 138 0 = M 138 0) : xTd M' L := by
  unfold xTd xEn at h ⊢
  rw [f0, f 139 (by decide) (by decide), f 140 (by decide) (by decide), f 141 (by decide) (by decide), f 142 (by decide) (by decide), f 143 (by decide) (by decide), f 144 (by decide) (by decide), f 145 (by decide) (by decide)]
  exact h
theorem x_add {d : Nat} {M : Mm} {K : Kt} {t : Tr} {L : List Te} {v r w : Int} (hL : xTd M L) (h6 : L.length ≠ 600) (hz : tSz t ≤ 80) (hv : tVal 24 t) (hk : ∀ j, 0 ≤ j → j < 16 → M 146 j = pk (kc t) (tSz t).toNat j) (hb : M 138 9 = tHs t)
    (hK : ∀ M', xTd M' (L ++ [(t, v, r, w)]) → (∀ c, (c < 138 ∨ 145 < c) → M' c = M c) → K 0 M') : zSp (d + 1) 94 [.inr (.inr 138), .inl (tSz t), .inl v, .inl r, .inl w] M K := by
  obtain ⟨n0, n6, ne, nl⟩ := hL
  have hbb : 0 ≤ tHs t ∧ tHs t < 1024 := zA1023 _
  rw [me_94, n0, hb]
  (repeat (first | (with_reducible refine zC_i ?hob ?_; case hob => first | assumption | decide | exact zr (by omega) (by omega) | exact zs (by omega) (by omega) | exact zd (by omega) (by omega)) | (with_reducible refine zIfT ?hob ?_; case hob => first | assumption | omega | decide) | (with_reducible refine zIfF ?hob ?_; case hob => first | assumption | omega | decide)))
  with_reducible refine zC_i (zCo_iff.mpr (by omega)) ?_
  (repeat (first | (with_reducible refine zC_i ?hob ?_; case hob => first | assumption | decide | exact zr (by omega) (by omega) | exact zs (by omega) (by omega) | exact zd (by omega) (by omega)) | (with_reducible refine zIfT ?hob ?_; case hob => first | assumption | omega | decide) | (with_reducible refine zIfF ?hob ?_; case hob => first | assumption | omega | decide)))
  refine hK _ ⟨?_, ?_, ?_, ?_⟩ ?_
  · rw [zUp_here, List.length_append]
    show (L.length : Int) + 1 = ((L.length + 1 : Nat) : Int)
    omega
  · rw [List.length_append]
    show L.length + 1 ≤ 600
    omega
  · intro i hi
    rw [List.length_append] at hi
    have hi : i < L.length + 1 := hi
    have c43 : ∀ p, (zUp (zUp (zUp (zCpy (zUp (zUp (zUp (zUp M 139 L.length (tSz t)) 140 L.length v) 141 L.length r) 142 L.length w) 146 0 143 ((L.length : Int) * 16) 16) 144 L.length (M 145 (tHs t))) 145 (tHs t) L.length) 138 0 ((L.length : Int) + 1)) 143 p = if (L.length : Int) * 16 ≤ p ∧ p < (L.length : Int) * 16 + 16 then M 146 (0 + (p - (L.length : Int) * 16)) else M 143 p := fun p => rfl
    have c39 : ∀ p, (zUp (zUp (zUp (zCpy (zUp (zUp (zUp (zUp M 139 L.length (tSz t)) 140 L.length v) 141 L.length r) 142 L.length w) 146 0 143 ((L.length : Int) * 16) 16) 144 L.length (M 145 (tHs t))) 145 (tHs t) L.length) 138 0 ((L.length : Int) + 1)) 139 p = if p = L.length then tSz t else M 139 p := fun p => rfl
    have c40 : ∀ p, (zUp (zUp (zUp (zCpy (zUp (zUp (zUp (zUp M 139 L.length (tSz t)) 140 L.length v) 141 L.length r) 142 L.length w) 146 0 143 ((L.length : Int) * 16) 16) 144 L.length (M 145 (tHs t))) 145 (tHs t) L.length) 138 0 ((L.length : Int) + 1)) 140 p = if p = L.length then v else M 140 p := fun p => rfl
    have c41 : ∀ p, (zUp (zUp (zUp (zCpy (zUp (zUp (zUp (zUp M 139 L.length (tSz t)) 140 L.length v) 141 L.length r) 142 L.length w) 146 0 143 ((L.length : Int) * 16) 16) 144 L.length (M 145 (tHs t))) 145 (tHs t) L.length) 138 0 ((L.length : Int) + 1)) 141 p = if p = L.length then r else M 141 p := fun p => rfl
    have c42 : ∀ p, (zUp (zUp (zUp (zCpy (zUp (zUp (zUp (zUp M 139 L.length (tSz t)) 140 L.length v) 141 L.length r) 142 L.length w) 146 0 143 ((L.length : Int) * 16) 16) 144 L.length (M 145 (tHs t))) 145 (tHs t) L.length) 138 0 ((L.length : Int) + 1)) 142 p = if p = L.length then w else M 142 p := fun p => rfl
    have c44 : ∀ p, (zUp (zUp (zUp (zCpy (zUp (zUp (zUp (zUp M 139 L.length (tSz t)) 140 L.length v) 141 L.length r) 142 L.length w) 146 0 143 ((L.length : Int) * 16) 16) 144 L.length (M 145 (tHs t))) 145 (tHs t) L.length) 138 0 ((L.length : Int) + 1)) 144 p = if p = L.length then M 145 (tHs t) else M 144 p := fun p => rfl
    unfold xEn
    by_cases ci : i = L.length
    · subst ci
      rw [te_new, c39, c40, c41, c42, c44, if_pos rfl, if_pos rfl, if_pos rfl, if_pos rfl, if_pos rfl, pv_app _ (Nat.le_refl _)]
      refine ⟨⟨hz, hv⟩, rfl, rfl, rfl, rfl, fun j j0 j1 => ?_, nl _ hbb.1 hbb.2⟩
      rw [c43, if_pos (by omega), show 0 + ((L.length : Int) * 16 + j - (L.length : Int) * 16) = j by omega]
      exact hk j j0 j1
    · obtain ⟨z, m1, m2, m3, m4, m5, m6⟩ := ne i (by omega)
      rw [te_app (by omega), c39, c40, c41, c42, c44, if_neg (by omega), if_neg (by omega), if_neg (by omega), if_neg (by omega), if_neg (by omega), pv_app _ (by omega)]
      refine ⟨z, m1, m2, m3, m4, fun j j0 j1 => ?_, m6⟩
      rw [c43, if_neg (by omega)]
      exact m5 j j0 j1
  · intro h h0 h1
    have c45 : ∀ p, (zUp (zUp (zUp (zCpy (zUp (zUp (zUp (zUp M 139 L.length (tSz t)) 140 L.length v) 141 L.length r) 142 L.length w) 146 0 143 ((L.length : Int) * 16) 16) 144 L.length (M 145 (tHs t))) 145 (tHs t) L.length) 138 0 ((L.length : Int) + 1)) 145 p = if p = tHs t then (L.length : Int) else M 145 p := fun p => rfl
    rw [c45, List.length_append]
    show _ = pv _ (L.length + 1) h
    unfold pv
    rw [te_new, pv_app _ (Nat.le_refl _)]
    by_cases c : h = tHs t
    · rw [if_pos c, if_pos c.symm]
    · rw [if_neg c, if_neg (fun q => c q.symm), nl h h0 h1]
  · intro c hc
    rw [zUp_away (by omega), zUp_away (by omega), zUp_away (by omega)]
    funext p
    show (if c = 143 then _ else _) = _
    rw [if_neg (by omega), zUp_away (by omega), zUp_away (by omega), zUp_away (by omega), zUp_away (by omega)]
theorem x_ask {d : Nat} {M : Mm} {K : Kt} {o : Nat} {t : Tr} {B : List Bg} {J : Js} {L vs why wh : Int} (ho : xT o) (hB : bCx L B) (hxB : xBg M B) (ht : xTr M o t) (hv : tVal L t) (hJ : xJ M J) (hj : jOk L B.length J) (hvs : M 147 3 = vs) (hvs2 : 0 ≤ vs ∧ vs ≤ 9)
    (hK : ∀ M', xJ M' (jAsk B vs J t why wh).2 → (∀ c, (c < 138 ∨ 148 < c) → M' c = M c) → M' 147 3 = vs → K (jAsk B vs J t why wh).1 M') : zSp (d + 4) 42 [.inr (.inr 147), .inr (.inr o), .inl why, .inl wh] M K := by
  have ho' := ho
  unfold xT at ho'
  have t1 := ht.1.1
  have t5 := ht.2.1
  have hv24 := tVal_le hB.2.2.2 t hv
  obtain ⟨j1, j2, j3, j4, j5⟩ := hJ
  have hbb : 0 ≤ tHs t ∧ tHs t < 1024 := zA1023 _
  rw [me_42, me_93]
  refine x_makeKey ho hv24 ht ?_
  intro M1 f1 f2 f3 f4
  have ht1 : xTr M1 o t := xTr_fr ht fun c c1 c2 => f2 c (by omega) (by omega)
  have hL1 : xTd M1 J.1 := xTd_fr j1 (fun c c1 c2 => f2 c (by omega) (by omega)) (f3 0 (by decide))
  have h147 : M1 147 = M 147 := f2 147 (by decide) (by decide)
  have n0 := hL1.1
  have h600 := hL1.2.1
  rw [f4, hL1.2.2.2 _ hbb.1 hbb.2]
  refine zC_i (zs hbb.1 hbb.2) ?_
  refine x_find_l ho hv24 ht1 hL1 f1 ?_ ?_ J.1.length J.1.length 0 (Nat.le_refl _) (Nat.le_refl _) (by omega) (by omega) (fun i c1 c2 => by omega)
  · intro hn
    have ef := fnd_no J.1 0 hn
    unfold jAsk at hK
    rw [if_pos ef] at hK
    rw [n0]
    (repeat (first | (with_reducible refine zC_i ?hob ?_; case hob => first | assumption | decide | exact zr (by omega) (by omega) | exact zs (by omega) (by omega) | exact zd (by omega) (by omega)) | (with_reducible refine zIfT ?hob ?_; case hob => first | assumption | omega | decide) | (with_reducible refine zIfF ?hob ?_; case hob => first | assumption | omega | decide)))
    refine ⟨fun c => ?_, fun c => ?_⟩
    · rw [if_neg (by omega)] at hK
      have hx1 : xBg M1 B := xBg_fr hxB fun c c1 c2 => f2 c (by omega) (by omega)
      refine x_bitsFor (B := B) (L := L) ho ht1 hv24 hB.2.2.2 hx1.2 hB.2.2.1 hB.1 hB.2.1 (by have := xBs_len B 0 0 hx1.2; omega) ?_
      refine x_vote (od := bOd B) (n := B.length) (vs := vs) (eBs_b B 0 0 hB.2.2.1 (by have := hB.1; omega) (by decide)) (by have := hB.1; omega) hvs2 (by rw [h147]; exact hvs) hx1.1 (xBg_od hx1 hB) (by rw [h147, j2]; exact hj.2.2.2) ?_
      rw [h147, j2, show ((B.length : Int)).toNat = B.length by omega]
      intro M2 g1 g2 g3 g4
      rw [g1 o (by omega) (by omega), ht1.1.1]
      simp only [(xT_c ho).1, zC_t]
      refine x_add (t := t) (L := J.1) (xTd_fr hL1 (fun c c1 c2 => g1 c (by omega) (by omega)) (by rw [g1 138 (by decide) (by decide)])) (by omega) t5 hv24 (by rw [g1 146 (by decide) (by decide)]; exact f1) (by rw [g1 138 (by decide) (by decide)]; exact f4) ?_
      intro M3 k1 k2
      refine hK M3 ⟨k1, ?_, ?_, ?_, ?_⟩ ?_ ?_
      · rw [k2 147 (by decide)]; exact g4
      · rw [k2 147 (by decide), g2 5 (by decide) (by decide)]; exact j3
      · rw [k2 147 (by decide), g3, j4]
      · rw [k2 147 (by decide), g2 7 (by decide) (by decide)]; exact j5
      · intro c hc
        rw [k2 c (by omega), g1 c (by omega) (by omega), f2 c (by omega) (by omega)]
      · rw [k2 147 (by decide), g2 3 (by decide) (by decide)]; exact hvs
    · rw [if_pos (by omega)] at hK
      refine hK _ ⟨xTd_fr hL1 (fun c c1 c2 => zUp_away (by omega)) (by rw [zUp_away (by decide)]), ?_, ?_, ?_, ?_⟩ ?_ ?_
      · rw [zUp_there (by decide), h147]; exact j2
      · rw [zUp_there (by decide), h147]; exact j3
      · rw [zUp_there (by decide), h147]; exact j4
      · rw [zUp_here, h147, j5]
      · intro c hc
        rw [zUp_away (by omega), f2 c (by omega) (by omega)]
      · rw [zUp_there (by decide), h147]; exact hvs
  · intro i hi e
    have ef := fnd_d hj.1 hi e
    unfold jAsk at hK
    rw [if_neg (by omega), ef, show ((i : Int)).toNat = i by omega] at hK
    obtain ⟨z, m1, m2, m3, m4, m5, m6⟩ := hL1.2.2.1 i hi
    rw [m2]
    (repeat (first | (with_reducible refine zC_i ?hob ?_; case hob => first | assumption | decide | exact zr (by omega) (by omega) | exact zs (by omega) (by omega) | exact zd (by omega) (by omega)) | (with_reducible refine zIfT ?hob ?_; case hob => first | assumption | omega | decide) | (with_reducible refine zIfF ?hob ?_; case hob => first | assumption | omega | decide)))
    refine hK _ ⟨xTd_fr hL1 (fun c c1 c2 => zUp_away (by omega)) (by rw [zUp_away (by decide)]), ?_, ?_, ?_, ?_⟩ ?_ ?_
    · rw [zUp_there (by decide), h147]; exact j2
    · rw [zUp_here, h147, j3]
    · rw [zUp_there (by decide), h147]; exact j4
    · rw [zUp_there (by decide), h147]; exact j5
    · intro c hc
      rw [zUp_away (by omega), f2 c (by omega) (by omega)]
    · rw [zUp_there (by decide), h147]; exact hvs
