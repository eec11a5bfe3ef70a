/-! LAYER 3: bugs' text, pure, and read by the class -/
def bNm (B : List Bg) (i : Int) : Int := (B.getD i.toNat (0, 0, [])).1
def bTl (B : List Bg) (a : Int) : Int := fd (bNm B) a B.length 0
abbrev He5 : Type := Int × Int × Int × Int × Int
def gHe (T : Int → Int) (n : Int) (B : List Bg) (p : Int) (w : Bool) : He5 :=
  if tKi T n p w = 1 ∧ tVa T n p = 89358336 then (if (B.length : Int) = 6 then (4, tQ T n p, 0, 0, p)
    else if isNm T n (tEn T n p) true then (if bTl B (tVa T n (tEn T n p)) = -1 then
      (if tKi T n (tEn T n (tEn T n p)) true = 1 ∧ tVa T n (tEn T n (tEn T n p)) = 507661312 then
        (if tKi T n (tEn T n (tEn T n (tEn T n p))) true = 2 then
          (if 1 ≤ tVa T n (tEn T n (tEn T n (tEn T n p))) ∧ tVa T n (tEn T n (tEn T n (tEn T n p))) ≤ 100 then
            (if tKi T n (tEn T n (tEn T n (tEn T n (tEn T n p)))) true = 1 ∧ tVa T n (tEn T n (tEn T n (tEn T n (tEn T n p)))) = 780318720 then (0, 0, tVa T n (tEn T n p), tVa T n (tEn T n (tEn T n (tEn T n p))), tEn T n (tEn T n (tEn T n (tEn T n (tEn T n p)))))
            else (1, tQ T n (tEn T n (tEn T n (tEn T n (tEn T n p)))), 0, 0, p))
          else (2, tQ T n (tEn T n (tEn T n (tEn T n p))), 0, 0, p))
        else (1, tQ T n (tEn T n (tEn T n (tEn T n p))), 0, 0, p))
      else (1, tQ T n (tEn T n (tEn T n p)), 0, 0, p))
    else (3, tQ T n (tEn T n p), 0, 0, p))
    else (1, tQ T n (tEn T n p), 0, 0, p))
  else (1, tQ T n p, 0, 0, p)
theorem gHe_k {T : Int → Int} {n p : Int} {w : Bool} {B : List Bg} (hp : p ≤ n) : ((gHe T n B p w).1 = 0 ∧ (B.length : Int) ≠ 6 ∧ (0 ≤ (gHe T n B p w).2.2.1 ∧ (gHe T n B p w).2.2.1 < 1073741824) ∧ (1 ≤ (gHe T n B p w).2.2.2.1 ∧ (gHe T n B p w).2.2.2.1 ≤ 100) ∧ (p + 3 ≤ (gHe T n B p w).2.2.2.2 ∧ (gHe T n B p w).2.2.2.2 ≤ n)) ∨ (1 ≤ (gHe T n B p w).1 ∧ (gHe T n B p w).1 ≤ 5) := by
  have e1 := tEn_s (T := T) hp
  have e2 := tEn_s (T := T) e1.2.1
  have e3 := tEn_s (T := T) e2.2.1
  have e4 := tEn_s (T := T) e3.2.1
  have e5 := tEn_s (T := T) e4.2.1
  have q1 := tQ_s (T := T) e1.2.1
  have q2 := tQ_s (T := T) e2.2.1
  have q3 := tQ_s (T := T) e3.2.1
  have q4 := tQ_s (T := T) e4.2.1
  have f1 : ∀ a b c e : Int, 1 ≤ a ∧ a ≤ 5 → 1 ≤ ((a, b, c, e, p) : He5).1 ∧ ((a, b, c, e, p) : He5).1 ≤ 5 := fun a b c e h => h
  unfold gHe
  by_cases c1 : tKi T n p w = 1 ∧ tVa T n p = 89358336
  · rw [if_pos c1]
    have l3 := tLen3 hp c1 (by decide)
    by_cases c2 : (B.length : Int) = 6
    · rw [if_pos c2]; exact .inr (f1 _ _ _ _ (by decide))
    · rw [if_neg c2]
      by_cases c3 : isNm T n (tEn T n p) true
      · rw [if_pos c3]
        have vb := tVa_1 e1.2.1 c3.1
        by_cases c4 : bTl B (tVa T n (tEn T n p)) = -1
        · rw [if_pos c4]
          by_cases c5 : tKi T n (tEn T n (tEn T n p)) true = 1 ∧ tVa T n (tEn T n (tEn T n p)) = 507661312
          · rw [if_pos c5]
            by_cases c6 : tKi T n (tEn T n (tEn T n (tEn T n p))) true = 2
            · rw [if_pos c6]
              by_cases c7 : 1 ≤ tVa T n (tEn T n (tEn T n (tEn T n p))) ∧ tVa T n (tEn T n (tEn T n (tEn T n p))) ≤ 100
              · rw [if_pos c7]
                by_cases c8 : tKi T n (tEn T n (tEn T n (tEn T n (tEn T n p)))) true = 1 ∧ tVa T n (tEn T n (tEn T n (tEn T n (tEn T n p)))) = 780318720
                · rw [if_pos c8]
                  exact .inl ⟨rfl, c2, vb, c7, by show p + 3 ≤ tEn T n (tEn T n (tEn T n (tEn T n (tEn T n p)))); omega, e5.2.1⟩
                · rw [if_neg c8]; exact .inr (f1 _ _ _ _ (by decide))
              · rw [if_neg c7]; exact .inr (f1 _ _ _ _ (by decide))
            · rw [if_neg c6]; exact .inr (f1 _ _ _ _ (by decide))
          · rw [if_neg c5]; exact .inr (f1 _ _ _ _ (by decide))
        · rw [if_neg c4]; exact .inr (f1 _ _ _ _ (by decide))
      · rw [if_neg c3]; exact .inr (f1 _ _ _ _ (by decide))
  · rw [if_neg c1]; exact .inr (f1 _ _ _ _ (by decide))
abbrev Bu5 : Type := Int × Int × List Bg
def gBu (T : Int → Int) (n : Int) (G : Mm) : Nat → List Bg → Int → Bool → Bu5
  | 0, B, _, _ => (0, 0, B)
  | f + 1, B, p, w => if tKi T n p w = 0 then (0, 0, B) else if (gHe T n B p w).1 ≠ 0 then ((gHe T n B p w).1, (gHe T n B p w).2.1, B)
    else if (gTe T n G 1000 [] [] (gHe T n B p w).2.2.2.2 true).1 ≠ 0 then ((gTe T n G 1000 [] [] (gHe T n B p w).2.2.2.2 true).1, (gTe T n G 1000 [] [] (gHe T n B p w).2.2.2.2 true).2.1, B)
    else if tKi T n (gTe T n G 1000 [] [] (gHe T n B p w).2.2.2.2 true).2.2.2.1 (gTe T n G 1000 [] [] (gHe T n B p w).2.2.2.2 true).2.2.2.2 = 3 ∧ tVa T n (gTe T n G 1000 [] [] (gHe T n B p w).2.2.2.2 true).2.2.2.1 = 59 then gBu T n G f (B ++ [((gHe T n B p w).2.2.1, (gHe T n B p w).2.2.2.1, (gTe T n G 1000 [] [] (gHe T n B p w).2.2.2.2 true).2.2.1)]) (tEn T n (gTe T n G 1000 [] [] (gHe T n B p w).2.2.2.2 true).2.2.2.1) false
    else (1, tQ T n (gTe T n G 1000 [] [] (gHe T n B p w).2.2.2.2 true).2.2.2.1, B)
theorem bLen_snoc {x : Bg} : ∀ B : List Bg, bLen (B ++ [x]) = bLen B + x.2.2.length + 1
  | [] => by
    obtain ⟨a, b, c⟩ := x
    show (c.length : Int) + 1 + 0 = 0 + c.length + 1
    omega
  | (a, b, c) :: B => by
    have ih := bLen_snoc (x := x) B
    show (c.length : Int) + 1 + bLen (B ++ [x]) = c.length + 1 + bLen B + x.2.2.length + 1
    omega
theorem bOk_snoc {L : Int} {B : List Bg} {x : Bg} (h : bOk L B) (hx : (0 ≤ x.1 ∧ x.1 < 1073741824) ∧ (1 ≤ x.2.1 ∧ x.2.1 ≤ 100) ∧ (∀ s ∈ x.2.2, sV L s) ∧ wL x.2.2 0) : bOk L (B ++ [x]) := by
  intro y hy
  rcases List.mem_append.mp hy with q | q
  · exact h y q
  · rw [List.mem_singleton.mp q]; exact hx
theorem bNm_snoc {x : Bg} {B : List Bg} : (∀ i, 0 ≤ i → i < (B.length : Int) → bNm (B ++ [x]) i = bNm B i) ∧ bNm (B ++ [x]) B.length = x.1 := by
  refine ⟨fun i i0 i1 => ?_, ?_⟩
  · unfold bNm
    rw [List.getD_eq_getElem?_getD, List.getD_eq_getElem?_getD, List.getElem?_append_left (by omega)]
  · unfold bNm
    rw [List.getD_eq_getElem?_getD, Int.toNat_natCast, List.getElem?_append_right (Nat.le_refl _), Nat.sub_self]
    rfl
def xBq (M : Mm) (b : Nat) : List Bg → Int → Int → Prop
  | [], _, _ => True
  | (nm, od, cd) :: B, i, c => M (b + 1) i = nm ∧ M (b + 2) i = od ∧ xCd M b cd c ∧ M (b + 3) (c + cd.length) = 18 ∧ xBq M b B (i + 1) (c + cd.length + 1)
theorem xBq_fr {M M' : Mm} {b : Nat} : ∀ (B : List Bg) (i c : Int), (∀ j, i ≤ j → j < i + B.length → M' (b + 1) j = M (b + 1) j ∧ M' (b + 2) j = M (b + 2) j) → (∀ (k : Nat) (j : Int), 3 ≤ k → k ≤ 6 → c ≤ j → j < c + bLen B → M' (b + k) j = M (b + k) j) → xBq M b B i c → xBq M' b B i c
  | [], _, _, _, _, _ => trivial
  | (nm, od, cd) :: B, i, c, f1, f2, ⟨a1, a2, a3, a4, a5⟩ => by
    have e : (((nm, od, cd) :: B : List Bg).length : Int) = B.length + 1 := by show ((B.length + 1 : Nat) : Int) = _; omega
    have eb : bLen ((nm, od, cd) :: B) = cd.length + 1 + bLen B := rfl
    have nb := bLen_nn B
    have x := f1 i (by omega) (by omega)
    refine ⟨by rw [x.1]; exact a1, by rw [x.2]; exact a2, xCd_fr2 cd c (fun k j k1 k2 j1 j2 => f2 k j k1 k2 j1 (by omega)) a3, by rw [f2 3 _ (by decide) (by decide) (by omega) (by omega)]; exact a4, xBq_fr B (i + 1) (c + cd.length + 1) (fun j j1 j2 => f1 j (by omega) (by omega)) (fun k j k1 k2 j1 j2 => f2 k j k1 k2 (by omega) (by omega)) a5⟩
theorem xBq_snoc {M : Mm} {b : Nat} {nm od : Int} {cd : List St5} : ∀ (B : List Bg) (i c : Int), xBq M b B i c → M (b + 1) (i + B.length) = nm → M (b + 2) (i + B.length) = od → xCd M b cd (c + bLen B) → M (b + 3) (c + bLen B + cd.length) = 18 → xBq M b (B ++ [(nm, od, cd)]) i c
  | [], i, c, _, h1, h2, h3, h4 => by
    have e : i + (([] : List Bg).length : Int) = i := by show i + ((0 : Nat) : Int) = i; omega
    have e2 : c + bLen [] = c := by show c + 0 = c; omega
    rw [e] at h1 h2
    rw [e2] at h3 h4
    exact ⟨h1, h2, h3, h4, trivial⟩
  | (a, b', cc) :: B, i, c, ⟨a1, a2, a3, a4, a5⟩, h1, h2, h3, h4 => by
    have e : (((a, b', cc) :: B : List Bg).length : Int) = B.length + 1 := by show ((B.length + 1 : Nat) : Int) = _; omega
    have eb : bLen ((a, b', cc) :: B) = cc.length + 1 + bLen B := rfl
    rw [show i + (((a, b', cc) :: B : List Bg).length : Int) = i + 1 + B.length by omega] at h1 h2
    rw [show c + bLen ((a, b', cc) :: B) = c + cc.length + 1 + bLen B by omega] at h3 h4
    exact ⟨a1, a2, a3, a4, xBq_snoc B (i + 1) (c + cc.length + 1) a5 h1 h2 h3 h4⟩
theorem xBq_s {M : Mm} {b : Nat} : ∀ (B : List Bg) (i c : Int), xBq M b B i c → M b 3 = c + bLen B → xBs M b B i c
  | [], i, c, _, h => by
    have h : M b 3 = c + 0 := h
    show M b 3 = c
    omega
  | (a, b', cc) :: B, i, c, ⟨a1, a2, a3, a4, a5⟩, h => by
    have eb : bLen ((a, b', cc) :: B) = cc.length + 1 + bLen B := rfl
    exact ⟨a1, a2, a3, a4, xBq_s B (i + 1) (c + cc.length + 1) a5 (by omega)⟩
/-- the bugs read so far, in the class -/
def xBI (B : List Bg) (M : Mm) : Prop := M 31 0 = (B.length : Int) ∧ M 31 3 = bLen B ∧ xBq M 31 B 0 0 ∧ ∀ i, 0 ≤ i → i < (B.length : Int) → M 32 i = bNm B i
def xB5 (M M' : Mm) : Prop := (∀ c, c ≠ 2 → (c < 31 ∨ 37 < c) → c ≠ 136 → c ≠ 137 → M' c = M c) ∧ (∀ j, j ≠ 2 → j ≠ 3 → j ≠ 4 → j ≠ 5 → M' 2 j = M 2 j)
theorem xB5_refl {M : Mm} : xB5 M M := ⟨fun _ _ _ _ _ => rfl, fun _ _ _ _ _ => rfl⟩
theorem xB5_trans {M M' M'' : Mm} (h : xB5 M M') (h' : xB5 M' M'') : xB5 M M'' := ⟨fun c a b e f => by rw [h'.1 c a b e f, h.1 c a b e f], fun j a b c d => by rw [h'.2 j a b c d, h.2 j a b c d]⟩
theorem xB5_F {M M' : Mm} (h : xF M M') : xB5 M M' := ⟨fun c a _ _ _ => h.1 c a, h.2⟩
theorem xB5_E {c0 : Int} {M M' : Mm} (h : xE c0 M M') : xB5 M M' := ⟨fun c a b e f => h.1 c a (by omega) (by omega) e f, h.2.2.1⟩
theorem x_told_l {d : Nat} {K : Kt} {M : Mm} {B : List Bg} {a : Int} (ha : zR32 a = true) (h0 : M 31 0 = (B.length : Int)) (hl : (B.length : Int) ≤ 6) (hn : ∀ i, 0 ≤ i → i < (B.length : Int) → M 32 i = bNm B i) (hr : ∀ i, 0 ≤ i → i < (B.length : Int) → zR32 (bNm B i) = true) (hK : K (fl (bTl B a ≠ -1)) M) : ∀ (m : Nat) (i : Int), i + m = (B.length : Int) → 0 ≤ i → fd (bNm B) a m i = bTl B a → zWp (zSp d) 2 K 2 [some (.inr (.inr 31)), some (.inl a), some (.inl i)] [] M
  | 0, i, hm, hi, he => by
    rw [fe_2_2, h0]
    have he : (-1 : Int) = bTl B a := he
    rw [fl_f (by omega)] at hK
    exact zC_i rfl (zC_i (zr (by omega) (by omega)) (zC_i (zr (by omega) (by omega)) ⟨fun _ => hK, fun c => absurd (by omega) c⟩))
  | m + 1, i, hm, hi, he => by
    have he : (if bNm B i = a then i else fd (bNm B) a m (i + 1)) = bTl B a := he
    rw [fe_2_2, h0, show M (31 + 1) i = bNm B i from hn i hi (by omega)]
    refine zC_i rfl (zC_i (zr (by omega) (by omega)) (zC_i (zr (by omega) (by omega)) ⟨fun c => absurd c (by omega), fun _ => zC_i rfl (zC_i rfl (zC_i (zs hi (show i < 6 by omega)) (zC_i (hr i hi (by omega)) (zC_i ha ⟨fun c => ?_, fun c => ?_⟩))))⟩))
    · rw [if_neg c] at he
      exact x_told_l ha h0 hl hn hr hK m (i + 1) (by omega) (by omega) he
    · rw [if_pos (Decidable.not_not.mp c)] at he
      rw [fl_t (by omega)] at hK
      exact hK
