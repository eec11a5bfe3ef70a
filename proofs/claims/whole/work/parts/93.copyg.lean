/-! LAYER 3: the grammar that was read is taken over -/
theorem zCpy_in {M : Mm} {s d : Nat} {n i : Int} (h0 : 0 ≤ i) (h1 : i < n) : zCpy M s 0 d 0 n d i = M s i := by
  unfold zCpy
  rw [if_pos rfl, if_pos ⟨h0, by omega⟩, show 0 + (i - 0) = i by omega]
theorem x_copyB {d : Nat} {K : Kt} : ∀ (m : Nat) (i : Int) (M : Mm), 0 ≤ i → i + m = 24 → zBl M → (∀ M', (∀ c, c ≠ 6 → c ≠ 9 → M' c = M c) → (∀ j, M' 6 j = if i ≤ j ∧ j < 24 then M 16 j else M 6 j) → (∀ j, M' 9 j = if i ≤ j ∧ j < 24 then M 19 j else M 9 j) → K 0 M') → zWp (zSp d) 22 K 123 [some (.inr (.inr 4)), some (.inr (.inr 14)), some (.inl i)] [] M
  | 0, i, M, h0, hm, hb, hK => by
    rw [fe_22_123]
    refine zC_i (zr (by omega) (by omega)) ⟨fun _ => hK M (fun _ _ _ => rfl) (fun j => ?_) (fun j => ?_), fun c => absurd (by omega) c⟩
    · rw [if_neg (by omega)]
    · rw [if_neg (by omega)]
  | m + 1, i, M, h0, hm, hb, hK => by
    rw [fe_22_123]
    have sm : zSm i 24 = true := zs h0 (by omega)
    have b1 := hb 16 rfl i
    have b2 := hb 19 rfl i
    rw [zUp_away (show (14 + 5 : Nat) ≠ 4 + 2 by decide)]
    refine zC_i (zr (by omega) (by omega)) ⟨fun c => absurd c (by omega), fun _ => zC_i rfl (zC_i rfl (zC_i rfl (zC_i sm (zC_i rfl (zC_i sm (zC_i b1 (zC_i rfl (zC_i rfl (zC_i rfl (zC_i sm (zC_i rfl (zC_i sm (zC_i b2 ?_)))))))))))))⟩
    refine x_copyB m (i + 1) _ (by omega) (by omega) (zBl_up (zBl_up hb (fun _ => b1)) (fun _ => b2)) ?_
    intro M' f1 f2 f3
    refine hK M' (fun c a b => by rw [f1 c a b, zUp_away b, zUp_away a]) (fun j => ?_) (fun j => ?_)
    · rw [f2 j, zUp_away (show (16 : Nat) ≠ 4 + 5 by decide), zUp_away (show (16 : Nat) ≠ 4 + 2 by decide), zUp_away (show (6 : Nat) ≠ 4 + 5 by decide)]
      by_cases e : j = i
      · rw [if_neg (by omega), if_pos (by omega), e]
        exact zUp_here
      · rw [show (zUp M (4 + 2) i (M (14 + 2) i)) 6 j = M 6 j from zUp_there e]
        by_cases e2 : i + 1 ≤ j ∧ j < 24
        · rw [if_pos e2, if_pos (by omega)]
        · rw [if_neg e2, if_neg (by omega)]
    · rw [f3 j, zUp_away (show (19 : Nat) ≠ 4 + 5 by decide), zUp_away (show (19 : Nat) ≠ 4 + 2 by decide)]
      by_cases e : j = i
      · rw [if_neg (by omega), if_pos (by omega), e]
        exact zUp_here
      · rw [show (zUp (zUp M (4 + 2) i (M (14 + 2) i)) (4 + 5) i (M (14 + 5) i)) 9 j = (zUp M (4 + 2) i (M (14 + 2) i)) 9 j from zUp_there e, zUp_away (show (9 : Nat) ≠ 4 + 2 by decide)]
        by_cases e2 : i + 1 ≤ j ∧ j < 24
        · rw [if_pos e2, if_pos (by omega)]
        · rw [if_neg e2, if_neg (by omega)]
theorem x_copyG {d : Nat} {K : Kt} {M : Mm} (hb : zBl M) (hK : ∀ M', (∀ c, (c < 4 ∨ 13 < c) → M' c = M c) → M' 4 0 = M 14 0 → M' 4 1 = M 14 1 → (∀ i, 0 ≤ i → i < 24 → M' 5 i = M 15 i ∧ M' 6 i = M 16 i ∧ M' 7 i = M 17 i ∧ M' 8 i = M 18 i ∧ M' 9 i = M 19 i) → (∀ i, 0 ≤ i → i < 96 → M' 10 i = M 20 i) → (∀ i, 0 ≤ i → i < 6 → M' 11 i = M 21 i ∧ M' 12 i = M 22 i ∧ M' 13 i = M 23 i) → K 0 M') : zSp (d + 1) 22 [.inr (.inr 4), .inr (.inr 14)] M K := by
  rw [me_22]
  iterate 46 (refine zC_i rfl ?_)
  have b0 : zBl (zUp (zUp M 4 0 (M 14 0)) 4 1 ((zUp M 4 0 (M 14 0)) 14 1)) := zBl_up (zBl_up hb (fun q => absurd q (by decide))) (fun q => absurd q (by decide))
  have bc : ∀ {M : Mm} {s d : Nat} {n : Int}, zBl M → zArr d 3 = false → zBl (zCpy M s 0 d 0 n) := fun h q => zBl_cp h (fun g => by rw [q] at g; exact absurd g (by decide))
  refine x_copyB 24 0 _ (by omega) (by omega) (bc (bc (bc (bc (bc (bc (bc b0 rfl) rfl) rfl) rfl) rfl) rfl) rfl) ?_
  intro M' f1 f2 f3
  refine hK M' (fun c hc => ?_) ?_ ?_ (fun i i0 i1 => ⟨?_, ?_, ?_, ?_, ?_⟩) (fun i i0 i1 => ?_) (fun i i0 i1 => ⟨?_, ?_, ?_⟩)
  · rw [f1 c (by omega) (by omega), zCpy_ne c (by omega), zCpy_ne c (by omega), zCpy_ne c (by omega), zCpy_ne c (by omega), zCpy_ne c (by omega), zCpy_ne c (by omega), zCpy_ne c (by omega), zUp_away (by omega), zUp_away (by omega)]
  · rw [f1 4 (by decide) (by decide), zCpy_ne 4 (by decide), zCpy_ne 4 (by decide), zCpy_ne 4 (by decide), zCpy_ne 4 (by decide), zCpy_ne 4 (by decide), zCpy_ne 4 (by decide), zCpy_ne 4 (by decide), zUp_there (by decide), zUp_here]
  · rw [f1 4 (by decide) (by decide), zCpy_ne 4 (by decide), zCpy_ne 4 (by decide), zCpy_ne 4 (by decide), zCpy_ne 4 (by decide), zCpy_ne 4 (by decide), zCpy_ne 4 (by decide), zCpy_ne 4 (by decide), zUp_here, zUp_away (by decide)]
  · rw [f1 5 (by decide) (by decide), zCpy_ne 5 (by decide), zCpy_ne 5 (by decide), zCpy_ne 5 (by decide), zCpy_ne 5 (by decide), zCpy_ne 5 (by decide), zCpy_ne 5 (by decide), show (5 : Nat) = 4 + 1 from rfl, zCpy_in i0 i1, zUp_away (by decide), zUp_away (by decide)]
  · rw [f2 i, if_pos ⟨i0, i1⟩, zCpy_ne 16 (by decide), zCpy_ne 16 (by decide), zCpy_ne 16 (by decide), zCpy_ne 16 (by decide), zCpy_ne 16 (by decide), zCpy_ne 16 (by decide), zCpy_ne 16 (by decide), zUp_away (by decide), zUp_away (by decide)]
  · rw [f1 7 (by decide) (by decide), zCpy_ne 7 (by decide), zCpy_ne 7 (by decide), zCpy_ne 7 (by decide), zCpy_ne 7 (by decide), zCpy_ne 7 (by decide), show (7 : Nat) = 4 + 3 from rfl, zCpy_in i0 i1, zCpy_ne (14 + 3) (by decide), zUp_away (by decide), zUp_away (by decide)]
  · rw [f1 8 (by decide) (by decide), zCpy_ne 8 (by decide), zCpy_ne 8 (by decide), zCpy_ne 8 (by decide), zCpy_ne 8 (by decide), show (8 : Nat) = 4 + 4 from rfl, zCpy_in i0 i1, zCpy_ne (14 + 4) (by decide), zCpy_ne (14 + 4) (by decide), zUp_away (by decide), zUp_away (by decide)]
  · rw [f3 i, if_pos ⟨i0, i1⟩, zCpy_ne 19 (by decide), zCpy_ne 19 (by decide), zCpy_ne 19 (by decide), zCpy_ne 19 (by decide), zCpy_ne 19 (by decide), zCpy_ne 19 (by decide), zCpy_ne 19 (by decide), zUp_away (by decide), zUp_away (by decide)]
  · rw [f1 10 (by decide) (by decide), zCpy_ne 10 (by decide), zCpy_ne 10 (by decide), zCpy_ne 10 (by decide), show (10 : Nat) = 4 + 6 from rfl, zCpy_in i0 i1, zCpy_ne (14 + 6) (by decide), zCpy_ne (14 + 6) (by decide), zCpy_ne (14 + 6) (by decide), zUp_away (by decide), zUp_away (by decide)]
  · rw [f1 11 (by decide) (by decide), zCpy_ne 11 (by decide), zCpy_ne 11 (by decide), show (11 : Nat) = 4 + 7 from rfl, zCpy_in i0 i1, zCpy_ne (14 + 7) (by decide), zCpy_ne (14 + 7) (by decide), zCpy_ne (14 + 7) (by decide), zCpy_ne (14 + 7) (by decide), zUp_away (by decide), zUp_away (by decide)]
  · rw [f1 12 (by decide) (by decide), zCpy_ne 12 (by decide), show (12 : Nat) = 4 + 8 from rfl, zCpy_in i0 i1, zCpy_ne (14 + 8) (by decide), zCpy_ne (14 + 8) (by decide), zCpy_ne (14 + 8) (by decide), zCpy_ne (14 + 8) (by decide), zCpy_ne (14 + 8) (by decide), zUp_away (by decide), zUp_away (by decide)]
  · rw [f1 13 (by decide) (by decide), show (13 : Nat) = 4 + 9 from rfl, zCpy_in i0 i1, zCpy_ne (14 + 9) (by decide), zCpy_ne (14 + 9) (by decide), zCpy_ne (14 + 9) (by decide), zCpy_ne (14 + 9) (by decide), zCpy_ne (14 + 9) (by decide), zCpy_ne (14 + 9) (by decide), zUp_away (by decide), zUp_away (by decide)]
/-- the grammar taken over: as it was read, with the least -/
def gEq (G : Mm) (F P : Int → Int) (G' : Mm) : Prop := (G' 4 0 = G 4 0 ∧ G' 4 1 = G 4 1) ∧ (∀ l, 0 ≤ l → l < 24 → G' 5 l = G 5 l ∧ G' 6 l = G 6 l ∧ G' 7 l = G 7 l ∧ G' 8 l = G 8 l ∧ G' 9 l = G 9 l) ∧ (∀ j, 0 ≤ j → j < 96 → G' 10 j = G 10 j) ∧ (∀ s, 0 ≤ s → s < 6 → G' 11 s = G 11 s) ∧ (∀ s, 0 ≤ s → s < G 4 1 → G' 12 s = F s ∧ G' 13 s = P s)
theorem gEq_ln {G G' : Mm} {F P : Int → Int} (hg : gLn G) (h : gEq G F P G') : gLn G' := by
  obtain ⟨⟨a1, a2⟩, a3, a4, a5, a6⟩ := h
  have c0 := hg.1
  refine ⟨by rw [a1, a2]; exact c0, fun l l0 l1 => ?_, fun s s0 s1 => ?_⟩
  · rw [a1] at l1
    obtain ⟨b5, b6, b7, b8, b9⟩ := a3 l l0 (by omega)
    have x := hg.2.1 l l0 l1
    rw [b5, b6, b7, b8, b9, a2]
    refine ⟨x.1, x.2.1, x.2.2.1, x.2.2.2.1, x.2.2.2.2.1, fun i i0 i1 => ?_⟩
    have x8 := x.2.2.2.1
    rw [a4 _ (by omega) (by omega)]
    exact x.2.2.2.2.2 i i0 i1
  · rw [a2] at s1
    rw [a5 s s0 (by omega)]
    exact hg.2.2 s s0 s1
theorem gEq_need {G G' : Mm} {F P : Int → Int} (h : gEq G F P G') {l : Int} (l0 : 0 ≤ l) (l1 : l < 24) : gNeed G' l = gNeed G l := by
  have b := h.2.1 l l0 l1
  unfold gNeed
  rw [b.2.2.2.1, b.2.2.2.2]
theorem gEq_sum {G G' : Mm} {F P : Int → Int} (hg : gLn G) (h : gEq G F P G') {l : Int} (l0 : 0 ≤ l) (l1 : l < G 4 0) : ∀ m : Nat, m ≤ (gNeed G l).toNat → szL G F l m ≠ 1000000 → gSum G' l m = szL G F l m
  | 0, _, _ => rfl
  | m + 1, hm, hn => by
    have c0 := hg.1
    have nb := gNeed_b hg l0 l1
    have p := gPr (i := m) hg l0 l1 (by omega)
    unfold szL at hn ⊢
    by_cases c : szL G F l m = 1000000 ∨ F (G 10 (l * 4 + m)) = 1000000
    · rw [if_pos c] at hn; exact absurd rfl hn
    · rw [if_neg c]
      have ih := gEq_sum hg h l0 l1 m (by omega) (by omega)
      show gSum G' l m + G' 12 (G' 10 (l * 4 + m)) = _
      rw [ih, h.2.2.1 _ (by omega) (by omega), (h.2.2.2.2 _ p.1 p.2.1).1]
theorem gEq_ok {G G' : Mm} {F P : Int → Int} (hg : gLn G) (h : gEq G F P G') (hF : bdL F) (hn : ∀ s, 0 ≤ s → s < G 4 1 → F s ≠ 1000000) (hw : ∀ s, 0 ≤ s → s < G 4 1 → lwL G F s (P s)) : gOk G' := by
  have c0 := hg.1
  have hl := gEq_ln hg h
  refine ⟨hl, fun s s0 s1 => ?_⟩
  rw [h.1.2] at s1
  obtain ⟨e12, e13⟩ := h.2.2.2.2 s s0 s1
  have n := hn s s0 s1
  have b := hF s s0 (by omega)
  obtain ⟨⟨w1, w2, w3⟩, w4⟩ := hw s s0 s1
  rw [e12, e13, h.1.1, (h.2.1 _ w1.1 (by omega)).2.2.1, gEq_need h w1.1 (by omega)]
  refine ⟨by omega, w1, w2, ?_⟩
  rw [gEq_sum hg h w1.1 w1.2 _ (Nat.le_refl _) (by show szA G F (P s) ≠ 1000000; omega)]
  exact w3.symm
