/-! LAYER 3: six rounds are enough -/
def leL (L L' : Int → Int) : Prop := ∀ s, 0 ≤ s → s < 6 → L s ≤ L' s
theorem lnL_fix {G : Mm} (hg : gLn G) : ∀ (m : Nat) (l : Int) (q : Lpq), 0 ≤ l → l + m ≤ G 4 0 → ivL G q → (∀ s, 0 ≤ s → s < 6 → (lnL G m l q).1 s = q.1 s) → ∀ l', l ≤ l' → l' < l + m → q.1 (G 7 l') ≤ szA G q.1 l'
  | 0, l, q, h0, h1, h, e, l', a, b => by omega
  | m + 1, l, q, h0, h1, h, e, l', a, b => by
    have c0 := hg.1
    have hb := ivL_b h
    have k1 := stL_k hg h h0 (by omega)
    have k2 := lnL_k hg m (l + 1) (stL G q l) (by omega) (by omega) k1.1
    have e : ∀ s, 0 ≤ s → s < 6 → (lnL G m (l + 1) (stL G q l)).1 s = q.1 s := e
    have e1 : ∀ s, 0 ≤ s → s < 6 → (stL G q l).1 s = q.1 s := fun s s0 s1 => by
      have x := k1.2 s s0 s1
      have y := k2.2 s s0 s1
      have z := e s s0 s1
      omega
    by_cases c : l' = l
    · rw [c]
      have gs := (hg.2.1 l h0 (by omega)).2.2.1
      have zb := szA_b hg hb h0 (by omega)
      have bb := hb _ gs.1 (by omega)
      have e2 := e1 _ gs.1 (by omega)
      unfold stL at e2
      by_cases c2 : szA G q.1 l ≠ 1000000 ∧ (szA G q.1 l < q.1 (G 7 l) ∨ (szA G q.1 l = q.1 (G 7 l) ∧ l < q.2 (G 7 l)))
      · rw [if_pos c2] at e2
        have e2 : (upI q.1 (G 7 l) (szA G q.1 l)) (G 7 l) = q.1 (G 7 l) := e2
        rw [upI_h] at e2
        omega
      · omega
    · have gs := (hg.2.1 l' (by omega) (by omega)).2.2.1
      have ih := lnL_fix hg m (l + 1) (stL G q l) (by omega) (by omega) k1.1 (fun s s0 s1 => by rw [e s s0 s1, e1 s s0 s1]) l' (by omega) (by omega)
      rw [e1 _ gs.1 (by omega)] at ih
      have := szA_mono hg (ivL_b k1.1) hb k1.2 (l := l') (by omega) (by omega)
      omega
/-- a resting place: no line is less, and some line is as little -/
def fxL (G : Mm) (F : Int → Int) : Prop := bdL F ∧ (∀ l, 0 ≤ l → l < G 4 0 → F (G 7 l) ≤ szA G F l) ∧ (∀ s, 0 ≤ s → s < 6 → F s ≠ 1000000 → ∃ l, (0 ≤ l ∧ l < G 4 0) ∧ G 7 l = s ∧ szA G F l = F s)
theorem fxL_ex {G : Mm} (hg : gLn G) : ∃ F, fxL G F := by
  have c0 := hg.1
  obtain ⟨N, hN⟩ := roL_rest hg (sm6 (roL G 0 q0L).1).toNat 0 (by
    have : sm6 (roL G 0 q0L).1 = 6000000 := rfl
    omega)
  have iv := roL_k hg N
  have fx := lnL_fix hg (G 4 0).toNat 0 (roL G N q0L) (by omega) (by omega) iv hN
  refine ⟨(roL G N q0L).1, ivL_b iv, fun l l0 l1 => fx l l0 (by omega), fun s s0 s1 hn => ?_⟩
  obtain ⟨a1, a2, a3⟩ := iv.2 s s0 s1 hn
  have := fx _ a1.1 (by omega)
  rw [a2] at this
  exact ⟨_, a1, a2, by omega⟩
theorem fxL_st {G : Mm} {F : Int → Int} {q : Lpq} {l : Int} (hg : gLn G) (hF : fxL G F) (h : ivL G q) (hl : leL F q.1) (h0 : 0 ≤ l) (h1 : l < G 4 0) : leL F (stL G q l).1 := by
  have hb := ivL_b h
  have z := szA_mono hg hF.1 hb hl h0 h1
  have f := hF.2.1 l h0 h1
  intro s s0 s1
  unfold stL
  by_cases c : szA G q.1 l ≠ 1000000 ∧ (szA G q.1 l < q.1 (G 7 l) ∨ (szA G q.1 l = q.1 (G 7 l) ∧ l < q.2 (G 7 l)))
  · rw [if_pos c]
    show F s ≤ (upI q.1 (G 7 l) (szA G q.1 l)) s
    by_cases e : s = G 7 l
    · rw [e, upI_h]; omega
    · rw [upI_t e]; exact hl s s0 s1
  · rw [if_neg c]; exact hl s s0 s1
/-- the lowest of the lines that are as little as F -/
def lwL (G : Mm) (F : Int → Int) (s l : Int) : Prop := ((0 ≤ l ∧ l < G 4 0) ∧ G 7 l = s ∧ szA G F l = F s) ∧ ∀ l', (0 ≤ l' ∧ l' < G 4 0) → G 7 l' = s → szA G F l' = F s → l ≤ l'
theorem lwL_ex {G : Mm} {F : Int → Int} {s : Int} : ∀ (k : Nat) (l : Int), l ≤ k → (0 ≤ l ∧ l < G 4 0) → G 7 l = s → szA G F l = F s → ∃ l, lwL G F s l
  | 0, l, hk, a, b, c => ⟨l, ⟨a, b, c⟩, fun l' x _ _ => by omega⟩
  | k + 1, l, hk, a, b, c => by
    by_cases q : ∃ l', (0 ≤ l' ∧ l' < l) ∧ G 7 l' = s ∧ szA G F l' = F s
    · obtain ⟨l', x, y, z⟩ := q
      exact lwL_ex k l' (by omega) (by omega) y z
    · refine ⟨l, ⟨a, b, c⟩, fun l' x y z => ?_⟩
      by_cases e : l ≤ l'
      · exact e
      · exact absurd ⟨l', ⟨by omega, by omega⟩, y, z⟩ q
def okL (G : Mm) (F : Int → Int) (s l0 : Int) (q : Lpq) : Prop := q.1 s = F s ∧ q.2 s = l0
theorem okL_st {G : Mm} {F : Int → Int} {q : Lpq} {l s l0 : Int} (hg : gLn G) (hF : fxL G F) (h : ivL G q) (hl : leL F q.1) (h0 : 0 ≤ l) (h1 : l < G 4 0) (hs : 0 ≤ s ∧ s < 6) (hw : lwL G F s l0) (ho : okL G F s l0 q) : okL G F s l0 (stL G q l) := by
  have hb := ivL_b h
  have z := szA_mono hg hF.1 hb hl h0 h1
  have f := hF.2.1 l h0 h1
  unfold stL
  by_cases c : szA G q.1 l ≠ 1000000 ∧ (szA G q.1 l < q.1 (G 7 l) ∨ (szA G q.1 l = q.1 (G 7 l) ∧ l < q.2 (G 7 l)))
  · rw [if_pos c]
    by_cases e : s = G 7 l
    · exfalso
      have o1 := ho.1
      have o2 := ho.2
      rw [← e] at c f
      have w := hw.2 l ⟨h0, h1⟩ e.symm
      by_cases k : szA G F l = F s
      · have := w k
        omega
      · omega
    · refine ⟨?_, ?_⟩
      · show (upI q.1 (G 7 l) (szA G q.1 l)) s = F s
        rw [upI_t e]; exact ho.1
      · show (upI q.2 (G 7 l) l) s = l0
        rw [upI_t e]; exact ho.2
  · rw [if_neg c]; exact ho
theorem okL_hit {G : Mm} {F : Int → Int} {q : Lpq} {s l0 : Int} (hg : gLn G) (hF : fxL G F) (h : ivL G q) (hl : leL F q.1) (hs : 0 ≤ s ∧ s < 6) (hn : F s ≠ 1000000) (hw : lwL G F s l0) (hp : ∀ i : Nat, i < (gNeed G l0).toNat → q.1 (G 10 (l0 * 4 + i)) = F (G 10 (l0 * 4 + i))) : okL G F s l0 (stL G q l0) := by
  have hb := ivL_b h
  obtain ⟨⟨⟨w0, w1⟩, w2, w3⟩, w4⟩ := hw
  have e : szA G q.1 l0 = F s := by
    rw [← w3]
    exact szL_cg _ hp
  have ls := hl s hs.1 hs.2
  unfold stL
  rw [w2, e]
  by_cases c : F s ≠ 1000000 ∧ (F s < q.1 s ∨ (F s = q.1 s ∧ l0 < q.2 s))
  · rw [if_pos c]
    exact ⟨upI_h, upI_h⟩
  · rw [if_neg c]
    have e1 : q.1 s = F s := by omega
    obtain ⟨a1, a2, a3⟩ := h.2 s hs.1 hs.2 (by omega)
    have z := szA_mono hg hF.1 hb hl a1.1 a1.2
    have f := hF.2.1 _ a1.1 a1.2
    rw [a2] at f
    have := w4 _ a1 a2 (by omega)
    exact ⟨e1, by omega⟩
theorem okL_ln {G : Mm} {F : Int → Int} {s l0 : Int} (hg : gLn G) (hF : fxL G F) (hs : 0 ≤ s ∧ s < 6) (hn : F s ≠ 1000000) (hw : lwL G F s l0) : ∀ (m : Nat) (l : Int) (q : Lpq), 0 ≤ l → l + m = G 4 0 → ivL G q → leL F q.1 → (∀ i : Nat, i < (gNeed G l0).toNat → q.1 (G 10 (l0 * 4 + i)) = F (G 10 (l0 * 4 + i))) → (l0 < l → okL G F s l0 q) → okL G F s l0 (lnL G m l q)
  | 0, l, q, h0, h1, h, hl, hp, ho => ho (by have := hw.1.1; omega)
  | m + 1, l, q, h0, h1, h, hl, hp, ho => by
    have k1 := stL_k hg h h0 (by omega)
    have k2 := fxL_st hg hF h hl h0 (by omega)
    refine okL_ln hg hF hs hn hw m (l + 1) (stL G q l) (by omega) (by omega) k1.1 k2 (fun i hi => ?_) (fun hlt => ?_)
    · have p := gPr hg hw.1.1.1 hw.1.1.2 hi
      have x := k1.2 _ p.1 p.2.2
      have y := k2 _ p.1 p.2.2
      have z := hp i hi
      omega
    · by_cases e : l0 = l
      · rw [← e]
        exact okL_hit hg hF h hl hs hn hw hp
      · exact okL_st hg hF h hl h0 (by omega) hs hw (ho (by omega))
theorem fxL_ln {G : Mm} {F : Int → Int} (hg : gLn G) (hF : fxL G F) : ∀ (m : Nat) (l : Int) (q : Lpq), 0 ≤ l → l + m ≤ G 4 0 → ivL G q → leL F q.1 → leL F (lnL G m l q).1
  | 0, l, q, h0, h1, h, hl => hl
  | m + 1, l, q, h0, h1, h, hl => fxL_ln hg hF m (l + 1) (stL G q l) (by omega) (by omega) (stL_k hg h h0 (by omega)).1 (fxL_st hg hF h hl h0 (by omega))
theorem fxL_ro {G : Mm} {F : Int → Int} (hg : gLn G) (hF : fxL G F) : ∀ r : Nat, leL F (roL G r q0L).1
  | 0 => fun s s0 s1 => by
    have := hF.1 s s0 s1
    show F s ≤ 1000000
    omega
  | r + 1 => by
    have c0 := hg.1
    exact fxL_ln hg hF (G 4 0).toNat 0 _ (by omega) (by omega) (roL_k hg r) (fxL_ro hg hF r)
theorem okL_ro {G : Mm} {F : Int → Int} (hg : gLn G) (hF : fxL G F) : ∀ (r : Nat) (s l0 : Int), 0 ≤ s → s < 6 → F s ≠ 1000000 → lwL G F s l0 → gRk (fun _ => F) (F s) 6 < r → okL G F s l0 (roL G r q0L)
  | 0, s, l0, s0, s1, hn, hw, hr => absurd hr (Nat.not_lt_zero _)
  | r + 1, s, l0, s0, s1, hn, hw, hr => by
    have c0 := hg.1
    have ib := hw.1
    have nb := gNeed_b hg ib.1.1 ib.1.2
    refine okL_ln hg hF ⟨s0, s1⟩ hn hw (G 4 0).toNat 0 _ (by omega) (by omega) (roL_k hg r) (fxL_ro hg hF r) (fun i hi => ?_) (fun q => by omega)
    have p := gPr hg ib.1.1 ib.1.2 hi
    have pt := szL_pt (G := G) (l := l0) hF.1 (gNeed G l0).toNat (fun i hi => by have := gPr hg ib.1.1 ib.1.2 hi; omega) (by omega) (by show szA G F l0 ≠ 1000000; omega) i hi
    have pt2 : F (G 10 (l0 * 4 + i)) < F s := by
      have : F (G 10 (l0 * 4 + i)) < szA G F l0 := pt.2
      omega
    have rk := (gRk_lt (G := fun _ => F) pt2 6 _ p.1 p.2.2 rfl).1
    obtain ⟨l1, v1, v2, v3⟩ := hF.2.2 _ p.1 p.2.2 pt.1
    obtain ⟨l2, w2⟩ := lwL_ex (G := G) (F := F) l1.toNat l1 (by omega) v1 v2 v3
    exact (okL_ro hg hF r _ l2 p.1 p.2.2 pt.1 w2 (by omega)).1
/-- what both find -/
theorem lstL {G : Mm} (hg : gLn G) : ∃ F, fxL G F ∧ (∀ s, 0 ≤ s → s < 6 → (roL G 6 q0L).1 s = F s ∧ (roL G 7 q0L).1 s = F s) ∧ (∀ s, 0 ≤ s → s < 6 → F s ≠ 1000000 → lwL G F s ((roL G 6 q0L).2 s)) := by
  obtain ⟨F, hF⟩ := fxL_ex hg
  have hk : ∀ s, 0 ≤ s → s < 6 → F s ≠ 1000000 → (roL G 6 q0L).1 s = F s ∧ lwL G F s ((roL G 6 q0L).2 s) := by
    intro s s0 s1 hn
    obtain ⟨l1, v1, v2, v3⟩ := hF.2.2 s s0 s1 hn
    obtain ⟨l2, w2⟩ := lwL_ex (G := G) (F := F) l1.toNat l1 (by omega) v1 v2 v3
    have rk := (gRk_lt (G := fun _ => F) (show F s < F s + 1 by omega) 6 s s0 s1 rfl).2
    have ok := okL_ro hg hF 6 s l2 s0 s1 hn w2 rk
    exact ⟨ok.1, by rw [ok.2]; exact w2⟩
  refine ⟨F, hF, fun s s0 s1 => ?_, fun s s0 s1 hn => (hk s s0 s1 hn).2⟩
  have f6 := fxL_ro hg hF 6 s s0 s1
  have f7 := fxL_ro hg hF 7 s s0 s1
  have m7 : (roL G 7 q0L).1 s ≤ (roL G 6 q0L).1 s := roL_m hg 6 s s0 s1
  have b6 := ivL_b (roL_k hg 6) s s0 s1
  by_cases c : F s = 1000000
  · omega
  · have := (hk s s0 s1 c).1
    omega
