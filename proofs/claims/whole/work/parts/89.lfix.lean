/-! LAYER 3: the least of each sort, as both find it -/
abbrev Lpq : Type := (Int → Int) × (Int → Int)
def upI (f : Int → Int) (s x : Int) : Int → Int := fun j => if j = s then x else f j
theorem upI_h {f : Int → Int} {s x : Int} : upI f s x s = x := if_pos rfl
theorem upI_t {f : Int → Int} {s x j : Int} (h : j ≠ s) : upI f s x j = f j := if_neg h
def szL (G : Mm) (L : Int → Int) (l : Int) : Nat → Int
  | 0 => 1
  | i + 1 => if szL G L l i = 1000000 ∨ L (G 10 (l * 4 + i)) = 1000000 then 1000000 else szL G L l i + L (G 10 (l * 4 + i))
def szA (G : Mm) (L : Int → Int) (l : Int) : Int := szL G L l (gNeed G l).toNat
def stL (G : Mm) (q : Lpq) (l : Int) : Lpq := if szA G q.1 l ≠ 1000000 ∧ (szA G q.1 l < q.1 (G 7 l) ∨ (szA G q.1 l = q.1 (G 7 l) ∧ l < q.2 (G 7 l))) then (upI q.1 (G 7 l) (szA G q.1 l), upI q.2 (G 7 l) l) else q
def lnL (G : Mm) : Nat → Int → Lpq → Lpq
  | 0, _, q => q
  | m + 1, l, q => lnL G m (l + 1) (stL G q l)
def rdL (G : Mm) (q : Lpq) : Lpq := lnL G (G 4 0).toNat 0 q
def roL (G : Mm) : Nat → Lpq → Lpq
  | 0, q => q
  | r + 1, q => rdL G (roL G r q)
def bdL (L : Int → Int) : Prop := ∀ s, 0 ≤ s → s < 6 → L s = 1000000 ∨ (1 ≤ L s ∧ L s ≤ 1365)
/-- the parts of a line are sorts -/
theorem gPr {G : Mm} {l : Int} (hg : gLn G) (h0 : 0 ≤ l) (h1 : l < G 4 0) {i : Nat} (hi : i < (gNeed G l).toNat) : 0 ≤ G 10 (l * 4 + i) ∧ G 10 (l * 4 + i) < G 4 1 ∧ G 10 (l * 4 + i) < 6 := by
  have c0 := hg.1
  have nb := gNeed_b hg h0 h1
  have := (hg.2.1 l h0 h1).2.2.2.2.2 i (by omega) (by omega)
  omega
theorem szL_b {G : Mm} {L : Int → Int} {l : Int} (hL : bdL L) : ∀ m : Nat, (∀ i : Nat, i < m → 0 ≤ G 10 (l * 4 + i) ∧ G 10 (l * 4 + i) < 6) → m ≤ 4 → szL G L l m = 1000000 ∨ (1 ≤ szL G L l m ∧ szL G L l m ≤ 1 + 1365 * m)
  | 0, _, _ => .inr ⟨by show (1 : Int) ≤ 1; omega, by show (1 : Int) ≤ _; omega⟩
  | m + 1, hi, hm => by
    have ih := szL_b hL m (fun i h => hi i (by omega)) (by omega)
    have hp := hi m (by omega)
    have lb := hL _ hp.1 hp.2
    unfold szL
    by_cases c : szL G L l m = 1000000 ∨ L (G 10 (l * 4 + m)) = 1000000
    · rw [if_pos c]; exact .inl rfl
    · rw [if_neg c]
      refine .inr ⟨by omega, by omega⟩
theorem szL_mono {G : Mm} {L L' : Int → Int} {l : Int} (hL : bdL L) (hL' : bdL L') (hle : ∀ s, 0 ≤ s → s < 6 → L s ≤ L' s) : ∀ m : Nat, (∀ i : Nat, i < m → 0 ≤ G 10 (l * 4 + i) ∧ G 10 (l * 4 + i) < 6) → m ≤ 4 → szL G L l m ≤ szL G L' l m
  | 0, _, _ => Int.le_refl 1
  | m + 1, hi, hm => by
    have hi' : ∀ i : Nat, i < m → 0 ≤ G 10 (l * 4 + i) ∧ G 10 (l * 4 + i) < 6 := fun i h => hi i (by omega)
    have ih := szL_mono hL hL' hle m hi' (by omega)
    have b1 := szL_b (G := G) (l := l) hL m hi' (by omega)
    have b2 := szL_b (G := G) (l := l) hL' m hi' (by omega)
    have hp := hi m (by omega)
    have l1 := hL _ hp.1 hp.2
    have l2 := hL' _ hp.1 hp.2
    have l3 := hle _ hp.1 hp.2
    unfold szL
    by_cases c : szL G L l m = 1000000 ∨ L (G 10 (l * 4 + m)) = 1000000
    · rw [if_pos c, if_pos (by omega)]; exact Int.le_refl _
    · rw [if_neg c]
      by_cases c2 : szL G L' l m = 1000000 ∨ L' (G 10 (l * 4 + m)) = 1000000
      · rw [if_pos c2]; omega
      · rw [if_neg c2]; omega
theorem szL_cg {G : Mm} {L L' : Int → Int} {l : Int} : ∀ m : Nat, (∀ i : Nat, i < m → L (G 10 (l * 4 + i)) = L' (G 10 (l * 4 + i))) → szL G L l m = szL G L' l m
  | 0, _ => rfl
  | m + 1, hi => by
    have ih := szL_cg m (fun i h => hi i (by omega))
    unfold szL
    rw [ih, hi m (by omega)]
theorem szL_pt {G : Mm} {L : Int → Int} {l : Int} (hL : bdL L) : ∀ m : Nat, (∀ i : Nat, i < m → 0 ≤ G 10 (l * 4 + i) ∧ G 10 (l * 4 + i) < 6) → m ≤ 4 → szL G L l m ≠ 1000000 → ∀ i : Nat, i < m → L (G 10 (l * 4 + i)) ≠ 1000000 ∧ L (G 10 (l * 4 + i)) < szL G L l m
  | 0, _, _, _, i, h => by omega
  | m + 1, hi, hm, hz, i, h => by
    have hi' : ∀ i : Nat, i < m → 0 ≤ G 10 (l * 4 + i) ∧ G 10 (l * 4 + i) < 6 := fun i h => hi i (by omega)
    have b1 := szL_b (G := G) (l := l) hL m hi' (by omega)
    have hp := hi m (by omega)
    have l1 := hL _ hp.1 hp.2
    unfold szL at hz ⊢
    by_cases c : szL G L l m = 1000000 ∨ L (G 10 (l * 4 + m)) = 1000000
    · rw [if_pos c] at hz; exact absurd rfl hz
    · rw [if_neg c]
      by_cases e : i = m
      · subst e; omega
      · have ih := szL_pt hL m hi' (by omega) (by omega) i (by omega)
        omega
theorem szA_b {G : Mm} {L : Int → Int} {l : Int} (hg : gLn G) (hL : bdL L) (h0 : 0 ≤ l) (h1 : l < G 4 0) : szA G L l = 1000000 ∨ (1 ≤ szA G L l ∧ szA G L l ≤ 5461) := by
  have nb := gNeed_b hg h0 h1
  have := szL_b (G := G) (l := l) hL (gNeed G l).toNat (fun i hi => by have := gPr hg h0 h1 hi; omega) (by omega)
  unfold szA
  omega
theorem szA_mono {G : Mm} {L L' : Int → Int} {l : Int} (hg : gLn G) (hL : bdL L) (hL' : bdL L') (hle : ∀ s, 0 ≤ s → s < 6 → L s ≤ L' s) (h0 : 0 ≤ l) (h1 : l < G 4 0) : szA G L l ≤ szA G L' l := by
  have nb := gNeed_b hg h0 h1
  exact szL_mono hL hL' hle _ (fun i hi => by have := gPr hg h0 h1 hi; omega) (by omega)
-- how large
def cnL (L : Int → Int) : Nat → Nat
  | 0 => 0
  | k + 1 => cnL L k + (if L (k : Int) = 1000000 then 0 else 1)
def Bn : Nat → Int
  | 0 => 0
  | c + 1 => 1 + 4 * Bn c
theorem Bn_m : ∀ (b a : Nat), a ≤ b → 0 ≤ Bn a ∧ Bn a ≤ Bn b
  | 0, a, h => by rw [show a = 0 by omega]; exact ⟨by decide, Int.le_refl _⟩
  | b + 1, a, h => by
    have ih := Bn_m b b (Nat.le_refl _)
    have e : Bn (b + 1) = 1 + 4 * Bn b := rfl
    by_cases c : a = b + 1
    · subst c; omega
    · have := Bn_m b a (by omega)
      omega
theorem cnL_le {L : Int → Int} : ∀ k : Nat, cnL L k ≤ k
  | 0 => Nat.le_refl 0
  | k + 1 => by
    have ih := cnL_le (L := L) k
    unfold cnL
    split <;> omega
theorem cnL_up {L : Int → Int} {s x : Int} (hx : x ≠ 1000000) (hs : 0 ≤ s) : ∀ k : Nat, cnL (upI L s x) k = cnL L k + (if L s = 1000000 ∧ s < k then 1 else 0)
  | 0 => by rw [if_neg (by omega)]; rfl
  | k + 1 => by
    have ih := cnL_up (L := L) hx hs k
    unfold cnL
    rw [ih]
    by_cases e : (k : Int) = s
    · rw [e, upI_h, if_neg hx, if_neg (show ¬ (L s = 1000000 ∧ s < s) by omega)]
      by_cases c : L s = 1000000
      · rw [if_pos c, if_pos ⟨c, by omega⟩]
      · rw [if_neg c, if_neg (fun q => c q.1)]
    · rw [upI_t e]
      by_cases c : L s = 1000000 ∧ s < k
      · rw [if_pos c, if_pos (show L s = 1000000 ∧ s < ((k + 1 : Nat) : Int) from ⟨c.1, by omega⟩)]; omega
      · rw [if_neg c, if_neg (show ¬ (L s = 1000000 ∧ s < ((k + 1 : Nat) : Int)) by omega)]; omega
def ivL (G : Mm) (q : Lpq) : Prop := (∀ s, 0 ≤ s → s < 6 → q.1 s = 1000000 ∨ (1 ≤ q.1 s ∧ q.1 s ≤ Bn (cnL q.1 6))) ∧ (∀ s, 0 ≤ s → s < 6 → q.1 s ≠ 1000000 → (0 ≤ q.2 s ∧ q.2 s < G 4 0) ∧ G 7 (q.2 s) = s ∧ szA G q.1 (q.2 s) ≤ q.1 s)
theorem ivL_b {G : Mm} {q : Lpq} (h : ivL G q) : bdL q.1 := by
  intro s s0 s1
  have c := cnL_le (L := q.1) 6
  have b := Bn_m 6 _ c
  have e : Bn 6 = 1365 := by decide
  have := h.1 s s0 s1
  omega
theorem szL_B {G : Mm} {L : Int → Int} {l B : Int} (hB : 0 ≤ B) : ∀ m : Nat, (∀ i : Nat, i < m → L (G 10 (l * 4 + i)) = 1000000 ∨ L (G 10 (l * 4 + i)) ≤ B) → szL G L l m = 1000000 ∨ szL G L l m ≤ 1 + m * B
  | 0, _ => .inr (by show (1 : Int) ≤ 1 + 0 * B; omega)
  | m + 1, hi => by
    have ih := szL_B hB m (fun i h => hi i (by omega))
    have hp := hi m (by omega)
    unfold szL
    by_cases c : szL G L l m = 1000000 ∨ L (G 10 (l * 4 + m)) = 1000000
    · rw [if_pos c]; exact .inl rfl
    · rw [if_neg c]
      refine .inr ?_
      rw [show ((m + 1 : Nat) : Int) = m + 1 by omega, Int.add_mul, Int.one_mul]
      omega
theorem stL_k {G : Mm} {q : Lpq} {l : Int} (hg : gLn G) (h : ivL G q) (h0 : 0 ≤ l) (h1 : l < G 4 0) : ivL G (stL G q l) ∧ (∀ s, 0 ≤ s → s < 6 → (stL G q l).1 s ≤ q.1 s) := by
  have c0 := hg.1
  have hb := ivL_b h
  have gs := (hg.2.1 l h0 h1).2.2.1
  have nb := gNeed_b hg h0 h1
  have zb := szA_b hg hb h0 h1
  unfold stL
  by_cases c : szA G q.1 l ≠ 1000000 ∧ (szA G q.1 l < q.1 (G 7 l) ∨ (szA G q.1 l = q.1 (G 7 l) ∧ l < q.2 (G 7 l)))
  · rw [if_pos c]
    have le : ∀ s, 0 ≤ s → s < 6 → (upI q.1 (G 7 l) (szA G q.1 l)) s ≤ q.1 s := by
      intro s s0 s1
      by_cases e : s = G 7 l
      · rw [e, upI_h]; omega
      · rw [upI_t e]; exact Int.le_refl _
    have cu := cnL_up (L := q.1) c.1 gs.1 6
    have cl := cnL_le (L := upI q.1 (G 7 l) (szA G q.1 l)) 6
    have v1 : ∀ s, 0 ≤ s → s < 6 → (upI q.1 (G 7 l) (szA G q.1 l)) s = 1000000 ∨ (1 ≤ (upI q.1 (G 7 l) (szA G q.1 l)) s ∧ (upI q.1 (G 7 l) (szA G q.1 l)) s ≤ Bn (cnL (upI q.1 (G 7 l) (szA G q.1 l)) 6)) := by
      intro s s0 s1
      have bm := Bn_m (cnL (upI q.1 (G 7 l) (szA G q.1 l)) 6) (cnL q.1 6) (by omega)
      have hs := h.1 s s0 s1
      by_cases e : s = G 7 l
      · rw [e, upI_h]
        by_cases n : q.1 (G 7 l) = 1000000
        · rw [if_pos ⟨n, by omega⟩] at cu
          have sB := szL_B (G := G) (L := q.1) (l := l) bm.1 (gNeed G l).toNat (fun i hi => by
            have := gPr hg h0 h1 hi
            have := h.1 _ this.1 this.2.2
            omega)
          have e1 : Bn (cnL q.1 6 + 1) = 1 + 4 * Bn (cnL q.1 6) := rfl
          have e2 : ((gNeed G l).toNat : Int) * Bn (cnL q.1 6) ≤ 4 * Bn (cnL q.1 6) := Int.mul_le_mul_of_nonneg_right (by omega) bm.1
          rw [cu, e1]
          unfold szA at *
          omega
        · have hs' := h.1 _ gs.1 (by omega)
          omega
      · rw [upI_t e]; omega
    have hb2 : bdL (upI q.1 (G 7 l) (szA G q.1 l)) := by
      intro s s0 s1
      have b := Bn_m 6 _ cl
      have e : Bn 6 = 1365 := by decide
      have := v1 s s0 s1
      omega
    refine ⟨⟨v1, fun s s0 s1 hn => ?_⟩, le⟩
    by_cases e : s = G 7 l
    · show (0 ≤ (upI q.2 (G 7 l) l) s ∧ (upI q.2 (G 7 l) l) s < G 4 0) ∧ G 7 ((upI q.2 (G 7 l) l) s) = s ∧ szA G (upI q.1 (G 7 l) (szA G q.1 l)) ((upI q.2 (G 7 l) l) s) ≤ (upI q.1 (G 7 l) (szA G q.1 l)) s
      rw [e, upI_h, upI_h]
      exact ⟨⟨h0, h1⟩, rfl, szA_mono hg hb2 hb le h0 h1⟩
    · have hn : (upI q.1 (G 7 l) (szA G q.1 l)) s ≠ 1000000 := hn
      show (0 ≤ (upI q.2 (G 7 l) l) s ∧ (upI q.2 (G 7 l) l) s < G 4 0) ∧ G 7 ((upI q.2 (G 7 l) l) s) = s ∧ szA G (upI q.1 (G 7 l) (szA G q.1 l)) ((upI q.2 (G 7 l) l) s) ≤ (upI q.1 (G 7 l) (szA G q.1 l)) s
      rw [upI_t e] at hn
      rw [upI_t e, upI_t e]
      obtain ⟨a1, a2, a3⟩ := h.2 s s0 s1 hn
      exact ⟨a1, a2, Int.le_trans (szA_mono hg hb2 hb le a1.1 a1.2) a3⟩
  · rw [if_neg c]
    exact ⟨h, fun s _ _ => Int.le_refl _⟩
theorem lnL_k {G : Mm} (hg : gLn G) : ∀ (m : Nat) (l : Int) (q : Lpq), 0 ≤ l → l + m ≤ G 4 0 → ivL G q → ivL G (lnL G m l q) ∧ (∀ s, 0 ≤ s → s < 6 → (lnL G m l q).1 s ≤ q.1 s)
  | 0, l, q, h0, h1, h => ⟨h, fun s _ _ => Int.le_refl _⟩
  | m + 1, l, q, h0, h1, h => by
    have a := stL_k hg h h0 (by omega)
    have b := lnL_k hg m (l + 1) (stL G q l) (by omega) (by omega) a.1
    exact ⟨b.1, fun s s0 s1 => Int.le_trans (b.2 s s0 s1) (a.2 s s0 s1)⟩
def q0L : Lpq := (fun _ => 1000000, fun _ => -1)
theorem ivL_0 {G : Mm} : ivL G q0L := ⟨fun _ _ _ => .inl rfl, fun _ _ _ h => absurd rfl h⟩
theorem roL_k {G : Mm} (hg : gLn G) : ∀ r : Nat, ivL G (roL G r q0L)
  | 0 => ivL_0
  | r + 1 => by
    have c0 := hg.1
    exact (lnL_k hg (G 4 0).toNat 0 _ (by omega) (by omega) (roL_k hg r)).1
theorem roL_m {G : Mm} (hg : gLn G) (r : Nat) : ∀ s, 0 ≤ s → s < 6 → (roL G (r + 1) q0L).1 s ≤ (roL G r q0L).1 s := by
  have c0 := hg.1
  exact (lnL_k hg (G 4 0).toNat 0 _ (by omega) (by omega) (roL_k hg r)).2
-- it comes to rest
def sm6 (L : Int → Int) : Int := L 0 + L 1 + L 2 + L 3 + L 4 + L 5
theorem all6 {P : Int → Prop} (h0 : P 0) (h1 : P 1) (h2 : P 2) (h3 : P 3) (h4 : P 4) (h5 : P 5) : ∀ s, 0 ≤ s → s < 6 → P s := by
  intro s s0 s1
  rcases (show s = 0 ∨ s = 1 ∨ s = 2 ∨ s = 3 ∨ s = 4 ∨ s = 5 by omega) with e | e | e | e | e | e <;> subst e <;> assumption
theorem roL_rest {G : Mm} (hg : gLn G) : ∀ (k N : Nat), sm6 (roL G N q0L).1 ≤ k → ∃ N, ∀ s, 0 ≤ s → s < 6 → (roL G (N + 1) q0L).1 s = (roL G N q0L).1 s
  | 0, N, h => by
    have b := ivL_b (roL_k hg N)
    have b0 := b 0 (by decide) (by decide)
    have b1 := b 1 (by decide) (by decide)
    have b2 := b 2 (by decide) (by decide)
    have b3 := b 3 (by decide) (by decide)
    have b4 := b 4 (by decide) (by decide)
    have b5 := b 5 (by decide) (by decide)
    unfold sm6 at h
    exfalso
    omega
  | k + 1, N, h => by
    have m := roL_m hg N
    have m0 := m 0 (by decide) (by decide)
    have m1 := m 1 (by decide) (by decide)
    have m2 := m 2 (by decide) (by decide)
    have m3 := m 3 (by decide) (by decide)
    have m4 := m 4 (by decide) (by decide)
    have m5 := m 5 (by decide) (by decide)
    by_cases c : sm6 (roL G (N + 1) q0L).1 = sm6 (roL G N q0L).1
    · unfold sm6 at c
      exact ⟨N, all6 (by omega) (by omega) (by omega) (by omega) (by omega) (by omega)⟩
    · refine roL_rest hg k (N + 1) ?_
      unfold sm6 at *
      omega
