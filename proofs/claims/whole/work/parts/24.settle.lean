/-! LAYER 3: the class's trees: settle -/
def xT (b : Nat) : Prop := 38 ≤ b ∧ b ≤ 126 ∧ b % 8 = 6
theorem xT_c {b : Nat} (h : xT b) : zObj b 9 = true ∧ (zArr (b + 1) 0 = true ∧ zArr (b + 2) 0 = true ∧ zArr (b + 3) 0 = true ∧ zArr (b + 4) 0 = true ∧ zArr (b + 5) 0 = true ∧ zArr (b + 6) 0 = true ∧ zArr (b + 7) 0 = true) ∧ (zLen (b + 1) = 80 ∧ zLen (b + 2) = 80 ∧ zLen (b + 3) = 80 ∧ zLen (b + 4) = 80 ∧ zLen (b + 5) = 80 ∧ zLen (b + 6) = 80 ∧ zLen (b + 7) = 80) := by
  have h : b = 38 ∨ b = 46 ∨ b = 54 ∨ b = 62 ∨ b = 70 ∨ b = 78 ∨ b = 86 ∨ b = 94 ∨ b = 102 ∨ b = 110 ∨ b = 118 ∨ b = 126 := by
    unfold xT at h; omega
  rcases h with h | h | h | h | h | h | h | h | h | h | h | h <;> subst h <;> decide
theorem zC_t {P : Prop} : zC true P = P := rfl
/-- n steps up, each from a node that is full -/
def tCl (M : Mm) (b : Nat) : Nat → Int → Int → Prop
  | 0, j, a => j = a
  | n + 1, j, a => (0 ≤ j ∧ j < 80) ∧ (M (b + 2) j ≤ M (b + 7) j ∧ 0 ≤ M (b + 2) j ∧ M (b + 7) j ≤ 80) ∧ tCl M b n (M (b + 3) j) a
theorem tCl_snoc {M : Mm} {b : Nat} : ∀ (n : Nat) (j a a' : Int), tCl M b n j a → (0 ≤ a ∧ a < 80) → (M (b + 2) a ≤ M (b + 7) a ∧ 0 ≤ M (b + 2) a ∧ M (b + 7) a ≤ 80) → M (b + 3) a = a' → tCl M b (n + 1) j a'
  | 0, j, a, a', h, h1, h2, h3 => by
    have h : j = a := h
    subst h
    exact ⟨h1, h2, h3⟩
  | n + 1, j, a, a', h, h1, h2, h3 => ⟨h.1, h.2.1, tCl_snoc n _ a a' h.2.2 h1 h2 h3⟩
theorem x_climb {d : Nat} {M : Mm} {K : Kt} {b : Nat} {x1 a : Int} (hb : xT b) (h1 : 0 ≤ x1 ∧ x1 < 80) (ha : -1 ≤ a ∧ a < 80) (hs : a < 0 ∨ (M (b + 7) a < M (b + 2) a ∧ M (b + 2) a ≤ 80 ∧ 0 ≤ M (b + 7) a))
    (hk : ∀ x3, zWp (zSp d) 84 K 58 [some (.inr (.inr b)), some (.inl x1), some (.inl a), some (.inl x3)] [] M) : ∀ (n : Nat) (j u : Int), tCl M b n j a → 0 ≤ u → u + n ≤ x1 → zWp (zSp d) 84 K 21 [some (.inr (.inr b)), some (.inl x1), some (.inl j), some (.inl u)] [] M
  | 0, j, u, hc, hu, hn => by
    obtain ⟨o, ⟨a1, a2, a3, a4, a5, a6, a7⟩, l1, l2, l3, l4, l5, l6, l7⟩ := xT_c hb
    have hc : j = a := hc
    subst hc
    rw [fe_84_21]
    simp only [o, a2, a3, a7, l2, l3, l7, zC_t]
    refine zC_i (by first | assumption | decide | exact zr (by omega) (by omega) | exact zs (by omega) (by omega) | exact zd (by omega) (by omega)) (zC_i (by first | assumption | decide | exact zr (by omega) (by omega) | exact zs (by omega) (by omega) | exact zd (by omega) (by omega)) ⟨fun _ => hk u, fun c => zC_i (by first | assumption | decide | exact zr (by omega) (by omega) | exact zs (by omega) (by omega) | exact zd (by omega) (by omega)) ⟨fun _ => hk u, fun c2 => ?_⟩⟩)
    rcases hs with hs | hs
    · omega
    (repeat (refine zC_i (by first | assumption | decide | exact zr (by omega) (by omega) | exact zs (by omega) (by omega) | exact zd (by omega) (by omega)) ?_))
    exact ⟨fun _ => hk u, fun c => absurd hs.1 c⟩
  | n + 1, j, u, hc, hu, hn => by
    obtain ⟨o, ⟨a1, a2, a3, a4, a5, a6, a7⟩, l1, l2, l3, l4, l5, l6, l7⟩ := xT_c hb
    obtain ⟨hc1, hc2, hc3⟩ := hc
    rw [fe_84_21]
    simp only [o, a2, a3, a7, l2, l3, l7, zC_t]
    refine zC_i (by first | assumption | decide | exact zr (by omega) (by omega) | exact zs (by omega) (by omega) | exact zd (by omega) (by omega)) (zC_i (by first | assumption | decide | exact zr (by omega) (by omega) | exact zs (by omega) (by omega) | exact zd (by omega) (by omega)) ⟨fun c => ?_, fun c => zC_i (by first | assumption | decide | exact zr (by omega) (by omega) | exact zs (by omega) (by omega) | exact zd (by omega) (by omega)) ⟨fun c => ?_, fun c2 => ?_⟩⟩)
    · omega
    · omega
    (repeat (refine zC_i (by first | assumption | decide | exact zr (by omega) (by omega) | exact zs (by omega) (by omega) | exact zd (by omega) (by omega)) ?_))
    refine ⟨fun c => ?_, fun c => ?_⟩
    · omega
    (repeat (refine zC_i (by first | assumption | decide | exact zr (by omega) (by omega) | exact zs (by omega) (by omega) | exact zd (by omega) (by omega)) ?_))
    exact x_climb hb h1 ha hs hk n _ (u + 1) hc3 (by omega) (by omega)
/-- one node: what it leaves -/
theorem x_one {d : Nat} {M : Mm} {K : Kt} {b : Nat} {x1 a x3 : Int} (hb : xT b) (h1 : 0 ≤ x1 ∧ x1 < 80) (ha : 0 ≤ a ∧ a < x1) (hd : 0 ≤ M b 2 ∧ M b 2 ≤ 80) (hl : 0 ≤ M (b + 5) a ∧ M (b + 5) a < 80)
    (hk : ∀ M' x2 x3, (∀ c, c ≠ b → c ≠ b + 3 → c ≠ b + 4 → c ≠ b + 5 → c ≠ b + 6 → c ≠ b + 7 → M' c = M c) → (∀ i, i ≠ 2 → M' b i = M b i) → M' b 2 = zMax (M b 2) (M (b + 5) a + 1) → (∀ i, M' (b + 3) i = if i = x1 then a else M (b + 3) i) → (∀ i, M' (b + 4) i = if i = x1 then M (b + 7) a else M (b + 4) i) → (∀ i, M' (b + 5) i = if i = x1 then M (b + 5) a + 1 else M (b + 5) i) → (∀ i, M' (b + 6) i = if i = x1 then 1 else M (b + 6) i) → (∀ i, M' (b + 7) i = if i = x1 then 0 else if i = a then M (b + 7) a + 1 else M (b + 7) i) → zWp (zSp d) 84 K 7 [some (.inr (.inr b)), some (.inl (x1 + 1)), x2, x3] [] M') : zWp (zSp d) 84 K 58 [some (.inr (.inr b)), some (.inl x1), some (.inl a), some (.inl x3)] [] M := by
  obtain ⟨o, ⟨a1, a2, a3, a4, a5, a6, a7⟩, l1, l2, l3, l4, l5, l6, l7⟩ := xT_c hb
  have hx : a ≠ x1 := by omega
  have n1 : ∀ k m : Nat, k ≠ m → b + k ≠ b + m := fun k m h => by omega
  have n2 : ∀ k : Nat, k ≠ 0 → b ≠ b + k := fun k h => by omega
  have n3 : ∀ k : Nat, k ≠ 0 → b + k ≠ b := fun k h => by omega
  rw [fe_84_58]
  simp only [o, a3, a7, l3, l7, zC_t]
  refine zC_i (by first | assumption | decide | exact zr (by omega) (by omega) | exact zs (by omega) (by omega) | exact zd (by omega) (by omega)) (zC_i (by first | assumption | decide | exact zr (by omega) (by omega) | exact zs (by omega) (by omega) | exact zd (by omega) (by omega)) ⟨fun _ => zC_i (by first | assumption | decide | exact zr (by omega) (by omega) | exact zs (by omega) (by omega) | exact zd (by omega) (by omega)) ?_, fun c => absurd ha.1 c⟩)
  rw [fe_84_84]
  simp only [o, a4, a5, l4, l5, zC_t]
  refine zC_i (by first | assumption | decide | exact zr (by omega) (by omega) | exact zs (by omega) (by omega) | exact zd (by omega) (by omega)) (zC_i (by first | assumption | decide | exact zr (by omega) (by omega) | exact zs (by omega) (by omega) | exact zd (by omega) (by omega)) ⟨fun _ => zC_i (by first | assumption | decide | exact zr (by omega) (by omega) | exact zs (by omega) (by omega) | exact zd (by omega) (by omega)) ?_, fun c => absurd ha.1 c⟩)
  rw [fe_84_106]
  simp only [o, a5, a7, l5, l7, zC_t]
  refine zC_i (by first | assumption | decide | exact zr (by omega) (by omega) | exact zs (by omega) (by omega) | exact zd (by omega) (by omega)) (zC_i (by first | assumption | decide | exact zr (by omega) (by omega) | exact zs (by omega) (by omega) | exact zd (by omega) (by omega)) ⟨fun c => absurd ha.1 (by omega), fun _ => zC_i (by first | assumption | decide | exact zr (by omega) (by omega) | exact zs (by omega) (by omega) | exact zd (by omega) (by omega)) (zC_i (by first | assumption | decide | exact zr (by omega) (by omega) | exact zs (by omega) (by omega) | exact zd (by omega) (by omega)) ?_)⟩)
  rw [fe_84_121]
  simp only [o, a5, a6, a7, l5, l6, l7, zC_t]
  simp (disch := omega) only [zUp_hit, zUp_away, if_pos, if_neg, ↓reduceIte]
  (repeat (refine zC_i (by first | assumption | decide | exact zr (by omega) (by omega) | exact zs (by omega) (by omega) | exact zd (by omega) (by omega)) ?_))
  refine hk _ _ _ ?_ ?_ ?_ ?_ ?_ ?_ ?_ ?_
  · intro c c1 c2 c3 c4 c5 c6
    simp only [zUp_away c1, zUp_away c2, zUp_away c3, zUp_away c4, zUp_away c5, zUp_away c6]
  · intro i hi
    simp (disch := omega) only [zUp_hit, zUp_away, if_neg, ↓reduceIte]
  · simp (disch := omega) only [zUp_hit, zUp_away, if_pos, ↓reduceIte]
  · intro i
    simp (disch := omega) only [zUp_hit, zUp_away, ↓reduceIte]
  · intro i
    simp (disch := omega) only [zUp_hit, zUp_away, ↓reduceIte]
  · intro i
    simp (disch := omega) only [zUp_hit, zUp_away, ↓reduceIte]
  · intro i
    simp (disch := omega) only [zUp_hit, zUp_away, ↓reduceIte]
  · intro i
    simp (disch := omega) only [zUp_hit, zUp_away, ↓reduceIte]
