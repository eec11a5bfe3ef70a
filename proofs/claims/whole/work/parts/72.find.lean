/-! LAYER 3: lines and sorts are found by their names -/
def fd (f : Int → Int) (v : Int) : Nat → Int → Int
  | 0, _ => -1
  | m + 1, i => if f i = v then i else fd f v m (i + 1)
theorem fd_cg {f g : Int → Int} {v : Int} : ∀ (m : Nat) (i : Int), (∀ j, i ≤ j → j < i + m → f j = g j) → fd f v m i = fd g v m i
  | 0, i, h => rfl
  | m + 1, i, h => by
    unfold fd
    rw [h i (by omega) (by omega), fd_cg m (i + 1) (fun j h1 h2 => h j (by omega) (by omega))]
theorem fd_s {f : Int → Int} {v : Int} : ∀ (m : Nat) (i : Int), 0 ≤ i → (fd f v m i = -1 ∧ ∀ j, i ≤ j → j < i + m → f j ≠ v) ∨ (i ≤ fd f v m i ∧ fd f v m i < i + m ∧ f (fd f v m i) = v)
  | 0, i, h => .inl ⟨rfl, fun j h1 h2 => by omega⟩
  | m + 1, i, h => by
    unfold fd
    by_cases c : f i = v
    · rw [if_pos c]
      exact .inr ⟨by omega, by omega, c⟩
    · rw [if_neg c]
      rcases fd_s (f := f) (v := v) m (i + 1) (by omega) with h1 | h1
      · refine .inl ⟨h1.1, fun j j1 j2 => ?_⟩
        by_cases e : j = i
        · rw [e]; exact c
        · exact h1.2 j (by omega) (by omega)
      · exact .inr ⟨by omega, by omega, h1.2.2⟩
theorem x_fline_l {d : Nat} {M : Mm} {K : Kt} {b : Nat} {v L : Int} (hb : b = 4 ∨ b = 14) (hv : zR32 v = true) (h0 : M b 0 = L) (hL : 0 ≤ L ∧ L ≤ 24) (hn : ∀ i, 0 ≤ i → i < L → zR32 (M (b + 1) i) = true) : ∀ (m : Nat) (i : Int), i + m = L → 0 ≤ i → K (fd (M (b + 1)) v m i) M → zWp (zSp d) 23 K 2 [some (.inr (.inr b)), some (.inl v), some (.inl i)] [] M
  | 0, i, hm, hi, hK => by
    have ob : zObj b 2 = true := by rcases hb with e | e <;> subst e <;> rfl
    rw [fe_23_2, h0]
    refine zC_i ob (zC_i (zr (by omega) (by omega)) (zC_i (zr (by omega) (by omega)) ⟨fun _ => hK, fun c => absurd (by omega) c⟩))
  | m + 1, i, hm, hi, hK => by
    have ob : zObj b 2 = true := by rcases hb with e | e <;> subst e <;> rfl
    have oa : zArr (b + 1) 0 = true := by rcases hb with e | e <;> subst e <;> rfl
    have ol : zLen (b + 1) = 24 := by rcases hb with e | e <;> subst e <;> rfl
    unfold fd at hK
    rw [fe_23_2, h0, ol]
    refine zC_i ob (zC_i (zr (by omega) (by omega)) (zC_i (zr (by omega) (by omega)) ⟨fun c => absurd c (by omega), fun _ => zC_i ob (zC_i oa (zC_i (zs (by omega) (by omega)) (zC_i (hn i hi (by omega)) (zC_i hv ⟨fun c => ?_, fun c => ?_⟩))))⟩))
    · rw [if_neg c] at hK
      exact x_fline_l hb hv h0 hL hn m (i + 1) (by omega) (by omega) hK
    · rw [if_pos (Decidable.not_not.mp c)] at hK
      exact hK
theorem x_findLine {d : Nat} {M : Mm} {K : Kt} {b : Nat} {v L : Int} (hb : b = 4 ∨ b = 14) (hv : zR32 v = true) (h0 : M b 0 = L) (hL : 0 ≤ L ∧ L ≤ 24) (hn : ∀ i, 0 ≤ i → i < L → zR32 (M (b + 1) i) = true) (hK : K (fd (M (b + 1)) v L.toNat 0) M) : zSp (d + 1) 23 [.inr (.inr b), .inl v] M K := by
  rw [me_23]
  exact x_fline_l hb hv h0 hL hn L.toNat 0 (by omega) (by omega) hK
theorem x_fsort_l {d : Nat} {M : Mm} {K : Kt} {v L : Int} (hv : zR32 v = true) (h0 : M 14 1 = L) (hL : 0 ≤ L ∧ L ≤ 6) (hn : ∀ i, 0 ≤ i → i < L → zR32 (M 21 i) = true) : ∀ (m : Nat) (i : Int), i + m = L → 0 ≤ i → K (fd (M 21) v m i) M → zWp (zSp d) 24 K 2 [some (.inr (.inr 14)), some (.inl v), some (.inl i)] [] M
  | 0, i, hm, hi, hK => by
    rw [fe_24_2, h0]
    refine zC_i rfl (zC_i (zr (by omega) (by omega)) (zC_i (zr (by omega) (by omega)) ⟨fun _ => hK, fun c => absurd (by omega) c⟩))
  | m + 1, i, hm, hi, hK => by
    unfold fd at hK
    rw [fe_24_2, h0]
    refine zC_i rfl (zC_i (zr (by omega) (by omega)) (zC_i (zr (by omega) (by omega)) ⟨fun c => absurd c (by omega), fun _ => zC_i rfl (zC_i rfl (zC_i (zs (by omega) (show i < 6 by omega)) (zC_i (hn i hi (by omega)) (zC_i hv ⟨fun c => ?_, fun c => ?_⟩))))⟩))
    · rw [if_neg c] at hK
      exact x_fsort_l hv h0 hL hn m (i + 1) (by omega) (by omega) hK
    · rw [if_pos (Decidable.not_not.mp c)] at hK
      exact hK
theorem m_line_l {d : Nat} {M : Mm} {K : Kt} {v L : Int} (hv : zR64 v = true) (h0 : M 156 192 = L) (hL : 0 ≤ L ∧ L ≤ 24) (hn : ∀ i, 0 ≤ i → i < L → zR64 (M 157 i) = true) : ∀ (m : Nat) (i : Int), i + m = L → 0 ≤ i → K (fd (M 157) v m i) M → zWp (zSp d) 171 K 2 [some (.inr (.inr 154)), some (.inr (.inl v)), none, some (.inl i)] [] M
  | 0, i, hm, hi, hK => by
    rw [fe_171_2, h0]
    refine zC_i (zr (by omega) (by omega)) (zC_i (zr (by omega) (by omega)) ⟨fun _ => hK, fun c => absurd (by omega) c⟩)
  | m + 1, i, hm, hi, hK => by
    unfold fd at hK
    rw [fe_171_2, h0]
    refine zC_i (zr (by omega) (by omega)) (zC_i (zr (by omega) (by omega)) ⟨fun c => absurd c (by omega), fun _ => zC_i (zs (by omega) (by omega)) (zC_i (hn i hi (by omega)) (zC_i hv (zC_i zLcmp_r ⟨fun c => ?_, fun c => ?_⟩)))⟩)
    · rw [if_neg (fun e => c (zLcmp_eq.mpr e))] at hK
      exact m_line_l hv h0 hL hn m (i + 1) (by omega) (by omega) hK
    · rw [if_pos (zLcmp_eq.mp (Decidable.not_not.mp c))] at hK
      exact hK
/-- the line of a name -/
def gLf (G : Mm) (v : Int) : Int := fd (G 5) v (G 4 0).toNat 0
theorem gLf_s {G : Mm} {v : Int} (hg : gLn G) : gLf G v = -1 ∨ (0 ≤ gLf G v ∧ gLf G v < G 4 0) := by
  have c0 := hg.1
  rcases fd_s (f := G 5) (v := v) (G 4 0).toNat 0 (by omega) with h | h
  · exact .inl h.1
  · refine .inr ⟨h.1, ?_⟩
    have := h.2.1
    unfold gLf
    omega
theorem x_lineOf {d : Nat} {M G : Mm} {K : Kt} {v : Int} (hg : gLn G) (hx : xG G M) (hv : zR32 v = true) (hK : K (gLf G v) M) : zSp (d + 1) 23 [.inr (.inr 4), .inl v] M K := by
  have c0 := hg.1
  have e4 : M 4 = G 4 := hx 4 (by decide) (by decide)
  have e5 : M 5 = G 5 := hx 5 (by decide) (by decide)
  refine x_findLine (L := G 4 0) (.inl rfl) hv (by rw [e4]) (by omega) (fun i i0 i1 => ?_) ?_
  · rw [show M (4 + 1) = G 5 from e5]
    have := (hg.2.1 i i0 i1).1
    exact zr (by omega) (by omega)
  · rw [show M (4 + 1) = G 5 from e5]
    exact hK
theorem m_lineOf {d : Nat} {M G : Mm} {K : Kt} {v : Int} (hg : gLn G) (hm : mG G M) (hv : zR64 v = true) (hK : K (gLf G v) M) : zSp (d + 1) 171 [.inr (.inr 154), .inr (.inl v)] M K := by
  have c0 := hg.1
  rw [me_171]
  refine m_line_l (L := G 4 0) hv hm.1 (by omega) (fun i i0 i1 => ?_) (G 4 0).toNat 0 (by omega) (by omega) ?_
  · rw [(hm.2.2.1 i i0 i1).1]
    have := (hg.2.1 i i0 i1).1
    exact zr64 (by omega) (by omega)
  · rw [fd_cg (g := G 5) (G 4 0).toNat 0 (fun j j0 j1 => (hm.2.2.1 j j0 (by omega)).1)]
    exact hK
