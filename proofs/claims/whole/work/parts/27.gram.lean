/-! LAYER 3: the grammar as a frozen memory G (cells 4 to 13 of the class) -/
def gNeed (G : Mm) (l : Int) : Int := G 8 l - G 9 l
def gSum (G : Mm) (l : Int) : Nat → Int
  | 0 => 1
  | i + 1 => gSum G l i + G 12 (G 10 (l * 4 + i))
/-- lines and sorts are such as a reader makes them -/
def gLn (G : Mm) : Prop := (0 ≤ G 4 0 ∧ G 4 0 ≤ 24 ∧ 0 ≤ G 4 1 ∧ G 4 1 ≤ 6) ∧ (∀ l, 0 ≤ l → l < G 4 0 → ((0 ≤ G 5 l ∧ G 5 l < 1073741824) ∧ (G 6 l = 0 ∨ G 6 l = 1) ∧ (0 ≤ G 7 l ∧ G 7 l < G 4 1) ∧ (0 ≤ G 8 l ∧ G 8 l ≤ 4) ∧ (G 9 l = 0 ∨ (G 9 l = 1 ∧ 1 ≤ G 8 l)) ∧ ∀ i, 0 ≤ i → i < G 8 l → (0 ≤ G 10 (l * 4 + i) ∧ G 10 (l * 4 + i) < G 4 1))) ∧ (∀ s, 0 ≤ s → s < G 4 1 → (0 ≤ G 11 s ∧ G 11 s < 1073741824))
/-- the least of each sort -/
def gLe (G : Mm) : Prop := ∀ s, 0 ≤ s → s < G 4 1 → ((1 ≤ G 12 s ∧ G 12 s ≤ 100000) ∧ (0 ≤ G 13 s ∧ G 13 s < G 4 0) ∧ G 7 (G 13 s) = s ∧ G 12 s = gSum G (G 13 s) (gNeed G (G 13 s)).toNat)
def gOk (G : Mm) : Prop := gLn G ∧ gLe G
def xG (G M : Mm) : Prop := ∀ c, 4 ≤ c → c ≤ 13 → M c = G c
def mG (G M : Mm) : Prop := M 156 192 = G 4 0 ∧ M 156 193 = G 4 1 ∧ (∀ l, 0 ≤ l → l < G 4 0 → (M 157 l = G 5 l ∧ M 156 (8 * l + 0) = G 7 l ∧ M 156 (8 * l + 1) = G 6 l ∧ M 156 (8 * l + 2) = G 8 l ∧ M 156 (8 * l + 3) = G 9 l ∧ ∀ i, 0 ≤ i → i < G 8 l → M 156 (8 * l + (4 + i)) = G 10 (l * 4 + i))) ∧ (∀ s, 0 ≤ s → s < G 4 1 → (M 158 s = G 11 s ∧ M 162 s = G 12 s ∧ M 163 s = G 13 s))
theorem mG_fr {G M M' : Mm} (h : mG G M) (h1 : M' 156 = M 156) (h2 : M' 157 = M 157) (h3 : M' 158 = M 158) (h4 : M' 162 = M 162) (h5 : M' 163 = M 163) : mG G M' := by
  unfold mG at h ⊢
  rw [h1, h2, h3, h4, h5]
  exact h
theorem xG_fr {G M M' : Mm} (h : xG G M) (h1 : ∀ c, 4 ≤ c → c ≤ 13 → M' c = M c) : xG G M' := fun c c1 c2 => by
  rw [h1 c c1 c2, h c c1 c2]
theorem gNeed_b {G : Mm} {l : Int} (hg : gLn G) (h0 : 0 ≤ l) (h1 : l < G 4 0) : 0 ≤ gNeed G l ∧ gNeed G l ≤ 4 ∧ gNeed G l ≤ G 8 l := by
  obtain ⟨_, _, _, c3, c4, _⟩ := hg.2.1 l h0 h1
  unfold gNeed
  omega
theorem x_needed {d : Nat} {M G : Mm} {K : Kt} {l : Int} (hg : gLn G) (hx : xG G M) (h0 : 0 ≤ l) (h1 : l < G 4 0) (hK : K (gNeed G l) M) : zSp (d + 1) 29 [.inr (.inr 4), .inl l] M K := by
  obtain ⟨_, _, _, c3, c4, _⟩ := hg.2.1 l h0 h1
  have c0 := hg.1
  have e8 : M 8 = G 8 := hx 8 (by decide) (by decide)
  have e9 : M 9 = G 9 := hx 9 (by decide) (by decide)
  unfold gNeed at hK
  rw [me_29]
  simp only [show zObj 4 2 = true from rfl, show zArr (4 + 5) 3 = true from rfl, show zArr (4 + 4) 0 = true from rfl, show zLen (4 + 5) = 24 from rfl, show zLen (4 + 4) = 24 from rfl, zC_t, e8, e9]
  refine zC_i (by first | assumption | decide | exact zr (by omega) (by omega) | exact zs (by omega) (by omega) | exact zd (by omega) (by omega)) (zC_i (by first | assumption | decide | exact zr (by omega) (by omega) | exact zs (by omega) (by omega) | exact zd (by omega) (by omega)) ⟨fun c => ?_, fun c => ?_⟩)
  · refine zC_i (by first | assumption | decide | exact zr (by omega) (by omega) | exact zs (by omega) (by omega) | exact zd (by omega) (by omega)) ?_
    rw [show G 8 l = G 8 l - G 9 l by omega]
    exact hK
  · refine zC_i (by first | assumption | decide | exact zr (by omega) (by omega) | exact zs (by omega) (by omega) | exact zd (by omega) (by omega)) ?_
    rw [show G 8 l - 1 = G 8 l - G 9 l by omega]
    exact hK
theorem m_fixed {d : Nat} {M G : Mm} {K : Kt} {l : Int} (hg : gLn G) (hx : mG G M) (h0 : 0 ≤ l) (h1 : l < G 4 0) (hK : K (gNeed G l) M) : zSp (d + 2) 172 [.inr (.inr 154), .inl l] M K := by
  obtain ⟨_, _, e3, e4, e5, e6⟩ := hx.2.2.1 l h0 h1
  have c0 := hg.1
  unfold gNeed at hK
  rw [me_172, me_170]
  refine zC_i (by first | assumption | decide | exact zr (by omega) (by omega) | exact zs (by omega) (by omega) | exact zd (by omega) (by omega)) ?_
  rw [me_170]
  refine zC_i (by first | assumption | decide | exact zr (by omega) (by omega) | exact zs (by omega) (by omega) | exact zd (by omega) (by omega)) ?_
  rw [e4, e5]
  exact hK
theorem m_ofLine0 {d : Nat} {M G : Mm} {K : Kt} {l : Int} (hg : gLn G) (hx : mG G M) (h0 : 0 ≤ l) (h1 : l < G 4 0) (hK : K (G 7 l) M) : zSp (d + 1) 170 [.inr (.inr 154), .inl l, .inl 0] M K := by
  obtain ⟨_, e2, e3, e4, e5, e6⟩ := hx.2.2.1 l h0 h1
  have c0 := hg.1
  rw [me_170]
  refine zC_i (by first | assumption | decide | exact zr (by omega) (by omega) | exact zs (by omega) (by omega) | exact zd (by omega) (by omega)) ?_
  rw [e2]
  exact hK
