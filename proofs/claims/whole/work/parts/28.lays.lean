/-! LAYER 3: the reference's trees: copies, lays -/
def tVal (L : Int) : Tr → Prop
  | .var n => (n : Int) < L
  | .op f s => tVal L f ∧ tVal L s
theorem tVal_nm {L : Int} : ∀ t : Tr, tVal L t → 0 ≤ tNm t ∧ tNm t < L
  | .var n, h => ⟨Int.natCast_nonneg n, h⟩
  | .op f _, h => tVal_nm f h.1
def mNS (M : Mm) (b : Int) (t : Tr) : Prop := M 165 b = tSz t ∧ M 165 (b + 1 + 0) = tNm t ∧ M 165 (b + 81 + 0) = tSz t ∧ tAll (fun k u _ _ _ => M 165 (b + 1 + k) = tNm u ∧ M 165 (b + 81 + k) = tSz u) t 0 0
def mTr (M : Mm) (b : Int) (t : Tr) : Prop := mNS M b t ∧ tSz t ≤ 80
def mTo (M : Mm) (b : Int) : Option Tr → Prop
  | none => M 165 b = 0
  | some t => mTr M b t
theorem m_copies_l {d : Nat} {K : Kt} {p q : Int} (hp : 0 ≤ p ∧ p + 161 ≤ 2093) (hq : 0 ≤ q ∧ q + 161 ≤ 2093) (hd : p + 161 ≤ q ∨ q + 161 ≤ p) : ∀ (m : Nat) (M : Mm) (x : Int), x + m = 161 → 0 ≤ x →
    (∀ M', (∀ i, M' 165 i = if p + x ≤ i ∧ i < p + 161 then M 165 (q + (i - p)) else M 165 i) → (∀ c, c ≠ 165 → M' c = M c) → K 0 M') → zWp (zSp d) 177 K 2 [some (.inr (.inr 154)), some (.inl p), some (.inl q), some (.inl x)] [] M
  | 0, M, x, h1, h2, hK => by
    rw [fe_177_2]
    refine zC_i (by first | assumption | decide | exact zr (by omega) (by omega) | exact zs (by omega) (by omega) | exact zd (by omega) (by omega)) ⟨fun _ => hK M (fun i => by rw [if_neg (by omega)]) (fun _ _ => rfl), fun c => absurd (by omega) c⟩
  | m + 1, M, x, h1, h2, hK => by
    rw [fe_177_2]
    refine zC_i (by first | assumption | decide | exact zr (by omega) (by omega) | exact zs (by omega) (by omega) | exact zd (by omega) (by omega)) ⟨fun c => absurd c (by omega), fun _ => zC_i (by first | assumption | decide | exact zr (by omega) (by omega) | exact zs (by omega) (by omega) | exact zd (by omega) (by omega)) (zC_i (by first | assumption | decide | exact zr (by omega) (by omega) | exact zs (by omega) (by omega) | exact zd (by omega) (by omega)) ?_)⟩
    refine m_copies_l hp hq hd m _ (x + 1) (by omega) (by omega) ?_
    intro M' f1 f2
    refine hK M' ?_ (fun c hc => by rw [f2 c hc, zUp_away hc])
    intro i
    rw [f1]
    by_cases c1 : i = p + x
    · rw [if_neg (by omega), zUp_hit, if_pos c1, if_pos (by omega), show q + (i - p) = q + x by omega]
    · by_cases c2 : p + (x + 1) ≤ i ∧ i < p + 161
      · rw [if_pos c2, if_pos (by omega), zUp_hit, if_neg (by omega)]
      · rw [if_neg c2, if_neg (by omega), zUp_hit, if_neg c1]
theorem m_copies {d : Nat} {M : Mm} {K : Kt} {p q : Int} {ot : Option Tr} (hp : 0 ≤ p ∧ p + 161 ≤ 2093) (hq : 0 ≤ q ∧ q + 161 ≤ 2093) (hd : p + 161 ≤ q ∨ q + 161 ≤ p) (ht : mTo M q ot)
    (hK : ∀ M', mTo M' p ot → (∀ i, i < p ∨ p + 161 ≤ i → M' 165 i = M 165 i) → (∀ c, c ≠ 165 → M' c = M c) → K 0 M') : zSp (d + 1) 177 [.inr (.inr 154), .inl p, .inl q] M K := by
  rw [me_177]
  refine m_copies_l hp hq hd 161 M 0 (by decide) (by decide) ?_
  intro M' f1 f2
  refine hK M' ?_ (fun i hi => by rw [f1, if_neg (by omega)]) f2
  match ot, ht with
  | none, ht =>
    show M' 165 p = 0
    rw [f1, if_pos (by omega), Int.sub_self, Int.add_zero]
    exact ht
  | some t, ht =>
    obtain ⟨⟨t1, t2, t3, t4⟩, t5⟩ := ht
    have q1 := tSz_pos t
    refine ⟨⟨?_, ?_, ?_, ?_⟩, t5⟩
    · rw [f1, if_pos (by omega), Int.sub_self, Int.add_zero]
      exact t1
    · rw [f1, if_pos (by omega), show q + (p + 1 + 0 - p) = q + 1 + 0 by omega]
      exact t2
    · rw [f1, if_pos (by omega), show q + (p + 81 + 0 - p) = q + 81 + 0 by omega]
      exact t3
    · refine tAll_mono t 0 0 ?_ t4
      intro k u a r v c1 c2 c3 c4 c5 c6 hx
      have p1 := tSz_pos u
      rw [f1, if_pos (by omega), f1, if_pos (by omega), show q + (p + 1 + k - p) = q + 1 + k by omega, show q + (p + 81 + k - p) = q + 81 + k by omega]
      exact hx
/-- of each part of the root -/
def tKids (Φ : Int → Tr → Int → Int → Int → Prop) : Tr → Int → Int → Prop
  | .var _, _, _ => True
  | .op f s, i, l => tKids Φ f i l ∧ Φ (i + tSz f) s i (tKd f) (l + 1)
theorem tKids_mono {Φ Ψ : Int → Tr → Int → Int → Int → Prop} : ∀ (t : Tr) (i l : Int), (∀ k u a q v, i < k → k + tSz u ≤ i + tSz t → Φ k u a q v → Ψ k u a q v) → tKids Φ t i l → tKids Ψ t i l
  | .var _, _, _, _, _ => trivial
  | .op f s, i, l, h, hA => by
    have h1 := tSz_pos f
    have h2 := tSz_pos s
    refine ⟨tKids_mono f i l (fun k u a q v c1 c2 => h k u a q v c1 ?_) hA.1, h _ _ _ _ _ ?_ ?_ hA.2⟩
    all_goals first
      | (show _ ≤ i + (tSz f + tSz s); omega)
      | omega
theorem tAll_kids {Φ : Int → Tr → Int → Int → Int → Prop} : ∀ (t : Tr) (i l : Int), tAll Φ t i l → tKids Φ t i l
  | .var _, _, _, _ => trivial
  | .op f s, i, l, h => ⟨tAll_kids f i l h.1, h.2.1⟩
def fl (P : Prop) [Decidable P] : Int := if P then 1 else 0
theorem fl_b {P : Prop} [Decidable P] : fl P = 0 ∨ fl P = 1 := by
  unfold fl
  split <;> simp
theorem fl_t {P : Prop} [Decidable P] (h : P) : fl P = 1 := if_pos h
theorem fl_f {P : Prop} [Decidable P] (h : ¬ P) : fl P = 0 := if_neg h
theorem fl_1 {P : Prop} [Decidable P] : fl P = 1 ↔ P := by
  unfold fl
  split
  · exact ⟨fun _ => by assumption, fun _ => rfl⟩
  · exact ⟨fun h => absurd h (by decide), fun h => by contradiction⟩
def mLy (G M : Mm) (nm : Int → Int) : Int → Tr → Int → Int → Int → Prop := fun k _ a q v => M 177 k = a ∧ M 178 k = v ∧ M 179 k = q ∧ M 180 k = fl (gNeed G (nm a) ≤ q)
