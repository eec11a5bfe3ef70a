/-! LAYER 3: acts that can be undone -/
def hN (n : Int) : Int := if n = 10 then 10 else n + 1
def hP (H : Int → Option Tr) (n : Int) (ot : Option Tr) : Int → Option Tr := if n = 10 then (fun i => if i = 9 then ot else H (i + 1)) else (fun i => if i = n then ot else H i)
def xPa (M : Mm) : Prop := (∀ i, 0 ≤ i → i < 10 → 54 ≤ M 1 i ∧ M 1 i ≤ 126 ∧ M 1 i % 8 = 6) ∧ (∀ i j, 0 ≤ i → i < 10 → 0 ≤ j → j < 10 → M 1 i = M 1 j → i = j)
def xA (M : Mm) (H : Int → Option Tr) (n : Int) : Prop := (0 ≤ n ∧ n ≤ 10) ∧ M 0 8 = n ∧ xPa M ∧ (∀ i, 0 ≤ i → i < n → xTo M (M 1 i).toNat (H i))
def mA (M : Mm) (H : Int → Option Tr) (n l : Int) : Prop := (0 ≤ n ∧ n ≤ 10) ∧ (0 ≤ l ∧ l < 10) ∧ M 154 24 = n ∧ M 154 25 = l ∧ (∀ i, 0 ≤ i → i < n → mTo M (483 + 161 * ((l - (n - 1 - i)) % 10)) (H i))
theorem xPa_t {M : Mm} (h : xPa M) {i : Int} (h0 : 0 ≤ i) (h1 : i < 10) : xT (M 1 i).toNat ∧ 54 ≤ (M 1 i).toNat ∧ ((M 1 i).toNat : Int) = M 1 i := by
  have := h.1 i h0 h1
  unfold xT
  omega
theorem xTo_fr {M M' : Mm} {b : Nat} {ot : Option Tr} (h : xTo M b ot) (f : ∀ c, b ≤ c → c < b + 8 → M' c = M c) : xTo M' b ot := by
  match ot, h with
  | none, h =>
    show M' b 1 = 0
    rw [f b (by omega) (by omega)]; exact h
  | some t, h => exact xTr_fr h f
theorem mTo_fr {M M' : Mm} {b : Int} {ot : Option Tr} (h : mTo M b ot) (f : ∀ i, b ≤ i → i < b + 161 → M' 165 i = M 165 i) : mTo M' b ot := by
  match ot, h with
  | none, h =>
    show M' 165 b = 0
    rw [f b (by omega) (by omega)]; exact h
  | some t, h => exact mTr_fr h f
/-- the last part of remember: the place n is free -/
theorem x_rem62 {d : Nat} {M : Mm} {K : Kt} {H : Int → Option Tr} {n : Int} {ot : Option Tr} {u1 u2 : Option Vl} (hn : 0 ≤ n ∧ n < 10) (h8 : M 0 8 = n) (hp : xPa M) (hH : ∀ i, 0 ≤ i → i < n → xTo M (M 1 i).toNat (H i)) (ht : xTo M 38 ot)
    (hK : ∀ M', xA M' (fun i => if i = n then ot else H i) (n + 1) → (∀ c, c ≠ 0 → c ≠ 1 → (c < 54 ∨ 134 ≤ c) → M' c = M c) → (∀ j, j ≠ 8 → M' 0 j = M 0 j) → K 0 M') : zWp (zSp (d + 3)) 131 K 62 [some (.inr (.inr 0)), u1, u2] [] M := by
  obtain ⟨pt, p54, pe⟩ := xPa_t hp (i := n) hn.1 hn.2
  have xb38 : xT 38 := by unfold xT; decide
  have pt' := pt
  unfold xT at pt'
  rw [fe_131_62, h8]
  simp only [(xT_c pt).1, zC_t]
  refine zC_i (zs hn.1 hn.2) ?_
  refine x_copyFrom pt xb38 (by omega) ht ?_
  intro M1 f1 f2
  rw [f2 0 (by omega), h8]
  have e1 : M1 1 = M 1 := f2 1 (by omega)
  have hp1 : xPa (zUp M1 0 8 (n + 1)) := by unfold xPa; rw [zUp_away (by decide), e1]; exact hp
  refine hK _ ⟨by omega, zUp_here, hp1, ?_⟩ ?_ ?_
  · intro i i0 i1
    rw [zUp_away (by decide), e1]
    obtain ⟨qt, q54, qe⟩ := xPa_t hp (i := i) i0 (by omega)
    have qt' := qt
    unfold xT at qt'
    show xTo _ _ (if i = n then ot else H i)
    by_cases c : i = n
    · rw [if_pos c, c]
      exact xTo_fr f1 (fun c c1 c2 => zUp_away (by omega))
    · rw [if_neg c]
      have hne : M 1 i ≠ M 1 n := fun e => c (hp.2 i n i0 (by omega) hn.1 hn.2 e)
      exact xTo_fr (hH i i0 (by omega)) (fun c c1 c2 => by rw [zUp_away (by omega), f2 c (by omega)])
  · intro c c0 c1 c2
    rw [zUp_away c0, f2 c (by omega)]
  · intro j hj
    rw [zUp_there hj, f2 0 (by omega)]
theorem x_rot_l {d : Nat} {K : Kt} {r : Nat} {A : Int → Int} (hA : ∀ i, 0 ≤ i → i < 10 → 54 ≤ A i ∧ A i ≤ 126 ∧ A i % 8 = 6) : ∀ (m : Nat) (M : Mm) (i : Int), i + m = 10 → 1 ≤ i → (∀ j, 0 ≤ j → j < i - 1 → M 1 j = A (j + 1)) → (∀ j, i ≤ j → j < 10 → M 1 j = A j) →
    (∀ M', (∀ j, 0 ≤ j → j < 9 → M' 1 j = A (j + 1)) → (∀ c, c ≠ 1 → M' c = M c) → zWp (zSp d) 131 K 18 [some (.inr (.inr 0)), some (.inr (.inr r)), some (.inl 10)] [] M') → zWp (zSp d) 131 K 18 [some (.inr (.inr 0)), some (.inr (.inr r)), some (.inl i)] [] M
  | 0, M, i, hi, h1, hl, hh, hK => by
    rw [show i = 10 by omega]
    exact hK M (fun j c1 c2 => hl j c1 (by omega)) (fun _ _ => rfl)
  | m + 1, M, i, hi, h1, hl, hh, hK => by
    have e := hh i (by omega) (by omega)
    have a := hA i (by omega) (by omega)
    have en : (((A i).toNat : Nat) : Int) = A i := by omega
    have pt : xT (A i).toNat := by unfold xT; omega
    rw [fe_131_18, e]
    simp only [(xT_c pt).1, zC_t]
    (repeat (first | (with_reducible refine zC_i ?hob ?_; case hob => first | assumption | decide | exact zr (by omega) (by omega) | exact zs (by omega) (by omega) | exact zd (by omega) (by omega)) | (with_reducible refine zIfT ?hob ?_; case hob => first | assumption | omega | decide) | (with_reducible refine zIfF ?hob ?_; case hob => first | assumption | omega | decide)))
    rw [en]
    refine x_rot_l hA m _ (i + 1) (by omega) (by omega) (fun j c1 c2 => ?_) (fun j c1 c2 => by rw [zUp_there (by omega)]; exact hh j (by omega) c2) (fun M' g1 g2 => hK M' g1 (fun c hc => by rw [g2 c hc, zUp_away hc]))
    rw [zUp_hit]
    by_cases c : j = i - 1
    · rw [if_pos c, c, show i - 1 + 1 = i by omega]
    · rw [if_neg c, hl j c1 (by omega)]
theorem x_remember {d : Nat} {M : Mm} {K : Kt} {H : Int → Option Tr} {n : Int} {ot : Option Tr} (h : xA M H n) (ht : xTo M 38 ot)
    (hK : ∀ M', xA M' (hP H n ot) (hN n) → (∀ c, c ≠ 0 → c ≠ 1 → (c < 54 ∨ 134 ≤ c) → M' c = M c) → (∀ j, j ≠ 8 → M' 0 j = M 0 j) → K 0 M') : zSp (d + 4) 131 [.inr (.inr 0)] M K := by
  obtain ⟨hn, h8, hp, hH⟩ := h
  unfold hP hN at hK
  rw [me_131, h8]
  (repeat (first | (with_reducible refine zC_i ?hob ?_; case hob => first | assumption | decide | exact zr (by omega) (by omega) | exact zs (by omega) (by omega) | exact zd (by omega) (by omega)) | (with_reducible refine zIfT ?hob ?_; case hob => first | assumption | omega | decide) | (with_reducible refine zIfF ?hob ?_; case hob => first | assumption | omega | decide)))
  refine ⟨fun c => ?_, fun c => ?_⟩
  · rw [if_neg c, if_neg c] at hK
    exact x_rem62 (by omega) h8 hp hH ht hK
  · have c : n = 10 := by omega
    rw [if_pos c, if_pos c] at hK
    subst c
    obtain ⟨pt, p54, pe⟩ := xPa_t hp (i := 0) (by omega) (by omega)
    refine x_rot_l (A := M 1) hp.1 9 M 1 rfl (by omega) (fun j c1 c2 => by omega) (fun j _ _ => rfl) ?_
    intro M1 f1 f2
    rw [fe_131_18]
    simp only [(xT_c pt).1, zC_t]
    (repeat (first | (with_reducible refine zC_i ?hob ?_; case hob => first | assumption | decide | exact zr (by omega) (by omega) | exact zs (by omega) (by omega) | exact zd (by omega) (by omega)) | (with_reducible refine zIfT ?hob ?_; case hob => first | assumption | omega | decide) | (with_reducible refine zIfF ?hob ?_; case hob => first | assumption | omega | decide)))
    rw [f2 0 (by decide), h8, pe]
    have e1 : ∀ j, 0 ≤ j → j < 10 → (zUp (zUp M1 1 9 (M 1 0)) 0 8 (10 - 1)) 1 j = if j = 9 then M 1 0 else M 1 (j + 1) := fun j c1 c2 => by
      rw [zUp_away (by decide), zUp_hit]
      by_cases c : j = 9
      · rw [if_pos c, if_pos c]
      · rw [if_neg c, if_neg c, f1 j c1 (by omega)]
    have hp1 : xPa (zUp (zUp M1 1 9 (M 1 0)) 0 8 (10 - 1)) := by
      refine ⟨fun i i0 i1 => ?_, fun i j i0 i1 j0 j1 e => ?_⟩
      · rw [e1 i i0 i1]
        split
        · exact hp.1 0 (by omega) (by omega)
        · exact hp.1 (i + 1) (by omega) (by omega)
      · rw [e1 i i0 i1, e1 j j0 j1] at e
        by_cases c1 : i = 9
        · rw [if_pos c1] at e
          by_cases c2 : j = 9
          · omega
          · rw [if_neg c2] at e
            have := hp.2 0 (j + 1) (by omega) (by omega) (by omega) (by omega) e
            omega
        · rw [if_neg c1] at e
          by_cases c2 : j = 9
          · rw [if_pos c2] at e
            have := hp.2 (i + 1) 0 (by omega) (by omega) (by omega) (by omega) e
            omega
          · rw [if_neg c2] at e
            have := hp.2 (i + 1) (j + 1) (by omega) (by omega) (by omega) (by omega) e
            omega
    have fall : ∀ c, c ≠ 0 → c ≠ 1 → (zUp (zUp M1 1 9 (M 1 0)) 0 8 (10 - 1)) c = M c := fun c c0 c1 => by rw [zUp_away c0, zUp_away c1, f2 c c1]
    refine x_rem62 (n := 9) (H := fun i => H (i + 1)) (ot := ot) (by omega) (by rw [zUp_here]; rfl) hp1 ?_ (xTo_fr ht (fun c c1 c2 => fall c (by omega) (by omega))) ?_
    · intro i i0 i1
      rw [e1 i i0 (by omega), if_neg (by omega)]
      obtain ⟨qt, q54, qe⟩ := xPa_t hp (i := i + 1) (by omega) (by omega)
      exact xTo_fr (hH (i + 1) (by omega) (by omega)) (fun c c1 c2 => fall c (by omega) (by omega))
    · intro M2 g1 g2 g3
      exact hK M2 g1 (fun c c0 c1 c2 => by rw [g2 c c0 c1 c2, fall c c0 c1]) (fun j hj => by rw [g3 j hj, zUp_there hj, zUp_away (by decide), f2 0 (by decide)])
theorem m_keeps {d : Nat} {M : Mm} {K : Kt} {H : Int → Option Tr} {n l : Int} {ot : Option Tr} (h : mA M H n l) (ht : mTo M 0 ot)
    (hK : ∀ M', mA M' (hP H n ot) (hN n) ((l + 1) % 10) → (∀ i, i < 483 → M' 165 i = M 165 i) → (∀ c, c ≠ 165 → c ≠ 154 → M' c = M c) → (∀ j, j ≠ 24 → j ≠ 25 → M' 154 j = M 154 j) → K 0 M') : zSp (d + 2) 183 [.inr (.inr 154)] M K := by
  obtain ⟨hn, hl, h24, h25, hH⟩ := h
  have h34 : zWp (zSp (d + 1)) 183 K 34 [some (.inr (.inr 154))] [.inl (hN n), .inr (.inr 154)] (zUp M 154 25 ((l + 1) % 10)) := by
    rw [fe_183_34]
    rw [zUp_here]
    refine m_copies (by omega) (by decide) (by omega) (mTo_fr ht (fun i _ _ => rfl)) ?_
    intro M1 f1 f2 f3
    have e154 : M1 154 = (zUp (zUp M 154 25 ((l + 1) % 10)) 154 24 (hN n)) 154 := f3 154 (by decide)
    refine hK M1 ⟨by unfold hN; split <;> omega, by omega, ?_, ?_, ?_⟩ ?_ ?_ ?_
    · rw [e154, zUp_here]
    · rw [e154, zUp_there (by decide), zUp_here]
    · intro i i0 i1
      unfold hN hP at *
      by_cases c : n = 10
      · rw [if_pos c] at i1 ⊢
        rw [if_pos c]
        show mTo M1 _ (if i = 9 then ot else H (i + 1))
        by_cases c9 : i = 9
        · rw [if_pos c9, c9, show ((l + 1) % 10 - (10 - 1 - 9)) % 10 = (l + 1) % 10 by omega]
          exact f1
        · rw [if_neg c9]
          have old := hH (i + 1) (by omega) (by omega)
          rw [show ((l + 1) % 10 - (10 - 1 - i)) % 10 = (l - (n - 1 - (i + 1))) % 10 by omega]
          exact mTo_fr old (fun j c1 c2 => by rw [f2 j (by omega)]; rfl)
      · rw [if_neg c] at i1 ⊢
        rw [if_neg c]
        show mTo M1 _ (if i = n then ot else H i)
        by_cases c9 : i = n
        · rw [if_pos c9, c9, show ((l + 1) % 10 - (n + 1 - 1 - n)) % 10 = (l + 1) % 10 by omega]
          exact f1
        · rw [if_neg c9]
          have old := hH i (by omega) (by omega)
          rw [show ((l + 1) % 10 - (n + 1 - 1 - i)) % 10 = (l - (n - 1 - i)) % 10 by omega]
          exact mTo_fr old (fun j c1 c2 => by rw [f2 j (by omega)]; rfl)
    · intro i hi
      rw [f2 i (by omega)]; rfl
    · intro c c1 c2
      rw [f3 c c1, zUp_away c2, zUp_away c2]
    · intro j c1 c2
      rw [e154, zUp_there c1, zUp_there c2]
  rw [me_183, h25, h24]
  unfold hN at h34
  (repeat (first | (with_reducible refine zC_i ?hob ?_; case hob => first | assumption | decide | exact zr (by omega) (by omega) | exact zs (by omega) (by omega) | exact zd (by omega) (by omega)) | (with_reducible refine zIfT ?hob ?_; case hob => first | assumption | omega | decide) | (with_reducible refine zIfF ?hob ?_; case hob => first | assumption | omega | decide)))
  refine ⟨fun c => ?_, fun c => ?_⟩
  · rw [if_neg c] at h34
    exact h34
  · rw [if_pos (by omega)] at h34
    exact h34
