/-! LAYER 3: single changes, as calls use them -/
def sAO (G : Mm) : Option Tr → List Sg
  | none => []
  | some t => sAll G t
theorem sAO_b {G : Mm} {ot : Option Tr} (h : tOk G ot) : (sAO G ot).length ≤ 6480 := by
  match ot, h with
  | none, h => exact Nat.zero_le _
  | some t, h => exact sAll_len (h t rfl).1
theorem sAO_ok {G : Mm} {t : Tr} {a : Nat} {k c j : Int} (h : (sAO G (some t))[a]? = some (k, c, j)) : sOk G t k c j := by
  have q := tSz_pos t
  have hm := List.mem_of_getElem? h
  exact sL_ok (G := G) (t := t) (tSz t).toNat 0 (by omega) (by omega) (k, c, j) hm
theorem x_go_l {d : Nat} {G : Mm} {K : Kt} {t : Tr} {a : Int} {A : List Sg} (hg : gOk G) (hv : tVal (G 4 0) t) (ha : 0 ≤ a ∧ zR32 a = true) (hA : A.length ≤ 6480) : ∀ (L : List Sg) (M : Mm) (i : Nat) (x2 : Int), x2 = i → (∀ p, L[p]? = A[i + p]?) → i + L.length = A.length → (i : Int) ≤ a → xG G M → xTr M 38 t → sRep G M t L →
    (∀ M', A.length ≤ a → (∀ c, c ≠ 149 → M' c = M c) → K 0 M') → (∀ M' k c j L', A[a.toNat]? = some (k, c, j) → (∀ c, c ≠ 149 → M' c = M c) → M' 149 1 = k → M' 149 2 = c → (c = 2 → M' 149 3 = j) → sRep G M' t L' → K 1 M') →
    zWp (zSp (d + 4)) 61 K 12 [some (.inr (.inr 149)), some (.inl a), some (.inl x2)] [] M
  | [], M, i, x2, hx2, hL, hlen, hia, hx, ht, hs, hK0, hK1 => by
    have ha2 := ha.2
    have hlen : i + 0 = A.length := hlen
    rw [fe_61_12]
    (repeat (first | (with_reducible refine zC_i ?hob ?_; case hob => first | assumption | decide | exact zr (by omega) (by omega) | exact zs (by omega) (by omega) | exact zd (by omega) (by omega)) | (with_reducible refine zIfT ?hob ?_; case hob => first | assumption | omega | decide) | (with_reducible refine zIfF ?hob ?_; case hob => first | assumption | omega | decide)))
    refine x_step hg hx ht hv hs ?_
    intro M' f
    (repeat (first | (with_reducible refine zC_i ?hob ?_; case hob => first | assumption | decide | exact zr (by omega) (by omega) | exact zs (by omega) (by omega) | exact zd (by omega) (by omega)) | (with_reducible refine zIfT ?hob ?_; case hob => first | assumption | omega | decide) | (with_reducible refine zIfF ?hob ?_; case hob => first | assumption | omega | decide)))
    exact hK0 M' (by omega) f
  | (k, c, j) :: L, M, i, x2, hx2, hL, hlen, hia, hx, ht, hs, hK0, hK1 => by
    have ha2 := ha.2
    have hlen : i + (L.length + 1) = A.length := hlen
    rw [fe_61_12]
    (repeat (first | (with_reducible refine zC_i ?hob ?_; case hob => first | assumption | decide | exact zr (by omega) (by omega) | exact zs (by omega) (by omega) | exact zd (by omega) (by omega)) | (with_reducible refine zIfT ?hob ?_; case hob => first | assumption | omega | decide) | (with_reducible refine zIfF ?hob ?_; case hob => first | assumption | omega | decide)))
    refine x_step hg hx ht hv hs ?_
    intro M' f f1 f2 f3 f4
    (repeat (first | (with_reducible refine zC_i ?hob ?_; case hob => first | assumption | decide | exact zr (by omega) (by omega) | exact zs (by omega) (by omega) | exact zd (by omega) (by omega)) | (with_reducible refine zIfT ?hob ?_; case hob => first | assumption | omega | decide) | (with_reducible refine zIfF ?hob ?_; case hob => first | assumption | omega | decide)))
    refine ⟨fun q => ?_, fun q => ?_⟩
    · refine x_go_l hg hv ha hA L M' (i + 1) (x2 + 1) (by omega) (fun p => ?_) (by omega) (by omega) (xG_fr hx fun c c1 c2 => f c (by omega)) (xTr_fr ht fun c c1 c2 => f c (by omega)) f4 ?_ ?_
      · have := hL (p + 1)
        rw [show i + 1 + p = i + (p + 1) by omega]
        exact this
      · intro M2 h g
        exact hK0 M2 h (fun c hc => by rw [g c hc, f c hc])
      · intro M2 k c j L' h g
        exact hK1 M2 k c j L' h (fun c hc => by rw [g c hc, f c hc])
    · refine hK1 M' k c j L ?_ f f1 f2 f3 f4
      have := hL 0
      rw [show a.toNat = i + 0 by omega, ← this]
      rfl
theorem x_goTo {d : Nat} {M G : Mm} {K : Kt} {ot : Option Tr} {a : Int} (hg : gOk G) (hT : tOk G ot) (ha : zR32 a = true) (hx : xG G M) (ht : xTo M 38 ot)
    (hK0 : ∀ M', ¬ (0 ≤ a ∧ a < (sAO G ot).length) → (∀ c, c ≠ 149 → M' c = M c) → K 0 M') (hK1 : ∀ M' k c j, 0 ≤ a → (sAO G ot)[a.toNat]? = some (k, c, j) → (∀ c, c ≠ 149 → M' c = M c) → M' 149 1 = k → M' 149 2 = c → (c = 2 → M' 149 3 = j) → K 1 M') : zSp (d + 5) 61 [.inr (.inr 149), .inl a] M K := by
  rw [me_61]
  refine zC_i ha ⟨fun c => ?_, fun c => hK0 M (by omega) (fun _ _ => rfl)⟩
  match ot, hT, ht, hK0, hK1 with
  | none, hT, ht, hK0, hK1 =>
    have ht : M 38 1 = 0 := ht
    rw [me_58, me_59, fe_61_12]
    (repeat (first | (with_reducible refine zC_i ?hob ?_; case hob => first | assumption | decide | exact zr (by omega) (by omega) | exact zs (by omega) (by omega) | exact zd (by omega) (by omega)) | (with_reducible refine zIfT ?hob ?_; case hob => first | assumption | omega | decide) | (with_reducible refine zIfF ?hob ?_; case hob => first | assumption | omega | decide)))
    rw [me_60, fe_60_0, zUp_there (by decide), zUp_there (by decide), zUp_here, zUp_away (by decide), zUp_away (by decide), zUp_away (by decide), ht]
    (repeat (first | (with_reducible refine zC_i ?hob ?_; case hob => first | assumption | decide | exact zr (by omega) (by omega) | exact zs (by omega) (by omega) | exact zd (by omega) (by omega)) | (with_reducible refine zIfT ?hob ?_; case hob => first | assumption | omega | decide) | (with_reducible refine zIfF ?hob ?_; case hob => first | assumption | omega | decide)))
    exact hK0 _ (by show ¬ (0 ≤ a ∧ a < 0); omega) (fun c hc => by rw [zUp_away hc, zUp_away hc, zUp_away hc])
  | some t, hT, ht, hK0, hK1 =>
    have hv := (hT t rfl).2
    have len := sAll_len (G := G) (hT t rfl).1
    refine x_sstart (G := G) (t := t) ?_
    intro M1 f1 f2 f3
    refine x_go_l (A := sAll G t) hg hv ⟨c, ha⟩ len (sAll G t) M1 0 0 rfl (fun p => by rw [Nat.zero_add]) (by omega) (by omega) (xG_fr hx fun c c1 c2 => f1 c (by omega)) (xTr_fr ht fun c c1 c2 => f1 c (by omega)) f2 ?_ ?_
    · intro M2 h g
      exact hK0 M2 (by show ¬ (0 ≤ a ∧ a < (sAll G t).length); omega) (fun c hc => by rw [g c hc, f1 c hc])
    · intro M2 k c' j L' h g g1 g2 g3 g4
      exact hK1 M2 k c' j c h (fun c hc => by rw [g c hc, f1 c hc]) g1 g2 g3
theorem x_how_l {d : Nat} {G : Mm} {K : Kt} {t : Tr} (hg : gOk G) (hv : tVal (G 4 0) t) : ∀ (L : List Sg) (M : Mm) (i : Int), 0 ≤ i → i + L.length ≤ 6480 → xG G M → xTr M 38 t → sRep G M t L → (∀ M', (∀ c, c ≠ 149 → M' c = M c) → K (i + L.length) M') → zWp (zSp (d + 4)) 62 K 6 [some (.inr (.inr 149)), some (.inl i)] [] M
  | [], M, i, h0, hl, hx, ht, hs, hK => by
    have hl : i + 0 ≤ 6480 := hl
    rw [fe_62_6]
    (repeat (first | (with_reducible refine zC_i ?hob ?_; case hob => first | assumption | decide | exact zr (by omega) (by omega) | exact zs (by omega) (by omega) | exact zd (by omega) (by omega)) | (with_reducible refine zIfT ?hob ?_; case hob => first | assumption | omega | decide) | (with_reducible refine zIfF ?hob ?_; case hob => first | assumption | omega | decide)))
    refine x_step hg hx ht hv hs ?_
    intro M' f
    (repeat (first | (with_reducible refine zC_i ?hob ?_; case hob => first | assumption | decide | exact zr (by omega) (by omega) | exact zs (by omega) (by omega) | exact zd (by omega) (by omega)) | (with_reducible refine zIfT ?hob ?_; case hob => first | assumption | omega | decide) | (with_reducible refine zIfF ?hob ?_; case hob => first | assumption | omega | decide)))
    have := hK M' f
    rw [show i + (([] : List Sg).length : Int) = i by show i + 0 = i; omega] at this
    exact this
  | (k, c, j) :: L, M, i, h0, hl, hx, ht, hs, hK => by
    have hl : i + ((L.length + 1 : Nat) : Int) ≤ 6480 := hl
    rw [fe_62_6]
    (repeat (first | (with_reducible refine zC_i ?hob ?_; case hob => first | assumption | decide | exact zr (by omega) (by omega) | exact zs (by omega) (by omega) | exact zd (by omega) (by omega)) | (with_reducible refine zIfT ?hob ?_; case hob => first | assumption | omega | decide) | (with_reducible refine zIfF ?hob ?_; case hob => first | assumption | omega | decide)))
    refine x_step hg hx ht hv hs ?_
    intro M' f f1 f2 f3 f4
    (repeat (first | (with_reducible refine zC_i ?hob ?_; case hob => first | assumption | decide | exact zr (by omega) (by omega) | exact zs (by omega) (by omega) | exact zd (by omega) (by omega)) | (with_reducible refine zIfT ?hob ?_; case hob => first | assumption | omega | decide) | (with_reducible refine zIfF ?hob ?_; case hob => first | assumption | omega | decide)))
    refine x_how_l hg hv L M' (i + 1) (by omega) (by omega) (xG_fr hx fun c c1 c2 => f c (by omega)) (xTr_fr ht fun c c1 c2 => f c (by omega)) f4 ?_
    intro M2 g
    have := hK M2 (fun c hc => by rw [g c hc, f c hc])
    rw [show i + (((k, c, j) :: L).length : Int) = i + 1 + L.length by show i + ((L.length + 1 : Nat) : Int) = _; omega] at this
    exact this
theorem x_howMany {d : Nat} {M G : Mm} {K : Kt} {ot : Option Tr} (hg : gOk G) (hT : tOk G ot) (hx : xG G M) (ht : xTo M 38 ot) (hK : ∀ M', (∀ c, c ≠ 149 → M' c = M c) → K ((sAO G ot).length) M') : zSp (d + 5) 62 [.inr (.inr 149)] M K := by
  rw [me_62]
  match ot, hT, ht, hK with
  | none, hT, ht, hK =>
    have ht : M 38 1 = 0 := ht
    rw [me_58, me_59, fe_62_6]
    (repeat (first | (with_reducible refine zC_i ?hob ?_; case hob => first | assumption | decide | exact zr (by omega) (by omega) | exact zs (by omega) (by omega) | exact zd (by omega) (by omega)) | (with_reducible refine zIfT ?hob ?_; case hob => first | assumption | omega | decide) | (with_reducible refine zIfF ?hob ?_; case hob => first | assumption | omega | decide)))
    rw [me_60, fe_60_0, zUp_there (by decide), zUp_there (by decide), zUp_here, zUp_away (by decide), zUp_away (by decide), zUp_away (by decide), ht]
    (repeat (first | (with_reducible refine zC_i ?hob ?_; case hob => first | assumption | decide | exact zr (by omega) (by omega) | exact zs (by omega) (by omega) | exact zd (by omega) (by omega)) | (with_reducible refine zIfT ?hob ?_; case hob => first | assumption | omega | decide) | (with_reducible refine zIfF ?hob ?_; case hob => first | assumption | omega | decide)))
    exact hK _ (fun c hc => by rw [zUp_away hc, zUp_away hc, zUp_away hc])
  | some t, hT, ht, hK =>
    have hv := (hT t rfl).2
    have len := sAll_len (G := G) (hT t rfl).1
    refine x_sstart (G := G) (t := t) ?_
    intro M1 f1 f2 f3
    refine x_how_l hg hv (sAll G t) M1 0 (by omega) (by omega) (xG_fr hx fun c c1 c2 => f1 c (by omega)) (xTr_fr ht fun c c1 c2 => f1 c (by omega)) f2 ?_
    intro M2 g
    rw [Int.zero_add]
    exact hK M2 (fun c hc => by rw [g c hc, f1 c hc])
-- the reference
def sFr (M M' : Mm) : Prop := (∀ c, c ≠ 154 → c ≠ 165 → (c < 177 ∨ (181 ≤ c ∧ c ≤ 186) ∨ 190 < c) → M' c = M c) ∧ (∀ p, (p < 161 ∨ 322 ≤ p) → M' 165 p = M 165 p) ∧ (∀ j, j ≠ 46 → j ≠ 60 → j ≠ 64 → j ≠ 65 → j ≠ 66 → M' 154 j = M 154 j)
theorem sFr_trans {M M' M'' : Mm} (h : sFr M M') (h' : sFr M' M'') : sFr M M'' := ⟨fun c c1 c2 c3 => by rw [h'.1 c c1 c2 c3, h.1 c c1 c2 c3], fun p hp => by rw [h'.2.1 p hp, h.2.1 p hp], fun j j1 j2 j3 j4 j5 => by rw [h'.2.2 j j1 j2 j3 j4 j5, h.2.2 j j1 j2 j3 j4 j5]⟩
theorem iM_s {G : Mm} {ot : Option Tr} {B : List Bg} {J : Js} {vs : Int} {H : Int → Option Tr} {n l tn fk fp : Int} {tA : Int → Int} {M M' : Mm} (h : iM G ot B J vs H n l tn tA fk fp M) (f : sFr M M') : iM G ot B J vs H n l tn tA fk fp M' :=
  iM_fr h (fun c hc => f.1 c (by omega) (by omega) (by omega)) (fun p hp => f.2.1 p (by omega)) (fun j hj => f.2.2 j (by omega) (by omega) (by omega) (by omega) (by omega))
theorem iX_s {G : Mm} {ot : Option Tr} {B : List Bg} {J : Js} {vs : Int} {H : Int → Option Tr} {n tn fk fp : Int} {tA : Int → Int} {M M' : Mm} (h : iX G ot B J vs H n tn tA fk fp M) (f : sFr M M') : iX G ot B J vs H n tn tA fk fp M' :=
  iX_up h (fun c hc => f.1 c (by omega) (by omega) (by omega))
theorem m_singles {d : Nat} {M G : Mm} {K : Kt} {ot : Option Tr} {a : Int} (hg : gOk G) (hT : tOk G ot) (ha : zR32 a = true) (hm : mG G M) (ht : mTo M 0 ot)
    (hK : ∀ M', sFr M M' → (∀ k c j, 0 ≤ a → (sAO G ot)[a.toNat]? = some (k, c, j) → M' 154 64 = k ∧ M' 154 65 = c ∧ M' 154 66 = j) → K ((sAO G ot).length) M') : zSp (d + 5) 221 [.inr (.inr 154), .inl a] M K := by
  rw [me_221]
  match ot, hT, ht, hK with
  | none, hT, ht, hK =>
    have ht : M 165 0 = 0 := ht
    rw [me_196, fe_196_7]
    refine m_many (by decide) ?_
    rw [zUp_away (by decide), ht]
    (repeat (first | (with_reducible refine zC_i ?hob ?_; case hob => first | assumption | decide | exact zr (by omega) (by omega) | exact zs (by omega) (by omega) | exact zd (by omega) (by omega)) | (with_reducible refine zIfT ?hob ?_; case hob => first | assumption | omega | decide) | (with_reducible refine zIfF ?hob ?_; case hob => first | assumption | omega | decide)))
    rw [fe_221_9]
    refine m_many (by decide) ?_
    rw [zUp_away (by decide), ht]
    (repeat (first | (with_reducible refine zC_i ?hob ?_; case hob => first | assumption | decide | exact zr (by omega) (by omega) | exact zs (by omega) (by omega) | exact zd (by omega) (by omega)) | (with_reducible refine zIfT ?hob ?_; case hob => first | assumption | omega | decide) | (with_reducible refine zIfF ?hob ?_; case hob => first | assumption | omega | decide)))
    refine hK _ ⟨fun c c1 c2 c3 => zUp_away c1, fun p hp => rfl, fun j j1 j2 j3 j4 j5 => zUp_there j1⟩ (fun k c j h0 h => ?_)
    have h : ([] : List Sg)[a.toNat]? = some (k, c, j) := h
    rw [List.getElem?_nil] at h
    exact absurd h (by simp)
  | some t, hT, ht, hK =>
    have hv := (hT t rfl).2
    have q1 := tSz_pos t
    refine m_lays (d := d + 1) hg.1 hm (by decide) ht hv ?_
    intro M1 f1 f2 f3
    have e165 : M1 165 = M 165 := f2 165 (by decide) (by decide) (by decide) (by decide) (by decide)
    have mg1 : mG G M1 := mG_fr hm (f2 156 (by decide) (by decide) (by decide) (by decide) (by decide)) (f2 157 (by decide) (by decide) (by decide) (by decide) (by decide)) (f2 158 (by decide) (by decide) (by decide) (by decide) (by decide)) (f2 162 (by decide) (by decide) (by decide) (by decide) (by decide)) (f2 163 (by decide) (by decide) (by decide) (by decide) (by decide))
    have mt1 : mTr M1 0 t := mTr_fr ht (fun i _ _ => by rw [e165])
    refine m_sL (d := d) hg hv ha (tSz t).toNat M1 0 0 _ (by omega) (by omega) ⟨mg1, mt1, fun k k0 k1 => ?_⟩ (by omega) (by omega) ?_
    · have la := mLay_at f1 mt1 k0 k1
      exact ⟨la.2.2.2.1, la.2.2.2.2⟩
    · have ef := sEf_fr (x := a) (sL G t (tSz t).toNat 0) M1 0
      rw [Int.zero_add]
      refine hK _ ⟨fun c c1 c2 c3 => by rw [ef.1 c c1, f2 c (by omega) (by omega) (by omega) (by omega) c1], fun p hp => by rw [ef.1 165 (by decide), e165], fun j j1 j2 j3 j4 j5 => by rw [ef.2 j j3 j4 j5, f3 j j1]⟩ (fun k c j h0 h => ?_)
      exact sEf_at (sL G t (tSz t).toNat 0) M1 0 k c j h0 (by rw [Int.sub_zero]; exact h)
theorem m_isLaid {d : Nat} {M G : Mm} {K : Kt} {ot : Option Tr} {a : Int} (hg : gOk G) (hT : tOk G ot) (ha : zR32 a = true) (hm : mG G M) (ht : mTo M 0 ot)
    (hK0 : ∀ M', ¬ (0 ≤ a ∧ a < (sAO G ot).length) → sFr M M' → K 0 M') (hK1 : ∀ M' k c j t, 0 ≤ a → ot = some t → (sAO G ot)[a.toNat]? = some (k, c, j) → sFr M M' → mTr M' 161 (sTr G t k c j) → M' 154 64 = k → M' 154 65 = c → M' 154 66 = j → K 1 M') : zSp (d + 7) 222 [.inr (.inr 154), .inl a] M K := by
  have len := sAO_b hT
  rw [me_222]
  refine zC_i ha ⟨fun c => hK0 M (by omega) ⟨fun _ _ _ _ => rfl, fun _ _ => rfl, fun _ _ _ _ _ _ => rfl⟩, fun c => ?_⟩
  refine m_singles (d := d + 1) hg hT ha hm ht ?_
  intro M1 f1 f2
  refine zC_i ha (zC_i (zr (by omega) (by omega)) ⟨fun c2 => ?_, fun c2 => hK0 M1 (by omega) f1⟩)
  match ot, hT, ht, hK0, hK1, f2, c2, len with
  | none, hT, ht, hK0, hK1, f2, c2, len =>
    have : a < 0 := c2
    omega
  | some t, hT, ht, hK0, hK1, f2, c2, len =>
    have hv := (hT t rfl).2
    have hg2 : ∃ x, (sAO G (some t))[a.toNat]? = some x := ⟨_, List.getElem?_eq_getElem (show a.toNat < (sAO G (some t)).length by omega)⟩
    obtain ⟨⟨k, c', j⟩, hx⟩ := hg2
    obtain ⟨g1, g2, g3⟩ := f2 k c' j (by omega) hx
    have ok := sAO_ok hx
    have mg1 : mG G M1 := mG_fr hm (f1.1 156 (by decide) (by decide) (by decide)) (f1.1 157 (by decide) (by decide) (by decide)) (f1.1 158 (by decide) (by decide) (by decide)) (f1.1 162 (by decide) (by decide) (by decide)) (f1.1 163 (by decide) (by decide) (by decide))
    have mt1 : mTr M1 0 t := mTr_fr ht (fun i _ _ => f1.2.1 i (by omega))
    rw [g1, g2, g3]
    refine m_changes (d := d) hg mg1 mt1 hv ok ?_
    intro M2 k1 k2 k3 k4
    refine hK1 M2 k c' j t (by omega) rfl hx (sFr_trans f1 ⟨fun c c1 c2 c3 => k2 c c2 (by omega) (by omega) (by omega) (by omega) c1, fun p hp => k3 p hp, fun j j1 j2 j3 j4 j5 => k4 j j2⟩) k1 ?_ ?_ ?_
    · rw [k4 64 (by decide)]; exact g1
    · rw [k4 65 (by decide)]; exact g2
    · rw [k4 66 (by decide)]; exact g3
theorem sTr_j {G : Mm} {t : Tr} {k c j j' : Int} (h : c = 2 → j = j') : sTr G t k c j = sTr G t k c j' ∧ (sOk G t k c j → sOk G t k c j') := by
  by_cases c2 : c = 2
  · rw [h c2]; exact ⟨rfl, fun q => q⟩
  · refine ⟨by unfold sTr; rw [if_neg c2, if_neg c2], fun q => ⟨q.1, q.2.1, ?_⟩⟩
    rcases q.2.2 with w | w | w
    · exact .inl w
    · exact .inr (.inl w)
    · exact absurd w.1 c2
theorem x_makeSingle {d : Nat} {M G : Mm} {K : Kt} {t : Tr} {k c j : Int} (hg : gOk G) (hx : xG G M) (ht : xTr M 38 t) (hv : tVal (G 4 0) t) (hs : sOk G t k c j) (h1 : M 149 1 = k) (h2 : M 149 2 = c) (h3 : c = 2 → M 149 3 = j) (hK : ∀ M', xTr M' 46 (sTr G t k c j) → (∀ c, (c < 46 ∨ 54 ≤ c) → M' c = M c) → K 0 M') : zSp (d + 5) 132 [.inr (.inr 0)] M K := by
  have e := sTr_j (G := G) (t := t) (k := k) (j := j) (j' := M 149 3) (fun q => (h3 q).symm)
  rw [me_132, h1, h2]
  refine x_becomeSingle (d := d) hg hx ht hv (e.2 hs) ?_
  intro M1 f1 f2
  rw [← e.1] at f1
  exact hK M1 f1 f2
/-- scratch of the class: 46 .. 53, 146, 148 .. 153 -/
theorem iX_sc {G : Mm} {ot : Option Tr} {B : List Bg} {J : Js} {vs : Int} {H : Int → Option Tr} {n tn fk fp : Int} {tA : Int → Int} {M M' : Mm} (h : iX G ot B J vs H n tn tA fk fp M) (f : ∀ c, (c < 46 ∨ (54 ≤ c ∧ c < 149)) → M' c = M c) : iX G ot B J vs H n tn tA fk fp M' :=
  iX_fr h (fun c hc => f c (by omega)) (by rw [f 0 (by omega)]) (by rw [f 2 (by omega)]) (by rw [f 2 (by omega)]) (by rw [f 2 (by omega)]) (by rw [f 138 (by omega)])
theorem st_17 : zStep_17 Inv := by
  intro M hI a1 h1 a2 h2
  obtain ⟨G, ot, B, J, vs, H, n, l, tn, tA, fk, fp, hP, hX, hM⟩ := hI
  have hend : Inv (zUp M 154 0 0) := ⟨G, ot, B, J, vs, H, n, l, tn, tA, fk, fp, hP, iX_thr hX _ _, iM_thr hM 0⟩
  have hP' := hP
  obtain ⟨p1, p2, p3, p4, p5, p6, p7, p8⟩ := hP'
  have xb46 : xT 46 := by unfold xT; decide
  have len := sAO_b p2
  have mk : ∀ M1 M2, iX G ot B J vs H n tn tA fk fp M1 → iM G ot B J vs H n l tn tA fk fp M1 → sFr (zUp M1 154 0 0) M2 → Inv M2 := fun M1 M2 hX1 hM1 f => ⟨G, ot, B, J, vs, H, n, l, tn, tA, fk, fp, hP, iX_s (iX_thr hX1 0 0) f, iM_s (iM_thr hM1 0) f⟩
  rw [me_114]
  refine zC_i h1 ⟨fun c => ?_, fun c => ?_⟩
  · -- a change by its number
    have bad : ¬ (0 ≤ a2 ∧ a2 ≤ 4) → zSp 16 223 [.inr (.inr 154), .inl a1, .inl a2] M (fun z2 M2 => z2 = -1 ∧ Inv M2) := by
      intro hc
      rw [me_223]
      refine zC_i h1 ⟨fun _ => zC_i h2 (m_isIn (d := 14) (zr_to64 h2) (by decide) (by decide) ?_), fun q => absurd c q⟩
      rw [if_neg hc]
      exact zC_i (by decide) ⟨fun _ => ⟨rfl, hend⟩, fun q => absurd rfl q⟩
    refine zC_i h2 ⟨fun c2 => bad (by omega), fun c2 => zC_i h2 ⟨fun c3 => bad (by omega), fun c3 => ?_⟩⟩
    refine x_goTo (d := 10) p1 p2 h1 hX.1 hX.2.1 ?_ ?_
    · intro M1 hno f
      have hX1 := iX_sc hX (M' := M1) (fun c hc => f c (by omega))
      have hM1 := iM_up hM (M' := M1) (fun c hc => f c (by omega))
      refine zC_i (by decide) ⟨fun q => absurd rfl q, fun _ => ?_⟩
      rw [me_223]
      refine zC_i h1 ⟨fun _ => zC_i h2 (m_isIn (d := 14) (zr_to64 h2) (by decide) (by decide) ?_), fun q => absurd c q⟩
      rw [if_pos (by omega)]
      refine zC_i (by decide) ⟨fun q => absurd q (by decide), fun _ => ?_⟩
      have hM2 := iM_thr hM1 0
      refine m_isLaid (d := 8) p1 p2 h1 hM2.1 hM2.2.1 ?_ (fun M2 k c j t h0 e h => ?_)
      · intro M2 _ g
        exact zC_i (by decide) ⟨fun q => absurd rfl q, fun _ => ⟨rfl, mk M1 M2 hX1 hM1 g⟩⟩
      · exfalso
        have := (List.getElem?_eq_some_iff.mp h).1
        omega
    · intro M1 k c' j h0 hg1 f f1 f2 f3
      have hX1 := iX_sc hX (M' := M1) (fun c hc => f c (by omega))
      have hM1 := iM_up hM (M' := M1) (fun c hc => f c (by omega))
      match ot, hX, hM, hP, p2, p6, len, mk, hX1, hM1, hg1 with
      | none, hX, hM, hP, p2, p6, len, mk, hX1, hM1, hg1 =>
        have hg1 : ([] : List Sg)[a1.toNat]? = some (k, c', j) := hg1
        rw [List.getElem?_nil] at hg1
        exact absurd hg1 (by simp)
      | some t, hX, hM, hP, p2, p6, len, mk, hX1, hM1, hg1 =>
        have ok := sAO_ok hg1
        have hv := (p2 t rfl).2
        have sz := sTr_sz p1 hv ok
        have hlt := (List.getElem?_eq_some_iff.mp hg1).1
        have hck : c' = 0 ∨ c' = 1 ∨ c' = 2 := by
          rcases ok.2.2 with q | q | q
          · exact .inl q.1
          · exact .inr (.inl q.1)
          · exact .inr (.inr q.1)
        have hj : c' ≠ 2 → j = -1 := by
          intro hc2
          have hm := List.mem_of_getElem? hg1
          have gen : ∀ x ∈ sAll G t, x.2.1 ≠ 2 → x.2.2 = -1 := by
            have gH : ∀ (k : Int) (m : Nat) (j : Int), ∀ x ∈ sH G t k m j, x.2.1 = 2 := by
              intro k m
              induction m with
              | zero => intro j x hx; unfold sH at hx; exact absurd hx (by simp)
              | succ m ih =>
                intro j x hx
                unfold sH at hx
                split at hx
                · rcases List.mem_cons.mp hx with e | e
                  · rw [e]
                  · exact ih _ x e
                · exact ih _ x hx
            have gN : ∀ (k : Int), ∀ x ∈ sN G t k, x.2.1 ≠ 2 → x.2.2 = -1 := by
              intro k x hx hne
              unfold sN sNl at hx
              rcases List.mem_append.mp hx with h | h
              · split at h
                · rw [List.mem_singleton.mp h]
                · exact absurd h (by simp)
              · rcases List.mem_append.mp h with h | h
                · split at h
                  · rw [List.mem_singleton.mp h]
                  · exact absurd h (by simp)
                · exact absurd (gH _ _ _ x h) hne
            have gL : ∀ (m : Nat) (k : Int), ∀ x ∈ sL G t m k, x.2.1 ≠ 2 → x.2.2 = -1 := by
              intro m
              induction m with
              | zero => intro k x hx; unfold sL at hx; exact absurd hx (by simp)
              | succ m ih =>
                intro k x hx
                unfold sL at hx
                rcases List.mem_append.mp hx with h | h
                · exact gN _ x h
                · exact ih _ x h
            exact gL _ _
          exact gen (k, c', j) hm hc2
        -- the reference, up to what it looks at
        have hm : ∀ (M3 : Mm) (K : Kt), iM G (some t) B J vs H n l tn tA fk fp M3 → (∀ M2, sFr (zUp M3 154 0 0) M2 → mTr M2 161 (sTr G t k c' j) → M2 154 64 = k → M2 154 65 = c' → M2 154 66 = j → zC (zR32 a2) (((a2 = 0 → K (M2 154 64) M2) ∧ ((a2 = 1 → K (M2 154 65) M2) ∧ ((a2 = 2 → K (M2 154 66) M2) ∧ ((a2 = 3 → zSp 15 174 [.inr (.inr 154), .inl 161] M2 (fun z3 M3 => K z3 M3)) ∧ True)))) ∧ ((a2 < 0 ∨ 3 < a2) → zSp 15 206 [.inr (.inr 154), .inl 161] M2 (fun z4 M4 => K z4 M4)))) → zSp 16 223 [.inr (.inr 154), .inl a1, .inl a2] M3 K := by
          intro M3 K hM3 hk
          rw [me_223]
          refine zC_i h1 ⟨fun _ => zC_i h2 (m_isIn (d := 14) (zr_to64 h2) (by decide) (by decide) ?_), fun q => absurd c q⟩
          rw [if_pos (by omega)]
          refine zC_i (by decide) ⟨fun q => absurd q (by decide), fun _ => ?_⟩
          have hM2 := iM_thr hM3 0
          refine m_isLaid (d := 8) p1 p2 h1 hM2.1 hM2.2.1 (fun M2 hno => absurd ⟨h0, by omega⟩ hno) ?_
          intro M2 k2 c2' j2 t2 _ et hg2 g1 g2 g3 g4 g5
          have et : t = t2 := Option.some.inj et
          subst et
          have ee : (k2, c2', j2) = (k, c', j) := by
            rw [hg1] at hg2
            exact (Option.some.inj hg2).symm
          simp only [Prod.mk.injEq] at ee
          obtain ⟨e1, e2, e3⟩ := ee
          subst e1; subst e2; subst e3
          exact zC_i (by decide) ⟨fun _ => hk M2 g1 g2 g3 g4 g5, fun q => absurd (by decide) q⟩
        have h15 : ∀ (M3 M2 : Mm), iX G (some t) B J vs H n tn tA fk fp M3 → iM G (some t) B J vs H n l tn tA fk fp M3 → sFr (zUp M3 154 0 0) M2 → Inv M2 := mk
        refine zC_i (by decide) ⟨fun _ => zC_i h2 ⟨⟨fun q => ?_, fun q => ?_, fun q => ?_, trivial⟩, fun q => ?_⟩, fun q => absurd (by decide) q⟩
        · rw [f1]
          refine hm M1 _ hM1 (fun M2 g1 g2 g3 g4 g5 => zC_i h2 ⟨⟨fun _ => ⟨g3, h15 M1 M2 hX1 hM1 g1⟩, fun q => by omega, fun q => by omega, fun q => by omega, trivial⟩, fun q => by omega⟩)
        · rw [f2]
          refine hm M1 _ hM1 (fun M2 g1 g2 g3 g4 g5 => zC_i h2 ⟨⟨fun q => by omega, fun _ => ⟨g4, h15 M1 M2 hX1 hM1 g1⟩, fun q => by omega, fun q => by omega, trivial⟩, fun q => by omega⟩)
        · rw [f2]
          have fin : ∀ z, z = j → zSp 16 223 [.inr (.inr 154), .inl a1, .inl a2] M1 (fun z2 M2 => z2 = z ∧ Inv M2) := fun z hz => hm M1 _ hM1 (fun M2 g1 g2 g3 g4 g5 => zC_i h2 ⟨⟨fun q => by omega, fun q => by omega, fun _ => ⟨by rw [hz]; exact g5, h15 M1 M2 hX1 hM1 g1⟩, fun q => by omega, trivial⟩, fun q => by omega⟩)
          refine zC_i (zr (by omega) (by omega)) ⟨fun q => fin _ (hj q).symm, fun q => ?_⟩
          rw [f3 (by omega)]
          exact fin _ rfl
        · refine x_makeSingle (d := 10) p1 (xG_fr hX.1 fun c c1 c2 => f c (by omega)) (xTr_fr hX.2.1 fun c c1 c2 => f c (by omega)) hv ok f1 f2 f3 ?_
          intro M3 g1 g2
          have hX3 := iX_sc hX1 (M' := M3) (fun c hc => g2 c (by omega))
          have hM3 := iM_up hM1 (M' := M3) (fun c hc => g2 c (by omega))
          refine zC_i h2 ⟨fun q2 => ?_, fun q2 => ?_⟩
          · refine x_bits (d := 13) xb46 p3 hX3.2.2.1 g1 sz.2 ?_
            refine hm M3 _ hM3 (fun M2 w1 w2 w3 w4 w5 => zC_i h2 ⟨⟨fun q => by omega, fun q => by omega, fun q => by omega, fun q => by omega, trivial⟩, fun _ => ?_⟩)
            have hM2 := iM_s (iM_thr hM3 0) w1
            refine m_bits (d := 9) (by decide) p3 hM2.2.2.1 w2 sz.2 ?_
            intro M4 u
            exact ⟨rfl, Inv_l hP (iX_s (iX_thr hX3 0 0) w1) hM2 u⟩
          · have e46 : M3 46 1 = tSz (sTr G t k c' j) := g1.1.1
            rw [e46]
            refine hm M3 _ hM3 (fun M2 w1 w2 w3 w4 w5 => zC_i h2 ⟨⟨fun q => by omega, fun q => by omega, fun q => by omega, fun _ => ?_, trivial⟩, fun q => by omega⟩)
            refine m_many (by decide) ⟨w2.1.1, h15 M3 M2 hX3 hM3 w1⟩
  · refine zC_i h2 ⟨fun c2 => ?_, fun c2 => ?_⟩
    · rw [me_223]
      exact zC_i h1 ⟨fun q => absurd q c, fun _ => zC_i h2 ⟨fun _ => ⟨rfl, hend⟩, fun q => absurd c2 q⟩⟩
    · refine x_howMany (d := 10) p1 p2 hX.1 hX.2.1 ?_
      intro M1 f
      have hX1 := iX_sc hX (M' := M1) (fun c hc => f c (by omega))
      have hM1 := iM_up hM (M' := M1) (fun c hc => f c (by omega))
      rw [me_223]
      refine zC_i h1 ⟨fun q => absurd q c, fun _ => zC_i h2 ⟨fun q => absurd q c2, fun _ => ?_⟩⟩
      have hM2 := iM_thr hM1 0
      refine m_singles (d := 10) p1 p2 (by decide) hM2.1 hM2.2.1 ?_
      intro M2 g1 g2
      exact ⟨rfl, mk M1 M2 hX1 hM1 g1⟩
