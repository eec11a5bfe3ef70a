/-! LAYER 3: apart -/
def bC (B : List Bg) (i : Nat) : List St5 := (B.getD i (0, 0, [])).2.2
/-- bit i of what holds -/
def eQ (t : Tr) (B : List Bg) (i : Nat) : Int := if i < B.length then eB t (bC B i) else 0
theorem eBs_sum {t : Tr} : ∀ (B : List Bg) (i : Nat) (a : Int), eBs t B i a = a + 2 ^ i * eBs t B 0 0
  | [], i, a => by
    show a = a + 2 ^ i * 0
    omega
  | b :: B, i, a => by
    show eBs t B (i + 1) (a + eB t b.2.2 * 2 ^ i) = a + 2 ^ i * eBs t B 1 (0 + eB t b.2.2 * 2 ^ 0)
    rw [eBs_sum B (i + 1), eBs_sum B 1, Int.pow_succ]
    generalize eBs t B 0 0 = y
    generalize eB t b.2.2 = e
    generalize (2 : Int) ^ i = w
    show a + e * w + w * 2 * y = a + w * (0 + e * 1 + 2 * y)
    rw [Int.mul_add, Int.zero_add, Int.mul_one, Int.mul_comm e w, Int.mul_assoc]
    omega
theorem eBs_cons {t : Tr} {b : Bg} {B : List Bg} : eBs t (b :: B) 0 0 = eB t b.2.2 + 2 * eBs t B 0 0 := by
  show eBs t B 1 (0 + eB t b.2.2 * 2 ^ 0) = _
  rw [eBs_sum B 1]
  show 0 + eB t b.2.2 * 1 + 2 * eBs t B 0 0 = _
  omega
theorem eBs_bit {t : Tr} {L : Int} : ∀ (B : List Bg) (i : Nat), bOk L B → i < B.length → (eBs t B 0 0 / 2 ^ i) % 2 = eB t (bC B i)
  | [], i, hB, hi => absurd hi (Nat.not_lt_zero i)
  | b :: B, 0, hB, hi => by
    obtain ⟨b1, b2, b3, b4⟩ := hB b List.mem_cons_self
    have e := eB_01 (t := t) b3 b4
    rw [eBs_cons]
    show (eB t b.2.2 + 2 * eBs t B 0 0) / 1 % 2 = eB t b.2.2
    omega
  | b :: B, i + 1, hB, hi => by
    obtain ⟨b1, b2, b3, b4⟩ := hB b List.mem_cons_self
    have e := eB_01 (t := t) b3 b4
    have ih := eBs_bit (t := t) B i (fun x hx => hB x (List.mem_cons_of_mem _ hx)) (by have : i + 1 < B.length + 1 := hi; omega)
    rw [eBs_cons, Int.pow_succ, Int.mul_comm ((2 : Int) ^ i) 2, ← Int.ediv_ediv_of_nonneg (by decide), show (eB t b.2.2 + 2 * eBs t B 0 0) / 2 = eBs t B 0 0 by omega]
    exact ih
theorem mBs_at {M : Mm} {L : Int} : ∀ (B : List Bg) (b : Nat) (i c : Int), mBs M B i c → bOk L B → 0 ≤ c → c + bLen B ≤ 333 → b < B.length → ∃ cc, M 170 (i + b) = cc ∧ M 170 (i + b + 1) = cc + (bC B b).length ∧ mCd M (bC B b) cc ∧ 0 ≤ cc ∧ cc + (bC B b).length ≤ 333 ∧ (∀ s ∈ bC B b, sV L s) ∧ wL (bC B b) 0
  | [], b, i, c, h, hB, h0, h3, hb => absurd hb (Nat.not_lt_zero b)
  | (nm, od, cd) :: B, 0, i, c, h, hB, h0, h3, hb => by
    obtain ⟨b1, b2, b3, b4⟩ := hB (nm, od, cd) List.mem_cons_self
    obtain ⟨m1, m2, m3, m4, m5⟩ := h
    have h3 : c + ((cd.length : Int) + 1 + bLen B) ≤ 333 := h3
    have bn := bLen_nn B
    have m6 := mBs_0 _ _ _ m5
    refine ⟨c, by rw [show i + ((0 : Nat) : Int) = i by omega]; exact m1, by rw [show i + ((0 : Nat) : Int) + 1 = i + 1 by omega]; exact m6, m4, h0, ?_, b3, b4⟩
    show c + (cd.length : Int) ≤ 333
    omega
  | (nm, od, cd) :: B, b + 1, i, c, h, hB, h0, h3, hb => by
    obtain ⟨m1, m2, m3, m4, m5⟩ := h
    have h3 : c + ((cd.length : Int) + 1 + bLen B) ≤ 333 := h3
    obtain ⟨cc, r1, r2, r3⟩ := mBs_at B b (i + 1) (c + cd.length) m5 (fun x hx => hB x (List.mem_cons_of_mem _ hx)) (by omega) (by omega) (by have : b + 1 < B.length + 1 := hb; omega)
    exact ⟨cc, by rw [show i + ((b + 1 : Nat) : Int) = i + 1 + b by omega]; exact r1, by rw [show i + ((b + 1 : Nat) : Int) + 1 = i + 1 + b + 1 by omega]; exact r2, r3⟩
theorem m_holdsB {d : Nat} {M : Mm} {K : Kt} {t : Tr} {p L b : Int} {B : List Bg} (hp : 0 ≤ p ∧ p + 161 ≤ 2093) (hB : bCx L B) (hm : mBg M B) (ht : mTr M p t) (hv : tVal L t) (hb : 0 ≤ b ∧ b < B.length) (hK : ∀ M', (∀ c, c ≠ 176 → c ≠ 189 → M' c = M c) → K (eB t (bC B b.toNat)) M') : zSp (d + 5) 205 [.inr (.inr 154), .inl b, .inl p] M K := by
  have b6 := hB.1
  obtain ⟨cc, r1, r2, r3, r4, r5, r6, r7⟩ := mBs_at B b.toNat 0 0 hm.2 hB.2.2.1 (by omega) (by have := hB.2.1; omega) (by omega)
  rw [show (0 : Int) + ((b.toNat : Nat) : Int) = b by omega] at r1 r2
  exact m_holds hp ht (tVal_le hB.2.2.2 t hv) hB.2.2.2 (by omega) ⟨r4, r5⟩ r1 r2 r3 r6 r7 (fun M' f _ => hK M' f)
/-- the first change that tells the bugs apart -/
def ap (G : Mm) (B : List Bg) (b1 b2 : Int) (t : Tr) : List Sg → Int → Int
  | [], _ => -1
  | s :: L, i => if eB (sTr G t s.1 s.2.1 s.2.2) (bC B b1.toNat) = 1 ∧ eB (sTr G t s.1 s.2.1 s.2.2) (bC B b2.toNat) = 0 then i else ap G B b1 b2 t L (i + 1)
theorem eB_at {t : Tr} {L b : Int} {B : List Bg} (hB : bCx L B) (hb : 0 ≤ b ∧ b < B.length) : (eB t (bC B b.toNat) = 0 ∨ eB t (bC B b.toNat) = 1) ∧ zIandZ (eBs t B 0 0 / 2 ^ b.toNat) 1 = eB t (bC B b.toNat) := by
  have b6 := hB.1
  have bb := eBs_b (t := t) B 0 0 hB.2.2.1 (by omega) (by decide)
  have e := eBs_bit (t := t) B b.toNat hB.2.2.1 (by omega)
  have p0 : (0 : Int) < 2 ^ b.toNat := Int.pow_pos (by decide)
  have n0 : 0 ≤ eBs t B 0 0 / 2 ^ b.toNat := Int.ediv_nonneg bb.1 (by omega)
  have n1 : eBs t B 0 0 / 2 ^ b.toNat ≤ eBs t B 0 0 := Int.ediv_le_self _ bb.1
  rw [zA1 n0 (by omega), e]
  exact ⟨by omega, rfl⟩
theorem x_apart_l {d : Nat} {G : Mm} {K : Kt} {t : Tr} {B : List Bg} {J : Js} {vs : Int} {H : Int → Option Tr} {n tn fk fp b1 b2 : Int} {tA : Int → Int} (hP : iP G (some t) B J vs H n tn tA) (hb1 : 0 ≤ b1 ∧ b1 < B.length) (hb2 : 0 ≤ b2 ∧ b2 < B.length) : ∀ (L : List Sg) (M : Mm) (i : Int) (u : Option Vl), (∀ s ∈ L, sOk G t s.1 s.2.1 s.2.2) → 0 ≤ i → i + L.length ≤ 6480 → iX G (some t) B J vs H n tn tA fk fp M → sRep G M t L →
    (∀ M', iX G (some t) B J vs H n tn tA fk fp M' → (∀ c, (c < 46 ∨ (54 ≤ c ∧ c ≠ 149)) → M' c = M c) → K (ap G B b1 b2 t L i) M') →
    zWp (zSp (d + 6)) 118 K 46 [some (.inr (.inr 0)), some (.inl b1), some (.inl b2), some (.inl i), u] [] M
  | [], M, i, u, hs, h0, hl, hX, hr, hK => by
    have hl : i + 0 ≤ 6480 := hl
    rw [fe_118_46]
    (repeat (first | (with_reducible refine zC_i ?hob ?_; case hob => first | assumption | decide | exact zr (by omega) (by omega) | exact zs (by omega) (by omega) | exact zd (by omega) (by omega)) | (with_reducible refine zIfT ?hob ?_; case hob => first | assumption | omega | decide) | (with_reducible refine zIfF ?hob ?_; case hob => first | assumption | omega | decide)))
    refine x_step (d := d + 2) hP.1 hX.1 hX.2.1 (hP.2.1 t rfl).2 hr ?_
    intro M' f
    (repeat (first | (with_reducible refine zC_i ?hob ?_; case hob => first | assumption | decide | exact zr (by omega) (by omega) | exact zs (by omega) (by omega) | exact zd (by omega) (by omega)) | (with_reducible refine zIfT ?hob ?_; case hob => first | assumption | omega | decide) | (with_reducible refine zIfF ?hob ?_; case hob => first | assumption | omega | decide)))
    exact hK M' (iX_sc hX (fun c hc => f c (by omega))) (fun c hc => f c (by omega))
  | (k, c, j) :: L, M, i, u, hs, h0, hl, hX, hr, hK => by
    have hl : i + ((L.length + 1 : Nat) : Int) ≤ 6480 := hl
    have ok : sOk G t k c j := hs (k, c, j) List.mem_cons_self
    have sz := sTr_sz hP.1 (hP.2.1 t rfl).2 ok
    have z8 := (hP.2.1 t rfl).1
    have b6 := hP.2.2.1.1
    have xb46 : xT 46 := by unfold xT; decide
    have bb := eBs_b (t := sTr G t k c j) B 0 0 hP.2.2.1.2.2.1 (by omega) (by decide)
    have r1 := eB_at (t := sTr G t k c j) hP.2.2.1 hb1
    have r2 := eB_at (t := sTr G t k c j) hP.2.2.1 hb2
    unfold ap at hK
    rw [fe_118_46]
    (repeat (first | (with_reducible refine zC_i ?hob ?_; case hob => first | assumption | decide | exact zr (by omega) (by omega) | exact zs (by omega) (by omega) | exact zd (by omega) (by omega)) | (with_reducible refine zIfT ?hob ?_; case hob => first | assumption | omega | decide) | (with_reducible refine zIfF ?hob ?_; case hob => first | assumption | omega | decide)))
    refine x_step (d := d + 2) hP.1 hX.1 hX.2.1 (hP.2.1 t rfl).2 hr ?_
    intro M1 f f1 f2 f3 f4
    have hX1 := iX_sc hX (M' := M1) (fun c hc => f c (by omega))
    refine zC_i (by decide) ⟨fun q => absurd q (by decide), fun _ => ?_⟩
    refine x_makeSingle (d := d + 1) hP.1 hX1.1 hX1.2.1 (hP.2.1 t rfl).2 ok f1 f2 f3 ?_
    intro M2 g1 g2
    have hX2 := iX_sc hX1 (M' := M2) (fun c hc => g2 c (by omega))
    have fr : ∀ c, (c < 46 ∨ (54 ≤ c ∧ c ≠ 149)) → M2 c = M c := fun c hc => by rw [g2 c (by omega), f c (by omega)]
    refine x_bits (d := d + 4) xb46 hP.2.2.1 hX2.2.2.1 g1 sz.2 ?_
    have nx : ¬ (eB (sTr G t k c j) (bC B b1.toNat) = 1 ∧ eB (sTr G t k c j) (bC B b2.toNat) = 0) → ∀ u, zWp (zSp (d + 6)) 118 K 46 [some (.inr (.inr 0)), some (.inl b1), some (.inl b2), some (.inl (i + 1)), u] [] M2 := by
      intro hn u
      rw [if_neg hn] at hK
      refine x_apart_l hP hb1 hb2 L M2 (i + 1) u (fun s hs2 => hs s (List.mem_cons_of_mem _ hs2)) (by omega) (by omega) hX2 (sRep_fr f4 (g2 149 (by omega))) ?_
      intro M3 u1 u2
      exact hK M3 u1 (fun c hc => by rw [u2 c hc, fr c hc])
    rw [r1.2, r2.2]
    refine zC_i (zr (by omega) (by omega)) (zC_i (zs (by omega) (by omega)) (zC_i (zr (by omega) (by omega)) ⟨fun q => nx (fun h => q h.1) _, fun q => zC_i (zr (by omega) (by omega)) (zC_i (zs (by omega) (by omega)) (zC_i (zr (by omega) (by omega)) ⟨fun q2 => nx (fun h => q2 h.2) _, fun q2 => ?_⟩))⟩))
    rw [if_pos ⟨Decidable.not_not.mp q, Decidable.not_not.mp q2⟩] at hK
    exact hK M2 hX2 fr
theorem m_apart_l {d : Nat} {G : Mm} {K : Kt} {t : Tr} {B : List Bg} {J : Js} {vs : Int} {H : Int → Option Tr} {n l tn fk fp b1 b2 : Int} {tA : Int → Int} (hP : iP G (some t) B J vs H n tn tA) (hb1 : 0 ≤ b1 ∧ b1 < B.length) (hb2 : 0 ≤ b2 ∧ b2 < B.length) : ∀ (L : List Sg) (M : Mm) (a : Nat) (i : Int), i = a → (∀ p, L[p]? = (sAll G t)[a + p]?) → a + L.length = (sAll G t).length → iM G (some t) B J vs H n l tn tA fk fp M →
    (∀ M', iM G (some t) B J vs H n l tn tA fk fp M' → (∀ c, c < 154 → M' c = M c) → K (ap G B b1 b2 t L i) M') →
    zWp (zSp (d + 8)) 228 K 42 [some (.inr (.inr 154)), some (.inl b1), some (.inl b2), some (.inl i)] [] M
  | [], M, a, i, hi, hL, hl, hM, hK => by
    have hl : a + 0 = (sAO G (some t)).length := hl
    have len := sAO_b hP.2.1
    rw [fe_228_42]
    refine m_isLaid (d := d + 1) hP.1 hP.2.1 (zr (by omega) (by omega)) hM.1 hM.2.1 ?_ (fun M2 k c j t h0 e h => ?_)
    · intro M2 _ g
      exact zC_i (by decide) ⟨fun _ => hK M2 (iM_s hM g) (fun c hc => g.1 c (by omega) (by omega) (by omega)), fun q => absurd rfl q⟩
    · exfalso
      have := (List.getElem?_eq_some_iff.mp h).1
      omega
  | (k, c, j) :: L, M, a, i, hi, hL, hl, hM, hK => by
    have hl' : a + (L.length + 1) = (sAO G (some t)).length := hl
    have len := sAO_b hP.2.1
    have hg1 : (sAO G (some t))[i.toNat]? = some (k, c, j) := by
      have := hL 0
      rw [show i.toNat = a + 0 by omega]
      exact this.symm
    have ok := sAO_ok hg1
    have sz := sTr_sz hP.1 (hP.2.1 t rfl).2 ok
    have r1 := eB_at (t := sTr G t k c j) hP.2.2.1 hb1
    have r2 := eB_at (t := sTr G t k c j) hP.2.2.1 hb2
    unfold ap at hK
    rw [fe_228_42]
    refine m_isLaid (d := d + 1) hP.1 hP.2.1 (zr (by omega) (by omega)) hM.1 hM.2.1 (fun M2 hno => absurd ⟨by omega, by omega⟩ hno) ?_
    intro M1 k2 c2' j2 t2 _ et hg2 g1 g2 g3 g4 g5
    have et : t = t2 := Option.some.inj et
    subst et
    have ee : (k2, c2', j2) = (k, c, j) := by
      rw [hg1] at hg2
      exact (Option.some.inj hg2).symm
    simp only [Prod.mk.injEq] at ee
    obtain ⟨e1, e2, e3⟩ := ee
    subst e1; subst e2; subst e3
    have hM1 := iM_s hM g1
    have keep : ∀ {M1 M2 : Mm}, iM G (some t) B J vs H n l tn tA fk fp M1 → (∀ c, c ≠ 176 → c ≠ 189 → M2 c = M1 c) → iM G (some t) B J vs H n l tn tA fk fp M2 := fun h f => iM_fr h (fun c hc => f c (by omega) (by omega)) (fun p _ => by rw [f 165 (by decide) (by decide)]) (fun j _ => by rw [f 154 (by decide) (by decide)])
    have nx : ¬ (eB (sTr G t k2 c2' j2) (bC B b1.toNat) = 1 ∧ eB (sTr G t k2 c2' j2) (bC B b2.toNat) = 0) → ∀ M2, iM G (some t) B J vs H n l tn tA fk fp M2 → (∀ c, c < 154 → M2 c = M c) → zWp (zSp (d + 8)) 228 K 42 [some (.inr (.inr 154)), some (.inl b1), some (.inl b2), some (.inl (i + 1))] [] M2 := by
      intro hn M2 hM2 fr
      rw [if_neg hn] at hK
      refine m_apart_l hP hb1 hb2 L M2 (a + 1) (i + 1) (by omega) (fun p => ?_) (by show a + 1 + L.length = (sAO G (some t)).length; omega) hM2 ?_
      · have := hL (p + 1)
        rw [show a + 1 + p = a + (p + 1) by omega]
        exact this
      · intro M3 u1 u2
        exact hK M3 u1 (fun c hc => by rw [u2 c hc, fr c hc])
    refine zC_i (by decide) ⟨fun q => absurd q (by decide), fun _ => ?_⟩
    refine m_holdsB (d := d + 3) (by decide) hP.2.2.1 hM1.2.2.1 g2 sz.2 hb1 ?_
    intro M2 w1
    have hM2 := keep hM1 w1
    have fr2 : ∀ c, c < 154 → M2 c = M c := fun c hc => by rw [w1 c (by omega) (by omega), g1.1 c (by omega) (by omega) (by omega)]
    refine zC_i (zr (by omega) (by omega)) ⟨fun q => nx (by omega) M2 hM2 fr2, fun q => ?_⟩
    refine m_holdsB (d := d + 3) (by decide) hP.2.2.1 hM2.2.2.1 (mTr_fr g2 fun i _ _ => by rw [w1 165 (by decide) (by decide)]) sz.2 hb2 ?_
    intro M3 w2
    have hM3 := keep hM2 w2
    have fr3 : ∀ c, c < 154 → M3 c = M c := fun c hc => by rw [w2 c (by omega) (by omega), fr2 c hc]
    refine zC_i (zr (by omega) (by omega)) ⟨fun q2 => nx (by omega) M3 hM3 fr3, fun q2 => ?_⟩
    have ee : eB (sTr G t k2 c2' j2) (bC B b1.toNat) = 1 ∧ eB (sTr G t k2 c2' j2) (bC B b2.toNat) = 0 := by omega
    rw [if_pos ee] at hK
    exact hK M3 hM3 fr3
theorem st_21 : zStep_21 Inv := by
  intro M hI a1 h1 a2 h2
  obtain ⟨G, ot, B, J, vs, H, n, l, tn, tA, fk, fp, hI, hX, hM⟩ := hI
  have ob := oSz_b hI.2.1
  have xn := xTo_n hX.2.1
  have mn := mTo_n hM.2.1
  have b6 := hI.2.2.1.1
  have hM0 := iM_thr hM 0
  have hX0 := iX_thr hX 0 0
  have hend : Inv (zUp M 154 0 0) := ⟨G, ot, B, J, vs, H, n, l, tn, tA, fk, fp, hI, hX0, hM0⟩
  rw [me_118]
  refine x_isBug (d := 14) hX.2.2.1 b6 h1 ?_
  by_cases cb : 0 ≤ a1 ∧ a1 < B.length
  · rw [fl_t cb]
    refine zC_i (by decide) ⟨fun q => absurd q (by decide), fun _ => ?_⟩
    refine x_isBug (d := 14) hX.2.2.1 b6 h2 ?_
    by_cases cc : 0 ≤ a2 ∧ a2 < B.length
    · rw [fl_t cc]
      have hmb : ∀ (M1 : Mm) (K : Kt), iM G ot B J vs H n l tn tA fk fp M1 → (((¬ a1 = a2 → ((¬ oSz ot = 0 → zWp (zSp 15) 228 K 42 [some (.inr (.inr 154)), some (.inl a1), some (.inl a2), some (.inl 0)] [] (zUp M1 154 0 0)) ∧ (¬ (¬ oSz ot = 0) → K (-3) (zUp M1 154 0 0)))) ∧ (¬ (¬ a1 = a2) → K (-2) (zUp M1 154 0 0)))) → zSp 16 228 [.inr (.inr 154), .inl a1, .inl a2] M1 K := by
        intro M1 K hM1 hk
        rw [me_228]
        have hM2 := iM_thr hM1 0
        refine m_isBug (d := 13) hM2.2.2.1 b6 h1 ?_
        rw [fl_t cb]
        refine zC_i (by decide) ⟨fun q => absurd q (by decide), fun _ => ?_⟩
        refine m_isBug (d := 13) hM2.2.2.1 b6 h2 ?_
        rw [fl_t cc]
        refine zC_i (by decide) ⟨fun q => absurd q (by decide), fun _ => zC_i h1 (zC_i h2 ⟨fun q => m_many (by decide) ?_, hk.2⟩)⟩
        rw [mTo_n hM2.2.1]
        exact zC_i (zr (by omega) (by omega)) (hk.1 q)
      refine zC_i (by decide) ⟨fun q => absurd q (by decide), fun _ => zC_i h1 (zC_i h2 ⟨fun c1 => ?_, fun c1 => ?_⟩)⟩
      · rw [xn]
        refine zC_i (zr (by omega) (by omega)) ⟨fun c2 => ?_, fun c2 => ?_⟩
        · match ot, hI, hX, hM, c2, hmb with
          | none, hI, hX, hM, c2, hmb => exact absurd rfl c2
          | some t, hI, hX, hM, c2, hmb =>
            have len := sAO_b hI.2.1
            have e0 : (sAll G t).length = (sAO G (some t)).length := rfl
            refine x_sstart (d := 13) (G := G) (t := t) ?_
            intro M2 g1 g2 g3
            have hX2 := iX_sc hX (M' := M2) (fun c hc => g1 c (by omega))
            have hM2 := iM_up hM (M' := M2) (fun c hc => g1 c (by omega))
            refine x_apart_l (d := 9) hI cb cc (sAll G t) M2 0 none (fun s hs => ?_) (by omega) (by omega) hX2 g2 ?_
            · have q := tSz_pos t
              exact sL_ok (G := G) (t := t) (tSz t).toNat 0 (by omega) (by omega) s hs
            · intro M3 u1 u2
              have hM3 := iM_up hM2 (M' := M3) (fun c hc => u2 c (by omega))
              refine hmb M3 _ hM3 ⟨fun _ => ⟨fun _ => ?_, fun q => absurd c2 q⟩, fun q => absurd c1 q⟩
              refine m_apart_l (d := 7) hI cb cc (sAll G t) _ 0 0 rfl (fun p => by rw [Nat.zero_add]) (by omega) (iM_thr hM3 0) ?_
              intro M5 v1 v2
              exact ⟨rfl, G, some t, B, J, vs, H, n, l, tn, tA, fk, fp, hI, iX_up (iX_thr u1 0 0) v2, v1⟩
        · exact hmb M _ hM ⟨fun _ => ⟨fun q => absurd q c2, fun _ => ⟨rfl, hend⟩⟩, fun q => absurd c1 q⟩
      · exact hmb M _ hM ⟨fun q => absurd q c1, fun _ => ⟨rfl, hend⟩⟩
    · rw [fl_f cc]
      refine zC_i (by decide) ⟨fun _ => ?_, fun q => absurd rfl q⟩
      rw [me_228]
      refine m_isBug (d := 13) hM0.2.2.1 b6 h1 ?_
      rw [fl_t cb]
      refine zC_i (by decide) ⟨fun q => absurd q (by decide), fun _ => ?_⟩
      refine m_isBug (d := 13) hM0.2.2.1 b6 h2 ?_
      rw [fl_f cc]
      exact zC_i (by decide) ⟨fun _ => ⟨rfl, hend⟩, fun q => absurd rfl q⟩
  · rw [fl_f cb]
    refine zC_i (by decide) ⟨fun _ => ?_, fun q => absurd rfl q⟩
    rw [me_228]
    refine m_isBug (d := 13) hM0.2.2.1 b6 h1 ?_
    rw [fl_f cb]
    exact zC_i (by decide) ⟨fun _ => ⟨rfl, hend⟩, fun q => absurd rfl q⟩
