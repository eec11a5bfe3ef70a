/-! LAYER 3: bugs' text, read by the reference -/
def cLen : List Bg → Int
  | [] => 0
  | (_, _, cd) :: B => cd.length + cLen B
theorem cLen_b : ∀ B : List Bg, 0 ≤ cLen B ∧ cLen B ≤ bLen B
  | [] => ⟨Int.le_refl 0, Int.le_refl 0⟩
  | (_, _, cd) :: B => by
    have ih := cLen_b B
    show 0 ≤ (cd.length : Int) + cLen B ∧ (cd.length : Int) + cLen B ≤ cd.length + 1 + bLen B
    omega
theorem cLen_snoc {x : Bg} : ∀ B : List Bg, cLen (B ++ [x]) = cLen B + x.2.2.length
  | [] => by
    obtain ⟨a, b, c⟩ := x
    show (c.length : Int) + 0 = 0 + c.length
    omega
  | (a, b, c) :: B => by
    have ih := cLen_snoc (x := x) B
    show (c.length : Int) + cLen (B ++ [x]) = c.length + cLen B + x.2.2.length
    omega
def mBq (M : Mm) : List Bg → Int → Int → Prop
  | [], _, _ => True
  | (nm, od, cd) :: B, i, c => M 170 i = c ∧ M 174 i = nm ∧ M 172 i = od ∧ mCd M cd c ∧ mBq M B (i + 1) (c + cd.length)
theorem mBq_fr {M M' : Mm} : ∀ (B : List Bg) (i c : Int), (∀ j, i ≤ j → j < i + B.length → M' 170 j = M 170 j ∧ M' 174 j = M 174 j ∧ M' 172 j = M 172 j) → (∀ j, 5 * c ≤ j → j < 5 * (c + cLen B) → M' 168 j = M 168 j) → mBq M B i c → mBq M' B i c
  | [], _, _, _, _, _ => trivial
  | (nm, od, cd) :: B, i, c, f1, f2, ⟨a1, a2, a3, a4, a5⟩ => by
    have e : (((nm, od, cd) :: B : List Bg).length : Int) = B.length + 1 := by show ((B.length + 1 : Nat) : Int) = _; omega
    have eb : cLen ((nm, od, cd) :: B) = cd.length + cLen B := rfl
    have nb := (cLen_b B).1
    have x := f1 i (by omega) (by omega)
    exact ⟨by rw [x.1]; exact a1, by rw [x.2.1]; exact a2, by rw [x.2.2]; exact a3, mCd_fr2 cd c (fun j j1 j2 => f2 j j1 (by omega)) a4, mBq_fr B (i + 1) (c + cd.length) (fun j j1 j2 => f1 j (by omega) (by omega)) (fun j j1 j2 => f2 j (by omega) (by omega)) a5⟩
theorem mBq_snoc {M : Mm} {nm od : Int} {cd : List St5} : ∀ (B : List Bg) (i c : Int), mBq M B i c → M 170 (i + B.length) = c + cLen B → M 174 (i + B.length) = nm → M 172 (i + B.length) = od → mCd M cd (c + cLen B) → mBq M (B ++ [(nm, od, cd)]) i c
  | [], i, c, _, h1, h2, h3, h4 => by
    have e : i + (([] : List Bg).length : Int) = i := by show i + ((0 : Nat) : Int) = i; omega
    have e2 : c + cLen [] = c := by show c + 0 = c; omega
    rw [e] at h1 h2 h3
    rw [e2] at h1 h4
    exact ⟨h1, h2, h3, h4, trivial⟩
  | (a, b', cc) :: B, i, c, ⟨a1, a2, a3, a4, a5⟩, h1, h2, h3, h4 => by
    have e : (((a, b', cc) :: B : List Bg).length : Int) = B.length + 1 := by show ((B.length + 1 : Nat) : Int) = _; omega
    have eb : cLen ((a, b', cc) :: B) = cc.length + cLen B := rfl
    rw [show i + (((a, b', cc) :: B : List Bg).length : Int) = i + 1 + B.length by omega] at h1 h2 h3
    rw [show c + cLen ((a, b', cc) :: B) = c + cc.length + cLen B by omega] at h1 h4
    exact ⟨a1, a2, a3, a4, mBq_snoc B (i + 1) (c + cc.length) a5 h1 h2 h3 h4⟩
theorem mBq_s {M : Mm} : ∀ (B : List Bg) (i c : Int), mBq M B i c → M 170 (i + B.length) = c + cLen B → mBs M B i c
  | [], i, c, _, h => by
    have e : i + (([] : List Bg).length : Int) = i := by show i + ((0 : Nat) : Int) = i; omega
    rw [e] at h
    have h : M 170 i = c + 0 := h
    show M 170 i = c
    omega
  | (a, b', cc) :: B, i, c, ⟨a1, a2, a3, a4, a5⟩, h => by
    have e : (((a, b', cc) :: B : List Bg).length : Int) = B.length + 1 := by show ((B.length + 1 : Nat) : Int) = _; omega
    have eb : cLen ((a, b', cc) :: B) = cc.length + cLen B := rfl
    rw [show i + (((a, b', cc) :: B : List Bg).length : Int) = i + 1 + B.length by omega] at h
    exact ⟨a1, a2, a3, a4, mBq_s B (i + 1) (c + cc.length) a5 (by omega)⟩
def mBI (B : List Bg) (M : Mm) : Prop := M 154 38 = cLen B ∧ mBq (shM M) B 0 0 ∧ ∀ i, 0 ≤ i → i < (B.length : Int) → M 175 i = bNm B i
def mB5 (M M' : Mm) : Prop := (∀ c, c ≠ 154 → c ≠ 169 → c ≠ 171 → c ≠ 173 → c ≠ 175 → c ≠ 176 → M' c = M c) ∧ (∀ j, (j < 4 ∨ j = 8 ∨ j = 9 ∨ (13 < j ∧ j ≠ 38 ∧ j ≠ 40 ∧ j ≠ 41)) → M' 154 j = M 154 j)
theorem mB5_refl {M : Mm} : mB5 M M := ⟨fun _ _ _ _ _ _ _ => rfl, fun _ _ => rfl⟩
theorem mB5_trans {M M' M'' : Mm} (h : mB5 M M') (h' : mB5 M' M'') : mB5 M M'' := ⟨fun c a b e f g i => by rw [h'.1 c a b e f g i, h.1 c a b e f g i], fun j a => by rw [h'.2 j a, h.2 j a]⟩
theorem mB5_E {c0 : Int} {M M' : Mm} (h : mE c0 M M') : mB5 M M' := ⟨fun c a b _ _ _ e => h.1 c a b e, h.2.2⟩
theorem mB5_G {M M' : Mm} (h : nG M M') : mB5 M M' := mB5_E (c0 := 0) (mE_G h)
theorem mB5_bad {M : Mm} {k q : Int} : mB5 M (zUp (zUp M 154 6 k) 154 7 q) := mB5_E (c0 := 0) mE_bad
theorem mBI_G {B : List Bg} {M M' : Mm} (h : mBI B M) (f : nG M M') : mBI B M' := ⟨by rw [f.2 38 (by decide) (by decide) (by decide) (by decide) (by decide) (by decide)]; exact h.1, mBq_fr B 0 0 (fun j _ _ => ⟨by show M' 171 j = M 171 j; rw [f.1 171 (by decide)], by show M' 175 j = M 175 j; rw [f.1 175 (by decide)], by show M' 173 j = M 173 j; rw [f.1 173 (by decide)]⟩) (fun j _ _ => by show M' 169 j = M 169 j; rw [f.1 169 (by decide)]) h.2.1, fun i i0 i1 => by rw [f.1 175 (by decide)]; exact h.2.2 i i0 i1⟩
theorem mG_B {G M M' : Mm} (h : mG G M) (q : mB5 M M') : mG G M' := mG_fr h (q.1 156 (by decide) (by decide) (by decide) (by decide) (by decide) (by decide)) (q.1 157 (by decide) (by decide) (by decide) (by decide) (by decide) (by decide)) (q.1 158 (by decide) (by decide) (by decide) (by decide) (by decide) (by decide)) (q.1 162 (by decide) (by decide) (by decide) (by decide) (by decide) (by decide)) (q.1 163 (by decide) (by decide) (by decide) (by decide) (by decide) (by decide))
-- behind a fault
theorem m_un156 {d : Nat} {M : Mm} {K : Kt} {x1 x2 x4 : Int} (h : 1 ≤ M 154 6 ∧ M 154 6 ≤ 5) (hK : K 0 M) : zWp (zSp (d + 1)) 194 K 156 [some (.inr (.inr 154)), some (.inl x1), some (.inr (.inl x2)), none, some (.inl x4)] [] M := by
  rw [fe_194_156]
  exact m_unfine h (zC_i (by decide) ⟨fun z => absurd rfl z, fun _ => hK⟩)
theorem m_un125 {d : Nat} {M : Mm} {K : Kt} {x1 x2 x4 : Int} (h : 1 ≤ M 154 6 ∧ M 154 6 ≤ 5) (hK : K 0 M) : zWp (zSp (d + 1)) 194 K 125 [some (.inr (.inr 154)), some (.inl x1), some (.inr (.inl x2)), none, some (.inl x4)] [] M := by
  rw [fe_194_125]
  exact m_unfine h (zC_i (by decide) ⟨fun _ => m_un156 h hK, fun z => absurd rfl z⟩)
theorem m_un94 {d : Nat} {M : Mm} {K : Kt} {x1 x2 x4 y0 : Int} (h : 1 ≤ M 154 6 ∧ M 154 6 ≤ 5) (hK : K 0 M) : zWp (zSp (d + 1)) 194 K 94 [some (.inr (.inr 154)), some (.inl x1), some (.inr (.inl x2)), none, some (.inl x4)] [.inl y0] M := by
  rw [fe_194_94]
  exact m_unfine h (zC_i (by decide) ⟨fun _ => m_un125 h hK, fun z => absurd rfl z⟩)
theorem m_un79 {d : Nat} {M : Mm} {K : Kt} {x1 x2 x4 : Int} (h : 1 ≤ M 154 6 ∧ M 154 6 ≤ 5) (hK : K 0 M) : zWp (zSp (d + 1)) 194 K 79 [some (.inr (.inr 154)), some (.inl x1), some (.inr (.inl x2)), none, some (.inl x4)] [] M := by
  rw [fe_194_79]
  exact m_unfine h (zC_i (by decide) ⟨fun _ => m_un94 h hK, fun z => absurd rfl z⟩)
theorem m_un48 {d : Nat} {M : Mm} {K : Kt} {x1 x2 x4 : Int} (h : 1 ≤ M 154 6 ∧ M 154 6 ≤ 5) (hK : K 0 M) : zWp (zSp (d + 1)) 194 K 48 [some (.inr (.inr 154)), some (.inl x1), some (.inr (.inl x2)), none, some (.inl x4)] [] M := by
  rw [fe_194_48]
  exact m_unfine h (zC_i (by decide) ⟨fun _ => m_un79 h hK, fun z => absurd rfl z⟩)
theorem m_un8 {d : Nat} {M : Mm} {K : Kt} {x1 x2 x4 : Int} (h1 : zR32 x1 = true) (h4 : zR32 x4 = true) (h : 1 ≤ M 154 6 ∧ M 154 6 ≤ 5) (hK : K 0 M) : zWp (zSp (d + 1)) 194 K 8 [some (.inr (.inr 154)), some (.inl x1), some (.inr (.inl x2)), none, some (.inl x4)] [] M := by
  rw [fe_194_8]
  exact zC_i h4 (zC_i h1 ⟨fun _ => m_un48 h hK, fun _ => m_unfine h (zC_i (by decide) ⟨fun _ => m_un48 h hK, fun z => absurd rfl z⟩)⟩)
theorem m_told_l {d : Nat} {K : Kt} {M : Mm} {B : List Bg} {a q L : Int} (ha : zR64 a = true) (hB : bOk L B) (hl : (B.length : Int) ≤ 6) (hn : ∀ i, 0 ≤ i → i < (B.length : Int) → M 175 i = bNm B i) (hb : M 154 6 = 0) (h12 : M 154 12 = q) (hN : bTl B a = -1 → ∀ x4, zWp (zSp (d + 1)) 194 K 48 [some (.inr (.inr 154)), some (.inl (B.length : Int)), some (.inr (.inl a)), none, some (.inl x4)] [] M) (hY : bTl B a ≠ -1 → K 0 (zUp (zUp M 154 6 3) 154 7 q)) : ∀ (m : Nat) (i : Int), i + m = (B.length : Int) → 0 ≤ i → fd (bNm B) a m i = bTl B a → zWp (zSp (d + 1)) 194 K 8 [some (.inr (.inr 154)), some (.inl (B.length : Int)), some (.inr (.inl a)), none, some (.inl i)] [] M
  | 0, i, hm, hi, he => by
    rw [fe_194_8]
    exact zC_i (zr (by omega) (by omega)) (zC_i (zr (by omega) (by omega)) ⟨fun _ => hN he.symm i, fun c => absurd (by omega) c⟩)
  | m + 1, i, hm, hi, he => by
    have nb := bNm_b hB hi (show i < (B.length : Int) by omega)
    have he : (if bNm B i = a then i else fd (bNm B) a m (i + 1)) = bTl B a := he
    rw [fe_194_8]
    refine zC_i (zr (by omega) (by omega)) (zC_i (zr (by omega) (by omega)) ⟨fun c => absurd c (by omega), fun _ => m_fine hb ?_⟩)
    rw [hn i hi (by omega), h12]
    refine zC_i (by decide) ⟨fun z => absurd z (by decide), fun _ => zC_i (zs (by omega) (by omega)) (zC_i (zr64 (by omega) (by omega)) (zC_i ha (zC_i zLcmp_r ⟨fun c => ?_, fun c => ?_⟩)))⟩
    · rw [if_neg (fun e => c (zLcmp_eq.mpr e))] at he
      exact m_told_l ha hB hl hn hb h12 hN hY m (i + 1) (by omega) (by omega) he
    · rw [if_pos (zLcmp_eq.mp (Decidable.not_not.mp c))] at he
      refine m_fail hb ?_
      exact m_un8 (zr (by omega) (by omega)) (zr (by omega) (by omega)) (by rw [zUp_there (by decide), zUp_here]; decide) (hY (by omega))
/-- faults of one bug -/
def gBf (T : Int → Int) (n : Int) (G : Mm) (B : List Bg) (p : Int) (w : Bool) (k q : Int) : Prop := ((gHe T n B p w).1 ≠ 0 ∧ k = (gHe T n B p w).1 ∧ q = (gHe T n B p w).2.1) ∨ ((gHe T n B p w).1 = 0 ∧ (gTe T n G 1000 [] [] (gHe T n B p w).2.2.2.2 true).1 ≠ 0 ∧ k = (gTe T n G 1000 [] [] (gHe T n B p w).2.2.2.2 true).1 ∧ q = (gTe T n G 1000 [] [] (gHe T n B p w).2.2.2.2 true).2.1)
  ∨ ((gHe T n B p w).1 = 0 ∧ (gTe T n G 1000 [] [] (gHe T n B p w).2.2.2.2 true).1 = 0 ∧ ¬ (tKi T n (gTe T n G 1000 [] [] (gHe T n B p w).2.2.2.2 true).2.2.2.1 (gTe T n G 1000 [] [] (gHe T n B p w).2.2.2.2 true).2.2.2.2 = 3 ∧ tVa T n (gTe T n G 1000 [] [] (gHe T n B p w).2.2.2.2 true).2.2.2.1 = 59) ∧ k = 1 ∧ q = tQ T n (gTe T n G 1000 [] [] (gHe T n B p w).2.2.2.2 true).2.2.2.1)
/-- the test of a bug and its ; -/
theorem m_bug156 {d : Nat} {T : Int → Int} {n pH nm od : Int} {G M : Mm} {B : List Bg} {K : Kt} (hT : tpOk T n) (hg : gLn G) (hx : mG G M) (hl : (B.length : Int) < 6) (hB : mBI B M) (h : mTk T n pH true M) (hb : M 154 6 = 0) (hN : 3 * (bLen B + 1) ≤ pH)
    (hK0 : ∀ M', (gTe T n G 1000 [] [] pH true).1 ≠ 0 → mFl T n M' (gTe T n G 1000 [] [] pH true).1 (gTe T n G 1000 [] [] pH true).2.1 → mB5 M M' → K 0 M')
    (hK2 : ∀ M', (gTe T n G 1000 [] [] pH true).1 = 0 → ¬ (tKi T n (gTe T n G 1000 [] [] pH true).2.2.2.1 (gTe T n G 1000 [] [] pH true).2.2.2.2 = 3 ∧ tVa T n (gTe T n G 1000 [] [] pH true).2.2.2.1 = 59) → mFl T n M' 1 (tQ T n (gTe T n G 1000 [] [] pH true).2.2.2.1) → mB5 M M' → K 0 M')
    (hK1 : ∀ M', (gTe T n G 1000 [] [] pH true).1 = 0 → (tKi T n (gTe T n G 1000 [] [] pH true).2.2.2.1 (gTe T n G 1000 [] [] pH true).2.2.2.2 = 3 ∧ tVa T n (gTe T n G 1000 [] [] pH true).2.2.2.1 = 59) → mBI (B ++ [(nm, od, (gTe T n G 1000 [] [] pH true).2.2.1)]) M' → mTk T n (tEn T n (gTe T n G 1000 [] [] pH true).2.2.2.1) false M' → M' 154 6 = 0 → mB5 M M' → K 0 M') : zWp (zSp (d + 9)) 194 K 156 [some (.inr (.inr 154)), some (.inl (B.length : Int)), some (.inr (.inl nm)), none, some (.inl od)] [] M := by
  have hn := hT.1
  have pn := h.2.1
  obtain ⟨cb1, cb2⟩ := cLen_b B
  obtain ⟨b1, b2, b3⟩ := hB
  obtain ⟨m, hm⟩ : ∃ m : Int, m = (B.length : Int) := ⟨_, rfl⟩
  rw [← hm] at hl ⊢
  rw [fe_194_156]
  refine m_fine hb (zC_i (by decide) ⟨fun _ => ?_, fun z => absurd (by decide) z⟩)
  rw [b1]
  refine zC_i (zs (by omega) (by omega)) (zC_i (zs (by omega) (by omega)) (zC_i (zs (by omega) (by omega)) ?_))
  rw [me_192]
  have yc : ∀ c, c ≠ 154 → c ≠ 171 → c ≠ 173 → c ≠ 175 → (zUp (zUp (zUp (zUp (zUp M 175 m nm) 173 m od) 171 m (cLen B)) 154 40 0) 154 41 0) c = M c := fun c h1 h2 h3 h4 => by rw [zUp_away h1, zUp_away h1, zUp_away h2, zUp_away h3, zUp_away h4]
  have y175 : ∀ i, (zUp (zUp (zUp (zUp (zUp M 175 m nm) 173 m od) 171 m (cLen B)) 154 40 0) 154 41 0) 175 i = if i = m then nm else M 175 i := fun i => by rw [zUp_away (by decide), zUp_away (by decide), zUp_away (by decide), zUp_away (by decide), zUp_hit]
  have y173 : ∀ i, (zUp (zUp (zUp (zUp (zUp M 175 m nm) 173 m od) 171 m (cLen B)) 154 40 0) 154 41 0) 173 i = if i = m then od else M 173 i := fun i => by rw [zUp_away (by decide), zUp_away (by decide), zUp_away (by decide), zUp_hit, zUp_away (by decide)]
  have y171 : ∀ i, (zUp (zUp (zUp (zUp (zUp M 175 m nm) 173 m od) 171 m (cLen B)) 154 40 0) 154 41 0) 171 i = if i = m then cLen B else M 171 i := fun i => by rw [zUp_away (by decide), zUp_away (by decide), zUp_hit, zUp_away (by decide), zUp_away (by decide)]
  have y154 : ∀ j, (zUp (zUp (zUp (zUp (zUp M 175 m nm) 173 m od) 171 m (cLen B)) 154 40 0) 154 41 0) 154 j = if j = 41 then 0 else if j = 40 then 0 else M 154 j := fun j => by rw [zUp_hit, zUp_hit, zUp_away (by decide), zUp_away (by decide), zUp_away (by decide)]
  generalize (zUp (zUp (zUp (zUp (zUp M 175 m nm) 173 m od) 171 m (cLen B)) 154 40 0) 154 41 0) = M1 at yc y175 y173 y171 y154 ⊢
  have q1 : mB5 M M1 := ⟨fun c h1 _ h3 h4 h5 _ => yc c h1 h3 h4 h5, fun j hj => by rw [y154, if_neg (by omega), if_neg (by omega)]⟩
  have z0 : noT [] = 0 := rfl
  have z1 : (([] : List St5).length : Int) = 0 := rfl
  have o0 : mO (cLen B) [] M1 := ⟨by rw [y154, if_neg (by decide), if_neg (by decide), b1, z1]; omega, trivial⟩
  have s0 : mSk [] M1 := ⟨by rw [y154]; rfl, by rw [y154]; rfl, trivial⟩
  have t1 : mTk T n pH true M1 := mTk_fr h (yc 155 (by decide) (by decide) (by decide) (by decide)) (by rw [y154]; rfl) (by rw [y154]; rfl) (by rw [y154]; rfl)
  have tk := gTe_k (T := T) (bl := bLen B + 1) (w := true) (p := pH) hg hn.2 1000 [] [] (x1 := 0) (by omega) (by omega) (by have := bLen_nn B; omega) pn.2 vT_0 (by omega)
  refine m_test_l (d := d) hT hg cb1 1000 [] [] M1 pH true 0 (by omega) (by omega) (by have := bLen_nn B; omega) (mG_B hx q1) vT_0 s0 o0 t1 (by rw [y154]; exact hb) (by omega) ?_ ?_ ?_
  · intro M2 p' w' i1 i2 i3 i4 i5 i6
    refine m_needsSign (d := d + 5) hT i3 i2 (by unfold sgn; decide) (fun M3 a b => absurd ⟨a, b⟩ i4) ?_
    intro M3 _ j1 j2
    refine hK0 _ (by omega) ?_ (mB5_trans q1 (mB5_trans (mB5_E i6) (mB5_trans (mB5_G (nG_of j2)) mB5_bad)))
    rw [i1, i5]
    exact mFl_i j1
  · intro M2 i1 i2 i3
    exact m_unneeds (by rw [i2.1]; exact i1) (hK0 M2 (by omega) i2 (mB5_trans q1 (mB5_E i3)))
  · intro M2 i1 i2 i3 i4 i5
    rcases tk with ⟨_, y1, y2, y3, y4⟩ | tk
    · generalize gTe T n G 1000 [] [] pH true = R at *
      obtain ⟨_, _, O, pR, wR⟩ := R
      dsimp only at i1 i2 i3 y1 y2 y3 y4 hK0 hK1 hK2
      refine m_needsSign (d := d + 5) hT i3 i4 (by unfold sgn; decide) ?_ ?_
      · intro M3 k1 k2 j1 j2
        have e : mE (cLen B) M1 M3 := mE_trans i5 (mE_G (nG_of j2))
        have sn := bNm_snoc (x := (nm, od, O)) (B := B)
        have ln : ((B ++ [(nm, od, O)]).length : Int) = B.length + 1 := by rw [List.length_append]; show ((B.length + 1 : Nat) : Int) = _; omega
        refine hK1 M3 i1 ⟨k1, k2⟩ ⟨?_, mBq_snoc B 0 0 (mBq_fr B 0 0 (fun j j1 j2 => ⟨?_, ?_, ?_⟩) (fun j j1 j2 => ?_) b2) ?_ ?_ ?_ ?_, fun i i0 i1' => ?_⟩ j1 (by rw [nF_bad j2]; exact i4) (mB5_trans q1 (mB5_E e))
        · rw [j2.2 38 (by decide) (by decide) (by decide) (by decide), i2.1, cLen_snoc]
        · show M3 171 j = M 171 j
          rw [e.1 171 (by decide) (by decide) (by decide), y171, if_neg (by omega)]
        · show M3 175 j = M 175 j
          rw [e.1 175 (by decide) (by decide) (by decide), y175, if_neg (by omega)]
        · show M3 173 j = M 173 j
          rw [e.1 173 (by decide) (by decide) (by decide), y173, if_neg (by omega)]
        · show M3 169 j = M 169 j
          rw [e.2.1 j (by omega), yc 169 (by decide) (by decide) (by decide) (by decide)]
        · show M3 171 _ = _
          rw [e.1 171 (by decide) (by decide) (by decide), y171, if_pos (by omega)]; omega
        · show M3 175 _ = nm
          rw [e.1 175 (by decide) (by decide) (by decide), y175, if_pos (by omega)]
        · show M3 173 _ = od
          rw [e.1 173 (by decide) (by decide) (by decide), y173, if_pos (by omega)]
        · rw [show 0 + cLen B = cLen B by omega]
          exact mCd_fr2 O (cLen B) (fun i _ _ => by show M3 169 i = M2 169 i; rw [j2.1 169 (by decide)]) i2.2
        · rw [ln] at i1'
          by_cases e2 : i = (B.length : Int)
          · rw [e2, e.1 175 (by decide) (by decide) (by decide), y175, if_pos (by omega)]; exact sn.2.symm
          · rw [e.1 175 (by decide) (by decide) (by decide), y175, if_neg (by omega), sn.1 i i0 (by omega)]
            exact b3 i i0 (by omega)
      · intro M3 nk j1 j2
        exact hK2 _ i1 nk (mFl_i j1) (mB5_trans q1 (mB5_trans (mB5_E i5) (mB5_trans (mB5_G (nG_of j2)) mB5_bad)))
    · omega
