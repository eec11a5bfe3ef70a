/-! LAYER 3: bugs: their tests worked out -/
abbrev St5 : Type := Int × Int × Int × Int × Int
abbrev Bg : Type := Int × Int × List St5
abbrev eC (v sg n : Int) : Prop := (sg < 0 ∧ v < n) ∨ (0 < sg ∧ n < v) ∨ (sg = 0 ∧ v = n)
def eNot : List Int → List Int
  | x :: r => (1 - x) :: r
  | r => r
def eAnd : List Int → List Int
  | y :: x :: r => (x * y) :: r
  | r => r
def eOr : List Int → List Int
  | y :: x :: r => fl (x + y > 0) :: r
  | r => r
def eS (t : Tr) (s : St5) (st : List Int) : List Int := if s.1 = 10 then eNot st else if s.1 = 11 then eAnd st else if s.1 = 12 then eOr st else fl (eC (cCnt t s.1 s.2.1 s.2.2.1) s.2.2.2.1 s.2.2.2.2) :: st
def eL (t : Tr) : List St5 → List Int → List Int
  | [], st => st
  | s :: L, st => eL t L (eS t s st)
def eB (t : Tr) (cd : List St5) : Int := (eL t cd []).headD 0
/-- a step that can be -/
def sV (L : Int) (s : St5) : Prop := (s.1 = 10 ∨ s.1 = 11 ∨ s.1 = 12) ∨ ((0 ≤ s.1 ∧ s.1 ≤ 4) ∧ (2 ≤ s.1 → 0 ≤ s.2.1 ∧ s.2.1 < L) ∧ (3 ≤ s.1 → 0 ≤ s.2.2.1 ∧ s.2.2.1 < L) ∧ (s.2.2.2.1 = -1 ∨ s.2.2.2.1 = 0 ∨ s.2.2.2.1 = 1) ∧ (0 ≤ s.2.2.2.2 ∧ s.2.2.2.2 ≤ 999 ∧ 0 ≤ s.2.1 ∧ s.2.1 ≤ 24 ∧ 0 ≤ s.2.2.1 ∧ s.2.2.1 ≤ 24))
def wL : List St5 → Int → Prop
  | [], h => h = 1
  | s :: L, h => (s.1 = 10 → 1 ≤ h ∧ wL L h) ∧ ((s.1 = 11 ∨ s.1 = 12) → 2 ≤ h ∧ wL L (h - 1)) ∧ (s.1 ≤ 4 → h < 30 ∧ wL L (h + 1))
def bits01 (st : List Int) : Prop := ∀ x ∈ st, x = 0 ∨ x = 1
def hb : List Int → Int
  | [] => 0
  | x :: r => x + 2 * hb r
theorem hb_b : ∀ st : List Int, bits01 st → 0 ≤ hb st ∧ hb st < 2 ^ st.length
  | [], _ => ⟨Int.le_refl 0, by decide⟩
  | x :: r, h => by
    have ih := hb_b r (fun y hy => h y (List.mem_cons_of_mem _ hy))
    have hx := h x List.mem_cons_self
    show 0 ≤ x + 2 * hb r ∧ x + 2 * hb r < 2 ^ (r.length + 1)
    rw [Int.pow_succ]
    omega
theorem hb_b30 {st : List Int} (h : bits01 st) (hl : st.length ≤ 30) : 0 ≤ hb st ∧ hb st < 1073741824 := by
  have h1 := hb_b st h
  have h2 : (2 : Nat) ^ st.length ≤ 2 ^ 30 := Nat.pow_le_pow_right (by decide) hl
  have h3 : ((2 ^ st.length : Nat) : Int) = (2 : Int) ^ st.length := by rw [Int.natCast_pow]; rfl
  have h4 : (2 : Nat) ^ 30 = 1073741824 := by decide
  omega
theorem fl01 {P : Prop} [Decidable P] : fl P = 0 ∨ fl P = 1 := fl_b
theorem eS_01 {t : Tr} {s : St5} {st : List Int} (h : bits01 st) : bits01 (eS t s st) := by
  unfold eS
  split
  · match st, h with
    | [], h => exact h
    | x :: r, h =>
      intro y hy
      rcases List.mem_cons.mp hy with e | e
      · have := h x List.mem_cons_self
        omega
      · exact h y (List.mem_cons_of_mem _ e)
  · split
    · match st, h with
      | [], h => exact h
      | [x], h => exact h
      | y :: x :: r, h =>
        intro z hz
        rcases List.mem_cons.mp hz with e | e
        · have h1 := h y List.mem_cons_self
          have h2 := h x (List.mem_cons_of_mem _ List.mem_cons_self)
          rcases h1 with h1 | h1 <;> rcases h2 with h2 | h2 <;> rw [h1, h2] at e <;> omega
        · exact h z (List.mem_cons_of_mem _ (List.mem_cons_of_mem _ e))
    · split
      · match st, h with
        | [], h => exact h
        | [x], h => exact h
        | y :: x :: r, h =>
          intro z hz
          rcases List.mem_cons.mp hz with e | e
          · rw [e]; exact fl_b
          · exact h z (List.mem_cons_of_mem _ (List.mem_cons_of_mem _ e))
      · intro z hz
        rcases List.mem_cons.mp hz with e | e
        · rw [e]; exact fl_b
        · exact h z e
-- where they lie in the class (b: 24 or 31)
def xStp (M : Mm) (b : Nat) (s : St5) (c : Int) : Prop := (s.1 = 10 → M (b + 3) c = 15) ∧ (s.1 = 11 → M (b + 3) c = 16) ∧ (s.1 = 12 → M (b + 3) c = 17) ∧ (s.1 ≤ 4 → M (b + 3) c = 3 * s.1 + (if s.2.2.2.1 < 0 then 0 else if 0 < s.2.2.2.1 then 1 else 2) ∧ (2 ≤ s.1 → M (b + 4) c = s.2.1) ∧ (3 ≤ s.1 → M (b + 5) c = s.2.2.1) ∧ (s.1 < 2 → M (b + 4) c = -1) ∧ (s.1 < 3 → M (b + 5) c = -1) ∧ M (b + 6) c = s.2.2.2.2)
def xCd (M : Mm) (b : Nat) : List St5 → Int → Prop
  | [], _ => True
  | s :: L, c => xStp M b s c ∧ xCd M b L (c + 1)
def xBs (M : Mm) (b : Nat) : List Bg → Int → Int → Prop
  | [], _, c => M b 3 = c
  | (nm, od, cd) :: B, i, c => M (b + 1) i = nm ∧ M (b + 2) i = od ∧ xCd M b cd c ∧ M (b + 3) (c + cd.length) = 18 ∧ xBs M b B (i + 1) (c + cd.length + 1)
-- and in the reference
def mCd (M : Mm) : List St5 → Int → Prop
  | [], _ => True
  | s :: L, c => (M 168 (5 * c) = s.1 ∧ M 168 (5 * c + 1) = s.2.1 ∧ M 168 (5 * c + 2) = s.2.2.1 ∧ M 168 (5 * c + 3) = s.2.2.2.1 ∧ M 168 (5 * c + 4) = s.2.2.2.2) ∧ mCd M L (c + 1)
def mBs (M : Mm) : List Bg → Int → Int → Prop
  | [], i, c => M 170 i = c
  | (nm, od, cd) :: B, i, c => M 170 i = c ∧ M 174 i = nm ∧ M 172 i = od ∧ mCd M cd c ∧ mBs M B (i + 1) (c + cd.length)
/-- bugs that can be -/
def bOk (L : Int) (B : List Bg) : Prop := ∀ x ∈ B, (0 ≤ x.1 ∧ x.1 < 1073741824) ∧ (1 ≤ x.2.1 ∧ x.2.1 ≤ 100) ∧ (∀ s ∈ x.2.2, sV L s) ∧ wL x.2.2 0
def bLen : List Bg → Int
  | [] => 0
  | (_, _, cd) :: B => cd.length + 1 + bLen B
theorem bLen_nn : ∀ B : List Bg, 0 ≤ bLen B
  | [] => Int.le_refl 0
  | (_, _, cd) :: B => by
    have := bLen_nn B
    show 0 ≤ (cd.length : Int) + 1 + bLen B
    omega
theorem x_compares {d : Nat} {M : Mm} {K : Kt} {v n sg : Int} {g : Int} (hv : zR32 v = true) (hn : zR32 n = true) (hsg : sg = -1 ∨ sg = 0 ∨ sg = 1) (hg : g = if sg < 0 then 0 else if 0 < sg then 1 else 2) (hK : K (fl (eC v sg n)) M) : zSp (d + 1) 7 [.inl v, .inl g, .inl n] M K := by
  rw [me_7]
  rcases hsg with h | h | h <;> subst h
  · have hg : g = 0 := hg
    subst hg
    (repeat (first | (with_reducible refine zC_i ?hob ?_; case hob => first | assumption | decide | exact zr (by omega) (by omega) | exact zs (by omega) (by omega) | exact zd (by omega) (by omega)) | (with_reducible refine zIfT ?hob ?_; case hob => first | assumption | omega | decide) | (with_reducible refine zIfF ?hob ?_; case hob => first | assumption | omega | decide)))
    refine ⟨fun c => ?_, fun c => ?_⟩
    · rw [fl_f (by omega)] at hK; exact hK
    · rw [fl_t (by omega)] at hK; exact hK
  · have hg : g = 2 := hg
    subst hg
    (repeat (first | (with_reducible refine zC_i ?hob ?_; case hob => first | assumption | decide | exact zr (by omega) (by omega) | exact zs (by omega) (by omega) | exact zd (by omega) (by omega)) | (with_reducible refine zIfT ?hob ?_; case hob => first | assumption | omega | decide) | (with_reducible refine zIfF ?hob ?_; case hob => first | assumption | omega | decide)))
    refine ⟨fun c => ?_, fun c => ?_⟩
    · rw [fl_f (by omega)] at hK; exact hK
    · rw [fl_t (by omega)] at hK; exact hK
  · have hg : g = 1 := hg
    subst hg
    (repeat (first | (with_reducible refine zC_i ?hob ?_; case hob => first | assumption | decide | exact zr (by omega) (by omega) | exact zs (by omega) (by omega) | exact zd (by omega) (by omega)) | (with_reducible refine zIfT ?hob ?_; case hob => first | assumption | omega | decide) | (with_reducible refine zIfF ?hob ?_; case hob => first | assumption | omega | decide)))
    refine ⟨fun c => ?_, fun c => ?_⟩
    · rw [fl_f (by omega)] at hK; exact hK
    · rw [fl_t (by omega)] at hK; exact hK
theorem cUnd_b {t : Tr} {a b : Int} : ∀ (m : Nat) (k n w : Int), 0 ≤ n → 0 ≤ cUnd t a b m k n w ∧ cUnd t a b m k n w ≤ n + m
  | 0, k, n, w, h => by
    show 0 ≤ n ∧ n ≤ n + 0
    omega
  | m + 1, k, n, w, h => by
    have f := @fl_b (k < w ∧ tNm (tSub t k) = b) _
    have ih := cUnd_b (t := t) (a := a) (b := b) m (k + 1) (n + fl (k < w ∧ tNm (tSub t k) = b)) (if tNm (tSub t k) = a then zMax w (k + tSz (tSub t k)) else w) (by omega)
    show 0 ≤ cUnd t a b m _ _ _ ∧ cUnd t a b m _ _ _ ≤ n + ((m + 1 : Nat) : Int)
    omega
theorem cHas_b {t : Tr} {a : Int} : ∀ (m : Nat) (k : Int), 0 ≤ cHas t a m k ∧ cHas t a m k ≤ m
  | 0, k => by
    show (0 : Int) ≤ 0 ∧ (0 : Int) ≤ 0
    omega
  | m + 1, k => by
    have f := @fl_b (tNm (tSub t k) = a) _
    have ih := cHas_b (t := t) (a := a) m (k + 1)
    show 0 ≤ fl _ + cHas t a m (k + 1) ∧ fl _ + cHas t a m (k + 1) ≤ ((m + 1 : Nat) : Int)
    omega
theorem cNext_b {a b : Int} : ∀ t : Tr, 0 ≤ cNext a b t ∧ cNext a b t + 1 ≤ tSz t
  | .var _ => by
    show (0 : Int) ≤ 0 ∧ (0 : Int) + 1 ≤ 1
    omega
  | .op f s => by
    have h1 := cNext_b (a := a) (b := b) f
    have h2 := cNext_b (a := a) (b := b) s
    have h3 := @fl_b (cLast f = a ∧ tNm s = b) _
    show 0 ≤ cNext a b f + fl _ + cNext a b s ∧ cNext a b f + fl _ + cNext a b s + 1 ≤ tSz f + tSz s
    omega
theorem cCnt_b {t : Tr} {w a b : Int} : 0 ≤ cCnt t w a b ∧ cCnt t w a b ≤ tSz t := by
  have q := tSz_pos t
  unfold cCnt
  split
  · omega
  · split
    · have := tDp_b t; omega
    · split
      · have := cHas_b (t := t) (a := a) (tSz t).toNat 0; omega
      · split
        · have := cUnd_b (t := t) (a := a) (b := b) (tSz t).toNat 0 0 0 (by omega); omega
        · have := cNext_b (a := a) (b := b) t; omega
/-- what a count needs not it does not look at -/
theorem cCnt_w {t : Tr} {w a b a' b' : Int} (h1 : 2 ≤ w → a = a') (h2 : 3 ≤ w → b = b') (hw : 0 ≤ w ∧ w ≤ 4) : cCnt t w a b = cCnt t w a' b' := by
  unfold cCnt
  by_cases c0 : w = 0
  · rw [if_pos c0, if_pos c0]
  · by_cases c1 : w = 1
    · rw [if_neg c0, if_neg c0, if_pos c1, if_pos c1]
    · by_cases c2 : w = 2
      · rw [if_neg c0, if_neg c0, if_neg c1, if_neg c1, if_pos c2, if_pos c2, h1 (by omega)]
      · rw [h1 (by omega), h2 (by omega)]
def xBb (b : Nat) : Prop := b = 24 ∨ b = 31
theorem xBb_c {b : Nat} (h : xBb b) : zObj b 0 = true ∧ (zArr (b + 1) 0 = true ∧ zArr (b + 2) 0 = true ∧ zArr (b + 3) 0 = true ∧ zArr (b + 4) 0 = true ∧ zArr (b + 5) 0 = true ∧ zArr (b + 6) 0 = true) ∧ (zLen (b + 1) = 6 ∧ zLen (b + 2) = 6 ∧ zLen (b + 3) = 333 ∧ zLen (b + 4) = 333 ∧ zLen (b + 5) = 333 ∧ zLen (b + 6) = 333) := by
  rcases h with h | h <;> subst h <;> decide
theorem x_ev {d : Nat} {M : Mm} {K : Kt} {b o : Nat} {t : Tr} {x2 x3 L : Int} (hbb : xBb b) (ho : xT o) (ht : xTr M o t) (hv : tVal 24 t) (hL : L ≤ 24) (h3 : 0 ≤ x3 ∧ x3 < 6) (hl : M b 3 ≤ 333) : ∀ (cd : List St5) (st : List Int) (c : Int) (u6 u7 : Option Vl), xCd M b cd c → (∀ s ∈ cd, sV L s) → wL cd st.length → bits01 st → st.length ≤ 30 → 0 ≤ c → c + cd.length < M b 3 →
    (∀ u6 u7, bits01 (eL t cd st) → (eL t cd st).length = 1 → zWp (zSp (d + 1)) 6 K 10 [some (.inr (.inr b)), some (.inr (.inr o)), some (.inl x2), some (.inl x3), some (.inl (hb (eL t cd st))), some (.inl (c + cd.length)), u6, u7] [] M) →
    zWp (zSp (d + 1)) 6 K 10 [some (.inr (.inr b)), some (.inr (.inr o)), some (.inl x2), some (.inl x3), some (.inl (hb st)), some (.inl c), u6, u7] [] M
  | [], st, c, u6, u7, hc, hs, hw, h01, h30, hc0, hc1, hK => by
    have hw : (st.length : Int) = 1 := hw
    have := hK u6 u7 h01 (by show st.length = 1; omega)
    rw [show c + (([] : List St5).length : Int) = c by show c + 0 = c; omega] at this
    exact this
  | s :: cd, st, c, u6, u7, hc, hs, hw, h01, h30, hc0, hc1, hK => by
    obtain ⟨o', ⟨a1, a2, a3, a4, a5, a6⟩, l1, l2, l3, l4, l5, l6⟩ := xBb_c hbb
    have t5 := ht.2.1
    obtain ⟨hc, hcr⟩ := hc
    have hsv := hs s List.mem_cons_self
    have hsr : ∀ s ∈ cd, sV L s := fun s h => hs s (List.mem_cons_of_mem _ h)
    have hc1 : c + ((cd.length + 1 : Nat) : Int) < M b 3 := hc1
    have h01' := eS_01 (t := t) (s := s) h01
    have hbr := hb_b30 h01 h30
    obtain ⟨w10, w11, w4⟩ := hw
    obtain ⟨x10, x11, x12, x4⟩ := hc
    have hnx : ∀ u6 u7 (x : Int), (eS t s st).length ≤ 30 → wL cd (eS t s st).length → x = hb (eS t s st) → zWp (zSp (d + 1)) 6 K 10 [some (.inr (.inr b)), some (.inr (.inr o)), some (.inl x2), some (.inl x3), some (.inl x), some (.inl (c + 1)), u6, u7] [] M := by
      intro u6 u7 x g1 g2 g3
      subst g3
      refine x_ev hbb ho ht hv hL h3 hl cd (eS t s st) (c + 1) u6 u7 hcr hsr g2 h01' g1 (by omega) (by omega) ?_
      intro u6 u7 k1 k2
      have := hK u6 u7 k1 k2
      rw [show c + 1 + (cd.length : Int) = c + ((s :: cd).length : Int) by show _ = c + ((cd.length + 1 : Nat) : Int); omega]
      exact this
    clear hK
    rw [fe_6_10]
    simp only [o', a3, l3, zC_t]
    rcases hsv with (h | h | h) | h
    · -- not
      have e := x10 h
      have w := w10 h
      have eSe : eS t s st = eNot st := by unfold eS; rw [if_pos h]
      rw [e]
      refine zC_i (by first | assumption | decide | exact zr (by omega) (by omega) | exact zs (by omega) (by omega) | exact zd (by omega) (by omega)) (zC_i (by first | assumption | decide | exact zr (by omega) (by omega) | exact zs (by omega) (by omega) | exact zd (by omega) (by omega)) (zIfF (by omega) (zC_i (by first | assumption | decide | exact zr (by omega) (by omega) | exact zs (by omega) (by omega) | exact zd (by omega) (by omega)) (zIfF (by omega) (zC_i (by first | assumption | decide | exact zr (by omega) (by omega) | exact zs (by omega) (by omega) | exact zd (by omega) (by omega)) (zC_i (by decide) ⟨⟨fun _ => ?_, fun q => absurd q (by decide), fun q => absurd q (by decide), fun q => absurd q (by decide), trivial⟩, fun q => absurd q (by decide)⟩))))))
      rw [eSe] at hnx
      match st, w, hbr, h30, h01, hnx with
      | [], w, _, _, _, _ =>
        have := w.1
        exact absurd this (by decide)
      | x :: r, w, hbr, h30, h01, hnx =>
        have hx := h01 x List.mem_cons_self
        have hbr : 0 ≤ x + 2 * hb r ∧ x + 2 * hb r < 1073741824 := hbr
        refine hnx _ _ _ h30 w.2 ?_
        show zIxorZ (x + 2 * hb r) 1 = (1 - x) + 2 * hb r
        rw [zX1 (by omega) (by omega)]
        omega
    · have e := x11 h
      have w := w11 (.inl h)
      have eSe : eS t s st = eAnd st := by unfold eS; rw [if_neg (by omega), if_pos h]
      rw [e]
      refine zC_i (by first | assumption | decide | exact zr (by omega) (by omega) | exact zs (by omega) (by omega) | exact zd (by omega) (by omega)) (zC_i (by first | assumption | decide | exact zr (by omega) (by omega) | exact zs (by omega) (by omega) | exact zd (by omega) (by omega)) (zIfF (by omega) (zC_i (by first | assumption | decide | exact zr (by omega) (by omega) | exact zs (by omega) (by omega) | exact zd (by omega) (by omega)) (zIfF (by omega) (zC_i (by first | assumption | decide | exact zr (by omega) (by omega) | exact zs (by omega) (by omega) | exact zd (by omega) (by omega)) (zC_i (by decide) ⟨⟨fun q => absurd q (by decide), fun _ => ?_, fun q => absurd q (by decide), fun q => absurd q (by decide), trivial⟩, fun q => absurd q (by decide)⟩))))))
      rw [eSe] at hnx
      match st, w, hbr, h30, h01, hnx with
      | [], w, _, _, _, _ =>
        have := w.1
        exact absurd this (by decide)
      | [x], w, _, _, _, _ =>
        have w1 : (2 : Int) ≤ 1 := w.1
        omega
      | y :: x :: r, w, hbr, h30, h01, hnx =>
        have hy := h01 y List.mem_cons_self
        have hx := h01 x (List.mem_cons_of_mem _ List.mem_cons_self)
        have hbr : 0 ≤ y + 2 * (x + 2 * hb r) ∧ y + 2 * (x + 2 * hb r) < 1073741824 := hbr
        have h30 : r.length + 1 + 1 ≤ 30 := h30
        have w2 : wL cd (((x * y) :: r).length : Int) := by
          have := w.2
          rw [show (((y :: x :: r).length : Nat) : Int) - 1 = (((x * y) :: r).length : Int) by show ((r.length + 1 + 1 : Nat) : Int) - 1 = ((r.length + 1 : Nat) : Int); omega] at this
          exact this
        have ea : zIandZ (hb (y :: x :: r)) 1 = y := by
          show zIandZ (y + 2 * (x + 2 * hb r)) 1 = y
          rw [zA1 (by omega) (by omega)]
          omega
        rw [ea]
        have rh : zR32 (hb (y :: x :: r)) = true := zr (by show _ ≤ y + 2 * (x + 2 * hb r); omega) (by show y + 2 * (x + 2 * hb r) ≤ _; omega)
        refine zC_i (by first | assumption | decide | exact zr (by omega) (by omega) | exact zs (by omega) (by omega) | exact zd (by omega) (by omega)) ⟨fun c => zC_i rh (hnx _ _ _ (by show r.length + 1 ≤ 30; omega) w2 ?_), fun c => zC_i rh (hnx _ _ _ (by show r.length + 1 ≤ 30; omega) w2 ?_)⟩
        · have hy0 : y = 0 := by omega
          subst hy0
          show zIandZ ((0 + 2 * (x + 2 * hb r)) / 2 ^ 1) (-2) = x * 0 + 2 * hb r
          rw [show (0 + 2 * (x + 2 * hb r)) / 2 ^ 1 = x + 2 * hb r by omega, zAm2 (by omega) (by omega)]
          omega
        · have hy1 : y = 1 := by omega
          subst hy1
          show (1 + 2 * (x + 2 * hb r)) / 2 ^ 1 = x * 1 + 2 * hb r
          omega
    · have e := x12 h
      have w := w11 (.inr h)
      have eSe : eS t s st = eOr st := by unfold eS; rw [if_neg (by omega), if_neg (by omega), if_pos h]
      rw [e]
      refine zC_i (by first | assumption | decide | exact zr (by omega) (by omega) | exact zs (by omega) (by omega) | exact zd (by omega) (by omega)) (zC_i (by first | assumption | decide | exact zr (by omega) (by omega) | exact zs (by omega) (by omega) | exact zd (by omega) (by omega)) (zIfF (by omega) (zC_i (by first | assumption | decide | exact zr (by omega) (by omega) | exact zs (by omega) (by omega) | exact zd (by omega) (by omega)) (zIfF (by omega) (zC_i (by first | assumption | decide | exact zr (by omega) (by omega) | exact zs (by omega) (by omega) | exact zd (by omega) (by omega)) (zC_i (by decide) ⟨⟨fun q => absurd q (by decide), fun q => absurd q (by decide), fun _ => ?_, fun q => absurd q (by decide), trivial⟩, fun q => absurd q (by decide)⟩))))))
      rw [eSe] at hnx
      match st, w, hbr, h30, h01, hnx with
      | [], w, _, _, _, _ =>
        have := w.1
        exact absurd this (by decide)
      | [x], w, _, _, _, _ =>
        have w1 : (2 : Int) ≤ 1 := w.1
        omega
      | y :: x :: r, w, hbr, h30, h01, hnx =>
        have hy := h01 y List.mem_cons_self
        have hx := h01 x (List.mem_cons_of_mem _ List.mem_cons_self)
        have hbr : 0 ≤ y + 2 * (x + 2 * hb r) ∧ y + 2 * (x + 2 * hb r) < 1073741824 := hbr
        have h30 : r.length + 1 + 1 ≤ 30 := h30
        have w2 : wL cd ((fl (x + y > 0) :: r).length : Int) := by
          have := w.2
          rw [show (((y :: x :: r).length : Nat) : Int) - 1 = ((fl (x + y > 0) :: r).length : Int) by show ((r.length + 1 + 1 : Nat) : Int) - 1 = ((r.length + 1 : Nat) : Int); omega] at this
          exact this
        have ea : zIandZ (hb (y :: x :: r)) 1 = y := by
          show zIandZ (y + 2 * (x + 2 * hb r)) 1 = y
          rw [zA1 (by omega) (by omega)]
          omega
        rw [ea]
        have rh : zR32 (hb (y :: x :: r)) = true := zr (by show _ ≤ y + 2 * (x + 2 * hb r); omega) (by show y + 2 * (x + 2 * hb r) ≤ _; omega)
        refine zC_i rh (hnx _ _ _ (by show r.length + 1 ≤ 30; omega) w2 ?_)
        show zIorZ ((y + 2 * (x + 2 * hb r)) / 2 ^ 1) y = fl (x + y > 0) + 2 * hb r
        rw [show (y + 2 * (x + 2 * hb r)) / 2 ^ 1 = x + 2 * hb r by omega, zO1 (by omega) (by omega) hy, show (x + 2 * hb r) % 2 = x by omega, show (x + 2 * hb r) / 2 = hb r by omega]
        unfold fl
        omega
    · -- a fact
      obtain ⟨h, hp, hq, hsg, hn⟩ := h
      obtain ⟨e3, e4, e5, e4', e5', e6⟩ := x4 h.2
      have w := w4 h.2
      have hcb := cCnt_b (t := t) (w := s.1) (a := s.2.1) (b := s.2.2.1)
      have eSe : eS t s st = fl (eC (cCnt t s.1 s.2.1 s.2.2.1) s.2.2.2.1 s.2.2.2.2) :: st := by unfold eS; rw [if_neg (by omega), if_neg (by omega), if_neg (by omega)]
      rw [eSe] at hnx
      have r3 : 0 ≤ M (b + 3) c ∧ M (b + 3) c ≤ 14 ∧ M (b + 3) c / 3 = s.1 ∧ M (b + 3) c % 3 = (if s.2.2.2.1 < 0 then 0 else if 0 < s.2.2.2.1 then 1 else 2) := by
        rw [e3]
        rcases hsg with g | g | g <;> rw [g] <;> simp only [show ((-1 : Int) < 0) = True by simp, show ((0 : Int) < 0) = False by simp, show ((1 : Int) < 0) = False by simp, show ((0 : Int) < 1) = True by simp, if_true, if_false] <;> omega
      obtain ⟨r31, r32, r33, r34⟩ := r3
      have rf : zR32 (M (b + 4) c) = true := by
        by_cases g : 2 ≤ s.1
        · have := hp g; have := e4 g; exact zr (by omega) (by omega)
        · have := e4' (by omega); rw [this]; decide
      have rs : zR32 (M (b + 5) c) = true := by
        by_cases g : 3 ≤ s.1
        · have := hq g; have := e5 g; exact zr (by omega) (by omega)
        · have := e5' (by omega); rw [this]; decide
      simp only [a4, a5, a6, l4, l5, l6, zC_t]
      refine zC_i (by first | assumption | decide | exact zr (by omega) (by omega) | exact zs (by omega) (by omega) | exact zd (by omega) (by omega)) (zC_i (by first | assumption | decide | exact zr (by omega) (by omega) | exact zs (by omega) (by omega) | exact zd (by omega) (by omega)) (zIfF (by omega) (zC_i (by first | assumption | decide | exact zr (by omega) (by omega) | exact zs (by omega) (by omega) | exact zd (by omega) (by omega)) (zIfF (by omega) (zC_i (by first | assumption | decide | exact zr (by omega) (by omega) | exact zs (by omega) (by omega) | exact zd (by omega) (by omega)) (zC_i (by first | assumption | decide | exact zr (by omega) (by omega) | exact zs (by omega) (by omega) | exact zd (by omega) (by omega)) ⟨⟨fun q => by omega, fun q => by omega, fun q => by omega, fun q => by omega, trivial⟩, fun _ => ?_⟩))))))
      simp only [(xT_c ho).1, zC_t]
      refine zC_i (by first | assumption | decide | exact zr (by omega) (by omega) | exact zs (by omega) (by omega) | exact zd (by omega) (by omega)) (zC_i (by first | assumption | decide | exact zr (by omega) (by omega) | exact zs (by omega) (by omega) | exact zd (by omega) (by omega)) (zC_i (by first | assumption | decide | exact zr (by omega) (by omega) | exact zs (by omega) (by omega) | exact zd (by omega) (by omega)) (zC_i (by first | assumption | decide | exact zr (by omega) (by omega) | exact zs (by omega) (by omega) | exact zd (by omega) (by omega)) (zC_i (by first | assumption | decide | exact zr (by omega) (by omega) | exact zs (by omega) (by omega) | exact zd (by omega) (by omega)) ?_))))
      rw [r33]
      refine x_countOf ho ht hv h rf rs (fun g => by have := hp (by omega); have := e4 (by omega); omega) ?_
      rw [cCnt_w (a' := s.2.1) (b' := s.2.2.1) e4 e5 h]
      refine zC_i (by first | assumption | decide | exact zr (by omega) (by omega) | exact zs (by omega) (by omega) | exact zd (by omega) (by omega)) (zC_i (by first | assumption | decide | exact zr (by omega) (by omega) | exact zs (by omega) (by omega) | exact zd (by omega) (by omega)) (zC_i (by first | assumption | decide | exact zr (by omega) (by omega) | exact zs (by omega) (by omega) | exact zd (by omega) (by omega)) (zC_i (by first | assumption | decide | exact zr (by omega) (by omega) | exact zs (by omega) (by omega) | exact zd (by omega) (by omega)) ?_)))
      rw [r34, e6]
      refine x_compares (sg := s.2.2.2.1) (zr (by omega) (by omega)) (zr (by omega) (by omega)) hsg rfl ?_
      have fb := @fl_b (eC (cCnt t s.1 s.2.1 s.2.2.1) s.2.2.2.1 s.2.2.2.2) _
      have w2 : wL cd ((fl (eC (cCnt t s.1 s.2.1 s.2.2.1) s.2.2.2.1 s.2.2.2.2) :: st).length : Int) := by
        have := w.2
        rw [show (st.length : Int) + 1 = ((fl (eC (cCnt t s.1 s.2.1 s.2.2.1) s.2.2.2.1 s.2.2.2.2) :: st).length : Int) by show _ = ((st.length + 1 : Nat) : Int); omega] at this
        exact this
      refine zC_i (by first | assumption | decide | exact zr (by omega) (by omega) | exact zs (by omega) (by omega) | exact zd (by omega) (by omega)) ⟨fun q => hnx _ _ _ (by show st.length + 1 ≤ 30; omega) w2 ?_, fun q => hnx _ _ _ (by show st.length + 1 ≤ 30; omega) w2 ?_⟩
      · show zIorZ (hb st * 2 ^ 1) 0 = fl _ + 2 * hb st
        rw [zO1 (by omega) (by omega) (.inl rfl), if_neg (by omega), q]
        omega
      · show zIorZ (hb st * 2 ^ 1) 1 = fl _ + 2 * hb st
        rw [zO1 (by omega) (by omega) (.inr rfl), if_pos (by omega)]
        omega
