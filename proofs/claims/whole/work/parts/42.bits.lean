/-! LAYER 3: which bugs hold -/
def eBs (t : Tr) : List Bg → Nat → Int → Int
  | [], _, a => a
  | b :: B, i, a => eBs t B (i + 1) (a + eB t b.2.2 * 2 ^ i)
theorem eL_head {t : Tr} {cd : List St5} (h1 : bits01 (eL t cd [])) (h2 : (eL t cd []).length = 1) : eL t cd [] = [eB t cd] ∧ (eB t cd = 0 ∨ eB t cd = 1) := by
  unfold eB
  match eL t cd [], h1, h2 with
  | [x], h1, h2 => exact ⟨rfl, h1 x List.mem_cons_self⟩
theorem zpow_nat (i : Nat) : ((2 ^ i : Nat) : Int) = (2 : Int) ^ i := by rw [Int.natCast_pow]; rfl
theorem zOr_bit {a x : Int} {i : Nat} (ha : 0 ≤ a ∧ a < 2 ^ i) (hi : i < 6) (hx : x = 0 ∨ x = 1) : zIorZ a (x * 2 ^ i) = a + x * 2 ^ i ∧ 0 ≤ a + x * 2 ^ i ∧ a + x * 2 ^ i < 2 ^ (i + 1) := by
  have hp : (2 : Nat) ^ i ≤ 2 ^ 5 := Nat.pow_le_pow_right (by decide) (by omega)
  have h32 : (2 : Nat) ^ 5 = 32 := rfl
  have e := zpow_nat i
  obtain ⟨n, rfl⟩ := zNat ha.1
  rw [Int.pow_succ]
  rcases hx with h | h <;> subst h
  · rw [Int.zero_mul, show (0 : Int) = ((0 : Nat) : Int) from rfl, zn_or (by omega) (by decide), Nat.or_zero]
    omega
  · rw [Int.one_mul, ← e]
    have := zOq (q := 1) (b := n) (i := i) (by omega) (by omega)
    rw [Nat.mul_one] at this
    rw [this]
    omega
theorem x_bf {d : Nat} {M : Mm} {K : Kt} {b o : Nat} {t : Tr} {L : Int} (hbb : xBb b) (ho : xT o) (ht : xTr M o t) (hv : tVal 24 t) (hL : L ≤ 24) (hl : M b 3 ≤ 333) : ∀ (B : List Bg) (i : Nat) (a c x3 : Int) (u6 u7 : Option Vl), xBs M b B i c → bOk L B → i + B.length ≤ 6 → (0 ≤ a ∧ a < 2 ^ i) → 0 ≤ c → c + bLen B = M b 3 → x3 = i → K (eBs t B i a) M → zWp (zSp (d + 1)) 6 K 10 [some (.inr (.inr b)), some (.inr (.inr o)), some (.inl a), some (.inl x3), some (.inl 0), some (.inl c), u6, u7] [] M
  | [], i, a, c, x3, u6, u7, hx, hB, hi, ha, hc, hc2, h3, hK => by
    have hx : M b 3 = c := hx
    rw [fe_6_10]
    simp only [(xBb_c hbb).1, zC_t]
    (repeat (first | (with_reducible refine zC_i ?hob ?_; case hob => first | assumption | decide | exact zr (by omega) (by omega) | exact zs (by omega) (by omega) | exact zd (by omega) (by omega)) | (with_reducible refine zIfT ?hob ?_; case hob => first | assumption | omega | decide) | (with_reducible refine zIfF ?hob ?_; case hob => first | assumption | omega | decide)))
    exact hK
  | (nm, od, cd) :: B, i, a, c, x3, u6, u7, hx, hB, hi, ha, hc, hc2, h3, hK => by
    obtain ⟨o', ⟨a1, a2, a3, a4, a5, a6⟩, l1, l2, l3, l4, l5, l6⟩ := xBb_c hbb
    obtain ⟨x1, x2, x4, x5, x6⟩ := hx
    obtain ⟨b1, b2, b3, b4⟩ := hB (nm, od, cd) List.mem_cons_self
    have hi : i + (B.length + 1) ≤ 6 := hi
    have hc2 : c + ((cd.length : Int) + 1 + bLen B) = M b 3 := hc2
    have bn := bLen_nn B
    refine x_ev hbb ho ht hv hL (by omega) hl cd [] c u6 u7 x4 b3 b4 (fun _ h => absurd h (by simp)) (by decide) hc (by omega) ?_
    intro u6 u7 g1 g2
    obtain ⟨eh, e01⟩ := eL_head g1 g2
    rw [eh]
    have ehb : hb [eB t cd] = eB t cd := by show eB t cd + 2 * 0 = _; omega
    rw [ehb, fe_6_10]
    simp only [o', a3, l3, zC_t, x5]
    have ea : zIandZ (eB t cd) 1 = eB t cd := by rw [zA1 (by omega) (by omega)]; omega
    rw [ea]
    refine zC_i (by first | assumption | decide | exact zr (by omega) (by omega) | exact zs (by omega) (by omega) | exact zd (by omega) (by omega)) (zC_i (by first | assumption | decide | exact zr (by omega) (by omega) | exact zs (by omega) (by omega) | exact zd (by omega) (by omega)) (zIfF (by omega) (zC_i (by first | assumption | decide | exact zr (by omega) (by omega) | exact zs (by omega) (by omega) | exact zd (by omega) (by omega)) (zIfF (by omega) (zC_i (by first | assumption | decide | exact zr (by omega) (by omega) | exact zs (by omega) (by omega) | exact zd (by omega) (by omega)) (zC_i (by decide) ⟨⟨fun q => absurd q (by decide), fun q => absurd q (by decide), fun q => absurd q (by decide), fun _ => ?_, trivial⟩, fun q => absurd q (by decide)⟩))))))
    refine zC_i (by first | assumption | decide | exact zr (by omega) (by omega) | exact zs (by omega) (by omega) | exact zd (by omega) (by omega)) ?_
    rw [h3, show ((i : Int)).toNat = i by omega]
    have ob := zOr_bit ha (by omega) e01
    rw [ob.1]
    exact x_bf hbb ho ht hv hL hl B (i + 1) _ _ _ _ _ x6 (fun x hx => hB x (List.mem_cons_of_mem _ hx)) (by omega) ob.2 (by omega) (by omega) (by omega) hK
theorem x_bitsFor {d : Nat} {M : Mm} {K : Kt} {o : Nat} {t : Tr} {B : List Bg} {L : Int} (ho : xT o) (ht : xTr M o t) (hv : tVal 24 t) (hL : L ≤ 24) (hx : xBs M 24 B 0 0) (hB : bOk L B) (h6 : B.length ≤ 6) (hl : bLen B ≤ 333) (hm : M 24 3 = bLen B) (hK : K (eBs t B 0 0) M) : zSp (d + 2) 6 [.inr (.inr 24), .inr (.inr o)] M K := by
  rw [me_6]
  exact x_bf (.inl rfl) ho ht hv hL (by omega) B 0 0 0 0 _ _ hx hB (by omega) (by decide) (by omega) (by omega) rfl hK
theorem xBs_len {M : Mm} {b : Nat} : ∀ (B : List Bg) (i c : Int), xBs M b B i c → M b 3 = c + bLen B
  | [], i, c, h => by
    have h : M b 3 = c := h
    show _ = c + 0
    omega
  | (nm, od, cd) :: B, i, c, h => by
    have := xBs_len B (i + 1) (c + cd.length + 1) h.2.2.2.2
    show _ = c + ((cd.length : Int) + 1 + bLen B)
    omega
-- the reference
def pR (M : Mm) : List Int → Prop
  | [] => True
  | x :: r => M 176 r.length = x ∧ pR M r
theorem pR_fr {M M' : Mm} : ∀ (st : List Int) (n : Int), pR M st → st.length ≤ n → (∀ i, 0 ≤ i → i < n → M' 176 i = M 176 i) → pR M' st
  | [], n, h, hn, f => trivial
  | x :: r, n, h, hn, f => by
    have hn : ((r.length + 1 : Nat) : Int) ≤ n := hn
    exact ⟨by rw [f _ (by omega) (by omega)]; exact h.1, pR_fr r n h.2 (by omega) f⟩
theorem m_isSo {d : Nat} {M : Mm} {K : Kt} {p c L : Int} {t : Tr} {s : St5} (hp : 0 ≤ p ∧ p + 161 ≤ 2093) (ht : mTr M p t) (hv : tVal 24 t) (hL : L ≤ 24) (hs : sV L s) (h4 : s.1 ≤ 4) (hc : 0 ≤ c ∧ c < 400) (hm : M 168 (5 * c) = s.1 ∧ M 168 (5 * c + 1) = s.2.1 ∧ M 168 (5 * c + 2) = s.2.2.1 ∧ M 168 (5 * c + 3) = s.2.2.2.1 ∧ M 168 (5 * c + 4) = s.2.2.2.2) (hK : ∀ M', (∀ c, c ≠ 189 → M' c = M c) → K (fl (eC (cCnt t s.1 s.2.1 s.2.2.1) s.2.2.2.1 s.2.2.2.2)) M') : zSp (d + 4) 204 [.inr (.inr 154), .inl p, .inl c] M K := by
  obtain ⟨m1, m2, m3, m4, m5⟩ := hm
  have t5 := ht.2
  have hs : (0 ≤ s.1 ∧ s.1 ≤ 4) ∧ (2 ≤ s.1 → 0 ≤ s.2.1 ∧ s.2.1 < L) ∧ (3 ≤ s.1 → 0 ≤ s.2.2.1 ∧ s.2.2.1 < L) ∧ (s.2.2.2.1 = -1 ∨ s.2.2.2.1 = 0 ∨ s.2.2.2.1 = 1) ∧ (0 ≤ s.2.2.2.2 ∧ s.2.2.2.2 ≤ 999 ∧ 0 ≤ s.2.1 ∧ s.2.1 ≤ 24 ∧ 0 ≤ s.2.2.1 ∧ s.2.2.1 ≤ 24) := by
    rcases hs with hs | hs
    · omega
    · exact hs
  obtain ⟨s1, s2, s3, s4, s5⟩ := hs
  have hcb := cCnt_b (t := t) (w := s.1) (a := s.2.1) (b := s.2.2.1)
  rw [me_204, m1, m2, m3]
  (repeat (first | (with_reducible refine zC_i ?hob ?_; case hob => first | assumption | decide | exact zr (by omega) (by omega) | exact zs (by omega) (by omega) | exact zd (by omega) (by omega)) | (with_reducible refine zIfT ?hob ?_; case hob => first | assumption | omega | decide) | (with_reducible refine zIfF ?hob ?_; case hob => first | assumption | omega | decide)))
  refine m_countOf hp ht hv s1 (zr (by omega) (by omega)) (zr (by omega) (by omega)) (fun _ => by omega) ?_
  intro M1 f1
  have hK := hK M1 f1
  rw [f1 168 (by decide), m4, m5]
  (repeat (first | (with_reducible refine zC_i ?hob ?_; case hob => first | assumption | decide | exact zr (by omega) (by omega) | exact zs (by omega) (by omega) | exact zd (by omega) (by omega)) | (with_reducible refine zIfT ?hob ?_; case hob => first | assumption | omega | decide) | (with_reducible refine zIfF ?hob ?_; case hob => first | assumption | omega | decide)))
  refine ⟨fun c1 => ?_, fun c1 => ?_⟩
  · (repeat (first | (with_reducible refine zC_i ?hob ?_; case hob => first | assumption | decide | exact zr (by omega) (by omega) | exact zs (by omega) (by omega) | exact zd (by omega) (by omega)) | (with_reducible refine zIfT ?hob ?_; case hob => first | assumption | omega | decide) | (with_reducible refine zIfF ?hob ?_; case hob => first | assumption | omega | decide)))
    refine ⟨fun c2 => ?_, fun c2 => ?_⟩
    · (repeat (first | (with_reducible refine zC_i ?hob ?_; case hob => first | assumption | decide | exact zr (by omega) (by omega) | exact zs (by omega) (by omega) | exact zd (by omega) (by omega)) | (with_reducible refine zIfT ?hob ?_; case hob => first | assumption | omega | decide) | (with_reducible refine zIfF ?hob ?_; case hob => first | assumption | omega | decide)))
      refine ⟨fun c3 => ?_, fun c3 => ?_⟩
      · rw [fl_f (by omega)] at hK; exact hK
      · rw [fl_t (by omega)] at hK; exact hK
    · (repeat (first | (with_reducible refine zC_i ?hob ?_; case hob => first | assumption | decide | exact zr (by omega) (by omega) | exact zs (by omega) (by omega) | exact zd (by omega) (by omega)) | (with_reducible refine zIfT ?hob ?_; case hob => first | assumption | omega | decide) | (with_reducible refine zIfF ?hob ?_; case hob => first | assumption | omega | decide)))
      refine ⟨fun c3 => ?_, fun c3 => ?_⟩
      · rw [fl_f (by omega)] at hK; exact hK
      · rw [fl_t (by omega)] at hK; exact hK
  · (repeat (first | (with_reducible refine zC_i ?hob ?_; case hob => first | assumption | decide | exact zr (by omega) (by omega) | exact zs (by omega) (by omega) | exact zd (by omega) (by omega)) | (with_reducible refine zIfT ?hob ?_; case hob => first | assumption | omega | decide) | (with_reducible refine zIfF ?hob ?_; case hob => first | assumption | omega | decide)))
    refine ⟨fun c3 => ?_, fun c3 => ?_⟩
    · rw [fl_f (by omega)] at hK; exact hK
    · rw [fl_t (by omega)] at hK; exact hK
theorem mCd_fr {M M' : Mm} (f : M' 168 = M 168) : ∀ (cd : List St5) (c : Int), mCd M cd c → mCd M' cd c
  | [], _, _ => trivial
  | s :: L, c, h => ⟨by rw [f]; exact h.1, mCd_fr f L (c + 1) h.2⟩
theorem m_ev {d : Nat} {K : Kt} {t : Tr} {p bg L e : Int} (hp : 0 ≤ p ∧ p + 161 ≤ 2093) (hv : tVal 24 t) (hL : L ≤ 24) (hbg : 0 ≤ bg ∧ bg < 6) (he : e ≤ 333) : ∀ (cd : List St5) (M : Mm) (st : List Int) (c x3 : Int) (u5 : Option Vl), mTr M p t → mCd M cd c → (∀ s ∈ cd, sV L s) → wL cd st.length → bits01 st → st.length ≤ 30 → 0 ≤ c → c + cd.length = e → M 170 (bg + 1) = e → pR M st → x3 = st.length →
    (∀ M' u5, (∀ c, c ≠ 176 → c ≠ 189 → M' c = M c) → pR M' (eL t cd st) → bits01 (eL t cd st) → (eL t cd st).length = 1 → zWp (zSp (d + 4)) 205 K 10 [some (.inr (.inr 154)), some (.inl bg), some (.inl p), some (.inl 1), some (.inl e), u5] [] M') →
    zWp (zSp (d + 4)) 205 K 10 [some (.inr (.inr 154)), some (.inl bg), some (.inl p), some (.inl x3), some (.inl c), u5] [] M
  | [], M, st, c, x3, u5, ht, hm, hs, hw, h01, h30, hc, hce, h170, hpr, h3, hK => by
    have hw : (st.length : Int) = 1 := hw
    have hce : c + 0 = e := hce
    have := hK M u5 (fun _ _ _ => rfl) hpr h01 (by show st.length = 1; omega)
    rw [show x3 = 1 by omega, show c = e by omega]
    exact this
  | s :: cd, M, st, c, x3, u5, ht, hm, hs, hw, h01, h30, hc, hce, h170, hpr, h3, hK => by
    obtain ⟨hm, hmr⟩ := hm
    have hsv := hs s List.mem_cons_self
    have hsr : ∀ s ∈ cd, sV L s := fun s h => hs s (List.mem_cons_of_mem _ h)
    have hce : c + ((cd.length + 1 : Nat) : Int) = e := hce
    have h01' := eS_01 (t := t) (s := s) h01
    obtain ⟨w10, w11, w4⟩ := hw
    have hnx : ∀ M1 u5 x3, (∀ c, c ≠ 176 → c ≠ 189 → M1 c = M c) → (eS t s st).length ≤ 30 → wL cd (eS t s st).length → pR M1 (eS t s st) → x3 = ((eS t s st).length : Int) → zWp (zSp (d + 4)) 205 K 10 [some (.inr (.inr 154)), some (.inl bg), some (.inl p), some (.inl x3), some (.inl (c + 1)), u5] [] M1 := by
      intro M1 u5 x3 f1 g1 g2 g3 g4
      refine m_ev hp hv hL hbg he cd M1 (eS t s st) (c + 1) x3 u5 (mTr_fr ht fun i _ _ => by rw [f1 165 (by decide) (by decide)]) (mCd_fr (f1 168 (by decide) (by decide)) _ _ hmr) hsr g2 h01' g1 (by omega) (by omega) (by rw [f1 170 (by decide) (by decide)]; exact h170) g3 g4 ?_
      intro M' u5 k1 k2 k3 k4
      exact hK M' u5 (fun c c1 c2 => by rw [k1 c c1 c2, f1 c c1 c2]) k2 k3 k4
    clear hK
    rw [fe_205_10, h170, hm.1]
    rcases hsv with (h | h | h) | h
    · have w := w10 h
      have eSe : eS t s st = eNot st := by unfold eS; rw [if_pos h]
      rw [eSe] at hnx
      rw [h]
      match st, w, h30, h01, hpr, h3, hnx with
      | [], w, _, _, _, _, _ =>
        have w1 : (1 : Int) ≤ 0 := w.1
        omega
      | x :: r, w, h30, h01, hpr, h3, hnx =>
        have h30 : r.length + 1 ≤ 30 := h30
        have h3 : x3 = ((r.length + 1 : Nat) : Int) := h3
        have hx := hpr.1
        have e1 : x3 - 1 = (r.length : Int) := by omega
        (repeat (first | (with_reducible refine zC_i ?hob ?_; case hob => first | assumption | decide | exact zr (by omega) (by omega) | exact zs (by omega) (by omega) | exact zd (by omega) (by omega)) | (with_reducible refine zIfT ?hob ?_; case hob => first | assumption | omega | decide) | (with_reducible refine zIfF ?hob ?_; case hob => first | assumption | omega | decide)))
        rw [e1, hx]
        refine hnx _ _ _ (fun c c1 c2 => zUp_away c1) h30 w.2 ⟨?_, pR_fr r r.length hpr.2 (Int.le_refl _) (fun i _ _ => zUp_there (by omega))⟩ h3
        rw [zUp_here]
    · have w := w11 (.inl h)
      have eSe : eS t s st = eAnd st := by unfold eS; rw [if_neg (by omega), if_pos h]
      rw [eSe] at hnx
      rw [h]
      match st, w, h30, h01, hpr, h3, hnx with
      | [], w, _, _, _, _, _ =>
        have w1 : (2 : Int) ≤ 0 := w.1
        omega
      | [x], w, _, _, _, _, _ =>
        have w1 : (2 : Int) ≤ 1 := w.1
        omega
      | y :: x :: r, w, h30, h01, hpr, h3, hnx =>
        have h30 : r.length + 1 + 1 ≤ 30 := h30
        have h3 : x3 = ((r.length + 1 + 1 : Nat) : Int) := h3
        have hy : M 176 ((r.length + 1 : Nat) : Int) = y := hpr.1
        have hx := hpr.2.1
        have e1 : x3 + -1 = ((r.length + 1 : Nat) : Int) := by omega
        have e2 : x3 + -1 - 1 = (r.length : Int) := by omega
        have w2 : wL cd (((x * y) :: r).length : Int) := by
          have := w.2
          rw [show (((y :: x :: r).length : Nat) : Int) - 1 = (((x * y) :: r).length : Int) by show ((r.length + 1 + 1 : Nat) : Int) - 1 = ((r.length + 1 : Nat) : Int); omega] at this
          exact this
        (repeat (first | (with_reducible refine zC_i ?hob ?_; case hob => first | assumption | decide | exact zr (by omega) (by omega) | exact zs (by omega) (by omega) | exact zd (by omega) (by omega)) | (with_reducible refine zIfT ?hob ?_; case hob => first | assumption | omega | decide) | (with_reducible refine zIfF ?hob ?_; case hob => first | assumption | omega | decide)))
        rw [e2, e1, hx, hy]
        refine hnx _ _ _ (fun c c1 c2 => zUp_away c1) (by show r.length + 1 ≤ 30; omega) w2 ⟨?_, pR_fr r r.length hpr.2.2 (Int.le_refl _) (fun i _ _ => zUp_there (by omega))⟩ rfl
        rw [zUp_here]
    · have w := w11 (.inr h)
      have eSe : eS t s st = eOr st := by unfold eS; rw [if_neg (by omega), if_neg (by omega), if_pos h]
      rw [eSe] at hnx
      rw [h]
      match st, w, h30, h01, hpr, h3, hnx with
      | [], w, _, _, _, _, _ =>
        have w1 : (2 : Int) ≤ 0 := w.1
        omega
      | [x], w, _, _, _, _, _ =>
        have w1 : (2 : Int) ≤ 1 := w.1
        omega
      | y :: x :: r, w, h30, h01, hpr, h3, hnx =>
        have h30 : r.length + 1 + 1 ≤ 30 := h30
        have h3 : x3 = ((r.length + 1 + 1 : Nat) : Int) := h3
        have hy : M 176 ((r.length + 1 : Nat) : Int) = y := hpr.1
        have hx := hpr.2.1
        have hy1 := h01 y List.mem_cons_self
        have hx1 := h01 x (List.mem_cons_of_mem _ List.mem_cons_self)
        have e1 : x3 + -1 = ((r.length + 1 : Nat) : Int) := by omega
        have e2 : x3 + -1 - 1 = (r.length : Int) := by omega
        have w2 : wL cd ((fl (x + y > 0) :: r).length : Int) := by
          have := w.2
          rw [show (((y :: x :: r).length : Nat) : Int) - 1 = ((fl (x + y > 0) :: r).length : Int) by show ((r.length + 1 + 1 : Nat) : Int) - 1 = ((r.length + 1 : Nat) : Int); omega] at this
          exact this
        rw [e2, e1, hx, hy]
        (repeat (first | (with_reducible refine zC_i ?hob ?_; case hob => first | assumption | decide | exact zr (by omega) (by omega) | exact zs (by omega) (by omega) | exact zd (by omega) (by omega)) | (with_reducible refine zIfT ?hob ?_; case hob => first | assumption | omega | decide) | (with_reducible refine zIfF ?hob ?_; case hob => first | assumption | omega | decide)))
        have fin : ∀ y2, y2 = fl (x + y > 0) → zWp (zSp (d + 4)) 205 K 127 [some (.inr (.inr 154)), some (.inl bg), some (.inl p), some (.inl ((r.length + 1 : Nat) : Int)), some (.inl c), some (.inl 12)] [.inl y2, .inl (r.length : Int), .inr (.inr 176)] M := by
          intro y2 hy2
          rw [fe_205_127]
          refine m_flag (by rw [hy2]; exact fl_b) ?_
          (repeat (first | (with_reducible refine zC_i ?hob ?_; case hob => first | assumption | decide | exact zr (by omega) (by omega) | exact zs (by omega) (by omega) | exact zd (by omega) (by omega)) | (with_reducible refine zIfT ?hob ?_; case hob => first | assumption | omega | decide) | (with_reducible refine zIfF ?hob ?_; case hob => first | assumption | omega | decide)))
          refine hnx _ _ _ (fun c c1 c2 => zUp_away c1) (by show r.length + 1 ≤ 30; omega) w2 ⟨?_, pR_fr r r.length hpr.2.2 (Int.le_refl _) (fun i _ _ => zUp_there (by omega))⟩ rfl
          rw [zUp_here]; exact hy2
        refine ⟨fun q => fin 0 (fl_f (by omega)).symm, fun q => fin 1 (fl_t (by omega)).symm⟩
    · have h4 := h.1.2
      have w := w4 h4
      have eSe : eS t s st = fl (eC (cCnt t s.1 s.2.1 s.2.2.1) s.2.2.2.1 s.2.2.2.2) :: st := by unfold eS; rw [if_neg (by omega), if_neg (by omega), if_neg (by omega)]
      rw [eSe] at hnx
      have w2 : wL cd ((fl (eC (cCnt t s.1 s.2.1 s.2.2.1) s.2.2.2.1 s.2.2.2.2) :: st).length : Int) := by
        have := w.2
        rw [show (st.length : Int) + 1 = ((fl (eC (cCnt t s.1 s.2.1 s.2.2.1) s.2.2.2.1 s.2.2.2.2) :: st).length : Int) by show _ = ((st.length + 1 : Nat) : Int); omega] at this
        exact this
      have h14 := h.1
      (repeat (first | (with_reducible refine zC_i ?hob ?_; case hob => first | assumption | decide | exact zr (by omega) (by omega) | exact zs (by omega) (by omega) | exact zd (by omega) (by omega)) | (with_reducible refine zIfT ?hob ?_; case hob => first | assumption | omega | decide) | (with_reducible refine zIfF ?hob ?_; case hob => first | assumption | omega | decide)))
      refine m_isSo hp ht hv hL (.inr h) h4 (by omega) hm ?_
      intro M1 f1
      refine m_flag fl_b ?_
      refine zC_i (by first | assumption | decide | exact zr (by omega) (by omega) | exact zs (by omega) (by omega) | exact zd (by omega) (by omega)) ?_
      refine hnx _ _ _ (fun c c1 c2 => by rw [zUp_away c1, f1 c c2]) (by show st.length + 1 ≤ 30; omega) w2 ⟨?_, pR_fr st st.length hpr (Int.le_refl _) (fun i _ _ => by rw [zUp_there (by omega), f1 176 (by decide)])⟩ (by show _ = ((st.length + 1 : Nat) : Int); omega)
      rw [h3, zUp_here]
theorem m_holds {d : Nat} {M : Mm} {K : Kt} {t : Tr} {p bg L c : Int} {cd : List St5} (hp : 0 ≤ p ∧ p + 161 ≤ 2093) (ht : mTr M p t) (hv : tVal 24 t) (hL : L ≤ 24) (hbg : 0 ≤ bg ∧ bg < 6) (hc : 0 ≤ c ∧ c + cd.length ≤ 333) (h1 : M 170 bg = c) (h2 : M 170 (bg + 1) = c + cd.length) (hm : mCd M cd c) (hs : ∀ s ∈ cd, sV L s) (hw : wL cd 0) (hK : ∀ M', (∀ c, c ≠ 176 → c ≠ 189 → M' c = M c) → (eB t cd = 0 ∨ eB t cd = 1) → K (eB t cd) M') : zSp (d + 5) 205 [.inr (.inr 154), .inl bg, .inl p] M K := by
  rw [me_205, h1]
  refine zC_i (by first | assumption | decide | exact zr (by omega) (by omega) | exact zs (by omega) (by omega) | exact zd (by omega) (by omega)) ?_
  refine m_ev hp hv hL hbg (by omega) cd M [] c 0 _ ht hm hs hw (fun _ h => absurd h (by simp)) (by decide) hc.1 rfl h2 trivial rfl ?_
  intro M' u5 f1 f2 f3 f4
  obtain ⟨eh, e01⟩ := eL_head f3 f4
  rw [eh] at f2
  have e0 : M' 176 0 = eB t cd := f2.1
  rw [fe_205_10, f1 170 (by decide) (by decide), h2, e0]
  (repeat (first | (with_reducible refine zC_i ?hob ?_; case hob => first | assumption | decide | exact zr (by omega) (by omega) | exact zs (by omega) (by omega) | exact zd (by omega) (by omega)) | (with_reducible refine zIfT ?hob ?_; case hob => first | assumption | omega | decide) | (with_reducible refine zIfF ?hob ?_; case hob => first | assumption | omega | decide)))
  have hK := hK M' f1 e01
  refine ⟨fun q => ?_, fun q => ?_⟩
  · rw [show eB t cd = 0 by omega] at hK; exact hK
  · rw [show eB t cd = 1 by omega] at hK; exact hK
theorem mBs_fr {M M' : Mm} (f1 : M' 168 = M 168) (f2 : M' 170 = M 170) (f3 : M' 172 = M 172) (f4 : M' 174 = M 174) : ∀ (B : List Bg) (i c : Int), mBs M B i c → mBs M' B i c
  | [], i, c, h => by
    show M' 170 i = c
    rw [f2]; exact h
  | (nm, od, cd) :: B, i, c, h => by
    obtain ⟨h1, h2, h3, h4, h5⟩ := h
    exact ⟨by rw [f2]; exact h1, by rw [f4]; exact h2, by rw [f3]; exact h3, mCd_fr f1 _ _ h4, mBs_fr f1 f2 f3 f4 B _ _ h5⟩
theorem mBs_0 {M : Mm} : ∀ (B : List Bg) (i c : Int), mBs M B i c → M 170 i = c
  | [], i, c, h => h
  | (nm, od, cd) :: B, i, c, h => h.1
theorem m_ho {d : Nat} {K : Kt} {t : Tr} {p L n : Int} (hp : 0 ≤ p ∧ p + 161 ≤ 2093) (hv : tVal 24 t) (hL : L ≤ 24) (hn6 : n ≤ 6) : ∀ (B : List Bg) (M : Mm) (i : Nat) (a c x3 : Int), mTr M p t → M 154 37 = n → mBs M B i c → bOk L B → i + B.length = n → (0 ≤ a ∧ a < 2 ^ i) → 0 ≤ c → c + bLen B ≤ 333 → x3 = i → (∀ M', (∀ c, c ≠ 176 → c ≠ 189 → M' c = M c) → K (eBs t B i a) M') → zWp (zSp (d + 5)) 206 K 4 [some (.inr (.inr 154)), some (.inl p), some (.inl a), some (.inl x3)] [] M
  | [], M, i, a, c, x3, ht, hn, hm, hB, hi, ha, hc, hc2, h3, hK => by
    have hi : (i : Int) + 0 = n := hi
    rw [fe_206_4, hn]
    (repeat (first | (with_reducible refine zC_i ?hob ?_; case hob => first | assumption | decide | exact zr (by omega) (by omega) | exact zs (by omega) (by omega) | exact zd (by omega) (by omega)) | (with_reducible refine zIfT ?hob ?_; case hob => first | assumption | omega | decide) | (with_reducible refine zIfF ?hob ?_; case hob => first | assumption | omega | decide)))
    exact hK M (fun _ _ _ => rfl)
  | (nm, od, cd) :: B, M, i, a, c, x3, ht, hn, hm, hB, hi, ha, hc, hc2, h3, hK => by
    obtain ⟨m1, m2, m3, m4, m5⟩ := hm
    obtain ⟨b1, b2, b3, b4⟩ := hB (nm, od, cd) List.mem_cons_self
    have hi : (i : Int) + ((B.length + 1 : Nat) : Int) = n := hi
    have hc2 : c + ((cd.length : Int) + 1 + bLen B) ≤ 333 := hc2
    have bn := bLen_nn B
    rw [fe_206_4, hn]
    (repeat (first | (with_reducible refine zC_i ?hob ?_; case hob => first | assumption | decide | exact zr (by omega) (by omega) | exact zs (by omega) (by omega) | exact zd (by omega) (by omega)) | (with_reducible refine zIfT ?hob ?_; case hob => first | assumption | omega | decide) | (with_reducible refine zIfF ?hob ?_; case hob => first | assumption | omega | decide)))
    rw [h3]
    refine m_holds hp ht hv hL (by omega) (by omega) m1 (mBs_0 _ _ _ m5) m4 b3 b4 ?_
    intro M1 f1 e01
    have nx : ∀ (a' x3 : Int), a' = a + eB t cd * 2 ^ i → x3 = (i : Int) + 1 → (0 ≤ a' ∧ a' < 2 ^ (i + 1)) → zWp (zSp (d + 5)) 206 K 4 [some (.inr (.inr 154)), some (.inl p), some (.inl a'), some (.inl x3)] [] M1 := by
      intro a' x3 ha' hx3 hab
      subst ha'
      refine m_ho hp hv hL hn6 B M1 (i + 1) _ (c + cd.length) x3 (mTr_fr ht fun i _ _ => by rw [f1 165 (by decide) (by decide)]) (by rw [f1 154 (by decide) (by decide)]; exact hn) (mBs_fr (f1 168 (by decide) (by decide)) (f1 170 (by decide) (by decide)) (f1 172 (by decide) (by decide)) (f1 174 (by decide) (by decide)) _ _ _ m5) (fun x hx => hB x (List.mem_cons_of_mem _ hx)) (by omega) hab (by omega) (by omega) (by omega) ?_
      intro M' g
      exact hK M' (fun c c1 c2 => by rw [g c c1 c2, f1 c c1 c2])
    have ob := zOr_bit ha (by omega) e01
    have o1 := zOr_bit ha (by omega) (.inr rfl : (1 : Int) = 0 ∨ (1 : Int) = 1)
    rw [← h3]
    rcases e01 with e | e
    · rw [e] at nx ob ⊢
      (repeat (first | (with_reducible refine zC_i ?hob ?_; case hob => first | assumption | decide | exact zr (by omega) (by omega) | exact zs (by omega) (by omega) | exact zd (by omega) (by omega)) | (with_reducible refine zIfT ?hob ?_; case hob => first | assumption | omega | decide) | (with_reducible refine zIfF ?hob ?_; case hob => first | assumption | omega | decide)))
      exact nx a (x3 + 1) (by omega) (by omega) (by rw [Int.zero_mul, Int.add_zero] at ob; exact ob.2)
    · rw [e] at nx ob ⊢
      (repeat (first | (with_reducible refine zC_i ?hob ?_; case hob => first | assumption | decide | exact zr (by omega) (by omega) | exact zs (by omega) (by omega) | exact zd (by omega) (by omega)) | (with_reducible refine zIfT ?hob ?_; case hob => first | assumption | omega | decide) | (with_reducible refine zIfF ?hob ?_; case hob => first | assumption | omega | decide)))
      rw [h3, show ((i : Int)).toNat = i by omega, o1.1]
      exact nx _ _ rfl rfl ob.2
theorem m_holdingOf {d : Nat} {M : Mm} {K : Kt} {t : Tr} {B : List Bg} {p L : Int} (hp : 0 ≤ p ∧ p + 161 ≤ 2093) (ht : mTr M p t) (hv : tVal 24 t) (hL : L ≤ 24) (hn : M 154 37 = B.length) (h6 : B.length ≤ 6) (hm : mBs M B 0 0) (hB : bOk L B) (hl : bLen B ≤ 333) (hK : ∀ M', (∀ c, c ≠ 176 → c ≠ 189 → M' c = M c) → K (eBs t B 0 0) M') : zSp (d + 6) 206 [.inr (.inr 154), .inl p] M K := by
  rw [me_206]
  exact m_ho hp hv hL (n := B.length) (by omega) B M 0 0 0 0 ht hn hm hB (by omega) (by decide) (by omega) (by omega) rfl hK
