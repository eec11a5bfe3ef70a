/-! LAYER 3: trees that were tried: keys -/
abbrev Te : Type := Tr × Int × Int × Int
def kc (t : Tr) (i : Int) : Int := tNm (tSub t i) * 128 + tKd (tSub t i)
def pk (c : Int → Int) : Nat → Int → Int
  | 0, _ => 0
  | m + 1, j => if (m : Int) / 5 = j then pk c m j * 4096 + c m else pk c m j
def cn : Nat → Int → Nat
  | 0, _ => 0
  | m + 1, j => if (m : Int) / 5 = j then cn m j + 1 else cn m j
theorem cn_eq {j : Int} (hj : 0 ≤ j) : ∀ m : Nat, ((m : Int) ≤ 5 * j → cn m j = 0) ∧ (5 * j ≤ m → (m : Int) ≤ 5 * j + 5 → (cn m j : Int) = m - 5 * j) ∧ (5 * j + 5 ≤ m → cn m j = 5)
  | 0 => ⟨fun _ => rfl, fun h1 h2 => by show (0 : Int) = _; omega, fun h => by omega⟩
  | m + 1 => by
    have ih := cn_eq hj m
    unfold cn
    by_cases c : (m : Int) / 5 = j
    · rw [if_pos c]
      refine ⟨fun h => by omega, fun h1 h2 => ?_, fun h => ?_⟩
      · have := ih.2.1 (by omega) (by omega); omega
      · have := ih.2.1 (by omega) (by omega); omega
    · rw [if_neg c]
      refine ⟨fun h => ih.1 (by omega), fun h1 h2 => ?_, fun h => ?_⟩
      · by_cases c2 : (m : Int) ≤ 5 * j
        · have := ih.1 c2; omega
        · have := ih.2.2 (by omega); omega
      · exact ih.2.2 (by omega)
theorem pk_b {c : Int → Int} (hc : ∀ i, 0 ≤ i → 0 ≤ c i ∧ c i < 4096) (j : Int) : ∀ m : Nat, 0 ≤ pk c m j ∧ pk c m j < ((4096 ^ cn m j : Nat) : Int)
  | 0 => ⟨Int.le_refl 0, by show (0 : Int) < ((4096 ^ 0 : Nat) : Int); decide⟩
  | m + 1 => by
    have ih := pk_b hc j m
    have h := hc m (by omega)
    unfold pk cn
    by_cases e : (m : Int) / 5 = j
    · rw [if_pos e, if_pos e, Nat.pow_succ]
      omega
    · rw [if_neg e, if_neg e]
      exact ih
theorem cn_le {j : Int} (hj : 0 ≤ j) (m : Nat) : cn m j ≤ 5 := by
  have h := cn_eq hj m
  by_cases c1 : (m : Int) ≤ 5 * j
  · have := h.1 c1; omega
  · by_cases c2 : (m : Int) ≤ 5 * j + 5
    · have := h.2.1 (by omega) c2; omega
    · have := h.2.2 (by omega); omega
theorem pk_b60 {c : Int → Int} (hc : ∀ i, 0 ≤ i → 0 ≤ c i ∧ c i < 4096) {j : Int} (hj : 0 ≤ j) (m : Nat) : 0 ≤ pk c m j ∧ pk c m j < 1152921504606846976 := by
  have h := pk_b hc j m
  have h2 : (4096 : Nat) ^ cn m j ≤ 4096 ^ 5 := Nat.pow_le_pow_right (by decide) (cn_le hj m)
  have h3 : (4096 : Nat) ^ 5 = 1152921504606846976 := by decide
  omega
theorem pk_b48 {c : Int → Int} (hc : ∀ i, 0 ≤ i → 0 ≤ c i ∧ c i < 4096) {j : Int} (hj : 0 ≤ j) (m : Nat) (hm : (m : Int) / 5 = j) : 0 ≤ pk c m j ∧ pk c m j < 281474976710656 := by
  have h := pk_b hc j m
  have c4 : cn m j ≤ 4 := by
    have := (cn_eq hj m).2.1 (by omega) (by omega)
    omega
  have h2 : (4096 : Nat) ^ cn m j ≤ 4096 ^ 4 := Nat.pow_le_pow_right (by decide) c4
  have h3 : (4096 : Nat) ^ 4 = 281474976710656 := by decide
  omega
theorem pk_inj {c c' : Int → Int} (hc : ∀ i, 0 ≤ i → 0 ≤ c i ∧ c i < 4096) (hc' : ∀ i, 0 ≤ i → 0 ≤ c' i ∧ c' i < 4096) : ∀ n : Nat, n ≤ 80 → (∀ j, 0 ≤ j → j < 16 → pk c n j = pk c' n j) → ∀ i : Nat, i < n → c i = c' i
  | 0, _, _, i, hi => absurd hi (Nat.not_lt_zero i)
  | n + 1, hn, h, i, hi => by
    have e := h ((n : Int) / 5) (by omega) (by omega)
    have h1 := hc n (by omega)
    have h2 := hc' n (by omega)
    have e1 : pk c (n + 1) ((n : Int) / 5) = pk c n ((n : Int) / 5) * 4096 + c n := if_pos rfl
    have e2 : pk c' (n + 1) ((n : Int) / 5) = pk c' n ((n : Int) / 5) * 4096 + c' n := if_pos rfl
    rw [e1, e2] at e
    have ea : c n = c' n := by omega
    have eb : pk c n ((n : Int) / 5) = pk c' n ((n : Int) / 5) := by omega
    by_cases ci : i = n
    · rw [ci]; exact ea
    · refine pk_inj hc hc' n (by omega) (fun j j0 j1 => ?_) i (by omega)
      by_cases cj : (n : Int) / 5 = j
      · rw [← cj]; exact eb
      · have := h j j0 j1
        have e3 : pk c (n + 1) j = pk c n j := if_neg cj
        have e4 : pk c' (n + 1) j = pk c' n j := if_neg cj
        rw [e3, e4] at this
        exact this
theorem kc_b {t : Tr} (hv : tVal 24 t) (hz : tSz t ≤ 80) : ∀ i, 0 ≤ i → 0 ≤ kc t i ∧ kc t i < 4096 := by
  intro i h0
  have nb := tNm_b hv i
  have k0 := tKd_nn (tSub t i)
  have kl := tKd_lt (tSub t i)
  have sz : tSz (tSub t i) ≤ 80 := by
    have : ∀ (t : Tr) (k : Int), tSz (tSub t k) ≤ tSz t := by
      intro t
      induction t with
      | var n => exact fun _ => Int.le_refl _
      | op f s ihf ihs =>
        intro k
        have a := ihf k
        have b := ihs (k - tSz f)
        have p1 := tSz_pos f
        have p2 := tSz_pos s
        show tSz (if k = 0 then _ else if k < tSz f then _ else _) ≤ tSz f + tSz s
        split
        · exact Int.le_refl _
        · split <;> omega
    have := this t i
    omega
  unfold kc
  omega
/-- names and parts at all places tell the tree -/
theorem tEqP {t t' : Tr} (hz : tSz t = tSz t') (h : ∀ k, 0 ≤ k → k < tSz t → tNm (tSub t k) = tNm (tSub t' k) ∧ tKd (tSub t k) = tKd (tSub t' k)) : t = t' := by
  have q := tSz_pos t
  have h0 := h 0 (by omega) (by omega)
  rw [tSub_0, tSub_0] at h0
  refine tInjP (N := fun k => tNm (tSub t k)) (P := fun k => tKd (tSub t k)) t t' 0 0 0 (tAll_put fun k _ _ => ⟨rfl, rfl⟩) (tAll_put fun k c1 c2 => ?_) h0.1 h0.2
  have := h k (by omega) (by omega)
  exact this
theorem tEqS {t t' : Tr} (hz : tSz t = tSz t') (h : ∀ k, 0 ≤ k → k < tSz t → tNm (tSub t k) = tNm (tSub t' k) ∧ tSz (tSub t k) = tSz (tSub t' k)) : t = t' := by
  have q := tSz_pos t
  have h0 := h 0 (by omega) (by omega)
  rw [tSub_0, tSub_0] at h0
  have a1 : tAll (fun k u _ _ _ => tNm (tSub t k) = tNm u ∧ tSz (tSub t k) = tSz u) t 0 0 := tAll_put fun k _ _ => ⟨rfl, rfl⟩
  have a2 : tAll (fun k u _ _ _ => tNm (tSub t k) = tNm u ∧ tSz (tSub t k) = tSz u) t' 0 0 := tAll_put fun k c1 c2 => h k (by omega) (by omega)
  have c1 := tCh_of (S := fun k => tSz (tSub t k)) t 0 0 (tAll_mono t _ _ (fun _ _ _ _ _ _ _ _ _ _ _ h => h.2) a1)
  have c2 := tCh_of (S := fun k => tSz (tSub t k)) t' 0 0 (tAll_mono t' _ _ (fun _ _ _ _ _ _ _ _ _ _ _ h => h.2) a2)
  rw [← hz] at c2
  have c3 := tCh_uniq _ _ _ _ c1 c2
  have p1 := tKd_nn t
  have p2 := tKd_nn t'
  exact tInjS t t' 0 0 0 a1 a2 h0.1 (by omega)
def hs (c : Int → Int) (n : Int) : Nat → Int
  | 0 => n
  | m + 1 => hs c n m * 31 + c m
def tHs (t : Tr) : Int := zIandZ (zLxorZ (hs (kc t) (tSz t) (tSz t).toNat) (zLushrZ (hs (kc t) (tSz t) (tSz t).toNat) 16)) 1023
theorem x_fillL_l {d : Nat} {K : Kt} {v : Int} : ∀ (m : Nat) (M : Mm) (i : Int), i + m = 16 → 0 ≤ i → (∀ M', (∀ j, M' 146 j = if i ≤ j ∧ j < 16 then v else M 146 j) → (∀ c, c ≠ 146 → M' c = M c) → K 0 M') → zWp (zSp d) 263 K 6 [some (.inr (.inr 146)), some (.inr (.inl v)), none, some (.inl i), some (.inl 16)] [] M
  | 0, M, i, hi, h0, hK => by
    rw [fe_263_6]
    (repeat (first | (with_reducible refine zC_i ?hob ?_; case hob => first | assumption | decide | exact zr (by omega) (by omega) | exact zs (by omega) (by omega) | exact zd (by omega) (by omega)) | (with_reducible refine zIfT ?hob ?_; case hob => first | assumption | omega | decide) | (with_reducible refine zIfF ?hob ?_; case hob => first | assumption | omega | decide)))
    exact hK M (fun j => by rw [if_neg (by omega)]) (fun _ _ => rfl)
  | m + 1, M, i, hi, h0, hK => by
    rw [fe_263_6, show zLen 146 = 16 from rfl]
    (repeat (first | (with_reducible refine zC_i ?hob ?_; case hob => first | assumption | decide | exact zr (by omega) (by omega) | exact zs (by omega) (by omega) | exact zd (by omega) (by omega)) | (with_reducible refine zIfT ?hob ?_; case hob => first | assumption | omega | decide) | (with_reducible refine zIfF ?hob ?_; case hob => first | assumption | omega | decide)))
    refine x_fillL_l m _ (i + 1) (by omega) (by omega) ?_
    intro M' f1 f2
    refine hK M' (fun j => ?_) (fun c hc => by rw [f2 c hc, zUp_away hc])
    rw [f1, zUp_hit]
    by_cases c : j = i
    · rw [if_neg (by omega), if_pos c, if_pos (by omega)]
    · by_cases c2 : i + 1 ≤ j ∧ j < 16
      · rw [if_pos c2, if_pos (by omega)]
      · rw [if_neg c2, if_neg c, if_neg (by omega)]
theorem x_key_l {d : Nat} {K : Kt} {o : Nat} {t : Tr} (ho : xT o) (hv : tVal 24 t) (hz : tSz t ≤ 80) : ∀ (q : Nat) (M : Mm) (i : Nat) (x4 : Int) (u5 : Option Vl), i + q = (tSz t).toNat → x4 = i → xTr M o t → (∀ j, 0 ≤ j → j < 16 → M 146 j = pk (kc t) i j) →
    (∀ M', (∀ j, 0 ≤ j → j < 16 → M' 146 j = pk (kc t) (tSz t).toNat j) → (∀ c, c ≠ 146 → c ≠ 138 → M' c = M c) → (∀ j, j ≠ 9 → M' 138 j = M 138 j) → M' 138 9 = tHs t → K 0 M') →
    zWp (zSp d) 95 K 17 [some (.inr (.inr 138)), some (.inr (.inr o)), some (.inr (.inl (hs (kc t) (tSz t) i))), none, some (.inl x4), u5] [] M
  | 0, M, i, x4, u5, hi, hx4, ht, hk, hK => by
    have q1 := tSz_pos t
    have t1 := ht.1.1
    have ei : i = (tSz t).toNat := by omega
    subst ei
    rw [fe_95_17, t1]
    simp only [(xT_c ho).1, zC_t]
    (repeat (first | (with_reducible refine zC_i ?hob ?_; case hob => first | assumption | decide | exact zr (by omega) (by omega) | exact zs (by omega) (by omega) | exact zd (by omega) (by omega)) | (with_reducible refine zIfT ?hob ?_; case hob => first | assumption | omega | decide) | (with_reducible refine zIfF ?hob ?_; case hob => first | assumption | omega | decide)))
    refine hK _ (by rw [zUp_away (by decide)]; exact hk) (fun c c1 c2 => zUp_away c2) (fun j hj => zUp_there hj) (by rw [zUp_here]; rfl)
  | q + 1, M, i, x4, u5, hi, hx4, ht, hk, hK => by
    obtain ⟨o', ⟨a1, a2, a3, a4, a5, a6, a7⟩, l1, l2, l3, l4, l5, l6, l7⟩ := xT_c ho
    have ho' := ho
    unfold xT at ho'
    have q1 := tSz_pos t
    have t1 := ht.1.1
    have e := xTr_at ht (k := x4) (by omega) (by omega)
    have cb := kc_b hv hz
    have nb := tNm_b hv x4
    have k0 := tKd_nn (tSub t x4)
    have kl := tKd_lt (tSub t x4)
    have pb := tPl_b (t := t) (k := x4) (by omega) (by omega)
    have ec : zIorZ (tNm (tSub t x4) * 2 ^ 7) (tKd (tSub t x4)) = kc t x4 := by
      obtain ⟨a, ha⟩ := zNat nb.1
      obtain ⟨b, hb⟩ := zNat k0
      unfold kc
      rw [ha, hb]
      have := zOp (q := a) (b := b) (i := 7) (by omega) (by omega)
      rw [show ((2 ^ 7 * a : Nat) : Int) = (a : Int) * 2 ^ 7 by omega] at this
      rw [this]
      omega
    have cx := cb x4 (by omega)
    have cxi := cb i (by omega)
    have ekey := hk (x4 / 5) (by omega) (by omega)
    have pb48 := pk_b48 cb (j := x4 / 5) (by omega) i (by rw [hx4])
    have el : zLorZ (pk (kc t) i (x4 / 5) * 2 ^ 12) (kc t x4) = pk (kc t) i (x4 / 5) * 4096 + kc t x4 := by
      obtain ⟨a, ha⟩ := zNat pb48.1
      obtain ⟨b, hb⟩ := zNat cx.1
      rw [ha, hb]
      rw [ha] at pb48
      rw [hb] at cx
      have := zLp (q := a) (b := b) (i := 12) (by omega) (by omega)
      rw [show ((2 ^ 12 * a : Nat) : Int) = (a : Int) * 2 ^ 12 by omega] at this
      rw [this]
      omega
    rw [fe_95_17, t1]
    simp only [o', a1, a2, l1, l2, zC_t, e.1, e.2.1, ec, ekey, el]
    (repeat (first | (with_reducible refine zC_i ?hob ?_; case hob => first | assumption | decide | exact zr (by omega) (by omega) | exact zs (by omega) (by omega) | exact zd (by omega) (by omega)) | (with_reducible refine zIfT ?hob ?_; case hob => first | assumption | omega | decide) | (with_reducible refine zIfF ?hob ?_; case hob => first | assumption | omega | decide)))
    rw [show hs (kc t) (tSz t) i * 31 + kc t x4 = hs (kc t) (tSz t) (i + 1) by rw [hx4]; rfl]
    refine x_key_l ho hv hz q _ (i + 1) (x4 + 1) _ (by omega) (by omega) (xTr_fr ht fun c c1 c2 => zUp_away (by omega)) ?_ ?_
    · intro j j0 j1
      rw [zUp_hit]
      have e5 : pk (kc t) (i + 1) j = if (i : Int) / 5 = j then pk (kc t) i j * 4096 + kc t i else pk (kc t) i j := rfl
      rw [e5]
      by_cases cj : j = x4 / 5
      · rw [if_pos cj, if_pos (by rw [← hx4]; exact cj.symm), cj, hx4]
      · rw [if_neg cj, if_neg (by rw [← hx4]; exact fun h => cj h.symm), hk j j0 j1]
    · intro M' f1 f2 f3 f4
      exact hK M' f1 (fun c c1 c2 => by rw [f2 c c1 c2, zUp_away c1]) (fun j hj => by rw [f3 j hj, zUp_away (by decide)]) f4
theorem x_makeKey {d : Nat} {M : Mm} {K : Kt} {o : Nat} {t : Tr} (ho : xT o) (hv : tVal 24 t) (ht : xTr M o t) (hK : ∀ M', (∀ j, 0 ≤ j → j < 16 → M' 146 j = pk (kc t) (tSz t).toNat j) → (∀ c, c ≠ 146 → c ≠ 138 → M' c = M c) → (∀ j, j ≠ 9 → M' 138 j = M 138 j) → M' 138 9 = tHs t → K 0 M') : zSp (d + 2) 95 [.inr (.inr 138), .inr (.inr o)] M K := by
  have ho' := ho
  unfold xT at ho'
  have t1 := ht.1.1
  have t5 := ht.2.1
  have q1 := tSz_pos t
  rw [me_95, me_263, show (zArr 146 0 || zArr 146 1) = true from rfl, show zLen 146 = 16 from rfl]
  refine zC_i rfl ?_
  refine x_fillL_l 16 M 0 rfl (by omega) ?_
  intro M1 f1 f2
  rw [f2 o (by omega), t1]
  simp only [(xT_c ho).1, zC_t]
  (repeat (first | (with_reducible refine zC_i ?hob ?_; case hob => first | assumption | decide | exact zr (by omega) (by omega) | exact zs (by omega) (by omega) | exact zd (by omega) (by omega)) | (with_reducible refine zIfT ?hob ?_; case hob => first | assumption | omega | decide) | (with_reducible refine zIfF ?hob ?_; case hob => first | assumption | omega | decide)))
  refine x_key_l ho hv t5 (tSz t).toNat M1 0 0 _ (by omega) rfl (xTr_fr ht fun c c1 c2 => f2 c (by omega)) (fun j j0 j1 => by rw [f1, if_pos (by omega)]; rfl) ?_
  intro M' g1 g2 g3 g4
  exact hK M' g1 (fun c c1 c2 => by rw [g2 c c1 c2, f2 c c1]) (fun j hj => by rw [g3 j hj, f2 138 (by decide)]) g4
theorem x_hasKey_l {d : Nat} {M : Mm} {K : Kt} {a : Int} (ha : 0 ≤ a ∧ a < 600) (hr : ∀ j, 0 ≤ j → j < 16 → zR64 (M 143 (a * 16 + j)) = true ∧ zR64 (M 146 j) = true) (hK1 : (∀ j, 0 ≤ j → j < 16 → M 143 (a * 16 + j) = M 146 j) → K 1 M) (hK0 : (∃ j, 0 ≤ j ∧ j < 16 ∧ M 143 (a * 16 + j) ≠ M 146 j) → K 0 M) : ∀ (m : Nat) (i : Int), i + m = 16 → 0 ≤ i → (∀ j, 0 ≤ j → j < i → M 143 (a * 16 + j) = M 146 j) → zWp (zSp d) 96 K 2 [some (.inr (.inr 138)), some (.inl a), some (.inl i)] [] M
  | 0, i, hi, h0, h => by
    rw [fe_96_2]
    (repeat (first | (with_reducible refine zC_i ?hob ?_; case hob => first | assumption | decide | exact zr (by omega) (by omega) | exact zs (by omega) (by omega) | exact zd (by omega) (by omega)) | (with_reducible refine zIfT ?hob ?_; case hob => first | assumption | omega | decide) | (with_reducible refine zIfF ?hob ?_; case hob => first | assumption | omega | decide)))
    exact hK1 (fun j c1 c2 => h j c1 (by omega))
  | m + 1, i, hi, h0, h => by
    have r := hr i h0 (by omega)
    have r1 := r.1
    have r2 := r.2
    have zl := @zLcmp_r (M 143 (a * 16 + i)) (M 146 i)
    rw [fe_96_2]
    (repeat (first | (with_reducible refine zC_i ?hob ?_; case hob => first | assumption | decide | exact zr (by omega) (by omega) | exact zs (by omega) (by omega) | exact zd (by omega) (by omega)) | (with_reducible refine zIfT ?hob ?_; case hob => first | assumption | omega | decide) | (with_reducible refine zIfF ?hob ?_; case hob => first | assumption | omega | decide)))
    refine ⟨fun c => ?_, fun c => ?_⟩
    · rw [zLcmp_eq] at c
      refine x_hasKey_l ha hr hK1 hK0 m (i + 1) (by omega) (by omega) (fun j c1 c2 => ?_)
      by_cases cj : j = i
      · rw [cj]; exact c
      · exact h j c1 (by omega)
    · rw [zLcmp_eq] at c
      exact hK0 ⟨i, h0, by omega, c⟩
def te (L : List Te) (i : Nat) : Te := L.getD i (.var 0, 0, 0, 0)
def pv (L : List Te) : Nat → Int → Int
  | 0, _ => -1
  | n + 1, h => if tHs (te L n).1 = h then (n : Int) else pv L n h
theorem pv_b {L : List Te} {h : Int} : ∀ n : Nat, (pv L n h = -1 ∧ ∀ i : Nat, i < n → tHs (te L i).1 ≠ h) ∨ (∃ a : Nat, pv L n h = (a : Int) ∧ a < n ∧ tHs (te L a).1 = h ∧ ∀ i : Nat, a < i → i < n → tHs (te L i).1 ≠ h)
  | 0 => .inl ⟨rfl, fun i hi => absurd hi (Nat.not_lt_zero i)⟩
  | n + 1 => by
    unfold pv
    by_cases c : tHs (te L n).1 = h
    · rw [if_pos c]
      exact .inr ⟨n, rfl, by omega, c, fun i c1 c2 => by omega⟩
    · rw [if_neg c]
      rcases pv_b (L := L) (h := h) n with ⟨e, g⟩ | ⟨a, e, g1, g2, g3⟩
      · refine .inl ⟨e, fun i hi => ?_⟩
        by_cases ci : i = n
        · rw [ci]; exact c
        · exact g i (by omega)
      · refine .inr ⟨a, e, by omega, g2, fun i c1 c2 => ?_⟩
        by_cases ci : i = n
        · rw [ci]; exact c
        · exact g3 i c1 (by omega)
def xEn (M : Mm) (L : List Te) (i : Nat) : Prop := (tSz (te L i).1 ≤ 80 ∧ tVal 24 (te L i).1) ∧ M 139 i = tSz (te L i).1 ∧ M 140 i = (te L i).2.1 ∧ M 141 i = (te L i).2.2.1 ∧ M 142 i = (te L i).2.2.2 ∧ (∀ j, 0 ≤ j → j < 16 → M 143 ((i : Int) * 16 + j) = pk (kc (te L i).1) (tSz (te L i).1).toNat j) ∧ M 144 i = pv L i (tHs (te L i).1)
def xTd (M : Mm) (L : List Te) : Prop := M 138 0 = L.length ∧ L.length ≤ 600 ∧ (∀ i : Nat, i < L.length → xEn M L i) ∧ (∀ h, 0 ≤ h → h < 1024 → M 145 h = pv L L.length h)
/-- no tree twice -/
def tDist (L : List Te) : Prop := ∀ i j : Nat, i < j → j < L.length → (te L i).1 ≠ (te L j).1
theorem x_find_l {d : Nat} {M : Mm} {K : Kt} {o : Nat} {t : Tr} {L : List Te} (ho : xT o) (hv : tVal 24 t) (ht : xTr M o t) (hL : xTd M L) (hk : ∀ j, 0 ≤ j → j < 16 → M 146 j = pk (kc t) (tSz t).toNat j) (hK1 : (∀ i : Nat, i < L.length → (te L i).1 ≠ t) → K (-1) M) (hK2 : ∀ i : Nat, i < L.length → (te L i).1 = t → K i M) : ∀ (q m : Nat) (x3 : Int), m ≤ q → m ≤ L.length → 0 ≤ x3 → x3 + m ≤ 600 → (∀ i : Nat, m ≤ i → i < L.length → (te L i).1 ≠ t) → zWp (zSp (d + 1)) 93 K 17 [some (.inr (.inr 138)), some (.inr (.inr o)), some (.inl (pv L m (tHs t))), some (.inl x3)] [] M
  | 0, m, x3, hq, hm, h0, h6, hn => by
    have hm0 : m = 0 := by omega
    subst hm0
    have h := hK1 (fun i hi => hn i (by omega) hi)
    rw [show pv L 0 (tHs t) = -1 from rfl, fe_93_17]
    refine zC_i (by first | assumption | decide | exact zr (by omega) (by omega) | exact zs (by omega) (by omega) | exact zd (by omega) (by omega)) ⟨fun _ => h, fun c => zC_i (by decide) ⟨fun _ => h, fun c2 => absurd rfl c2⟩⟩
  | q + 1, m, x3, hq, hm, h0, h6, hn => by
    have t1 := ht.1.1
    have t5 := ht.2.1
    have q1 := tSz_pos t
    rcases pv_b (L := L) (h := tHs t) m with ⟨e, g⟩ | ⟨a, e, g1, g2, g3⟩
    · have h := hK1 (fun i hi => by
        by_cases c : i < m
        · intro e; exact g i c (by rw [e])
        · exact hn i (by omega) hi)
      rw [e, fe_93_17]
      refine zC_i (by first | assumption | decide | exact zr (by omega) (by omega) | exact zs (by omega) (by omega) | exact zd (by omega) (by omega)) ⟨fun _ => h, fun c => zC_i (by decide) ⟨fun _ => h, fun c2 => absurd rfl c2⟩⟩
    · obtain ⟨⟨z1, z2⟩, n1, n2, n3, n4, n5, n6⟩ := hL.2.2.1 a (by omega)
      have h600 := hL.2.1
      have cb1 := kc_b z2 z1
      have cb2 := kc_b hv t5
      have q2 := tSz_pos (te L a).1
      rw [g2] at n6
      have nx : ∀ i : Nat, a < i → i < L.length → (te L i).1 ≠ t := fun i c1 c2 => by
        by_cases c : i < m
        · intro e; exact g3 i c1 c (by rw [e])
        · exact hn i (by omega) c2
      have stepn : (te L a).1 ≠ t → zWp (zSp (d + 1)) 93 K 17 [some (.inr (.inr 138)), some (.inr (.inr o)), some (.inl (pv L a (tHs t))), some (.inl (x3 + 1))] [] M := fun hne =>
        x_find_l ho hv ht hL hk hK1 hK2 q a (x3 + 1) (by omega) (by omega) (by omega) (by omega) (fun i c1 c2 => by
          by_cases c : i = a
          · rw [c]; exact hne
          · exact nx i (by omega) c2)
      rw [e, fe_93_17, n1, t1, n6]
      simp only [(xT_c ho).1, zC_t]
      (repeat (first | (with_reducible refine zC_i ?hob ?_; case hob => first | assumption | decide | exact zr (by omega) (by omega) | exact zs (by omega) (by omega) | exact zd (by omega) (by omega)) | (with_reducible refine zIfT ?hob ?_; case hob => first | assumption | omega | decide) | (with_reducible refine zIfF ?hob ?_; case hob => first | assumption | omega | decide)))
      refine ⟨fun c => ?_, fun c => ?_⟩
      · (repeat (first | (with_reducible refine zC_i ?hob ?_; case hob => first | assumption | decide | exact zr (by omega) (by omega) | exact zs (by omega) (by omega) | exact zd (by omega) (by omega)) | (with_reducible refine zIfT ?hob ?_; case hob => first | assumption | omega | decide) | (with_reducible refine zIfF ?hob ?_; case hob => first | assumption | omega | decide)))
        exact stepn (fun e => c (by rw [e]))
      · rw [me_96]
        refine x_hasKey_l (by omega) (fun j j0 j1 => ?_) (fun hall => ?_) (fun hex => ?_) 16 0 rfl (by omega) (fun j c1 c2 => by omega)
        · rw [n5 j j0 j1, hk j j0 j1]
          have b1 := pk_b60 cb1 j0 (tSz (te L a).1).toNat
          have b2 := pk_b60 cb2 j0 (tSz t).toNat
          exact ⟨zr64 (by omega) (by omega), zr64 (by omega) (by omega)⟩
        · (repeat (first | (with_reducible refine zC_i ?hob ?_; case hob => first | assumption | decide | exact zr (by omega) (by omega) | exact zs (by omega) (by omega) | exact zd (by omega) (by omega)) | (with_reducible refine zIfT ?hob ?_; case hob => first | assumption | omega | decide) | (with_reducible refine zIfF ?hob ?_; case hob => first | assumption | omega | decide)))
          refine hK2 a (by omega) ?_
          have hz : tSz (te L a).1 = tSz t := by omega
          have ki := pk_inj cb1 cb2 (tSz (te L a).1).toNat (by omega) (fun j j0 j1 => by rw [← n5 j j0 j1, hall j j0 j1, hk j j0 j1, hz])
          refine tEqP hz (fun k k0 k1 => ?_)
          have e2 := ki k.toNat (by omega)
          rw [show ((k.toNat : Nat) : Int) = k by omega] at e2
          have a1 := tKd_nn (tSub (te L a).1 k)
          have a2 := tKd_lt (tSub (te L a).1 k)
          have a3 := tPl_b (t := (te L a).1) k0 k1
          have a4 := tKd_nn (tSub t k)
          have a5 := tKd_lt (tSub t k)
          have a6 := tPl_b (t := t) k0 (by omega)
          unfold kc at e2
          omega
        · (repeat (first | (with_reducible refine zC_i ?hob ?_; case hob => first | assumption | decide | exact zr (by omega) (by omega) | exact zs (by omega) (by omega) | exact zd (by omega) (by omega)) | (with_reducible refine zIfT ?hob ?_; case hob => first | assumption | omega | decide) | (with_reducible refine zIfF ?hob ?_; case hob => first | assumption | omega | decide)))
          rw [n6]
          refine stepn (fun e => ?_)
          obtain ⟨j, j0, j1, hj⟩ := hex
          exact hj (by rw [n5 j j0 j1, hk j j0 j1, e])
