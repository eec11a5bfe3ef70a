/-! LAYER 3: the class's trees: adding nodes, copying -/
theorem x_addNode {d : Nat} {M : Mm} {K : Kt} {b : Nat} {n v w : Int} (hb : xT b) (hn : M b 1 = n) (h0 : 0 ≤ n ∧ n < 80)
    (hK : ∀ M', M' b 1 = n + 1 → (∀ i, i ≠ 1 → M' b i = M b i) → (∀ i, M' (b + 1) i = if i = n then v else M (b + 1) i) → (∀ i, M' (b + 2) i = if i = n then w else M (b + 2) i) → (∀ c, c ≠ b → c ≠ b + 1 → c ≠ b + 2 → M' c = M c) → K 0 M') : zSp (d + 1) 81 [.inr (.inr b), .inl v, .inl w] M K := by
  obtain ⟨o, ⟨a1, a2, a3, a4, a5, a6, a7⟩, l1, l2, l3, l4, l5, l6, l7⟩ := xT_c hb
  rw [me_81]
  simp only [o, a1, a2, l1, l2, zC_t, hn]
  simp (disch := omega) only [zUp_away, hn]
  refine zC_i (by first | assumption | decide | exact zr (by omega) (by omega) | exact zs (by omega) (by omega) | exact zd (by omega) (by omega)) ⟨fun c => ?_, fun c => ?_⟩
  · omega
  (repeat (refine zC_i (by first | assumption | decide | exact zr (by omega) (by omega) | exact zs (by omega) (by omega) | exact zd (by omega) (by omega)) ?_))
  refine hK _ ?_ ?_ ?_ ?_ ?_
  · rw [zUp_here]
  · intro i hi
    simp (disch := omega) only [zUp_hit, zUp_away, if_neg]
  · intro i
    simp (disch := omega) only [zUp_hit, zUp_away]
  · intro i
    simp (disch := omega) only [zUp_hit, zUp_away]
  · intro c c1 c2 c3
    simp only [zUp_away c1, zUp_away c2, zUp_away c3]
theorem x_addAll_l {d : Nat} {K : Kt} {b o : Nat} {x2 x3 : Int} (hb : xT b) (ho : xT o) (hne : o ≠ b) (h3 : 0 ≤ x2 ∧ x3 ≤ 80) : ∀ (m : Nat) (M : Mm) (x4 n : Int), x4 + m = x3 → x2 ≤ x4 → M b 1 = n → 0 ≤ n → n + m ≤ 80 →
    (∀ M', M' b 1 = n + m → (∀ i, i ≠ 1 → M' b i = M b i) → (∀ i, M' (b + 1) i = if n ≤ i ∧ i < n + m then M (o + 1) (x4 + (i - n)) else M (b + 1) i) → (∀ i, M' (b + 2) i = if n ≤ i ∧ i < n + m then M (o + 2) (x4 + (i - n)) else M (b + 2) i) → (∀ c, c ≠ b → c ≠ b + 1 → c ≠ b + 2 → M' c = M c) → K 0 M') →
    zWp (zSp (d + 1)) 82 K 3 [some (.inr (.inr b)), some (.inr (.inr o)), some (.inl x2), some (.inl x3), some (.inl x4)] [] M
  | 0, M, x4, n, h1, h2, hn, h0, hm, hK => by
    rw [fe_82_3]
    refine zC_i (by first | assumption | decide | exact zr (by omega) (by omega) | exact zs (by omega) (by omega) | exact zd (by omega) (by omega)) (zC_i (by first | assumption | decide | exact zr (by omega) (by omega) | exact zs (by omega) (by omega) | exact zd (by omega) (by omega)) ⟨fun _ => ?_, fun c => absurd (by omega) c⟩)
    exact hK M (by omega) (fun _ _ => rfl) (fun i => by rw [if_neg (by omega)]) (fun i => by rw [if_neg (by omega)]) (fun _ _ _ _ => rfl)
  | m + 1, M, x4, n, h1, h2, hn, h0, hm, hK => by
    obtain ⟨o', ⟨a1, a2, a3, a4, a5, a6, a7⟩, l1, l2, l3, l4, l5, l6, l7⟩ := xT_c ho
    have hb' := hb
    have ho' := ho
    unfold xT at hb' ho'
    rw [fe_82_3]
    simp only [o', (xT_c hb).1, a1, a2, l1, l2, zC_t]
    refine zC_i (by first | assumption | decide | exact zr (by omega) (by omega) | exact zs (by omega) (by omega) | exact zd (by omega) (by omega)) (zC_i (by first | assumption | decide | exact zr (by omega) (by omega) | exact zs (by omega) (by omega) | exact zd (by omega) (by omega)) ⟨fun c => ?_, fun c => ?_⟩)
    · omega
    (repeat (refine zC_i (by first | assumption | decide | exact zr (by omega) (by omega) | exact zs (by omega) (by omega) | exact zd (by omega) (by omega)) ?_))
    refine x_addNode hb hn (by omega) ?_
    intro M1 f1 f2 f3 f4 f5
    refine x_addAll_l hb ho hne h3 m M1 (x4 + 1) (n + 1) (by omega) (by omega) f1 (by omega) (by omega) ?_
    intro M2 g1 g2 g3 g4 g5
    have e1 : M1 (o + 1) = M (o + 1) := f5 (o + 1) (by omega) (by omega) (by omega)
    have e2 : M1 (o + 2) = M (o + 2) := f5 (o + 2) (by omega) (by omega) (by omega)
    refine hK M2 (by omega) (fun i hi => by rw [g2 i hi, f2 i hi]) ?_ ?_ (fun c c1 c2 c3 => by rw [g5 c c1 c2 c3, f5 c c1 c2 c3])
    · intro i
      rw [g3, e1, f3]
      by_cases c1 : i = n
      · rw [if_neg (by omega), if_pos c1, if_pos (by omega), c1, Int.sub_self, Int.add_zero]
      · by_cases c2 : n + 1 ≤ i ∧ i < n + 1 + m
        · rw [if_pos c2, if_pos (by omega), show x4 + 1 + (i - (n + 1)) = x4 + (i - n) by omega]
        · rw [if_neg c2, if_neg c1, if_neg (by omega)]
    · intro i
      rw [g4, e2, f4]
      by_cases c1 : i = n
      · rw [if_neg (by omega), if_pos c1, if_pos (by omega), c1, Int.sub_self, Int.add_zero]
      · by_cases c2 : n + 1 ≤ i ∧ i < n + 1 + m
        · rw [if_pos c2, if_pos (by omega), show x4 + 1 + (i - (n + 1)) = x4 + (i - n) by omega]
        · rw [if_neg c2, if_neg c1, if_neg (by omega)]
theorem x_addAll {d : Nat} {M : Mm} {K : Kt} {b o : Nat} {n p q : Int} (hb : xT b) (ho : xT o) (hne : o ≠ b) (hn : M b 1 = n) (h0 : 0 ≤ n) (hp : 0 ≤ p) (hpq : p ≤ q) (hq : q ≤ 80) (hs : n + (q - p) ≤ 80)
    (hK : ∀ M', M' b 1 = n + (q - p) → (∀ i, i ≠ 1 → M' b i = M b i) → (∀ i, M' (b + 1) i = if n ≤ i ∧ i < n + (q - p) then M (o + 1) (p + (i - n)) else M (b + 1) i) → (∀ i, M' (b + 2) i = if n ≤ i ∧ i < n + (q - p) then M (o + 2) (p + (i - n)) else M (b + 2) i) → (∀ c, c ≠ b → c ≠ b + 1 → c ≠ b + 2 → M' c = M c) → K 0 M') : zSp (d + 2) 82 [.inr (.inr b), .inr (.inr o), .inl p, .inl q] M K := by
  rw [me_82]
  have e : ((q - p).toNat : Int) = q - p := by omega
  refine x_addAll_l hb ho hne (by omega) (q - p).toNat M p n (by omega) (by omega) hn h0 (by omega) ?_
  rw [e]
  exact hK
/-- a tree, or none -/
def xTo (M : Mm) (b : Nat) : Option Tr → Prop
  | none => M b 1 = 0
  | some t => xTr M b t
theorem x_settle0 {d : Nat} {M : Mm} {K : Kt} {b : Nat} (hb : xT b) (ht : M b 1 = 0) (hK : K 0 (zUp M b 2 0)) : zSp (d + 1) 84 [.inr (.inr b)] M K := by
  rw [me_84]
  simp only [(xT_c hb).1, zC_t]
  rw [fe_84_7]
  simp only [(xT_c hb).1, zC_t, zUp_there (show (1 : Int) ≠ 2 by decide), ht]
  refine zC_i (by first | assumption | decide | exact zr (by omega) (by omega) | exact zs (by omega) (by omega) | exact zd (by omega) (by omega)) (zC_i (by first | assumption | decide | exact zr (by omega) (by omega) | exact zs (by omega) (by omega) | exact zd (by omega) (by omega)) ⟨fun c => ?_, fun c => absurd (by decide) c⟩)
  rw [fe_84_165]
  exact zC_i (by decide) ⟨fun _ => hK, fun c => absurd (by decide) c⟩
theorem x_copyFrom {d : Nat} {M : Mm} {K : Kt} {b o : Nat} {ot : Option Tr} (hb : xT b) (ho : xT o) (hne : o ≠ b) (ht : xTo M o ot)
    (hK : ∀ M', xTo M' b ot → (∀ c, c < b ∨ b + 8 ≤ c → M' c = M c) → K 0 M') : zSp (d + 3) 80 [.inr (.inr b), .inr (.inr o)] M K := by
  have hb' := hb
  have ho' := ho
  unfold xT at hb' ho'
  rw [me_80]
  simp only [(xT_c hb).1, (xT_c ho).1, zC_t]
  rw [me_79]
  simp only [(xT_c hb).1, (xT_c ho).1, zC_t]
  match ot, ht with
  | none, ht =>
    have ht : M o 1 = 0 := ht
    rw [zUp_away hne, ht]
    refine x_addAll hb ho hne (n := 0) (zUp_here) (by decide) (by decide) (by decide) (by decide) (by decide) ?_
    intro M1 f1 f2 f3 f4 f5
    refine x_settle0 hb (by omega) ?_
    refine hK _ (by show zUp M1 b 2 0 b 1 = 0; rw [zUp_there (by decide)]; omega) ?_
    intro c hc
    rw [zUp_away (by omega), f5 c (by omega) (by omega) (by omega), zUp_away (by omega)]
  | some t, ht =>
    obtain ⟨⟨t1, t2, t3, t4⟩, t5, t6⟩ := ht
    have q1 := tSz_pos t
    rw [zUp_away hne, t1]
    refine x_addAll hb ho hne (n := 0) (zUp_here) (by decide) (by decide) (by omega) t5 (by omega) ?_
    intro M1 f1 f2 f3 f4 f5
    rw [zUp_away (show o + 1 ≠ b by omega), zUp_away (show b + 1 ≠ b by omega)] at f3
    rw [zUp_away (show o + 2 ≠ b by omega), zUp_away (show b + 2 ≠ b by omega)] at f4
    refine x_settle hb (t := t) ⟨by omega, ?_, ?_, ?_⟩ t5 ?_
    · rw [f3, if_pos (by omega)]; exact t2
    · rw [f4, if_pos (by omega)]; exact t3
    · refine tAll_mono t 0 0 ?_ t4
      intro k u a q v c1 c2 c3 c4 c5 c6 hx
      have p1 := tSz_pos u
      rw [f3, f4, if_pos (by omega), if_pos (by omega), show 0 + (k - 0) = k by omega]
      exact hx
    · intro M2 g1 g2
      refine hK M2 g1 ?_
      intro c hc
      rw [g2 c hc, f5 c (by omega) (by omega) (by omega), zUp_away (by omega)]
