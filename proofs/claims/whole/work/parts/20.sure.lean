/-! LAYER 3: small things, and SURE -/
theorem zr {x : Int} (h1 : -2147483648 ≤ x) (h2 : x ≤ 2147483647) : zR32 x = true := zR32_iff.mpr ⟨h1, h2⟩
theorem zr64 {x : Int} (h1 : -9223372036854775808 ≤ x) (h2 : x ≤ 9223372036854775807) : zR64 x = true := zR64_iff.mpr ⟨h1, h2⟩
theorem zs {i n : Int} (h1 : 0 ≤ i) (h2 : i < n) : zSm i n = true := zSm_iff.mpr ⟨h1, h2⟩
theorem zd {i n : Int} (h1 : 0 ≤ i) (h2 : 0 < n) : zDv i n = true := zDv_iff.mpr ⟨h1, h2⟩
theorem zLcmp_lt {x y : Int} : zLcmp x y < 0 ↔ x < y := by
  unfold zLcmp
  split
  · omega
  · split <;> omega
theorem zLcmp_gt {x y : Int} : 0 < zLcmp x y ↔ y < x := by
  unfold zLcmp
  split
  · omega
  · split <;> omega
theorem zLcmp_eq {x y : Int} : zLcmp x y = 0 ↔ x = y := by
  unfold zLcmp
  split
  · omega
  · split <;> omega
theorem zLcmp_r {x y : Int} : zR32 (zLcmp x y) = true := by
  unfold zLcmp
  split
  · decide
  · split <;> decide
/-- the reference's isIn -/
theorem m_isIn {d : Nat} {v lo hi : Int} {M : Mm} {K : Kt} (h1 : zR64 v = true) (h2 : zR64 lo = true) (h3 : zR64 hi = true) (hK : K (if lo ≤ v ∧ v ≤ hi then 1 else 0) M) : zSp (d + 1) 137 [.inr (.inl v), .inr (.inl lo), .inr (.inl hi)] M K := by
  rw [me_137]
  refine zC_i h1 (zC_i h2 (zC_i zLcmp_r ⟨fun c1 => ?_, fun c1 => zC_i h1 (zC_i h3 (zC_i zLcmp_r ⟨fun c2 => ?_, fun c2 => ?_⟩))⟩))
  · rw [zLcmp_lt] at c1
    rwa [if_neg (by omega)] at hK
  · rw [zLcmp_lt] at c1; rw [zLcmp_gt] at c2
    rwa [if_neg (by omega)] at hK
  · rw [zLcmp_lt] at c1; rw [zLcmp_gt] at c2
    rwa [if_pos (by omega)] at hK
theorem zr_to64 {x : Int} (h : zR32 x = true) : zR64 x = true := by
  have := zR32_iff.mp h
  exact zr64 (by omega) (by omega)
theorem zr_to64' {x : Int} (h : zR32 x = true) : zR64 x = true := zr_to64 h
-- powers
def sPow (b : Int) : Nat → Int
  | 0 => 1
  | n + 1 => b * sPow b n
theorem x_pow_loop {d : Nat} {K : Kt} {M : Mm} {x0 x1 : Int} (h0 : zR32 x0 = true) (h1 : zR32 x1 = true) : ∀ (n : Nat) (x2 x4 : Int), x4 + n = x1 → 0 ≤ x4 → K (x2 * sPow x0 n) M → zWp (zSp d) 136 K 5 [some (.inl x0), some (.inl x1), some (.inr (.inl x2)), none, some (.inl x4)] [] M
  | 0, x2, x4, hn, hp, hK => by
    have h3 := zR32_iff.mp h1
    rw [fe_136_5]
    refine zC_i (zr (by omega) (by omega)) (zC_i h1 ⟨fun _ => ?_, fun c => absurd (by omega) c⟩)
    rw [show x2 * sPow x0 0 = x2 from Int.mul_one x2] at hK
    exact hK
  | n + 1, x2, x4, hn, hp, hK => by
    have h3 := zR32_iff.mp h1
    rw [fe_136_5]
    refine zC_i (zr (by omega) (by omega)) (zC_i h1 ⟨fun c => absurd c (by omega), fun _ => zC_i h0 ?_⟩)
    refine x_pow_loop h0 h1 n (x2 * x0) (x4 + 1) (by omega) (by omega) ?_
    rw [Int.mul_assoc]
    exact hK
theorem x_powerOf {d : Nat} {K : Kt} {M : Mm} {b n : Int} (hb : zR32 b = true) (hn : zR32 n = true) (h0 : 0 ≤ n) (hK : K (sPow b n.toNat) M) : zSp (d + 1) 136 [.inl b, .inl n] M K := by
  rw [me_136]
  exact x_pow_loop hb hn n.toNat 1 0 (by omega) (by omega) (by rw [Int.one_mul]; exact hK)
-- ways
def sWay (n : Int) : Nat → Int
  | 0 => 1
  | i + 1 => sWay n i * (n - i) / (i + 1)
theorem sWay_b : ∀ n : Nat, n < 10 → ∀ i : Nat, i < 11 → 0 ≤ sWay (n : Int) i ∧ sWay (n : Int) i ≤ 126 := by decide +kernel
theorem x_way_loop {d : Nat} {K : Kt} {M : Mm} {n : Nat} {x1 : Int} (hn : n < 10) (h1 : 0 ≤ x1) (h2 : x1 ≤ n) : ∀ (k i : Nat) (x4 : Int), x4 = (i : Int) → (i : Int) + k = x1 → K (sWay n x1.toNat) M → zWp (zSp d) 135 K 5 [some (.inl (n : Int)), some (.inl x1), some (.inr (.inl (sWay n i))), none, some (.inl x4)] [] M
  | 0, i, x4, hx4, hi, hK => by
    rw [fe_135_5]
    refine zC_i (zr (by omega) (by omega)) (zC_i (zr (by omega) (by omega)) ⟨fun _ => ?_, fun c => absurd (by omega) c⟩)
    rw [show i = x1.toNat by omega]
    exact hK
  | k + 1, i, x4, hx4, hi, hK => by
    have hb := sWay_b n hn i (by omega)
    have hnn : 0 ≤ (n : Int) - x4 := by omega
    have hp : 0 ≤ sWay n i * ((n : Int) - x4) := Int.mul_nonneg hb.1 hnn
    have hq : sWay n i * ((n : Int) - x4) ≤ 126 * 10 := Int.mul_le_mul hb.2 (by omega) hnn (by omega)
    have h64 : zR64 (sWay n i * ((n : Int) - x4)) = true := zr64 (Int.le_trans (by decide) hp) (Int.le_trans hq (by decide))
    rw [fe_135_5]
    refine zC_i (zr (by omega) (by omega)) (zC_i (zr (by omega) (by omega)) ⟨fun c => absurd c (by omega), fun _ => ?_⟩)
    have hi9 : i < 11 := by omega
    have g1 : zR32 (x4 + 1) = true := zr (by omega) (by omega)
    have g2 : zR64 (x4 + 1) = true := zr_to64' g1
    have g3 : zDv (sWay n i * ((n : Int) - x4)) (x4 + 1) = true := zd hp (by omega)
    refine zC_i (zr (by omega) (by omega)) ?_
    refine zC_i g1 ?_
    refine zC_i h64 ?_
    refine zC_i g2 ?_
    refine zC_i g3 ?_
    rw [show sWay n i * ((n : Int) - x4) / (x4 + 1) = sWay n (i + 1) by rw [hx4]; rfl]
    exact x_way_loop hn h1 h2 k (i + 1) (x4 + 1) (by omega) (by omega) hK
theorem x_waysOf {d : Nat} {K : Kt} {M : Mm} {n : Nat} {k : Int} (hn : n < 10) (h1 : 0 ≤ k) (h2 : k ≤ n) (hK : K (sWay n k.toNat) M) : zSp (d + 1) 135 [.inl (n : Int), .inl k] M K := by
  rw [me_135]
  exact x_way_loop hn h1 h2 k.toNat 0 0 rfl (by omega) hK
/-- the sum from shown = k on, t steps -/
def sSum (o : Int) (n : Nat) : Nat → Nat → Int
  | _, 0 => 0
  | k, t + 1 => sWay n k * sPow o k * sPow (100 - o) (n - k) + sSum o n (k + 1) t
def sSure (o : Int) (n : Nat) : Int := if n < 3 then sSum o n (n / 2 + 1) (n - n / 2) * 10000 else sSum o n (n / 2 + 1) (n - n / 2) / sPow 100 (n - 3)
theorem sSum_b : ∀ o : Nat, o < 101 → ∀ n : Nat, n < 10 → 0 ≤ sSum (o : Int) n (n / 2 + 1) (n - n / 2) ∧ sSum (o : Int) n (n / 2 + 1) (n - n / 2) ≤ 1000000000000000000 := by decide +kernel
theorem sPow_b : ∀ n : Nat, n < 7 → 1 ≤ sPow 100 n ∧ sPow 100 n ≤ 1000000000000 := by decide +kernel
theorem x_mil_loop {d : Nat} {K : Kt} {M : Mm} {o n : Nat} (ho : o < 101) (hn : n < 10) (hK : K (sSure o n) M) : ∀ (t k : Nat) (x2 : Int), k + t = n + 1 → 0 < k → x2 + sSum o n k t = sSum o n (n / 2 + 1) (n - n / 2) → zWp (zSp (d + 1)) 134 K 9 [some (.inl (o : Int)), some (.inl (n : Int)), some (.inr (.inl x2)), none, some (.inl (k : Int))] [] M
  | 0, k, x2, hk, hp, hs => by
    have hx2 : x2 = sSum o n (n / 2 + 1) (n - n / 2) := by rw [← hs]; exact (Int.add_zero x2).symm
    have hb := sSum_b o ho n hn
    rw [fe_134_9]
    refine zC_i (zr (by omega) (by omega)) (zC_i (zr (by omega) (by omega)) ⟨fun _ => zC_i (zr (by omega) (by omega)) ⟨fun c => ?_, fun c => ?_⟩, fun c => absurd (by omega) c⟩)
    · refine x_powerOf (by decide) (zr (by omega) (by omega)) (by omega) ?_
      have e1 : ((n : Int) - 3).toNat = n - 3 := by omega
      have hpb := sPow_b (n - 3) (by omega)
      rw [e1]
      refine zC_i (zr64 (by omega) (by omega)) (zC_i (zr64 (by omega) (by omega)) (zC_i (zd (by omega) (by omega)) ?_))
      unfold sSure at hK
      rw [if_neg (by omega)] at hK
      rw [hx2]
      exact hK
    · unfold sSure at hK
      rw [if_pos (by omega)] at hK
      rw [hx2]
      exact hK
  | t + 1, k, x2, hk, hp, hs => by
    rw [fe_134_9]
    refine zC_i (zr (by omega) (by omega)) (zC_i (zr (by omega) (by omega)) ⟨fun c => absurd c (by omega), fun _ => ?_⟩)
    refine x_waysOf hn (by omega) (by omega) ?_
    refine x_powerOf (zr (by omega) (by omega)) (zr (by omega) (by omega)) (by omega) ?_
    refine x_powerOf (zr (by omega) (by omega)) (zr (by omega) (by omega)) (by omega) ?_
    refine x_mil_loop ho hn hK t (k + 1) _ (by omega) (by omega) ?_
    rw [show ((k : Int)).toNat = k by omega, show ((n : Int) - (k : Int)).toNat = n - k by omega, Int.add_assoc]
    exact hs
theorem x_millionths {d : Nat} {K : Kt} {M : Mm} {o n : Nat} (ho : o < 101) (hn : n < 10) (hK : K (sSure o n) M) : zSp (d + 2) 134 [.inl (o : Int), .inl (n : Int)] M K := by
  rw [me_134]
  refine zC_i (zr (by omega) (by omega)) (zC_i (zd (by omega) (by omega)) ?_)
  exact x_mil_loop ho hn hK (n - n / 2) (n / 2 + 1) 0 (by omega) (by omega) (by rw [Int.zero_add])
-- the reference
def sWayM (n : Int) (v : Int) (i : Nat) : Nat → Int
  | 0 => v
  | t + 1 => sWayM n (v * (n - i) / (i + 1)) (i + 1) t
theorem m_way_loop1 {d : Nat} {K : Kt} {M : Mm} {o n : Nat} {x2 : Int} (hn : n < 10) (h1 : 0 ≤ x2) (h2 : x2 ≤ n)
    (hk : zWp (zSp d) 247 K 34 [some (.inl (o : Int)), some (.inl (n : Int)), some (.inl x2), some (.inr (.inl (sWay n x2.toNat))), none, some (.inl 0)] [] M) : ∀ (k i : Nat) (x4 : Int), x4 = (i : Int) → (i : Int) + k = x2 → zWp (zSp d) 247 K 5 [some (.inl (o : Int)), some (.inl (n : Int)), some (.inl x2), some (.inr (.inl (sWay n i))), none, some (.inl x4)] [] M
  | 0, i, x4, hx4, hi => by
    rw [fe_247_5]
    refine zC_i (zr (by omega) (by omega)) (zC_i (zr (by omega) (by omega)) ⟨fun _ => ?_, fun c => absurd (by omega) c⟩)
    rw [show i = x2.toNat by omega]
    exact hk
  | k + 1, i, x4, hx4, hi => by
    have hb := sWay_b n hn i (by omega)
    have hnn : 0 ≤ (n : Int) - x4 := by omega
    have hp : 0 ≤ sWay n i * ((n : Int) - x4) := Int.mul_nonneg hb.1 hnn
    have hq : sWay n i * ((n : Int) - x4) ≤ 126 * 10 := Int.mul_le_mul hb.2 (by omega) hnn (by omega)
    have h64 : zR64 (sWay n i * ((n : Int) - x4)) = true := zr64 (Int.le_trans (by decide) hp) (Int.le_trans hq (by decide))
    rw [fe_247_5]
    refine zC_i (zr (by omega) (by omega)) (zC_i (zr (by omega) (by omega)) ⟨fun c => absurd c (by omega), fun _ => ?_⟩)
    have hi9 : i < 11 := by omega
    have g1 : zR32 (x4 + 1) = true := zr (by omega) (by omega)
    have g2 : zR64 (x4 + 1) = true := zr_to64' g1
    have g3 : zDv (sWay n i * ((n : Int) - x4)) (x4 + 1) = true := zd hp (by omega)
    refine zC_i (zr (by omega) (by omega)) ?_
    refine zC_i g1 ?_
    refine zC_i h64 ?_
    refine zC_i g2 ?_
    refine zC_i g3 ?_
    rw [show sWay n i * ((n : Int) - x4) / (x4 + 1) = sWay n (i + 1) by rw [hx4]; rfl]
    exact m_way_loop1 hn h1 h2 hk k (i + 1) (x4 + 1) (by omega) (by omega)
/-- v times, from place i on, t times more: odds below k, else the rest -/
def sMul (o : Int) (k : Nat) : Nat → Nat → Int → Int
  | _, 0, v => v
  | i, t + 1, v => sMul o k (i + 1) t (v * (if i < k then o else 100 - o))
theorem m_way_loop2 {d : Nat} {K : Kt} {M : Mm} {o n k : Nat} (ho : o < 101) (hn : n < 10) (hkn : k ≤ n) : ∀ (t i : Nat) (x3 : Int), i + t = n → K (sMul o k i t x3) M → zWp (zSp d) 247 K 34 [some (.inl (o : Int)), some (.inl (n : Int)), some (.inl (k : Int)), some (.inr (.inl x3)), none, some (.inl (i : Int))] [] M
  | 0, i, x3, hi, hK => by
    rw [fe_247_34]
    exact zC_i (zr (by omega) (by omega)) (zC_i (zr (by omega) (by omega)) ⟨fun _ => hK, fun c => absurd (by omega) c⟩)
  | t + 1, i, x3, hi, hK => by
    rw [fe_247_34]
    have hK : K (sMul o k (i + 1) t (x3 * (if i < k then (o : Int) else 100 - (o : Int)))) M := hK
    refine zC_i (zr (by omega) (by omega)) (zC_i (zr (by omega) (by omega)) ⟨fun c => absurd c (by omega), fun _ => zC_i (zr (by omega) (by omega)) (zC_i (zr (by omega) (by omega)) ⟨fun c => zC_i (zr (by omega) (by omega)) ?_, fun c => zC_i (zr (by omega) (by omega)) ?_⟩)⟩)
    · rw [if_neg (by omega)] at hK
      exact m_way_loop2 ho hn hkn t (i + 1) _ (by omega) hK
    · rw [if_pos (by omega)] at hK
      exact m_way_loop2 ho hn hkn t (i + 1) _ (by omega) hK
theorem m_ways {d : Nat} {K : Kt} {M : Mm} {o n k : Nat} (ho : o < 101) (hn : n < 10) (hkn : k ≤ n) (hK : K (sMul o k 0 n (sWay n k)) M) : zSp (d + 1) 247 [.inl (o : Int), .inl (n : Int), .inl (k : Int)] M K := by
  rw [me_247]
  refine m_way_loop1 hn (by omega) (by omega) ?_ k 0 0 rfl (by omega)
  rw [show ((k : Int)).toNat = k by omega]
  exact m_way_loop2 ho hn hkn n 0 _ (by omega) hK
def sSumM (o : Int) (n : Nat) : Nat → Nat → Int
  | _, 0 => 0
  | k, t + 1 => sMul o k 0 n (sWay n k) + sSumM o n (k + 1) t
def sDiv (v : Int) : Nat → Int
  | 0 => v
  | t + 1 => sDiv (v / 100) t
def sSureM (o : Int) (n : Nat) : Int := if n = 1 then sSumM o n (n / 2 + 1) (n - n / 2) * 10000 else sDiv (sSumM o n (n / 2 + 1) (n - n / 2)) (n - 3)
theorem sSumM_b : ∀ o : Nat, o < 101 → ∀ n : Nat, n < 10 → 0 ≤ sSumM (o : Int) n (n / 2 + 1) (n - n / 2) ∧ sSumM (o : Int) n (n / 2 + 1) (n - n / 2) ≤ 1000000000000000000 := by decide +kernel
theorem m_div_loop {d : Nat} {K : Kt} {M : Mm} {o n : Nat} (hn : n < 10) : ∀ (t i : Nat) (x2 : Int), (i + t = n ∨ (t = 0 ∧ n ≤ i ∧ i < 10)) → 0 ≤ x2 → x2 ≤ 1000000000000000000 → K (sDiv x2 t) M → zWp (zSp d) 248 K 46 [some (.inl (o : Int)), some (.inl (n : Int)), some (.inr (.inl x2)), none, some (.inl (i : Int))] [] M
  | 0, i, x2, hi, h1, h2, hK => by
    rw [fe_248_46]
    exact zC_i (zr (by omega) (by omega)) (zC_i (zr (by omega) (by omega)) ⟨fun _ => hK, fun c => absurd (by omega) c⟩)
  | t + 1, i, x2, hi, h1, h2, hK => by
    rw [fe_248_46]
    refine zC_i (zr (by omega) (by omega)) (zC_i (zr (by omega) (by omega)) ⟨fun c => absurd c (by omega), fun _ => zC_i (zr64 (by omega) (by omega)) (zC_i (zd (by omega) (by omega)) ?_)⟩)
    exact m_div_loop hn t (i + 1) (x2 / 100) (by omega) (by omega) (by omega) hK
theorem m_sum_loop {d : Nat} {K : Kt} {M : Mm} {o n : Nat} (ho : o < 101) (hn : n < 10) (h0 : 0 < n) (hK : K (sSureM o n) M) : ∀ (t k : Nat) (x2 : Int), k + t = n + 1 → 0 < k → x2 + sSumM o n k t = sSumM o n (n / 2 + 1) (n - n / 2) → zWp (zSp (d + 1)) 248 K 9 [some (.inl (o : Int)), some (.inl (n : Int)), some (.inr (.inl x2)), none, some (.inl (k : Int))] [] M
  | 0, k, x2, hk, hp, hs => by
    have hx2 : x2 = sSumM o n (n / 2 + 1) (n - n / 2) := by rw [← hs]; exact (Int.add_zero x2).symm
    have hb := sSumM_b o ho n hn
    rw [fe_248_9]
    refine zC_i (zr (by omega) (by omega)) (zC_i (zr (by omega) (by omega)) ⟨fun _ => zC_i (zr (by omega) (by omega)) ⟨fun c => ?_, fun c => ?_⟩, fun c => absurd (by omega) c⟩)
    · unfold sSureM at hK
      rw [if_neg (by omega)] at hK
      rw [hx2]
      exact m_div_loop hn (n - 3) 3 _ (by omega) hb.1 hb.2 hK
    · unfold sSureM at hK
      rw [if_pos (by omega)] at hK
      rw [hx2]
      exact hK
  | t + 1, k, x2, hk, hp, hs => by
    rw [fe_248_9]
    refine zC_i (zr (by omega) (by omega)) (zC_i (zr (by omega) (by omega)) ⟨fun c => absurd c (by omega), fun _ => ?_⟩)
    refine m_ways ho hn (by omega) ?_
    refine m_sum_loop ho hn h0 hK t (k + 1) _ (by omega) (by omega) ?_
    rw [Int.add_assoc]
    exact hs
theorem m_sureOf {d : Nat} {K : Kt} {M : Mm} {o n : Nat} (ho : o < 101) (hn : n < 10) (h0 : 0 < n) (hK : K (sSureM o n) M) : zSp (d + 2) 248 [.inl (o : Int), .inl (n : Int)] M K := by
  rw [me_248]
  refine zC_i (zr (by omega) (by omega)) (zC_i (zd (by omega) (by omega)) ?_)
  exact m_sum_loop ho hn h0 hK (n - n / 2) (n / 2 + 1) 0 (by omega) (by omega) (by rw [Int.zero_add])
theorem sSure_eq : ∀ o : Nat, o < 101 → ∀ n : Nat, n < 10 → n % 2 = 1 → sSureM (o : Int) n = sSure (o : Int) n ∧ 0 ≤ sSure (o : Int) n ∧ sSure (o : Int) n ≤ 1000000 := by decide +kernel
