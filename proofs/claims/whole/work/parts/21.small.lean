/-! LAYER 3: calls that look at numbers alone -/
def zThr (Inv : Mm → Prop) : Prop := ∀ (M : Mm) (x : Int), Inv M → Inv (zUp M 154 0 x)
theorem x_canVote {d : Nat} {M : Mm} {K : Kt} {n : Int} (h : zR32 n = true) (hK : K (if 1 ≤ n ∧ n ≤ 9 ∧ n % 2 = 1 then 1 else 0) M) : zSp (d + 1) 129 [.inl n] M K := by
  have hr := zR32_iff.mp h
  rw [me_129]
  refine zC_i h ⟨fun c => ?_, fun c => zC_i h ⟨fun c2 => ?_, fun c2 => zC_i h (zC_i (zd (by omega) (by omega)) (zC_i (zr (by omega) (by omega)) ⟨fun c3 => ?_, fun c3 => ?_⟩))⟩⟩
  · rwa [if_neg (by omega)] at hK
  · rwa [if_neg (by omega)] at hK
  · rwa [if_neg (by omega)] at hK
  · rwa [if_pos (by omega)] at hK
theorem x_areOdds {d : Nat} {M : Mm} {K : Kt} {n : Int} (h : zR32 n = true) (hK : K (if 0 ≤ n ∧ n ≤ 100 then 1 else 0) M) : zSp (d + 1) 130 [.inl n] M K := by
  rw [me_130]
  refine zC_i h ⟨fun c => ?_, fun c => zC_i h ⟨fun c2 => ?_, fun c2 => ?_⟩⟩
  · rwa [if_neg (by omega)] at hK
  · rwa [if_neg (by omega)] at hK
  · rwa [if_pos (by omega)] at hK
theorem zr01 {P : Prop} [Decidable P] : zR32 (if P then 1 else 0) = true := by
  split <;> decide
def aSure (a n : Int) : Int := if 0 ≤ a ∧ a ≤ 100 ∧ 1 ≤ n ∧ n ≤ 9 ∧ n % 2 = 1 then sSure (a.toNat : Int) n.toNat else -2
theorem x_sure {d : Nat} {M : Mm} {K : Kt} {a n : Int} (h1 : zR32 a = true) (h2 : zR32 n = true) (hK : K (aSure a n) M) : zSp (d + 3) 124 [.inr (.inr 0), .inl a, .inl n] M K := by
  unfold aSure at hK
  rw [me_124]
  refine x_areOdds h1 (zC_i zr01 ⟨fun c => ?_, fun c => ?_⟩)
  · have : ¬ (0 ≤ a ∧ a ≤ 100) := fun q => by rw [if_pos q] at c; omega
    rwa [if_neg (by omega)] at hK
  · have hp : 0 ≤ a ∧ a ≤ 100 := by
      by_cases q : 0 ≤ a ∧ a ≤ 100
      · exact q
      · rw [if_neg q] at c; omega
    refine x_canVote h2 (zC_i zr01 ⟨fun c2 => ?_, fun c2 => ?_⟩)
    · have : ¬ (1 ≤ n ∧ n ≤ 9 ∧ n % 2 = 1) := fun q => by rw [if_pos q] at c2; omega
      rwa [if_neg (by omega)] at hK
    · have hq : 1 ≤ n ∧ n ≤ 9 ∧ n % 2 = 1 := by
        by_cases q : 1 ≤ n ∧ n ≤ 9 ∧ n % 2 = 1
        · exact q
        · rw [if_neg q] at c2; omega
      rw [if_pos (by omega)] at hK
      have e1 : ((a.toNat : Nat) : Int) = a := by omega
      have e2 : ((n.toNat : Nat) : Int) = n := by omega
      have h3 := x_millionths (d := d) (K := K) (M := M) (o := a.toNat) (n := n.toNat) (by omega) (by omega) hK
      rw [e1, e2] at h3
      exact h3
theorem m_sure {d : Nat} {M : Mm} {K : Kt} {a n : Int} (h1 : zR32 a = true) (h2 : zR32 n = true) (hK : K (aSure a n) (zUp M 154 0 0)) : zSp (d + 3) 249 [.inr (.inr 154), .inl a, .inl n] M K := by
  have hr := zR32_iff.mp h2
  unfold aSure at hK
  rw [me_249]
  refine zC_i h1 (m_isIn (zr_to64 h1) (by decide) (by decide) (zC_i zr01 ⟨fun c => ?_, fun c => zC_i h2 (m_isIn (zr_to64 h2) (by decide) (by decide) (zC_i zr01 ⟨fun c2 => ?_, fun c2 => ?_⟩))⟩))
  · have : ¬ (0 ≤ a ∧ a ≤ 100) := fun q => by rw [if_pos q] at c; omega
    rwa [if_neg (by omega)] at hK
  · have : ¬ (1 ≤ n ∧ n ≤ 9) := fun q => by rw [if_pos q] at c2; omega
    rwa [if_neg (by omega)] at hK
  · have hp : 0 ≤ a ∧ a ≤ 100 := by
      by_cases q : 0 ≤ a ∧ a ≤ 100
      · exact q
      · rw [if_neg q] at c; omega
    have hq : 1 ≤ n ∧ n ≤ 9 := by
      by_cases q : 1 ≤ n ∧ n ≤ 9
      · exact q
      · rw [if_neg q] at c2; omega
    refine zC_i h2 (zC_i (zd (by omega) (by omega)) (zC_i (zr (by omega) (by omega)) ⟨fun c3 => ?_, fun c3 => ?_⟩))
    · rwa [if_neg (by omega)] at hK
    · rw [if_pos (by omega)] at hK
      have e1 : ((a.toNat : Nat) : Int) = a := by omega
      have e2 : ((n.toNat : Nat) : Int) = n := by omega
      have e3 := (sSure_eq a.toNat (by omega) n.toNat (by omega) (by omega)).1
      have h3 := m_sureOf (d := d) (K := K) (M := zUp M 154 0 0) (o := a.toNat) (n := n.toNat) (by omega) (by omega) (by omega) (by rw [e3]; exact hK)
      rw [e1, e2] at h3
      exact h3
theorem st_27 {Inv : Mm → Prop} (hT : zThr Inv) : zStep_27 Inv := by
  intro M hI a1 h1 a2 h2
  exact x_sure (d := 13) h1 h2 (m_sure (d := 13) h1 h2 ⟨rfl, hT M 0 hI⟩)
-- enough
def sEnough (o : Nat) (s : Int) : Nat → Nat → Int
  | _, 0 => -1
  | n, t + 1 => if sSure (o : Int) n < s then sEnough o s (n + 2) t else (n : Int)
theorem x_en_loop {d : Nat} {M : Mm} {K : Kt} {o : Nat} {s : Int} (ho : o < 101) (hs : 0 ≤ s ∧ s ≤ 1000000) : ∀ (t n : Nat), n + 2 * t = 11 → K (sEnough o s n t) M → zWp (zSp (d + 2)) 125 K 23 [some (.inr (.inr 0)), some (.inl (o : Int)), some (.inl s), some (.inl (n : Int))] [] M
  | 0, n, hn, hK => by
    rw [fe_125_23]
    exact zC_i (zr (by omega) (by omega)) ⟨fun _ => hK, fun c => absurd (by omega) c⟩
  | t + 1, n, hn, hK => by
    have hb := sSure_eq o ho n (by omega) (by omega)
    rw [fe_125_23]
    refine zC_i (zr (by omega) (by omega)) ⟨fun c => absurd c (by omega), fun _ => ?_⟩
    refine x_millionths ho (by omega) (zC_i (zr (by omega) (by omega)) (zC_i (zr (by omega) (by omega)) ⟨fun c => ?_, fun c => ?_⟩))
    · unfold sEnough at hK
      rw [if_pos c] at hK
      exact x_en_loop ho hs t (n + 2) (by omega) hK
    · unfold sEnough at hK
      rw [if_neg c] at hK
      exact hK
theorem m_en_loop {d : Nat} {M : Mm} {K : Kt} {o : Nat} {s : Int} (ho : o < 101) (hs : 0 ≤ s ∧ s ≤ 1000000) : ∀ (t n : Nat), n + 2 * t = 11 → K (sEnough o s n t) M → zWp (zSp (d + 2)) 250 K 34 [some (.inr (.inr 154)), some (.inl (o : Int)), some (.inl s), some (.inl (n : Int))] [] M
  | 0, n, hn, hK => by
    rw [fe_250_34]
    exact zC_i (zr (by omega) (by omega)) ⟨fun _ => hK, fun c => absurd (by omega) c⟩
  | t + 1, n, hn, hK => by
    have hb := sSure_eq o ho n (by omega) (by omega)
    rw [fe_250_34]
    refine zC_i (zr (by omega) (by omega)) ⟨fun c => absurd c (by omega), fun _ => ?_⟩
    refine m_sureOf ho (by omega) (by omega) ?_
    rw [hb.1]
    refine zC_i (zr (by omega) (by omega)) (zC_i (zr (by omega) (by omega)) ⟨fun c => ?_, fun c => ?_⟩)
    · unfold sEnough at hK
      rw [if_pos c] at hK
      exact m_en_loop ho hs t (n + 2) (by omega) hK
    · unfold sEnough at hK
      rw [if_neg c] at hK
      exact hK
def aEnough (a s : Int) : Int := if 0 ≤ a ∧ a ≤ 100 ∧ 0 ≤ s ∧ s ≤ 1000000 then sEnough a.toNat s 1 5 else -2
theorem x_enough {d : Nat} {M : Mm} {K : Kt} {a s : Int} (h1 : zR32 a = true) (h2 : zR32 s = true) (hK : K (aEnough a s) M) : zSp (d + 3) 125 [.inr (.inr 0), .inl a, .inl s] M K := by
  unfold aEnough at hK
  rw [me_125]
  refine x_areOdds h1 (zC_i zr01 ⟨fun c => ?_, fun c => zC_i h2 ⟨fun c2 => ?_, fun c2 => zC_i h2 ⟨fun c3 => ?_, fun c3 => ?_⟩⟩⟩)
  · have : ¬ (0 ≤ a ∧ a ≤ 100) := fun q => by rw [if_pos q] at c; omega
    rwa [if_neg (by omega)] at hK
  · rwa [if_neg (by omega)] at hK
  · have hp : 0 ≤ a ∧ a ≤ 100 := by
      by_cases q : 0 ≤ a ∧ a ≤ 100
      · exact q
      · rw [if_neg q] at c; omega
    rw [if_pos (by omega)] at hK
    have e1 : ((a.toNat : Nat) : Int) = a := by omega
    have h3 := x_en_loop (d := d) (M := M) (K := K) (o := a.toNat) (s := s) (by omega) (by omega) 5 1 rfl hK
    rw [e1] at h3
    exact h3
  · rwa [if_neg (by omega)] at hK
theorem m_enough {d : Nat} {M : Mm} {K : Kt} {a s : Int} (h1 : zR32 a = true) (h2 : zR32 s = true) (hK : K (aEnough a s) (zUp M 154 0 0)) : zSp (d + 3) 250 [.inr (.inr 154), .inl a, .inl s] M K := by
  unfold aEnough at hK
  rw [me_250]
  refine zC_i h1 (m_isIn (zr_to64 h1) (by decide) (by decide) (zC_i zr01 ⟨fun c => ?_, fun c => zC_i h2 (m_isIn (zr_to64 h2) (by decide) (by decide) (zC_i zr01 ⟨fun c2 => ?_, fun c2 => ?_⟩))⟩))
  · have : ¬ (0 ≤ a ∧ a ≤ 100) := fun q => by rw [if_pos q] at c; omega
    rwa [if_neg (by omega)] at hK
  · have hp : 0 ≤ a ∧ a ≤ 100 := by
      by_cases q : 0 ≤ a ∧ a ≤ 100
      · exact q
      · rw [if_neg q] at c; omega
    have hq : 0 ≤ s ∧ s ≤ 1000000 := by
      by_cases q : 0 ≤ s ∧ s ≤ 1000000
      · exact q
      · rw [if_neg q] at c2; omega
    rw [if_pos (by omega)] at hK
    have e1 : ((a.toNat : Nat) : Int) = a := by omega
    have h3 := m_en_loop (d := d) (M := zUp M 154 0 0) (K := K) (o := a.toNat) (s := s) (by omega) hq 5 1 rfl hK
    rw [e1] at h3
    exact h3
  · have : ¬ (0 ≤ s ∧ s ≤ 1000000) := fun q => by rw [if_pos q] at c2; omega
    rwa [if_neg (by omega)] at hK
theorem st_28 {Inv : Mm → Prop} (hT : zThr Inv) : zStep_28 Inv := by
  intro M hI a1 h1 a2 h2
  exact x_enough (d := 13) h1 h2 (m_enough (d := 13) h1 h2 ⟨rfl, hT M 0 hI⟩)
-- part
def aPart (a n i w : Int) : Int := if 1 ≤ a ∧ a ≤ 80 ∧ 1 ≤ n ∧ n ≤ a ∧ 0 ≤ i ∧ i < n then (if w = 0 then i * a / n else if w = 1 then (i + 1) * a / n - i * a / n else -1) else -1
theorem zmul80 {a i : Int} (h1 : 0 ≤ a) (h2 : a ≤ 80) (h3 : 0 ≤ i) (h4 : i ≤ 81) : 0 ≤ i * a ∧ i * a ≤ 6480 := ⟨Int.mul_nonneg h3 h1, Int.le_trans (Int.mul_le_mul h4 h2 h1 (by omega)) (by omega)⟩
theorem x_partStart {d : Nat} {M : Mm} {K : Kt} {a n i : Int} (h1 : 0 ≤ a ∧ a ≤ 80) (h2 : 1 ≤ n ∧ n ≤ 80) (h3 : 0 ≤ i ∧ i ≤ 81) (hK : K (i * a / n) M) : zSp (d + 1) 45 [.inl a, .inl n, .inl i] M K := by
  have hm := zmul80 h1.1 h1.2 h3.1 h3.2
  rw [me_45]
  exact zC_i (zr (by omega) (by omega)) ⟨fun _ => zC_i (zr (by omega) (by omega)) (zC_i (zr (by omega) (by omega)) (zC_i (zd (by omega) (by omega)) hK)), fun c => absurd (by omega) c⟩
theorem x_part {d : Nat} {M : Mm} {K : Kt} {a n i w : Int} (h1 : zR32 a = true) (h2 : zR32 n = true) (h3 : zR32 i = true) (h4 : zR32 w = true) (hK : K (aPart a n i w) M) : zSp (d + 2) 121 [.inr (.inr 0), .inl a, .inl n, .inl i, .inl w] M K := by
  unfold aPart at hK
  rw [me_121]
  refine zC_i h1 ⟨fun c => ?_, fun c1 => zC_i h1 ⟨fun c => ?_, fun c2 => zC_i h2 ⟨fun c => ?_, fun c3 => zC_i h2 (zC_i h1 ⟨fun c => ?_, fun c4 => zC_i h3 ⟨fun c => ?_, fun c5 => zC_i h3 (zC_i h2 ⟨fun c6 => ?_, fun c => ?_⟩)⟩⟩)⟩⟩⟩
  · rwa [if_neg (by omega)] at hK
  · rwa [if_neg (by omega)] at hK
  · rwa [if_neg (by omega)] at hK
  · rwa [if_neg (by omega)] at hK
  · rwa [if_neg (by omega)] at hK
  · rw [if_pos (by omega)] at hK
    refine x_partStart (by omega) (by omega) (by omega) (zC_i h4 ⟨fun c => zC_i h4 ⟨fun c7 => ?_, fun c7 => ?_⟩, fun c => ?_⟩)
    · rwa [if_neg c, if_neg c7] at hK
    · rw [if_neg c, if_pos (by omega)] at hK
      exact x_partStart (by omega) (by omega) (by omega) hK
    · rwa [if_pos (by omega)] at hK
  · rwa [if_neg (by omega)] at hK
theorem m_part {d : Nat} {M : Mm} {K : Kt} {a n i w : Int} (h1 : zR32 a = true) (h2 : zR32 n = true) (h3 : zR32 i = true) (h4 : zR32 w = true) (hK : K (aPart a n i w) (zUp M 154 0 0)) : zSp (d + 2) 242 [.inr (.inr 154), .inl a, .inl n, .inl i, .inl w] M K := by
  unfold aPart at hK
  rw [me_242]
  refine zC_i h1 (m_isIn (zr_to64 h1) (by decide) (by decide) (zC_i zr01 ⟨fun c => ?_, fun c1 => zC_i h2 (zC_i h1 (m_isIn (zr_to64 h2) (by decide) (zr_to64 h1) (zC_i zr01 ⟨fun c => ?_, fun c2 => ?_⟩)))⟩))
  · have : ¬ (1 ≤ a ∧ a ≤ 80) := fun q => by rw [if_pos q] at c; omega
    rwa [if_neg (by omega)] at hK
  · have : ¬ (1 ≤ n ∧ n ≤ a) := fun q => by rw [if_pos q] at c; omega
    rwa [if_neg (by omega)] at hK
  have ha : 1 ≤ a ∧ a ≤ 80 := by
    by_cases q : 1 ≤ a ∧ a ≤ 80
    · exact q
    · rw [if_neg q] at c1; omega
  have hn : 1 ≤ n ∧ n ≤ a := by
    by_cases q : 1 ≤ n ∧ n ≤ a
    · exact q
    · rw [if_neg q] at c2; omega
  refine zC_i h3 (zC_i (zr (by omega) (by omega)) (m_isIn (zr_to64 h3) (by decide) (zr64 (by omega) (by omega)) (zC_i zr01 ⟨fun c => ?_, fun c3 => ?_⟩)))
  · have : ¬ (0 ≤ i ∧ i ≤ n - 1) := fun q => by rw [if_pos q] at c; omega
    rwa [if_neg (by omega)] at hK
  have hi : 0 ≤ i ∧ i ≤ n - 1 := by
    by_cases q : 0 ≤ i ∧ i ≤ n - 1
    · exact q
    · rw [if_neg q] at c3; omega
  have hm1 := zmul80 (a := a) (i := i) (by omega) (by omega) (by omega) (by omega)
  have hm2 := zmul80 (a := a) (i := i + 1) (by omega) (by omega) (by omega) (by omega)
  rw [if_pos (by omega)] at hK
  refine zC_i h4 (m_isIn (zr_to64 h4) (by decide) (by decide) (zC_i zr01 ⟨fun c4 => ?_, fun c4 => ?_⟩))
  · have hw : 0 ≤ w ∧ w ≤ 1 := by
      by_cases q : 0 ≤ w ∧ w ≤ 1
      · exact q
      · rw [if_neg q] at c4; omega
    refine zC_i (zr (by omega) (by omega)) (zC_i h2 (zC_i (zd (by omega) (by omega)) (zC_i h4 ⟨fun c5 => zC_i (zr (by omega) (by omega)) (zC_i h2 (zC_i (zd (by omega) (by omega)) ?_)), fun c5 => ?_⟩)))
    · rwa [if_neg c5, if_pos (by omega)] at hK
    · rwa [if_pos (by omega)] at hK
  · have : ¬ (0 ≤ w ∧ w ≤ 1) := fun q => by rw [if_pos q] at c4; omega
    rwa [if_neg (by omega), if_neg (by omega)] at hK
theorem st_24 {Inv : Mm → Prop} (hT : zThr Inv) : zStep_24 Inv := by
  intro M hI a1 h1 a2 h2 a3 h3 a4 h4
  exact x_part (d := 14) h1 h2 h3 h4 (m_part (d := 14) h1 h2 h3 h4 ⟨rfl, hT M 0 hI⟩)
