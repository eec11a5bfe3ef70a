/-! LAYER 3: what stands next on the tape -/
def ru (f : Int → Bool) : Nat → Int → Int
  | 0, p => p
  | m + 1, p => if f p then ru f m (p + 1) else p
def rq (f : Int → Bool) (n p : Int) : Int := ru f (n - p).toNat p
theorem rq_end {f : Int → Bool} {n p : Int} (h : n ≤ p) : rq f n p = p := by
  unfold rq
  rw [show (n - p).toNat = 0 by omega]
  rfl
theorem rq_on {f : Int → Bool} {n p : Int} (h : p < n) (hf : f p = true) : rq f n p = rq f n (p + 1) := by
  unfold rq
  rw [show (n - p).toNat = (n - (p + 1)).toNat + 1 by omega]
  show (if f p then ru f (n - (p + 1)).toNat (p + 1) else p) = _
  rw [if_pos hf]
theorem rq_off {f : Int → Bool} {n p : Int} (hf : f p = false) : rq f n p = p := by
  unfold rq
  match (n - p).toNat with
  | 0 => rfl
  | m + 1 =>
    show (if f p then ru f m (p + 1) else p) = p
    rw [hf]
    rfl
theorem ru_spec {f : Int → Bool} : ∀ (m : Nat) (p : Int), p ≤ ru f m p ∧ ru f m p ≤ p + m ∧ (∀ i, p ≤ i → i < ru f m p → f i = true) ∧ (ru f m p < p + m → f (ru f m p) = false)
  | 0, p => ⟨Int.le_refl p, by show p ≤ p + 0; omega, fun i h1 h2 => by have h2 : i < p := h2; omega, fun h => by have h : p < p + 0 := h; omega⟩
  | m + 1, p => by
    by_cases c : f p = true
    · have e : ru f (m + 1) p = ru f m (p + 1) := by
        show (if f p then ru f m (p + 1) else p) = _
        rw [if_pos c]
      have ih := ru_spec (f := f) m (p + 1)
      rw [e]
      refine ⟨by omega, by omega, fun i h1 h2 => ?_, fun h => ih.2.2.2 (by omega)⟩
      by_cases ci : i = p
      · rw [ci]; exact c
      · exact ih.2.2.1 i (by omega) h2
    · have e : ru f (m + 1) p = p := by
        show (if f p then ru f m (p + 1) else p) = _
        rw [if_neg c]
      rw [e]
      exact ⟨Int.le_refl p, by omega, fun i h1 h2 => by omega, fun _ => by simpa using c⟩
theorem rq_spec {f : Int → Bool} {n p : Int} (h : p ≤ n) : p ≤ rq f n p ∧ rq f n p ≤ n ∧ (∀ i, p ≤ i → i < rq f n p → f i = true) ∧ (rq f n p < n → f (rq f n p) = false) := by
  have := ru_spec (f := f) (n - p).toNat p
  unfold rq
  refine ⟨this.1, by omega, this.2.2.1, fun h => this.2.2.2 (by omega)⟩
theorem rq_mid {f : Int → Bool} {n p a : Int} (h1 : p ≤ a) (h2 : a ≤ rq f n p) (hp : p ≤ n) : rq f n a = rq f n p := by
  have s := rq_spec (f := f) hp
  have gen : ∀ (m : Nat) (x : Int), x + m = a → p ≤ x → rq f n x = rq f n a := by
    intro m
    induction m with
    | zero => intro x hx _; rw [show x = a by omega]
    | succ m ih =>
      intro x hx hpx
      rw [rq_on (by omega) (s.2.2.1 x hpx (by omega))]
      exact ih (x + 1) (by omega) (by omega)
  exact (gen (a - p).toNat p (by omega) (Int.le_refl p)).symm
def cW (T : Int → Int) (i : Int) : Bool := decide (T i = 32 ∨ T i = 10)
def cL (T : Int → Int) (i : Int) : Bool := decide (97 ≤ T i ∧ T i ≤ 122)
def cD (T : Int → Int) (i : Int) : Bool := decide (48 ≤ T i ∧ T i ≤ 57)
theorem cW_t {T : Int → Int} {i : Int} : cW T i = true ↔ (T i = 32 ∨ T i = 10) := by unfold cW; exact decide_eq_true_iff
theorem cL_t {T : Int → Int} {i : Int} : cL T i = true ↔ (97 ≤ T i ∧ T i ≤ 122) := by unfold cL; exact decide_eq_true_iff
theorem cD_t {T : Int → Int} {i : Int} : cD T i = true ↔ (48 ≤ T i ∧ T i ≤ 57) := by unfold cD; exact decide_eq_true_iff
theorem cW_f {T : Int → Int} {i : Int} : cW T i = false ↔ ¬ (T i = 32 ∨ T i = 10) := by unfold cW; exact decide_eq_false_iff_not
theorem cL_f {T : Int → Int} {i : Int} : cL T i = false ↔ ¬ (97 ≤ T i ∧ T i ≤ 122) := by unfold cL; exact decide_eq_false_iff_not
theorem cD_f {T : Int → Int} {i : Int} : cD T i = false ↔ ¬ (48 ≤ T i ∧ T i ≤ 57) := by unfold cD; exact decide_eq_false_iff_not
/-- the number of a word's first k letters, of a number's first k digits -/
def wv (T : Int → Int) (x : Int) : Nat → Int
  | 0 => 0
  | k + 1 => 32 * wv T x k + (T (x + k) - 96)
def nv (T : Int → Int) (x : Int) : Nat → Int
  | 0 => 0
  | k + 1 => nv T x k * 10 + T (x + k) - 48
def wV (T : Int → Int) (x : Int) (k : Nat) : Int := wv T x k * 32 ^ (6 - k)
def tQ (T : Int → Int) (n p : Int) : Int := rq (cW T) n p
def tEn (T : Int → Int) (n p : Int) : Int := if n ≤ tQ T n p then tQ T n p else if cL T (tQ T n p) then rq (cL T) n (tQ T n p) else if cD T (tQ T n p) then rq (cD T) n (tQ T n p) else tQ T n p + 1
def tKi (T : Int → Int) (n p : Int) (w : Bool) : Int := if n ≤ tQ T n p then 0 else if cL T (tQ T n p) then (if (w = true ∧ tQ T n p ≤ p) ∨ 6 < rq (cL T) n (tQ T n p) - tQ T n p then 4 else 1) else if cD T (tQ T n p) then (if (w = true ∧ tQ T n p ≤ p) ∨ 3 < rq (cD T) n (tQ T n p) - tQ T n p then 4 else 2) else 3
def tVa (T : Int → Int) (n p : Int) : Int := if cL T (tQ T n p) then wV T (tQ T n p) (rq (cL T) n (tQ T n p) - tQ T n p).toNat else if cD T (tQ T n p) then nv T (tQ T n p) (rq (cD T) n (tQ T n p) - tQ T n p).toNat else T (tQ T n p)
theorem tQ_s {T : Int → Int} {n p : Int} (h : p ≤ n) : p ≤ tQ T n p ∧ tQ T n p ≤ n := by
  have := rq_spec (f := cW T) h
  exact ⟨this.1, this.2.1⟩
theorem tEn_s {T : Int → Int} {n p : Int} (h : p ≤ n) : tQ T n p ≤ tEn T n p ∧ tEn T n p ≤ n ∧ (tQ T n p < n → tQ T n p < tEn T n p) := by
  have q := tQ_s (T := T) h
  unfold tEn
  split
  · omega
  · split
    · rename_i c1 c2
      have s := rq_spec (f := cL T) (show tQ T n p ≤ n by omega)
      have e := rq_on (f := cL T) (show tQ T n p < n by omega) c2
      have s2 := rq_spec (f := cL T) (show tQ T n p + 1 ≤ n by omega)
      omega
    · split
      · rename_i c1 c2 c3
        have s := rq_spec (f := cD T) (show tQ T n p ≤ n by omega)
        have e := rq_on (f := cD T) (show tQ T n p < n by omega) c3
        have s2 := rq_spec (f := cD T) (show tQ T n p + 1 ≤ n by omega)
        omega
      · omega
theorem tKi_b {T : Int → Int} {n p : Int} {w : Bool} : 0 ≤ tKi T n p w ∧ tKi T n p w ≤ 4 := by
  unfold tKi
  repeat' split
  all_goals omega
theorem wv_b {T : Int → Int} {x : Int} : ∀ k : Nat, (∀ i : Nat, i < k → 97 ≤ T (x + i) ∧ T (x + i) ≤ 122) → 0 ≤ wv T x k ∧ wv T x k < 32 ^ k
  | 0, h => ⟨Int.le_refl 0, show (0 : Int) < 1 by decide⟩
  | k + 1, h => by
    have ih := wv_b (T := T) (x := x) k (fun i hi => h i (by omega))
    have hk := h k (by omega)
    rw [Int.pow_succ]
    show 0 ≤ 32 * wv T x k + (T (x + k) - 96) ∧ 32 * wv T x k + (T (x + k) - 96) < 32 ^ k * 32
    omega
theorem wV_b {T : Int → Int} {x : Int} {k : Nat} (hk : k ≤ 6) (h : ∀ i : Nat, i < k → 97 ≤ T (x + i) ∧ T (x + i) ≤ 122) : 0 ≤ wV T x k ∧ wV T x k < 1073741824 := by
  have b := wv_b k h
  unfold wV
  have c : k = 0 ∨ k = 1 ∨ k = 2 ∨ k = 3 ∨ k = 4 ∨ k = 5 ∨ k = 6 := by omega
  rcases c with c | c | c | c | c | c | c <;> subst c
  · have b2 : wv T x 0 < 1 := b.2
    show 0 ≤ wv T x 0 * 1073741824 ∧ wv T x 0 * 1073741824 < 1073741824
    omega
  · have b2 : wv T x 1 < 32 := b.2
    show 0 ≤ wv T x 1 * 33554432 ∧ wv T x 1 * 33554432 < 1073741824
    omega
  · have b2 : wv T x 2 < 1024 := b.2
    show 0 ≤ wv T x 2 * 1048576 ∧ wv T x 2 * 1048576 < 1073741824
    omega
  · have b2 : wv T x 3 < 32768 := b.2
    show 0 ≤ wv T x 3 * 32768 ∧ wv T x 3 * 32768 < 1073741824
    omega
  · have b2 : wv T x 4 < 1048576 := b.2
    show 0 ≤ wv T x 4 * 1024 ∧ wv T x 4 * 1024 < 1073741824
    omega
  · have b2 : wv T x 5 < 33554432 := b.2
    show 0 ≤ wv T x 5 * 32 ∧ wv T x 5 * 32 < 1073741824
    omega
  · have b2 : wv T x 6 < 1073741824 := b.2
    show 0 ≤ wv T x 6 * 1 ∧ wv T x 6 * 1 < 1073741824
    omega
theorem zOr_lit {a c P Q : Int} {i : Nat} (ha : 0 ≤ a) (hc : 0 ≤ c) (hP : P = 2 ^ i) (hlt : c * Q < P) (hQ : 0 ≤ Q) (hb : a * P + c * Q < 2147483648) : zIorZ (a * P) (c * Q) = a * P + c * Q := by
  obtain ⟨x, rfl⟩ := zNat ha
  have hcQ : 0 ≤ c * Q := Int.mul_nonneg hc hQ
  generalize hy : c * Q = y at *
  obtain ⟨y', rfl⟩ := zNat hcQ
  have e : P = ((2 ^ i : Nat) : Int) := by rw [hP]; simp
  subst e
  have := zOp (q := x) (b := y') (i := i) (by omega) (by
    have : ((2 ^ i * x + y' : Nat) : Int) < 2147483648 := by
      rw [Int.natCast_add, Int.natCast_mul, Int.mul_comm]
      exact hb
    omega)
  rw [Int.natCast_mul, Int.mul_comm] at this
  rw [this, Int.natCast_add, Int.natCast_mul, Int.mul_comm ((2 ^ i : Nat) : Int)]
/-- one letter more -/
theorem wV_on {T : Int → Int} {x : Int} {k : Nat} (hk : k < 6) (h : ∀ i : Nat, i ≤ k → 97 ≤ T (x + i) ∧ T (x + i) ≤ 122) : zIorZ (wV T x k) ((T (x + k) - 97 + 1) * 2 ^ (25 - 5 * (k : Int)).toNat) = wV T x (k + 1) := by
  have b := wv_b k (fun i hi => h i (by omega))
  have t := h k (Nat.le_refl k)
  unfold wV
  show zIorZ (wv T x k * 32 ^ (6 - k)) _ = (32 * wv T x k + (T (x + k) - 96)) * 32 ^ (6 - (k + 1))
  generalize wv T x k = v at b ⊢
  generalize T (x + k) = c at t ⊢
  have cs : k = 0 ∨ k = 1 ∨ k = 2 ∨ k = 3 ∨ k = 4 ∨ k = 5 := by omega
  rcases cs with e | e | e | e | e | e <;> subst e
  · have b2 : v < 1 := b.2
    show zIorZ (v * 1073741824) ((c - 97 + 1) * 33554432) = (32 * v + (c - 96)) * 33554432
    rw [zOr_lit (a := v) (c := c - 97 + 1) (P := 1073741824) (Q := 33554432) (i := 30) b.1 (by omega) rfl (by omega) (by decide) (by omega)]
    omega
  · have b2 : v < 32 := b.2
    show zIorZ (v * 33554432) ((c - 97 + 1) * 1048576) = (32 * v + (c - 96)) * 1048576
    rw [zOr_lit (a := v) (c := c - 97 + 1) (P := 33554432) (Q := 1048576) (i := 25) b.1 (by omega) rfl (by omega) (by decide) (by omega)]
    omega
  · have b2 : v < 1024 := b.2
    show zIorZ (v * 1048576) ((c - 97 + 1) * 32768) = (32 * v + (c - 96)) * 32768
    rw [zOr_lit (a := v) (c := c - 97 + 1) (P := 1048576) (Q := 32768) (i := 20) b.1 (by omega) rfl (by omega) (by decide) (by omega)]
    omega
  · have b2 : v < 32768 := b.2
    show zIorZ (v * 32768) ((c - 97 + 1) * 1024) = (32 * v + (c - 96)) * 1024
    rw [zOr_lit (a := v) (c := c - 97 + 1) (P := 32768) (Q := 1024) (i := 15) b.1 (by omega) rfl (by omega) (by decide) (by omega)]
    omega
  · have b2 : v < 1048576 := b.2
    show zIorZ (v * 1024) ((c - 97 + 1) * 32) = (32 * v + (c - 96)) * 32
    rw [zOr_lit (a := v) (c := c - 97 + 1) (P := 1024) (Q := 32) (i := 10) b.1 (by omega) rfl (by omega) (by decide) (by omega)]
    omega
  · have b2 : v < 33554432 := b.2
    show zIorZ (v * 32) ((c - 97 + 1) * 1) = (32 * v + (c - 96)) * 1
    rw [zOr_lit (a := v) (c := c - 97 + 1) (P := 32) (Q := 1) (i := 5) b.1 (by omega) rfl (by omega) (by decide) (by omega)]
    omega
-- the class
def xTp (T : Int → Int) (n : Int) (M : Mm) : Prop := M 2 1 = n ∧ (∀ i, 0 ≤ i → i < n → M 3 i = T i)
def tpOk (T : Int → Int) (n : Int) : Prop := (0 ≤ n ∧ n ≤ 1000) ∧ ∀ i, 0 ≤ i → i < n → -128 ≤ T i ∧ T i ≤ 127
def xTk (T : Int → Int) (n p : Int) (w : Bool) (M : Mm) : Prop := xTp T n M ∧ M 2 2 = tEn T n p ∧ M 2 3 = tKi T n p w ∧ M 2 4 = tQ T n p ∧ (tKi T n p w ≠ 0 → tKi T n p w ≠ 4 → M 2 5 = tVa T n p) ∧ (0 ≤ p ∧ p ≤ n)
theorem x_isL {d : Nat} {M : Mm} {K : Kt} {a : Int} (h : -128 ≤ a ∧ a ≤ 127) (hK : K (fl (97 ≤ a ∧ a ≤ 122)) M) : zSp (d + 1) 70 [.inl a] M K := by
  rw [me_70]
  refine zC_i (zr (by omega) (by omega)) ⟨fun c => ?_, fun c => zC_i (zr (by omega) (by omega)) ⟨fun c2 => ?_, fun c2 => ?_⟩⟩
  · rw [fl_f (by omega)] at hK; exact hK
  · rw [fl_f (by omega)] at hK; exact hK
  · rw [fl_t (by omega)] at hK; exact hK
theorem x_isD {d : Nat} {M : Mm} {K : Kt} {a : Int} (h : -128 ≤ a ∧ a ≤ 127) (hK : K (fl (48 ≤ a ∧ a ≤ 57)) M) : zSp (d + 1) 71 [.inl a] M K := by
  rw [me_71]
  refine zC_i (zr (by omega) (by omega)) ⟨fun c => ?_, fun c => zC_i (zr (by omega) (by omega)) ⟨fun c2 => ?_, fun c2 => ?_⟩⟩
  · rw [fl_f (by omega)] at hK; exact hK
  · rw [fl_f (by omega)] at hK; exact hK
  · rw [fl_t (by omega)] at hK; exact hK
/-- spaces are passed -/
theorem x_ws {d : Nat} {T : Int → Int} {n : Int} {K : Kt} {x1 x2 : Int} (hT : tpOk T n) : ∀ (m : Nat) (M : Mm) (a : Int), a + m = n → 0 ≤ a → M 2 2 = a → xTp T n M →
    (∀ M', M' 2 2 = tQ T n a → (∀ j, j ≠ 2 → M' 2 j = M 2 j) → (∀ c, c ≠ 2 → M' c = M c) → zWp (zSp d) 67 K 79 [some (.inr (.inr 2)), some (.inl x1), some (.inl x2)] [] M') →
    zWp (zSp d) 67 K 27 [some (.inr (.inr 2)), some (.inl x1), some (.inl x2)] [] M
  | 0, M, a, hm, h0, ha, hx, hK => by
    have hn := hT.1
    rw [fe_67_27, ha, hx.1]
    refine zC_i (zr (by omega) (by omega)) (zC_i (zr (by omega) (by omega)) ⟨fun _ => ?_, fun c => absurd (by omega) c⟩)
    exact hK M (by rw [ha]; exact (rq_end (by omega)).symm) (fun _ _ => rfl) (fun _ _ => rfl)
  | m + 1, M, a, hm, h0, ha, hx, hK => by
    have hn := hT.1
    have hb := hT.2 a h0 (by omega)
    have e := hx.2 a h0 (by omega)
    rw [fe_67_27, ha, hx.1, e]
    have on : (T a = 32 ∨ T a = 10) → zWp (zSp d) 67 K 27 [some (.inr (.inr 2)), some (.inl x1), some (.inl x2)] [] (zUp M 2 2 (a + 1)) := by
      intro hw
      refine x_ws hT m _ (a + 1) (by omega) (by omega) zUp_here ⟨by rw [zUp_there (by decide)]; exact hx.1, hx.2⟩ ?_
      intro M' f1 f2 f3
      exact hK M' (by rw [f1]; exact (rq_on (by omega) (cW_t.mpr hw)).symm) (fun j hj => by rw [f2 j hj, zUp_there hj]) (fun c hc => by rw [f3 c hc, zUp_away hc])
    refine zC_i (zr (by omega) (by omega)) (zC_i (zr (by omega) (by omega)) ⟨fun c => absurd c (by omega), fun _ => zC_i (zs (by omega) (by omega)) (zC_i (zr (by omega) (by omega)) ⟨fun q => on (.inl q), fun q => zC_i (zs (by omega) (by omega)) (zC_i (zr (by omega) (by omega)) ⟨fun q2 => ?_, fun q2 => on (.inr (Decidable.not_not.mp q2))⟩)⟩)⟩)
    exact hK M (by rw [ha]; exact (rq_off (cW_f.mpr (by omega))).symm) (fun _ _ => rfl) (fun _ _ => rfl)
