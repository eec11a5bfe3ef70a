/-! LAYER 3: runs and votes -/
theorem zA31b (x : Int) : zIandZ x 2147483647 = x % 2147483648 := by
  have hb : (Int32.ofInt (2147483647 : Int)).toBitVec = BitVec.ofNat 32 2147483647 := zn_bv (a := 2147483647) (by decide)
  have e : ((Int32.ofInt x).toBitVec &&& BitVec.ofNat 32 2147483647).toNat = (x % 2147483648).toNat := by
    rw [BitVec.toNat_and, BitVec.toNat_ofNat, show 2147483647 % 2 ^ 32 = 2 ^ 31 - 1 from rfl, Nat.and_two_pow_sub_one_eq_mod]
    show (BitVec.ofInt 32 x).toNat % 2 ^ 31 = _
    rw [BitVec.toNat_ofInt]
    omega
  show (Int32.ofInt x &&& Int32.ofInt (2147483647 : Int)).toBitVec.toInt = _
  rw [Int32.toBitVec_and, hb, zn_ti e (by omega)]
  omega
def sNx (s : Int) : Int := (1103515245 * s + 12345) % 2147483648
def rn (od : Int → Int) (bits : Int) : Nat → Int → Int → Int × Int
  | 0, _, s => (-1, s)
  | m + 1, i, s => if bits / 2 ^ i.toNat % 2 = 1 then (if od i = 100 then (i, s) else if sNx s / 64 % 100 < od i then (i, sNx s) else rn od bits m (i + 1) (sNx s)) else rn od bits m (i + 1) s
theorem rn_b {od : Int → Int} {bits : Int} : ∀ (m : Nat) (i s : Int), 0 ≤ i → 0 ≤ s ∧ s < 2147483648 → ((rn od bits m i s).1 = -1 ∨ (0 ≤ (rn od bits m i s).1 ∧ (rn od bits m i s).1 < i + m)) ∧ 0 ≤ (rn od bits m i s).2 ∧ (rn od bits m i s).2 < 2147483648
  | 0, i, s, hi, hs => ⟨.inl rfl, hs⟩
  | m + 1, i, s, hi, hs => by
    have hn : 0 ≤ sNx s ∧ sNx s < 2147483648 := by unfold sNx; omega
    have ih1 := rn_b (od := od) (bits := bits) m (i + 1) s (by omega) hs
    have ih2 := rn_b (od := od) (bits := bits) m (i + 1) (sNx s) (by omega) hn
    unfold rn
    split
    · split
      · exact ⟨.inr (by show 0 ≤ i ∧ i < _; omega), hs⟩
      · split
        · exact ⟨.inr (by show 0 ≤ i ∧ i < _; omega), hn⟩
        · omega
    · omega
theorem zdivp {x : Int} (h : 0 ≤ x ∧ x < 64) (i : Nat) : 0 ≤ x / 2 ^ i ∧ x / 2 ^ i < 64 := by
  have hp : (0 : Int) < 2 ^ i := Int.pow_pos (by decide)
  exact ⟨Int.ediv_nonneg h.1 (Int.le_of_lt hp), Int.lt_of_le_of_lt (Int.ediv_le_self _ h.1) h.2⟩
theorem x_run_l {d : Nat} {K : Kt} {od : Int → Int} {bits n : Int} (hb : 0 ≤ bits ∧ bits < 64) (hn : n ≤ 6) : ∀ (m : Nat) (M : Mm) (i : Int), i + m = n → 0 ≤ i → M 24 0 = n → (∀ k, 0 ≤ k → k < n → M 26 k = od k ∧ 1 ≤ od k ∧ od k ≤ 100) → 0 ≤ M 147 4 ∧ M 147 4 < 2147483648 → (∀ M', (∀ c, c ≠ 147 → M' c = M c) → (∀ j, j ≠ 4 → M' 147 j = M 147 j) → M' 147 4 = (rn od bits m i (M 147 4)).2 → K (rn od bits m i (M 147 4)).1 M') → zWp (zSp d) 44 K 2 [some (.inr (.inr 147)), some (.inl bits), some (.inl i)] [] M
  | 0, M, i, him, hi, h24, hod, hs, hK => by
    rw [fe_44_2, h24]
    (repeat (first | (with_reducible refine zC_i ?hob ?_; case hob => first | assumption | decide | exact zr (by omega) (by omega) | exact zs (by omega) (by omega) | exact zd (by omega) (by omega)) | (with_reducible refine zIfT ?hob ?_; case hob => first | assumption | omega | decide) | (with_reducible refine zIfF ?hob ?_; case hob => first | assumption | omega | decide)))
    exact hK M (fun _ _ => rfl) (fun _ _ => rfl) rfl
  | m + 1, M, i, him, hi, h24, hod, hs, hK => by
    have ho := hod i hi (by omega)
    have hd := zdivp hb i.toNat
    have hz : zIandZ (bits / 2 ^ i.toNat) 1 = bits / 2 ^ i.toNat % 2 := zA1 hd.1 (by omega)
    have ez : zIandZ (1103515245 * M 147 4 + 12345) 2147483647 = sNx (M 147 4) := zA31b _
    have hnx : 0 ≤ sNx (M 147 4) ∧ sNx (M 147 4) < 2147483648 := by unfold sNx; omega
    rw [fe_44_2, h24, hz, ez, ho.1]
    have er : rn od bits (m + 1) i (M 147 4) = if bits / 2 ^ i.toNat % 2 = 1 then (if od i = 100 then (i, M 147 4) else if sNx (M 147 4) / 64 % 100 < od i then (i, sNx (M 147 4)) else rn od bits m (i + 1) (sNx (M 147 4))) else rn od bits m (i + 1) (M 147 4) := rfl
    rw [er] at hK
    (repeat (first | (with_reducible refine zC_i ?hob ?_; case hob => first | assumption | decide | exact zr (by omega) (by omega) | exact zs (by omega) (by omega) | exact zd (by omega) (by omega)) | (with_reducible refine zIfT ?hob ?_; case hob => first | assumption | omega | decide) | (with_reducible refine zIfF ?hob ?_; case hob => first | assumption | omega | decide)))
    refine ⟨fun c => ?_, fun c => ?_⟩
    · rw [if_pos (by omega)] at hK
      (repeat (first | (with_reducible refine zC_i ?hob ?_; case hob => first | assumption | decide | exact zr (by omega) (by omega) | exact zs (by omega) (by omega) | exact zd (by omega) (by omega)) | (with_reducible refine zIfT ?hob ?_; case hob => first | assumption | omega | decide) | (with_reducible refine zIfF ?hob ?_; case hob => first | assumption | omega | decide)))
      refine ⟨fun c2 => ?_, fun c2 => ?_⟩
      · rw [if_neg c2] at hK
        (repeat (first | (with_reducible refine zC_i ?hob ?_; case hob => first | assumption | decide | exact zr (by omega) (by omega) | exact zs (by omega) (by omega) | exact zd (by omega) (by omega)) | (with_reducible refine zIfT ?hob ?_; case hob => first | assumption | omega | decide) | (with_reducible refine zIfF ?hob ?_; case hob => first | assumption | omega | decide)))
        refine ⟨fun c3 => ?_, fun c3 => ?_⟩
        · rw [if_neg (by omega)] at hK
          refine x_run_l hb hn m _ (i + 1) (by omega) (by omega) (by rw [zUp_away (by decide)]; exact h24) (by rw [zUp_away (by decide)]; exact hod) (by rw [zUp_here]; exact hnx) ?_
          rw [zUp_here]
          intro M' f1 f2 f3
          exact hK M' (fun c hc => by rw [f1 c hc, zUp_away hc]) (fun j hj => by rw [f2 j hj, zUp_there hj]) f3
        · rw [if_pos (by omega)] at hK
          exact hK _ (fun c hc => zUp_away hc) (fun j hj => zUp_there hj) (by rw [zUp_here])
      · rw [if_pos (by omega)] at hK
        exact hK M (fun _ _ => rfl) (fun _ _ => rfl) rfl
    · rw [if_neg (by omega)] at hK
      exact x_run_l hb hn m M (i + 1) (by omega) (by omega) h24 hod hs hK
theorem x_runOnce {d : Nat} {M : Mm} {K : Kt} {od : Int → Int} {bits n : Int} (hb : 0 ≤ bits ∧ bits < 64) (hn : 0 ≤ n ∧ n ≤ 6) (h24 : M 24 0 = n) (hod : ∀ k, 0 ≤ k → k < n → M 26 k = od k ∧ 1 ≤ od k ∧ od k ≤ 100) (hs : 0 ≤ M 147 4 ∧ M 147 4 < 2147483648) (hK : ∀ M', (∀ c, c ≠ 147 → M' c = M c) → (∀ j, j ≠ 4 → M' 147 j = M 147 j) → M' 147 4 = (rn od bits n.toNat 0 (M 147 4)).2 → K (rn od bits n.toNat 0 (M 147 4)).1 M') : zSp (d + 1) 44 [.inr (.inr 147), .inl bits] M K := by
  rw [me_44]
  exact x_run_l hb hn.2 n.toNat M 0 (by omega) (by omega) h24 hod hs hK
theorem m_draw {d : Nat} {M : Mm} {K : Kt} {s : Int} (h : M 154 47 = s) (hs : 0 ≤ s ∧ s < 2147483648) (hK : K (sNx s / 64 % 100) (zUp M 154 47 (sNx s))) : zSp (d + 1) 207 [.inr (.inr 154)] M K := by
  unfold sNx at hK
  rw [me_207, h]
  have a : 0 ≤ (1103515245 * s + 12345) % 2147483648 ∧ (1103515245 * s + 12345) % 2147483648 < 2147483648 := by omega
  refine zC_i (zr64 (by omega) (by omega)) (zC_i (zd (by omega) (by omega)) (zC_i (zr64 (by omega) (by omega)) (zC_i (zd (by omega) (by omega)) (zC_i (zr64 (by omega) (by omega)) (zC_i (zd (by omega) (by omega)) hK)))))
theorem m_run_l {d : Nat} {K : Kt} {od : Int → Int} {bits n : Int} (hb : 0 ≤ bits ∧ bits < 64) (hn : n ≤ 6) : ∀ (m : Nat) (M : Mm) (i : Int), i + m = n → 0 ≤ i → M 154 37 = n → (∀ k, 0 ≤ k → k < n → M 172 k = od k ∧ 1 ≤ od k ∧ od k ≤ 100) → 0 ≤ M 154 47 ∧ M 154 47 < 2147483648 → (∀ M', (∀ c, c ≠ 154 → M' c = M c) → (∀ j, j ≠ 47 → M' 154 j = M 154 j) → M' 154 47 = (rn od bits m i (M 154 47)).2 → K (rn od bits m i (M 154 47)).1 M') → zWp (zSp (d + 1)) 208 K 2 [some (.inr (.inr 154)), some (.inl bits), some (.inl i)] [] M
  | 0, M, i, him, hi, h37, hod, hs, hK => by
    rw [fe_208_2, h37]
    (repeat (first | (with_reducible refine zC_i ?hob ?_; case hob => first | assumption | decide | exact zr (by omega) (by omega) | exact zs (by omega) (by omega) | exact zd (by omega) (by omega)) | (with_reducible refine zIfT ?hob ?_; case hob => first | assumption | omega | decide) | (with_reducible refine zIfF ?hob ?_; case hob => first | assumption | omega | decide)))
    exact hK M (fun _ _ => rfl) (fun _ _ => rfl) rfl
  | m + 1, M, i, him, hi, h37, hod, hs, hK => by
    have ho := hod i hi (by omega)
    have hd := zdivp hb i.toNat
    have hz : zIandZ (bits / 2 ^ i.toNat) 1 = bits / 2 ^ i.toNat % 2 := zA1 hd.1 (by omega)
    have hnx : 0 ≤ sNx (M 154 47) ∧ sNx (M 154 47) < 2147483648 := by unfold sNx; omega
    rw [fe_208_2, h37, hz, ho.1]
    have er : rn od bits (m + 1) i (M 154 47) = if bits / 2 ^ i.toNat % 2 = 1 then (if od i = 100 then (i, M 154 47) else if sNx (M 154 47) / 64 % 100 < od i then (i, sNx (M 154 47)) else rn od bits m (i + 1) (sNx (M 154 47))) else rn od bits m (i + 1) (M 154 47) := rfl
    rw [er] at hK
    (repeat (first | (with_reducible refine zC_i ?hob ?_; case hob => first | assumption | decide | exact zr (by omega) (by omega) | exact zs (by omega) (by omega) | exact zd (by omega) (by omega)) | (with_reducible refine zIfT ?hob ?_; case hob => first | assumption | omega | decide) | (with_reducible refine zIfF ?hob ?_; case hob => first | assumption | omega | decide)))
    refine ⟨fun c => ?_, fun c => ?_⟩
    · rw [if_neg (by omega)] at hK
      exact m_run_l hb hn m M (i + 1) (by omega) (by omega) h37 hod hs hK
    · rw [if_pos (by omega)] at hK
      (repeat (first | (with_reducible refine zC_i ?hob ?_; case hob => first | assumption | decide | exact zr (by omega) (by omega) | exact zs (by omega) (by omega) | exact zd (by omega) (by omega)) | (with_reducible refine zIfT ?hob ?_; case hob => first | assumption | omega | decide) | (with_reducible refine zIfF ?hob ?_; case hob => first | assumption | omega | decide)))
      refine ⟨fun c2 => ?_, fun c2 => ?_⟩
      · rw [if_pos c2] at hK
        exact hK M (fun _ _ => rfl) (fun _ _ => rfl) rfl
      · rw [if_neg c2] at hK
        refine m_draw rfl hs ?_
        rw [zUp_away (show (172 : Nat) ≠ 154 by decide), ho.1]
        (repeat (first | (with_reducible refine zC_i ?hob ?_; case hob => first | assumption | decide | exact zr (by omega) (by omega) | exact zs (by omega) (by omega) | exact zd (by omega) (by omega)) | (with_reducible refine zIfT ?hob ?_; case hob => first | assumption | omega | decide) | (with_reducible refine zIfF ?hob ?_; case hob => first | assumption | omega | decide)))
        refine ⟨fun c3 => ?_, fun c3 => ?_⟩
        · rw [if_neg (by omega)] at hK
          refine m_run_l hb hn m _ (i + 1) (by omega) (by omega) (by rw [zUp_there (by decide)]; exact h37) (by rw [zUp_away (by decide)]; exact hod) (by rw [zUp_here]; exact hnx) ?_
          rw [zUp_here]
          intro M' f1 f2 f3
          exact hK M' (fun c hc => by rw [f1 c hc, zUp_away hc]) (fun j hj => by rw [f2 j hj, zUp_there hj]) f3
        · rw [if_pos (by omega)] at hK
          exact hK _ (fun c hc => zUp_away hc) (fun j hj => zUp_there hj) (by rw [zUp_here])
theorem m_runOf {d : Nat} {M : Mm} {K : Kt} {od : Int → Int} {bits n : Int} (hb : 0 ≤ bits ∧ bits < 64) (hn : 0 ≤ n ∧ n ≤ 6) (h37 : M 154 37 = n) (hod : ∀ k, 0 ≤ k → k < n → M 172 k = od k ∧ 1 ≤ od k ∧ od k ≤ 100) (hs : 0 ≤ M 154 47 ∧ M 154 47 < 2147483648) (hK : ∀ M', (∀ c, c ≠ 154 → M' c = M c) → (∀ j, j ≠ 47 → M' 154 j = M 154 j) → M' 154 47 = (rn od bits n.toNat 0 (M 154 47)).2 → K (rn od bits n.toNat 0 (M 154 47)).1 M') : zSp (d + 2) 208 [.inr (.inr 154), .inl bits] M K := by
  rw [me_208]
  exact m_run_l hb hn.2 n.toNat M 0 (by omega) (by omega) h37 hod hs hK
-- votes
def tUp (T : Int → Int) (i : Int) : Int → Int := fun j => if j = i then T j + 1 else T j
def vL (od : Int → Int) (bits : Int) (n : Nat) : Nat → Int → (Int → Int) → (Int → Int) × Int
  | 0, s, T => (T, s)
  | v + 1, s, T => vL od bits n v (rn od bits n 0 s).2 (tUp T (rn od bits n 0 s).1)
def vB (T : Int → Int) : Nat → Int → Int → Int
  | 0, _, b => b
  | m + 1, i, b => if T b < T i then vB T m (i + 1) i else vB T m (i + 1) b
def vV (T : Int → Int) (n : Nat) : Int := if n = 0 then -1 else if T (vB T (n - 1) 1 0) < T (-1) then -1 else vB T (n - 1) 1 0
def vRes (od : Int → Int) (bits : Int) (n v : Nat) (s : Int) : Int × Int := (vV (vL od bits n v s (fun _ => 0)).1 n, (vL od bits n v s (fun _ => 0)).2)
theorem x_fillI {d : Nat} {K : Kt} {o : Nat} {v : Int} {n : Int} (ha : zArr o 0 = true) (hl : zLen o = n) (hn : 0 ≤ n ∧ n ≤ 100000) : ∀ (m : Nat) (M : Mm) (i : Int), i + m = n → 0 ≤ i → (∀ M', (∀ j, M' o j = if i ≤ j ∧ j < n then v else M o j) → (∀ c, c ≠ o → M' c = M c) → K 0 M') → zWp (zSp d) 264 K 5 [some (.inr (.inr o)), some (.inl v), some (.inl i), some (.inl n)] [] M
  | 0, M, i, hi, h0, hK => by
    rw [fe_264_5]
    (repeat (first | (with_reducible refine zC_i ?hob ?_; case hob => first | assumption | decide | exact zr (by omega) (by omega) | exact zs (by omega) (by omega) | exact zd (by omega) (by omega)) | (with_reducible refine zIfT ?hob ?_; case hob => first | assumption | omega | decide) | (with_reducible refine zIfF ?hob ?_; case hob => first | assumption | omega | decide)))
    exact hK M (fun j => by rw [if_neg (by omega)]) (fun _ _ => rfl)
  | m + 1, M, i, hi, h0, hK => by
    rw [fe_264_5, hl]
    (repeat (first | (with_reducible refine zC_i ?hob ?_; case hob => first | assumption | decide | exact zr (by omega) (by omega) | exact zs (by omega) (by omega) | exact zd (by omega) (by omega)) | (with_reducible refine zIfT ?hob ?_; case hob => first | assumption | omega | decide) | (with_reducible refine zIfF ?hob ?_; case hob => first | assumption | omega | decide)))
    refine x_fillI ha hl hn m _ (i + 1) (by omega) (by omega) ?_
    intro M' f1 f2
    refine hK M' (fun j => ?_) (fun c hc => by rw [f2 c hc, zUp_away hc])
    rw [f1, zUp_hit]
    by_cases c : j = i
    · rw [if_neg (by omega), if_pos c, if_pos (by omega)]
    · by_cases c2 : i + 1 ≤ j ∧ j < n
      · rw [if_pos c2, if_pos (by omega)]
      · rw [if_neg c2, if_neg c, if_neg (by omega)]
theorem x_fill {d : Nat} {M : Mm} {K : Kt} {o : Nat} {v : Int} {n : Int} (ha : zArr o 0 = true) (hl : zLen o = n) (hn : 0 ≤ n ∧ n ≤ 100000) (hK : ∀ M', (∀ j, 0 ≤ j → j < n → M' o j = v) → (∀ c, c ≠ o → M' c = M c) → K 0 M') : zSp (d + 1) 264 [.inr (.inr o), .inl v] M K := by
  rw [me_264, ha, hl]
  refine x_fillI ha hl hn n.toNat M 0 (by omega) (by omega) ?_
  intro M' f1 f2
  exact hK M' (fun j c1 c2 => by rw [f1, if_pos (by omega)]) f2
def vX (M : Mm) (T : Int → Int) (n : Int) : Prop := (∀ i, 0 ≤ i → i < n → M 148 i = T i) ∧ M 148 n = T (-1)
def vOk (T : Int → Int) (m : Int) : Prop := ∀ i, 0 ≤ T i ∧ T i ≤ m
theorem vOk_up {T : Int → Int} {m i : Int} (h : vOk T m) : vOk (tUp T i) (m + 1) := by
  intro j
  have := h j
  unfold tUp
  split <;> omega
theorem vL_b {od : Int → Int} {bits : Int} {n : Nat} : ∀ (v : Nat) (s : Int) (T : Int → Int) (m : Int), 0 ≤ s ∧ s < 2147483648 → vOk T m → vOk (vL od bits n v s T).1 (m + v) ∧ 0 ≤ (vL od bits n v s T).2 ∧ (vL od bits n v s T).2 < 2147483648
  | 0, s, T, m, hs, h => ⟨fun i => by have := h i; show 0 ≤ T i ∧ T i ≤ m + 0; omega, hs⟩
  | v + 1, s, T, m, hs, h => by
    have rb := rn_b (od := od) (bits := bits) n 0 s (by omega) hs
    have ih := vL_b (od := od) (bits := bits) (n := n) v (rn od bits n 0 s).2 (tUp T (rn od bits n 0 s).1) (m + 1) rb.2 (vOk_up h)
    rw [show m + 1 + (v : Int) = m + ((v + 1 : Nat) : Int) by omega] at ih
    exact ih
theorem x_vote_l {d : Nat} {K : Kt} {od : Int → Int} {bits n vs : Int} (hb : 0 ≤ bits ∧ bits < 64) (hn : 0 ≤ n ∧ n ≤ 6) (hvs : vs ≤ 9) : ∀ (v : Nat) (M : Mm) (T : Int → Int) (i : Int) (u4 : Option Vl), i + v = vs → 0 ≤ i → M 147 3 = vs → M 24 0 = n → (∀ k, 0 ≤ k → k < n → M 26 k = od k ∧ 1 ≤ od k ∧ od k ≤ 100) → 0 ≤ M 147 4 ∧ M 147 4 < 2147483648 → vX M T n →
    (∀ M', (∀ c, c ≠ 147 → c ≠ 148 → M' c = M c) → (∀ j, j ≠ 4 → j ≠ 6 → M' 147 j = M 147 j) → M' 147 6 = M 147 6 + vs → M' 147 4 = (vL od bits n.toNat v (M 147 4) T).2 → vX M' (vL od bits n.toNat v (M 147 4) T).1 n → zWp (zSp (d + 1)) 43 K 78 [some (.inr (.inr 147)), some (.inl bits), some (.inl n), some (.inl 0), some (.inl 1)] [] M') →
    zWp (zSp (d + 1)) 43 K 18 [some (.inr (.inr 147)), some (.inl bits), some (.inl n), some (.inl i), u4] [] M
  | 0, M, T, i, u4, hi, h0, hv, h24, hod, hs, hT, hK => by
    rw [fe_43_18, hv]
    (repeat (first | (with_reducible refine zC_i ?hob ?_; case hob => first | assumption | decide | exact zr (by omega) (by omega) | exact zs (by omega) (by omega) | exact zd (by omega) (by omega)) | (with_reducible refine zIfT ?hob ?_; case hob => first | assumption | omega | decide) | (with_reducible refine zIfF ?hob ?_; case hob => first | assumption | omega | decide)))
    refine hK _ (fun c c1 c2 => zUp_away c1) (fun j c1 c2 => zUp_there c2) (by rw [zUp_here]) (by rw [zUp_there (by decide)]; rfl) ?_
    unfold vX
    rw [zUp_away (by decide)]
    exact hT
  | v + 1, M, T, i, u4, hi, h0, hv, h24, hod, hs, hT, hK => by
    have rb := rn_b (od := od) (bits := bits) n.toNat 0 (M 147 4) (by omega) hs
    rw [fe_43_18, hv]
    (repeat (first | (with_reducible refine zC_i ?hob ?_; case hob => first | assumption | decide | exact zr (by omega) (by omega) | exact zs (by omega) (by omega) | exact zd (by omega) (by omega)) | (with_reducible refine zIfT ?hob ?_; case hob => first | assumption | omega | decide) | (with_reducible refine zIfF ?hob ?_; case hob => first | assumption | omega | decide)))
    refine x_runOnce hb hn h24 hod hs ?_
    intro M1 f1 f2 f3
    have hK : ∀ M', (∀ c, c ≠ 147 → c ≠ 148 → M' c = M c) → (∀ j, j ≠ 4 → j ≠ 6 → M' 147 j = M 147 j) → M' 147 6 = M 147 6 + vs → M' 147 4 = (vL od bits n.toNat v (rn od bits n.toNat 0 (M 147 4)).2 (tUp T (rn od bits n.toNat 0 (M 147 4)).1)).2 → vX M' (vL od bits n.toNat v (rn od bits n.toNat 0 (M 147 4)).2 (tUp T (rn od bits n.toNat 0 (M 147 4)).1)).1 n → zWp (zSp (d + 1)) 43 K 78 [some (.inr (.inr 147)), some (.inl bits), some (.inl n), some (.inl 0), some (.inl 1)] [] M' := hK
    generalize rn od bits n.toNat 0 (M 147 4) = r at *
    have nx : ∀ M2 u4, (∀ c, c ≠ 148 → M2 c = M1 c) → vX M2 (tUp T r.1) n → zWp (zSp (d + 1)) 43 K 18 [some (.inr (.inr 147)), some (.inl bits), some (.inl n), some (.inl (i + 1)), u4] [] M2 := by
      intro M2 u4 g1 g2
      refine x_vote_l hb hn hvs v M2 (tUp T r.1) (i + 1) u4 (by omega) (by omega) (by rw [g1 147 (by decide), f2 3 (by decide)]; exact hv) (by rw [g1 24 (by decide), f1 24 (by decide)]; exact h24) (by rw [g1 26 (by decide), f1 26 (by decide)]; exact hod) (by rw [g1 147 (by decide), f3]; exact rb.2) g2 ?_
      rw [g1 147 (by decide), f3]
      intro M' k1 k2 k3 k4 k5
      exact hK M' (fun c c1 c2 => by rw [k1 c c1 c2, g1 c c2, f1 c c1]) (fun j c1 c2 => by rw [k2 j c1 c2, f2 j c1]) (by rw [k3, f2 6 (by decide)]) k4 k5
    have h148 : M1 148 = M 148 := f1 148 (by decide)
    (repeat (first | (with_reducible refine zC_i ?hob ?_; case hob => first | assumption | decide | exact zr (by omega) (by omega) | exact zs (by omega) (by omega) | exact zd (by omega) (by omega)) | (with_reducible refine zIfT ?hob ?_; case hob => first | assumption | omega | decide) | (with_reducible refine zIfF ?hob ?_; case hob => first | assumption | omega | decide)))
    refine ⟨fun c => ?_, fun c => ?_⟩
    · (repeat (first | (with_reducible refine zC_i ?hob ?_; case hob => first | assumption | decide | exact zr (by omega) (by omega) | exact zs (by omega) (by omega) | exact zd (by omega) (by omega)) | (with_reducible refine zIfT ?hob ?_; case hob => first | assumption | omega | decide) | (with_reducible refine zIfF ?hob ?_; case hob => first | assumption | omega | decide)))
      refine nx _ _ (fun c hc => zUp_away hc) ⟨fun j j0 j1 => ?_, ?_⟩
      · rw [zUp_hit, h148]
        unfold tUp
        by_cases cj : j = r.1
        · rw [if_pos cj, if_pos cj, ← cj, hT.1 j j0 j1]
        · rw [if_neg cj, if_neg cj, hT.1 j j0 j1]
      · rw [zUp_there (by omega), h148, hT.2]
        unfold tUp
        rw [if_neg (by omega)]
    · (repeat (first | (with_reducible refine zC_i ?hob ?_; case hob => first | assumption | decide | exact zr (by omega) (by omega) | exact zs (by omega) (by omega) | exact zd (by omega) (by omega)) | (with_reducible refine zIfT ?hob ?_; case hob => first | assumption | omega | decide) | (with_reducible refine zIfF ?hob ?_; case hob => first | assumption | omega | decide)))
      refine nx _ _ (fun c hc => zUp_away hc) ⟨fun j j0 j1 => ?_, ?_⟩
      · rw [zUp_there (by omega), h148, hT.1 j j0 j1]
        unfold tUp
        rw [if_neg (by omega)]
      · rw [zUp_here, h148, hT.2]
        unfold tUp
        rw [if_pos (by omega)]
theorem x_best_l {d : Nat} {M : Mm} {K : Kt} {T : Int → Int} {bits n : Int} (hn : 1 ≤ n ∧ n ≤ 6) (hT : vX M T n) (hb : vOk T 20) : ∀ (m : Nat) (i b : Int), i + m = n → 1 ≤ i → 0 ≤ b → b < i → K (if T (vB T m i b) < T (-1) then -1 else vB T m i b) M → zWp (zSp d) 43 K 78 [some (.inr (.inr 147)), some (.inl bits), some (.inl n), some (.inl b), some (.inl i)] [] M
  | 0, i, b, hi, h1, h0, hbi, hK => by
    have b1 := hb b
    have b2 := hb (-1)
    have e1 := hT.1 b h0 (by omega)
    have hin : i = n := by omega
    subst hin
    rw [fe_43_78, hT.2, e1]
    have hK : K (if T b < T (-1) then -1 else b) M := hK
    (repeat (first | (with_reducible refine zC_i ?hob ?_; case hob => first | assumption | decide | exact zr (by omega) (by omega) | exact zs (by omega) (by omega) | exact zd (by omega) (by omega)) | (with_reducible refine zIfT ?hob ?_; case hob => first | assumption | omega | decide) | (with_reducible refine zIfF ?hob ?_; case hob => first | assumption | omega | decide)))
    refine ⟨fun c => ?_, fun c => ?_⟩
    · rw [if_neg (by omega)] at hK
      rw [fe_43_78]
      (repeat (first | (with_reducible refine zC_i ?hob ?_; case hob => first | assumption | decide | exact zr (by omega) (by omega) | exact zs (by omega) (by omega) | exact zd (by omega) (by omega)) | (with_reducible refine zIfT ?hob ?_; case hob => first | assumption | omega | decide) | (with_reducible refine zIfF ?hob ?_; case hob => first | assumption | omega | decide)))
      exact hK
    · rw [if_pos (by omega)] at hK
      rw [fe_43_78]
      (repeat (first | (with_reducible refine zC_i ?hob ?_; case hob => first | assumption | decide | exact zr (by omega) (by omega) | exact zs (by omega) (by omega) | exact zd (by omega) (by omega)) | (with_reducible refine zIfT ?hob ?_; case hob => first | assumption | omega | decide) | (with_reducible refine zIfF ?hob ?_; case hob => first | assumption | omega | decide)))
      exact hK
  | m + 1, i, b, hi, h1, h0, hbi, hK => by
    have b1 := hb b
    have b2 := hb i
    have e1 := hT.1 b h0 (by omega)
    have e2 := hT.1 i (by omega) (by omega)
    have er : vB T (m + 1) i b = if T b < T i then vB T m (i + 1) i else vB T m (i + 1) b := rfl
    rw [fe_43_78, e1, e2]
    (repeat (first | (with_reducible refine zC_i ?hob ?_; case hob => first | assumption | decide | exact zr (by omega) (by omega) | exact zs (by omega) (by omega) | exact zd (by omega) (by omega)) | (with_reducible refine zIfT ?hob ?_; case hob => first | assumption | omega | decide) | (with_reducible refine zIfF ?hob ?_; case hob => first | assumption | omega | decide)))
    refine ⟨fun c => ?_, fun c => ?_⟩
    · rw [er, if_neg (show ¬ T b < T i by omega)] at hK
      exact x_best_l hn hT hb m (i + 1) b (by omega) (by omega) h0 (by omega) hK
    · rw [er, if_pos (show T b < T i by omega)] at hK
      exact x_best_l hn hT hb m (i + 1) i (by omega) (by omega) (by omega) (by omega) hK
theorem x_vote {d : Nat} {M : Mm} {K : Kt} {od : Int → Int} {bits n vs : Int} (hb : 0 ≤ bits ∧ bits < 64) (hn : 0 ≤ n ∧ n ≤ 6) (hvs : 0 ≤ vs ∧ vs ≤ 9) (hv : M 147 3 = vs) (h24 : M 24 0 = n) (hod : ∀ k, 0 ≤ k → k < n → M 26 k = od k ∧ 1 ≤ od k ∧ od k ≤ 100) (hs : 0 ≤ M 147 4 ∧ M 147 4 < 2147483648) (hK : ∀ M', (∀ c, c ≠ 147 → c ≠ 148 → M' c = M c) → (∀ j, j ≠ 4 → j ≠ 6 → M' 147 j = M 147 j) → M' 147 6 = M 147 6 + vs → M' 147 4 = (vRes od bits n.toNat vs.toNat (M 147 4)).2 → K (vRes od bits n.toNat vs.toNat (M 147 4)).1 M') : zSp (d + 2) 43 [.inr (.inr 147), .inl bits] M K := by
  rw [me_43]
  refine x_fill (n := 7) rfl rfl (by decide) ?_
  intro M1 f1 f2
  rw [h24]
  have h147 : M1 147 = M 147 := f2 147 (by decide)
  refine x_vote_l hb hn hvs.2 vs.toNat M1 (fun _ => 0) 0 _ (by omega) (by omega) (by rw [h147]; exact hv) (by rw [f2 24 (by decide)]; exact h24) (by rw [f2 26 (by decide)]; exact hod) (by rw [h147]; exact hs) ⟨fun i i0 i1 => f1 i i0 (by omega), f1 n hn.1 (by omega)⟩ ?_
  rw [h147]
  intro M' k1 k2 k3 k4 k5
  have vb := vL_b (od := od) (bits := bits) (n := n.toNat) vs.toNat (M 147 4) (fun _ => 0) 0 hs (fun _ => ⟨Int.le_refl 0, Int.le_refl 0⟩)
  have hK := hK M' (fun c c1 c2 => by rw [k1 c c1 c2, f2 c c2]) k2 k3 k4
  unfold vRes vV at hK
  by_cases c : n = 0
  · rw [if_pos (by omega)] at hK
    rw [c, fe_43_78]
    (repeat (first | (with_reducible refine zC_i ?hob ?_; case hob => first | assumption | decide | exact zr (by omega) (by omega) | exact zs (by omega) (by omega) | exact zd (by omega) (by omega)) | (with_reducible refine zIfT ?hob ?_; case hob => first | assumption | omega | decide) | (with_reducible refine zIfF ?hob ?_; case hob => first | assumption | omega | decide)))
    exact hK
  · rw [if_neg (by omega)] at hK
    refine x_best_l (by omega) k5 (fun i => by have := vb.1 i; omega) (n.toNat - 1) 1 0 (by omega) (by omega) (by omega) (by omega) hK
-- the reference
def vM (M : Mm) (T : Int → Int) (n : Int) : Prop := (∀ i, 0 ≤ i → i < n → M 186 i = T i) ∧ (∀ i, n ≤ i → i < 6 → M 186 i = 0) ∧ M 186 6 = T (-1)
theorem m_tally0 {d : Nat} {K : Kt} {p bits : Int} : ∀ (m : Nat) (M : Mm) (i : Int), i + m = 7 → 0 ≤ i → (∀ j, 0 ≤ j → j < i → M 186 j = 0) → (∀ M', (∀ j, 0 ≤ j → j < 7 → M' 186 j = 0) → (∀ c, c ≠ 186 → M' c = M c) → zWp (zSp d) 212 K 29 [some (.inr (.inr 154)), some (.inl p), some (.inl bits), some (.inl 0), none] [] M') → zWp (zSp d) 212 K 8 [some (.inr (.inr 154)), some (.inl p), some (.inl bits), some (.inl i), none] [] M
  | 0, M, i, hi, h0, hz, hK => by
    rw [fe_212_8]
    (repeat (first | (with_reducible refine zC_i ?hob ?_; case hob => first | assumption | decide | exact zr (by omega) (by omega) | exact zs (by omega) (by omega) | exact zd (by omega) (by omega)) | (with_reducible refine zIfT ?hob ?_; case hob => first | assumption | omega | decide) | (with_reducible refine zIfF ?hob ?_; case hob => first | assumption | omega | decide)))
    exact hK M (fun j c1 c2 => hz j c1 (by omega)) (fun _ _ => rfl)
  | m + 1, M, i, hi, h0, hz, hK => by
    rw [fe_212_8]
    (repeat (first | (with_reducible refine zC_i ?hob ?_; case hob => first | assumption | decide | exact zr (by omega) (by omega) | exact zs (by omega) (by omega) | exact zd (by omega) (by omega)) | (with_reducible refine zIfT ?hob ?_; case hob => first | assumption | omega | decide) | (with_reducible refine zIfF ?hob ?_; case hob => first | assumption | omega | decide)))
    refine m_tally0 m _ (i + 1) (by omega) (by omega) (fun j c1 c2 => ?_) (fun M' g1 g2 => hK M' g1 (fun c hc => by rw [g2 c hc, zUp_away hc]))
    rw [zUp_hit]
    by_cases c : j = i
    · rw [if_pos c]
    · rw [if_neg c, hz j c1 (by omega)]
theorem m_vote_l {d : Nat} {K : Kt} {od : Int → Int} {p bits n vs : Int} (hb : 0 ≤ bits ∧ bits < 64) (hn : 0 ≤ n ∧ n ≤ 6) (hvs : vs ≤ 9) : ∀ (v : Nat) (M : Mm) (T : Int → Int) (i : Int) (u4 : Option Vl), i + v = vs → 0 ≤ i → M 154 48 = vs → M 154 37 = n → (∀ k, 0 ≤ k → k < n → M 172 k = od k ∧ 1 ≤ od k ∧ od k ≤ 100) → 0 ≤ M 154 47 ∧ M 154 47 < 2147483648 → vM M T n →
    (∀ M', (∀ c, c ≠ 154 → c ≠ 186 → M' c = M c) → (∀ j, j ≠ 47 → j ≠ 50 → M' 154 j = M 154 j) → M' 154 50 = M 154 50 + vs → M' 154 47 = (vL od bits n.toNat v (M 154 47) T).2 → vM M' (vL od bits n.toNat v (M 154 47) T).1 n → zWp (zSp (d + 2)) 212 K 90 [some (.inr (.inr 154)), some (.inl p), some (.inl bits), some (.inl 0), some (.inl 1)] [] M') →
    zWp (zSp (d + 2)) 212 K 29 [some (.inr (.inr 154)), some (.inl p), some (.inl bits), some (.inl i), u4] [] M
  | 0, M, T, i, u4, hi, h0, hv, h37, hod, hs, hT, hK => by
    rw [fe_212_29, hv]
    (repeat (first | (with_reducible refine zC_i ?hob ?_; case hob => first | assumption | decide | exact zr (by omega) (by omega) | exact zs (by omega) (by omega) | exact zd (by omega) (by omega)) | (with_reducible refine zIfT ?hob ?_; case hob => first | assumption | omega | decide) | (with_reducible refine zIfF ?hob ?_; case hob => first | assumption | omega | decide)))
    refine hK _ (fun c c1 c2 => zUp_away c1) (fun j c1 c2 => zUp_there c2) (by rw [zUp_here]) (by rw [zUp_there (by decide)]; rfl) ?_
    unfold vM
    rw [zUp_away (by decide)]
    exact hT
  | v + 1, M, T, i, u4, hi, h0, hv, h37, hod, hs, hT, hK => by
    have rb := rn_b (od := od) (bits := bits) n.toNat 0 (M 154 47) (by omega) hs
    rw [fe_212_29, hv]
    (repeat (first | (with_reducible refine zC_i ?hob ?_; case hob => first | assumption | decide | exact zr (by omega) (by omega) | exact zs (by omega) (by omega) | exact zd (by omega) (by omega)) | (with_reducible refine zIfT ?hob ?_; case hob => first | assumption | omega | decide) | (with_reducible refine zIfF ?hob ?_; case hob => first | assumption | omega | decide)))
    refine m_runOf hb hn h37 hod hs ?_
    intro M1 f1 f2 f3
    have hK : ∀ M', (∀ c, c ≠ 154 → c ≠ 186 → M' c = M c) → (∀ j, j ≠ 47 → j ≠ 50 → M' 154 j = M 154 j) → M' 154 50 = M 154 50 + vs → M' 154 47 = (vL od bits n.toNat v (rn od bits n.toNat 0 (M 154 47)).2 (tUp T (rn od bits n.toNat 0 (M 154 47)).1)).2 → vM M' (vL od bits n.toNat v (rn od bits n.toNat 0 (M 154 47)).2 (tUp T (rn od bits n.toNat 0 (M 154 47)).1)).1 n → zWp (zSp (d + 2)) 212 K 90 [some (.inr (.inr 154)), some (.inl p), some (.inl bits), some (.inl 0), some (.inl 1)] [] M' := hK
    generalize rn od bits n.toNat 0 (M 154 47) = r at *
    have nx : ∀ M2 u4, (∀ c, c ≠ 186 → M2 c = M1 c) → vM M2 (tUp T r.1) n → zWp (zSp (d + 2)) 212 K 29 [some (.inr (.inr 154)), some (.inl p), some (.inl bits), some (.inl (i + 1)), u4] [] M2 := by
      intro M2 u4 g1 g2
      refine m_vote_l hb hn hvs v M2 (tUp T r.1) (i + 1) u4 (by omega) (by omega) (by rw [g1 154 (by decide), f2 48 (by decide)]; exact hv) (by rw [g1 154 (by decide), f2 37 (by decide)]; exact h37) (by rw [g1 172 (by decide), f1 172 (by decide)]; exact hod) (by rw [g1 154 (by decide), f3]; exact rb.2) g2 ?_
      rw [g1 154 (by decide), f3]
      intro M' k1 k2 k3 k4 k5
      exact hK M' (fun c c1 c2 => by rw [k1 c c1 c2, g1 c c2, f1 c c1]) (fun j c1 c2 => by rw [k2 j c1 c2, f2 j c1]) (by rw [k3, f2 50 (by decide)]) k4 k5
    have h186 : M1 186 = M 186 := f1 186 (by decide)
    (repeat (first | (with_reducible refine zC_i ?hob ?_; case hob => first | assumption | decide | exact zr (by omega) (by omega) | exact zs (by omega) (by omega) | exact zd (by omega) (by omega)) | (with_reducible refine zIfT ?hob ?_; case hob => first | assumption | omega | decide) | (with_reducible refine zIfF ?hob ?_; case hob => first | assumption | omega | decide)))
    refine ⟨fun c => ?_, fun c => ?_⟩
    · (repeat (first | (with_reducible refine zC_i ?hob ?_; case hob => first | assumption | decide | exact zr (by omega) (by omega) | exact zs (by omega) (by omega) | exact zd (by omega) (by omega)) | (with_reducible refine zIfT ?hob ?_; case hob => first | assumption | omega | decide) | (with_reducible refine zIfF ?hob ?_; case hob => first | assumption | omega | decide)))
      refine nx _ _ (fun c hc => zUp_away hc) ⟨fun j j0 j1 => ?_, fun j j0 j1 => ?_, ?_⟩
      · rw [zUp_hit, h186]
        unfold tUp
        by_cases cj : j = r.1
        · rw [if_pos cj, if_pos cj, ← cj, hT.1 j j0 j1]
        · rw [if_neg cj, if_neg cj, hT.1 j j0 j1]
      · rw [zUp_there (by omega), h186, hT.2.1 j j0 j1]
      · rw [zUp_there (by omega), h186, hT.2.2]
        unfold tUp
        rw [if_neg (by omega)]
    · refine nx _ _ (fun c hc => zUp_away hc) ⟨fun j j0 j1 => ?_, fun j j0 j1 => ?_, ?_⟩
      · rw [zUp_there (by omega), h186, hT.1 j j0 j1]
        unfold tUp
        rw [if_neg (by omega)]
      · rw [zUp_there (by omega), h186, hT.2.1 j j0 j1]
      · rw [zUp_here, h186, hT.2.2]
        unfold tUp
        rw [if_pos (by omega)]
theorem m_best_z {d : Nat} {M : Mm} {K : Kt} {T : Int → Int} {p bits n : Int} (hn : 0 ≤ n ∧ n ≤ 6) (hT : vM M T n) (hb : vOk T 20) (b : Int) (hb0 : 0 ≤ b ∧ b < 6) (eb : 0 ≤ M 186 b ∧ M 186 b ≤ 20) (hK : K (if M 186 b < T (-1) then -1 else b) M) : ∀ (m : Nat) (i : Int), i + m = 6 → n ≤ i → zWp (zSp d) 212 K 90 [some (.inr (.inr 154)), some (.inl p), some (.inl bits), some (.inl b), some (.inl i)] [] M
  | 0, i, hi, h1 => by
    have b2 := hb (-1)
    have hi6 : i = 6 := by omega
    subst hi6
    rw [fe_212_90, hT.2.2]
    (repeat (first | (with_reducible refine zC_i ?hob ?_; case hob => first | assumption | decide | exact zr (by omega) (by omega) | exact zs (by omega) (by omega) | exact zd (by omega) (by omega)) | (with_reducible refine zIfT ?hob ?_; case hob => first | assumption | omega | decide) | (with_reducible refine zIfF ?hob ?_; case hob => first | assumption | omega | decide)))
    refine ⟨fun c => ?_, fun c => ?_⟩
    · rw [if_neg (by omega)] at hK
      rw [fe_212_90]
      (repeat (first | (with_reducible refine zC_i ?hob ?_; case hob => first | assumption | decide | exact zr (by omega) (by omega) | exact zs (by omega) (by omega) | exact zd (by omega) (by omega)) | (with_reducible refine zIfT ?hob ?_; case hob => first | assumption | omega | decide) | (with_reducible refine zIfF ?hob ?_; case hob => first | assumption | omega | decide)))
      exact hK
    · rw [if_pos (by omega)] at hK
      rw [fe_212_90]
      (repeat (first | (with_reducible refine zC_i ?hob ?_; case hob => first | assumption | decide | exact zr (by omega) (by omega) | exact zs (by omega) (by omega) | exact zd (by omega) (by omega)) | (with_reducible refine zIfT ?hob ?_; case hob => first | assumption | omega | decide) | (with_reducible refine zIfF ?hob ?_; case hob => first | assumption | omega | decide)))
      exact hK
  | m + 1, i, hi, h1 => by
    have e := hT.2.1 i h1 (by omega)
    rw [fe_212_90, e]
    (repeat (first | (with_reducible refine zC_i ?hob ?_; case hob => first | assumption | decide | exact zr (by omega) (by omega) | exact zs (by omega) (by omega) | exact zd (by omega) (by omega)) | (with_reducible refine zIfT ?hob ?_; case hob => first | assumption | omega | decide) | (with_reducible refine zIfF ?hob ?_; case hob => first | assumption | omega | decide)))
    exact m_best_z hn hT hb b hb0 eb hK m (i + 1) (by omega) (by omega)
theorem m_best_l {d : Nat} {M : Mm} {K : Kt} {T : Int → Int} {p bits n : Int} (hn : 1 ≤ n ∧ n ≤ 6) (hT : vM M T n) (hb : vOk T 20) : ∀ (m : Nat) (i b : Int), i + m = n → 1 ≤ i → 0 ≤ b → b < i → K (if T (vB T m i b) < T (-1) then -1 else vB T m i b) M → zWp (zSp d) 212 K 90 [some (.inr (.inr 154)), some (.inl p), some (.inl bits), some (.inl b), some (.inl i)] [] M
  | 0, i, b, hi, h1, h0, hbi, hK => by
    have b1 := hb b
    have e1 := hT.1 b h0 (by omega)
    refine m_best_z (by omega) hT hb b (by omega) (by omega) ?_ (6 - i).toNat i (by omega) (by omega)
    rw [e1]
    exact hK
  | m + 1, i, b, hi, h1, h0, hbi, hK => by
    have b1 := hb b
    have b2 := hb i
    have e1 := hT.1 b h0 (by omega)
    have e2 := hT.1 i (by omega) (by omega)
    have er : vB T (m + 1) i b = if T b < T i then vB T m (i + 1) i else vB T m (i + 1) b := rfl
    rw [fe_212_90, e1, e2]
    (repeat (first | (with_reducible refine zC_i ?hob ?_; case hob => first | assumption | decide | exact zr (by omega) (by omega) | exact zs (by omega) (by omega) | exact zd (by omega) (by omega)) | (with_reducible refine zIfT ?hob ?_; case hob => first | assumption | omega | decide) | (with_reducible refine zIfF ?hob ?_; case hob => first | assumption | omega | decide)))
    refine ⟨fun c => ?_, fun c => ?_⟩
    · rw [er, if_neg (show ¬ T b < T i by omega)] at hK
      exact m_best_l hn hT hb m (i + 1) b (by omega) (by omega) h0 (by omega) hK
    · rw [er, if_pos (show T b < T i by omega)] at hK
      exact m_best_l hn hT hb m (i + 1) i (by omega) (by omega) (by omega) (by omega) hK
theorem vL_0 {od : Int → Int} {bits : Int} : ∀ (v : Nat) (s : Int) (T : Int → Int), (vL od bits 0 v s T).1 (-1) = T (-1) + v
  | 0, s, T => by
    show T (-1) = T (-1) + 0
    omega
  | v + 1, s, T => by
    have ih := vL_0 (od := od) (bits := bits) v s (tUp T (-1))
    have e : tUp T (-1) (-1) = T (-1) + 1 := if_pos rfl
    show (vL od bits 0 v s (tUp T (-1))).1 (-1) = T (-1) + ((v + 1 : Nat) : Int)
    omega
theorem m_votes {d : Nat} {M : Mm} {K : Kt} {od : Int → Int} {p bits n vs : Int} (hb : 0 ≤ bits ∧ bits < 64) (hn : 0 ≤ n ∧ n ≤ 6) (hvs : 1 ≤ vs ∧ vs ≤ 9) (hv : M 154 48 = vs) (h37 : M 154 37 = n) (hod : ∀ k, 0 ≤ k → k < n → M 172 k = od k ∧ 1 ≤ od k ∧ od k ≤ 100) (hs : 0 ≤ M 154 47 ∧ M 154 47 < 2147483648) (hK : ∀ M', (∀ c, c ≠ 154 → c ≠ 186 → M' c = M c) → (∀ j, j ≠ 47 → j ≠ 50 → M' 154 j = M 154 j) → M' 154 50 = M 154 50 + vs → M' 154 47 = (vRes od bits n.toNat vs.toNat (M 154 47)).2 → K (vRes od bits n.toNat vs.toNat (M 154 47)).1 M') : zWp (zSp (d + 2)) 212 K 8 [some (.inr (.inr 154)), some (.inl p), some (.inl bits), some (.inl 0), none] [] M := by
  refine m_tally0 7 M 0 rfl (by omega) (fun j c1 c2 => by omega) ?_
  intro M1 f1 f2
  have h154 : M1 154 = M 154 := f2 154 (by decide)
  refine m_vote_l hb hn hvs.2 vs.toNat M1 (fun _ => 0) 0 _ (by omega) (by omega) (by rw [h154]; exact hv) (by rw [h154]; exact h37) (by rw [f2 172 (by decide)]; exact hod) (by rw [h154]; exact hs) ⟨fun i i0 i1 => f1 i i0 (by omega), fun i i0 i1 => f1 i (by omega) (by omega), f1 6 (by omega) (by omega)⟩ ?_
  rw [h154]
  intro M' k1 k2 k3 k4 k5
  have vb := vL_b (od := od) (bits := bits) (n := n.toNat) vs.toNat (M 154 47) (fun _ => 0) 0 hs (fun _ => ⟨Int.le_refl 0, Int.le_refl 0⟩)
  have hK := hK M' (fun c c1 c2 => by rw [k1 c c1 c2, f2 c c2]) k2 k3 k4
  unfold vRes vV at hK
  by_cases c : n = 0
  · rw [if_pos (by omega)] at hK
    have v0 := vL_0 (od := od) (bits := bits) vs.toNat (M 154 47) (fun _ => 0)
    have e0 : M' 186 0 = 0 := k5.2.1 0 (by omega) (by omega)
    have en : n.toNat = 0 := by omega
    refine m_best_z hn k5 (fun i => by have := vb.1 i; omega) 0 (by omega) (by omega) ?_ 5 1 rfl (by omega)
    rw [e0, en, if_pos (by omega)]
    exact hK
  · rw [if_neg (by omega)] at hK
    exact m_best_l (by omega) k5 (fun i => by have := vb.1 i; omega) (n.toNat - 1) 1 0 (by omega) (by omega) (by omega) (by omega) hK
