/-! LAYER 3: the tape -/
theorem zUp_app {M : Mm} {a a' : Nat} {i i' v : Int} : zUp M a i v a' i' = if a' = a then (if i' = i then v else M a i') else M a' i' := rfl
theorem zUp_hit {M : Mm} {a : Nat} {i i' v : Int} : zUp M a i v a i' = if i' = i then v else M a i' := by
  rw [zUp_app, if_pos rfl]
theorem zUp_here {M : Mm} {a : Nat} {i v : Int} : zUp M a i v a i = v := by
  rw [zUp_hit, if_pos rfl]
theorem zUp_there {M : Mm} {a : Nat} {i i' v : Int} (h : i' ≠ i) : zUp M a i v a i' = M a i' := by
  rw [zUp_hit, if_neg h]
theorem zUp_away {M : Mm} {a a' : Nat} {i v : Int} (h : a' ≠ a) : zUp M a i v a' = M a' := zUp_ne a' h
theorem zBy_i {x : Int} : zBy (zB8 x) = true := by
  unfold zBy zB8
  have h1 : -128 ≤ (x + 128) % 256 - 128 := by omega
  have h2 : (x + 128) % 256 - 128 ≤ 127 := by omega
  simp only [h1, h2, decide_true, Bool.and_self]
theorem zB8_b {x : Int} : -128 ≤ zB8 x ∧ zB8 x ≤ 127 := by
  unfold zB8
  omega
def tFour (B : Int → Int) (n v : Int) : Int → Int := fun i => if i = n + 3 then zB8 (v / 2 ^ (0 : Int).toNat) else if i = n + 2 then zB8 (v / 2 ^ (8 : Int).toNat) else if i = n + 1 then zB8 (v / 2 ^ (16 : Int).toNat) else if i = n then zB8 (v / 2 ^ (24 : Int).toNat) else B i
theorem x_append {d : Nat} {M : Mm} {K : Kt} {v n : Int} (hv : zR32 v = true) (hn : M 2 1 = n) (h0 : 0 ≤ n) (h1 : n + 4 ≤ 1000)
    (hK : ∀ M', M' 2 1 = n + 4 → (∀ i, i ≠ 1 → M' 2 i = M 2 i) → M' 3 = tFour (M 3) n v → (∀ a, a ≠ 2 → a ≠ 3 → M' a = M a) → K 0 M') : zSp (d + 1) 64 [.inr (.inr 2), .inl v] M K := by
  rw [me_64, fe_64_3]
  refine zC_i (by decide) ⟨fun c => absurd c (by decide), fun _ => zC_i (zr (by omega) (by omega)) ⟨fun c => absurd c (by omega), fun _ => zC_i hv (zC_i (by decide) (zC_i (zs (by omega) (by omega)) (zC_i zBy_i ?_)))⟩⟩
  rw [fe_64_3]
  simp only [zUp_here, zUp_away (show (2 : Nat) ≠ 3 by decide), hn]
  refine zC_i (by decide) ⟨fun c => absurd c (by decide), fun _ => zC_i (zr (by omega) (by omega)) ⟨fun c => absurd c (by omega), fun _ => zC_i hv (zC_i (by decide) (zC_i (zs (by omega) (by omega)) (zC_i zBy_i ?_)))⟩⟩
  rw [fe_64_3]
  simp only [zUp_here, zUp_away (show (2 : Nat) ≠ 3 by decide)]
  refine zC_i (by decide) ⟨fun c => absurd c (by decide), fun _ => zC_i (zr (by omega) (by omega)) ⟨fun c => absurd c (by omega), fun _ => zC_i hv (zC_i (by decide) (zC_i (zs (by omega) (by omega)) (zC_i zBy_i ?_)))⟩⟩
  rw [fe_64_3]
  simp only [zUp_here, zUp_away (show (2 : Nat) ≠ 3 by decide)]
  refine zC_i (by decide) ⟨fun c => absurd c (by decide), fun _ => zC_i (zr (by omega) (by omega)) ⟨fun c => absurd c (by omega), fun _ => zC_i hv (zC_i (by decide) (zC_i (zs (by omega) (by omega)) (zC_i zBy_i ?_)))⟩⟩
  rw [fe_64_3]
  refine zC_i (by decide) ⟨fun _ => ?_, fun c => absurd (by decide) c⟩
  refine hK _ ?_ ?_ ?_ ?_
  · rw [zUp_here]; omega
  · intro i hi
    simp only [zUp_there hi, zUp_away (show (2 : Nat) ≠ 3 by decide)]
  · funext i
    simp only [zUp_away (show (3 : Nat) ≠ 2 by decide), zUp_hit, tFour, Int.add_assoc]
    rfl
  · intro a h2 h3
    simp only [zUp_away h2, zUp_away h3]
theorem m_four {d : Nat} {M : Mm} {K : Kt} {v n : Int} (hv : zR32 v = true) (hn : M 154 2 = n) (h0 : 0 ≤ n) (h1 : n + 4 ≤ 1000)
    (hK : ∀ M', M' 154 2 = n + 4 → (∀ i, i ≠ 2 → M' 154 i = M 154 i) → M' 155 = tFour (M 155) n v → (∀ a, a ≠ 154 → a ≠ 155 → M' a = M a) → K 0 M') : zSp (d + 1) 139 [.inr (.inr 154), .inl v] M K := by
  rw [me_139, fe_139_3]
  refine zC_i (by decide) ⟨fun c => absurd c (by decide), fun _ => zC_i hv (zC_i (by decide) (zC_i (zs (by omega) (by omega)) (zC_i zBy_i ?_)))⟩
  rw [fe_139_3]
  simp only [zUp_here, zUp_away (show (154 : Nat) ≠ 155 by decide), hn]
  refine zC_i (by decide) ⟨fun c => absurd c (by decide), fun _ => zC_i hv (zC_i (by decide) (zC_i (zs (by omega) (by omega)) (zC_i zBy_i ?_)))⟩
  rw [fe_139_3]
  simp only [zUp_here, zUp_away (show (154 : Nat) ≠ 155 by decide)]
  refine zC_i (by decide) ⟨fun c => absurd c (by decide), fun _ => zC_i hv (zC_i (by decide) (zC_i (zs (by omega) (by omega)) (zC_i zBy_i ?_)))⟩
  rw [fe_139_3]
  simp only [zUp_here, zUp_away (show (154 : Nat) ≠ 155 by decide)]
  refine zC_i (by decide) ⟨fun c => absurd c (by decide), fun _ => zC_i hv (zC_i (by decide) (zC_i (zs (by omega) (by omega)) (zC_i zBy_i ?_)))⟩
  rw [fe_139_3]
  refine zC_i (by decide) ⟨fun _ => ?_, fun c => absurd (by decide) c⟩
  refine hK _ ?_ ?_ ?_ ?_
  · rw [zUp_here]; omega
  · intro i hi
    simp only [zUp_there hi, zUp_away (show (154 : Nat) ≠ 155 by decide)]
  · funext i
    simp only [zUp_away (show (155 : Nat) ≠ 154 by decide), zUp_hit, tFour, Int.add_assoc]
    rfl
  · intro a h2 h3
    simp only [zUp_away h2, zUp_away h3]
def tFive (B : Int → Int) (n a b c d e : Int) : Int → Int := tFour (tFour (tFour (tFour (tFour B n a) (n + 4) b) (n + 8) c) (n + 12) d) (n + 16) e
theorem x_feed {d : Nat} {M : Mm} {K : Kt} {n a b c e f : Int} (ha : zR32 a = true) (hb : zR32 b = true) (hc : zR32 c = true) (he : zR32 e = true) (hf : zR32 f = true) (hn : M 2 1 = n) (h0 : 0 ≤ n) (h1 : n ≤ 1000)
    (hK1 : ¬ n + 20 ≤ 1000 → K (-1) M)
    (hK2 : n + 20 ≤ 1000 → ∀ M', M' 2 1 = n + 20 → (∀ i, i ≠ 1 → M' 2 i = M 2 i) → M' 3 = tFive (M 3) n a b c e f → (∀ a, a ≠ 2 → a ≠ 3 → M' a = M a) → K (n + 20) M') : zSp (d + 2) 97 [.inr (.inr 0), .inl a, .inl b, .inl c, .inl e, .inl f] M K := by
  rw [me_97]
  refine zC_i (zr (by omega) (by omega)) ⟨fun c1 => ?_, fun c1 => hK1 (by omega)⟩
  refine x_append ha hn h0 (by omega) fun M1 p1 q1 r1 s1 => ?_
  refine x_append hb p1 (by omega) (by omega) fun M2 p2 q2 r2 s2 => ?_
  refine x_append hc p2 (by omega) (by omega) fun M3 p3 q3 r3 s3 => ?_
  refine x_append he p3 (by omega) (by omega) fun M4 p4 q4 r4 s4 => ?_
  refine x_append hf p4 (by omega) (by omega) fun M5 p5 q5 r5 s5 => ?_
  rw [show M5 2 1 = n + 20 by omega]
  refine hK2 (by omega) M5 (by omega) (fun i hi => by rw [q5 i hi, q4 i hi, q3 i hi, q2 i hi, q1 i hi]) ?_ (fun a h2 h3 => by rw [s5 a h2 h3, s4 a h2 h3, s3 a h2 h3, s2 a h2 h3, s1 a h2 h3])
  rw [r5, r4, r3, r2, r1, tFive]
  simp only [Int.add_assoc]
  rfl
theorem m_feed {d : Nat} {M : Mm} {K : Kt} {n a b c e f : Int} (ha : zR32 a = true) (hb : zR32 b = true) (hc : zR32 c = true) (he : zR32 e = true) (hf : zR32 f = true) (hn : M 154 2 = n) (h0 : 0 ≤ n) (h1 : n ≤ 1000)
    (hK1 : ¬ n + 20 ≤ 1000 → K (-1) (zUp M 154 0 0))
    (hK2 : n + 20 ≤ 1000 → ∀ M', M' 154 2 = n + 20 → (∀ i, i ≠ 2 → i ≠ 0 → M' 154 i = M 154 i) → M' 155 = tFive (M 155) n a b c e f → (∀ a, a ≠ 154 → a ≠ 155 → M' a = M a) → K (n + 20) M') : zSp (d + 2) 140 [.inr (.inr 154), .inl a, .inl b, .inl c, .inl e, .inl f] M K := by
  rw [me_140]
  refine zC_i (zr (by omega) (by omega)) ⟨fun c1 => ?_, fun c1 => hK1 (by omega)⟩
  refine m_four ha (by rw [zUp_there (by decide)]; exact hn) h0 (by omega) fun M1 p1 q1 r1 s1 => ?_
  refine m_four hb p1 (by omega) (by omega) fun M2 p2 q2 r2 s2 => ?_
  refine m_four hc p2 (by omega) (by omega) fun M3 p3 q3 r3 s3 => ?_
  refine m_four he p3 (by omega) (by omega) fun M4 p4 q4 r4 s4 => ?_
  refine m_four hf p4 (by omega) (by omega) fun M5 p5 q5 r5 s5 => ?_
  rw [show M5 154 2 = n + 20 by omega]
  refine hK2 (by omega) M5 (by omega) (fun i hi h0 => by rw [q5 i hi, q4 i hi, q3 i hi, q2 i hi, q1 i hi, zUp_there h0]) ?_ (fun a h2 h3 => by rw [s5 a h2 h3, s4 a h2 h3, s3 a h2 h3, s2 a h2 h3, s1 a h2 h3, zUp_away h2])
  rw [r5, r4, r3, r2, r1, tFive, zUp_away (by decide)]
  simp only [Int.add_assoc]
  rfl
def IT (M : Mm) : Prop := 0 ≤ M 2 1 ∧ M 2 1 ≤ 1000 ∧ M 154 2 = M 2 1 ∧ ∀ i, 0 ≤ i → i < M 2 1 → (M 155 i = M 3 i ∧ -128 ≤ M 3 i ∧ M 3 i ≤ 127)
theorem tFour_ok {A B : Int → Int} {n v : Int} (h : ∀ i, 0 ≤ i → i < n → (A i = B i ∧ -128 ≤ B i ∧ B i ≤ 127)) : ∀ i, 0 ≤ i → i < n + 4 → (tFour A n v i = tFour B n v i ∧ -128 ≤ tFour B n v i ∧ tFour B n v i ≤ 127) := by
  intro i h0 h1
  unfold tFour
  by_cases c1 : i = n + 3
  · rw [if_pos c1, if_pos c1]; exact ⟨rfl, zB8_b⟩
  by_cases c2 : i = n + 2
  · rw [if_neg c1, if_neg c1, if_pos c2, if_pos c2]; exact ⟨rfl, zB8_b⟩
  by_cases c3 : i = n + 1
  · rw [if_neg c1, if_neg c1, if_neg c2, if_neg c2, if_pos c3, if_pos c3]; exact ⟨rfl, zB8_b⟩
  by_cases c4 : i = n
  · rw [if_neg c1, if_neg c1, if_neg c2, if_neg c2, if_neg c3, if_neg c3, if_pos c4, if_pos c4]; exact ⟨rfl, zB8_b⟩
  rw [if_neg c1, if_neg c1, if_neg c2, if_neg c2, if_neg c3, if_neg c3, if_neg c4, if_neg c4]
  exact h i h0 (by omega)
theorem tFive_ok {A B : Int → Int} {n a b c d e : Int} (h : ∀ i, 0 ≤ i → i < n → (A i = B i ∧ -128 ≤ B i ∧ B i ≤ 127)) : ∀ i, 0 ≤ i → i < n + 20 → (tFive A n a b c d e i = tFive B n a b c d e i ∧ -128 ≤ tFive B n a b c d e i ∧ tFive B n a b c d e i ≤ 127) := by
  intro i h0 h1
  refine tFour_ok ?_ i h0 (by omega)
  intro i h0 h1
  refine tFour_ok ?_ i h0 (by omega)
  intro i h0 h1
  refine tFour_ok ?_ i h0 (by omega)
  intro i h0 h1
  refine tFour_ok ?_ i h0 (by omega)
  intro i h0 h1
  exact tFour_ok h i h0 (by omega)
