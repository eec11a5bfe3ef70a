/-! LAYER 3: trees. var n: a node without parts; op f s: the tree f with one more last part s -/
abbrev Tr : Type := Lean.Data.AC.Expr
def tSz : Tr → Int
  | .var _ => 1
  | .op f s => tSz f + tSz s
def tKd : Tr → Int
  | .var _ => 0
  | .op f _ => tKd f + 1
def tNm : Tr → Int
  | .var n => n
  | .op f _ => tNm f
def tDp : Tr → Int
  | .var _ => 0
  | .op f s => zMax (tDp f) (tDp s + 1)
theorem tSz_pos : ∀ t : Tr, 1 ≤ tSz t
  | .var _ => Int.le_refl 1
  | .op f s => by
    have h1 := tSz_pos f
    have h2 := tSz_pos s
    show 1 ≤ tSz f + tSz s
    omega
theorem tKd_nn : ∀ t : Tr, 0 ≤ tKd t
  | .var _ => Int.le_refl 0
  | .op f s => by
    have h1 := tKd_nn f
    show 0 ≤ tKd f + 1
    omega
theorem tKd_lt : ∀ t : Tr, tKd t < tSz t
  | .var _ => (by decide : (0 : Int) < 1)
  | .op f s => by
    have h1 := tKd_lt f
    have h2 := tSz_pos s
    show tKd f + 1 < tSz f + tSz s
    omega
theorem tNm_nn : ∀ t : Tr, 0 ≤ tNm t
  | .var n => Int.natCast_nonneg n
  | .op f _ => tNm_nn f
theorem zMax_b {x y : Int} : x ≤ zMax x y ∧ y ≤ zMax x y ∧ (zMax x y = x ∨ zMax x y = y) := by
  unfold zMax
  split <;> omega
theorem tDp_b : ∀ t : Tr, 0 ≤ tDp t ∧ tDp t < tSz t
  | .var _ => ⟨Int.le_refl 0, (by decide : (0 : Int) < 1)⟩
  | .op f s => by
    have h1 := tDp_b f
    have h2 := tDp_b s
    have h3 := @zMax_b (tDp f) (tDp s + 1)
    show 0 ≤ zMax (tDp f) (tDp s + 1) ∧ zMax (tDp f) (tDp s + 1) < tSz f + tSz s
    omega
/-- of each node but the root of the tree laid at i (its level l): place, subtree, parent, which part, level -/
def tAll (Φ : Int → Tr → Int → Int → Int → Prop) : Tr → Int → Int → Prop
  | .var _, _, _ => True
  | .op f s, i, l => tAll Φ f i l ∧ Φ (i + tSz f) s i (tKd f) (l + 1) ∧ tAll Φ s (i + tSz f) (l + 1)
theorem tAll_mono {Φ Ψ : Int → Tr → Int → Int → Int → Prop} : ∀ (t : Tr) (i l : Int), (∀ k u a q v, i < k → k + tSz u ≤ i + tSz t → i ≤ a → a < k → 0 ≤ q → l < v → Φ k u a q v → Ψ k u a q v) → tAll Φ t i l → tAll Ψ t i l
  | .var _, _, _, _, _ => trivial
  | .op f s, i, l, h, hA => by
    have h1 := tSz_pos f
    have h2 := tSz_pos s
    have h3 := tKd_nn f
    obtain ⟨hf, hp, hs⟩ := hA
    refine ⟨tAll_mono f i l (fun k u a q v c1 c2 c3 c4 c5 c6 => h k u a q v c1 ?_ c3 c4 c5 c6) hf, h _ _ _ _ _ ?_ ?_ ?_ ?_ h3 ?_ hp, tAll_mono s _ _ (fun k u a q v c1 c2 c3 c4 c5 c6 => h k u a q v ?_ ?_ ?_ c4 c5 ?_) hs⟩
    all_goals first
      | (show _ ≤ i + (tSz f + tSz s); omega)
      | omega
theorem tAll_and {Φ Ψ : Int → Tr → Int → Int → Int → Prop} : ∀ (t : Tr) (i l : Int), tAll Φ t i l → tAll Ψ t i l → tAll (fun k u a q v => Φ k u a q v ∧ Ψ k u a q v) t i l
  | .var _, _, _, _, _ => trivial
  | .op f s, i, l, h1, h2 => ⟨tAll_and f i l h1.1 h2.1, ⟨h1.2.1, h2.2.1⟩, tAll_and s _ _ h1.2.2 h2.2.2⟩
theorem tAll_triv {Φ : Int → Tr → Int → Int → Int → Prop} (h : ∀ k u a q v, Φ k u a q v) : ∀ (t : Tr) (i l : Int), tAll Φ t i l
  | .var _, _, _ => trivial
  | .op f s, i, l => ⟨tAll_triv h f i l, h _ _ _ _ _, tAll_triv h s _ _⟩
/-- what stands at a place -/
theorem tAll_at : ∀ (t : Tr) (i l k : Int), i < k → k < i + tSz t → ∃ u a q v, i ≤ a ∧ a < k ∧ 0 ≤ q ∧ l < v ∧ k + tSz u ≤ i + tSz t ∧ ∀ Φ : Int → Tr → Int → Int → Int → Prop, tAll Φ t i l → (Φ k u a q v ∧ tAll Φ u k v)
  | .var _, i, l, k, h1, h2 => by
    have h2 : k < i + 1 := h2
    omega
  | .op f s, i, l, k, h1, h2 => by
    have h2 : k < i + (tSz f + tSz s) := h2
    have p1 := tSz_pos f
    have p2 := tSz_pos s
    have p3 := tKd_nn f
    by_cases c1 : k < i + tSz f
    · obtain ⟨u, a, q, v, g1, g2, g3, g4, g5, g6⟩ := tAll_at f i l k h1 c1
      refine ⟨u, a, q, v, g1, g2, g3, g4, ?_, fun Φ hA => g6 Φ hA.1⟩
      show _ ≤ i + (tSz f + tSz s)
      omega
    · by_cases c2 : k = i + tSz f
      · subst c2
        refine ⟨s, i, tKd f, l + 1, by omega, by omega, p3, by omega, ?_, fun Φ hA => hA.2⟩
        show _ ≤ i + (tSz f + tSz s)
        omega
      · obtain ⟨u, a, q, v, g1, g2, g3, g4, g5, g6⟩ := tAll_at s (i + tSz f) (l + 1) k (by omega) (by omega)
        refine ⟨u, a, q, v, by omega, g2, g3, by omega, ?_, fun Φ hA => g6 Φ hA.2.2⟩
        show _ ≤ i + (tSz f + tSz s)
        omega
/-- names and numbers of parts tell the tree -/
theorem tInjP {N P : Int → Int} : ∀ (t t' : Tr) (i l l' : Int), tAll (fun k u _ _ _ => N k = tNm u ∧ P k = tKd u) t i l → tAll (fun k u _ _ _ => N k = tNm u ∧ P k = tKd u) t' i l' → tNm t = tNm t' → tKd t = tKd t' → t = t'
  | .var n, .var m, _, _, _, _, _, hn, _ => by
    have hn : (n : Int) = (m : Int) := hn
    rw [Int.ofNat.inj hn]
  | .var n, .op f' s', _, _, _, _, _, _, hk => by
    have h1 := tKd_nn f'
    have hk : 0 = tKd f' + 1 := hk
    omega
  | .op f s, .var m, _, _, _, _, _, _, hk => by
    have h1 := tKd_nn f
    have hk : tKd f + 1 = 0 := hk
    omega
  | .op f s, .op f' s', i, l, l', hA, hB, hn, hk => by
    have hk : tKd f + 1 = tKd f' + 1 := hk
    have e1 : f = f' := tInjP f f' i l l' hA.1 hB.1 hn (by omega)
    subst e1
    have e2 : s = s' := tInjP s s' (i + tSz f) (l + 1) (l' + 1) hA.2.2 hB.2.2 (by rw [← hA.2.1.1, ← hB.2.1.1]) (by rw [← hA.2.1.2, ← hB.2.1.2])
    rw [e2]
/-- n steps over the sizes lead from c to e -/
def tCh (S : Int → Int) : Nat → Int → Int → Prop
  | 0, c, e => c = e
  | n + 1, c, e => c < e ∧ tCh S n (c + S c) e
theorem tCh_uniq {S : Int → Int} : ∀ (n m : Nat) (c e : Int), tCh S n c e → tCh S m c e → n = m
  | 0, 0, _, _, _, _ => rfl
  | 0, m + 1, c, e, h1, h2 => by
    have h1 : c = e := h1
    have := h2.1
    omega
  | n + 1, 0, c, e, h1, h2 => by
    have h2 : c = e := h2
    have := h1.1
    omega
  | n + 1, m + 1, c, e, h1, h2 => by rw [tCh_uniq n m _ _ h1.2 h2.2]
theorem tCh_snoc {S : Int → Int} : ∀ (n : Nat) (c e e' : Int), tCh S n c e → e < e' → e + S e = e' → tCh S (n + 1) c e'
  | 0, c, e, e', h1, h2, h3 => by
    have h1 : c = e := h1
    subst h1
    exact ⟨h2, h3⟩
  | n + 1, c, e, e', h1, h2, h3 => ⟨Int.lt_trans h1.1 h2, tCh_snoc n _ e e' h1.2 h2 h3⟩
theorem tCh_of {S : Int → Int} : ∀ (t : Tr) (i l : Int), tAll (fun k u _ _ _ => S k = tSz u) t i l → tCh S (tKd t).toNat (i + 1) (i + tSz t)
  | .var _, _, _, _ => rfl
  | .op f s, i, l, h => by
    have p2 := tSz_pos s
    have p3 := tKd_nn f
    have h1 := tCh_of f i l h.1
    rw [show (tKd (.op f s)).toNat = (tKd f).toNat + 1 by show (tKd f + 1).toNat = _; omega]
    have h2 : S (i + tSz f) = tSz s := h.2.1
    refine tCh_snoc _ _ _ _ h1 ?_ ?_
    · show _ < i + (tSz f + tSz s); omega
    · show _ = i + (tSz f + tSz s); omega
theorem tInjS {N S : Int → Int} : ∀ (t t' : Tr) (i l l' : Int), tAll (fun k u _ _ _ => N k = tNm u ∧ S k = tSz u) t i l → tAll (fun k u _ _ _ => N k = tNm u ∧ S k = tSz u) t' i l' → tNm t = tNm t' → tKd t = tKd t' → t = t'
  | .var n, .var m, _, _, _, _, _, hn, _ => by
    have hn : (n : Int) = (m : Int) := hn
    rw [Int.ofNat.inj hn]
  | .var n, .op f' s', _, _, _, _, _, _, hk => by
    have h1 := tKd_nn f'
    have hk : 0 = tKd f' + 1 := hk
    omega
  | .op f s, .var m, _, _, _, _, _, _, hk => by
    have h1 := tKd_nn f
    have hk : tKd f + 1 = 0 := hk
    omega
  | .op f s, .op f' s', i, l, l', hA, hB, hn, hk => by
    have hk : tKd f + 1 = tKd f' + 1 := hk
    have e1 : f = f' := tInjS f f' i l l' hA.1 hB.1 hn (by omega)
    subst e1
    have z : tSz s = tSz s' := by rw [← hA.2.1.2, ← hB.2.1.2]
    have c1 := tCh_of s (i + tSz f) (l + 1) (tAll_mono s _ _ (fun _ _ _ _ _ _ _ _ _ _ _ h => h.2) hA.2.2)
    have c2 := tCh_of s' (i + tSz f) (l' + 1) (tAll_mono s' _ _ (fun _ _ _ _ _ _ _ _ _ _ _ h => h.2) hB.2.2)
    rw [← z] at c2
    have c3 := tCh_uniq _ _ _ _ c1 c2
    have p1 := tKd_nn s
    have p2 := tKd_nn s'
    have e2 : s = s' := tInjS s s' (i + tSz f) (l + 1) (l' + 1) hA.2.2 hB.2.2 (by rw [← hA.2.1.1, ← hB.2.1.1]) (by omega)
    rw [e2]
