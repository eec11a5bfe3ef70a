/-! LAYER 3: a sort is read by the reference -/
def mRs (G M : Mm) : Prop := M 159 193 = G 4 1 ∧ ∀ s, 0 ≤ s → s < G 4 1 → M 161 s = G 11 s
/-- what the reference changes when it reads a text -/
def nH (M M' : Mm) : Prop := (∀ c, c ≠ 154 → c ≠ 159 → c ≠ 160 → c ≠ 161 → M' c = M c) ∧ (∀ j, (j < 4 ∨ 13 < j ∨ j = 8 ∨ j = 9) → M' 154 j = M 154 j)
theorem nH_refl {M : Mm} : nH M M := ⟨fun _ _ _ _ _ => rfl, fun _ _ => rfl⟩
theorem nH_trans {M M' M'' : Mm} (h : nH M M') (h' : nH M' M'') : nH M M'' := ⟨fun c a b e f => by rw [h'.1 c a b e f, h.1 c a b e f], fun j hj => by rw [h'.2 j hj, h.2 j hj]⟩
theorem nH_of {M M' : Mm} (h : nG M M') : nH M M' := ⟨fun c a _ _ _ => h.1 c a, fun j hj => h.2 j (by omega) (by omega) (by omega) (by omega) (by omega) (by omega)⟩
theorem nH_bad {M : Mm} {k q : Int} : nH M (zUp (zUp M 154 6 k) 154 7 q) := ⟨fun c a _ _ _ => by rw [zUp_away a, zUp_away a], fun j hj => by rw [zUp_there (by omega), zUp_there (by omega)]⟩
/-- a fault stands -/
def mFl (T : Int → Int) (n : Int) (M : Mm) (k q : Int) : Prop := M 154 6 = k ∧ M 154 7 = q ∧ ∃ p w, mTk T n p w M
theorem mFl_i {T : Int → Int} {n p k q : Int} {w : Bool} {M : Mm} (h : mTk T n p w M) : mFl T n (zUp (zUp M 154 6 k) 154 7 q) k q := ⟨by rw [zUp_there (by decide), zUp_here], zUp_here, p, w, mTk_bad h⟩
theorem m_ssort_l {d : Nat} {M G : Mm} {K : Kt} {v : Int} (hv : zR64 v = true) (hg : gLn G) (hr : mRs G M) (hN : fd (G 11) v (G 4 1).toNat 0 = -1 → zWp (zSp d) 164 K 16 [some (.inr (.inr 154)), some (.inr (.inl v)), none, some (.inl (G 4 1))] [] M) (hY : ∀ s, s ≠ -1 → fd (G 11) v (G 4 1).toNat 0 = s → K s M) : ∀ (m : Nat) (i : Int), i + m = G 4 1 → 0 ≤ i → fd (G 11) v m i = fd (G 11) v (G 4 1).toNat 0 → zWp (zSp d) 164 K 16 [some (.inr (.inr 154)), some (.inr (.inl v)), none, some (.inl i)] [] M
  | 0, i, hm, hi, he => by
    rw [show i = G 4 1 by omega]
    exact hN he.symm
  | m + 1, i, hm, hi, he => by
    have c0 := hg.1
    have nb := hg.2.2 i hi (by omega)
    have he : (if G 11 i = v then i else fd (G 11) v m (i + 1)) = fd (G 11) v (G 4 1).toNat 0 := he
    rw [fe_164_16, hr.1, hr.2 i hi (by omega)]
    refine zC_i (zr (by omega) (by omega)) (zC_i (zr (by omega) (by omega)) ⟨fun c => absurd c (by omega), fun _ => zC_i (zs (by omega) (by omega)) (zC_i (zr64 (by omega) (by omega)) (zC_i hv (zC_i zLcmp_r ⟨fun c => ?_, fun c => ?_⟩)))⟩)
    · rw [if_neg (fun e => c (zLcmp_eq.mpr e))] at he
      exact m_ssort_l hv hg hr hN hY m (i + 1) (by omega) (by omega) he
    · rw [if_pos (zLcmp_eq.mp (Decidable.not_not.mp c))] at he
      exact hY i (by omega) he.symm
theorem m_sortRead {d : Nat} {T : Int → Int} {n p : Int} {w : Bool} {M G : Mm} {K : Kt} (hT : tpOk T n) (hg : gLn G) (hr : mRs G M) (h : mTk T n p w M) (hb : M 154 6 = 0)
    (hK0 : ∀ M' k, (k = 1 ∨ k = 4) → gSr T n p w G = -k → mFl T n M' k (tQ T n p) → nH M M' → K 0 M')
    (hK1 : ∀ M', isNm T n p w → 0 ≤ gSr T n p w G → mTk T n (tEn T n p) true M' → M' 154 6 = 0 → mRs (gSg T n p G) M' → (∀ j, j ≠ 193 → M' 159 j = M 159 j) → M' 160 = M 160 → nH M M' → K (gSr T n p w G) M') : zSp (d + 6) 164 [.inr (.inr 154)] M K := by
  have c0 := hg.1
  have p0 := h.2.1
  rw [me_164]
  unfold gSr gSg at *
  refine m_name (d := d) hT h hb ?_ ?_
  · intro M1 k1 k2 f1 f2 f3
    have c : isNm T n p w := ⟨k1, k2⟩
    rw [if_pos c] at hK0 hK1
    have vb := tVa_1 p0.2 k1
    have b1 : M1 154 6 = 0 := by rw [nG_bad f2]; exact hb
    have r1 : mRs G M1 := by unfold mRs; rw [f2.1 159 (by decide), f2.1 161 (by decide)]; exact hr
    refine m_fine b1 ?_
    refine zC_i (by decide) ⟨fun _ => ?_, fun q => absurd (by decide) q⟩
    refine m_ssort_l (G := G) (zr64 (by omega) (by omega)) hg r1 ?_ ?_ (G 4 1).toNat 0 (by omega) (by omega) rfl
    · intro q
      have q : gSf G (tVa T n p) = -1 := q
      rw [if_pos q] at hK0 hK1
      rw [if_pos q] at hK1
      rw [fe_164_16, r1.1]
      refine zC_i (zr (by omega) (by omega)) (zC_i (zr (by omega) (by omega)) ⟨fun _ => zC_i (zr (by omega) (by omega)) ⟨fun q6 => ?_, fun q6 => ?_⟩, fun c => absurd (by omega) c⟩)
      · rw [if_neg q6] at hK0 hK1
        rw [fe_164_69]
        refine m_fine b1 ?_
        refine zC_i (by decide) ⟨fun _ => ?_, fun q => absurd (by decide) q⟩
        rw [r1.1]
        refine zC_i (zs (by omega) (by omega)) ?_
        rw [show G 4 1 + 1 - 1 = G 4 1 by omega]
        refine hK1 _ c (by omega) (mTk_fr f1 (by rw [zUp_away (by decide), zUp_away (by decide)]) (by rw [zUp_away (by decide), zUp_away (by decide)]) (by rw [zUp_away (by decide), zUp_away (by decide)]) (by rw [zUp_away (by decide), zUp_away (by decide)])) (by rw [zUp_away (by decide), zUp_away (by decide)]; exact b1) ⟨by rw [zUp_here, zUp_here], fun s s0 s1 => ?_⟩ (fun j hj => by rw [zUp_there hj, zUp_away (by decide), f2.1 159 (by decide)]) (by rw [zUp_away (by decide), zUp_away (by decide), f2.1 160 (by decide)]) ⟨fun c a b e f => by rw [zUp_away b, zUp_away f, f2.1 c a], fun j hj => by rw [zUp_away (by decide), zUp_away (by decide)]; exact (nH_of f2).2 j hj⟩
        rw [zUp_here] at s1
        rw [zUp_away (by decide), zUp_away (show (11 : Nat) ≠ 4 by decide), zUp_hit, zUp_hit]
        by_cases e : s = G 4 1
        · rw [if_pos e, if_pos e]
        · rw [if_neg e, if_neg e]
          exact r1.2 s s0 (by omega)
      · have q6 := Decidable.not_not.mp q6
        rw [if_pos q6] at hK0
        rw [f3]
        refine m_fail b1 ?_
        rw [fe_164_69]
        refine m_unfine (by rw [zUp_there (by decide), zUp_here]; decide) ?_
        refine zC_i (by decide) ⟨fun q => absurd rfl q, fun _ => ?_⟩
        exact hK0 _ 4 (.inr rfl) rfl (mFl_i f1) (nH_trans (nH_of f2) nH_bad)
    · intro s sn es
      have es : gSf G (tVa T n p) = s := es
      have sf := gSf_s (v := tVa T n p) hg
      rw [if_neg (by omega), es] at hK1
      rw [if_neg (by omega)] at hK1
      exact hK1 M1 c (by omega) f1 b1 r1 (fun j _ => by rw [f2.1 159 (by decide)]) (f2.1 160 (by decide)) (nH_of f2)
  · intro M1 c f1 f2 f3
    rw [if_neg c] at hK0
    refine m_unfine (by rw [zUp_there (by decide), zUp_here]; decide) ?_
    refine zC_i (by decide) ⟨fun q => absurd rfl q, fun _ => ?_⟩
    exact hK0 _ 1 (.inl rfl) rfl (mFl_i f1) (nH_trans (nH_of f2) nH_bad)
/-- behind a fault no sort is read -/
theorem m_unsort {d : Nat} {T : Int → Int} {n k q : Int} {M : Mm} {K : Kt} (hT : tpOk T n) (h : mFl T n M k q) (hk : 1 ≤ k ∧ k ≤ 5) (hK : ∀ M', mFl T n M' k q → nH M M' → K 0 M') : zSp (d + 6) 164 [.inr (.inr 154)] M K := by
  obtain ⟨h1, h2, p, w, h3⟩ := h
  rw [me_164]
  refine m_unname (d := d) hT h3 (by omega) ?_
  intro M1 f1 f2
  have b1 : M1 154 6 = k := by rw [nG_bad f2]; exact h1
  refine m_unfine (by omega) ?_
  exact zC_i (by decide) ⟨fun q => absurd rfl q, fun _ => hK M1 ⟨b1, by rw [f2.2 7 (by decide) (by decide) (by decide) (by decide) (by decide) (by decide)]; exact h2, p, w, f1⟩ (nH_of f2)⟩
