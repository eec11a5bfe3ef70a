/-! LAYER 3: a line is read by the reference -/
def mR (G M : Mm) : Prop := mRs G M ∧ M 159 192 = G 4 0 ∧ (∀ l, 0 ≤ l → l < G 4 0 → (M 160 l = G 5 l ∧ M 159 (8 * l + 0) = G 7 l ∧ M 159 (8 * l + 1) = G 6 l ∧ M 159 (8 * l + 2) = G 8 l ∧ M 159 (8 * l + 3) = G 9 l ∧ mPt G M l)) ∧ (∀ l, G 4 0 ≤ l → l < 24 → M 159 (8 * l + 2) = 0 ∧ M 159 (8 * l + 3) = 0)
def mPo (T : Int → Int) (n : Int) (K : Kt) (M : Mm) (r : Gr) : Prop := (∀ M', r.1 ≠ 0 → mFl T n M' r.1 r.2.1 → nH M M' → K 0 M') ∧ (∀ M', r.1 = 0 → mTk T n r.2.2.2.1 r.2.2.2.2 M' → M' 154 6 = 0 → mR r.2.2.1 M' → nH M M' → K 0 M')
theorem mPo_q {T : Int → Int} {n : Int} {K : Kt} {M M1 : Mm} {r : Gr} (h : mPo T n K M r) (q : nH M M1) : mPo T n K M1 r := ⟨fun M' a b c => h.1 M' a b (nH_trans q c), fun M' a b c e f => h.2 M' a b c e (nH_trans q f)⟩
theorem mR_fr {G M M' : Mm} (h : mR G M) (f1 : M' 159 = M 159) (f2 : M' 160 = M 160) (f3 : M' 161 = M 161) : mR G M' := by
  unfold mR mRs mPt at *
  rw [f1, f2, f3]
  exact h
theorem m_names_l {d : Nat} {T : Int → Int} {n v q x1 : Int} {M G : Mm} {K : Kt} (hv : zR64 v = true) (hg : gLn G) (hr : mR G M) (hb : M 154 6 = 0) (h12 : M 154 12 = q) (hk : ∃ p w, mTk T n p w M)
    (hN : gLf G v = -1 → ∀ x5, zWp (zSp (d + 1)) 166 K 130 [some (.inr (.inr 154)), some (.inl x1), some (.inl (G 4 0)), some (.inr (.inl v)), none, some (.inl x5)] [] M)
    (hY : ∀ M' x5, gLf G v ≠ -1 → mFl T n M' 3 q → nH M M' → zWp (zSp (d + 1)) 166 K 130 [some (.inr (.inr 154)), some (.inl x1), some (.inl (G 4 0)), some (.inr (.inl v)), none, some (.inl x5)] [] M') : ∀ (m : Nat) (i : Int), i + m = G 4 0 → 0 ≤ i → fd (G 5) v m i = gLf G v → zWp (zSp (d + 1)) 166 K 90 [some (.inr (.inr 154)), some (.inl x1), some (.inl (G 4 0)), some (.inr (.inl v)), none, some (.inl i)] [] M
  | 0, i, hm, hi, he => by
    have c0 := hg.1
    rw [fe_166_90]
    exact zC_i (zr (by omega) (by omega)) (zC_i (zr (by omega) (by omega)) ⟨fun _ => hN he.symm i, fun c => absurd (by omega) c⟩)
  | m + 1, i, hm, hi, he => by
    have c0 := hg.1
    have nb := (hg.2.1 i hi (by omega)).1
    have he : (if G 5 i = v then i else fd (G 5) v m (i + 1)) = gLf G v := he
    rw [fe_166_90]
    refine zC_i (zr (by omega) (by omega)) (zC_i (zr (by omega) (by omega)) ⟨fun c => absurd c (by omega), fun _ => m_fine hb ?_⟩)
    rw [(hr.2.2.1 i hi (by omega)).1, h12]
    refine zC_i (by decide) ⟨fun q => absurd q (by decide), fun _ => zC_i (zs (by omega) (by omega)) (zC_i (zr64 (by omega) (by omega)) (zC_i hv (zC_i zLcmp_r ⟨fun c => ?_, fun c => ?_⟩)))⟩
    · rw [if_neg (fun e => c (zLcmp_eq.mpr e))] at he
      exact m_names_l hv hg hr hb h12 hk hN hY m (i + 1) (by omega) (by omega) he
    · rw [if_pos (zLcmp_eq.mp (Decidable.not_not.mp c))] at he
      obtain ⟨p, w, hk⟩ := hk
      refine m_fail hb ?_
      have hy := fun x5 => hY (zUp (zUp M 154 6 3) 154 7 q) x5 (by omega) (mFl_i hk) nH_bad
      rw [fe_166_90]
      refine zC_i (zr (by omega) (by omega)) (zC_i (zr (by omega) (by omega)) ⟨fun _ => hy _, fun _ => m_unfine (by rw [zUp_there (by decide), zUp_here]; decide) ?_⟩)
      exact zC_i (by decide) ⟨fun _ => hy _, fun q => absurd rfl q⟩
/-- behind a fault the line is not read on -/
theorem m_unline {d : Nat} {T : Int → Int} {n k q x1 x2 x3 x5 : Int} {M : Mm} {K : Kt} (hT : tpOk T n) (h : mFl T n M k q) (hk : 1 ≤ k ∧ k ≤ 5) (hK : ∀ M', mFl T n M' k q → nH M M' → K 0 M') : zWp (zSp (d + 6)) 166 K 130 [some (.inr (.inr 154)), some (.inl x1), some (.inl x2), some (.inr (.inl x3)), none, some (.inl x5)] [] M := by
  rw [fe_166_130]
  refine m_unsort (d := d) hT h hk ?_
  intro M1 h1 n1
  refine m_unfine (by rw [h1.1]; exact hk) ?_
  exact zC_i (by decide) ⟨fun q => absurd rfl q, fun _ => hK M1 h1 n1⟩
/-- the ; of a line -/
theorem m_close {d : Nat} {T : Int → Int} {n p x1 x2 x3 x5 : Int} {w : Bool} {M G : Mm} {K : Kt} (hT : tpOk T n) (h : mTk T n p w M) (hb : M 154 6 = 0) (hr : ∀ M' : Mm, M' 159 = (zUp M 159 192 (M 159 192 + 1)) 159 → M' 160 = M 160 → M' 161 = M 161 → mR G M') (hP : mPo T n K M (gCl T n G p w)) : zWp (zSp (d + 4)) 166 K 188 [some (.inr (.inr 154)), some (.inl x1), some (.inl x2), some (.inr (.inl x3)), none, some (.inl x5)] [] M := by
  unfold gCl at hP
  rw [fe_166_188]
  refine m_needsSign (d := d) hT h hb (by unfold sgn; decide) ?_ ?_
  · intro M1 c1 c2 f1 f2
    rw [if_pos ⟨c1, c2⟩] at hP
    refine hP.2 _ rfl (mTk_fr f1 (by rw [zUp_away (by decide)]) (by rw [zUp_away (by decide)]) (by rw [zUp_away (by decide)]) (by rw [zUp_away (by decide)])) (by rw [zUp_away (by decide), nF_bad f2]; exact hb) (hr _ ?_ (by rw [zUp_away (by decide), f2.1 160 (by decide)]) (by rw [zUp_away (by decide), f2.1 161 (by decide)])) (nH_trans (nH_of (nG_of f2)) ⟨fun c _ b _ _ => zUp_away b, fun j _ => by rw [zUp_away (by decide)]⟩)
    funext j
    rw [zUp_hit, zUp_hit, f2.1 159 (by decide)]
  · intro M1 c f1 f2
    rw [if_neg c] at hP
    refine hP.1 _ (show (1 : Int) ≠ 0 by decide) ?_ ?_
    · have := mFl_i (k := 1) (q := tQ T n p) f1
      exact ⟨by rw [zUp_away (by decide)]; exact this.1, by rw [zUp_away (by decide)]; exact this.2.1, p, w, mTk_fr (mTk_bad f1) (by rw [zUp_away (by decide)]) (by rw [zUp_away (by decide)]) (by rw [zUp_away (by decide)]) (by rw [zUp_away (by decide)])⟩
    · exact nH_trans (nH_of (nG_of f2)) (nH_trans nH_bad ⟨fun c _ b _ _ => zUp_away b, fun j _ => by rw [zUp_away (by decide)]⟩)
theorem m_unclose {d : Nat} {T : Int → Int} {n k q x1 x2 x3 x5 : Int} {M : Mm} {K : Kt} (h : mFl T n M k q) (hk : 1 ≤ k ∧ k ≤ 5) (hK : ∀ M', mFl T n M' k q → nH M M' → K 0 M') : zWp (zSp (d + 2)) 166 K 188 [some (.inr (.inr 154)), some (.inl x1), some (.inl x2), some (.inr (.inl x3)), none, some (.inl x5)] [] M := by
  obtain ⟨h1, h2, p, w, h3⟩ := h
  rw [fe_166_188]
  refine m_unneeds (by omega) ?_
  exact hK _ ⟨by rw [zUp_away (by decide)]; exact h1, by rw [zUp_away (by decide)]; exact h2, p, w, mTk_fr h3 (by rw [zUp_away (by decide)]) (by rw [zUp_away (by decide)]) (by rw [zUp_away (by decide)]) (by rw [zUp_away (by decide)])⟩ ⟨fun c _ b _ _ => zUp_away b, fun j _ => by rw [zUp_away (by decide)]⟩
