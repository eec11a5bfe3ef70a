/-! LAYER 3: names, numbers, signs on both sides -/
theorem m_isName {d : Nat} {T : Int → Int} {n p : Int} {w : Bool} {M : Mm} {K : Kt} (hT : tpOk T n) (h : mTk T n p w M)
    (hK : ∀ M', mTk T n p w M' → nF M M' → (tKi T n p w = 1 → mWd T n p M') → K (fl (tKi T n p w = 1 ∧ ¬ own (tVa T n p))) M') : zSp (d + 4) 161 [.inr (.inr 154)] M K := by
  have p0 := h.2.1
  rw [me_161]
  refine m_sees hT h ?_ ?_
  · intro M1 k1 f1 f2
    have hK := hK M1 f1 f2 (fun q => absurd q k1)
    rw [fl_f (fun q => k1 q.1)] at hK
    exact zC_i (by decide) ⟨fun _ => hK, fun q => absurd rfl q⟩
  · intro M1 f1 f2 f3 f4 f5
    have hK := hK M1 f1 f2 (fun q => (f3 q).2)
    refine zC_i (by decide) ⟨fun q => absurd q (by decide), fun _ => zC_i (zr (by omega) (by omega)) ⟨fun c6 => ?_, fun c6 => ?_⟩⟩
    · have nk : tKi T n p w ≠ 1 := fun q => by have := (f3 q).1; omega
      rw [fl_f (fun q => nk q.1)] at hK
      exact hK
    · have k1 : tKi T n p w = 1 := by
        by_cases k1 : tKi T n p w = 1
        · exact k1
        · have := f4 k1; omega
      have wd := (f3 k1).2
      have vb := tVa_1 p0.2 k1
      refine m_isOwn (d := d + 1) wd.2.2 (zr64 (by omega) (by omega)) ?_
      by_cases o : own (tVa T n p)
      · rw [fl_t o]
        rw [fl_f (fun q => q.2 o)] at hK
        exact zC_i (by decide) ⟨fun _ => hK, fun q => absurd (by decide) q⟩
      · rw [fl_f o]
        rw [fl_t ⟨k1, o⟩] at hK
        exact zC_i (by decide) ⟨fun q => absurd rfl q, fun _ => hK⟩
theorem m_unlike {d : Nat} {T : Int → Int} {n p : Int} {w : Bool} {M : Mm} {K : Kt} (hT : tpOk T n) (h : mTk T n p w M) (hb : M 154 6 = 0)
    (hK : ∀ M1, mTk T n p w M1 → nF M M1 → K 0 (zUp (zUp M1 154 6 1) 154 7 (tQ T n p))) : zSp (d + 2) 151 [.inr (.inr 154)] M K := by
  rw [me_151]
  refine m_next hT h ?_
  intro M1 f1 f2 f3 f4
  have nf := nx_nF f3 f4
  refine m_fail (by rw [nF_bad nf]; exact hb) ?_
  exact hK M1 f1 nf
theorem m_ununlike {d : Nat} {T : Int → Int} {n p : Int} {w : Bool} {M : Mm} {K : Kt} (hT : tpOk T n) (h : mTk T n p w M) (hb : 1 ≤ M 154 6 ∧ M 154 6 ≤ 5)
    (hK : ∀ M1, mTk T n p w M1 → nF M M1 → K 0 M1) : zSp (d + 2) 151 [.inr (.inr 154)] M K := by
  rw [me_151]
  refine m_next hT h ?_
  intro M1 f1 f2 f3 f4
  have nf := nx_nF f3 f4
  exact m_unfail (by rw [nF_bad nf]; exact hb) (hK M1 f1 nf)
theorem mTk_bad {T : Int → Int} {n p k q : Int} {w : Bool} {M : Mm} (h : mTk T n p w M) : mTk T n p w (zUp (zUp M 154 6 k) 154 7 q) := mTk_fr h (by rw [zUp_away (by decide), zUp_away (by decide)]) (by rw [zUp_there (by decide), zUp_there (by decide)]) (by rw [zUp_there (by decide), zUp_there (by decide)]) (by rw [zUp_there (by decide), zUp_there (by decide)])
/-- what reading a name or a number changes -/
def nG (M M' : Mm) : Prop := (∀ c, c ≠ 154 → M' c = M c) ∧ (∀ j, j ≠ 4 → j ≠ 5 → j ≠ 10 → j ≠ 11 → j ≠ 12 → j ≠ 13 → M' 154 j = M 154 j)
theorem nG_refl {M : Mm} : nG M M := ⟨fun _ _ => rfl, fun _ _ _ _ _ _ _ => rfl⟩
theorem nG_of {M M' : Mm} (h : nF M M') : nG M M' := ⟨h.1, fun j a b c d _ _ => h.2 j a b c d⟩
theorem nG_trans {M M' M'' : Mm} (h : nG M M') (h' : nG M' M'') : nG M M'' := ⟨fun c hc => by rw [h'.1 c hc, h.1 c hc], fun j a b c d e f => by rw [h'.2 j a b c d e f, h.2 j a b c d e f]⟩
theorem nG_bad {M M' : Mm} (h : nG M M') : M' 154 6 = M 154 6 := h.2 6 (by decide) (by decide) (by decide) (by decide) (by decide) (by decide)
theorem nG_up {M M' : Mm} {j v : Int} (h : nG M M') (hj : j = 4 ∨ j = 5 ∨ j = 10 ∨ j = 11 ∨ j = 12 ∨ j = 13) : nG M (zUp M' 154 j v) := ⟨fun c hc => by rw [zUp_away hc, h.1 c hc], fun i a b c d e f => by rw [zUp_there (by omega), h.2 i a b c d e f]⟩
theorem m_name {d : Nat} {T : Int → Int} {n p : Int} {w : Bool} {M : Mm} {K : Kt} (hT : tpOk T n) (h : mTk T n p w M) (hb : M 154 6 = 0)
    (hK1 : ∀ M', tKi T n p w = 1 → ¬ own (tVa T n p) → mTk T n (tEn T n p) true M' → nG M M' → M' 154 12 = tQ T n p → K (tVa T n p) M')
    (hK0 : ∀ M1, ¬ (tKi T n p w = 1 ∧ ¬ own (tVa T n p)) → mTk T n p w M1 → nG M M1 → M1 154 12 = tQ T n p → K 0 (zUp (zUp M1 154 6 1) 154 7 (tQ T n p))) : zSp (d + 5) 162 [.inr (.inr 154)] M K := by
  rw [me_162]
  refine m_next hT h ?_
  intro M1 f1 f2 f3 f4
  have nf1 : nG M (zUp M1 154 12 (tQ T n p)) := nG_up (nG_of (nx_nF f3 f4)) (by omega)
  have mk1 : mTk T n p w (zUp M1 154 12 (tQ T n p)) := mTk_fr f1 (by rw [zUp_away (by decide)]) (by rw [zUp_there (by decide)]) (by rw [zUp_there (by decide)]) (by rw [zUp_there (by decide)])
  refine m_fine (by rw [nG_bad nf1]; exact hb) ?_
  refine zC_i (by decide) ⟨fun q => absurd q (by decide), fun _ => ?_⟩
  refine m_isName (d := d) hT mk1 ?_
  intro M2 g1 g2 g3
  have g12 : M2 154 12 = tQ T n p := by rw [g2.2 12 (by decide) (by decide) (by decide) (by decide), zUp_here]
  have b2 : M2 154 6 = 0 := by rw [nF_bad g2, nG_bad nf1]; exact hb
  have nf2 := nG_trans nf1 (nG_of g2)
  by_cases c : tKi T n p w = 1 ∧ ¬ own (tVa T n p)
  · rw [fl_t c]
    refine zC_i (by decide) ⟨fun _ => ?_, fun q => absurd (by decide) q⟩
    rw [fe_162_26]
    refine m_fine b2 ?_
    refine zC_i (by decide) ⟨fun _ => ?_, fun q => absurd (by decide) q⟩
    have wd := g3 c.1
    rw [wd.2.2]
    refine m_pass g1 c.1 wd ?_
    intro M3 k1 k2
    exact hK1 M3 c.1 c.2 k1 (nG_trans nf2 (nG_of k2)) (by rw [k2.2 12 (by decide) (by decide) (by decide) (by decide)]; exact g12)
  · rw [fl_f c]
    refine zC_i (by decide) ⟨fun q => absurd rfl q, fun _ => ?_⟩
    refine m_unlike (d := d + 2) hT g1 b2 ?_
    intro M3 k1 k2
    rw [fe_162_26]
    refine m_unfine (by rw [zUp_there (by decide), zUp_here]; decide) ?_
    refine zC_i (by decide) ⟨fun q => absurd rfl q, fun _ => ?_⟩
    exact hK0 M3 c k1 (nG_trans nf2 (nG_of k2)) (by rw [k2.2 12 (by decide) (by decide) (by decide) (by decide)]; exact g12)
/-- a name is not read behind a fault -/
theorem m_unname {d : Nat} {T : Int → Int} {n p : Int} {w : Bool} {M : Mm} {K : Kt} (hT : tpOk T n) (h : mTk T n p w M) (hb : 1 ≤ M 154 6 ∧ M 154 6 ≤ 5)
    (hK : ∀ M', mTk T n p w M' → nG M M' → K 0 M') : zSp (d + 5) 162 [.inr (.inr 154)] M K := by
  rw [me_162]
  refine m_next hT h ?_
  intro M1 f1 f2 f3 f4
  have nf1 : nG M (zUp M1 154 12 (tQ T n p)) := nG_up (nG_of (nx_nF f3 f4)) (by omega)
  have mk1 : mTk T n p w (zUp M1 154 12 (tQ T n p)) := mTk_fr f1 (by rw [zUp_away (by decide)]) (by rw [zUp_there (by decide)]) (by rw [zUp_there (by decide)]) (by rw [zUp_there (by decide)])
  have b1 : 1 ≤ (zUp M1 154 12 (tQ T n p)) 154 6 ∧ (zUp M1 154 12 (tQ T n p)) 154 6 ≤ 5 := by rw [nG_bad nf1]; exact hb
  refine m_unfine b1 ?_
  refine zC_i (by decide) ⟨fun _ => ?_, fun q => absurd rfl q⟩
  rw [fe_162_26]
  refine m_unfine b1 ?_
  exact zC_i (by decide) ⟨fun q => absurd rfl q, fun _ => hK _ mk1 nf1⟩
theorem tok_2 {T : Int → Int} {n p : Int} {w : Bool} (h : tKi T n p w = 2) : tEn T n p = rq (cD T) n (tQ T n p) ∧ tVa T n p = nv T (tQ T n p) (rq (cD T) n (tQ T n p) - tQ T n p).toNat := by
  obtain ⟨h1, h2, h3, h4⟩ := tKi_2.mp h
  have a := cD_t.mp h2
  have nl : cL T (tQ T n p) = false := cL_f.mpr (by omega)
  unfold tEn tVa
  rw [if_neg (by omega), nl, if_neg (show ¬ (false = true) by decide), if_neg (show ¬ (false = true) by decide), if_pos h2, if_pos h2]
  exact ⟨rfl, rfl⟩
theorem nv_b {T : Int → Int} {x : Int} : ∀ k : Nat, (∀ i : Nat, i < k → 48 ≤ T (x + i) ∧ T (x + i) ≤ 57) → 0 ≤ nv T x k ∧ nv T x k < 10 ^ k
  | 0, h => ⟨Int.le_refl 0, show (0 : Int) < 1 by decide⟩
  | k + 1, h => by
    have ih := nv_b (T := T) (x := x) k (fun i hi => h i (by omega))
    have hk := h k (by omega)
    rw [Int.pow_succ]
    show 0 ≤ nv T x k * 10 + T (x + k) - 48 ∧ nv T x k * 10 + T (x + k) - 48 < 10 ^ k * 10
    omega
theorem tVa_2 {T : Int → Int} {n p : Int} {w : Bool} (hp : p ≤ n) (h : tKi T n p w = 2) : 0 ≤ tVa T n p ∧ tVa T n p ≤ 999 := by
  have tk := tok_2 h
  obtain ⟨h1, h2, h3, h4⟩ := tKi_2.mp h
  rw [tk.2]
  have b := nv_b (T := T) (x := tQ T n p) (rq (cD T) n (tQ T n p) - tQ T n p).toNat (fun i hi => cD_t.mp (rq_in (f := cD T) (show tQ T n p ≤ n by omega) (k := i) (by omega) (by omega)))
  have c : (rq (cD T) n (tQ T n p) - tQ T n p).toNat = 0 ∨ (rq (cD T) n (tQ T n p) - tQ T n p).toNat = 1 ∨ (rq (cD T) n (tQ T n p) - tQ T n p).toNat = 2 ∨ (rq (cD T) n (tQ T n p) - tQ T n p).toNat = 3 := by omega
  rcases c with c | c | c | c <;> rw [c] at b ⊢
  · have b2 : nv T (tQ T n p) 0 < 1 := b.2
    omega
  · have b2 : nv T (tQ T n p) 1 < 10 := b.2
    omega
  · have b2 : nv T (tQ T n p) 2 < 100 := b.2
    omega
  · have b2 : nv T (tQ T n p) 3 < 1000 := b.2
    omega
theorem m_num_v {d : Nat} {T : Int → Int} {n q L : Int} {M : Mm} {K : Kt} (hT : tpOk T n) (hx : mTp T n M) (hq : 0 ≤ q ∧ q + L ≤ n) (hL : 0 ≤ L) (h13 : M 154 13 = q) (hK : K (nv T q L.toNat) (zUp (zUp M 154 4 (q + L)) 154 5 (q + L))) : ∀ (m : Nat) (k : Nat) (x2 x3 : Int), x3 = k → x3 + m = L → x2 = nv T q k → zWp (zSp d) 163 K 73 [some (.inr (.inr 154)), some (.inl L), some (.inl x2), some (.inl x3)] [] M
  | 0, k, x2, x3, h3, hm, h2 => by
    have hn := hT.1
    rw [fe_163_73, h13]
    refine zC_i (zr (by omega) (by omega)) (zC_i (zr (by omega) (by omega)) ⟨fun _ => ?_, fun c => absurd (by omega) c⟩)
    rw [h2, show k = L.toNat by omega]
    exact hK
  | m + 1, k, x2, x3, h3, hm, h2 => by
    have hn := hT.1
    rw [fe_163_73, h13]
    refine zC_i (zr (by omega) (by omega)) (zC_i (zr (by omega) (by omega)) ⟨fun c => absurd c (by omega), fun _ => zC_i (zs (by omega) (by omega)) ?_⟩)
    refine m_num_v hT hx hq hL h13 hK m (k + 1) _ (x3 + 1) (by omega) (by omega) ?_
    rw [hx.2 (q + x3) (by omega) (by omega), h2, h3]
    show 10 * nv T q k + T (q + k) - 48 = nv T q k * 10 + T (q + k) - 48
    omega
theorem m_num_l {d : Nat} {T : Int → Int} {n p : Int} {w : Bool} {M : Mm} {K : Kt} (hT : tpOk T n) (h : mTk T n p w M) (h4 : M 154 4 = tQ T n p) (hb : M 154 6 = 0) (h13 : M 154 13 = tQ T n p)
    (hK1 : ∀ M', tKi T n p w = 2 → mTk T n (tEn T n p) true M' → nG M M' → K (tVa T n p) M')
    (hK0 : ∀ M1, tKi T n p w ≠ 2 → mTk T n p w M1 → nG M M1 → K 0 (zUp (zUp M1 154 6 1) 154 7 (tQ T n p))) : ∀ (m : Nat) (x1 : Int), tQ T n p + x1 + m = rq (cD T) n (tQ T n p) → 0 ≤ x1 → zWp (zSp (d + 2)) 163 K 10 [some (.inr (.inr 154)), some (.inl x1), none, none] [] M
  | 0, x1, hm, hx1 => by
    have hn := hT.1
    have p0 := h.2.1
    have h5 := h.2.2.2
    have sq := tQ_s (T := T) p0.2
    have sp := rq_spec (f := cD T) sq.2
    have bad : tKi T n p w ≠ 2 → zWp (zSp (d + 2)) 163 K 56 [some (.inr (.inr 154)), some (.inl x1), none, none] [] M := by
      intro nk
      rw [fe_163_56]
      refine m_unlike hT h hb ?_
      intro M1 g1 g2
      rw [fe_163_60]
      refine m_unfine (by rw [zUp_there (by decide), zUp_here]; decide) ?_
      exact zC_i (by decide) ⟨fun q => absurd rfl q, fun _ => hK0 M1 nk g1 (nG_of g2)⟩
    rw [fe_163_10, h13]
    refine m_isD hT h.1 (by omega) ?_
    rw [fl_f (fun q => by
      have := sp.2.2.2 (by omega)
      rw [show rq (cD T) n (tQ T n p) = tQ T n p + x1 by omega] at this
      rw [this] at q
      exact absurd q.2 (by decide))]
    refine zC_i (by decide) ⟨fun _ => m_fine hb ?_, fun c => absurd rfl c⟩
    refine zC_i (by decide) ⟨fun q => absurd q (by decide), fun _ => zC_i (zr (by omega) (by omega)) ⟨fun c => bad (fun k => ?_), fun c => zC_i (zr (by omega) (by omega)) ⟨fun c3 => bad (fun k => ?_), fun c3 => ?_⟩⟩⟩
    · have k2 := tKi_2.mp k
      have on := rq_on (f := cD T) k2.1 k2.2.1
      have s2 := rq_spec (f := cD T) (show tQ T n p + 1 ≤ n by omega)
      omega
    · have k2 := tKi_2.mp k
      omega
    · rw [h13]
      refine zC_i (zr (by omega) (by omega)) (zC_i (zr (by omega) (by cases w <;> simp at h5 <;> omega)) ⟨fun ne => ?_, fun ne => bad (fun k => ?_)⟩)
      · have nt : ¬ (w = true ∧ tQ T n p ≤ p) := fun ⟨a, b⟩ => ne (by rw [h5.2.1 a]; omega)
        have lt : tQ T n p < n := by omega
        have cd : cD T (tQ T n p) = true := by
          have := rq_in (f := cD T) sq.2 (k := 0) (by omega) (by omega)
          rw [Int.add_zero] at this
          exact this
        have k2 : tKi T n p w = 2 := tKi_2.mpr ⟨lt, cd, nt, by omega⟩
        have tk := tok_2 k2
        rw [fe_163_60]
        refine m_fine hb ?_
        refine zC_i (by decide) ⟨fun _ => ?_, fun q => absurd (by decide) q⟩
        refine m_num_v (q := tQ T n p) (L := x1) hT h.1 (by omega) hx1 h13 ?_ x1.toNat 0 0 0 rfl (by omega) rfl
        have e : x1 = rq (cD T) n (tQ T n p) - tQ T n p := by omega
        rw [e, ← tk.2, show tQ T n p + (rq (cD T) n (tQ T n p) - tQ T n p) = tEn T n p by rw [tk.1]; omega]
        have se := tEn_s (T := T) p0.2
        exact hK1 _ k2 ⟨mTp_fr h.1 (by rw [zUp_there (by decide), zUp_there (by decide)]) (by rw [zUp_away (by decide), zUp_away (by decide)]), by omega, ⟨by rw [zUp_there (by decide), zUp_here]; omega, by rw [zUp_there (by decide), zUp_here]; omega, by rw [zUp_there (by decide), zUp_here]; rfl⟩, ⟨by rw [zUp_here]; omega, fun _ => zUp_here, fun q => absurd q (by decide)⟩⟩ (nG_up (nG_up nG_refl (by omega)) (by omega))
      · have ne := Decidable.not_not.mp ne
        have k2 := (tKi_2.mp k).2.2.1
        cases w
        · have := h5.2.2 rfl; omega
        · exact k2 ⟨rfl, by have := h5.2.1 rfl; omega⟩
  | m + 1, x1, hm, hx1 => by
    have hn := hT.1
    have p0 := h.2.1
    have sq := tQ_s (T := T) p0.2
    have sp := rq_spec (f := cD T) sq.2
    rw [fe_163_10, h13]
    refine m_isD hT h.1 (by omega) ?_
    rw [fl_t ⟨by omega, rq_in (f := cD T) sq.2 (k := x1) hx1 (by omega)⟩]
    exact zC_i (by decide) ⟨fun q => absurd q (by decide), fun _ => m_num_l hT h h4 hb h13 hK1 hK0 m (x1 + 1) (by omega) (by omega)⟩
theorem m_number {d : Nat} {T : Int → Int} {n p : Int} {w : Bool} {M : Mm} {K : Kt} (hT : tpOk T n) (h : mTk T n p w M) (hb : M 154 6 = 0)
    (hK1 : ∀ M', tKi T n p w = 2 → mTk T n (tEn T n p) true M' → nG M M' → K (tVa T n p) M')
    (hK0 : ∀ M1, tKi T n p w ≠ 2 → mTk T n p w M1 → nG M M1 → K 0 (zUp (zUp M1 154 6 1) 154 7 (tQ T n p))) : zSp (d + 3) 163 [.inr (.inr 154)] M K := by
  have sq := tQ_s (T := T) h.2.1.2
  have sp := rq_spec (f := cD T) sq.2
  rw [me_163]
  refine m_next hT h ?_
  intro M1 f1 f2 f3 f4
  have nf1 : nG M (zUp M1 154 13 (tQ T n p)) := nG_up (nG_of (nx_nF f3 f4)) (by omega)
  have mk1 : mTk T n p w (zUp M1 154 13 (tQ T n p)) := mTk_fr f1 (by rw [zUp_away (by decide)]) (by rw [zUp_there (by decide)]) (by rw [zUp_there (by decide)]) (by rw [zUp_there (by decide)])
  refine m_num_l hT mk1 (by rw [zUp_there (by decide)]; exact f2) (by rw [nG_bad nf1]; exact hb) zUp_here ?_ ?_ (rq (cD T) n (tQ T n p) - tQ T n p).toNat 0 (by omega) (by omega)
  · intro M' k m1 g1
    exact hK1 M' k m1 (nG_trans nf1 g1)
  · intro M2 k m1 g1
    exact hK0 M2 k m1 (nG_trans nf1 g1)
/-- takes: a word of its own -/
theorem m_takes {d : Nat} {T : Int → Int} {n p a : Int} {w : Bool} {M : Mm} {K : Kt} (hT : tpOk T n) (h : mTk T n p w M) (hb : M 154 6 = 0) (ha : zR64 a = true)
    (hK1 : ∀ M', tKi T n p w = 1 → tVa T n p = a → mTk T n (tEn T n p) true M' → nF M M' → K 1 M')
    (hK0 : ∀ M', ¬ (tKi T n p w = 1 ∧ tVa T n p = a) → mTk T n p w M' → nF M M' → K 0 M') : zSp (d + 5) 159 [.inr (.inr 154), .inr (.inl a)] M K := by
  rw [me_159]
  refine m_fine hb ?_
  refine zC_i (by decide) ⟨fun q => absurd q (by decide), fun _ => ?_⟩
  refine m_isWord hT h ha ?_
  intro M1 f1 f2 f3
  by_cases c : tKi T n p w = 1 ∧ tVa T n p = a
  · rw [fl_t c]
    refine zC_i (by decide) ⟨fun _ => ?_, fun q => absurd (by decide) q⟩
    refine m_pass f1 c.1 (f3 c.1) ?_
    intro M2 g1 g2
    exact hK1 M2 c.1 c.2 g1 (nF_trans f2 g2)
  · rw [fl_f c]
    exact zC_i (by decide) ⟨fun q => absurd rfl q, fun _ => hK0 M1 c f1 f2⟩
theorem m_untakes {d : Nat} {M : Mm} {K : Kt} {a : Int} (hb : 1 ≤ M 154 6 ∧ M 154 6 ≤ 5) (hK : K 0 M) : zSp (d + 2) 159 [.inr (.inr 154), .inr (.inl a)] M K := by
  rw [me_159]
  exact m_unfine hb (zC_i (by decide) ⟨fun _ => hK, fun q => absurd rfl q⟩)
theorem m_takesSign {d : Nat} {T : Int → Int} {n p a : Int} {w : Bool} {M : Mm} {K : Kt} (hT : tpOk T n) (h : mTk T n p w M) (hb : M 154 6 = 0) (ha : sgn a)
    (hK1 : ∀ M', tKi T n p w = 3 → tVa T n p = a → mTk T n (tEn T n p) false M' → nF M M' → K 1 M')
    (hK0 : ∀ M', ¬ (tKi T n p w = 3 ∧ tVa T n p = a) → mTk T n p w M' → nF M M' → K 0 M') : zSp (d + 3) 153 [.inr (.inr 154), .inl a] M K := by
  rw [me_153]
  refine m_fine hb ?_
  refine zC_i (by decide) ⟨fun q => absurd q (by decide), fun _ => ?_⟩
  refine m_isSign hT h ha ?_
  intro M1 f1 f2 f3
  by_cases c : tKi T n p w = 3 ∧ tVa T n p = a
  · rw [fl_t c]
    have ms := mTk_sign f1 f2 c.1
    exact zC_i (by decide) ⟨fun _ => hK1 _ c.1 c.2 ms.1 (nF_trans f3 ms.2), fun q => absurd (by decide) q⟩
  · rw [fl_f c]
    exact zC_i (by decide) ⟨fun q => absurd rfl q, fun _ => hK0 M1 c f1 f3⟩
theorem m_needsSign {d : Nat} {T : Int → Int} {n p a : Int} {w : Bool} {M : Mm} {K : Kt} (hT : tpOk T n) (h : mTk T n p w M) (hb : M 154 6 = 0) (ha : sgn a)
    (hK1 : ∀ M', tKi T n p w = 3 → tVa T n p = a → mTk T n (tEn T n p) false M' → nF M M' → K 0 M')
    (hK0 : ∀ M1, ¬ (tKi T n p w = 3 ∧ tVa T n p = a) → mTk T n p w M1 → nF M M1 → K 0 (zUp (zUp M1 154 6 1) 154 7 (tQ T n p))) : zSp (d + 4) 154 [.inr (.inr 154), .inl a] M K := by
  rw [me_154]
  refine m_fine hb ?_
  refine zC_i (by decide) ⟨fun q => absurd q (by decide), fun _ => ?_⟩
  refine m_takesSign hT h hb ha ?_ ?_
  · intro M1 k1 k2 f1 f2
    exact zC_i (by decide) ⟨fun _ => hK1 M1 k1 k2 f1 f2, fun q => absurd (by decide) q⟩
  · intro M1 k f1 f2
    refine zC_i (by decide) ⟨fun q => absurd rfl q, fun _ => ?_⟩
    refine m_unlike hT f1 (by rw [nF_bad f2]; exact hb) ?_
    intro M2 g1 g2
    exact hK0 M2 k g1 (nF_trans f2 g2)
theorem m_unneeds {d : Nat} {M : Mm} {K : Kt} {a : Int} (hb : 1 ≤ M 154 6 ∧ M 154 6 ≤ 5) (hK : K 0 M) : zSp (d + 2) 154 [.inr (.inr 154), .inl a] M K := by
  rw [me_154]
  exact m_unfine hb (zC_i (by decide) ⟨fun _ => hK, fun q => absurd rfl q⟩)
