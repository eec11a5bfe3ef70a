/-! LAYER 3: a number, and where it stood -/
theorem m_num_lP {d : Nat} {T : Int → Int} {n p : Int} {w : Bool} {M : Mm} {K : Kt} (hT : tpOk T n) (h : mTk T n p w M) (h4 : M 154 4 = tQ T n p) (hb : M 154 6 = 0) (h13 : M 154 13 = tQ T n p)
    (hK1 : ∀ M', tKi T n p w = 2 → mTk T n (tEn T n p) true M' → nG M M' → M' 154 13 = tQ T n p → K (tVa T n p) M')
    (hK0 : ∀ M1, tKi T n p w ≠ 2 → mTk T n p w M1 → nG M M1 → K 0 (zUp (zUp M1 154 6 1) 154 7 (tQ T n p))) : ∀ (m : Nat) (x1 : Int), tQ T n p + x1 + m = rq (cD T) n (tQ T n p) → 0 ≤ x1 → zWp (zSp (d + 2)) 163 K 10 [some (.inr (.inr 154)), some (.inl x1), none, none] [] M
  | 0, x1, hm, hx1 => by
    have hn := hT.1
    have p0 := h.2.1
    have h5 := h.2.2.2
    have sq := tQ_s (T := T) p0.2
    have sp := rq_spec (f := cD T) sq.2
    have bad : tKi T n p w ≠ 2 → zWp (zSp (d + 2)) 163 K 56 [some (.inr (.inr 154)), some (.inl x1), none, none] [] M := by
      intro nk
      rw [fe_163_56]
      refine m_unlike hT h hb ?_
      intro M1 g1 g2
      rw [fe_163_60]
      refine m_unfine (by rw [zUp_there (by decide), zUp_here]; decide) ?_
      exact zC_i (by decide) ⟨fun q => absurd rfl q, fun _ => hK0 M1 nk g1 (nG_of g2)⟩
    rw [fe_163_10, h13]
    refine m_isD hT h.1 (by omega) ?_
    rw [fl_f (fun q => by
      have := sp.2.2.2 (by omega)
      rw [show rq (cD T) n (tQ T n p) = tQ T n p + x1 by omega] at this
      rw [this] at q
      exact absurd q.2 (by decide))]
    refine zC_i (by decide) ⟨fun _ => m_fine hb ?_, fun c => absurd rfl c⟩
    refine zC_i (by decide) ⟨fun q => absurd q (by decide), fun _ => zC_i (zr (by omega) (by omega)) ⟨fun c => bad (fun k => ?_), fun c => zC_i (zr (by omega) (by omega)) ⟨fun c3 => bad (fun k => ?_), fun c3 => ?_⟩⟩⟩
    · have k2 := tKi_2.mp k
      have on := rq_on (f := cD T) k2.1 k2.2.1
      have s2 := rq_spec (f := cD T) (show tQ T n p + 1 ≤ n by omega)
      omega
    · have k2 := tKi_2.mp k
      omega
    · rw [h13]
      refine zC_i (zr (by omega) (by omega)) (zC_i (zr (by omega) (by cases w <;> simp at h5 <;> omega)) ⟨fun ne => ?_, fun ne => bad (fun k => ?_)⟩)
      · have nt : ¬ (w = true ∧ tQ T n p ≤ p) := fun ⟨a, b⟩ => ne (by rw [h5.2.1 a]; omega)
        have lt : tQ T n p < n := by omega
        have cd : cD T (tQ T n p) = true := by
          have := rq_in (f := cD T) sq.2 (k := 0) (by omega) (by omega)
          rw [Int.add_zero] at this
          exact this
        have k2 : tKi T n p w = 2 := tKi_2.mpr ⟨lt, cd, nt, by omega⟩
        have tk := tok_2 k2
        rw [fe_163_60]
        refine m_fine hb ?_
        refine zC_i (by decide) ⟨fun _ => ?_, fun q => absurd (by decide) q⟩
        refine m_num_v (q := tQ T n p) (L := x1) hT h.1 (by omega) hx1 h13 ?_ x1.toNat 0 0 0 rfl (by omega) rfl
        have e : x1 = rq (cD T) n (tQ T n p) - tQ T n p := by omega
        rw [e, ← tk.2, show tQ T n p + (rq (cD T) n (tQ T n p) - tQ T n p) = tEn T n p by rw [tk.1]; omega]
        have se := tEn_s (T := T) p0.2
        exact hK1 _ k2 ⟨mTp_fr h.1 (by rw [zUp_there (by decide), zUp_there (by decide)]) (by rw [zUp_away (by decide), zUp_away (by decide)]), by omega, ⟨by rw [zUp_there (by decide), zUp_here]; omega, by rw [zUp_there (by decide), zUp_here]; omega, by rw [zUp_there (by decide), zUp_here]; rfl⟩, ⟨by rw [zUp_here]; omega, fun _ => zUp_here, fun q => absurd q (by decide)⟩⟩ (nG_up (nG_up nG_refl (by omega)) (by omega)) (by rw [zUp_there (by decide), zUp_there (by decide)]; exact h13)
      · have ne := Decidable.not_not.mp ne
        have k2 := (tKi_2.mp k).2.2.1
        cases w
        · have := h5.2.2 rfl; omega
        · exact k2 ⟨rfl, by have := h5.2.1 rfl; omega⟩
  | m + 1, x1, hm, hx1 => by
    have hn := hT.1
    have p0 := h.2.1
    have sq := tQ_s (T := T) p0.2
    have sp := rq_spec (f := cD T) sq.2
    rw [fe_163_10, h13]
    refine m_isD hT h.1 (by omega) ?_
    rw [fl_t ⟨by omega, rq_in (f := cD T) sq.2 (k := x1) hx1 (by omega)⟩]
    exact zC_i (by decide) ⟨fun q => absurd q (by decide), fun _ => m_num_lP hT h h4 hb h13 hK1 hK0 m (x1 + 1) (by omega) (by omega)⟩
theorem m_numberP {d : Nat} {T : Int → Int} {n p : Int} {w : Bool} {M : Mm} {K : Kt} (hT : tpOk T n) (h : mTk T n p w M) (hb : M 154 6 = 0)
    (hK1 : ∀ M', tKi T n p w = 2 → mTk T n (tEn T n p) true M' → nG M M' → M' 154 13 = tQ T n p → K (tVa T n p) M')
    (hK0 : ∀ M1, tKi T n p w ≠ 2 → mTk T n p w M1 → nG M M1 → K 0 (zUp (zUp M1 154 6 1) 154 7 (tQ T n p))) : zSp (d + 3) 163 [.inr (.inr 154)] M K := by
  have sq := tQ_s (T := T) h.2.1.2
  have sp := rq_spec (f := cD T) sq.2
  rw [me_163]
  refine m_next hT h ?_
  intro M1 f1 f2 f3 f4
  have nf1 : nG M (zUp M1 154 13 (tQ T n p)) := nG_up (nG_of (nx_nF f3 f4)) (by omega)
  have mk1 : mTk T n p w (zUp M1 154 13 (tQ T n p)) := mTk_fr f1 (by rw [zUp_away (by decide)]) (by rw [zUp_there (by decide)]) (by rw [zUp_there (by decide)]) (by rw [zUp_there (by decide)])
  refine m_num_lP hT mk1 (by rw [zUp_there (by decide)]; exact f2) (by rw [nG_bad nf1]; exact hb) zUp_here ?_ ?_ (rq (cD T) n (tQ T n p) - tQ T n p).toNat 0 (by omega) (by omega)
  · intro M' k m1 g1 g2
    exact hK1 M' k m1 (nG_trans nf1 g1) g2
  · intro M2 k m1 g1
    exact hK0 M2 k m1 (nG_trans nf1 g1)
