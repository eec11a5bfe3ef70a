/-! LAYER 3: what stands next, read by the class -/
theorem rq_in {f : Int → Bool} {n q k : Int} (hq : q ≤ n) (h0 : 0 ≤ k) (h1 : q + k < rq f n q) : f (q + k) = true := (rq_spec hq).2.2.1 (q + k) (by omega) h1
theorem x_word {d : Nat} {T : Int → Int} {n q : Int} {K : Kt} {x1 : Int} (hT : tpOk T n) (hq : 0 ≤ q ∧ q ≤ n) (hx1 : x1 = 0 ∨ x1 = 1) : ∀ (m : Nat) (M : Mm) (k : Nat) (x2 : Int), x2 = k → q + k + m = rq (cL T) n q → M 2 2 = q + k → xTp T n M → M 2 5 = wV T q (if k ≤ 6 then k else 6) →
    (∀ M', M' 2 2 = rq (cL T) n q → (rq (cL T) n q - q ≤ 6 → M' 2 5 = wV T q (rq (cL T) n q - q).toNat) → M' 2 3 = (if x1 = 0 ∨ 6 < rq (cL T) n q - q then 4 else 1) → (∀ j, j ≠ 2 → j ≠ 3 → j ≠ 5 → M' 2 j = M 2 j) → (∀ c, c ≠ 2 → M' c = M c) → K 0 M') →
    zWp (zSp (d + 1)) 68 K 7 [some (.inr (.inr 2)), some (.inl x1), some (.inl x2)] [] M
  | 0, M, k, x2, h2, hm, ha, hx, hv, hK => by
    have hn := hT.1
    have sp := rq_spec (f := cL T) hq.2
    have fin : zWp (zSp (d + 1)) 68 K 85 [some (.inr (.inr 2)), some (.inl x1), some (.inl x2)] [] M := by
      have vv : rq (cL T) n q - q ≤ 6 → M 2 5 = wV T q (rq (cL T) n q - q).toNat := fun h => by
        rw [hv, if_pos (by omega), show (rq (cL T) n q - q).toNat = k by omega]
      have hh : ∀ v, v = (if x1 = 0 ∨ 6 < rq (cL T) n q - q then 4 else 1) → K 0 (zUp M 2 3 v) := fun v e => hK _ (by rw [zUp_there (by decide)]; omega) (fun h => by rw [zUp_there (by decide)]; exact vv h) (by rw [zUp_here]; exact e) (fun j j1 j2 j3 => zUp_there j2) (fun c hc => zUp_away hc)
      rw [fe_68_85]
      refine zC_i (zr (by omega) (by omega)) ⟨fun c => hh 4 (by rw [if_pos (.inl c)]), fun c => zC_i (zr (by omega) (by omega)) ⟨fun c2 => hh 4 (by rw [if_pos (.inr (by omega))]), fun c2 => hh 1 (by rw [if_neg (by omega)])⟩⟩
    rw [fe_68_7, ha, hx.1]
    refine zC_i (zr (by omega) (by omega)) (zC_i (zr (by omega) (by omega)) ⟨fun _ => fin, fun c => zC_i (zs (by omega) (by omega)) ?_⟩)
    have e := hx.2 (q + k) (by omega) (by omega)
    have hb := hT.2 (q + k) (by omega) (by omega)
    have fl0 := sp.2.2.2 (by omega)
    rw [show rq (cL T) n q = q + k by omega] at fl0
    have fl0 := cL_f.mp fl0
    rw [e]
    refine x_isL hb ?_
    rw [fl_f fl0]
    exact zC_i (by decide) ⟨fun _ => fin, fun c => absurd rfl c⟩
  | m + 1, M, k, x2, h2, hm, ha, hx, hv, hK => by
    have hn := hT.1
    have sp := rq_spec (f := cL T) hq.2
    have e := hx.2 (q + k) (by omega) (by omega)
    have hb := hT.2 (q + k) (by omega) (by omega)
    have fl1 := cL_t.mp (rq_in (f := cL T) hq.2 (k := k) (by omega) (by omega))
    rw [fe_68_7, ha, hx.1]
    refine zC_i (zr (by omega) (by omega)) (zC_i (zr (by omega) (by omega)) ⟨fun c => absurd c (by omega), fun c => zC_i (zs (by omega) (by omega)) ?_⟩)
    rw [e]
    refine x_isL hb ?_
    rw [fl_t fl1]
    have nx : ∀ M1 : Mm, M1 2 2 = q + k → M1 2 5 = wV T q (if k + 1 ≤ 6 then k + 1 else 6) → (∀ j, j ≠ 5 → M1 2 j = M 2 j) → (∀ c, c ≠ 2 → M1 c = M c) → zWp (zSp (d + 1)) 68 K 69 [some (.inr (.inr 2)), some (.inl x1), some (.inl x2)] [] M1 := by
      intro M1 g1 g2 g3 g4
      rw [fe_68_69, g1]
      refine x_word hT hq hx1 m _ (k + 1) (x2 + 1) (by omega) (by omega) (by rw [zUp_here]; omega) ⟨by rw [zUp_there (by decide), g3 1 (by decide)]; exact hx.1, fun i i0 i1 => by rw [zUp_away (by decide), g4 3 (by decide)]; exact hx.2 i i0 i1⟩ (by rw [zUp_there (by decide)]; exact g2) ?_
      intro M' f1 f2 f3 f4 f5
      exact hK M' f1 f2 f3 (fun j j1 j2 j3 => by rw [f4 j j1 j2 j3, zUp_there j1, g3 j j3]) (fun c hc => by rw [f5 c hc, zUp_away hc, g4 c hc])
    refine zC_i (by decide) ⟨fun q => absurd q (by decide), fun _ => zC_i (zr (by omega) (by omega)) ⟨fun c6 => ?_, fun c6 => ?_⟩⟩
    · refine nx M ha ?_ (fun _ _ => rfl) (fun _ _ => rfl)
      rw [hv, if_neg (by omega : ¬ (k + 1 ≤ 6))]
      by_cases ck : k ≤ 6
      · rw [if_pos ck, show k = 6 by omega]
      · rw [if_neg ck]
    · rw [ha]
      refine zC_i (zs (by omega) (by omega)) (zC_i (zs (by omega) (by omega)) ?_)
      refine nx _ (by rw [zUp_there (by decide)]; exact ha) ?_ (fun j hj => zUp_there hj) (fun c hc => zUp_away hc)
      rw [zUp_here, hv, if_pos (by omega), if_pos (by omega), e, h2]
      refine wV_on (by omega) (fun i hi => ?_)
      exact cL_t.mp (rq_in (f := cL T) hq.2 (k := i) (by omega) (by omega))
theorem x_num {d : Nat} {T : Int → Int} {n q : Int} {K : Kt} {x1 : Int} (hT : tpOk T n) (hq : 0 ≤ q ∧ q ≤ n) (hx1 : x1 = 0 ∨ x1 = 1) : ∀ (m : Nat) (M : Mm) (k : Nat) (x2 : Int), x2 = k → q + k + m = rq (cD T) n q → M 2 2 = q + k → xTp T n M → M 2 5 = nv T q (if k ≤ 3 then k else 3) →
    (∀ M', M' 2 2 = rq (cD T) n q → (rq (cD T) n q - q ≤ 3 → M' 2 5 = nv T q (rq (cD T) n q - q).toNat) → M' 2 3 = (if x1 = 0 ∨ 3 < rq (cD T) n q - q then 4 else 2) → (∀ j, j ≠ 2 → j ≠ 3 → j ≠ 5 → M' 2 j = M 2 j) → (∀ c, c ≠ 2 → M' c = M c) → K 0 M') →
    zWp (zSp (d + 1)) 69 K 7 [some (.inr (.inr 2)), some (.inl x1), some (.inl x2)] [] M
  | 0, M, k, x2, h2, hm, ha, hx, hv, hK => by
    have hn := hT.1
    have sp := rq_spec (f := cD T) hq.2
    have fin : zWp (zSp (d + 1)) 69 K 78 [some (.inr (.inr 2)), some (.inl x1), some (.inl x2)] [] M := by
      have vv : rq (cD T) n q - q ≤ 3 → M 2 5 = nv T q (rq (cD T) n q - q).toNat := fun h => by
        rw [hv, if_pos (by omega), show (rq (cD T) n q - q).toNat = k by omega]
      have hh : ∀ v, v = (if x1 = 0 ∨ 3 < rq (cD T) n q - q then 4 else 2) → K 0 (zUp M 2 3 v) := fun v e => hK _ (by rw [zUp_there (by decide)]; omega) (fun h => by rw [zUp_there (by decide)]; exact vv h) (by rw [zUp_here]; exact e) (fun j j1 j2 j3 => zUp_there j2) (fun c hc => zUp_away hc)
      rw [fe_69_78]
      refine zC_i (zr (by omega) (by omega)) ⟨fun c => hh 4 (by rw [if_pos (.inl c)]), fun c => zC_i (zr (by omega) (by omega)) ⟨fun c2 => hh 4 (by rw [if_pos (.inr (by omega))]), fun c2 => hh 2 (by rw [if_neg (by omega)])⟩⟩
    rw [fe_69_7, ha, hx.1]
    refine zC_i (zr (by omega) (by omega)) (zC_i (zr (by omega) (by omega)) ⟨fun _ => fin, fun c => zC_i (zs (by omega) (by omega)) ?_⟩)
    have e := hx.2 (q + k) (by omega) (by omega)
    have hb := hT.2 (q + k) (by omega) (by omega)
    have fl0 := sp.2.2.2 (by omega)
    rw [show rq (cD T) n q = q + k by omega] at fl0
    have fl0 := cD_f.mp fl0
    rw [e]
    refine x_isD hb ?_
    rw [fl_f fl0]
    exact zC_i (by decide) ⟨fun _ => fin, fun c => absurd rfl c⟩
  | m + 1, M, k, x2, h2, hm, ha, hx, hv, hK => by
    have hn := hT.1
    have sp := rq_spec (f := cD T) hq.2
    have e := hx.2 (q + k) (by omega) (by omega)
    have hb := hT.2 (q + k) (by omega) (by omega)
    have fl1 := cD_t.mp (rq_in (f := cD T) hq.2 (k := k) (by omega) (by omega))
    rw [fe_69_7, ha, hx.1]
    refine zC_i (zr (by omega) (by omega)) (zC_i (zr (by omega) (by omega)) ⟨fun c => absurd c (by omega), fun c => zC_i (zs (by omega) (by omega)) ?_⟩)
    rw [e]
    refine x_isD hb ?_
    rw [fl_t fl1]
    have nx : ∀ M1 : Mm, M1 2 2 = q + k → M1 2 5 = nv T q (if k + 1 ≤ 3 then k + 1 else 3) → (∀ j, j ≠ 5 → M1 2 j = M 2 j) → (∀ c, c ≠ 2 → M1 c = M c) → zWp (zSp (d + 1)) 69 K 62 [some (.inr (.inr 2)), some (.inl x1), some (.inl x2)] [] M1 := by
      intro M1 g1 g2 g3 g4
      rw [fe_69_62, g1]
      refine x_num hT hq hx1 m _ (k + 1) (x2 + 1) (by omega) (by omega) (by rw [zUp_here]; omega) ⟨by rw [zUp_there (by decide), g3 1 (by decide)]; exact hx.1, fun i i0 i1 => by rw [zUp_away (by decide), g4 3 (by decide)]; exact hx.2 i i0 i1⟩ (by rw [zUp_there (by decide)]; exact g2) ?_
      intro M' f1 f2 f3 f4 f5
      exact hK M' f1 f2 f3 (fun j j1 j2 j3 => by rw [f4 j j1 j2 j3, zUp_there j1, g3 j j3]) (fun c hc => by rw [f5 c hc, zUp_away hc, g4 c hc])
    refine zC_i (by decide) ⟨fun q => absurd q (by decide), fun _ => zC_i (zr (by omega) (by omega)) ⟨fun c6 => ?_, fun c6 => ?_⟩⟩
    · refine nx M ha ?_ (fun _ _ => rfl) (fun _ _ => rfl)
      rw [hv, if_neg (by omega : ¬ (k + 1 ≤ 3))]
      by_cases ck : k ≤ 3
      · rw [if_pos ck, show k = 3 by omega]
      · rw [if_neg ck]
    · rw [ha]
      refine zC_i (zs (by omega) (by omega)) ?_
      refine nx _ (by rw [zUp_there (by decide)]; exact ha) ?_ (fun j hj => zUp_there hj) (fun c hc => zUp_away hc)
      rw [zUp_here, hv, if_pos (by omega), if_pos (by omega), e]
      rfl
theorem x_advance {d : Nat} {T : Int → Int} {n p : Int} {w : Bool} {M : Mm} {K : Kt} (hT : tpOk T n) (hp : 0 ≤ p ∧ p ≤ n) (hx : xTp T n M) (h2 : M 2 2 = p) (h3 : 0 ≤ M 2 3 ∧ M 2 3 ≤ 4) (hw : w = true ↔ (M 2 3 = 1 ∨ M 2 3 = 2))
    (hK : ∀ M', xTk T n p w M' → (∀ j, j ≠ 2 → j ≠ 3 → j ≠ 4 → j ≠ 5 → M' 2 j = M 2 j) → (∀ c, c ≠ 2 → M' c = M c) → K 0 M') : zSp (d + 3) 67 [.inr (.inr 2)] M K := by
  have hn := hT.1
  have sq := tQ_s (T := T) hp.2
  have go : ∀ x1 : Int, (x1 = if w = true then 0 else 1) → zWp (zSp (d + 2)) 67 K 27 [some (.inr (.inr 2)), some (.inl x1), some (.inl p)] [] M := by
    intro x1 hx1
    have hx01 : x1 = 0 ∨ x1 = 1 := by rw [hx1]; split <;> omega
    refine x_ws hT (n - p).toNat M p (by omega) hp.1 h2 hx ?_
    intro M1 f1 f2 f3
    have e1 : M1 2 1 = n := by rw [f2 1 (by decide)]; exact hx.1
    rw [fe_67_79, f1, e1]
    refine zC_i (zr (by omega) (by omega)) (zC_i (zr (by omega) (by omega)) ⟨fun c => zC_i (zs (by omega) (by omega)) ?_, fun c => ?_⟩)
    · have e3 : M1 3 (tQ T n p) = T (tQ T n p) := by rw [f3 3 (by decide)]; exact hx.2 _ (by omega) c
      have hb := hT.2 (tQ T n p) (by omega) c
      have q2 : (zUp M1 2 4 (tQ T n p)) 2 2 = tQ T n p := by rw [zUp_there (by decide)]; exact f1
      have q1 : xTp T n (zUp M1 2 4 (tQ T n p)) := ⟨by rw [zUp_there (by decide)]; exact e1, fun i i0 i1 => by rw [zUp_away (by decide), f3 3 (by decide)]; exact hx.2 i i0 i1⟩
      -- whether it touches
      have y01 : ∀ y : Int, (y = if x1 = 0 ∧ tQ T n p ≤ p then 0 else 1) → ((y = 0 ∨ y = 1) ∧ (y = 0 ↔ (w = true ∧ tQ T n p ≤ p))) := by
        intro y hy
        cases w
        · have : x1 = 1 := hx1
          rw [if_neg (by omega)] at hy
          exact ⟨.inr hy, fun h => by omega, fun h => absurd h.1 (by decide)⟩
        · have : x1 = 0 := hx1
          by_cases cq : tQ T n p ≤ p
          · rw [if_pos ⟨this, cq⟩] at hy
            exact ⟨.inl hy, fun _ => ⟨rfl, cq⟩, fun _ => hy⟩
          · rw [if_neg (fun h => cq h.2)] at hy
            exact ⟨.inr hy, fun h => by omega, fun h => absurd h.2 cq⟩
      rw [e3]
      refine x_isL hb ?_
      by_cases cl : 97 ≤ T (tQ T n p) ∧ T (tQ T n p) ≤ 122
      · rw [fl_t cl, q2]
        have clb := cL_t.mpr cl
        have fin : ∀ y : Int, (y = if x1 = 0 ∧ tQ T n p ≤ p then 0 else 1) → zWp (zSp (d + 2)) 67 K 139 [some (.inr (.inr 2)), some (.inl x1), some (.inl p)] [.inl y, .inr (.inr 2)] (zUp M1 2 4 (tQ T n p)) := by
          intro y hy
          obtain ⟨hy01, hy0⟩ := y01 y hy
          have sp := rq_spec (f := cL T) (show tQ T n p ≤ n by omega)
          rw [fe_67_139, me_68]
          refine x_word hT (q := tQ T n p) ⟨by omega, by omega⟩ hy01 (rq (cL T) n (tQ T n p) - tQ T n p).toNat _ 0 0 rfl (by omega) (by rw [zUp_there (by decide), q2]; omega) ⟨by rw [zUp_there (by decide)]; exact q1.1, q1.2⟩ zUp_here ?_
          intro M' g1 g2 g3 g4 g5
          have hk : tKi T n p w = if y = 0 ∨ 6 < rq (cL T) n (tQ T n p) - tQ T n p then 4 else 1 := by
            unfold tKi
            rw [if_neg (by omega), if_pos clb]
            by_cases c1 : (w = true ∧ tQ T n p ≤ p) ∨ 6 < rq (cL T) n (tQ T n p) - tQ T n p
            · rw [if_pos c1, if_pos (c1.imp hy0.mpr id)]
            · rw [if_neg c1, if_neg (fun h => c1 (h.imp hy0.mp id))]
          refine hK M' ⟨⟨by rw [g4 1 (by decide) (by decide) (by decide), zUp_there (by decide)]; exact q1.1, fun i i0 i1 => by rw [g5 3 (by decide)]; exact q1.2 i i0 i1⟩, ?_, by rw [g3, hk], by rw [g4 4 (by decide) (by decide) (by decide), zUp_there (by decide), zUp_here], fun k0 k4 => ?_, hp⟩ (fun j j1 j2 j3 j4 => by rw [g4 j j1 j2 j4, zUp_there j4, zUp_there j3, f2 j j1]) (fun c hc => by rw [g5 c hc, zUp_away hc, zUp_away hc, f3 c hc])
          · rw [g1]; unfold tEn; rw [if_neg (by omega), if_pos clb]
          · have c6 : rq (cL T) n (tQ T n p) - tQ T n p ≤ 6 := by
              rw [hk] at k4
              by_cases c1 : y = 0 ∨ 6 < rq (cL T) n (tQ T n p) - tQ T n p
              · rw [if_pos c1] at k4; exact absurd rfl k4
              · omega
            rw [g2 c6]
            unfold tVa
            rw [if_pos clb]
        refine zC_i (by decide) ⟨fun q => absurd q (by decide), fun _ => zC_i (zr (by omega) (by omega)) ⟨fun c1 => ?_, fun c1 => zC_i (zr (by omega) (by omega)) (zC_i (zr (by omega) (by omega)) ⟨fun c2 => fin 0 (by rw [if_pos (by omega)]), fun c2 => ?_⟩)⟩⟩
        · rw [fe_67_134]
          exact fin 1 (by rw [if_neg (by omega)])
        · rw [fe_67_134]
          exact fin 1 (by rw [if_neg (by omega)])
      · rw [fl_f cl, q2]
        have clb := cL_f.mpr cl
        refine zC_i (by decide) ⟨fun _ => zC_i (zs (by omega) (by omega)) ?_, fun q => absurd rfl q⟩
        rw [zUp_away (by decide), e3]
        refine x_isD hb ?_
        by_cases cd : 48 ≤ T (tQ T n p) ∧ T (tQ T n p) ≤ 57
        · rw [fl_t cd, q2]
          have cdb := cD_t.mpr cd
          have fin : ∀ y : Int, (y = if x1 = 0 ∧ tQ T n p ≤ p then 0 else 1) → zWp (zSp (d + 2)) 67 K 178 [some (.inr (.inr 2)), some (.inl x1), some (.inl p)] [.inl y, .inr (.inr 2)] (zUp M1 2 4 (tQ T n p)) := by
            intro y hy
            obtain ⟨hy01, hy0⟩ := y01 y hy
            have sp := rq_spec (f := cD T) (show tQ T n p ≤ n by omega)
            rw [fe_67_178, me_69]
            refine x_num hT (q := tQ T n p) ⟨by omega, by omega⟩ hy01 (rq (cD T) n (tQ T n p) - tQ T n p).toNat _ 0 0 rfl (by omega) (by rw [zUp_there (by decide), q2]; omega) ⟨by rw [zUp_there (by decide)]; exact q1.1, q1.2⟩ zUp_here ?_
            intro M' g1 g2 g3 g4 g5
            have hk : tKi T n p w = if y = 0 ∨ 3 < rq (cD T) n (tQ T n p) - tQ T n p then 4 else 2 := by
              unfold tKi
              rw [if_neg (by omega), clb, if_neg (by decide), if_pos cdb]
              by_cases c1 : (w = true ∧ tQ T n p ≤ p) ∨ 3 < rq (cD T) n (tQ T n p) - tQ T n p
              · rw [if_pos c1, if_pos (c1.imp hy0.mpr id)]
              · rw [if_neg c1, if_neg (fun h => c1 (h.imp hy0.mp id))]
            refine hK M' ⟨⟨by rw [g4 1 (by decide) (by decide) (by decide), zUp_there (by decide)]; exact q1.1, fun i i0 i1 => by rw [g5 3 (by decide)]; exact q1.2 i i0 i1⟩, ?_, by rw [g3, hk], by rw [g4 4 (by decide) (by decide) (by decide), zUp_there (by decide), zUp_here], fun k0 k4 => ?_, hp⟩ (fun j j1 j2 j3 j4 => by rw [g4 j j1 j2 j4, zUp_there j4, zUp_there j3, f2 j j1]) (fun c hc => by rw [g5 c hc, zUp_away hc, zUp_away hc, f3 c hc])
            · rw [g1]; unfold tEn; rw [if_neg (by omega), clb, if_neg (by decide), if_pos cdb]
            · have c6 : rq (cD T) n (tQ T n p) - tQ T n p ≤ 3 := by
                rw [hk] at k4
                by_cases c1 : y = 0 ∨ 3 < rq (cD T) n (tQ T n p) - tQ T n p
                · rw [if_pos c1] at k4; exact absurd rfl k4
                · omega
              rw [g2 c6]
              unfold tVa
              rw [clb, if_neg (by decide), if_pos cdb]
          refine zC_i (by decide) ⟨fun q => absurd q (by decide), fun _ => zC_i (zr (by omega) (by omega)) ⟨fun c1 => ?_, fun c1 => zC_i (zr (by omega) (by omega)) (zC_i (zr (by omega) (by omega)) ⟨fun c2 => fin 0 (by rw [if_pos (by omega)]), fun c2 => ?_⟩)⟩⟩
          · rw [fe_67_173]
            exact fin 1 (by rw [if_neg (by omega)])
          · rw [fe_67_173]
            exact fin 1 (by rw [if_neg (by omega)])
        · rw [fl_f cd, q2]
          have cdb := cD_f.mpr cd
          refine zC_i (by decide) ⟨fun _ => zC_i (zs (by omega) (by omega)) ?_, fun q => absurd rfl q⟩
          rw [zUp_away (by decide), e3]
          refine hK _ ⟨⟨by rw [zUp_there (by decide), zUp_there (by decide), zUp_there (by decide)]; exact q1.1, q1.2⟩, ?_, ?_, by rw [zUp_there (by decide), zUp_there (by decide), zUp_there (by decide), zUp_here], fun _ _ => ?_, hp⟩ (fun j j1 j2 j3 j4 => by rw [zUp_there j1, zUp_there j4, zUp_there j2, zUp_there j3, f2 j j1]) (fun c hc => by rw [zUp_away hc, zUp_away hc, zUp_away hc, zUp_away hc, f3 c hc])
          · rw [zUp_here]; unfold tEn; rw [if_neg (by omega), clb, if_neg (by decide), cdb, if_neg (by decide)]
          · rw [zUp_there (by decide), zUp_there (by decide), zUp_here]; unfold tKi; rw [if_neg (by omega), clb, if_neg (by decide), cdb, if_neg (by decide)]
          · rw [zUp_there (by decide), zUp_here]; unfold tVa; rw [clb, if_neg (by decide), cdb, if_neg (by decide)]
    · refine hK _ ⟨⟨by rw [zUp_there (by decide), zUp_there (by decide)]; exact e1, fun i i0 i1 => by rw [zUp_away (by decide), zUp_away (by decide), f3 3 (by decide)]; exact hx.2 i i0 i1⟩, ?_, ?_, by rw [zUp_there (by decide), zUp_here], fun k0 _ => ?_, hp⟩ (fun j j1 j2 j3 j4 => by rw [zUp_there j2, zUp_there j3, f2 j j1]) (fun c hc => by rw [zUp_away hc, zUp_away hc, f3 c hc])
      · rw [zUp_there (by decide), zUp_there (by decide), f1]; unfold tEn; rw [if_pos (by omega)]
      · rw [zUp_here]; unfold tKi; rw [if_pos (by omega)]
      · exfalso
        unfold tKi at k0
        rw [if_pos (by omega)] at k0
        exact k0 rfl
  rw [me_67, h2]
  refine zC_i (zr (by omega) (by omega)) ⟨fun c => go 0 (by rw [if_pos (hw.mpr (.inl c))]), fun c => zC_i (zr (by omega) (by omega)) ⟨fun c2 => go 0 (by rw [if_pos (hw.mpr (.inr c2))]), fun c2 => go 1 (by rw [if_neg (fun h => (hw.mp h).elim c c2)])⟩⟩
/-- the class goes on behind what stands next -/
theorem x_adv {d : Nat} {T : Int → Int} {n p : Int} {w : Bool} {M : Mm} {K : Kt} (hT : tpOk T n) (hx : xTk T n p w M)
    (hK : ∀ M', xTk T n (tEn T n p) (decide (tKi T n p w = 1 ∨ tKi T n p w = 2)) M' → (∀ j, j ≠ 2 → j ≠ 3 → j ≠ 4 → j ≠ 5 → M' 2 j = M 2 j) → (∀ c, c ≠ 2 → M' c = M c) → K 0 M') : zSp (d + 3) 67 [.inr (.inr 2)] M K := by
  obtain ⟨h1, h2, h3, h4, h5, h6⟩ := hx
  have kb := tKi_b (T := T) (n := n) (p := p) (w := w)
  have eb := tEn_s (T := T) h6.2
  have qb := tQ_s (T := T) h6.2
  exact x_advance hT ⟨by omega, eb.2.1⟩ h1 h2 (by rw [h3]; exact kb) (by rw [h3]; exact decide_eq_true_iff) hK
