/-! LAYER 3: run, often, tried, trace, row -/
theorem iX_147 {G : Mm} {ot : Option Tr} {B : List Bg} {J : Js} {vs : Int} {H : Int → Option Tr} {n tn fk fp : Int} {tA : Int → Int} {M M' : Mm} (h : iX G ot B J vs H n tn tA fk fp M) (f : ∀ c, c ≠ 147 → M' c = M c) (f1 : ∀ j, M' 147 j = M 147 j) : iX G ot B J vs H n tn tA fk fp M' := by
  have e : M' 147 = M 147 := funext f1
  refine iX_fr h (fun c hc => ?_) (by rw [f 0 (by decide)]) (by rw [f 2 (by decide)]) (by rw [f 2 (by decide)]) (by rw [f 2 (by decide)]) (by rw [f 138 (by decide)])
  by_cases c1 : c = 147
  · rw [c1, e]
  · exact f c c1
theorem st_16 : zStep_16 Inv := by
  intro M hI a1 h1
  obtain ⟨G, ot, B, J, vs, H, n, l, tn, tA, fk, fp, hP, hX, hM⟩ := hI
  have hend : Inv (zUp M 154 0 0) := ⟨G, ot, B, J, vs, H, n, l, tn, tA, fk, fp, hP, iX_thr hX _ _, iM_thr hM 0⟩
  have ob := oSz_b hP.2.1
  have xn := xTo_n hX.2.1
  have mn := mTo_n hM.2.1
  have hr := zR32_iff.mp h1
  have xb38 : xT 38 := by unfold xT; decide
  rw [me_113, xn]
  refine zC_i h1 ⟨fun c => ?_, fun c => zC_i (zr (by omega) (by omega)) ⟨fun c2 => ?_, fun c2 => ?_⟩⟩
  · rw [me_251]
    exact zC_i h1 ⟨fun _ => ⟨rfl, hend⟩, fun q => absurd c q⟩
  · match ot, hX, hM, xn, mn, ob, hP, c2 with
    | none, hX, hM, xn, mn, ob, hP, c2 => exact absurd rfl c2
    | some t, hX, hM, xn, mn, ob, hP, c2 =>
      have hP' := hP
      obtain ⟨p1, p2, p3, p4, p5, p6, p7, p8⟩ := hP'
      have hv := (p2 t rfl).2
      have b6 := p3.1
      have bb := eBs_b (t := t) B 0 0 p3.2.2.1 (by omega) (by decide)
      have hxb : xBg (zUp M 147 4 a1) B := xBg_fr hX.2.2.1 fun c c1 c2 => zUp_away (by omega)
      refine x_bits (d := 13) xb38 p3 hxb (xTr_fr hX.2.1 fun c c1 c2 => zUp_away (by omega)) hv ?_
      refine x_runOnce (d := 14) (od := bOd B) (n := B.length) bb (by omega) hxb.1 (xBg_od hxb p3) (by rw [zUp_here]; omega) ?_
      rw [zUp_here]
      intro M1 f1 f2 f3
      have hX1 : iX G (some t) B J vs H n tn tA fk fp (zUp M1 147 4 (M 147 4)) := iX_147 hX (fun c hc => by rw [zUp_away hc, f1 c hc, zUp_away hc]) (fun j => by
        rw [zUp_hit]
        by_cases cj : j = 4
        · rw [if_pos cj, cj]
        · rw [if_neg cj, f2 j cj, zUp_there cj])
      have hM1 := iM_up hM (M' := zUp M1 147 4 (M 147 4)) (fun c hc => by rw [zUp_away (by omega), f1 c (by omega), zUp_away (by omega)])
      have hM2 := iM_thr hM1 0
      rw [me_251]
      refine zC_i h1 ⟨fun q => absurd q c, fun _ => m_many (by decide) ?_⟩
      rw [mTo_n hM2.2.1]
      refine zC_i (zr (by omega) (by omega)) ⟨fun _ => zC_i h1 ?_, fun q => absurd c2 q⟩
      have hmb : mBg (zUp (zUp (zUp M1 147 4 (M 147 4)) 154 0 0) 154 47 a1) B := mBg_fr hM2.2.2.1 (fun c hc => zUp_away (by omega)) (zUp_there (by decide))
      refine m_bits (d := 9) (by decide) p3 hmb (mTr_fr hM2.2.1 fun _ _ _ => rfl) hv ?_
      intro M2 g
      have hmb2 : mBg M2 B := mBg_fr hmb (fun c hc => g c (by omega) (by omega)) (by rw [g 154 (by decide) (by decide)])
      have e47 : M2 154 47 = a1 := by rw [g 154 (by decide) (by decide), zUp_here]
      refine m_runOf (d := 13) (od := bOd B) (n := B.length) bb (by omega) hmb2.1 (mBg_od hmb2 p3) (by rw [e47]; omega) ?_
      rw [e47]
      intro M3 k1 k2 k3
      refine ⟨rfl, G, some t, B, J, vs, H, n, l, tn, tA, fk, fp, hP, ?_, ?_⟩
      · refine iX_up hX1 (fun c hc => ?_)
        rw [zUp_away (by omega), k1 c (by omega), g c (by omega) (by omega), zUp_away (by omega), zUp_away (by omega)]
      · refine iM_fr hM2 (fun c hc => ?_) (fun p _ => ?_) (fun j hj => ?_)
        · rw [zUp_away (by omega), k1 c (by omega), g c (by omega) (by omega), zUp_away (by omega)]
        · rw [zUp_away (by decide), k1 165 (by decide), g 165 (by decide) (by decide), zUp_away (by decide)]
        · by_cases c47 : j = 47
          · rw [c47, zUp_here]
          · rw [zUp_there c47, k2 j c47, g 154 (by decide) (by decide), zUp_there c47]
  · rw [me_251]
    refine zC_i h1 ⟨fun q => absurd q c, fun _ => m_many (by decide) ?_⟩
    rw [zUp_away (by decide), mn]
    exact zC_i (zr (by omega) (by omega)) ⟨fun q => absurd q c2, fun _ => ⟨rfl, hend⟩⟩
def oft (od : Int → Int) (bits : Int) (n : Nat) (bug : Int) : Nat → Int → Int
  | 0, _ => 0
  | m + 1, s => fl ((rn od bits n 0 s).1 = bug) + oft od bits n bug m (rn od bits n 0 s).2
theorem x_oft_l {d : Nat} {K : Kt} {od : Int → Int} {bits n bug x2 x3 x5 : Int} (hb : 0 ≤ bits ∧ bits < 64) (hn : 0 ≤ n ∧ n ≤ 6) (hbug : zR32 bug = true) (h3 : x3 ≤ 1000) : ∀ (m : Nat) (M : Mm) (i c : Int), i + m = x3 → 0 ≤ i → M 24 0 = n → (∀ k, 0 ≤ k → k < n → M 26 k = od k ∧ 1 ≤ od k ∧ od k ≤ 100) → 0 ≤ M 147 4 ∧ M 147 4 < 2147483648 → (∀ M', (∀ c, c ≠ 147 → M' c = M c) → (∀ j, j ≠ 4 → M' 147 j = M 147 j) → M' 147 4 = x5 → K (c + oft od bits n.toNat bug m (M 147 4)) M') → zWp (zSp (d + 1)) 126 K 81 [some (.inr (.inr 0)), some (.inl bug), some (.inl x2), some (.inl x3), some (.inl bits), some (.inl x5), some (.inl c), some (.inl i)] [] M
  | 0, M, i, c, hi, h0, h24, hod, hs, hK => by
    rw [fe_126_81]
    (repeat (first | (with_reducible refine zC_i ?hob ?_; case hob => first | assumption | decide | exact zr (by omega) (by omega) | exact zs (by omega) (by omega) | exact zd (by omega) (by omega)) | (with_reducible refine zIfT ?hob ?_; case hob => first | assumption | omega | decide) | (with_reducible refine zIfF ?hob ?_; case hob => first | assumption | omega | decide)))
    have := hK (zUp M 147 4 x5) (fun c hc => zUp_away hc) (fun j hj => zUp_there hj) zUp_here
    rw [show c + oft od bits n.toNat bug 0 (M 147 4) = c by show c + 0 = c; omega] at this
    exact this
  | m + 1, M, i, c, hi, h0, h24, hod, hs, hK => by
    have rb := rn_b (od := od) (bits := bits) n.toNat 0 (M 147 4) (by omega) hs
    rw [fe_126_81]
    (repeat (first | (with_reducible refine zC_i ?hob ?_; case hob => first | assumption | decide | exact zr (by omega) (by omega) | exact zs (by omega) (by omega) | exact zd (by omega) (by omega)) | (with_reducible refine zIfT ?hob ?_; case hob => first | assumption | omega | decide) | (with_reducible refine zIfF ?hob ?_; case hob => first | assumption | omega | decide)))
    refine x_runOnce hb hn h24 hod hs ?_
    intro M1 f1 f2 f3
    have er : oft od bits n.toNat bug (m + 1) (M 147 4) = fl ((rn od bits n.toNat 0 (M 147 4)).1 = bug) + oft od bits n.toNat bug m (rn od bits n.toNat 0 (M 147 4)).2 := rfl
    rw [er] at hK
    generalize rn od bits n.toNat 0 (M 147 4) = r at *
    have nx : ∀ c', c' = c + fl (r.1 = bug) → zWp (zSp (d + 1)) 126 K 81 [some (.inr (.inr 0)), some (.inl bug), some (.inl x2), some (.inl x3), some (.inl bits), some (.inl x5), some (.inl c'), some (.inl (i + 1))] [] M1 := by
      intro c' hc'
      refine x_oft_l hb hn hbug h3 m M1 (i + 1) c' (by omega) (by omega) (by rw [f1 24 (by decide)]; exact h24) (by rw [f1 26 (by decide)]; exact hod) (by rw [f3]; exact rb.2) ?_
      intro M' g1 g2 g3
      rw [f3, hc', Int.add_assoc]
      exact hK M' (fun c hc => by rw [g1 c hc, f1 c hc]) (fun j hj => by rw [g2 j hj, f2 j hj]) g3
    (repeat (first | (with_reducible refine zC_i ?hob ?_; case hob => first | assumption | decide | exact zr (by omega) (by omega) | exact zs (by omega) (by omega) | exact zd (by omega) (by omega)) | (with_reducible refine zIfT ?hob ?_; case hob => first | assumption | omega | decide) | (with_reducible refine zIfF ?hob ?_; case hob => first | assumption | omega | decide)))
    refine ⟨fun q => nx c (by rw [fl_f q]; omega), fun q => nx (c + 1) (by rw [fl_t (by omega)])⟩
theorem m_oft_l {d : Nat} {K : Kt} {od : Int → Int} {bits n bug x2 x3 x5 : Int} (hb : 0 ≤ bits ∧ bits < 64) (hn : 0 ≤ n ∧ n ≤ 6) (hbug : zR32 bug = true) (h3 : x3 ≤ 1000) : ∀ (m : Nat) (M : Mm) (i c : Int), i + m = x3 → 0 ≤ i → M 154 37 = n → (∀ k, 0 ≤ k → k < n → M 172 k = od k ∧ 1 ≤ od k ∧ od k ≤ 100) → 0 ≤ M 154 47 ∧ M 154 47 < 2147483648 → (∀ M', (∀ c, c ≠ 154 → M' c = M c) → (∀ j, j ≠ 47 → M' 154 j = M 154 j) → M' 154 47 = x5 → K (c + oft od bits n.toNat bug m (M 154 47)) M') → zWp (zSp (d + 2)) 252 K 78 [some (.inr (.inr 154)), some (.inl bug), some (.inl x2), some (.inl x3), some (.inr (.inl x5)), none, some (.inl bits), some (.inl c), some (.inl i)] [] M
  | 0, M, i, c, hi, h0, h24, hod, hs, hK => by
    rw [fe_252_78]
    (repeat (first | (with_reducible refine zC_i ?hob ?_; case hob => first | assumption | decide | exact zr (by omega) (by omega) | exact zs (by omega) (by omega) | exact zd (by omega) (by omega)) | (with_reducible refine zIfT ?hob ?_; case hob => first | assumption | omega | decide) | (with_reducible refine zIfF ?hob ?_; case hob => first | assumption | omega | decide)))
    have := hK (zUp M 154 47 x5) (fun c hc => zUp_away hc) (fun j hj => zUp_there hj) zUp_here
    rw [show c + oft od bits n.toNat bug 0 (M 154 47) = c by show c + 0 = c; omega] at this
    exact this
  | m + 1, M, i, c, hi, h0, h24, hod, hs, hK => by
    have rb := rn_b (od := od) (bits := bits) n.toNat 0 (M 154 47) (by omega) hs
    rw [fe_252_78]
    (repeat (first | (with_reducible refine zC_i ?hob ?_; case hob => first | assumption | decide | exact zr (by omega) (by omega) | exact zs (by omega) (by omega) | exact zd (by omega) (by omega)) | (with_reducible refine zIfT ?hob ?_; case hob => first | assumption | omega | decide) | (with_reducible refine zIfF ?hob ?_; case hob => first | assumption | omega | decide)))
    refine m_runOf hb hn h24 hod hs ?_
    intro M1 f1 f2 f3
    have er : oft od bits n.toNat bug (m + 1) (M 154 47) = fl ((rn od bits n.toNat 0 (M 154 47)).1 = bug) + oft od bits n.toNat bug m (rn od bits n.toNat 0 (M 154 47)).2 := rfl
    rw [er] at hK
    generalize rn od bits n.toNat 0 (M 154 47) = r at *
    have nx : ∀ y, y = fl (r.1 = bug) → zWp (zSp (d + 2)) 252 K 101 [some (.inr (.inr 154)), some (.inl bug), some (.inl x2), some (.inl x3), some (.inr (.inl x5)), none, some (.inl bits), some (.inl c), some (.inl i)] [.inl y, .inl c] M1 := by
      intro y hy
      rw [fe_252_101]
      refine m_flag (by rw [hy]; exact fl_b) ?_
      refine m_oft_l hb hn hbug h3 m M1 (i + 1) (c + y) (by omega) (by omega) (by rw [f2 37 (by decide)]; exact h24) (by rw [f1 172 (by decide)]; exact hod) (by rw [f3]; exact rb.2) ?_
      intro M' g1 g2 g3
      rw [f3, hy, Int.add_assoc]
      exact hK M' (fun c hc => by rw [g1 c hc, f1 c hc]) (fun j hj => by rw [g2 j hj, f2 j hj]) g3
    (repeat (first | (with_reducible refine zC_i ?hob ?_; case hob => first | assumption | decide | exact zr (by omega) (by omega) | exact zs (by omega) (by omega) | exact zd (by omega) (by omega)) | (with_reducible refine zIfT ?hob ?_; case hob => first | assumption | omega | decide) | (with_reducible refine zIfF ?hob ?_; case hob => first | assumption | omega | decide)))
    refine ⟨fun q => nx 0 (fl_f q).symm, fun q => nx 1 (fl_t (by omega)).symm⟩
theorem x_isBug {d : Nat} {M : Mm} {K : Kt} {B : List Bg} {a : Int} (hx : xBg M B) (h6 : B.length ≤ 6) (ha : zR32 a = true) (hK : K (fl (0 ≤ a ∧ a < B.length)) M) : zSp (d + 1) 128 [.inr (.inr 0), .inl a] M K := by
  rw [me_128, hx.1]
  refine zC_i ha ⟨fun c => ?_, fun c => zC_i ha (zC_i (zr (by omega) (by omega)) ⟨fun c2 => ?_, fun c2 => ?_⟩)⟩
  · rw [fl_f (by omega)] at hK; exact hK
  · rw [fl_f (by omega)] at hK; exact hK
  · rw [fl_t (by omega)] at hK; exact hK
theorem m_isBug {d : Nat} {M : Mm} {K : Kt} {B : List Bg} {a : Int} (hx : mBg M B) (h6 : B.length ≤ 6) (ha : zR32 a = true) (hK : K (fl (0 ≤ a ∧ a < B.length)) M) : zSp (d + 2) 227 [.inr (.inr 154), .inl a] M K := by
  rw [me_227, hx.1]
  refine zC_i ha (zC_i (zr (by omega) (by omega)) (m_isIn (zr_to64 ha) (by decide) (zr64 (by omega) (by omega)) ?_))
  by_cases c : 0 ≤ a ∧ a < B.length
  · rw [if_pos (by omega)]
    rw [fl_t c] at hK
    exact zC_i (by decide) hK
  · rw [if_neg (by omega)]
    rw [fl_f c] at hK
    exact zC_i (by decide) hK
theorem st_29 : zStep_29 Inv := by
  intro M hI a1 h1 a2 h2 a3 h3
  obtain ⟨G, ot, B, J, vs, H, n, l, tn, tA, fk, fp, hP, hX, hM⟩ := hI
  have hend : Inv (zUp M 154 0 0) := ⟨G, ot, B, J, vs, H, n, l, tn, tA, fk, fp, hP, iX_thr hX _ _, iM_thr hM 0⟩
  have ob := oSz_b hP.2.1
  have xn := xTo_n hX.2.1
  have mn := mTo_n hM.2.1
  have hr := zR32_iff.mp h2
  have b6 := hP.2.2.1.1
  have xb38 : xT 38 := by unfold xT; decide
  -- the reference up to the runs
  have hm : ∀ (M1 : Mm) (K : Kt), iM G ot B J vs H n l tn tA fk fp M1 → (¬ (-1 ≤ a1 ∧ a1 < B.length ∧ 0 ≤ a2 ∧ 1 ≤ a3 ∧ a3 ≤ 1000) → K (-2) (zUp M1 154 0 0)) → ((-1 ≤ a1 ∧ a1 < B.length ∧ 0 ≤ a2 ∧ 1 ≤ a3 ∧ a3 ≤ 1000) → oSz ot = 0 → K (-3) (zUp M1 154 0 0)) → ((-1 ≤ a1 ∧ a1 < B.length ∧ 0 ≤ a2 ∧ 1 ≤ a3 ∧ a3 ≤ 1000) → oSz ot ≠ 0 → zSp 15 206 [.inr (.inr 154), .inl 0] (zUp (zUp M1 154 0 0) 154 47 a2) (fun z4 M4 => zWp (zSp 15) 252 K 78 [some (.inr (.inr 154)), some (.inl a1), some (.inl a2), some (.inl a3), some (.inr (.inl ((zUp M1 154 0 0) 154 47))), none, some (.inl z4), some (.inl 0), some (.inl 0)] [] M4)) → zSp 16 252 [.inr (.inr 154), .inl a1, .inl a2, .inl a3] M1 K := by
    intro M1 K hM1 k0 k1 k2
    rw [me_252, hM1.2.2.1.1]
    refine zC_i h1 (zC_i (zr (by omega) (by omega)) (m_isIn (d := 14) (zr_to64 h1) (by decide) (zr64 (by omega) (by omega)) ?_))
    by_cases c1 : -1 ≤ a1 ∧ a1 < B.length
    · rw [if_pos (by omega)]
      refine zC_i (by decide) ⟨fun q => absurd q (by decide), fun _ => zC_i h2 ⟨fun c2 => k0 (by omega), fun c2 => zC_i h3 (m_isIn (d := 14) (zr_to64 h3) (by decide) (by decide) ?_)⟩⟩
      by_cases c3 : 1 ≤ a3 ∧ a3 ≤ 1000
      · rw [if_pos c3]
        refine zC_i (by decide) ⟨fun _ => m_many (by decide) ?_, fun q => absurd (by decide) q⟩
        rw [mTo_n (iM_thr hM1 0).2.1]
        refine zC_i (zr (by omega) (by omega)) ⟨fun c4 => zC_i h2 (k2 (by omega) c4), fun c4 => k1 (by omega) (by omega)⟩
      · rw [if_neg c3]
        exact zC_i (by decide) ⟨fun q => absurd rfl q, fun _ => k0 (by omega)⟩
    · rw [if_neg (by omega)]
      exact zC_i (by decide) ⟨fun _ => k0 (by omega), fun q => absurd rfl q⟩
  have no : ¬ (-1 ≤ a1 ∧ a1 < B.length ∧ 0 ≤ a2 ∧ 1 ≤ a3 ∧ a3 ≤ 1000) → zSp 16 252 [.inr (.inr 154), .inl a1, .inl a2, .inl a3] M (fun z2 M2 => z2 = -2 ∧ Inv M2) := fun hc => hm M _ hM (fun _ => ⟨rfl, hend⟩) (fun w => absurd w hc) (fun w => absurd w hc)
  have h13 : -1 ≤ a1 ∧ a1 < B.length → zWp (zSp 15) 126 (fun z M1 => zSp 16 252 [.inr (.inr 154), .inl a1, .inl a2, .inl a3] M1 (fun z2 M2 => z2 = z ∧ Inv M2)) 13 [some (.inr (.inr 0)), some (.inl a1), some (.inl a2), some (.inl a3), none, none, none, none] [] M := by
    intro ha
    rw [fe_126_13, xn]
    refine zC_i h2 ⟨fun c => no (by omega), fun c => zC_i h3 ⟨fun c2 => no (by omega), fun c2 => zC_i h3 ⟨fun c3 => zC_i (zr (by omega) (by omega)) ⟨fun c4 => ?_, fun c4 => ?_⟩, fun c3 => no (by omega)⟩⟩⟩
    · match ot, hX, hM, xn, mn, ob, hP, c4, hm with
      | none, hX, hM, xn, mn, ob, hP, c4, hm => exact absurd rfl c4
      | some t, hX, hM, xn, mn, ob, hP, c4, hm =>
        have hP' := hP
        obtain ⟨p1, p2, p3, p4, p5, p6, p7, p8⟩ := hP'
        have hv := (p2 t rfl).2
        have bb := eBs_b (t := t) B 0 0 p3.2.2.1 (by omega) (by decide)
        refine x_bits (d := 13) xb38 p3 hX.2.2.1 hX.2.1 hv ?_
        have hxb : xBg (zUp M 147 4 a2) B := xBg_fr hX.2.2.1 fun c c1 c2 => zUp_away (by omega)
        refine x_oft_l (d := 14) (od := bOd B) (n := B.length) bb (by omega) h1 c3 a3.toNat _ 0 0 (by omega) (by omega) hxb.1 (xBg_od hxb p3) (by rw [zUp_here]; omega) ?_
        rw [zUp_here]
        intro M1 f1 f2 f3
        have hX1 : iX G (some t) B J vs H n tn tA fk fp M1 := iX_147 hX (fun c hc => by rw [f1 c hc, zUp_away hc]) (fun j => by
          by_cases cj : j = 4
          · rw [cj, f3]
          · rw [f2 j cj, zUp_there cj])
        have hM1 := iM_up hM (M' := M1) (fun c hc => by rw [f1 c (by omega), zUp_away (by omega)])
        have hM2 := iM_thr hM1 0
        refine hm M1 _ hM1 (fun w => absurd (by omega) w) (fun _ w => absurd w c4) (fun _ _ => ?_)
        have hmb : mBg (zUp (zUp M1 154 0 0) 154 47 a2) B := mBg_fr hM2.2.2.1 (fun c hc => zUp_away (by omega)) (zUp_there (by decide))
        refine m_bits (d := 9) (by decide) p3 hmb (mTr_fr hM2.2.1 fun _ _ _ => rfl) hv ?_
        intro M2 g
        have hmb2 : mBg M2 B := mBg_fr hmb (fun c hc => g c (by omega) (by omega)) (by rw [g 154 (by decide) (by decide)])
        have e47 : M2 154 47 = a2 := by rw [g 154 (by decide) (by decide), zUp_here]
        refine m_oft_l (d := 13) (od := bOd B) (n := B.length) bb (by omega) h1 c3 a3.toNat M2 0 0 (by omega) (by omega) hmb2.1 (mBg_od hmb2 p3) (by rw [e47]; omega) ?_
        rw [e47]
        intro M3 k1 k2 k3
        refine ⟨rfl, G, some t, B, J, vs, H, n, l, tn, tA, fk, fp, hP, ?_, ?_⟩
        · refine iX_up hX1 (fun c hc => ?_)
          rw [k1 c (by omega), g c (by omega) (by omega), zUp_away (by omega), zUp_away (by omega)]
        · refine iM_fr hM2 (fun c hc => ?_) (fun p _ => ?_) (fun j hj => ?_)
          · rw [k1 c (by omega), g c (by omega) (by omega), zUp_away (by omega)]
          · rw [k1 165 (by decide), g 165 (by decide) (by decide), zUp_away (by decide)]
          · by_cases c47 : j = 47
            · rw [c47, k3]
            · rw [k2 j c47, g 154 (by decide) (by decide), zUp_there c47]
    · exact hm M _ hM (fun w => absurd (by omega) w) (fun _ _ => ⟨rfl, hend⟩) (fun _ w => absurd w c4)
  rw [me_126]
  refine zC_i h1 ⟨fun c => h13 (by omega), fun c => x_isBug (d := 14) hX.2.2.1 b6 h1 ?_⟩
  by_cases c2 : 0 ≤ a1 ∧ a1 < B.length
  · rw [fl_t c2]
    exact zC_i (by decide) ⟨fun q => absurd q (by decide), fun _ => h13 (by omega)⟩
  · rw [fl_f c2]
    exact zC_i (by decide) ⟨fun _ => no (by omega), fun q => absurd rfl q⟩
def trC (L : List Te) (v : Int) : Nat → Nat → Int
  | 0, _ => 0
  | m + 1, i => fl ((te L i).2.1 = v) + trC L v m (i + 1)
theorem x_trC {d : Nat} {M : Mm} {K : Kt} {L : List Te} {v : Int} (hv : zR32 v = true) (hL : xTd M L) (hb : ∀ i : Nat, i < L.length → -1 ≤ (te L i).2.1 ∧ (te L i).2.1 < 100) : ∀ (m i : Nat) (x3 c : Int), i + m = L.length → x3 = i → K (c + trC L v m i) M → zWp (zSp d) 122 K 20 [some (.inr (.inr 0)), some (.inl v), some (.inl c), some (.inl x3)] [] M
  | 0, i, x3, c, hi, hx, hK => by
    have h6 := hL.2.1
    rw [fe_122_20, hL.1]
    (repeat (first | (with_reducible refine zC_i ?hob ?_; case hob => first | assumption | decide | exact zr (by omega) (by omega) | exact zs (by omega) (by omega) | exact zd (by omega) (by omega)) | (with_reducible refine zIfT ?hob ?_; case hob => first | assumption | omega | decide) | (with_reducible refine zIfF ?hob ?_; case hob => first | assumption | omega | decide)))
    rw [show c + trC L v 0 i = c by show c + 0 = c; omega] at hK
    exact hK
  | m + 1, i, x3, c, hi, hx, hK => by
    have h6 := hL.2.1
    have e := (hL.2.2.1 i (by omega)).2.2.1
    have b := hb i (by omega)
    rw [show c + trC L v (m + 1) i = c + fl ((te L i).2.1 = v) + trC L v m (i + 1) from (Int.add_assoc _ _ _).symm] at hK
    rw [fe_122_20, hL.1, show M 140 x3 = (te L i).2.1 by rw [hx]; exact e]
    (repeat (first | (with_reducible refine zC_i ?hob ?_; case hob => first | assumption | decide | exact zr (by omega) (by omega) | exact zs (by omega) (by omega) | exact zd (by omega) (by omega)) | (with_reducible refine zIfT ?hob ?_; case hob => first | assumption | omega | decide) | (with_reducible refine zIfF ?hob ?_; case hob => first | assumption | omega | decide)))
    refine ⟨fun q => x_trC hv hL hb m (i + 1) (x3 + 1) c (by omega) (by omega) ?_, fun q => x_trC hv hL hb m (i + 1) (x3 + 1) (c + 1) (by omega) (by omega) ?_⟩
    · rw [fl_f q, Int.add_zero] at hK; exact hK
    · rw [fl_t (by omega)] at hK; exact hK
theorem m_trC {d : Nat} {M : Mm} {K : Kt} {L : List Te} {v : Int} (hv : zR32 v = true) (hL : mTd M L) (h6 : L.length ≤ 600) (hb : ∀ i : Nat, i < L.length → -1 ≤ (te L i).2.1 ∧ (te L i).2.1 < 100) : ∀ (m i : Nat) (x3 c : Int), i + m = L.length → x3 = i → K (c + trC L v m i) M → zWp (zSp (d + 1)) 243 K 30 [some (.inr (.inr 154)), some (.inl v), some (.inl c), some (.inl x3)] [] M
  | 0, i, x3, c, hi, hx, hK => by
    rw [fe_243_30, hL.1]
    (repeat (first | (with_reducible refine zC_i ?hob ?_; case hob => first | assumption | decide | exact zr (by omega) (by omega) | exact zs (by omega) (by omega) | exact zd (by omega) (by omega)) | (with_reducible refine zIfT ?hob ?_; case hob => first | assumption | omega | decide) | (with_reducible refine zIfF ?hob ?_; case hob => first | assumption | omega | decide)))
    rw [show c + trC L v 0 i = c by show c + 0 = c; omega] at hK
    exact hK
  | m + 1, i, x3, c, hi, hx, hK => by
    have e := (hL.2 i (by omega)).2.1
    have b := hb i (by omega)
    rw [show c + trC L v (m + 1) i = c + fl ((te L i).2.1 = v) + trC L v m (i + 1) from (Int.add_assoc _ _ _).symm] at hK
    rw [fe_243_30, hL.1, show M 183 x3 = (te L i).2.1 by rw [hx]; exact e]
    have nx : ∀ y, y = fl ((te L i).2.1 = v) → zWp (zSp (d + 1)) 243 K 54 [some (.inr (.inr 154)), some (.inl v), some (.inl c), some (.inl x3)] [.inl y, .inl c] M := by
      intro y hy
      rw [fe_243_54]
      refine m_flag (by rw [hy]; exact fl_b) ?_
      rw [hy]
      exact m_trC hv hL h6 hb m (i + 1) (x3 + 1) _ (by omega) (by omega) hK
    (repeat (first | (with_reducible refine zC_i ?hob ?_; case hob => first | assumption | decide | exact zr (by omega) (by omega) | exact zs (by omega) (by omega) | exact zd (by omega) (by omega)) | (with_reducible refine zIfT ?hob ?_; case hob => first | assumption | omega | decide) | (with_reducible refine zIfF ?hob ?_; case hob => first | assumption | omega | decide)))
    refine ⟨fun q => nx 0 (fl_f q).symm, fun q => nx 1 (fl_t (by omega)).symm⟩
theorem st_25 : zStep_25 Inv := by
  intro M hI a1 h1
  obtain ⟨G, ot, B, J, vs, H, n, l, tn, tA, fk, fp, hP, hX, hM⟩ := hI
  have hend : Inv (zUp M 154 0 0) := ⟨G, ot, B, J, vs, H, n, l, tn, tA, fk, fp, hP, iX_thr hX _ _, iM_thr hM 0⟩
  have b6 := hP.2.2.1.1
  have jk := hP.2.2.2.1
  have hb : ∀ i : Nat, i < J.1.length → -1 ≤ (te J.1 i).2.1 ∧ (te J.1 i).2.1 < 100 := fun i hi => by have := jk.2.2.1 i hi; omega
  have hm : ∀ z, (((-1 ≤ a1 ∧ a1 < B.length) ∧ z = 0 + trC J.1 a1 J.1.length 0) ∨ (¬ (-1 ≤ a1 ∧ a1 < B.length) ∧ z = -2)) → zSp 16 243 [.inr (.inr 154), .inl a1] M (fun z2 M2 => z2 = z ∧ Inv M2) := by
    intro z hz
    rw [me_243, hM.2.2.1.1]
    refine zC_i h1 (zC_i (zr (by omega) (by omega)) (m_isIn (d := 14) (zr_to64 h1) (by decide) (zr64 (by omega) (by omega)) ?_))
    by_cases c : -1 ≤ a1 ∧ a1 < B.length
    · rw [if_pos (by omega)]
      refine zC_i (by decide) ⟨fun _ => ?_, fun q => absurd (by decide) q⟩
      refine m_trC (d := 14) h1 (iM_thr hM 0).2.2.2.1.1 jk.2.1 hb J.1.length 0 0 0 (by omega) rfl ⟨?_, hend⟩
      omega
    · rw [if_neg (by omega)]
      exact zC_i (by decide) ⟨fun q => absurd rfl q, fun _ => ⟨by omega, hend⟩⟩
  have yes : -1 ≤ a1 ∧ a1 < B.length → zWp (zSp 15) 122 (fun z M1 => zSp 16 243 [.inr (.inr 154), .inl a1] M1 (fun z2 M2 => z2 = z ∧ Inv M2)) 20 [some (.inr (.inr 0)), some (.inl a1), some (.inl 0), some (.inl 0)] [] M := fun c =>
    x_trC h1 hX.2.2.2.1.1 hb J.1.length 0 0 0 (by omega) rfl (hm _ (.inl ⟨c, rfl⟩))
  rw [me_122]
  refine zC_i h1 ⟨fun c => yes (by omega), fun c => x_isBug (d := 14) hX.2.2.1 b6 h1 ?_⟩
  by_cases c2 : 0 ≤ a1 ∧ a1 < B.length
  · rw [fl_t c2]
    exact zC_i (by decide) ⟨fun _ => yes (by omega), fun q => absurd (by decide) q⟩
  · rw [fl_f c2]
    exact zC_i (by decide) ⟨fun q => absurd rfl q, fun _ => hm _ (.inr ⟨by omega, rfl⟩)⟩
theorem st_26 : zStep_26 Inv := by
  intro M hI a1 h1 a2 h2
  obtain ⟨G, ot, B, J, vs, H, n, l, tn, tA, fk, fp, hP, hX, hM⟩ := hI
  have hend : Inv (zUp M 154 0 0) := ⟨G, ot, B, J, vs, H, n, l, tn, tA, fk, fp, hP, iX_thr hX _ _, iM_thr hM 0⟩
  have jk := hP.2.2.2.1
  have h6 := jk.2.1
  have hL := hX.2.2.2.1.1
  have no : ¬ (0 ≤ a1 ∧ a1 < J.1.length) → zSp 16 244 [.inr (.inr 154), .inl a1, .inl a2] M (fun z2 M2 => z2 = -2 ∧ Inv M2) := by
    intro hc
    rw [me_244, hM.2.2.2.1.1.1]
    refine zC_i h1 (zC_i (zr (by omega) (by omega)) (m_isIn (d := 14) (zr_to64 h1) (by decide) (zr64 (by omega) (by omega)) ?_))
    rw [if_neg (by omega)]
    exact zC_i (by decide) ⟨fun q => absurd rfl q, fun _ => ⟨rfl, hend⟩⟩
  rw [me_123, hL.1]
  refine zC_i h1 ⟨fun c => no (by omega), fun c => zC_i h1 (zC_i (zr (by omega) (by omega)) ⟨fun c2 => ?_, fun c2 => no (by omega)⟩)⟩
  obtain ⟨_, x1, x2, x3, x4, _, _⟩ := hL.2.2.1 a1.toNat (by omega)
  obtain ⟨m1, m2, m3, m4, _⟩ := (iM_thr hM 0).2.2.2.1.1.2 a1.toNat (by omega)
  rw [show ((a1.toNat : Nat) : Int) = a1 by omega] at x1 x2 x3 x4 m1 m2 m3 m4
  have hm : ∀ z, ((a2 = 0 ∧ z = tSz (te J.1 a1.toNat).1) ∨ (a2 = 1 ∧ z = (te J.1 a1.toNat).2.1) ∨ (a2 = 2 ∧ z = (te J.1 a1.toNat).2.2.1) ∨ (a2 = 3 ∧ z = (te J.1 a1.toNat).2.2.2) ∨ ((a2 < 0 ∨ 3 < a2) ∧ z = -2)) → zSp 16 244 [.inr (.inr 154), .inl a1, .inl a2] M (fun z2 M2 => z2 = z ∧ Inv M2) := by
    intro z hz
    rw [me_244, hM.2.2.2.1.1.1]
    refine zC_i h1 (zC_i (zr (by omega) (by omega)) (m_isIn (d := 14) (zr_to64 h1) (by decide) (zr64 (by omega) (by omega)) ?_))
    rw [if_pos (by omega)]
    refine zC_i (by decide) ⟨fun _ => zC_i h2 ⟨⟨fun q => zC_i (zs (by omega) (by omega)) ⟨?_, hend⟩, fun q => zC_i (zs (by omega) (by omega)) ⟨?_, hend⟩, fun q => zC_i (zs (by omega) (by omega)) ⟨?_, hend⟩, fun q => zC_i (zs (by omega) (by omega)) ⟨?_, hend⟩, trivial⟩, fun q => ⟨by omega, hend⟩⟩, fun q => absurd (by decide) q⟩
    · rw [m1]; omega
    · rw [m2]; omega
    · rw [m3]; omega
    · rw [m4]; omega
  refine zC_i h2 ⟨⟨fun q => zC_i (zs (by omega) (by omega)) ?_, fun q => zC_i (zs (by omega) (by omega)) ?_, fun q => zC_i (zs (by omega) (by omega)) ?_, fun q => zC_i (zs (by omega) (by omega)) ?_, trivial⟩, fun q => hm _ (.inr (.inr (.inr (.inr ⟨q, rfl⟩))))⟩
  · rw [x1]; exact hm _ (.inl ⟨q, rfl⟩)
  · rw [x2]; exact hm _ (.inr (.inl ⟨q, rfl⟩))
  · rw [x3]; exact hm _ (.inr (.inr (.inl ⟨q, rfl⟩)))
  · rw [x4]; exact hm _ (.inr (.inr (.inr (.inl ⟨q, rfl⟩))))
-- rows
def rAn : List Int → Int → Int → Int
  | [], m, k => if k = -1 then m else -1
  | x :: L, m, k => if m = k then x else rAn L (m + 1) k
theorem rAn_eq {M : Mm} : ∀ (L : List Int) (m k : Int), 0 ≤ m → rLs M 191 L m → rAn L m k = if k = -1 then m + L.length else if m ≤ k ∧ k < m + L.length then M 191 k else -1
  | [], m, k, h0, hr => by
    show (if k = -1 then m else -1) = if k = -1 then m + 0 else _
    by_cases c : k = -1
    · rw [if_pos c, if_pos c]; omega
    · rw [if_neg c, if_neg c, if_neg (by show ¬ (m ≤ k ∧ k < m + 0); omega)]
  | x :: L, m, k, h0, hr => by
    have ih := rAn_eq L (m + 1) k (by omega) hr.2
    have el : ((x :: L).length : Int) = (L.length : Int) + 1 := by show ((L.length + 1 : Nat) : Int) = _; omega
    show (if m = k then x else rAn L (m + 1) k) = _
    rw [el]
    by_cases c : m = k
    · rw [if_pos c, if_neg (by omega), if_pos (by omega), ← c]; exact hr.1.symm
    · rw [if_neg c, ih]
      by_cases c2 : k = -1
      · rw [if_pos c2, if_pos c2]; omega
      · rw [if_neg c2, if_neg c2]
        by_cases c3 : m + 1 ≤ k ∧ k < m + 1 + L.length
        · rw [if_pos c3, if_pos (by omega)]
        · rw [if_neg c3, if_neg (by omega)]
theorem x_row_l {d : Nat} {M G : Mm} {K : Kt} {t : Tr} {lev k : Int} (hg : gOk G) (hv : tVal (G 4 0) t) (hl : zR32 lev = true) (hk : zR32 k = true) (hx : xG G M) (ht : xTr M 38 t) : ∀ (m : Nat) (i c : Int), i + m = tSz t → 0 ≤ i → 0 ≤ c → c ≤ i → K (rAn (rRowL G t lev m i) c k) M → zWp (zSp (d + 3)) 120 K 22 [some (.inr (.inr 0)), some (.inl lev), some (.inl k), some (.inl c), some (.inl i)] [] M
  | 0, i, c, hi, h0, hc, hci, hK => by
    have t1 : M 38 1 = tSz t := ht.1.1
    have t5 := ht.2.1
    have hK : K (if k = -1 then c else -1) M := hK
    rw [fe_120_22, t1]
    (repeat (first | (with_reducible refine zC_i ?hob ?_; case hob => first | assumption | decide | exact zr (by omega) (by omega) | exact zs (by omega) (by omega) | exact zd (by omega) (by omega)) | (with_reducible refine zIfT ?hob ?_; case hob => first | assumption | omega | decide) | (with_reducible refine zIfF ?hob ?_; case hob => first | assumption | omega | decide)))
    refine ⟨fun q => ?_, fun q => ?_⟩
    · rw [if_neg q] at hK; exact hK
    · rw [if_pos (by omega)] at hK; exact hK
  | m + 1, i, c, hi, h0, hc, hci, hK => by
    have t1 : M 38 1 = tSz t := ht.1.1
    have t5 := ht.2.1
    have xb38 : xT 38 := by unfold xT; decide
    rw [fe_120_22, t1]
    (repeat (first | (with_reducible refine zC_i ?hob ?_; case hob => first | assumption | decide | exact zr (by omega) (by omega) | exact zs (by omega) (by omega) | exact zd (by omega) (by omega)) | (with_reducible refine zIfT ?hob ?_; case hob => first | assumption | omega | decide) | (with_reducible refine zIfF ?hob ?_; case hob => first | assumption | omega | decide)))
    refine x_isInRow xb38 hg hx ht hv h0 (by omega) hl ?_
    by_cases cr : tRow G t lev i
    · have e : rRowL G t lev (m + 1) i = i :: rRowL G t lev m (i + 1) := if_pos cr
      rw [e] at hK
      have hK : K (if c = k then i else rAn (rRowL G t lev m (i + 1)) (c + 1) k) M := hK
      rw [fl_t cr]
      (repeat (first | (with_reducible refine zC_i ?hob ?_; case hob => first | assumption | decide | exact zr (by omega) (by omega) | exact zs (by omega) (by omega) | exact zd (by omega) (by omega)) | (with_reducible refine zIfT ?hob ?_; case hob => first | assumption | omega | decide) | (with_reducible refine zIfF ?hob ?_; case hob => first | assumption | omega | decide)))
      refine ⟨fun q => ?_, fun q => ?_⟩
      · rw [if_neg q] at hK
        exact x_row_l hg hv hl hk hx ht m (i + 1) (c + 1) (by omega) (by omega) (by omega) (by omega) hK
      · rw [if_pos (by omega)] at hK
        exact hK
    · have e : rRowL G t lev (m + 1) i = rRowL G t lev m (i + 1) := if_neg cr
      rw [e] at hK
      rw [fl_f cr]
      (repeat (first | (with_reducible refine zC_i ?hob ?_; case hob => first | assumption | decide | exact zr (by omega) (by omega) | exact zs (by omega) (by omega) | exact zd (by omega) (by omega)) | (with_reducible refine zIfT ?hob ?_; case hob => first | assumption | omega | decide) | (with_reducible refine zIfF ?hob ?_; case hob => first | assumption | omega | decide)))
      exact x_row_l hg hv hl hk hx ht m (i + 1) c (by omega) (by omega) hc (by omega) hK
theorem st_23 : zStep_23 Inv := by
  intro M hI a1 h1 a2 h2
  obtain ⟨G, ot, B, J, vs, H, n, l, tn, tA, fk, fp, hP, hX, hM⟩ := hI
  have hend : Inv (zUp M 154 0 0) := ⟨G, ot, B, J, vs, H, n, l, tn, tA, fk, fp, hP, iX_thr hX _ _, iM_thr hM 0⟩
  have ob := oSz_b hP.2.1
  have xn := xTo_n hX.2.1
  have mn := mTo_n hM.2.1
  have no : ¬ (oSz ot ≠ 0 ∧ 1 ≤ a1) → zSp 16 241 [.inr (.inr 154), .inl a1, .inl a2] M (fun z2 M2 => z2 = -1 ∧ Inv M2) := by
    intro hc
    rw [me_241]
    refine zC_i h1 ⟨fun c => ⟨rfl, hend⟩, fun c => m_many (by decide) ?_⟩
    rw [zUp_away (by decide), mn]
    exact zC_i (zr (by omega) (by omega)) ⟨fun q => absurd ⟨q, by omega⟩ hc, fun _ => ⟨rfl, hend⟩⟩
  rw [me_120, xn]
  refine zC_i (zr (by omega) (by omega)) ⟨fun c => no (by omega), fun c => zC_i h1 ⟨fun c2 => ?_, fun c2 => no (by omega)⟩⟩
  match ot, hX, hM, xn, mn, ob, hP, c with
  | none, hX, hM, xn, mn, ob, hP, c => exact absurd rfl c
  | some t, hX, hM, xn, mn, ob, hP, c =>
    have hP' := hP
    obtain ⟨p1, p2, p3, p4, p5, p6, p7, p8⟩ := hP'
    have hv := (p2 t rfl).2
    have q1 := tSz_pos t
    have t5 := (p2 t rfl).1
    refine x_row_l (d := 12) p1 hv h1 h2 hX.1 hX.2.1 (tSz t).toNat 0 0 (by omega) (by omega) (by omega) (by omega) ?_
    rw [me_241]
    refine zC_i h1 ⟨fun q => by omega, fun _ => m_many (by decide) ?_⟩
    rw [zUp_away (by decide), mn]
    refine zC_i (zr (by omega) (by omega)) ⟨fun _ => ?_, fun q => absurd c q⟩
    have hM2 := iM_thr hM 0
    have hmt : mTr (zUp M 154 0 0) 0 t := hM2.2.1
    rw [me_230]
    refine m_lays (d := 11) p1.1 hM2.1 (by decide) hmt hv ?_
    intro M1 f1 f2 f3
    have e165 : M1 165 = (zUp M 154 0 0) 165 := f2 165 (by decide) (by decide) (by decide) (by decide) (by decide)
    have mg1 : mG G M1 := mG_fr hM2.1 (f2 156 (by decide) (by decide) (by decide) (by decide) (by decide)) (f2 157 (by decide) (by decide) (by decide) (by decide) (by decide)) (f2 158 (by decide) (by decide) (by decide) (by decide) (by decide)) (f2 162 (by decide) (by decide) (by decide) (by decide) (by decide)) (f2 163 (by decide) (by decide) (by decide) (by decide) (by decide))
    have mt1 : mTr M1 0 t := mTr_fr hmt (fun i _ _ => by rw [e165])
    have e : ∀ c, c ≠ 154 → (zUp M1 154 70 0) c = M1 c := fun c hc => zUp_away hc
    have len := rRowL_len (G := G) (t := t) (lev := a1) (tSz t).toNat 0
    refine m_gather_l (d := 11) p1 hv h1 (tSz t).toNat _ 0 0 (by omega) (by omega) (mG_fr mg1 rfl rfl rfl rfl rfl) (mTr_fr mt1 fun _ _ _ => rfl) (mLay_fr f1 (fun c c1 c2 => e c (by omega)) (fun _ _ _ => rfl) t5 (by rw [zUp_there (by decide)])) (by rw [zUp_here]) (by omega) (by omega) ?_
    intro M2 g1 g2 g3 g4 g5
    have hend2 : Inv M2 := ⟨G, some t, B, J, vs, H, n, l, tn, tA, fk, fp, hP, iX_up (iX_thr hX 0 0) (fun c hc => by rw [g5 c (by omega) (by omega), zUp_away (by omega), f2 c (by omega) (by omega) (by omega) (by omega) (by omega)]), iM_fr hM2 (fun c hc => by rw [g5 c (by omega) (by omega), zUp_away (by omega), f2 c (by omega) (by omega) (by omega) (by omega) (by omega)]) (fun p _ => by rw [g5 165 (by decide) (by decide), zUp_away (by decide), e165]) (fun j hj => by rw [g2 j (by omega), zUp_there (by omega), f3 j (by omega)])⟩
    have an := rAn_eq (rRowL G t a1 (tSz t).toNat 0) 0 a2 (by omega) g3
    rw [g1]
    refine zC_i h2 ⟨fun q => zC_i h2 (zC_i (zr (by omega) (by omega)) (m_isIn (d := 14) (zr_to64 h2) (by decide) (zr64 (by omega) (by omega)) ?_)), fun q => ⟨?_, hend2⟩⟩
    · rw [if_neg q] at an
      by_cases c3 : 0 ≤ a2 ∧ a2 < 0 + ((rRowL G t a1 (tSz t).toNat 0).length : Int)
      · rw [if_pos (by omega)]
        rw [if_pos c3] at an
        exact zC_i (by decide) ⟨fun q => absurd q (by decide), fun _ => zC_i (zs (by omega) (by omega)) ⟨an.symm, hend2⟩⟩
      · rw [if_neg (by omega)]
        rw [if_neg c3] at an
        exact zC_i (by decide) ⟨fun _ => ⟨an.symm, hend2⟩, fun q => absurd rfl q⟩
    · rw [if_pos (by omega)] at an
      exact an.symm
