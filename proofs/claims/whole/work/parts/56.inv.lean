/-! LAYER 3: the invariant -/
def iX (G : Mm) (ot : Option Tr) (B : List Bg) (J : Js) (vs : Int) (H : Int → Option Tr) (n : Int) (tn : Int) (tA : Int → Int) (fk fp : Int) (M : Mm) : Prop :=
  xG G M ∧ xTo M 38 ot ∧ xBg M B ∧ xJ M J ∧ M 147 3 = vs ∧ xA M H n ∧ (M 2 1 = tn ∧ (∀ i, 0 ≤ i → i < tn → M 3 i = tA i) ∧ M 2 6 = fk ∧ M 2 7 = fp)
def iM (G : Mm) (ot : Option Tr) (B : List Bg) (J : Js) (vs : Int) (H : Int → Option Tr) (n l : Int) (tn : Int) (tA : Int → Int) (fk fp : Int) (M : Mm) : Prop :=
  mG G M ∧ mTo M 0 ot ∧ mBg M B ∧ mJ M J ∧ M 154 48 = vs ∧ mA M H n l ∧ (M 154 2 = tn ∧ (∀ i, 0 ≤ i → i < tn → M 155 i = tA i) ∧ M 154 8 = fk ∧ M 154 9 = fp)
def tOk (G : Mm) (ot : Option Tr) : Prop := ∀ t, ot = some t → tSz t ≤ 80 ∧ tVal (G 4 0) t
def iP (G : Mm) (ot : Option Tr) (B : List Bg) (J : Js) (vs : Int) (H : Int → Option Tr) (n : Int) (tn : Int) (tA : Int → Int) : Prop :=
  gOk G ∧ tOk G ot ∧ bCx (G 4 0) B ∧ jOk (G 4 0) B.length J ∧ (1 ≤ vs ∧ vs ≤ 9) ∧ (∀ i, 0 ≤ i → i < n → tOk G (H i)) ∧ (0 ≤ tn ∧ tn ≤ 1000) ∧ (∀ i, 0 ≤ i → i < tn → -128 ≤ tA i ∧ tA i ≤ 127)
def Inv (M : Mm) : Prop := ∃ G ot B J vs H n l tn tA fk fp, iP G ot B J vs H n tn tA ∧ iX G ot B J vs H n tn tA fk fp M ∧ iM G ot B J vs H n l tn tA fk fp M
theorem iX_fr {G : Mm} {ot : Option Tr} {B : List Bg} {J : Js} {vs : Int} {H : Int → Option Tr} {n tn fk fp : Int} {tA : Int → Int} {M M' : Mm} (h : iX G ot B J vs H n tn tA fk fp M) (f : ∀ c, (c = 1 ∨ (3 ≤ c ∧ c ≤ 13) ∨ (24 ≤ c ∧ c ≤ 30) ∨ (38 ≤ c ∧ c ≤ 45) ∨ (54 ≤ c ∧ c ≤ 133) ∨ (139 ≤ c ∧ c ≤ 145) ∨ c = 147) → M' c = M c) (f0 : M' 0 8 = M 0 8) (f1 : M' 2 1 = M 2 1) (f6 : M' 2 6 = M 2 6) (f7 : M' 2 7 = M 2 7) (f8 : M' 138 0 = M 138 0) : iX G ot B J vs H n tn tA fk fp M' := by
  obtain ⟨h1, h2, h3, h4, h5, h6, h7, h8, h9, h10⟩ := h
  obtain ⟨j1, j2, j3, j4, j5⟩ := h4
  obtain ⟨a1, a2, a3, a4⟩ := h6
  have e147 := f 147 (by omega)
  have e1 := f 1 (by omega)
  refine ⟨xG_fr h1 fun c c1 c2 => f c (by omega), xTo_fr h2 (fun c c1 c2 => f c (by omega)), xBg_fr h3 fun c c1 c2 => f c (by omega), ⟨xTd_fr j1 (fun c c1 c2 => f c (by omega)) f8, by rw [e147]; exact j2, by rw [e147]; exact j3, by rw [e147]; exact j4, by rw [e147]; exact j5⟩, by rw [e147]; exact h5, ⟨a1, by rw [f0]; exact a2, by unfold xPa; rw [e1]; exact a3, fun i i0 i1 => ?_⟩, by rw [f1]; exact h7, by rw [f 3 (by omega)]; exact h8, by rw [f6]; exact h9, by rw [f7]; exact h10⟩
  rw [e1]
  obtain ⟨qt, q54, qe⟩ := xPa_t a3 (i := i) i0 (by omega)
  unfold xT at qt
  exact xTo_fr (a4 i i0 i1) (fun c c1 c2 => f c (by omega))
theorem iX_up {G : Mm} {ot : Option Tr} {B : List Bg} {J : Js} {vs : Int} {H : Int → Option Tr} {n tn fk fp : Int} {tA : Int → Int} {M M' : Mm} (h : iX G ot B J vs H n tn tA fk fp M) (f : ∀ c, c < 154 → M' c = M c) : iX G ot B J vs H n tn tA fk fp M' :=
  iX_fr h (fun c hc => f c (by omega)) (by rw [f 0 (by decide)]) (by rw [f 2 (by decide)]) (by rw [f 2 (by decide)]) (by rw [f 2 (by decide)]) (by rw [f 138 (by decide)])
theorem mA_fr {M M' : Mm} {H : Int → Option Tr} {n l : Int} (h : mA M H n l) (ft : ∀ p, 483 ≤ p → M' 165 p = M 165 p) (f24 : M' 154 24 = M 154 24) (f25 : M' 154 25 = M 154 25) : mA M' H n l := by
  obtain ⟨a1, a2, a3, a4, a5⟩ := h
  exact ⟨a1, a2, by rw [f24]; exact a3, by rw [f25]; exact a4, fun i i0 i1 => mTo_fr (a5 i i0 i1) (fun j c1 c2 => ft j (by omega))⟩
theorem iM_fr {G : Mm} {ot : Option Tr} {B : List Bg} {J : Js} {vs : Int} {H : Int → Option Tr} {n l tn fk fp : Int} {tA : Int → Int} {M M' : Mm} (h : iM G ot B J vs H n l tn tA fk fp M) (f : ∀ c, (c = 155 ∨ c = 156 ∨ c = 157 ∨ c = 158 ∨ c = 162 ∨ c = 163 ∨ c = 168 ∨ c = 170 ∨ c = 172 ∨ c = 174 ∨ (181 ≤ c ∧ c ≤ 185)) → M' c = M c) (ft : ∀ p, ((0 ≤ p ∧ p < 161) ∨ 483 ≤ p) → M' 165 p = M 165 p) (f0 : ∀ j, (j = 2 ∨ j = 8 ∨ j = 9 ∨ j = 24 ∨ j = 25 ∨ j = 37 ∨ j = 47 ∨ j = 48 ∨ j = 49 ∨ j = 50 ∨ j = 51 ∨ j = 57) → M' 154 j = M 154 j) : iM G ot B J vs H n l tn tA fk fp M' := by
  obtain ⟨h1, h2, h3, h4, h5, h6, h7, h8, h9, h10⟩ := h
  exact ⟨mG_fr h1 (f 156 (by omega)) (f 157 (by omega)) (f 158 (by omega)) (f 162 (by omega)) (f 163 (by omega)), mTo_fr h2 (fun i c1 c2 => ft i (by omega)), mBg_fr h3 (fun c hc => f c (by omega)) (f0 37 (by omega)), mJ_fr h4 (fun c c1 c2 => f c (by omega)) (fun j hj => f0 j (by omega)), by rw [f0 48 (by omega)]; exact h5, mA_fr h6 (fun p hp => ft p (by omega)) (f0 24 (by omega)) (f0 25 (by omega)), by rw [f0 2 (by omega)]; exact h7, by rw [f 155 (by omega)]; exact h8, by rw [f0 8 (by omega)]; exact h9, by rw [f0 9 (by omega)]; exact h10⟩
theorem iM_up {G : Mm} {ot : Option Tr} {B : List Bg} {J : Js} {vs : Int} {H : Int → Option Tr} {n l tn fk fp : Int} {tA : Int → Int} {M M' : Mm} (h : iM G ot B J vs H n l tn tA fk fp M) (f : ∀ c, 154 ≤ c → M' c = M c) : iM G ot B J vs H n l tn tA fk fp M' :=
  iM_fr h (fun c hc => f c (by omega)) (fun p _ => by rw [f 165 (by decide)]) (fun j _ => by rw [f 154 (by decide)])
/-- the word 'thrown' is free -/
theorem iM_thr {G : Mm} {ot : Option Tr} {B : List Bg} {J : Js} {vs : Int} {H : Int → Option Tr} {n l tn fk fp : Int} {tA : Int → Int} {M : Mm} (h : iM G ot B J vs H n l tn tA fk fp M) (x : Int) : iM G ot B J vs H n l tn tA fk fp (zUp M 154 0 x) :=
  iM_fr h (fun c hc => zUp_away (by omega)) (fun p _ => by rw [zUp_away (by decide)]) (fun j hj => zUp_there (by omega))
theorem iX_thr {G : Mm} {ot : Option Tr} {B : List Bg} {J : Js} {vs : Int} {H : Int → Option Tr} {n tn fk fp : Int} {tA : Int → Int} {M : Mm} (h : iX G ot B J vs H n tn tA fk fp M) (i x : Int) : iX G ot B J vs H n tn tA fk fp (zUp M 154 i x) := iX_up h (fun c hc => zUp_away (by omega))
theorem Inv_thr : zThr Inv := by
  intro M x h
  obtain ⟨G, ot, B, J, vs, H, n, l, tn, tA, fk, fp, hP, hX, hM⟩ := h
  exact ⟨G, ot, B, J, vs, H, n, l, tn, tA, fk, fp, hP, iX_thr hX _ _, iM_thr hM x⟩
theorem Inv_0 : Inv zM0 := by
  refine ⟨zM0, none, [], ([], 1, 0, 0, 0), 1, fun _ => none, 0, 0, 0, fun _ => 0, 0, -1, ⟨?_, ?_, ?_, ?_, by decide, ?_, by decide, ?_⟩, ⟨?_, rfl, ⟨rfl, rfl⟩, ⟨⟨rfl, by decide, ?_, ?_⟩, rfl, rfl, rfl, rfl⟩, rfl, ⟨by decide, rfl, ⟨?_, ?_⟩, ?_⟩, rfl, ?_, rfl, rfl⟩, ⟨?_, rfl, ⟨rfl, rfl⟩, ⟨⟨rfl, ?_⟩, rfl, rfl, rfl, rfl⟩, rfl, ⟨by decide, by decide, rfl, rfl, ?_⟩, rfl, ?_, rfl, rfl⟩⟩
  · refine ⟨⟨by decide, fun l l0 l1 => ?_, fun s s0 s1 => ?_⟩, fun s s0 s1 => ?_⟩
    · have : l < 0 := l1; omega
    · have : s < 0 := s1; omega
    · have : s < 0 := s1; omega
  · intro t h; exact absurd h (by simp)
  · exact ⟨by decide, by decide, fun x hx => absurd hx (by simp), by decide⟩
  · exact ⟨fun i j _ hj => absurd hj (Nat.not_lt_zero j), by decide, fun i hi => absurd hi (Nat.not_lt_zero i), by decide⟩
  · intro i i0 i1; omega
  · intro i i0 i1; omega
  · exact fun c _ _ => rfl
  · intro i hi; exact absurd hi (Nat.not_lt_zero i)
  · exact fun h _ _ => rfl
  · intro i i0 i1
    show 54 ≤ 54 + 8 * i ∧ 54 + 8 * i ≤ 126 ∧ (54 + 8 * i) % 8 = 6
    omega
  · intro i j i0 i1 j0 j1 e
    have e : 54 + 8 * i = 54 + 8 * j := e
    omega
  · intro i i0 i1; omega
  · intro i i0 i1; omega
  · refine ⟨rfl, rfl, fun l l0 l1 => ?_, fun s s0 s1 => ?_⟩
    · have : l < 0 := l1; omega
    · have : s < 0 := s1; omega
  · intro i hi; exact absurd hi (Nat.not_lt_zero i)
  · intro i i0 i1; omega
  · intro i i0 i1; omega
-- feed, end, fault
theorem st_0 : zStep_0 Inv := by
  intro M hI a1 h1 a2 h2 a3 h3 a4 h4 a5 h5
  obtain ⟨G, ot, B, J, vs, H, n, l, tn, tA, fk, fp, hP, hX, hM⟩ := hI
  obtain ⟨p1, p2, p3, p4, p5, p6, p7, p8⟩ := hP
  have x1 := hX.2.2.2.2.2.2.1
  refine x_feed (d := 14) (n := tn) h1 h2 h3 h4 h5 x1 p7.1 p7.2 (fun c => ?_) (fun c M1 f1 f2 f3 f4 => ?_)
  · refine m_feed (d := 14) (n := tn) h1 h2 h3 h4 h5 hM.2.2.2.2.2.2.1 p7.1 p7.2 (fun _ => ⟨rfl, G, ot, B, J, vs, H, n, l, tn, tA, fk, fp, ⟨p1, p2, p3, p4, p5, p6, p7, p8⟩, iX_thr hX _ _, iM_thr hM 0⟩) (fun c2 => absurd c2 c)
  · have hM1 := iM_up hM (M' := M1) (fun c hc => f4 c (by omega) (by omega))
    refine m_feed (d := 14) (n := tn) h1 h2 h3 h4 h5 hM1.2.2.2.2.2.2.1 p7.1 p7.2 (fun c2 => absurd c c2) (fun _ M2 g1 g2 g3 g4 => ⟨rfl, G, ot, B, J, vs, H, n, l, tn + 20, tFive (M 3) tn a1 a2 a3 a4 a5, fk, fp, ⟨p1, p2, p3, p4, p5, p6, by omega, ?_⟩, ?_, ?_⟩)
    · have := tFive_ok (A := M 3) (B := M 3) (n := tn) (a := a1) (b := a2) (c := a3) (d := a4) (e := a5) (fun i i0 i1 => ⟨rfl, by rw [hX.2.2.2.2.2.2.2.1 i i0 i1]; exact p8 i i0 i1⟩)
      exact fun i i0 i1 => (this i i0 i1).2
    · obtain ⟨q1, q2, q3, q4, q5, q6, q7, q8, q9, q10⟩ := hX
      have a3' := g4 3 (by decide) (by decide)
      refine ⟨xG_fr q1 fun c c1 c2 => by rw [g4 c (by omega) (by omega), f4 c (by omega) (by omega)], xTo_fr q2 (fun c c1 c2 => by rw [g4 c (by omega) (by omega), f4 c (by omega) (by omega)]), xBg_fr q3 fun c c1 c2 => by rw [g4 c (by omega) (by omega), f4 c (by omega) (by omega)], xJ_fr q4 fun c c1 c2 => by rw [g4 c (by omega) (by omega), f4 c (by omega) (by omega)], by rw [g4 147 (by decide) (by decide), f4 147 (by decide) (by decide)]; exact q5, ?_, by rw [g4 2 (by decide) (by decide)]; exact f1, fun i _ _ => by rw [g4 3 (by decide) (by decide), f3], by rw [g4 2 (by decide) (by decide), f2 6 (by decide)]; exact q9, by rw [g4 2 (by decide) (by decide), f2 7 (by decide)]; exact q10⟩
      obtain ⟨a1', a2', a3'', a4'⟩ := q6
      have e1 : M2 1 = M 1 := by rw [g4 1 (by decide) (by decide), f4 1 (by decide) (by decide)]
      refine ⟨a1', by rw [g4 0 (by decide) (by decide), f4 0 (by decide) (by decide)]; exact a2', by unfold xPa; rw [e1]; exact a3'', fun i i0 i1 => ?_⟩
      rw [e1]
      obtain ⟨qt, q54, qe⟩ := xPa_t a3'' (i := i) i0 (by omega)
      unfold xT at qt
      exact xTo_fr (a4' i i0 i1) (fun c c1 c2 => by rw [g4 c (by omega) (by omega), f4 c (by omega) (by omega)])
    · obtain ⟨q1, q2, q3, q4, q5, q6, q7, q8, q9, q10⟩ := hM1
      have gj : ∀ j, j ≠ 2 → j ≠ 0 → M2 154 j = M1 154 j := g2
      have gc : ∀ c, c ≠ 154 → c ≠ 155 → M2 c = M1 c := g4
      refine ⟨mG_fr q1 (gc 156 (by decide) (by decide)) (gc 157 (by decide) (by decide)) (gc 158 (by decide) (by decide)) (gc 162 (by decide) (by decide)) (gc 163 (by decide) (by decide)), mTo_fr q2 (fun i _ _ => by rw [gc 165 (by decide) (by decide)]), mBg_fr q3 (fun c hc => gc c (by omega) (by omega)) (gj 37 (by decide) (by decide)), mJ_fr q4 (fun c c1 c2 => gc c (by omega) (by omega)) (fun j hj => gj j (by omega) (by omega)), by rw [gj 48 (by decide) (by decide)]; exact q5, mA_fr q6 (fun p _ => by rw [gc 165 (by decide) (by decide)]) (gj 24 (by decide) (by decide)) (gj 25 (by decide) (by decide)), g1, fun i i0 i1 => ?_, by rw [gj 8 (by decide) (by decide)]; exact q9, by rw [gj 9 (by decide) (by decide)]; exact q10⟩
      rw [g3]
      have := tFive_ok (A := M1 155) (B := M 3) (n := tn) (a := a1) (b := a2) (c := a3) (d := a4) (e := a5) (fun i i0 i1 => ⟨by rw [q8 i i0 i1, hX.2.2.2.2.2.2.2.1 i i0 i1], by rw [hX.2.2.2.2.2.2.2.1 i i0 i1]; exact p8 i i0 i1⟩)
      exact (this i i0 i1).1
theorem st_1 : zStep_1 Inv := by
  intro M hI a1 h1
  obtain ⟨G, ot, B, J, vs, H, n, l, tn, tA, fk, fp, hP, hX, hM⟩ := hI
  have hP' := hP
  obtain ⟨p1, p2, p3, p4, p5, p6, p7, p8⟩ := hP'
  have x1 := hX.2.2.2.2.2.2.1
  have m1 := hM.2.2.2.2.2.2.1
  have hno : ¬ (0 ≤ a1 ∧ a1 ≤ tn) → zSp 16 141 [.inr (.inr 154), .inl a1] M (fun z2 M2 => z2 = 0 ∧ Inv M2) := by
    intro hc
    rw [me_141, m1]
    refine zC_i h1 (zC_i (zr (by omega) (by omega)) (m_isIn (d := 14) (zr_to64 h1) (by decide) (zr64 (by omega) (by omega)) ?_))
    rw [if_neg hc]
    (repeat (first | (with_reducible refine zC_i ?hob ?_; case hob => first | assumption | decide | exact zr (by omega) (by omega) | exact zs (by omega) (by omega) | exact zd (by omega) (by omega)) | (with_reducible refine zIfT ?hob ?_; case hob => first | assumption | omega | decide) | (with_reducible refine zIfF ?hob ?_; case hob => first | assumption | omega | decide)))
    exact ⟨rfl, G, ot, B, J, vs, H, n, l, tn, tA, fk, fp, hP, iX_thr hX _ _, iM_thr hM 0⟩
  rw [me_98, x1]
  (repeat (first | (with_reducible refine zC_i ?hob ?_; case hob => first | assumption | decide | exact zr (by omega) (by omega) | exact zs (by omega) (by omega) | exact zd (by omega) (by omega)) | (with_reducible refine zIfT ?hob ?_; case hob => first | assumption | omega | decide) | (with_reducible refine zIfF ?hob ?_; case hob => first | assumption | omega | decide)))
  refine ⟨fun c => hno (by omega), fun c => ?_⟩
  (repeat (first | (with_reducible refine zC_i ?hob ?_; case hob => first | assumption | decide | exact zr (by omega) (by omega) | exact zs (by omega) (by omega) | exact zd (by omega) (by omega)) | (with_reducible refine zIfT ?hob ?_; case hob => first | assumption | omega | decide) | (with_reducible refine zIfF ?hob ?_; case hob => first | assumption | omega | decide)))
  refine ⟨fun c2 => ?_, fun c2 => hno (by omega)⟩
  rw [me_141, zUp_away (show (154 : Nat) ≠ 2 by decide), m1]
  refine zC_i h1 (zC_i (zr (by omega) (by omega)) (m_isIn (d := 14) (zr_to64 h1) (by decide) (zr64 (by omega) (by omega)) ?_))
  rw [if_pos (by omega)]
  (repeat (first | (with_reducible refine zC_i ?hob ?_; case hob => first | assumption | decide | exact zr (by omega) (by omega) | exact zs (by omega) (by omega) | exact zd (by omega) (by omega)) | (with_reducible refine zIfT ?hob ?_; case hob => first | assumption | omega | decide) | (with_reducible refine zIfF ?hob ?_; case hob => first | assumption | omega | decide)))
  obtain ⟨q1, q2, q3, q4, q5, q6, q7, q8, q9, q10⟩ := hX
  have hX0 : iX G ot B J vs H n tn tA fk fp M := ⟨q1, q2, q3, q4, q5, q6, q7, q8, q9, q10⟩
  refine ⟨rfl, G, ot, B, J, vs, H, n, l, a1, tA, fk, fp, ⟨p1, p2, p3, p4, p5, p6, by omega, fun i i0 i1 => p8 i i0 (by omega)⟩, ?_, ?_⟩
  · have hz : iX G ot B J vs H n tn tA fk fp (zUp (zUp M 2 1 tn) 154 0 0) := iX_thr (iX_fr hX0 (fun c hc => zUp_away (by omega)) (by rw [zUp_away (by decide)]) (by rw [zUp_here]; exact q7.symm) (by rw [zUp_there (by decide)]) (by rw [zUp_there (by decide)]) (by rw [zUp_away (by decide)])) _ _
    refine iX_thr (iX_thr ?_ _ _) _ _
    have e : ∀ c, c ≠ 2 → (zUp M 2 1 a1) c = M c := fun c hc => zUp_away hc
    obtain ⟨a1', a2', a3', a4'⟩ := q6
    refine ⟨xG_fr q1 fun c c1 c2 => e c (by omega), xTo_fr q2 (fun c c1 c2 => e c (by omega)), xBg_fr q3 fun c c1 c2 => e c (by omega), xJ_fr q4 fun c c1 c2 => e c (by omega), q5, ⟨a1', a2', a3', fun i i0 i1 => ?_⟩, zUp_here, fun i i0 i1 => q8 i i0 (by omega), by rw [zUp_there (by decide)]; exact q9, by rw [zUp_there (by decide)]; exact q10⟩
    obtain ⟨qt, q54, qe⟩ := xPa_t a3' (i := i) i0 (by omega)
    unfold xT at qt
    show xTo (zUp M 2 1 a1) (M 1 i).toNat (H i)
    exact xTo_fr (a4' i i0 i1) (fun c c1 c2 => e c (by omega))
  · obtain ⟨w1, w2, w3, w4, w5, w6, w7, w8, w9, w10⟩ := hM
    refine ⟨mG_fr w1 rfl rfl rfl rfl rfl, mTo_fr w2 (fun _ _ _ => rfl), mBg_fr w3 (fun c hc => by rw [zUp_away (by omega), zUp_away (by omega), zUp_away (by omega)]) rfl, mJ_fr w4 (fun c c1 c2 => by rw [zUp_away (by omega), zUp_away (by omega), zUp_away (by omega)]) (fun j hj => by rw [zUp_there (by omega), zUp_there (by omega), zUp_away (by decide)]), w5, mA_fr w6 (fun p _ => rfl) rfl rfl, zUp_here, fun i i0 i1 => w8 i i0 (by omega), w9, w10⟩
theorem st_5 : zStep_5 Inv := by
  intro M hI a1 h1
  obtain ⟨G, ot, B, J, vs, H, n, l, tn, tA, fk, fp, hP, hX, hM⟩ := hI
  have hend : Inv (zUp M 154 0 0) := ⟨G, ot, B, J, vs, H, n, l, tn, tA, fk, fp, hP, iX_thr hX _ _, iM_thr hM 0⟩
  have e6 := hX.2.2.2.2.2.2.2.2.1
  have e7 := hX.2.2.2.2.2.2.2.2.2
  have m8 := hM.2.2.2.2.2.2.2.2.1
  have m9 := hM.2.2.2.2.2.2.2.2.2
  rw [me_102]
  refine zC_i h1 ⟨fun c => zC_i h1 ⟨fun c2 => ?_, fun c2 => ?_⟩, fun c => ?_⟩
  · rw [me_195]
    (repeat (first | (with_reducible refine zC_i ?hob ?_; case hob => first | assumption | decide | exact zr (by omega) (by omega) | exact zs (by omega) (by omega) | exact zd (by omega) (by omega)) | (with_reducible refine zIfT ?hob ?_; case hob => first | assumption | omega | decide) | (with_reducible refine zIfF ?hob ?_; case hob => first | assumption | omega | decide)))
    exact ⟨rfl, hend⟩
  · rw [me_195]
    (repeat (first | (with_reducible refine zC_i ?hob ?_; case hob => first | assumption | decide | exact zr (by omega) (by omega) | exact zs (by omega) (by omega) | exact zd (by omega) (by omega)) | (with_reducible refine zIfT ?hob ?_; case hob => first | assumption | omega | decide) | (with_reducible refine zIfF ?hob ?_; case hob => first | assumption | omega | decide)))
    exact ⟨by rw [m9, e7], hend⟩
  · rw [me_195]
    (repeat (first | (with_reducible refine zC_i ?hob ?_; case hob => first | assumption | decide | exact zr (by omega) (by omega) | exact zs (by omega) (by omega) | exact zd (by omega) (by omega)) | (with_reducible refine zIfT ?hob ?_; case hob => first | assumption | omega | decide) | (with_reducible refine zIfF ?hob ?_; case hob => first | assumption | omega | decide)))
    exact ⟨by rw [m8, e6], hend⟩
