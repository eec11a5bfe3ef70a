/-! LAYER 3: a test's text, read by the class: brackets closed, joins, the whole test -/
theorem x_closed_l {d : Nat} {T : Int → Int} {n c0 : Int} {G : Mm} {K : Kt} (hT : tpOk T n) (h0 : 0 ≤ c0) : ∀ (f : Nat) (S : List Int) (O : List St5) (M : Mm) (p : Int) (w : Bool) (x1 : Int), x1 + f = 1000 → 0 ≤ x1 → x1 + 1 ≤ p → vT G 1 S O → hI S ≠ 10 → xSk S M → xO c0 O M → xTk T n p w M → c0 + O.length + noT S ≤ 332 →
    (∀ M', (gCz T n f S O p w).1 ≠ 0 → xE c0 M M' → K 0 (zUp (zUp M' 2 6 (gCz T n f S O p w).1) 2 7 (gCz T n f S O p w).2.1)) →
    (∀ M', (gCz T n f S O p w).1 = 0 → xSk (gCz T n f S O p w).2.2.1 M' → xO c0 (gCz T n f S O p w).2.2.2.1 M' → xTk T n (gCz T n f S O p w).2.2.2.2.1 (gCz T n f S O p w).2.2.2.2.2 M' → xE c0 M M' → K 1 M') → zWp (zSp (d + 3)) 14 K 2 [some (.inr (.inr 136)), some (.inl x1)] [] M
  | 0, S, O, M, p, w, x1, hf, hx, h1, hv, hi, hs, ho, h, hl, hK0, hK1 => by
    have hn := hT.1
    have pn := h.2.2.2.2.2.2
    omega
  | f + 1, S, O, M, p, w, x1, hf, hx, h1, hv, hi, hs, ho, h, hl, hK0, hK1 => by
    have hn := hT.1
    have pn := h.2.2.2.2.2.2
    unfold gCz at hK0 hK1
    rw [fe_14_2]
    refine zC_i (zr (by omega) (by omega)) ⟨fun z => absurd z (by omega), fun _ => ?_⟩
    refine x_isSign hT h (by decide) ?_
    by_cases c : tKi T n p w = 3 ∧ tVa T n p = 93
    · rw [fl_t c]
      rw [if_pos c] at hK0 hK1
      refine zC_i (by decide) ⟨fun z => absurd z (by decide), fun _ => ?_⟩
      refine x_joins (d := d) (hi := 12) h0 (.inr rfl) hv.1 hv.2.1 hs ho hl ?_
      intro M1 s1 o1 e1 e2 e3
      have t1 : xTk T n p w M1 := xTk_fr h (fun j _ _ => by rw [e2]) e3
      by_cases c2 : (pop1 11 12 S O).1 = []
      · rw [if_pos c2] at hK0
        rw [c2] at s1
        rw [s1.1]
        exact zC_i (by decide) ⟨fun z => absurd rfl z, fun _ => x_fail t1 (zC_i (by decide) (hK0 M1 (show (1 : Int) ≠ 0 by decide) e1))⟩
      · rw [if_neg c2] at hK0 hK1
        obtain ⟨R, r1, r2, r3, r4⟩ := pop1_13 hv hi c2
        rw [r1, show (13 :: R).tail = R from rfl] at hK0 hK1
        rw [r1] at s1
        obtain ⟨s2, s3, s4, s5⟩ := s1
        obtain ⟨m, hm⟩ : ∃ m : Int, m = (R.length : Int) := ⟨_, rfl⟩
        have s2' : M1 136 4 = m + 1 := by
          rw [s2]
          show ((R.length + 1 : Nat) : Int) = m + 1
          omega
        have lr := okA_20 r2.1 r2.2.1
        rw [s2', s3, r3, show m + 1 - 1 = m by omega, show nsT R + 1 - 1 = nsT R by omega]
        refine zC_i (zr (by omega) (by omega)) ⟨fun _ => ?_, fun z => absurd (by omega) z⟩
        have ff : ∀ c, c ≠ 136 → c ≠ 137 → (zUp (zUp M1 136 4 m) 136 5 (nsT R)) c = M1 c := fun c h1 _ => by rw [zUp_away h1, zUp_away h1]
        have t2 : xTk T n p w (zUp (zUp M1 136 4 m) 136 5 (nsT R)) := xTk_fr t1 (fun j _ _ => by rw [ff 2 (by decide) (by decide)]) (ff 3 (by decide) (by decide))
        refine x_adv (d := d) hT t2 ?_
        intro M2 k1 k2 k3
        rw [show decide (tKi T n p w = 1 ∨ tKi T n p w = 2) = false from decide_eq_false_iff_not.mpr (by omega)] at k1
        have q2 : xF (zUp (zUp M1 136 4 m) 136 5 (nsT R)) M2 := ⟨k3, k2⟩
        have sr : xSk R M2 := ⟨by rw [k3 136 (by decide), zUp_there (by decide), zUp_here]; exact hm, by rw [k3 136 (by decide), zUp_here], xSs_fr R (fun j _ _ => by rw [k3 137 (by decide), zUp_away (by decide), zUp_away (by decide)]) s5⟩
        have or : xO c0 (pop1 11 12 S O).2 M2 := xO_F (xO_sk o1 ff) q2
        have er : xE c0 M M2 := xE_trans e1 (xE_trans (xE_sk ff) (xE_F q2))
        refine x_nots (d := d) h0 r2.1 r2.2.1 sr or (by omega) ?_
        intro M3 y1 y2 y3 y4 y5
        obtain ⟨z1, z2, z3, z4⟩ := pop1_k (G := G) (lo := 10) (hi := 10) (by decide) (by decide) R (pop1 11 12 S O).2 r2
        have ad := tAdv (T := T) (w := w) pn (by rw [c.1]; decide)
        exact x_closed_l (G := G) hT h0 f _ _ M3 (tEn T n p) false (x1 + 1) (by omega) (by omega) (by omega) z1 (by omega) y1 y2 (xTk_fr k1 (fun j _ _ => by rw [y4]) y5) (by omega) (fun M' a b => hK0 M' a (xE_trans er (xE_trans y3 b))) (fun M' a b c e g => hK1 M' a b c e (xE_trans er (xE_trans y3 g)))
    · rw [fl_f c]
      rw [if_neg c] at hK1
      exact zC_i (by decide) ⟨fun _ => hK1 M rfl hs ho h xE_refl, fun z => absurd rfl z⟩
theorem x_round {d : Nat} {T : Int → Int} {n c0 p x1 : Int} {w : Bool} {G M : Mm} {S : List Int} {O : List St5} {K : Kt} (hT : tpOk T n) (hg : gLn G) (h0 : 0 ≤ c0) (hx1 : 0 ≤ x1 ∧ x1 < 1000) (h1 : 1 ≤ p) (hx : xG G M) (hv : vT G 0 S O) (hs : xSk S M) (ho : xO c0 O M) (h : xTk T n p w M) (hl : 3 * (c0 + 1 + O.length + noT S) ≤ p)
    (hf : ∀ M', (gRd T n G S O p w).1 ≠ 0 → xE c0 M M' → K 0 (zUp (zUp M' 2 6 (gRd T n G S O p w).1) 2 7 (gRd T n G S O p w).2.1))
    (hm : ∀ M', (gRd T n G S O p w).1 = 0 → (gRd T n G S O p w).2.2.1 = 1 → xSk (gRd T n G S O p w).2.2.2.1 M' → xO c0 (gRd T n G S O p w).2.2.2.2.1 M' → xTk T n (gRd T n G S O p w).2.2.2.2.2.1 (gRd T n G S O p w).2.2.2.2.2.2 M' → xE c0 M M' → zWp (zSp (d + 5)) 10 K 12 [some (.inr (.inr 136)), some (.inl (x1 + 1))] [] M')
    (he : ∀ M', (gRd T n G S O p w).1 = 0 → (gRd T n G S O p w).2.2.1 = 0 → xSk [] M' → xO c0 (gRd T n G S O p w).2.2.2.2.1 M' → xTk T n (gRd T n G S O p w).2.2.2.2.2.1 (gRd T n G S O p w).2.2.2.2.2.2 M' → xE c0 M M' → zSp (d + 5) 11 [.inr (.inr 136)] M' (fun z9 M9 => zC (zBo z9) (K z9 M9)))
    (hb : ∀ M' q, (gRd T n G S O p w).1 = 1 → (gRd T n G S O p w).2.1 = q → xE c0 M M' → K 0 (zUp (zUp M' 2 6 1) 2 7 q)) : zWp (zSp (d + 5)) 10 K 12 [some (.inr (.inr 136)), some (.inl x1)] [] M := by
  have hn := hT.1
  have pn := h.2.2.2.2.2.2
  have nn := nsT_nn S
  have ak := gAh_k (T := T) (n := n) (G := G) (O := O) 7 S p w (by omega) pn hv
  unfold gRd at hf hm he hb
  rw [fe_10_12]
  refine zC_i (zr (by omega) (by omega)) ⟨fun z => absurd z (by omega), fun _ => ?_⟩
  rw [me_13]
  refine x_ahead_l (d := d + 1) hT 7 0 S M p w none (by omega) (by omega) (by omega) hv.1 hv.2.1 hs h ?_ ?_
  · intro M1 e a
    rw [if_pos e] at hf
    exact zC_i (by decide) ⟨fun _ => hf M1 e (xE_A a), fun z => absurd rfl z⟩
  · intro M1 e s1 t1 a
    rw [if_neg (fun z => z e)] at hf hm he hb
    rcases ak with ⟨a1, a2, a3, a4, a5⟩ | ak
    · generalize gAh T n 7 S p w = A at *
      obtain ⟨_, _, S1, p1, w1⟩ := A
      dsimp only at e s1 t1 a1 a2 a3 a4 a5 hf hm he hb
      have o1 := xO_A ho a
      have x1' := xG_E hx (xE_A (c0 := c0) a)
      have fk := gFa_k (T := T) (w := w1) hg a3
      refine zC_i (by decide) ⟨fun z => absurd z (by decide), fun _ => ?_⟩
      refine x_fact (d := d) hT hg x1' t1 o1 h0 (by omega) ⟨?_, ?_⟩
      · intro M2 e2 q2
        rw [if_pos e2] at hf
        exact zC_i (by decide) ⟨fun z => absurd rfl z, fun _ => hf M2 e2 (xE_trans (xE_A a) (xE_F q2))⟩
      · intro M2 e2 o2 t2 q2 g136 g137
        rw [if_neg (fun z => z e2)] at hf hm he hb
        rcases fk with ⟨y1, y2, y3, y4, y5⟩ | fk
        · generalize gFa T n G p1 w1 = F at *
          obtain ⟨_, _, s5, p2⟩ := F
          dsimp only at e2 o2 t2 y1 y2 y3 y4 y5 hf hm he hb
          have s2 := xSk_fr s1 g136 g137
          obtain ⟨b1, b2, b3, b4⟩ := a2
          have l20 := okA_20 b1 b2
          have jl := njT_len S1
          have jn := nsT_nn S1
          have ol : ((O ++ [s5]).length : Int) = O.length + 1 := by rw [List.length_append]; show ((O.length + 1 : Nat) : Int) = _; omega
          have v2 : vT G 1 S1 (O ++ [s5]) := ⟨b1, b2, wD_snoc (.inr (.inr ⟨y3, by omega, by omega⟩)) O 0 b3, fun s hs => by
            rcases List.mem_append.mp hs with q | q
            · exact b4 s q
            · rw [List.mem_singleton.mp q]; exact y2⟩
          refine zC_i (by decide) ⟨fun _ => ?_, fun z => absurd (by decide) z⟩
          refine x_nots (d := d + 2) h0 b1 b2 s2 o2 (by omega) ?_
          intro M3 s3 o3 q3 g2 g3
          obtain ⟨z1, z2, z3, z4⟩ := pop1_k (G := G) (lo := 10) (hi := 10) (by decide) (by decide) S1 (O ++ [s5]) v2
          have t3 : xTk T n p2 true M3 := xTk_fr t2 (fun j _ _ => by rw [g2]) g3
          have E3 : xE c0 M M3 := xE_trans (xE_A a) (xE_trans q2 q3)
          unfold gAf at hf hm he hb
          rw [me_14]
          refine x_closed_l (d := d + 1) (G := G) hT h0 1000 _ _ M3 p2 true 0 (by omega) (by omega) (by omega) z1 (by omega) s3 o3 t3 (by omega) ?_ ?_
          · intro M4 e4 q4
            rw [if_pos e4] at hf
            exact zC_i (by decide) ⟨fun z => absurd rfl z, fun _ => hf M4 e4 (xE_trans E3 q4)⟩
          · intro M4 e4 s4 o4 t4 q4
            rw [if_neg (fun z => z e4)] at hf hm he hb
            rcases gCz_k (T := T) (G := G) hn.2 1000 (pop1 10 10 S1 (O ++ [s5])).1 (pop1 10 10 S1 (O ++ [s5])).2 p2 true 0 (by omega) (by omega) y5 z1 (by omega) with ⟨c1, c2, c3, c4, c5⟩ | ck
            · generalize gCz T n 1000 (pop1 10 10 S1 (O ++ [s5])).1 (pop1 10 10 S1 (O ++ [s5])).2 p2 true = C at *
              obtain ⟨_, _, S4, O4, p4, w4⟩ := C
              dsimp only at e4 s4 o4 t4 c1 c2 c3 c4 c5 hf hm he hb
              have E4 : xE c0 M M4 := xE_trans E3 q4
              have ll : c0 + O4.length + noT S4 ≤ 332 := by omega
              obtain ⟨d1, d2, d3, d4⟩ := c2
              unfold gJn at hf hm he hb
              refine zC_i (by decide) ⟨fun _ => ?_, fun z => absurd (by decide) z⟩
              -- a join waits
              have wait : ∀ (s : Int) (R : List Int) (Q : List St5) (M5 : Mm), (s = 11 ∨ s = 12) → okA R → nsT R ≤ 6 → xSk R M5 → xO c0 Q M5 → xTk T n p4 w4 M5 → tKi T n p4 w4 = 1 → (∀ M', xSk (s :: R) M' → xO c0 Q M' → xTk T n (tEn T n p4) true M' → xE c0 M5 M' → zWp (zSp (d + 5)) 10 K 12 [some (.inr (.inr 136)), some (.inl (x1 + 1))] [] M') → zSp (d + 5) 12 [.inr (.inr 136), .inl (s + 5)] M5 (fun _ M13 => zWp (zSp (d + 5)) 10 K 113 [some (.inr (.inr 136)), some (.inl x1)] [] M13) := by
                intro s R Q M5 hs5 ra rn rs ro rt rk hk
                have rl := okA_20 ra rn
                refine x_hold rs.1 rl rs.2.2 ?_
                intro M6 u1 u2 u3 u4 u5
                rw [fe_10_113]
                have t6 : xTk T n p4 w4 M6 := xTk_fr rt (fun j _ _ => by rw [u5 2 (by decide) (by decide)]) (u5 3 (by decide) (by decide))
                refine x_adv (d := d + 2) hT t6 ?_
                intro M7 v1 v2' v3
                rw [show decide (tKi T n p4 w4 = 1 ∨ tKi T n p4 w4 = 2) = true from decide_eq_true_iff.mpr (.inl rk)] at v1
                have q7 : xF M6 M7 := ⟨v3, v2'⟩
                refine hk M7 ⟨?_, ?_, ?_, xSs_fr R (fun j _ _ => by rw [v3 137 (by decide)]) u4⟩ (xO_F (xO_sk ro u5) q7) v1 (xE_trans (xE_sk u5) (xE_F q7))
                · rw [v3 136 (by decide), u1]
                  show _ = ((R.length + 1 : Nat) : Int)
                  omega
                · rw [v3 136 (by decide), u2, rs.2.1]
                  show _ = (if _ then _ else _) + _
                  rw [if_neg (by omega)]; omega
                · rw [v3 137 (by decide), u3]
                  unfold cwT
                  rw [if_neg (by omega)]
              refine x_isWord t4 (by decide) ?_
              by_cases w1' : tKi T n p4 w4 = 1 ∧ tVa T n p4 = 48365568
              · rw [fl_t w1']
                rw [if_pos w1'] at hm
                refine zC_i (by decide) ⟨fun z => absurd z (by decide), fun _ => ?_⟩
                refine x_joins (d := d + 2) (hi := 11) h0 (.inl rfl) d1 d2 s4 o4 ll ?_
                intro M5 u1 u2 u3 u4 u5
                have pk := (pop1_k (G := G) (lo := 11) (hi := 11) (by decide) (by decide) S4 O4 ⟨d1, d2, d3, d4⟩).1
                exact wait 11 _ _ M5 (.inl rfl) pk.1 pk.2.1 u1 u2 (xTk_fr t4 (fun j _ _ => by rw [u4]) u5) w1'.1 (fun M' g1 g2 g3 g4 => hm M' rfl rfl g1 g2 g3 (xE_trans E4 (xE_trans u3 g4)))
              · rw [fl_f w1']
                rw [if_neg w1'] at hf hm he hb
                refine zC_i (by decide) ⟨fun _ => ?_, fun z => absurd rfl z⟩
                refine x_isWord t4 (by decide) ?_
                have pk := (pop1_k (G := G) (lo := 11) (hi := 12) (by decide) (by decide) S4 O4 ⟨d1, d2, d3, d4⟩).1
                by_cases w2' : tKi T n p4 w4 = 1 ∧ tVa T n p4 = 522190848
                · rw [fl_t w2']
                  rw [if_pos w2'] at hm
                  refine zC_i (by decide) ⟨fun z => absurd z (by decide), fun _ => ?_⟩
                  refine x_joins (d := d + 2) (hi := 12) h0 (.inr rfl) d1 d2 s4 o4 ll ?_
                  intro M5 u1 u2 u3 u4 u5
                  exact wait 12 _ _ M5 (.inr rfl) pk.1 pk.2.1 u1 u2 (xTk_fr t4 (fun j _ _ => by rw [u4]) u5) w2'.1 (fun M' g1 g2 g3 g4 => hm M' rfl rfl g1 g2 g3 (xE_trans E4 (xE_trans u3 g4)))
                · rw [fl_f w2']
                  rw [if_neg w2'] at hf hm he hb
                  refine zC_i (by decide) ⟨fun _ => ?_, fun z => absurd rfl z⟩
                  refine x_joins (d := d + 2) (hi := 12) h0 (.inr rfl) d1 d2 s4 o4 ll ?_
                  intro M5 u1 u2 u3 u4 u5
                  have t5 : xTk T n p4 w4 M5 := xTk_fr t4 (fun j _ _ => by rw [u4]) u5
                  by_cases w3' : (pop1 11 12 S4 O4).1 = []
                  · rw [if_pos w3'] at he
                    rw [w3'] at u1
                    exact he M5 rfl rfl u1 u2 t5 (xE_trans E4 u3)
                  · rw [if_neg w3'] at hb
                    rw [me_11, u1.1]
                    have lr := okA_20 pk.1 pk.2.1
                    have nz : 0 < ((pop1 11 12 S4 O4).1.length : Int) := by
                      match hq : (pop1 11 12 S4 O4).1, w3' with
                      | [], w3' => exact absurd rfl w3'
                      | y :: Y, _ => show 0 < ((Y.length + 1 : Nat) : Int); omega
                    refine zC_i (zr (by omega) (by omega)) ⟨fun z => absurd z (by omega), fun _ => x_fail t5 (zC_i (by decide) (zC_i (by decide) ?_))⟩
                    exact hb M5 _ rfl rfl (xE_trans E4 u3)
            · omega
        · omega
    · omega
theorem x_test_l {d : Nat} {T : Int → Int} {n c0 : Int} {G : Mm} {K : Kt} (hT : tpOk T n) (hg : gLn G) (h0 : 0 ≤ c0) : ∀ (f : Nat) (S : List Int) (O : List St5) (M : Mm) (p : Int) (w : Bool) (x1 : Int), x1 + f = 1000 → 0 ≤ x1 → x1 + 1 ≤ p → xG G M → vT G 0 S O → xSk S M → xO c0 O M → xTk T n p w M → 3 * (c0 + 1 + O.length + noT S) ≤ p →
    (∀ M', (gTe T n G f S O p w).1 ≠ 0 → xE c0 M M' → K 0 (zUp (zUp M' 2 6 (gTe T n G f S O p w).1) 2 7 (gTe T n G f S O p w).2.1)) →
    (∀ M', (gTe T n G f S O p w).1 = 0 → xSk [] M' → xO c0 (gTe T n G f S O p w).2.2.1 M' → xTk T n (gTe T n G f S O p w).2.2.2.1 (gTe T n G f S O p w).2.2.2.2 M' → xE c0 M M' → zSp (d + 5) 11 [.inr (.inr 136)] M' (fun z9 M9 => zC (zBo z9) (K z9 M9))) → zWp (zSp (d + 5)) 10 K 12 [some (.inr (.inr 136)), some (.inl x1)] [] M
  | 0, S, O, M, p, w, x1, hf, h2, h1, hx, hv, hs, ho, h, hl, hK0, hK1 => by
    have hn := hT.1
    have pn := h.2.2.2.2.2.2
    omega
  | f + 1, S, O, M, p, w, x1, hf, h2, h1, hx, hv, hs, ho, h, hl, hK0, hK1 => by
    have hn := hT.1
    have pn := h.2.2.2.2.2.2
    have rk := gRd_k (T := T) (w := w) (bl := c0 + 1) hg hn.2 (by omega) pn hv hl
    unfold gTe at hK0 hK1
    refine x_round hT hg h0 (by omega) (by omega) hx hv hs ho h hl ?_ ?_ ?_ ?_
    · intro M1 e a
      rw [if_pos e] at hK0
      exact hK0 M1 e a
    · intro M1 e e2 s1 o1 t1 a
      rw [if_neg (fun z => z e), if_pos e2] at hK0 hK1
      rcases rk with ⟨_, ⟨b1, b2, b3, b4⟩ | ⟨b1, _⟩⟩ | rk
      · exact x_test_l hT hg h0 f _ _ M1 _ _ (x1 + 1) (by omega) (by omega) (by omega) (xG_E hx a) b2 s1 o1 t1 b3 (fun M' y1 y2 => hK0 M' y1 (xE_trans a y2)) (fun M' y1 y2 y3 y4 y5 => hK1 M' y1 y2 y3 y4 (xE_trans a y5))
      · omega
      · omega
    · intro M1 e e2 s1 o1 t1 a
      rw [if_neg (fun z => z e), if_neg (by omega)] at hK1
      exact hK1 M1 rfl s1 o1 t1 a
    · intro M1 q e eq a
      rw [if_pos (by omega)] at hK0
      have := hK0 M1 (by show (gRd T n G S O p w).1 ≠ 0; omega) a
      rw [show ((gRd T n G S O p w).1, (gRd T n G S O p w).2.1, O, p, w).1 = 1 from e, show ((gRd T n G S O p w).1, (gRd T n G S O p w).2.1, O, p, w).2.1 = q from eq] at this
      exact this
