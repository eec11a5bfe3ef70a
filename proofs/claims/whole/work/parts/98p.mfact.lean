/-! LAYER 3: a fact, read by the reference -/
def mPF (T : Int → Int) (n c0 : Int) (O : List St5) (K : Kt) (M : Mm) (r : Fr5) : Prop := (∀ M', r.1 ≠ 0 → mFl T n M' r.1 r.2.1 → mE c0 M M' → K 0 M') ∧ (∀ M', r.1 = 0 → mO c0 (O ++ [r.2.2.1]) M' → mTk T n r.2.2.2 true M' → M' 154 6 = 0 → M' 176 = M 176 → M' 154 40 = M 154 40 → M' 154 41 = M 154 41 → mE c0 M M' → K 0 M')
theorem mPF_q {T : Int → Int} {n c0 : Int} {O : List St5} {K : Kt} {M M1 : Mm} {r : Fr5} (h : mPF T n c0 O K M r) (q : nG M M1) : mPF T n c0 O K M1 r := ⟨fun M' a b c => h.1 M' a b (mE_trans (mE_G q) c), fun M' a b c e f g i j => h.2 M' a b c e (by rw [f, q.1 176 (by decide)]) (by rw [g, q.2 40 (by decide) (by decide) (by decide) (by decide) (by decide) (by decide)]) (by rw [i, q.2 41 (by decide) (by decide) (by decide) (by decide) (by decide) (by decide)]) (mE_trans (mE_G q) j)⟩
theorem m_nmT {d : Nat} {T : Int → Int} {n p : Int} {G M : Mm} {K : Kt} (hT : tpOk T n) (hg : gLn G) (hx : mG G M) (h : mTk T n p true M) (hb : M 154 6 = 0)
    (hK0 : ∀ M' z, (gNmT T n G p).1 ≠ 0 → mFl T n M' (gNmT T n G p).1 (gNmT T n G p).2.1 → (∃ M1, nG M M1 ∧ M' = zUp (zUp M1 154 6 (gNmT T n G p).1) 154 7 (gNmT T n G p).2.1) → K z M')
    (hK1 : ∀ M', (gNmT T n G p).1 = 0 → mTk T n (tEn T n p) true M' → nG M M' → K (gNmT T n G p).2.2 M') : zSp (d + 6) 186 [.inr (.inr 154)] M K := by
  have c0 := hg.1
  have lf := gLf_s (v := tVa T n p) hg
  unfold gNmT at hK0 hK1
  rw [me_186]
  refine m_name (d := d) hT h hb ?_ ?_
  · intro M1 k1 k2 f1 f2 f3
    have nm : isNm T n p true := ⟨k1, k2⟩
    rw [if_pos nm] at hK0 hK1
    have vb := tVa_1 h.2.1.2 k1
    have b1 : M1 154 6 = 0 := by rw [nG_bad f2]; exact hb
    have x1 : mG G M1 := mG_fr hx (f2.1 156 (by decide)) (f2.1 157 (by decide)) (f2.1 158 (by decide)) (f2.1 162 (by decide)) (f2.1 163 (by decide))
    refine m_fine b1 (zC_i (by decide) ⟨fun z => absurd z (by decide), fun _ => ?_⟩)
    refine m_lineOf hg x1 (zr64 (by omega) (by omega)) ?_
    rw [fe_186_21]
    refine m_fine b1 (zC_i (by decide) ⟨fun z => absurd z (by decide), fun _ => zC_i (zr (by omega) (by omega)) ⟨fun c2 => ?_, fun c2 => ?_⟩⟩)
    · rw [if_neg c2] at hK1
      exact hK1 M1 rfl f1 f2
    · rw [if_pos (Decidable.not_not.mp c2)] at hK0
      rw [f3]
      exact m_fail b1 (hK0 _ _ (show (3 : Int) ≠ 0 by decide) (mFl_i f1) ⟨M1, f2, rfl⟩)
  · intro M1 nm f1 f2 f3
    rw [if_neg nm] at hK0
    have bb : 1 ≤ (zUp (zUp M1 154 6 1) 154 7 (tQ T n p)) 154 6 ∧ (zUp (zUp M1 154 6 1) 154 7 (tQ T n p)) 154 6 ≤ 5 := by rw [zUp_there (by decide), zUp_here]; decide
    refine m_unfine bb (zC_i (by decide) ⟨fun _ => ?_, fun z => absurd rfl z⟩)
    rw [fe_186_21]
    exact m_unfine bb (zC_i (by decide) ⟨fun _ => hK0 _ _ (show (1 : Int) ≠ 0 by decide) (mFl_i f1) ⟨M1, f2, rfl⟩, fun z => absurd rfl z⟩)
-- behind a fault
theorem m_un236 {d : Nat} {M : Mm} {K : Kt} {x1 x2 x3 x4 : Int} (h : 1 ≤ M 154 6 ∧ M 154 6 ≤ 5) (hK : K 0 M) : zWp (zSp (d + 1)) 187 K 236 [some (.inr (.inr 154)), some (.inl x1), some (.inl x2), some (.inl x3), some (.inl x4), none] [] M := by
  rw [fe_187_236]
  exact m_unfine h (zC_i (by decide) ⟨fun z => absurd rfl z, fun _ => hK⟩)
theorem m_un172 {d : Nat} {M : Mm} {K : Kt} {x1 x2 y0 : Int} (h : 1 ≤ M 154 6 ∧ M 154 6 ≤ 5) (hK : K 0 M) : zWp (zSp (d + 1)) 187 K 172 [some (.inr (.inr 154)), some (.inl x1), some (.inl x2), none, none, none] [.inl y0] M := by
  rw [fe_187_172]
  refine m_unfine h (zC_i (by decide) ⟨fun z => absurd rfl z, fun _ => ?_⟩)
  rw [fe_187_224]
  exact zC_i (by decide) ⟨fun _ => m_un236 h hK, fun z => absurd (by decide) z⟩
theorem m_un151 {d : Nat} {M : Mm} {K : Kt} {x1 y0 : Int} (h : 1 ≤ M 154 6 ∧ M 154 6 ≤ 5) (hK : K 0 M) : zWp (zSp (d + 1)) 187 K 151 [some (.inr (.inr 154)), some (.inl x1), none, none, none, none] [.inl y0] M := by
  rw [fe_187_151]
  refine m_unfine h (zC_i (by decide) ⟨fun _ => ?_, fun z => absurd rfl z⟩)
  rw [fe_187_171]
  exact m_un172 h hK
theorem m_un131 {d : Nat} {M : Mm} {K : Kt} {x1 : Int} (h : 1 ≤ M 154 6 ∧ M 154 6 ≤ 5) (hK : K 0 M) : zWp (zSp (d + 1)) 187 K 131 [some (.inr (.inr 154)), some (.inl x1), none, none, none, none] [] M := by
  rw [fe_187_131]
  refine m_unfine h (zC_i (by decide) ⟨fun _ => ?_, fun z => absurd rfl z⟩)
  rw [fe_187_150]
  exact m_un151 h hK
theorem m_nb172 {d : Nat} {T : Int → Int} {n c0 c a b p : Int} {O : List St5} {M : Mm} {K : Kt} (hT : tpOk T n) (h : mTk T n p true M) (hb : M 154 6 = 0) (ho : mO c0 O M) (h0 : 0 ≤ c0) (hl : c0 + O.length < 333) (hP : mPF T n c0 O K M (gNb T n c a b p)) : zWp (zSp (d + 6)) 187 K 172 [some (.inr (.inr 154)), some (.inl c), some (.inl a), none, none, none] [.inl b] M := by
  have pn := h.2.1.2
  -- a sign stands there
  have go : ∀ (g : Int) (M1 : Mm), gSn T n p = g → g ≠ 2 → -1 ≤ g ∧ g ≤ 1 → tKi T n p true = 3 → mTk T n p true M1 → M1 154 4 = tQ T n p → nF M M1 → zWp (zSp (d + 6)) 187 K 224 [some (.inr (.inr 154)), some (.inl c), some (.inl a), some (.inl b), none, none] [.inl g] M1 := by
    intro g M1 eg ng gb k3 t1 f4 f2
    unfold gNb at hP
    rw [if_neg (by omega)] at hP
    have hP := mPF_q hP (nG_of f2)
    have b1 : M1 154 6 = 0 := by rw [nF_bad f2]; exact hb
    rw [fe_187_224]
    refine zC_i (zr (by omega) (by omega)) ⟨fun _ => ?_, fun z => absurd ng z⟩
    rw [fe_187_236]
    refine m_fine b1 (zC_i (by decide) ⟨fun _ => ?_, fun z => absurd (by decide) z⟩)
    have sg := mTk_sign t1 f4 k3
    have hP := mPF_q hP (nG_of sg.2)
    have o1 := mO_G (mO_G ho (nG_of f2)) (nG_of sg.2)
    refine m_number (d := d + 3) hT sg.1 (by rw [nF_bad sg.2]; exact b1) ?_ ?_
    · intro M2 k2 t2 g2
      rw [if_pos k2] at hP
      have b2 : M2 154 6 = 0 := by rw [nG_bad g2, nF_bad sg.2]; exact b1
      have hP := mPF_q hP g2
      refine m_fine b2 (zC_i (by decide) ⟨fun z => absurd z (by decide), fun _ => ?_⟩)
      refine m_emit (mO_G o1 g2) h0 (by omega) ?_
      intro M3 y1 y2 y3 y4
      rw [eg] at hP
      exact hP.2 M3 rfl y1 (mTk_fr t2 (y2 155 (by decide) (by decide)) (y3 3 (by decide)) (y3 4 (by decide)) (y3 5 (by decide))) (by rw [y3 6 (by decide)]; exact b2) (y2 176 (by decide) (by decide)) (y3 40 (by decide)) (y3 41 (by decide)) y4
    · intro M2 k2 t2 g2
      rw [if_neg k2] at hP
      have bb : 1 ≤ (zUp (zUp M2 154 6 1) 154 7 (tQ T n (tEn T n p))) 154 6 ∧ (zUp (zUp M2 154 6 1) 154 7 (tQ T n (tEn T n p))) 154 6 ≤ 5 := by rw [zUp_there (by decide), zUp_here]; decide
      refine m_unfine bb (zC_i (by decide) ⟨fun _ => ?_, fun z => absurd rfl z⟩)
      exact hP.1 _ (show (1 : Int) ≠ 0 by decide) (mFl_i t2) (mE_trans (mE_G g2) mE_bad)
  rw [fe_187_172]
  refine m_fine hb (zC_i (by decide) ⟨fun _ => ?_, fun z => absurd (by decide) z⟩)
  refine m_isSign (d := d + 4) hT h (by unfold sgn; decide) ?_
  intro M1 f1 f4 f2
  by_cases c1 : tKi T n p true = 3 ∧ tVa T n p = 60
  · rw [fl_t c1]
    exact zC_i (by decide) ⟨fun z => absurd z (by decide), fun _ => go (-1) M1 (by unfold gSn; rw [if_pos c1]) (by decide) (by decide) c1.1 f1 f4 f2⟩
  · rw [fl_f c1]
    refine zC_i (by decide) ⟨fun _ => ?_, fun z => absurd rfl z⟩
    refine m_isSign (d := d + 4) hT f1 (by unfold sgn; decide) ?_
    intro M2 g1 g4 g2
    have n2 := nF_trans f2 g2
    by_cases c2 : tKi T n p true = 3 ∧ tVa T n p = 62
    · rw [fl_t c2]
      exact zC_i (by decide) ⟨fun z => absurd z (by decide), fun _ => go 1 M2 (by unfold gSn; rw [if_neg c1, if_pos c2]) (by decide) (by decide) c2.1 g1 g4 n2⟩
    · rw [fl_f c2]
      refine zC_i (by decide) ⟨fun _ => ?_, fun z => absurd rfl z⟩
      refine m_isSign (d := d + 4) hT g1 (by unfold sgn; decide) ?_
      intro M3 i1 i4 i2
      have n3 := nF_trans n2 i2
      by_cases c3 : tKi T n p true = 3 ∧ tVa T n p = 61
      · rw [fl_t c3]
        exact zC_i (by decide) ⟨fun z => absurd z (by decide), fun _ => go 0 M3 (by unfold gSn; rw [if_neg c1, if_neg c2, if_pos c3]) (by decide) (by decide) c3.1 i1 i4 n3⟩
      · rw [fl_f c3]
        have e2 : gSn T n p = 2 := by unfold gSn; rw [if_neg c1, if_neg c2, if_neg c3]
        unfold gNb at hP
        rw [if_pos e2] at hP
        refine zC_i (by decide) ⟨fun _ => ?_, fun z => absurd rfl z⟩
        rw [fe_187_224]
        refine zC_i (by decide) ⟨fun z => absurd rfl z, fun _ => ?_⟩
        refine m_unlike (d := d + 4) hT i1 (by rw [nF_bad n3]; exact hb) ?_
        intro M4 j1 j2
        refine m_un236 (by rw [zUp_there (by decide), zUp_here]; decide) ?_
        exact hP.1 _ (show (1 : Int) ≠ 0 by decide) (mFl_i j1) (mE_trans (mE_G (nG_of n3)) (mE_trans (mE_G (nG_of j2)) mE_bad))
theorem m_fact121 {d : Nat} {T : Int → Int} {n c0 p : Int} {w : Bool} {O : List St5} {G M : Mm} {K : Kt} (hT : tpOk T n) (hg : gLn G) (hx : mG G M) (h : mTk T n (tEn T n p) true M) (hp : p ≤ n) (hb : M 154 6 = 0) (ho : mO c0 O M) (h0 : 0 ≤ c0) (hl : c0 + O.length < 333) (hc : gCn T n p w ≠ -1) (hP : mPF T n c0 O K M (gFa T n G p w)) : zWp (zSp (d + 6)) 187 K 121 [some (.inr (.inr 154)), none, none, none, none, none] [.inl (gCn T n p w)] M := by
  have g0 := hg.1
  obtain ⟨k1, k2, k3⟩ := (gCn_k (T := T) (w := w) hp).resolve_left hc
  have pe := (tEn_s (T := T) hp).2.1
  have pe2 := (tEn_s (T := T) pe).2.1
  unfold gFa at hP
  rw [if_neg hc] at hP
  have bf : ∀ (M1 : Mm) (k q : Int), (1 ≤ k ∧ k ≤ 5) → 1 ≤ (zUp (zUp M1 154 6 k) 154 7 q) 154 6 ∧ (zUp (zUp M1 154 6 k) 154 7 q) 154 6 ≤ 5 := fun M1 k q hk => by rw [zUp_there (by decide), zUp_here]; exact hk
  rw [fe_187_121]
  refine zC_i (zr (by omega) (by omega)) ⟨fun _ => ?_, fun z => absurd hc z⟩
  rw [fe_187_131]
  refine m_fine hb (zC_i (by decide) ⟨fun z => absurd z (by decide), fun _ => zC_i (zr (by omega) (by omega)) ⟨fun c2 => ?_, fun c2 => ?_⟩⟩)
  · rw [if_pos (by omega)] at hP
    rw [fe_187_150, fe_187_151]
    refine m_fine hb (zC_i (by decide) ⟨fun z => absurd z (by decide), fun _ => zC_i (zr (by omega) (by omega)) ⟨fun _ => ?_, fun z => absurd (by omega) z⟩⟩)
    rw [fe_187_171]
    exact m_nb172 hT h hb ho h0 hl hP
  · rw [if_neg (by omega)] at hP
    refine m_nmT (d := d) hT hg hx h hb ?_ ?_
    · intro M1 z e fl1 hM
      obtain ⟨M0, q0, e0⟩ := hM
      rw [if_pos e] at hP
      have kb : 1 ≤ (gNmT T n G (tEn T n p)).1 ∧ (gNmT T n G (tEn T n p)).1 ≤ 5 := by rcases gNmT_k (T := T) hg pe with x | x | x <;> omega
      refine m_un151 (by rw [fl1.1]; exact kb) (hP.1 M1 e fl1 ?_)
      rw [e0]
      exact mE_trans (mE_G q0) mE_bad
    · intro M1 e t1 q1
      rw [if_neg (fun z => z e)] at hP
      have hP := mPF_q hP q1
      have b1 : M1 154 6 = 0 := by rw [nG_bad q1]; exact hb
      have o1 := mO_G ho q1
      have x1 : mG G M1 := mG_fr hx (q1.1 156 (by decide)) (q1.1 157 (by decide)) (q1.1 158 (by decide)) (q1.1 162 (by decide)) (q1.1 163 (by decide))
      rw [fe_187_151]
      refine m_fine b1 (zC_i (by decide) ⟨fun z => absurd z (by decide), fun _ => zC_i (zr (by omega) (by omega)) ⟨fun c3 => ?_, fun c3 => ?_⟩⟩)
      · rw [if_pos (by omega)] at hP
        rw [fe_187_171]
        exact m_nb172 hT t1 b1 o1 h0 hl hP
      · rw [if_neg (by omega)] at hP
        refine m_nmT (d := d) hT hg x1 t1 b1 ?_ ?_
        · intro M2 z e2 fl2 hM
          obtain ⟨M0, q0, e0⟩ := hM
          rw [if_pos e2] at hP
          have kb : 1 ≤ (gNmT T n G (tEn T n (tEn T n p))).1 ∧ (gNmT T n G (tEn T n (tEn T n p))).1 ≤ 5 := by rcases gNmT_k (T := T) hg pe2 with x | x | x <;> omega
          refine m_un172 (by rw [fl2.1]; exact kb) (hP.1 M2 e2 fl2 ?_)
          rw [e0]
          exact mE_trans (mE_G q0) mE_bad
        · intro M2 e2 t2 q2
          rw [if_neg (fun z => z e2)] at hP
          have hP := mPF_q hP q2
          exact m_nb172 hT t2 (by rw [nG_bad q2]; exact b1) (mO_G o1 q2) h0 hl hP
theorem m_fact {d : Nat} {T : Int → Int} {n c0 p : Int} {w : Bool} {O : List St5} {G M : Mm} {K : Kt} (hT : tpOk T n) (hg : gLn G) (hx : mG G M) (h : mTk T n p w M) (hb : M 154 6 = 0) (ho : mO c0 O M) (h0 : 0 ≤ c0) (hl : c0 + O.length < 333) (hP : mPF T n c0 O K M (gFa T n G p w)) : zSp (d + 7) 187 [.inr (.inr 154)] M K := by
  have hp := h.2.1.2
  -- the word of a count was taken
  have go : ∀ (g : Int) (M1 M2 : Mm), gCn T n p w = g → g ≠ -1 → mTk T n (tEn T n p) true M2 → nF M M1 → nF M1 M2 → zWp (zSp (d + 6)) 187 K 121 [some (.inr (.inr 154)), none, none, none, none, none] [.inl g] M2 := by
    intro g M1 M2 eg ng t2 q1 q2
    have q := nG_of (nF_trans q1 q2)
    have := m_fact121 (d := d) (w := w) hT hg (mG_fr hx (q.1 156 (by decide)) (q.1 157 (by decide)) (q.1 158 (by decide)) (q.1 162 (by decide)) (q.1 163 (by decide))) t2 hp (by rw [nG_bad q]; exact hb) (mO_G ho q) h0 hl (by omega) (mPF_q hP q)
    rw [eg] at this
    exact this
  rw [me_187]
  refine m_packed (by decide) ?_
  rw [show pkd 115 105 122 101 0 0 = 647828480 by decide]
  refine m_takes (d := d + 1) hT h hb (by decide) ?_ ?_
  · intro M1 a b t1 q1
    exact zC_i (by decide) ⟨fun z => absurd z (by decide), fun _ => go 0 M M1 (by unfold gCn; rw [if_pos ⟨a, b⟩]) (by decide) t1 nF_refl q1⟩
  · intro M1 n1 t1 q1
    have b1 : M1 154 6 = 0 := by rw [nF_bad q1]; exact hb
    refine zC_i (by decide) ⟨fun _ => m_packed (by decide) ?_, fun z => absurd rfl z⟩
    rw [show pkd 100 101 101 112 0 0 = 139640832 by decide]
    refine m_takes (d := d + 1) hT t1 b1 (by decide) ?_ ?_
    · intro M2 a b t2 q2
      exact zC_i (by decide) ⟨fun z => absurd z (by decide), fun _ => go 1 M1 M2 (by unfold gCn; rw [if_neg n1, if_pos ⟨a, b⟩]) (by decide) t2 q1 q2⟩
    · intro M2 n2 t2 q2
      have p2 := nF_trans q1 q2
      have b2 : M2 154 6 = 0 := by rw [nF_bad p2]; exact hb
      refine zC_i (by decide) ⟨fun _ => m_packed (by decide) ?_, fun z => absurd rfl z⟩
      rw [show pkd 104 97 115 0 0 0 = 270106624 by decide]
      refine m_takes (d := d + 1) hT t2 b2 (by decide) ?_ ?_
      · intro M3 a b t3 q3
        exact zC_i (by decide) ⟨fun z => absurd z (by decide), fun _ => go 2 M2 M3 (by unfold gCn; rw [if_neg n1, if_neg n2, if_pos ⟨a, b⟩]) (by decide) t3 p2 q3⟩
      · intro M3 n3 t3 q3
        have p3 := nF_trans p2 q3
        have b3 : M3 154 6 = 0 := by rw [nF_bad p3]; exact hb
        refine zC_i (by decide) ⟨fun _ => m_packed (by decide) ?_, fun z => absurd rfl z⟩
        rw [show pkd 117 110 100 101 114 0 = 719459904 by decide]
        refine m_takes (d := d + 1) hT t3 b3 (by decide) ?_ ?_
        · intro M4 a b t4 q4
          exact zC_i (by decide) ⟨fun z => absurd z (by decide), fun _ => go 3 M3 M4 (by unfold gCn; rw [if_neg n1, if_neg n2, if_neg n3, if_pos ⟨a, b⟩]) (by decide) t4 p3 q4⟩
        · intro M4 n4 t4 q4
          have p4 := nF_trans p3 q4
          have b4 : M4 154 6 = 0 := by rw [nF_bad p4]; exact hb
          refine zC_i (by decide) ⟨fun _ => m_packed (by decide) ?_, fun z => absurd rfl z⟩
          rw [show pkd 110 101 120 116 0 0 = 475811840 by decide]
          refine m_takes (d := d + 1) hT t4 b4 (by decide) ?_ ?_
          · intro M5 a b t5 q5
            exact zC_i (by decide) ⟨fun z => absurd z (by decide), fun _ => go 4 M4 M5 (by unfold gCn; rw [if_neg n1, if_neg n2, if_neg n3, if_neg n4, if_pos ⟨a, b⟩]) (by decide) t5 p4 q5⟩
          · intro M5 n5 t5 q5
            have p5 := nF_trans p4 q5
            have e1 : gCn T n p w = -1 := by unfold gCn; rw [if_neg n1, if_neg n2, if_neg n3, if_neg n4, if_neg n5]
            unfold gFa at hP
            rw [if_pos e1] at hP
            refine zC_i (by decide) ⟨fun _ => ?_, fun z => absurd rfl z⟩
            rw [fe_187_121]
            refine zC_i (by decide) ⟨fun z => absurd rfl z, fun _ => ?_⟩
            refine m_unlike (d := d + 4) hT t5 (by rw [nF_bad p5]; exact hb) ?_
            intro M6 j1 j2
            refine m_un131 (by rw [zUp_there (by decide), zUp_here]; decide) ?_
            exact hP.1 _ (show (1 : Int) ≠ 0 by decide) (mFl_i j1) (mE_trans (mE_G (nG_of p5)) (mE_trans (mE_G (nG_of j2)) mE_bad))
