/-! LAYER 3: a line is read by the reference -/
theorem mR_sg {T : Int → Int} {n p : Int} {w : Bool} {G M M' : Mm} (hg : gLn G) (hp : p ≤ n) (hm : isNm T n p w) (h0 : 0 ≤ gSr T n p w G) (h : mR G M) (hs : mRs (gSg T n p G) M') (h159 : ∀ j, j ≠ 193 → M' 159 j = M 159 j) (h160 : M' 160 = M 160) : mR (gSg T n p G) M' := by
  have c0 := hg.1
  obtain ⟨s1, s2, s3, s4⟩ := gSg_k hg hp hm h0
  obtain ⟨r1, r2, r3, r4⟩ := h
  refine ⟨hs, by rw [h159 192 (by decide), s2]; exact r2, fun l l0 l1 => ?_, fun l l0 l1 => ?_⟩
  · rw [s2] at l1
    have b8 := (hg.2.1 l l0 l1).2.2.2.1
    obtain ⟨a1, a2, a3, a4, a5, a6⟩ := r3 l l0 l1
    rw [h160, h159 _ (by omega), h159 _ (by omega), h159 _ (by omega), h159 _ (by omega), s4 5 (by decide) (by decide), s4 6 (by decide) (by decide), s4 7 (by decide) (by decide), s4 8 (by decide) (by decide), s4 9 (by decide) (by decide)]
    refine ⟨a1, a2, a3, a4, a5, fun i i0 i1 => ?_⟩
    rw [s4 8 (by decide) (by decide)] at i1
    rw [s4 10 (by decide) (by decide), h159 _ (by omega)]
    exact a6 i i0 i1
  · rw [s2] at l0
    rw [h159 _ (by omega), h159 _ (by omega)]
    exact r4 l l0 l1
theorem m_line130 {d : Nat} {T : Int → Int} {n p p0 nm fm x5 : Int} {M G : Mm} {K : Kt} (hT : tpOk T n) (hg : gLn G) (hG : G 4 0 < 24) (hn : 0 ≤ nm ∧ nm < 1073741824) (hf : fm = 0 ∨ fm = 1) (hr : mR G M) (h : mTk T n p true M) (hb : M 154 6 = 0)
    (hP : mPo T n K M (if gSr T n p true G < 0 then (-(gSr T n p true G), tQ T n p, G, p0, true) else if fm = 0 then gCl T n (gAL (gSg T n p G) nm (gSr T n p true G) fm) (tEn T n p) true else gFm T n (gAL (gSg T n p G) nm (gSr T n p true G) fm) (tEn T n p))) : zWp (zSp (d + 7)) 166 K 130 [some (.inr (.inr 154)), some (.inl fm), some (.inl (G 4 0)), some (.inr (.inl nm)), none, some (.inl x5)] [] M := by
  have c0 := hg.1
  have pn := h.2.1.2
  rw [fe_166_130]
  refine m_sortRead (d := d + 1) hT hg hr.1 h hb ?_ ?_
  · intro M1 k hk ek f1 f2
    rw [if_pos (by omega)] at hP
    refine m_unfine (by rw [f1.1]; omega) ?_
    refine zC_i (by decide) ⟨fun q => absurd rfl q, fun _ => ?_⟩
    refine hP.1 M1 (by show -(gSr T n p true G) ≠ 0; omega) ?_ f2
    rw [show (-(gSr T n p true G), tQ T n p, G, p0, true).1 = k by show -(gSr T n p true G) = k; omega]
    exact f1
  · intro M1 nm1 g0 f1 f2 f3 f4 f5 f6
    rw [if_neg (by omega)] at hP
    obtain ⟨s1, s2, s3, s4⟩ := gSg_k hg pn nm1 g0
    have r1 := mR_sg hg pn nm1 g0 hr f3 f4 f5
    have hP := mPo_q hP f6
    have cc := s1.1
    refine m_fine f2 ?_
    refine zC_i (by decide) ⟨fun _ => ?_, fun q => absurd (by decide) q⟩
    refine zC_i (zs (by omega) (by omega)) (zC_i (zs (by omega) (by omega)) ?_)
    refine m_flag hf ?_
    refine zC_i (zs (by omega) (by omega)) (zC_i (zr (by omega) (by omega)) ⟨fun q => ?_, fun q => ?_⟩)
    · rw [if_pos q] at hP
      rw [q] at hP ⊢
      rw [← s2]
      exact m_leaf (d := d + 3) hT s1 (by omega) r1 f1 f2 hP
    · have q1 : fm = 1 := by omega
      rw [if_neg q] at hP
      rw [q1] at hP ⊢
      rw [← s2]
      exact m_form (d := d) hT s1 (by omega) hn ⟨g0, s3⟩ r1 f1 f2 hP
theorem m_names {d : Nat} {T : Int → Int} {n p p0 v fm : Int} {M G : Mm} {K : Kt} (hT : tpOk T n) (hg : gLn G) (hG : G 4 0 < 24) (hn : 0 ≤ v ∧ v < 1073741824) (hf : fm = 0 ∨ fm = 1) (hr : mR G M) (h : mTk T n p true M) (hb : M 154 6 = 0) (h12 : M 154 12 = tQ T n p0)
    (hP : mPo T n K M (if gLf G v = -1 then (if gSr T n p true G < 0 then (-(gSr T n p true G), tQ T n p, G, p0, true) else if fm = 0 then gCl T n (gAL (gSg T n p G) v (gSr T n p true G) fm) (tEn T n p) true else gFm T n (gAL (gSg T n p G) v (gSr T n p true G) fm) (tEn T n p)) else (3, tQ T n p0, G, p0, true))) : zWp (zSp (d + 7)) 166 K 90 [some (.inr (.inr 154)), some (.inl fm), some (.inl (G 4 0)), some (.inr (.inl v)), none, some (.inl 0)] [] M := by
  have c0 := hg.1
  refine m_names_l (T := T) (n := n) (G := G) (q := tQ T n p0) (zr64 (by omega) (by omega)) hg hr hb h12 ⟨p, true, h⟩ ?_ ?_ (G 4 0).toNat 0 (by omega) (by omega) rfl
  · intro e x5
    rw [if_pos e] at hP
    exact m_line130 hT hg hG hn hf hr h hb hP
  · intro M1 x5 e f1 f2
    rw [if_neg e] at hP
    refine m_unline (d := d + 1) hT f1 (by decide) ?_
    intro M2 g1 g2
    exact hP.1 M2 (show (3 : Int) ≠ 0 by decide) g1 (nH_trans f2 g2)
/-- behind a fault the names are not looked at -/
theorem m_unnames {d : Nat} {T : Int → Int} {n k q x1 x2 x3 : Int} {M : Mm} {K : Kt} (hT : tpOk T n) (h2 : 0 ≤ x2 ∧ x2 ≤ 24) (h : mFl T n M k q) (hk : 1 ≤ k ∧ k ≤ 5) (hK : ∀ M', mFl T n M' k q → nH M M' → K 0 M') : zWp (zSp (d + 6)) 166 K 90 [some (.inr (.inr 154)), some (.inl x1), some (.inl x2), some (.inr (.inl x3)), none, some (.inl 0)] [] M := by
  rw [fe_166_90]
  refine zC_i (by decide) (zC_i (zr (by omega) (by omega)) ⟨fun _ => m_unline (d := d) hT h hk hK, fun _ => m_unfine (by rw [h.1]; exact hk) ?_⟩)
  exact zC_i (by decide) ⟨fun _ => m_unline (d := d) hT h hk hK, fun q => absurd rfl q⟩
theorem m_line70 {d : Nat} {T : Int → Int} {n p fm : Int} {w : Bool} {M G : Mm} {K : Kt} (hT : tpOk T n) (hg : gLn G) (hG : G 4 0 < 24) (hf : fm = 0 ∨ fm = 1) (hr : mR G M) (h : mTk T n p w M) (hb : M 154 6 = 0) (hk : tKi T n p w = 1) (hd : mWd T n p M) (hP : mPo T n K M (gLb T n G (tEn T n p) fm)) : zWp (zSp (d + 7)) 166 K 70 [some (.inr (.inr 154)), some (.inl fm), some (.inl (G 4 0)), none, none, none] [] M := by
  have c0 := hg.1
  unfold gLb at hP
  rw [fe_166_70]
  refine m_fine hb ?_
  refine zC_i (by decide) ⟨fun _ => ?_, fun q => absurd (by decide) q⟩
  refine m_pass h hk hd ?_
  intro M1 f1 f2
  have b1 : M1 154 6 = 0 := by rw [nF_bad f2]; exact hb
  have r1 : mR G M1 := mR_fr hr (f2.1 159 (by decide)) (f2.1 160 (by decide)) (f2.1 161 (by decide))
  have n1 : nH M M1 := nH_of (nG_of f2)
  refine m_name (d := d + 2) hT f1 b1 ?_ ?_
  · intro M2 k1 k2 g1 g2 g3
    have nm : isNm T n (tEn T n p) true := ⟨k1, k2⟩
    rw [if_pos nm] at hP
    have vb := tVa_1 f1.2.1.2 k1
    exact m_names hT hg hG vb hf (mR_fr r1 (g2.1 159 (by decide)) (g2.1 160 (by decide)) (g2.1 161 (by decide))) g1 (by rw [nG_bad g2]; exact b1) g3 (mPo_q hP (nH_trans n1 (nH_of g2)))
  · intro M2 nm g1 g2 g3
    rw [if_neg nm] at hP
    refine m_unnames (d := d + 1) hT (by omega) (mFl_i g1) (by decide) ?_
    intro M3 k1 k2
    exact hP.1 M3 (show (1 : Int) ≠ 0 by decide) k1 (nH_trans n1 (nH_trans (nH_of g2) (nH_trans nH_bad k2)))
/-- behind a fault nothing of the line is read -/
theorem m_un46 {d : Nat} {T : Int → Int} {n k q x1 : Int} {M G : Mm} {K : Kt} (hT : tpOk T n) (h2 : 0 ≤ M 159 192 ∧ M 159 192 ≤ 24) (h : mFl T n M k q) (hk : 1 ≤ k ∧ k ≤ 5) (hK : ∀ M', mFl T n M' k q → nH M M' → K 0 M') : zWp (zSp (d + 2)) 166 K 46 [some (.inr (.inr 154)), some (.inl x1), none, none, none, none] [] M := by
  have go : ∀ (M' : Mm) (x2 : Int), mFl T n M' k q → nH M M' → zWp (zSp (d + 2)) 166 K 70 [some (.inr (.inr 154)), some (.inl x1), some (.inl x2), none, none, none] [] M' := by
    intro M' x2 f1 f2
    rw [fe_166_70]
    refine m_unfine (by rw [f1.1]; exact hk) ?_
    exact zC_i (by decide) ⟨fun q => absurd rfl q, fun _ => hK M' f1 f2⟩
  rw [fe_166_46]
  refine zC_i (zr (by omega) (by omega)) ⟨fun _ => go M _ h nH_refl, fun _ => ?_⟩
  obtain ⟨h1, h3, p, w, h4⟩ := h
  refine m_next hT h4 ?_
  intro M1 f1 f2 f3 f4
  have nf := nx_nF f3 f4
  refine m_unfail (by rw [nF_bad nf, h1]; exact hk) ?_
  exact go M1 _ ⟨by rw [nF_bad nf]; exact h1, by rw [nf.2 7 (by decide) (by decide) (by decide) (by decide)]; exact h3, p, w, f1⟩ (nH_of (nG_of nf))
theorem m_line46 {d : Nat} {T : Int → Int} {n p fm : Int} {w : Bool} {M G : Mm} {K : Kt} (hT : tpOk T n) (hg : gLn G) (hf : fm = 0 ∨ fm = 1) (hr : mR G M) (h : mTk T n p w M) (hb : M 154 6 = 0) (hk : tKi T n p w = 1) (hd : mWd T n p M) (hP : mPo T n K M (if G 4 0 = 24 then (4, tQ T n p, G, p, w) else gLb T n G (tEn T n p) fm)) : zWp (zSp (d + 7)) 166 K 46 [some (.inr (.inr 154)), some (.inl fm), none, none, none, none] [] M := by
  have c0 := hg.1
  have e := hr.2.1
  rw [fe_166_46, e]
  refine zC_i (zr (by omega) (by omega)) ⟨fun q => ?_, fun q => ?_⟩
  · rw [if_neg q] at hP
    exact m_line70 hT hg (by omega) hf hr h hb hk hd hP
  · rw [if_pos (Decidable.not_not.mp q)] at hP
    refine m_next hT h ?_
    intro M1 f1 f2 f3 f4
    have nf := nx_nF f3 f4
    refine m_fail (by rw [nF_bad nf]; exact hb) ?_
    rw [fe_166_70]
    refine m_unfine (by rw [zUp_there (by decide), zUp_here]; decide) ?_
    exact zC_i (by decide) ⟨fun q => absurd rfl q, fun _ => hP.1 _ (show (4 : Int) ≠ 0 by decide) (mFl_i f1) (nH_trans (nH_of (nG_of nf)) nH_bad)⟩
theorem m_lineRead {d : Nat} {T : Int → Int} {n p : Int} {w : Bool} {M G : Mm} {K : Kt} (hT : tpOk T n) (hg : gLn G) (hr : mR G M) (h : mTk T n p w M) (hb : M 154 6 = 0) (hP : mPo T n K M (gLi T n G p w)) : zSp (d + 8) 166 [.inr (.inr 154)] M K := by
  have c0 := hg.1
  have fr : ∀ {M M' : Mm}, mR G M → nF M M' → mR G M' := fun a f => mR_fr a (f.1 159 (by decide)) (f.1 160 (by decide)) (f.1 161 (by decide))
  unfold gLi at hP
  rw [me_166]
  refine m_packed (by decide) ?_
  rw [show pkd 102 111 114 109 0 0 = 217658368 by decide]
  refine m_isWord (d := d + 3) hT h (by decide) ?_
  intro M1 f1 f2 f3
  by_cases c1 : tKi T n p w = 1 ∧ tVa T n p = 217658368
  · rw [fl_t c1]
    rw [if_pos ⟨c1.1, .inl c1.2⟩, if_pos c1.2] at hP
    refine zC_i (by decide) ⟨fun _ => ?_, fun q => absurd (by decide) q⟩
    exact m_line46 hT hg (.inr rfl) (fr hr f2) f1 (by rw [nF_bad f2]; exact hb) c1.1 (f3 c1.1) (mPo_q hP (nH_of (nG_of f2)))
  · rw [fl_f c1]
    refine zC_i (by decide) ⟨fun q => absurd rfl q, fun _ => ?_⟩
    refine m_packed (by decide) ?_
    rw [show pkd 108 101 97 102 0 0 = 407934976 by decide]
    refine m_isWord (d := d + 3) hT f1 (by decide) ?_
    intro M2 g1 g2 g3
    have n2 := nH_trans (nH_of (nG_of f2)) (nH_of (nG_of g2))
    have b2 : M2 154 6 = 0 := by rw [nF_bad g2, nF_bad f2]; exact hb
    by_cases c2 : tKi T n p w = 1 ∧ tVa T n p = 407934976
    · rw [fl_t c2]
      rw [if_pos ⟨c2.1, .inr c2.2⟩, if_neg (fun e => c1 ⟨c2.1, e⟩)] at hP
      refine zC_i (by decide) ⟨fun _ => ?_, fun q => absurd (by decide) q⟩
      exact m_line46 hT hg (.inl rfl) (fr (fr hr f2) g2) g1 b2 c2.1 (g3 c2.1) (mPo_q hP n2)
    · rw [fl_f c2]
      rw [if_neg (fun e => e.2.elim (fun a => c1 ⟨e.1, a⟩) (fun a => c2 ⟨e.1, a⟩))] at hP
      refine zC_i (by decide) ⟨fun q => absurd rfl q, fun _ => ?_⟩
      refine m_unlike (d := d + 5) hT g1 b2 ?_
      intro M3 k1 k2
      have r3 := fr (fr (fr hr f2) g2) k2
      refine m_un46 (d := d + 5) (G := G) hT (by rw [zUp_away (by decide), zUp_away (by decide), r3.2.1]; omega) (mFl_i k1) (by decide) ?_
      intro M4 u1 u2
      exact hP.1 M4 (by show (1 : Int) ≠ 0; decide) u1 (nH_trans n2 (nH_trans (nH_of (nG_of k2)) (nH_trans nH_bad u2)))
