/-! LAYER 3: reducing: the reference -/
def mRS (G : Mm) (B : List Bg) (vs bug : Int) (M : Mm) (S : Rs) : Prop := mG G M ∧ mBg M B ∧ mTr M 0 S.1 ∧ mJ M S.2.1 ∧ M 154 48 = vs ∧ M 154 67 = bug ∧ M 154 68 = S.2.2
def mFr (M M' : Mm) : Prop := (∀ c, c ≠ 154 → c ≠ 165 → (c < 176 ∨ 191 < c) → M' c = M c) ∧ (∀ p, 322 ≤ p → M' 165 p = M 165 p) ∧ (∀ j, (j < 46 ∨ j = 48 ∨ j = 67) → M' 154 j = M 154 j)
theorem mFr_refl {M : Mm} : mFr M M := ⟨fun _ _ _ _ => rfl, fun _ _ => rfl, fun _ _ => rfl⟩
theorem mFr_trans {M M' M'' : Mm} (h : mFr M M') (h' : mFr M' M'') : mFr M M'' := ⟨fun c c1 c2 c3 => by rw [h'.1 c c1 c2 c3, h.1 c c1 c2 c3], fun p hp => by rw [h'.2.1 p hp, h.2.1 p hp], fun j hj => by rw [h'.2.2 j hj, h.2.2 j hj]⟩
theorem mTd_fr {M M' : Mm} {L : List Te} (h : mTd M L) (f : ∀ c, 181 ≤ c → c ≤ 185 → M' c = M c) (f0 : M' 154 57 = M 154 57) : mTd M' L := by
  unfold mTd mEn at h ⊢
  rw [f0, f 181 (by decide) (by decide), f 182 (by decide) (by decide), f 183 (by decide) (by decide), f 184 (by decide) (by decide), f 185 (by decide) (by decide)]
  exact h
theorem mJ_fr {M M' : Mm} {J : Js} (h : mJ M J) (f : ∀ c, 181 ≤ c → c ≤ 185 → M' c = M c) (f0 : ∀ j, (j = 47 ∨ j = 49 ∨ j = 50 ∨ j = 51 ∨ j = 57) → M' 154 j = M 154 j) : mJ M' J :=
  ⟨mTd_fr h.1 f (f0 57 (by omega)), by rw [f0 47 (by omega)]; exact h.2.1, by rw [f0 49 (by omega)]; exact h.2.2.1, by rw [f0 50 (by omega)]; exact h.2.2.2.1, by rw [f0 51 (by omega)]; exact h.2.2.2.2⟩
theorem mBg_fr {M M' : Mm} {B : List Bg} (h : mBg M B) (f : ∀ c, (c = 168 ∨ c = 170 ∨ c = 172 ∨ c = 174) → M' c = M c) (f0 : M' 154 37 = M 154 37) : mBg M' B :=
  ⟨by rw [f0]; exact h.1, mBs_fr (f 168 (by omega)) (f 170 (by omega)) (f 172 (by omega)) (f 174 (by omega)) _ _ _ h.2⟩
theorem mRS_fr {G M M' : Mm} {B : List Bg} {vs bug : Int} {S : Rs} (h : mRS G B vs bug M S) (f : ∀ c, (c = 156 ∨ c = 157 ∨ c = 158 ∨ c = 162 ∨ c = 163 ∨ c = 168 ∨ c = 170 ∨ c = 172 ∨ c = 174 ∨ (181 ≤ c ∧ c ≤ 185)) → M' c = M c) (ft : ∀ p, 0 ≤ p → p < 161 → M' 165 p = M 165 p) (f0 : ∀ j, (j = 37 ∨ j = 47 ∨ j = 48 ∨ j = 49 ∨ j = 50 ∨ j = 51 ∨ j = 57 ∨ j = 67 ∨ j = 68) → M' 154 j = M 154 j) : mRS G B vs bug M' S := by
  obtain ⟨h1, h2, h3, h4, h5, h6, h7⟩ := h
  exact ⟨mG_fr h1 (f 156 (by omega)) (f 157 (by omega)) (f 158 (by omega)) (f 162 (by omega)) (f 163 (by omega)), mBg_fr h2 (fun c hc => f c (by omega)) (f0 37 (by omega)), mTr_fr h3 (fun i c1 c2 => ft i (by omega) (by omega)), mJ_fr h4 (fun c c1 c2 => f c (by omega)) (fun j hj => f0 j (by omega)), by rw [f0 48 (by omega)]; exact h5, by rw [f0 67 (by omega)]; exact h6, by rw [f0 68 (by omega)]; exact h7⟩
theorem mLay_fr {G M M' : Mm} {t : Tr} (h : mLay G M t 0) (f : ∀ c, 177 ≤ c → c ≤ 180 → M' c = M c) (ft : ∀ p, 0 ≤ p → p < 161 → M' 165 p = M 165 p) (hz : tSz t ≤ 80) (f0 : M' 154 46 = M 154 46) : mLay G M' t 0 := by
  obtain ⟨h1, h2, h3, h4, h5, h6⟩ := h
  refine ⟨by rw [f0]; exact h1, by rw [f 177 (by decide) (by decide)]; exact h2, by rw [f 178 (by decide) (by decide)]; exact h3, by rw [f 179 (by decide) (by decide)]; exact h4, by rw [f 180 (by decide) (by decide)]; exact h5, ?_⟩
  refine tAll_mono t 0 0 ?_ h6
  intro k u a q v c1 c2 c3 c4 c5 c6 hx
  have p := tSz_pos u
  unfold mLy at hx ⊢
  rw [f 177 (by decide) (by decide), f 178 (by decide) (by decide), f 179 (by decide) (by decide), f 180 (by decide) (by decide)]
  simp only [ft (0 + 1 + a) (by omega) (by omega)]
  exact hx
theorem m_isTaken {d : Nat} {M G : Mm} {K : Kt} {B : List Bg} {vs bug why wh : Int} {S : Rs} {t' : Tr} (hg : gOk G) (hB : bCx (G 4 0) B) (hvs : 1 ≤ vs ∧ vs ≤ 9) (hb : 0 ≤ bug ∧ bug < 6) (h : mRS G B vs bug M S) (ho : rsOk G B S) (hly : mLay G M S.1 0) (ht' : mTr M 161 t') (hv' : tVal (G 4 0) t')
    (hK : ∀ M', mRS G B vs bug M' (rTk B vs bug S t' why wh).2 → mLay G M' (rTk B vs bug S t' why wh).2.1 0 → mFr M M' → (∀ c, (c = 187 ∨ c = 188 ∨ c = 191) → M' c = M c) → M' 154 70 = M 154 70 → ((rTk B vs bug S t' why wh).1 = 0 ∨ (rTk B vs bug S t' why wh).1 = 1) → K (rTk B vs bug S t' why wh).1 M') : zSp (d + 9) 229 [.inr (.inr 154), .inl why, .inl wh] M K := by
  obtain ⟨h1, h2, h3, h4, h5, h6, h7⟩ := h
  have hB6 := hB.1
  have ja := jAsk_ok (vs := vs) (t := t') (why := why) (wh := wh) ho.2.2 ht'.2 hv'
  rw [me_229]
  refine m_verdictOf (d := d) (by decide) hB h2 ht' hv' h4 ho.2.2 h5 hvs ?_
  intro M1 f1 f2 f3
  have g1 : mG G M1 := mG_fr h1 (f2 156 (by decide) (by decide) (by decide) (by decide)) (f2 157 (by decide) (by decide) (by decide) (by decide)) (f2 158 (by decide) (by decide) (by decide) (by decide)) (f2 162 (by decide) (by decide) (by decide) (by decide)) (f2 163 (by decide) (by decide) (by decide) (by decide))
  have b1 : mBg M1 B := mBg_fr h2 (fun c hc => f2 c (by omega) (by omega) (by omega) (by omega)) (f3 37 (by decide) (by decide) (by decide) (by decide) (by decide))
  have e165 : M1 165 = M 165 := f2 165 (by decide) (by decide) (by decide) (by decide)
  have t1 : mTr M1 0 S.1 := mTr_fr h3 (fun i _ _ => by rw [e165])
  have ly1 : mLay G M1 S.1 0 := mLay_fr hly (fun c c1 c2 => f2 c (by omega) (by omega) (by omega) (by omega)) (fun p _ _ => by rw [e165]) ho.1 (f3 46 (by decide) (by decide) (by decide) (by decide) (by decide))
  rw [f3 67 (by decide) (by decide) (by decide) (by decide) (by decide), h6]
  unfold rTk at hK
  (repeat (first | (with_reducible refine zC_i ?hob ?_; case hob => first | assumption | decide | exact zr (by omega) (by omega) | exact zs (by omega) (by omega) | exact zd (by omega) (by omega)) | (with_reducible refine zIfT ?hob ?_; case hob => first | assumption | omega | decide) | (with_reducible refine zIfF ?hob ?_; case hob => first | assumption | omega | decide)))
  refine ⟨fun c => ?_, fun c => ?_⟩
  · rw [if_pos c] at hK
    have ht1 : mTo M1 161 (some t') := mTr_fr ht' (fun i _ _ => by rw [e165])
    refine m_copies (by decide) (by decide) (by decide) ht1 ?_
    intro M2 k1 k2 k3
    have k1 : mTr M2 0 t' := k1
    refine m_lays (d := d + 5) hg.1 (mG_fr g1 (k3 156 (by decide)) (k3 157 (by decide)) (k3 158 (by decide)) (k3 162 (by decide)) (k3 163 (by decide))) (by decide) k1 hv' ?_
    intro M3 p1 p2 p3
    have e154 : ∀ j, j ≠ 46 → M3 154 j = M1 154 j := fun j hj => by rw [p3 j hj, k3 154 (by decide)]
    have e68 : M3 154 68 = S.2.2 := by rw [e154 68 (by decide), f3 68 (by decide) (by decide) (by decide) (by decide) (by decide)]; exact h7
    have ec : ∀ c, c ≠ 154 → c ≠ 165 → (c < 177 ∨ 180 < c) → M3 c = M1 c := fun c c1 c2 c3 => by rw [p2 c (by omega) (by omega) (by omega) (by omega) c1, k3 c c2]
    rw [e68]
    refine hK _ ⟨?_, ?_, ?_, ?_, ?_, ?_, ?_⟩ ?_ ?_ ?_ ?_ (.inr rfl)
    · exact mG_fr g1 (ec 156 (by decide) (by decide) (by decide)) (ec 157 (by decide) (by decide) (by decide)) (ec 158 (by decide) (by decide) (by decide)) (ec 162 (by decide) (by decide) (by decide)) (ec 163 (by decide) (by decide) (by decide))
    · exact mBg_fr b1 (fun c hc => by rw [zUp_away (by omega), ec c (by omega) (by omega) (by omega)]) (by rw [zUp_there (by decide), e154 37 (by decide)])
    · exact mTr_fr k1 (fun i _ _ => by rw [zUp_away (by decide), p2 165 (by decide) (by decide) (by decide) (by decide) (by decide)])
    · exact mJ_fr f1 (fun c c1 c2 => by rw [zUp_away (by omega), ec c (by omega) (by omega) (by omega)]) (fun j hj => by rw [zUp_there (by omega), e154 j (by omega)])
    · rw [zUp_there (by decide), e154 48 (by decide), f3 48 (by decide) (by decide) (by decide) (by decide) (by decide)]; exact h5
    · rw [zUp_there (by decide), e154 67 (by decide), f3 67 (by decide) (by decide) (by decide) (by decide) (by decide)]; exact h6
    · rw [zUp_here]
    · exact mLay_fr p1 (fun c c1 c2 => zUp_away (by omega)) (fun p _ _ => by rw [zUp_away (by decide)]) ht'.2 (zUp_there (by decide))
    · refine ⟨fun c c1 c2 c3 => by rw [zUp_away c1, ec c c1 c2 (by omega), f2 c c1 (by omega) (by omega) (by omega)], fun p hp => ?_, fun j hj => ?_⟩
      · rw [zUp_away (by decide), p2 165 (by decide) (by decide) (by decide) (by decide) (by decide), k2 p (by omega), e165]
      · rw [zUp_there (by omega), e154 j (by omega), f3 j (by omega) (by omega) (by omega) (by omega) (by omega)]
    · intro c hc
      rw [zUp_away (by omega), ec c (by omega) (by omega) (by omega), f2 c (by omega) (by omega) (by omega) (by omega)]
    · rw [zUp_there (by decide), e154 70 (by decide), f3 70 (by decide) (by decide) (by decide) (by decide) (by decide)]
  · rw [if_neg c] at hK
    refine hK M1 ⟨g1, b1, t1, f1, ?_, ?_, ?_⟩ ly1 ⟨fun c c1 c2 c3 => f2 c c1 (by omega) (by omega) (by omega), fun p hp => by rw [e165], fun j hj => f3 j (by omega) (by omega) (by omega) (by omega) (by omega)⟩ (fun c hc => f2 c (by omega) (by omega) (by omega) (by omega)) (f3 70 (by decide) (by decide) (by decide) (by decide) (by decide)) (.inl rfl)
    · rw [f3 48 (by decide) (by decide) (by decide) (by decide) (by decide)]; exact h5
    · rw [f3 67 (by decide) (by decide) (by decide) (by decide) (by decide)]; exact h6
    · rw [f3 68 (by decide) (by decide) (by decide) (by decide) (by decide)]; exact h7
theorem m_unm_l {d : Nat} {K : Kt} : ∀ (m : Nat) (M : Mm) (k : Int), k + m = 80 → 0 ≤ k → (∀ j, 0 ≤ j → j < k → M 187 j = -1) → (∀ M', (∀ j, 0 ≤ j → j < 80 → M' 187 j = -1) → (∀ c, c ≠ 187 → M' c = M c) → K 0 M') → zWp (zSp d) 214 K 2 [some (.inr (.inr 154)), some (.inl k)] [] M
  | 0, M, k, hk, h0, hz, hK => by
    rw [fe_214_2]
    (repeat (first | (with_reducible refine zC_i ?hob ?_; case hob => first | assumption | decide | exact zr (by omega) (by omega) | exact zs (by omega) (by omega) | exact zd (by omega) (by omega)) | (with_reducible refine zIfT ?hob ?_; case hob => first | assumption | omega | decide) | (with_reducible refine zIfF ?hob ?_; case hob => first | assumption | omega | decide)))
    exact hK M (fun j c1 c2 => hz j c1 (by omega)) (fun _ _ => rfl)
  | m + 1, M, k, hk, h0, hz, hK => by
    rw [fe_214_2]
    (repeat (first | (with_reducible refine zC_i ?hob ?_; case hob => first | assumption | decide | exact zr (by omega) (by omega) | exact zs (by omega) (by omega) | exact zd (by omega) (by omega)) | (with_reducible refine zIfT ?hob ?_; case hob => first | assumption | omega | decide) | (with_reducible refine zIfF ?hob ?_; case hob => first | assumption | omega | decide)))
    refine m_unm_l m _ (k + 1) (by omega) (by omega) (fun j c1 c2 => ?_) (fun M' g1 g2 => hK M' g1 (fun c hc => by rw [g2 c hc, zUp_away hc]))
    rw [zUp_hit]
    by_cases c : j = k
    · rw [if_pos c]
    · rw [if_neg c, hz j c1 (by omega)]
theorem m_unmarks {d : Nat} {M : Mm} {K : Kt} (hK : ∀ M', (∀ j, 0 ≤ j → j < 80 → M' 187 j = -1) → (∀ c, c ≠ 187 → M' c = M c) → K 0 M') : zSp (d + 1) 214 [.inr (.inr 154)] M K := by
  rw [me_214]
  exact m_unm_l 80 M 0 rfl (by omega) (fun j c1 c2 => by omega) hK
theorem m_changes {d : Nat} {M G : Mm} {K : Kt} {t : Tr} {k c j : Int} (hg : gOk G) (hm : mG G M) (ht : mTr M 0 t) (hv : tVal (G 4 0) t) (hs : sOk G t k c j)
    (hK : ∀ M', mTr M' 161 (sTr G t k c j) → (∀ c, c ≠ 165 → c ≠ 187 → c ≠ 188 → c ≠ 189 → c ≠ 190 → c ≠ 154 → M' c = M c) → (∀ p, (p < 161 ∨ 322 ≤ p) → M' 165 p = M 165 p) → (∀ q, q ≠ 60 → M' 154 q = M 154 q) → K 0 M') : zSp (d + 6) 219 [.inr (.inr 154), .inl k, .inl c, .inl j] M K := by
  obtain ⟨m1, m2, m3, m4, m5⟩ := sOk_mk hs
  have t5 := ht.2
  have k0 := hs.1
  have k1 := hs.2.1
  have hc : c = 0 ∨ c = 1 ∨ c = 2 := by
    rcases hs.2.2 with q | q | q
    · exact .inl q.1
    · exact .inr (.inl q.1)
    · exact .inr (.inr q.1)
  rw [me_219]
  refine m_unmarks ?_
  intro M1 f1 f2
  refine zC_i (zs (by omega) (by omega)) ?_
  refine m_builds (d := d) (mk := sMk k c) hg (mG_fr hm (f2 156 (by decide)) (f2 157 (by decide)) (f2 158 (by decide)) (f2 162 (by decide)) (f2 163 (by decide))) (mTr_fr ht (fun i _ _ => by rw [zUp_away (by decide), zUp_away (by decide), f2 165 (by decide)])) hv m4 ?_ ?_ m3 m1 m2 ?_
  · by_cases c2 : c = 2
    · left
      rw [zUp_here, if_pos c2]
    · right
      intro x
      unfold sMk
      split <;> omega
  · intro x x0 x1
    rw [zUp_away (by decide), zUp_hit]
    unfold sMk
    by_cases cx : x = k
    · rw [if_pos cx, if_pos cx]
    · rw [if_neg cx, if_neg cx, f1 x x0 x1]
  · intro M' g1 g2 g3 g4
    refine hK M' g1 (fun c c1 c2 c3 c4 c5 c6 => by rw [g2 c c1 c3 c4 c5, zUp_away c6, zUp_away c2, f2 c c2]) (fun p hp => by rw [g3 p hp, zUp_away (by decide), zUp_away (by decide), f2 165 (by decide)]) (fun q hq => by rw [g2 154 (by decide) (by decide) (by decide) (by decide), zUp_there hq, zUp_away (by decide), f2 154 (by decide)])
/-- a single change, tried -/
theorem m_tkSingle {d : Nat} {M G : Mm} {K : Kt} {B : List Bg} {vs bug why k c j : Int} {S : Rs} (hg : gOk G) (hB : bCx (G 4 0) B) (hvs : 1 ≤ vs ∧ vs ≤ 9) (hb : 0 ≤ bug ∧ bug < 6) (h : mRS G B vs bug M S) (ho : rsOk G B S) (hly : mLay G M S.1 0) (hs : sOk G S.1 k c j)
    (hK : ∀ M', mRS G B vs bug M' (rTk B vs bug S (sTr G S.1 k c j) why k).2 → mLay G M' (rTk B vs bug S (sTr G S.1 k c j) why k).2.1 0 → mFr M M' → ((rTk B vs bug S (sTr G S.1 k c j) why k).1 = 0 ∨ (rTk B vs bug S (sTr G S.1 k c j) why k).1 = 1) → K (rTk B vs bug S (sTr G S.1 k c j) why k).1 M') : zSp (d + 9) 219 [.inr (.inr 154), .inl k, .inl c, .inl j] M (fun _ M1 => zSp (d + 9) 229 [.inr (.inr 154), .inl why, .inl k] M1 K) := by
  refine m_changes (d := d + 3) hg h.1 h.2.2.1 ho.2.1 hs ?_
  intro M1 f1 f2 f3 f4
  have fr1 : mFr M M1 := ⟨fun c c1 c2 c3 => f2 c (by omega) (by omega) (by omega) (by omega) (by omega) (by omega), fun p hp => f3 p (by omega), fun j hj => f4 j (by omega)⟩
  refine m_isTaken (d := d) hg hB hvs hb (mRS_fr h (fun c hc => f2 c (by omega) (by omega) (by omega) (by omega) (by omega) (by omega)) (fun p c1 c2 => f3 p (by omega)) (fun j hj => f4 j (by omega))) ho (mLay_fr hly (fun c c1 c2 => f2 c (by omega) (by omega) (by omega) (by omega) (by omega) (by omega)) (fun p c1 c2 => f3 p (by omega)) ho.1 (f4 46 (by decide))) f1 (sTr_sz hg ho.2.1 hs).2 ?_
  intro M2 g1 g2 g3 g4 g5 g6
  exact hK M2 g1 g2 (mFr_trans fr1 g3) g6
theorem m_hoist_l {d : Nat} {G : Mm} {K : Kt} {B : List Bg} {vs bug k e : Int} (hg : gOk G) (hB : bCx (G 4 0) B) (hvs : 1 ≤ vs ∧ vs ≤ 9) (hb : 0 ≤ bug ∧ bug < 6) : ∀ (m : Nat) (M : Mm) (S : Rs) (j : Int), mRS G B vs bug M S → rsOk G B S → mLay G M S.1 0 → 0 ≤ k → k < tSz S.1 → k < j → j + m = k + tSz (tSub S.1 k) → e = k + tSz (tSub S.1 k) →
    (∀ M', mRS G B vs bug M' (rHo G B vs bug k m j S).2 → mLay G M' (rHo G B vs bug k m j S).2.1 0 → mFr M M' → ((rHo G B vs bug k m j S).1 = 0 ∨ (rHo G B vs bug k m j S).1 = 1) → K (rHo G B vs bug k m j S).1 M') → zWp (zSp (d + 9)) 236 K 13 [some (.inr (.inr 154)), some (.inl k), some (.inl e), some (.inl j)] [] M
  | 0, M, S, j, h, ho, hly, h0, h1, hj, hm, he, hK => by
    have pb := tPl_b h0 h1
    have hz := ho.1
    rw [fe_236_13]
    (repeat (first | (with_reducible refine zC_i ?hob ?_; case hob => first | assumption | decide | exact zr (by omega) (by omega) | exact zs (by omega) (by omega) | exact zd (by omega) (by omega)) | (with_reducible refine zIfT ?hob ?_; case hob => first | assumption | omega | decide) | (with_reducible refine zIfF ?hob ?_; case hob => first | assumption | omega | decide)))
    exact hK M h hly mFr_refl (.inl rfl)
  | m + 1, M, S, j, h, ho, hly, h0, h1, hj, hm, he, hK => by
    have pb := tPl_b h0 h1
    have hz := ho.1
    have gs1 := gLn_s hg.1 ho.2.1 k
    have gs2 := gLn_s hg.1 ho.2.1 j
    have gb := hg.1.1
    unfold rHo at hK
    rw [fe_236_13]
    (repeat (first | (with_reducible refine zC_i ?hob ?_; case hob => first | assumption | decide | exact zr (by omega) (by omega) | exact zs (by omega) (by omega) | exact zd (by omega) (by omega)) | (with_reducible refine zIfT ?hob ?_; case hob => first | assumption | omega | decide) | (with_reducible refine zIfF ?hob ?_; case hob => first | assumption | omega | decide)))
    refine m_sortAt (by decide) hg.1 h.1 h.2.2.1 ho.2.1 (by omega) (by omega) ?_
    refine m_sortAt (by decide) hg.1 h.1 h.2.2.1 ho.2.1 (by omega) (by omega) ?_
    (repeat (first | (with_reducible refine zC_i ?hob ?_; case hob => first | assumption | decide | exact zr (by omega) (by omega) | exact zs (by omega) (by omega) | exact zd (by omega) (by omega)) | (with_reducible refine zIfT ?hob ?_; case hob => first | assumption | omega | decide) | (with_reducible refine zIfF ?hob ?_; case hob => first | assumption | omega | decide)))
    refine ⟨fun c => ?_, fun c => ?_⟩
    · rw [if_pos c] at hK
      have ok : sOk G S.1 k 2 j := ⟨h0, h1, .inr (.inr ⟨rfl, hj, by omega⟩)⟩
      have st := rStep_tk (vs := vs) (bug := bug) (why := 4) (wh := k) ho (sTr_lt hg ho.2.1 ok) (sTr_sz hg ho.2.1 ok).2
      refine m_tkSingle hg hB hvs hb h ho hly ok ?_
      intro M1 f1 f2 f3 f4
      generalize rTk B vs bug S (sTr G S.1 k 2 j) 4 k = r at *
      (repeat (first | (with_reducible refine zC_i ?hob ?_; case hob => first | assumption | decide | exact zr (by omega) (by omega) | exact zs (by omega) (by omega) | exact zd (by omega) (by omega)) | (with_reducible refine zIfT ?hob ?_; case hob => first | assumption | omega | decide) | (with_reducible refine zIfF ?hob ?_; case hob => first | assumption | omega | decide)))
      refine ⟨fun c2 => ?_, fun c2 => ?_⟩
      · rw [if_neg (by omega)] at hK
        rcases st.2.2 with q | q
        · omega
        · refine m_hoist_l hg hB hvs hb m M1 r.2 (j + 1) f1 st.1 f2 h0 (by rw [q.2.1]; exact h1) (by omega) (by rw [q.2.1]; omega) (by rw [q.2.1]; exact he) ?_
          intro M' g1 g2 g3 g4
          exact hK M' g1 g2 (mFr_trans f3 g3) g4
      · rw [if_pos (by omega)] at hK
        have := hK M1 f1 f2 f3 f4
        rw [show r.1 = 1 by omega] at this
        exact this
    · rw [if_neg c] at hK
      exact m_hoist_l hg hB hvs hb m M S (j + 1) h ho hly h0 h1 (by omega) (by omega) he hK
theorem m_takesHoist {d : Nat} {M G : Mm} {K : Kt} {B : List Bg} {vs bug k : Int} {S : Rs} (hg : gOk G) (hB : bCx (G 4 0) B) (hvs : 1 ≤ vs ∧ vs ≤ 9) (hb : 0 ≤ bug ∧ bug < 6) (h : mRS G B vs bug M S) (ho : rsOk G B S) (hly : mLay G M S.1 0) (h0 : 0 ≤ k) (h1 : k < tSz S.1)
    (hK : ∀ M', mRS G B vs bug M' (rHoist G B vs bug k S).2 → mLay G M' (rHoist G B vs bug k S).2.1 0 → mFr M M' → ((rHoist G B vs bug k S).1 = 0 ∨ (rHoist G B vs bug k S).1 = 1) → K (rHoist G B vs bug k S).1 M') : zSp (d + 10) 236 [.inr (.inr 154), .inl k] M K := by
  have pb := tPl_b h0 h1
  rw [me_236]
  refine m_sizeOf (by decide) h.2.2.1 h0 h1 ?_
  exact m_hoist_l hg hB hvs hb _ M S (k + 1) h ho hly h0 h1 (by omega) (by omega) rfl hK
theorem m_takesCut {d : Nat} {M G : Mm} {K : Kt} {B : List Bg} {vs bug k : Int} {S : Rs} (hg : gOk G) (hB : bCx (G 4 0) B) (hvs : 1 ≤ vs ∧ vs ≤ 9) (hb : 0 ≤ bug ∧ bug < 6) (h : mRS G B vs bug M S) (ho : rsOk G B S) (hly : mLay G M S.1 0) (h0 : 0 ≤ k) (h1 : k < tSz S.1)
    (hK : ∀ M', mRS G B vs bug M' (rCut G B vs bug k S).2 → mLay G M' (rCut G B vs bug k S).2.1 0 → mFr M M' → ((rCut G B vs bug k S).1 = 0 ∨ (rCut G B vs bug k S).1 = 1) → K (rCut G B vs bug k S).1 M') : zSp (d + 10) 237 [.inr (.inr 154), .inl k] M K := by
  have hz := ho.1
  have la := mLay_at hly h.2.2.1 h0 h1
  have h27 : ∀ M1 (S1 : Rs), mRS G B vs bug M1 S1 → rsOk G B S1 → mLay G M1 S1.1 0 → S1.1 = S.1 → mFr M M1 → rCut G B vs bug k S = rCl G B vs bug k S1 → zWp (zSp (d + 9)) 237 K 27 [some (.inr (.inr 154)), some (.inl k)] [] M1 := by
    intro M1 S1 f1 f2 f3 f4 f5 f6
    rw [f6] at hK
    unfold rCl at hK
    rw [fe_237_27]
    refine m_canBeLeast hg f1.1 f1.2.2.1 f2.2.1 h0 (by rw [f4]; exact h1) ?_
    by_cases hl : tLst G S1.1 k
    · rw [fl_t hl]
      rw [if_pos hl] at hK
      (repeat (first | (with_reducible refine zC_i ?hob ?_; case hob => first | assumption | decide | exact zr (by omega) (by omega) | exact zs (by omega) (by omega) | exact zd (by omega) (by omega)) | (with_reducible refine zIfT ?hob ?_; case hob => first | assumption | omega | decide) | (with_reducible refine zIfF ?hob ?_; case hob => first | assumption | omega | decide)))
      refine m_tkSingle (why := 5) hg hB hvs hb f1 f2 f3 (⟨h0, by rw [f4]; exact h1, .inr (.inl ⟨rfl, hl⟩)⟩ : sOk G S1.1 k 1 (-1)) ?_
      intro M2 g1 g2 g3 g4
      exact zC_i (zBo_iff.mpr g4) (hK M2 g1 g2 (mFr_trans f5 g3) g4)
    · rw [fl_f hl]
      rw [if_neg hl] at hK
      (repeat (first | (with_reducible refine zC_i ?hob ?_; case hob => first | assumption | decide | exact zr (by omega) (by omega) | exact zs (by omega) (by omega) | exact zd (by omega) (by omega)) | (with_reducible refine zIfT ?hob ?_; case hob => first | assumption | omega | decide) | (with_reducible refine zIfF ?hob ?_; case hob => first | assumption | omega | decide)))
      exact hK M1 f1 f3 f5 (.inl rfl)
  rw [me_237]
  by_cases hst : tStar G S.1 k
  · have e1 : M 180 k = 1 := la.2.2.2.2.mpr hst
    rw [e1]
    have eC : rCut G B vs bug k S = if (rTk B vs bug S (sTr G S.1 k 0 (-1)) 5 k).1 = 1 then rTk B vs bug S (sTr G S.1 k 0 (-1)) 5 k else rCl G B vs bug k (rTk B vs bug S (sTr G S.1 k 0 (-1)) 5 k).2 := by
      unfold rCut; rw [if_pos hst]
    have ok : sOk G S.1 k 0 (-1) := ⟨h0, by omega, .inl ⟨rfl, hst⟩⟩
    have st2 := rStep_tk (vs := vs) (bug := bug) (why := 5) (wh := k) ho (sTr_lt hg ho.2.1 ok) (sTr_sz hg ho.2.1 ok).2
    (repeat (first | (with_reducible refine zC_i ?hob ?_; case hob => first | assumption | decide | exact zr (by omega) (by omega) | exact zs (by omega) (by omega) | exact zd (by omega) (by omega)) | (with_reducible refine zIfT ?hob ?_; case hob => first | assumption | omega | decide) | (with_reducible refine zIfF ?hob ?_; case hob => first | assumption | omega | decide)))
    refine m_tkSingle (why := 5) hg hB hvs hb h ho hly ok ?_
    intro M1 f1 f2 f3 f4
    generalize rTk B vs bug S (sTr G S.1 k 0 (-1)) 5 k = r at *
    (repeat (first | (with_reducible refine zC_i ?hob ?_; case hob => first | assumption | decide | exact zr (by omega) (by omega) | exact zs (by omega) (by omega) | exact zd (by omega) (by omega)) | (with_reducible refine zIfT ?hob ?_; case hob => first | assumption | omega | decide) | (with_reducible refine zIfF ?hob ?_; case hob => first | assumption | omega | decide)))
    refine ⟨fun c2 => ?_, fun c2 => ?_⟩
    · rcases st2.2.2 with q | q
      · omega
      · exact h27 M1 r.2 f1 st2.1 f2 q.2.1 f3 (by rw [eC, if_neg (by omega)])
    · rw [if_pos (by omega)] at eC
      rw [eC] at hK
      have := hK M1 f1 f2 f3 f4
      rw [show r.1 = 1 by omega] at this
      exact this
  · have e1 : M 180 k = 0 := by
      rcases la.2.2.2.1 with q | q
      · exact q
      · exact absurd (la.2.2.2.2.mp q) hst
    rw [e1]
    (repeat (first | (with_reducible refine zC_i ?hob ?_; case hob => first | assumption | decide | exact zr (by omega) (by omega) | exact zs (by omega) (by omega) | exact zd (by omega) (by omega)) | (with_reducible refine zIfT ?hob ?_; case hob => first | assumption | omega | decide) | (with_reducible refine zIfF ?hob ?_; case hob => first | assumption | omega | decide)))
    exact h27 M S h ho hly rfl mFr_refl (by unfold rCut; rw [if_neg hst])
theorem m_byNodes_l {d : Nat} {G : Mm} {K : Kt} {B : List Bg} {vs bug hf : Int} {P : Int → Rs → Int × Rs} (hg : gOk G) (hP : (hf = 0 ∧ P = rCut G B vs bug) ∨ (hf = 1 ∧ P = rHoist G B vs bug)) (hB : bCx (G 4 0) B) (hvs : 1 ≤ vs ∧ vs ≤ 9) (hb : 0 ≤ bug ∧ bug < 6) : ∀ (f : Nat) (M : Mm) (S : Rs) (k : Int), 100 * tSz S.1 - k ≤ f → mRS G B vs bug M S → rsOk G B S → mLay G M S.1 0 → 0 ≤ k → k ≤ 100 →
    (∀ M', mRS G B vs bug M' (rNd P f k S) → mLay G M' (rNd P f k S).1 0 → mFr M M' → K 0 M') → zWp (zSp (d + 10)) 238 K 7 [some (.inr (.inr 154)), some (.inl hf), some (.inl k)] [] M
  | 0, M, S, k, hm, h, ho, hly, h0, hk, hK => by
    have hz := ho.1
    have q1 := tSz_pos S.1
    rw [fe_238_7]
    refine m_many (by decide) ?_
    rw [h.2.2.1.1.1]
    (repeat (first | (with_reducible refine zC_i ?hob ?_; case hob => first | assumption | decide | exact zr (by omega) (by omega) | exact zs (by omega) (by omega) | exact zd (by omega) (by omega)) | (with_reducible refine zIfT ?hob ?_; case hob => first | assumption | omega | decide) | (with_reducible refine zIfF ?hob ?_; case hob => first | assumption | omega | decide)))
    exact hK M h hly mFr_refl
  | f + 1, M, S, k, hm, h, ho, hly, h0, hk, hK => by
    have hz := ho.1
    have q1 := tSz_pos S.1
    unfold rNd at hK
    rw [fe_238_7]
    refine m_many (by decide) ?_
    rw [h.2.2.1.1.1]
    (repeat (first | (with_reducible refine zC_i ?hob ?_; case hob => first | assumption | decide | exact zr (by omega) (by omega) | exact zs (by omega) (by omega) | exact zd (by omega) (by omega)) | (with_reducible refine zIfT ?hob ?_; case hob => first | assumption | omega | decide) | (with_reducible refine zIfF ?hob ?_; case hob => first | assumption | omega | decide)))
    refine ⟨fun c => ?_, fun c => ?_⟩
    · rw [if_pos c] at hK
      exact hK M h hly mFr_refl
    rw [if_neg c] at hK
    rcases hP with ⟨e, eP⟩ | ⟨e, eP⟩
    · subst e
      have st : rStep G B S (P k S) := by rw [eP]; exact rCut_ok hg (vs := vs) (bug := bug) ho h0 (by omega)
      (repeat (first | (with_reducible refine zC_i ?hob ?_; case hob => first | assumption | decide | exact zr (by omega) (by omega) | exact zs (by omega) (by omega) | exact zd (by omega) (by omega)) | (with_reducible refine zIfT ?hob ?_; case hob => first | assumption | omega | decide) | (with_reducible refine zIfF ?hob ?_; case hob => first | assumption | omega | decide)))
      refine m_takesCut hg hB hvs hb h ho hly h0 (by omega) ?_
      rw [← eP]
      intro M1 f1 f2 f3 f4
      (repeat (first | (with_reducible refine zC_i ?hob ?_; case hob => first | assumption | decide | exact zr (by omega) (by omega) | exact zs (by omega) (by omega) | exact zd (by omega) (by omega)) | (with_reducible refine zIfT ?hob ?_; case hob => first | assumption | omega | decide) | (with_reducible refine zIfF ?hob ?_; case hob => first | assumption | omega | decide)))
      refine ⟨fun c2 => ?_, fun c2 => ?_⟩
      · rw [if_pos (by omega)] at hK
        rcases st.2.2 with q | q
        · exact m_byNodes_l hg (.inl ⟨rfl, eP⟩) hB hvs hb f M1 (P k S).2 k (by omega) f1 st.1 f2 h0 hk (fun M' g1 g2 g3 => hK M' g1 g2 (mFr_trans f3 g3))
        · omega
      · rw [if_neg (by omega)] at hK
        rcases st.2.2 with q | q
        · omega
        · exact m_byNodes_l hg (.inl ⟨rfl, eP⟩) hB hvs hb f M1 (P k S).2 (k + 1) (by rw [q.2.1]; omega) f1 st.1 f2 (by omega) (by omega) (fun M' g1 g2 g3 => hK M' g1 g2 (mFr_trans f3 g3))
    · subst e
      have st : rStep G B S (P k S) := by rw [eP]; exact rHoist_ok hg (vs := vs) (bug := bug) ho h0 (by omega)
      (repeat (first | (with_reducible refine zC_i ?hob ?_; case hob => first | assumption | decide | exact zr (by omega) (by omega) | exact zs (by omega) (by omega) | exact zd (by omega) (by omega)) | (with_reducible refine zIfT ?hob ?_; case hob => first | assumption | omega | decide) | (with_reducible refine zIfF ?hob ?_; case hob => first | assumption | omega | decide)))
      refine m_takesHoist hg hB hvs hb h ho hly h0 (by omega) ?_
      rw [← eP]
      intro M1 f1 f2 f3 f4
      (repeat (first | (with_reducible refine zC_i ?hob ?_; case hob => first | assumption | decide | exact zr (by omega) (by omega) | exact zs (by omega) (by omega) | exact zd (by omega) (by omega)) | (with_reducible refine zIfT ?hob ?_; case hob => first | assumption | omega | decide) | (with_reducible refine zIfF ?hob ?_; case hob => first | assumption | omega | decide)))
      refine ⟨fun c2 => ?_, fun c2 => ?_⟩
      · rw [if_neg (by omega)] at hK
        rcases st.2.2 with q | q
        · omega
        · exact m_byNodes_l hg (.inr ⟨rfl, eP⟩) hB hvs hb f M1 (P k S).2 (k + 1) (by rw [q.2.1]; omega) f1 st.1 f2 (by omega) (by omega) (fun M' g1 g2 g3 => hK M' g1 g2 (mFr_trans f3 g3))
      · rw [if_pos (by omega)] at hK
        rcases st.2.2 with q | q
        · exact m_byNodes_l hg (.inr ⟨rfl, eP⟩) hB hvs hb f M1 (P k S).2 k (by omega) f1 st.1 f2 h0 hk (fun M' g1 g2 g3 => hK M' g1 g2 (mFr_trans f3 g3))
        · omega
/-- lays, and what it leaves -/
theorem m_layA {d : Nat} {M G : Mm} {K : Kt} {B : List Bg} {vs bug : Int} {S : Rs} (hg : gOk G) (h : mRS G B vs bug M S) (ho : rsOk G B S) (hK : ∀ M', mRS G B vs bug M' S → mLay G M' S.1 0 → mFr M M' → (∀ c, (c = 187 ∨ c = 188 ∨ c = 191) → M' c = M c) → M' 154 70 = M 154 70 → K 0 M') : zSp (d + 3) 196 [.inr (.inr 154), .inl 0] M K := by
  refine m_lays hg.1 h.1 (by decide) h.2.2.1 ho.2.1 ?_
  intro M1 f1 f2 f3
  have e165 : M1 165 = M 165 := f2 165 (by decide) (by decide) (by decide) (by decide) (by decide)
  exact hK M1 (mRS_fr h (fun c hc => f2 c (by omega) (by omega) (by omega) (by omega) (by omega)) (fun p _ _ => by rw [e165]) (fun j hj => f3 j (by omega))) f1 ⟨fun c c1 c2 c3 => f2 c (by omega) (by omega) (by omega) (by omega) c1, fun p _ => by rw [e165], fun j hj => f3 j (by omega)⟩ (fun c hc => f2 c (by omega) (by omega) (by omega) (by omega) (by omega)) (f3 70 (by decide))
