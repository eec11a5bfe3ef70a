/-! LAYER 3: a test's text, read by the reference -/
def shM (M : Mm) : Mm := fun c => M (c + 1)
def mSs (M : Mm) : List Int → Prop
  | [] => True
  | s :: S => M 176 (S.length : Int) = s ∧ mSs M S
theorem mSs_fr {M M' : Mm} : ∀ S : List Int, (∀ j, 0 ≤ j → j < (S.length : Int) → M' 176 j = M 176 j) → mSs M S → mSs M' S
  | [], _, _ => trivial
  | s :: S, h, ⟨a, b⟩ => by
    have e : ((s :: S).length : Int) = S.length + 1 := by show ((S.length + 1 : Nat) : Int) = _; omega
    exact ⟨by rw [h _ (by omega) (by omega)]; exact a, mSs_fr S (fun j j0 j1 => h j j0 (by omega)) b⟩
def mSk (S : List Int) (M : Mm) : Prop := M 154 40 = (S.length : Int) ∧ M 154 41 = nsT S ∧ mSs M S
theorem mSk_fr {S : List Int} {M M' : Mm} (h : mSk S M) (f1 : M' 154 40 = M 154 40) (f2 : M' 154 41 = M 154 41) (f3 : M' 176 = M 176) : mSk S M' := ⟨by rw [f1]; exact h.1, by rw [f2]; exact h.2.1, mSs_fr S (fun j _ _ => by rw [f3]) h.2.2⟩
theorem mCd_fr2 {M M' : Mm} : ∀ (O : List St5) (c : Int), (∀ i, 5 * c ≤ i → i < 5 * (c + O.length) → M' 168 i = M 168 i) → mCd M O c → mCd M' O c
  | [], _, _, _ => trivial
  | s :: O, c, f, ⟨⟨a1, a2, a3, a4, a5⟩, b⟩ => by
    have e : ((s :: O).length : Int) = O.length + 1 := by show ((O.length + 1 : Nat) : Int) = _; omega
    refine ⟨⟨?_, ?_, ?_, ?_, ?_⟩, mCd_fr2 O (c + 1) (fun i i1 i2 => f i (by omega) (by omega)) b⟩
    · rw [f _ (by omega) (by omega)]; exact a1
    · rw [f _ (by omega) (by omega)]; exact a2
    · rw [f _ (by omega) (by omega)]; exact a3
    · rw [f _ (by omega) (by omega)]; exact a4
    · rw [f _ (by omega) (by omega)]; exact a5
theorem mCd_snoc {M : Mm} {s : St5} : ∀ (O : List St5) (c : Int), mCd M O c → (M 168 (5 * (c + O.length)) = s.1 ∧ M 168 (5 * (c + O.length) + 1) = s.2.1 ∧ M 168 (5 * (c + O.length) + 2) = s.2.2.1 ∧ M 168 (5 * (c + O.length) + 3) = s.2.2.2.1 ∧ M 168 (5 * (c + O.length) + 4) = s.2.2.2.2) → mCd M (O ++ [s]) c
  | [], c, _, h => by
    have e : c + (([] : List St5).length : Int) = c := by show c + ((0 : Nat) : Int) = c; omega
    rw [e] at h
    exact ⟨h, trivial⟩
  | x :: O, c, ⟨a1, a2⟩, h => by
    have e : ((x :: O).length : Int) = O.length + 1 := by show ((O.length + 1 : Nat) : Int) = _; omega
    refine ⟨a1, mCd_snoc O (c + 1) a2 ?_⟩
    rw [show c + 1 + (O.length : Int) = c + ((x :: O).length : Int) by omega]
    exact h
def mO (c0 : Int) (O : List St5) (M : Mm) : Prop := M 154 38 = c0 + O.length ∧ mCd (shM M) O c0
theorem mO_fr {c0 : Int} {O : List St5} {M M' : Mm} (h : mO c0 O M) (f1 : M' 154 38 = M 154 38) (f2 : M' 169 = M 169) : mO c0 O M' := ⟨by rw [f1]; exact h.1, mCd_fr2 O c0 (fun i _ _ => by show M' 169 i = M 169 i; rw [f2]) h.2⟩
/-- what reading a test changes in the reference -/
def mE (c0 : Int) (M M' : Mm) : Prop := (∀ c, c ≠ 154 → c ≠ 169 → c ≠ 176 → M' c = M c) ∧ (∀ i, i < 5 * c0 → M' 169 i = M 169 i) ∧ (∀ j, (j < 4 ∨ j = 8 ∨ j = 9 ∨ (13 < j ∧ j ≠ 38 ∧ j ≠ 40 ∧ j ≠ 41)) → M' 154 j = M 154 j)
theorem mE_refl {c0 : Int} {M : Mm} : mE c0 M M := ⟨fun _ _ _ _ => rfl, fun _ _ => rfl, fun _ _ => rfl⟩
theorem mE_trans {c0 : Int} {M M' M'' : Mm} (h : mE c0 M M') (h' : mE c0 M' M'') : mE c0 M M'' := ⟨fun c a b e => by rw [h'.1 c a b e, h.1 c a b e], fun i a => by rw [h'.2.1 i a, h.2.1 i a], fun j a => by rw [h'.2.2 j a, h.2.2 j a]⟩
theorem mE_G {c0 : Int} {M M' : Mm} (h : nG M M') : mE c0 M M' := ⟨fun c a _ _ => h.1 c a, fun i _ => by rw [h.1 169 (by decide)], fun j hj => h.2 j (by omega) (by omega) (by omega) (by omega) (by omega) (by omega)⟩
theorem mE_bad {c0 : Int} {M : Mm} {k q : Int} : mE c0 M (zUp (zUp M 154 6 k) 154 7 q) := ⟨fun c a _ _ => by rw [zUp_away a, zUp_away a], fun i _ => by rw [zUp_away (by decide), zUp_away (by decide)], fun j hj => by rw [zUp_there (by omega), zUp_there (by omega)]⟩
theorem mG_E {c0 : Int} {G M M' : Mm} (h : mG G M) (q : mE c0 M M') : mG G M' := mG_fr h (q.1 156 (by decide) (by decide) (by decide)) (q.1 157 (by decide) (by decide) (by decide)) (q.1 158 (by decide) (by decide) (by decide)) (q.1 162 (by decide) (by decide) (by decide)) (q.1 163 (by decide) (by decide) (by decide))
theorem mO_G {c0 : Int} {O : List St5} {M M' : Mm} (h : mO c0 O M) (f : nG M M') : mO c0 O M' := mO_fr h (f.2 38 (by decide) (by decide) (by decide) (by decide) (by decide) (by decide)) (f.1 169 (by decide))
theorem mSk_G {S : List Int} {M M' : Mm} (h : mSk S M) (f : nG M M') : mSk S M' := mSk_fr h (f.2 40 (by decide) (by decide) (by decide) (by decide) (by decide) (by decide)) (f.2 41 (by decide) (by decide) (by decide) (by decide) (by decide) (by decide)) (f.1 176 (by decide))
theorem m_emit {d : Nat} {M : Mm} {K : Kt} {c0 : Int} {O : List St5} {a1 a2 a3 a4 a5 : Int} (ho : mO c0 O M) (h0 : 0 ≤ c0) (hl : c0 + O.length < 400)
    (hK : ∀ M', mO c0 (O ++ [(a1, a2, a3, a4, a5)]) M' → (∀ c, c ≠ 154 → c ≠ 169 → M' c = M c) → (∀ j, j ≠ 38 → M' 154 j = M 154 j) → mE c0 M M' → K 0 M') : zSp (d + 1) 185 [.inr (.inr 154), .inl a1, .inl a2, .inl a3, .inl a4, .inl a5] M K := by
  have ol : ((O ++ [(a1, a2, a3, a4, a5)]).length : Int) = O.length + 1 := by rw [List.length_append]; show ((O.length + 1 : Nat) : Int) = _; omega
  obtain ⟨m, hm⟩ : ∃ m : Int, m = c0 + (O.length : Int) := ⟨_, rfl⟩
  have o1 : M 154 38 = m := by rw [ho.1, hm]
  rw [me_185, o1]
  refine zC_i (zs (by omega) (by omega)) (zC_i (zs (by omega) (by omega)) (zC_i (zs (by omega) (by omega)) (zC_i (zs (by omega) (by omega)) (zC_i (zs (by omega) (by omega)) ?_))))
  have y : ∀ i, (zUp (zUp (zUp (zUp (zUp (zUp M 169 (5 * m) a1) 169 (5 * m + 1) a2) 169 (5 * m + 2) a3) 169 (5 * m + 3) a4) 169 (5 * m + 4) a5) 154 38 (m + 1)) 169 i = if i = 5 * m + 4 then a5 else if i = 5 * m + 3 then a4 else if i = 5 * m + 2 then a3 else if i = 5 * m + 1 then a2 else if i = 5 * m then a1 else M 169 i := fun i => by
    rw [zUp_away (by decide), zUp_hit, zUp_hit, zUp_hit, zUp_hit, zUp_hit]
  have yc : ∀ c, c ≠ 154 → c ≠ 169 → (zUp (zUp (zUp (zUp (zUp (zUp M 169 (5 * m) a1) 169 (5 * m + 1) a2) 169 (5 * m + 2) a3) 169 (5 * m + 3) a4) 169 (5 * m + 4) a5) 154 38 (m + 1)) c = M c := fun c a b => by rw [zUp_away a, zUp_away b, zUp_away b, zUp_away b, zUp_away b, zUp_away b]
  have yj : ∀ j, (zUp (zUp (zUp (zUp (zUp (zUp M 169 (5 * m) a1) 169 (5 * m + 1) a2) 169 (5 * m + 2) a3) 169 (5 * m + 3) a4) 169 (5 * m + 4) a5) 154 38 (m + 1)) 154 j = if j = 38 then m + 1 else M 154 j := fun j => by rw [zUp_hit, zUp_away (by decide), zUp_away (by decide), zUp_away (by decide), zUp_away (by decide), zUp_away (by decide)]
  generalize (zUp (zUp (zUp (zUp (zUp (zUp M 169 (5 * m) a1) 169 (5 * m + 1) a2) 169 (5 * m + 2) a3) 169 (5 * m + 3) a4) 169 (5 * m + 4) a5) 154 38 (m + 1)) = M1 at y yc yj ⊢
  refine hK M1 ⟨by rw [yj, if_pos rfl, ol]; omega, mCd_snoc O c0 (mCd_fr2 O c0 (fun i i1 i2 => ?_) ho.2) ?_⟩ yc (fun j hj => by rw [yj, if_neg hj]) ⟨fun c a b _ => yc c a b, fun i hi => ?_, fun j hj => by rw [yj, if_neg (by omega)]⟩
  · show M1 169 i = M 169 i
    rw [y, if_neg (by omega), if_neg (by omega), if_neg (by omega), if_neg (by omega), if_neg (by omega)]
  · rw [← hm]
    refine ⟨?_, ?_, ?_, ?_, ?_⟩
    · show M1 169 (5 * m) = a1
      rw [y, if_neg (by omega), if_neg (by omega), if_neg (by omega), if_neg (by omega), if_pos rfl]
    · show M1 169 (5 * m + 1) = a2
      rw [y, if_neg (by omega), if_neg (by omega), if_neg (by omega), if_pos rfl]
    · show M1 169 (5 * m + 2) = a3
      rw [y, if_neg (by omega), if_neg (by omega), if_pos rfl]
    · show M1 169 (5 * m + 3) = a4
      rw [y, if_neg (by omega), if_pos rfl]
    · show M1 169 (5 * m + 4) = a5
      rw [y, if_pos rfl]
  · rw [y, if_neg (by omega), if_neg (by omega), if_neg (by omega), if_neg (by omega), if_neg (by omega)]
/-- the reading goes on behind this -/
def mQ (c0 : Int) (M M' : Mm) : Prop := mE c0 M M' ∧ M' 155 = M 155 ∧ (∀ j, j ≠ 38 → j ≠ 40 → j ≠ 41 → M' 154 j = M 154 j)
theorem mQ_refl {c0 : Int} {M : Mm} : mQ c0 M M := ⟨mE_refl, rfl, fun _ _ _ _ => rfl⟩
theorem mQ_trans {c0 : Int} {M M' M'' : Mm} (h : mQ c0 M M') (h' : mQ c0 M' M'') : mQ c0 M M'' := ⟨mE_trans h.1 h'.1, by rw [h'.2.1, h.2.1], fun j a b c => by rw [h'.2.2 j a b c, h.2.2 j a b c]⟩
theorem mTk_Q {T : Int → Int} {n p c0 : Int} {w : Bool} {M M' : Mm} (h : mTk T n p w M) (q : mQ c0 M M') : mTk T n p w M' := mTk_fr h q.2.1 (q.2.2 3 (by decide) (by decide) (by decide)) (q.2.2 4 (by decide) (by decide) (by decide)) (q.2.2 5 (by decide) (by decide) (by decide))
theorem m_drops_l {d : Nat} {K : Kt} {c0 lo hi : Int} (h0 : 0 ≤ c0) (hlo : 10 ≤ lo ∧ lo ≤ 12) (hhi : 10 ≤ hi ∧ hi ≤ 12) : ∀ (S : List Int) (O : List St5) (M : Mm), okA S → nsT S ≤ 6 → mSk S M → mO c0 O M → c0 + O.length + noT S ≤ 332 → (∀ M', mSk (pop1 lo hi S O).1 M' → mO c0 (pop1 lo hi S O).2 M' → mQ c0 M M' → K 0 M') → zWp (zSp (d + 1)) 189 K 0 [some (.inr (.inr 154)), some (.inl lo), some (.inl hi)] [] M
  | [], O, M, ha, hn, hs, ho, hl, hK => by
    rw [fe_189_0, hs.1]
    exact zC_i (by decide) ⟨fun _ => hK M hs ho mQ_refl, fun c => absurd (by decide) c⟩
  | s :: S, O, M, ha, hn, hs, ho, hl, hK => by
    have ll := okA_20 ha hn
    have nn := nsT_nn S
    have e : ((s :: S).length : Int) = S.length + 1 := by show ((S.length + 1 : Nat) : Int) = _; omega
    obtain ⟨a1, a2, a3, a4⟩ := ha
    have hs' := hs
    obtain ⟨s1, s2, s3, s4⟩ := hs
    have en : nsT (s :: S) = (if s = 10 ∨ s = 13 then 1 else 0) + nsT S := rfl
    have eo : noT (s :: S) = (if s = 13 then 0 else 1) + noT S := rfl
    obtain ⟨m, hm⟩ : ∃ m : Int, m = (S.length : Int) := ⟨_, rfl⟩
    have s1' : M 154 40 = m + 1 := by rw [s1]; omega
    have s3' : M 176 m = s := by rw [hm]; exact s3
    have sm : zSm m 400 = true := zs (by omega) (by omega)
    rw [fe_189_0, s1', show m + 1 - 1 = m by omega, s3', s2]
    unfold pop1 at hK
    refine zC_i (zr (by omega) (by omega)) ⟨fun c => absurd c (by omega), fun _ => zC_i sm (zC_i (zr (by omega) (by omega)) (zC_i (zr (by omega) (by omega)) ⟨fun c => ?_, fun c => zC_i sm (zC_i (zr (by omega) (by omega)) (zC_i (zr (by omega) (by omega)) ⟨fun c2 => ?_, fun c2 => zC_i sm ?_⟩))⟩))⟩
    · rw [if_neg (by omega)] at hK
      exact hK M hs' ho mQ_refl
    · rw [if_neg (by omega)] at hK
      exact hK M hs' ho mQ_refl
    · rw [if_pos (by omega)] at hK
      rw [if_neg (by omega)] at eo
      have go : ∀ y2 : Int, (y2 = 0 ∨ y2 = 1) → nsT (s :: S) - y2 = nsT S → zWp (zSp (d + 1)) 189 K 71 [some (.inr (.inr 154)), some (.inl lo), some (.inl hi)] [.inl y2, .inl (nsT (s :: S)), .inr (.inr 154)] (zUp M 154 40 m) := by
        intro y2 hy ey
        rw [fe_189_71]
        refine m_flag hy ?_
        rw [zUp_here, zUp_away (show (176 : Nat) ≠ 154 by decide), s3', ey]
        refine zC_i sm ?_
        have q1 : mQ c0 M (zUp (zUp M 154 40 m) 154 41 (nsT S)) := ⟨⟨fun c h1 _ _ => by rw [zUp_away h1, zUp_away h1], fun i _ => by rw [zUp_away (by decide), zUp_away (by decide)], fun j hj => by rw [zUp_there (by omega), zUp_there (by omega)]⟩, by rw [zUp_away (by decide), zUp_away (by decide)], fun j _ h2 h3 => by rw [zUp_there h3, zUp_there h2]⟩
        refine m_emit (mO_fr ho (by rw [zUp_there (by decide), zUp_there (by decide)]) (by rw [zUp_away (by decide), zUp_away (by decide)])) h0 (by omega) ?_
        intro M1 g1 g2 g3 g4
        have ol : ((O ++ [j5 s]).length : Int) = O.length + 1 := by rw [List.length_append]; show ((O.length + 1 : Nat) : Int) = _; omega
        have q2 : mQ c0 M M1 := mQ_trans q1 ⟨g4, g2 155 (by decide) (by decide), fun j h1 _ _ => g3 j h1⟩
        refine m_drops_l h0 hlo hhi S (O ++ [j5 s]) M1 a4 (by omega) ⟨by rw [g3 40 (by decide), zUp_there (by decide), zUp_here]; exact hm, by rw [g3 41 (by decide), zUp_here], mSs_fr S (fun j _ _ => by rw [g2 176 (by decide) (by decide), zUp_away (by decide), zUp_away (by decide)]) s4⟩ g1 (by omega) (fun M' y1 y2 y3 => hK M' y1 y2 (mQ_trans q2 y3))
      refine zC_i (zr (by omega) (by omega)) ⟨fun c3 => ?_, fun c3 => ?_⟩
      · rw [if_neg (by omega)] at en
        exact go 0 (.inl rfl) (by omega)
      · rw [if_pos (by omega)] at en
        exact go 1 (.inr rfl) (by omega)
theorem m_drops {d : Nat} {K : Kt} {c0 lo hi : Int} {S : List Int} {O : List St5} {M : Mm} (h0 : 0 ≤ c0) (hlo : 10 ≤ lo ∧ lo ≤ 12) (hhi : 10 ≤ hi ∧ hi ≤ 12) (ha : okA S) (hn : nsT S ≤ 6) (hs : mSk S M) (ho : mO c0 O M) (hl : c0 + O.length + noT S ≤ 332) (hK : ∀ M', mSk (pop1 lo hi S O).1 M' → mO c0 (pop1 lo hi S O).2 M' → mQ c0 M M' → K 0 M') : zSp (d + 2) 189 [.inr (.inr 154), .inl lo, .inl hi] M K := by
  rw [me_189]
  exact m_drops_l h0 hlo hhi S O M ha hn hs ho hl hK
theorem m_piles {d : Nat} {K : Kt} {c0 s : Int} {S : List Int} {M : Mm} (hl : (S.length : Int) ≤ 20) (hs : mSk S M) (hK : ∀ M', M' 154 40 = (S.length : Int) + 1 → M' 176 (S.length : Int) = s → mSs M' S → (∀ j, j ≠ 40 → M' 154 j = M 154 j) → (∀ c, c ≠ 154 → c ≠ 176 → M' c = M c) → mQ c0 M M' → K 0 M') : zSp (d + 1) 188 [.inr (.inr 154), .inl s] M K := by
  obtain ⟨m, hm⟩ : ∃ m : Int, m = (S.length : Int) := ⟨_, rfl⟩
  rw [← hm] at hK hl
  rw [me_188, show M 154 40 = m by rw [hs.1, hm]]
  refine zC_i (zs (by omega) (by omega)) ?_
  refine hK _ zUp_here (by rw [zUp_away (by decide), zUp_here]) (mSs_fr S (fun j j0 j1 => by rw [zUp_away (by decide), zUp_there (by omega)]) hs.2.2) (fun j hj => by rw [zUp_there hj, zUp_away (by decide)]) (fun c h1 h2 => by rw [zUp_away h1, zUp_away h2]) ⟨⟨fun c h1 _ h3 => by rw [zUp_away h1, zUp_away h3], fun i _ => by rw [zUp_away (by decide), zUp_away (by decide)], fun j hj => by rw [zUp_there (by omega), zUp_away (by decide)]⟩, by rw [zUp_away (by decide), zUp_away (by decide)], fun j _ h2 _ => by rw [zUp_there h2, zUp_away (by decide)]⟩
