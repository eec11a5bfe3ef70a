/-! LAYER 3: a test's text, read by the class -/
def cwT (s : Int) : Int := if s = 13 then 0 else s + 5
def xSs (M : Mm) : List Int → Prop
  | [] => True
  | s :: S => M 137 (S.length : Int) = cwT s ∧ xSs M S
theorem xSs_fr {M M' : Mm} : ∀ S : List Int, (∀ j, 0 ≤ j → j < (S.length : Int) → M' 137 j = M 137 j) → xSs M S → xSs M' S
  | [], _, _ => trivial
  | s :: S, h, ⟨a, b⟩ => by
    have e : ((s :: S).length : Int) = S.length + 1 := by show ((S.length + 1 : Nat) : Int) = _; omega
    exact ⟨by rw [h _ (by omega) (by omega)]; exact a, xSs_fr S (fun j j0 j1 => h j j0 (by omega)) b⟩
def xSk (S : List Int) (M : Mm) : Prop := M 136 4 = (S.length : Int) ∧ M 136 5 = nsT S ∧ xSs M S
theorem xSk_fr {S : List Int} {M M' : Mm} (h : xSk S M) (f1 : M' 136 = M 136) (f2 : M' 137 = M 137) : xSk S M' := ⟨by rw [f1]; exact h.1, by rw [f1]; exact h.2.1, xSs_fr S (fun j _ _ => by rw [f2]) h.2.2⟩
theorem xStp_fr {M M' : Mm} {b : Nat} {s : St5} {c : Int} (f : ∀ k : Nat, 3 ≤ k → k ≤ 6 → M' (b + k) c = M (b + k) c) (h : xStp M b s c) : xStp M' b s c := by
  unfold xStp at h ⊢
  rw [f 3 (by decide) (by decide), f 4 (by decide) (by decide), f 5 (by decide) (by decide), f 6 (by decide) (by decide)]
  exact h
theorem xCd_fr2 {M M' : Mm} {b : Nat} : ∀ (O : List St5) (c : Int), (∀ (k : Nat) (i : Int), 3 ≤ k → k ≤ 6 → c ≤ i → i < c + O.length → M' (b + k) i = M (b + k) i) → xCd M b O c → xCd M' b O c
  | [], _, _, _ => trivial
  | s :: O, c, f, ⟨a1, a2⟩ => by
    have e : ((s :: O).length : Int) = O.length + 1 := by show ((O.length + 1 : Nat) : Int) = _; omega
    exact ⟨xStp_fr (fun k k1 k2 => f k c k1 k2 (by omega) (by omega)) a1, xCd_fr2 O (c + 1) (fun k i k1 k2 i1 i2 => f k i k1 k2 (by omega) (by omega)) a2⟩
theorem xCd_snoc {M : Mm} {b : Nat} {s : St5} : ∀ (O : List St5) (c : Int), xCd M b O c → xStp M b s (c + O.length) → xCd M b (O ++ [s]) c
  | [], c, _, h => by
    have e : c + (([] : List St5).length : Int) = c := by show c + ((0 : Nat) : Int) = c; omega
    rw [e] at h
    exact ⟨h, trivial⟩
  | x :: O, c, ⟨a1, a2⟩, h => by
    have e : ((x :: O).length : Int) = O.length + 1 := by show ((O.length + 1 : Nat) : Int) = _; omega
    refine ⟨a1, xCd_snoc O (c + 1) a2 ?_⟩
    rw [show c + 1 + (O.length : Int) = c + ((x :: O).length : Int) by omega]
    exact h
def xO (c0 : Int) (O : List St5) (M : Mm) : Prop := M 31 3 = c0 + O.length ∧ xCd M 31 O c0
theorem xO_fr {c0 : Int} {O : List St5} {M M' : Mm} (h : xO c0 O M) (f1 : M' 31 3 = M 31 3) (f2 : ∀ c, 34 ≤ c → c ≤ 37 → M' c = M c) : xO c0 O M' := ⟨by rw [f1]; exact h.1, xCd_fr2 O c0 (fun k i k1 k2 _ _ => by rw [f2 (31 + k) (by omega) (by omega)]) h.2⟩
/-- what reading a test changes in the class -/
def xE (c0 : Int) (M M' : Mm) : Prop := (∀ c, c ≠ 2 → c ≠ 31 → (c < 34 ∨ 37 < c) → c ≠ 136 → c ≠ 137 → M' c = M c) ∧ (∀ j, j ≠ 3 → M' 31 j = M 31 j) ∧ (∀ j, j ≠ 2 → j ≠ 3 → j ≠ 4 → j ≠ 5 → M' 2 j = M 2 j) ∧ (∀ c i, 34 ≤ c → c ≤ 37 → i < c0 → M' c i = M c i)
theorem xE_refl {c0 : Int} {M : Mm} : xE c0 M M := ⟨fun _ _ _ _ _ _ => rfl, fun _ _ => rfl, fun _ _ _ _ _ => rfl, fun _ _ _ _ _ => rfl⟩
theorem xE_trans {c0 : Int} {M M' M'' : Mm} (h : xE c0 M M') (h' : xE c0 M' M'') : xE c0 M M'' := ⟨fun c a b e f g => by rw [h'.1 c a b e f g, h.1 c a b e f g], fun j a => by rw [h'.2.1 j a, h.2.1 j a], fun j a b c d => by rw [h'.2.2.1 j a b c d, h.2.2.1 j a b c d], fun c i a b e => by rw [h'.2.2.2 c i a b e, h.2.2.2 c i a b e]⟩
theorem xE_F {c0 : Int} {M M' : Mm} (h : xF M M') : xE c0 M M' := ⟨fun c a _ _ _ _ => h.1 c a, fun j _ => by rw [h.1 31 (by decide)], h.2, fun c i a b _ => by rw [h.1 c (by omega)]⟩
theorem xE_sk {c0 : Int} {M M' : Mm} (h : ∀ c, c ≠ 136 → c ≠ 137 → M' c = M c) : xE c0 M M' := ⟨fun c _ _ _ a b => h c a b, fun j _ => by rw [h 31 (by decide) (by decide)], fun j _ _ _ _ => by rw [h 2 (by decide) (by decide)], fun c i a b _ => by rw [h c (by omega) (by omega)]⟩
theorem xG_E {c0 : Int} {G M M' : Mm} (h : xG G M) (q : xE c0 M M') : xG G M' := xG_fr h fun c c1 c2 => q.1 c (by omega) (by omega) (by omega) (by omega) (by omega)
theorem xO_sk {c0 : Int} {O : List St5} {M M' : Mm} (h : xO c0 O M) (f : ∀ c, c ≠ 136 → c ≠ 137 → M' c = M c) : xO c0 O M' := xO_fr h (by rw [f 31 (by decide) (by decide)]) (fun c a b => f c (by omega) (by omega))
theorem xO_F {c0 : Int} {O : List St5} {M M' : Mm} (h : xO c0 O M) (f : xF M M') : xO c0 O M' := xO_fr h (by rw [f.1 31 (by decide)]) (fun c a b => f.1 c (by omega))
theorem xSk_F {S : List Int} {M M' : Mm} (h : xSk S M) (f : xF M M') : xSk S M' := xSk_fr h (f.1 136 (by decide)) (f.1 137 (by decide))
theorem x_addF {d : Nat} {M : Mm} {K : Kt} {k a1 a2 a3 a4 : Int} (hk : M 31 3 = k) (h0 : 0 ≤ k ∧ k < 333)
    (hK : ∀ M', M' 31 3 = k + 1 → (∀ j, j ≠ 3 → M' 31 j = M 31 j) → (∀ i, M' 34 i = if i = k then a1 else M 34 i) → (∀ i, M' 35 i = if i = k then a2 else M 35 i) → (∀ i, M' 36 i = if i = k then a3 else M 36 i) → (∀ i, M' 37 i = if i = k then a4 else M 37 i) → (∀ c, c ≠ 31 → (c < 34 ∨ 37 < c) → M' c = M c) → K 0 M') : zSp (d + 1) 4 [.inr (.inr 31), .inl a1, .inl a2, .inl a3, .inl a4] M K := by
  rw [me_4]
  simp only [zUp_away (show (31 : Nat) ≠ 31 + 3 by decide), zUp_away (show (31 : Nat) ≠ 31 + 4 by decide), zUp_away (show (31 : Nat) ≠ 31 + 5 by decide), zUp_away (show (31 : Nat) ≠ 31 + 6 by decide), hk]
  have sm : zSm k 333 = true := zs h0.1 h0.2
  refine zC_i rfl (zC_i (zr (by omega) (by omega)) ⟨fun c => absurd c (by omega), fun _ => ?_⟩)
  refine zC_i rfl (zC_i rfl (zC_i rfl (zC_i sm (zC_i rfl (zC_i rfl (zC_i rfl (zC_i sm (zC_i rfl (zC_i rfl (zC_i rfl (zC_i sm (zC_i rfl (zC_i rfl (zC_i rfl (zC_i sm (zC_i rfl (zC_i rfl ?_)))))))))))))))))
  refine hK _ zUp_here (fun j hj => ?_) (fun i => ?_) (fun i => ?_) (fun i => ?_) (fun i => ?_) (fun c h1 h2 => ?_)
  · rw [zUp_there hj, zUp_away (by decide), zUp_away (by decide), zUp_away (by decide), zUp_away (by decide)]
  · rw [zUp_away (by decide), zUp_away (by decide), zUp_away (by decide), zUp_away (by decide)]; exact zUp_hit
  · rw [zUp_away (by decide), zUp_away (by decide), zUp_away (by decide)]
    show zUp (zUp M (31 + 3) k a1) (31 + 4) k a2 (31 + 4) i = _
    rw [zUp_hit, zUp_away (by decide)]
  · rw [zUp_away (by decide), zUp_away (by decide)]
    show zUp (zUp (zUp M (31 + 3) k a1) (31 + 4) k a2) (31 + 5) k a3 (31 + 5) i = _
    rw [zUp_hit, zUp_away (by decide), zUp_away (by decide)]
  · rw [zUp_away (by decide)]
    show zUp (zUp (zUp (zUp M (31 + 3) k a1) (31 + 4) k a2) (31 + 5) k a3) (31 + 6) k a4 (31 + 6) i = _
    rw [zUp_hit, zUp_away (by decide), zUp_away (by decide), zUp_away (by decide)]
  · rw [zUp_away h1, zUp_away (by omega), zUp_away (by omega), zUp_away (by omega), zUp_away (by omega)]
/-- a step is written -/
theorem x_wr {d : Nat} {M : Mm} {K : Kt} {c0 a1 a2 a3 a4 : Int} {O : List St5} {s : St5} (ho : xO c0 O M) (h0 : 0 ≤ c0) (hl : c0 + O.length < 333) (hs : ∀ M' : Mm, M' 34 (c0 + O.length) = a1 → M' 35 (c0 + O.length) = a2 → M' 36 (c0 + O.length) = a3 → M' 37 (c0 + O.length) = a4 → xStp M' 31 s (c0 + O.length))
    (hK : ∀ M', xO c0 (O ++ [s]) M' → xE c0 M M' → M' 136 = M 136 → M' 137 = M 137 → M' 2 = M 2 → M' 3 = M 3 → K 0 M') : zSp (d + 1) 4 [.inr (.inr 31), .inl a1, .inl a2, .inl a3, .inl a4] M K := by
  refine x_addF ho.1 (by omega) ?_
  intro M' f1 f2 f3 f4 f5 f6 f7
  have ol : ((O ++ [s]).length : Int) = O.length + 1 := by rw [List.length_append]; show ((O.length + 1 : Nat) : Int) = _; omega
  refine hK M' ⟨by rw [f1, ol]; omega, xCd_snoc O c0 (xCd_fr2 O c0 (fun k i k1 k2 i1 i2 => ?_) ho.2) (hs M' (by rw [f3, if_pos rfl]) (by rw [f4, if_pos rfl]) (by rw [f5, if_pos rfl]) (by rw [f6, if_pos rfl]))⟩ ⟨fun c h1 h2 h3 h4 h5 => f7 c h2 h3, f2, fun j _ _ _ _ => by rw [f7 2 (by decide) (by decide)], fun c i h1 h2 h3 => ?_⟩ (f7 136 (by decide) (by decide)) (f7 137 (by decide) (by decide)) (f7 2 (by decide) (by decide)) (f7 3 (by decide) (by decide))
  · rcases (show k = 3 ∨ k = 4 ∨ k = 5 ∨ k = 6 by omega) with e | e | e | e <;> subst e
    · show M' 34 i = M 34 i; rw [f3, if_neg (by omega)]
    · show M' 35 i = M 35 i; rw [f4, if_neg (by omega)]
    · show M' 36 i = M 36 i; rw [f5, if_neg (by omega)]
    · show M' 37 i = M 37 i; rw [f6, if_neg (by omega)]
  · rcases (show c = 34 ∨ c = 35 ∨ c = 36 ∨ c = 37 by omega) with e | e | e | e <;> subst e
    · rw [f3, if_neg (by omega)]
    · rw [f4, if_neg (by omega)]
    · rw [f5, if_neg (by omega)]
    · rw [f6, if_neg (by omega)]
theorem x_join5 {d : Nat} {M : Mm} {K : Kt} {c0 x : Int} {O : List St5} (hx : 10 ≤ x ∧ x ≤ 12) (ho : xO c0 O M) (h0 : 0 ≤ c0) (hl : c0 + O.length < 333)
    (hK : ∀ M', xO c0 (O ++ [j5 x]) M' → xE c0 M M' → M' 136 = M 136 → M' 137 = M 137 → M' 2 = M 2 → M' 3 = M 3 → K 0 M') : zSp (d + 2) 5 [.inr (.inr 31), .inl (x + 5)] M K := by
  rw [me_5]
  refine zC_i rfl (x_wr ho h0 hl (fun M' f1 f2 f3 f4 => ?_) hK)
  unfold xStp
  refine ⟨fun e => ?_, fun e => ?_, fun e => ?_, fun e => ?_⟩
  · have e : x = 10 := e
    show M' 34 _ = 15; rw [f1]; omega
  · have e : x = 11 := e
    show M' 34 _ = 16; rw [f1]; omega
  · have e : x = 12 := e
    show M' 34 _ = 17; rw [f1]; omega
  · have e : x ≤ 4 := e
    omega
theorem x_nots_l {d : Nat} {K : Kt} {c0 : Int} (h0 : 0 ≤ c0) : ∀ (S : List Int) (O : List St5) (M : Mm), okA S → nsT S ≤ 6 → xSk S M → xO c0 O M → c0 + O.length + noT S ≤ 332 → (∀ M', xSk (pop1 10 10 S O).1 M' → xO c0 (pop1 10 10 S O).2 M' → xE c0 M M' → M' 2 = M 2 → M' 3 = M 3 → K 0 M') → zWp (zSp (d + 2)) 15 K 0 [some (.inr (.inr 136))] [] M
  | [], O, M, ha, hn, hs, ho, hl, hK => by
    rw [fe_15_0, hs.1]
    exact zC_i (by decide) ⟨fun _ => hK M hs ho xE_refl rfl rfl, fun c => absurd (by decide) c⟩
  | s :: S, O, M, ha, hn, hs, ho, hl, hK => by
    have ll := okA_20 ha hn
    have nn := nsT_nn S
    have e : ((s :: S).length : Int) = S.length + 1 := by show ((S.length + 1 : Nat) : Int) = _; omega
    obtain ⟨a1, a2, a3, a4⟩ := ha
    obtain ⟨s1, s2, s3, s4⟩ := hs
    have en : nsT (s :: S) = (if s = 10 ∨ s = 13 then 1 else 0) + nsT S := rfl
    have eo : noT (s :: S) = (if s = 13 then 0 else 1) + noT S := rfl
    obtain ⟨m, hm⟩ : ∃ m : Int, m = (S.length : Int) := ⟨_, rfl⟩
    have s1' : M 136 4 = m + 1 := by rw [s1]; omega
    have s3' : M 137 m = cwT s := by rw [hm]; exact s3
    rw [fe_15_0, s1', s2, show m + 1 - 1 = m by omega, s3']
    unfold pop1 at hK
    refine zC_i (zr (by omega) (by omega)) ⟨fun c => absurd c (by omega), fun _ => zC_i (zs (by omega) (by omega)) ?_⟩
    unfold cwT
    by_cases c : s = 10
    · rw [if_pos (by omega)] at hK en
      rw [if_neg (by omega)] at eo
      rw [if_neg (by omega), c]
      refine zC_i (by decide) ⟨fun q => absurd rfl q, fun _ => ?_⟩
      have ff : ∀ c, c ≠ 136 → (zUp (zUp M 136 4 m) 136 5 (nsT (10 :: S) - 1)) c = M c := fun c hc => by rw [zUp_away hc, zUp_away hc]
      rw [c] at hK en hn
      refine x_join5 (x := 10) (by decide) (xO_sk ho (fun c h1 _ => ff c h1)) h0 (by omega) ?_
      intro M1 g1 g2 g3 g4 g5 g6
      have ol : ((O ++ [j5 10]).length : Int) = O.length + 1 := by rw [List.length_append]; show ((O.length + 1 : Nat) : Int) = _; omega
      refine x_nots_l h0 S (O ++ [j5 10]) M1 a4 (by omega) ⟨by rw [g3, zUp_there (by decide), zUp_here]; exact hm, by rw [g3, zUp_here]; omega, xSs_fr S (fun j _ _ => by rw [g4, ff 137 (by decide)]) s4⟩ g1 (by omega) (fun M' y1 y2 y3 y4 y5 => hK M' y1 y2 (xE_trans (xE_sk (fun c h1 _ => ff c h1)) (xE_trans g2 y3)) (by rw [y4, g5, ff 2 (by decide)]) (by rw [y5, g6, ff 3 (by decide)]))
    · rw [if_neg (by omega)] at hK
      refine zC_i ?_ ⟨fun _ => hK M ⟨s1, s2, s3, s4⟩ ho xE_refl rfl rfl, fun q => ?_⟩
      · split
        · decide
        · exact zr (by omega) (by omega)
      · exfalso
        split at q <;> omega
theorem x_nots {d : Nat} {K : Kt} {c0 : Int} {S : List Int} {O : List St5} {M : Mm} (h0 : 0 ≤ c0) (ha : okA S) (hn : nsT S ≤ 6) (hs : xSk S M) (ho : xO c0 O M) (hl : c0 + O.length + noT S ≤ 332) (hK : ∀ M', xSk (pop1 10 10 S O).1 M' → xO c0 (pop1 10 10 S O).2 M' → xE c0 M M' → M' 2 = M 2 → M' 3 = M 3 → K 0 M') : zSp (d + 3) 15 [.inr (.inr 136)] M K := by
  rw [me_15]
  exact x_nots_l h0 S O M ha hn hs ho hl hK
theorem x_joins_l {d : Nat} {K : Kt} {c0 hi : Int} (h0 : 0 ≤ c0) (hh : hi = 11 ∨ hi = 12) : ∀ (S : List Int) (O : List St5) (M : Mm), okA S → nsT S ≤ 6 → xSk S M → xO c0 O M → c0 + O.length + noT S ≤ 332 → (∀ M', xSk (pop1 11 hi S O).1 M' → xO c0 (pop1 11 hi S O).2 M' → xE c0 M M' → M' 2 = M 2 → M' 3 = M 3 → K 0 M') → zWp (zSp (d + 2)) 16 K 0 [some (.inr (.inr 136)), some (.inl (hi + 5))] [] M
  | [], O, M, ha, hn, hs, ho, hl, hK => by
    rw [fe_16_0, hs.1]
    exact zC_i (by decide) ⟨fun _ => hK M hs ho xE_refl rfl rfl, fun c => absurd (by decide) c⟩
  | s :: S, O, M, ha, hn, hs, ho, hl, hK => by
    have ll := okA_20 ha hn
    have nn := nsT_nn S
    have e : ((s :: S).length : Int) = S.length + 1 := by show ((S.length + 1 : Nat) : Int) = _; omega
    obtain ⟨a1, a2, a3, a4⟩ := ha
    obtain ⟨s1, s2, s3, s4⟩ := hs
    have en : nsT (s :: S) = (if s = 10 ∨ s = 13 then 1 else 0) + nsT S := rfl
    have eo : noT (s :: S) = (if s = 13 then 0 else 1) + noT S := rfl
    obtain ⟨m, hm⟩ : ∃ m : Int, m = (S.length : Int) := ⟨_, rfl⟩
    have s1' : M 136 4 = m + 1 := by rw [s1]; omega
    have s3' : M 137 m = cwT s := by rw [hm]; exact s3
    have sm : zSm m 21 = true := zs (by omega) (by omega)
    rw [fe_16_0, s1', show m + 1 - 1 = m by omega, s3']
    unfold pop1 at hK
    refine zC_i (zr (by omega) (by omega)) ⟨fun c => absurd c (by omega), fun _ => zC_i sm ?_⟩
    unfold cwT
    by_cases c13 : s = 13
    · rw [if_pos c13]
      rw [if_neg (by omega)] at hK
      exact zC_i (by decide) ⟨fun _ => hK M ⟨s1, s2, by unfold cwT; exact s3, s4⟩ ho xE_refl rfl rfl, fun q => absurd (by decide) q⟩
    · rw [if_neg c13]
      rw [if_neg c13] at eo
      refine zC_i (zr (by omega) (by omega)) ⟨fun c => ?_, fun c => zC_i sm (zC_i (zr (by omega) (by omega)) (zC_i (zr (by omega) (by omega)) ⟨fun c2 => ?_, fun c2 => zC_i sm ?_⟩))⟩
      · rw [if_neg (by omega)] at hK
        exact hK M ⟨s1, s2, s3, s4⟩ ho xE_refl rfl rfl
      · rw [if_neg (by omega)] at hK
        exact hK M ⟨s1, s2, s3, s4⟩ ho xE_refl rfl rfl
      · rw [if_pos (by omega)] at hK
        rw [if_neg (by omega)] at en
        have ff : ∀ c, c ≠ 136 → (zUp M 136 4 m) c = M c := fun c hc => zUp_away hc
        refine x_join5 (x := s) (by omega) (xO_sk ho (fun c h1 _ => ff c h1)) h0 (by omega) ?_
        intro M1 g1 g2 g3 g4 g5 g6
        have ol : ((O ++ [j5 s]).length : Int) = O.length + 1 := by rw [List.length_append]; show ((O.length + 1 : Nat) : Int) = _; omega
        refine x_joins_l h0 hh S (O ++ [j5 s]) M1 a4 (by omega) ⟨by rw [g3, zUp_here]; exact hm, by rw [g3, zUp_there (by decide), s2]; omega, xSs_fr S (fun j _ _ => by rw [g4, ff 137 (by decide)]) s4⟩ g1 (by omega) (fun M' y1 y2 y3 y4 y5 => hK M' y1 y2 (xE_trans (xE_sk (fun c h1 _ => ff c h1)) (xE_trans g2 y3)) (by rw [y4, g5, ff 2 (by decide)]) (by rw [y5, g6, ff 3 (by decide)]))
theorem x_joins {d : Nat} {K : Kt} {c0 hi : Int} {S : List Int} {O : List St5} {M : Mm} (h0 : 0 ≤ c0) (hh : hi = 11 ∨ hi = 12) (ha : okA S) (hn : nsT S ≤ 6) (hs : xSk S M) (ho : xO c0 O M) (hl : c0 + O.length + noT S ≤ 332) (hK : ∀ M', xSk (pop1 11 hi S O).1 M' → xO c0 (pop1 11 hi S O).2 M' → xE c0 M M' → M' 2 = M 2 → M' 3 = M 3 → K 0 M') : zSp (d + 3) 16 [.inr (.inr 136), .inl (hi + 5)] M K := by
  rw [me_16]
  exact x_joins_l h0 hh S O M ha hn hs ho hl hK
theorem x_hold {d : Nat} {M : Mm} {K : Kt} {a : Int} {S : List Int} (h : M 136 4 = (S.length : Int)) (hl : (S.length : Int) ≤ 20) (hs : xSs M S) (hK : ∀ M', M' 136 4 = (S.length : Int) + 1 → M' 136 5 = M 136 5 → M' 137 (S.length : Int) = a → xSs M' S → (∀ c, c ≠ 136 → c ≠ 137 → M' c = M c) → K 0 M') : zSp (d + 1) 12 [.inr (.inr 136), .inl a] M K := by
  rw [me_12, h]
  refine zC_i (zr (by omega) (by omega)) ⟨fun c => absurd c (by omega), fun _ => zC_i (zs (by omega) (by omega)) ?_⟩
  exact hK _ zUp_here (by rw [zUp_there (by decide), zUp_away (by decide)]) (by rw [zUp_away (by decide), zUp_here]) (xSs_fr S (fun j j0 j1 => by rw [zUp_away (by decide), zUp_there (by omega)]) hs) (fun c h1 h2 => by rw [zUp_away h1, zUp_away h2])
