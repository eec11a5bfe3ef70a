/-! LAYER 3: a sort is read -/
abbrev isNm (T : Int → Int) (n p : Int) (w : Bool) : Prop := tKi T n p w = 1 ∧ ¬ own (tVa T n p)
/-- the grammar that is read: cells 14 to 23 of the class -/
def xR (G M : Mm) : Prop := ∀ c, 4 ≤ c → c ≤ 13 → M (c + 10) = G c
theorem xR_fr {G M M' : Mm} (h : xR G M) (f : ∀ c, 14 ≤ c → c ≤ 23 → M' c = M c) : xR G M' := fun c c1 c2 => by rw [f (c + 10) (by omega) (by omega), h c c1 c2]
theorem xR_up {G M : Mm} {c : Nat} {i v : Int} (h : xR G M) : xR (zUp G c i v) (zUp M (c + 10) i v) := by
  intro a a1 a2
  funext j
  rw [zUp_app, zUp_app]
  by_cases e : a = c
  · subst e
    rw [if_pos rfl, if_pos rfl, h a a1 a2]
  · rw [if_neg e, if_neg (by omega), h a a1 a2]
def gSf (G : Mm) (v : Int) : Int := fd (G 11) v (G 4 1).toNat 0
/-- the sort; -1: no name, -4: too many -/
def gSr (T : Int → Int) (n p : Int) (w : Bool) (G : Mm) : Int := if isNm T n p w then (if gSf G (tVa T n p) = -1 then (if G 4 1 = 6 then -4 else G 4 1) else gSf G (tVa T n p)) else -1
def gSg (T : Int → Int) (n p : Int) (G : Mm) : Mm := if gSf G (tVa T n p) = -1 then zUp (zUp G 11 (G 4 1) (tVa T n p)) 4 1 (G 4 1 + 1) else G
theorem gSf_s {G : Mm} {v : Int} (hg : gLn G) : gSf G v = -1 ∨ (0 ≤ gSf G v ∧ gSf G v < G 4 1) := by
  have c0 := hg.1
  rcases fd_s (f := G 11) (v := v) (G 4 1).toNat 0 (by omega) with h | h
  · exact .inl h.1
  · refine .inr ⟨h.1, ?_⟩
    have := h.2.1
    unfold gSf
    omega
/-- what the class changes when it reads a grammar -/
def xQ (M M' : Mm) : Prop := (∀ c, c ≠ 2 → (c < 14 ∨ 23 < c) → M' c = M c) ∧ (∀ j, j ≠ 2 → j ≠ 3 → j ≠ 4 → j ≠ 5 → M' 2 j = M 2 j)
theorem xQ_refl {M : Mm} : xQ M M := ⟨fun _ _ _ => rfl, fun _ _ _ _ _ => rfl⟩
theorem xQ_trans {M M' M'' : Mm} (h : xQ M M') (h' : xQ M' M'') : xQ M M'' := ⟨fun c hc c2 => by rw [h'.1 c hc c2, h.1 c hc c2], fun j a b c d => by rw [h'.2 j a b c d, h.2 j a b c d]⟩
theorem xQ_of {M M' : Mm} (h : xF M M') : xQ M M' := ⟨fun c hc _ => h.1 c hc, h.2⟩
theorem x_readSort {d : Nat} {T : Int → Int} {n p : Int} {w : Bool} {M G : Mm} {K : Kt} (hT : tpOk T n) (hg : gLn G) (hx : xR G M) (h : xTk T n p w M)
    (hK0 : ∀ k, (k = 1 ∨ k = 4) → gSr T n p w G = -k → K (-1) (zUp (zUp M 2 6 k) 2 7 (tQ T n p)))
    (hK1 : ∀ M', isNm T n p w → 0 ≤ gSr T n p w G → xTk T n (tEn T n p) true M' → xR (gSg T n p G) M' → xQ M M' → K (gSr T n p w G) M') : zSp (d + 4) 36 [.inr (.inr 2), .inr (.inr 14)] M K := by
  have c0 := hg.1
  have e14 : M 14 = G 4 := hx 4 (by decide) (by decide)
  have e21 : M 21 = G 11 := hx 11 (by decide) (by decide)
  rw [me_36]
  refine x_isName h ?_
  unfold gSr gSg at *
  by_cases c : isNm T n p w
  · rw [fl_t c]
    rw [if_pos c] at hK0 hK1
    have vb := tVa_1 h.2.2.2.2.2.2 c.1
    have v5 : M 2 5 = tVa T n p := h.2.2.2.2.1 (by rw [c.1]; decide) (by rw [c.1]; decide)
    have go : ∀ (M1 G1 : Mm) (s : Int), xTk T n p w M1 → xR G1 M1 → xQ M M1 → (∀ M', xTk T n (tEn T n p) true M' → xR G1 M' → xQ M M' → K s M') → zWp (zSp (d + 3)) 36 K 59 [some (.inr (.inr 2)), some (.inr (.inr 14)), some (.inl s)] [] M1 := by
      intro M1 G1 s h1 x1 q1 hk
      rw [fe_36_59]
      refine x_adv (d := d) hT h1 ?_
      intro M2 f1 f2 f3
      have e : decide (tKi T n p w = 1 ∨ tKi T n p w = 2) = true := decide_eq_true_iff.mpr (.inl c.1)
      rw [e] at f1
      exact hk M2 f1 (xR_fr x1 (fun c c1 c2 => f3 c (by omega))) (xQ_trans q1 (xQ_of ⟨f3, f2⟩))
    refine zC_i (by decide) ⟨fun _ => ?_, fun q => absurd (by decide) q⟩
    rw [v5, me_24]
    have sf := gSf_s (v := tVa T n p) hg
    refine x_fsort_l (L := G 4 1) (zr (by omega) (by omega)) (by rw [e14]) (by omega) (fun i i0 i1 => ?_) (G 4 1).toNat 0 (by omega) (by omega) ?_
    · rw [e21]
      have := hg.2.2 i i0 i1
      exact zr (by omega) (by omega)
    rw [e21, show fd (G 11) (tVa T n p) (G 4 1).toNat 0 = gSf G (tVa T n p) from rfl]
    refine zC_i (zr (by omega) (by omega)) ⟨fun q => ?_, fun q => ?_⟩
    · rw [if_neg q] at hK0 hK1
      rw [if_neg q] at hK1
      exact go M G _ h hx xQ_refl (fun M' a b e => hK1 M' c (by omega) a b e)
    · have q := Decidable.not_not.mp q
      rw [if_pos q] at hK0 hK1
      rw [if_pos q] at hK1
      rw [show M 14 1 = G 4 1 by rw [e14], v5]
      refine zC_i (zr (by omega) (by omega)) ⟨fun q6 => ?_, fun q6 => ?_⟩
      · rw [if_neg q6] at hK0 hK1
        rw [me_25, show M 14 1 = G 4 1 by rw [e14]]
        refine zC_i rfl (zC_i (zr (by omega) (by omega)) ⟨fun q7 => absurd q7 (by omega), fun _ => zC_i rfl (zC_i rfl (zC_i rfl (zC_i (zs (by omega) (show G 4 1 < 6 by omega)) (zC_i rfl (zC_i rfl ?_)))))⟩)
        rw [zUp_away (show (14 : Nat) ≠ 14 + 7 by decide), show M 14 1 = G 4 1 by rw [e14]]
        have x2 := xR_up (c := 4) (i := 1) (v := G 4 1 + 1) (xR_up (c := 11) (i := G 4 1) (v := tVa T n p) hx)
        refine go _ _ _ (xTk_fr h (fun j _ _ => by rw [zUp_away (by decide), zUp_away (by decide)]) (by rw [zUp_away (by decide), zUp_away (by decide)])) x2 ⟨fun c c1 c2 => by rw [zUp_away (by omega), zUp_away (by omega)], fun j _ _ _ _ => by rw [zUp_away (by decide), zUp_away (by decide)]⟩ (fun M' a b e => hK1 M' c (by omega) a b e)
      · have q6 := Decidable.not_not.mp q6
        rw [if_pos q6] at hK0
        exact x_fail h (hK0 4 (.inr rfl) rfl)
  · rw [fl_f c]
    rw [if_neg c] at hK0
    refine zC_i (by decide) ⟨fun q => absurd rfl q, fun _ => x_fail h (hK0 1 (.inl rfl) rfl)⟩
