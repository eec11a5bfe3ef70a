/-! LAYER 3: names, numbers, signs of the class -/
/-- what reading changes in the class -/
def xF (M M' : Mm) : Prop := (∀ c, c ≠ 2 → M' c = M c) ∧ (∀ j, j ≠ 2 → j ≠ 3 → j ≠ 4 → j ≠ 5 → M' 2 j = M 2 j)
theorem xF_refl {M : Mm} : xF M M := ⟨fun _ _ => rfl, fun _ _ _ _ _ => rfl⟩
theorem xF_trans {M M' M'' : Mm} (h : xF M M') (h' : xF M' M'') : xF M M'' := ⟨fun c hc => by rw [h'.1 c hc, h.1 c hc], fun j a b c d => by rw [h'.2 j a b c d, h.2 j a b c d]⟩
theorem xTk_fr {T : Int → Int} {n p : Int} {w : Bool} {M M' : Mm} (h : xTk T n p w M) (f2 : ∀ j, 1 ≤ j → j ≤ 5 → M' 2 j = M 2 j) (f3 : M' 3 = M 3) : xTk T n p w M' := by
  obtain ⟨h1, h2, h3, h4, h5, h6⟩ := h
  exact ⟨⟨by rw [f2 1 (by decide) (by decide)]; exact h1.1, by rw [f3]; exact h1.2⟩, by rw [f2 2 (by decide) (by decide)]; exact h2, by rw [f2 3 (by decide) (by decide)]; exact h3, by rw [f2 4 (by decide) (by decide)]; exact h4, fun a b => by rw [f2 5 (by decide) (by decide)]; exact h5 a b, h6⟩
theorem x_own_l {d : Nat} {M : Mm} {K : Kt} {v : Int} (h5 : M 2 5 = v) (hv : zR32 v = true) (hK : K (fl (¬ own v)) M) : ∀ (m k : Nat) (x1 : Int), x1 = k → k + m = 13 → (∀ i : Nat, i < k → zOwn i ≠ v) → zWp (zSp d) 76 K 12 [some (.inr (.inr 2)), some (.inl x1)] [] M
  | 0, k, x1, hx, hm, hl => by
    rw [fe_76_12]
    refine zC_i (zr (by omega) (by omega)) ⟨fun _ => ?_, fun c => absurd (by omega) c⟩
    have no : ¬ own v := by
      intro hm2
      obtain ⟨i, hi, e⟩ := List.mem_iff_getElem.mp hm2
      have h13 : zOwnL.length = 13 := rfl
      refine hl i (by omega) ?_
      unfold zOwn
      rw [show ((i : Int)).toNat = i by omega, List.getD_eq_getElem?_getD, List.getElem?_eq_getElem hi, e]
      rfl
    rw [fl_t no] at hK
    exact hK
  | m + 1, k, x1, hx, hm, hl => by
    have rr : zR32 (zOwn x1) = true := by
      rw [hx]
      have cs : k = 0 ∨ k = 1 ∨ k = 2 ∨ k = 3 ∨ k = 4 ∨ k = 5 ∨ k = 6 ∨ k = 7 ∨ k = 8 ∨ k = 9 ∨ k = 10 ∨ k = 11 ∨ k = 12 := by omega
      rcases cs with e | e | e | e | e | e | e | e | e | e | e | e | e <;> rw [e] <;> decide
    rw [fe_76_12, h5]
    refine zC_i (zr (by omega) (by omega)) ⟨fun c => absurd c (by omega), fun _ => zC_i (zs (by omega) (by omega)) (zC_i rr (zC_i hv ⟨fun c => ?_, fun c => ?_⟩))⟩
    · refine x_own_l h5 hv hK m (k + 1) (x1 + 1) (by omega) (by omega) (fun i hi => ?_)
      by_cases e : i = k
      · rw [e, ← hx]; exact c
      · exact hl i (by omega)
    · have c := Decidable.not_not.mp c
      have yes : own v := by
        show v ∈ zOwnL
        have h13 : zOwnL.length = 13 := rfl
        rw [← c, hx]
        unfold zOwn
        rw [show ((k : Int)).toNat = k by omega, List.getD_eq_getElem?_getD, List.getElem?_eq_getElem (show k < zOwnL.length by omega)]
        exact List.getElem_mem _
      rw [fl_f (fun q => q yes)] at hK
      exact hK
theorem x_isName {d : Nat} {T : Int → Int} {n p : Int} {w : Bool} {M : Mm} {K : Kt} (h : xTk T n p w M) (hK : K (fl (tKi T n p w = 1 ∧ ¬ own (tVa T n p))) M) : zSp (d + 1) 76 [.inr (.inr 2)] M K := by
  have kb := tKi_b (T := T) (n := n) (p := p) (w := w)
  obtain ⟨h1, h2, h3, h4, h5, h6⟩ := h
  rw [me_76, h3]
  refine zC_i (zr (by omega) (by omega)) ⟨fun c => ?_, fun c => ?_⟩
  · have vb := tVa_1 h6.2 c
    refine x_own_l (h5 (by omega) (by omega)) (zr (by omega) (by omega)) ?_ 13 0 0 rfl rfl (fun i hi => absurd hi (Nat.not_lt_zero i))
    by_cases o : own (tVa T n p)
    · rw [fl_f (fun q => q.2 o)] at hK
      rw [fl_f (fun q => q o)]
      exact hK
    · rw [fl_t ⟨c, o⟩] at hK
      rw [fl_t o]
      exact hK
  · rw [fl_f (fun q => c q.1)] at hK
    exact hK
theorem x_isWord {d : Nat} {T : Int → Int} {n p a : Int} {w : Bool} {M : Mm} {K : Kt} (h : xTk T n p w M) (ha : zR32 a = true) (hK : K (fl (tKi T n p w = 1 ∧ tVa T n p = a)) M) : zSp (d + 1) 73 [.inr (.inr 2), .inl a] M K := by
  have kb := tKi_b (T := T) (n := n) (p := p) (w := w)
  obtain ⟨h1, h2, h3, h4, h5, h6⟩ := h
  rw [me_73, h3]
  refine zC_i (zr (by omega) (by omega)) ⟨fun c => ?_, fun c => ?_⟩
  · rw [fl_f (fun q => c q.1)] at hK
    exact hK
  · have c := Decidable.not_not.mp c
    have vb := tVa_1 h6.2 c
    rw [h5 (by omega) (by omega)]
    refine zC_i (zr (by omega) (by omega)) (zC_i ha ⟨fun q => ?_, fun q => ?_⟩)
    · rw [fl_f (fun e => q e.2)] at hK; exact hK
    · rw [fl_t ⟨c, Decidable.not_not.mp q⟩] at hK; exact hK
theorem x_isSign {d : Nat} {T : Int → Int} {n p a : Int} {w : Bool} {M : Mm} {K : Kt} (hT : tpOk T n) (h : xTk T n p w M) (ha : zR32 a = true) (hK : K (fl (tKi T n p w = 3 ∧ tVa T n p = a)) M) : zSp (d + 1) 74 [.inr (.inr 2), .inl a] M K := by
  have kb := tKi_b (T := T) (n := n) (p := p) (w := w)
  obtain ⟨h1, h2, h3, h4, h5, h6⟩ := h
  have sq := tQ_s (T := T) h6.2
  rw [me_74, h3]
  refine zC_i (zr (by omega) (by omega)) ⟨fun c => ?_, fun c => ?_⟩
  · rw [fl_f (fun q => c q.1)] at hK
    exact hK
  · have c := Decidable.not_not.mp c
    have lt : tQ T n p < n := by
      by_cases q : n ≤ tQ T n p
      · have := (tKi_0 (w := w)).mpr q; omega
      · omega
    have vb := hT.2 _ (show 0 ≤ tQ T n p by omega) lt
    rw [← (tVa_3 c lt).1] at vb
    rw [h5 (by omega) (by omega)]
    refine zC_i (zr (by omega) (by omega)) (zC_i ha ⟨fun q => ?_, fun q => ?_⟩)
    · rw [fl_f (fun e => q e.2)] at hK; exact hK
    · rw [fl_t ⟨c, Decidable.not_not.mp q⟩] at hK; exact hK
theorem x_isNum {d : Nat} {T : Int → Int} {n p : Int} {w : Bool} {M : Mm} {K : Kt} (h : xTk T n p w M) (hK : K (fl (tKi T n p w = 2)) M) : zSp (d + 1) 75 [.inr (.inr 2)] M K := by
  have kb := tKi_b (T := T) (n := n) (p := p) (w := w)
  rw [me_75, h.2.2.1]
  refine zC_i (zr (by omega) (by omega)) ⟨fun c => ?_, fun c => ?_⟩
  · rw [fl_f c] at hK; exact hK
  · rw [fl_t (Decidable.not_not.mp c)] at hK; exact hK
theorem x_isEnd {d : Nat} {T : Int → Int} {n p : Int} {w : Bool} {M : Mm} {K : Kt} (h : xTk T n p w M) (hK : K (fl (tKi T n p w = 0)) M) : zSp (d + 1) 72 [.inr (.inr 2)] M K := by
  have kb := tKi_b (T := T) (n := n) (p := p) (w := w)
  rw [me_72, h.2.2.1]
  refine zC_i (zr (by omega) (by omega)) ⟨fun c => ?_, fun c => ?_⟩
  · rw [fl_f c] at hK; exact hK
  · rw [fl_t (Decidable.not_not.mp c)] at hK; exact hK
theorem x_fail {d : Nat} {T : Int → Int} {n p a : Int} {w : Bool} {M : Mm} {K : Kt} (h : xTk T n p w M) (hK : K 0 (zUp (zUp M 2 6 a) 2 7 (tQ T n p))) : zSp (d + 1) 66 [.inr (.inr 2), .inl a] M K := by
  rw [me_66, h.2.2.2.1]
  exact hK
theorem x_passSign {d : Nat} {T : Int → Int} {n p a : Int} {w : Bool} {M : Mm} {K : Kt} (hT : tpOk T n) (h : xTk T n p w M) (ha : zR32 a = true)
    (hK1 : ∀ M', tKi T n p w = 3 → tVa T n p = a → xTk T n (tEn T n p) false M' → xF M M' → K 1 M')
    (hK0 : ¬ (tKi T n p w = 3 ∧ tVa T n p = a) → K 0 (zUp (zUp M 2 6 1) 2 7 (tQ T n p))) : zSp (d + 4) 78 [.inr (.inr 2), .inl a] M K := by
  rw [me_78]
  refine x_isSign hT h ha ?_
  by_cases c : tKi T n p w = 3 ∧ tVa T n p = a
  · rw [fl_t c]
    refine zC_i (by decide) ⟨fun _ => ?_, fun q => absurd (by decide) q⟩
    refine x_adv hT h ?_
    intro M1 f1 f2 f3
    have e : decide (tKi T n p w = 1 ∨ tKi T n p w = 2) = false := decide_eq_false_iff_not.mpr (by omega)
    rw [e] at f1
    exact hK1 M1 c.1 c.2 f1 ⟨f3, f2⟩
  · rw [fl_f c]
    refine zC_i (by decide) ⟨fun q => absurd rfl q, fun _ => ?_⟩
    exact x_fail h (zC_i (by decide) (hK0 c))
theorem x_passWord {d : Nat} {T : Int → Int} {n p a : Int} {w : Bool} {M : Mm} {K : Kt} (hT : tpOk T n) (h : xTk T n p w M) (ha : zR32 a = true)
    (hK1 : ∀ M', tKi T n p w = 1 → tVa T n p = a → xTk T n (tEn T n p) true M' → xF M M' → K 1 M')
    (hK0 : ¬ (tKi T n p w = 1 ∧ tVa T n p = a) → K 0 (zUp (zUp M 2 6 1) 2 7 (tQ T n p))) : zSp (d + 4) 77 [.inr (.inr 2), .inl a] M K := by
  rw [me_77]
  refine x_isWord h ha ?_
  by_cases c : tKi T n p w = 1 ∧ tVa T n p = a
  · rw [fl_t c]
    refine zC_i (by decide) ⟨fun _ => ?_, fun q => absurd (by decide) q⟩
    refine x_adv hT h ?_
    intro M1 f1 f2 f3
    have e : decide (tKi T n p w = 1 ∨ tKi T n p w = 2) = true := decide_eq_true_iff.mpr (.inl c.1)
    rw [e] at f1
    exact hK1 M1 c.1 c.2 f1 ⟨f3, f2⟩
  · rw [fl_f c]
    refine zC_i (by decide) ⟨fun q => absurd rfl q, fun _ => ?_⟩
    exact x_fail h (zC_i (by decide) (hK0 c))
