/-! LAYER 3: a line is read by the class -/
def gAL (G : Mm) (nm s fm : Int) : Mm := zUp (zUp (zUp (zUp (zUp (zUp G 5 (G 4 0) nm) 7 (G 4 0) s) 6 (G 4 0) fm) 8 (G 4 0) 0) 9 (G 4 0) 0) 4 0 (G 4 0 + 1)
def gCl (T : Int → Int) (n : Int) (G : Mm) (p : Int) (w : Bool) : Gr := if tKi T n p w = 3 ∧ tVa T n p = 59 then (0, 0, G, tEn T n p, false) else (1, tQ T n p, G, p, w)
def gFm (T : Int → Int) (n : Int) (G : Mm) (p : Int) : Gr := if tKi T n p true = 3 ∧ tVa T n p = 58 then (if (gBh T n 5 0 G (tEn T n p) false).1 = 0 then gCl T n (gBh T n 5 0 G (tEn T n p) false).2.2.1 (gBh T n 5 0 G (tEn T n p) false).2.2.2.1 (gBh T n 5 0 G (tEn T n p) false).2.2.2.2 else gBh T n 5 0 G (tEn T n p) false) else (1, tQ T n p, G, p, true)
def isW (T : Int → Int) (n p : Int) (w : Bool) (a : Int) : Prop := tKi T n p w = 1 ∧ tVa T n p = a
/-- behind the word form (fm = 1) or leaf (fm = 0), the name at p -/
def gLb (T : Int → Int) (n : Int) (G : Mm) (p fm : Int) : Gr :=
  if isNm T n p true then (if gLf G (tVa T n p) = -1 then (if gSr T n (tEn T n p) true G < 0 then (-(gSr T n (tEn T n p) true G), tQ T n (tEn T n p), G, p, true)
    else if fm = 0 then gCl T n (gAL (gSg T n (tEn T n p) G) (tVa T n p) (gSr T n (tEn T n p) true G) fm) (tEn T n (tEn T n p)) true
    else gFm T n (gAL (gSg T n (tEn T n p) G) (tVa T n p) (gSr T n (tEn T n p) true G) fm) (tEn T n (tEn T n p)))
    else (3, tQ T n p, G, p, true)) else (1, tQ T n p, G, p, true)
def gLi (T : Int → Int) (n : Int) (G : Mm) (p : Int) (w : Bool) : Gr :=
  if tKi T n p w = 1 ∧ (tVa T n p = 217658368 ∨ tVa T n p = 407934976) then (if G 4 0 = 24 then (4, tQ T n p, G, p, w) else gLb T n G (tEn T n p) (if tVa T n p = 217658368 then 1 else 0)) else (1, tQ T n p, G, p, w)
theorem gAL_k {G : Mm} {nm s fm : Int} (hg : gLn G) (h2 : G 4 0 < 24) (hn : 0 ≤ nm ∧ nm < 1073741824) (hs : 0 ≤ s ∧ s < G 4 1) (hf : fm = 0 ∨ fm = 1) : gLn (gAL G nm s fm) ∧ (gAL G nm s fm) 4 0 = G 4 0 + 1 ∧ (gAL G nm s fm) 4 1 = G 4 1 ∧ (gAL G nm s fm) 8 (G 4 0) = 0 ∧ (gAL G nm s fm) 9 (G 4 0) = 0 := by
  have c0 := hg.1
  have e40 : (gAL G nm s fm) 4 0 = G 4 0 + 1 := zUp_here
  have e41 : (gAL G nm s fm) 4 1 = G 4 1 := by unfold gAL; rw [zUp_there (by decide), zUp_away (by decide), zUp_away (by decide), zUp_away (by decide), zUp_away (by decide), zUp_away (by decide)]
  have e5 : ∀ l, (gAL G nm s fm) 5 l = if l = G 4 0 then nm else G 5 l := fun l => by unfold gAL; rw [zUp_away (by decide), zUp_away (by decide), zUp_away (by decide), zUp_away (by decide), zUp_away (by decide), zUp_hit]
  have e7 : ∀ l, (gAL G nm s fm) 7 l = if l = G 4 0 then s else G 7 l := fun l => by unfold gAL; rw [zUp_away (by decide), zUp_away (by decide), zUp_away (by decide), zUp_away (by decide), zUp_hit, zUp_away (by decide)]
  have e6 : ∀ l, (gAL G nm s fm) 6 l = if l = G 4 0 then fm else G 6 l := fun l => by unfold gAL; rw [zUp_away (by decide), zUp_away (by decide), zUp_away (by decide), zUp_hit, zUp_away (by decide), zUp_away (by decide)]
  have e8 : ∀ l, (gAL G nm s fm) 8 l = if l = G 4 0 then 0 else G 8 l := fun l => by unfold gAL; rw [zUp_away (by decide), zUp_away (by decide), zUp_hit, zUp_away (by decide), zUp_away (by decide), zUp_away (by decide)]
  have e9 : ∀ l, (gAL G nm s fm) 9 l = if l = G 4 0 then 0 else G 9 l := fun l => by unfold gAL; rw [zUp_away (by decide), zUp_hit, zUp_away (by decide), zUp_away (by decide), zUp_away (by decide), zUp_away (by decide)]
  have e10 : (gAL G nm s fm) 10 = G 10 := by unfold gAL; rw [zUp_away (by decide), zUp_away (by decide), zUp_away (by decide), zUp_away (by decide), zUp_away (by decide), zUp_away (by decide)]
  have e11 : (gAL G nm s fm) 11 = G 11 := by unfold gAL; rw [zUp_away (by decide), zUp_away (by decide), zUp_away (by decide), zUp_away (by decide), zUp_away (by decide), zUp_away (by decide)]
  refine ⟨⟨by rw [e40, e41]; omega, fun l l0 l1 => ?_, fun t t0 t1 => ?_⟩, e40, e41, by rw [e8, if_pos rfl], by rw [e9, if_pos rfl]⟩
  · rw [e40] at l1
    rw [e5, e6, e7, e8, e9, e10, e41]
    by_cases e : l = G 4 0
    · rw [if_pos e, if_pos e, if_pos e, if_pos e, if_pos e]
      exact ⟨hn, hf, hs, by omega, .inl rfl, fun i i0 i1 => by omega⟩
    · rw [if_neg e, if_neg e, if_neg e, if_neg e, if_neg e]
      exact hg.2.1 l l0 (by omega)
  · rw [e41] at t1
    rw [e11]
    exact hg.2.2 t t0 t1
theorem x_addLine {d : Nat} {M G : Mm} {K : Kt} {nm s fm : Int} (hg : gLn G) (hx : xR G M) (h2 : G 4 0 < 24) (hf : fm = 0 ∨ fm = 1) (hK : ∀ M', xR (gAL G nm s fm) M' → (∀ c, (c < 14 ∨ 23 < c) → M' c = M c) → K 0 M') : zSp (d + 1) 26 [.inr (.inr 14), .inl nm, .inl s, .inl fm] M K := by
  have c0 := hg.1
  have e : M 14 0 = G 4 0 := by rw [hx 4 (by decide) (by decide)]
  have bo : zBo fm = true := by rcases hf with q | q <;> rw [q] <;> rfl
  rw [me_26]
  simp only [zUp_away (show (14 : Nat) ≠ 14 + 1 by decide), zUp_away (show (14 : Nat) ≠ 14 + 2 by decide), zUp_away (show (14 : Nat) ≠ 14 + 3 by decide), zUp_away (show (14 : Nat) ≠ 14 + 4 by decide), zUp_away (show (14 : Nat) ≠ 14 + 5 by decide), e]
  refine zC_i rfl (zC_i (zr (by omega) (by omega)) ⟨fun q => absurd q (by omega), fun _ => ?_⟩)
  have sm : zSm (G 4 0) 24 = true := zs (by omega) (by omega)
  refine zC_i rfl (zC_i rfl (zC_i rfl (zC_i sm (zC_i rfl (zC_i rfl (zC_i rfl (zC_i sm (zC_i rfl (zC_i rfl (zC_i rfl (zC_i sm (zC_i bo (zC_i rfl (zC_i rfl (zC_i rfl (zC_i sm (zC_i rfl (zC_i rfl (zC_i rfl (zC_i sm (zC_i rfl (zC_i rfl ?_))))))))))))))))))))))
  refine hK _ ?_ (fun c hc => ?_)
  · unfold gAL
    exact xR_up (c := 4) (xR_up (c := 9) (xR_up (c := 8) (xR_up (c := 6) (xR_up (c := 7) (xR_up (c := 5) hx)))))
  · rw [zUp_away (by omega), zUp_away (by omega), zUp_away (by omega), zUp_away (by omega), zUp_away (by omega), zUp_away (by omega)]
