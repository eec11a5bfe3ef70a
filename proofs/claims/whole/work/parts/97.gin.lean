/-! LAYER 3: an input's text, pure -/
abbrev Sr : Type := Int × Int × List Tr × Option Tr × Int × Bool
def lsz : List Tr → Int
  | [] => 0
  | f :: L => tSz f + lsz L
theorem lsz_nn : ∀ L : List Tr, 0 ≤ lsz L
  | [] => Int.le_refl 0
  | f :: L => by
    have := lsz_nn L
    have := tSz_pos f
    show 0 ≤ tSz f + lsz L
    omega
/-- the sort of a part -/
def gSP (G : Mm) (l q : Int) : Int := if gNeed G l ≤ q then (if G 9 l = 0 then -1 else G 10 (l * 4 + (G 8 l - 1))) else G 10 (l * 4 + q)
def gDue (G : Mm) : List Tr → Int
  | [] => 0
  | f :: _ => gSP G (tNm f) (tKd f)
def gPut (l fm : Int) (L : List Tr) : List Tr × Option Tr := if fm = 1 then (.var l.toNat :: L, none) else match L with
  | [] => ([], some (.var l.toNat))
  | f :: R => (.op f (.var l.toNat) :: R, none)
def gNo (T : Int → Int) (n : Int) (G : Mm) (L : List Tr) (fm p : Int) (w : Bool) : Sr :=
  if isNm T n p w then (if gLf G (tVa T n p) = -1 then (3, tQ T n p, L, none, p, w) else if lsz L = 80 then (4, tQ T n p, L, none, p, w)
    else if G 6 (gLf G (tVa T n p)) = fm ∧ G 7 (gLf G (tVa T n p)) = gDue G L then (0, 0, (gPut (gLf G (tVa T n p)) fm L).1, (gPut (gLf G (tVa T n p)) fm L).2, tEn T n p, true)
    else (5, tQ T n p, L, none, p, w)) else (1, tQ T n p, L, none, p, w)
def gNdI (T : Int → Int) (n : Int) (G : Mm) (L : List Tr) (p : Int) (w : Bool) : Sr :=
  if tKi T n p w = 3 ∧ tVa T n p = 40 then (if (L.length : Int) = 12 ∨ lsz L = 80 then (4, tQ T n p, L, none, p, w) else gNo T n G L 1 (tEn T n p) false) else gNo T n G L 0 p w
def gCs : List Tr → List Tr × Option Tr
  | [] => ([], none)
  | [f] => ([], some f)
  | f :: g :: R => (.op g f :: R, none)
def hdT : List Tr → Tr
  | [] => .var 0
  | f :: _ => f
def gTu (T : Int → Int) (n : Int) (G : Mm) (L : List Tr) (p : Int) (w : Bool) : Sr :=
  if 0 < (L.length : Int) ∧ tKi T n p w = 3 ∧ tVa T n p = 41 then (if gNeed G (tNm (hdT L)) ≤ tKd (hdT L) then (0, 0, (gCs L).1, (gCs L).2, tEn T n p, false) else (5, tQ T n p, L, none, p, w)) else gNdI T n G L p w
def lOk (G : Mm) (L : List Tr) : Prop := (∀ f ∈ L, tVal (G 4 0) f) ∧ lsz L ≤ 80 ∧ L.length ≤ 12
def dOk (G : Mm) (L : List Tr) : Option Tr → Prop
  | none => lOk G L ∧ 1 ≤ L.length
  | some t => tSz t ≤ 80 ∧ tVal (G 4 0) t
theorem tAdv {T : Int → Int} {n p : Int} {w : Bool} (hp : p ≤ n) (h : tKi T n p w ≠ 0) : p + 1 ≤ tEn T n p := by
  have a := tQ_s (T := T) hp
  have b := tEn_s (T := T) hp
  have c : ¬ n ≤ tQ T n p := fun q => h (tKi_0.mpr q)
  omega
theorem gNo_k {T : Int → Int} {n : Int} {G : Mm} {L : List Tr} {fm p : Int} {w : Bool} (hg : gLn G) (hp : p ≤ n) (hL : lOk G L) (hl : fm = 1 → L.length < 12) (hf : fm = 0 ∨ fm = 1) : ((gNo T n G L fm p w).1 = 0 ∧ dOk G (gNo T n G L fm p w).2.2.1 (gNo T n G L fm p w).2.2.2.1 ∧ p + 1 ≤ (gNo T n G L fm p w).2.2.2.2.1 ∧ (fm = 0 → L = [] → (gNo T n G L fm p w).2.2.2.1 ≠ none)) ∨ (1 ≤ (gNo T n G L fm p w).1 ∧ (gNo T n G L fm p w).1 ≤ 5) := by
  unfold gNo
  by_cases c1 : isNm T n p w
  · rw [if_pos c1]
    by_cases c2 : gLf G (tVa T n p) = -1
    · rw [if_pos c2]; exact .inr (show (1 : Int) ≤ 3 ∧ (3 : Int) ≤ 5 by decide)
    · rw [if_neg c2]
      by_cases c3 : lsz L = 80
      · rw [if_pos c3]; exact .inr (show (1 : Int) ≤ 4 ∧ (4 : Int) ≤ 5 by decide)
      · rw [if_neg c3]
        by_cases c4 : G 6 (gLf G (tVa T n p)) = fm ∧ G 7 (gLf G (tVa T n p)) = gDue G L
        · rw [if_pos c4]
          have lf := gLf_s (v := tVa T n p) hg
          have ad := tAdv (T := T) (w := w) hp (by rw [c1.1]; decide)
          obtain ⟨h1, h2, h3⟩ := hL
          have nn := lsz_nn L
          have vv : tVal (G 4 0) (.var (gLf G (tVa T n p)).toNat) := by
            show ((gLf G (tVa T n p)).toNat : Int) < G 4 0
            omega
          refine .inl ⟨rfl, ?_, ad, ?_⟩
          · show dOk G (gPut (gLf G (tVa T n p)) fm L).1 (gPut (gLf G (tVa T n p)) fm L).2
            unfold gPut
            by_cases c5 : fm = 1
            · rw [if_pos c5]
              refine ⟨⟨fun f hf => ?_, ?_, ?_⟩, ?_⟩
              · rcases List.mem_cons.mp hf with e | e
                · rw [e]; exact vv
                · exact h1 f e
              · show 1 + lsz L ≤ 80
                omega
              · show L.length + 1 ≤ 12
                have := hl c5
                omega
              · show 1 ≤ L.length + 1
                omega
            · rw [if_neg c5]
              match L, h1, h2, h3, nn, c3 with
              | [], _, _, _, _, _ => exact ⟨by show (1 : Int) ≤ 80; decide, vv⟩
              | f :: R, h1, h2, h3, nn, c3 =>
                refine ⟨⟨fun x hx => ?_, ?_, h3⟩, ?_⟩
                · rcases List.mem_cons.mp hx with e | e
                  · rw [e]; exact ⟨h1 f (List.mem_cons_self ..), vv⟩
                  · exact h1 x (List.mem_cons_of_mem _ e)
                · have h2 : tSz f + lsz R ≤ 80 := h2
                  have c3 : ¬ (tSz f + lsz R = 80) := c3
                  show (tSz f + 1) + lsz R ≤ 80
                  omega
                · show 1 ≤ R.length + 1
                  omega
          · intro e0 eL
            show (gPut (gLf G (tVa T n p)) fm L).2 ≠ none
            unfold gPut
            rw [if_neg (by omega), eL]
            exact fun q => absurd q (by simp)
        · rw [if_neg c4]; exact .inr (show (1 : Int) ≤ 5 ∧ (5 : Int) ≤ 5 by decide)
  · rw [if_neg c1]; exact .inr (show (1 : Int) ≤ 1 ∧ (1 : Int) ≤ 5 by decide)
theorem gTu_k {T : Int → Int} {n : Int} {G : Mm} {L : List Tr} {p : Int} {w : Bool} (hg : gLn G) (hp : p ≤ n) (hL : lOk G L) : ((gTu T n G L p w).1 = 0 ∧ dOk G (gTu T n G L p w).2.2.1 (gTu T n G L p w).2.2.2.1 ∧ p + 1 ≤ (gTu T n G L p w).2.2.2.2.1 ∧ (L = [] → (gTu T n G L p w).2.2.2.1 = none → p + 2 ≤ (gTu T n G L p w).2.2.2.2.1)) ∨ (1 ≤ (gTu T n G L p w).1 ∧ (gTu T n G L p w).1 ≤ 5) := by
  unfold gTu
  by_cases c1 : 0 < (L.length : Int) ∧ tKi T n p w = 3 ∧ tVa T n p = 41
  · rw [if_pos c1]
    have ad := tAdv (T := T) (w := w) hp (by rw [c1.2.1]; decide)
    by_cases c2 : gNeed G (tNm (hdT L)) ≤ tKd (hdT L)
    · rw [if_pos c2]
      obtain ⟨h1, h2, h3⟩ := hL
      refine .inl ⟨rfl, ?_, ad, fun e => ?_⟩
      · show dOk G (gCs L).1 (gCs L).2
        match L, h1, h2, h3, c1 with
        | [], _, _, _, c1 => exact absurd c1.1 (by decide)
        | [f], h1, h2, h3, _ =>
          have h2 : tSz f + 0 ≤ 80 := h2
          exact ⟨by omega, h1 f (List.mem_cons_self ..)⟩
        | f :: g :: R, h1, h2, h3, _ =>
          have h2 : tSz f + (tSz g + lsz R) ≤ 80 := h2
          have h3 : R.length + 1 + 1 ≤ 12 := h3
          refine ⟨⟨fun x hx => ?_, ?_, ?_⟩, ?_⟩
          · rcases List.mem_cons.mp hx with e | e
            · rw [e]; exact ⟨h1 g (List.mem_cons_of_mem _ (List.mem_cons_self ..)), h1 f (List.mem_cons_self ..)⟩
            · exact h1 x (List.mem_cons_of_mem _ (List.mem_cons_of_mem _ e))
          · show (tSz g + tSz f) + lsz R ≤ 80
            omega
          · show R.length + 1 ≤ 12
            omega
          · show 1 ≤ R.length + 1
            omega
      · rw [e] at c1
        exact absurd c1.1 (by decide)
    · rw [if_neg c2]; exact .inr (show (1 : Int) ≤ 5 ∧ (5 : Int) ≤ 5 by decide)
  · rw [if_neg c1]
    unfold gNdI
    by_cases c2 : tKi T n p w = 3 ∧ tVa T n p = 40
    · rw [if_pos c2]
      have ad := tAdv (T := T) (w := w) hp (by rw [c2.1]; decide)
      by_cases c3 : (L.length : Int) = 12 ∨ lsz L = 80
      · rw [if_pos c3]; exact .inr (show (1 : Int) ≤ 4 ∧ (4 : Int) ≤ 5 by decide)
      · rw [if_neg c3]
        have l3 := hL.2.2
        rcases gNo_k (T := T) (fm := 1) (p := tEn T n p) (w := false) hg (tEn_s hp).2.1 hL (fun _ => by omega) (.inr rfl) with ⟨a1, a2, a3, a4⟩ | a
        · exact .inl ⟨a1, a2, by omega, fun _ _ => by omega⟩
        · exact .inr a
    · rw [if_neg c2]
      rcases gNo_k (T := T) (fm := 0) (p := p) (w := w) hg hp hL (fun e => absurd e (by decide)) (.inl rfl) with ⟨a1, a2, a3, a4⟩ | a
      · exact .inl ⟨a1, a2, a3, fun e q => absurd q (a4 rfl e)⟩
      · exact .inr a
abbrev Rr : Type := Int × Int × Option Tr × Int × Bool
def gIn (T : Int → Int) (n : Int) (G : Mm) : Nat → List Tr → Int → Bool → Rr
  | 0, _, p, w => (0, 0, none, p, w)
  | f + 1, L, p, w => if (gTu T n G L p w).1 = 0 ∧ (gTu T n G L p w).2.2.2.1 = none then gIn T n G f (gTu T n G L p w).2.2.1 (gTu T n G L p w).2.2.2.2.1 (gTu T n G L p w).2.2.2.2.2
    else ((gTu T n G L p w).1, (gTu T n G L p w).2.1, (gTu T n G L p w).2.2.2)
