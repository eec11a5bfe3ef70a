/-! LAYER 3: a test's text, pure: facts, joins -/
def gCn (T : Int → Int) (n p : Int) (w : Bool) : Int := if tKi T n p w = 1 ∧ tVa T n p = 647828480 then 0 else if tKi T n p w = 1 ∧ tVa T n p = 139640832 then 1 else if tKi T n p w = 1 ∧ tVa T n p = 270106624 then 2 else if tKi T n p w = 1 ∧ tVa T n p = 719459904 then 3 else if tKi T n p w = 1 ∧ tVa T n p = 475811840 then 4 else -1
theorem gCn_k {T : Int → Int} {n p : Int} {w : Bool} (hp : p ≤ n) : gCn T n p w = -1 ∨ ((0 ≤ gCn T n p w ∧ gCn T n p w ≤ 4) ∧ tKi T n p w = 1 ∧ p + 3 ≤ tEn T n p) := by
  unfold gCn
  by_cases c0 : tKi T n p w = 1 ∧ tVa T n p = 647828480
  · rw [if_pos c0]; exact .inr ⟨by decide, c0.1, tLen3 hp c0 (by decide)⟩
  · rw [if_neg c0]
    by_cases c1 : tKi T n p w = 1 ∧ tVa T n p = 139640832
    · rw [if_pos c1]; exact .inr ⟨by decide, c1.1, tLen3 hp c1 (by decide)⟩
    · rw [if_neg c1]
      by_cases c2 : tKi T n p w = 1 ∧ tVa T n p = 270106624
      · rw [if_pos c2]; exact .inr ⟨by decide, c2.1, tLen3 hp c2 (by decide)⟩
      · rw [if_neg c2]
        by_cases c3 : tKi T n p w = 1 ∧ tVa T n p = 719459904
        · rw [if_pos c3]; exact .inr ⟨by decide, c3.1, tLen3 hp c3 (by decide)⟩
        · rw [if_neg c3]
          by_cases c4 : tKi T n p w = 1 ∧ tVa T n p = 475811840
          · rw [if_pos c4]; exact .inr ⟨by decide, c4.1, tLen3 hp c4 (by decide)⟩
          · rw [if_neg c4]; exact .inl rfl
abbrev Fr5 : Type := Int × Int × St5 × Int
def gNmT (T : Int → Int) (n : Int) (G : Mm) (p : Int) : Int × Int × Int := if isNm T n p true then (if gLf G (tVa T n p) = -1 then (3, tQ T n p, 0) else (0, 0, gLf G (tVa T n p))) else (1, tQ T n p, 0)
def gSn (T : Int → Int) (n p : Int) : Int := if tKi T n p true = 3 ∧ tVa T n p = 60 then -1 else if tKi T n p true = 3 ∧ tVa T n p = 62 then 1 else if tKi T n p true = 3 ∧ tVa T n p = 61 then 0 else 2
def gNb (T : Int → Int) (n c a b p : Int) : Fr5 := if gSn T n p = 2 then (1, tQ T n p, j5 0, p) else if tKi T n (tEn T n p) false = 2 then (0, 0, (c, a, b, gSn T n p, tVa T n (tEn T n p)), tEn T n (tEn T n p)) else (1, tQ T n (tEn T n p), j5 0, p)
def gFa (T : Int → Int) (n : Int) (G : Mm) (p : Int) (w : Bool) : Fr5 := if gCn T n p w = -1 then (1, tQ T n p, j5 0, p) else if gCn T n p w < 2 then gNb T n (gCn T n p w) 0 0 (tEn T n p)
  else if (gNmT T n G (tEn T n p)).1 ≠ 0 then ((gNmT T n G (tEn T n p)).1, (gNmT T n G (tEn T n p)).2.1, j5 0, p)
  else if gCn T n p w < 3 then gNb T n (gCn T n p w) (gNmT T n G (tEn T n p)).2.2 0 (tEn T n (tEn T n p))
  else if (gNmT T n G (tEn T n (tEn T n p))).1 ≠ 0 then ((gNmT T n G (tEn T n (tEn T n p))).1, (gNmT T n G (tEn T n (tEn T n p))).2.1, j5 0, p)
  else gNb T n (gCn T n p w) (gNmT T n G (tEn T n p)).2.2 (gNmT T n G (tEn T n (tEn T n p))).2.2 (tEn T n (tEn T n (tEn T n p)))
theorem gNmT_k {T : Int → Int} {n p : Int} {G : Mm} (hg : gLn G) (hp : p ≤ n) : ((gNmT T n G p).1 = 0 ∧ isNm T n p true ∧ gLf G (tVa T n p) ≠ -1 ∧ (gNmT T n G p).2.2 = gLf G (tVa T n p) ∧ (0 ≤ gLf G (tVa T n p) ∧ gLf G (tVa T n p) < G 4 0) ∧ p + 1 ≤ tEn T n p) ∨ ((gNmT T n G p).1 = 1 ∧ ¬ isNm T n p true ∧ (gNmT T n G p).2.1 = tQ T n p) ∨ ((gNmT T n G p).1 = 3 ∧ isNm T n p true ∧ gLf G (tVa T n p) = -1 ∧ (gNmT T n G p).2.1 = tQ T n p) := by
  have lf := gLf_s (v := tVa T n p) hg
  unfold gNmT
  by_cases c : isNm T n p true
  · rw [if_pos c]
    have ad := tAdv (T := T) (w := true) hp (by rw [c.1]; decide)
    by_cases c2 : gLf G (tVa T n p) = -1
    · rw [if_pos c2]; exact .inr (.inr ⟨rfl, c, c2, rfl⟩)
    · rw [if_neg c2]; exact .inl ⟨rfl, c, c2, rfl, by omega, ad⟩
  · rw [if_neg c]; exact .inr (.inl ⟨rfl, c, rfl⟩)
theorem gSn_k {T : Int → Int} {n p : Int} : gSn T n p = 2 ∨ (tKi T n p true = 3 ∧ (gSn T n p = -1 ∨ gSn T n p = 0 ∨ gSn T n p = 1)) := by
  unfold gSn
  split
  · rename_i h; exact .inr ⟨h.1, .inl rfl⟩
  · split
    · rename_i h; exact .inr ⟨h.1, .inr (.inr rfl)⟩
    · split
      · rename_i h; exact .inr ⟨h.1, .inr (.inl rfl)⟩
      · exact .inl rfl
theorem gNb_k {T : Int → Int} {n c a b p L : Int} (hp : p ≤ n) (hc : 0 ≤ c ∧ c ≤ 4) (ha : 0 ≤ a ∧ a ≤ 24) (hb : 0 ≤ b ∧ b ≤ 24) (ha2 : 2 ≤ c → a < L) (hb2 : 3 ≤ c → b < L) : ((gNb T n c a b p).1 = 0 ∧ sV L (gNb T n c a b p).2.2.1 ∧ ((gNb T n c a b p).2.2.1).1 ≤ 4 ∧ p + 2 ≤ (gNb T n c a b p).2.2.2 ∧ (gNb T n c a b p).2.2.2 ≤ n) ∨ (gNb T n c a b p).1 = 1 := by
  have sk := gSn_k (T := T) (n := n) (p := p)
  unfold gNb
  by_cases c1 : gSn T n p = 2
  · rw [if_pos c1]; exact .inr rfl
  · rw [if_neg c1]
    have pe := (tEn_s (T := T) hp).2.1
    have ad := tAdv (T := T) (w := true) hp (by rcases sk with s | s <;> omega)
    by_cases c2 : tKi T n (tEn T n p) false = 2
    · rw [if_pos c2]
      have ad2 := tAdv (T := T) (w := false) pe (by omega)
      have nb := tVa_2 pe c2
      have pe2 := (tEn_s (T := T) pe).2.1
      exact .inl ⟨rfl, .inr ⟨hc, fun q => ⟨ha.1, ha2 q⟩, fun q => ⟨hb.1, hb2 q⟩, by show gSn T n p = -1 ∨ gSn T n p = 0 ∨ gSn T n p = 1; omega, nb.1, nb.2, ha.1, ha.2, hb.1, hb.2⟩, hc.2, by show p + 2 ≤ tEn T n (tEn T n p); omega, pe2⟩
    · rw [if_neg c2]; exact .inr rfl
theorem gFa_k {T : Int → Int} {n p : Int} {w : Bool} {G : Mm} (hg : gLn G) (hp : p ≤ n) : ((gFa T n G p w).1 = 0 ∧ sV (G 4 0) (gFa T n G p w).2.2.1 ∧ ((gFa T n G p w).2.2.1).1 ≤ 4 ∧ p + 5 ≤ (gFa T n G p w).2.2.2 ∧ (gFa T n G p w).2.2.2 ≤ n) ∨ (1 ≤ (gFa T n G p w).1 ∧ (gFa T n G p w).1 ≤ 5) := by
  have c0 := hg.1
  have ck := gCn_k (T := T) (w := w) hp
  have pe := (tEn_s (T := T) hp).2.1
  have pe2 := (tEn_s (T := T) pe).2.1
  have pe3 := (tEn_s (T := T) pe2).2.1
  unfold gFa
  by_cases c1 : gCn T n p w = -1
  · rw [if_pos c1]; exact .inr ⟨by show (1 : Int) ≤ 1; decide, by show (1 : Int) ≤ 5; decide⟩
  · rw [if_neg c1]
    obtain ⟨k1, k2, k3⟩ := ck.resolve_left c1
    have nbk : ∀ (a b q : Int), q ≤ n → p + 3 ≤ q → (0 ≤ a ∧ a ≤ 24) → (0 ≤ b ∧ b ≤ 24) → (2 ≤ gCn T n p w → a < G 4 0) → (3 ≤ gCn T n p w → b < G 4 0) → ((gNb T n (gCn T n p w) a b q).1 = 0 ∧ sV (G 4 0) (gNb T n (gCn T n p w) a b q).2.2.1 ∧ ((gNb T n (gCn T n p w) a b q).2.2.1).1 ≤ 4 ∧ p + 5 ≤ (gNb T n (gCn T n p w) a b q).2.2.2 ∧ (gNb T n (gCn T n p w) a b q).2.2.2 ≤ n) ∨ (1 ≤ (gNb T n (gCn T n p w) a b q).1 ∧ (gNb T n (gCn T n p w) a b q).1 ≤ 5) := by
      intro a b q hq hq3 ha hb ha2 hb2
      rcases gNb_k (T := T) (L := G 4 0) hq k1 ha hb ha2 hb2 with ⟨x1, x2, x3, x4, x5⟩ | x
      · exact .inl ⟨x1, x2, x3, by omega, x5⟩
      · exact .inr (by omega)
    by_cases c2 : gCn T n p w < 2
    · rw [if_pos c2]
      exact nbk 0 0 _ pe k3 (by decide) (by decide) (fun q => by omega) (fun q => by omega)
    · rw [if_neg c2]
      by_cases c3 : (gNmT T n G (tEn T n p)).1 ≠ 0
      · rw [if_pos c3]
        refine .inr ?_
        show 1 ≤ (gNmT T n G (tEn T n p)).1 ∧ (gNmT T n G (tEn T n p)).1 ≤ 5
        rcases gNmT_k (T := T) hg pe with x | x | x <;> omega
      · rw [if_neg c3]
        rcases gNmT_k (T := T) hg pe with ⟨x1, x2, x3, x4, x5, x6⟩ | x | x
        · by_cases c4 : gCn T n p w < 3
          · rw [if_pos c4]
            exact nbk _ 0 _ pe2 (by omega) (by omega) (by decide) (fun q => by omega) (fun q => by omega)
          · rw [if_neg c4]
            by_cases c5 : (gNmT T n G (tEn T n (tEn T n p))).1 ≠ 0
            · rw [if_pos c5]
              refine .inr ?_
              show 1 ≤ (gNmT T n G (tEn T n (tEn T n p))).1 ∧ (gNmT T n G (tEn T n (tEn T n p))).1 ≤ 5
              rcases gNmT_k (T := T) hg pe2 with x | x | x <;> omega
            · rw [if_neg c5]
              rcases gNmT_k (T := T) hg pe2 with ⟨y1, y2, y3, y4, y5, y6⟩ | y | y
              · exact nbk _ _ _ pe3 (by omega) (by omega) (by omega) (fun q => by omega) (fun q => by omega)
              · omega
              · omega
        · omega
        · omega
-- ]
abbrev Cr5 : Type := Int × Int × List Int × List St5 × Int × Bool
def gCz (T : Int → Int) (n : Int) : Nat → List Int → List St5 → Int → Bool → Cr5
  | 0, S, O, p, w => (0, 0, S, O, p, w)
  | f + 1, S, O, p, w => if tKi T n p w = 3 ∧ tVa T n p = 93 then (if (pop1 11 12 S O).1 = [] then (1, tQ T n p, S, O, p, w) else gCz T n f (pop1 10 10 (pop1 11 12 S O).1.tail (pop1 11 12 S O).2).1 (pop1 10 10 (pop1 11 12 S O).1.tail (pop1 11 12 S O).2).2 (tEn T n p) false) else (0, 0, S, O, p, w)
theorem pop1_n10 {lo hi : Int} (h1 : 11 ≤ lo) (h2 : hi ≤ 12) : ∀ (S : List Int) (O : List St5), okA S → hI S ≠ 10 → hI (pop1 lo hi S O).1 ≠ 10
  | [], _, _, h => h
  | s :: S, O, ⟨a1, a2, a3, a4⟩, h => by
    unfold pop1
    by_cases c : lo ≤ s ∧ s ≤ hi
    · rw [if_pos c]
      exact pop1_n10 h1 h2 S _ a4 (by
        by_cases e : s = 11
        · exact (a2 e).2
        · exact (a3 (by omega)).1)
    · rw [if_neg c]; exact h
/-- what is left above a ] is a [ -/
theorem pop1_13 {G : Mm} {S : List Int} {O : List St5} (h : vT G 1 S O) (h0 : hI S ≠ 10) (hn : (pop1 11 12 S O).1 ≠ []) : ∃ R, (pop1 11 12 S O).1 = 13 :: R ∧ vT G 1 R (pop1 11 12 S O).2 ∧ nsT (13 :: R) = nsT R + 1 ∧ ((pop1 11 12 S O).2.length : Int) + noT R = O.length + noT S := by
  obtain ⟨k1, k2, k3, k4⟩ := pop1_k (G := G) (lo := 11) (hi := 12) (by decide) (by decide) S O h
  have k5 := pop1_n10 (lo := 11) (hi := 12) (by decide) (by decide) S O h.1 h0
  match hS : (pop1 11 12 S O).1, hn, k1, k2, k3, k5 with
  | [], hn, _, _, _, _ => exact absurd rfl hn
  | x :: R, _, ⟨⟨b1, b2, b3, b4⟩, b5, b6, b7⟩, k2, k3, k5 =>
    have k3 : ¬ (11 ≤ x ∧ x ≤ 12) := k3
    have k5 : x ≠ 10 := k5
    have e : x = 13 := by omega
    rw [e] at b5 b6 k2 ⊢
    have en : nsT (13 :: R) = 1 + nsT R := by show (if _ then _ else _) + _ = _; rw [if_pos (.inr rfl)]
    have ej : njT (13 :: R) = 0 + njT R := by show (if _ then _ else _) + _ = _; rw [if_neg (by decide)]
    have eo : noT (13 :: R) = 0 + noT R := by show (if _ then _ else _) + _ = _; rw [if_pos rfl]
    exact ⟨R, rfl, ⟨b4, by omega, by rw [ej, Int.zero_add] at b6; exact b6, b7⟩, by omega, by omega⟩
theorem gCz_k {T : Int → Int} {n : Int} {G : Mm} (hn : n ≤ 1000) : ∀ (f : Nat) (S : List Int) (O : List St5) (p : Int) (w : Bool) (x1 : Int), x1 + f = 1000 → x1 + 1 ≤ p → p ≤ n → vT G 1 S O → hI S ≠ 10 → ((gCz T n f S O p w).1 = 0 ∧ vT G 1 (gCz T n f S O p w).2.2.1 (gCz T n f S O p w).2.2.2.1 ∧ hI (gCz T n f S O p w).2.2.1 ≠ 10 ∧ (p ≤ (gCz T n f S O p w).2.2.2.2.1 ∧ (gCz T n f S O p w).2.2.2.2.1 ≤ n) ∧ ((gCz T n f S O p w).2.2.2.1.length : Int) + noT (gCz T n f S O p w).2.2.1 = O.length + noT S) ∨ (gCz T n f S O p w).1 = 1
  | 0, S, O, p, w, x1, hf, h1, hp, h, h0 => by omega
  | f + 1, S, O, p, w, x1, hf, h1, hp, h, h0 => by
    unfold gCz
    by_cases c : tKi T n p w = 3 ∧ tVa T n p = 93
    · rw [if_pos c]
      by_cases c2 : (pop1 11 12 S O).1 = []
      · rw [if_pos c2]; exact .inr rfl
      · rw [if_neg c2]
        obtain ⟨R, e1, e2, e3, e4⟩ := pop1_13 h h0 c2
        have ad := tAdv (T := T) (w := w) hp (by rw [c.1]; decide)
        have pe := (tEn_s (T := T) hp).2.1
        rw [e1, show (13 :: R).tail = R from rfl]
        obtain ⟨k1, k2, k3, k4⟩ := pop1_k (G := G) (lo := 10) (hi := 10) (by decide) (by decide) R (pop1 11 12 S O).2 e2
        rcases gCz_k (T := T) (G := G) hn f (pop1 10 10 R (pop1 11 12 S O).2).1 (pop1 10 10 R (pop1 11 12 S O).2).2 (tEn T n p) false (x1 + 1) (by omega) (by omega) pe k1 (by omega) with ⟨y1, y2, y3, y4, y5⟩ | y
        · exact .inl ⟨y1, y2, y3, by omega, by omega⟩
        · exact .inr y
    · rw [if_neg c]
      exact .inl ⟨rfl, h, h0, ⟨Int.le_refl _, hp⟩, rfl⟩
-- and, or, neither
abbrev Jr5 : Type := Int × Int × Int × List Int × List St5 × Int × Bool
def gJn (T : Int → Int) (n : Int) (S : List Int) (O : List St5) (p : Int) (w : Bool) : Jr5 := if tKi T n p w = 1 ∧ tVa T n p = 48365568 then (0, 0, 1, 11 :: (pop1 11 11 S O).1, (pop1 11 11 S O).2, tEn T n p, true)
  else if tKi T n p w = 1 ∧ tVa T n p = 522190848 then (0, 0, 1, 12 :: (pop1 11 12 S O).1, (pop1 11 12 S O).2, tEn T n p, true)
  else if (pop1 11 12 S O).1 = [] then (0, 0, 0, [], (pop1 11 12 S O).2, p, w) else (1, tQ T n p, 0, [], O, p, w)
def gAf (T : Int → Int) (n : Int) (S : List Int) (O : List St5) (p : Int) : Jr5 := if (gCz T n 1000 (pop1 10 10 S O).1 (pop1 10 10 S O).2 p true).1 ≠ 0 then ((gCz T n 1000 (pop1 10 10 S O).1 (pop1 10 10 S O).2 p true).1, (gCz T n 1000 (pop1 10 10 S O).1 (pop1 10 10 S O).2 p true).2.1, 0, [], O, p, true)
  else gJn T n (gCz T n 1000 (pop1 10 10 S O).1 (pop1 10 10 S O).2 p true).2.2.1 (gCz T n 1000 (pop1 10 10 S O).1 (pop1 10 10 S O).2 p true).2.2.2.1 (gCz T n 1000 (pop1 10 10 S O).1 (pop1 10 10 S O).2 p true).2.2.2.2.1 (gCz T n 1000 (pop1 10 10 S O).1 (pop1 10 10 S O).2 p true).2.2.2.2.2
def gRd (T : Int → Int) (n : Int) (G : Mm) (S : List Int) (O : List St5) (p : Int) (w : Bool) : Jr5 := if (gAh T n 7 S p w).1 ≠ 0 then ((gAh T n 7 S p w).1, (gAh T n 7 S p w).2.1, 0, [], O, p, w)
  else if (gFa T n G (gAh T n 7 S p w).2.2.2.1 (gAh T n 7 S p w).2.2.2.2).1 ≠ 0 then ((gFa T n G (gAh T n 7 S p w).2.2.2.1 (gAh T n 7 S p w).2.2.2.2).1, (gFa T n G (gAh T n 7 S p w).2.2.2.1 (gAh T n 7 S p w).2.2.2.2).2.1, 0, [], O, p, w)
  else gAf T n (gAh T n 7 S p w).2.2.1 (O ++ [(gFa T n G (gAh T n 7 S p w).2.2.2.1 (gAh T n 7 S p w).2.2.2.2).2.2.1]) (gFa T n G (gAh T n 7 S p w).2.2.2.1 (gAh T n 7 S p w).2.2.2.2).2.2.2
abbrev Te5 : Type := Int × Int × List St5 × Int × Bool
def gTe (T : Int → Int) (n : Int) (G : Mm) : Nat → List Int → List St5 → Int → Bool → Te5
  | 0, _, O, p, w => (0, 0, O, p, w)
  | f + 1, S, O, p, w => if (gRd T n G S O p w).1 ≠ 0 then ((gRd T n G S O p w).1, (gRd T n G S O p w).2.1, O, p, w) else if (gRd T n G S O p w).2.2.1 = 1 then gTe T n G f (gRd T n G S O p w).2.2.2.1 (gRd T n G S O p w).2.2.2.2.1 (gRd T n G S O p w).2.2.2.2.2.1 (gRd T n G S O p w).2.2.2.2.2.2
    else (0, 0, (gRd T n G S O p w).2.2.2.2.1, (gRd T n G S O p w).2.2.2.2.2.1, (gRd T n G S O p w).2.2.2.2.2.2)
/-- what is true behind a round -/
def jK (G : Mm) (bl n p : Int) (r : Jr5) : Prop := (r.1 = 0 ∧ ((r.2.2.1 = 1 ∧ vT G 0 r.2.2.2.1 r.2.2.2.2.1 ∧ 3 * (bl + r.2.2.2.2.1.length + noT r.2.2.2.1) ≤ r.2.2.2.2.2.1 ∧ (p + 1 ≤ r.2.2.2.2.2.1 ∧ r.2.2.2.2.2.1 ≤ n)) ∨ (r.2.2.1 = 0 ∧ wD r.2.2.2.2.1 0 1 ∧ (∀ s ∈ r.2.2.2.2.1, sV (G 4 0) s) ∧ 3 * (bl + r.2.2.2.2.1.length) + 2 ≤ r.2.2.2.2.2.1 ∧ (p ≤ r.2.2.2.2.2.1 ∧ r.2.2.2.2.2.1 ≤ n)))) ∨ (1 ≤ r.1 ∧ r.1 ≤ 5)
theorem gJn_k {T : Int → Int} {n p bl : Int} {w : Bool} {G : Mm} {S : List Int} {O : List St5} (hp : p ≤ n) (h : vT G 1 S O) (h0 : hI S ≠ 10) (hN : 3 * (bl + O.length + noT S) + 2 ≤ p) : jK G bl n p (gJn T n S O p w) := by
  have pe := (tEn_s (T := T) hp).2.1
  unfold gJn
  by_cases c1 : tKi T n p w = 1 ∧ tVa T n p = 48365568
  · rw [if_pos c1]
    obtain ⟨k1, k2, k3, k4⟩ := pop1_k (G := G) (lo := 11) (hi := 11) (by decide) (by decide) S O h
    have k5 := pop1_n10 (lo := 11) (hi := 11) (by decide) (by decide) S O h.1 h0
    have ad := tAdv (T := T) (w := w) hp (by rw [c1.1]; decide)
    obtain ⟨b1, b2, b3, b4⟩ := k1
    have en : nsT (11 :: (pop1 11 11 S O).1) = 0 + nsT (pop1 11 11 S O).1 := by show (if _ then _ else _) + _ = _; rw [if_neg (by decide)]
    have ej : njT (11 :: (pop1 11 11 S O).1) = 1 + njT (pop1 11 11 S O).1 := by show (if _ then _ else _) + _ = _; rw [if_pos (.inl rfl)]
    have eo : noT (11 :: (pop1 11 11 S O).1) = 1 + noT (pop1 11 11 S O).1 := by show (if _ then _ else _) + _ = _; rw [if_neg (by decide)]
    refine .inl ⟨rfl, .inl ⟨rfl, ⟨⟨.inr (.inl rfl), fun _ => ⟨by omega, k5⟩, fun q => absurd q (by decide), b1⟩, by show nsT (11 :: (pop1 11 11 S O).1) ≤ 6; omega, ?_, b4⟩, ?_, by show p + 1 ≤ tEn T n p; exact ad, pe⟩⟩
    · show wD (pop1 11 11 S O).2 0 (njT (11 :: (pop1 11 11 S O).1) + 0)
      rw [ej, show 1 + njT (pop1 11 11 S O).1 + 0 = njT (pop1 11 11 S O).1 + 1 by omega]
      exact b3
    · show 3 * (bl + (pop1 11 11 S O).2.length + noT (11 :: (pop1 11 11 S O).1)) ≤ tEn T n p
      omega
  · rw [if_neg c1]
    obtain ⟨k1, k2, k3, k4⟩ := pop1_k (G := G) (lo := 11) (hi := 12) (by decide) (by decide) S O h
    have k5 := pop1_n10 (lo := 11) (hi := 12) (by decide) (by decide) S O h.1 h0
    obtain ⟨b1, b2, b3, b4⟩ := k1
    by_cases c2 : tKi T n p w = 1 ∧ tVa T n p = 522190848
    · rw [if_pos c2]
      have ad := tAdv (T := T) (w := w) hp (by rw [c2.1]; decide)
      have en : nsT (12 :: (pop1 11 12 S O).1) = 0 + nsT (pop1 11 12 S O).1 := by show (if _ then _ else _) + _ = _; rw [if_neg (by decide)]
      have ej : njT (12 :: (pop1 11 12 S O).1) = 1 + njT (pop1 11 12 S O).1 := by show (if _ then _ else _) + _ = _; rw [if_pos (.inr rfl)]
      have eo : noT (12 :: (pop1 11 12 S O).1) = 1 + noT (pop1 11 12 S O).1 := by show (if _ then _ else _) + _ = _; rw [if_neg (by decide)]
      refine .inl ⟨rfl, .inl ⟨rfl, ⟨⟨.inr (.inr (.inl rfl)), fun q => absurd q (by decide), fun _ => ⟨k5, by omega, by omega⟩, b1⟩, by show nsT (12 :: (pop1 11 12 S O).1) ≤ 6; omega, ?_, b4⟩, ?_, by show p + 1 ≤ tEn T n p; exact ad, pe⟩⟩
      · show wD (pop1 11 12 S O).2 0 (njT (12 :: (pop1 11 12 S O).1) + 0)
        rw [ej, show 1 + njT (pop1 11 12 S O).1 + 0 = njT (pop1 11 12 S O).1 + 1 by omega]
        exact b3
      · show 3 * (bl + (pop1 11 12 S O).2.length + noT (12 :: (pop1 11 12 S O).1)) ≤ tEn T n p
        omega
    · rw [if_neg c2]
      by_cases c3 : (pop1 11 12 S O).1 = []
      · rw [if_pos c3]
        rw [c3] at b3 k2
        have z1 : njT [] = 0 := rfl
        have z2 : noT [] = 0 := rfl
        rw [z1] at b3
        refine .inl ⟨rfl, .inr ⟨rfl, b3, b4, ?_, Int.le_refl _, hp⟩⟩
        show 3 * (bl + (pop1 11 12 S O).2.length) + 2 ≤ p
        omega
      · rw [if_neg c3]; exact .inr ⟨by show (1 : Int) ≤ 1; decide, by show (1 : Int) ≤ 5; decide⟩
theorem jK_p {G : Mm} {bl n p p' : Int} {r : Jr5} (h : jK G bl n p r) (hp : p' ≤ p) : jK G bl n p' r := by
  rcases h with ⟨a, ⟨b1, b2, b3, b4⟩ | ⟨b1, b2, b3, b4, b5⟩⟩ | h
  · exact .inl ⟨a, .inl ⟨b1, b2, b3, by omega⟩⟩
  · exact .inl ⟨a, .inr ⟨b1, b2, b3, b4, by omega⟩⟩
  · exact .inr h
theorem gAf_k {T : Int → Int} {n p bl : Int} {G : Mm} {S : List Int} {O : List St5} (hn : n ≤ 1000) (h1 : 1 ≤ p) (hp : p ≤ n) (h : vT G 1 S O) (hN : 3 * (bl + O.length + noT S) + 2 ≤ p) : jK G bl n p (gAf T n S O p) := by
  obtain ⟨k1, k2, k3, k4⟩ := pop1_k (G := G) (lo := 10) (hi := 10) (by decide) (by decide) S O h
  unfold gAf
  by_cases c : (gCz T n 1000 (pop1 10 10 S O).1 (pop1 10 10 S O).2 p true).1 ≠ 0
  · rw [if_pos c]
    rcases gCz_k (T := T) (G := G) hn 1000 (pop1 10 10 S O).1 (pop1 10 10 S O).2 p true 0 (by omega) (by omega) hp k1 (by omega) with x | x
    · exact absurd x.1 c
    · exact .inr ⟨by show 1 ≤ (gCz T n 1000 (pop1 10 10 S O).1 (pop1 10 10 S O).2 p true).1; omega, by show (gCz T n 1000 (pop1 10 10 S O).1 (pop1 10 10 S O).2 p true).1 ≤ 5; omega⟩
  · rw [if_neg c]
    rcases gCz_k (T := T) (G := G) hn 1000 (pop1 10 10 S O).1 (pop1 10 10 S O).2 p true 0 (by omega) (by omega) hp k1 (by omega) with ⟨y1, y2, y3, y4, y5⟩ | y
    · exact jK_p (gJn_k y4.2 y2 y3 (by omega)) y4.1
    · omega
theorem gRd_k {T : Int → Int} {n p bl : Int} {w : Bool} {G : Mm} {S : List Int} {O : List St5} (hg : gLn G) (hn : n ≤ 1000) (h1 : 1 ≤ p) (hp : p ≤ n) (h : vT G 0 S O) (hN : 3 * (bl + O.length + noT S) ≤ p) : jK G bl n p (gRd T n G S O p w) := by
  have nn := nsT_nn S
  have ak := gAh_k (T := T) (n := n) (G := G) (O := O) 7 S p w (by omega) hp h
  unfold gRd
  by_cases c1 : (gAh T n 7 S p w).1 ≠ 0
  · rw [if_pos c1]
    rcases ak with a | a
    · exact absurd a.1 c1
    · exact .inr ⟨by show 1 ≤ (gAh T n 7 S p w).1; omega, by show (gAh T n 7 S p w).1 ≤ 5; omega⟩
  · rw [if_neg c1]
    rcases ak with ⟨a1, a2, a3, a4, a5⟩ | a
    · have fk := gFa_k (T := T) (w := (gAh T n 7 S p w).2.2.2.2) hg a3
      by_cases c2 : (gFa T n G (gAh T n 7 S p w).2.2.2.1 (gAh T n 7 S p w).2.2.2.2).1 ≠ 0
      · rw [if_pos c2]
        rcases fk with x | x
        · exact absurd x.1 c2
        · exact .inr x
      · rw [if_neg c2]
        rcases fk with ⟨x1, x2, x3, x4, x5⟩ | x
        · obtain ⟨b1, b2, b3, b4⟩ := a2
          have l20 := okA_20 b1 b2
          have jl := njT_len (gAh T n 7 S p w).2.2.1
          have jn := nsT_nn (gAh T n 7 S p w).2.2.1
          have ol : ((O ++ [(gFa T n G (gAh T n 7 S p w).2.2.2.1 (gAh T n 7 S p w).2.2.2.2).2.2.1]).length : Int) = O.length + 1 := by rw [List.length_append]; show ((O.length + 1 : Nat) : Int) = _; omega
          refine jK_p (gAf_k hn (by omega) x5 ⟨b1, b2, ?_, fun s hs => ?_⟩ (by omega)) (show p ≤ _ by omega)
          · exact wD_snoc (.inr (.inr ⟨x3, by omega, by omega⟩)) O 0 b3
          · rcases List.mem_append.mp hs with q | q
            · exact b4 s q
            · rw [List.mem_singleton.mp q]; exact x2
        · omega
    · omega
theorem gTe_k {T : Int → Int} {n bl : Int} {G : Mm} (hg : gLn G) (hn : n ≤ 1000) : ∀ (f : Nat) (S : List Int) (O : List St5) (p : Int) (w : Bool) (x1 : Int), x1 + f = 1000 → 0 ≤ x1 → x1 + 1 ≤ p → p ≤ n → vT G 0 S O → 3 * (bl + O.length + noT S) ≤ p → ((gTe T n G f S O p w).1 = 0 ∧ wD (gTe T n G f S O p w).2.2.1 0 1 ∧ (∀ s ∈ (gTe T n G f S O p w).2.2.1, sV (G 4 0) s) ∧ 3 * (bl + (gTe T n G f S O p w).2.2.1.length) + 2 ≤ (gTe T n G f S O p w).2.2.2.1 ∧ (gTe T n G f S O p w).2.2.2.1 ≤ n) ∨ (1 ≤ (gTe T n G f S O p w).1 ∧ (gTe T n G f S O p w).1 ≤ 5)
  | 0, S, O, p, w, x1, hf, h0, h1, hp, h, hN => by omega
  | f + 1, S, O, p, w, x1, hf, h0, h1, hp, h, hN => by
    have rk := gRd_k (T := T) (w := w) hg hn (by omega) hp h hN
    unfold gTe
    by_cases c : (gRd T n G S O p w).1 ≠ 0
    · rw [if_pos c]
      rcases rk with a | a
      · exact absurd a.1 c
      · exact .inr a
    · rw [if_neg c]
      rcases rk with ⟨a, ⟨b1, b2, b3, b4⟩ | ⟨b1, b2, b3, b4, b5⟩⟩ | a
      · rw [if_pos b1]
        exact gTe_k hg hn f _ _ _ _ (x1 + 1) (by omega) (by omega) (by omega) b4.2 b2 b3
      · rw [if_neg (by omega)]
        exact .inl ⟨rfl, b2, b3, b4, b5.2⟩
      · omega
