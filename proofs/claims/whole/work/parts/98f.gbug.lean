/-! LAYER 3: a test's text, pure -/
def nsT : List Int → Int
  | [] => 0
  | s :: S => (if s = 10 ∨ s = 13 then 1 else 0) + nsT S
def noT : List Int → Int
  | [] => 0
  | s :: S => (if s = 13 then 0 else 1) + noT S
def njT : List Int → Int
  | [] => 0
  | s :: S => (if s = 11 ∨ s = 12 then 1 else 0) + njT S
def hI : List Int → Int
  | [] => 0
  | s :: _ => s
def okA : List Int → Prop
  | [] => True
  | x :: S => (x = 10 ∨ x = 11 ∨ x = 12 ∨ x = 13) ∧ (x = 11 → hI S ≠ 11 ∧ hI S ≠ 10) ∧ (x = 12 → hI S ≠ 10 ∧ hI S ≠ 11 ∧ hI S ≠ 12) ∧ okA S
def j5 (x : Int) : St5 := (x, 0, 0, 0, 0)
def pop1 (lo hi : Int) : List Int → List St5 → List Int × List St5
  | [], O => ([], O)
  | s :: S, O => if lo ≤ s ∧ s ≤ hi then pop1 lo hi S (O ++ [j5 s]) else (s :: S, O)
theorem nsT_nn : ∀ S : List Int, 0 ≤ nsT S ∧ 0 ≤ noT S ∧ 0 ≤ njT S
  | [] => ⟨Int.le_refl 0, Int.le_refl 0, Int.le_refl 0⟩
  | s :: S => by
    have ih := nsT_nn S
    unfold nsT noT njT
    refine ⟨?_, ?_, ?_⟩
    · split <;> omega
    · split <;> omega
    · split <;> omega
def boT (S : List Int) : Int := if hI S = 11 then 2 else if hI S = 12 then 1 else 0
theorem okA_len : ∀ S : List Int, okA S → (S.length : Int) ≤ 3 * nsT S + boT S
  | [], _ => by show (0 : Int) ≤ 3 * 0 + boT []; unfold boT hI; decide
  | x :: S, ⟨a1, a2, a3, a4⟩ => by
    have ih := okA_len S a4
    have e : ((x :: S).length : Int) = S.length + 1 := by show ((S.length + 1 : Nat) : Int) = _; omega
    have bb : boT S ≤ 2 := by unfold boT; split <;> (try split) <;> omega
    rw [e]
    unfold nsT
    rcases a1 with h | h | h | h
    · rw [if_pos (.inl h)]
      have : boT (x :: S) = 0 := by unfold boT hI; rw [h]; rfl
      omega
    · rw [if_neg (by omega)]
      have h1 : boT (x :: S) = 2 := by unfold boT hI; rw [h]; rfl
      have h2 : boT S ≤ 1 := by
        have := a2 h
        unfold boT
        rw [if_neg this.1]
        split <;> omega
      omega
    · rw [if_neg (by omega)]
      have h1 : boT (x :: S) = 1 := by unfold boT hI; rw [h]; rfl
      have h2 : boT S = 0 := by
        have := a3 h
        unfold boT
        rw [if_neg this.2.1, if_neg this.2.2]
      omega
    · rw [if_pos (.inr h)]
      have : boT (x :: S) = 0 := by unfold boT hI; rw [h]; rfl
      omega
theorem okA_20 {S : List Int} (h : okA S) (hn : nsT S ≤ 6) : (S.length : Int) ≤ 20 := by
  have := okA_len S h
  have bb : boT S ≤ 2 := by unfold boT; split <;> (try split) <;> omega
  omega
theorem njT_len : ∀ S : List Int, njT S ≤ S.length
  | [] => Int.le_refl 0
  | s :: S => by
    have ih := njT_len S
    unfold njT
    show _ ≤ ((S.length + 1 : Nat) : Int)
    split <;> omega
theorem pop1_stop {lo hi : Int} (h1 : 1 ≤ lo) : ∀ {S : List Int} {O : List St5}, ¬ (lo ≤ hI S ∧ hI S ≤ hi) → pop1 lo hi S O = (S, O)
  | [], _, _ => rfl
  | _ :: _, _, h => if_neg h
theorem pop1_12 {S : List Int} {O : List St5} (h : okA S) : pop1 12 12 (pop1 11 11 S O).1 (pop1 11 11 S O).2 = pop1 11 12 S O := by
  match S, h with
  | [], _ => rfl
  | s :: S, ⟨a1, a2, a3, a4⟩ =>
    have twelve : ∀ (R : List Int) (Q : List St5), okA R → hI R ≠ 11 → pop1 12 12 R Q = pop1 11 12 R Q := by
      intro R Q ha hn
      match R, ha, hn with
      | [], _, _ => rfl
      | y :: R, ⟨b1, b2, b3, b4⟩, hn =>
        have hn : y ≠ 11 := hn
        by_cases e : y = 12
        · have t := b3 e
          have e1 : pop1 12 12 (y :: R) Q = pop1 12 12 R (Q ++ [j5 y]) := if_pos (by omega)
          have e2 : pop1 11 12 (y :: R) Q = pop1 11 12 R (Q ++ [j5 y]) := if_pos (by omega)
          rw [e1, e2, pop1_stop (by decide) (by omega), pop1_stop (by decide) (by omega)]
        · rw [pop1_stop (S := y :: R) (by decide) (show ¬ (12 ≤ y ∧ y ≤ 12) by omega), pop1_stop (S := y :: R) (by decide) (show ¬ (11 ≤ y ∧ y ≤ 12) by omega)]
    by_cases e : s = 11
    · have t := a2 e
      have e1 : pop1 11 11 (s :: S) O = pop1 11 11 S (O ++ [j5 s]) := if_pos (by omega)
      have e2 : pop1 11 12 (s :: S) O = pop1 11 12 S (O ++ [j5 s]) := if_pos (by omega)
      rw [e1, e2, pop1_stop (lo := 11) (hi := 11) (by decide) (by omega)]
      exact twelve S _ a4 t.1
    · rw [pop1_stop (S := s :: S) (lo := 11) (hi := 11) (by decide) (show ¬ (11 ≤ s ∧ s ≤ 11) by omega)]
      exact twelve (s :: S) O ⟨a1, a2, a3, a4⟩ e
/-- from height h to height k -/
def wD : List St5 → Int → Int → Prop
  | [], h, k => h = k
  | s :: L, h, k => (s.1 = 10 → 1 ≤ h ∧ wD L h k) ∧ ((s.1 = 11 ∨ s.1 = 12) → 2 ≤ h ∧ wD L (h - 1) k) ∧ (s.1 ≤ 4 → h < 30 ∧ wD L (h + 1) k)
theorem wD_L : ∀ (O : List St5) (h : Int), wD O h 1 → wL O h
  | [], _, q => q
  | s :: L, h, ⟨a, b, c⟩ => ⟨fun e => ⟨(a e).1, wD_L L h (a e).2⟩, fun e => ⟨(b e).1, wD_L L (h - 1) (b e).2⟩, fun e => ⟨(c e).1, wD_L L (h + 1) (c e).2⟩⟩
def stK (s : St5) (k k' : Int) : Prop := (s.1 = 10 ∧ 1 ≤ k ∧ k' = k) ∨ ((s.1 = 11 ∨ s.1 = 12) ∧ 2 ≤ k ∧ k' = k - 1) ∨ (s.1 ≤ 4 ∧ k < 30 ∧ k' = k + 1)
theorem wD_snoc {s : St5} {k k' : Int} (hs : stK s k k') : ∀ (O : List St5) (h : Int), wD O h k → wD (O ++ [s]) h k'
  | [], h, q => by
    have q : h = k := q
    subst q
    show wD [s] h k'
    unfold stK at hs
    refine ⟨fun e => ⟨by omega, ?_⟩, fun e => ⟨by omega, ?_⟩, fun e => ⟨by omega, ?_⟩⟩
    · show h = k'; omega
    · show h - 1 = k'; omega
    · show h + 1 = k'; omega
  | x :: L, h, ⟨a, b, c⟩ => ⟨fun e => ⟨(a e).1, wD_snoc hs L h (a e).2⟩, fun e => ⟨(b e).1, wD_snoc hs L (h - 1) (b e).2⟩, fun e => ⟨(c e).1, wD_snoc hs L (h + 1) (c e).2⟩⟩
/-- e = 1: a fact has ended; e = 0: one is due -/
def vT (G : Mm) (e : Int) (S : List Int) (O : List St5) : Prop := okA S ∧ nsT S ≤ 6 ∧ wD O 0 (njT S + e) ∧ ∀ s ∈ O, sV (G 4 0) s
theorem sV_j {L s : Int} (h : 10 ≤ s ∧ s ≤ 12) : sV L (j5 s) := .inl (by show s = 10 ∨ s = 11 ∨ s = 12; omega)
theorem pop1_k {G : Mm} {lo hi : Int} (h1 : 10 ≤ lo) (h2 : hi ≤ 12) : ∀ (S : List Int) (O : List St5), vT G 1 S O → vT G 1 (pop1 lo hi S O).1 (pop1 lo hi S O).2 ∧ ((pop1 lo hi S O).2.length : Int) + noT (pop1 lo hi S O).1 = O.length + noT S ∧ ¬ (lo ≤ hI (pop1 lo hi S O).1 ∧ hI (pop1 lo hi S O).1 ≤ hi) ∧ (O.length : Int) ≤ (pop1 lo hi S O).2.length
  | [], O, h => ⟨h, rfl, by show ¬ (lo ≤ 0 ∧ 0 ≤ hi); omega, Int.le_refl _⟩
  | s :: S, O, ⟨⟨a1, a2, a3, a4⟩, hn, hw, hv⟩ => by
    have nn := nsT_nn S
    unfold pop1
    by_cases c : lo ≤ s ∧ s ≤ hi
    · rw [if_pos c]
      have en : nsT (s :: S) = (if s = 10 ∨ s = 13 then 1 else 0) + nsT S := rfl
      have ej : njT (s :: S) = (if s = 11 ∨ s = 12 then 1 else 0) + njT S := rfl
      have eo : noT (s :: S) = (if s = 13 then 0 else 1) + noT S := rfl
      rw [if_neg (by omega)] at eo
      have ol : ((O ++ [j5 s]).length : Int) = O.length + 1 := by rw [List.length_append]; show ((O.length + 1 : Nat) : Int) = _; omega
      have st : stK (j5 s) (njT (s :: S) + 1) (njT S + 1) := by
        unfold stK
        show (s = 10 ∧ _) ∨ ((s = 11 ∨ s = 12) ∧ _) ∨ (s ≤ 4 ∧ _)
        by_cases e : s = 10
        · rw [if_neg (by omega)] at ej
          exact .inl ⟨e, by omega, by omega⟩
        · rw [if_pos (by omega)] at ej
          exact .inr (.inl ⟨by omega, by omega, by omega⟩)
      have ih := pop1_k h1 h2 S (O ++ [j5 s]) ⟨a4, by split at en <;> omega, wD_snoc st O 0 hw, fun x hx => by
        rcases List.mem_append.mp hx with q | q
        · exact hv x q
        · rw [List.mem_singleton.mp q]
          exact sV_j (by omega)⟩
      exact ⟨ih.1, by omega, ih.2.2.1, by omega⟩
    · rw [if_neg c]
      exact ⟨⟨⟨a1, a2, a3, a4⟩, hn, hw, hv⟩, rfl, c, Int.le_refl _⟩
-- [ and not
abbrev Ar : Type := Int × Int × List Int × Int × Bool
def gAh (T : Int → Int) (n : Int) : Nat → List Int → Int → Bool → Ar
  | 0, S, p, w => (0, 0, S, p, w)
  | f + 1, S, p, w => if tKi T n p w = 1 ∧ tVa T n p = 486146048 then (if nsT S = 6 then (4, tQ T n p, S, p, w) else gAh T n f (10 :: S) (tEn T n p) true)
    else if tKi T n p w = 3 ∧ tVa T n p = 91 then (if nsT S = 6 then (4, tQ T n p, S, p, w) else gAh T n f (13 :: S) (tEn T n p) false) else (0, 0, S, p, w)
theorem wv_0 {T : Int → Int} {x : Int} : wV T x 0 = 0 ∧ ∃ a, wV T x 1 = a * 33554432 ∧ ∃ b, wV T x 2 = b * 1048576 := by
  refine ⟨?_, wv T x 1, ?_, wv T x 2, ?_⟩
  · unfold wV wv; decide
  · unfold wV; rw [show (32 : Int) ^ (6 - 1) = 33554432 by decide]
  · unfold wV; rw [show (32 : Int) ^ (6 - 2) = 1048576 by decide]
/-- a word of three letters or more -/
theorem tLen3 {T : Int → Int} {n p a : Int} {w : Bool} (hp : p ≤ n) (h : tKi T n p w = 1 ∧ tVa T n p = a) (ha : a % 1048576 ≠ 0) : p + 3 ≤ tEn T n p := by
  have tk := tok_1 h.1
  have sq := tQ_s (T := T) hp
  have k1 := tKi_1.mp h.1
  have sp := rq_spec (f := cL T) sq.2
  rw [tk.1]
  by_cases c : tQ T n p + 3 ≤ rq (cL T) n (tQ T n p)
  · omega
  · exfalso
    have v := tk.2
    rw [h.2] at v
    obtain ⟨w0, x, w1, y, w2⟩ := wv_0 (T := T) (x := tQ T n p)
    rcases (show (rq (cL T) n (tQ T n p) - tQ T n p).toNat = 0 ∨ (rq (cL T) n (tQ T n p) - tQ T n p).toNat = 1 ∨ (rq (cL T) n (tQ T n p) - tQ T n p).toNat = 2 by omega) with e | e | e
    · rw [e, w0] at v; omega
    · rw [e, w1] at v; omega
    · rw [e, w2] at v; omega
theorem gAh_k {T : Int → Int} {n : Int} {G : Mm} {O : List St5} : ∀ (f : Nat) (S : List Int) (p : Int) (w : Bool), (7 : Int) ≤ nsT S + f → p ≤ n → vT G 0 S O → ((gAh T n f S p w).1 = 0 ∧ vT G 0 (gAh T n f S p w).2.2.1 O ∧ (gAh T n f S p w).2.2.2.1 ≤ n ∧ p + 3 * (noT (gAh T n f S p w).2.2.1 - noT S) ≤ (gAh T n f S p w).2.2.2.1 ∧ p ≤ (gAh T n f S p w).2.2.2.1) ∨ (gAh T n f S p w).1 = 4
  | 0, S, p, w, hf, hp, h => by have := h.2.1; omega
  | f + 1, S, p, w, hf, hp, h => by
    obtain ⟨h1, h2, h3, h4⟩ := h
    have nn := nsT_nn S
    have pe := (tEn_s (T := T) hp).2.1
    unfold gAh
    by_cases c1 : tKi T n p w = 1 ∧ tVa T n p = 486146048
    · rw [if_pos c1]
      by_cases c2 : nsT S = 6
      · rw [if_pos c2]; exact .inr rfl
      · rw [if_neg c2]
        have l3 := tLen3 hp c1 (by decide)
        have en : nsT (10 :: S) = 1 + nsT S := by show (if _ then _ else _) + _ = _; rw [if_pos (.inl rfl)]
        have ej : njT (10 :: S) = 0 + njT S := by show (if _ then _ else _) + _ = _; rw [if_neg (by decide)]
        have eo : noT (10 :: S) = 1 + noT S := by show (if _ then _ else _) + _ = _; rw [if_neg (by decide)]
        rcases gAh_k (T := T) (n := n) (G := G) (O := O) f (10 :: S) (tEn T n p) true (by omega) pe ⟨⟨.inl rfl, fun q => absurd q (by decide), fun q => absurd q (by decide), h1⟩, by omega, by rw [ej, Int.zero_add]; exact h3, h4⟩ with ⟨b1, b2, b3, b4, b5⟩ | b
        · exact .inl ⟨b1, b2, b3, by omega, by omega⟩
        · exact .inr b
    · rw [if_neg c1]
      by_cases c3 : tKi T n p w = 3 ∧ tVa T n p = 91
      · rw [if_pos c3]
        by_cases c2 : nsT S = 6
        · rw [if_pos c2]; exact .inr rfl
        · rw [if_neg c2]
          have ad := tAdv (T := T) (w := w) hp (by rw [c3.1]; decide)
          have en : nsT (13 :: S) = 1 + nsT S := by show (if _ then _ else _) + _ = _; rw [if_pos (.inr rfl)]
          have ej : njT (13 :: S) = 0 + njT S := by show (if _ then _ else _) + _ = _; rw [if_neg (by decide)]
          have eo : noT (13 :: S) = 0 + noT S := by show (if _ then _ else _) + _ = _; rw [if_pos rfl]
          rcases gAh_k (T := T) (n := n) (G := G) (O := O) f (13 :: S) (tEn T n p) false (by omega) pe ⟨⟨.inr (.inr (.inr rfl)), fun q => absurd q (by decide), fun q => absurd q (by decide), h1⟩, by omega, by rw [ej, Int.zero_add]; exact h3, h4⟩ with ⟨b1, b2, b3, b4, b5⟩ | b
          · exact .inl ⟨b1, b2, b3, by omega, by omega⟩
          · exact .inr b
      · rw [if_neg c3]
        exact .inl ⟨rfl, ⟨h1, h2, h3, h4⟩, hp, by show p + 3 * (noT S - noT S) ≤ p; omega, Int.le_refl _⟩
