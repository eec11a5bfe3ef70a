/-! LAYER 3: the class finds the least -/
def cLl (G : Mm) (M : Mm) : Prop := ∀ c, 4 ≤ c → c ≤ 11 → M (c + 10) = G c
def cLp (G : Mm) (q : Lpq) (M : Mm) : Prop := cLl G M ∧ (∀ s, 0 ≤ s → s < G 4 1 → M 22 s = (if q.1 s = 1000000 then 0 else q.1 s) ∧ (q.1 s ≠ 1000000 → M 23 s = q.2 s))
def f23 (M M' : Mm) : Prop := ∀ c, c ≠ 22 → c ≠ 23 → M' c = M c
theorem f23_trans {M M' M'' : Mm} (h : f23 M M') (h' : f23 M' M'') : f23 M M'' := fun c a b => by rw [h' c a b, h c a b]
theorem cLl_fr {G M M' : Mm} (h : cLl G M) (f : f23 M M') : cLl G M' := fun c c1 c2 => by rw [f (c + 10) (by omega) (by omega), h c c1 c2]
theorem szL_inf {G : Mm} {L : Int → Int} {l : Int} : ∀ (m i : Nat), i ≤ m → szL G L l i = 1000000 → szL G L l m = 1000000
  | 0, i, hi, h => by rw [show i = 0 by omega] at h; exact h
  | m + 1, i, hi, h => by
    by_cases e : i = m + 1
    · rw [← e]; exact h
    · have ih := szL_inf m i (by omega) h
      unfold szL
      rw [if_pos (.inl ih)]
theorem x_need14 {d : Nat} {M G : Mm} {K : Kt} {l : Int} (hg : gLn G) (hx : cLl G M) (h0 : 0 ≤ l) (h1 : l < G 4 0) (hK : K (gNeed G l) M) : zSp (d + 1) 29 [.inr (.inr 14), .inl l] M K := by
  obtain ⟨_, _, _, c3, c4, _⟩ := hg.2.1 l h0 h1
  have c0 := hg.1
  have e8 : M (14 + 4) = G 8 := hx 8 (by decide) (by decide)
  have e9 : M (14 + 5) = G 9 := hx 9 (by decide) (by decide)
  unfold gNeed at hK
  rw [me_29]
  simp only [show zObj 14 2 = true from rfl, show zArr (14 + 5) 3 = true from rfl, show zArr (14 + 4) 0 = true from rfl, show zLen (14 + 5) = 24 from rfl, show zLen (14 + 4) = 24 from rfl, zC_t, e8, e9]
  refine zC_i (by first | assumption | decide | exact zr (by omega) (by omega) | exact zs (by omega) (by omega) | exact zd (by omega) (by omega)) (zC_i (by first | assumption | decide | exact zr (by omega) (by omega) | exact zs (by omega) (by omega) | exact zd (by omega) (by omega)) ⟨fun c => ?_, fun c => ?_⟩)
  · refine zC_i (by first | assumption | decide | exact zr (by omega) (by omega) | exact zs (by omega) (by omega) | exact zd (by omega) (by omega)) ?_
    rw [show G 8 l = G 8 l - G 9 l by omega]
    exact hK
  · refine zC_i (by first | assumption | decide | exact zr (by omega) (by omega) | exact zs (by omega) (by omega) | exact zd (by omega) (by omega)) ?_
    rw [show G 8 l - 1 = G 8 l - G 9 l by omega]
    exact hK
theorem x_better_l {d : Nat} {M G : Mm} {q : Lpq} {K : Kt} {l : Int} (hg : gLn G) (hv : ivL G q) (hc : cLp G q M) (h0 : 0 ≤ l) (h1 : l < G 4 0) (hK : ∀ M', cLp G (stL G q l) M' → f23 M M' → K 0 M') : ∀ (m i : Nat) (x2 x3 : Int) (u : Option Vl), i + m = (gNeed G l).toNat → x2 = szL G q.1 l i → x3 = i → x2 ≠ 1000000 → zWp (zSp (d + 1)) 32 K 4 [some (.inr (.inr 14)), some (.inl l), some (.inl x2), some (.inl x3), u] [] M
  | 0, i, x2, x3, u, hm, e2, e3, hn => by
    have c0 := hg.1
    have hb := ivL_b hv
    have nb := gNeed_b hg h0 h1
    have gs := (hg.2.1 l h0 h1).2.2.1
    have zb := szA_b hg hb h0 h1
    have ez : x2 = szA G q.1 l := by rw [e2]; unfold szA; rw [show i = (gNeed G l).toNat by omega]
    have e17 : M (14 + 3) = G 7 := hc.1 7 (by decide) (by decide)
    obtain ⟨cs1, cs2⟩ := hc.2 _ gs.1 gs.2
    have lb := hb _ gs.1 (by omega)
    have set : ∀ x4, (szA G q.1 l ≠ 1000000 ∧ (szA G q.1 l < q.1 (G 7 l) ∨ (szA G q.1 l = q.1 (G 7 l) ∧ l < q.2 (G 7 l)))) → zWp (zSp (d + 1)) 32 K 85 [some (.inr (.inr 14)), some (.inl l), some (.inl x2), some (.inl (G 7 l)), some (.inl x4)] [] M := by
      intro x4 cc
      rw [fe_32_85]
      have sm : zSm (G 7 l) 6 = true := zs (by omega) (by omega)
      refine zC_i rfl (zC_i rfl (zC_i sm (zC_i rfl (zC_i rfl (zC_i sm ?_)))))
      unfold stL at hK
      rw [if_pos cc] at hK
      refine hK _ ⟨fun c c1 c2 => ?_, fun s s0 s1 => ?_⟩ (fun c a b => ?_)
      · rw [zUp_away (by omega), zUp_away (by omega), hc.1 c c1 c2]
      · show (zUp (zUp M (14 + 8) (G 7 l) x2) (14 + 9) (G 7 l) l) 22 s = (if (upI q.1 (G 7 l) (szA G q.1 l)) s = 1000000 then 0 else (upI q.1 (G 7 l) (szA G q.1 l)) s) ∧ ((upI q.1 (G 7 l) (szA G q.1 l)) s ≠ 1000000 → (zUp (zUp M (14 + 8) (G 7 l) x2) (14 + 9) (G 7 l) l) 23 s = (upI q.2 (G 7 l) l) s)
        rw [zUp_away (show (22 : Nat) ≠ 14 + 9 by decide)]
        by_cases e : s = G 7 l
        · rw [e, upI_h, upI_h, if_neg cc.1]
          exact ⟨by rw [show (zUp M (14 + 8) (G 7 l) x2) 22 (G 7 l) = x2 from zUp_here, ez], fun _ => zUp_here⟩
        · rw [upI_t e, upI_t e, show (zUp M (14 + 8) (G 7 l) x2) 22 s = M 22 s from zUp_there e, show (zUp (zUp M (14 + 8) (G 7 l) x2) (14 + 9) (G 7 l) l) 23 s = (zUp M (14 + 8) (G 7 l) x2) 23 s from zUp_there e, zUp_away (show (23 : Nat) ≠ 14 + 8 by decide)]
          exact hc.2 s s0 s1
      · rw [zUp_away b, zUp_away a]
    have keep : ¬ (szA G q.1 l ≠ 1000000 ∧ (szA G q.1 l < q.1 (G 7 l) ∨ (szA G q.1 l = q.1 (G 7 l) ∧ l < q.2 (G 7 l)))) → K 0 M := by
      intro cc
      unfold stL at hK
      rw [if_neg cc] at hK
      exact hK M hc (fun _ _ _ => rfl)
    rw [fe_32_4]
    refine zC_i rfl (x_need14 hg hc.1 h0 h1 ?_)
    refine zC_i (zr (by omega) (by omega)) (zC_i (zr (by omega) (by omega)) ⟨fun _ => ?_, fun c => absurd (by omega) c⟩)
    rw [e17, show M (14 + 8) (G 7 l) = (if q.1 (G 7 l) = 1000000 then 0 else q.1 (G 7 l)) from cs1]
    have sm : zSm (G 7 l) 6 = true := zs (by omega) (by omega)
    refine zC_i rfl (zC_i rfl (zC_i (zs h0 (show l < 24 by omega)) (zC_i rfl (zC_i rfl (zC_i sm ?_)))))
    by_cases n : q.1 (G 7 l) = 1000000
    · rw [if_pos n]
      exact zC_i (by decide) ⟨fun _ => set _ ⟨by omega, .inl (by omega)⟩, fun c => absurd rfl c⟩
    · rw [if_neg n]
      refine zC_i (zr (by omega) (by omega)) ⟨fun c => absurd c (by omega), fun _ => zC_i (zr (by omega) (by omega)) (zC_i (zr (by omega) (by omega)) ⟨fun c => set _ ⟨by omega, .inl (by omega)⟩, fun c => ?_⟩)⟩
      refine zC_i (zr (by omega) (by omega)) (zC_i (zr (by omega) (by omega)) ⟨fun c2 => keep (by omega), fun c2 => ?_⟩)
      have pl := (hv.2 _ gs.1 (by omega) n).1
      rw [show M (14 + 9) (G 7 l) = q.2 (G 7 l) from cs2 n]
      refine zC_i rfl (zC_i rfl (zC_i sm (zC_i (zr (by omega) (by omega)) (zC_i (zr (by omega) (by omega)) ⟨fun c3 => keep (by omega), fun c3 => set _ ⟨by omega, .inr ⟨by omega, by omega⟩⟩⟩))))
  | m + 1, i, x2, x3, u, hm, e2, e3, hn => by
    have c0 := hg.1
    have hb := ivL_b hv
    have nb := gNeed_b hg h0 h1
    have p := gPr (i := i) hg h0 h1 (by omega)
    have e16 : M (14 + 6) = G 10 := hc.1 10 (by decide) (by decide)
    obtain ⟨cs1, cs2⟩ := hc.2 _ p.1 p.2.1
    have lb := hb _ p.1 p.2.2
    have sb := szL_b (G := G) (l := l) hb i (fun j hj => by have := gPr (i := j) hg h0 h1 (by omega); omega) (by omega)
    rw [fe_32_4]
    refine zC_i rfl (x_need14 hg hc.1 h0 h1 ?_)
    refine zC_i (zr (by omega) (by omega)) (zC_i (zr (by omega) (by omega)) ⟨fun c => absurd c (by omega), fun _ => ?_⟩)
    refine zC_i rfl (zC_i rfl ?_)
    rw [me_28, e3, e16]
    refine zC_i rfl (zC_i rfl (zC_i (zs (by omega) (show l * 4 + (i : Int) < 96 by omega)) ?_))
    rw [show M (14 + 8) (G 10 (l * 4 + i)) = (if q.1 (G 10 (l * 4 + i)) = 1000000 then 0 else q.1 (G 10 (l * 4 + i))) from cs1]
    refine zC_i rfl (zC_i (zs p.1 p.2.2) ?_)
    by_cases n : q.1 (G 10 (l * 4 + i)) = 1000000
    · rw [if_pos n]
      refine zC_i (by decide) ⟨fun c => absurd rfl c, fun _ => ?_⟩
      have inf : szA G q.1 l = 1000000 := by
        refine szL_inf (G := G) (L := q.1) (l := l) (gNeed G l).toNat (i + 1) (by omega) ?_
        unfold szL
        rw [if_pos (.inr n)]
      unfold stL at hK
      rw [if_neg (fun cc => cc.1 inf)] at hK
      exact hK M hc (fun _ _ _ => rfl)
    · rw [if_neg n]
      refine zC_i (zr (by omega) (by omega)) ⟨fun _ => ?_, fun c => absurd (by omega) c⟩
      have es : szL G q.1 l (i + 1) = x2 + q.1 (G 10 (l * 4 + i)) := by
        rw [e2]
        show (if _ then _ else _) = _
        rw [if_neg (by omega)]
      exact x_better_l hg hv hc h0 h1 hK m (i + 1) _ _ _ (by omega) es.symm (by omega) (by omega)
theorem x_better {d : Nat} {M G : Mm} {q : Lpq} {K : Kt} {l : Int} (hg : gLn G) (hv : ivL G q) (hc : cLp G q M) (h0 : 0 ≤ l) (h1 : l < G 4 0) (hK : ∀ M', cLp G (stL G q l) M' → f23 M M' → K 0 M') : zSp (d + 2) 32 [.inr (.inr 14), .inl l] M K := by
  rw [me_32]
  exact x_better_l hg hv hc h0 h1 hK (gNeed G l).toNat 0 1 0 none (by omega) rfl rfl (by decide)
theorem x_lines40 {d : Nat} {G : Mm} {K : Kt} {x1 : Int} (hg : gLn G) : ∀ (m : Nat) (l : Int) (q : Lpq) (M : Mm), 0 ≤ l → l + m = G 4 0 → ivL G q → cLp G q M → (∀ M' x2, cLp G (lnL G m l q) M' → f23 M M' → zWp (zSp (d + 2)) 31 K 32 [some (.inr (.inr 14)), some (.inl (x1 + 1)), some (.inl x2)] [] M') → zWp (zSp (d + 2)) 31 K 40 [some (.inr (.inr 14)), some (.inl x1), some (.inl l)] [] M
  | 0, l, q, M, h0, hm, hv, hc, hK => by
    have c0 := hg.1
    have e14 : M 14 0 = G 4 0 := by rw [hc.1 4 (by decide) (by decide)]
    rw [fe_31_40, e14]
    exact zC_i rfl (zC_i (zr (by omega) (by omega)) (zC_i (zr (by omega) (by omega)) ⟨fun _ => hK M _ hc (fun _ _ _ => rfl), fun c => absurd (by omega) c⟩))
  | m + 1, l, q, M, h0, hm, hv, hc, hK => by
    have c0 := hg.1
    have e14 : M 14 0 = G 4 0 := by rw [hc.1 4 (by decide) (by decide)]
    rw [fe_31_40, e14]
    refine zC_i rfl (zC_i (zr (by omega) (by omega)) (zC_i (zr (by omega) (by omega)) ⟨fun c => absurd c (by omega), fun _ => zC_i rfl ?_⟩))
    refine x_better hg hv hc h0 (by omega) ?_
    intro M1 f1 f2
    exact x_lines40 hg m (l + 1) _ M1 (by omega) (by omega) (stL_k hg hv h0 (by omega)).1 f1 (fun M' x2 a b => hK M' x2 a (f23_trans f2 b))
theorem x_rounds32 {d : Nat} {G : Mm} {K : Kt} (hg : gLn G) : ∀ (m r : Nat) (x1 : Int) (M : Mm) (u : Option Vl), r + m = 6 → x1 = r → cLp G (roL G r q0L) M → (∀ M' u, cLp G (roL G 6 q0L) M' → f23 M M' → zWp (zSp (d + 2)) 31 K 67 [some (.inr (.inr 14)), some (.inl 0), u] [] M') → zWp (zSp (d + 2)) 31 K 32 [some (.inr (.inr 14)), some (.inl x1), u] [] M
  | 0, r, x1, M, u, hm, e1, hc, hK => by
    rw [fe_31_32]
    refine zC_i (zr (by omega) (by omega)) ⟨fun _ => ?_, fun c => absurd (by omega) c⟩
    rw [show r = 6 by omega] at hc
    exact hK M u hc (fun _ _ _ => rfl)
  | m + 1, r, x1, M, u, hm, e1, hc, hK => by
    have c0 := hg.1
    rw [fe_31_32]
    refine zC_i (zr (by omega) (by omega)) ⟨fun c => absurd c (by omega), fun _ => ?_⟩
    refine x_lines40 hg (G 4 0).toNat 0 (roL G r q0L) M (by omega) (by omega) (roL_k hg r) hc ?_
    intro M1 x2 f1 f2
    exact x_rounds32 hg m (r + 1) _ M1 _ (by omega) (by omega) f1 (fun M' u a b => hK M' u a (f23_trans f2 b))
theorem x_check67 {d : Nat} {G : Mm} {q : Lpq} {K : Kt} {M : Mm} {u : Option Vl} (hg : gLn G) (hv : ivL G q) (hc : cLp G q M) (hK1 : (∀ s, 0 ≤ s → s < G 4 1 → q.1 s ≠ 1000000) → K 1 M) (hK0 : (∃ s, (0 ≤ s ∧ s < G 4 1) ∧ q.1 s = 1000000) → K 0 M) : ∀ (m : Nat) (i : Int), 0 ≤ i → i + m = G 4 1 → (∀ s, 0 ≤ s → s < i → q.1 s ≠ 1000000) → zWp (zSp d) 31 K 67 [some (.inr (.inr 14)), some (.inl i), u] [] M
  | 0, i, h0, hm, ho => by
    have c0 := hg.1
    have e14 : M 14 1 = G 4 1 := by rw [hc.1 4 (by decide) (by decide)]
    rw [fe_31_67, e14]
    exact zC_i rfl (zC_i (zr (by omega) (by omega)) (zC_i (zr (by omega) (by omega)) ⟨fun _ => hK1 (fun s s0 s1 => ho s s0 (by omega)), fun c => absurd (by omega) c⟩))
  | m + 1, i, h0, hm, ho => by
    have c0 := hg.1
    have e14 : M 14 1 = G 4 1 := by rw [hc.1 4 (by decide) (by decide)]
    have lb := ivL_b hv i h0 (by omega)
    have e := (hc.2 i h0 (by omega)).1
    rw [fe_31_67, e14, show M (14 + 8) i = (if q.1 i = 1000000 then 0 else q.1 i) from e]
    refine zC_i rfl (zC_i (zr (by omega) (by omega)) (zC_i (zr (by omega) (by omega)) ⟨fun c => absurd c (by omega), fun _ => zC_i rfl (zC_i rfl (zC_i (zs h0 (show i < 6 by omega)) ?_))⟩))
    by_cases n : q.1 i = 1000000
    · rw [if_pos n]
      exact zC_i (by decide) ⟨fun c => absurd rfl c, fun _ => hK0 ⟨i, ⟨h0, by omega⟩, n⟩⟩
    · rw [if_neg n]
      refine zC_i (zr (by omega) (by omega)) ⟨fun _ => ?_, fun c => absurd (by omega) c⟩
      refine x_check67 hg hv hc hK1 hK0 m (i + 1) (by omega) (by omega) (fun s s0 s1 => ?_)
      by_cases e : s = i
      · rw [e]; exact n
      · exact ho s s0 (by omega)
theorem x_clear2 {d : Nat} {G : Mm} {K : Kt} (hg : gLn G) : ∀ (m : Nat) (i : Int) (M : Mm), 0 ≤ i → i + m = G 4 1 → cLl G M → (∀ s, 0 ≤ s → s < i → M 22 s = 0) → (∀ M', cLp G q0L M' → f23 M M' → zWp (zSp d) 31 K 32 [some (.inr (.inr 14)), some (.inl 0), none] [] M') → zWp (zSp d) 31 K 2 [some (.inr (.inr 14)), some (.inl i), none] [] M
  | 0, i, M, h0, hm, hc, ho, hK => by
    have c0 := hg.1
    have e14 : M 14 1 = G 4 1 := by rw [hc 4 (by decide) (by decide)]
    rw [fe_31_2, e14]
    exact zC_i rfl (zC_i (zr (by omega) (by omega)) (zC_i (zr (by omega) (by omega)) ⟨fun _ => hK M ⟨hc, fun s s0 s1 => ⟨ho s s0 (by omega), fun n => absurd rfl n⟩⟩ (fun _ _ _ => rfl), fun c => absurd (by omega) c⟩))
  | m + 1, i, M, h0, hm, hc, ho, hK => by
    have c0 := hg.1
    have e14 : M 14 1 = G 4 1 := by rw [hc 4 (by decide) (by decide)]
    rw [fe_31_2, e14]
    have sm : zSm i 6 = true := zs h0 (by omega)
    refine zC_i rfl (zC_i (zr (by omega) (by omega)) (zC_i (zr (by omega) (by omega)) ⟨fun c => absurd c (by omega), fun _ => zC_i rfl (zC_i rfl (zC_i sm (zC_i rfl (zC_i rfl (zC_i sm ?_)))))⟩))
    have ff : f23 M (zUp (zUp M (14 + 8) i 0) (14 + 9) i (-1)) := fun c a b => by rw [zUp_away b, zUp_away a]
    refine x_clear2 hg m (i + 1) _ (by omega) (by omega) (cLl_fr hc ff) (fun s s0 s1 => ?_) (fun M' a b => hK M' a (f23_trans ff b))
    rw [zUp_away (show (22 : Nat) ≠ 14 + 9 by decide)]
    by_cases e : s = i
    · rw [e]; exact zUp_here
    · rw [show (zUp M (14 + 8) i 0) 22 s = M 22 s from zUp_there e]
      exact ho s s0 (by omega)
theorem x_findLeast {d : Nat} {G M : Mm} {K : Kt} (hg : gLn G) (hc : cLl G M) (hK1 : ∀ M', (∀ s, 0 ≤ s → s < G 4 1 → (roL G 6 q0L).1 s ≠ 1000000) → cLp G (roL G 6 q0L) M' → f23 M M' → K 1 M') (hK0 : ∀ M', (∃ s, (0 ≤ s ∧ s < G 4 1) ∧ (roL G 6 q0L).1 s = 1000000) → f23 M M' → K 0 M') : zSp (d + 3) 31 [.inr (.inr 14)] M K := by
  have c0 := hg.1
  rw [me_31]
  refine x_clear2 hg (G 4 1).toNat 0 M (by omega) (by omega) hc (fun s s0 s1 => by omega) ?_
  intro M1 f1 f2
  refine x_rounds32 hg 6 0 0 M1 none (by omega) rfl f1 ?_
  intro M2 u g1 g2
  have ff := f23_trans f2 g2
  exact x_check67 hg (roL_k hg 6) g1 (fun a => hK1 M2 a g1 ff) (fun a => hK0 M2 a ff) (G 4 1).toNat 0 (by omega) (by omega) (fun s s0 s1 => by omega)
