/-! LAYER 3: the reference finds the least -/
def rL (G : Mm) (q : Lpq) (M : Mm) : Prop := mR G M ∧ ∀ s, 0 ≤ s → s < 6 → M 164 s = q.1 s
def f64 (M M' : Mm) : Prop := ∀ c, c ≠ 164 → M' c = M c
theorem f64_trans {M M' M'' : Mm} (h : f64 M M') (h' : f64 M' M'') : f64 M M'' := fun c a => by rw [h' c a, h c a]
theorem mR_64 {G M M' : Mm} (h : mR G M) (f : f64 M M') : mR G M' := mR_fr h (f 159 (by decide)) (f 160 (by decide)) (f 161 (by decide))
theorem m_leastOf_l {d : Nat} {G M : Mm} {q : Lpq} {K : Kt} {l : Int} (hg : gLn G) (hb : bdL q.1) (hr : rL G q M) (h0 : 0 ≤ l) (h1 : l < G 4 0) (hK : K (szA G q.1 l) M) : ∀ (m i : Nat) (x2 x3 : Int) (u : Option Vl), i + m = (gNeed G l).toNat → x2 = szL G q.1 l i → x3 = i → zWp (zSp d) 167 K 4 [some (.inr (.inr 154)), some (.inl l), some (.inl x2), some (.inl x3), u] [] M
  | 0, i, x2, x3, u, hm, e2, e3 => by
    have c0 := hg.1
    have nb := gNeed_b hg h0 h1
    obtain ⟨_, _, _, a4, a5, a6⟩ := hr.1.2.2.1 l h0 h1
    have ez : x2 = szA G q.1 l := by rw [e2]; unfold szA; rw [show i = (gNeed G l).toNat by omega]
    rw [fe_167_4, a4, a5, ez, show G 8 l - G 9 l = gNeed G l from rfl]
    exact zC_i (zs (by omega) (by omega)) (zC_i (zs (by omega) (by omega)) (zC_i (zr (by omega) (by omega)) (zC_i (zr (by omega) (by omega)) ⟨fun _ => hK, fun c => absurd (by omega) c⟩)))
  | m + 1, i, x2, x3, u, hm, e2, e3 => by
    have c0 := hg.1
    have nb := gNeed_b hg h0 h1
    obtain ⟨_, _, _, a4, a5, a6⟩ := hr.1.2.2.1 l h0 h1
    have p := gPr (i := i) hg h0 h1 (by omega)
    have lb := hb _ p.1 p.2.2
    have sb := szL_b (G := G) (l := l) hb i (fun j hj => by have := gPr (i := j) hg h0 h1 (by omega); omega) (by omega)
    have e := a6 i (by omega) (by omega)
    rw [fe_167_4, a4, a5, show G 8 l - G 9 l = gNeed G l from rfl, e3, e, hr.2 _ p.1 p.2.2]
    refine zC_i (zs (by omega) (by omega)) (zC_i (zs (by omega) (by omega)) (zC_i (zr (by omega) (by omega)) (zC_i (zr (by omega) (by omega)) ⟨fun c => absurd c (by omega), fun _ => zC_i (zs (by omega) (by omega)) (zC_i (zs p.1 p.2.2) ?_)⟩)))
    have es : szL G q.1 l (i + 1) = if szL G q.1 l i = 1000000 ∨ q.1 (G 10 (l * 4 + i)) = 1000000 then 1000000 else szL G q.1 l i + q.1 (G 10 (l * 4 + i)) := rfl
    refine zC_i (zr (by omega) (by omega)) ⟨fun n => ?_, fun n => ?_⟩
    · rw [if_pos (.inr n)] at es
      exact m_leastOf_l hg hb hr h0 h1 hK m (i + 1) _ _ _ (by omega) es.symm (by omega)
    · refine zC_i (zr (by omega) (by omega)) ⟨fun n2 => ?_, fun n2 => ?_⟩
      · rw [if_neg (by omega), ← e2] at es
        exact m_leastOf_l hg hb hr h0 h1 hK m (i + 1) _ _ _ (by omega) es.symm (by omega)
      · rw [if_pos (.inl (by omega))] at es
        exact m_leastOf_l hg hb hr h0 h1 hK m (i + 1) _ _ _ (by omega) es.symm (by omega)
theorem m_leastOf {d : Nat} {G M : Mm} {q : Lpq} {K : Kt} {l : Int} (hg : gLn G) (hb : bdL q.1) (hr : rL G q M) (h0 : 0 ≤ l) (h1 : l < G 4 0) (hK : K (szA G q.1 l) M) : zSp (d + 1) 167 [.inr (.inr 154), .inl l] M K := by
  rw [me_167]
  exact m_leastOf_l hg hb hr h0 h1 hK (gNeed G l).toNat 0 1 0 none (by omega) rfl rfl
theorem m_lines33 {d : Nat} {G : Mm} {K : Kt} {x1 : Int} (hg : gLn G) : ∀ (m : Nat) (l : Int) (q : Lpq) (M : Mm) (u : Option Vl), 0 ≤ l → l + m = G 4 0 → ivL G q → rL G q M → (∀ M' x2 u, rL G (lnL G m l q) M' → f64 M M' → zWp (zSp (d + 1)) 168 K 25 [some (.inr (.inr 154)), some (.inl (x1 + 1)), some (.inl x2), u] [] M') → zWp (zSp (d + 1)) 168 K 33 [some (.inr (.inr 154)), some (.inl x1), some (.inl l), u] [] M
  | 0, l, q, M, u, h0, hm, hv, hr, hK => by
    have c0 := hg.1
    rw [fe_168_33, hr.1.2.1]
    exact zC_i (zr (by omega) (by omega)) (zC_i (zr (by omega) (by omega)) ⟨fun _ => hK M _ _ hr (fun _ _ => rfl), fun c => absurd (by omega) c⟩)
  | m + 1, l, q, M, u, h0, hm, hv, hr, hK => by
    have c0 := hg.1
    have hb := ivL_b hv
    have l1 : l < G 4 0 := by omega
    have gs := (hg.2.1 l h0 l1).2.2.1
    have zb := szA_b hg hb h0 l1
    have lb := hb _ gs.1 (by omega)
    have a2 := (hr.1.2.2.1 l h0 l1).2.1
    rw [fe_168_33, hr.1.2.1, a2]
    refine zC_i (zr (by omega) (by omega)) (zC_i (zr (by omega) (by omega)) ⟨fun c => absurd c (by omega), fun _ => zC_i (zs (by omega) (by omega)) ?_⟩)
    refine m_leastOf hg hb hr h0 l1 ?_
    rw [hr.2 _ gs.1 (by omega)]
    refine zC_i (zs gs.1 (by omega)) (zC_i (zr (by omega) (by omega)) (zC_i (zr (by omega) (by omega)) ⟨fun c => ?_, fun c => ?_⟩))
    · refine m_lines33 hg m (l + 1) (stL G q l) M _ (by omega) (by omega) (stL_k hg hv h0 l1).1 ⟨hr.1, fun s s0 s1 => ?_⟩ hK
      unfold stL
      by_cases cc : szA G q.1 l ≠ 1000000 ∧ (szA G q.1 l < q.1 (G 7 l) ∨ (szA G q.1 l = q.1 (G 7 l) ∧ l < q.2 (G 7 l)))
      · rw [if_pos cc, hr.2 s s0 s1]
        show q.1 s = (upI q.1 (G 7 l) (szA G q.1 l)) s
        by_cases e : s = G 7 l
        · rw [e, upI_h]; omega
        · rw [upI_t e]
      · rw [if_neg cc]; exact hr.2 s s0 s1
    · refine m_leastOf hg hb hr h0 l1 ?_
      refine zC_i (zs gs.1 (by omega)) ?_
      have ff : f64 M (zUp M 164 (G 7 l) (szA G q.1 l)) := fun c a => zUp_away a
      refine m_lines33 hg m (l + 1) (stL G q l) _ _ (by omega) (by omega) (stL_k hg hv h0 l1).1 ⟨mR_64 hr.1 ff, fun s s0 s1 => ?_⟩ (fun M' x2 u a b => hK M' x2 u a (f64_trans ff b))
      unfold stL
      rw [if_pos ⟨by omega, .inl (by omega)⟩]
      show (zUp M 164 (G 7 l) (szA G q.1 l)) 164 s = (upI q.1 (G 7 l) (szA G q.1 l)) s
      by_cases e : s = G 7 l
      · rw [e, upI_h, zUp_here]
      · rw [upI_t e, zUp_there e]; exact hr.2 s s0 s1
theorem m_rounds25 {d : Nat} {G : Mm} {K : Kt} (hg : gLn G) : ∀ (m r : Nat) (x1 : Int) (M : Mm) (u u' : Option Vl), r + m = 7 → x1 = r → rL G (roL G r q0L) M → (∀ M' u u', rL G (roL G 7 q0L) M' → f64 M M' → zWp (zSp (d + 1)) 168 K 96 [some (.inr (.inr 154)), some (.inl 0), u, u'] [] M') → zWp (zSp (d + 1)) 168 K 25 [some (.inr (.inr 154)), some (.inl x1), u, u'] [] M
  | 0, r, x1, M, u, u', hm, e1, hr, hK => by
    rw [fe_168_25]
    refine zC_i (zr (by omega) (by omega)) ⟨fun _ => ?_, fun c => absurd (by omega) c⟩
    rw [show r = 7 by omega] at hr
    exact hK M _ _ hr (fun _ _ => rfl)
  | m + 1, r, x1, M, u, u', hm, e1, hr, hK => by
    have c0 := hg.1
    rw [fe_168_25]
    refine zC_i (zr (by omega) (by omega)) ⟨fun c => absurd c (by omega), fun _ => ?_⟩
    refine m_lines33 hg (G 4 0).toNat 0 (roL G r q0L) M _ (by omega) (by omega) (roL_k hg r) hr ?_
    intro M1 x2 u2 f1 f2
    exact m_rounds25 hg m (r + 1) _ M1 _ _ (by omega) (by omega) f1 (fun M' u u' a b => hK M' u u' a (f64_trans f2 b))
/-- behind a fault of a sort no more is told -/
theorem m_un96 {d : Nat} {G M : Mm} {q : Lpq} {K : Kt} {u u' : Option Vl} (hg : gLn G) (hb : bdL q.1) (hr : rL G q M) (h6 : 1 ≤ M 154 6 ∧ M 154 6 ≤ 5) (hK : K 0 M) : ∀ (m : Nat) (i : Int), 0 ≤ i → i + m = G 4 1 → zWp (zSp (d + 1)) 168 K 96 [some (.inr (.inr 154)), some (.inl i), u, u'] [] M
  | 0, i, h0, hm => by
    have c0 := hg.1
    rw [fe_168_96, hr.1.1.1]
    exact zC_i (zr (by omega) (by omega)) (zC_i (zr (by omega) (by omega)) ⟨fun _ => hK, fun c => absurd (by omega) c⟩)
  | m + 1, i, h0, hm => by
    have c0 := hg.1
    have lb := hb i h0 (by omega)
    rw [fe_168_96, hr.1.1.1, hr.2 i h0 (by omega)]
    refine zC_i (zr (by omega) (by omega)) (zC_i (zr (by omega) (by omega)) ⟨fun c => absurd c (by omega), fun _ => zC_i (zs h0 (by omega)) (zC_i (zr (by omega) (by omega)) ⟨fun _ => ?_, fun _ => ?_⟩)⟩)
    · exact m_un96 hg hb hr h6 hK m (i + 1) (by omega) (by omega)
    · exact m_unfail h6 (m_un96 hg hb hr h6 hK m (i + 1) (by omega) (by omega))
theorem m_check96 {d : Nat} {G M : Mm} {q : Lpq} {K : Kt} {u u' : Option Vl} (hg : gLn G) (hb : bdL q.1) (hr : rL G q M) (h6 : M 154 6 = 0) (hK1 : (∀ s, 0 ≤ s → s < G 4 1 → q.1 s ≠ 1000000) → K 0 M) (hK0 : (∃ s, (0 ≤ s ∧ s < G 4 1) ∧ q.1 s = 1000000) → K 0 (zUp (zUp M 154 6 5) 154 7 (M 154 3))) : ∀ (m : Nat) (i : Int), 0 ≤ i → i + m = G 4 1 → (∀ s, 0 ≤ s → s < i → q.1 s ≠ 1000000) → zWp (zSp (d + 1)) 168 K 96 [some (.inr (.inr 154)), some (.inl i), u, u'] [] M
  | 0, i, h0, hm, ho => by
    have c0 := hg.1
    rw [fe_168_96, hr.1.1.1]
    exact zC_i (zr (by omega) (by omega)) (zC_i (zr (by omega) (by omega)) ⟨fun _ => hK1 (fun s s0 s1 => ho s s0 (by omega)), fun c => absurd (by omega) c⟩)
  | m + 1, i, h0, hm, ho => by
    have c0 := hg.1
    have lb := hb i h0 (by omega)
    rw [fe_168_96, hr.1.1.1, hr.2 i h0 (by omega)]
    refine zC_i (zr (by omega) (by omega)) (zC_i (zr (by omega) (by omega)) ⟨fun c => absurd c (by omega), fun _ => zC_i (zs h0 (by omega)) (zC_i (zr (by omega) (by omega)) ⟨fun n => ?_, fun n => ?_⟩)⟩)
    · refine m_check96 hg hb hr h6 hK1 hK0 m (i + 1) (by omega) (by omega) (fun s s0 s1 => ?_)
      by_cases e : s = i
      · rw [e]; exact n
      · exact ho s s0 (by omega)
    · refine m_fail h6 ?_
      have r1 : rL G q (zUp (zUp M 154 6 5) 154 7 (M 154 3)) := ⟨mR_fr hr.1 (by rw [zUp_away (by decide), zUp_away (by decide)]) (by rw [zUp_away (by decide), zUp_away (by decide)]) (by rw [zUp_away (by decide), zUp_away (by decide)]), fun s s0 s1 => by rw [zUp_away (by decide), zUp_away (by decide)]; exact hr.2 s s0 s1⟩
      exact m_un96 hg hb r1 (by rw [zUp_there (by decide), zUp_here]; decide) (hK0 ⟨i, ⟨h0, by omega⟩, Decidable.not_not.mp n⟩) m (i + 1) (by omega) (by omega)
theorem m_clear168 {d : Nat} {G : Mm} {K : Kt} : ∀ (m : Nat) (i : Int) (M : Mm), 0 ≤ i → i + m = 6 → mR G M → (∀ s, 0 ≤ s → s < i → M 164 s = 1000000) → (∀ M', rL G q0L M' → f64 M M' → zWp (zSp d) 168 K 25 [some (.inr (.inr 154)), some (.inl 0), none, none] [] M') → zWp (zSp d) 168 K 2 [some (.inr (.inr 154)), some (.inl i), none, none] [] M
  | 0, i, M, h0, hm, hr, ho, hK => by
    rw [fe_168_2]
    exact zC_i (zr (by omega) (by omega)) ⟨fun _ => hK M ⟨hr, fun s s0 s1 => ho s s0 (by omega)⟩ (fun _ _ => rfl), fun c => absurd (by omega) c⟩
  | m + 1, i, M, h0, hm, hr, ho, hK => by
    rw [fe_168_2]
    have ff : f64 M (zUp M 164 i 1000000) := fun c a => zUp_away a
    refine zC_i (zr (by omega) (by omega)) ⟨fun c => absurd c (by omega), fun _ => zC_i (zs h0 (by omega)) ?_⟩
    refine m_clear168 m (i + 1) _ (by omega) (by omega) (mR_64 hr ff) (fun s s0 s1 => ?_) (fun M' a b => hK M' a (f64_trans ff b))
    by_cases e : s = i
    · rw [e, zUp_here]
    · rw [zUp_there e]; exact ho s s0 (by omega)
theorem m_laysLeast {d : Nat} {G M : Mm} {K : Kt} (hg : gLn G) (hr : mR G M) (h6 : M 154 6 = 0) (hK1 : ∀ M', (∀ s, 0 ≤ s → s < G 4 1 → (roL G 7 q0L).1 s ≠ 1000000) → rL G (roL G 7 q0L) M' → f64 M M' → K 0 M') (hK0 : ∀ M', (∃ s, (0 ≤ s ∧ s < G 4 1) ∧ (roL G 7 q0L).1 s = 1000000) → f64 M M' → K 0 (zUp (zUp M' 154 6 5) 154 7 (M 154 3))) : zSp (d + 2) 168 [.inr (.inr 154)] M K := by
  have c0 := hg.1
  rw [me_168]
  refine m_clear168 6 0 M (by omega) (by omega) hr (fun s s0 s1 => by omega) ?_
  intro M1 f1 f2
  refine m_rounds25 hg 7 0 0 M1 none none (by omega) rfl f1 ?_
  intro M2 u u' g1 g2
  have ff := f64_trans f2 g2
  refine m_check96 hg (ivL_b (roL_k hg 7)) g1 (by rw [ff 154 (by decide)]; exact h6) (fun a => hK1 M2 a g1 ff) (fun a => ?_) (G 4 1).toNat 0 (by omega) (by omega) (fun s s0 s1 => by omega)
  rw [ff 154 (by decide)]
  exact hK0 M2 a ff
