/-! LAYER 3: a tree with changes: the pure side, what is appended -/
def bR (G : Mm) (mk : Int → Int) (H : Tr) : Tr → Int → Tr
  | .var n, _ => .var n
  | .op f s, i => if mk (i + tSz f) = 0 then bR G mk H f i else if mk (i + tSz f) = 1 then .op (bR G mk H f i) (gT G 6 (G 7 (tNm s))) else if mk (i + tSz f) = 2 then .op (bR G mk H f i) H else .op (bR G mk H f i) (bR G mk H s (i + tSz f))
def bT (G : Mm) (mk : Int → Int) (H : Tr) (t : Tr) : Tr := if mk 0 = 1 then gT G 6 (G 7 (tNm t)) else if mk 0 = 2 then H else bR G mk H t 0
def bPos (G : Mm) (mk : Int → Int) (H : Tr) : Tr → Int → Int → Int
  | .var _, _, _ => 0
  | .op f s, i, k => if k < i + tSz f then bPos G mk H f i k else tSz (bR G mk H f i) + bPos G mk H s (i + tSz f) k
def bVis (mk : Int → Int) : Tr → Int → Int → Prop
  | .var _, _, _ => True
  | .op f s, i, k => if k < i + tSz f then bVis mk f i k else (k = i + tSz f ∨ (mk (i + tSz f) = -1 ∧ bVis mk s (i + tSz f) k))
theorem bR_nm {G : Mm} {mk : Int → Int} {H : Tr} : ∀ (t : Tr) (i : Int), tNm (bR G mk H t i) = tNm t
  | .var n, _ => rfl
  | .op f s, i => by
    have ih := bR_nm (G := G) (mk := mk) (H := H) f i
    show tNm (if mk (i + tSz f) = 0 then _ else if mk (i + tSz f) = 1 then _ else if mk (i + tSz f) = 2 then _ else _) = tNm f
    split
    · exact ih
    · split
      · exact ih
      · split <;> exact ih
theorem bPos_0 {G : Mm} {mk : Int → Int} {H : Tr} : ∀ (t : Tr) (i : Int), bPos G mk H t i i = 0
  | .var n, _ => rfl
  | .op f s, i => by
    have := tSz_pos f
    show (if i < i + tSz f then _ else _) = _
    rw [if_pos (by omega)]
    exact bPos_0 f i
theorem bR_id {G : Mm} {mk : Int → Int} {H : Tr} : ∀ (t : Tr) (i : Int), (∀ k, i < k → k < i + tSz t → mk k = -1) → bR G mk H t i = t
  | .var n, _, _ => rfl
  | .op f s, i, h => by
    have q1 := tSz_pos f
    have q2 := tSz_pos s
    have h : ∀ k, i < k → k < i + (tSz f + tSz s) → mk k = -1 := h
    have e := h (i + tSz f) (by omega) (by omega)
    show (if mk (i + tSz f) = 0 then _ else if mk (i + tSz f) = 1 then _ else if mk (i + tSz f) = 2 then _ else _) = _
    rw [if_neg (by omega), if_neg (by omega), if_neg (by omega), bR_id f i (fun k c1 c2 => h k c1 (by omega)), bR_id s (i + tSz f) (fun k c1 c2 => h k (by omega) (by omega))]
theorem bR_0 {G : Mm} {mk : Int → Int} {H f s : Tr} {i : Int} (h : mk (i + tSz f) = 0) : bR G mk H (.op f s) i = bR G mk H f i := if_pos h
theorem bR_1 {G : Mm} {mk : Int → Int} {H f s : Tr} {i : Int} (h : mk (i + tSz f) = 1) : bR G mk H (.op f s) i = .op (bR G mk H f i) (gT G 6 (G 7 (tNm s))) := by
  show (if mk (i + tSz f) = 0 then _ else if mk (i + tSz f) = 1 then _ else if mk (i + tSz f) = 2 then _ else _) = _
  rw [if_neg (by omega), if_pos h]
theorem bR_2 {G : Mm} {mk : Int → Int} {H f s : Tr} {i : Int} (h : mk (i + tSz f) = 2) : bR G mk H (.op f s) i = .op (bR G mk H f i) H := by
  show (if mk (i + tSz f) = 0 then _ else if mk (i + tSz f) = 1 then _ else if mk (i + tSz f) = 2 then _ else _) = _
  rw [if_neg (by omega), if_neg (by omega), if_pos h]
theorem bR_n {G : Mm} {mk : Int → Int} {H f s : Tr} {i : Int} (h : mk (i + tSz f) = -1) : bR G mk H (.op f s) i = .op (bR G mk H f i) (bR G mk H s (i + tSz f)) := by
  show (if mk (i + tSz f) = 0 then _ else if mk (i + tSz f) = 1 then _ else if mk (i + tSz f) = 2 then _ else _) = _
  rw [if_neg (by omega), if_neg (by omega), if_neg (by omega)]
/-- marks that are allowed -/
def bMk (G : Mm) (mk : Int → Int) (H : Tr) : Int → Tr → Int → Int → Int → Prop := fun k u _ _ _ => (mk k = -1 ∨ mk k = 0 ∨ mk k = 1 ∨ mk k = 2) ∧ (mk k = 1 → G 12 (G 7 (tNm u)) ≤ tSz u) ∧ (mk k = 2 → tSz H ≤ tSz u)
theorem gT_sz {G : Mm} (hg : gOk G) {n : Int} (h : 0 ≤ n ∧ n < G 4 0) : tSz (gT G 6 (G 7 n)) = G 12 (G 7 n) ∧ tVal (G 4 0) (gT G 6 (G 7 n)) := by
  obtain ⟨_, _, c, _⟩ := hg.1.2.1 n h.1 h.2
  have gr := gR_lt hg c.1 c.2
  have := gT_ok hg 6 _ c.1 c.2 (by omega)
  exact ⟨this.1, this.2.1⟩
theorem bR_sz {G : Mm} (hg : gOk G) {mk : Int → Int} {H : Tr} : ∀ (t : Tr) (i l : Int), tVal (G 4 0) t → tAll (bMk G mk H) t i l → tSz (bR G mk H t i) ≤ tSz t
  | .var n, _, _, _, _ => Int.le_refl _
  | .op f s, i, l, hv, h => by
    have q1 := tSz_pos s
    have ih1 := bR_sz hg f i l hv.1 h.1
    have ih2 := bR_sz hg s _ _ hv.2 h.2.2
    obtain ⟨hm, h1, h2⟩ := h.2.1
    have hz := gT_sz hg (tVal_nm s hv.2)
    rcases hm with hm | hm | hm | hm
    · rw [bR_n hm]
      show tSz _ + tSz _ ≤ tSz f + tSz s
      omega
    · rw [bR_0 hm]
      show _ ≤ tSz f + tSz s
      omega
    · rw [bR_1 hm]
      have := h1 hm
      show tSz _ + tSz _ ≤ tSz f + tSz s
      omega
    · rw [bR_2 hm]
      have := h2 hm
      show tSz _ + tSz _ ≤ tSz f + tSz s
      omega
theorem bR_val {G : Mm} (hg : gOk G) {mk : Int → Int} {H : Tr} (hH : tVal (G 4 0) H) : ∀ (t : Tr) (i : Int), tVal (G 4 0) t → tVal (G 4 0) (bR G mk H t i)
  | .var n, _, h => h
  | .op f s, i, h => by
    have ih1 := bR_val hg (mk := mk) hH f i h.1
    have ih2 := bR_val hg (mk := mk) hH s (i + tSz f) h.2
    have hz := gT_sz hg (tVal_nm s h.2)
    show tVal _ (if mk (i + tSz f) = 0 then _ else if mk (i + tSz f) = 1 then _ else if mk (i + tSz f) = 2 then _ else _)
    split
    · exact ih1
    · split
      · exact ⟨ih1, hz.2⟩
      · split
        · exact ⟨ih1, hH⟩
        · exact ⟨ih1, ih2⟩
theorem tAll_shift {Φ Ψ : Int → Tr → Int → Int → Int → Prop} {δ : Int} : ∀ (t : Tr) (i l : Int), (∀ k u a q v, i < k → k + tSz u ≤ i + tSz t → i ≤ a → Φ k u a q v → Ψ (k + δ) u (a + δ) q v) → tAll Φ t i l → tAll Ψ t (i + δ) l
  | .var _, _, _, _, _ => trivial
  | .op f s, i, l, h, hA => by
    have q1 := tSz_pos f
    have q2 := tSz_pos s
    obtain ⟨hf, hp, hs⟩ := hA
    refine ⟨tAll_shift f i l (fun k u a q v c1 c2 c3 => h k u a q v c1 ?_ c3) hf, ?_, ?_⟩
    · show _ ≤ i + (tSz f + tSz s); omega
    · have := h _ _ _ _ _ (by omega) (by show _ ≤ i + (tSz f + tSz s); omega) (by omega) hp
      rw [show i + δ + tSz f = i + tSz f + δ by omega]
      exact this
    · have := tAll_shift (Ψ := Ψ) (δ := δ) s (i + tSz f) (l + 1) (fun k u a q v c1 c2 c3 => h k u a q v (by omega) (by show _ ≤ i + (tSz f + tSz s); omega) (by omega)) hs
      rw [show i + δ + tSz f = i + tSz f + δ by omega]
      exact this
/-- a tree laid from a place on, by its places -/
theorem tAll_lay {Φ : Int → Tr → Int → Int → Int → Prop} {t : Tr} {i l : Int} (h : ∀ k u a q v, 0 < k → k < tSz t → u = tSub t k → Φ (k + i) u a q v) : tAll Φ t i l := by
  have := tAll_shift (Ψ := Φ) (δ := i) t 0 l (fun k u a q v c1 c2 c3 (hx : tVw t 0 l k u a q v) => by
    have p := tSz_pos u
    unfold tVw at hx
    rw [Int.sub_zero] at hx
    exact h k u (a + i) q v c1 (by omega) hx.1) (tView t 0 l)
  rw [Int.zero_add] at this
  exact this
-- the class appends the least one
theorem x_addLeast_l {d : Nat} {G : Mm} {K : Kt} {b : Nat} {s n : Int} (hb : xT b) (hg : gOk G) (h0 : 0 ≤ s) (h1 : s < G 4 1) (hn : 0 ≤ n) (hz : n + G 12 s ≤ 80) : ∀ (m : Nat) (M : Mm) (k : Int) (u3 : Option Vl), k + m = G 12 s → 0 ≤ k → xG G M → M b 1 = n + k →
    (∀ M', M' b 1 = n + G 12 s → (∀ i, i ≠ 1 → M' b i = M b i) → (∀ i, M' (b + 1) i = if n + k ≤ i ∧ i < n + G 12 s then tNm (tSub (gT G 6 s) (i - n)) else M (b + 1) i) → (∀ i, M' (b + 2) i = if n + k ≤ i ∧ i < n + G 12 s then tKd (tSub (gT G 6 s) (i - n)) else M (b + 2) i) → (∀ c, c ≠ b → c ≠ b + 1 → c ≠ b + 2 → M' c = M c) → K 0 M') →
    zWp (zSp (d + 2)) 83 K 2 [some (.inr (.inr b)), some (.inl s), some (.inl k), u3] [] M
  | 0, M, k, u3, hm, hk, hx, hM, hK => by
    have gb := hg.1.1
    have e12 : M 12 = G 12 := hx 12 (by decide) (by decide)
    rw [fe_83_2]
    simp only [(xT_c hb).1, zC_t, e12]
    (repeat (first | refine zC_i (by first | assumption | decide | exact zr (by omega) (by omega) | exact zs (by omega) (by omega) | exact zd (by omega) (by omega)) ?_ | refine zIfT (by first | assumption | omega | decide) ?_ | refine zIfF (by first | assumption | omega | decide) ?_))
    exact hK M (by omega) (fun _ _ => rfl) (fun i => by rw [if_neg (by omega)]) (fun i => by rw [if_neg (by omega)]) (fun _ _ _ _ => rfl)
  | m + 1, M, k, u3, hm, hk, hx, hM, hK => by
    have gb := hg.1.1
    have hb' := hb
    unfold xT at hb'
    have gr := gR_lt hg h0 h1
    have gt := gT_ok hg 6 s h0 h1 (by omega)
    have e12 : M 12 = G 12 := hx 12 (by decide) (by decide)
    have nd : gNd G (tSub (gT G 6 s) k) := by
      by_cases c : k = 0
      · rw [c, tSub_0]; exact gt.2.2.1
      · exact tAll_get (gt.2.2.2.2 0 0) (by omega) (by omega)
    obtain ⟨n1, n2, n3, n4⟩ := nd
    rw [fe_83_2]
    simp only [(xT_c hb).1, zC_t, e12]
    (repeat (first | refine zC_i (by first | assumption | decide | exact zr (by omega) (by omega) | exact zs (by omega) (by omega) | exact zd (by omega) (by omega)) ?_ | refine zIfT (by first | assumption | omega | decide) ?_ | refine zIfF (by first | assumption | omega | decide) ?_))
    refine x_leastName hg hx h0 h1 hk (by omega) ?_
    refine x_needed hg.1 hx n1.1 n1.2 ?_
    rw [← n3]
    refine x_addNode hb hM (by omega) ?_
    intro M1 f1 f2 f3 f4 f5
    refine x_addLeast_l hb hg h0 h1 hn hz m M1 (k + 1) _ (by omega) (by omega) (xG_fr hx fun c c1 c2 => f5 c (by omega) (by omega) (by omega)) (by omega) ?_
    intro M2 g1 g2 g3 g4 g5
    refine hK M2 g1 (fun i hi => by rw [g2 i hi, f2 i hi]) ?_ ?_ (fun c c1 c2 c3 => by rw [g5 c c1 c2 c3, f5 c c1 c2 c3])
    · intro i
      rw [g3, f3]
      by_cases c1 : i = n + k
      · rw [if_neg (by omega), if_pos c1, if_pos (by omega), c1, show n + k - n = k by omega]
      · by_cases c2 : n + (k + 1) ≤ i ∧ i < n + G 12 s
        · rw [if_pos c2, if_pos (by omega)]
        · rw [if_neg c2, if_neg c1, if_neg (by omega)]
    · intro i
      rw [g4, f4]
      by_cases c1 : i = n + k
      · rw [if_neg (by omega), if_pos c1, if_pos (by omega), c1, show n + k - n = k by omega]
      · by_cases c2 : n + (k + 1) ≤ i ∧ i < n + G 12 s
        · rw [if_pos c2, if_pos (by omega)]
        · rw [if_neg c2, if_neg c1, if_neg (by omega)]
theorem x_addLeast {d : Nat} {M G : Mm} {K : Kt} {b : Nat} {s n : Int} (hb : xT b) (hg : gOk G) (hx : xG G M) (h0 : 0 ≤ s) (h1 : s < G 4 1) (hn : 0 ≤ n) (hz : n + G 12 s ≤ 80) (hM : M b 1 = n)
    (hK : ∀ M', M' b 1 = n + G 12 s → (∀ i, i ≠ 1 → M' b i = M b i) → (∀ i, M' (b + 1) i = if n ≤ i ∧ i < n + G 12 s then tNm (tSub (gT G 6 s) (i - n)) else M (b + 1) i) → (∀ i, M' (b + 2) i = if n ≤ i ∧ i < n + G 12 s then tKd (tSub (gT G 6 s) (i - n)) else M (b + 2) i) → (∀ c, c ≠ b → c ≠ b + 1 → c ≠ b + 2 → M' c = M c) → K 0 M') : zSp (d + 3) 83 [.inr (.inr b), .inl s] M K := by
  have g := (hg.2 s h0 h1).1
  rw [me_83]
  refine x_addLeast_l hb hg h0 h1 hn hz (G 12 s).toNat M 0 _ (by omega) (by omega) hx (by omega) ?_
  rw [Int.add_zero]
  exact hK
-- the reference appends
def mApp (M M' : Mm) (n k : Int) (u : Tr) : Prop := M' 165 161 = n + tSz u ∧ (∀ i, i ≠ 161 → M' 165 i = if 162 + n + k ≤ i ∧ i < 162 + n + tSz u then tNm (tSub u (i - 162 - n)) else if 242 + n + k ≤ i ∧ i < 242 + n + tSz u then tSz (tSub u (i - 242 - n)) else M 165 i) ∧ (∀ c, c ≠ 165 → M' c = M c)
theorem m_adds {d : Nat} {M : Mm} {K : Kt} {v n : Int} (hn : M 165 161 = n) (h0 : 0 ≤ n ∧ n < 80)
    (hK : ∀ M', M' 165 161 = n + 1 → (∀ i, i ≠ 161 → M' 165 i = if i = 162 + n then v else if i = 242 + n then 1 else M 165 i) → (∀ c, c ≠ 165 → M' c = M c) → K n M') : zSp (d + 1) 178 [.inr (.inr 154), .inl 161, .inl v] M K := by
  rw [me_178, hn]
  (repeat (refine zC_i (by first | assumption | decide | exact zr (by omega) (by omega) | exact zs (by omega) (by omega) | exact zd (by omega) (by omega)) ?_))
  refine hK _ ?_ ?_ ?_
  · rw [zUp_here, zUp_there (by omega), zUp_there (by omega), hn]
  · intro i hi
    rw [zUp_there hi, zUp_hit, zUp_hit]
    by_cases c1 : i = 162 + n
    · rw [if_pos c1, if_neg (by omega), if_pos (by omega)]
    · by_cases c2 : i = 242 + n
      · rw [if_neg c1, if_pos c2, if_pos (by omega)]
      · rw [if_neg c1, if_neg c2, if_neg (by omega), if_neg (by omega)]
  · intro c hc
    rw [zUp_away hc, zUp_away hc, zUp_away hc]
/-- one more node with its size -/
theorem mApp_step {M M1 M2 M' : Mm} {n k : Int} {u : Tr} {v w : Int} (hk : 0 ≤ k ∧ k < tSz u) (hz : n + tSz u ≤ 80) (hn : 0 ≤ n) (hv : v = tNm (tSub u k)) (hw : w = tSz (tSub u k)) (f1 : M1 165 161 = n + k + 1) (f2 : ∀ i, i ≠ 161 → M1 165 i = if i = 162 + (n + k) then v else if i = 242 + (n + k) then 1 else M 165 i) (f3 : ∀ c, c ≠ 165 → M1 c = M c) (f4 : M2 = zUp M1 165 (242 + (n + k)) w) (g : mApp M2 M' n (k + 1) u) : mApp M M' n k u := by
  obtain ⟨g1, g2, g3⟩ := g
  refine ⟨g1, ?_, fun c hc => by rw [g3 c hc, f4, zUp_away hc, f3 c hc]⟩
  intro i hi
  rw [g2 i hi, f4, zUp_hit]
  by_cases c1 : i = 162 + n + k
  · rw [if_neg (by omega), if_neg (by omega), if_neg (by omega), f2 i hi, if_pos (by omega), if_pos (by omega), show i - 162 - n = k by omega]
    exact hv
  · by_cases c2 : i = 242 + n + k
    · rw [if_neg (by omega), if_neg (by omega), if_pos (by omega), if_neg (by omega), if_pos (by omega), show i - 242 - n = k by omega]
      exact hw
    · by_cases c3 : 162 + n + (k + 1) ≤ i ∧ i < 162 + n + tSz u
      · rw [if_pos c3, if_pos (by omega)]
      · by_cases c4 : 242 + n + (k + 1) ≤ i ∧ i < 242 + n + tSz u
        · rw [if_neg c3, if_pos c4, if_neg (by omega), if_pos (by omega)]
        · rw [if_neg c3, if_neg c4, if_neg (by omega), if_neg (by omega), if_neg (by omega), f2 i hi, if_neg (by omega), if_neg (by omega)]
theorem mApp_end {M : Mm} {n : Int} {u : Tr} (h : M 165 161 = n + tSz u) : mApp M M n (tSz u) u := by
  refine ⟨h, ?_, fun _ _ => rfl⟩
  intro i hi
  rw [if_neg (by omega), if_neg (by omega)]
theorem m_addsLeast_l {d : Nat} {G : Mm} {K : Kt} {s n : Int} (hg : gOk G) (h0 : 0 ≤ s) (h1 : s < G 4 1) (hn : 0 ≤ n) (hz : n + G 12 s ≤ 80) : ∀ (m : Nat) (M : Mm) (k : Int) (u3 u4 : Option Vl), k + m = G 12 s → 0 ≤ k → mG G M → M 165 161 = n + k →
    (∀ M', mApp M M' n k (gT G 6 s) → K 0 M') → zWp (zSp (d + 2)) 215 K 2 [some (.inr (.inr 154)), some (.inl s), some (.inl k), u3, u4] [] M
  | 0, M, k, u3, u4, hm, hk, hx, hM, hK => by
    have gb := hg.1.1
    have gr := gR_lt hg h0 h1
    have gt := gT_ok hg 6 s h0 h1 (by omega)
    have e12 := (hx.2.2.2 _ h0 h1).2.1
    rw [fe_215_2, e12]
    (repeat (first | refine zC_i (by first | assumption | decide | exact zr (by omega) (by omega) | exact zs (by omega) (by omega) | exact zd (by omega) (by omega)) ?_ | refine zIfT (by first | assumption | omega | decide) ?_ | refine zIfF (by first | assumption | omega | decide) ?_))
    rw [show k = tSz (gT G 6 s) by omega] at hK hM
    exact hK M (mApp_end hM)
  | m + 1, M, k, u3, u4, hm, hk, hx, hM, hK => by
    have gb := hg.1.1
    have gr := gR_lt hg h0 h1
    have gt := gT_ok hg 6 s h0 h1 (by omega)
    have e12 := (hx.2.2.2 _ h0 h1).2.1
    have nd : gNd G (tSub (gT G 6 s) k) := by
      by_cases c : k = 0
      · rw [c, tSub_0]; exact gt.2.2.1
      · exact tAll_get (gt.2.2.2.2 0 0) (by omega) (by omega)
    obtain ⟨n1, n2, n3, n4⟩ := nd
    have so := (hg.1.2.1 _ n1.1 n1.2).2.2.1
    rw [fe_215_2, e12]
    (repeat (first | refine zC_i (by first | assumption | decide | exact zr (by omega) (by omega) | exact zs (by omega) (by omega) | exact zd (by omega) (by omega)) ?_ | refine zIfT (by first | assumption | omega | decide) ?_ | refine zIfF (by first | assumption | omega | decide) ?_))
    refine m_leastAt hg hx h0 h1 hk (by omega) ?_
    refine m_adds hM (by omega) ?_
    intro M1 f1 f2 f3
    have hx1 : mG G M1 := mG_fr hx (f3 156 (by decide)) (f3 157 (by decide)) (f3 158 (by decide)) (f3 162 (by decide)) (f3 163 (by decide))
    refine m_ofLine0 hg.1 hx1 n1.1 n1.2 ?_
    rw [(hx1.2.2.2 _ so.1 so.2).2.1, ← n2]
    refine zC_i (by first | assumption | decide | exact zr (by omega) (by omega) | exact zs (by omega) (by omega) | exact zd (by omega) (by omega)) (zC_i (by first | assumption | decide | exact zr (by omega) (by omega) | exact zs (by omega) (by omega) | exact zd (by omega) (by omega)) ?_)
    refine m_addsLeast_l hg h0 h1 hn hz m _ (k + 1) _ _ (by omega) (by omega) (mG_fr hx1 rfl rfl rfl rfl rfl) (by rw [zUp_there (by omega)]; omega) ?_
    intro M' g
    exact hK M' (mApp_step (by omega) (by omega) hn rfl rfl f1 f2 f3 rfl g)
theorem m_addsLeast {d : Nat} {M G : Mm} {K : Kt} {s n : Int} (hg : gOk G) (hx : mG G M) (h0 : 0 ≤ s) (h1 : s < G 4 1) (hn : 0 ≤ n) (hz : n + G 12 s ≤ 80) (hM : M 165 161 = n) (hK : ∀ M', mApp M M' n 0 (gT G 6 s) → K 0 M') : zSp (d + 3) 215 [.inr (.inr 154), .inl s] M K := by
  have g := (hg.2 s h0 h1).1
  rw [me_215]
  exact m_addsLeast_l hg h0 h1 hn hz (G 12 s).toNat M 0 _ _ (by omega) (by omega) hx (by omega) hK
theorem mTr_fr {M M' : Mm} {b : Int} {t : Tr} (h : mTr M b t) (h1 : ∀ i, b ≤ i → i < b + 161 → M' 165 i = M 165 i) : mTr M' b t := by
  have p := tSz_pos t
  have z := h.2
  refine mTr_of z (by rw [h1 b (by omega) (by omega)]; exact h.1.1) ?_
  intro k c1 c2
  rw [h1 _ (by omega) (by omega), h1 _ (by omega) (by omega)]
  exact mTr_at h c1 c2
theorem m_addsPart_l {d : Nat} {K : Kt} {t : Tr} {j n : Int} (h0 : 0 ≤ j) (h1 : j < tSz t) (hn : 0 ≤ n) (hz : n + tSz (tSub t j) ≤ 80) : ∀ (m : Nat) (M : Mm) (k x2 : Int) (u3 : Option Vl), k + m = tSz (tSub t j) → 0 ≤ k → x2 = j + k → mTr M 0 t → M 165 161 = n + k →
    (∀ M', mApp M M' n k (tSub t j) → K 0 M') → zWp (zSp (d + 1)) 216 K 2 [some (.inr (.inr 154)), some (.inl j), some (.inl x2), u3] [] M
  | 0, M, k, x2, u3, hm, hk, hx2, ht, hM, hK => by
    have t5 := ht.2
    have pb := tPl_b h0 h1
    rw [fe_216_2]
    refine m_sizeOf (by decide) ht h0 h1 ?_
    (repeat (first | refine zC_i (by first | assumption | decide | exact zr (by omega) (by omega) | exact zs (by omega) (by omega) | exact zd (by omega) (by omega)) ?_ | refine zIfT (by first | assumption | omega | decide) ?_ | refine zIfF (by first | assumption | omega | decide) ?_))
    rw [show k = tSz (tSub t j) by omega] at hK hM
    exact hK M (mApp_end hM)
  | m + 1, M, k, x2, u3, hm, hk, hx2, ht, hM, hK => by
    have t5 := ht.2
    have pb := tPl_b h0 h1
    rw [fe_216_2]
    refine m_sizeOf (by decide) ht h0 h1 ?_
    (repeat (first | refine zC_i (by first | assumption | decide | exact zr (by omega) (by omega) | exact zs (by omega) (by omega) | exact zd (by omega) (by omega)) ?_ | refine zIfT (by first | assumption | omega | decide) ?_ | refine zIfF (by first | assumption | omega | decide) ?_))
    refine m_nameOf (by decide) ht (by omega) (by omega) ?_
    refine m_adds hM (by omega) ?_
    intro M1 f1 f2 f3
    have ht1 : mTr M1 0 t := mTr_fr ht fun i c1 c2 => by rw [f2 i (by omega), if_neg (by omega), if_neg (by omega)]
    refine m_sizeOf (by decide) ht1 (by omega) (by omega) ?_
    refine zC_i (by first | assumption | decide | exact zr (by omega) (by omega) | exact zs (by omega) (by omega) | exact zd (by omega) (by omega)) ?_
    refine m_addsPart_l h0 h1 hn hz m _ (k + 1) _ _ (by omega) (by omega) (by omega) (mTr_fr ht1 fun i c1 c2 => zUp_there (by omega)) (by rw [zUp_there (by omega)]; omega) ?_
    intro M' g
    have es := tSub_sub t j k h0 h1 hk (by omega)
    rw [hx2, ← es] at f2
    rw [hx2, ← es] at g
    exact hK M' (mApp_step (by omega) (by omega) hn rfl rfl f1 f2 f3 rfl g)
theorem m_addsPart {d : Nat} {M : Mm} {K : Kt} {t : Tr} {j n : Int} (h0 : 0 ≤ j) (h1 : j < tSz t) (hn : 0 ≤ n) (hz : n + tSz (tSub t j) ≤ 80) (ht : mTr M 0 t) (hM : M 165 161 = n) (hK : ∀ M', mApp M M' n 0 (tSub t j) → K 0 M') : zSp (d + 2) 216 [.inr (.inr 154), .inl j] M K := by
  have pb := tPl_b h0 h1
  rw [me_216]
  exact m_addsPart_l h0 h1 hn hz (tSz (tSub t j)).toNat M 0 _ _ (by omega) (by omega) (by omega) ht (by omega) hK
