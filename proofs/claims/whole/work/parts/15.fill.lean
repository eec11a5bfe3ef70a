/-! A FILL OF ONE ARRAY, over the machine itself: constructors call it before all the cells are there -/
theorem zArrExt {cI : ClassId} {N : Nat} {f g : Nat → Int32} (h : ∀ j, j < N → f j = g j) : vp_cell cI (N, .inl f) = vp_cell cI (N, .inl g) := by
  rw [vp_cell_i, vp_cell_i]
  unfold arrV
  congr 1
  apply congrArg (Array.ofFn (n := N))
  funext j
  show Value.int (f j.val) = Value.int (g j.val)
  rw [h j.val j.isLt]
theorem zn_fill (l : Launch) (dC : Nat → ClassId) (dI : Nat → Nat → Nat) (cA : Nat → ClassId) (a n : Nat) (f : Nat → Int32) (v : Int32) (hn : n ≤ 48000) : Met l (zY 264) (zWs 264) ({ frames := 0, cells := 0, slots := 0, locals := 0 }) (va_Pc [.ref a, .int v] (fun U => va_P (dC, dI) zCm [(a, .inl (cA 0, n, .inl f))] U.heap ∧ va_K (dC, dI) zCm (zTys cA) U))
    (fun _ st oc t => (oc = .returned none ∧ va_P (dC, dI) zCm [(a, .inl (cA 0, n, .inl (fun _ => v)))] t.heap) ∧ va_F (fun q => q = a) st t) 0 0 (fun q => q = a) := by
  refine Met.ofW (cc := zCd 264) (maxL := 4) (ret := none) (zf_plain 264 (by decide)) rfl ?_
  intro p e s m args below meth c s₁ B hml hv
  obtain ⟨rfl, hP, hK⟩ := hv
  have hx := B.exec
  have hb := B.bytes
  have hr : meth.sig.returnType = none := B.returns
  have hlocks := B.notSynchronized
  have hD : va_D (fun q => q = a) [(a, (.inl (cA 0, n, .inl f) : va_E))] := ⟨fun i j p q hi hj _ => by
    have h1 := (List.getElem?_eq_some_iff.mp hi).1
    have h2 := (List.getElem?_eq_some_iff.mp hj).1
    simp at h1 h2; omega, fun k q hk => by
    have := List.mem_of_getElem? hk
    simp at this; rw [this]⟩
  have hl := lv_entry ([.ref a, .int v]) (n := 4) (Nat.le_of_ble_eq_true rfl)
  rw [lg_entry_eq]
  generalize (lg_sl ([.ref a, .int v]) ++ List.replicate (4 - (lg_sl ([.ref a, .int v])).length) Slot.unset).toArray = ls at hl ⊢
  have hl : lv_has ls 4 [(0, .ref a), (1, .int v)] := hl
  have loop : ∀ (k i : Nat) (f : Nat → Int32) (H : Heap) (locs : List Loc) (ls : Array Slot), i + k = n → (∀ j, j < i → f j = v) → va_P (dC, dI) zCm [(a, .inl (cA 0, n, .inl f))] H → va_D (fun q => q = a) [(a, (.inl (cA 0, n, .inl f) : va_E))] → va_S (fun q => q = a) s.heap H locs → lv_has ls 4 [(0, .ref a), (1, .int v), (2, .int (nI i)), (3, .int (nI n))] →
      W p l e (headSpec (zWs 264) { frames := 0, cells := 0, slots := 0, locals := 0 }).room s m #[Value.ref a, Value.int v] below meth c H locs 0 0 (MQ below (fun _ st oc t => (oc = .returned none ∧ va_P (dC, dI) zCm [(a, .inl (cA 0, n, .inl (fun _ => v)))] t.heap) ∧ va_F (fun q => q = a) st t) #[Value.ref a, Value.int v] s 0 0 (fun q => q = a)) (F0 m 5 ls []) := by
    intro k
    induction k with
    | zero =>
      intro i f H locs ls hi hf hP hD hS hl
      refine lv_iload_n hx hb (show decode (zCd 264) 5 = .ok (.iload_n 2, 1) by decide +kernel) rfl (lv_at hl 2 rfl) ?_
      refine lv_iload_n hx hb (show decode (zCd 264) 6 = .ok (.iload_n 3, 1) by decide +kernel) rfl (lv_at hl 3 rfl) ?_
      refine lv_icmp_ge (tgt := 20) hx hb (show decode (zCd 264) 7 = .ok (.if_icmp .ge 13, 3) by decide +kernel) (by decide) (fun _ => ?_) (fun q => absurd (nI_le (by omega) (by omega)) q)
      have hP2 : va_P (dC, dI) zCm [(a, .inl (cA 0, n, .inl (fun _ => v)))] H := by
        rw [zP_mem] at hP ⊢
        intro q hq
        simp only [List.mem_singleton] at hq
        subst hq
        have h1 := hP _ (List.mem_singleton.mpr rfl)
        have h1 : H[a]? = some (vp_cell (cA 0) (n, .inl f)) := h1
        show H[a]? = some (vp_cell (cA 0) (n, .inl (fun _ => v)))
        rw [h1, zArrExt (fun j hj => hf j (by omega))]
      exact W.vret hx hb hr (fun t ht _ => ⟨⟨rfl, by rw [ht]; exact hP2⟩, hS.F ht⟩) hS.2.2 (show decode (zCd 264) 20 = .ok (.return_, 1) by decide +kernel) hlocks
    | succ k ih =>
      intro i f H locs ls hi hf hP hD hS hl
      refine lv_iload_n hx hb (show decode (zCd 264) 5 = .ok (.iload_n 2, 1) by decide +kernel) rfl (lv_at hl 2 rfl) ?_
      refine lv_iload_n hx hb (show decode (zCd 264) 6 = .ok (.iload_n 3, 1) by decide +kernel) rfl (lv_at hl 3 rfl) ?_
      refine lv_icmp_ge (tgt := 20) hx hb (show decode (zCd 264) 7 = .ok (.if_icmp .ge 13, 3) by decide +kernel) (by decide) (fun q => absurd q (nI_ge (by omega) (by omega))) (fun _ => ?_)
      refine lv_aload_n hx hb (show decode (zCd 264) 10 = .ok (.aload_n 0, 1) by decide +kernel) rfl (lv_at hl 0 rfl) ?_
      refine lv_iload_n hx hb (show decode (zCd 264) 11 = .ok (.iload_n 2, 1) by decide +kernel) rfl (lv_at hl 2 rfl) ?_
      refine lv_iload_n hx hb (show decode (zCd 264) 12 = .ok (.iload_n 1, 1) by decide +kernel) rfl (lv_at hl 1 rfl) ?_
      refine va_iast hx hb hK hP hD hS 0 0 rfl rfl (vp_in_nI (by omega) (by omega)) (show decode (zCd 264) 13 = .ok (.iastore, 1) by decide +kernel) (fun H1 locs1 hP1 hD1 hS1 => ?_)
      obtain ⟨x2, ex2⟩ : ∃ y : Int32, y = nI i + 1 := ⟨_, rfl⟩
      refine lv_iinc (v := x2) (lv' := [(2, .int x2), (0, .ref a), (1, .int v), (3, .int (nI n))]) hx hb (show decode (zCd 264) 14 = .ok (.iinc 2 1, 3) by decide +kernel) hl (k := 2) rfl (by rw [ex2]; rfl) (by decide) rfl (fun ls hl => ?_)
      refine lv_goto (tgt := 5) hx hb (show decode (zCd 264) 17 = .ok (.goto (-12), 3) by decide +kernel) (by decide) ?_
      rw [nI_clamp (by omega)] at hP1 hD1
      refine ih (i + 1) (upd f i v) H1 locs1 ls (by omega) (fun j hj => ?_) hP1 hD1 hS1 ?_
      · unfold upd
        by_cases q : j = i
        · rw [if_pos q]
        · rw [if_neg q]; exact hf j (by omega)
      · have h2 := lv_sub hl [1, 2, 0, 3] rfl
        rw [ex2, nI_1] at h2
        exact h2
  refine lv_iconst (v := 0) hx hb (show decode (zCd 264) 0 = .ok (.iconst 0, 1) by decide +kernel) (by decide) ?_
  refine lv_istore_n (lv' := [(2, .int 0), (0, .ref a), (1, .int v)]) hx hb (show decode (zCd 264) 1 = .ok (.istore_n 2, 1) by decide +kernel) rfl hl (by decide) rfl (fun ls hl => ?_)
  refine lv_aload_n hx hb (show decode (zCd 264) 2 = .ok (.aload_n 0, 1) by decide +kernel) rfl (lv_at hl 1 rfl) ?_
  refine va_alen (v := nI n) hx hb hK hP 0 0 rfl rfl rfl (show decode (zCd 264) 3 = .ok (.arraylength, 1) by decide +kernel) ?_
  refine lv_istore_n (lv' := [(3, .int (nI n)), (2, .int 0), (0, .ref a), (1, .int v)]) hx hb (show decode (zCd 264) 4 = .ok (.istore_n 3, 1) by decide +kernel) rfl hl (by decide) rfl (fun ls hl => ?_)
  have h2 := lv_sub hl [2, 3, 1, 0] rfl
  exact loop n 0 f s.heap [] ls (by omega) (fun j hj => absurd hj (Nat.not_lt_zero j)) hP hD va_S.rf (by rw [nI_0]; exact h2)
section ZF
variable {p : Program} {l : Launch} {e : Env} {R : Room} {s : State} {m : MethodId} {args : Array Value} {below : List Frame} {meth : Method} {c : Code} {H : Heap} {locs : List Loc} {cells slots : Nat} {Q : State → Prop}
variable {cc : ByteArray} {pc : Nat} {ls : Array Slot} {rest : List Value} {dC : Nat → ClassId} {dI : Nat → Nat → Nat} {cA : Nat → ClassId} {A : Nat → Prop} {ws : va_W} {H0 : Heap}
theorem zFillC {v : Int32} {q0 n idx nL a : Nat} {f : Nat → Int32} {own : String} (hx : p.tables.exec = Jvm.exec) (hb : c.code = cc) (hml : c.maxLocals = nL) (hown : s.vm.findClass own = some m.cls) (hts : ∀ w ∈ zTb, w.before args s = true) (hlk : Jvm.Cond.methodLink own idx (zY 264) ∈ zTb)
    (hK : va_K (dC, dI) zCm (zTys cA) s) (hP : va_P (dC, dI) zCm ws H) (hD : va_D A ws) (hS : va_S A H0 H locs) (he : ws[q0]? = some (a, .inl (cA 0, n, .inl f))) (hsz : ls.size = nL) (hR : 1 ≤ R.frames ∧ 23 ≤ R.locals) (hcs : cells ≤ R.cells ∧ slots ≤ R.slots) (hn : n ≤ 48000) (hrest : (rest.map fun v => v.category).sum ≤ 8) (hdg : decode cc pc = .ok (.invokestatic idx, 3))
    (kk : ∀ (H1 : Heap) (locs1 : List Loc), va_P (dC, dI) zCm (ws.set q0 (a, .inl (cA 0, n, .inl (fun _ => v)))) H1 → va_D A (ws.set q0 (a, .inl (cA 0, n, .inl (fun _ => v)))) → va_S A H0 H1 locs1 → W p l e R s m args below meth c H1 locs1 cells slots Q (F0 m (pc + 3) ls rest)) :
    W p l e R s m args below meth c H locs cells slots Q (F0 m pc ls (.int v :: .ref a :: rest)) := by
  have hG : GoodIn zTb (va_wsS own idx (zY 264) (zWs 264)) := by
    intro w2 hw2
    rcases List.mem_append.mp hw2 with h1 | h1
    · simp only [List.mem_cons, List.not_mem_nil, or_false] at h1
      rcases h1 with rfl | rfl | rfl
      · exact zTb_good _ hlk
      · exact zTb_good _ (zGw (zc_stat 264 (by decide)) rfl)
      · exact zTb_good _ (zc_initg (by decide))
    · exact zWs_good (by decide) w2 h1
  have hmh := zf_mh 264 (by decide)
  have cw := va_cwS (R := R) (s := s) (args := args) (rm := { frames := 0, cells := 0, slots := 0, locals := 0 }) (mc := 0) (ms := 0) 2 hts hG rfl rfl rfl ⟨hmh.1, hmh.2.1, hmh.2.2⟩ ⟨hR.1, hR.2⟩
  have hP1 : va_P (dC, dI) zCm [(a, .inl (cA 0, n, .inl f))] H := by
    rw [zP_mem]
    intro q hq
    rw [List.mem_singleton.mp hq]
    exact hP q0 _ he
  have hr := va_runS (l := l) (e := e) (below := below) (meth := meth) (H := H) (locs := locs) (cells := cells) (slots := slots) (g := F0 m pc ls (.int v :: .ref a :: rest)) (As := [.ref a, .int v]) (rest := rest) ⟨hx, hb, hml, hown, hts⟩ (zn_fill l dC dI cA a n f v hn) cw
    ⟨fun a2 U g mk q => by obtain ⟨q1, qP, qK⟩ := q; exact ⟨q1, qP, va_K.moved (u := U) (U := U.calling g mk a2) (Vm.Alike.refl U.vm) qK⟩, fun U hU hW => ⟨rfl, by rw [hU]; exact hP1, va_K.moved hW.alike hK⟩⟩ rfl rfl hsz rfl (lv_room hrest) hdg ⟨hcs.1, hcs.2⟩
  intro T hT X
  obtain ⟨v2, st₀, t, T', L, h0, X', hL, e1, e2, ⟨⟨hv, hp⟩, hz, hkk⟩, st⟩ := hr T hT X
  have hv := Outcome.returned.inj hv
  subst hv
  rw [h0] at hz hkk
  have ha : A a := hD.2 q0 _ he
  have hP2 : va_P (dC, dI) zCm (ws.set q0 (a, .inl (cA 0, n, .inl (fun _ => v)))) T'.heap := by
    have hl := (List.getElem?_eq_some_iff.mp he).1
    intro k q hk
    by_cases hkp : k = q0
    · subst hkp
      rw [List.getElem?_set_self hl] at hk
      cases hk
      rw [e1]
      exact hp 0 _ rfl
    · rw [List.getElem?_set_ne (Ne.symm hkp)] at hk
      exact (hP k q hk).kept (by rw [e1]; exact hkk q.1 (hP k q hk).lt (fun z => hkp (hD.1 k q0 q _ hk he z)))
  obtain ⟨t2, a1, b1⟩ := kk T'.heap (locs ++ L) hP2 (hD.set he) ⟨Nat.le_trans hS.1 (by rw [e1]; exact hz), fun q h1 h2 => by rw [e1, hkk q (Nat.lt_of_lt_of_le h1 hS.1) (fun z => h2 (by rw [z]; exact ha))]; exact hS.2.1 q h1 h2, fun q hq => by
      rcases List.mem_append.mp hq with h | h
      · exact hS.2.2 q h
      · rw [hL q h]; exact ha⟩ T' rfl X'
  exact ⟨t2, st t2 a1, b1⟩
/-- behind a constructor's call: its cells in front, the others behind -/
theorem zCtorRun {x : Nat × va_E} {lr : va_W} {Wc : List Nat → va_W} {mc ms : Nat} {st0 : List Value} {a0 : Array Value} (hr : va_Run p l e R s m args below meth c H locs cells slots mc ms (F0 m pc ls st0) rest (zQn dC dI Wc (va_A [x] H.size) a0) (va_A [x] H.size)) (hP : va_P (dC, dI) zCm (x :: lr) H) (hD : va_D A (x :: lr)) (hS : va_S A H0 H locs) (hA : ∀ q, H0.size ≤ q → A q)
    (kk : ∀ (qs : List Nat) (H1 : Heap) (locs1 : List Loc), va_P (dC, dI) zCm (Wc qs ++ lr) H1 → va_D A (Wc qs ++ lr) → va_S A H0 H1 locs1 → W p l e R s m args below meth c H1 locs1 (cells + mc) (slots + ms) Q (F0 m (pc + 3) ls rest)) :
    W p l e R s m args below meth c H locs cells slots Q (F0 m pc ls st0) := by
  intro T hT X
  obtain ⟨v2, st₀, t, T', L, h0, X', hL, e1, e2, ⟨⟨qs, hv, hp, hd⟩, hz, hkk⟩, st⟩ := hr T hT X
  have hv := Outcome.returned.inj hv
  subst hv
  rw [h0] at hz hkk
  have hx0 : A x.1 := hD.2 0 x rfl
  have hAx : ∀ q, va_A [x] H.size q → A q := by
    intro q hq
    rcases hq with ⟨k, e, hk⟩ | hq
    · have := List.mem_of_getElem? hk
      rw [List.mem_singleton] at this
      rw [← this] at hx0
      exact hx0
    · exact hA q (Nat.le_trans hS.1 hq)
  have out : ∀ q ∈ lr, q.1 < H.size ∧ ¬ va_A [x] H.size q.1 := by
    intro q hq
    obtain ⟨k, hk⟩ := List.getElem?_of_mem hq
    have hk2 : (x :: lr)[k + 1]? = some q := hk
    refine ⟨(hP _ _ hk2).lt, fun z => ?_⟩
    rcases z with ⟨j, e, hj⟩ | z
    · have := List.mem_of_getElem? hj
      rw [List.mem_singleton] at this
      have h9 := hD.1 (k + 1) 0 q x hk2 rfl (by rw [← this])
      omega
    · have := (hP _ _ hk2).lt
      omega
  have hP2 : va_P (dC, dI) zCm (Wc qs ++ lr) T'.heap := by
    refine va_P.app (by rw [e1]; exact hp) (zP_mem.mpr fun q hq => ?_)
    have h1 := zP_mem.mp hP q (List.mem_cons_of_mem _ hq)
    exact h1.kept (by rw [e1]; exact hkk q.1 (out q hq).1 (out q hq).2)
  have hD2 : va_D A (Wc qs ++ lr) := by
    refine va_D.app (hd.weaken (fun _ _ _ h => hAx _ h)) ?_ ?_
    · refine ⟨fun i j p q hi hj e => ?_, fun k q hk => hD.2 (k + 1) q hk⟩
      have := hD.1 (i + 1) (j + 1) p q hi hj e
      omega
    · intro i j p2 q2 hi hj e
      exact (out q2 (List.mem_of_getElem? hj)).2 (by rw [← e]; exact hd.2 i p2 hi)
  obtain ⟨t2, a1, b1⟩ := kk qs T'.heap (locs ++ L) hP2 hD2 ⟨Nat.le_trans hS.1 (by rw [e1]; exact hz), fun q h1 h2 => by rw [e1, hkk q (Nat.lt_of_lt_of_le h1 hS.1) (fun z => h2 (hAx q z))]; exact hS.2.1 q h1 h2, fun q hq => by
      rcases List.mem_append.mp hq with h | h
      · exact hS.2.2 q h
      · exact hAx _ (hL q h)⟩ T' rfl X'
  exact ⟨t2, st t2 a1, b1⟩
end ZF
