/-! CONSTRUCTORS: words, orders of cells, a new array of a known class, a fill of one array -/
theorem zP_mem {D : va_G} {cl : List vw_C} {ws : va_W} {H : Heap} : va_P D cl ws H ↔ ∀ q ∈ ws, va_at D cl q H :=
  ⟨fun h q hq => by obtain ⟨k, hk⟩ := List.getElem?_of_mem hq; exact h k q hk, fun h k q hk => h q (List.mem_of_getElem? hk)⟩
theorem zPm {D : va_G} {cl : List vw_C} {l l2 : va_W} {H : Heap} (h : l.Perm l2) (hP : va_P D cl l H) : va_P D cl l2 H := zP_mem.mpr fun q hq => zP_mem.mp hP q (h.mem_iff.mpr hq)
theorem zD_nd {A : Nat → Prop} {ws : va_W} : va_D A ws ↔ (ws.map Prod.fst).Nodup ∧ ∀ q ∈ ws, A q.1 := by
  constructor
  · intro h
    refine ⟨?_, fun q hq => by obtain ⟨k, hk⟩ := List.getElem?_of_mem hq; exact h.2 k q hk⟩
    refine List.pairwise_iff_getElem.mpr ?_
    intro i j hi hj hij e
    have hi2 : i < ws.length := by rw [List.length_map] at hi; exact hi
    have hj2 : j < ws.length := by rw [List.length_map] at hj; exact hj
    have := h.1 i j _ _ (List.getElem?_eq_getElem hi2) (List.getElem?_eq_getElem hj2) (by simpa using e)
    omega
  · rintro ⟨h1, h2⟩
    refine ⟨fun i j p q hi hj e => ?_, fun k q hk => h2 q (List.mem_of_getElem? hk)⟩
    have h1 := List.pairwise_iff_getElem.mp h1
    obtain ⟨hi2, ei⟩ := List.getElem?_eq_some_iff.mp hi
    obtain ⟨hj2, ej⟩ := List.getElem?_eq_some_iff.mp hj
    rcases Nat.lt_trichotomy i j with hlt | rfl | hlt
    · refine absurd ?_ (h1 i j (by rw [List.length_map]; exact hi2) (by rw [List.length_map]; exact hj2) hlt)
      rw [List.getElem_map, List.getElem_map, ei, ej]; exact e
    · rfl
    · refine absurd ?_ (h1 j i (by rw [List.length_map]; exact hj2) (by rw [List.length_map]; exact hi2) hlt)
      rw [List.getElem_map, List.getElem_map, ei, ej]; exact e.symm
theorem zDm {A : Nat → Prop} {l l2 : va_W} (h : l.Perm l2) (hD : va_D A l) : va_D A l2 := by
  rw [zD_nd] at hD ⊢
  exact ⟨(h.map Prod.fst).nodup_iff.mp hD.1, fun q hq => hD.2 q (h.mem_iff.mpr hq)⟩
def zPn (dC : Nat → ClassId) (dI : Nat → Nat → Nat) (cA : Nat → ClassId) (h0 ci : Nat) (fs : List Value) (sz : Nat) : State → Prop := fun U => U.heap.size = sz ∧ va_P (dC, dI) zCm [(h0, .inr (ci, fs))] U.heap ∧ va_K (dC, dI) zCm (zTys cA) U ∧ va_D (fun _ => True) [(h0, .inr (ci, fs))]
def zQn (dC : Nat → ClassId) (dI : Nat → Nat → Nat) (Wc : List Nat → va_W) (A : Nat → Prop) : Array Value → State → Outcome → State → Prop := fun _ st oc t => (∃ qs : List Nat, oc = .returned none ∧ va_P (dC, dI) zCm (Wc qs) t.heap ∧ va_D A (Wc qs)) ∧ va_F A st t
theorem zUniq {D : va_G} {cl : List vw_C} {tys : List (ClassId × FieldType)} {s : State} {c0 c1 : ClassId} {ty : FieldType} {t0 : Nat} (hp : ∀ C, ty ≠ .object C) (h : va_K D cl (tys ++ [(c1, ty)]) s) (ht : tys[t0]? = some (c0, ty)) : c1 = c0 := by
  have h1 := (h.2 tys.length (c1, ty) (by simp)).2
  have h2 := (h.2 t0 (c0, ty) (by rw [List.getElem?_append_left (List.getElem?_eq_some_iff.mp ht).1]; exact ht)).2
  cases ty with
  | object C => exact absurd rfl (hp C)
  | _ => exact Option.some.inj (Eq.trans (Eq.symm h1) h2)
section ZN
variable {p : Program} {l : Launch} {e : Env} {R : Room} {s : State} {m : MethodId} {args : Array Value} {below : List Frame} {meth : Method} {c : Code} {H : Heap} {locs : List Loc} {cells slots : Nat} {Q : State → Prop}
variable {cc : ByteArray} {pc : Nat} {ls : Array Slot} {rest : List Value} {D : va_G} {cl : List vw_C} {A : Nat → Prop} {ws : va_W} {H0 : Heap}
theorem zNewa (hexec : p.tables.exec = Jvm.exec) (hb : c.code = cc) {atype : ArrayType} (harr : (Cond.arrayClass (newarray.typeOf atype)).before args s = true) {ty : FieldType} (hty : newarray.typeOf atype = ty) {cA : Nat → ClassId} (t0 : Nat) (ht : (zTys cA)[t0]? = some (cA t0, ty)) (hp : ∀ C, ty ≠ .object C) (hK : va_K D cl (zTys cA) s) (hP : va_P D cl ws H) (hD : va_D A ws) (hS : va_S A H0 H locs) (hA : ∀ q, H0.size ≤ q → A q)
    {n : Int32} {N' : Nat} {a0 : vp_A} (ha : ∀ cA : ClassId, vp_cell cA a0 = arrV cA N' (fun _ => defaultValue ty)) (hn : ¬ n < 0) (hN : n.toNatClampNeg = N') (hbytes : N' * componentBytes ty ≤ 536870912) (hcells : cells + 1 ≤ R.cells) (hslots : slots + N' ≤ R.slots) (hdg : decode cc pc = .ok (.newarray atype, 2))
    (kk : ∀ (q : Nat) (H1 : Heap), va_P D cl (ws ++ [(q, .inl (cA t0, a0))]) H1 → va_D A (ws ++ [(q, .inl (cA t0, a0))]) → va_S A H0 H1 locs → W p l e R s m args below meth c H1 locs (cells + 1) (slots + N') Q (F0 m (pc + 2) ls (.ref q :: rest))) : W p l e R s m args below meth c H locs cells slots Q (F0 m pc ls (.int n :: rest)) :=
  va_newa hexec hb harr hty hK hP hD hS hA ha hn hN hbytes hcells hslots hdg (fun q c1 H1 hK1 hP1 hD1 hS1 => by
    have e1 := zUniq hp hK1 ht
    subst e1
    exact kk q H1 hP1 hD1 hS1)
end ZN
theorem zlg_0 : ∀ w ∈ u_ws RX0 TX0 8, w ∈ zTb := zf_layg (ci := 0) (by decide)
theorem zlg_1 : ∀ w ∈ u_ws RX1 TX1 6, w ∈ zTb := zf_layg (ci := 1) (by decide)
theorem zlg_2 : ∀ w ∈ u_ws RX2 TX2 11, w ∈ zTb := zf_layg (ci := 2) (by decide)
theorem zlg_4 : ∀ w ∈ u_ws RX4 TX4 5, w ∈ zTb := zf_layg (ci := 4) (by decide)
theorem zlg_5 : ∀ w ∈ u_ws RX5 TX5 8, w ∈ zTb := zf_layg (ci := 5) (by decide)
theorem zlg_6 : ∀ w ∈ u_ws RX6 TX6 9, w ∈ zTb := zf_layg (ci := 6) (by decide)
theorem zlg_7 : ∀ w ∈ u_ws RX7 TX7 4, w ∈ zTb := zf_layg (ci := 7) (by decide)
theorem zlg_8 : ∀ w ∈ u_ws RX8 TX8 8, w ∈ zTb := zf_layg (ci := 8) (by decide)
theorem zlg_9 : ∀ w ∈ u_ws RX9 TX9 10, w ∈ zTb := zf_layg (ci := 9) (by decide)
theorem zlg_10 : ∀ w ∈ u_ws RX10 TX10 10, w ∈ zTb := zf_layg (ci := 10) (by decide)
theorem zlg_11 : ∀ w ∈ u_ws RX11 TX11 15, w ∈ zTb := zf_layg (ci := 11) (by decide)
theorem zlg_12 : ∀ w ∈ u_ws RX12 TX12 71, w ∈ zTb := zf_layg (ci := 12) (by decide)
theorem zk_0 : (.methodLink "LeastFailing$Bugs" 3 Lib.objectInit : Jvm.Cond) ∈ zTb := zGw (zI1 (List.mem_of_getElem? (i := 126) rfl)) rfl
theorem zk_1 : (.instanceMethod Lib.objectInit : Jvm.Cond) ∈ zTb := zGw (zI1 (List.mem_of_getElem? (i := 23) rfl)) rfl
theorem zk_2 : (.code Lib.objectInit ⟨#[0xb1]⟩ 1 none : Jvm.Cond) ∈ zTb := zGw (zI1 (List.mem_of_getElem? (i := 24) rfl)) rfl
theorem zk_3 : (.arrayClass .int : Jvm.Cond) ∈ zTb := zGw (zI1 (List.mem_of_getElem? (i := 119) rfl)) rfl
theorem zk_4 : (.fieldLink "LeastFailing$Bugs" 9 "LeastFailing$Bugs" "names" "[I" : Jvm.Cond) ∈ zTb := zGw (zI1 (List.mem_of_getElem? (i := 131) rfl)) rfl
theorem zk_5 : (.fieldLink "LeastFailing$Bugs" 15 "LeastFailing$Bugs" "odds" "[I" : Jvm.Cond) ∈ zTb := zGw (zI1 (List.mem_of_getElem? (i := 133) rfl)) rfl
theorem zk_6 : (.fieldLink "LeastFailing$Bugs" 18 "LeastFailing$Bugs" "steps" "[I" : Jvm.Cond) ∈ zTb := zGw (zI1 (List.mem_of_getElem? (i := 136) rfl)) rfl
theorem zk_7 : (.fieldLink "LeastFailing$Bugs" 21 "LeastFailing$Bugs" "firsts" "[I" : Jvm.Cond) ∈ zTb := zGw (zI1 (List.mem_of_getElem? (i := 137) rfl)) rfl
theorem zk_8 : (.fieldLink "LeastFailing$Bugs" 24 "LeastFailing$Bugs" "seconds" "[I" : Jvm.Cond) ∈ zTb := zGw (zI1 (List.mem_of_getElem? (i := 138) rfl)) rfl
theorem zk_9 : (.fieldLink "LeastFailing$Bugs" 27 "LeastFailing$Bugs" "numbers" "[I" : Jvm.Cond) ∈ zTb := zGw (zI1 (List.mem_of_getElem? (i := 139) rfl)) rfl
theorem zk_10 : (.methodLink "LeastFailing$BugsReader" 3 Lib.objectInit : Jvm.Cond) ∈ zTb := zGw (zI2 (List.mem_of_getElem? (i := 2) rfl)) rfl
theorem zk_11 : (.fieldLink "LeastFailing$BugsReader" 11 "LeastFailing$BugsReader" "waiting" "[I" : Jvm.Cond) ∈ zTb := zGw (zI2 (List.mem_of_getElem? (i := 6) rfl)) rfl
theorem zk_12 : (.fieldLink "LeastFailing$BugsReader" 15 "LeastFailing$BugsReader" "text" "LLeastFailing$Text;" : Jvm.Cond) ∈ zTb := zGw (zI2 (List.mem_of_getElem? (i := 3) rfl)) rfl
theorem zk_13 : (.fieldLink "LeastFailing$BugsReader" 19 "LeastFailing$BugsReader" "grammar" "LLeastFailing$Grammar;" : Jvm.Cond) ∈ zTb := zGw (zI2 (List.mem_of_getElem? (i := 4) rfl)) rfl
theorem zk_14 : (.fieldLink "LeastFailing$BugsReader" 23 "LeastFailing$BugsReader" "bugs" "LLeastFailing$Bugs;" : Jvm.Cond) ∈ zTb := zGw (zI2 (List.mem_of_getElem? (i := 5) rfl)) rfl
theorem zk_15 : (.methodLink "LeastFailing$Grammar" 3 Lib.objectInit : Jvm.Cond) ∈ zTb := zGw (zI1 (List.mem_of_getElem? (i := 68) rfl)) rfl
theorem zk_16 : (.fieldLink "LeastFailing$Grammar" 9 "LeastFailing$Grammar" "names" "[I" : Jvm.Cond) ∈ zTb := zGw (zI1 (List.mem_of_getElem? (i := 75) rfl)) rfl
theorem zk_17 : (.arrayClass .boolean : Jvm.Cond) ∈ zTb := zGw (zI1 (List.mem_of_getElem? (i := 120) rfl)) rfl
theorem zk_18 : (.fieldLink "LeastFailing$Grammar" 15 "LeastFailing$Grammar" "isForm" "[Z" : Jvm.Cond) ∈ zTb := zGw (zI1 (List.mem_of_getElem? (i := 77) rfl)) rfl
theorem zk_19 : (.fieldLink "LeastFailing$Grammar" 19 "LeastFailing$Grammar" "sortOf" "[I" : Jvm.Cond) ∈ zTb := zGw (zI1 (List.mem_of_getElem? (i := 80) rfl)) rfl
theorem zk_20 : (.fieldLink "LeastFailing$Grammar" 22 "LeastFailing$Grammar" "behind" "[I" : Jvm.Cond) ∈ zTb := zGw (zI1 (List.mem_of_getElem? (i := 84) rfl)) rfl
theorem zk_21 : (.fieldLink "LeastFailing$Grammar" 25 "LeastFailing$Grammar" "hasStar" "[Z" : Jvm.Cond) ∈ zTb := zGw (zI1 (List.mem_of_getElem? (i := 86) rfl)) rfl
theorem zk_22 : (.fieldLink "LeastFailing$Grammar" 28 "LeastFailing$Grammar" "sortsBehind" "[I" : Jvm.Cond) ∈ zTb := zGw (zI1 (List.mem_of_getElem? (i := 89) rfl)) rfl
theorem zk_23 : (.fieldLink "LeastFailing$Grammar" 31 "LeastFailing$Grammar" "sortNames" "[I" : Jvm.Cond) ∈ zTb := zGw (zI1 (List.mem_of_getElem? (i := 90) rfl)) rfl
theorem zk_24 : (.fieldLink "LeastFailing$Grammar" 34 "LeastFailing$Grammar" "leastSize" "[I" : Jvm.Cond) ∈ zTb := zGw (zI1 (List.mem_of_getElem? (i := 92) rfl)) rfl
theorem zk_25 : (.fieldLink "LeastFailing$Grammar" 37 "LeastFailing$Grammar" "leastLine" "[I" : Jvm.Cond) ∈ zTb := zGw (zI1 (List.mem_of_getElem? (i := 95) rfl)) rfl
theorem zk_26 : (.methodLink "LeastFailing$InputReader" 3 Lib.objectInit : Jvm.Cond) ∈ zTb := zGw (zI1 (List.mem_of_getElem? (i := 220) rfl)) rfl
theorem zk_27 : (.fieldLink "LeastFailing$InputReader" 9 "LeastFailing$InputReader" "open" "[I" : Jvm.Cond) ∈ zTb := zGw (zI1 (List.mem_of_getElem? (i := 224) rfl)) rfl
theorem zk_28 : (.fieldLink "LeastFailing$InputReader" 15 "LeastFailing$InputReader" "text" "LLeastFailing$Text;" : Jvm.Cond) ∈ zTb := zGw (zI1 (List.mem_of_getElem? (i := 221) rfl)) rfl
theorem zk_29 : (.fieldLink "LeastFailing$InputReader" 19 "LeastFailing$InputReader" "grammar" "LLeastFailing$Grammar;" : Jvm.Cond) ∈ zTb := zGw (zI1 (List.mem_of_getElem? (i := 222) rfl)) rfl
theorem zk_30 : (.fieldLink "LeastFailing$InputReader" 23 "LeastFailing$InputReader" "tree" "LLeastFailing$Tree;" : Jvm.Cond) ∈ zTb := zGw (zI1 (List.mem_of_getElem? (i := 223) rfl)) rfl
theorem zk_31 : (.methodLink "LeastFailing$Judge" 3 Lib.objectInit : Jvm.Cond) ∈ zTb := zGw (zI2 (List.mem_of_getElem? (i := 75) rfl)) rfl
theorem zk_32 : (.fieldLink "LeastFailing$Judge" 9 "LeastFailing$Judge" "told" "[I" : Jvm.Cond) ∈ zTb := zGw (zI2 (List.mem_of_getElem? (i := 78) rfl)) rfl
theorem zk_33 : (.fieldLink "LeastFailing$Judge" 15 "LeastFailing$Judge" "votes" "I" : Jvm.Cond) ∈ zTb := zGw (zI2 (List.mem_of_getElem? (i := 79) rfl)) rfl
theorem zk_34 : (.fieldLink "LeastFailing$Judge" 19 "LeastFailing$Judge" "seed" "I" : Jvm.Cond) ∈ zTb := zGw (zI2 (List.mem_of_getElem? (i := 81) rfl)) rfl
theorem zk_35 : (.fieldLink "LeastFailing$Judge" 22 "LeastFailing$Judge" "bugs" "LLeastFailing$Bugs;" : Jvm.Cond) ∈ zTb := zGw (zI2 (List.mem_of_getElem? (i := 76) rfl)) rfl
theorem zk_36 : (.fieldLink "LeastFailing$Judge" 26 "LeastFailing$Judge" "tried" "LLeastFailing$Tried;" : Jvm.Cond) ∈ zTb := zGw (zI2 (List.mem_of_getElem? (i := 77) rfl)) rfl
theorem zk_37 : (.methodLink "LeastFailing$Reducer" 3 Lib.objectInit : Jvm.Cond) ∈ zTb := zGw (zI2 (List.mem_of_getElem? (i := 133) rfl)) rfl
theorem zk_38 : (.fieldLink "LeastFailing$Reducer" 9 "LeastFailing$Reducer" "row" "[I" : Jvm.Cond) ∈ zTb := zGw (zI2 (List.mem_of_getElem? (i := 140) rfl)) rfl
theorem zk_39 : (.fieldLink "LeastFailing$Reducer" 15 "LeastFailing$Reducer" "changed" "[Z" : Jvm.Cond) ∈ zTb := zGw (zI2 (List.mem_of_getElem? (i := 142) rfl)) rfl
theorem zk_40 : (.fieldLink "LeastFailing$Reducer" 19 "LeastFailing$Reducer" "moved" "[I" : Jvm.Cond) ∈ zTb := zGw (zI2 (List.mem_of_getElem? (i := 143) rfl)) rfl
theorem zk_41 : (.fieldLink "LeastFailing$Reducer" 22 "LeastFailing$Reducer" "tree" "LLeastFailing$Tree;" : Jvm.Cond) ∈ zTb := zGw (zI2 (List.mem_of_getElem? (i := 134) rfl)) rfl
theorem zk_42 : (.fieldLink "LeastFailing$Reducer" 26 "LeastFailing$Reducer" "made" "LLeastFailing$Tree;" : Jvm.Cond) ∈ zTb := zGw (zI2 (List.mem_of_getElem? (i := 135) rfl)) rfl
theorem zk_43 : (.fieldLink "LeastFailing$Reducer" 29 "LeastFailing$Reducer" "judge" "LLeastFailing$Judge;" : Jvm.Cond) ∈ zTb := zGw (zI2 (List.mem_of_getElem? (i := 136) rfl)) rfl
theorem zk_44 : (.methodLink "LeastFailing$Single" 3 Lib.objectInit : Jvm.Cond) ∈ zTb := zGw (zI2 (List.mem_of_getElem? (i := 111) rfl)) rfl
theorem zk_45 : (.fieldLink "LeastFailing$Single" 9 "LeastFailing$Single" "tree" "LLeastFailing$Tree;" : Jvm.Cond) ∈ zTb := zGw (zI2 (List.mem_of_getElem? (i := 112) rfl)) rfl
theorem zk_46 : (.methodLink "LeastFailing$Text" 3 Lib.objectInit : Jvm.Cond) ∈ zTb := zGw (zI1 (List.mem_of_getElem? (i := 30) rfl)) rfl
theorem zk_47 : (.arrayClass .byte : Jvm.Cond) ∈ zTb := zGw (zI1 (List.mem_of_getElem? (i := 62) rfl)) rfl
theorem zk_48 : (.fieldLink "LeastFailing$Text" 9 "LeastFailing$Text" "bytes" "[B" : Jvm.Cond) ∈ zTb := zGw (zI1 (List.mem_of_getElem? (i := 31) rfl)) rfl
theorem zk_49 : (.fieldLink "LeastFailing$Text" 15 "LeastFailing$Text" "faultPlace" "I" : Jvm.Cond) ∈ zTb := zGw (zI1 (List.mem_of_getElem? (i := 43) rfl)) rfl
theorem zk_50 : (.methodLink "LeastFailing$Tree" 3 Lib.objectInit : Jvm.Cond) ∈ zTb := zGw (zI1 (List.mem_of_getElem? (i := 162) rfl)) rfl
theorem zk_51 : (.fieldLink "LeastFailing$Tree" 9 "LeastFailing$Tree" "names" "[I" : Jvm.Cond) ∈ zTb := zGw (zI1 (List.mem_of_getElem? (i := 174) rfl)) rfl
theorem zk_52 : (.fieldLink "LeastFailing$Tree" 15 "LeastFailing$Tree" "parts" "[I" : Jvm.Cond) ∈ zTb := zGw (zI1 (List.mem_of_getElem? (i := 178) rfl)) rfl
theorem zk_53 : (.fieldLink "LeastFailing$Tree" 18 "LeastFailing$Tree" "parents" "[I" : Jvm.Cond) ∈ zTb := zGw (zI1 (List.mem_of_getElem? (i := 182) rfl)) rfl
theorem zk_54 : (.fieldLink "LeastFailing$Tree" 21 "LeastFailing$Tree" "places" "[I" : Jvm.Cond) ∈ zTb := zGw (zI1 (List.mem_of_getElem? (i := 184) rfl)) rfl
theorem zk_55 : (.fieldLink "LeastFailing$Tree" 24 "LeastFailing$Tree" "levels" "[I" : Jvm.Cond) ∈ zTb := zGw (zI1 (List.mem_of_getElem? (i := 186) rfl)) rfl
theorem zk_56 : (.fieldLink "LeastFailing$Tree" 27 "LeastFailing$Tree" "sizes" "[I" : Jvm.Cond) ∈ zTb := zGw (zI1 (List.mem_of_getElem? (i := 188) rfl)) rfl
theorem zk_57 : (.fieldLink "LeastFailing$Tree" 30 "LeastFailing$Tree" "filled" "[I" : Jvm.Cond) ∈ zTb := zGw (zI1 (List.mem_of_getElem? (i := 192) rfl)) rfl
theorem zk_58 : (.fieldLink "LeastFailing$Tree" 33 "LeastFailing$Tree" "grammar" "LLeastFailing$Grammar;" : Jvm.Cond) ∈ zTb := zGw (zI1 (List.mem_of_getElem? (i := 163) rfl)) rfl
theorem zk_59 : (.methodLink "LeastFailing$Tried" 5 Lib.objectInit : Jvm.Cond) ∈ zTb := zGw (zI2 (List.mem_of_getElem? (i := 27) rfl)) rfl
theorem zk_60 : (.fieldLink "LeastFailing$Tried" 11 "LeastFailing$Tried" "sizes" "[I" : Jvm.Cond) ∈ zTb := zGw (zI2 (List.mem_of_getElem? (i := 34) rfl)) rfl
theorem zk_61 : (.fieldLink "LeastFailing$Tried" 15 "LeastFailing$Tried" "verdicts" "[I" : Jvm.Cond) ∈ zTb := zGw (zI2 (List.mem_of_getElem? (i := 36) rfl)) rfl
theorem zk_62 : (.fieldLink "LeastFailing$Tried" 18 "LeastFailing$Tried" "reasons" "[I" : Jvm.Cond) ∈ zTb := zGw (zI2 (List.mem_of_getElem? (i := 39) rfl)) rfl
theorem zk_63 : (.fieldLink "LeastFailing$Tried" 21 "LeastFailing$Tried" "wheres" "[I" : Jvm.Cond) ∈ zTb := zGw (zI2 (List.mem_of_getElem? (i := 41) rfl)) rfl
theorem zk_64 : (.arrayClass .long : Jvm.Cond) ∈ zTb := zGw (zI2 (List.mem_of_getElem? (i := 69) rfl)) rfl
theorem zk_65 : (.fieldLink "LeastFailing$Tried" 24 "LeastFailing$Tried" "keys" "[J" : Jvm.Cond) ∈ zTb := zGw (zI2 (List.mem_of_getElem? (i := 43) rfl)) rfl
theorem zk_66 : (.fieldLink "LeastFailing$Tried" 28 "LeastFailing$Tried" "earlier" "[I" : Jvm.Cond) ∈ zTb := zGw (zI2 (List.mem_of_getElem? (i := 44) rfl)) rfl
theorem zk_67 : (.fieldLink "LeastFailing$Tried" 31 "LeastFailing$Tried" "latest" "[I" : Jvm.Cond) ∈ zTb := zGw (zI2 (List.mem_of_getElem? (i := 45) rfl)) rfl
theorem zk_68 : (.fieldLink "LeastFailing$Tried" 34 "LeastFailing$Tried" "key" "[J" : Jvm.Cond) ∈ zTb := zGw (zI2 (List.mem_of_getElem? (i := 46) rfl)) rfl
theorem zk_69 : (.methodLink "LeastFailing$Tried" 37 (⟨"java/util/Arrays", "fill", "([II)V"⟩ : MethodName) : Jvm.Cond) ∈ zTb := zGw (zI2 (List.mem_of_getElem? (i := 28) rfl)) rfl
theorem zk_70 : (.methodLink "LeastFailingModel" 1 Lib.objectInit : Jvm.Cond) ∈ zTb := zGw (zI5 (List.mem_of_getElem? (i := 113) rfl)) rfl
theorem zk_71 : (.fieldLink "LeastFailingModel" 7 "LeastFailingModel" "tape" "[B" : Jvm.Cond) ∈ zTb := zGw (zI5 (List.mem_of_getElem? (i := 116) rfl)) rfl
theorem zk_72 : (.fieldLink "LeastFailingModel" 13 "LeastFailingModel" "faultPlace" "I" : Jvm.Cond) ∈ zTb := zGw (zI5 (List.mem_of_getElem? (i := 124) rfl)) rfl
theorem zk_73 : (.fieldLink "LeastFailingModel" 17 "LeastFailingModel" "g" "[I" : Jvm.Cond) ∈ zTb := zGw (zI5 (List.mem_of_getElem? (i := 129) rfl)) rfl
theorem zk_74 : (.fieldLink "LeastFailingModel" 21 "LeastFailingModel" "lineName" "[J" : Jvm.Cond) ∈ zTb := zGw (zI5 (List.mem_of_getElem? (i := 130) rfl)) rfl
theorem zk_75 : (.fieldLink "LeastFailingModel" 25 "LeastFailingModel" "sortName" "[J" : Jvm.Cond) ∈ zTb := zGw (zI5 (List.mem_of_getElem? (i := 131) rfl)) rfl
theorem zk_76 : (.fieldLink "LeastFailingModel" 28 "LeastFailingModel" "fresh" "[I" : Jvm.Cond) ∈ zTb := zGw (zI5 (List.mem_of_getElem? (i := 132) rfl)) rfl
theorem zk_77 : (.fieldLink "LeastFailingModel" 31 "LeastFailingModel" "freshLine" "[J" : Jvm.Cond) ∈ zTb := zGw (zI5 (List.mem_of_getElem? (i := 133) rfl)) rfl
theorem zk_78 : (.fieldLink "LeastFailingModel" 34 "LeastFailingModel" "freshSort" "[J" : Jvm.Cond) ∈ zTb := zGw (zI5 (List.mem_of_getElem? (i := 134) rfl)) rfl
theorem zk_79 : (.fieldLink "LeastFailingModel" 37 "LeastFailingModel" "leastSize" "[I" : Jvm.Cond) ∈ zTb := zGw (zI5 (List.mem_of_getElem? (i := 135) rfl)) rfl
theorem zk_80 : (.fieldLink "LeastFailingModel" 40 "LeastFailingModel" "leastLine" "[I" : Jvm.Cond) ∈ zTb := zGw (zI5 (List.mem_of_getElem? (i := 136) rfl)) rfl
theorem zk_81 : (.fieldLink "LeastFailingModel" 43 "LeastFailingModel" "freshSize" "[I" : Jvm.Cond) ∈ zTb := zGw (zI5 (List.mem_of_getElem? (i := 137) rfl)) rfl
theorem zk_82 : (.fieldLink "LeastFailingModel" 46 "LeastFailingModel" "t" "[I" : Jvm.Cond) ∈ zTb := zGw (zI5 (List.mem_of_getElem? (i := 138) rfl)) rfl
theorem zk_83 : (.fieldLink "LeastFailingModel" 49 "LeastFailingModel" "openNode" "[I" : Jvm.Cond) ∈ zTb := zGw (zI5 (List.mem_of_getElem? (i := 141) rfl)) rfl
theorem zk_84 : (.fieldLink "LeastFailingModel" 52 "LeastFailingModel" "openParts" "[I" : Jvm.Cond) ∈ zTb := zGw (zI5 (List.mem_of_getElem? (i := 142) rfl)) rfl
theorem zk_85 : (.fieldLink "LeastFailingModel" 55 "LeastFailingModel" "code" "[I" : Jvm.Cond) ∈ zTb := zGw (zI5 (List.mem_of_getElem? (i := 144) rfl)) rfl
theorem zk_86 : (.fieldLink "LeastFailingModel" 58 "LeastFailingModel" "freshCode" "[I" : Jvm.Cond) ∈ zTb := zGw (zI5 (List.mem_of_getElem? (i := 145) rfl)) rfl
theorem zk_87 : (.fieldLink "LeastFailingModel" 61 "LeastFailingModel" "codeFrom" "[I" : Jvm.Cond) ∈ zTb := zGw (zI5 (List.mem_of_getElem? (i := 146) rfl)) rfl
theorem zk_88 : (.fieldLink "LeastFailingModel" 64 "LeastFailingModel" "freshFrom" "[I" : Jvm.Cond) ∈ zTb := zGw (zI5 (List.mem_of_getElem? (i := 147) rfl)) rfl
theorem zk_89 : (.fieldLink "LeastFailingModel" 67 "LeastFailingModel" "odds" "[I" : Jvm.Cond) ∈ zTb := zGw (zI5 (List.mem_of_getElem? (i := 148) rfl)) rfl
theorem zk_90 : (.fieldLink "LeastFailingModel" 70 "LeastFailingModel" "freshOdds" "[I" : Jvm.Cond) ∈ zTb := zGw (zI5 (List.mem_of_getElem? (i := 149) rfl)) rfl
theorem zk_91 : (.fieldLink "LeastFailingModel" 73 "LeastFailingModel" "bugName" "[J" : Jvm.Cond) ∈ zTb := zGw (zI5 (List.mem_of_getElem? (i := 150) rfl)) rfl
theorem zk_92 : (.fieldLink "LeastFailingModel" 76 "LeastFailingModel" "freshBug" "[J" : Jvm.Cond) ∈ zTb := zGw (zI5 (List.mem_of_getElem? (i := 151) rfl)) rfl
theorem zk_93 : (.fieldLink "LeastFailingModel" 79 "LeastFailingModel" "pile" "[I" : Jvm.Cond) ∈ zTb := zGw (zI5 (List.mem_of_getElem? (i := 154) rfl)) rfl
theorem zk_94 : (.fieldLink "LeastFailingModel" 82 "LeastFailingModel" "parent" "[I" : Jvm.Cond) ∈ zTb := zGw (zI5 (List.mem_of_getElem? (i := 157) rfl)) rfl
theorem zk_95 : (.fieldLink "LeastFailingModel" 85 "LeastFailingModel" "level" "[I" : Jvm.Cond) ∈ zTb := zGw (zI5 (List.mem_of_getElem? (i := 158) rfl)) rfl
theorem zk_96 : (.fieldLink "LeastFailingModel" 88 "LeastFailingModel" "part" "[I" : Jvm.Cond) ∈ zTb := zGw (zI5 (List.mem_of_getElem? (i := 159) rfl)) rfl
theorem zk_97 : (.fieldLink "LeastFailingModel" 91 "LeastFailingModel" "isStarred" "[Z" : Jvm.Cond) ∈ zTb := zGw (zI5 (List.mem_of_getElem? (i := 160) rfl)) rfl
theorem zk_98 : (.fieldLink "LeastFailingModel" 95 "LeastFailingModel" "seeded" "J" : Jvm.Cond) ∈ zTb := zGw (zI5 (List.mem_of_getElem? (i := 162) rfl)) rfl
theorem zk_99 : (.fieldLink "LeastFailingModel" 99 "LeastFailingModel" "votes" "I" : Jvm.Cond) ∈ zTb := zGw (zI5 (List.mem_of_getElem? (i := 163) rfl)) rfl
theorem zk_100 : (.constant "LeastFailingModel" 102 48000 : Jvm.Cond) ∈ zTb := zGw (zI5 (List.mem_of_getElem? (i := 114) rfl)) rfl
theorem zk_101 : (.fieldLink "LeastFailingModel" 103 "LeastFailingModel" "triedCells" "[I" : Jvm.Cond) ∈ zTb := zGw (zI5 (List.mem_of_getElem? (i := 167) rfl)) rfl
theorem zk_102 : (.fieldLink "LeastFailingModel" 106 "LeastFailingModel" "triedNodes" "[I" : Jvm.Cond) ∈ zTb := zGw (zI5 (List.mem_of_getElem? (i := 168) rfl)) rfl
theorem zk_103 : (.fieldLink "LeastFailingModel" 109 "LeastFailingModel" "triedVerdict" "[I" : Jvm.Cond) ∈ zTb := zGw (zI5 (List.mem_of_getElem? (i := 169) rfl)) rfl
theorem zk_104 : (.fieldLink "LeastFailingModel" 112 "LeastFailingModel" "triedFor" "[I" : Jvm.Cond) ∈ zTb := zGw (zI5 (List.mem_of_getElem? (i := 170) rfl)) rfl
theorem zk_105 : (.fieldLink "LeastFailingModel" 115 "LeastFailingModel" "triedAt" "[I" : Jvm.Cond) ∈ zTb := zGw (zI5 (List.mem_of_getElem? (i := 171) rfl)) rfl
theorem zk_106 : (.fieldLink "LeastFailingModel" 118 "LeastFailingModel" "tally" "[I" : Jvm.Cond) ∈ zTb := zGw (zI5 (List.mem_of_getElem? (i := 173) rfl)) rfl
theorem zk_107 : (.fieldLink "LeastFailingModel" 121 "LeastFailingModel" "mark" "[I" : Jvm.Cond) ∈ zTb := zGw (zI5 (List.mem_of_getElem? (i := 174) rfl)) rfl
theorem zk_108 : (.fieldLink "LeastFailingModel" 124 "LeastFailingModel" "movedTo" "[I" : Jvm.Cond) ∈ zTb := zGw (zI5 (List.mem_of_getElem? (i := 176) rfl)) rfl
theorem zk_109 : (.fieldLink "LeastFailingModel" 127 "LeastFailingModel" "endAt" "[I" : Jvm.Cond) ∈ zTb := zGw (zI5 (List.mem_of_getElem? (i := 177) rfl)) rfl
theorem zk_110 : (.fieldLink "LeastFailingModel" 130 "LeastFailingModel" "outAt" "[I" : Jvm.Cond) ∈ zTb := zGw (zI5 (List.mem_of_getElem? (i := 178) rfl)) rfl
theorem zk_111 : (.fieldLink "LeastFailingModel" 133 "LeastFailingModel" "row" "[I" : Jvm.Cond) ∈ zTb := zGw (zI5 (List.mem_of_getElem? (i := 184) rfl)) rfl
theorem zk_112 : (.methodLink "LeastFailing" 3 Lib.objectInit : Jvm.Cond) ∈ zTb := zGw (zI1 (List.mem_of_getElem? (i := 22) rfl)) rfl
theorem zk_113 : (.classLink "LeastFailing" 9 "LeastFailing$Text" : Jvm.Cond) ∈ zTb := zGw (zI1 (List.mem_of_getElem? (i := 25) rfl)) rfl
theorem zk_114 : (.instantiable "LeastFailing$Text" 8 : Jvm.Cond) ∈ zTb := zGw (zI1 (List.mem_of_getElem? (i := 26) rfl)) rfl
theorem zk_115 : (.initialized "LeastFailing$Text" : Jvm.Cond) ∈ zTb := zGw (zI1 (List.mem_of_getElem? (i := 2) rfl)) rfl
theorem zk_116 : (.code (⟨"LeastFailing$Text", "<init>", "()V"⟩ : MethodName) prog_10_method_1_code 1 none : Jvm.Cond) ∈ zTb := zGw (zI1 (List.mem_of_getElem? (i := 29) rfl)) rfl
theorem zk_117 : (.instanceMethod (⟨"LeastFailing$Text", "<init>", "()V"⟩ : MethodName) : Jvm.Cond) ∈ zTb := zGw (zI1 (List.mem_of_getElem? (i := 28) rfl)) rfl
theorem zk_118 : (.fieldLink "LeastFailing" 12 "LeastFailing" "text" "LLeastFailing$Text;" : Jvm.Cond) ∈ zTb := zGw (zI2 (List.mem_of_getElem? (i := 163) rfl)) rfl
theorem zk_119 : (.classLink "LeastFailing" 16 "LeastFailing$Grammar" : Jvm.Cond) ∈ zTb := zGw (zI1 (List.mem_of_getElem? (i := 63) rfl)) rfl
theorem zk_120 : (.instantiable "LeastFailing$Grammar" 11 : Jvm.Cond) ∈ zTb := zGw (zI1 (List.mem_of_getElem? (i := 64) rfl)) rfl
theorem zk_121 : (.initialized "LeastFailing$Grammar" : Jvm.Cond) ∈ zTb := zGw (zI1 (List.mem_of_getElem? (i := 3) rfl)) rfl
theorem zk_122 : (.code (⟨"LeastFailing$Grammar", "<init>", "()V"⟩ : MethodName) prog_4_method_1_code 1 none : Jvm.Cond) ∈ zTb := zGw (zI1 (List.mem_of_getElem? (i := 67) rfl)) rfl
theorem zk_123 : (.instanceMethod (⟨"LeastFailing$Grammar", "<init>", "()V"⟩ : MethodName) : Jvm.Cond) ∈ zTb := zGw (zI1 (List.mem_of_getElem? (i := 66) rfl)) rfl
theorem zk_124 : (.fieldLink "LeastFailing" 19 "LeastFailing" "grammar" "LLeastFailing$Grammar;" : Jvm.Cond) ∈ zTb := zGw (zI2 (List.mem_of_getElem? (i := 164) rfl)) rfl
theorem zk_125 : (.fieldLink "LeastFailing" 23 "LeastFailing" "readGrammar" "LLeastFailing$Grammar;" : Jvm.Cond) ∈ zTb := zGw (zI2 (List.mem_of_getElem? (i := 165) rfl)) rfl
theorem zk_126 : (.classLink "LeastFailing" 26 "LeastFailing$Bugs" : Jvm.Cond) ∈ zTb := zGw (zI1 (List.mem_of_getElem? (i := 121) rfl)) rfl
theorem zk_127 : (.instantiable "LeastFailing$Bugs" 8 : Jvm.Cond) ∈ zTb := zGw (zI1 (List.mem_of_getElem? (i := 122) rfl)) rfl
theorem zk_128 : (.initialized "LeastFailing$Bugs" : Jvm.Cond) ∈ zTb := zGw (zI1 (List.mem_of_getElem? (i := 4) rfl)) rfl
theorem zk_129 : (.code (⟨"LeastFailing$Bugs", "<init>", "()V"⟩ : MethodName) prog_2_method_1_code 1 none : Jvm.Cond) ∈ zTb := zGw (zI1 (List.mem_of_getElem? (i := 125) rfl)) rfl
theorem zk_130 : (.instanceMethod (⟨"LeastFailing$Bugs", "<init>", "()V"⟩ : MethodName) : Jvm.Cond) ∈ zTb := zGw (zI1 (List.mem_of_getElem? (i := 124) rfl)) rfl
theorem zk_131 : (.fieldLink "LeastFailing" 29 "LeastFailing" "bugs" "LLeastFailing$Bugs;" : Jvm.Cond) ∈ zTb := zGw (zI2 (List.mem_of_getElem? (i := 166) rfl)) rfl
theorem zk_132 : (.fieldLink "LeastFailing" 33 "LeastFailing" "readBugs" "LLeastFailing$Bugs;" : Jvm.Cond) ∈ zTb := zGw (zI2 (List.mem_of_getElem? (i := 167) rfl)) rfl
theorem zk_133 : (.classLink "LeastFailing" 36 "LeastFailing$Tree" : Jvm.Cond) ∈ zTb := zGw (zI1 (List.mem_of_getElem? (i := 157) rfl)) rfl
theorem zk_134 : (.instantiable "LeastFailing$Tree" 10 : Jvm.Cond) ∈ zTb := zGw (zI1 (List.mem_of_getElem? (i := 158) rfl)) rfl
theorem zk_135 : (.initialized "LeastFailing$Tree" : Jvm.Cond) ∈ zTb := zGw (zI1 (List.mem_of_getElem? (i := 5) rfl)) rfl
theorem zk_136 : (.code (⟨"LeastFailing$Tree", "<init>", "(LLeastFailing$Grammar;)V"⟩ : MethodName) prog_11_method_1_code 2 none : Jvm.Cond) ∈ zTb := zGw (zI1 (List.mem_of_getElem? (i := 161) rfl)) rfl
theorem zk_137 : (.methodLink "LeastFailing" 38 (⟨"LeastFailing$Tree", "<init>", "(LLeastFailing$Grammar;)V"⟩ : MethodName) : Jvm.Cond) ∈ zTb := zGw (zI1 (List.mem_of_getElem? (i := 159) rfl)) rfl
theorem zk_138 : (.instanceMethod (⟨"LeastFailing$Tree", "<init>", "(LLeastFailing$Grammar;)V"⟩ : MethodName) : Jvm.Cond) ∈ zTb := zGw (zI1 (List.mem_of_getElem? (i := 160) rfl)) rfl
theorem zk_139 : (.fieldLink "LeastFailing" 41 "LeastFailing" "input" "LLeastFailing$Tree;" : Jvm.Cond) ∈ zTb := zGw (zI2 (List.mem_of_getElem? (i := 168) rfl)) rfl
theorem zk_140 : (.fieldLink "LeastFailing" 45 "LeastFailing" "made" "LLeastFailing$Tree;" : Jvm.Cond) ∈ zTb := zGw (zI2 (List.mem_of_getElem? (i := 169) rfl)) rfl
theorem zk_141 : (.fieldLink "LeastFailing" 48 "LeastFailing" "past" "[LLeastFailing$Tree;" : Jvm.Cond) ∈ zTb := zGw (zI2 (List.mem_of_getElem? (i := 170) rfl)) rfl
theorem zk_142 : (.classLink "LeastFailing" 52 "LeastFailing$InputReader" : Jvm.Cond) ∈ zTb := zGw (zI1 (List.mem_of_getElem? (i := 215) rfl)) rfl
theorem zk_143 : (.instantiable "LeastFailing$InputReader" 5 : Jvm.Cond) ∈ zTb := zGw (zI1 (List.mem_of_getElem? (i := 216) rfl)) rfl
theorem zk_144 : (.initialized "LeastFailing$InputReader" : Jvm.Cond) ∈ zTb := zGw (zI1 (List.mem_of_getElem? (i := 6) rfl)) rfl
theorem zk_145 : (.code (⟨"LeastFailing$InputReader", "<init>", "(LLeastFailing$Text;LLeastFailing$Grammar;LLeastFailing$Tree;)V"⟩ : MethodName) prog_6_method_1_code 4 none : Jvm.Cond) ∈ zTb := zGw (zI1 (List.mem_of_getElem? (i := 219) rfl)) rfl
theorem zk_146 : (.methodLink "LeastFailing" 54 (⟨"LeastFailing$InputReader", "<init>", "(LLeastFailing$Text;LLeastFailing$Grammar;LLeastFailing$Tree;)V"⟩ : MethodName) : Jvm.Cond) ∈ zTb := zGw (zI1 (List.mem_of_getElem? (i := 217) rfl)) rfl
theorem zk_147 : (.instanceMethod (⟨"LeastFailing$InputReader", "<init>", "(LLeastFailing$Text;LLeastFailing$Grammar;LLeastFailing$Tree;)V"⟩ : MethodName) : Jvm.Cond) ∈ zTb := zGw (zI1 (List.mem_of_getElem? (i := 218) rfl)) rfl
theorem zk_148 : (.fieldLink "LeastFailing" 57 "LeastFailing" "inputReader" "LLeastFailing$InputReader;" : Jvm.Cond) ∈ zTb := zGw (zI2 (List.mem_of_getElem? (i := 172) rfl)) rfl
theorem zk_149 : (.classLink "LeastFailing" 61 "LeastFailing$BugsReader" : Jvm.Cond) ∈ zTb := zGw (zI1 (List.mem_of_getElem? (i := 237) rfl)) rfl
theorem zk_150 : (.instantiable "LeastFailing$BugsReader" 6 : Jvm.Cond) ∈ zTb := zGw (zI1 (List.mem_of_getElem? (i := 238) rfl)) rfl
theorem zk_151 : (.initialized "LeastFailing$BugsReader" : Jvm.Cond) ∈ zTb := zGw (zI1 (List.mem_of_getElem? (i := 7) rfl)) rfl
theorem zk_152 : (.code (⟨"LeastFailing$BugsReader", "<init>", "(LLeastFailing$Text;LLeastFailing$Grammar;LLeastFailing$Bugs;)V"⟩ : MethodName) prog_3_method_1_code 4 none : Jvm.Cond) ∈ zTb := zGw (zI2 (List.mem_of_getElem? (i := 1) rfl)) rfl
theorem zk_153 : (.methodLink "LeastFailing" 63 (⟨"LeastFailing$BugsReader", "<init>", "(LLeastFailing$Text;LLeastFailing$Grammar;LLeastFailing$Bugs;)V"⟩ : MethodName) : Jvm.Cond) ∈ zTb := zGw (zI1 (List.mem_of_getElem? (i := 239) rfl)) rfl
theorem zk_154 : (.instanceMethod (⟨"LeastFailing$BugsReader", "<init>", "(LLeastFailing$Text;LLeastFailing$Grammar;LLeastFailing$Bugs;)V"⟩ : MethodName) : Jvm.Cond) ∈ zTb := zGw (zI2 (List.mem_of_getElem? (i := 0) rfl)) rfl
theorem zk_155 : (.fieldLink "LeastFailing" 66 "LeastFailing" "bugsReader" "LLeastFailing$BugsReader;" : Jvm.Cond) ∈ zTb := zGw (zI2 (List.mem_of_getElem? (i := 173) rfl)) rfl
theorem zk_156 : (.classLink "LeastFailing" 70 "LeastFailing$Tried" : Jvm.Cond) ∈ zTb := zGw (zI2 (List.mem_of_getElem? (i := 22) rfl)) rfl
theorem zk_157 : (.instantiable "LeastFailing$Tried" 10 : Jvm.Cond) ∈ zTb := zGw (zI2 (List.mem_of_getElem? (i := 23) rfl)) rfl
theorem zk_158 : (.initialized "LeastFailing$Tried" : Jvm.Cond) ∈ zTb := zGw (zI1 (List.mem_of_getElem? (i := 8) rfl)) rfl
theorem zk_159 : (.code (⟨"LeastFailing$Tried", "<init>", "()V"⟩ : MethodName) prog_12_method_1_code 1 none : Jvm.Cond) ∈ zTb := zGw (zI2 (List.mem_of_getElem? (i := 26) rfl)) rfl
theorem zk_160 : (.methodLink "LeastFailing" 72 (⟨"LeastFailing$Tried", "<init>", "()V"⟩ : MethodName) : Jvm.Cond) ∈ zTb := zGw (zI2 (List.mem_of_getElem? (i := 24) rfl)) rfl
theorem zk_161 : (.instanceMethod (⟨"LeastFailing$Tried", "<init>", "()V"⟩ : MethodName) : Jvm.Cond) ∈ zTb := zGw (zI2 (List.mem_of_getElem? (i := 25) rfl)) rfl
theorem zk_162 : (.fieldLink "LeastFailing" 73 "LeastFailing" "tried" "LLeastFailing$Tried;" : Jvm.Cond) ∈ zTb := zGw (zI2 (List.mem_of_getElem? (i := 174) rfl)) rfl
theorem zk_163 : (.classLink "LeastFailing" 77 "LeastFailing$Judge" : Jvm.Cond) ∈ zTb := zGw (zI2 (List.mem_of_getElem? (i := 70) rfl)) rfl
theorem zk_164 : (.instantiable "LeastFailing$Judge" 8 : Jvm.Cond) ∈ zTb := zGw (zI2 (List.mem_of_getElem? (i := 71) rfl)) rfl
theorem zk_165 : (.initialized "LeastFailing$Judge" : Jvm.Cond) ∈ zTb := zGw (zI1 (List.mem_of_getElem? (i := 10) rfl)) rfl
theorem zk_166 : (.code (⟨"LeastFailing$Judge", "<init>", "(LLeastFailing$Bugs;LLeastFailing$Tried;)V"⟩ : MethodName) prog_7_method_1_code 3 none : Jvm.Cond) ∈ zTb := zGw (zI2 (List.mem_of_getElem? (i := 74) rfl)) rfl
theorem zk_167 : (.methodLink "LeastFailing" 79 (⟨"LeastFailing$Judge", "<init>", "(LLeastFailing$Bugs;LLeastFailing$Tried;)V"⟩ : MethodName) : Jvm.Cond) ∈ zTb := zGw (zI2 (List.mem_of_getElem? (i := 72) rfl)) rfl
theorem zk_168 : (.instanceMethod (⟨"LeastFailing$Judge", "<init>", "(LLeastFailing$Bugs;LLeastFailing$Tried;)V"⟩ : MethodName) : Jvm.Cond) ∈ zTb := zGw (zI2 (List.mem_of_getElem? (i := 73) rfl)) rfl
theorem zk_169 : (.fieldLink "LeastFailing" 82 "LeastFailing" "judge" "LLeastFailing$Judge;" : Jvm.Cond) ∈ zTb := zGw (zI2 (List.mem_of_getElem? (i := 175) rfl)) rfl
theorem zk_170 : (.classLink "LeastFailing" 86 "LeastFailing$Single" : Jvm.Cond) ∈ zTb := zGw (zI2 (List.mem_of_getElem? (i := 106) rfl)) rfl
theorem zk_171 : (.instantiable "LeastFailing$Single" 4 : Jvm.Cond) ∈ zTb := zGw (zI2 (List.mem_of_getElem? (i := 107) rfl)) rfl
theorem zk_172 : (.initialized "LeastFailing$Single" : Jvm.Cond) ∈ zTb := zGw (zI1 (List.mem_of_getElem? (i := 11) rfl)) rfl
theorem zk_173 : (.code (⟨"LeastFailing$Single", "<init>", "(LLeastFailing$Tree;)V"⟩ : MethodName) prog_9_method_1_code 2 none : Jvm.Cond) ∈ zTb := zGw (zI2 (List.mem_of_getElem? (i := 110) rfl)) rfl
theorem zk_174 : (.methodLink "LeastFailing" 88 (⟨"LeastFailing$Single", "<init>", "(LLeastFailing$Tree;)V"⟩ : MethodName) : Jvm.Cond) ∈ zTb := zGw (zI2 (List.mem_of_getElem? (i := 108) rfl)) rfl
theorem zk_175 : (.instanceMethod (⟨"LeastFailing$Single", "<init>", "(LLeastFailing$Tree;)V"⟩ : MethodName) : Jvm.Cond) ∈ zTb := zGw (zI2 (List.mem_of_getElem? (i := 109) rfl)) rfl
theorem zk_176 : (.fieldLink "LeastFailing" 91 "LeastFailing" "single" "LLeastFailing$Single;" : Jvm.Cond) ∈ zTb := zGw (zI2 (List.mem_of_getElem? (i := 176) rfl)) rfl
theorem zk_177 : (.classLink "LeastFailing" 95 "LeastFailing$Reducer" : Jvm.Cond) ∈ zTb := zGw (zI2 (List.mem_of_getElem? (i := 128) rfl)) rfl
theorem zk_178 : (.instantiable "LeastFailing$Reducer" 9 : Jvm.Cond) ∈ zTb := zGw (zI2 (List.mem_of_getElem? (i := 129) rfl)) rfl
theorem zk_179 : (.initialized "LeastFailing$Reducer" : Jvm.Cond) ∈ zTb := zGw (zI1 (List.mem_of_getElem? (i := 12) rfl)) rfl
theorem zk_180 : (.code (⟨"LeastFailing$Reducer", "<init>", "(LLeastFailing$Tree;LLeastFailing$Tree;LLeastFailing$Judge;)V"⟩ : MethodName) prog_8_method_1_code 4 none : Jvm.Cond) ∈ zTb := zGw (zI2 (List.mem_of_getElem? (i := 132) rfl)) rfl
theorem zk_181 : (.methodLink "LeastFailing" 97 (⟨"LeastFailing$Reducer", "<init>", "(LLeastFailing$Tree;LLeastFailing$Tree;LLeastFailing$Judge;)V"⟩ : MethodName) : Jvm.Cond) ∈ zTb := zGw (zI2 (List.mem_of_getElem? (i := 130) rfl)) rfl
theorem zk_182 : (.instanceMethod (⟨"LeastFailing$Reducer", "<init>", "(LLeastFailing$Tree;LLeastFailing$Tree;LLeastFailing$Judge;)V"⟩ : MethodName) : Jvm.Cond) ∈ zTb := zGw (zI2 (List.mem_of_getElem? (i := 131) rfl)) rfl
theorem zk_183 : (.fieldLink "LeastFailing" 100 "LeastFailing" "reducer" "LLeastFailing$Reducer;" : Jvm.Cond) ∈ zTb := zGw (zI2 (List.mem_of_getElem? (i := 177) rfl)) rfl
theorem zk_184 : (.methodLink "LeastFailingLaw" 13 (⟨"LeastFailing", "feed", "(IIIII)I"⟩ : MethodName) : Jvm.Cond) ∈ zTb := zGw (zI2 (List.mem_of_getElem? (i := 209) rfl)) rfl
theorem zk_185 : (.methodLink "LeastFailingLaw" 17 (⟨"LeastFailingModel", "feed", "(IIIII)I"⟩ : MethodName) : Jvm.Cond) ∈ zTb := zGw (zI6 (List.mem_of_getElem? (i := 89) rfl)) rfl
theorem zk_186 : (.methodLink "LeastFailingLaw" 18 (⟨"LeastFailing", "end", "(I)Z"⟩ : MethodName) : Jvm.Cond) ∈ zTb := zGw (zI2 (List.mem_of_getElem? (i := 217) rfl)) rfl
theorem zk_187 : (.methodLink "LeastFailingLaw" 22 (⟨"LeastFailingModel", "end", "(I)Z"⟩ : MethodName) : Jvm.Cond) ∈ zTb := zGw (zI6 (List.mem_of_getElem? (i := 97) rfl)) rfl
theorem zk_188 : (.methodLink "LeastFailingLaw" 23 (⟨"LeastFailing", "grammar", "()I"⟩ : MethodName) : Jvm.Cond) ∈ zTb := zGw (zI2 (List.mem_of_getElem? (i := 221) rfl)) rfl
theorem zk_189 : (.methodLink "LeastFailingLaw" 27 (⟨"LeastFailingModel", "grammar", "()I"⟩ : MethodName) : Jvm.Cond) ∈ zTb := zGw (zI6 (List.mem_of_getElem? (i := 104) rfl)) rfl
theorem zk_190 : (.methodLink "LeastFailingLaw" 28 (⟨"LeastFailing", "input", "()I"⟩ : MethodName) : Jvm.Cond) ∈ zTb := zGw (zI3 (List.mem_of_getElem? (i := 109) rfl)) rfl
theorem zk_191 : (.methodLink "LeastFailingLaw" 31 (⟨"LeastFailingModel", "input", "()I"⟩ : MethodName) : Jvm.Cond) ∈ zTb := zGw (zI6 (List.mem_of_getElem? (i := 220) rfl)) rfl
theorem zk_192 : (.methodLink "LeastFailingLaw" 32 (⟨"LeastFailing", "bugs", "()I"⟩ : MethodName) : Jvm.Cond) ∈ zTb := zGw (zI3 (List.mem_of_getElem? (i := 167) rfl)) rfl
theorem zk_193 : (.methodLink "LeastFailingLaw" 35 (⟨"LeastFailingModel", "bugs", "()I"⟩ : MethodName) : Jvm.Cond) ∈ zTb := zGw (zI7 (List.mem_of_getElem? (i := 32) rfl)) rfl
theorem zk_194 : (.methodLink "LeastFailingLaw" 36 (⟨"LeastFailing", "fault", "(I)I"⟩ : MethodName) : Jvm.Cond) ∈ zTb := zGw (zI4 (List.mem_of_getElem? (i := 35) rfl)) rfl
theorem zk_195 : (.methodLink "LeastFailingLaw" 40 (⟨"LeastFailingModel", "fault", "(I)I"⟩ : MethodName) : Jvm.Cond) ∈ zTb := zGw (zI7 (List.mem_of_getElem? (i := 87) rfl)) rfl
theorem zk_196 : (.methodLink "LeastFailingLaw" 41 (⟨"LeastFailing", "votes", "(I)I"⟩ : MethodName) : Jvm.Cond) ∈ zTb := zGw (zI4 (List.mem_of_getElem? (i := 39) rfl)) rfl
theorem zk_197 : (.methodLink "LeastFailingLaw" 44 (⟨"LeastFailingModel", "votes", "(I)I"⟩ : MethodName) : Jvm.Cond) ∈ zTb := zGw (zI8 (List.mem_of_getElem? (i := 55) rfl)) rfl
theorem zk_198 : (.methodLink "LeastFailingLaw" 45 (⟨"LeastFailing", "seed", "(I)I"⟩ : MethodName) : Jvm.Cond) ∈ zTb := zGw (zI4 (List.mem_of_getElem? (i := 46) rfl)) rfl
theorem zk_199 : (.methodLink "LeastFailingLaw" 48 (⟨"LeastFailingModel", "seed", "(I)I"⟩ : MethodName) : Jvm.Cond) ∈ zTb := zGw (zI8 (List.mem_of_getElem? (i := 60) rfl)) rfl
theorem zk_200 : (.methodLink "LeastFailingLaw" 49 (⟨"LeastFailing", "count", "(I)I"⟩ : MethodName) : Jvm.Cond) ∈ zTb := zGw (zI4 (List.mem_of_getElem? (i := 50) rfl)) rfl
theorem zk_201 : (.methodLink "LeastFailingLaw" 52 (⟨"LeastFailingModel", "count", "(I)I"⟩ : MethodName) : Jvm.Cond) ∈ zTb := zGw (zI8 (List.mem_of_getElem? (i := 93) rfl)) rfl
theorem zk_202 : (.methodLink "LeastFailingLaw" 53 (⟨"LeastFailing", "letter", "(III)I"⟩ : MethodName) : Jvm.Cond) ∈ zTb := zGw (zI4 (List.mem_of_getElem? (i := 54) rfl)) rfl
theorem zk_203 : (.methodLink "LeastFailingLaw" 57 (⟨"LeastFailingModel", "letter", "(III)I"⟩ : MethodName) : Jvm.Cond) ∈ zTb := zGw (zI8 (List.mem_of_getElem? (i := 97) rfl)) rfl
theorem zk_204 : (.methodLink "LeastFailingLaw" 58 (⟨"LeastFailing", "line", "(II)I"⟩ : MethodName) : Jvm.Cond) ∈ zTb := zGw (zI4 (List.mem_of_getElem? (i := 61) rfl)) rfl
theorem zk_205 : (.methodLink "LeastFailingLaw" 62 (⟨"LeastFailingModel", "line", "(II)I"⟩ : MethodName) : Jvm.Cond) ∈ zTb := zGw (zI8 (List.mem_of_getElem? (i := 103) rfl)) rfl
theorem zk_206 : (.methodLink "LeastFailingLaw" 63 (⟨"LeastFailing", "least", "(II)I"⟩ : MethodName) : Jvm.Cond) ∈ zTb := zGw (zI4 (List.mem_of_getElem? (i := 66) rfl)) rfl
theorem zk_207 : (.methodLink "LeastFailingLaw" 66 (⟨"LeastFailingModel", "least", "(II)I"⟩ : MethodName) : Jvm.Cond) ∈ zTb := zGw (zI8 (List.mem_of_getElem? (i := 112) rfl)) rfl
theorem zk_208 : (.methodLink "LeastFailingLaw" 67 (⟨"LeastFailing", "node", "(II)I"⟩ : MethodName) : Jvm.Cond) ∈ zTb := zGw (zI4 (List.mem_of_getElem? (i := 74) rfl)) rfl
theorem zk_209 : (.methodLink "LeastFailingLaw" 70 (⟨"LeastFailingModel", "node", "(II)I"⟩ : MethodName) : Jvm.Cond) ∈ zTb := zGw (zI8 (List.mem_of_getElem? (i := 116) rfl)) rfl
theorem zk_210 : (.methodLink "LeastFailingLaw" 71 (⟨"LeastFailing", "holding", "()I"⟩ : MethodName) : Jvm.Cond) ∈ zTb := zGw (zI4 (List.mem_of_getElem? (i := 87) rfl)) rfl
theorem zk_211 : (.methodLink "LeastFailingLaw" 74 (⟨"LeastFailingModel", "holding", "()I"⟩ : MethodName) : Jvm.Cond) ∈ zTb := zGw (zI8 (List.mem_of_getElem? (i := 124) rfl)) rfl
theorem zk_212 : (.methodLink "LeastFailingLaw" 75 (⟨"LeastFailing", "counts", "(III)I"⟩ : MethodName) : Jvm.Cond) ∈ zTb := zGw (zI4 (List.mem_of_getElem? (i := 102) rfl)) rfl
theorem zk_213 : (.methodLink "LeastFailingLaw" 78 (⟨"LeastFailingModel", "counts", "(III)I"⟩ : MethodName) : Jvm.Cond) ∈ zTb := zGw (zI8 (List.mem_of_getElem? (i := 128) rfl)) rfl
theorem zk_214 : (.methodLink "LeastFailingLaw" 79 (⟨"LeastFailing", "verdict", "()I"⟩ : MethodName) : Jvm.Cond) ∈ zTb := zGw (zI4 (List.mem_of_getElem? (i := 107) rfl)) rfl
theorem zk_215 : (.methodLink "LeastFailingLaw" 82 (⟨"LeastFailingModel", "verdict", "()I"⟩ : MethodName) : Jvm.Cond) ∈ zTb := zGw (zI8 (List.mem_of_getElem? (i := 89) rfl)) rfl
theorem zk_216 : (.methodLink "LeastFailingLaw" 83 (⟨"LeastFailing", "run", "(I)I"⟩ : MethodName) : Jvm.Cond) ∈ zTb := zGw (zI4 (List.mem_of_getElem? (i := 148) rfl)) rfl
theorem zk_217 : (.methodLink "LeastFailingLaw" 86 (⟨"LeastFailingModel", "run", "(I)I"⟩ : MethodName) : Jvm.Cond) ∈ zTb := zGw (zI8 (List.mem_of_getElem? (i := 80) rfl)) rfl
theorem zk_218 : (.methodLink "LeastFailingLaw" 87 (⟨"LeastFailing", "single", "(II)I"⟩ : MethodName) : Jvm.Cond) ∈ zTb := zGw (zI4 (List.mem_of_getElem? (i := 153) rfl)) rfl
theorem zk_219 : (.methodLink "LeastFailingLaw" 90 (⟨"LeastFailingModel", "single", "(II)I"⟩ : MethodName) : Jvm.Cond) ∈ zTb := zGw (zI7 (List.mem_of_getElem? (i := 91) rfl)) rfl
theorem zk_220 : (.methodLink "LeastFailingLaw" 91 (⟨"LeastFailing", "tries", "(I)I"⟩ : MethodName) : Jvm.Cond) ∈ zTb := zGw (zI4 (List.mem_of_getElem? (i := 198) rfl)) rfl
theorem zk_221 : (.methodLink "LeastFailingLaw" 94 (⟨"LeastFailingModel", "tries", "(I)I"⟩ : MethodName) : Jvm.Cond) ∈ zTb := zGw (zI7 (List.mem_of_getElem? (i := 180) rfl)) rfl
theorem zk_222 : (.methodLink "LeastFailingLaw" 95 (⟨"LeastFailing", "change", "(I)I"⟩ : MethodName) : Jvm.Cond) ∈ zTb := zGw (zI4 (List.mem_of_getElem? (i := 206) rfl)) rfl
theorem zk_223 : (.methodLink "LeastFailingLaw" 98 (⟨"LeastFailingModel", "change", "(I)I"⟩ : MethodName) : Jvm.Cond) ∈ zTb := zGw (zI7 (List.mem_of_getElem? (i := 212) rfl)) rfl
theorem zk_224 : (.methodLink "LeastFailingLaw" 99 (⟨"LeastFailing", "more", "()I"⟩ : MethodName) : Jvm.Cond) ∈ zTb := zGw (zI4 (List.mem_of_getElem? (i := 210) rfl)) rfl
theorem zk_225 : (.methodLink "LeastFailingLaw" 102 (⟨"LeastFailingModel", "more", "()I"⟩ : MethodName) : Jvm.Cond) ∈ zTb := zGw (zI7 (List.mem_of_getElem? (i := 216) rfl)) rfl
theorem zk_226 : (.methodLink "LeastFailingLaw" 103 (⟨"LeastFailing", "apart", "(II)I"⟩ : MethodName) : Jvm.Cond) ∈ zTb := zGw (zI4 (List.mem_of_getElem? (i := 217) rfl)) rfl
theorem zk_227 : (.methodLink "LeastFailingLaw" 106 (⟨"LeastFailingModel", "apart", "(II)I"⟩ : MethodName) : Jvm.Cond) ∈ zTb := zGw (zI7 (List.mem_of_getElem? (i := 220) rfl)) rfl
theorem zk_228 : (.methodLink "LeastFailingLaw" 107 (⟨"LeastFailing", "reduce", "(II)I"⟩ : MethodName) : Jvm.Cond) ∈ zTb := zGw (zI4 (List.mem_of_getElem? (i := 225) rfl)) rfl
theorem zk_229 : (.methodLink "LeastFailingLaw" 110 (⟨"LeastFailingModel", "reduce", "(II)I"⟩ : MethodName) : Jvm.Cond) ∈ zTb := zGw (zI7 (List.mem_of_getElem? (i := 228) rfl)) rfl
theorem zk_230 : (.methodLink "LeastFailingLaw" 111 (⟨"LeastFailing", "row", "(II)I"⟩ : MethodName) : Jvm.Cond) ∈ zTb := zGw (zI5 (List.mem_of_getElem? (i := 60) rfl)) rfl
theorem zk_231 : (.methodLink "LeastFailingLaw" 114 (⟨"LeastFailingModel", "row", "(II)I"⟩ : MethodName) : Jvm.Cond) ∈ zTb := zGw (zI8 (List.mem_of_getElem? (i := 37) rfl)) rfl
theorem zk_232 : (.methodLink "LeastFailingLaw" 115 (⟨"LeastFailing", "part", "(IIII)I"⟩ : MethodName) : Jvm.Cond) ∈ zTb := zGw (zI5 (List.mem_of_getElem? (i := 65) rfl)) rfl
theorem zk_233 : (.methodLink "LeastFailingLaw" 119 (⟨"LeastFailingModel", "part", "(IIII)I"⟩ : MethodName) : Jvm.Cond) ∈ zTb := zGw (zI8 (List.mem_of_getElem? (i := 41) rfl)) rfl
theorem zk_234 : (.methodLink "LeastFailingLaw" 120 (⟨"LeastFailing", "tried", "(I)I"⟩ : MethodName) : Jvm.Cond) ∈ zTb := zGw (zI5 (List.mem_of_getElem? (i := 70) rfl)) rfl
theorem zk_235 : (.methodLink "LeastFailingLaw" 123 (⟨"LeastFailingModel", "tried", "(I)I"⟩ : MethodName) : Jvm.Cond) ∈ zTb := zGw (zI8 (List.mem_of_getElem? (i := 46) rfl)) rfl
theorem zk_236 : (.methodLink "LeastFailingLaw" 124 (⟨"LeastFailing", "trace", "(II)I"⟩ : MethodName) : Jvm.Cond) ∈ zTb := zGw (zI5 (List.mem_of_getElem? (i := 74) rfl)) rfl
theorem zk_237 : (.methodLink "LeastFailingLaw" 127 (⟨"LeastFailingModel", "trace", "(II)I"⟩ : MethodName) : Jvm.Cond) ∈ zTb := zGw (zI8 (List.mem_of_getElem? (i := 51) rfl)) rfl
theorem zk_238 : (.methodLink "LeastFailingLaw" 128 (⟨"LeastFailing", "sure", "(II)I"⟩ : MethodName) : Jvm.Cond) ∈ zTb := zGw (zI5 (List.mem_of_getElem? (i := 78) rfl)) rfl
theorem zk_239 : (.methodLink "LeastFailingLaw" 131 (⟨"LeastFailingModel", "sure", "(II)I"⟩ : MethodName) : Jvm.Cond) ∈ zTb := zGw (zI8 (List.mem_of_getElem? (i := 64) rfl)) rfl
theorem zk_240 : (.methodLink "LeastFailingLaw" 132 (⟨"LeastFailing", "enough", "(II)I"⟩ : MethodName) : Jvm.Cond) ∈ zTb := zGw (zI5 (List.mem_of_getElem? (i := 95) rfl)) rfl
theorem zk_241 : (.methodLink "LeastFailingLaw" 135 (⟨"LeastFailingModel", "enough", "(II)I"⟩ : MethodName) : Jvm.Cond) ∈ zTb := zGw (zI8 (List.mem_of_getElem? (i := 75) rfl)) rfl
theorem zk_242 : (.methodLink "LeastFailingLaw" 136 (⟨"LeastFailing", "often", "(III)I"⟩ : MethodName) : Jvm.Cond) ∈ zTb := zGw (zI5 (List.mem_of_getElem? (i := 100) rfl)) rfl
theorem zk_243 : (.methodLink "LeastFailingLaw" 139 (⟨"LeastFailingModel", "often", "(III)I"⟩ : MethodName) : Jvm.Cond) ∈ zTb := zGw (zI8 (List.mem_of_getElem? (i := 84) rfl)) rfl
theorem zk_244 : (.methodLink "LeastFailingLaw" 140 (⟨"LeastFailing", "undo", "()I"⟩ : MethodName) : Jvm.Cond) ∈ zTb := zGw (zI5 (List.mem_of_getElem? (i := 104) rfl)) rfl
theorem zk_245 : (.methodLink "LeastFailingLaw" 143 (⟨"LeastFailingModel", "undo", "()I"⟩ : MethodName) : Jvm.Cond) ∈ zTb := zGw (zI7 (List.mem_of_getElem? (i := 28) rfl)) rfl
theorem zk_246 : (.instantiable "LeastFailing" 15 : Jvm.Cond) ∈ zTb := zGw (zI1 (List.mem_of_getElem? (i := 18) rfl)) rfl
theorem zk_247 : (.instantiable "LeastFailingModel" 71 : Jvm.Cond) ∈ zTb := zGw (zI5 (List.mem_of_getElem? (i := 109) rfl)) rfl
theorem zk_248 : (.code (⟨"LeastFailing", "<init>", "()V"⟩ : MethodName) prog_1_method_1_code 2 none : Jvm.Cond) ∈ zTb := zGw (zI1 (List.mem_of_getElem? (i := 21) rfl)) rfl
theorem zk_249 : (.code (⟨"LeastFailingModel", "<init>", "()V"⟩ : MethodName) prog_14_method_1_code 1 none : Jvm.Cond) ∈ zTb := zGw (zI5 (List.mem_of_getElem? (i := 112) rfl)) rfl
theorem zk_250 : (.classLink "LeastFailingLaw" 7 "LeastFailing" : Jvm.Cond) ∈ zTb := zGw (zI1 (List.mem_of_getElem? (i := 17) rfl)) rfl
theorem zk_251 : (.initialized "LeastFailing" : Jvm.Cond) ∈ zTb := zGw (zI1 (List.mem_of_getElem? (i := 1) rfl)) rfl
theorem zk_252 : (.methodLink "LeastFailingLaw" 9 (⟨"LeastFailing", "<init>", "()V"⟩ : MethodName) : Jvm.Cond) ∈ zTb := zGw (zI1 (List.mem_of_getElem? (i := 19) rfl)) rfl
theorem zk_253 : (.instanceMethod (⟨"LeastFailing", "<init>", "()V"⟩ : MethodName) : Jvm.Cond) ∈ zTb := zGw (zI1 (List.mem_of_getElem? (i := 20) rfl)) rfl
theorem zk_254 : (.classLink "LeastFailingLaw" 10 "LeastFailingModel" : Jvm.Cond) ∈ zTb := zGw (zI5 (List.mem_of_getElem? (i := 108) rfl)) rfl
theorem zk_255 : (.initialized "LeastFailingModel" : Jvm.Cond) ∈ zTb := zGw (zI1 (List.mem_of_getElem? (i := 13) rfl)) rfl
theorem zk_256 : (.methodLink "LeastFailingLaw" 12 (⟨"LeastFailingModel", "<init>", "()V"⟩ : MethodName) : Jvm.Cond) ∈ zTb := zGw (zI5 (List.mem_of_getElem? (i := 110) rfl)) rfl
theorem zk_257 : (.instanceMethod (⟨"LeastFailingModel", "<init>", "()V"⟩ : MethodName) : Jvm.Cond) ∈ zTb := zGw (zI5 (List.mem_of_getElem? (i := 111) rfl)) rfl
