/-- the classes whose objects the cells are (number 3 has none) -/
def zCm : List vw_C := [(RX0, TX0, 8), (RX1, TX1, 6), (RX2, TX2, 11), (RX0, TX0, 8), (RX4, TX4, 5), (RX5, TX5, 8), (RX6, TX6, 9), (RX7, TX7, 4), (RX8, TX8, 8), (RX9, TX9, 10), (RX10, TX10, 10), (RX11, TX11, 15), (RX12, TX12, 71)]
/-! HOW THE SMALL MACHINE STANDS TO THE MACHINE: values, locals, cells -/
def zVm (ad : Nat → Nat) : Vl → Value
  | .inl z => .int (Int32.ofInt z)
  | .inr (.inl z) => .long (Int64.ofInt z)
  | .inr (.inr a) => .ref (ad a)
def zLv (ad : Nat → Nat) : Nat → Lc → List (Nat × Value)
  | _, [] => []
  | i, some v :: l => (i, zVm ad v) :: zLv ad (i + 1) l
  | i, none :: l => zLv ad (i + 1) l
theorem zLv_get {ad : Nat → Nat} {v : Vl} : ∀ (L : Lc) (i n : Nat), zGet L n = some v → (i + n, zVm ad v) ∈ zLv ad i L
  | [], _, _, h => by simp [zGet] at h
  | some u :: l, i, 0, h => by
    simp only [zGet, Option.some.injEq] at h
    subst h
    simp [zLv]
  | none :: l, i, 0, h => by simp [zGet] at h
  | some u :: l, i, n + 1, h => by
    have h1 := zLv_get (ad := ad) l (i + 1) n h
    rw [show i + (n + 1) = i + 1 + n by omega]
    exact List.mem_cons_of_mem _ h1
  | none :: l, i, n + 1, h => by
    have h1 := zLv_get (ad := ad) l (i + 1) n h
    rw [show i + (n + 1) = i + 1 + n by omega]
    exact h1
theorem zLv_ge {ad : Nat → Nat} : ∀ (L : Lc) (i : Nat) (q : Nat × Value), q ∈ zLv ad i L → i ≤ q.1
  | [], _, q, h => by simp [zLv] at h
  | some u :: l, i, q, h => by
    rcases List.mem_cons.mp h with rfl | h
    · exact Nat.le_refl _
    · have := zLv_ge l (i + 1) q h; omega
  | none :: l, i, q, h => by
    have := zLv_ge l (i + 1) q h; omega
theorem zKl_e (ad : Nat → Nat) (n : Nat) (x : Vl) : zKl n (some x) = none ∨ (zKl n (some x) = some x ∧ (n = 0 → (zVm ad x).category = 1)) := by
  cases n with
  | zero =>
    match x with
    | .inl _ => exact Or.inr ⟨rfl, fun _ => rfl⟩
    | .inr (.inl _) => exact Or.inl rfl
    | .inr (.inr _) => exact Or.inr ⟨rfl, fun _ => rfl⟩
  | succ n => exact Or.inr ⟨rfl, fun h => by omega⟩
theorem zLv_st1 {ad : Nat → Nat} {v : Vl} : ∀ (L : Lc) (i n : Nat) (q : Nat × Value), q ∈ zLv ad i (zSt1 L n v) → q = (i + n, zVm ad v) ∨ (q ∈ zLv ad i L ∧ q.1 ≠ i + n ∧ ¬ (q.1 + 1 = i + n ∧ q.2.category = 2))
  | [], i, n, q, h => by simp [zSt1, zLv] at h
  | u :: l, i, 0, q, h => by
    have h : q ∈ (i, zVm ad v) :: zLv ad (i + 1) l := h
    rcases List.mem_cons.mp h with rfl | h9
    · exact Or.inl rfl
    · have g := zLv_ge l (i + 1) q h9
      refine Or.inr ⟨?_, by omega, by omega⟩
      cases u with
      | none => exact h9
      | some x => exact List.mem_cons_of_mem _ h9
  | none :: l, i, n + 1, q, h => by
    have e : zKl n none = none := by cases n <;> rfl
    have h : q ∈ zLv ad i (zKl n none :: zSt1 l n v) := h
    rw [e] at h
    rcases zLv_st1 l (i + 1) n q h with h | ⟨h1, h2, h3⟩
    · left; rw [h]; congr 1; omega
    · right; exact ⟨h1, by omega, by omega⟩
  | some x :: l, i, n + 1, q, h => by
    have h : q ∈ zLv ad i (zKl n (some x) :: zSt1 l n v) := h
    rcases zKl_e ad n x with e | ⟨e, hc⟩
    · rw [e] at h
      have h : q ∈ zLv ad (i + 1) (zSt1 l n v) := h
      rcases zLv_st1 l (i + 1) n q h with h | ⟨h1, h2, h3⟩
      · left; rw [h]; congr 1; omega
      · right; exact ⟨List.mem_cons_of_mem _ h1, by omega, by omega⟩
    · rw [e] at h
      have h : q ∈ (i, zVm ad x) :: zLv ad (i + 1) (zSt1 l n v) := h
      rcases List.mem_cons.mp h with rfl | h
      · right
        refine ⟨List.mem_cons_self, by show i ≠ i + (n + 1); omega, ?_⟩
        rintro ⟨h1, h2⟩
        have h1 : i + 1 = i + (n + 1) := h1
        have h2 : (zVm ad x).category = 2 := h2
        have := hc (by omega)
        omega
      · rcases zLv_st1 l (i + 1) n q h with h | ⟨h1, h2, h3⟩
        · left; rw [h]; congr 1; omega
        · right; exact ⟨List.mem_cons_of_mem _ h1, by omega, by omega⟩
theorem zLv_st2 {ad : Nat → Nat} {v : Vl} : ∀ (L : Lc) (i n : Nat) (q : Nat × Value), q ∈ zLv ad i (zSt2 L n v) → q = (i + n, zVm ad v) ∨ (q ∈ zLv ad i L ∧ q.1 ≠ i + n ∧ q.1 ≠ i + n + 1 ∧ ¬ (q.1 + 1 = i + n ∧ q.2.category = 2))
  | [], i, n, q, h => by simp [zSt2, zLv] at h
  | [_], i, 0, q, h => by simp [zSt2, zLv] at h
  | u :: u2 :: l, i, 0, q, h => by
    have h : q ∈ (i, zVm ad v) :: zLv ad (i + 1 + 1) l := h
    rcases List.mem_cons.mp h with rfl | h9
    · exact Or.inl rfl
    · have g := zLv_ge l (i + 1 + 1) q h9
      refine Or.inr ⟨?_, by omega, by omega, by omega⟩
      cases u with
      | none =>
        cases u2 with
        | none => exact h9
        | some x => exact List.mem_cons_of_mem _ h9
      | some x =>
        refine List.mem_cons_of_mem _ ?_
        cases u2 with
        | none => exact h9
        | some x => exact List.mem_cons_of_mem _ h9
  | none :: l, i, n + 1, q, h => by
    have e : zKl n none = none := by cases n <;> rfl
    have h : q ∈ zLv ad i (zKl n none :: zSt2 l n v) := by
      cases l <;> exact h
    rw [e] at h
    rcases zLv_st2 l (i + 1) n q h with h | ⟨h1, h2, h3, h4⟩
    · left; rw [h]; congr 1; omega
    · right; exact ⟨h1, by omega, by omega, by omega⟩
  | some x :: l, i, n + 1, q, h => by
    have h : q ∈ zLv ad i (zKl n (some x) :: zSt2 l n v) := by
      cases l <;> exact h
    rcases zKl_e ad n x with e | ⟨e, hc⟩
    · rw [e] at h
      have h : q ∈ zLv ad (i + 1) (zSt2 l n v) := h
      rcases zLv_st2 l (i + 1) n q h with h | ⟨h1, h2, h3, h4⟩
      · left; rw [h]; congr 1; omega
      · right; exact ⟨List.mem_cons_of_mem _ h1, by omega, by omega, by omega⟩
    · rw [e] at h
      have h : q ∈ (i, zVm ad x) :: zLv ad (i + 1) (zSt2 l n v) := h
      rcases List.mem_cons.mp h with rfl | h
      · right
        refine ⟨List.mem_cons_self, by show i ≠ i + (n + 1); omega, by show i ≠ i + (n + 1) + 1; omega, ?_⟩
        rintro ⟨h1, h2⟩
        have h1 : i + 1 = i + (n + 1) := h1
        have h2 : (zVm ad x).category = 2 := h2
        have := hc (by omega)
        omega
      · rcases zLv_st2 l (i + 1) n q h with h | ⟨h1, h2, h3, h4⟩
        · left; rw [h]; congr 1; omega
        · right; exact ⟨List.mem_cons_of_mem _ h1, by omega, by omega, by omega⟩
theorem zSt1_len {v : Vl} : ∀ (L : Lc) (n : Nat), (zSt1 L n v).length = L.length
  | [], _ => rfl
  | _ :: _, 0 => rfl
  | _ :: l, n + 1 => by
    show (zSt1 l n v).length + 1 = l.length + 1
    rw [zSt1_len l n]
theorem zSt2_len {v : Vl} : ∀ (L : Lc) (n : Nat), (zSt2 L n v).length = L.length
  | [], _ => rfl
  | [_], 0 => rfl
  | _ :: _ :: _, 0 => rfl
  | u :: l, n + 1 => by
    have : (zSt2 (u :: l) (n + 1) v) = zKl n u :: zSt2 l n v := by cases l <;> rfl
    rw [this]
    show (zSt2 l n v).length + 1 = l.length + 1
    rw [zSt2_len l n]
def zLR (ad : Nat → Nat) (L : Lc) (ls : Array Slot) (nL : Nat) : Prop := L.length = nL ∧ lv_has ls nL (zLv ad 0 L)
theorem zLR_ld {ad : Nat → Nat} {L : Lc} {ls : Array Slot} {nL a : Nat} {v : Vl} (h : zLR ad L ls nL) (hg : zGet L a = some v) : ls[a]? = some (.val (zVm ad v)) := by
  have h1 := h.2.2.2 _ (zLv_get (ad := ad) L 0 a hg)
  rw [Nat.zero_add] at h1
  exact h1
theorem zLR_st1 {ad : Nat → Nat} {L : Lc} {ls : Array Slot} {nL a : Nat} {v : Vl} {x : Value} (hx : zVm ad v = x) (hL : L.length = nL) (h : lv_has ls nL ((a, x) :: (zLv ad 0 L).filter (fun q => !(q.1 == a) && !(q.1 + 1 == a && q.2.category == 2)))) : zLR ad (zSt1 L a v) ls nL := by
  subst hx
  refine ⟨by rw [zSt1_len]; exact hL, h.1, h.2.1, fun q hq => h.2.2 q ?_⟩
  rcases zLv_st1 L 0 a q hq with e | ⟨h1, h2, h3⟩
  · rw [Nat.zero_add] at e; rw [e]; exact List.mem_cons_self
  · rw [Nat.zero_add] at h2 h3
    refine List.mem_cons_of_mem _ (List.mem_filter.mpr ⟨h1, ?_⟩)
    simp only [Bool.and_eq_true, Bool.not_eq_true', beq_eq_false_iff_ne, Bool.and_eq_false_imp, beq_iff_eq]
    exact ⟨h2, fun q1 q2 => h3 ⟨q1, q2⟩⟩
theorem zLR_st2 {ad : Nat → Nat} {L : Lc} {ls : Array Slot} {nL a : Nat} {v : Vl} {x : Value} (hx : zVm ad v = x) (hL : L.length = nL) (h : lv_has ls nL ((a, x) :: (zLv ad 0 L).filter (fun q => !(q.1 == a) && (!(q.1 == a + 1) && !(q.1 + 1 == a && q.2.category == 2))))) : zLR ad (zSt2 L a v) ls nL := by
  subst hx
  refine ⟨by rw [zSt2_len]; exact hL, h.1, h.2.1, fun q hq => h.2.2 q ?_⟩
  rcases zLv_st2 L 0 a q hq with e | ⟨h1, h2, h3, h4⟩
  · rw [Nat.zero_add] at e; rw [e]; exact List.mem_cons_self
  · rw [Nat.zero_add] at h2 h3 h4
    refine List.mem_cons_of_mem _ (List.mem_filter.mpr ⟨h1, ?_⟩)
    simp only [Bool.and_eq_true, Bool.not_eq_true', beq_eq_false_iff_ne, Bool.and_eq_false_imp, beq_iff_eq]
    exact ⟨h2, h3, fun q1 q2 => h4 ⟨q1, q2⟩⟩
theorem zLv_rep {ad : Nat → Nat} : ∀ (n i : Nat), zLv ad i (List.replicate n none) = []
  | 0, _ => rfl
  | n + 1, i => by
    rw [List.replicate_succ]
    exact zLv_rep n (i + 1)
theorem zLoc_lv {ad : Nat → Nat} : ∀ (as : List Vl) (n i : Nat) (q : Nat × Value), q ∈ zLv ad i (zLoc n as) → q ∈ lv_args i (as.map (zVm ad))
  | [], n, i, q, h => by
    rw [show zLoc n [] = List.replicate n none from by cases n <;> rfl, zLv_rep] at h
    exact h
  | .inl z :: as, n, i, q, h => by
    have h : q ∈ (i, zVm ad (.inl z)) :: zLv ad (i + 1) (zLoc (n - 1) as) := h
    rcases List.mem_cons.mp h with rfl | h
    · exact List.mem_cons_self
    · exact List.mem_cons_of_mem _ (zLoc_lv as (n - 1) (i + 1) q h)
  | .inr (.inl z) :: as, n, i, q, h => by
    have h : q ∈ (i, zVm ad (.inr (.inl z))) :: zLv ad (i + 1 + 1) (zLoc (n - 2) as) := h
    rcases List.mem_cons.mp h with rfl | h
    · exact List.mem_cons_self
    · exact List.mem_cons_of_mem _ (zLoc_lv as (n - 2) (i + 2) q h)
  | .inr (.inr z) :: as, n, i, q, h => by
    have h : q ∈ (i, zVm ad (.inr (.inr z))) :: zLv ad (i + 1) (zLoc (n - 1) as) := h
    rcases List.mem_cons.mp h with rfl | h
    · exact List.mem_cons_self
    · exact List.mem_cons_of_mem _ (zLoc_lv as (n - 1) (i + 1) q h)
theorem zLoc_len : ∀ (as : List Vl) (n : Nat), zCats as ≤ n → (zLoc n as).length = n
  | [], n, _ => by rw [show zLoc n [] = List.replicate n none from by cases n <;> rfl, List.length_replicate]
  | .inl z :: as, n, h => by
    have h : 1 + zCats as ≤ n := h
    show (zLoc (n - 1) as).length + 1 = n
    rw [zLoc_len as (n - 1) (by omega)]; omega
  | .inr (.inl z) :: as, n, h => by
    have h : 2 + zCats as ≤ n := h
    show (zLoc (n - 2) as).length + 1 + 1 = n
    rw [zLoc_len as (n - 2) (by omega)]; omega
  | .inr (.inr z) :: as, n, h => by
    have h : 1 + zCats as ≤ n := h
    show (zLoc (n - 1) as).length + 1 = n
    rw [zLoc_len as (n - 1) (by omega)]; omega
theorem zLg_len {ad : Nat → Nat} : ∀ (as : List Vl), (lg_sl (as.map (zVm ad))).length = zCats as
  | [] => rfl
  | .inl z :: as => by
    show ((lg_sl (as.map (zVm ad)))).length + 1 = 1 + zCats as
    rw [zLg_len as]; omega
  | .inr (.inl z) :: as => by
    show ((lg_sl (as.map (zVm ad)))).length + 1 + 1 = 2 + zCats as
    rw [zLg_len as]; omega
  | .inr (.inr z) :: as => by
    show ((lg_sl (as.map (zVm ad)))).length + 1 = 1 + zCats as
    rw [zLg_len as]; omega
theorem zEnter {ad : Nat → Nat} {as : List Vl} {n : Nat} (h : zCats as ≤ n) : zLR ad (zLoc n as) ((lg_sl (as.map (zVm ad)) ++ List.replicate (n - (lg_sl (as.map (zVm ad))).length) Slot.unset).toArray) n := by
  have h1 := lv_entry (as.map (zVm ad)) (n := n) (by rw [zLg_len]; exact h)
  exact ⟨zLoc_len as n h, h1.1, h1.2.1, fun q hq => h1.2.2 q (zLoc_lv as n 0 q hq)⟩
-- the cells
def zRow (ad : Nat → Nat) (ty : Nat) (f : Int → Int) : (Nat → Int32) ⊕ (Nat → Int64) ⊕ (Nat → UInt32) ⊕ (Nat → UInt64) ⊕ (Nat → Option Nat) := match ty with
  | 1 => .inr (.inl (fun j => Int64.ofInt (f (j : Int))))
  | 4 => .inr (.inr (.inr (.inr (fun j => some (ad (f (j : Int)).toNat)))))
  | _ => .inl (fun j => Int32.ofInt (f (j : Int)))
def zFsA (ad : Nat → Nat) (o : Nat) (f : Int → Int) : Int → List Nat → List Value
  | _, [] => []
  | j, b :: bs => zVm ad (zGf b o (f j)) :: zFsA ad o f (j + 1) bs
def zEnt (ad : Nat → Nat) (cA : Nat → ClassId) (M : Mm) (k : Nat) : va_E := match zSh[k]? with
  | some (some ty, n) => .inl (cA (zTy ty), n, zRow ad (zTy ty) (M k))
  | some (none, c) => .inr (c, zFsA ad k (M k) 0 (zFk c))
  | none => .inr (0, [])
def zWd (ad : Nat → Nat) (cA : Nat → ClassId) (M : Mm) : va_W := (List.range 192).map (fun k => (ad k, zEnt ad cA M k))
theorem zSh_len : zSh.length = 192 := by decide +kernel
theorem zSh_small : ∀ q ∈ zSh, q.2 ≤ 48000 := by decide +kernel
theorem zObj_e {o ci : Nat} (h : zObj o ci = true) : o < 192 ∧ zSh[o]? = some (none, ci) := by
  unfold zObj at h
  split at h
  · rename_i c hc
    have e := Nat.eq_of_beq_eq_true h
    subst e
    have := (List.getElem?_eq_some_iff.mp hc).1
    rw [zSh_len] at this
    exact ⟨this, hc⟩
  · cases h
theorem zArr_e {o ty : Nat} (h : zArr o ty = true) : ∃ (t : FieldType) (n : Nat), o < 192 ∧ zSh[o]? = some (some t, n) ∧ zTy t = ty ∧ zLen o = (n : Int) ∧ n ≤ 48000 := by
  unfold zArr at h
  split at h
  · rename_i t n hc
    have e := Nat.eq_of_beq_eq_true h
    have h1 := (List.getElem?_eq_some_iff.mp hc).1
    rw [zSh_len] at h1
    exact ⟨t, n, h1, hc, e, by unfold zLen; rw [hc], zSh_small _ (List.mem_of_getElem? hc)⟩
  · cases h
theorem zEnt_obj {ad : Nat → Nat} {cA : Nat → ClassId} {M : Mm} {o ci : Nat} (h : zSh[o]? = some (none, ci)) : zEnt ad cA M o = .inr (ci, zFsA ad o (M o) 0 (zFk ci)) := by unfold zEnt; rw [h]
theorem zEnt_arr {ad : Nat → Nat} {cA : Nat → ClassId} {M : Mm} {o n : Nat} {t : FieldType} (h : zSh[o]? = some (some t, n)) : zEnt ad cA M o = .inl (cA (zTy t), n, zRow ad (zTy t) (M o)) := by unfold zEnt; rw [h]
theorem zWd_get {ad : Nat → Nat} {cA : Nat → ClassId} {M : Mm} {k : Nat} (h : k < 192) : (zWd ad cA M)[k]? = some (ad k, zEnt ad cA M k) := by
  unfold zWd
  rw [List.getElem?_map, List.getElem?_range h]
  rfl
theorem zWd_none {ad : Nat → Nat} {cA : Nat → ClassId} {M : Mm} {k : Nat} (h : ¬ k < 192) : (zWd ad cA M)[k]? = none := by
  unfold zWd
  rw [List.getElem?_eq_none_iff, List.length_map, List.length_range]
  omega
theorem zEnt_cong {ad : Nat → Nat} {cA : Nat → ClassId} {M M2 : Mm} {k : Nat} (h : M2 k = M k) : zEnt ad cA M2 k = zEnt ad cA M k := by unfold zEnt; rw [h]
theorem zWd_set {ad : Nat → Nat} {cA : Nat → ClassId} {M M2 : Mm} {o : Nat} (h : o < 192) (hM : ∀ k, k ≠ o → M2 k = M k) : (zWd ad cA M).set o (ad o, zEnt ad cA M2 o) = zWd ad cA M2 := by
  apply List.ext_getElem?
  intro k
  by_cases hk : k < 192
  · rw [zWd_get hk]
    by_cases e : k = o
    · subst e
      rw [List.getElem?_set_self]
      show k < ((List.range 192).map _).length
      rw [List.length_map, List.length_range]; exact hk
    · rw [List.getElem?_set_ne (Ne.symm e), zWd_get hk, zEnt_cong (hM k e)]
  · rw [zWd_none hk, List.getElem?_eq_none_iff, List.length_set]
    show ((List.range 192).map _).length ≤ k
    rw [List.length_map, List.length_range]; omega
theorem zUp_ne {M : Mm} {o : Nat} {i x : Int} : ∀ k, k ≠ o → zUp M o i x k = M k := fun k hk => by
  funext j
  unfold zUp
  rw [if_neg hk]
theorem zUp_eq {M : Mm} {o : Nat} {i x : Int} : zUp M o i x o = fun j => if j = i then x else M o j := by
  funext j
  unfold zUp
  rw [if_pos rfl]
theorem zCpy_ne {M : Mm} {s d : Nat} {sp dp n : Int} : ∀ k, k ≠ d → zCpy M s sp d dp n k = M k := fun k hk => by
  funext j
  unfold zCpy
  rw [if_neg hk]
theorem zFsA_get {ad : Nat → Nat} {o : Nat} {f : Int → Int} : ∀ (bs : List Nat) (j : Int) (k : Nat), (zFsA ad o f j bs)[k]? = (bs[k]?).map (fun b => zVm ad (zGf b o (f (j + (k : Int)))))
  | [], _, _ => by simp [zFsA]
  | b :: bs, j, 0 => by simp [zFsA]
  | b :: bs, j, k + 1 => by
    show (zFsA ad o f (j + 1) bs)[k]? = _
    rw [zFsA_get bs (j + 1) k, List.getElem?_cons_succ]
    congr 1
    funext b
    congr 3
    omega
theorem zFsA_len {ad : Nat → Nat} {o : Nat} {f : Int → Int} : ∀ (bs : List Nat) (j : Int), (zFsA ad o f j bs).length = bs.length
  | [], _ => rfl
  | b :: bs, j => by
    show (zFsA ad o f (j + 1) bs).length + 1 = bs.length + 1
    rw [zFsA_len bs (j + 1)]
theorem zFsA_set {ad : Nat → Nat} {o : Nat} {f : Int → Int} {bs : List Nat} {k b : Nat} {x : Int} (hb : bs[k]? = some b) : (zFsA ad o f 0 bs).set k (zVm ad (zGf b o x)) = zFsA ad o (fun i => if i = (k : Int) then x else f i) 0 bs := by
  apply List.ext_getElem?
  intro k2
  rw [zFsA_get]
  by_cases e : k = k2
  · subst e
    rw [List.getElem?_set_self (by rw [zFsA_len]; exact (List.getElem?_eq_some_iff.mp hb).1), hb]
    simp
  · rw [List.getElem?_set_ne e, zFsA_get]
    congr 1
    funext b
    rw [if_neg (by omega)]
def zA (ad : Nat → Nat) : Nat → Prop := fun q => ∃ k, k < 192 ∧ q = ad k
def zTys (cA : Nat → ClassId) : List (ClassId × FieldType) := [(cA 0, .int), (cA 1, .long), (cA 2, .byte), (cA 3, .boolean), (cA 4, .object "LeastFailing$Tree")]
def zStat (ad : Nat → Nat) (U : State) (H : Heap) : Prop := va_Z "LeastFailing$Text" "OWN_WORDS" "[I" (.ref (ad zOW)) (zA ad) U H ∧ va_T .int (ad zOW) 13 (fun j => .int (Int32.ofInt (zOwn (j : Int)))) (zA ad) U H
def zNwC (q : Nat × Nat × Nat × Nat) : Jvm.Cond := Jvm.Cond.fieldLinkNest (zCn q.1) q.2.1 (zCn q.2.2.1) (zT q.2.2.1 q.2.2.2).2.1 (zT q.2.2.1 q.2.2.2).2.2.1 "LeastFailing"
def zNw (U : State) : Prop := ∀ q ∈ zNl, va_Nw (zNwC q) U
def zB (dC : Nat → ClassId) (dI : Nat → Nat → Nat) (ad : Nat → Nat) (cA : Nat → ClassId) (M : Mm) : State → Prop := fun U => va_P (dC, dI) zCm (zWd ad cA M) U.heap ∧ va_K (dC, dI) zCm (zTys cA) U ∧ zStat ad U U.heap ∧ zNw U
def zInj (ad : Nat → Nat) : Prop := ∀ i j, i < 192 → j < 192 → ad i = ad j → i = j
theorem zWd_D {ad : Nat → Nat} {cA : Nat → ClassId} {M : Mm} (h : zInj ad) : va_D (zA ad) (zWd ad cA M) := by
  constructor
  · intro i j p q hi hj e
    by_cases h1 : i < 192
    · by_cases h2 : j < 192
      · rw [zWd_get h1] at hi; rw [zWd_get h2] at hj
        cases hi; cases hj
        exact h i j h1 h2 e
      · rw [zWd_none h2] at hj; cases hj
    · rw [zWd_none h1] at hi; cases hi
  · intro k q hk
    by_cases h1 : k < 192
    · rw [zWd_get h1] at hk
      cases hk
      exact ⟨k, h1, rfl⟩
    · rw [zWd_none h1] at hk; cases hk
def zRo : Option FieldType → Int → Option Value
  | none, _ => none
  | some .long, z => some (.long (Int64.ofInt z))
  | some _, z => some (.int (Int32.ofInt z))
def zQ (dC : Nat → ClassId) (dI : Nat → Nat → Nat) (ad : Nat → Nat) (cA : Nat → ClassId) (μ : Nat) (K : Kt) : Array Value → State → Outcome → State → Prop := fun _ st oc t =>
  (∃ (z : Int) (M : Mm), oc = .returned (zRo (zRt μ) z) ∧ K z M ∧ va_P (dC, dI) zCm (zWd ad cA M) t.heap) ∧ va_F (zA ad) st t
def zRm (μ : Nat) : Room := { frames := zFr μ, cells := 0, slots := 0, locals := zLo μ }
def zWs (μ : Nat) : List Jvm.Cond := Jvm.Cond.code (zY μ) (zCd μ) (zMl μ) (zRt μ) :: zTb
