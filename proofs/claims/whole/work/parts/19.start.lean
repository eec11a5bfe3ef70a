theorem zt4 : ∀ k, k < 154 → k ≠ 1 → zArr k 4 = false := by decide +kernel
def zCo1 (k : Nat) : Nat := match zSh[k]? with
  | some (none, c) => c
  | _ => 3
def zRid (b k : Nat) : Nat := match b with
  | n + 2 => cond (Nat.beq (n % 2) 0) (k + n / 2) (n / 2)
  | _ => 0
theorem zrefs : ∀ k, k < 154 → (zFk (zCo1 k)).all (fun b => Nat.blt (zRid b k) 154) = true := by decide +kernel
theorem zEnt_ad {ad ad1 : Nat → Nat} {cA : Nat → ClassId} {M : Mm} {k : Nat} (hk : k < 154) (h1 : k ≠ 1) (h : ∀ j, j < 154 → ad j = ad1 j) : zEnt ad cA M k = zEnt ad1 cA M k := by
  have h4 := zt4 k hk h1
  have h5 := zrefs k hk
  unfold zEnt
  cases hs : zSh[k]? with
  | none => rfl
  | some q =>
    obtain ⟨ot, n⟩ := q
    cases ot with
    | some ty =>
      have h6 : zTy ty ≠ 4 := by
        intro e
        unfold zArr at h4
        rw [hs] at h4
        simp only [e] at h4
        exact absurd h4 (by decide)
      show Sum.inl (cA (zTy ty), n, zRow ad (zTy ty) (M k)) = Sum.inl (cA (zTy ty), n, zRow ad1 (zTy ty) (M k))
      have h7 : zRow ad (zTy ty) (M k) = zRow ad1 (zTy ty) (M k) := by
        generalize zTy ty = y at h6
        unfold zRow
        split
        · rfl
        · exact absurd rfl h6
        · rfl
      rw [h7]
    | none =>
      have h6 : zCo1 k = n := by unfold zCo1; rw [hs]
      rw [h6] at h5
      show Sum.inr (n, zFsA ad k (M k) 0 (zFk n)) = Sum.inr (n, zFsA ad1 k (M k) 0 (zFk n))
      have h7 : zFsA ad k (M k) 0 (zFk n) = zFsA ad1 k (M k) 0 (zFk n) := by
        apply List.ext_getElem?
        intro i
        rw [zFsA_get, zFsA_get]
        cases hb : (zFk n)[i]? with
        | none => rfl
        | some b =>
          have h8 := List.all_eq_true.mp h5 b (List.mem_of_getElem? hb)
          have h9 : zRid b k < 154 := Nat.blt_eq.mp h8
          show some (zVm ad (zGf b k _)) = some (zVm ad1 (zGf b k _))
          congr 1
          match b, h9 with
          | 0, _ => rfl
          | 1, _ => rfl
          | b + 2, h9 =>
            unfold zGf
            unfold zRid at h9
            cases hq : Nat.beq (b % 2) 0 with
            | true => simp only [hq, cond_true] at h9 ⊢; show Value.ref _ = Value.ref _; rw [h _ h9]
            | false => simp only [hq, cond_false] at h9 ⊢; show Value.ref _ = Value.ref _; rw [h _ h9]
      rw [h7]
theorem zKnown {b : Nat} {s : State} (hts : ∀ w ∈ lw_tbl, w.before #[Value.ref b] s = true) : ∃ (dC : Nat → ClassId) (dI : Nat → Nat → Nat) (cA : Nat → ClassId), va_K (dC, dI) zCm (zTys cA) s := by
  obtain ⟨c0, i0, k0⟩ := u_known (C := RX0) (T := TX0) (N := 8) (n := 8) hts zl_0 (hts _ (List.mem_filter.mp zk_127).1)
  obtain ⟨c1, i1, k1⟩ := u_known (C := RX1) (T := TX1) (N := 6) (n := 6) hts zl_1 (hts _ (List.mem_filter.mp zk_150).1)
  obtain ⟨c2, i2, k2⟩ := u_known (C := RX2) (T := TX2) (N := 11) (n := 11) hts zl_2 (hts _ (List.mem_filter.mp zk_120).1)
  obtain ⟨c4, i4, k4⟩ := u_known (C := RX4) (T := TX4) (N := 5) (n := 5) hts zl_4 (hts _ (List.mem_filter.mp zk_143).1)
  obtain ⟨c5, i5, k5⟩ := u_known (C := RX5) (T := TX5) (N := 8) (n := 8) hts zl_5 (hts _ (List.mem_filter.mp zk_164).1)
  obtain ⟨c6, i6, k6⟩ := u_known (C := RX6) (T := TX6) (N := 9) (n := 9) hts zl_6 (hts _ (List.mem_filter.mp zk_178).1)
  obtain ⟨c7, i7, k7⟩ := u_known (C := RX7) (T := TX7) (N := 4) (n := 4) hts zl_7 (hts _ (List.mem_filter.mp zk_171).1)
  obtain ⟨c8, i8, k8⟩ := u_known (C := RX8) (T := TX8) (N := 8) (n := 8) hts zl_8 (hts _ (List.mem_filter.mp zk_114).1)
  obtain ⟨c9, i9, k9⟩ := u_known (C := RX9) (T := TX9) (N := 10) (n := 10) hts zl_9 (hts _ (List.mem_filter.mp zk_134).1)
  obtain ⟨c10, i10, k10⟩ := u_known (C := RX10) (T := TX10) (N := 10) (n := 10) hts zl_10 (hts _ (List.mem_filter.mp zk_157).1)
  obtain ⟨c11, i11, k11⟩ := u_known (C := RX11) (T := TX11) (N := 15) (n := 15) hts zl_11 (hts _ (List.mem_filter.mp zk_246).1)
  obtain ⟨c12, i12, k12⟩ := u_known (C := RX12) (T := TX12) (N := 71) (n := 71) hts zl_12 (hts _ (List.mem_filter.mp zk_247).1)
  obtain ⟨a0, m0, p0, f0, g0, h0⟩ := Cond.arrayClass_spec (hts _ (List.mem_filter.mp zk_3).1)
  obtain ⟨a1, m1, p1, f1, g1, h1⟩ := Cond.arrayClass_spec (hts _ (List.mem_filter.mp zk_64).1)
  obtain ⟨a2, m2, p2, f2, g2, h2⟩ := Cond.arrayClass_spec (hts _ (List.mem_filter.mp zk_47).1)
  obtain ⟨a3, m3, p3, f3, g3, h3⟩ := Cond.arrayClass_spec (hts _ (List.mem_filter.mp zk_17).1)
  obtain ⟨p4, a4, m4, e4, _, g4, h4, f4⟩ := Cond.arrayOver_spec (hts _ (zI1 (List.mem_of_getElem? (i := 214) rfl)))
  refine ⟨fun k => ([c0, c1, c2, c0, c4, c5, c6, c7, c8, c9, c10, c11, c12] : List ClassId).getD k 0, fun k => ([i0, i1, i2, i0, i4, i5, i6, i7, i8, i9, i10, i11, i12] : List (Nat → Nat)).getD k i0, fun k => ([a0, a1, a2, a3, a4] : List ClassId).getD k 0, fun c q hq => ?_, fun k q hk => ?_⟩
  · match c, hq with
    | 0, hq => cases hq; exact k0
    | 1, hq => cases hq; exact k1
    | 2, hq => cases hq; exact k2
    | 3, hq => cases hq; exact k0
    | 4, hq => cases hq; exact k4
    | 5, hq => cases hq; exact k5
    | 6, hq => cases hq; exact k6
    | 7, hq => cases hq; exact k7
    | 8, hq => cases hq; exact k8
    | 9, hq => cases hq; exact k9
    | 10, hq => cases hq; exact k10
    | 11, hq => cases hq; exact k11
    | 12, hq => cases hq; exact k12
    | n + 13, hq => simp [zCm] at hq
  · match k, hk with
    | 0, hk => cases hk; exact ⟨fun n z => ⟨fun k h => (by cases h), m0, g0, p0, h0⟩, f0⟩
    | 1, hk => cases hk; exact ⟨fun n z => ⟨fun k h => (by cases h), m1, g1, p1, h1⟩, f1⟩
    | 2, hk => cases hk; exact ⟨fun n z => ⟨fun k h => (by cases h), m2, g2, p2, h2⟩, f2⟩
    | 3, hk => cases hk; exact ⟨fun n z => ⟨fun k h => (by cases h), m3, g3, p3, h3⟩, f3⟩
    | 4, hk => cases hk; exact ⟨fun n z => ⟨fun k h => (by cases h), m4, g4, p4, h4⟩, m4, p4, g4, h4, e4, f4⟩
    | n + 5, hk => simp [zTys] at hk
theorem zOwnS {b : Nat} {s : State} (hts : ∀ w ∈ lw_tbl, w.before #[Value.ref b] s = true) (hgv : (Jvm.Cond.and given_1 narrow_1).before #[Value.ref b] s = true) : ∃ t : Nat, va_Z "LeastFailing$Text" "OWN_WORDS" "[I" (.ref t) (fun q => s.heap.size ≤ q) s s.heap ∧ va_T .int t 13 (fun j => .int (Int32.ofInt (zOwn (j : Int)))) (fun q => s.heap.size ≤ q) s s.heap := by
  have hs := flat_of_before _ hgv
  have harr : (Jvm.Cond.arrayOf (.static "LeastFailing$Text" "OWN_WORDS" "[I") .int).before #[Value.ref b] s = true := hs _ (by decide +kernel)
  have hlen := va_eqt (hs (Jvm.Cond.eq (.length (.static "LeastFailing$Text" "OWN_WORDS" "[I")) (.int 13)) (by decide +kernel))
  have hel : ∀ j : Nat, j < 13 → (Term.elem (.static "LeastFailing$Text" "OWN_WORDS" "[I") (.int (Int32.ofNat j))).eval #[Value.ref b] s none [] s = some (.int (Int32.ofInt (zOwn (j : Int)))) := by
    intro j hj
    match j, hj with
    | 0, _ => exact (va_eqt (hs (Jvm.Cond.eq (.elem (.static "LeastFailing$Text" "OWN_WORDS" "[I") (.int 0)) (.int 217658368)) (by decide +kernel))).trans (by decide +kernel)
    | 1, _ => exact (va_eqt (hs (Jvm.Cond.eq (.elem (.static "LeastFailing$Text" "OWN_WORDS" "[I") (.int 1)) (.int 407934976)) (by decide +kernel))).trans (by decide +kernel)
    | 2, _ => exact (va_eqt (hs (Jvm.Cond.eq (.elem (.static "LeastFailing$Text" "OWN_WORDS" "[I") (.int 2)) (.int 89358336)) (by decide +kernel))).trans (by decide +kernel)
    | 3, _ => exact (va_eqt (hs (Jvm.Cond.eq (.elem (.static "LeastFailing$Text" "OWN_WORDS" "[I") (.int 3)) (.int 507661312)) (by decide +kernel))).trans (by decide +kernel)
    | 4, _ => exact (va_eqt (hs (Jvm.Cond.eq (.elem (.static "LeastFailing$Text" "OWN_WORDS" "[I") (.int 4)) (.int 780318720)) (by decide +kernel))).trans (by decide +kernel)
    | 5, _ => exact (va_eqt (hs (Jvm.Cond.eq (.elem (.static "LeastFailing$Text" "OWN_WORDS" "[I") (.int 5)) (.int 522190848)) (by decide +kernel))).trans (by decide +kernel)
    | 6, _ => exact (va_eqt (hs (Jvm.Cond.eq (.elem (.static "LeastFailing$Text" "OWN_WORDS" "[I") (.int 6)) (.int 48365568)) (by decide +kernel))).trans (by decide +kernel)
    | 7, _ => exact (va_eqt (hs (Jvm.Cond.eq (.elem (.static "LeastFailing$Text" "OWN_WORDS" "[I") (.int 7)) (.int 486146048)) (by decide +kernel))).trans (by decide +kernel)
    | 8, _ => exact (va_eqt (hs (Jvm.Cond.eq (.elem (.static "LeastFailing$Text" "OWN_WORDS" "[I") (.int 8)) (.int 647828480)) (by decide +kernel))).trans (by decide +kernel)
    | 9, _ => exact (va_eqt (hs (Jvm.Cond.eq (.elem (.static "LeastFailing$Text" "OWN_WORDS" "[I") (.int 9)) (.int 139640832)) (by decide +kernel))).trans (by decide +kernel)
    | 10, _ => exact (va_eqt (hs (Jvm.Cond.eq (.elem (.static "LeastFailing$Text" "OWN_WORDS" "[I") (.int 10)) (.int 270106624)) (by decide +kernel))).trans (by decide +kernel)
    | 11, _ => exact (va_eqt (hs (Jvm.Cond.eq (.elem (.static "LeastFailing$Text" "OWN_WORDS" "[I") (.int 11)) (.int 719459904)) (by decide +kernel))).trans (by decide +kernel)
    | 12, _ => exact (va_eqt (hs (Jvm.Cond.eq (.elem (.static "LeastFailing$Text" "OWN_WORDS" "[I") (.int 12)) (.int 475811840)) (by decide +kernel))).trans (by decide +kernel)
    | n + 13, hj => omega
  obtain ⟨t, ht, hT⟩ := va_Tof (N := 13) (A := fun q => s.heap.size ≤ q) (by omega) harr hlen hel (fun a ha => Nat.not_le.mpr ha)
  exact ⟨t, va_Zref (hts _ (zI3 (List.mem_of_getElem? (i := 33) rfl))) (hts _ (zI1 (List.mem_of_getElem? (i := 2) rfl))) ht (fun a ha => Nat.not_le.mpr ha), hT⟩
theorem zGoodT {b : Jvm.Cond} (hb : b ∈ zTb) : GoodIn zTb (b :: zTb) := by
  intro w hw
  rcases List.mem_cons.mp hw with rfl | h
  · exact zTb_good _ hb
  · exact zTb_good _ h
section ZX
variable {p : Program} {l : Launch} {e : Env} {R : Room} {s : State} {m : MethodId} {args : Array Value} {below : List Frame} {meth : Method} {c : Code} {H : Heap} {locs : List Loc} {cells slots : Nat} {Q : State → Prop}
variable {pc : Nat} {ls : Array Slot} {rest : List Value} {dC : Nat → ClassId} {dI : Nat → Nat → Nat} {cA : Nat → ClassId} {A : Nat → Prop} {H0 : Heap}
theorem zXRun {x : Nat × va_E} {h0 lo n mc ms : Nat} {st0 : List Value} {a0 : Array Value} (hr : va_Run p l e R s m args below meth c H locs cells slots mc ms (F0 m pc ls st0) rest (zQx dC dI cA h0 lo n (va_A [x] H.size) a0) (va_A [x] H.size)) (hx0 : A x.1) (hS : va_S A H0 H locs) (hA : ∀ q, H0.size ≤ q → A q)
    (kk : ∀ (ad : Nat → Nat) (H1 : Heap) (locs1 : List Loc), ad lo = h0 → va_P (dC, dI) zCm ((List.range' lo n).map fun k => (ad k, zEnt ad cA zM0 k)) H1 → va_D A ((List.range' lo n).map fun k => (ad k, zEnt ad cA zM0 k)) → va_S A H0 H1 locs1 → W p l e R s m args below meth c H1 locs1 (cells + mc) (slots + ms) Q (F0 m (pc + 3) ls rest)) :
    W p l e R s m args below meth c H locs cells slots Q (F0 m pc ls st0) := by
  intro T hT X
  obtain ⟨v2, st₀, t, T', L, hh, X', hL, e1, e2, ⟨⟨ad, hv, ha, hp, hd⟩, hz, hkk⟩, st⟩ := hr T hT X
  have hv := Outcome.returned.inj hv
  subst hv
  rw [hh] at hz hkk
  have hAx : ∀ q, va_A [x] H.size q → A q := by
    intro q hq
    rcases hq with ⟨k, e, hk⟩ | hq
    · have := List.mem_of_getElem? hk
      rw [List.mem_singleton] at this
      rw [← this] at hx0
      exact hx0
    · exact hA q (Nat.le_trans hS.1 hq)
  obtain ⟨t2, a1, b1⟩ := kk ad T'.heap (locs ++ L) ha (by rw [e1]; exact hp) (hd.weaken (fun _ _ _ h => hAx _ h)) ⟨Nat.le_trans hS.1 (by rw [e1]; exact hz), fun q h1 h2 => by rw [e1, hkk q (Nat.lt_of_lt_of_le h1 hS.1) (fun z => h2 (hAx q z))]; exact hS.2.1 q h1 h2, fun q hq => by
      rcases List.mem_append.mp hq with h | h
      · exact hS.2.2 q h
      · exact hAx _ (hL q h)⟩ T' rfl X'
  exact ⟨t2, st t2 a1, b1⟩
end ZX
theorem zrange : (List.range 192) = List.range' 0 154 ++ List.range' 154 38 := by decide +kernel
/-- the two objects' cells side by side -/
theorem zBoth {dC : Nat → ClassId} {dI : Nat → Nat → Nat} {cA : Nat → ClassId} {A : Nat → Prop} {H : Heap} {ad1 : Nat → Nat} {q1 tw : Nat} {qs : List Nat} (hP : va_P (dC, dI) zCm (zW_LeastFailingModel cA q1 qs ++ (List.range' 0 154).map fun k => (ad1 k, zEnt ad1 cA zM0 k)) H) (hD : va_D A (zW_LeastFailingModel cA q1 qs ++ (List.range' 0 154).map fun k => (ad1 k, zEnt ad1 cA zM0 k))) :
    ∃ ad : Nat → Nat, ad 0 = ad1 0 ∧ ad 154 = q1 ∧ ad zOW = tw ∧ va_P (dC, dI) zCm (zWd ad cA zM0) H ∧ va_D A (zWd ad cA zM0) := by
  obtain ⟨ad, had⟩ : ∃ f : Nat → Nat, f = fun k => if k < 154 then ad1 k else if k = 154 then q1 else if k = 192 then tw else qs.getD (k - 155) 0 := ⟨_, rfl⟩
  have h1 : ∀ j, j < 154 → ad j = ad1 j := fun j hj => by rw [had]; exact if_pos hj
  have hm : ((List.range' 154 38).map fun k => (ad k, zEnt ad cA zM0 k)) = zW_LeastFailingModel cA q1 qs := by subst had; rfl
  have hsplit : zWd ad cA zM0 = ((List.range' 0 154).map fun k => (ad k, zEnt ad cA zM0 k)) ++ ((List.range' 154 38).map fun k => (ad k, zEnt ad cA zM0 k)) := by
    unfold zWd
    rw [zrange, List.map_append]
  refine ⟨ad, h1 0 (by omega), by rw [had]; rfl, by rw [had]; rfl, ?_, ?_⟩
  · rw [hsplit, hm]
    refine va_P.app ?_ (zP_mem.mpr fun q hq => zP_mem.mp hP q (List.mem_append_left _ hq))
    rw [zP_mem]
    intro q hq
    obtain ⟨k, hk, rfl⟩ := List.mem_map.mp hq
    have hk : k < 154 := by rw [List.mem_range'] at hk; omega
    have hin : (ad1 k, zEnt ad1 cA zM0 k) ∈ (List.range' 0 154).map fun k => (ad1 k, zEnt ad1 cA zM0 k) := List.mem_map.mpr ⟨k, List.mem_range'.mpr ⟨k, by omega, by omega⟩, rfl⟩
    have h2 := zP_mem.mp hP _ (List.mem_append_right _ hin)
    by_cases e1 : k = 1
    · subst e1
      have h3 : H[ad1 1]? = some (vp_cell (cA 4) (10, .inr (.inr (.inr (.inr (fun j => some (ad1 (zM0 1 (j : Int)).toNat))))))) := h2
      show H[ad 1]? = some (vp_cell (cA 4) (10, .inr (.inr (.inr (.inr (fun j => some (ad (zM0 1 (j : Int)).toNat)))))))
      rw [h1 1 (by omega), h3, vp_cell_q, vp_cell_q]
      congr 1
      unfold arrV
      congr 1
      apply congrArg (Array.ofFn (n := 10))
      funext j
      show va_rf (some (ad1 (zM0 1 (j.val : Int)).toNat)) = va_rf (some (ad (zM0 1 (j.val : Int)).toNat))
      have hj := j.isLt
      have e2 : zM0 1 (j.val : Int) = 54 + 8 * (j.val : Int) := rfl
      rw [h1 _ (by rw [e2]; omega)]
    · rw [h1 k hk, zEnt_ad hk e1 h1]
      exact h2
  · rw [zD_nd] at hD ⊢
    have e1 : ((List.range' 0 154).map fun k => (ad k, zEnt ad cA zM0 k)).map Prod.fst = ((List.range' 0 154).map fun k => (ad1 k, zEnt ad1 cA zM0 k)).map Prod.fst := by
      rw [List.map_map, List.map_map]
      apply List.map_congr_left
      intro k hk
      have hk : k < 154 := by rw [List.mem_range'] at hk; omega
      exact h1 k hk
    have hperm : ((zWd ad cA zM0).map Prod.fst).Perm ((zW_LeastFailingModel cA q1 qs ++ (List.range' 0 154).map fun k => (ad1 k, zEnt ad1 cA zM0 k)).map Prod.fst) := by
      rw [hsplit, hm, List.map_append, List.map_append, e1]
      exact List.perm_append_comm
    refine ⟨hperm.nodup_iff.mpr hD.1, fun q hq => ?_⟩
    have h2 : q.1 ∈ (zWd ad cA zM0).map Prod.fst := List.mem_map.mpr ⟨q, hq, rfl⟩
    obtain ⟨q2, hq2, e2⟩ := List.mem_map.mp (hperm.mem_iff.mp h2)
    rw [← e2]
    exact hD.2 q2 hq2
set_option maxHeartbeats 8000000 in
set_option maxRecDepth 100000 in
/-- THE LAW, from its entry, over any property that the fresh cells have and each pair of calls keeps -/
theorem whole_open {Inv : Mm → Prop} (hI0 : Inv zM0) (hs : zSteps Inv) {p : Program} {e : Env} {s : State} {m : MethodId} {below : List Frame} {meth : Method} {c : Code} (l : Launch) {b L : Nat} {xs : Nat → Int32} (hL : L ≤ 3072) (C0 : lw_At p s m meth c b L xs) : W p l e room_1 s m #[Value.ref b] below meth c s.heap [] 0 0 (lw_Z below #[Value.ref b] s) (entryFrame m ([Value.ref b] : List Value).toArray 4) := by
  obtain ⟨hx, hb, hr, hml, hown, hts, hX, hbl, hlocks, hgv⟩ := id C0
  have htb : ∀ w ∈ zTb, w.before #[Value.ref b] s = true := fun w h => hts w (List.mem_filter.mp h).1
  obtain ⟨dC, dI, cA, hK⟩ := zKnown hts
  obtain ⟨tw, hZ, hT⟩ := zOwnS hts hgv
  have hnw : zNw s := fun q hq => va_Nw.of rfl (hts _ (zc_nl q hq))
  have hA : ∀ q : Nat, s.heap.size ≤ q → (fun q : Nat => s.heap.size ≤ q) q := fun _ h => h
  have hS : va_S (fun q : Nat => s.heap.size ≤ q) s.heap s.heap [] := va_S.rf
  have hP : va_P (dC, dI) zCm [] s.heap := fun k q h => by simp at h
  have hD : va_D (fun q : Nat => s.heap.size ≤ q) [] := ⟨fun i j p q h => by simp at h, fun k q h => by simp at h⟩
  have hl := lv_entry ([.ref b]) (n := 4) (Nat.le_of_ble_eq_true rfl)
  rw [lg_entry_eq]
  generalize (lg_sl ([.ref b]) ++ List.replicate (4 - (lg_sl ([.ref b])).length) Slot.unset).toArray = ls at hl ⊢
  have hl : lv_has ls 4 [(0, .ref b)] := hl
  refine va_new (ci := 11) (fs := [.null, .null, .null, .null, .null, .null, .null, .null, .int 0, .null, .null, .null, .null, .null, .null]) (C := RX11) (T := TX11) (N := 15) hx hb htb zlg_11 tyX11 tyX11_ok hown (htb _ zk_250) (htb _ zk_246) (htb _ zk_251) hK hP hD hS hA rfl (by decide +kernel) (Nat.le_of_ble_eq_true rfl) (Nat.le_of_ble_eq_true rfl) (show decode code 0 = .ok (.new 7, 3) by decide +kernel) (fun q0 H hP hD hS => ?_)
  have hP : va_P (dC, dI) zCm [(q0, .inr (11, [.null, .null, .null, .null, .null, .null, .null, .null, .int 0, .null, .null, .null, .null, .null, .null]))] H := hP
  have hD : va_D (fun q : Nat => s.heap.size ≤ q) [(q0, .inr (11, [.null, .null, .null, .null, .null, .null, .null, .null, .int 0, .null, .null, .null, .null, .null, .null]))] := hD
  refine W.widen (k := 1) (n := 15) (Nat.le_of_ble_eq_true rfl) (Nat.le_of_ble_eq_true rfl) ?_
  refine lv_dup hx hb (show decode code 3 = .ok (.dup, 1) by decide +kernel) rfl ?_
  refine zXRun (va_runI (As := []) (rest := [.ref q0]) ⟨hx, hb, hml, hown, htb⟩ (zn_LeastFailing l dC dI cA q0 H.size) (cwI 0 htb (zGoodT zk_248) rfl rfl rfl (htb _ zk_251) (htb _ zk_252) (htb _ zk_253) rfl (by decide +kernel) ⟨Nat.le_of_ble_eq_true rfl, Nat.le_of_ble_eq_true rfl⟩) ⟨fun a U g mk q => by obtain ⟨q1, ⟨q2, q3, q4, q5⟩, q6, q7, q8, q9⟩ := q; exact ⟨q1, ⟨q2, q3, va_K.moved (u := U) (U := U.calling g mk a) (Vm.Alike.refl U.vm) q4, q5⟩, va_Nw.same (u := U) (U := U.calling g mk a) rfl rfl q6, va_Nw.same (u := U) (U := U.calling g mk a) rfl rfl q7, va_Nw.same (u := U) (U := U.calling g mk a) rfl rfl q8, va_AO.moved (u := U) (U := U.calling g mk a) (Vm.Alike.refl U.vm) q9⟩, fun U hU hW => ⟨rfl, zPreN hK hP hD U hU hW, va_Nw.warmM hW (va_Nw.of rfl (hts (.methodLinkNest "LeastFailing" 11 ⟨"LeastFailing$Text", "<init>", "()V"⟩ "LeastFailing") (zI1 (List.mem_of_getElem? (i := 27) rfl)))), va_Nw.warmM hW (va_Nw.of rfl (hts (.methodLinkNest "LeastFailing" 18 ⟨"LeastFailing$Grammar", "<init>", "()V"⟩ "LeastFailing") (zI1 (List.mem_of_getElem? (i := 65) rfl)))), va_Nw.warmM hW (va_Nw.of rfl (hts (.methodLinkNest "LeastFailing" 28 ⟨"LeastFailing$Bugs", "<init>", "()V"⟩ "LeastFailing") (zI1 (List.mem_of_getElem? (i := 123) rfl)))), va_AO.moved hW.alike (va_AO.of (hts _ (zI1 (List.mem_of_getElem? (i := 214) rfl))))⟩⟩ rfl rfl hl.1 rfl (lv_room (Nat.le_of_ble_eq_true rfl)) (show decode code 4 = .ok (.invokespecial 9, 3) by decide +kernel) ⟨Nat.le_of_ble_eq_true rfl, Nat.le_of_ble_eq_true rfl⟩) (hD.2 0 _ rfl) hS hA (fun ad1 H locs ha0 hP hD hS => ?_)
  refine W.widen (k := 154) (n := 25029) (Nat.le_of_ble_eq_true rfl) (Nat.le_of_ble_eq_true rfl) ?_
  obtain ⟨W1, hW1⟩ : ∃ w : va_W, w = (List.range' 0 154).map fun k => (ad1 k, zEnt ad1 cA zM0 k) := ⟨_, rfl⟩
  rw [← hW1] at hP hD
  refine lv_astore_n (lv' := [(1, .ref q0), (0, .ref b)]) hx hb (show decode code 7 = .ok (.astore_n 1, 1) by decide +kernel) rfl hl (by decide) rfl (fun ls hl => ?_)
  refine va_new (ci := 12) (fs := [.int 0, .null, .int 0, .int 0, .int 0, .int 0, .int 0, .int 0, .int 0, .int 0, .long 0, .int 0, .int 0, .int 0, .null, .null, .null, .null, .null, .null, .null, .null, .null, .null, .int 0, .int 0, .null, .null, .int 0, .null, .null, .null, .null, .null, .null, .null, .null, .int 0, .int 0, .null, .int 0, .int 0, .null, .null, .null, .null, .int 0, .long 0, .int 0, .int 0, .int 0, .int 0, .null, .null, .null, .null, .null, .int 0, .null, .null, .int 0, .null, .null, .null, .int 0, .int 0, .int 0, .int 0, .int 0, .null, .int 0]) (C := RX12) (T := TX12) (N := 71) hx hb htb zlg_12 tyX12 tyX12_ok hown (htb _ zk_254) (htb _ zk_247) (htb _ zk_255) hK hP hD hS hA rfl (by decide +kernel) (Nat.le_of_ble_eq_true rfl) (Nat.le_of_ble_eq_true rfl) (show decode code 8 = .ok (.new 10, 3) by decide +kernel) (fun q1 H hP hD hS => ?_)
  have hP : va_P (dC, dI) zCm ((q1, .inr (12, [.int 0, .null, .int 0, .int 0, .int 0, .int 0, .int 0, .int 0, .int 0, .int 0, .long 0, .int 0, .int 0, .int 0, .null, .null, .null, .null, .null, .null, .null, .null, .null, .null, .int 0, .int 0, .null, .null, .int 0, .null, .null, .null, .null, .null, .null, .null, .null, .int 0, .int 0, .null, .int 0, .int 0, .null, .null, .null, .null, .int 0, .long 0, .int 0, .int 0, .int 0, .int 0, .null, .null, .null, .null, .null, .int 0, .null, .null, .int 0, .null, .null, .null, .int 0, .int 0, .int 0, .int 0, .int 0, .null, .int 0])) :: W1) H := zPm (List.perm_append_singleton _ _) hP
  have hD : va_D (fun q : Nat => s.heap.size ≤ q) ((q1, .inr (12, [.int 0, .null, .int 0, .int 0, .int 0, .int 0, .int 0, .int 0, .int 0, .int 0, .long 0, .int 0, .int 0, .int 0, .null, .null, .null, .null, .null, .null, .null, .null, .null, .null, .int 0, .int 0, .null, .null, .int 0, .null, .null, .null, .null, .null, .null, .null, .null, .int 0, .int 0, .null, .int 0, .int 0, .null, .null, .null, .null, .int 0, .long 0, .int 0, .int 0, .int 0, .int 0, .null, .null, .null, .null, .null, .int 0, .null, .null, .int 0, .null, .null, .null, .int 0, .int 0, .int 0, .int 0, .int 0, .null, .int 0])) :: W1) := zDm (List.perm_append_singleton _ _) hD
  refine W.widen (k := 155) (n := 25100) (Nat.le_of_ble_eq_true rfl) (Nat.le_of_ble_eq_true rfl) ?_
  refine lv_dup hx hb (show decode code 11 = .ok (.dup, 1) by decide +kernel) rfl ?_
  refine zCtorRun (va_runI (As := []) (rest := [.ref q1]) ⟨hx, hb, hml, hown, htb⟩ (zn_LeastFailingModel l dC dI cA q1 H.size) (cwI 0 htb (zGoodT zk_249) rfl rfl rfl (htb _ zk_255) (htb _ zk_256) (htb _ zk_257) rfl (by decide +kernel) ⟨Nat.le_of_ble_eq_true rfl, Nat.le_of_ble_eq_true rfl⟩) ⟨zBlindN, fun U hU hW => ⟨rfl, zPreN hK hP hD U hU hW⟩⟩ rfl rfl hl.1 rfl (lv_room (Nat.le_of_ble_eq_true rfl)) (show decode code 12 = .ok (.invokespecial 12, 3) by decide +kernel) ⟨Nat.le_of_ble_eq_true rfl, Nat.le_of_ble_eq_true rfl⟩) hP hD hS hA (fun qs H locs hP hD hS => ?_)
  refine W.widen (k := 192) (n := 84288) (Nat.le_of_ble_eq_true rfl) (Nat.le_of_ble_eq_true rfl) ?_
  rw [hW1] at hP hD
  obtain ⟨ad, ad0, ad154, adw, hP, hD⟩ := zBoth (tw := tw) hP hD
  refine lv_astore_n (lv' := [(2, .ref q1), (1, .ref q0), (0, .ref b)]) hx hb (show decode code 15 = .ok (.astore_n 2, 1) by decide +kernel) rfl hl (by decide) rfl (fun ls hl => ?_)
  refine lv_iconst (v := 0) hx hb (show decode code 16 = .ok (.iconst 0, 1) by decide +kernel) (by decide) ?_
  refine lv_istore_n (lv' := [(3, .int 0), (2, .ref q1), (1, .ref q0), (0, .ref b)]) hx hb (show decode code 17 = .ok (.istore_n 3, 1) by decide +kernel) rfl hl (by decide) rfl (fun ls hl => ?_)
  have hinj : zInj ad := fun i j hi hj e => hD.1 i j _ _ (zWd_get hi) (zWd_get hj) e
  have C : zLC p l s m meth c b L xs dC dI ad cA := ⟨hx, hb, hml, hown, htb, hX, hbl, hK, hinj, hnw, by rw [adw]; exact ⟨hZ, hT⟩, fun k hk => hD.2 k _ (zWd_get hk), hL⟩
  have hl2 := lv_sub hl [3, 2, 1, 0] rfl
  refine law_loop hs C ⟨Nat.le_of_ble_eq_true rfl, Nat.le_of_ble_eq_true rfl⟩ (fun H1 locs1 ls hS1 => ?_) L 0 zM0 H locs ls (by omega) (by omega) hI0 hP hS ?_
  · refine lv_iconst (v := 1) hx hb (show decode code 1051 = .ok (.iconst 1, 1) by decide +kernel) (by decide) ?_
    refine va_forget (fun q hq => hS1.2.2 q hq) ?_
    refine W.widen (k := 600000) (n := 7302249) (Nat.le_of_ble_eq_true rfl) (Nat.le_of_ble_eq_true rfl) ?_
    exact lw_ret hx hb hr hlocks (show decode code 1052 = .ok (.ireturn, 1) by decide +kernel)
  · rw [ad0, ha0, ad154, nI_0]
    exact hl2
