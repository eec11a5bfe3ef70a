theorem zCats_sum {ad : Nat → Nat} : ∀ (r : List Vl), (((r.map (zVm ad)).map fun v => v.category)).sum = zCats r
  | [] => rfl
  | .inl z :: r => by
    show 1 + ((r.map (zVm ad)).map fun v => v.category).sum = 1 + zCats r
    rw [zCats_sum r]
  | .inr (.inl z) :: r => by
    show 2 + ((r.map (zVm ad)).map fun v => v.category).sum = 2 + zCats r
    rw [zCats_sum r]
  | .inr (.inr z) :: r => by
    show 1 + ((r.map (zVm ad)).map fun v => v.category).sum = 1 + zCats r
    rw [zCats_sum r]
theorem zPush_map {ad : Nat → Nat} {a : Nat} (ha : a < 265) {z : Int} {r : List Vl} : (zPush (zRk a) z r).map (zVm ad) = (zRo (zRt a) z).toList ++ r.map (zVm ad) := by
  rcases zf_ret a ha with ⟨h1, h2⟩ | ⟨h1, h2 | h2⟩ | ⟨h1, h2⟩ <;> rw [h1, h2] <;> rfl
theorem zTb_good : ∀ w ∈ zTb, w ∈ zTb ∧ ((w.onTables && w.keeps) = true ∨ ∃ ty, w = .arrayClass ty) := fun w h => ⟨h, good_of_word (List.mem_filter.mp h).2⟩
theorem zWs_good {a : Nat} (ha : a < 265) : GoodIn zTb (zWs a) := by
  intro w hw
  rcases List.mem_cons.mp hw with rfl | h
  · exact zTb_good _ (zGw (zc_code a ha) rfl)
  · exact zTb_good _ h
theorem zc_initg {a : Nat} (ha : a < 265) : Jvm.Cond.initialized (zY a).cls ∈ zTb := zGw (zc_init a (List.mem_range.mpr ha)) rfl
section ZC
variable {p : Program} {l : Launch} {e : Env} {s : State} {m : MethodId} {args : Array Value} {below : List Frame} {meth : Method} {c : Code} {dC : Nat → ClassId} {dI : Nat → Nat → Nat} {ad : Nat → Nat} {cA : Nat → ClassId}
theorem zcall {R : Room} {Q : State → Prop} {pc cells slots : Nat} {ls : Array Slot} {st0 rest : List Value} {H H0 : Heap} {A0 : Nat → Prop} {locs : List Loc} {a : Nat} {K : Kt} {a0 : Array Value} (hsub : ∀ q, zA ad q → A0 q)
    (hr : va_Run p l e R s m args below meth c H locs cells slots 0 0 (F0 m pc ls st0) rest (zQ dC dI ad cA a K a0) (zA ad)) (hS : va_S A0 H0 H locs)
    (kk : ∀ (z : Int) (M' : Mm) (H1 : Heap) (locs1 : List Loc), K z M' → va_P (dC, dI) zCm (zWd ad cA M') H1 → va_S A0 H0 H1 locs1 → W p l e R s m args below meth c H1 locs1 cells slots Q (F0 m (pc + 3) ls ((zRo (zRt a) z).toList ++ rest))) :
    W p l e R s m args below meth c H locs cells slots Q (F0 m pc ls st0) := by
  intro T hT X
  obtain ⟨v, st₀, t, T', L, h0, X', hL, e1, e2, ⟨⟨z, M', hv, hk, hp⟩, hz, hkk⟩, st⟩ := hr T hT X
  have hv := Outcome.returned.inj hv
  subst hv
  rw [h0] at hz hkk
  obtain ⟨t2, a1, b1⟩ := kk z M' T'.heap (locs ++ L) hk (by rw [e1]; exact hp) ⟨Nat.le_trans hS.1 (by rw [e1]; exact hz), fun q h1 h2 => by rw [e1, hkk q (Nat.lt_of_lt_of_le h1 hS.1) (fun z => h2 (hsub q z))]; exact hS.2.1 q h1 h2, fun q hq => by
      rcases List.mem_append.mp hq with h | h
      · exact hS.2.2 q h
      · exact hsub _ (hL q h)⟩ T' rfl X'
  exact ⟨t2, st t2 a1, b1⟩
theorem zBlind {av : List Value} {M : Mm} : FrameBlind (va_Pc av (zB dC dI ad cA M)) := fun a U g mk q => by
  obtain ⟨q1, qP, qK, ⟨qZ, qT⟩, qN⟩ := q
  exact ⟨q1, qP, va_K.moved (u := U) (U := U.calling g mk a) (Vm.Alike.refl U.vm) qK, ⟨va_Z.moved (u := U) (U := U.calling g mk a) (Vm.Alike.refl U.vm) qZ, va_T.moved (u := U) (U := U.calling g mk a) (Vm.Alike.refl U.vm) qT⟩, fun w hw => va_Nw.same (u := U) (U := U.calling g mk a) rfl rfl (qN w hw)⟩
theorem zPre {H : Heap} {locs : List Loc} {M : Mm} (hK : va_K (dC, dI) zCm (zTys cA) s) (hP : va_P (dC, dI) zCm (zWd ad cA M) H) (hS : va_S (zA ad) s.heap H locs) (hst : zStat ad s s.heap) (hnw : zNw s) : ∀ U : State, U.heap = H → s.WarmedH U.vm → zB dC dI ad cA M U := by
  intro U hU hW
  refine ⟨by rw [hU]; exact hP, va_K.moved hW.alike hK, ⟨?_, ?_⟩, fun w hw => va_Nw.warmF hW (hnw w hw)⟩
  · exact (va_Z.moved hW.alike hst.1).kept (fun q h1 h2 => by rw [hU]; exact hS.2.1 q h1 h2)
  · exact (va_T.moved hW.alike hst.2).kept (fun q h1 h2 => by rw [hU]; exact hS.2.1 q h1 h2)
theorem zi_invokevirtual {n : Nat} {K : Kt} {d μ pc nx a b : Nat} {v : Int} {w : Nat} {L : Lc} {st : List Vl} {M : Mm} (Hy : zHy p l s m args meth c dC dI ad cA d μ) (hd : decode (zCd μ) pc = .ok (.invokevirtual n, zIl (.invokevirtual n))) (hn : nx = pc + zIl (.invokevirtual n)) (hi : zEI μ (.invokevirtual n) pc a b v w = true)
    (h : zEx (zSp d) K (zPj p l e (zRm μ) s m args below meth c dC dI ad cA (zMl μ) (MQ below (zQ dC dI ad cA μ K) args s 0 0 (zA ad)) nx) (zPj p l e (zRm μ) s m args below meth c dC dI ad cA (zMl μ) (MQ below (zQ dC dI ad cA μ K) args s 0 0 (zA ad))) pc (.invokevirtual n) a b v w L st M) :
    zPj p l e (zRm μ) s m args below meth c dC dI ad cA (zMl μ) (MQ below (zQ dC dI ad cA μ K) args s 0 0 (zA ad)) pc L st M := by
  obtain ⟨hμ, hx, hb, hml, hr, hlocks, hown, hts, hK, hinj, hst, hnw, IH⟩ := Hy
  subst hn
  intro H locs ls hP hS hL
  obtain ⟨as, r, rfl, hlen, h⟩ := zPops_e b [] st h
  rw [List.append_nil] at h
  obtain ⟨hh, h⟩ := zC_iff.mp h
  obtain ⟨h8, h⟩ := zC_iff.mp h
  simp only [zEI, zRoomOk, Bool.and_eq_true] at hi
  obtain ⟨hmk, ⟨hfr, hlo⟩, hw, hbn, hv, hin, ha, hw13⟩ := hi
  have hw := Nat.eq_of_beq_eq_true hw
  have hbn := Nat.eq_of_beq_eq_true hbn
  have hv : v = zRk a := of_decide_eq_true hv
  have ha : a < 265 := Nat.blt_eq.mp ha
  have hw13 : w < 13 := Nat.blt_eq.mp hw13
  have hin := zIn_mem hin
  match as, hh, hlen, h with
  | [], hh, _, _ => cases hh
  | .inl _ :: _, hh, _, _ => cases hh
  | .inr (.inl _) :: _, hh, _, _ => cases hh
  | .inr (.inr o) :: as, hh, hlen, h =>
    have hh : zObj o w = true := hh
    obtain ⟨hlt, hsh⟩ := zObj_e hh
    have hg : (zWd ad cA M)[o]? = some (ad o, .inr (w, zFsA ad o (M o) 0 (zFk w))) := by rw [zWd_get hlt, zEnt_obj hsh]
    have hcn : zCn w = (zY a).cls := by rw [hw]; exact zf_cls a ha
    have hrecv := va_recv hK hP (zf_cl w hw13 (by rw [hw]; exact zf_own3 _ hin)) hg
    have hrecv : ∃ cell : Cell, H[ad o]? = some cell ∧ cell.vm.isStatics = false ∧ s.vm.findClass (zY a).cls = some cell.cls := by rw [← hcn]; exact hrecv
    have hG : GoodIn zTb (wsV (zCn (zOn μ)) n (zY a).cls (zY a) (zWs a)) := by
      intro w2 hw2
      rcases List.mem_append.mp hw2 with h1 | h1
      · simp only [List.mem_cons, List.not_mem_nil, or_false] at h1
        rcases h1 with rfl | rfl | rfl | rfl
        · exact zTb_good _ (zGw (zc_mk _ (zMn_mem hmk)) rfl)
        · exact zTb_good _ (zGw (zc_inst _ hin) rfl)
        · exact zTb_good _ (zGw (zc_sel _ hin) rfl)
        · exact zTb_good _ (zc_initg ha)
      · exact zWs_good ha w2 h1
    have hmh := zf_mh a ha
    have cw := cwV (R := zRm μ) (s := s) (args := args) (rm := zRm a) (mc := 0) (ms := 0) (zNp a) hts hG rfl rfl rfl ⟨rfl, hmh.1, hmh.2.1, hmh.2.2⟩ ⟨Nat.le_of_ble_eq_true hfr, Nat.le_of_ble_eq_true hlo⟩
    have hl2 : as.length = zNp a := by simp at hlen; omega
    have hstk : (List.map (zVm ad) ((Sum.inr (Sum.inr o) :: as).reverse ++ r)) = (as.map (zVm ad)).reverse ++ Value.ref (ad o) :: r.map (zVm ad) := by simp [zVm]
    rw [hstk]
    refine zcall (fun _ h => h) (va_runV (As := as.map (zVm ad)) (rest := r.map (zVm ad)) ⟨hx, hb, hml, hown, hts⟩ (IH a ha _ M _ h) cw ⟨zBlind, hrecv, fun U hU hW => ⟨rfl, zPre hK hP hS hst hnw U hU hW⟩⟩ rfl (by rw [List.length_map]; exact hl2) hL.2.1 rfl (lv_room (by rw [zCats_sum]; exact Nat.le_of_ble_eq_true h8)) hd ⟨Nat.le_refl 0, Nat.le_refl 0⟩) hS (fun z M' H1 locs1 hk hP1 hS1 => ?_)
    have h2 := hk H1 locs1 ls hP1 hS1 hL
    rw [hv, zPush_map ha] at h2
    exact h2
theorem zi_invokestatic {n : Nat} {K : Kt} {d μ pc nx a b : Nat} {v : Int} {w : Nat} {L : Lc} {st : List Vl} {M : Mm} (Hy : zHy p l s m args meth c dC dI ad cA d μ) (hd : decode (zCd μ) pc = .ok (.invokestatic n, zIl (.invokestatic n))) (hn : nx = pc + zIl (.invokestatic n)) (hi : zEI μ (.invokestatic n) pc a b v w = true)
    (h : zEx (zSp d) K (zPj p l e (zRm μ) s m args below meth c dC dI ad cA (zMl μ) (MQ below (zQ dC dI ad cA μ K) args s 0 0 (zA ad)) nx) (zPj p l e (zRm μ) s m args below meth c dC dI ad cA (zMl μ) (MQ below (zQ dC dI ad cA μ K) args s 0 0 (zA ad))) pc (.invokestatic n) a b v w L st M) :
    zPj p l e (zRm μ) s m args below meth c dC dI ad cA (zMl μ) (MQ below (zQ dC dI ad cA μ K) args s 0 0 (zA ad)) pc L st M := by
  obtain ⟨hμ, hx, hb, hml, hr, hlocks, hown, hts, hK, hinj, hst, hnw, IH⟩ := Hy
  subst hn
  intro H locs ls hP hS hL
  have hi : cond (Nat.beq w 0) (zMn (zOn μ) n a zMk && (zRoomOk μ a && (Nat.beq b (zNp a) && (decide (v = zRk a) && (zIn a zStats && Nat.blt a 265))))) (cond (Nat.beq w 3) (zM2 (zOn μ) n zMx && (Nat.ble 1 (zFr μ) && Nat.ble 30 (zLo μ))) (cond (Nat.beq w 4) (zM2 (zOn μ) n zMi && (Nat.ble 1 (zFr μ) && Nat.ble 30 (zLo μ))) (zM2 (zOn μ) n zAc && (Nat.ble 1 (zFr μ) && (Nat.ble 30 (zLo μ) && (Nat.beq w 1 || Nat.beq w 2)))))) = true := hi
  have h : cond (Nat.beq w 0) (zPops b [] st fun as r => zC (Nat.ble (zCats r) 8) (zSp d a as M (fun z M' => zPj p l e (zRm μ) s m args below meth c dC dI ad cA (zMl μ) (MQ below (zQ dC dI ad cA μ K) args s 0 0 (zA ad)) (pc + 3) L (zPush v z r) M')))
      (cond (Nat.beq w 3) (zS2 st fun x y r => zC (zR32 x) (zC (zR32 y) (zC (Nat.ble (zCats r) 8) (zPj p l e (zRm μ) s m args below meth c dC dI ad cA (zMl μ) (MQ below (zQ dC dI ad cA μ K) args s 0 0 (zA ad)) (pc + 3) L (.inl (zMax x y) :: r) M)))) (cond (Nat.beq w 4) (zS2 st fun x y r => zC (zR32 x) (zC (zR32 y) (zC (Nat.ble (zCats r) 8) (zPj p l e (zRm μ) s m args below meth c dC dI ad cA (zMl μ) (MQ below (zQ dC dI ad cA μ K) args s 0 0 (zA ad)) (pc + 3) L (.inl (zMin x y) :: r) M))))
      (zIIRIR st fun s2 sp d2 dp n r => zC (Nat.ble (zCats r) 8) (zC (zArr s2 (cond (Nat.beq w 1) 0 1)) (zC (zArr d2 (cond (Nat.beq w 1) 0 1)) (zC (!Nat.beq s2 d2) (zC (zCo sp dp n (zLen s2) (zLen d2)) (zPj p l e (zRm μ) s m args below meth c dC dI ad cA (zMl μ) (MQ below (zQ dC dI ad cA μ K) args s 0 0 (zA ad)) (pc + 3) L r (zCpy M s2 sp d2 dp n))))))))) := h
  cases hw : Nat.beq w 0 with
  | true =>
    rw [hw] at hi h
    obtain ⟨as, r, rfl, hlen, h⟩ := zPops_e b [] st h
    rw [List.append_nil] at h
    obtain ⟨h8, h⟩ := zC_iff.mp h
    simp only [cond_true, zRoomOk, Bool.and_eq_true] at hi
    obtain ⟨hmk, ⟨hfr, hlo⟩, hbn, hv, hin, ha⟩ := hi
    have hbn := Nat.eq_of_beq_eq_true hbn
    have hv : v = zRk a := of_decide_eq_true hv
    have ha : a < 265 := Nat.blt_eq.mp ha
    have hin := zIn_mem hin
    have hG : GoodIn zTb (va_wsS (zCn (zOn μ)) n (zY a) (zWs a)) := by
      intro w2 hw2
      rcases List.mem_append.mp hw2 with h1 | h1
      · simp only [List.mem_cons, List.not_mem_nil, or_false] at h1
        rcases h1 with rfl | rfl | rfl
        · exact zTb_good _ (zGw (zc_mk _ (zMn_mem hmk)) rfl)
        · exact zTb_good _ (zGw (zc_stat _ hin) rfl)
        · exact zTb_good _ (zc_initg ha)
      · exact zWs_good ha w2 h1
    have hmh := zf_mh a ha
    have cw := va_cwS (R := zRm μ) (s := s) (args := args) (rm := zRm a) (mc := 0) (ms := 0) (zNp a) hts hG rfl rfl rfl ⟨hmh.1, hmh.2.1, hmh.2.2⟩ ⟨Nat.le_of_ble_eq_true hfr, Nat.le_of_ble_eq_true hlo⟩
    have hstk : (List.map (zVm ad) (as.reverse ++ r)) = (as.map (zVm ad)).reverse ++ r.map (zVm ad) := by simp
    rw [hstk]
    refine zcall (fun _ h => h) (va_runS (As := as.map (zVm ad)) (rest := r.map (zVm ad)) ⟨hx, hb, hml, hown, hts⟩ (IH a ha _ M _ h) cw ⟨zBlind, fun U hU hW => ⟨rfl, zPre hK hP hS hst hnw U hU hW⟩⟩ rfl (by rw [List.length_map]; omega) hL.2.1 rfl (lv_room (by rw [zCats_sum]; exact Nat.le_of_ble_eq_true h8)) hd ⟨Nat.le_refl 0, Nat.le_refl 0⟩) hS (fun z M' H1 locs1 hk hP1 hS1 => ?_)
    have h2 := hk H1 locs1 ls hP1 hS1 hL
    rw [hv, zPush_map ha] at h2
    exact h2
  | false =>
    rw [hw] at hi h
    have hmls : c.maxLocals = ls.size := hml.trans hL.2.1.symm
    have hlk2 : ∀ r : List Vl, zCats r ≤ 8 → Nat.ble 30 (zLo μ) = true → ((r.map (zVm ad)).map fun v => v.category).sum + 13 ≤ (zRm μ).locals := by
      intro r h8 hlo
      rw [zCats_sum]
      have e2 : (30 : Nat) ≤ zLo μ := Nat.le_of_ble_eq_true hlo
      show zCats r + _ ≤ zLo μ
      omega
    cases hw3 : Nat.beq w 3 with
    | true =>
      rw [hw3] at hi h
      simp only [cond_false, cond_true, Bool.and_eq_true] at hi
      obtain ⟨x, y, r, rfl, h⟩ := zS2_e h
      obtain ⟨h1, h⟩ := zC_iff.mp h
      obtain ⟨h2, h⟩ := zC_iff.mp h
      obtain ⟨h8, h⟩ := zC_iff.mp h
      refine va_mmax hx hb hmls hown (hts _ (zGw (zc_max _ (zM2_mem hi.1)) rfl)) (hts _ (zGw zc_maxs rfl)) (hts _ (zGw zc_mai rfl)) (hts _ (zGw zc_maxc rfl)) (Nat.le_of_ble_eq_true hi.2.1) (hlk2 r (Nat.le_of_ble_eq_true h8) hi.2.2) (Nat.zero_le _) (Nat.zero_le _) hd ?_
      have e1 : (if Int32.ofInt x < Int32.ofInt y then Int32.ofInt y else Int32.ofInt x) = Int32.ofInt (zMax x y) := by
        unfold zMax
        by_cases q : x < y
        · rw [if_pos ((z32_lt h1 h2).mpr q), if_pos q]
        · rw [if_neg (fun z => q ((z32_lt h1 h2).mp z)), if_neg q]
      rw [e1]
      exact h H locs ls hP hS hL
    | false =>
    cases hw4 : Nat.beq w 4 with
    | true =>
      rw [hw3, hw4] at hi h
      simp only [cond_false, cond_true, Bool.and_eq_true] at hi
      obtain ⟨x, y, r, rfl, h⟩ := zS2_e h
      obtain ⟨h1, h⟩ := zC_iff.mp h
      obtain ⟨h2, h⟩ := zC_iff.mp h
      obtain ⟨h8, h⟩ := zC_iff.mp h
      refine va_mmin hx hb hmls hown (hts _ (zGw (zc_min _ (zM2_mem hi.1)) rfl)) (hts _ (zGw zc_mins rfl)) (hts _ (zGw zc_mai rfl)) (hts _ (zGw zc_minc rfl)) (Nat.le_of_ble_eq_true hi.2.1) (hlk2 r (Nat.le_of_ble_eq_true h8) hi.2.2) (Nat.zero_le _) (Nat.zero_le _) hd ?_
      have e1 : (if Int32.ofInt y < Int32.ofInt x then Int32.ofInt y else Int32.ofInt x) = Int32.ofInt (zMin x y) := by
        unfold zMin
        by_cases q : y < x
        · rw [if_pos ((z32_lt h2 h1).mpr q), if_pos q]
        · rw [if_neg (fun z => q ((z32_lt h2 h1).mp z)), if_neg q]
      rw [e1]
      exact h H locs ls hP hS hL
    | false =>
    rw [hw3, hw4] at hi h
    simp only [cond_false, Bool.and_eq_true] at hi
    obtain ⟨hac, hfr, hlo, hw12⟩ := hi
    obtain ⟨s2, sp, d2, dp, n2, r, rfl, h⟩ := zIIRIR_e h
    obtain ⟨h8, h⟩ := zC_iff.mp h
    obtain ⟨hs1, h⟩ := zC_iff.mp h
    obtain ⟨hd1, h⟩ := zC_iff.mp h
    obtain ⟨hne, h⟩ := zC_iff.mp h
    obtain ⟨hco, h⟩ := zC_iff.mp h
    have h8 := Nat.le_of_ble_eq_true h8
    have hco := zCo_iff.mp hco
    obtain ⟨t1, n1, hlt1, hsh1, hty1, hlen1, hn1⟩ := zArr_e hs1
    obtain ⟨t3, n3, hlt3, hsh3, hty3, hlen3, hn3⟩ := zArr_e hd1
    have hg1 : (zWd ad cA M)[s2]? = some (ad s2, .inl (cA (cond (Nat.beq w 1) 0 1), n1, zRow ad (cond (Nat.beq w 1) 0 1) (M s2))) := by rw [zWd_get hlt1, zEnt_arr hsh1, hty1]
    have hg3 : (zWd ad cA M)[d2]? = some (ad d2, .inl (cA (cond (Nat.beq w 1) 0 1), n3, zRow ad (cond (Nat.beq w 1) 0 1) (M d2))) := by rw [zWd_get hlt3, zEnt_arr hsh3, hty3]
    have c1 : (Int32.ofInt sp).toNatClampNeg = sp.toNat := by
      show (Int32.ofInt sp).toInt.toNat = _
      rw [z32 (zR32_iff.mpr ⟨by omega, by omega⟩)]
    have c2 : (Int32.ofInt dp).toNatClampNeg = dp.toNat := by
      show (Int32.ofInt dp).toInt.toNat = _
      rw [z32 (zR32_iff.mpr ⟨by omega, by omega⟩)]
    have c3 : (Int32.ofInt n2).toNatClampNeg = n2.toNat := by
      show (Int32.ofInt n2).toInt.toNat = _
      rw [z32 (zR32_iff.mpr ⟨by omega, by omega⟩)]
    have z0 : zR32 0 = true := by decide
    have p1 : ¬ Int32.ofInt sp < 0 := fun q => by have := (z32_lt (y := 0) (zR32_iff.mpr ⟨by omega, by omega⟩) z0).mp q; omega
    have p2 : ¬ Int32.ofInt dp < 0 := fun q => by have := (z32_lt (y := 0) (zR32_iff.mpr ⟨by omega, by omega⟩) z0).mp q; omega
    have p3 : ¬ Int32.ofInt n2 < 0 := fun q => by have := (z32_lt (y := 0) (zR32_iff.mpr ⟨by omega, by omega⟩) z0).mp q; omega
    have hM : zEnt ad cA (zCpy M s2 sp d2 dp n2) d2 = .inl (cA (cond (Nat.beq w 1) 0 1), n3, zRow ad (cond (Nat.beq w 1) 0 1) (fun j => if dp ≤ j ∧ j < dp + n2 then M s2 (sp + (j - dp)) else M d2 j)) := by
      rw [zEnt_arr hsh3, hty3]
      congr 4
      funext j
      unfold zCpy
      rw [if_pos rfl]
    have hw2 : (zWd ad cA M).set d2 (ad d2, .inl (cA (cond (Nat.beq w 1) 0 1), n3, zRow ad (cond (Nat.beq w 1) 0 1) (fun j => if dp ≤ j ∧ j < dp + n2 then M s2 (sp + (j - dp)) else M d2 j))) = zWd ad cA (zCpy M s2 sp d2 dp n2) := by rw [← hM]; exact zWd_set hlt3 zCpy_ne
    have hlk := hts _ (zGw (zc_ac _ (zM2_mem hac)) rfl)
    have hloc : ((r.map (zVm ad)).map fun v => v.category).sum + (nativeFrameWords "java/lang/System" "arraycopy" 5 + 11) ≤ (zRm μ).locals := by
      rw [zCats_sum]
      have e1 : nativeFrameWords "java/lang/System" "arraycopy" 5 = 7 := by decide
      have e2 : (30 : Nat) ≤ zLo μ := Nat.le_of_ble_eq_true hlo
      show zCats r + _ ≤ zLo μ
      omega
    rcases (show Nat.beq w 1 = true ∨ Nat.beq w 1 = false by cases Nat.beq w 1 <;> simp) with hw1 | hw1
    · rw [hw1] at hg1 hg3 hw2
      have hf : (va_cpy (fun j : Nat => Int32.ofInt (M s2 (j : Int))) (fun j : Nat => Int32.ofInt (M d2 (j : Int))) (Int32.ofInt sp).toNatClampNeg (Int32.ofInt dp).toNatClampNeg (Int32.ofInt n2).toNatClampNeg) = (fun j : Nat => Int32.ofInt (if dp ≤ (j : Int) ∧ (j : Int) < dp + n2 then M s2 (sp + ((j : Int) - dp)) else M d2 (j : Int))) := by
        funext j
        unfold va_cpy
        rw [c1, c2, c3]
        by_cases q : dp.toNat ≤ j ∧ j < dp.toNat + n2.toNat
        · rw [if_pos q, if_pos (by omega)]
          show Int32.ofInt (M s2 ((sp.toNat + (j - dp.toNat) : Nat) : Int)) = _
          rw [show ((sp.toNat + (j - dp.toNat) : Nat) : Int) = sp + ((j : Int) - dp) by omega]
        · rw [if_neg q, if_neg (by omega)]
      refine va_copyi hx hb hmls hown hlk (hts _ (zGw zc_acn rfl)) (hts _ (zGw zc_acs rfl)) (hts _ (zGw zc_aci rfl)) hK hP (zWd_D hinj) hS s2 d2 0 0 hg1 hg3 rfl rfl rfl p1 p2 p3 (by rw [c1, c3]; omega) (by rw [c2, c3]; omega) (fun _ _ => rfl) (Nat.le_of_ble_eq_true hfr) hloc hd (fun H1 locs1 hP1 _ hS1 => ?_)
      rw [hf] at hP1
      exact h H1 locs1 ls (by rw [← hw2]; exact hP1) hS1 hL
    · rw [hw1] at hg1 hg3 hw2
      have hf : (va_cpy (fun j : Nat => Int64.ofInt (M s2 (j : Int))) (fun j : Nat => Int64.ofInt (M d2 (j : Int))) (Int32.ofInt sp).toNatClampNeg (Int32.ofInt dp).toNatClampNeg (Int32.ofInt n2).toNatClampNeg) = (fun j : Nat => Int64.ofInt (if dp ≤ (j : Int) ∧ (j : Int) < dp + n2 then M s2 (sp + ((j : Int) - dp)) else M d2 (j : Int))) := by
        funext j
        unfold va_cpy
        rw [c1, c2, c3]
        by_cases q : dp.toNat ≤ j ∧ j < dp.toNat + n2.toNat
        · rw [if_pos q, if_pos (by omega)]
          show Int64.ofInt (M s2 ((sp.toNat + (j - dp.toNat) : Nat) : Int)) = _
          rw [show ((sp.toNat + (j - dp.toNat) : Nat) : Int) = sp + ((j : Int) - dp) by omega]
        · rw [if_neg q, if_neg (by omega)]
      refine va_copyl hx hb hmls hown hlk (hts _ (zGw zc_acn rfl)) (hts _ (zGw zc_acs rfl)) (hts _ (zGw zc_aci rfl)) hK hP (zWd_D hinj) hS s2 d2 1 1 hg1 hg3 rfl rfl rfl p1 p2 p3 (by rw [c1, c3]; omega) (by rw [c2, c3]; omega) (fun _ _ => rfl) (Nat.le_of_ble_eq_true hfr) hloc hd (fun H1 locs1 hP1 _ hS1 => ?_)
      rw [hf] at hP1
      exact h H1 locs1 ls (by rw [← hw2]; exact hP1) hS1 hL
theorem zTsw_get {pc : Nat} {J : Nat → Prop} {x : Int} : ∀ (os : List Int) (lo : Int), zTsw pc J x lo os → ∀ (k : Nat) (o : Int), os[k]? = some o → x = lo + (k : Int) → J ((pc : Int) + o).toNat
  | [], _, _, k, o, h, _ => by simp at h
  | o1 :: os, lo, ⟨h1, h2⟩, 0, o, h, hx => by
    simp at h; subst h
    exact h1 (by omega)
  | o1 :: os, lo, ⟨h1, h2⟩, k + 1, o, h, hx => zTsw_get os (lo + 1) h2 k o (by simpa using h) (by omega)
theorem zi_tableswitch {df lo hi : Int} {offs : Array Int} {len : Nat} {K : Kt} {d μ pc nx a b : Nat} {v : Int} {w : Nat} {L : Lc} {st : List Vl} {M : Mm} (Hy : zHy p l s m args meth c dC dI ad cA d μ) (hd : decode (zCd μ) pc = .ok (.tableswitch df lo hi offs, len)) (hi0 : zEI μ (.tableswitch df lo hi offs) pc a b v w = true)
    (h : zEx (zSp d) K (zPj p l e (zRm μ) s m args below meth c dC dI ad cA (zMl μ) (MQ below (zQ dC dI ad cA μ K) args s 0 0 (zA ad)) nx) (zPj p l e (zRm μ) s m args below meth c dC dI ad cA (zMl μ) (MQ below (zQ dC dI ad cA μ K) args s 0 0 (zA ad))) pc (.tableswitch df lo hi offs) a b v w L st M) :
    zPj p l e (zRm μ) s m args below meth c dC dI ad cA (zMl μ) (MQ below (zQ dC dI ad cA μ K) args s 0 0 (zA ad)) pc L st M := by
  obtain ⟨hμ, hx, hb, hml, hr, hlocks, hown, hts, hK, hinj, hst, hnw, IH⟩ := Hy
  intro H locs ls hP hS hL
  obtain ⟨x, r, rfl, h⟩ := zS1_e h
  obtain ⟨h1, h⟩ := zC_iff.mp h
  simp only [zEI, Bool.and_eq_true, decide_eq_true_eq] at hi0
  obtain ⟨g1, g2, g3⟩ := hi0
  have hxi := z32 h1
  by_cases q : x < lo ∨ hi < x
  · exact lv_tableOut hx hb hd (by rw [hxi]; exact q) (Int.toNat_of_nonneg g1).symm (h.2 q H locs ls hP hS hL)
  · have hk : (x - lo).toNat < offs.size := by omega
    have ho : offs[(x - lo).toNat]? = some offs[(x - lo).toNat] := Array.getElem?_eq_getElem hk
    have hol : offs.toList[(x - lo).toNat]? = some offs[(x - lo).toNat] := by rw [Array.getElem?_toList]; exact ho
    have hnn : 0 ≤ (pc : Int) + offs[(x - lo).toNat] := by
      have := List.all_eq_true.mp g2 _ (List.mem_of_getElem? hol)
      exact of_decide_eq_true this
    exact lv_tableIn hx hb hd (by rw [hxi]; omega) (by rw [hxi]; omega) (by rw [hxi]; exact ho) (Int.toNat_of_nonneg hnn).symm (zTsw_get _ _ h.1 _ _ hol (by omega) H locs ls hP hS hL)
end ZC
