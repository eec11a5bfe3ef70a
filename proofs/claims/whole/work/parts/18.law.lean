/-! THE CLAIM OUT OF ONE WALK OF THE LAW'S BODY. Your part is whole_start (and what it stands on); all else here is the same for every law, but numbers. -/
def R_law : String := "LeastFailingLaw"
def lw_P (b : Addr) (xs : List Int32) (args : Array Value) (s : State) : Prop := args = #[.ref b] ∧ s.IntsAt b xs ∧ xs.length ≤ 3072 ∧ (Jvm.Cond.and given_1 narrow_1).before args s = true
def lw_Q (_ : Array Value) (s : State) (o : Outcome) (t : State) : Prop := o = .returned (some (.int 1)) ∧ Framed s o t [] 600000 7302249
def lw_Z (below : List Frame) (a : Array Value) (s : State) : State → Prop := fun t => ∃ o, t.status = .running ∧ Ended t below o ∧ lw_Q a s o t
/-- the law's own end, with 1 on the stack, nothing written that was there before, its room as the claim has it -/
theorem lw_ret {p : Program} {l : Launch} {e : Env} {s : State} {m : MethodId} {below : List Frame} {meth : Method} {c : Code} {b : Nat} (hx : p.tables.exec = Jvm.exec) (hb : c.code = code) (hr : meth.sig.returnType = ret) (hlocks : meth.locks = false) {pc : Nat} {H : Heap} {ls : Array Slot} (hdg : decode code pc = .ok (.ireturn, 1)) : W p l e room_1 s m #[Value.ref b] below meth c H [] 600000 7302249 (lw_Z below #[Value.ref b] s) (F0 m pc ls [.int 1]) := by
  intro T hT X
  obtain ⟨fs, hret, hrun, hended, hW, hframe⟩ := X.leave (v := some (.int 1)) (hlocks := hlocks) (fun h => by rw [hr] at h; cases h)
  have hmeth' : T.vm.method? m = some meth := X.method'
  refine ⟨T.setFrames fs, ?_, .returned (some (.int 1)), hrun, hended, rfl, ⟨_, rfl⟩, hW, hframe⟩
  jvm_step X.here [X.here.top, hx, hb, hdg, hmeth', hr, ret, narrow_b1]
  (try refine ⟨rfl, ?_⟩); (try refine ⟨rfl, ?_⟩)
  first | (intro acts; rw [hret _ acts rfl rfl rfl]) | rw [hret _ _ rfl rfl rfl]
  exact Steps.refl _
/-- what holds at the law's entry: the machine, the code, the tables' words (any of lw_tbl by 'hts w (by decide +kernel)'), the script of L ints xs at the cell b, what the Statement gives of the start (any of its parts by flat_of_before) -/
def lw_At (p : Program) (s : State) (m : MethodId) (meth : Method) (c : Code) (b L : Nat) (xs : Nat → Int32) : Prop :=
  p.tables.exec = Jvm.exec ∧ c.code = code ∧ meth.sig.returnType = ret ∧ c.maxLocals = 4 ∧ s.vm.findClass R_law = some m.cls ∧ (∀ w ∈ lw_tbl, w.before #[Value.ref b] s = true) ∧ va_X b L xs s s.heap ∧ b < s.heap.size ∧ meth.locks = false ∧ (Jvm.Cond.and given_1 narrow_1).before #[Value.ref b] s = true

/-! THE LAW: its loop over any property of the cells that each pair of calls keeps -/
def zLC (p : Program) (l : Launch) (s : State) (m : MethodId) (meth : Method) (c : Code) (b L : Nat) (xs : Nat → Int32) (dC : Nat → ClassId) (dI : Nat → Nat → Nat) (ad : Nat → Nat) (cA : Nat → ClassId) : Prop :=
  p.tables.exec = Jvm.exec ∧ c.code = code ∧ c.maxLocals = 4 ∧ s.vm.findClass R_law = some m.cls ∧ (∀ w ∈ zTb, w.before #[Value.ref b] s = true) ∧ va_X b L xs s s.heap ∧ b < s.heap.size ∧ va_K (dC, dI) zCm (zTys cA) s ∧ zInj ad ∧ zNw s ∧
  (va_Z "LeastFailing$Text" "OWN_WORDS" "[I" (.ref (ad zOW)) (fun q => s.heap.size ≤ q) s s.heap ∧ va_T .int (ad zOW) 13 (fun j => .int (Int32.ofInt (zOwn (j : Int)))) (fun q => s.heap.size ≤ q) s s.heap) ∧ (∀ k, k < 192 → s.heap.size ≤ ad k) ∧ L ≤ 3072
theorem zR32_toInt (x : Int32) : zR32 x.toInt = true := by
  have h1 := Int32.le_toInt x
  have h2 := Int32.toInt_lt x
  exact zR32_iff.mpr ⟨by omega, by omega⟩
theorem d33 : decode code 33 = .ok (.tableswitch 1012 0 30 #[139, 202, 225, 238, 251, 264, 287, 310, 333, 356, 399, 432, 465, 498, 511, 554, 567, 590, 623, 646, 669, 682, 715, 748, 781, 834, 857, 890, 923, 956, 999], 139) := by decide +kernel
section ZL
variable {p : Program} {l : Launch} {e : Env} {s : State} {m : MethodId} {below : List Frame} {meth : Method} {c : Code} {b L : Nat} {xs : Nat → Int32} {dC : Nat → ClassId} {dI : Nat → Nat → Nat} {ad : Nat → Nat} {cA : Nat → ClassId} {Q : State → Prop} {cells slots : Nat} {H : Heap} {locs : List Loc} {ls : Array Slot} {M : Mm} {pc : Nat}
theorem zLawCall {μ idx o w : Nat} {as : List Vl} {As rest st : List Value} {K : Kt} (C : zLC p l s m meth c b L xs dC dI ad cA) (hlk : Jvm.Cond.methodLink "LeastFailingLaw" idx (zY μ) ∈ zTb) (hin : zIn μ zInsts = true) (hμ : μ < 265) (hrk : zRk μ = 1) (how : zOn μ = w) (hw : w < 13) (hob : zObj o w = true) (hnp : as.length = zNp μ) (hroom : zFr μ + 1 ≤ 17 ∧ 8 + (zMl μ + 11) + zLo μ ≤ 716)
    (hP : va_P (dC, dI) zCm (zWd ad cA M) H) (hS : va_S (fun q => s.heap.size ≤ q) s.heap H locs) (hcs : cells ≤ room_1.cells ∧ slots ≤ room_1.slots) (hsz : ls.size = 4) (hsp : zSp 16 μ (.inr (.inr o) :: as) M K) (hAs : as.map (zVm ad) = As) (hst : st = As.reverse ++ .ref (ad o) :: rest) (hcat : (rest.map fun v => v.category).sum ≤ 8) (hdg : decode code pc = .ok (.invokevirtual idx, 3))
    (kk : ∀ (z : Int) (M1 : Mm) (H1 : Heap) (locs1 : List Loc), K z M1 → va_P (dC, dI) zCm (zWd ad cA M1) H1 → va_S (fun q => s.heap.size ≤ q) s.heap H1 locs1 → W p l e room_1 s m #[Value.ref b] below meth c H1 locs1 cells slots Q (F0 m (pc + 3) ls (.int (Int32.ofInt z) :: rest))) :
    W p l e room_1 s m #[Value.ref b] below meth c H locs cells slots Q (F0 m pc ls st) := by
  obtain ⟨hx, hb, hml, hown, hts, hX, hbl, hK, hinj, hnw, hst0, had, hL⟩ := C
  subst hst
  subst hAs
  have hin := zIn_mem hin
  obtain ⟨hlt, hsh⟩ := zObj_e hob
  have hg : (zWd ad cA M)[o]? = some (ad o, .inr (w, zFsA ad o (M o) 0 (zFk w))) := by rw [zWd_get hlt, zEnt_obj hsh]
  have hcn : zCn w = (zY μ).cls := by rw [← how]; exact zf_cls μ hμ
  have hrecv : ∃ cell : Cell, H[ad o]? = some cell ∧ cell.vm.isStatics = false ∧ s.vm.findClass (zY μ).cls = some cell.cls := by rw [← hcn]; exact va_recv hK hP (zf_cl w hw (by rw [← how]; exact zf_own3 _ hin)) hg
  have hG : GoodIn zTb (wsV "LeastFailingLaw" idx (zY μ).cls (zY μ) (zWs μ)) := by
    intro w2 hw2
    rcases List.mem_append.mp hw2 with h1 | h1
    · simp only [List.mem_cons, List.not_mem_nil, or_false] at h1
      rcases h1 with rfl | rfl | rfl | rfl
      · exact zTb_good _ hlk
      · exact zTb_good _ (zGw (zc_inst _ hin) rfl)
      · exact zTb_good _ (zGw (zc_sel _ hin) rfl)
      · exact zTb_good _ (zc_initg hμ)
    · exact zWs_good hμ w2 h1
  have hmh := zf_mh μ hμ
  have hsub : ∀ q, zA ad q → s.heap.size ≤ q := by
    rintro q ⟨k, hk, rfl⟩
    exact had k hk
  have cw := cwV (R := room_1) (s := s) (args := #[Value.ref b]) (rm := zRm μ) (mc := 0) (ms := 0) (zNp μ) hts hG rfl rfl rfl ⟨rfl, hmh.1, hmh.2.1, hmh.2.2⟩ ⟨hroom.1, hroom.2⟩
  refine zcall hsub (va_runV (As := as.map (zVm ad)) (rest := rest) ⟨hx, hb, hml, hown, hts⟩ (zSound l dC dI ad cA hinj 16 μ hμ _ M _ hsp) cw ⟨zBlind, hrecv, fun U hU hW => ⟨rfl, by rw [hU]; exact hP, va_K.moved hW.alike hK, ⟨?_, ?_⟩, fun w hw => va_Nw.warmF hW (hnw w hw)⟩⟩ rfl (by rw [List.length_map]; exact hnp) hsz rfl (lv_room hcat) hdg ⟨hcs.1, hcs.2⟩) hS (fun z M1 H1 locs1 hk hP1 hS1 => ?_)
  · exact ((va_Z.moved hW.alike hst0.1).kept (fun q h1 h2 => by rw [hU]; exact hS.2.1 q h1 h2)).narrow hsub
  · exact ((va_T.moved hW.alike hst0.2).kept (fun q h1 h2 => by rw [hU]; exact hS.2.1 q h1 h2)).narrow hsub
  · have h2 := kk z M1 H1 locs1 hk hP1 hS1
    rcases zf_ret μ hμ with ⟨h3, h4⟩ | ⟨h3, h4 | h4⟩ | ⟨h3, h4⟩
    · rw [hrk] at h3; cases h3
    · rw [h4]; exact h2
    · rw [h4]; exact h2
    · rw [hrk] at h3; cases h3

def zStep_0 (Inv : Mm → Prop) : Prop := ∀ M : Mm, Inv M → ∀ a1 : Int, zR32 a1 = true → ∀ a2 : Int, zR32 a2 = true → ∀ a3 : Int, zR32 a3 = true → ∀ a4 : Int, zR32 a4 = true → ∀ a5 : Int, zR32 a5 = true → zSp 16 97 [.inr (.inr 0), .inl a1, .inl a2, .inl a3, .inl a4, .inl a5] M (fun z M1 => zSp 16 140 [.inr (.inr 154), .inl a1, .inl a2, .inl a3, .inl a4, .inl a5] M1 (fun z2 M2 => z2 = z ∧ Inv M2))
def zStep_1 (Inv : Mm → Prop) : Prop := ∀ M : Mm, Inv M → ∀ a1 : Int, zR32 a1 = true → zSp 16 98 [.inr (.inr 0), .inl a1] M (fun z M1 => zSp 16 141 [.inr (.inr 154), .inl a1] M1 (fun z2 M2 => z2 = z ∧ Inv M2))
def zStep_2 (Inv : Mm → Prop) : Prop := ∀ M : Mm, Inv M → zSp 16 99 [.inr (.inr 0)] M (fun z M1 => zSp 16 169 [.inr (.inr 154)] M1 (fun z2 M2 => z2 = z ∧ Inv M2))
def zStep_3 (Inv : Mm → Prop) : Prop := ∀ M : Mm, Inv M → zSp 16 100 [.inr (.inr 0)] M (fun z M1 => zSp 16 182 [.inr (.inr 154)] M1 (fun z2 M2 => z2 = z ∧ Inv M2))
def zStep_4 (Inv : Mm → Prop) : Prop := ∀ M : Mm, Inv M → zSp 16 101 [.inr (.inr 0)] M (fun z M1 => zSp 16 193 [.inr (.inr 154)] M1 (fun z2 M2 => z2 = z ∧ Inv M2))
def zStep_5 (Inv : Mm → Prop) : Prop := ∀ M : Mm, Inv M → ∀ a1 : Int, zR32 a1 = true → zSp 16 102 [.inr (.inr 0), .inl a1] M (fun z M1 => zSp 16 195 [.inr (.inr 154), .inl a1] M1 (fun z2 M2 => z2 = z ∧ Inv M2))
def zStep_6 (Inv : Mm → Prop) : Prop := ∀ M : Mm, Inv M → ∀ a1 : Int, zR32 a1 = true → zSp 16 103 [.inr (.inr 0), .inl a1] M (fun z M1 => zSp 16 245 [.inr (.inr 154), .inl a1] M1 (fun z2 M2 => z2 = z ∧ Inv M2))
def zStep_7 (Inv : Mm → Prop) : Prop := ∀ M : Mm, Inv M → ∀ a1 : Int, zR32 a1 = true → zSp 16 104 [.inr (.inr 0), .inl a1] M (fun z M1 => zSp 16 246 [.inr (.inr 154), .inl a1] M1 (fun z2 M2 => z2 = z ∧ Inv M2))
def zStep_8 (Inv : Mm → Prop) : Prop := ∀ M : Mm, Inv M → ∀ a1 : Int, zR32 a1 = true → zSp 16 105 [.inr (.inr 0), .inl a1] M (fun z M1 => zSp 16 254 [.inr (.inr 154), .inl a1] M1 (fun z2 M2 => z2 = z ∧ Inv M2))
def zStep_9 (Inv : Mm → Prop) : Prop := ∀ M : Mm, Inv M → ∀ a1 : Int, zR32 a1 = true → ∀ a2 : Int, zR32 a2 = true → ∀ a3 : Int, zR32 a3 = true → zSp 16 106 [.inr (.inr 0), .inl a1, .inl a2, .inl a3] M (fun z M1 => zSp 16 255 [.inr (.inr 154), .inl a1, .inl a2, .inl a3] M1 (fun z2 M2 => z2 = z ∧ Inv M2))
def zStep_10 (Inv : Mm → Prop) : Prop := ∀ M : Mm, Inv M → ∀ a1 : Int, zR32 a1 = true → ∀ a2 : Int, zR32 a2 = true → zSp 16 107 [.inr (.inr 0), .inl a1, .inl a2] M (fun z M1 => zSp 16 257 [.inr (.inr 154), .inl a1, .inl a2] M1 (fun z2 M2 => z2 = z ∧ Inv M2))
def zStep_11 (Inv : Mm → Prop) : Prop := ∀ M : Mm, Inv M → ∀ a1 : Int, zR32 a1 = true → ∀ a2 : Int, zR32 a2 = true → zSp 16 108 [.inr (.inr 0), .inl a1, .inl a2] M (fun z M1 => zSp 16 258 [.inr (.inr 154), .inl a1, .inl a2] M1 (fun z2 M2 => z2 = z ∧ Inv M2))
def zStep_12 (Inv : Mm → Prop) : Prop := ∀ M : Mm, Inv M → ∀ a1 : Int, zR32 a1 = true → ∀ a2 : Int, zR32 a2 = true → zSp 16 109 [.inr (.inr 0), .inl a1, .inl a2] M (fun z M1 => zSp 16 260 [.inr (.inr 154), .inl a1, .inl a2] M1 (fun z2 M2 => z2 = z ∧ Inv M2))
def zStep_13 (Inv : Mm → Prop) : Prop := ∀ M : Mm, Inv M → zSp 16 110 [.inr (.inr 0)] M (fun z M1 => zSp 16 261 [.inr (.inr 154)] M1 (fun z2 M2 => z2 = z ∧ Inv M2))
def zStep_14 (Inv : Mm → Prop) : Prop := ∀ M : Mm, Inv M → ∀ a1 : Int, zR32 a1 = true → ∀ a2 : Int, zR32 a2 = true → ∀ a3 : Int, zR32 a3 = true → zSp 16 111 [.inr (.inr 0), .inl a1, .inl a2, .inl a3] M (fun z M1 => zSp 16 262 [.inr (.inr 154), .inl a1, .inl a2, .inl a3] M1 (fun z2 M2 => z2 = z ∧ Inv M2))
def zStep_15 (Inv : Mm → Prop) : Prop := ∀ M : Mm, Inv M → zSp 16 112 [.inr (.inr 0)] M (fun z M1 => zSp 16 253 [.inr (.inr 154)] M1 (fun z2 M2 => z2 = z ∧ Inv M2))
def zStep_16 (Inv : Mm → Prop) : Prop := ∀ M : Mm, Inv M → ∀ a1 : Int, zR32 a1 = true → zSp 16 113 [.inr (.inr 0), .inl a1] M (fun z M1 => zSp 16 251 [.inr (.inr 154), .inl a1] M1 (fun z2 M2 => z2 = z ∧ Inv M2))
def zStep_17 (Inv : Mm → Prop) : Prop := ∀ M : Mm, Inv M → ∀ a1 : Int, zR32 a1 = true → ∀ a2 : Int, zR32 a2 = true → zSp 16 114 [.inr (.inr 0), .inl a1, .inl a2] M (fun z M1 => zSp 16 223 [.inr (.inr 154), .inl a1, .inl a2] M1 (fun z2 M2 => z2 = z ∧ Inv M2))
def zStep_18 (Inv : Mm → Prop) : Prop := ∀ M : Mm, Inv M → ∀ a1 : Int, zR32 a1 = true → zSp 16 115 [.inr (.inr 0), .inl a1] M (fun z M1 => zSp 16 224 [.inr (.inr 154), .inl a1] M1 (fun z2 M2 => z2 = z ∧ Inv M2))
def zStep_19 (Inv : Mm → Prop) : Prop := ∀ M : Mm, Inv M → ∀ a1 : Int, zR32 a1 = true → zSp 16 116 [.inr (.inr 0), .inl a1] M (fun z M1 => zSp 16 225 [.inr (.inr 154), .inl a1] M1 (fun z2 M2 => z2 = z ∧ Inv M2))
def zStep_20 (Inv : Mm → Prop) : Prop := ∀ M : Mm, Inv M → zSp 16 117 [.inr (.inr 0)] M (fun z M1 => zSp 16 226 [.inr (.inr 154)] M1 (fun z2 M2 => z2 = z ∧ Inv M2))
def zStep_21 (Inv : Mm → Prop) : Prop := ∀ M : Mm, Inv M → ∀ a1 : Int, zR32 a1 = true → ∀ a2 : Int, zR32 a2 = true → zSp 16 118 [.inr (.inr 0), .inl a1, .inl a2] M (fun z M1 => zSp 16 228 [.inr (.inr 154), .inl a1, .inl a2] M1 (fun z2 M2 => z2 = z ∧ Inv M2))
def zStep_22 (Inv : Mm → Prop) : Prop := ∀ M : Mm, Inv M → ∀ a1 : Int, zR32 a1 = true → ∀ a2 : Int, zR32 a2 = true → zSp 16 119 [.inr (.inr 0), .inl a1, .inl a2] M (fun z M1 => zSp 16 240 [.inr (.inr 154), .inl a1, .inl a2] M1 (fun z2 M2 => z2 = z ∧ Inv M2))
def zStep_23 (Inv : Mm → Prop) : Prop := ∀ M : Mm, Inv M → ∀ a1 : Int, zR32 a1 = true → ∀ a2 : Int, zR32 a2 = true → zSp 16 120 [.inr (.inr 0), .inl a1, .inl a2] M (fun z M1 => zSp 16 241 [.inr (.inr 154), .inl a1, .inl a2] M1 (fun z2 M2 => z2 = z ∧ Inv M2))
def zStep_24 (Inv : Mm → Prop) : Prop := ∀ M : Mm, Inv M → ∀ a1 : Int, zR32 a1 = true → ∀ a2 : Int, zR32 a2 = true → ∀ a3 : Int, zR32 a3 = true → ∀ a4 : Int, zR32 a4 = true → zSp 16 121 [.inr (.inr 0), .inl a1, .inl a2, .inl a3, .inl a4] M (fun z M1 => zSp 16 242 [.inr (.inr 154), .inl a1, .inl a2, .inl a3, .inl a4] M1 (fun z2 M2 => z2 = z ∧ Inv M2))
def zStep_25 (Inv : Mm → Prop) : Prop := ∀ M : Mm, Inv M → ∀ a1 : Int, zR32 a1 = true → zSp 16 122 [.inr (.inr 0), .inl a1] M (fun z M1 => zSp 16 243 [.inr (.inr 154), .inl a1] M1 (fun z2 M2 => z2 = z ∧ Inv M2))
def zStep_26 (Inv : Mm → Prop) : Prop := ∀ M : Mm, Inv M → ∀ a1 : Int, zR32 a1 = true → ∀ a2 : Int, zR32 a2 = true → zSp 16 123 [.inr (.inr 0), .inl a1, .inl a2] M (fun z M1 => zSp 16 244 [.inr (.inr 154), .inl a1, .inl a2] M1 (fun z2 M2 => z2 = z ∧ Inv M2))
def zStep_27 (Inv : Mm → Prop) : Prop := ∀ M : Mm, Inv M → ∀ a1 : Int, zR32 a1 = true → ∀ a2 : Int, zR32 a2 = true → zSp 16 124 [.inr (.inr 0), .inl a1, .inl a2] M (fun z M1 => zSp 16 249 [.inr (.inr 154), .inl a1, .inl a2] M1 (fun z2 M2 => z2 = z ∧ Inv M2))
def zStep_28 (Inv : Mm → Prop) : Prop := ∀ M : Mm, Inv M → ∀ a1 : Int, zR32 a1 = true → ∀ a2 : Int, zR32 a2 = true → zSp 16 125 [.inr (.inr 0), .inl a1, .inl a2] M (fun z M1 => zSp 16 250 [.inr (.inr 154), .inl a1, .inl a2] M1 (fun z2 M2 => z2 = z ∧ Inv M2))
def zStep_29 (Inv : Mm → Prop) : Prop := ∀ M : Mm, Inv M → ∀ a1 : Int, zR32 a1 = true → ∀ a2 : Int, zR32 a2 = true → ∀ a3 : Int, zR32 a3 = true → zSp 16 126 [.inr (.inr 0), .inl a1, .inl a2, .inl a3] M (fun z M1 => zSp 16 252 [.inr (.inr 154), .inl a1, .inl a2, .inl a3] M1 (fun z2 M2 => z2 = z ∧ Inv M2))
def zStep_30 (Inv : Mm → Prop) : Prop := ∀ M : Mm, Inv M → zSp 16 127 [.inr (.inr 0)] M (fun z M1 => zSp 16 184 [.inr (.inr 154)] M1 (fun z2 M2 => z2 = z ∧ Inv M2))
set_option maxHeartbeats 4000000 in
theorem law_0 {Inv : Mm → Prop} (hs : zStep_0 Inv) (C : zLC p l s m meth c b L xs dC dI ad cA) {i : Nat} (hi : i + 6 ≤ L) (hM : Inv M) (hP : va_P (dC, dI) zCm (zWd ad cA M) H) (hS : va_S (fun q => s.heap.size ≤ q) s.heap H locs) (hl : lv_has ls 4 [(0, .ref b), (1, .ref (ad 0)), (2, .ref (ad 154)), (3, .int (nI i))]) (hcs : cells ≤ room_1.cells ∧ slots ≤ room_1.slots)
    (kk : ∀ (M1 : Mm) (H1 : Heap) (locs1 : List Loc), Inv M1 → va_P (dC, dI) zCm (zWd ad cA M1) H1 → va_S (fun q => s.heap.size ≤ q) s.heap H1 locs1 → W p l e room_1 s m #[Value.ref b] below meth c H1 locs1 cells slots Q (F0 m 1045 ls [])) :
    W p l e room_1 s m #[Value.ref b] below meth c H locs cells slots Q (F0 m 172 ls []) := by
  obtain ⟨hx, hb, hml, hown, hts, hX, hbl, hK, hinj, hnw, hst0, had, hL⟩ := id C
  have hbA : ¬ (fun q : Nat => s.heap.size ≤ q) b := Nat.not_le.mpr hbl
  have hs1 := hs M hM (xs (i + 1)).toInt (zR32_toInt _) (xs (i + 2)).toInt (zR32_toInt _) (xs (i + 3)).toInt (zR32_toInt _) (xs (i + 4)).toInt (zR32_toInt _) (xs (i + 5)).toInt (zR32_toInt _)
  refine lv_aload_n hx hb (show decode code 172 = .ok (.aload_n 1, 1) by decide +kernel) rfl (lv_at hl 1 rfl) ?_
  refine lv_aload_n hx hb (show decode code 173 = .ok (.aload_n 0, 1) by decide +kernel) rfl (lv_at hl 0 rfl) ?_
  refine lv_iload_n hx hb (show decode code 174 = .ok (.iload_n 3, 1) by decide +kernel) rfl (lv_at hl 3 rfl) ?_
  refine lv_iconst (v := 1) hx hb (show decode code 175 = .ok (.iconst 1, 1) by decide +kernel) (by decide) ?_
  refine lv_iadd hx hb (show decode code 176 = .ok (.iadd, 1) by decide +kernel) ?_
  rw [show nI i + 1 = nI (i + 1) from nI_add i 1]
  refine va_sld hx hb hX hbl hbA hS (vp_in_nI (by omega) (by omega)) (show decode code 177 = .ok (.iaload, 1) by decide +kernel) ?_
  rw [nI_clamp (show i + 1 < 2 ^ 31 by omega)]
  refine lv_aload_n hx hb (show decode code 178 = .ok (.aload_n 0, 1) by decide +kernel) rfl (lv_at hl 0 rfl) ?_
  refine lv_iload_n hx hb (show decode code 179 = .ok (.iload_n 3, 1) by decide +kernel) rfl (lv_at hl 3 rfl) ?_
  refine lv_iconst (v := 2) hx hb (show decode code 180 = .ok (.iconst 2, 1) by decide +kernel) (by decide) ?_
  refine lv_iadd hx hb (show decode code 181 = .ok (.iadd, 1) by decide +kernel) ?_
  rw [show nI i + 2 = nI (i + 2) from nI_add i 2]
  refine va_sld hx hb hX hbl hbA hS (vp_in_nI (by omega) (by omega)) (show decode code 182 = .ok (.iaload, 1) by decide +kernel) ?_
  rw [nI_clamp (show i + 2 < 2 ^ 31 by omega)]
  refine lv_aload_n hx hb (show decode code 183 = .ok (.aload_n 0, 1) by decide +kernel) rfl (lv_at hl 0 rfl) ?_
  refine lv_iload_n hx hb (show decode code 184 = .ok (.iload_n 3, 1) by decide +kernel) rfl (lv_at hl 3 rfl) ?_
  refine lv_iconst (v := 3) hx hb (show decode code 185 = .ok (.iconst 3, 1) by decide +kernel) (by decide) ?_
  refine lv_iadd hx hb (show decode code 186 = .ok (.iadd, 1) by decide +kernel) ?_
  rw [show nI i + 3 = nI (i + 3) from nI_add i 3]
  refine va_sld hx hb hX hbl hbA hS (vp_in_nI (by omega) (by omega)) (show decode code 187 = .ok (.iaload, 1) by decide +kernel) ?_
  rw [nI_clamp (show i + 3 < 2 ^ 31 by omega)]
  refine lv_aload_n hx hb (show decode code 188 = .ok (.aload_n 0, 1) by decide +kernel) rfl (lv_at hl 0 rfl) ?_
  refine lv_iload_n hx hb (show decode code 189 = .ok (.iload_n 3, 1) by decide +kernel) rfl (lv_at hl 3 rfl) ?_
  refine lv_iconst (v := 4) hx hb (show decode code 190 = .ok (.iconst 4, 1) by decide +kernel) (by decide) ?_
  refine lv_iadd hx hb (show decode code 191 = .ok (.iadd, 1) by decide +kernel) ?_
  rw [show nI i + 4 = nI (i + 4) from nI_add i 4]
  refine va_sld hx hb hX hbl hbA hS (vp_in_nI (by omega) (by omega)) (show decode code 192 = .ok (.iaload, 1) by decide +kernel) ?_
  rw [nI_clamp (show i + 4 < 2 ^ 31 by omega)]
  refine lv_aload_n hx hb (show decode code 193 = .ok (.aload_n 0, 1) by decide +kernel) rfl (lv_at hl 0 rfl) ?_
  refine lv_iload_n hx hb (show decode code 194 = .ok (.iload_n 3, 1) by decide +kernel) rfl (lv_at hl 3 rfl) ?_
  refine lv_iconst (v := 5) hx hb (show decode code 195 = .ok (.iconst 5, 1) by decide +kernel) (by decide) ?_
  refine lv_iadd hx hb (show decode code 196 = .ok (.iadd, 1) by decide +kernel) ?_
  rw [show nI i + 5 = nI (i + 5) from nI_add i 5]
  refine va_sld hx hb hX hbl hbA hS (vp_in_nI (by omega) (by omega)) (show decode code 197 = .ok (.iaload, 1) by decide +kernel) ?_
  rw [nI_clamp (show i + 5 < 2 ^ 31 by omega)]
  refine zLawCall (μ := 97) (idx := 13) (o := 0) (w := 11) (as := [.inl (xs (i + 1)).toInt, .inl (xs (i + 2)).toInt, .inl (xs (i + 3)).toInt, .inl (xs (i + 4)).toInt, .inl (xs (i + 5)).toInt]) (As := [.int (xs (i + 1)), .int (xs (i + 2)), .int (xs (i + 3)), .int (xs (i + 4)), .int (xs (i + 5))]) (rest := []) C zk_184 (by decide +kernel) (by decide) (by decide +kernel) (by decide +kernel) (by decide) (by decide +kernel) (show (5 : Nat) = zNp 97 by decide +kernel) ⟨by decide +kernel, by decide +kernel⟩ hP hS hcs hl.1 hs1 (by simp [zVm]) rfl (Nat.le_of_ble_eq_true rfl) (show decode code 198 = .ok (.invokevirtual 13, 3) by decide +kernel) (fun z1 M1 H1 locs1 hs2 hP1 hS1 => ?_)
  refine lv_aload_n hx hb (show decode code 201 = .ok (.aload_n 2, 1) by decide +kernel) rfl (lv_at hl 2 rfl) ?_
  refine lv_aload_n hx hb (show decode code 202 = .ok (.aload_n 0, 1) by decide +kernel) rfl (lv_at hl 0 rfl) ?_
  refine lv_iload_n hx hb (show decode code 203 = .ok (.iload_n 3, 1) by decide +kernel) rfl (lv_at hl 3 rfl) ?_
  refine lv_iconst (v := 1) hx hb (show decode code 204 = .ok (.iconst 1, 1) by decide +kernel) (by decide) ?_
  refine lv_iadd hx hb (show decode code 205 = .ok (.iadd, 1) by decide +kernel) ?_
  rw [show nI i + 1 = nI (i + 1) from nI_add i 1]
  refine va_sld hx hb hX hbl hbA hS1 (vp_in_nI (by omega) (by omega)) (show decode code 206 = .ok (.iaload, 1) by decide +kernel) ?_
  rw [nI_clamp (show i + 1 < 2 ^ 31 by omega)]
  refine lv_aload_n hx hb (show decode code 207 = .ok (.aload_n 0, 1) by decide +kernel) rfl (lv_at hl 0 rfl) ?_
  refine lv_iload_n hx hb (show decode code 208 = .ok (.iload_n 3, 1) by decide +kernel) rfl (lv_at hl 3 rfl) ?_
  refine lv_iconst (v := 2) hx hb (show decode code 209 = .ok (.iconst 2, 1) by decide +kernel) (by decide) ?_
  refine lv_iadd hx hb (show decode code 210 = .ok (.iadd, 1) by decide +kernel) ?_
  rw [show nI i + 2 = nI (i + 2) from nI_add i 2]
  refine va_sld hx hb hX hbl hbA hS1 (vp_in_nI (by omega) (by omega)) (show decode code 211 = .ok (.iaload, 1) by decide +kernel) ?_
  rw [nI_clamp (show i + 2 < 2 ^ 31 by omega)]
  refine lv_aload_n hx hb (show decode code 212 = .ok (.aload_n 0, 1) by decide +kernel) rfl (lv_at hl 0 rfl) ?_
  refine lv_iload_n hx hb (show decode code 213 = .ok (.iload_n 3, 1) by decide +kernel) rfl (lv_at hl 3 rfl) ?_
  refine lv_iconst (v := 3) hx hb (show decode code 214 = .ok (.iconst 3, 1) by decide +kernel) (by decide) ?_
  refine lv_iadd hx hb (show decode code 215 = .ok (.iadd, 1) by decide +kernel) ?_
  rw [show nI i + 3 = nI (i + 3) from nI_add i 3]
  refine va_sld hx hb hX hbl hbA hS1 (vp_in_nI (by omega) (by omega)) (show decode code 216 = .ok (.iaload, 1) by decide +kernel) ?_
  rw [nI_clamp (show i + 3 < 2 ^ 31 by omega)]
  refine lv_aload_n hx hb (show decode code 217 = .ok (.aload_n 0, 1) by decide +kernel) rfl (lv_at hl 0 rfl) ?_
  refine lv_iload_n hx hb (show decode code 218 = .ok (.iload_n 3, 1) by decide +kernel) rfl (lv_at hl 3 rfl) ?_
  refine lv_iconst (v := 4) hx hb (show decode code 219 = .ok (.iconst 4, 1) by decide +kernel) (by decide) ?_
  refine lv_iadd hx hb (show decode code 220 = .ok (.iadd, 1) by decide +kernel) ?_
  rw [show nI i + 4 = nI (i + 4) from nI_add i 4]
  refine va_sld hx hb hX hbl hbA hS1 (vp_in_nI (by omega) (by omega)) (show decode code 221 = .ok (.iaload, 1) by decide +kernel) ?_
  rw [nI_clamp (show i + 4 < 2 ^ 31 by omega)]
  refine lv_aload_n hx hb (show decode code 222 = .ok (.aload_n 0, 1) by decide +kernel) rfl (lv_at hl 0 rfl) ?_
  refine lv_iload_n hx hb (show decode code 223 = .ok (.iload_n 3, 1) by decide +kernel) rfl (lv_at hl 3 rfl) ?_
  refine lv_iconst (v := 5) hx hb (show decode code 224 = .ok (.iconst 5, 1) by decide +kernel) (by decide) ?_
  refine lv_iadd hx hb (show decode code 225 = .ok (.iadd, 1) by decide +kernel) ?_
  rw [show nI i + 5 = nI (i + 5) from nI_add i 5]
  refine va_sld hx hb hX hbl hbA hS1 (vp_in_nI (by omega) (by omega)) (show decode code 226 = .ok (.iaload, 1) by decide +kernel) ?_
  rw [nI_clamp (show i + 5 < 2 ^ 31 by omega)]
  refine zLawCall (μ := 140) (idx := 17) (o := 154) (w := 12) (as := [.inl (xs (i + 1)).toInt, .inl (xs (i + 2)).toInt, .inl (xs (i + 3)).toInt, .inl (xs (i + 4)).toInt, .inl (xs (i + 5)).toInt]) (As := [.int (xs (i + 1)), .int (xs (i + 2)), .int (xs (i + 3)), .int (xs (i + 4)), .int (xs (i + 5))]) (rest := [.int (Int32.ofInt z1)]) C zk_185 (by decide +kernel) (by decide) (by decide +kernel) (by decide +kernel) (by decide) (by decide +kernel) (show (5 : Nat) = zNp 140 by decide +kernel) ⟨by decide +kernel, by decide +kernel⟩ hP1 hS1 hcs hl.1 hs2 (by simp [zVm]) rfl (Nat.le_of_ble_eq_true rfl) (show decode code 227 = .ok (.invokevirtual 17, 3) by decide +kernel) (fun z2 M2 H2 locs2 hs3 hP2 hS2 => ?_)
  obtain ⟨e1, hM2⟩ := hs3
  subst e1
  refine lv_icmp_eq (tgt := 1045) hx hb (show decode code 230 = .ok (.if_icmp .eq 815, 3) by decide +kernel) (by decide) (fun _ => ?_) (fun q => absurd rfl q)
  exact kk M2 H2 locs2 hM2 hP2 hS2
set_option maxHeartbeats 4000000 in
theorem law_1 {Inv : Mm → Prop} (hs : zStep_1 Inv) (C : zLC p l s m meth c b L xs dC dI ad cA) {i : Nat} (hi : i + 6 ≤ L) (hM : Inv M) (hP : va_P (dC, dI) zCm (zWd ad cA M) H) (hS : va_S (fun q => s.heap.size ≤ q) s.heap H locs) (hl : lv_has ls 4 [(0, .ref b), (1, .ref (ad 0)), (2, .ref (ad 154)), (3, .int (nI i))]) (hcs : cells ≤ room_1.cells ∧ slots ≤ room_1.slots)
    (kk : ∀ (M1 : Mm) (H1 : Heap) (locs1 : List Loc), Inv M1 → va_P (dC, dI) zCm (zWd ad cA M1) H1 → va_S (fun q => s.heap.size ≤ q) s.heap H1 locs1 → W p l e room_1 s m #[Value.ref b] below meth c H1 locs1 cells slots Q (F0 m 1045 ls [])) :
    W p l e room_1 s m #[Value.ref b] below meth c H locs cells slots Q (F0 m 235 ls []) := by
  obtain ⟨hx, hb, hml, hown, hts, hX, hbl, hK, hinj, hnw, hst0, had, hL⟩ := id C
  have hbA : ¬ (fun q : Nat => s.heap.size ≤ q) b := Nat.not_le.mpr hbl
  have hs1 := hs M hM (xs (i + 1)).toInt (zR32_toInt _)
  refine lv_aload_n hx hb (show decode code 235 = .ok (.aload_n 1, 1) by decide +kernel) rfl (lv_at hl 1 rfl) ?_
  refine lv_aload_n hx hb (show decode code 236 = .ok (.aload_n 0, 1) by decide +kernel) rfl (lv_at hl 0 rfl) ?_
  refine lv_iload_n hx hb (show decode code 237 = .ok (.iload_n 3, 1) by decide +kernel) rfl (lv_at hl 3 rfl) ?_
  refine lv_iconst (v := 1) hx hb (show decode code 238 = .ok (.iconst 1, 1) by decide +kernel) (by decide) ?_
  refine lv_iadd hx hb (show decode code 239 = .ok (.iadd, 1) by decide +kernel) ?_
  rw [show nI i + 1 = nI (i + 1) from nI_add i 1]
  refine va_sld hx hb hX hbl hbA hS (vp_in_nI (by omega) (by omega)) (show decode code 240 = .ok (.iaload, 1) by decide +kernel) ?_
  rw [nI_clamp (show i + 1 < 2 ^ 31 by omega)]
  refine zLawCall (μ := 98) (idx := 18) (o := 0) (w := 11) (as := [.inl (xs (i + 1)).toInt]) (As := [.int (xs (i + 1))]) (rest := []) C zk_186 (by decide +kernel) (by decide) (by decide +kernel) (by decide +kernel) (by decide) (by decide +kernel) (show (1 : Nat) = zNp 98 by decide +kernel) ⟨by decide +kernel, by decide +kernel⟩ hP hS hcs hl.1 hs1 (by simp [zVm]) rfl (Nat.le_of_ble_eq_true rfl) (show decode code 241 = .ok (.invokevirtual 18, 3) by decide +kernel) (fun z1 M1 H1 locs1 hs2 hP1 hS1 => ?_)
  refine lv_aload_n hx hb (show decode code 244 = .ok (.aload_n 2, 1) by decide +kernel) rfl (lv_at hl 2 rfl) ?_
  refine lv_aload_n hx hb (show decode code 245 = .ok (.aload_n 0, 1) by decide +kernel) rfl (lv_at hl 0 rfl) ?_
  refine lv_iload_n hx hb (show decode code 246 = .ok (.iload_n 3, 1) by decide +kernel) rfl (lv_at hl 3 rfl) ?_
  refine lv_iconst (v := 1) hx hb (show decode code 247 = .ok (.iconst 1, 1) by decide +kernel) (by decide) ?_
  refine lv_iadd hx hb (show decode code 248 = .ok (.iadd, 1) by decide +kernel) ?_
  rw [show nI i + 1 = nI (i + 1) from nI_add i 1]
  refine va_sld hx hb hX hbl hbA hS1 (vp_in_nI (by omega) (by omega)) (show decode code 249 = .ok (.iaload, 1) by decide +kernel) ?_
  rw [nI_clamp (show i + 1 < 2 ^ 31 by omega)]
  refine zLawCall (μ := 141) (idx := 22) (o := 154) (w := 12) (as := [.inl (xs (i + 1)).toInt]) (As := [.int (xs (i + 1))]) (rest := [.int (Int32.ofInt z1)]) C zk_187 (by decide +kernel) (by decide) (by decide +kernel) (by decide +kernel) (by decide) (by decide +kernel) (show (1 : Nat) = zNp 141 by decide +kernel) ⟨by decide +kernel, by decide +kernel⟩ hP1 hS1 hcs hl.1 hs2 (by simp [zVm]) rfl (Nat.le_of_ble_eq_true rfl) (show decode code 250 = .ok (.invokevirtual 22, 3) by decide +kernel) (fun z2 M2 H2 locs2 hs3 hP2 hS2 => ?_)
  obtain ⟨e1, hM2⟩ := hs3
  subst e1
  refine lv_icmp_eq (tgt := 1045) hx hb (show decode code 253 = .ok (.if_icmp .eq 792, 3) by decide +kernel) (by decide) (fun _ => ?_) (fun q => absurd rfl q)
  exact kk M2 H2 locs2 hM2 hP2 hS2
set_option maxHeartbeats 4000000 in
theorem law_2 {Inv : Mm → Prop} (hs : zStep_2 Inv) (C : zLC p l s m meth c b L xs dC dI ad cA) {i : Nat} (hi : i + 6 ≤ L) (hM : Inv M) (hP : va_P (dC, dI) zCm (zWd ad cA M) H) (hS : va_S (fun q => s.heap.size ≤ q) s.heap H locs) (hl : lv_has ls 4 [(0, .ref b), (1, .ref (ad 0)), (2, .ref (ad 154)), (3, .int (nI i))]) (hcs : cells ≤ room_1.cells ∧ slots ≤ room_1.slots)
    (kk : ∀ (M1 : Mm) (H1 : Heap) (locs1 : List Loc), Inv M1 → va_P (dC, dI) zCm (zWd ad cA M1) H1 → va_S (fun q => s.heap.size ≤ q) s.heap H1 locs1 → W p l e room_1 s m #[Value.ref b] below meth c H1 locs1 cells slots Q (F0 m 1045 ls [])) :
    W p l e room_1 s m #[Value.ref b] below meth c H locs cells slots Q (F0 m 258 ls []) := by
  obtain ⟨hx, hb, hml, hown, hts, hX, hbl, hK, hinj, hnw, hst0, had, hL⟩ := id C
  have hbA : ¬ (fun q : Nat => s.heap.size ≤ q) b := Nat.not_le.mpr hbl
  have hs1 := hs M hM
  refine lv_aload_n hx hb (show decode code 258 = .ok (.aload_n 1, 1) by decide +kernel) rfl (lv_at hl 1 rfl) ?_
  refine zLawCall (μ := 99) (idx := 23) (o := 0) (w := 11) (as := []) (As := []) (rest := []) C zk_188 (by decide +kernel) (by decide) (by decide +kernel) (by decide +kernel) (by decide) (by decide +kernel) (show (0 : Nat) = zNp 99 by decide +kernel) ⟨by decide +kernel, by decide +kernel⟩ hP hS hcs hl.1 hs1 (by simp [zVm]) rfl (Nat.le_of_ble_eq_true rfl) (show decode code 259 = .ok (.invokevirtual 23, 3) by decide +kernel) (fun z1 M1 H1 locs1 hs2 hP1 hS1 => ?_)
  refine lv_aload_n hx hb (show decode code 262 = .ok (.aload_n 2, 1) by decide +kernel) rfl (lv_at hl 2 rfl) ?_
  refine zLawCall (μ := 169) (idx := 27) (o := 154) (w := 12) (as := []) (As := []) (rest := [.int (Int32.ofInt z1)]) C zk_189 (by decide +kernel) (by decide) (by decide +kernel) (by decide +kernel) (by decide) (by decide +kernel) (show (0 : Nat) = zNp 169 by decide +kernel) ⟨by decide +kernel, by decide +kernel⟩ hP1 hS1 hcs hl.1 hs2 (by simp [zVm]) rfl (Nat.le_of_ble_eq_true rfl) (show decode code 263 = .ok (.invokevirtual 27, 3) by decide +kernel) (fun z2 M2 H2 locs2 hs3 hP2 hS2 => ?_)
  obtain ⟨e1, hM2⟩ := hs3
  subst e1
  refine lv_icmp_eq (tgt := 1045) hx hb (show decode code 266 = .ok (.if_icmp .eq 779, 3) by decide +kernel) (by decide) (fun _ => ?_) (fun q => absurd rfl q)
  exact kk M2 H2 locs2 hM2 hP2 hS2
set_option maxHeartbeats 4000000 in
theorem law_3 {Inv : Mm → Prop} (hs : zStep_3 Inv) (C : zLC p l s m meth c b L xs dC dI ad cA) {i : Nat} (hi : i + 6 ≤ L) (hM : Inv M) (hP : va_P (dC, dI) zCm (zWd ad cA M) H) (hS : va_S (fun q => s.heap.size ≤ q) s.heap H locs) (hl : lv_has ls 4 [(0, .ref b), (1, .ref (ad 0)), (2, .ref (ad 154)), (3, .int (nI i))]) (hcs : cells ≤ room_1.cells ∧ slots ≤ room_1.slots)
    (kk : ∀ (M1 : Mm) (H1 : Heap) (locs1 : List Loc), Inv M1 → va_P (dC, dI) zCm (zWd ad cA M1) H1 → va_S (fun q => s.heap.size ≤ q) s.heap H1 locs1 → W p l e room_1 s m #[Value.ref b] below meth c H1 locs1 cells slots Q (F0 m 1045 ls [])) :
    W p l e room_1 s m #[Value.ref b] below meth c H locs cells slots Q (F0 m 271 ls []) := by
  obtain ⟨hx, hb, hml, hown, hts, hX, hbl, hK, hinj, hnw, hst0, had, hL⟩ := id C
  have hbA : ¬ (fun q : Nat => s.heap.size ≤ q) b := Nat.not_le.mpr hbl
  have hs1 := hs M hM
  refine lv_aload_n hx hb (show decode code 271 = .ok (.aload_n 1, 1) by decide +kernel) rfl (lv_at hl 1 rfl) ?_
  refine zLawCall (μ := 100) (idx := 28) (o := 0) (w := 11) (as := []) (As := []) (rest := []) C zk_190 (by decide +kernel) (by decide) (by decide +kernel) (by decide +kernel) (by decide) (by decide +kernel) (show (0 : Nat) = zNp 100 by decide +kernel) ⟨by decide +kernel, by decide +kernel⟩ hP hS hcs hl.1 hs1 (by simp [zVm]) rfl (Nat.le_of_ble_eq_true rfl) (show decode code 272 = .ok (.invokevirtual 28, 3) by decide +kernel) (fun z1 M1 H1 locs1 hs2 hP1 hS1 => ?_)
  refine lv_aload_n hx hb (show decode code 275 = .ok (.aload_n 2, 1) by decide +kernel) rfl (lv_at hl 2 rfl) ?_
  refine zLawCall (μ := 182) (idx := 31) (o := 154) (w := 12) (as := []) (As := []) (rest := [.int (Int32.ofInt z1)]) C zk_191 (by decide +kernel) (by decide) (by decide +kernel) (by decide +kernel) (by decide) (by decide +kernel) (show (0 : Nat) = zNp 182 by decide +kernel) ⟨by decide +kernel, by decide +kernel⟩ hP1 hS1 hcs hl.1 hs2 (by simp [zVm]) rfl (Nat.le_of_ble_eq_true rfl) (show decode code 276 = .ok (.invokevirtual 31, 3) by decide +kernel) (fun z2 M2 H2 locs2 hs3 hP2 hS2 => ?_)
  obtain ⟨e1, hM2⟩ := hs3
  subst e1
  refine lv_icmp_eq (tgt := 1045) hx hb (show decode code 279 = .ok (.if_icmp .eq 766, 3) by decide +kernel) (by decide) (fun _ => ?_) (fun q => absurd rfl q)
  exact kk M2 H2 locs2 hM2 hP2 hS2
set_option maxHeartbeats 4000000 in
theorem law_4 {Inv : Mm → Prop} (hs : zStep_4 Inv) (C : zLC p l s m meth c b L xs dC dI ad cA) {i : Nat} (hi : i + 6 ≤ L) (hM : Inv M) (hP : va_P (dC, dI) zCm (zWd ad cA M) H) (hS : va_S (fun q => s.heap.size ≤ q) s.heap H locs) (hl : lv_has ls 4 [(0, .ref b), (1, .ref (ad 0)), (2, .ref (ad 154)), (3, .int (nI i))]) (hcs : cells ≤ room_1.cells ∧ slots ≤ room_1.slots)
    (kk : ∀ (M1 : Mm) (H1 : Heap) (locs1 : List Loc), Inv M1 → va_P (dC, dI) zCm (zWd ad cA M1) H1 → va_S (fun q => s.heap.size ≤ q) s.heap H1 locs1 → W p l e room_1 s m #[Value.ref b] below meth c H1 locs1 cells slots Q (F0 m 1045 ls [])) :
    W p l e room_1 s m #[Value.ref b] below meth c H locs cells slots Q (F0 m 284 ls []) := by
  obtain ⟨hx, hb, hml, hown, hts, hX, hbl, hK, hinj, hnw, hst0, had, hL⟩ := id C
  have hbA : ¬ (fun q : Nat => s.heap.size ≤ q) b := Nat.not_le.mpr hbl
  have hs1 := hs M hM
  refine lv_aload_n hx hb (show decode code 284 = .ok (.aload_n 1, 1) by decide +kernel) rfl (lv_at hl 1 rfl) ?_
  refine zLawCall (μ := 101) (idx := 32) (o := 0) (w := 11) (as := []) (As := []) (rest := []) C zk_192 (by decide +kernel) (by decide) (by decide +kernel) (by decide +kernel) (by decide) (by decide +kernel) (show (0 : Nat) = zNp 101 by decide +kernel) ⟨by decide +kernel, by decide +kernel⟩ hP hS hcs hl.1 hs1 (by simp [zVm]) rfl (Nat.le_of_ble_eq_true rfl) (show decode code 285 = .ok (.invokevirtual 32, 3) by decide +kernel) (fun z1 M1 H1 locs1 hs2 hP1 hS1 => ?_)
  refine lv_aload_n hx hb (show decode code 288 = .ok (.aload_n 2, 1) by decide +kernel) rfl (lv_at hl 2 rfl) ?_
  refine zLawCall (μ := 193) (idx := 35) (o := 154) (w := 12) (as := []) (As := []) (rest := [.int (Int32.ofInt z1)]) C zk_193 (by decide +kernel) (by decide) (by decide +kernel) (by decide +kernel) (by decide) (by decide +kernel) (show (0 : Nat) = zNp 193 by decide +kernel) ⟨by decide +kernel, by decide +kernel⟩ hP1 hS1 hcs hl.1 hs2 (by simp [zVm]) rfl (Nat.le_of_ble_eq_true rfl) (show decode code 289 = .ok (.invokevirtual 35, 3) by decide +kernel) (fun z2 M2 H2 locs2 hs3 hP2 hS2 => ?_)
  obtain ⟨e1, hM2⟩ := hs3
  subst e1
  refine lv_icmp_eq (tgt := 1045) hx hb (show decode code 292 = .ok (.if_icmp .eq 753, 3) by decide +kernel) (by decide) (fun _ => ?_) (fun q => absurd rfl q)
  exact kk M2 H2 locs2 hM2 hP2 hS2
set_option maxHeartbeats 4000000 in
theorem law_5 {Inv : Mm → Prop} (hs : zStep_5 Inv) (C : zLC p l s m meth c b L xs dC dI ad cA) {i : Nat} (hi : i + 6 ≤ L) (hM : Inv M) (hP : va_P (dC, dI) zCm (zWd ad cA M) H) (hS : va_S (fun q => s.heap.size ≤ q) s.heap H locs) (hl : lv_has ls 4 [(0, .ref b), (1, .ref (ad 0)), (2, .ref (ad 154)), (3, .int (nI i))]) (hcs : cells ≤ room_1.cells ∧ slots ≤ room_1.slots)
    (kk : ∀ (M1 : Mm) (H1 : Heap) (locs1 : List Loc), Inv M1 → va_P (dC, dI) zCm (zWd ad cA M1) H1 → va_S (fun q => s.heap.size ≤ q) s.heap H1 locs1 → W p l e room_1 s m #[Value.ref b] below meth c H1 locs1 cells slots Q (F0 m 1045 ls [])) :
    W p l e room_1 s m #[Value.ref b] below meth c H locs cells slots Q (F0 m 297 ls []) := by
  obtain ⟨hx, hb, hml, hown, hts, hX, hbl, hK, hinj, hnw, hst0, had, hL⟩ := id C
  have hbA : ¬ (fun q : Nat => s.heap.size ≤ q) b := Nat.not_le.mpr hbl
  have hs1 := hs M hM (xs (i + 1)).toInt (zR32_toInt _)
  refine lv_aload_n hx hb (show decode code 297 = .ok (.aload_n 1, 1) by decide +kernel) rfl (lv_at hl 1 rfl) ?_
  refine lv_aload_n hx hb (show decode code 298 = .ok (.aload_n 0, 1) by decide +kernel) rfl (lv_at hl 0 rfl) ?_
  refine lv_iload_n hx hb (show decode code 299 = .ok (.iload_n 3, 1) by decide +kernel) rfl (lv_at hl 3 rfl) ?_
  refine lv_iconst (v := 1) hx hb (show decode code 300 = .ok (.iconst 1, 1) by decide +kernel) (by decide) ?_
  refine lv_iadd hx hb (show decode code 301 = .ok (.iadd, 1) by decide +kernel) ?_
  rw [show nI i + 1 = nI (i + 1) from nI_add i 1]
  refine va_sld hx hb hX hbl hbA hS (vp_in_nI (by omega) (by omega)) (show decode code 302 = .ok (.iaload, 1) by decide +kernel) ?_
  rw [nI_clamp (show i + 1 < 2 ^ 31 by omega)]
  refine zLawCall (μ := 102) (idx := 36) (o := 0) (w := 11) (as := [.inl (xs (i + 1)).toInt]) (As := [.int (xs (i + 1))]) (rest := []) C zk_194 (by decide +kernel) (by decide) (by decide +kernel) (by decide +kernel) (by decide) (by decide +kernel) (show (1 : Nat) = zNp 102 by decide +kernel) ⟨by decide +kernel, by decide +kernel⟩ hP hS hcs hl.1 hs1 (by simp [zVm]) rfl (Nat.le_of_ble_eq_true rfl) (show decode code 303 = .ok (.invokevirtual 36, 3) by decide +kernel) (fun z1 M1 H1 locs1 hs2 hP1 hS1 => ?_)
  refine lv_aload_n hx hb (show decode code 306 = .ok (.aload_n 2, 1) by decide +kernel) rfl (lv_at hl 2 rfl) ?_
  refine lv_aload_n hx hb (show decode code 307 = .ok (.aload_n 0, 1) by decide +kernel) rfl (lv_at hl 0 rfl) ?_
  refine lv_iload_n hx hb (show decode code 308 = .ok (.iload_n 3, 1) by decide +kernel) rfl (lv_at hl 3 rfl) ?_
  refine lv_iconst (v := 1) hx hb (show decode code 309 = .ok (.iconst 1, 1) by decide +kernel) (by decide) ?_
  refine lv_iadd hx hb (show decode code 310 = .ok (.iadd, 1) by decide +kernel) ?_
  rw [show nI i + 1 = nI (i + 1) from nI_add i 1]
  refine va_sld hx hb hX hbl hbA hS1 (vp_in_nI (by omega) (by omega)) (show decode code 311 = .ok (.iaload, 1) by decide +kernel) ?_
  rw [nI_clamp (show i + 1 < 2 ^ 31 by omega)]
  refine zLawCall (μ := 195) (idx := 40) (o := 154) (w := 12) (as := [.inl (xs (i + 1)).toInt]) (As := [.int (xs (i + 1))]) (rest := [.int (Int32.ofInt z1)]) C zk_195 (by decide +kernel) (by decide) (by decide +kernel) (by decide +kernel) (by decide) (by decide +kernel) (show (1 : Nat) = zNp 195 by decide +kernel) ⟨by decide +kernel, by decide +kernel⟩ hP1 hS1 hcs hl.1 hs2 (by simp [zVm]) rfl (Nat.le_of_ble_eq_true rfl) (show decode code 312 = .ok (.invokevirtual 40, 3) by decide +kernel) (fun z2 M2 H2 locs2 hs3 hP2 hS2 => ?_)
  obtain ⟨e1, hM2⟩ := hs3
  subst e1
  refine lv_icmp_eq (tgt := 1045) hx hb (show decode code 315 = .ok (.if_icmp .eq 730, 3) by decide +kernel) (by decide) (fun _ => ?_) (fun q => absurd rfl q)
  exact kk M2 H2 locs2 hM2 hP2 hS2
set_option maxHeartbeats 4000000 in
theorem law_6 {Inv : Mm → Prop} (hs : zStep_6 Inv) (C : zLC p l s m meth c b L xs dC dI ad cA) {i : Nat} (hi : i + 6 ≤ L) (hM : Inv M) (hP : va_P (dC, dI) zCm (zWd ad cA M) H) (hS : va_S (fun q => s.heap.size ≤ q) s.heap H locs) (hl : lv_has ls 4 [(0, .ref b), (1, .ref (ad 0)), (2, .ref (ad 154)), (3, .int (nI i))]) (hcs : cells ≤ room_1.cells ∧ slots ≤ room_1.slots)
    (kk : ∀ (M1 : Mm) (H1 : Heap) (locs1 : List Loc), Inv M1 → va_P (dC, dI) zCm (zWd ad cA M1) H1 → va_S (fun q => s.heap.size ≤ q) s.heap H1 locs1 → W p l e room_1 s m #[Value.ref b] below meth c H1 locs1 cells slots Q (F0 m 1045 ls [])) :
    W p l e room_1 s m #[Value.ref b] below meth c H locs cells slots Q (F0 m 320 ls []) := by
  obtain ⟨hx, hb, hml, hown, hts, hX, hbl, hK, hinj, hnw, hst0, had, hL⟩ := id C
  have hbA : ¬ (fun q : Nat => s.heap.size ≤ q) b := Nat.not_le.mpr hbl
  have hs1 := hs M hM (xs (i + 1)).toInt (zR32_toInt _)
  refine lv_aload_n hx hb (show decode code 320 = .ok (.aload_n 1, 1) by decide +kernel) rfl (lv_at hl 1 rfl) ?_
  refine lv_aload_n hx hb (show decode code 321 = .ok (.aload_n 0, 1) by decide +kernel) rfl (lv_at hl 0 rfl) ?_
  refine lv_iload_n hx hb (show decode code 322 = .ok (.iload_n 3, 1) by decide +kernel) rfl (lv_at hl 3 rfl) ?_
  refine lv_iconst (v := 1) hx hb (show decode code 323 = .ok (.iconst 1, 1) by decide +kernel) (by decide) ?_
  refine lv_iadd hx hb (show decode code 324 = .ok (.iadd, 1) by decide +kernel) ?_
  rw [show nI i + 1 = nI (i + 1) from nI_add i 1]
  refine va_sld hx hb hX hbl hbA hS (vp_in_nI (by omega) (by omega)) (show decode code 325 = .ok (.iaload, 1) by decide +kernel) ?_
  rw [nI_clamp (show i + 1 < 2 ^ 31 by omega)]
  refine zLawCall (μ := 103) (idx := 41) (o := 0) (w := 11) (as := [.inl (xs (i + 1)).toInt]) (As := [.int (xs (i + 1))]) (rest := []) C zk_196 (by decide +kernel) (by decide) (by decide +kernel) (by decide +kernel) (by decide) (by decide +kernel) (show (1 : Nat) = zNp 103 by decide +kernel) ⟨by decide +kernel, by decide +kernel⟩ hP hS hcs hl.1 hs1 (by simp [zVm]) rfl (Nat.le_of_ble_eq_true rfl) (show decode code 326 = .ok (.invokevirtual 41, 3) by decide +kernel) (fun z1 M1 H1 locs1 hs2 hP1 hS1 => ?_)
  refine lv_aload_n hx hb (show decode code 329 = .ok (.aload_n 2, 1) by decide +kernel) rfl (lv_at hl 2 rfl) ?_
  refine lv_aload_n hx hb (show decode code 330 = .ok (.aload_n 0, 1) by decide +kernel) rfl (lv_at hl 0 rfl) ?_
  refine lv_iload_n hx hb (show decode code 331 = .ok (.iload_n 3, 1) by decide +kernel) rfl (lv_at hl 3 rfl) ?_
  refine lv_iconst (v := 1) hx hb (show decode code 332 = .ok (.iconst 1, 1) by decide +kernel) (by decide) ?_
  refine lv_iadd hx hb (show decode code 333 = .ok (.iadd, 1) by decide +kernel) ?_
  rw [show nI i + 1 = nI (i + 1) from nI_add i 1]
  refine va_sld hx hb hX hbl hbA hS1 (vp_in_nI (by omega) (by omega)) (show decode code 334 = .ok (.iaload, 1) by decide +kernel) ?_
  rw [nI_clamp (show i + 1 < 2 ^ 31 by omega)]
  refine zLawCall (μ := 245) (idx := 44) (o := 154) (w := 12) (as := [.inl (xs (i + 1)).toInt]) (As := [.int (xs (i + 1))]) (rest := [.int (Int32.ofInt z1)]) C zk_197 (by decide +kernel) (by decide) (by decide +kernel) (by decide +kernel) (by decide) (by decide +kernel) (show (1 : Nat) = zNp 245 by decide +kernel) ⟨by decide +kernel, by decide +kernel⟩ hP1 hS1 hcs hl.1 hs2 (by simp [zVm]) rfl (Nat.le_of_ble_eq_true rfl) (show decode code 335 = .ok (.invokevirtual 44, 3) by decide +kernel) (fun z2 M2 H2 locs2 hs3 hP2 hS2 => ?_)
  obtain ⟨e1, hM2⟩ := hs3
  subst e1
  refine lv_icmp_eq (tgt := 1045) hx hb (show decode code 338 = .ok (.if_icmp .eq 707, 3) by decide +kernel) (by decide) (fun _ => ?_) (fun q => absurd rfl q)
  exact kk M2 H2 locs2 hM2 hP2 hS2
set_option maxHeartbeats 4000000 in
theorem law_7 {Inv : Mm → Prop} (hs : zStep_7 Inv) (C : zLC p l s m meth c b L xs dC dI ad cA) {i : Nat} (hi : i + 6 ≤ L) (hM : Inv M) (hP : va_P (dC, dI) zCm (zWd ad cA M) H) (hS : va_S (fun q => s.heap.size ≤ q) s.heap H locs) (hl : lv_has ls 4 [(0, .ref b), (1, .ref (ad 0)), (2, .ref (ad 154)), (3, .int (nI i))]) (hcs : cells ≤ room_1.cells ∧ slots ≤ room_1.slots)
    (kk : ∀ (M1 : Mm) (H1 : Heap) (locs1 : List Loc), Inv M1 → va_P (dC, dI) zCm (zWd ad cA M1) H1 → va_S (fun q => s.heap.size ≤ q) s.heap H1 locs1 → W p l e room_1 s m #[Value.ref b] below meth c H1 locs1 cells slots Q (F0 m 1045 ls [])) :
    W p l e room_1 s m #[Value.ref b] below meth c H locs cells slots Q (F0 m 343 ls []) := by
  obtain ⟨hx, hb, hml, hown, hts, hX, hbl, hK, hinj, hnw, hst0, had, hL⟩ := id C
  have hbA : ¬ (fun q : Nat => s.heap.size ≤ q) b := Nat.not_le.mpr hbl
  have hs1 := hs M hM (xs (i + 1)).toInt (zR32_toInt _)
  refine lv_aload_n hx hb (show decode code 343 = .ok (.aload_n 1, 1) by decide +kernel) rfl (lv_at hl 1 rfl) ?_
  refine lv_aload_n hx hb (show decode code 344 = .ok (.aload_n 0, 1) by decide +kernel) rfl (lv_at hl 0 rfl) ?_
  refine lv_iload_n hx hb (show decode code 345 = .ok (.iload_n 3, 1) by decide +kernel) rfl (lv_at hl 3 rfl) ?_
  refine lv_iconst (v := 1) hx hb (show decode code 346 = .ok (.iconst 1, 1) by decide +kernel) (by decide) ?_
  refine lv_iadd hx hb (show decode code 347 = .ok (.iadd, 1) by decide +kernel) ?_
  rw [show nI i + 1 = nI (i + 1) from nI_add i 1]
  refine va_sld hx hb hX hbl hbA hS (vp_in_nI (by omega) (by omega)) (show decode code 348 = .ok (.iaload, 1) by decide +kernel) ?_
  rw [nI_clamp (show i + 1 < 2 ^ 31 by omega)]
  refine zLawCall (μ := 104) (idx := 45) (o := 0) (w := 11) (as := [.inl (xs (i + 1)).toInt]) (As := [.int (xs (i + 1))]) (rest := []) C zk_198 (by decide +kernel) (by decide) (by decide +kernel) (by decide +kernel) (by decide) (by decide +kernel) (show (1 : Nat) = zNp 104 by decide +kernel) ⟨by decide +kernel, by decide +kernel⟩ hP hS hcs hl.1 hs1 (by simp [zVm]) rfl (Nat.le_of_ble_eq_true rfl) (show decode code 349 = .ok (.invokevirtual 45, 3) by decide +kernel) (fun z1 M1 H1 locs1 hs2 hP1 hS1 => ?_)
  refine lv_aload_n hx hb (show decode code 352 = .ok (.aload_n 2, 1) by decide +kernel) rfl (lv_at hl 2 rfl) ?_
  refine lv_aload_n hx hb (show decode code 353 = .ok (.aload_n 0, 1) by decide +kernel) rfl (lv_at hl 0 rfl) ?_
  refine lv_iload_n hx hb (show decode code 354 = .ok (.iload_n 3, 1) by decide +kernel) rfl (lv_at hl 3 rfl) ?_
  refine lv_iconst (v := 1) hx hb (show decode code 355 = .ok (.iconst 1, 1) by decide +kernel) (by decide) ?_
  refine lv_iadd hx hb (show decode code 356 = .ok (.iadd, 1) by decide +kernel) ?_
  rw [show nI i + 1 = nI (i + 1) from nI_add i 1]
  refine va_sld hx hb hX hbl hbA hS1 (vp_in_nI (by omega) (by omega)) (show decode code 357 = .ok (.iaload, 1) by decide +kernel) ?_
  rw [nI_clamp (show i + 1 < 2 ^ 31 by omega)]
  refine zLawCall (μ := 246) (idx := 48) (o := 154) (w := 12) (as := [.inl (xs (i + 1)).toInt]) (As := [.int (xs (i + 1))]) (rest := [.int (Int32.ofInt z1)]) C zk_199 (by decide +kernel) (by decide) (by decide +kernel) (by decide +kernel) (by decide) (by decide +kernel) (show (1 : Nat) = zNp 246 by decide +kernel) ⟨by decide +kernel, by decide +kernel⟩ hP1 hS1 hcs hl.1 hs2 (by simp [zVm]) rfl (Nat.le_of_ble_eq_true rfl) (show decode code 358 = .ok (.invokevirtual 48, 3) by decide +kernel) (fun z2 M2 H2 locs2 hs3 hP2 hS2 => ?_)
  obtain ⟨e1, hM2⟩ := hs3
  subst e1
  refine lv_icmp_eq (tgt := 1045) hx hb (show decode code 361 = .ok (.if_icmp .eq 684, 3) by decide +kernel) (by decide) (fun _ => ?_) (fun q => absurd rfl q)
  exact kk M2 H2 locs2 hM2 hP2 hS2
set_option maxHeartbeats 4000000 in
theorem law_8 {Inv : Mm → Prop} (hs : zStep_8 Inv) (C : zLC p l s m meth c b L xs dC dI ad cA) {i : Nat} (hi : i + 6 ≤ L) (hM : Inv M) (hP : va_P (dC, dI) zCm (zWd ad cA M) H) (hS : va_S (fun q => s.heap.size ≤ q) s.heap H locs) (hl : lv_has ls 4 [(0, .ref b), (1, .ref (ad 0)), (2, .ref (ad 154)), (3, .int (nI i))]) (hcs : cells ≤ room_1.cells ∧ slots ≤ room_1.slots)
    (kk : ∀ (M1 : Mm) (H1 : Heap) (locs1 : List Loc), Inv M1 → va_P (dC, dI) zCm (zWd ad cA M1) H1 → va_S (fun q => s.heap.size ≤ q) s.heap H1 locs1 → W p l e room_1 s m #[Value.ref b] below meth c H1 locs1 cells slots Q (F0 m 1045 ls [])) :
    W p l e room_1 s m #[Value.ref b] below meth c H locs cells slots Q (F0 m 366 ls []) := by
  obtain ⟨hx, hb, hml, hown, hts, hX, hbl, hK, hinj, hnw, hst0, had, hL⟩ := id C
  have hbA : ¬ (fun q : Nat => s.heap.size ≤ q) b := Nat.not_le.mpr hbl
  have hs1 := hs M hM (xs (i + 1)).toInt (zR32_toInt _)
  refine lv_aload_n hx hb (show decode code 366 = .ok (.aload_n 1, 1) by decide +kernel) rfl (lv_at hl 1 rfl) ?_
  refine lv_aload_n hx hb (show decode code 367 = .ok (.aload_n 0, 1) by decide +kernel) rfl (lv_at hl 0 rfl) ?_
  refine lv_iload_n hx hb (show decode code 368 = .ok (.iload_n 3, 1) by decide +kernel) rfl (lv_at hl 3 rfl) ?_
  refine lv_iconst (v := 1) hx hb (show decode code 369 = .ok (.iconst 1, 1) by decide +kernel) (by decide) ?_
  refine lv_iadd hx hb (show decode code 370 = .ok (.iadd, 1) by decide +kernel) ?_
  rw [show nI i + 1 = nI (i + 1) from nI_add i 1]
  refine va_sld hx hb hX hbl hbA hS (vp_in_nI (by omega) (by omega)) (show decode code 371 = .ok (.iaload, 1) by decide +kernel) ?_
  rw [nI_clamp (show i + 1 < 2 ^ 31 by omega)]
  refine zLawCall (μ := 105) (idx := 49) (o := 0) (w := 11) (as := [.inl (xs (i + 1)).toInt]) (As := [.int (xs (i + 1))]) (rest := []) C zk_200 (by decide +kernel) (by decide) (by decide +kernel) (by decide +kernel) (by decide) (by decide +kernel) (show (1 : Nat) = zNp 105 by decide +kernel) ⟨by decide +kernel, by decide +kernel⟩ hP hS hcs hl.1 hs1 (by simp [zVm]) rfl (Nat.le_of_ble_eq_true rfl) (show decode code 372 = .ok (.invokevirtual 49, 3) by decide +kernel) (fun z1 M1 H1 locs1 hs2 hP1 hS1 => ?_)
  refine lv_aload_n hx hb (show decode code 375 = .ok (.aload_n 2, 1) by decide +kernel) rfl (lv_at hl 2 rfl) ?_
  refine lv_aload_n hx hb (show decode code 376 = .ok (.aload_n 0, 1) by decide +kernel) rfl (lv_at hl 0 rfl) ?_
  refine lv_iload_n hx hb (show decode code 377 = .ok (.iload_n 3, 1) by decide +kernel) rfl (lv_at hl 3 rfl) ?_
  refine lv_iconst (v := 1) hx hb (show decode code 378 = .ok (.iconst 1, 1) by decide +kernel) (by decide) ?_
  refine lv_iadd hx hb (show decode code 379 = .ok (.iadd, 1) by decide +kernel) ?_
  rw [show nI i + 1 = nI (i + 1) from nI_add i 1]
  refine va_sld hx hb hX hbl hbA hS1 (vp_in_nI (by omega) (by omega)) (show decode code 380 = .ok (.iaload, 1) by decide +kernel) ?_
  rw [nI_clamp (show i + 1 < 2 ^ 31 by omega)]
  refine zLawCall (μ := 254) (idx := 52) (o := 154) (w := 12) (as := [.inl (xs (i + 1)).toInt]) (As := [.int (xs (i + 1))]) (rest := [.int (Int32.ofInt z1)]) C zk_201 (by decide +kernel) (by decide) (by decide +kernel) (by decide +kernel) (by decide) (by decide +kernel) (show (1 : Nat) = zNp 254 by decide +kernel) ⟨by decide +kernel, by decide +kernel⟩ hP1 hS1 hcs hl.1 hs2 (by simp [zVm]) rfl (Nat.le_of_ble_eq_true rfl) (show decode code 381 = .ok (.invokevirtual 52, 3) by decide +kernel) (fun z2 M2 H2 locs2 hs3 hP2 hS2 => ?_)
  obtain ⟨e1, hM2⟩ := hs3
  subst e1
  refine lv_icmp_eq (tgt := 1045) hx hb (show decode code 384 = .ok (.if_icmp .eq 661, 3) by decide +kernel) (by decide) (fun _ => ?_) (fun q => absurd rfl q)
  exact kk M2 H2 locs2 hM2 hP2 hS2
set_option maxHeartbeats 4000000 in
theorem law_9 {Inv : Mm → Prop} (hs : zStep_9 Inv) (C : zLC p l s m meth c b L xs dC dI ad cA) {i : Nat} (hi : i + 6 ≤ L) (hM : Inv M) (hP : va_P (dC, dI) zCm (zWd ad cA M) H) (hS : va_S (fun q => s.heap.size ≤ q) s.heap H locs) (hl : lv_has ls 4 [(0, .ref b), (1, .ref (ad 0)), (2, .ref (ad 154)), (3, .int (nI i))]) (hcs : cells ≤ room_1.cells ∧ slots ≤ room_1.slots)
    (kk : ∀ (M1 : Mm) (H1 : Heap) (locs1 : List Loc), Inv M1 → va_P (dC, dI) zCm (zWd ad cA M1) H1 → va_S (fun q => s.heap.size ≤ q) s.heap H1 locs1 → W p l e room_1 s m #[Value.ref b] below meth c H1 locs1 cells slots Q (F0 m 1045 ls [])) :
    W p l e room_1 s m #[Value.ref b] below meth c H locs cells slots Q (F0 m 389 ls []) := by
  obtain ⟨hx, hb, hml, hown, hts, hX, hbl, hK, hinj, hnw, hst0, had, hL⟩ := id C
  have hbA : ¬ (fun q : Nat => s.heap.size ≤ q) b := Nat.not_le.mpr hbl
  have hs1 := hs M hM (xs (i + 1)).toInt (zR32_toInt _) (xs (i + 2)).toInt (zR32_toInt _) (xs (i + 3)).toInt (zR32_toInt _)
  refine lv_aload_n hx hb (show decode code 389 = .ok (.aload_n 1, 1) by decide +kernel) rfl (lv_at hl 1 rfl) ?_
  refine lv_aload_n hx hb (show decode code 390 = .ok (.aload_n 0, 1) by decide +kernel) rfl (lv_at hl 0 rfl) ?_
  refine lv_iload_n hx hb (show decode code 391 = .ok (.iload_n 3, 1) by decide +kernel) rfl (lv_at hl 3 rfl) ?_
  refine lv_iconst (v := 1) hx hb (show decode code 392 = .ok (.iconst 1, 1) by decide +kernel) (by decide) ?_
  refine lv_iadd hx hb (show decode code 393 = .ok (.iadd, 1) by decide +kernel) ?_
  rw [show nI i + 1 = nI (i + 1) from nI_add i 1]
  refine va_sld hx hb hX hbl hbA hS (vp_in_nI (by omega) (by omega)) (show decode code 394 = .ok (.iaload, 1) by decide +kernel) ?_
  rw [nI_clamp (show i + 1 < 2 ^ 31 by omega)]
  refine lv_aload_n hx hb (show decode code 395 = .ok (.aload_n 0, 1) by decide +kernel) rfl (lv_at hl 0 rfl) ?_
  refine lv_iload_n hx hb (show decode code 396 = .ok (.iload_n 3, 1) by decide +kernel) rfl (lv_at hl 3 rfl) ?_
  refine lv_iconst (v := 2) hx hb (show decode code 397 = .ok (.iconst 2, 1) by decide +kernel) (by decide) ?_
  refine lv_iadd hx hb (show decode code 398 = .ok (.iadd, 1) by decide +kernel) ?_
  rw [show nI i + 2 = nI (i + 2) from nI_add i 2]
  refine va_sld hx hb hX hbl hbA hS (vp_in_nI (by omega) (by omega)) (show decode code 399 = .ok (.iaload, 1) by decide +kernel) ?_
  rw [nI_clamp (show i + 2 < 2 ^ 31 by omega)]
  refine lv_aload_n hx hb (show decode code 400 = .ok (.aload_n 0, 1) by decide +kernel) rfl (lv_at hl 0 rfl) ?_
  refine lv_iload_n hx hb (show decode code 401 = .ok (.iload_n 3, 1) by decide +kernel) rfl (lv_at hl 3 rfl) ?_
  refine lv_iconst (v := 3) hx hb (show decode code 402 = .ok (.iconst 3, 1) by decide +kernel) (by decide) ?_
  refine lv_iadd hx hb (show decode code 403 = .ok (.iadd, 1) by decide +kernel) ?_
  rw [show nI i + 3 = nI (i + 3) from nI_add i 3]
  refine va_sld hx hb hX hbl hbA hS (vp_in_nI (by omega) (by omega)) (show decode code 404 = .ok (.iaload, 1) by decide +kernel) ?_
  rw [nI_clamp (show i + 3 < 2 ^ 31 by omega)]
  refine zLawCall (μ := 106) (idx := 53) (o := 0) (w := 11) (as := [.inl (xs (i + 1)).toInt, .inl (xs (i + 2)).toInt, .inl (xs (i + 3)).toInt]) (As := [.int (xs (i + 1)), .int (xs (i + 2)), .int (xs (i + 3))]) (rest := []) C zk_202 (by decide +kernel) (by decide) (by decide +kernel) (by decide +kernel) (by decide) (by decide +kernel) (show (3 : Nat) = zNp 106 by decide +kernel) ⟨by decide +kernel, by decide +kernel⟩ hP hS hcs hl.1 hs1 (by simp [zVm]) rfl (Nat.le_of_ble_eq_true rfl) (show decode code 405 = .ok (.invokevirtual 53, 3) by decide +kernel) (fun z1 M1 H1 locs1 hs2 hP1 hS1 => ?_)
  refine lv_aload_n hx hb (show decode code 408 = .ok (.aload_n 2, 1) by decide +kernel) rfl (lv_at hl 2 rfl) ?_
  refine lv_aload_n hx hb (show decode code 409 = .ok (.aload_n 0, 1) by decide +kernel) rfl (lv_at hl 0 rfl) ?_
  refine lv_iload_n hx hb (show decode code 410 = .ok (.iload_n 3, 1) by decide +kernel) rfl (lv_at hl 3 rfl) ?_
  refine lv_iconst (v := 1) hx hb (show decode code 411 = .ok (.iconst 1, 1) by decide +kernel) (by decide) ?_
  refine lv_iadd hx hb (show decode code 412 = .ok (.iadd, 1) by decide +kernel) ?_
  rw [show nI i + 1 = nI (i + 1) from nI_add i 1]
  refine va_sld hx hb hX hbl hbA hS1 (vp_in_nI (by omega) (by omega)) (show decode code 413 = .ok (.iaload, 1) by decide +kernel) ?_
  rw [nI_clamp (show i + 1 < 2 ^ 31 by omega)]
  refine lv_aload_n hx hb (show decode code 414 = .ok (.aload_n 0, 1) by decide +kernel) rfl (lv_at hl 0 rfl) ?_
  refine lv_iload_n hx hb (show decode code 415 = .ok (.iload_n 3, 1) by decide +kernel) rfl (lv_at hl 3 rfl) ?_
  refine lv_iconst (v := 2) hx hb (show decode code 416 = .ok (.iconst 2, 1) by decide +kernel) (by decide) ?_
  refine lv_iadd hx hb (show decode code 417 = .ok (.iadd, 1) by decide +kernel) ?_
  rw [show nI i + 2 = nI (i + 2) from nI_add i 2]
  refine va_sld hx hb hX hbl hbA hS1 (vp_in_nI (by omega) (by omega)) (show decode code 418 = .ok (.iaload, 1) by decide +kernel) ?_
  rw [nI_clamp (show i + 2 < 2 ^ 31 by omega)]
  refine lv_aload_n hx hb (show decode code 419 = .ok (.aload_n 0, 1) by decide +kernel) rfl (lv_at hl 0 rfl) ?_
  refine lv_iload_n hx hb (show decode code 420 = .ok (.iload_n 3, 1) by decide +kernel) rfl (lv_at hl 3 rfl) ?_
  refine lv_iconst (v := 3) hx hb (show decode code 421 = .ok (.iconst 3, 1) by decide +kernel) (by decide) ?_
  refine lv_iadd hx hb (show decode code 422 = .ok (.iadd, 1) by decide +kernel) ?_
  rw [show nI i + 3 = nI (i + 3) from nI_add i 3]
  refine va_sld hx hb hX hbl hbA hS1 (vp_in_nI (by omega) (by omega)) (show decode code 423 = .ok (.iaload, 1) by decide +kernel) ?_
  rw [nI_clamp (show i + 3 < 2 ^ 31 by omega)]
  refine zLawCall (μ := 255) (idx := 57) (o := 154) (w := 12) (as := [.inl (xs (i + 1)).toInt, .inl (xs (i + 2)).toInt, .inl (xs (i + 3)).toInt]) (As := [.int (xs (i + 1)), .int (xs (i + 2)), .int (xs (i + 3))]) (rest := [.int (Int32.ofInt z1)]) C zk_203 (by decide +kernel) (by decide) (by decide +kernel) (by decide +kernel) (by decide) (by decide +kernel) (show (3 : Nat) = zNp 255 by decide +kernel) ⟨by decide +kernel, by decide +kernel⟩ hP1 hS1 hcs hl.1 hs2 (by simp [zVm]) rfl (Nat.le_of_ble_eq_true rfl) (show decode code 424 = .ok (.invokevirtual 57, 3) by decide +kernel) (fun z2 M2 H2 locs2 hs3 hP2 hS2 => ?_)
  obtain ⟨e1, hM2⟩ := hs3
  subst e1
  refine lv_icmp_eq (tgt := 1045) hx hb (show decode code 427 = .ok (.if_icmp .eq 618, 3) by decide +kernel) (by decide) (fun _ => ?_) (fun q => absurd rfl q)
  exact kk M2 H2 locs2 hM2 hP2 hS2
set_option maxHeartbeats 4000000 in
theorem law_10 {Inv : Mm → Prop} (hs : zStep_10 Inv) (C : zLC p l s m meth c b L xs dC dI ad cA) {i : Nat} (hi : i + 6 ≤ L) (hM : Inv M) (hP : va_P (dC, dI) zCm (zWd ad cA M) H) (hS : va_S (fun q => s.heap.size ≤ q) s.heap H locs) (hl : lv_has ls 4 [(0, .ref b), (1, .ref (ad 0)), (2, .ref (ad 154)), (3, .int (nI i))]) (hcs : cells ≤ room_1.cells ∧ slots ≤ room_1.slots)
    (kk : ∀ (M1 : Mm) (H1 : Heap) (locs1 : List Loc), Inv M1 → va_P (dC, dI) zCm (zWd ad cA M1) H1 → va_S (fun q => s.heap.size ≤ q) s.heap H1 locs1 → W p l e room_1 s m #[Value.ref b] below meth c H1 locs1 cells slots Q (F0 m 1045 ls [])) :
    W p l e room_1 s m #[Value.ref b] below meth c H locs cells slots Q (F0 m 432 ls []) := by
  obtain ⟨hx, hb, hml, hown, hts, hX, hbl, hK, hinj, hnw, hst0, had, hL⟩ := id C
  have hbA : ¬ (fun q : Nat => s.heap.size ≤ q) b := Nat.not_le.mpr hbl
  have hs1 := hs M hM (xs (i + 1)).toInt (zR32_toInt _) (xs (i + 2)).toInt (zR32_toInt _)
  refine lv_aload_n hx hb (show decode code 432 = .ok (.aload_n 1, 1) by decide +kernel) rfl (lv_at hl 1 rfl) ?_
  refine lv_aload_n hx hb (show decode code 433 = .ok (.aload_n 0, 1) by decide +kernel) rfl (lv_at hl 0 rfl) ?_
  refine lv_iload_n hx hb (show decode code 434 = .ok (.iload_n 3, 1) by decide +kernel) rfl (lv_at hl 3 rfl) ?_
  refine lv_iconst (v := 1) hx hb (show decode code 435 = .ok (.iconst 1, 1) by decide +kernel) (by decide) ?_
  refine lv_iadd hx hb (show decode code 436 = .ok (.iadd, 1) by decide +kernel) ?_
  rw [show nI i + 1 = nI (i + 1) from nI_add i 1]
  refine va_sld hx hb hX hbl hbA hS (vp_in_nI (by omega) (by omega)) (show decode code 437 = .ok (.iaload, 1) by decide +kernel) ?_
  rw [nI_clamp (show i + 1 < 2 ^ 31 by omega)]
  refine lv_aload_n hx hb (show decode code 438 = .ok (.aload_n 0, 1) by decide +kernel) rfl (lv_at hl 0 rfl) ?_
  refine lv_iload_n hx hb (show decode code 439 = .ok (.iload_n 3, 1) by decide +kernel) rfl (lv_at hl 3 rfl) ?_
  refine lv_iconst (v := 2) hx hb (show decode code 440 = .ok (.iconst 2, 1) by decide +kernel) (by decide) ?_
  refine lv_iadd hx hb (show decode code 441 = .ok (.iadd, 1) by decide +kernel) ?_
  rw [show nI i + 2 = nI (i + 2) from nI_add i 2]
  refine va_sld hx hb hX hbl hbA hS (vp_in_nI (by omega) (by omega)) (show decode code 442 = .ok (.iaload, 1) by decide +kernel) ?_
  rw [nI_clamp (show i + 2 < 2 ^ 31 by omega)]
  refine zLawCall (μ := 107) (idx := 58) (o := 0) (w := 11) (as := [.inl (xs (i + 1)).toInt, .inl (xs (i + 2)).toInt]) (As := [.int (xs (i + 1)), .int (xs (i + 2))]) (rest := []) C zk_204 (by decide +kernel) (by decide) (by decide +kernel) (by decide +kernel) (by decide) (by decide +kernel) (show (2 : Nat) = zNp 107 by decide +kernel) ⟨by decide +kernel, by decide +kernel⟩ hP hS hcs hl.1 hs1 (by simp [zVm]) rfl (Nat.le_of_ble_eq_true rfl) (show decode code 443 = .ok (.invokevirtual 58, 3) by decide +kernel) (fun z1 M1 H1 locs1 hs2 hP1 hS1 => ?_)
  refine lv_aload_n hx hb (show decode code 446 = .ok (.aload_n 2, 1) by decide +kernel) rfl (lv_at hl 2 rfl) ?_
  refine lv_aload_n hx hb (show decode code 447 = .ok (.aload_n 0, 1) by decide +kernel) rfl (lv_at hl 0 rfl) ?_
  refine lv_iload_n hx hb (show decode code 448 = .ok (.iload_n 3, 1) by decide +kernel) rfl (lv_at hl 3 rfl) ?_
  refine lv_iconst (v := 1) hx hb (show decode code 449 = .ok (.iconst 1, 1) by decide +kernel) (by decide) ?_
  refine lv_iadd hx hb (show decode code 450 = .ok (.iadd, 1) by decide +kernel) ?_
  rw [show nI i + 1 = nI (i + 1) from nI_add i 1]
  refine va_sld hx hb hX hbl hbA hS1 (vp_in_nI (by omega) (by omega)) (show decode code 451 = .ok (.iaload, 1) by decide +kernel) ?_
  rw [nI_clamp (show i + 1 < 2 ^ 31 by omega)]
  refine lv_aload_n hx hb (show decode code 452 = .ok (.aload_n 0, 1) by decide +kernel) rfl (lv_at hl 0 rfl) ?_
  refine lv_iload_n hx hb (show decode code 453 = .ok (.iload_n 3, 1) by decide +kernel) rfl (lv_at hl 3 rfl) ?_
  refine lv_iconst (v := 2) hx hb (show decode code 454 = .ok (.iconst 2, 1) by decide +kernel) (by decide) ?_
  refine lv_iadd hx hb (show decode code 455 = .ok (.iadd, 1) by decide +kernel) ?_
  rw [show nI i + 2 = nI (i + 2) from nI_add i 2]
  refine va_sld hx hb hX hbl hbA hS1 (vp_in_nI (by omega) (by omega)) (show decode code 456 = .ok (.iaload, 1) by decide +kernel) ?_
  rw [nI_clamp (show i + 2 < 2 ^ 31 by omega)]
  refine zLawCall (μ := 257) (idx := 62) (o := 154) (w := 12) (as := [.inl (xs (i + 1)).toInt, .inl (xs (i + 2)).toInt]) (As := [.int (xs (i + 1)), .int (xs (i + 2))]) (rest := [.int (Int32.ofInt z1)]) C zk_205 (by decide +kernel) (by decide) (by decide +kernel) (by decide +kernel) (by decide) (by decide +kernel) (show (2 : Nat) = zNp 257 by decide +kernel) ⟨by decide +kernel, by decide +kernel⟩ hP1 hS1 hcs hl.1 hs2 (by simp [zVm]) rfl (Nat.le_of_ble_eq_true rfl) (show decode code 457 = .ok (.invokevirtual 62, 3) by decide +kernel) (fun z2 M2 H2 locs2 hs3 hP2 hS2 => ?_)
  obtain ⟨e1, hM2⟩ := hs3
  subst e1
  refine lv_icmp_eq (tgt := 1045) hx hb (show decode code 460 = .ok (.if_icmp .eq 585, 3) by decide +kernel) (by decide) (fun _ => ?_) (fun q => absurd rfl q)
  exact kk M2 H2 locs2 hM2 hP2 hS2
set_option maxHeartbeats 4000000 in
theorem law_11 {Inv : Mm → Prop} (hs : zStep_11 Inv) (C : zLC p l s m meth c b L xs dC dI ad cA) {i : Nat} (hi : i + 6 ≤ L) (hM : Inv M) (hP : va_P (dC, dI) zCm (zWd ad cA M) H) (hS : va_S (fun q => s.heap.size ≤ q) s.heap H locs) (hl : lv_has ls 4 [(0, .ref b), (1, .ref (ad 0)), (2, .ref (ad 154)), (3, .int (nI i))]) (hcs : cells ≤ room_1.cells ∧ slots ≤ room_1.slots)
    (kk : ∀ (M1 : Mm) (H1 : Heap) (locs1 : List Loc), Inv M1 → va_P (dC, dI) zCm (zWd ad cA M1) H1 → va_S (fun q => s.heap.size ≤ q) s.heap H1 locs1 → W p l e room_1 s m #[Value.ref b] below meth c H1 locs1 cells slots Q (F0 m 1045 ls [])) :
    W p l e room_1 s m #[Value.ref b] below meth c H locs cells slots Q (F0 m 465 ls []) := by
  obtain ⟨hx, hb, hml, hown, hts, hX, hbl, hK, hinj, hnw, hst0, had, hL⟩ := id C
  have hbA : ¬ (fun q : Nat => s.heap.size ≤ q) b := Nat.not_le.mpr hbl
  have hs1 := hs M hM (xs (i + 1)).toInt (zR32_toInt _) (xs (i + 2)).toInt (zR32_toInt _)
  refine lv_aload_n hx hb (show decode code 465 = .ok (.aload_n 1, 1) by decide +kernel) rfl (lv_at hl 1 rfl) ?_
  refine lv_aload_n hx hb (show decode code 466 = .ok (.aload_n 0, 1) by decide +kernel) rfl (lv_at hl 0 rfl) ?_
  refine lv_iload_n hx hb (show decode code 467 = .ok (.iload_n 3, 1) by decide +kernel) rfl (lv_at hl 3 rfl) ?_
  refine lv_iconst (v := 1) hx hb (show decode code 468 = .ok (.iconst 1, 1) by decide +kernel) (by decide) ?_
  refine lv_iadd hx hb (show decode code 469 = .ok (.iadd, 1) by decide +kernel) ?_
  rw [show nI i + 1 = nI (i + 1) from nI_add i 1]
  refine va_sld hx hb hX hbl hbA hS (vp_in_nI (by omega) (by omega)) (show decode code 470 = .ok (.iaload, 1) by decide +kernel) ?_
  rw [nI_clamp (show i + 1 < 2 ^ 31 by omega)]
  refine lv_aload_n hx hb (show decode code 471 = .ok (.aload_n 0, 1) by decide +kernel) rfl (lv_at hl 0 rfl) ?_
  refine lv_iload_n hx hb (show decode code 472 = .ok (.iload_n 3, 1) by decide +kernel) rfl (lv_at hl 3 rfl) ?_
  refine lv_iconst (v := 2) hx hb (show decode code 473 = .ok (.iconst 2, 1) by decide +kernel) (by decide) ?_
  refine lv_iadd hx hb (show decode code 474 = .ok (.iadd, 1) by decide +kernel) ?_
  rw [show nI i + 2 = nI (i + 2) from nI_add i 2]
  refine va_sld hx hb hX hbl hbA hS (vp_in_nI (by omega) (by omega)) (show decode code 475 = .ok (.iaload, 1) by decide +kernel) ?_
  rw [nI_clamp (show i + 2 < 2 ^ 31 by omega)]
  refine zLawCall (μ := 108) (idx := 63) (o := 0) (w := 11) (as := [.inl (xs (i + 1)).toInt, .inl (xs (i + 2)).toInt]) (As := [.int (xs (i + 1)), .int (xs (i + 2))]) (rest := []) C zk_206 (by decide +kernel) (by decide) (by decide +kernel) (by decide +kernel) (by decide) (by decide +kernel) (show (2 : Nat) = zNp 108 by decide +kernel) ⟨by decide +kernel, by decide +kernel⟩ hP hS hcs hl.1 hs1 (by simp [zVm]) rfl (Nat.le_of_ble_eq_true rfl) (show decode code 476 = .ok (.invokevirtual 63, 3) by decide +kernel) (fun z1 M1 H1 locs1 hs2 hP1 hS1 => ?_)
  refine lv_aload_n hx hb (show decode code 479 = .ok (.aload_n 2, 1) by decide +kernel) rfl (lv_at hl 2 rfl) ?_
  refine lv_aload_n hx hb (show decode code 480 = .ok (.aload_n 0, 1) by decide +kernel) rfl (lv_at hl 0 rfl) ?_
  refine lv_iload_n hx hb (show decode code 481 = .ok (.iload_n 3, 1) by decide +kernel) rfl (lv_at hl 3 rfl) ?_
  refine lv_iconst (v := 1) hx hb (show decode code 482 = .ok (.iconst 1, 1) by decide +kernel) (by decide) ?_
  refine lv_iadd hx hb (show decode code 483 = .ok (.iadd, 1) by decide +kernel) ?_
  rw [show nI i + 1 = nI (i + 1) from nI_add i 1]
  refine va_sld hx hb hX hbl hbA hS1 (vp_in_nI (by omega) (by omega)) (show decode code 484 = .ok (.iaload, 1) by decide +kernel) ?_
  rw [nI_clamp (show i + 1 < 2 ^ 31 by omega)]
  refine lv_aload_n hx hb (show decode code 485 = .ok (.aload_n 0, 1) by decide +kernel) rfl (lv_at hl 0 rfl) ?_
  refine lv_iload_n hx hb (show decode code 486 = .ok (.iload_n 3, 1) by decide +kernel) rfl (lv_at hl 3 rfl) ?_
  refine lv_iconst (v := 2) hx hb (show decode code 487 = .ok (.iconst 2, 1) by decide +kernel) (by decide) ?_
  refine lv_iadd hx hb (show decode code 488 = .ok (.iadd, 1) by decide +kernel) ?_
  rw [show nI i + 2 = nI (i + 2) from nI_add i 2]
  refine va_sld hx hb hX hbl hbA hS1 (vp_in_nI (by omega) (by omega)) (show decode code 489 = .ok (.iaload, 1) by decide +kernel) ?_
  rw [nI_clamp (show i + 2 < 2 ^ 31 by omega)]
  refine zLawCall (μ := 258) (idx := 66) (o := 154) (w := 12) (as := [.inl (xs (i + 1)).toInt, .inl (xs (i + 2)).toInt]) (As := [.int (xs (i + 1)), .int (xs (i + 2))]) (rest := [.int (Int32.ofInt z1)]) C zk_207 (by decide +kernel) (by decide) (by decide +kernel) (by decide +kernel) (by decide) (by decide +kernel) (show (2 : Nat) = zNp 258 by decide +kernel) ⟨by decide +kernel, by decide +kernel⟩ hP1 hS1 hcs hl.1 hs2 (by simp [zVm]) rfl (Nat.le_of_ble_eq_true rfl) (show decode code 490 = .ok (.invokevirtual 66, 3) by decide +kernel) (fun z2 M2 H2 locs2 hs3 hP2 hS2 => ?_)
  obtain ⟨e1, hM2⟩ := hs3
  subst e1
  refine lv_icmp_eq (tgt := 1045) hx hb (show decode code 493 = .ok (.if_icmp .eq 552, 3) by decide +kernel) (by decide) (fun _ => ?_) (fun q => absurd rfl q)
  exact kk M2 H2 locs2 hM2 hP2 hS2
set_option maxHeartbeats 4000000 in
theorem law_12 {Inv : Mm → Prop} (hs : zStep_12 Inv) (C : zLC p l s m meth c b L xs dC dI ad cA) {i : Nat} (hi : i + 6 ≤ L) (hM : Inv M) (hP : va_P (dC, dI) zCm (zWd ad cA M) H) (hS : va_S (fun q => s.heap.size ≤ q) s.heap H locs) (hl : lv_has ls 4 [(0, .ref b), (1, .ref (ad 0)), (2, .ref (ad 154)), (3, .int (nI i))]) (hcs : cells ≤ room_1.cells ∧ slots ≤ room_1.slots)
    (kk : ∀ (M1 : Mm) (H1 : Heap) (locs1 : List Loc), Inv M1 → va_P (dC, dI) zCm (zWd ad cA M1) H1 → va_S (fun q => s.heap.size ≤ q) s.heap H1 locs1 → W p l e room_1 s m #[Value.ref b] below meth c H1 locs1 cells slots Q (F0 m 1045 ls [])) :
    W p l e room_1 s m #[Value.ref b] below meth c H locs cells slots Q (F0 m 498 ls []) := by
  obtain ⟨hx, hb, hml, hown, hts, hX, hbl, hK, hinj, hnw, hst0, had, hL⟩ := id C
  have hbA : ¬ (fun q : Nat => s.heap.size ≤ q) b := Nat.not_le.mpr hbl
  have hs1 := hs M hM (xs (i + 1)).toInt (zR32_toInt _) (xs (i + 2)).toInt (zR32_toInt _)
  refine lv_aload_n hx hb (show decode code 498 = .ok (.aload_n 1, 1) by decide +kernel) rfl (lv_at hl 1 rfl) ?_
  refine lv_aload_n hx hb (show decode code 499 = .ok (.aload_n 0, 1) by decide +kernel) rfl (lv_at hl 0 rfl) ?_
  refine lv_iload_n hx hb (show decode code 500 = .ok (.iload_n 3, 1) by decide +kernel) rfl (lv_at hl 3 rfl) ?_
  refine lv_iconst (v := 1) hx hb (show decode code 501 = .ok (.iconst 1, 1) by decide +kernel) (by decide) ?_
  refine lv_iadd hx hb (show decode code 502 = .ok (.iadd, 1) by decide +kernel) ?_
  rw [show nI i + 1 = nI (i + 1) from nI_add i 1]
  refine va_sld hx hb hX hbl hbA hS (vp_in_nI (by omega) (by omega)) (show decode code 503 = .ok (.iaload, 1) by decide +kernel) ?_
  rw [nI_clamp (show i + 1 < 2 ^ 31 by omega)]
  refine lv_aload_n hx hb (show decode code 504 = .ok (.aload_n 0, 1) by decide +kernel) rfl (lv_at hl 0 rfl) ?_
  refine lv_iload_n hx hb (show decode code 505 = .ok (.iload_n 3, 1) by decide +kernel) rfl (lv_at hl 3 rfl) ?_
  refine lv_iconst (v := 2) hx hb (show decode code 506 = .ok (.iconst 2, 1) by decide +kernel) (by decide) ?_
  refine lv_iadd hx hb (show decode code 507 = .ok (.iadd, 1) by decide +kernel) ?_
  rw [show nI i + 2 = nI (i + 2) from nI_add i 2]
  refine va_sld hx hb hX hbl hbA hS (vp_in_nI (by omega) (by omega)) (show decode code 508 = .ok (.iaload, 1) by decide +kernel) ?_
  rw [nI_clamp (show i + 2 < 2 ^ 31 by omega)]
  refine zLawCall (μ := 109) (idx := 67) (o := 0) (w := 11) (as := [.inl (xs (i + 1)).toInt, .inl (xs (i + 2)).toInt]) (As := [.int (xs (i + 1)), .int (xs (i + 2))]) (rest := []) C zk_208 (by decide +kernel) (by decide) (by decide +kernel) (by decide +kernel) (by decide) (by decide +kernel) (show (2 : Nat) = zNp 109 by decide +kernel) ⟨by decide +kernel, by decide +kernel⟩ hP hS hcs hl.1 hs1 (by simp [zVm]) rfl (Nat.le_of_ble_eq_true rfl) (show decode code 509 = .ok (.invokevirtual 67, 3) by decide +kernel) (fun z1 M1 H1 locs1 hs2 hP1 hS1 => ?_)
  refine lv_aload_n hx hb (show decode code 512 = .ok (.aload_n 2, 1) by decide +kernel) rfl (lv_at hl 2 rfl) ?_
  refine lv_aload_n hx hb (show decode code 513 = .ok (.aload_n 0, 1) by decide +kernel) rfl (lv_at hl 0 rfl) ?_
  refine lv_iload_n hx hb (show decode code 514 = .ok (.iload_n 3, 1) by decide +kernel) rfl (lv_at hl 3 rfl) ?_
  refine lv_iconst (v := 1) hx hb (show decode code 515 = .ok (.iconst 1, 1) by decide +kernel) (by decide) ?_
  refine lv_iadd hx hb (show decode code 516 = .ok (.iadd, 1) by decide +kernel) ?_
  rw [show nI i + 1 = nI (i + 1) from nI_add i 1]
  refine va_sld hx hb hX hbl hbA hS1 (vp_in_nI (by omega) (by omega)) (show decode code 517 = .ok (.iaload, 1) by decide +kernel) ?_
  rw [nI_clamp (show i + 1 < 2 ^ 31 by omega)]
  refine lv_aload_n hx hb (show decode code 518 = .ok (.aload_n 0, 1) by decide +kernel) rfl (lv_at hl 0 rfl) ?_
  refine lv_iload_n hx hb (show decode code 519 = .ok (.iload_n 3, 1) by decide +kernel) rfl (lv_at hl 3 rfl) ?_
  refine lv_iconst (v := 2) hx hb (show decode code 520 = .ok (.iconst 2, 1) by decide +kernel) (by decide) ?_
  refine lv_iadd hx hb (show decode code 521 = .ok (.iadd, 1) by decide +kernel) ?_
  rw [show nI i + 2 = nI (i + 2) from nI_add i 2]
  refine va_sld hx hb hX hbl hbA hS1 (vp_in_nI (by omega) (by omega)) (show decode code 522 = .ok (.iaload, 1) by decide +kernel) ?_
  rw [nI_clamp (show i + 2 < 2 ^ 31 by omega)]
  refine zLawCall (μ := 260) (idx := 70) (o := 154) (w := 12) (as := [.inl (xs (i + 1)).toInt, .inl (xs (i + 2)).toInt]) (As := [.int (xs (i + 1)), .int (xs (i + 2))]) (rest := [.int (Int32.ofInt z1)]) C zk_209 (by decide +kernel) (by decide) (by decide +kernel) (by decide +kernel) (by decide) (by decide +kernel) (show (2 : Nat) = zNp 260 by decide +kernel) ⟨by decide +kernel, by decide +kernel⟩ hP1 hS1 hcs hl.1 hs2 (by simp [zVm]) rfl (Nat.le_of_ble_eq_true rfl) (show decode code 523 = .ok (.invokevirtual 70, 3) by decide +kernel) (fun z2 M2 H2 locs2 hs3 hP2 hS2 => ?_)
  obtain ⟨e1, hM2⟩ := hs3
  subst e1
  refine lv_icmp_eq (tgt := 1045) hx hb (show decode code 526 = .ok (.if_icmp .eq 519, 3) by decide +kernel) (by decide) (fun _ => ?_) (fun q => absurd rfl q)
  exact kk M2 H2 locs2 hM2 hP2 hS2
set_option maxHeartbeats 4000000 in
theorem law_13 {Inv : Mm → Prop} (hs : zStep_13 Inv) (C : zLC p l s m meth c b L xs dC dI ad cA) {i : Nat} (hi : i + 6 ≤ L) (hM : Inv M) (hP : va_P (dC, dI) zCm (zWd ad cA M) H) (hS : va_S (fun q => s.heap.size ≤ q) s.heap H locs) (hl : lv_has ls 4 [(0, .ref b), (1, .ref (ad 0)), (2, .ref (ad 154)), (3, .int (nI i))]) (hcs : cells ≤ room_1.cells ∧ slots ≤ room_1.slots)
    (kk : ∀ (M1 : Mm) (H1 : Heap) (locs1 : List Loc), Inv M1 → va_P (dC, dI) zCm (zWd ad cA M1) H1 → va_S (fun q => s.heap.size ≤ q) s.heap H1 locs1 → W p l e room_1 s m #[Value.ref b] below meth c H1 locs1 cells slots Q (F0 m 1045 ls [])) :
    W p l e room_1 s m #[Value.ref b] below meth c H locs cells slots Q (F0 m 531 ls []) := by
  obtain ⟨hx, hb, hml, hown, hts, hX, hbl, hK, hinj, hnw, hst0, had, hL⟩ := id C
  have hbA : ¬ (fun q : Nat => s.heap.size ≤ q) b := Nat.not_le.mpr hbl
  have hs1 := hs M hM
  refine lv_aload_n hx hb (show decode code 531 = .ok (.aload_n 1, 1) by decide +kernel) rfl (lv_at hl 1 rfl) ?_
  refine zLawCall (μ := 110) (idx := 71) (o := 0) (w := 11) (as := []) (As := []) (rest := []) C zk_210 (by decide +kernel) (by decide) (by decide +kernel) (by decide +kernel) (by decide) (by decide +kernel) (show (0 : Nat) = zNp 110 by decide +kernel) ⟨by decide +kernel, by decide +kernel⟩ hP hS hcs hl.1 hs1 (by simp [zVm]) rfl (Nat.le_of_ble_eq_true rfl) (show decode code 532 = .ok (.invokevirtual 71, 3) by decide +kernel) (fun z1 M1 H1 locs1 hs2 hP1 hS1 => ?_)
  refine lv_aload_n hx hb (show decode code 535 = .ok (.aload_n 2, 1) by decide +kernel) rfl (lv_at hl 2 rfl) ?_
  refine zLawCall (μ := 261) (idx := 74) (o := 154) (w := 12) (as := []) (As := []) (rest := [.int (Int32.ofInt z1)]) C zk_211 (by decide +kernel) (by decide) (by decide +kernel) (by decide +kernel) (by decide) (by decide +kernel) (show (0 : Nat) = zNp 261 by decide +kernel) ⟨by decide +kernel, by decide +kernel⟩ hP1 hS1 hcs hl.1 hs2 (by simp [zVm]) rfl (Nat.le_of_ble_eq_true rfl) (show decode code 536 = .ok (.invokevirtual 74, 3) by decide +kernel) (fun z2 M2 H2 locs2 hs3 hP2 hS2 => ?_)
  obtain ⟨e1, hM2⟩ := hs3
  subst e1
  refine lv_icmp_eq (tgt := 1045) hx hb (show decode code 539 = .ok (.if_icmp .eq 506, 3) by decide +kernel) (by decide) (fun _ => ?_) (fun q => absurd rfl q)
  exact kk M2 H2 locs2 hM2 hP2 hS2
set_option maxHeartbeats 4000000 in
theorem law_14 {Inv : Mm → Prop} (hs : zStep_14 Inv) (C : zLC p l s m meth c b L xs dC dI ad cA) {i : Nat} (hi : i + 6 ≤ L) (hM : Inv M) (hP : va_P (dC, dI) zCm (zWd ad cA M) H) (hS : va_S (fun q => s.heap.size ≤ q) s.heap H locs) (hl : lv_has ls 4 [(0, .ref b), (1, .ref (ad 0)), (2, .ref (ad 154)), (3, .int (nI i))]) (hcs : cells ≤ room_1.cells ∧ slots ≤ room_1.slots)
    (kk : ∀ (M1 : Mm) (H1 : Heap) (locs1 : List Loc), Inv M1 → va_P (dC, dI) zCm (zWd ad cA M1) H1 → va_S (fun q => s.heap.size ≤ q) s.heap H1 locs1 → W p l e room_1 s m #[Value.ref b] below meth c H1 locs1 cells slots Q (F0 m 1045 ls [])) :
    W p l e room_1 s m #[Value.ref b] below meth c H locs cells slots Q (F0 m 544 ls []) := by
  obtain ⟨hx, hb, hml, hown, hts, hX, hbl, hK, hinj, hnw, hst0, had, hL⟩ := id C
  have hbA : ¬ (fun q : Nat => s.heap.size ≤ q) b := Nat.not_le.mpr hbl
  have hs1 := hs M hM (xs (i + 1)).toInt (zR32_toInt _) (xs (i + 2)).toInt (zR32_toInt _) (xs (i + 3)).toInt (zR32_toInt _)
  refine lv_aload_n hx hb (show decode code 544 = .ok (.aload_n 1, 1) by decide +kernel) rfl (lv_at hl 1 rfl) ?_
  refine lv_aload_n hx hb (show decode code 545 = .ok (.aload_n 0, 1) by decide +kernel) rfl (lv_at hl 0 rfl) ?_
  refine lv_iload_n hx hb (show decode code 546 = .ok (.iload_n 3, 1) by decide +kernel) rfl (lv_at hl 3 rfl) ?_
  refine lv_iconst (v := 1) hx hb (show decode code 547 = .ok (.iconst 1, 1) by decide +kernel) (by decide) ?_
  refine lv_iadd hx hb (show decode code 548 = .ok (.iadd, 1) by decide +kernel) ?_
  rw [show nI i + 1 = nI (i + 1) from nI_add i 1]
  refine va_sld hx hb hX hbl hbA hS (vp_in_nI (by omega) (by omega)) (show decode code 549 = .ok (.iaload, 1) by decide +kernel) ?_
  rw [nI_clamp (show i + 1 < 2 ^ 31 by omega)]
  refine lv_aload_n hx hb (show decode code 550 = .ok (.aload_n 0, 1) by decide +kernel) rfl (lv_at hl 0 rfl) ?_
  refine lv_iload_n hx hb (show decode code 551 = .ok (.iload_n 3, 1) by decide +kernel) rfl (lv_at hl 3 rfl) ?_
  refine lv_iconst (v := 2) hx hb (show decode code 552 = .ok (.iconst 2, 1) by decide +kernel) (by decide) ?_
  refine lv_iadd hx hb (show decode code 553 = .ok (.iadd, 1) by decide +kernel) ?_
  rw [show nI i + 2 = nI (i + 2) from nI_add i 2]
  refine va_sld hx hb hX hbl hbA hS (vp_in_nI (by omega) (by omega)) (show decode code 554 = .ok (.iaload, 1) by decide +kernel) ?_
  rw [nI_clamp (show i + 2 < 2 ^ 31 by omega)]
  refine lv_aload_n hx hb (show decode code 555 = .ok (.aload_n 0, 1) by decide +kernel) rfl (lv_at hl 0 rfl) ?_
  refine lv_iload_n hx hb (show decode code 556 = .ok (.iload_n 3, 1) by decide +kernel) rfl (lv_at hl 3 rfl) ?_
  refine lv_iconst (v := 3) hx hb (show decode code 557 = .ok (.iconst 3, 1) by decide +kernel) (by decide) ?_
  refine lv_iadd hx hb (show decode code 558 = .ok (.iadd, 1) by decide +kernel) ?_
  rw [show nI i + 3 = nI (i + 3) from nI_add i 3]
  refine va_sld hx hb hX hbl hbA hS (vp_in_nI (by omega) (by omega)) (show decode code 559 = .ok (.iaload, 1) by decide +kernel) ?_
  rw [nI_clamp (show i + 3 < 2 ^ 31 by omega)]
  refine zLawCall (μ := 111) (idx := 75) (o := 0) (w := 11) (as := [.inl (xs (i + 1)).toInt, .inl (xs (i + 2)).toInt, .inl (xs (i + 3)).toInt]) (As := [.int (xs (i + 1)), .int (xs (i + 2)), .int (xs (i + 3))]) (rest := []) C zk_212 (by decide +kernel) (by decide) (by decide +kernel) (by decide +kernel) (by decide) (by decide +kernel) (show (3 : Nat) = zNp 111 by decide +kernel) ⟨by decide +kernel, by decide +kernel⟩ hP hS hcs hl.1 hs1 (by simp [zVm]) rfl (Nat.le_of_ble_eq_true rfl) (show decode code 560 = .ok (.invokevirtual 75, 3) by decide +kernel) (fun z1 M1 H1 locs1 hs2 hP1 hS1 => ?_)
  refine lv_aload_n hx hb (show decode code 563 = .ok (.aload_n 2, 1) by decide +kernel) rfl (lv_at hl 2 rfl) ?_
  refine lv_aload_n hx hb (show decode code 564 = .ok (.aload_n 0, 1) by decide +kernel) rfl (lv_at hl 0 rfl) ?_
  refine lv_iload_n hx hb (show decode code 565 = .ok (.iload_n 3, 1) by decide +kernel) rfl (lv_at hl 3 rfl) ?_
  refine lv_iconst (v := 1) hx hb (show decode code 566 = .ok (.iconst 1, 1) by decide +kernel) (by decide) ?_
  refine lv_iadd hx hb (show decode code 567 = .ok (.iadd, 1) by decide +kernel) ?_
  rw [show nI i + 1 = nI (i + 1) from nI_add i 1]
  refine va_sld hx hb hX hbl hbA hS1 (vp_in_nI (by omega) (by omega)) (show decode code 568 = .ok (.iaload, 1) by decide +kernel) ?_
  rw [nI_clamp (show i + 1 < 2 ^ 31 by omega)]
  refine lv_aload_n hx hb (show decode code 569 = .ok (.aload_n 0, 1) by decide +kernel) rfl (lv_at hl 0 rfl) ?_
  refine lv_iload_n hx hb (show decode code 570 = .ok (.iload_n 3, 1) by decide +kernel) rfl (lv_at hl 3 rfl) ?_
  refine lv_iconst (v := 2) hx hb (show decode code 571 = .ok (.iconst 2, 1) by decide +kernel) (by decide) ?_
  refine lv_iadd hx hb (show decode code 572 = .ok (.iadd, 1) by decide +kernel) ?_
  rw [show nI i + 2 = nI (i + 2) from nI_add i 2]
  refine va_sld hx hb hX hbl hbA hS1 (vp_in_nI (by omega) (by omega)) (show decode code 573 = .ok (.iaload, 1) by decide +kernel) ?_
  rw [nI_clamp (show i + 2 < 2 ^ 31 by omega)]
  refine lv_aload_n hx hb (show decode code 574 = .ok (.aload_n 0, 1) by decide +kernel) rfl (lv_at hl 0 rfl) ?_
  refine lv_iload_n hx hb (show decode code 575 = .ok (.iload_n 3, 1) by decide +kernel) rfl (lv_at hl 3 rfl) ?_
  refine lv_iconst (v := 3) hx hb (show decode code 576 = .ok (.iconst 3, 1) by decide +kernel) (by decide) ?_
  refine lv_iadd hx hb (show decode code 577 = .ok (.iadd, 1) by decide +kernel) ?_
  rw [show nI i + 3 = nI (i + 3) from nI_add i 3]
  refine va_sld hx hb hX hbl hbA hS1 (vp_in_nI (by omega) (by omega)) (show decode code 578 = .ok (.iaload, 1) by decide +kernel) ?_
  rw [nI_clamp (show i + 3 < 2 ^ 31 by omega)]
  refine zLawCall (μ := 262) (idx := 78) (o := 154) (w := 12) (as := [.inl (xs (i + 1)).toInt, .inl (xs (i + 2)).toInt, .inl (xs (i + 3)).toInt]) (As := [.int (xs (i + 1)), .int (xs (i + 2)), .int (xs (i + 3))]) (rest := [.int (Int32.ofInt z1)]) C zk_213 (by decide +kernel) (by decide) (by decide +kernel) (by decide +kernel) (by decide) (by decide +kernel) (show (3 : Nat) = zNp 262 by decide +kernel) ⟨by decide +kernel, by decide +kernel⟩ hP1 hS1 hcs hl.1 hs2 (by simp [zVm]) rfl (Nat.le_of_ble_eq_true rfl) (show decode code 579 = .ok (.invokevirtual 78, 3) by decide +kernel) (fun z2 M2 H2 locs2 hs3 hP2 hS2 => ?_)
  obtain ⟨e1, hM2⟩ := hs3
  subst e1
  refine lv_icmp_eq (tgt := 1045) hx hb (show decode code 582 = .ok (.if_icmp .eq 463, 3) by decide +kernel) (by decide) (fun _ => ?_) (fun q => absurd rfl q)
  exact kk M2 H2 locs2 hM2 hP2 hS2
set_option maxHeartbeats 4000000 in
theorem law_15 {Inv : Mm → Prop} (hs : zStep_15 Inv) (C : zLC p l s m meth c b L xs dC dI ad cA) {i : Nat} (hi : i + 6 ≤ L) (hM : Inv M) (hP : va_P (dC, dI) zCm (zWd ad cA M) H) (hS : va_S (fun q => s.heap.size ≤ q) s.heap H locs) (hl : lv_has ls 4 [(0, .ref b), (1, .ref (ad 0)), (2, .ref (ad 154)), (3, .int (nI i))]) (hcs : cells ≤ room_1.cells ∧ slots ≤ room_1.slots)
    (kk : ∀ (M1 : Mm) (H1 : Heap) (locs1 : List Loc), Inv M1 → va_P (dC, dI) zCm (zWd ad cA M1) H1 → va_S (fun q => s.heap.size ≤ q) s.heap H1 locs1 → W p l e room_1 s m #[Value.ref b] below meth c H1 locs1 cells slots Q (F0 m 1045 ls [])) :
    W p l e room_1 s m #[Value.ref b] below meth c H locs cells slots Q (F0 m 587 ls []) := by
  obtain ⟨hx, hb, hml, hown, hts, hX, hbl, hK, hinj, hnw, hst0, had, hL⟩ := id C
  have hbA : ¬ (fun q : Nat => s.heap.size ≤ q) b := Nat.not_le.mpr hbl
  have hs1 := hs M hM
  refine lv_aload_n hx hb (show decode code 587 = .ok (.aload_n 1, 1) by decide +kernel) rfl (lv_at hl 1 rfl) ?_
  refine zLawCall (μ := 112) (idx := 79) (o := 0) (w := 11) (as := []) (As := []) (rest := []) C zk_214 (by decide +kernel) (by decide) (by decide +kernel) (by decide +kernel) (by decide) (by decide +kernel) (show (0 : Nat) = zNp 112 by decide +kernel) ⟨by decide +kernel, by decide +kernel⟩ hP hS hcs hl.1 hs1 (by simp [zVm]) rfl (Nat.le_of_ble_eq_true rfl) (show decode code 588 = .ok (.invokevirtual 79, 3) by decide +kernel) (fun z1 M1 H1 locs1 hs2 hP1 hS1 => ?_)
  refine lv_aload_n hx hb (show decode code 591 = .ok (.aload_n 2, 1) by decide +kernel) rfl (lv_at hl 2 rfl) ?_
  refine zLawCall (μ := 253) (idx := 82) (o := 154) (w := 12) (as := []) (As := []) (rest := [.int (Int32.ofInt z1)]) C zk_215 (by decide +kernel) (by decide) (by decide +kernel) (by decide +kernel) (by decide) (by decide +kernel) (show (0 : Nat) = zNp 253 by decide +kernel) ⟨by decide +kernel, by decide +kernel⟩ hP1 hS1 hcs hl.1 hs2 (by simp [zVm]) rfl (Nat.le_of_ble_eq_true rfl) (show decode code 592 = .ok (.invokevirtual 82, 3) by decide +kernel) (fun z2 M2 H2 locs2 hs3 hP2 hS2 => ?_)
  obtain ⟨e1, hM2⟩ := hs3
  subst e1
  refine lv_icmp_eq (tgt := 1045) hx hb (show decode code 595 = .ok (.if_icmp .eq 450, 3) by decide +kernel) (by decide) (fun _ => ?_) (fun q => absurd rfl q)
  exact kk M2 H2 locs2 hM2 hP2 hS2
set_option maxHeartbeats 4000000 in
theorem law_16 {Inv : Mm → Prop} (hs : zStep_16 Inv) (C : zLC p l s m meth c b L xs dC dI ad cA) {i : Nat} (hi : i + 6 ≤ L) (hM : Inv M) (hP : va_P (dC, dI) zCm (zWd ad cA M) H) (hS : va_S (fun q => s.heap.size ≤ q) s.heap H locs) (hl : lv_has ls 4 [(0, .ref b), (1, .ref (ad 0)), (2, .ref (ad 154)), (3, .int (nI i))]) (hcs : cells ≤ room_1.cells ∧ slots ≤ room_1.slots)
    (kk : ∀ (M1 : Mm) (H1 : Heap) (locs1 : List Loc), Inv M1 → va_P (dC, dI) zCm (zWd ad cA M1) H1 → va_S (fun q => s.heap.size ≤ q) s.heap H1 locs1 → W p l e room_1 s m #[Value.ref b] below meth c H1 locs1 cells slots Q (F0 m 1045 ls [])) :
    W p l e room_1 s m #[Value.ref b] below meth c H locs cells slots Q (F0 m 600 ls []) := by
  obtain ⟨hx, hb, hml, hown, hts, hX, hbl, hK, hinj, hnw, hst0, had, hL⟩ := id C
  have hbA : ¬ (fun q : Nat => s.heap.size ≤ q) b := Nat.not_le.mpr hbl
  have hs1 := hs M hM (xs (i + 1)).toInt (zR32_toInt _)
  refine lv_aload_n hx hb (show decode code 600 = .ok (.aload_n 1, 1) by decide +kernel) rfl (lv_at hl 1 rfl) ?_
  refine lv_aload_n hx hb (show decode code 601 = .ok (.aload_n 0, 1) by decide +kernel) rfl (lv_at hl 0 rfl) ?_
  refine lv_iload_n hx hb (show decode code 602 = .ok (.iload_n 3, 1) by decide +kernel) rfl (lv_at hl 3 rfl) ?_
  refine lv_iconst (v := 1) hx hb (show decode code 603 = .ok (.iconst 1, 1) by decide +kernel) (by decide) ?_
  refine lv_iadd hx hb (show decode code 604 = .ok (.iadd, 1) by decide +kernel) ?_
  rw [show nI i + 1 = nI (i + 1) from nI_add i 1]
  refine va_sld hx hb hX hbl hbA hS (vp_in_nI (by omega) (by omega)) (show decode code 605 = .ok (.iaload, 1) by decide +kernel) ?_
  rw [nI_clamp (show i + 1 < 2 ^ 31 by omega)]
  refine zLawCall (μ := 113) (idx := 83) (o := 0) (w := 11) (as := [.inl (xs (i + 1)).toInt]) (As := [.int (xs (i + 1))]) (rest := []) C zk_216 (by decide +kernel) (by decide) (by decide +kernel) (by decide +kernel) (by decide) (by decide +kernel) (show (1 : Nat) = zNp 113 by decide +kernel) ⟨by decide +kernel, by decide +kernel⟩ hP hS hcs hl.1 hs1 (by simp [zVm]) rfl (Nat.le_of_ble_eq_true rfl) (show decode code 606 = .ok (.invokevirtual 83, 3) by decide +kernel) (fun z1 M1 H1 locs1 hs2 hP1 hS1 => ?_)
  refine lv_aload_n hx hb (show decode code 609 = .ok (.aload_n 2, 1) by decide +kernel) rfl (lv_at hl 2 rfl) ?_
  refine lv_aload_n hx hb (show decode code 610 = .ok (.aload_n 0, 1) by decide +kernel) rfl (lv_at hl 0 rfl) ?_
  refine lv_iload_n hx hb (show decode code 611 = .ok (.iload_n 3, 1) by decide +kernel) rfl (lv_at hl 3 rfl) ?_
  refine lv_iconst (v := 1) hx hb (show decode code 612 = .ok (.iconst 1, 1) by decide +kernel) (by decide) ?_
  refine lv_iadd hx hb (show decode code 613 = .ok (.iadd, 1) by decide +kernel) ?_
  rw [show nI i + 1 = nI (i + 1) from nI_add i 1]
  refine va_sld hx hb hX hbl hbA hS1 (vp_in_nI (by omega) (by omega)) (show decode code 614 = .ok (.iaload, 1) by decide +kernel) ?_
  rw [nI_clamp (show i + 1 < 2 ^ 31 by omega)]
  refine zLawCall (μ := 251) (idx := 86) (o := 154) (w := 12) (as := [.inl (xs (i + 1)).toInt]) (As := [.int (xs (i + 1))]) (rest := [.int (Int32.ofInt z1)]) C zk_217 (by decide +kernel) (by decide) (by decide +kernel) (by decide +kernel) (by decide) (by decide +kernel) (show (1 : Nat) = zNp 251 by decide +kernel) ⟨by decide +kernel, by decide +kernel⟩ hP1 hS1 hcs hl.1 hs2 (by simp [zVm]) rfl (Nat.le_of_ble_eq_true rfl) (show decode code 615 = .ok (.invokevirtual 86, 3) by decide +kernel) (fun z2 M2 H2 locs2 hs3 hP2 hS2 => ?_)
  obtain ⟨e1, hM2⟩ := hs3
  subst e1
  refine lv_icmp_eq (tgt := 1045) hx hb (show decode code 618 = .ok (.if_icmp .eq 427, 3) by decide +kernel) (by decide) (fun _ => ?_) (fun q => absurd rfl q)
  exact kk M2 H2 locs2 hM2 hP2 hS2
set_option maxHeartbeats 4000000 in
theorem law_17 {Inv : Mm → Prop} (hs : zStep_17 Inv) (C : zLC p l s m meth c b L xs dC dI ad cA) {i : Nat} (hi : i + 6 ≤ L) (hM : Inv M) (hP : va_P (dC, dI) zCm (zWd ad cA M) H) (hS : va_S (fun q => s.heap.size ≤ q) s.heap H locs) (hl : lv_has ls 4 [(0, .ref b), (1, .ref (ad 0)), (2, .ref (ad 154)), (3, .int (nI i))]) (hcs : cells ≤ room_1.cells ∧ slots ≤ room_1.slots)
    (kk : ∀ (M1 : Mm) (H1 : Heap) (locs1 : List Loc), Inv M1 → va_P (dC, dI) zCm (zWd ad cA M1) H1 → va_S (fun q => s.heap.size ≤ q) s.heap H1 locs1 → W p l e room_1 s m #[Value.ref b] below meth c H1 locs1 cells slots Q (F0 m 1045 ls [])) :
    W p l e room_1 s m #[Value.ref b] below meth c H locs cells slots Q (F0 m 623 ls []) := by
  obtain ⟨hx, hb, hml, hown, hts, hX, hbl, hK, hinj, hnw, hst0, had, hL⟩ := id C
  have hbA : ¬ (fun q : Nat => s.heap.size ≤ q) b := Nat.not_le.mpr hbl
  have hs1 := hs M hM (xs (i + 1)).toInt (zR32_toInt _) (xs (i + 2)).toInt (zR32_toInt _)
  refine lv_aload_n hx hb (show decode code 623 = .ok (.aload_n 1, 1) by decide +kernel) rfl (lv_at hl 1 rfl) ?_
  refine lv_aload_n hx hb (show decode code 624 = .ok (.aload_n 0, 1) by decide +kernel) rfl (lv_at hl 0 rfl) ?_
  refine lv_iload_n hx hb (show decode code 625 = .ok (.iload_n 3, 1) by decide +kernel) rfl (lv_at hl 3 rfl) ?_
  refine lv_iconst (v := 1) hx hb (show decode code 626 = .ok (.iconst 1, 1) by decide +kernel) (by decide) ?_
  refine lv_iadd hx hb (show decode code 627 = .ok (.iadd, 1) by decide +kernel) ?_
  rw [show nI i + 1 = nI (i + 1) from nI_add i 1]
  refine va_sld hx hb hX hbl hbA hS (vp_in_nI (by omega) (by omega)) (show decode code 628 = .ok (.iaload, 1) by decide +kernel) ?_
  rw [nI_clamp (show i + 1 < 2 ^ 31 by omega)]
  refine lv_aload_n hx hb (show decode code 629 = .ok (.aload_n 0, 1) by decide +kernel) rfl (lv_at hl 0 rfl) ?_
  refine lv_iload_n hx hb (show decode code 630 = .ok (.iload_n 3, 1) by decide +kernel) rfl (lv_at hl 3 rfl) ?_
  refine lv_iconst (v := 2) hx hb (show decode code 631 = .ok (.iconst 2, 1) by decide +kernel) (by decide) ?_
  refine lv_iadd hx hb (show decode code 632 = .ok (.iadd, 1) by decide +kernel) ?_
  rw [show nI i + 2 = nI (i + 2) from nI_add i 2]
  refine va_sld hx hb hX hbl hbA hS (vp_in_nI (by omega) (by omega)) (show decode code 633 = .ok (.iaload, 1) by decide +kernel) ?_
  rw [nI_clamp (show i + 2 < 2 ^ 31 by omega)]
  refine zLawCall (μ := 114) (idx := 87) (o := 0) (w := 11) (as := [.inl (xs (i + 1)).toInt, .inl (xs (i + 2)).toInt]) (As := [.int (xs (i + 1)), .int (xs (i + 2))]) (rest := []) C zk_218 (by decide +kernel) (by decide) (by decide +kernel) (by decide +kernel) (by decide) (by decide +kernel) (show (2 : Nat) = zNp 114 by decide +kernel) ⟨by decide +kernel, by decide +kernel⟩ hP hS hcs hl.1 hs1 (by simp [zVm]) rfl (Nat.le_of_ble_eq_true rfl) (show decode code 634 = .ok (.invokevirtual 87, 3) by decide +kernel) (fun z1 M1 H1 locs1 hs2 hP1 hS1 => ?_)
  refine lv_aload_n hx hb (show decode code 637 = .ok (.aload_n 2, 1) by decide +kernel) rfl (lv_at hl 2 rfl) ?_
  refine lv_aload_n hx hb (show decode code 638 = .ok (.aload_n 0, 1) by decide +kernel) rfl (lv_at hl 0 rfl) ?_
  refine lv_iload_n hx hb (show decode code 639 = .ok (.iload_n 3, 1) by decide +kernel) rfl (lv_at hl 3 rfl) ?_
  refine lv_iconst (v := 1) hx hb (show decode code 640 = .ok (.iconst 1, 1) by decide +kernel) (by decide) ?_
  refine lv_iadd hx hb (show decode code 641 = .ok (.iadd, 1) by decide +kernel) ?_
  rw [show nI i + 1 = nI (i + 1) from nI_add i 1]
  refine va_sld hx hb hX hbl hbA hS1 (vp_in_nI (by omega) (by omega)) (show decode code 642 = .ok (.iaload, 1) by decide +kernel) ?_
  rw [nI_clamp (show i + 1 < 2 ^ 31 by omega)]
  refine lv_aload_n hx hb (show decode code 643 = .ok (.aload_n 0, 1) by decide +kernel) rfl (lv_at hl 0 rfl) ?_
  refine lv_iload_n hx hb (show decode code 644 = .ok (.iload_n 3, 1) by decide +kernel) rfl (lv_at hl 3 rfl) ?_
  refine lv_iconst (v := 2) hx hb (show decode code 645 = .ok (.iconst 2, 1) by decide +kernel) (by decide) ?_
  refine lv_iadd hx hb (show decode code 646 = .ok (.iadd, 1) by decide +kernel) ?_
  rw [show nI i + 2 = nI (i + 2) from nI_add i 2]
  refine va_sld hx hb hX hbl hbA hS1 (vp_in_nI (by omega) (by omega)) (show decode code 647 = .ok (.iaload, 1) by decide +kernel) ?_
  rw [nI_clamp (show i + 2 < 2 ^ 31 by omega)]
  refine zLawCall (μ := 223) (idx := 90) (o := 154) (w := 12) (as := [.inl (xs (i + 1)).toInt, .inl (xs (i + 2)).toInt]) (As := [.int (xs (i + 1)), .int (xs (i + 2))]) (rest := [.int (Int32.ofInt z1)]) C zk_219 (by decide +kernel) (by decide) (by decide +kernel) (by decide +kernel) (by decide) (by decide +kernel) (show (2 : Nat) = zNp 223 by decide +kernel) ⟨by decide +kernel, by decide +kernel⟩ hP1 hS1 hcs hl.1 hs2 (by simp [zVm]) rfl (Nat.le_of_ble_eq_true rfl) (show decode code 648 = .ok (.invokevirtual 90, 3) by decide +kernel) (fun z2 M2 H2 locs2 hs3 hP2 hS2 => ?_)
  obtain ⟨e1, hM2⟩ := hs3
  subst e1
  refine lv_icmp_eq (tgt := 1045) hx hb (show decode code 651 = .ok (.if_icmp .eq 394, 3) by decide +kernel) (by decide) (fun _ => ?_) (fun q => absurd rfl q)
  exact kk M2 H2 locs2 hM2 hP2 hS2
set_option maxHeartbeats 4000000 in
theorem law_18 {Inv : Mm → Prop} (hs : zStep_18 Inv) (C : zLC p l s m meth c b L xs dC dI ad cA) {i : Nat} (hi : i + 6 ≤ L) (hM : Inv M) (hP : va_P (dC, dI) zCm (zWd ad cA M) H) (hS : va_S (fun q => s.heap.size ≤ q) s.heap H locs) (hl : lv_has ls 4 [(0, .ref b), (1, .ref (ad 0)), (2, .ref (ad 154)), (3, .int (nI i))]) (hcs : cells ≤ room_1.cells ∧ slots ≤ room_1.slots)
    (kk : ∀ (M1 : Mm) (H1 : Heap) (locs1 : List Loc), Inv M1 → va_P (dC, dI) zCm (zWd ad cA M1) H1 → va_S (fun q => s.heap.size ≤ q) s.heap H1 locs1 → W p l e room_1 s m #[Value.ref b] below meth c H1 locs1 cells slots Q (F0 m 1045 ls [])) :
    W p l e room_1 s m #[Value.ref b] below meth c H locs cells slots Q (F0 m 656 ls []) := by
  obtain ⟨hx, hb, hml, hown, hts, hX, hbl, hK, hinj, hnw, hst0, had, hL⟩ := id C
  have hbA : ¬ (fun q : Nat => s.heap.size ≤ q) b := Nat.not_le.mpr hbl
  have hs1 := hs M hM (xs (i + 1)).toInt (zR32_toInt _)
  refine lv_aload_n hx hb (show decode code 656 = .ok (.aload_n 1, 1) by decide +kernel) rfl (lv_at hl 1 rfl) ?_
  refine lv_aload_n hx hb (show decode code 657 = .ok (.aload_n 0, 1) by decide +kernel) rfl (lv_at hl 0 rfl) ?_
  refine lv_iload_n hx hb (show decode code 658 = .ok (.iload_n 3, 1) by decide +kernel) rfl (lv_at hl 3 rfl) ?_
  refine lv_iconst (v := 1) hx hb (show decode code 659 = .ok (.iconst 1, 1) by decide +kernel) (by decide) ?_
  refine lv_iadd hx hb (show decode code 660 = .ok (.iadd, 1) by decide +kernel) ?_
  rw [show nI i + 1 = nI (i + 1) from nI_add i 1]
  refine va_sld hx hb hX hbl hbA hS (vp_in_nI (by omega) (by omega)) (show decode code 661 = .ok (.iaload, 1) by decide +kernel) ?_
  rw [nI_clamp (show i + 1 < 2 ^ 31 by omega)]
  refine zLawCall (μ := 115) (idx := 91) (o := 0) (w := 11) (as := [.inl (xs (i + 1)).toInt]) (As := [.int (xs (i + 1))]) (rest := []) C zk_220 (by decide +kernel) (by decide) (by decide +kernel) (by decide +kernel) (by decide) (by decide +kernel) (show (1 : Nat) = zNp 115 by decide +kernel) ⟨by decide +kernel, by decide +kernel⟩ hP hS hcs hl.1 hs1 (by simp [zVm]) rfl (Nat.le_of_ble_eq_true rfl) (show decode code 662 = .ok (.invokevirtual 91, 3) by decide +kernel) (fun z1 M1 H1 locs1 hs2 hP1 hS1 => ?_)
  refine lv_aload_n hx hb (show decode code 665 = .ok (.aload_n 2, 1) by decide +kernel) rfl (lv_at hl 2 rfl) ?_
  refine lv_aload_n hx hb (show decode code 666 = .ok (.aload_n 0, 1) by decide +kernel) rfl (lv_at hl 0 rfl) ?_
  refine lv_iload_n hx hb (show decode code 667 = .ok (.iload_n 3, 1) by decide +kernel) rfl (lv_at hl 3 rfl) ?_
  refine lv_iconst (v := 1) hx hb (show decode code 668 = .ok (.iconst 1, 1) by decide +kernel) (by decide) ?_
  refine lv_iadd hx hb (show decode code 669 = .ok (.iadd, 1) by decide +kernel) ?_
  rw [show nI i + 1 = nI (i + 1) from nI_add i 1]
  refine va_sld hx hb hX hbl hbA hS1 (vp_in_nI (by omega) (by omega)) (show decode code 670 = .ok (.iaload, 1) by decide +kernel) ?_
  rw [nI_clamp (show i + 1 < 2 ^ 31 by omega)]
  refine zLawCall (μ := 224) (idx := 94) (o := 154) (w := 12) (as := [.inl (xs (i + 1)).toInt]) (As := [.int (xs (i + 1))]) (rest := [.int (Int32.ofInt z1)]) C zk_221 (by decide +kernel) (by decide) (by decide +kernel) (by decide +kernel) (by decide) (by decide +kernel) (show (1 : Nat) = zNp 224 by decide +kernel) ⟨by decide +kernel, by decide +kernel⟩ hP1 hS1 hcs hl.1 hs2 (by simp [zVm]) rfl (Nat.le_of_ble_eq_true rfl) (show decode code 671 = .ok (.invokevirtual 94, 3) by decide +kernel) (fun z2 M2 H2 locs2 hs3 hP2 hS2 => ?_)
  obtain ⟨e1, hM2⟩ := hs3
  subst e1
  refine lv_icmp_eq (tgt := 1045) hx hb (show decode code 674 = .ok (.if_icmp .eq 371, 3) by decide +kernel) (by decide) (fun _ => ?_) (fun q => absurd rfl q)
  exact kk M2 H2 locs2 hM2 hP2 hS2
set_option maxHeartbeats 4000000 in
theorem law_19 {Inv : Mm → Prop} (hs : zStep_19 Inv) (C : zLC p l s m meth c b L xs dC dI ad cA) {i : Nat} (hi : i + 6 ≤ L) (hM : Inv M) (hP : va_P (dC, dI) zCm (zWd ad cA M) H) (hS : va_S (fun q => s.heap.size ≤ q) s.heap H locs) (hl : lv_has ls 4 [(0, .ref b), (1, .ref (ad 0)), (2, .ref (ad 154)), (3, .int (nI i))]) (hcs : cells ≤ room_1.cells ∧ slots ≤ room_1.slots)
    (kk : ∀ (M1 : Mm) (H1 : Heap) (locs1 : List Loc), Inv M1 → va_P (dC, dI) zCm (zWd ad cA M1) H1 → va_S (fun q => s.heap.size ≤ q) s.heap H1 locs1 → W p l e room_1 s m #[Value.ref b] below meth c H1 locs1 cells slots Q (F0 m 1045 ls [])) :
    W p l e room_1 s m #[Value.ref b] below meth c H locs cells slots Q (F0 m 679 ls []) := by
  obtain ⟨hx, hb, hml, hown, hts, hX, hbl, hK, hinj, hnw, hst0, had, hL⟩ := id C
  have hbA : ¬ (fun q : Nat => s.heap.size ≤ q) b := Nat.not_le.mpr hbl
  have hs1 := hs M hM (xs (i + 1)).toInt (zR32_toInt _)
  refine lv_aload_n hx hb (show decode code 679 = .ok (.aload_n 1, 1) by decide +kernel) rfl (lv_at hl 1 rfl) ?_
  refine lv_aload_n hx hb (show decode code 680 = .ok (.aload_n 0, 1) by decide +kernel) rfl (lv_at hl 0 rfl) ?_
  refine lv_iload_n hx hb (show decode code 681 = .ok (.iload_n 3, 1) by decide +kernel) rfl (lv_at hl 3 rfl) ?_
  refine lv_iconst (v := 1) hx hb (show decode code 682 = .ok (.iconst 1, 1) by decide +kernel) (by decide) ?_
  refine lv_iadd hx hb (show decode code 683 = .ok (.iadd, 1) by decide +kernel) ?_
  rw [show nI i + 1 = nI (i + 1) from nI_add i 1]
  refine va_sld hx hb hX hbl hbA hS (vp_in_nI (by omega) (by omega)) (show decode code 684 = .ok (.iaload, 1) by decide +kernel) ?_
  rw [nI_clamp (show i + 1 < 2 ^ 31 by omega)]
  refine zLawCall (μ := 116) (idx := 95) (o := 0) (w := 11) (as := [.inl (xs (i + 1)).toInt]) (As := [.int (xs (i + 1))]) (rest := []) C zk_222 (by decide +kernel) (by decide) (by decide +kernel) (by decide +kernel) (by decide) (by decide +kernel) (show (1 : Nat) = zNp 116 by decide +kernel) ⟨by decide +kernel, by decide +kernel⟩ hP hS hcs hl.1 hs1 (by simp [zVm]) rfl (Nat.le_of_ble_eq_true rfl) (show decode code 685 = .ok (.invokevirtual 95, 3) by decide +kernel) (fun z1 M1 H1 locs1 hs2 hP1 hS1 => ?_)
  refine lv_aload_n hx hb (show decode code 688 = .ok (.aload_n 2, 1) by decide +kernel) rfl (lv_at hl 2 rfl) ?_
  refine lv_aload_n hx hb (show decode code 689 = .ok (.aload_n 0, 1) by decide +kernel) rfl (lv_at hl 0 rfl) ?_
  refine lv_iload_n hx hb (show decode code 690 = .ok (.iload_n 3, 1) by decide +kernel) rfl (lv_at hl 3 rfl) ?_
  refine lv_iconst (v := 1) hx hb (show decode code 691 = .ok (.iconst 1, 1) by decide +kernel) (by decide) ?_
  refine lv_iadd hx hb (show decode code 692 = .ok (.iadd, 1) by decide +kernel) ?_
  rw [show nI i + 1 = nI (i + 1) from nI_add i 1]
  refine va_sld hx hb hX hbl hbA hS1 (vp_in_nI (by omega) (by omega)) (show decode code 693 = .ok (.iaload, 1) by decide +kernel) ?_
  rw [nI_clamp (show i + 1 < 2 ^ 31 by omega)]
  refine zLawCall (μ := 225) (idx := 98) (o := 154) (w := 12) (as := [.inl (xs (i + 1)).toInt]) (As := [.int (xs (i + 1))]) (rest := [.int (Int32.ofInt z1)]) C zk_223 (by decide +kernel) (by decide) (by decide +kernel) (by decide +kernel) (by decide) (by decide +kernel) (show (1 : Nat) = zNp 225 by decide +kernel) ⟨by decide +kernel, by decide +kernel⟩ hP1 hS1 hcs hl.1 hs2 (by simp [zVm]) rfl (Nat.le_of_ble_eq_true rfl) (show decode code 694 = .ok (.invokevirtual 98, 3) by decide +kernel) (fun z2 M2 H2 locs2 hs3 hP2 hS2 => ?_)
  obtain ⟨e1, hM2⟩ := hs3
  subst e1
  refine lv_icmp_eq (tgt := 1045) hx hb (show decode code 697 = .ok (.if_icmp .eq 348, 3) by decide +kernel) (by decide) (fun _ => ?_) (fun q => absurd rfl q)
  exact kk M2 H2 locs2 hM2 hP2 hS2
set_option maxHeartbeats 4000000 in
theorem law_20 {Inv : Mm → Prop} (hs : zStep_20 Inv) (C : zLC p l s m meth c b L xs dC dI ad cA) {i : Nat} (hi : i + 6 ≤ L) (hM : Inv M) (hP : va_P (dC, dI) zCm (zWd ad cA M) H) (hS : va_S (fun q => s.heap.size ≤ q) s.heap H locs) (hl : lv_has ls 4 [(0, .ref b), (1, .ref (ad 0)), (2, .ref (ad 154)), (3, .int (nI i))]) (hcs : cells ≤ room_1.cells ∧ slots ≤ room_1.slots)
    (kk : ∀ (M1 : Mm) (H1 : Heap) (locs1 : List Loc), Inv M1 → va_P (dC, dI) zCm (zWd ad cA M1) H1 → va_S (fun q => s.heap.size ≤ q) s.heap H1 locs1 → W p l e room_1 s m #[Value.ref b] below meth c H1 locs1 cells slots Q (F0 m 1045 ls [])) :
    W p l e room_1 s m #[Value.ref b] below meth c H locs cells slots Q (F0 m 702 ls []) := by
  obtain ⟨hx, hb, hml, hown, hts, hX, hbl, hK, hinj, hnw, hst0, had, hL⟩ := id C
  have hbA : ¬ (fun q : Nat => s.heap.size ≤ q) b := Nat.not_le.mpr hbl
  have hs1 := hs M hM
  refine lv_aload_n hx hb (show decode code 702 = .ok (.aload_n 1, 1) by decide +kernel) rfl (lv_at hl 1 rfl) ?_
  refine zLawCall (μ := 117) (idx := 99) (o := 0) (w := 11) (as := []) (As := []) (rest := []) C zk_224 (by decide +kernel) (by decide) (by decide +kernel) (by decide +kernel) (by decide) (by decide +kernel) (show (0 : Nat) = zNp 117 by decide +kernel) ⟨by decide +kernel, by decide +kernel⟩ hP hS hcs hl.1 hs1 (by simp [zVm]) rfl (Nat.le_of_ble_eq_true rfl) (show decode code 703 = .ok (.invokevirtual 99, 3) by decide +kernel) (fun z1 M1 H1 locs1 hs2 hP1 hS1 => ?_)
  refine lv_aload_n hx hb (show decode code 706 = .ok (.aload_n 2, 1) by decide +kernel) rfl (lv_at hl 2 rfl) ?_
  refine zLawCall (μ := 226) (idx := 102) (o := 154) (w := 12) (as := []) (As := []) (rest := [.int (Int32.ofInt z1)]) C zk_225 (by decide +kernel) (by decide) (by decide +kernel) (by decide +kernel) (by decide) (by decide +kernel) (show (0 : Nat) = zNp 226 by decide +kernel) ⟨by decide +kernel, by decide +kernel⟩ hP1 hS1 hcs hl.1 hs2 (by simp [zVm]) rfl (Nat.le_of_ble_eq_true rfl) (show decode code 707 = .ok (.invokevirtual 102, 3) by decide +kernel) (fun z2 M2 H2 locs2 hs3 hP2 hS2 => ?_)
  obtain ⟨e1, hM2⟩ := hs3
  subst e1
  refine lv_icmp_eq (tgt := 1045) hx hb (show decode code 710 = .ok (.if_icmp .eq 335, 3) by decide +kernel) (by decide) (fun _ => ?_) (fun q => absurd rfl q)
  exact kk M2 H2 locs2 hM2 hP2 hS2
set_option maxHeartbeats 4000000 in
theorem law_21 {Inv : Mm → Prop} (hs : zStep_21 Inv) (C : zLC p l s m meth c b L xs dC dI ad cA) {i : Nat} (hi : i + 6 ≤ L) (hM : Inv M) (hP : va_P (dC, dI) zCm (zWd ad cA M) H) (hS : va_S (fun q => s.heap.size ≤ q) s.heap H locs) (hl : lv_has ls 4 [(0, .ref b), (1, .ref (ad 0)), (2, .ref (ad 154)), (3, .int (nI i))]) (hcs : cells ≤ room_1.cells ∧ slots ≤ room_1.slots)
    (kk : ∀ (M1 : Mm) (H1 : Heap) (locs1 : List Loc), Inv M1 → va_P (dC, dI) zCm (zWd ad cA M1) H1 → va_S (fun q => s.heap.size ≤ q) s.heap H1 locs1 → W p l e room_1 s m #[Value.ref b] below meth c H1 locs1 cells slots Q (F0 m 1045 ls [])) :
    W p l e room_1 s m #[Value.ref b] below meth c H locs cells slots Q (F0 m 715 ls []) := by
  obtain ⟨hx, hb, hml, hown, hts, hX, hbl, hK, hinj, hnw, hst0, had, hL⟩ := id C
  have hbA : ¬ (fun q : Nat => s.heap.size ≤ q) b := Nat.not_le.mpr hbl
  have hs1 := hs M hM (xs (i + 1)).toInt (zR32_toInt _) (xs (i + 2)).toInt (zR32_toInt _)
  refine lv_aload_n hx hb (show decode code 715 = .ok (.aload_n 1, 1) by decide +kernel) rfl (lv_at hl 1 rfl) ?_
  refine lv_aload_n hx hb (show decode code 716 = .ok (.aload_n 0, 1) by decide +kernel) rfl (lv_at hl 0 rfl) ?_
  refine lv_iload_n hx hb (show decode code 717 = .ok (.iload_n 3, 1) by decide +kernel) rfl (lv_at hl 3 rfl) ?_
  refine lv_iconst (v := 1) hx hb (show decode code 718 = .ok (.iconst 1, 1) by decide +kernel) (by decide) ?_
  refine lv_iadd hx hb (show decode code 719 = .ok (.iadd, 1) by decide +kernel) ?_
  rw [show nI i + 1 = nI (i + 1) from nI_add i 1]
  refine va_sld hx hb hX hbl hbA hS (vp_in_nI (by omega) (by omega)) (show decode code 720 = .ok (.iaload, 1) by decide +kernel) ?_
  rw [nI_clamp (show i + 1 < 2 ^ 31 by omega)]
  refine lv_aload_n hx hb (show decode code 721 = .ok (.aload_n 0, 1) by decide +kernel) rfl (lv_at hl 0 rfl) ?_
  refine lv_iload_n hx hb (show decode code 722 = .ok (.iload_n 3, 1) by decide +kernel) rfl (lv_at hl 3 rfl) ?_
  refine lv_iconst (v := 2) hx hb (show decode code 723 = .ok (.iconst 2, 1) by decide +kernel) (by decide) ?_
  refine lv_iadd hx hb (show decode code 724 = .ok (.iadd, 1) by decide +kernel) ?_
  rw [show nI i + 2 = nI (i + 2) from nI_add i 2]
  refine va_sld hx hb hX hbl hbA hS (vp_in_nI (by omega) (by omega)) (show decode code 725 = .ok (.iaload, 1) by decide +kernel) ?_
  rw [nI_clamp (show i + 2 < 2 ^ 31 by omega)]
  refine zLawCall (μ := 118) (idx := 103) (o := 0) (w := 11) (as := [.inl (xs (i + 1)).toInt, .inl (xs (i + 2)).toInt]) (As := [.int (xs (i + 1)), .int (xs (i + 2))]) (rest := []) C zk_226 (by decide +kernel) (by decide) (by decide +kernel) (by decide +kernel) (by decide) (by decide +kernel) (show (2 : Nat) = zNp 118 by decide +kernel) ⟨by decide +kernel, by decide +kernel⟩ hP hS hcs hl.1 hs1 (by simp [zVm]) rfl (Nat.le_of_ble_eq_true rfl) (show decode code 726 = .ok (.invokevirtual 103, 3) by decide +kernel) (fun z1 M1 H1 locs1 hs2 hP1 hS1 => ?_)
  refine lv_aload_n hx hb (show decode code 729 = .ok (.aload_n 2, 1) by decide +kernel) rfl (lv_at hl 2 rfl) ?_
  refine lv_aload_n hx hb (show decode code 730 = .ok (.aload_n 0, 1) by decide +kernel) rfl (lv_at hl 0 rfl) ?_
  refine lv_iload_n hx hb (show decode code 731 = .ok (.iload_n 3, 1) by decide +kernel) rfl (lv_at hl 3 rfl) ?_
  refine lv_iconst (v := 1) hx hb (show decode code 732 = .ok (.iconst 1, 1) by decide +kernel) (by decide) ?_
  refine lv_iadd hx hb (show decode code 733 = .ok (.iadd, 1) by decide +kernel) ?_
  rw [show nI i + 1 = nI (i + 1) from nI_add i 1]
  refine va_sld hx hb hX hbl hbA hS1 (vp_in_nI (by omega) (by omega)) (show decode code 734 = .ok (.iaload, 1) by decide +kernel) ?_
  rw [nI_clamp (show i + 1 < 2 ^ 31 by omega)]
  refine lv_aload_n hx hb (show decode code 735 = .ok (.aload_n 0, 1) by decide +kernel) rfl (lv_at hl 0 rfl) ?_
  refine lv_iload_n hx hb (show decode code 736 = .ok (.iload_n 3, 1) by decide +kernel) rfl (lv_at hl 3 rfl) ?_
  refine lv_iconst (v := 2) hx hb (show decode code 737 = .ok (.iconst 2, 1) by decide +kernel) (by decide) ?_
  refine lv_iadd hx hb (show decode code 738 = .ok (.iadd, 1) by decide +kernel) ?_
  rw [show nI i + 2 = nI (i + 2) from nI_add i 2]
  refine va_sld hx hb hX hbl hbA hS1 (vp_in_nI (by omega) (by omega)) (show decode code 739 = .ok (.iaload, 1) by decide +kernel) ?_
  rw [nI_clamp (show i + 2 < 2 ^ 31 by omega)]
  refine zLawCall (μ := 228) (idx := 106) (o := 154) (w := 12) (as := [.inl (xs (i + 1)).toInt, .inl (xs (i + 2)).toInt]) (As := [.int (xs (i + 1)), .int (xs (i + 2))]) (rest := [.int (Int32.ofInt z1)]) C zk_227 (by decide +kernel) (by decide) (by decide +kernel) (by decide +kernel) (by decide) (by decide +kernel) (show (2 : Nat) = zNp 228 by decide +kernel) ⟨by decide +kernel, by decide +kernel⟩ hP1 hS1 hcs hl.1 hs2 (by simp [zVm]) rfl (Nat.le_of_ble_eq_true rfl) (show decode code 740 = .ok (.invokevirtual 106, 3) by decide +kernel) (fun z2 M2 H2 locs2 hs3 hP2 hS2 => ?_)
  obtain ⟨e1, hM2⟩ := hs3
  subst e1
  refine lv_icmp_eq (tgt := 1045) hx hb (show decode code 743 = .ok (.if_icmp .eq 302, 3) by decide +kernel) (by decide) (fun _ => ?_) (fun q => absurd rfl q)
  exact kk M2 H2 locs2 hM2 hP2 hS2
set_option maxHeartbeats 4000000 in
theorem law_22 {Inv : Mm → Prop} (hs : zStep_22 Inv) (C : zLC p l s m meth c b L xs dC dI ad cA) {i : Nat} (hi : i + 6 ≤ L) (hM : Inv M) (hP : va_P (dC, dI) zCm (zWd ad cA M) H) (hS : va_S (fun q => s.heap.size ≤ q) s.heap H locs) (hl : lv_has ls 4 [(0, .ref b), (1, .ref (ad 0)), (2, .ref (ad 154)), (3, .int (nI i))]) (hcs : cells ≤ room_1.cells ∧ slots ≤ room_1.slots)
    (kk : ∀ (M1 : Mm) (H1 : Heap) (locs1 : List Loc), Inv M1 → va_P (dC, dI) zCm (zWd ad cA M1) H1 → va_S (fun q => s.heap.size ≤ q) s.heap H1 locs1 → W p l e room_1 s m #[Value.ref b] below meth c H1 locs1 cells slots Q (F0 m 1045 ls [])) :
    W p l e room_1 s m #[Value.ref b] below meth c H locs cells slots Q (F0 m 748 ls []) := by
  obtain ⟨hx, hb, hml, hown, hts, hX, hbl, hK, hinj, hnw, hst0, had, hL⟩ := id C
  have hbA : ¬ (fun q : Nat => s.heap.size ≤ q) b := Nat.not_le.mpr hbl
  have hs1 := hs M hM (xs (i + 1)).toInt (zR32_toInt _) (xs (i + 2)).toInt (zR32_toInt _)
  refine lv_aload_n hx hb (show decode code 748 = .ok (.aload_n 1, 1) by decide +kernel) rfl (lv_at hl 1 rfl) ?_
  refine lv_aload_n hx hb (show decode code 749 = .ok (.aload_n 0, 1) by decide +kernel) rfl (lv_at hl 0 rfl) ?_
  refine lv_iload_n hx hb (show decode code 750 = .ok (.iload_n 3, 1) by decide +kernel) rfl (lv_at hl 3 rfl) ?_
  refine lv_iconst (v := 1) hx hb (show decode code 751 = .ok (.iconst 1, 1) by decide +kernel) (by decide) ?_
  refine lv_iadd hx hb (show decode code 752 = .ok (.iadd, 1) by decide +kernel) ?_
  rw [show nI i + 1 = nI (i + 1) from nI_add i 1]
  refine va_sld hx hb hX hbl hbA hS (vp_in_nI (by omega) (by omega)) (show decode code 753 = .ok (.iaload, 1) by decide +kernel) ?_
  rw [nI_clamp (show i + 1 < 2 ^ 31 by omega)]
  refine lv_aload_n hx hb (show decode code 754 = .ok (.aload_n 0, 1) by decide +kernel) rfl (lv_at hl 0 rfl) ?_
  refine lv_iload_n hx hb (show decode code 755 = .ok (.iload_n 3, 1) by decide +kernel) rfl (lv_at hl 3 rfl) ?_
  refine lv_iconst (v := 2) hx hb (show decode code 756 = .ok (.iconst 2, 1) by decide +kernel) (by decide) ?_
  refine lv_iadd hx hb (show decode code 757 = .ok (.iadd, 1) by decide +kernel) ?_
  rw [show nI i + 2 = nI (i + 2) from nI_add i 2]
  refine va_sld hx hb hX hbl hbA hS (vp_in_nI (by omega) (by omega)) (show decode code 758 = .ok (.iaload, 1) by decide +kernel) ?_
  rw [nI_clamp (show i + 2 < 2 ^ 31 by omega)]
  refine zLawCall (μ := 119) (idx := 107) (o := 0) (w := 11) (as := [.inl (xs (i + 1)).toInt, .inl (xs (i + 2)).toInt]) (As := [.int (xs (i + 1)), .int (xs (i + 2))]) (rest := []) C zk_228 (by decide +kernel) (by decide) (by decide +kernel) (by decide +kernel) (by decide) (by decide +kernel) (show (2 : Nat) = zNp 119 by decide +kernel) ⟨by decide +kernel, by decide +kernel⟩ hP hS hcs hl.1 hs1 (by simp [zVm]) rfl (Nat.le_of_ble_eq_true rfl) (show decode code 759 = .ok (.invokevirtual 107, 3) by decide +kernel) (fun z1 M1 H1 locs1 hs2 hP1 hS1 => ?_)
  refine lv_aload_n hx hb (show decode code 762 = .ok (.aload_n 2, 1) by decide +kernel) rfl (lv_at hl 2 rfl) ?_
  refine lv_aload_n hx hb (show decode code 763 = .ok (.aload_n 0, 1) by decide +kernel) rfl (lv_at hl 0 rfl) ?_
  refine lv_iload_n hx hb (show decode code 764 = .ok (.iload_n 3, 1) by decide +kernel) rfl (lv_at hl 3 rfl) ?_
  refine lv_iconst (v := 1) hx hb (show decode code 765 = .ok (.iconst 1, 1) by decide +kernel) (by decide) ?_
  refine lv_iadd hx hb (show decode code 766 = .ok (.iadd, 1) by decide +kernel) ?_
  rw [show nI i + 1 = nI (i + 1) from nI_add i 1]
  refine va_sld hx hb hX hbl hbA hS1 (vp_in_nI (by omega) (by omega)) (show decode code 767 = .ok (.iaload, 1) by decide +kernel) ?_
  rw [nI_clamp (show i + 1 < 2 ^ 31 by omega)]
  refine lv_aload_n hx hb (show decode code 768 = .ok (.aload_n 0, 1) by decide +kernel) rfl (lv_at hl 0 rfl) ?_
  refine lv_iload_n hx hb (show decode code 769 = .ok (.iload_n 3, 1) by decide +kernel) rfl (lv_at hl 3 rfl) ?_
  refine lv_iconst (v := 2) hx hb (show decode code 770 = .ok (.iconst 2, 1) by decide +kernel) (by decide) ?_
  refine lv_iadd hx hb (show decode code 771 = .ok (.iadd, 1) by decide +kernel) ?_
  rw [show nI i + 2 = nI (i + 2) from nI_add i 2]
  refine va_sld hx hb hX hbl hbA hS1 (vp_in_nI (by omega) (by omega)) (show decode code 772 = .ok (.iaload, 1) by decide +kernel) ?_
  rw [nI_clamp (show i + 2 < 2 ^ 31 by omega)]
  refine zLawCall (μ := 240) (idx := 110) (o := 154) (w := 12) (as := [.inl (xs (i + 1)).toInt, .inl (xs (i + 2)).toInt]) (As := [.int (xs (i + 1)), .int (xs (i + 2))]) (rest := [.int (Int32.ofInt z1)]) C zk_229 (by decide +kernel) (by decide) (by decide +kernel) (by decide +kernel) (by decide) (by decide +kernel) (show (2 : Nat) = zNp 240 by decide +kernel) ⟨by decide +kernel, by decide +kernel⟩ hP1 hS1 hcs hl.1 hs2 (by simp [zVm]) rfl (Nat.le_of_ble_eq_true rfl) (show decode code 773 = .ok (.invokevirtual 110, 3) by decide +kernel) (fun z2 M2 H2 locs2 hs3 hP2 hS2 => ?_)
  obtain ⟨e1, hM2⟩ := hs3
  subst e1
  refine lv_icmp_eq (tgt := 1045) hx hb (show decode code 776 = .ok (.if_icmp .eq 269, 3) by decide +kernel) (by decide) (fun _ => ?_) (fun q => absurd rfl q)
  exact kk M2 H2 locs2 hM2 hP2 hS2
set_option maxHeartbeats 4000000 in
theorem law_23 {Inv : Mm → Prop} (hs : zStep_23 Inv) (C : zLC p l s m meth c b L xs dC dI ad cA) {i : Nat} (hi : i + 6 ≤ L) (hM : Inv M) (hP : va_P (dC, dI) zCm (zWd ad cA M) H) (hS : va_S (fun q => s.heap.size ≤ q) s.heap H locs) (hl : lv_has ls 4 [(0, .ref b), (1, .ref (ad 0)), (2, .ref (ad 154)), (3, .int (nI i))]) (hcs : cells ≤ room_1.cells ∧ slots ≤ room_1.slots)
    (kk : ∀ (M1 : Mm) (H1 : Heap) (locs1 : List Loc), Inv M1 → va_P (dC, dI) zCm (zWd ad cA M1) H1 → va_S (fun q => s.heap.size ≤ q) s.heap H1 locs1 → W p l e room_1 s m #[Value.ref b] below meth c H1 locs1 cells slots Q (F0 m 1045 ls [])) :
    W p l e room_1 s m #[Value.ref b] below meth c H locs cells slots Q (F0 m 781 ls []) := by
  obtain ⟨hx, hb, hml, hown, hts, hX, hbl, hK, hinj, hnw, hst0, had, hL⟩ := id C
  have hbA : ¬ (fun q : Nat => s.heap.size ≤ q) b := Nat.not_le.mpr hbl
  have hs1 := hs M hM (xs (i + 1)).toInt (zR32_toInt _) (xs (i + 2)).toInt (zR32_toInt _)
  refine lv_aload_n hx hb (show decode code 781 = .ok (.aload_n 1, 1) by decide +kernel) rfl (lv_at hl 1 rfl) ?_
  refine lv_aload_n hx hb (show decode code 782 = .ok (.aload_n 0, 1) by decide +kernel) rfl (lv_at hl 0 rfl) ?_
  refine lv_iload_n hx hb (show decode code 783 = .ok (.iload_n 3, 1) by decide +kernel) rfl (lv_at hl 3 rfl) ?_
  refine lv_iconst (v := 1) hx hb (show decode code 784 = .ok (.iconst 1, 1) by decide +kernel) (by decide) ?_
  refine lv_iadd hx hb (show decode code 785 = .ok (.iadd, 1) by decide +kernel) ?_
  rw [show nI i + 1 = nI (i + 1) from nI_add i 1]
  refine va_sld hx hb hX hbl hbA hS (vp_in_nI (by omega) (by omega)) (show decode code 786 = .ok (.iaload, 1) by decide +kernel) ?_
  rw [nI_clamp (show i + 1 < 2 ^ 31 by omega)]
  refine lv_aload_n hx hb (show decode code 787 = .ok (.aload_n 0, 1) by decide +kernel) rfl (lv_at hl 0 rfl) ?_
  refine lv_iload_n hx hb (show decode code 788 = .ok (.iload_n 3, 1) by decide +kernel) rfl (lv_at hl 3 rfl) ?_
  refine lv_iconst (v := 2) hx hb (show decode code 789 = .ok (.iconst 2, 1) by decide +kernel) (by decide) ?_
  refine lv_iadd hx hb (show decode code 790 = .ok (.iadd, 1) by decide +kernel) ?_
  rw [show nI i + 2 = nI (i + 2) from nI_add i 2]
  refine va_sld hx hb hX hbl hbA hS (vp_in_nI (by omega) (by omega)) (show decode code 791 = .ok (.iaload, 1) by decide +kernel) ?_
  rw [nI_clamp (show i + 2 < 2 ^ 31 by omega)]
  refine zLawCall (μ := 120) (idx := 111) (o := 0) (w := 11) (as := [.inl (xs (i + 1)).toInt, .inl (xs (i + 2)).toInt]) (As := [.int (xs (i + 1)), .int (xs (i + 2))]) (rest := []) C zk_230 (by decide +kernel) (by decide) (by decide +kernel) (by decide +kernel) (by decide) (by decide +kernel) (show (2 : Nat) = zNp 120 by decide +kernel) ⟨by decide +kernel, by decide +kernel⟩ hP hS hcs hl.1 hs1 (by simp [zVm]) rfl (Nat.le_of_ble_eq_true rfl) (show decode code 792 = .ok (.invokevirtual 111, 3) by decide +kernel) (fun z1 M1 H1 locs1 hs2 hP1 hS1 => ?_)
  refine lv_aload_n hx hb (show decode code 795 = .ok (.aload_n 2, 1) by decide +kernel) rfl (lv_at hl 2 rfl) ?_
  refine lv_aload_n hx hb (show decode code 796 = .ok (.aload_n 0, 1) by decide +kernel) rfl (lv_at hl 0 rfl) ?_
  refine lv_iload_n hx hb (show decode code 797 = .ok (.iload_n 3, 1) by decide +kernel) rfl (lv_at hl 3 rfl) ?_
  refine lv_iconst (v := 1) hx hb (show decode code 798 = .ok (.iconst 1, 1) by decide +kernel) (by decide) ?_
  refine lv_iadd hx hb (show decode code 799 = .ok (.iadd, 1) by decide +kernel) ?_
  rw [show nI i + 1 = nI (i + 1) from nI_add i 1]
  refine va_sld hx hb hX hbl hbA hS1 (vp_in_nI (by omega) (by omega)) (show decode code 800 = .ok (.iaload, 1) by decide +kernel) ?_
  rw [nI_clamp (show i + 1 < 2 ^ 31 by omega)]
  refine lv_aload_n hx hb (show decode code 801 = .ok (.aload_n 0, 1) by decide +kernel) rfl (lv_at hl 0 rfl) ?_
  refine lv_iload_n hx hb (show decode code 802 = .ok (.iload_n 3, 1) by decide +kernel) rfl (lv_at hl 3 rfl) ?_
  refine lv_iconst (v := 2) hx hb (show decode code 803 = .ok (.iconst 2, 1) by decide +kernel) (by decide) ?_
  refine lv_iadd hx hb (show decode code 804 = .ok (.iadd, 1) by decide +kernel) ?_
  rw [show nI i + 2 = nI (i + 2) from nI_add i 2]
  refine va_sld hx hb hX hbl hbA hS1 (vp_in_nI (by omega) (by omega)) (show decode code 805 = .ok (.iaload, 1) by decide +kernel) ?_
  rw [nI_clamp (show i + 2 < 2 ^ 31 by omega)]
  refine zLawCall (μ := 241) (idx := 114) (o := 154) (w := 12) (as := [.inl (xs (i + 1)).toInt, .inl (xs (i + 2)).toInt]) (As := [.int (xs (i + 1)), .int (xs (i + 2))]) (rest := [.int (Int32.ofInt z1)]) C zk_231 (by decide +kernel) (by decide) (by decide +kernel) (by decide +kernel) (by decide) (by decide +kernel) (show (2 : Nat) = zNp 241 by decide +kernel) ⟨by decide +kernel, by decide +kernel⟩ hP1 hS1 hcs hl.1 hs2 (by simp [zVm]) rfl (Nat.le_of_ble_eq_true rfl) (show decode code 806 = .ok (.invokevirtual 114, 3) by decide +kernel) (fun z2 M2 H2 locs2 hs3 hP2 hS2 => ?_)
  obtain ⟨e1, hM2⟩ := hs3
  subst e1
  refine lv_icmp_eq (tgt := 1045) hx hb (show decode code 809 = .ok (.if_icmp .eq 236, 3) by decide +kernel) (by decide) (fun _ => ?_) (fun q => absurd rfl q)
  exact kk M2 H2 locs2 hM2 hP2 hS2
set_option maxHeartbeats 4000000 in
theorem law_24 {Inv : Mm → Prop} (hs : zStep_24 Inv) (C : zLC p l s m meth c b L xs dC dI ad cA) {i : Nat} (hi : i + 6 ≤ L) (hM : Inv M) (hP : va_P (dC, dI) zCm (zWd ad cA M) H) (hS : va_S (fun q => s.heap.size ≤ q) s.heap H locs) (hl : lv_has ls 4 [(0, .ref b), (1, .ref (ad 0)), (2, .ref (ad 154)), (3, .int (nI i))]) (hcs : cells ≤ room_1.cells ∧ slots ≤ room_1.slots)
    (kk : ∀ (M1 : Mm) (H1 : Heap) (locs1 : List Loc), Inv M1 → va_P (dC, dI) zCm (zWd ad cA M1) H1 → va_S (fun q => s.heap.size ≤ q) s.heap H1 locs1 → W p l e room_1 s m #[Value.ref b] below meth c H1 locs1 cells slots Q (F0 m 1045 ls [])) :
    W p l e room_1 s m #[Value.ref b] below meth c H locs cells slots Q (F0 m 814 ls []) := by
  obtain ⟨hx, hb, hml, hown, hts, hX, hbl, hK, hinj, hnw, hst0, had, hL⟩ := id C
  have hbA : ¬ (fun q : Nat => s.heap.size ≤ q) b := Nat.not_le.mpr hbl
  have hs1 := hs M hM (xs (i + 1)).toInt (zR32_toInt _) (xs (i + 2)).toInt (zR32_toInt _) (xs (i + 3)).toInt (zR32_toInt _) (xs (i + 4)).toInt (zR32_toInt _)
  refine lv_aload_n hx hb (show decode code 814 = .ok (.aload_n 1, 1) by decide +kernel) rfl (lv_at hl 1 rfl) ?_
  refine lv_aload_n hx hb (show decode code 815 = .ok (.aload_n 0, 1) by decide +kernel) rfl (lv_at hl 0 rfl) ?_
  refine lv_iload_n hx hb (show decode code 816 = .ok (.iload_n 3, 1) by decide +kernel) rfl (lv_at hl 3 rfl) ?_
  refine lv_iconst (v := 1) hx hb (show decode code 817 = .ok (.iconst 1, 1) by decide +kernel) (by decide) ?_
  refine lv_iadd hx hb (show decode code 818 = .ok (.iadd, 1) by decide +kernel) ?_
  rw [show nI i + 1 = nI (i + 1) from nI_add i 1]
  refine va_sld hx hb hX hbl hbA hS (vp_in_nI (by omega) (by omega)) (show decode code 819 = .ok (.iaload, 1) by decide +kernel) ?_
  rw [nI_clamp (show i + 1 < 2 ^ 31 by omega)]
  refine lv_aload_n hx hb (show decode code 820 = .ok (.aload_n 0, 1) by decide +kernel) rfl (lv_at hl 0 rfl) ?_
  refine lv_iload_n hx hb (show decode code 821 = .ok (.iload_n 3, 1) by decide +kernel) rfl (lv_at hl 3 rfl) ?_
  refine lv_iconst (v := 2) hx hb (show decode code 822 = .ok (.iconst 2, 1) by decide +kernel) (by decide) ?_
  refine lv_iadd hx hb (show decode code 823 = .ok (.iadd, 1) by decide +kernel) ?_
  rw [show nI i + 2 = nI (i + 2) from nI_add i 2]
  refine va_sld hx hb hX hbl hbA hS (vp_in_nI (by omega) (by omega)) (show decode code 824 = .ok (.iaload, 1) by decide +kernel) ?_
  rw [nI_clamp (show i + 2 < 2 ^ 31 by omega)]
  refine lv_aload_n hx hb (show decode code 825 = .ok (.aload_n 0, 1) by decide +kernel) rfl (lv_at hl 0 rfl) ?_
  refine lv_iload_n hx hb (show decode code 826 = .ok (.iload_n 3, 1) by decide +kernel) rfl (lv_at hl 3 rfl) ?_
  refine lv_iconst (v := 3) hx hb (show decode code 827 = .ok (.iconst 3, 1) by decide +kernel) (by decide) ?_
  refine lv_iadd hx hb (show decode code 828 = .ok (.iadd, 1) by decide +kernel) ?_
  rw [show nI i + 3 = nI (i + 3) from nI_add i 3]
  refine va_sld hx hb hX hbl hbA hS (vp_in_nI (by omega) (by omega)) (show decode code 829 = .ok (.iaload, 1) by decide +kernel) ?_
  rw [nI_clamp (show i + 3 < 2 ^ 31 by omega)]
  refine lv_aload_n hx hb (show decode code 830 = .ok (.aload_n 0, 1) by decide +kernel) rfl (lv_at hl 0 rfl) ?_
  refine lv_iload_n hx hb (show decode code 831 = .ok (.iload_n 3, 1) by decide +kernel) rfl (lv_at hl 3 rfl) ?_
  refine lv_iconst (v := 4) hx hb (show decode code 832 = .ok (.iconst 4, 1) by decide +kernel) (by decide) ?_
  refine lv_iadd hx hb (show decode code 833 = .ok (.iadd, 1) by decide +kernel) ?_
  rw [show nI i + 4 = nI (i + 4) from nI_add i 4]
  refine va_sld hx hb hX hbl hbA hS (vp_in_nI (by omega) (by omega)) (show decode code 834 = .ok (.iaload, 1) by decide +kernel) ?_
  rw [nI_clamp (show i + 4 < 2 ^ 31 by omega)]
  refine zLawCall (μ := 121) (idx := 115) (o := 0) (w := 11) (as := [.inl (xs (i + 1)).toInt, .inl (xs (i + 2)).toInt, .inl (xs (i + 3)).toInt, .inl (xs (i + 4)).toInt]) (As := [.int (xs (i + 1)), .int (xs (i + 2)), .int (xs (i + 3)), .int (xs (i + 4))]) (rest := []) C zk_232 (by decide +kernel) (by decide) (by decide +kernel) (by decide +kernel) (by decide) (by decide +kernel) (show (4 : Nat) = zNp 121 by decide +kernel) ⟨by decide +kernel, by decide +kernel⟩ hP hS hcs hl.1 hs1 (by simp [zVm]) rfl (Nat.le_of_ble_eq_true rfl) (show decode code 835 = .ok (.invokevirtual 115, 3) by decide +kernel) (fun z1 M1 H1 locs1 hs2 hP1 hS1 => ?_)
  refine lv_aload_n hx hb (show decode code 838 = .ok (.aload_n 2, 1) by decide +kernel) rfl (lv_at hl 2 rfl) ?_
  refine lv_aload_n hx hb (show decode code 839 = .ok (.aload_n 0, 1) by decide +kernel) rfl (lv_at hl 0 rfl) ?_
  refine lv_iload_n hx hb (show decode code 840 = .ok (.iload_n 3, 1) by decide +kernel) rfl (lv_at hl 3 rfl) ?_
  refine lv_iconst (v := 1) hx hb (show decode code 841 = .ok (.iconst 1, 1) by decide +kernel) (by decide) ?_
  refine lv_iadd hx hb (show decode code 842 = .ok (.iadd, 1) by decide +kernel) ?_
  rw [show nI i + 1 = nI (i + 1) from nI_add i 1]
  refine va_sld hx hb hX hbl hbA hS1 (vp_in_nI (by omega) (by omega)) (show decode code 843 = .ok (.iaload, 1) by decide +kernel) ?_
  rw [nI_clamp (show i + 1 < 2 ^ 31 by omega)]
  refine lv_aload_n hx hb (show decode code 844 = .ok (.aload_n 0, 1) by decide +kernel) rfl (lv_at hl 0 rfl) ?_
  refine lv_iload_n hx hb (show decode code 845 = .ok (.iload_n 3, 1) by decide +kernel) rfl (lv_at hl 3 rfl) ?_
  refine lv_iconst (v := 2) hx hb (show decode code 846 = .ok (.iconst 2, 1) by decide +kernel) (by decide) ?_
  refine lv_iadd hx hb (show decode code 847 = .ok (.iadd, 1) by decide +kernel) ?_
  rw [show nI i + 2 = nI (i + 2) from nI_add i 2]
  refine va_sld hx hb hX hbl hbA hS1 (vp_in_nI (by omega) (by omega)) (show decode code 848 = .ok (.iaload, 1) by decide +kernel) ?_
  rw [nI_clamp (show i + 2 < 2 ^ 31 by omega)]
  refine lv_aload_n hx hb (show decode code 849 = .ok (.aload_n 0, 1) by decide +kernel) rfl (lv_at hl 0 rfl) ?_
  refine lv_iload_n hx hb (show decode code 850 = .ok (.iload_n 3, 1) by decide +kernel) rfl (lv_at hl 3 rfl) ?_
  refine lv_iconst (v := 3) hx hb (show decode code 851 = .ok (.iconst 3, 1) by decide +kernel) (by decide) ?_
  refine lv_iadd hx hb (show decode code 852 = .ok (.iadd, 1) by decide +kernel) ?_
  rw [show nI i + 3 = nI (i + 3) from nI_add i 3]
  refine va_sld hx hb hX hbl hbA hS1 (vp_in_nI (by omega) (by omega)) (show decode code 853 = .ok (.iaload, 1) by decide +kernel) ?_
  rw [nI_clamp (show i + 3 < 2 ^ 31 by omega)]
  refine lv_aload_n hx hb (show decode code 854 = .ok (.aload_n 0, 1) by decide +kernel) rfl (lv_at hl 0 rfl) ?_
  refine lv_iload_n hx hb (show decode code 855 = .ok (.iload_n 3, 1) by decide +kernel) rfl (lv_at hl 3 rfl) ?_
  refine lv_iconst (v := 4) hx hb (show decode code 856 = .ok (.iconst 4, 1) by decide +kernel) (by decide) ?_
  refine lv_iadd hx hb (show decode code 857 = .ok (.iadd, 1) by decide +kernel) ?_
  rw [show nI i + 4 = nI (i + 4) from nI_add i 4]
  refine va_sld hx hb hX hbl hbA hS1 (vp_in_nI (by omega) (by omega)) (show decode code 858 = .ok (.iaload, 1) by decide +kernel) ?_
  rw [nI_clamp (show i + 4 < 2 ^ 31 by omega)]
  refine zLawCall (μ := 242) (idx := 119) (o := 154) (w := 12) (as := [.inl (xs (i + 1)).toInt, .inl (xs (i + 2)).toInt, .inl (xs (i + 3)).toInt, .inl (xs (i + 4)).toInt]) (As := [.int (xs (i + 1)), .int (xs (i + 2)), .int (xs (i + 3)), .int (xs (i + 4))]) (rest := [.int (Int32.ofInt z1)]) C zk_233 (by decide +kernel) (by decide) (by decide +kernel) (by decide +kernel) (by decide) (by decide +kernel) (show (4 : Nat) = zNp 242 by decide +kernel) ⟨by decide +kernel, by decide +kernel⟩ hP1 hS1 hcs hl.1 hs2 (by simp [zVm]) rfl (Nat.le_of_ble_eq_true rfl) (show decode code 859 = .ok (.invokevirtual 119, 3) by decide +kernel) (fun z2 M2 H2 locs2 hs3 hP2 hS2 => ?_)
  obtain ⟨e1, hM2⟩ := hs3
  subst e1
  refine lv_icmp_eq (tgt := 1045) hx hb (show decode code 862 = .ok (.if_icmp .eq 183, 3) by decide +kernel) (by decide) (fun _ => ?_) (fun q => absurd rfl q)
  exact kk M2 H2 locs2 hM2 hP2 hS2
set_option maxHeartbeats 4000000 in
theorem law_25 {Inv : Mm → Prop} (hs : zStep_25 Inv) (C : zLC p l s m meth c b L xs dC dI ad cA) {i : Nat} (hi : i + 6 ≤ L) (hM : Inv M) (hP : va_P (dC, dI) zCm (zWd ad cA M) H) (hS : va_S (fun q => s.heap.size ≤ q) s.heap H locs) (hl : lv_has ls 4 [(0, .ref b), (1, .ref (ad 0)), (2, .ref (ad 154)), (3, .int (nI i))]) (hcs : cells ≤ room_1.cells ∧ slots ≤ room_1.slots)
    (kk : ∀ (M1 : Mm) (H1 : Heap) (locs1 : List Loc), Inv M1 → va_P (dC, dI) zCm (zWd ad cA M1) H1 → va_S (fun q => s.heap.size ≤ q) s.heap H1 locs1 → W p l e room_1 s m #[Value.ref b] below meth c H1 locs1 cells slots Q (F0 m 1045 ls [])) :
    W p l e room_1 s m #[Value.ref b] below meth c H locs cells slots Q (F0 m 867 ls []) := by
  obtain ⟨hx, hb, hml, hown, hts, hX, hbl, hK, hinj, hnw, hst0, had, hL⟩ := id C
  have hbA : ¬ (fun q : Nat => s.heap.size ≤ q) b := Nat.not_le.mpr hbl
  have hs1 := hs M hM (xs (i + 1)).toInt (zR32_toInt _)
  refine lv_aload_n hx hb (show decode code 867 = .ok (.aload_n 1, 1) by decide +kernel) rfl (lv_at hl 1 rfl) ?_
  refine lv_aload_n hx hb (show decode code 868 = .ok (.aload_n 0, 1) by decide +kernel) rfl (lv_at hl 0 rfl) ?_
  refine lv_iload_n hx hb (show decode code 869 = .ok (.iload_n 3, 1) by decide +kernel) rfl (lv_at hl 3 rfl) ?_
  refine lv_iconst (v := 1) hx hb (show decode code 870 = .ok (.iconst 1, 1) by decide +kernel) (by decide) ?_
  refine lv_iadd hx hb (show decode code 871 = .ok (.iadd, 1) by decide +kernel) ?_
  rw [show nI i + 1 = nI (i + 1) from nI_add i 1]
  refine va_sld hx hb hX hbl hbA hS (vp_in_nI (by omega) (by omega)) (show decode code 872 = .ok (.iaload, 1) by decide +kernel) ?_
  rw [nI_clamp (show i + 1 < 2 ^ 31 by omega)]
  refine zLawCall (μ := 122) (idx := 120) (o := 0) (w := 11) (as := [.inl (xs (i + 1)).toInt]) (As := [.int (xs (i + 1))]) (rest := []) C zk_234 (by decide +kernel) (by decide) (by decide +kernel) (by decide +kernel) (by decide) (by decide +kernel) (show (1 : Nat) = zNp 122 by decide +kernel) ⟨by decide +kernel, by decide +kernel⟩ hP hS hcs hl.1 hs1 (by simp [zVm]) rfl (Nat.le_of_ble_eq_true rfl) (show decode code 873 = .ok (.invokevirtual 120, 3) by decide +kernel) (fun z1 M1 H1 locs1 hs2 hP1 hS1 => ?_)
  refine lv_aload_n hx hb (show decode code 876 = .ok (.aload_n 2, 1) by decide +kernel) rfl (lv_at hl 2 rfl) ?_
  refine lv_aload_n hx hb (show decode code 877 = .ok (.aload_n 0, 1) by decide +kernel) rfl (lv_at hl 0 rfl) ?_
  refine lv_iload_n hx hb (show decode code 878 = .ok (.iload_n 3, 1) by decide +kernel) rfl (lv_at hl 3 rfl) ?_
  refine lv_iconst (v := 1) hx hb (show decode code 879 = .ok (.iconst 1, 1) by decide +kernel) (by decide) ?_
  refine lv_iadd hx hb (show decode code 880 = .ok (.iadd, 1) by decide +kernel) ?_
  rw [show nI i + 1 = nI (i + 1) from nI_add i 1]
  refine va_sld hx hb hX hbl hbA hS1 (vp_in_nI (by omega) (by omega)) (show decode code 881 = .ok (.iaload, 1) by decide +kernel) ?_
  rw [nI_clamp (show i + 1 < 2 ^ 31 by omega)]
  refine zLawCall (μ := 243) (idx := 123) (o := 154) (w := 12) (as := [.inl (xs (i + 1)).toInt]) (As := [.int (xs (i + 1))]) (rest := [.int (Int32.ofInt z1)]) C zk_235 (by decide +kernel) (by decide) (by decide +kernel) (by decide +kernel) (by decide) (by decide +kernel) (show (1 : Nat) = zNp 243 by decide +kernel) ⟨by decide +kernel, by decide +kernel⟩ hP1 hS1 hcs hl.1 hs2 (by simp [zVm]) rfl (Nat.le_of_ble_eq_true rfl) (show decode code 882 = .ok (.invokevirtual 123, 3) by decide +kernel) (fun z2 M2 H2 locs2 hs3 hP2 hS2 => ?_)
  obtain ⟨e1, hM2⟩ := hs3
  subst e1
  refine lv_icmp_eq (tgt := 1045) hx hb (show decode code 885 = .ok (.if_icmp .eq 160, 3) by decide +kernel) (by decide) (fun _ => ?_) (fun q => absurd rfl q)
  exact kk M2 H2 locs2 hM2 hP2 hS2
set_option maxHeartbeats 4000000 in
theorem law_26 {Inv : Mm → Prop} (hs : zStep_26 Inv) (C : zLC p l s m meth c b L xs dC dI ad cA) {i : Nat} (hi : i + 6 ≤ L) (hM : Inv M) (hP : va_P (dC, dI) zCm (zWd ad cA M) H) (hS : va_S (fun q => s.heap.size ≤ q) s.heap H locs) (hl : lv_has ls 4 [(0, .ref b), (1, .ref (ad 0)), (2, .ref (ad 154)), (3, .int (nI i))]) (hcs : cells ≤ room_1.cells ∧ slots ≤ room_1.slots)
    (kk : ∀ (M1 : Mm) (H1 : Heap) (locs1 : List Loc), Inv M1 → va_P (dC, dI) zCm (zWd ad cA M1) H1 → va_S (fun q => s.heap.size ≤ q) s.heap H1 locs1 → W p l e room_1 s m #[Value.ref b] below meth c H1 locs1 cells slots Q (F0 m 1045 ls [])) :
    W p l e room_1 s m #[Value.ref b] below meth c H locs cells slots Q (F0 m 890 ls []) := by
  obtain ⟨hx, hb, hml, hown, hts, hX, hbl, hK, hinj, hnw, hst0, had, hL⟩ := id C
  have hbA : ¬ (fun q : Nat => s.heap.size ≤ q) b := Nat.not_le.mpr hbl
  have hs1 := hs M hM (xs (i + 1)).toInt (zR32_toInt _) (xs (i + 2)).toInt (zR32_toInt _)
  refine lv_aload_n hx hb (show decode code 890 = .ok (.aload_n 1, 1) by decide +kernel) rfl (lv_at hl 1 rfl) ?_
  refine lv_aload_n hx hb (show decode code 891 = .ok (.aload_n 0, 1) by decide +kernel) rfl (lv_at hl 0 rfl) ?_
  refine lv_iload_n hx hb (show decode code 892 = .ok (.iload_n 3, 1) by decide +kernel) rfl (lv_at hl 3 rfl) ?_
  refine lv_iconst (v := 1) hx hb (show decode code 893 = .ok (.iconst 1, 1) by decide +kernel) (by decide) ?_
  refine lv_iadd hx hb (show decode code 894 = .ok (.iadd, 1) by decide +kernel) ?_
  rw [show nI i + 1 = nI (i + 1) from nI_add i 1]
  refine va_sld hx hb hX hbl hbA hS (vp_in_nI (by omega) (by omega)) (show decode code 895 = .ok (.iaload, 1) by decide +kernel) ?_
  rw [nI_clamp (show i + 1 < 2 ^ 31 by omega)]
  refine lv_aload_n hx hb (show decode code 896 = .ok (.aload_n 0, 1) by decide +kernel) rfl (lv_at hl 0 rfl) ?_
  refine lv_iload_n hx hb (show decode code 897 = .ok (.iload_n 3, 1) by decide +kernel) rfl (lv_at hl 3 rfl) ?_
  refine lv_iconst (v := 2) hx hb (show decode code 898 = .ok (.iconst 2, 1) by decide +kernel) (by decide) ?_
  refine lv_iadd hx hb (show decode code 899 = .ok (.iadd, 1) by decide +kernel) ?_
  rw [show nI i + 2 = nI (i + 2) from nI_add i 2]
  refine va_sld hx hb hX hbl hbA hS (vp_in_nI (by omega) (by omega)) (show decode code 900 = .ok (.iaload, 1) by decide +kernel) ?_
  rw [nI_clamp (show i + 2 < 2 ^ 31 by omega)]
  refine zLawCall (μ := 123) (idx := 124) (o := 0) (w := 11) (as := [.inl (xs (i + 1)).toInt, .inl (xs (i + 2)).toInt]) (As := [.int (xs (i + 1)), .int (xs (i + 2))]) (rest := []) C zk_236 (by decide +kernel) (by decide) (by decide +kernel) (by decide +kernel) (by decide) (by decide +kernel) (show (2 : Nat) = zNp 123 by decide +kernel) ⟨by decide +kernel, by decide +kernel⟩ hP hS hcs hl.1 hs1 (by simp [zVm]) rfl (Nat.le_of_ble_eq_true rfl) (show decode code 901 = .ok (.invokevirtual 124, 3) by decide +kernel) (fun z1 M1 H1 locs1 hs2 hP1 hS1 => ?_)
  refine lv_aload_n hx hb (show decode code 904 = .ok (.aload_n 2, 1) by decide +kernel) rfl (lv_at hl 2 rfl) ?_
  refine lv_aload_n hx hb (show decode code 905 = .ok (.aload_n 0, 1) by decide +kernel) rfl (lv_at hl 0 rfl) ?_
  refine lv_iload_n hx hb (show decode code 906 = .ok (.iload_n 3, 1) by decide +kernel) rfl (lv_at hl 3 rfl) ?_
  refine lv_iconst (v := 1) hx hb (show decode code 907 = .ok (.iconst 1, 1) by decide +kernel) (by decide) ?_
  refine lv_iadd hx hb (show decode code 908 = .ok (.iadd, 1) by decide +kernel) ?_
  rw [show nI i + 1 = nI (i + 1) from nI_add i 1]
  refine va_sld hx hb hX hbl hbA hS1 (vp_in_nI (by omega) (by omega)) (show decode code 909 = .ok (.iaload, 1) by decide +kernel) ?_
  rw [nI_clamp (show i + 1 < 2 ^ 31 by omega)]
  refine lv_aload_n hx hb (show decode code 910 = .ok (.aload_n 0, 1) by decide +kernel) rfl (lv_at hl 0 rfl) ?_
  refine lv_iload_n hx hb (show decode code 911 = .ok (.iload_n 3, 1) by decide +kernel) rfl (lv_at hl 3 rfl) ?_
  refine lv_iconst (v := 2) hx hb (show decode code 912 = .ok (.iconst 2, 1) by decide +kernel) (by decide) ?_
  refine lv_iadd hx hb (show decode code 913 = .ok (.iadd, 1) by decide +kernel) ?_
  rw [show nI i + 2 = nI (i + 2) from nI_add i 2]
  refine va_sld hx hb hX hbl hbA hS1 (vp_in_nI (by omega) (by omega)) (show decode code 914 = .ok (.iaload, 1) by decide +kernel) ?_
  rw [nI_clamp (show i + 2 < 2 ^ 31 by omega)]
  refine zLawCall (μ := 244) (idx := 127) (o := 154) (w := 12) (as := [.inl (xs (i + 1)).toInt, .inl (xs (i + 2)).toInt]) (As := [.int (xs (i + 1)), .int (xs (i + 2))]) (rest := [.int (Int32.ofInt z1)]) C zk_237 (by decide +kernel) (by decide) (by decide +kernel) (by decide +kernel) (by decide) (by decide +kernel) (show (2 : Nat) = zNp 244 by decide +kernel) ⟨by decide +kernel, by decide +kernel⟩ hP1 hS1 hcs hl.1 hs2 (by simp [zVm]) rfl (Nat.le_of_ble_eq_true rfl) (show decode code 915 = .ok (.invokevirtual 127, 3) by decide +kernel) (fun z2 M2 H2 locs2 hs3 hP2 hS2 => ?_)
  obtain ⟨e1, hM2⟩ := hs3
  subst e1
  refine lv_icmp_eq (tgt := 1045) hx hb (show decode code 918 = .ok (.if_icmp .eq 127, 3) by decide +kernel) (by decide) (fun _ => ?_) (fun q => absurd rfl q)
  exact kk M2 H2 locs2 hM2 hP2 hS2
set_option maxHeartbeats 4000000 in
theorem law_27 {Inv : Mm → Prop} (hs : zStep_27 Inv) (C : zLC p l s m meth c b L xs dC dI ad cA) {i : Nat} (hi : i + 6 ≤ L) (hM : Inv M) (hP : va_P (dC, dI) zCm (zWd ad cA M) H) (hS : va_S (fun q => s.heap.size ≤ q) s.heap H locs) (hl : lv_has ls 4 [(0, .ref b), (1, .ref (ad 0)), (2, .ref (ad 154)), (3, .int (nI i))]) (hcs : cells ≤ room_1.cells ∧ slots ≤ room_1.slots)
    (kk : ∀ (M1 : Mm) (H1 : Heap) (locs1 : List Loc), Inv M1 → va_P (dC, dI) zCm (zWd ad cA M1) H1 → va_S (fun q => s.heap.size ≤ q) s.heap H1 locs1 → W p l e room_1 s m #[Value.ref b] below meth c H1 locs1 cells slots Q (F0 m 1045 ls [])) :
    W p l e room_1 s m #[Value.ref b] below meth c H locs cells slots Q (F0 m 923 ls []) := by
  obtain ⟨hx, hb, hml, hown, hts, hX, hbl, hK, hinj, hnw, hst0, had, hL⟩ := id C
  have hbA : ¬ (fun q : Nat => s.heap.size ≤ q) b := Nat.not_le.mpr hbl
  have hs1 := hs M hM (xs (i + 1)).toInt (zR32_toInt _) (xs (i + 2)).toInt (zR32_toInt _)
  refine lv_aload_n hx hb (show decode code 923 = .ok (.aload_n 1, 1) by decide +kernel) rfl (lv_at hl 1 rfl) ?_
  refine lv_aload_n hx hb (show decode code 924 = .ok (.aload_n 0, 1) by decide +kernel) rfl (lv_at hl 0 rfl) ?_
  refine lv_iload_n hx hb (show decode code 925 = .ok (.iload_n 3, 1) by decide +kernel) rfl (lv_at hl 3 rfl) ?_
  refine lv_iconst (v := 1) hx hb (show decode code 926 = .ok (.iconst 1, 1) by decide +kernel) (by decide) ?_
  refine lv_iadd hx hb (show decode code 927 = .ok (.iadd, 1) by decide +kernel) ?_
  rw [show nI i + 1 = nI (i + 1) from nI_add i 1]
  refine va_sld hx hb hX hbl hbA hS (vp_in_nI (by omega) (by omega)) (show decode code 928 = .ok (.iaload, 1) by decide +kernel) ?_
  rw [nI_clamp (show i + 1 < 2 ^ 31 by omega)]
  refine lv_aload_n hx hb (show decode code 929 = .ok (.aload_n 0, 1) by decide +kernel) rfl (lv_at hl 0 rfl) ?_
  refine lv_iload_n hx hb (show decode code 930 = .ok (.iload_n 3, 1) by decide +kernel) rfl (lv_at hl 3 rfl) ?_
  refine lv_iconst (v := 2) hx hb (show decode code 931 = .ok (.iconst 2, 1) by decide +kernel) (by decide) ?_
  refine lv_iadd hx hb (show decode code 932 = .ok (.iadd, 1) by decide +kernel) ?_
  rw [show nI i + 2 = nI (i + 2) from nI_add i 2]
  refine va_sld hx hb hX hbl hbA hS (vp_in_nI (by omega) (by omega)) (show decode code 933 = .ok (.iaload, 1) by decide +kernel) ?_
  rw [nI_clamp (show i + 2 < 2 ^ 31 by omega)]
  refine zLawCall (μ := 124) (idx := 128) (o := 0) (w := 11) (as := [.inl (xs (i + 1)).toInt, .inl (xs (i + 2)).toInt]) (As := [.int (xs (i + 1)), .int (xs (i + 2))]) (rest := []) C zk_238 (by decide +kernel) (by decide) (by decide +kernel) (by decide +kernel) (by decide) (by decide +kernel) (show (2 : Nat) = zNp 124 by decide +kernel) ⟨by decide +kernel, by decide +kernel⟩ hP hS hcs hl.1 hs1 (by simp [zVm]) rfl (Nat.le_of_ble_eq_true rfl) (show decode code 934 = .ok (.invokevirtual 128, 3) by decide +kernel) (fun z1 M1 H1 locs1 hs2 hP1 hS1 => ?_)
  refine lv_aload_n hx hb (show decode code 937 = .ok (.aload_n 2, 1) by decide +kernel) rfl (lv_at hl 2 rfl) ?_
  refine lv_aload_n hx hb (show decode code 938 = .ok (.aload_n 0, 1) by decide +kernel) rfl (lv_at hl 0 rfl) ?_
  refine lv_iload_n hx hb (show decode code 939 = .ok (.iload_n 3, 1) by decide +kernel) rfl (lv_at hl 3 rfl) ?_
  refine lv_iconst (v := 1) hx hb (show decode code 940 = .ok (.iconst 1, 1) by decide +kernel) (by decide) ?_
  refine lv_iadd hx hb (show decode code 941 = .ok (.iadd, 1) by decide +kernel) ?_
  rw [show nI i + 1 = nI (i + 1) from nI_add i 1]
  refine va_sld hx hb hX hbl hbA hS1 (vp_in_nI (by omega) (by omega)) (show decode code 942 = .ok (.iaload, 1) by decide +kernel) ?_
  rw [nI_clamp (show i + 1 < 2 ^ 31 by omega)]
  refine lv_aload_n hx hb (show decode code 943 = .ok (.aload_n 0, 1) by decide +kernel) rfl (lv_at hl 0 rfl) ?_
  refine lv_iload_n hx hb (show decode code 944 = .ok (.iload_n 3, 1) by decide +kernel) rfl (lv_at hl 3 rfl) ?_
  refine lv_iconst (v := 2) hx hb (show decode code 945 = .ok (.iconst 2, 1) by decide +kernel) (by decide) ?_
  refine lv_iadd hx hb (show decode code 946 = .ok (.iadd, 1) by decide +kernel) ?_
  rw [show nI i + 2 = nI (i + 2) from nI_add i 2]
  refine va_sld hx hb hX hbl hbA hS1 (vp_in_nI (by omega) (by omega)) (show decode code 947 = .ok (.iaload, 1) by decide +kernel) ?_
  rw [nI_clamp (show i + 2 < 2 ^ 31 by omega)]
  refine zLawCall (μ := 249) (idx := 131) (o := 154) (w := 12) (as := [.inl (xs (i + 1)).toInt, .inl (xs (i + 2)).toInt]) (As := [.int (xs (i + 1)), .int (xs (i + 2))]) (rest := [.int (Int32.ofInt z1)]) C zk_239 (by decide +kernel) (by decide) (by decide +kernel) (by decide +kernel) (by decide) (by decide +kernel) (show (2 : Nat) = zNp 249 by decide +kernel) ⟨by decide +kernel, by decide +kernel⟩ hP1 hS1 hcs hl.1 hs2 (by simp [zVm]) rfl (Nat.le_of_ble_eq_true rfl) (show decode code 948 = .ok (.invokevirtual 131, 3) by decide +kernel) (fun z2 M2 H2 locs2 hs3 hP2 hS2 => ?_)
  obtain ⟨e1, hM2⟩ := hs3
  subst e1
  refine lv_icmp_eq (tgt := 1045) hx hb (show decode code 951 = .ok (.if_icmp .eq 94, 3) by decide +kernel) (by decide) (fun _ => ?_) (fun q => absurd rfl q)
  exact kk M2 H2 locs2 hM2 hP2 hS2
set_option maxHeartbeats 4000000 in
theorem law_28 {Inv : Mm → Prop} (hs : zStep_28 Inv) (C : zLC p l s m meth c b L xs dC dI ad cA) {i : Nat} (hi : i + 6 ≤ L) (hM : Inv M) (hP : va_P (dC, dI) zCm (zWd ad cA M) H) (hS : va_S (fun q => s.heap.size ≤ q) s.heap H locs) (hl : lv_has ls 4 [(0, .ref b), (1, .ref (ad 0)), (2, .ref (ad 154)), (3, .int (nI i))]) (hcs : cells ≤ room_1.cells ∧ slots ≤ room_1.slots)
    (kk : ∀ (M1 : Mm) (H1 : Heap) (locs1 : List Loc), Inv M1 → va_P (dC, dI) zCm (zWd ad cA M1) H1 → va_S (fun q => s.heap.size ≤ q) s.heap H1 locs1 → W p l e room_1 s m #[Value.ref b] below meth c H1 locs1 cells slots Q (F0 m 1045 ls [])) :
    W p l e room_1 s m #[Value.ref b] below meth c H locs cells slots Q (F0 m 956 ls []) := by
  obtain ⟨hx, hb, hml, hown, hts, hX, hbl, hK, hinj, hnw, hst0, had, hL⟩ := id C
  have hbA : ¬ (fun q : Nat => s.heap.size ≤ q) b := Nat.not_le.mpr hbl
  have hs1 := hs M hM (xs (i + 1)).toInt (zR32_toInt _) (xs (i + 2)).toInt (zR32_toInt _)
  refine lv_aload_n hx hb (show decode code 956 = .ok (.aload_n 1, 1) by decide +kernel) rfl (lv_at hl 1 rfl) ?_
  refine lv_aload_n hx hb (show decode code 957 = .ok (.aload_n 0, 1) by decide +kernel) rfl (lv_at hl 0 rfl) ?_
  refine lv_iload_n hx hb (show decode code 958 = .ok (.iload_n 3, 1) by decide +kernel) rfl (lv_at hl 3 rfl) ?_
  refine lv_iconst (v := 1) hx hb (show decode code 959 = .ok (.iconst 1, 1) by decide +kernel) (by decide) ?_
  refine lv_iadd hx hb (show decode code 960 = .ok (.iadd, 1) by decide +kernel) ?_
  rw [show nI i + 1 = nI (i + 1) from nI_add i 1]
  refine va_sld hx hb hX hbl hbA hS (vp_in_nI (by omega) (by omega)) (show decode code 961 = .ok (.iaload, 1) by decide +kernel) ?_
  rw [nI_clamp (show i + 1 < 2 ^ 31 by omega)]
  refine lv_aload_n hx hb (show decode code 962 = .ok (.aload_n 0, 1) by decide +kernel) rfl (lv_at hl 0 rfl) ?_
  refine lv_iload_n hx hb (show decode code 963 = .ok (.iload_n 3, 1) by decide +kernel) rfl (lv_at hl 3 rfl) ?_
  refine lv_iconst (v := 2) hx hb (show decode code 964 = .ok (.iconst 2, 1) by decide +kernel) (by decide) ?_
  refine lv_iadd hx hb (show decode code 965 = .ok (.iadd, 1) by decide +kernel) ?_
  rw [show nI i + 2 = nI (i + 2) from nI_add i 2]
  refine va_sld hx hb hX hbl hbA hS (vp_in_nI (by omega) (by omega)) (show decode code 966 = .ok (.iaload, 1) by decide +kernel) ?_
  rw [nI_clamp (show i + 2 < 2 ^ 31 by omega)]
  refine zLawCall (μ := 125) (idx := 132) (o := 0) (w := 11) (as := [.inl (xs (i + 1)).toInt, .inl (xs (i + 2)).toInt]) (As := [.int (xs (i + 1)), .int (xs (i + 2))]) (rest := []) C zk_240 (by decide +kernel) (by decide) (by decide +kernel) (by decide +kernel) (by decide) (by decide +kernel) (show (2 : Nat) = zNp 125 by decide +kernel) ⟨by decide +kernel, by decide +kernel⟩ hP hS hcs hl.1 hs1 (by simp [zVm]) rfl (Nat.le_of_ble_eq_true rfl) (show decode code 967 = .ok (.invokevirtual 132, 3) by decide +kernel) (fun z1 M1 H1 locs1 hs2 hP1 hS1 => ?_)
  refine lv_aload_n hx hb (show decode code 970 = .ok (.aload_n 2, 1) by decide +kernel) rfl (lv_at hl 2 rfl) ?_
  refine lv_aload_n hx hb (show decode code 971 = .ok (.aload_n 0, 1) by decide +kernel) rfl (lv_at hl 0 rfl) ?_
  refine lv_iload_n hx hb (show decode code 972 = .ok (.iload_n 3, 1) by decide +kernel) rfl (lv_at hl 3 rfl) ?_
  refine lv_iconst (v := 1) hx hb (show decode code 973 = .ok (.iconst 1, 1) by decide +kernel) (by decide) ?_
  refine lv_iadd hx hb (show decode code 974 = .ok (.iadd, 1) by decide +kernel) ?_
  rw [show nI i + 1 = nI (i + 1) from nI_add i 1]
  refine va_sld hx hb hX hbl hbA hS1 (vp_in_nI (by omega) (by omega)) (show decode code 975 = .ok (.iaload, 1) by decide +kernel) ?_
  rw [nI_clamp (show i + 1 < 2 ^ 31 by omega)]
  refine lv_aload_n hx hb (show decode code 976 = .ok (.aload_n 0, 1) by decide +kernel) rfl (lv_at hl 0 rfl) ?_
  refine lv_iload_n hx hb (show decode code 977 = .ok (.iload_n 3, 1) by decide +kernel) rfl (lv_at hl 3 rfl) ?_
  refine lv_iconst (v := 2) hx hb (show decode code 978 = .ok (.iconst 2, 1) by decide +kernel) (by decide) ?_
  refine lv_iadd hx hb (show decode code 979 = .ok (.iadd, 1) by decide +kernel) ?_
  rw [show nI i + 2 = nI (i + 2) from nI_add i 2]
  refine va_sld hx hb hX hbl hbA hS1 (vp_in_nI (by omega) (by omega)) (show decode code 980 = .ok (.iaload, 1) by decide +kernel) ?_
  rw [nI_clamp (show i + 2 < 2 ^ 31 by omega)]
  refine zLawCall (μ := 250) (idx := 135) (o := 154) (w := 12) (as := [.inl (xs (i + 1)).toInt, .inl (xs (i + 2)).toInt]) (As := [.int (xs (i + 1)), .int (xs (i + 2))]) (rest := [.int (Int32.ofInt z1)]) C zk_241 (by decide +kernel) (by decide) (by decide +kernel) (by decide +kernel) (by decide) (by decide +kernel) (show (2 : Nat) = zNp 250 by decide +kernel) ⟨by decide +kernel, by decide +kernel⟩ hP1 hS1 hcs hl.1 hs2 (by simp [zVm]) rfl (Nat.le_of_ble_eq_true rfl) (show decode code 981 = .ok (.invokevirtual 135, 3) by decide +kernel) (fun z2 M2 H2 locs2 hs3 hP2 hS2 => ?_)
  obtain ⟨e1, hM2⟩ := hs3
  subst e1
  refine lv_icmp_eq (tgt := 1045) hx hb (show decode code 984 = .ok (.if_icmp .eq 61, 3) by decide +kernel) (by decide) (fun _ => ?_) (fun q => absurd rfl q)
  exact kk M2 H2 locs2 hM2 hP2 hS2
set_option maxHeartbeats 4000000 in
theorem law_29 {Inv : Mm → Prop} (hs : zStep_29 Inv) (C : zLC p l s m meth c b L xs dC dI ad cA) {i : Nat} (hi : i + 6 ≤ L) (hM : Inv M) (hP : va_P (dC, dI) zCm (zWd ad cA M) H) (hS : va_S (fun q => s.heap.size ≤ q) s.heap H locs) (hl : lv_has ls 4 [(0, .ref b), (1, .ref (ad 0)), (2, .ref (ad 154)), (3, .int (nI i))]) (hcs : cells ≤ room_1.cells ∧ slots ≤ room_1.slots)
    (kk : ∀ (M1 : Mm) (H1 : Heap) (locs1 : List Loc), Inv M1 → va_P (dC, dI) zCm (zWd ad cA M1) H1 → va_S (fun q => s.heap.size ≤ q) s.heap H1 locs1 → W p l e room_1 s m #[Value.ref b] below meth c H1 locs1 cells slots Q (F0 m 1045 ls [])) :
    W p l e room_1 s m #[Value.ref b] below meth c H locs cells slots Q (F0 m 989 ls []) := by
  obtain ⟨hx, hb, hml, hown, hts, hX, hbl, hK, hinj, hnw, hst0, had, hL⟩ := id C
  have hbA : ¬ (fun q : Nat => s.heap.size ≤ q) b := Nat.not_le.mpr hbl
  have hs1 := hs M hM (xs (i + 1)).toInt (zR32_toInt _) (xs (i + 2)).toInt (zR32_toInt _) (xs (i + 3)).toInt (zR32_toInt _)
  refine lv_aload_n hx hb (show decode code 989 = .ok (.aload_n 1, 1) by decide +kernel) rfl (lv_at hl 1 rfl) ?_
  refine lv_aload_n hx hb (show decode code 990 = .ok (.aload_n 0, 1) by decide +kernel) rfl (lv_at hl 0 rfl) ?_
  refine lv_iload_n hx hb (show decode code 991 = .ok (.iload_n 3, 1) by decide +kernel) rfl (lv_at hl 3 rfl) ?_
  refine lv_iconst (v := 1) hx hb (show decode code 992 = .ok (.iconst 1, 1) by decide +kernel) (by decide) ?_
  refine lv_iadd hx hb (show decode code 993 = .ok (.iadd, 1) by decide +kernel) ?_
  rw [show nI i + 1 = nI (i + 1) from nI_add i 1]
  refine va_sld hx hb hX hbl hbA hS (vp_in_nI (by omega) (by omega)) (show decode code 994 = .ok (.iaload, 1) by decide +kernel) ?_
  rw [nI_clamp (show i + 1 < 2 ^ 31 by omega)]
  refine lv_aload_n hx hb (show decode code 995 = .ok (.aload_n 0, 1) by decide +kernel) rfl (lv_at hl 0 rfl) ?_
  refine lv_iload_n hx hb (show decode code 996 = .ok (.iload_n 3, 1) by decide +kernel) rfl (lv_at hl 3 rfl) ?_
  refine lv_iconst (v := 2) hx hb (show decode code 997 = .ok (.iconst 2, 1) by decide +kernel) (by decide) ?_
  refine lv_iadd hx hb (show decode code 998 = .ok (.iadd, 1) by decide +kernel) ?_
  rw [show nI i + 2 = nI (i + 2) from nI_add i 2]
  refine va_sld hx hb hX hbl hbA hS (vp_in_nI (by omega) (by omega)) (show decode code 999 = .ok (.iaload, 1) by decide +kernel) ?_
  rw [nI_clamp (show i + 2 < 2 ^ 31 by omega)]
  refine lv_aload_n hx hb (show decode code 1000 = .ok (.aload_n 0, 1) by decide +kernel) rfl (lv_at hl 0 rfl) ?_
  refine lv_iload_n hx hb (show decode code 1001 = .ok (.iload_n 3, 1) by decide +kernel) rfl (lv_at hl 3 rfl) ?_
  refine lv_iconst (v := 3) hx hb (show decode code 1002 = .ok (.iconst 3, 1) by decide +kernel) (by decide) ?_
  refine lv_iadd hx hb (show decode code 1003 = .ok (.iadd, 1) by decide +kernel) ?_
  rw [show nI i + 3 = nI (i + 3) from nI_add i 3]
  refine va_sld hx hb hX hbl hbA hS (vp_in_nI (by omega) (by omega)) (show decode code 1004 = .ok (.iaload, 1) by decide +kernel) ?_
  rw [nI_clamp (show i + 3 < 2 ^ 31 by omega)]
  refine zLawCall (μ := 126) (idx := 136) (o := 0) (w := 11) (as := [.inl (xs (i + 1)).toInt, .inl (xs (i + 2)).toInt, .inl (xs (i + 3)).toInt]) (As := [.int (xs (i + 1)), .int (xs (i + 2)), .int (xs (i + 3))]) (rest := []) C zk_242 (by decide +kernel) (by decide) (by decide +kernel) (by decide +kernel) (by decide) (by decide +kernel) (show (3 : Nat) = zNp 126 by decide +kernel) ⟨by decide +kernel, by decide +kernel⟩ hP hS hcs hl.1 hs1 (by simp [zVm]) rfl (Nat.le_of_ble_eq_true rfl) (show decode code 1005 = .ok (.invokevirtual 136, 3) by decide +kernel) (fun z1 M1 H1 locs1 hs2 hP1 hS1 => ?_)
  refine lv_aload_n hx hb (show decode code 1008 = .ok (.aload_n 2, 1) by decide +kernel) rfl (lv_at hl 2 rfl) ?_
  refine lv_aload_n hx hb (show decode code 1009 = .ok (.aload_n 0, 1) by decide +kernel) rfl (lv_at hl 0 rfl) ?_
  refine lv_iload_n hx hb (show decode code 1010 = .ok (.iload_n 3, 1) by decide +kernel) rfl (lv_at hl 3 rfl) ?_
  refine lv_iconst (v := 1) hx hb (show decode code 1011 = .ok (.iconst 1, 1) by decide +kernel) (by decide) ?_
  refine lv_iadd hx hb (show decode code 1012 = .ok (.iadd, 1) by decide +kernel) ?_
  rw [show nI i + 1 = nI (i + 1) from nI_add i 1]
  refine va_sld hx hb hX hbl hbA hS1 (vp_in_nI (by omega) (by omega)) (show decode code 1013 = .ok (.iaload, 1) by decide +kernel) ?_
  rw [nI_clamp (show i + 1 < 2 ^ 31 by omega)]
  refine lv_aload_n hx hb (show decode code 1014 = .ok (.aload_n 0, 1) by decide +kernel) rfl (lv_at hl 0 rfl) ?_
  refine lv_iload_n hx hb (show decode code 1015 = .ok (.iload_n 3, 1) by decide +kernel) rfl (lv_at hl 3 rfl) ?_
  refine lv_iconst (v := 2) hx hb (show decode code 1016 = .ok (.iconst 2, 1) by decide +kernel) (by decide) ?_
  refine lv_iadd hx hb (show decode code 1017 = .ok (.iadd, 1) by decide +kernel) ?_
  rw [show nI i + 2 = nI (i + 2) from nI_add i 2]
  refine va_sld hx hb hX hbl hbA hS1 (vp_in_nI (by omega) (by omega)) (show decode code 1018 = .ok (.iaload, 1) by decide +kernel) ?_
  rw [nI_clamp (show i + 2 < 2 ^ 31 by omega)]
  refine lv_aload_n hx hb (show decode code 1019 = .ok (.aload_n 0, 1) by decide +kernel) rfl (lv_at hl 0 rfl) ?_
  refine lv_iload_n hx hb (show decode code 1020 = .ok (.iload_n 3, 1) by decide +kernel) rfl (lv_at hl 3 rfl) ?_
  refine lv_iconst (v := 3) hx hb (show decode code 1021 = .ok (.iconst 3, 1) by decide +kernel) (by decide) ?_
  refine lv_iadd hx hb (show decode code 1022 = .ok (.iadd, 1) by decide +kernel) ?_
  rw [show nI i + 3 = nI (i + 3) from nI_add i 3]
  refine va_sld hx hb hX hbl hbA hS1 (vp_in_nI (by omega) (by omega)) (show decode code 1023 = .ok (.iaload, 1) by decide +kernel) ?_
  rw [nI_clamp (show i + 3 < 2 ^ 31 by omega)]
  refine zLawCall (μ := 252) (idx := 139) (o := 154) (w := 12) (as := [.inl (xs (i + 1)).toInt, .inl (xs (i + 2)).toInt, .inl (xs (i + 3)).toInt]) (As := [.int (xs (i + 1)), .int (xs (i + 2)), .int (xs (i + 3))]) (rest := [.int (Int32.ofInt z1)]) C zk_243 (by decide +kernel) (by decide) (by decide +kernel) (by decide +kernel) (by decide) (by decide +kernel) (show (3 : Nat) = zNp 252 by decide +kernel) ⟨by decide +kernel, by decide +kernel⟩ hP1 hS1 hcs hl.1 hs2 (by simp [zVm]) rfl (Nat.le_of_ble_eq_true rfl) (show decode code 1024 = .ok (.invokevirtual 139, 3) by decide +kernel) (fun z2 M2 H2 locs2 hs3 hP2 hS2 => ?_)
  obtain ⟨e1, hM2⟩ := hs3
  subst e1
  refine lv_icmp_eq (tgt := 1045) hx hb (show decode code 1027 = .ok (.if_icmp .eq 18, 3) by decide +kernel) (by decide) (fun _ => ?_) (fun q => absurd rfl q)
  exact kk M2 H2 locs2 hM2 hP2 hS2
set_option maxHeartbeats 4000000 in
theorem law_30 {Inv : Mm → Prop} (hs : zStep_30 Inv) (C : zLC p l s m meth c b L xs dC dI ad cA) {i : Nat} (hi : i + 6 ≤ L) (hM : Inv M) (hP : va_P (dC, dI) zCm (zWd ad cA M) H) (hS : va_S (fun q => s.heap.size ≤ q) s.heap H locs) (hl : lv_has ls 4 [(0, .ref b), (1, .ref (ad 0)), (2, .ref (ad 154)), (3, .int (nI i))]) (hcs : cells ≤ room_1.cells ∧ slots ≤ room_1.slots)
    (kk : ∀ (M1 : Mm) (H1 : Heap) (locs1 : List Loc), Inv M1 → va_P (dC, dI) zCm (zWd ad cA M1) H1 → va_S (fun q => s.heap.size ≤ q) s.heap H1 locs1 → W p l e room_1 s m #[Value.ref b] below meth c H1 locs1 cells slots Q (F0 m 1045 ls [])) :
    W p l e room_1 s m #[Value.ref b] below meth c H locs cells slots Q (F0 m 1032 ls []) := by
  obtain ⟨hx, hb, hml, hown, hts, hX, hbl, hK, hinj, hnw, hst0, had, hL⟩ := id C
  have hbA : ¬ (fun q : Nat => s.heap.size ≤ q) b := Nat.not_le.mpr hbl
  have hs1 := hs M hM
  refine lv_aload_n hx hb (show decode code 1032 = .ok (.aload_n 1, 1) by decide +kernel) rfl (lv_at hl 1 rfl) ?_
  refine zLawCall (μ := 127) (idx := 140) (o := 0) (w := 11) (as := []) (As := []) (rest := []) C zk_244 (by decide +kernel) (by decide) (by decide +kernel) (by decide +kernel) (by decide) (by decide +kernel) (show (0 : Nat) = zNp 127 by decide +kernel) ⟨by decide +kernel, by decide +kernel⟩ hP hS hcs hl.1 hs1 (by simp [zVm]) rfl (Nat.le_of_ble_eq_true rfl) (show decode code 1033 = .ok (.invokevirtual 140, 3) by decide +kernel) (fun z1 M1 H1 locs1 hs2 hP1 hS1 => ?_)
  refine lv_aload_n hx hb (show decode code 1036 = .ok (.aload_n 2, 1) by decide +kernel) rfl (lv_at hl 2 rfl) ?_
  refine zLawCall (μ := 184) (idx := 143) (o := 154) (w := 12) (as := []) (As := []) (rest := [.int (Int32.ofInt z1)]) C zk_245 (by decide +kernel) (by decide) (by decide +kernel) (by decide +kernel) (by decide) (by decide +kernel) (show (0 : Nat) = zNp 184 by decide +kernel) ⟨by decide +kernel, by decide +kernel⟩ hP1 hS1 hcs hl.1 hs2 (by simp [zVm]) rfl (Nat.le_of_ble_eq_true rfl) (show decode code 1037 = .ok (.invokevirtual 143, 3) by decide +kernel) (fun z2 M2 H2 locs2 hs3 hP2 hS2 => ?_)
  obtain ⟨e1, hM2⟩ := hs3
  subst e1
  refine lv_icmp_eq (tgt := 1045) hx hb (show decode code 1040 = .ok (.if_icmp .eq 5, 3) by decide +kernel) (by decide) (fun _ => ?_) (fun q => absurd rfl q)
  exact kk M2 H2 locs2 hM2 hP2 hS2
def zSteps (Inv : Mm → Prop) : Prop := zStep_0 Inv ∧ zStep_1 Inv ∧ zStep_2 Inv ∧ zStep_3 Inv ∧ zStep_4 Inv ∧ zStep_5 Inv ∧ zStep_6 Inv ∧ zStep_7 Inv ∧ zStep_8 Inv ∧ zStep_9 Inv ∧ zStep_10 Inv ∧ zStep_11 Inv ∧ zStep_12 Inv ∧ zStep_13 Inv ∧ zStep_14 Inv ∧ zStep_15 Inv ∧ zStep_16 Inv ∧ zStep_17 Inv ∧ zStep_18 Inv ∧ zStep_19 Inv ∧ zStep_20 Inv ∧ zStep_21 Inv ∧ zStep_22 Inv ∧ zStep_23 Inv ∧ zStep_24 Inv ∧ zStep_25 Inv ∧ zStep_26 Inv ∧ zStep_27 Inv ∧ zStep_28 Inv ∧ zStep_29 Inv ∧ zStep_30 Inv
theorem zand31 (x : Int32) : ∃ k : Nat, k < 32 ∧ (x &&& 31).toInt = (k : Int) := by
  have h1 : (x &&& 31).toInt = ((x &&& 31).toBitVec).toInt := rfl
  have h2 : (x &&& 31).toBitVec = x.toBitVec &&& 31#32 := rfl
  have h3 : (x.toBitVec &&& 31#32).toNat = x.toBitVec.toNat % 32 := by
    rw [BitVec.toNat_and]
    exact Nat.and_two_pow_sub_one_eq_mod _ 5
  refine ⟨x.toBitVec.toNat % 32, Nat.mod_lt _ (by omega), ?_⟩
  rw [h1, h2, BitVec.toInt_eq_toNat_of_lt, h3]
  rw [h3]
  have := Nat.mod_lt x.toBitVec.toNat (show 32 > 0 by omega)
  omega
set_option maxHeartbeats 4000000 in
theorem law_loop {Inv : Mm → Prop} (hs : zSteps Inv) (C : zLC p l s m meth c b L xs dC dI ad cA) (hcs : cells ≤ room_1.cells ∧ slots ≤ room_1.slots)
    (hend : ∀ (H1 : Heap) (locs1 : List Loc) (ls : Array Slot), va_S (fun q => s.heap.size ≤ q) s.heap H1 locs1 → W p l e room_1 s m #[Value.ref b] below meth c H1 locs1 cells slots Q (F0 m 1051 ls [])) :
    ∀ (n i : Nat) (M : Mm) (H : Heap) (locs : List Loc) (ls : Array Slot), L ≤ i + n → i ≤ 4000 → Inv M → va_P (dC, dI) zCm (zWd ad cA M) H → va_S (fun q => s.heap.size ≤ q) s.heap H locs → lv_has ls 4 [(0, .ref b), (1, .ref (ad 0)), (2, .ref (ad 154)), (3, .int (nI i))] → W p l e room_1 s m #[Value.ref b] below meth c H locs cells slots Q (F0 m 18 ls []) := by
  obtain ⟨hx, hb, hml, hown, hts, hX, hbl, hK, hinj, hnw, hst0, had, hL⟩ := id C
  have hbA : ¬ (fun q : Nat => s.heap.size ≤ q) b := Nat.not_le.mpr hbl
  obtain ⟨s0, s1, s2, s3, s4, s5, s6, s7, s8, s9, s10, s11, s12, s13, s14, s15, s16, s17, s18, s19, s20, s21, s22, s23, s24, s25, s26, s27, s28, s29, s30⟩ := hs
  intro n
  induction n with
  | zero =>
    intro i M H locs ls hn hi hM hP hS hl
    refine lv_iload_n hx hb (show decode code 18 = .ok (.iload_n 3, 1) by decide +kernel) rfl (lv_at hl 3 rfl) ?_
    refine lv_aload_n hx hb (show decode code 19 = .ok (.aload_n 0, 1) by decide +kernel) rfl (lv_at hl 0 rfl) ?_
    refine va_slen hx hb hX hbl hbA hS (show decode code 20 = .ok (.arraylength, 1) by decide +kernel) ?_
    refine lv_bipush (v := 6) hx hb (show decode code 21 = .ok (.bipush 6, 2) by decide +kernel) (by decide) ?_
    refine lv_isub hx hb (show decode code 23 = .ok (.isub, 1) by decide +kernel) ?_
    refine lv_icmp_gt (tgt := 1051) hx hb (show decode code 24 = .ok (.if_icmp .gt 1027, 3) by decide +kernel) (by decide) (fun _ => hend H locs ls hS) (fun q => absurd ?_ q)
    have e1 : Int32.ofNat L - 6 = Int32.ofInt ((L : Int) - 6) := by rw [Int32.ofInt_sub, Int32.ofInt_eq_ofNat]; rfl
    have e2 : nI i = Int32.ofInt (i : Int) := (Int32.ofInt_eq_ofNat).symm
    rw [e1, e2, z32_lt (zR32_iff.mpr ⟨by omega, by omega⟩) (zR32_iff.mpr ⟨by omega, by omega⟩)]
    omega
  | succ n ih =>
    intro i M H locs ls hn hi hM hP hS hl
    refine lv_iload_n hx hb (show decode code 18 = .ok (.iload_n 3, 1) by decide +kernel) rfl (lv_at hl 3 rfl) ?_
    refine lv_aload_n hx hb (show decode code 19 = .ok (.aload_n 0, 1) by decide +kernel) rfl (lv_at hl 0 rfl) ?_
    refine va_slen hx hb hX hbl hbA hS (show decode code 20 = .ok (.arraylength, 1) by decide +kernel) ?_
    refine lv_bipush (v := 6) hx hb (show decode code 21 = .ok (.bipush 6, 2) by decide +kernel) (by decide) ?_
    refine lv_isub hx hb (show decode code 23 = .ok (.isub, 1) by decide +kernel) ?_
    have e1 : Int32.ofNat L - 6 = Int32.ofInt ((L : Int) - 6) := by rw [Int32.ofInt_sub, Int32.ofInt_eq_ofNat]; rfl
    have e2 : nI i = Int32.ofInt (i : Int) := (Int32.ofInt_eq_ofNat).symm
    refine lv_icmp_gt (tgt := 1051) hx hb (show decode code 24 = .ok (.if_icmp .gt 1027, 3) by decide +kernel) (by decide) (fun _ => hend H locs ls hS) (fun q => ?_)
    have hi6 : i + 6 ≤ L := by
      rw [e1, e2, z32_lt (zR32_iff.mpr ⟨by omega, by omega⟩) (zR32_iff.mpr ⟨by omega, by omega⟩)] at q
      omega
    have next : ∀ (M1 : Mm) (H1 : Heap) (locs1 : List Loc), Inv M1 → va_P (dC, dI) zCm (zWd ad cA M1) H1 → va_S (fun q => s.heap.size ≤ q) s.heap H1 locs1 → W p l e room_1 s m #[Value.ref b] below meth c H1 locs1 cells slots Q (F0 m 1045 ls []) := by
      intro M1 H1 locs1 hM1 hP1 hS1
      obtain ⟨x3, ex3⟩ : ∃ y : Int32, y = nI i + 6 := ⟨_, rfl⟩
      refine lv_iinc (v := x3) (lv' := [(3, .int x3), (0, .ref b), (1, .ref (ad 0)), (2, .ref (ad 154))]) hx hb (show decode code 1045 = .ok (.iinc 3 6, 3) by decide +kernel) hl (k := 3) rfl (by rw [ex3]; rfl) (by decide) rfl (fun ls hl => ?_)
      refine lv_goto (tgt := 18) hx hb (show decode code 1048 = .ok (.goto (-1030), 3) by decide +kernel) (by decide) ?_
      refine ih (i + 6) M1 H1 locs1 ls (by omega) (by omega) hM1 hP1 hS1 ?_
      have h2 := lv_sub hl [1, 2, 3, 0] rfl
      rw [ex3, show nI i + 6 = nI (i + 6) from nI_add i 6] at h2
      exact h2
    refine lv_aload_n hx hb (show decode code 27 = .ok (.aload_n 0, 1) by decide +kernel) rfl (lv_at hl 0 rfl) ?_
    refine lv_iload_n hx hb (show decode code 28 = .ok (.iload_n 3, 1) by decide +kernel) rfl (lv_at hl 3 rfl) ?_
    refine va_sld hx hb hX hbl hbA hS (vp_in_nI (by omega) (by omega)) (show decode code 29 = .ok (.iaload, 1) by decide +kernel) ?_
    rw [nI_clamp (show i < 2 ^ 31 by omega)]
    refine lv_bipush (v := 31) hx hb (show decode code 30 = .ok (.bipush 31, 2) by decide +kernel) (by decide) ?_
    refine lv_iand hx hb (show decode code 32 = .ok (.iand, 1) by decide +kernel) ?_
    obtain ⟨k, hk, ek⟩ := zand31 (xs i)
    generalize (xs i &&& 31) = y at ek ⊢
    match k, hk, ek with
    | 0, _, ek => exact lv_tableIn (tgt := 172) hx hb d33 (by rw [ek]; decide) (by rw [ek]; decide) (by rw [ek]; rfl) (by decide) (law_0 s0 C hi6 hM hP hS hl hcs next)
    | 1, _, ek => exact lv_tableIn (tgt := 235) hx hb d33 (by rw [ek]; decide) (by rw [ek]; decide) (by rw [ek]; rfl) (by decide) (law_1 s1 C hi6 hM hP hS hl hcs next)
    | 2, _, ek => exact lv_tableIn (tgt := 258) hx hb d33 (by rw [ek]; decide) (by rw [ek]; decide) (by rw [ek]; rfl) (by decide) (law_2 s2 C hi6 hM hP hS hl hcs next)
    | 3, _, ek => exact lv_tableIn (tgt := 271) hx hb d33 (by rw [ek]; decide) (by rw [ek]; decide) (by rw [ek]; rfl) (by decide) (law_3 s3 C hi6 hM hP hS hl hcs next)
    | 4, _, ek => exact lv_tableIn (tgt := 284) hx hb d33 (by rw [ek]; decide) (by rw [ek]; decide) (by rw [ek]; rfl) (by decide) (law_4 s4 C hi6 hM hP hS hl hcs next)
    | 5, _, ek => exact lv_tableIn (tgt := 297) hx hb d33 (by rw [ek]; decide) (by rw [ek]; decide) (by rw [ek]; rfl) (by decide) (law_5 s5 C hi6 hM hP hS hl hcs next)
    | 6, _, ek => exact lv_tableIn (tgt := 320) hx hb d33 (by rw [ek]; decide) (by rw [ek]; decide) (by rw [ek]; rfl) (by decide) (law_6 s6 C hi6 hM hP hS hl hcs next)
    | 7, _, ek => exact lv_tableIn (tgt := 343) hx hb d33 (by rw [ek]; decide) (by rw [ek]; decide) (by rw [ek]; rfl) (by decide) (law_7 s7 C hi6 hM hP hS hl hcs next)
    | 8, _, ek => exact lv_tableIn (tgt := 366) hx hb d33 (by rw [ek]; decide) (by rw [ek]; decide) (by rw [ek]; rfl) (by decide) (law_8 s8 C hi6 hM hP hS hl hcs next)
    | 9, _, ek => exact lv_tableIn (tgt := 389) hx hb d33 (by rw [ek]; decide) (by rw [ek]; decide) (by rw [ek]; rfl) (by decide) (law_9 s9 C hi6 hM hP hS hl hcs next)
    | 10, _, ek => exact lv_tableIn (tgt := 432) hx hb d33 (by rw [ek]; decide) (by rw [ek]; decide) (by rw [ek]; rfl) (by decide) (law_10 s10 C hi6 hM hP hS hl hcs next)
    | 11, _, ek => exact lv_tableIn (tgt := 465) hx hb d33 (by rw [ek]; decide) (by rw [ek]; decide) (by rw [ek]; rfl) (by decide) (law_11 s11 C hi6 hM hP hS hl hcs next)
    | 12, _, ek => exact lv_tableIn (tgt := 498) hx hb d33 (by rw [ek]; decide) (by rw [ek]; decide) (by rw [ek]; rfl) (by decide) (law_12 s12 C hi6 hM hP hS hl hcs next)
    | 13, _, ek => exact lv_tableIn (tgt := 531) hx hb d33 (by rw [ek]; decide) (by rw [ek]; decide) (by rw [ek]; rfl) (by decide) (law_13 s13 C hi6 hM hP hS hl hcs next)
    | 14, _, ek => exact lv_tableIn (tgt := 544) hx hb d33 (by rw [ek]; decide) (by rw [ek]; decide) (by rw [ek]; rfl) (by decide) (law_14 s14 C hi6 hM hP hS hl hcs next)
    | 15, _, ek => exact lv_tableIn (tgt := 587) hx hb d33 (by rw [ek]; decide) (by rw [ek]; decide) (by rw [ek]; rfl) (by decide) (law_15 s15 C hi6 hM hP hS hl hcs next)
    | 16, _, ek => exact lv_tableIn (tgt := 600) hx hb d33 (by rw [ek]; decide) (by rw [ek]; decide) (by rw [ek]; rfl) (by decide) (law_16 s16 C hi6 hM hP hS hl hcs next)
    | 17, _, ek => exact lv_tableIn (tgt := 623) hx hb d33 (by rw [ek]; decide) (by rw [ek]; decide) (by rw [ek]; rfl) (by decide) (law_17 s17 C hi6 hM hP hS hl hcs next)
    | 18, _, ek => exact lv_tableIn (tgt := 656) hx hb d33 (by rw [ek]; decide) (by rw [ek]; decide) (by rw [ek]; rfl) (by decide) (law_18 s18 C hi6 hM hP hS hl hcs next)
    | 19, _, ek => exact lv_tableIn (tgt := 679) hx hb d33 (by rw [ek]; decide) (by rw [ek]; decide) (by rw [ek]; rfl) (by decide) (law_19 s19 C hi6 hM hP hS hl hcs next)
    | 20, _, ek => exact lv_tableIn (tgt := 702) hx hb d33 (by rw [ek]; decide) (by rw [ek]; decide) (by rw [ek]; rfl) (by decide) (law_20 s20 C hi6 hM hP hS hl hcs next)
    | 21, _, ek => exact lv_tableIn (tgt := 715) hx hb d33 (by rw [ek]; decide) (by rw [ek]; decide) (by rw [ek]; rfl) (by decide) (law_21 s21 C hi6 hM hP hS hl hcs next)
    | 22, _, ek => exact lv_tableIn (tgt := 748) hx hb d33 (by rw [ek]; decide) (by rw [ek]; decide) (by rw [ek]; rfl) (by decide) (law_22 s22 C hi6 hM hP hS hl hcs next)
    | 23, _, ek => exact lv_tableIn (tgt := 781) hx hb d33 (by rw [ek]; decide) (by rw [ek]; decide) (by rw [ek]; rfl) (by decide) (law_23 s23 C hi6 hM hP hS hl hcs next)
    | 24, _, ek => exact lv_tableIn (tgt := 814) hx hb d33 (by rw [ek]; decide) (by rw [ek]; decide) (by rw [ek]; rfl) (by decide) (law_24 s24 C hi6 hM hP hS hl hcs next)
    | 25, _, ek => exact lv_tableIn (tgt := 867) hx hb d33 (by rw [ek]; decide) (by rw [ek]; decide) (by rw [ek]; rfl) (by decide) (law_25 s25 C hi6 hM hP hS hl hcs next)
    | 26, _, ek => exact lv_tableIn (tgt := 890) hx hb d33 (by rw [ek]; decide) (by rw [ek]; decide) (by rw [ek]; rfl) (by decide) (law_26 s26 C hi6 hM hP hS hl hcs next)
    | 27, _, ek => exact lv_tableIn (tgt := 923) hx hb d33 (by rw [ek]; decide) (by rw [ek]; decide) (by rw [ek]; rfl) (by decide) (law_27 s27 C hi6 hM hP hS hl hcs next)
    | 28, _, ek => exact lv_tableIn (tgt := 956) hx hb d33 (by rw [ek]; decide) (by rw [ek]; decide) (by rw [ek]; rfl) (by decide) (law_28 s28 C hi6 hM hP hS hl hcs next)
    | 29, _, ek => exact lv_tableIn (tgt := 989) hx hb d33 (by rw [ek]; decide) (by rw [ek]; decide) (by rw [ek]; rfl) (by decide) (law_29 s29 C hi6 hM hP hS hl hcs next)
    | 30, _, ek => exact lv_tableIn (tgt := 1032) hx hb d33 (by rw [ek]; decide) (by rw [ek]; decide) (by rw [ek]; rfl) (by decide) (law_30 s30 C hi6 hM hP hS hl hcs next)
    | 31, _, ek => exact lv_tableOut (tgt := 1045) hx hb d33 (by rw [ek]; decide) (by decide) (next M H locs hM hP hS)
    | n + 32, hk, _ => exact absurd hk (by omega)
end ZL
