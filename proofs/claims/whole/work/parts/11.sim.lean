section ZS
variable {p : Program} {l : Launch} {e : Env} {s : State} {m : MethodId} {args : Array Value} {below : List Frame} {meth : Method} {c : Code} {dC : Nat → ClassId} {dI : Nat → Nat → Nat} {ad : Nat → Nat} {cA : Nat → ClassId}

def zPj (p : Program) (l : Launch) (e : Env) (R : Room) (s : State) (m : MethodId) (args : Array Value) (below : List Frame) (meth : Method) (c : Code) (dC : Nat → ClassId) (dI : Nat → Nat → Nat) (ad : Nat → Nat) (cA : Nat → ClassId) (nL : Nat) (Q : State → Prop) : Pm := fun pc L st M => ∀ (H : Heap) (locs : List Loc) (ls : Array Slot), va_P (dC, dI) zCm (zWd ad cA M) H → va_S (zA ad) s.heap H locs → zLR ad L ls nL → W p l e R s m args below meth c H locs 0 0 Q (F0 m pc ls (st.map (zVm ad)))
/-- what stands for a method's body: machine, code, tables, cells -/
def zHy (p : Program) (l : Launch) (s : State) (m : MethodId) (args : Array Value) (meth : Method) (c : Code) (dC : Nat → ClassId) (dI : Nat → Nat → Nat) (ad : Nat → Nat) (cA : Nat → ClassId) (d μ : Nat) : Prop :=
  μ < 265 ∧ p.tables.exec = Jvm.exec ∧ c.code = zCd μ ∧ c.maxLocals = zMl μ ∧ meth.sig.returnType = zRt μ ∧ meth.locks = false ∧ s.vm.findClass (zCn (zOn μ)) = some m.cls ∧ (∀ w ∈ zTb, w.before args s = true) ∧ va_K (dC, dI) zCm (zTys cA) s ∧ zInj ad ∧ zStat ad s s.heap ∧ zNw s ∧
  (∀ μ', μ' < 265 → ∀ (as : List Vl) (M : Mm) (K : Kt), zSp d μ' as M K → Met l (zY μ') (zWs μ') (zRm μ') (va_Pc (as.map (zVm ad)) (zB dC dI ad cA M)) (zQ dC dI ad cA μ' K) 0 0 (zA ad))
theorem zi_iconst {n : Int} {K : Kt} {d μ pc nx a b : Nat} {v : Int} {w : Nat} {L : Lc} {st : List Vl} {M : Mm} (Hy : zHy p l s m args meth c dC dI ad cA d μ) (hd : decode (zCd μ) pc = .ok (.iconst n, zIl (.iconst n))) (hn : nx = pc + zIl (.iconst n)) (hi : zEI μ (.iconst n) pc a b v w = true) (h : zEx (zSp d) K (zPj p l e (zRm μ) s m args below meth c dC dI ad cA (zMl μ) (MQ below (zQ dC dI ad cA μ K) args s 0 0 (zA ad)) nx) (zPj p l e (zRm μ) s m args below meth c dC dI ad cA (zMl μ) (MQ below (zQ dC dI ad cA μ K) args s 0 0 (zA ad))) pc (.iconst n) a b v w L st M) : zPj p l e (zRm μ) s m args below meth c dC dI ad cA (zMl μ) (MQ below (zQ dC dI ad cA μ K) args s 0 0 (zA ad)) pc L st M := by
  obtain ⟨hμ, hx, hb, hml, hr, hlocks, hown, hts, hK, hinj, hst, hnw, IH⟩ := Hy
  subst hn
  intro H locs ls hP hS hL
  exact lv_iconst hx hb hd rfl (h H locs ls hP hS hL)
theorem zi_bipush {n : Int} {K : Kt} {d μ pc nx a b : Nat} {v : Int} {w : Nat} {L : Lc} {st : List Vl} {M : Mm} (Hy : zHy p l s m args meth c dC dI ad cA d μ) (hd : decode (zCd μ) pc = .ok (.bipush n, zIl (.bipush n))) (hn : nx = pc + zIl (.bipush n)) (hi : zEI μ (.bipush n) pc a b v w = true) (h : zEx (zSp d) K (zPj p l e (zRm μ) s m args below meth c dC dI ad cA (zMl μ) (MQ below (zQ dC dI ad cA μ K) args s 0 0 (zA ad)) nx) (zPj p l e (zRm μ) s m args below meth c dC dI ad cA (zMl μ) (MQ below (zQ dC dI ad cA μ K) args s 0 0 (zA ad))) pc (.bipush n) a b v w L st M) : zPj p l e (zRm μ) s m args below meth c dC dI ad cA (zMl μ) (MQ below (zQ dC dI ad cA μ K) args s 0 0 (zA ad)) pc L st M := by
  obtain ⟨hμ, hx, hb, hml, hr, hlocks, hown, hts, hK, hinj, hst, hnw, IH⟩ := Hy
  subst hn
  intro H locs ls hP hS hL
  exact lv_bipush hx hb hd (of_decide_eq_true hi) (h H locs ls hP hS hL)
theorem zi_sipush {n : Int} {K : Kt} {d μ pc nx a b : Nat} {v : Int} {w : Nat} {L : Lc} {st : List Vl} {M : Mm} (Hy : zHy p l s m args meth c dC dI ad cA d μ) (hd : decode (zCd μ) pc = .ok (.sipush n, zIl (.sipush n))) (hn : nx = pc + zIl (.sipush n)) (hi : zEI μ (.sipush n) pc a b v w = true) (h : zEx (zSp d) K (zPj p l e (zRm μ) s m args below meth c dC dI ad cA (zMl μ) (MQ below (zQ dC dI ad cA μ K) args s 0 0 (zA ad)) nx) (zPj p l e (zRm μ) s m args below meth c dC dI ad cA (zMl μ) (MQ below (zQ dC dI ad cA μ K) args s 0 0 (zA ad))) pc (.sipush n) a b v w L st M) : zPj p l e (zRm μ) s m args below meth c dC dI ad cA (zMl μ) (MQ below (zQ dC dI ad cA μ K) args s 0 0 (zA ad)) pc L st M := by
  obtain ⟨hμ, hx, hb, hml, hr, hlocks, hown, hts, hK, hinj, hst, hnw, IH⟩ := Hy
  subst hn
  intro H locs ls hP hS hL
  exact lv_sipush hx hb hd (of_decide_eq_true hi) (h H locs ls hP hS hL)
theorem zi_ldc {n : Nat} {K : Kt} {d μ pc nx a b : Nat} {v : Int} {w : Nat} {L : Lc} {st : List Vl} {M : Mm} (Hy : zHy p l s m args meth c dC dI ad cA d μ) (hd : decode (zCd μ) pc = .ok (.ldc n, zIl (.ldc n))) (hn : nx = pc + zIl (.ldc n)) (hi : zEI μ (.ldc n) pc a b v w = true) (h : zEx (zSp d) K (zPj p l e (zRm μ) s m args below meth c dC dI ad cA (zMl μ) (MQ below (zQ dC dI ad cA μ K) args s 0 0 (zA ad)) nx) (zPj p l e (zRm μ) s m args below meth c dC dI ad cA (zMl μ) (MQ below (zQ dC dI ad cA μ K) args s 0 0 (zA ad))) pc (.ldc n) a b v w L st M) : zPj p l e (zRm μ) s m args below meth c dC dI ad cA (zMl μ) (MQ below (zQ dC dI ad cA μ K) args s 0 0 (zA ad)) pc L st M := by
  obtain ⟨hμ, hx, hb, hml, hr, hlocks, hown, hts, hK, hinj, hst, hnw, IH⟩ := Hy
  subst hn
  intro H locs ls hP hS hL
  exact lv_ldc hx hb hown (hts _ (zGw (zc_ki _ (zM3_mem hi)) rfl)) hd (h H locs ls hP hS hL)
theorem zi_ldc_w {n : Nat} {K : Kt} {d μ pc nx a b : Nat} {v : Int} {w : Nat} {L : Lc} {st : List Vl} {M : Mm} (Hy : zHy p l s m args meth c dC dI ad cA d μ) (hd : decode (zCd μ) pc = .ok (.ldc_w n, zIl (.ldc_w n))) (hn : nx = pc + zIl (.ldc_w n)) (hi : zEI μ (.ldc_w n) pc a b v w = true) (h : zEx (zSp d) K (zPj p l e (zRm μ) s m args below meth c dC dI ad cA (zMl μ) (MQ below (zQ dC dI ad cA μ K) args s 0 0 (zA ad)) nx) (zPj p l e (zRm μ) s m args below meth c dC dI ad cA (zMl μ) (MQ below (zQ dC dI ad cA μ K) args s 0 0 (zA ad))) pc (.ldc_w n) a b v w L st M) : zPj p l e (zRm μ) s m args below meth c dC dI ad cA (zMl μ) (MQ below (zQ dC dI ad cA μ K) args s 0 0 (zA ad)) pc L st M := by
  obtain ⟨hμ, hx, hb, hml, hr, hlocks, hown, hts, hK, hinj, hst, hnw, IH⟩ := Hy
  subst hn
  intro H locs ls hP hS hL
  exact lv_ldcw hx hb hown (hts _ (zGw (zc_ki _ (zM3_mem hi)) rfl)) hd (h H locs ls hP hS hL)
theorem zi_ldc2_w {n : Nat} {K : Kt} {d μ pc nx a b : Nat} {v : Int} {w : Nat} {L : Lc} {st : List Vl} {M : Mm} (Hy : zHy p l s m args meth c dC dI ad cA d μ) (hd : decode (zCd μ) pc = .ok (.ldc2_w n, zIl (.ldc2_w n))) (hn : nx = pc + zIl (.ldc2_w n)) (hi : zEI μ (.ldc2_w n) pc a b v w = true) (h : zEx (zSp d) K (zPj p l e (zRm μ) s m args below meth c dC dI ad cA (zMl μ) (MQ below (zQ dC dI ad cA μ K) args s 0 0 (zA ad)) nx) (zPj p l e (zRm μ) s m args below meth c dC dI ad cA (zMl μ) (MQ below (zQ dC dI ad cA μ K) args s 0 0 (zA ad))) pc (.ldc2_w n) a b v w L st M) : zPj p l e (zRm μ) s m args below meth c dC dI ad cA (zMl μ) (MQ below (zQ dC dI ad cA μ K) args s 0 0 (zA ad)) pc L st M := by
  obtain ⟨hμ, hx, hb, hml, hr, hlocks, hown, hts, hK, hinj, hst, hnw, IH⟩ := Hy
  subst hn
  intro H locs ls hP hS hL
  exact W.ldc2 hx hb hown (hts _ (zGw (zc_kj _ (zM3_mem hi)) rfl)) rfl hd (h H locs ls hP hS hL)
theorem zi_lconst {n : Fin 2} {K : Kt} {d μ pc nx a b : Nat} {v : Int} {w : Nat} {L : Lc} {st : List Vl} {M : Mm} (Hy : zHy p l s m args meth c dC dI ad cA d μ) (hd : decode (zCd μ) pc = .ok (.lconst n, zIl (.lconst n))) (hn : nx = pc + zIl (.lconst n)) (hi : zEI μ (.lconst n) pc a b v w = true) (h : zEx (zSp d) K (zPj p l e (zRm μ) s m args below meth c dC dI ad cA (zMl μ) (MQ below (zQ dC dI ad cA μ K) args s 0 0 (zA ad)) nx) (zPj p l e (zRm μ) s m args below meth c dC dI ad cA (zMl μ) (MQ below (zQ dC dI ad cA μ K) args s 0 0 (zA ad))) pc (.lconst n) a b v w L st M) : zPj p l e (zRm μ) s m args below meth c dC dI ad cA (zMl μ) (MQ below (zQ dC dI ad cA μ K) args s 0 0 (zA ad)) pc L st M := by
  obtain ⟨hμ, hx, hb, hml, hr, hlocks, hown, hts, hK, hinj, hst, hnw, IH⟩ := Hy
  subst hn
  intro H locs ls hP hS hL
  exact lv_lconst hx hb hd (of_decide_eq_true hi) (h H locs ls hP hS hL)
theorem zi_iload {n : Nat} {K : Kt} {d μ pc nx a b : Nat} {v : Int} {w : Nat} {L : Lc} {st : List Vl} {M : Mm} (Hy : zHy p l s m args meth c dC dI ad cA d μ) (hd : decode (zCd μ) pc = .ok (.iload n, zIl (.iload n))) (hn : nx = pc + zIl (.iload n)) (hi : zEI μ (.iload n) pc a b v w = true) (h : zEx (zSp d) K (zPj p l e (zRm μ) s m args below meth c dC dI ad cA (zMl μ) (MQ below (zQ dC dI ad cA μ K) args s 0 0 (zA ad)) nx) (zPj p l e (zRm μ) s m args below meth c dC dI ad cA (zMl μ) (MQ below (zQ dC dI ad cA μ K) args s 0 0 (zA ad))) pc (.iload n) a b v w L st M) : zPj p l e (zRm μ) s m args below meth c dC dI ad cA (zMl μ) (MQ below (zQ dC dI ad cA μ K) args s 0 0 (zA ad)) pc L st M := by
  obtain ⟨hμ, hx, hb, hml, hr, hlocks, hown, hts, hK, hinj, hst, hnw, IH⟩ := Hy
  subst hn
  intro H locs ls hP hS hL
  obtain ⟨x, hg, h⟩ := zLdI_e h
  have ha := Nat.eq_of_beq_eq_true hi
  exact lv_iload hx hb hd (by rw [ha]; exact zLR_ld hL hg) (h H locs ls hP hS hL)
theorem zi_iload_n {n : Fin 4} {K : Kt} {d μ pc nx a b : Nat} {v : Int} {w : Nat} {L : Lc} {st : List Vl} {M : Mm} (Hy : zHy p l s m args meth c dC dI ad cA d μ) (hd : decode (zCd μ) pc = .ok (.iload_n n, zIl (.iload_n n))) (hn : nx = pc + zIl (.iload_n n)) (hi : zEI μ (.iload_n n) pc a b v w = true) (h : zEx (zSp d) K (zPj p l e (zRm μ) s m args below meth c dC dI ad cA (zMl μ) (MQ below (zQ dC dI ad cA μ K) args s 0 0 (zA ad)) nx) (zPj p l e (zRm μ) s m args below meth c dC dI ad cA (zMl μ) (MQ below (zQ dC dI ad cA μ K) args s 0 0 (zA ad))) pc (.iload_n n) a b v w L st M) : zPj p l e (zRm μ) s m args below meth c dC dI ad cA (zMl μ) (MQ below (zQ dC dI ad cA μ K) args s 0 0 (zA ad)) pc L st M := by
  obtain ⟨hμ, hx, hb, hml, hr, hlocks, hown, hts, hK, hinj, hst, hnw, IH⟩ := Hy
  subst hn
  intro H locs ls hP hS hL
  obtain ⟨x, hg, h⟩ := zLdI_e h
  have ha := Nat.eq_of_beq_eq_true hi
  exact lv_iload_n hx hb hd ha (zLR_ld hL hg) (h H locs ls hP hS hL)
theorem zi_lload {n : Nat} {K : Kt} {d μ pc nx a b : Nat} {v : Int} {w : Nat} {L : Lc} {st : List Vl} {M : Mm} (Hy : zHy p l s m args meth c dC dI ad cA d μ) (hd : decode (zCd μ) pc = .ok (.lload n, zIl (.lload n))) (hn : nx = pc + zIl (.lload n)) (hi : zEI μ (.lload n) pc a b v w = true) (h : zEx (zSp d) K (zPj p l e (zRm μ) s m args below meth c dC dI ad cA (zMl μ) (MQ below (zQ dC dI ad cA μ K) args s 0 0 (zA ad)) nx) (zPj p l e (zRm μ) s m args below meth c dC dI ad cA (zMl μ) (MQ below (zQ dC dI ad cA μ K) args s 0 0 (zA ad))) pc (.lload n) a b v w L st M) : zPj p l e (zRm μ) s m args below meth c dC dI ad cA (zMl μ) (MQ below (zQ dC dI ad cA μ K) args s 0 0 (zA ad)) pc L st M := by
  obtain ⟨hμ, hx, hb, hml, hr, hlocks, hown, hts, hK, hinj, hst, hnw, IH⟩ := Hy
  subst hn
  intro H locs ls hP hS hL
  obtain ⟨x, hg, h⟩ := zLdL_e h
  have ha := Nat.eq_of_beq_eq_true hi
  exact lv_lload hx hb hd (by rw [ha]; exact zLR_ld hL hg) (h H locs ls hP hS hL)
theorem zi_lload_n {n : Fin 4} {K : Kt} {d μ pc nx a b : Nat} {v : Int} {w : Nat} {L : Lc} {st : List Vl} {M : Mm} (Hy : zHy p l s m args meth c dC dI ad cA d μ) (hd : decode (zCd μ) pc = .ok (.lload_n n, zIl (.lload_n n))) (hn : nx = pc + zIl (.lload_n n)) (hi : zEI μ (.lload_n n) pc a b v w = true) (h : zEx (zSp d) K (zPj p l e (zRm μ) s m args below meth c dC dI ad cA (zMl μ) (MQ below (zQ dC dI ad cA μ K) args s 0 0 (zA ad)) nx) (zPj p l e (zRm μ) s m args below meth c dC dI ad cA (zMl μ) (MQ below (zQ dC dI ad cA μ K) args s 0 0 (zA ad))) pc (.lload_n n) a b v w L st M) : zPj p l e (zRm μ) s m args below meth c dC dI ad cA (zMl μ) (MQ below (zQ dC dI ad cA μ K) args s 0 0 (zA ad)) pc L st M := by
  obtain ⟨hμ, hx, hb, hml, hr, hlocks, hown, hts, hK, hinj, hst, hnw, IH⟩ := Hy
  subst hn
  intro H locs ls hP hS hL
  obtain ⟨x, hg, h⟩ := zLdL_e h
  have ha := Nat.eq_of_beq_eq_true hi
  exact lv_lload_n hx hb hd ha (zLR_ld hL hg) (h H locs ls hP hS hL)
theorem zi_aload {n : Nat} {K : Kt} {d μ pc nx a b : Nat} {v : Int} {w : Nat} {L : Lc} {st : List Vl} {M : Mm} (Hy : zHy p l s m args meth c dC dI ad cA d μ) (hd : decode (zCd μ) pc = .ok (.aload n, zIl (.aload n))) (hn : nx = pc + zIl (.aload n)) (hi : zEI μ (.aload n) pc a b v w = true) (h : zEx (zSp d) K (zPj p l e (zRm μ) s m args below meth c dC dI ad cA (zMl μ) (MQ below (zQ dC dI ad cA μ K) args s 0 0 (zA ad)) nx) (zPj p l e (zRm μ) s m args below meth c dC dI ad cA (zMl μ) (MQ below (zQ dC dI ad cA μ K) args s 0 0 (zA ad))) pc (.aload n) a b v w L st M) : zPj p l e (zRm μ) s m args below meth c dC dI ad cA (zMl μ) (MQ below (zQ dC dI ad cA μ K) args s 0 0 (zA ad)) pc L st M := by
  obtain ⟨hμ, hx, hb, hml, hr, hlocks, hown, hts, hK, hinj, hst, hnw, IH⟩ := Hy
  subst hn
  intro H locs ls hP hS hL
  obtain ⟨x, hg, h⟩ := zLdR_e h
  have ha := Nat.eq_of_beq_eq_true hi
  exact lv_aload hx hb hd (by rw [ha]; exact zLR_ld hL hg) (h H locs ls hP hS hL)
theorem zi_aload_n {n : Fin 4} {K : Kt} {d μ pc nx a b : Nat} {v : Int} {w : Nat} {L : Lc} {st : List Vl} {M : Mm} (Hy : zHy p l s m args meth c dC dI ad cA d μ) (hd : decode (zCd μ) pc = .ok (.aload_n n, zIl (.aload_n n))) (hn : nx = pc + zIl (.aload_n n)) (hi : zEI μ (.aload_n n) pc a b v w = true) (h : zEx (zSp d) K (zPj p l e (zRm μ) s m args below meth c dC dI ad cA (zMl μ) (MQ below (zQ dC dI ad cA μ K) args s 0 0 (zA ad)) nx) (zPj p l e (zRm μ) s m args below meth c dC dI ad cA (zMl μ) (MQ below (zQ dC dI ad cA μ K) args s 0 0 (zA ad))) pc (.aload_n n) a b v w L st M) : zPj p l e (zRm μ) s m args below meth c dC dI ad cA (zMl μ) (MQ below (zQ dC dI ad cA μ K) args s 0 0 (zA ad)) pc L st M := by
  obtain ⟨hμ, hx, hb, hml, hr, hlocks, hown, hts, hK, hinj, hst, hnw, IH⟩ := Hy
  subst hn
  intro H locs ls hP hS hL
  obtain ⟨x, hg, h⟩ := zLdR_e h
  have ha := Nat.eq_of_beq_eq_true hi
  exact lv_aload_n hx hb hd ha (zLR_ld hL hg) (h H locs ls hP hS hL)
theorem zi_istore {n : Nat} {K : Kt} {d μ pc nx a b : Nat} {v : Int} {w : Nat} {L : Lc} {st : List Vl} {M : Mm} (Hy : zHy p l s m args meth c dC dI ad cA d μ) (hd : decode (zCd μ) pc = .ok (.istore n, zIl (.istore n))) (hn : nx = pc + zIl (.istore n)) (hi : zEI μ (.istore n) pc a b v w = true) (h : zEx (zSp d) K (zPj p l e (zRm μ) s m args below meth c dC dI ad cA (zMl μ) (MQ below (zQ dC dI ad cA μ K) args s 0 0 (zA ad)) nx) (zPj p l e (zRm μ) s m args below meth c dC dI ad cA (zMl μ) (MQ below (zQ dC dI ad cA μ K) args s 0 0 (zA ad))) pc (.istore n) a b v w L st M) : zPj p l e (zRm μ) s m args below meth c dC dI ad cA (zMl μ) (MQ below (zQ dC dI ad cA μ K) args s 0 0 (zA ad)) pc L st M := by
  obtain ⟨hμ, hx, hb, hml, hr, hlocks, hown, hts, hK, hinj, hst, hnw, IH⟩ := Hy
  subst hn
  intro H locs ls hP hS hL
  obtain ⟨x, r, rfl, h⟩ := zS1_e h
  simp only [zEI, Bool.and_eq_true] at hi
  have ha := Nat.eq_of_beq_eq_true hi.1
  subst ha
  exact lv_istore hx hb hd hL.2 (Nat.blt_eq.mp hi.2) rfl (fun ls2 h2 => h H locs ls2 hP hS (zLR_st1 rfl hL.1 h2))
theorem zi_istore_n {n : Fin 4} {K : Kt} {d μ pc nx a b : Nat} {v : Int} {w : Nat} {L : Lc} {st : List Vl} {M : Mm} (Hy : zHy p l s m args meth c dC dI ad cA d μ) (hd : decode (zCd μ) pc = .ok (.istore_n n, zIl (.istore_n n))) (hn : nx = pc + zIl (.istore_n n)) (hi : zEI μ (.istore_n n) pc a b v w = true) (h : zEx (zSp d) K (zPj p l e (zRm μ) s m args below meth c dC dI ad cA (zMl μ) (MQ below (zQ dC dI ad cA μ K) args s 0 0 (zA ad)) nx) (zPj p l e (zRm μ) s m args below meth c dC dI ad cA (zMl μ) (MQ below (zQ dC dI ad cA μ K) args s 0 0 (zA ad))) pc (.istore_n n) a b v w L st M) : zPj p l e (zRm μ) s m args below meth c dC dI ad cA (zMl μ) (MQ below (zQ dC dI ad cA μ K) args s 0 0 (zA ad)) pc L st M := by
  obtain ⟨hμ, hx, hb, hml, hr, hlocks, hown, hts, hK, hinj, hst, hnw, IH⟩ := Hy
  subst hn
  intro H locs ls hP hS hL
  obtain ⟨x, r, rfl, h⟩ := zS1_e h
  simp only [zEI, Bool.and_eq_true] at hi
  have ha := Nat.eq_of_beq_eq_true hi.1
  exact lv_istore_n hx hb hd ha hL.2 (Nat.blt_eq.mp hi.2) rfl (fun ls2 h2 => h H locs ls2 hP hS (zLR_st1 rfl hL.1 h2))
theorem zi_astore {n : Nat} {K : Kt} {d μ pc nx a b : Nat} {v : Int} {w : Nat} {L : Lc} {st : List Vl} {M : Mm} (Hy : zHy p l s m args meth c dC dI ad cA d μ) (hd : decode (zCd μ) pc = .ok (.astore n, zIl (.astore n))) (hn : nx = pc + zIl (.astore n)) (hi : zEI μ (.astore n) pc a b v w = true) (h : zEx (zSp d) K (zPj p l e (zRm μ) s m args below meth c dC dI ad cA (zMl μ) (MQ below (zQ dC dI ad cA μ K) args s 0 0 (zA ad)) nx) (zPj p l e (zRm μ) s m args below meth c dC dI ad cA (zMl μ) (MQ below (zQ dC dI ad cA μ K) args s 0 0 (zA ad))) pc (.astore n) a b v w L st M) : zPj p l e (zRm μ) s m args below meth c dC dI ad cA (zMl μ) (MQ below (zQ dC dI ad cA μ K) args s 0 0 (zA ad)) pc L st M := by
  obtain ⟨hμ, hx, hb, hml, hr, hlocks, hown, hts, hK, hinj, hst, hnw, IH⟩ := Hy
  subst hn
  intro H locs ls hP hS hL
  obtain ⟨x, r, rfl, h⟩ := zR1_e h
  simp only [zEI, Bool.and_eq_true] at hi
  have ha := Nat.eq_of_beq_eq_true hi.1
  subst ha
  exact lv_astore hx hb hd hL.2 (Nat.blt_eq.mp hi.2) rfl (fun ls2 h2 => h H locs ls2 hP hS (zLR_st1 rfl hL.1 h2))
theorem zi_astore_n {n : Fin 4} {K : Kt} {d μ pc nx a b : Nat} {v : Int} {w : Nat} {L : Lc} {st : List Vl} {M : Mm} (Hy : zHy p l s m args meth c dC dI ad cA d μ) (hd : decode (zCd μ) pc = .ok (.astore_n n, zIl (.astore_n n))) (hn : nx = pc + zIl (.astore_n n)) (hi : zEI μ (.astore_n n) pc a b v w = true) (h : zEx (zSp d) K (zPj p l e (zRm μ) s m args below meth c dC dI ad cA (zMl μ) (MQ below (zQ dC dI ad cA μ K) args s 0 0 (zA ad)) nx) (zPj p l e (zRm μ) s m args below meth c dC dI ad cA (zMl μ) (MQ below (zQ dC dI ad cA μ K) args s 0 0 (zA ad))) pc (.astore_n n) a b v w L st M) : zPj p l e (zRm μ) s m args below meth c dC dI ad cA (zMl μ) (MQ below (zQ dC dI ad cA μ K) args s 0 0 (zA ad)) pc L st M := by
  obtain ⟨hμ, hx, hb, hml, hr, hlocks, hown, hts, hK, hinj, hst, hnw, IH⟩ := Hy
  subst hn
  intro H locs ls hP hS hL
  obtain ⟨x, r, rfl, h⟩ := zR1_e h
  simp only [zEI, Bool.and_eq_true] at hi
  have ha := Nat.eq_of_beq_eq_true hi.1
  exact lv_astore_n hx hb hd ha hL.2 (Nat.blt_eq.mp hi.2) rfl (fun ls2 h2 => h H locs ls2 hP hS (zLR_st1 rfl hL.1 h2))
theorem zi_lstore {n : Nat} {K : Kt} {d μ pc nx a b : Nat} {v : Int} {w : Nat} {L : Lc} {st : List Vl} {M : Mm} (Hy : zHy p l s m args meth c dC dI ad cA d μ) (hd : decode (zCd μ) pc = .ok (.lstore n, zIl (.lstore n))) (hn : nx = pc + zIl (.lstore n)) (hi : zEI μ (.lstore n) pc a b v w = true) (h : zEx (zSp d) K (zPj p l e (zRm μ) s m args below meth c dC dI ad cA (zMl μ) (MQ below (zQ dC dI ad cA μ K) args s 0 0 (zA ad)) nx) (zPj p l e (zRm μ) s m args below meth c dC dI ad cA (zMl μ) (MQ below (zQ dC dI ad cA μ K) args s 0 0 (zA ad))) pc (.lstore n) a b v w L st M) : zPj p l e (zRm μ) s m args below meth c dC dI ad cA (zMl μ) (MQ below (zQ dC dI ad cA μ K) args s 0 0 (zA ad)) pc L st M := by
  obtain ⟨hμ, hx, hb, hml, hr, hlocks, hown, hts, hK, hinj, hst, hnw, IH⟩ := Hy
  subst hn
  intro H locs ls hP hS hL
  obtain ⟨x, r, rfl, h⟩ := zL1_e h
  simp only [zEI, Bool.and_eq_true] at hi
  have ha := Nat.eq_of_beq_eq_true hi.1
  subst ha
  exact lv_lstore hx hb hd hL.2 (Nat.blt_eq.mp hi.2) rfl (fun ls2 h2 => h H locs ls2 hP hS (zLR_st2 rfl hL.1 h2))
theorem zi_lstore_n {n : Fin 4} {K : Kt} {d μ pc nx a b : Nat} {v : Int} {w : Nat} {L : Lc} {st : List Vl} {M : Mm} (Hy : zHy p l s m args meth c dC dI ad cA d μ) (hd : decode (zCd μ) pc = .ok (.lstore_n n, zIl (.lstore_n n))) (hn : nx = pc + zIl (.lstore_n n)) (hi : zEI μ (.lstore_n n) pc a b v w = true) (h : zEx (zSp d) K (zPj p l e (zRm μ) s m args below meth c dC dI ad cA (zMl μ) (MQ below (zQ dC dI ad cA μ K) args s 0 0 (zA ad)) nx) (zPj p l e (zRm μ) s m args below meth c dC dI ad cA (zMl μ) (MQ below (zQ dC dI ad cA μ K) args s 0 0 (zA ad))) pc (.lstore_n n) a b v w L st M) : zPj p l e (zRm μ) s m args below meth c dC dI ad cA (zMl μ) (MQ below (zQ dC dI ad cA μ K) args s 0 0 (zA ad)) pc L st M := by
  obtain ⟨hμ, hx, hb, hml, hr, hlocks, hown, hts, hK, hinj, hst, hnw, IH⟩ := Hy
  subst hn
  intro H locs ls hP hS hL
  obtain ⟨x, r, rfl, h⟩ := zL1_e h
  simp only [zEI, Bool.and_eq_true] at hi
  have ha := Nat.eq_of_beq_eq_true hi.1
  exact lv_lstore_n hx hb hd ha hL.2 (Nat.blt_eq.mp hi.2) rfl (fun ls2 h2 => h H locs ls2 hP hS (zLR_st2 rfl hL.1 h2))
theorem zi_iinc {n : Nat} {k : Int} {K : Kt} {d μ pc nx a b : Nat} {v : Int} {w : Nat} {L : Lc} {st : List Vl} {M : Mm} (Hy : zHy p l s m args meth c dC dI ad cA d μ) (hd : decode (zCd μ) pc = .ok (.iinc n k, zIl (.iinc n k))) (hn : nx = pc + zIl (.iinc n k)) (hi : zEI μ (.iinc n k) pc a b v w = true) (h : zEx (zSp d) K (zPj p l e (zRm μ) s m args below meth c dC dI ad cA (zMl μ) (MQ below (zQ dC dI ad cA μ K) args s 0 0 (zA ad)) nx) (zPj p l e (zRm μ) s m args below meth c dC dI ad cA (zMl μ) (MQ below (zQ dC dI ad cA μ K) args s 0 0 (zA ad))) pc (.iinc n k) a b v w L st M) : zPj p l e (zRm μ) s m args below meth c dC dI ad cA (zMl μ) (MQ below (zQ dC dI ad cA μ K) args s 0 0 (zA ad)) pc L st M := by
  obtain ⟨hμ, hx, hb, hml, hr, hlocks, hown, hts, hK, hinj, hst, hnw, IH⟩ := Hy
  subst hn
  intro H locs ls hP hS hL
  obtain ⟨x, hg, h⟩ := zLdI_e h
  simp only [zEI, Bool.and_eq_true] at hi
  have ha := Nat.eq_of_beq_eq_true hi.1
  subst ha
  have hv : v = k := of_decide_eq_true hi.2.2
  subst hv
  have hm := zLv_get (ad := ad) L 0 n hg
  rw [Nat.zero_add] at hm
  obtain ⟨q, hq⟩ := List.getElem?_of_mem hm
  refine lv_iinc hx hb hd hL.2 hq (Int32.ofInt_add x v).symm (Nat.blt_eq.mp hi.2.1) rfl (fun ls2 h2 => h H locs ls2 hP hS (zLR_st1 rfl hL.1 h2))
theorem zi_iadd  {K : Kt} {d μ pc nx a b : Nat} {v : Int} {w : Nat} {L : Lc} {st : List Vl} {M : Mm} (Hy : zHy p l s m args meth c dC dI ad cA d μ) (hd : decode (zCd μ) pc = .ok (.iadd, zIl (.iadd))) (hn : nx = pc + zIl (.iadd)) (hi : zEI μ (.iadd) pc a b v w = true) (h : zEx (zSp d) K (zPj p l e (zRm μ) s m args below meth c dC dI ad cA (zMl μ) (MQ below (zQ dC dI ad cA μ K) args s 0 0 (zA ad)) nx) (zPj p l e (zRm μ) s m args below meth c dC dI ad cA (zMl μ) (MQ below (zQ dC dI ad cA μ K) args s 0 0 (zA ad))) pc (.iadd) a b v w L st M) : zPj p l e (zRm μ) s m args below meth c dC dI ad cA (zMl μ) (MQ below (zQ dC dI ad cA μ K) args s 0 0 (zA ad)) pc L st M := by
  obtain ⟨hμ, hx, hb, hml, hr, hlocks, hown, hts, hK, hinj, hst, hnw, IH⟩ := Hy
  subst hn
  intro H locs ls hP hS hL
  obtain ⟨x, y, r, rfl, h⟩ := zS2_e h
  refine lv_iadd hx hb hd ?_
  rw [← Int32.ofInt_add]
  exact h H locs ls hP hS hL
theorem zi_isub  {K : Kt} {d μ pc nx a b : Nat} {v : Int} {w : Nat} {L : Lc} {st : List Vl} {M : Mm} (Hy : zHy p l s m args meth c dC dI ad cA d μ) (hd : decode (zCd μ) pc = .ok (.isub, zIl (.isub))) (hn : nx = pc + zIl (.isub)) (hi : zEI μ (.isub) pc a b v w = true) (h : zEx (zSp d) K (zPj p l e (zRm μ) s m args below meth c dC dI ad cA (zMl μ) (MQ below (zQ dC dI ad cA μ K) args s 0 0 (zA ad)) nx) (zPj p l e (zRm μ) s m args below meth c dC dI ad cA (zMl μ) (MQ below (zQ dC dI ad cA μ K) args s 0 0 (zA ad))) pc (.isub) a b v w L st M) : zPj p l e (zRm μ) s m args below meth c dC dI ad cA (zMl μ) (MQ below (zQ dC dI ad cA μ K) args s 0 0 (zA ad)) pc L st M := by
  obtain ⟨hμ, hx, hb, hml, hr, hlocks, hown, hts, hK, hinj, hst, hnw, IH⟩ := Hy
  subst hn
  intro H locs ls hP hS hL
  obtain ⟨x, y, r, rfl, h⟩ := zS2_e h
  refine lv_isub hx hb hd ?_
  rw [← Int32.ofInt_sub]
  exact h H locs ls hP hS hL
theorem zi_imul  {K : Kt} {d μ pc nx a b : Nat} {v : Int} {w : Nat} {L : Lc} {st : List Vl} {M : Mm} (Hy : zHy p l s m args meth c dC dI ad cA d μ) (hd : decode (zCd μ) pc = .ok (.imul, zIl (.imul))) (hn : nx = pc + zIl (.imul)) (hi : zEI μ (.imul) pc a b v w = true) (h : zEx (zSp d) K (zPj p l e (zRm μ) s m args below meth c dC dI ad cA (zMl μ) (MQ below (zQ dC dI ad cA μ K) args s 0 0 (zA ad)) nx) (zPj p l e (zRm μ) s m args below meth c dC dI ad cA (zMl μ) (MQ below (zQ dC dI ad cA μ K) args s 0 0 (zA ad))) pc (.imul) a b v w L st M) : zPj p l e (zRm μ) s m args below meth c dC dI ad cA (zMl μ) (MQ below (zQ dC dI ad cA μ K) args s 0 0 (zA ad)) pc L st M := by
  obtain ⟨hμ, hx, hb, hml, hr, hlocks, hown, hts, hK, hinj, hst, hnw, IH⟩ := Hy
  subst hn
  intro H locs ls hP hS hL
  obtain ⟨x, y, r, rfl, h⟩ := zS2_e h
  refine lv_imul hx hb hd ?_
  rw [← Int32.ofInt_mul]
  exact h H locs ls hP hS hL
theorem zi_ladd  {K : Kt} {d μ pc nx a b : Nat} {v : Int} {w : Nat} {L : Lc} {st : List Vl} {M : Mm} (Hy : zHy p l s m args meth c dC dI ad cA d μ) (hd : decode (zCd μ) pc = .ok (.ladd, zIl (.ladd))) (hn : nx = pc + zIl (.ladd)) (hi : zEI μ (.ladd) pc a b v w = true) (h : zEx (zSp d) K (zPj p l e (zRm μ) s m args below meth c dC dI ad cA (zMl μ) (MQ below (zQ dC dI ad cA μ K) args s 0 0 (zA ad)) nx) (zPj p l e (zRm μ) s m args below meth c dC dI ad cA (zMl μ) (MQ below (zQ dC dI ad cA μ K) args s 0 0 (zA ad))) pc (.ladd) a b v w L st M) : zPj p l e (zRm μ) s m args below meth c dC dI ad cA (zMl μ) (MQ below (zQ dC dI ad cA μ K) args s 0 0 (zA ad)) pc L st M := by
  obtain ⟨hμ, hx, hb, hml, hr, hlocks, hown, hts, hK, hinj, hst, hnw, IH⟩ := Hy
  subst hn
  intro H locs ls hP hS hL
  obtain ⟨x, y, r, rfl, h⟩ := zL2_e h
  refine lv_ladd hx hb hd ?_
  rw [← Int64.ofInt_add]
  exact h H locs ls hP hS hL
theorem zi_lsub  {K : Kt} {d μ pc nx a b : Nat} {v : Int} {w : Nat} {L : Lc} {st : List Vl} {M : Mm} (Hy : zHy p l s m args meth c dC dI ad cA d μ) (hd : decode (zCd μ) pc = .ok (.lsub, zIl (.lsub))) (hn : nx = pc + zIl (.lsub)) (hi : zEI μ (.lsub) pc a b v w = true) (h : zEx (zSp d) K (zPj p l e (zRm μ) s m args below meth c dC dI ad cA (zMl μ) (MQ below (zQ dC dI ad cA μ K) args s 0 0 (zA ad)) nx) (zPj p l e (zRm μ) s m args below meth c dC dI ad cA (zMl μ) (MQ below (zQ dC dI ad cA μ K) args s 0 0 (zA ad))) pc (.lsub) a b v w L st M) : zPj p l e (zRm μ) s m args below meth c dC dI ad cA (zMl μ) (MQ below (zQ dC dI ad cA μ K) args s 0 0 (zA ad)) pc L st M := by
  obtain ⟨hμ, hx, hb, hml, hr, hlocks, hown, hts, hK, hinj, hst, hnw, IH⟩ := Hy
  subst hn
  intro H locs ls hP hS hL
  obtain ⟨x, y, r, rfl, h⟩ := zL2_e h
  refine lv_lsub hx hb hd ?_
  rw [← Int64.ofInt_sub]
  exact h H locs ls hP hS hL
theorem zi_lmul  {K : Kt} {d μ pc nx a b : Nat} {v : Int} {w : Nat} {L : Lc} {st : List Vl} {M : Mm} (Hy : zHy p l s m args meth c dC dI ad cA d μ) (hd : decode (zCd μ) pc = .ok (.lmul, zIl (.lmul))) (hn : nx = pc + zIl (.lmul)) (hi : zEI μ (.lmul) pc a b v w = true) (h : zEx (zSp d) K (zPj p l e (zRm μ) s m args below meth c dC dI ad cA (zMl μ) (MQ below (zQ dC dI ad cA μ K) args s 0 0 (zA ad)) nx) (zPj p l e (zRm μ) s m args below meth c dC dI ad cA (zMl μ) (MQ below (zQ dC dI ad cA μ K) args s 0 0 (zA ad))) pc (.lmul) a b v w L st M) : zPj p l e (zRm μ) s m args below meth c dC dI ad cA (zMl μ) (MQ below (zQ dC dI ad cA μ K) args s 0 0 (zA ad)) pc L st M := by
  obtain ⟨hμ, hx, hb, hml, hr, hlocks, hown, hts, hK, hinj, hst, hnw, IH⟩ := Hy
  subst hn
  intro H locs ls hP hS hL
  obtain ⟨x, y, r, rfl, h⟩ := zL2_e h
  refine lv_lmul hx hb hd ?_
  rw [← Int64.ofInt_mul]
  exact h H locs ls hP hS hL
theorem zi_iand  {K : Kt} {d μ pc nx a b : Nat} {v : Int} {w : Nat} {L : Lc} {st : List Vl} {M : Mm} (Hy : zHy p l s m args meth c dC dI ad cA d μ) (hd : decode (zCd μ) pc = .ok (.iand, zIl (.iand))) (hn : nx = pc + zIl (.iand)) (hi : zEI μ (.iand) pc a b v w = true) (h : zEx (zSp d) K (zPj p l e (zRm μ) s m args below meth c dC dI ad cA (zMl μ) (MQ below (zQ dC dI ad cA μ K) args s 0 0 (zA ad)) nx) (zPj p l e (zRm μ) s m args below meth c dC dI ad cA (zMl μ) (MQ below (zQ dC dI ad cA μ K) args s 0 0 (zA ad))) pc (.iand) a b v w L st M) : zPj p l e (zRm μ) s m args below meth c dC dI ad cA (zMl μ) (MQ below (zQ dC dI ad cA μ K) args s 0 0 (zA ad)) pc L st M := by
  obtain ⟨hμ, hx, hb, hml, hr, hlocks, hown, hts, hK, hinj, hst, hnw, IH⟩ := Hy
  subst hn
  intro H locs ls hP hS hL
  obtain ⟨x, y, r, rfl, h⟩ := zS2_e h
  refine lv_iand hx hb hd ?_
  rw [ziand]
  exact h H locs ls hP hS hL
theorem zi_ior  {K : Kt} {d μ pc nx a b : Nat} {v : Int} {w : Nat} {L : Lc} {st : List Vl} {M : Mm} (Hy : zHy p l s m args meth c dC dI ad cA d μ) (hd : decode (zCd μ) pc = .ok (.ior, zIl (.ior))) (hn : nx = pc + zIl (.ior)) (hi : zEI μ (.ior) pc a b v w = true) (h : zEx (zSp d) K (zPj p l e (zRm μ) s m args below meth c dC dI ad cA (zMl μ) (MQ below (zQ dC dI ad cA μ K) args s 0 0 (zA ad)) nx) (zPj p l e (zRm μ) s m args below meth c dC dI ad cA (zMl μ) (MQ below (zQ dC dI ad cA μ K) args s 0 0 (zA ad))) pc (.ior) a b v w L st M) : zPj p l e (zRm μ) s m args below meth c dC dI ad cA (zMl μ) (MQ below (zQ dC dI ad cA μ K) args s 0 0 (zA ad)) pc L st M := by
  obtain ⟨hμ, hx, hb, hml, hr, hlocks, hown, hts, hK, hinj, hst, hnw, IH⟩ := Hy
  subst hn
  intro H locs ls hP hS hL
  obtain ⟨x, y, r, rfl, h⟩ := zS2_e h
  refine lv_ior hx hb hd ?_
  rw [zior]
  exact h H locs ls hP hS hL
theorem zi_ixor  {K : Kt} {d μ pc nx a b : Nat} {v : Int} {w : Nat} {L : Lc} {st : List Vl} {M : Mm} (Hy : zHy p l s m args meth c dC dI ad cA d μ) (hd : decode (zCd μ) pc = .ok (.ixor, zIl (.ixor))) (hn : nx = pc + zIl (.ixor)) (hi : zEI μ (.ixor) pc a b v w = true) (h : zEx (zSp d) K (zPj p l e (zRm μ) s m args below meth c dC dI ad cA (zMl μ) (MQ below (zQ dC dI ad cA μ K) args s 0 0 (zA ad)) nx) (zPj p l e (zRm μ) s m args below meth c dC dI ad cA (zMl μ) (MQ below (zQ dC dI ad cA μ K) args s 0 0 (zA ad))) pc (.ixor) a b v w L st M) : zPj p l e (zRm μ) s m args below meth c dC dI ad cA (zMl μ) (MQ below (zQ dC dI ad cA μ K) args s 0 0 (zA ad)) pc L st M := by
  obtain ⟨hμ, hx, hb, hml, hr, hlocks, hown, hts, hK, hinj, hst, hnw, IH⟩ := Hy
  subst hn
  intro H locs ls hP hS hL
  obtain ⟨x, y, r, rfl, h⟩ := zS2_e h
  refine lv_ixor hx hb hd ?_
  rw [zixor]
  exact h H locs ls hP hS hL
theorem zi_land  {K : Kt} {d μ pc nx a b : Nat} {v : Int} {w : Nat} {L : Lc} {st : List Vl} {M : Mm} (Hy : zHy p l s m args meth c dC dI ad cA d μ) (hd : decode (zCd μ) pc = .ok (.land, zIl (.land))) (hn : nx = pc + zIl (.land)) (hi : zEI μ (.land) pc a b v w = true) (h : zEx (zSp d) K (zPj p l e (zRm μ) s m args below meth c dC dI ad cA (zMl μ) (MQ below (zQ dC dI ad cA μ K) args s 0 0 (zA ad)) nx) (zPj p l e (zRm μ) s m args below meth c dC dI ad cA (zMl μ) (MQ below (zQ dC dI ad cA μ K) args s 0 0 (zA ad))) pc (.land) a b v w L st M) : zPj p l e (zRm μ) s m args below meth c dC dI ad cA (zMl μ) (MQ below (zQ dC dI ad cA μ K) args s 0 0 (zA ad)) pc L st M := by
  obtain ⟨hμ, hx, hb, hml, hr, hlocks, hown, hts, hK, hinj, hst, hnw, IH⟩ := Hy
  subst hn
  intro H locs ls hP hS hL
  obtain ⟨x, y, r, rfl, h⟩ := zL2_e h
  refine lv_land hx hb hd ?_
  rw [zland]
  exact h H locs ls hP hS hL
theorem zi_lor  {K : Kt} {d μ pc nx a b : Nat} {v : Int} {w : Nat} {L : Lc} {st : List Vl} {M : Mm} (Hy : zHy p l s m args meth c dC dI ad cA d μ) (hd : decode (zCd μ) pc = .ok (.lor, zIl (.lor))) (hn : nx = pc + zIl (.lor)) (hi : zEI μ (.lor) pc a b v w = true) (h : zEx (zSp d) K (zPj p l e (zRm μ) s m args below meth c dC dI ad cA (zMl μ) (MQ below (zQ dC dI ad cA μ K) args s 0 0 (zA ad)) nx) (zPj p l e (zRm μ) s m args below meth c dC dI ad cA (zMl μ) (MQ below (zQ dC dI ad cA μ K) args s 0 0 (zA ad))) pc (.lor) a b v w L st M) : zPj p l e (zRm μ) s m args below meth c dC dI ad cA (zMl μ) (MQ below (zQ dC dI ad cA μ K) args s 0 0 (zA ad)) pc L st M := by
  obtain ⟨hμ, hx, hb, hml, hr, hlocks, hown, hts, hK, hinj, hst, hnw, IH⟩ := Hy
  subst hn
  intro H locs ls hP hS hL
  obtain ⟨x, y, r, rfl, h⟩ := zL2_e h
  refine lv_lor hx hb hd ?_
  rw [zlor]
  exact h H locs ls hP hS hL
theorem zi_lxor  {K : Kt} {d μ pc nx a b : Nat} {v : Int} {w : Nat} {L : Lc} {st : List Vl} {M : Mm} (Hy : zHy p l s m args meth c dC dI ad cA d μ) (hd : decode (zCd μ) pc = .ok (.lxor, zIl (.lxor))) (hn : nx = pc + zIl (.lxor)) (hi : zEI μ (.lxor) pc a b v w = true) (h : zEx (zSp d) K (zPj p l e (zRm μ) s m args below meth c dC dI ad cA (zMl μ) (MQ below (zQ dC dI ad cA μ K) args s 0 0 (zA ad)) nx) (zPj p l e (zRm μ) s m args below meth c dC dI ad cA (zMl μ) (MQ below (zQ dC dI ad cA μ K) args s 0 0 (zA ad))) pc (.lxor) a b v w L st M) : zPj p l e (zRm μ) s m args below meth c dC dI ad cA (zMl μ) (MQ below (zQ dC dI ad cA μ K) args s 0 0 (zA ad)) pc L st M := by
  obtain ⟨hμ, hx, hb, hml, hr, hlocks, hown, hts, hK, hinj, hst, hnw, IH⟩ := Hy
  subst hn
  intro H locs ls hP hS hL
  obtain ⟨x, y, r, rfl, h⟩ := zL2_e h
  refine lv_lxor hx hb hd ?_
  rw [zlxor]
  exact h H locs ls hP hS hL
theorem zi_idiv  {K : Kt} {d μ pc nx a b : Nat} {v : Int} {w : Nat} {L : Lc} {st : List Vl} {M : Mm} (Hy : zHy p l s m args meth c dC dI ad cA d μ) (hd : decode (zCd μ) pc = .ok (.idiv, zIl (.idiv))) (hn : nx = pc + zIl (.idiv)) (hi : zEI μ (.idiv) pc a b v w = true) (h : zEx (zSp d) K (zPj p l e (zRm μ) s m args below meth c dC dI ad cA (zMl μ) (MQ below (zQ dC dI ad cA μ K) args s 0 0 (zA ad)) nx) (zPj p l e (zRm μ) s m args below meth c dC dI ad cA (zMl μ) (MQ below (zQ dC dI ad cA μ K) args s 0 0 (zA ad))) pc (.idiv) a b v w L st M) : zPj p l e (zRm μ) s m args below meth c dC dI ad cA (zMl μ) (MQ below (zQ dC dI ad cA μ K) args s 0 0 (zA ad)) pc L st M := by
  obtain ⟨hμ, hx, hb, hml, hr, hlocks, hown, hts, hK, hinj, hst, hnw, IH⟩ := Hy
  subst hn
  intro H locs ls hP hS hL
  obtain ⟨x, y, r, rfl, h⟩ := zS2_e h
  obtain ⟨h1, h⟩ := zC_iff.mp h
  obtain ⟨h2, h⟩ := zC_iff.mp h
  obtain ⟨h3, h⟩ := zC_iff.mp h
  refine lv_idiv hx hb hd (z32_nz h2 h3) ?_
  rw [z32_div h1 h2 h3]
  exact h H locs ls hP hS hL
theorem zi_irem  {K : Kt} {d μ pc nx a b : Nat} {v : Int} {w : Nat} {L : Lc} {st : List Vl} {M : Mm} (Hy : zHy p l s m args meth c dC dI ad cA d μ) (hd : decode (zCd μ) pc = .ok (.irem, zIl (.irem))) (hn : nx = pc + zIl (.irem)) (hi : zEI μ (.irem) pc a b v w = true) (h : zEx (zSp d) K (zPj p l e (zRm μ) s m args below meth c dC dI ad cA (zMl μ) (MQ below (zQ dC dI ad cA μ K) args s 0 0 (zA ad)) nx) (zPj p l e (zRm μ) s m args below meth c dC dI ad cA (zMl μ) (MQ below (zQ dC dI ad cA μ K) args s 0 0 (zA ad))) pc (.irem) a b v w L st M) : zPj p l e (zRm μ) s m args below meth c dC dI ad cA (zMl μ) (MQ below (zQ dC dI ad cA μ K) args s 0 0 (zA ad)) pc L st M := by
  obtain ⟨hμ, hx, hb, hml, hr, hlocks, hown, hts, hK, hinj, hst, hnw, IH⟩ := Hy
  subst hn
  intro H locs ls hP hS hL
  obtain ⟨x, y, r, rfl, h⟩ := zS2_e h
  obtain ⟨h1, h⟩ := zC_iff.mp h
  obtain ⟨h2, h⟩ := zC_iff.mp h
  obtain ⟨h3, h⟩ := zC_iff.mp h
  refine lv_irem hx hb hd (z32_nz h2 h3) ?_
  rw [z32_mod h1 h2 h3]
  exact h H locs ls hP hS hL
theorem zi_ldiv  {K : Kt} {d μ pc nx a b : Nat} {v : Int} {w : Nat} {L : Lc} {st : List Vl} {M : Mm} (Hy : zHy p l s m args meth c dC dI ad cA d μ) (hd : decode (zCd μ) pc = .ok (.ldiv, zIl (.ldiv))) (hn : nx = pc + zIl (.ldiv)) (hi : zEI μ (.ldiv) pc a b v w = true) (h : zEx (zSp d) K (zPj p l e (zRm μ) s m args below meth c dC dI ad cA (zMl μ) (MQ below (zQ dC dI ad cA μ K) args s 0 0 (zA ad)) nx) (zPj p l e (zRm μ) s m args below meth c dC dI ad cA (zMl μ) (MQ below (zQ dC dI ad cA μ K) args s 0 0 (zA ad))) pc (.ldiv) a b v w L st M) : zPj p l e (zRm μ) s m args below meth c dC dI ad cA (zMl μ) (MQ below (zQ dC dI ad cA μ K) args s 0 0 (zA ad)) pc L st M := by
  obtain ⟨hμ, hx, hb, hml, hr, hlocks, hown, hts, hK, hinj, hst, hnw, IH⟩ := Hy
  subst hn
  intro H locs ls hP hS hL
  obtain ⟨x, y, r, rfl, h⟩ := zL2_e h
  obtain ⟨h1, h⟩ := zC_iff.mp h
  obtain ⟨h2, h⟩ := zC_iff.mp h
  obtain ⟨h3, h⟩ := zC_iff.mp h
  refine lv_ldiv hx hb hd (z64_nz h2 h3) ?_
  rw [z64_div h1 h2 h3]
  exact h H locs ls hP hS hL
theorem zi_lrem  {K : Kt} {d μ pc nx a b : Nat} {v : Int} {w : Nat} {L : Lc} {st : List Vl} {M : Mm} (Hy : zHy p l s m args meth c dC dI ad cA d μ) (hd : decode (zCd μ) pc = .ok (.lrem, zIl (.lrem))) (hn : nx = pc + zIl (.lrem)) (hi : zEI μ (.lrem) pc a b v w = true) (h : zEx (zSp d) K (zPj p l e (zRm μ) s m args below meth c dC dI ad cA (zMl μ) (MQ below (zQ dC dI ad cA μ K) args s 0 0 (zA ad)) nx) (zPj p l e (zRm μ) s m args below meth c dC dI ad cA (zMl μ) (MQ below (zQ dC dI ad cA μ K) args s 0 0 (zA ad))) pc (.lrem) a b v w L st M) : zPj p l e (zRm μ) s m args below meth c dC dI ad cA (zMl μ) (MQ below (zQ dC dI ad cA μ K) args s 0 0 (zA ad)) pc L st M := by
  obtain ⟨hμ, hx, hb, hml, hr, hlocks, hown, hts, hK, hinj, hst, hnw, IH⟩ := Hy
  subst hn
  intro H locs ls hP hS hL
  obtain ⟨x, y, r, rfl, h⟩ := zL2_e h
  obtain ⟨h1, h⟩ := zC_iff.mp h
  obtain ⟨h2, h⟩ := zC_iff.mp h
  obtain ⟨h3, h⟩ := zC_iff.mp h
  refine lv_lrem hx hb hd (z64_nz h2 h3) ?_
  rw [z64_mod h1 h2 h3]
  exact h H locs ls hP hS hL
theorem zi_ishl  {K : Kt} {d μ pc nx a b : Nat} {v : Int} {w : Nat} {L : Lc} {st : List Vl} {M : Mm} (Hy : zHy p l s m args meth c dC dI ad cA d μ) (hd : decode (zCd μ) pc = .ok (.ishl, zIl (.ishl))) (hn : nx = pc + zIl (.ishl)) (hi : zEI μ (.ishl) pc a b v w = true) (h : zEx (zSp d) K (zPj p l e (zRm μ) s m args below meth c dC dI ad cA (zMl μ) (MQ below (zQ dC dI ad cA μ K) args s 0 0 (zA ad)) nx) (zPj p l e (zRm μ) s m args below meth c dC dI ad cA (zMl μ) (MQ below (zQ dC dI ad cA μ K) args s 0 0 (zA ad))) pc (.ishl) a b v w L st M) : zPj p l e (zRm μ) s m args below meth c dC dI ad cA (zMl μ) (MQ below (zQ dC dI ad cA μ K) args s 0 0 (zA ad)) pc L st M := by
  obtain ⟨hμ, hx, hb, hml, hr, hlocks, hown, hts, hK, hinj, hst, hnw, IH⟩ := Hy
  subst hn
  intro H locs ls hP hS hL
  obtain ⟨x, y, r, rfl, h⟩ := zS2_e h
  obtain ⟨h1, h⟩ := zC_iff.mp h
  refine lv_ishl hx hb hd ?_
  rw [zishl h1]
  exact h H locs ls hP hS hL
theorem zi_ishr  {K : Kt} {d μ pc nx a b : Nat} {v : Int} {w : Nat} {L : Lc} {st : List Vl} {M : Mm} (Hy : zHy p l s m args meth c dC dI ad cA d μ) (hd : decode (zCd μ) pc = .ok (.ishr, zIl (.ishr))) (hn : nx = pc + zIl (.ishr)) (hi : zEI μ (.ishr) pc a b v w = true) (h : zEx (zSp d) K (zPj p l e (zRm μ) s m args below meth c dC dI ad cA (zMl μ) (MQ below (zQ dC dI ad cA μ K) args s 0 0 (zA ad)) nx) (zPj p l e (zRm μ) s m args below meth c dC dI ad cA (zMl μ) (MQ below (zQ dC dI ad cA μ K) args s 0 0 (zA ad))) pc (.ishr) a b v w L st M) : zPj p l e (zRm μ) s m args below meth c dC dI ad cA (zMl μ) (MQ below (zQ dC dI ad cA μ K) args s 0 0 (zA ad)) pc L st M := by
  obtain ⟨hμ, hx, hb, hml, hr, hlocks, hown, hts, hK, hinj, hst, hnw, IH⟩ := Hy
  subst hn
  intro H locs ls hP hS hL
  obtain ⟨x, y, r, rfl, h⟩ := zS2_e h
  obtain ⟨h1, h⟩ := zC_iff.mp h
  obtain ⟨h2, h⟩ := zC_iff.mp h
  refine lv_ishr hx hb hd ?_
  rw [zishr h1 h2]
  exact h H locs ls hP hS hL
theorem zi_lshl  {K : Kt} {d μ pc nx a b : Nat} {v : Int} {w : Nat} {L : Lc} {st : List Vl} {M : Mm} (Hy : zHy p l s m args meth c dC dI ad cA d μ) (hd : decode (zCd μ) pc = .ok (.lshl, zIl (.lshl))) (hn : nx = pc + zIl (.lshl)) (hi : zEI μ (.lshl) pc a b v w = true) (h : zEx (zSp d) K (zPj p l e (zRm μ) s m args below meth c dC dI ad cA (zMl μ) (MQ below (zQ dC dI ad cA μ K) args s 0 0 (zA ad)) nx) (zPj p l e (zRm μ) s m args below meth c dC dI ad cA (zMl μ) (MQ below (zQ dC dI ad cA μ K) args s 0 0 (zA ad))) pc (.lshl) a b v w L st M) : zPj p l e (zRm μ) s m args below meth c dC dI ad cA (zMl μ) (MQ below (zQ dC dI ad cA μ K) args s 0 0 (zA ad)) pc L st M := by
  obtain ⟨hμ, hx, hb, hml, hr, hlocks, hown, hts, hK, hinj, hst, hnw, IH⟩ := Hy
  subst hn
  intro H locs ls hP hS hL
  obtain ⟨x, y, r, rfl, h⟩ := zLI_e h
  obtain ⟨h1, h⟩ := zC_iff.mp h
  refine lv_lshl hx hb hd (zlshl h1) ?_
  exact h H locs ls hP hS hL
theorem zi_lshr  {K : Kt} {d μ pc nx a b : Nat} {v : Int} {w : Nat} {L : Lc} {st : List Vl} {M : Mm} (Hy : zHy p l s m args meth c dC dI ad cA d μ) (hd : decode (zCd μ) pc = .ok (.lshr, zIl (.lshr))) (hn : nx = pc + zIl (.lshr)) (hi : zEI μ (.lshr) pc a b v w = true) (h : zEx (zSp d) K (zPj p l e (zRm μ) s m args below meth c dC dI ad cA (zMl μ) (MQ below (zQ dC dI ad cA μ K) args s 0 0 (zA ad)) nx) (zPj p l e (zRm μ) s m args below meth c dC dI ad cA (zMl μ) (MQ below (zQ dC dI ad cA μ K) args s 0 0 (zA ad))) pc (.lshr) a b v w L st M) : zPj p l e (zRm μ) s m args below meth c dC dI ad cA (zMl μ) (MQ below (zQ dC dI ad cA μ K) args s 0 0 (zA ad)) pc L st M := by
  obtain ⟨hμ, hx, hb, hml, hr, hlocks, hown, hts, hK, hinj, hst, hnw, IH⟩ := Hy
  subst hn
  intro H locs ls hP hS hL
  obtain ⟨x, y, r, rfl, h⟩ := zLI_e h
  obtain ⟨h1, h⟩ := zC_iff.mp h
  obtain ⟨h2, h⟩ := zC_iff.mp h
  refine lv_lshr hx hb hd (zlshr h1 h2) ?_
  exact h H locs ls hP hS hL
theorem zi_lushr  {K : Kt} {d μ pc nx a b : Nat} {v : Int} {w : Nat} {L : Lc} {st : List Vl} {M : Mm} (Hy : zHy p l s m args meth c dC dI ad cA d μ) (hd : decode (zCd μ) pc = .ok (.lushr, zIl (.lushr))) (hn : nx = pc + zIl (.lushr)) (hi : zEI μ (.lushr) pc a b v w = true) (h : zEx (zSp d) K (zPj p l e (zRm μ) s m args below meth c dC dI ad cA (zMl μ) (MQ below (zQ dC dI ad cA μ K) args s 0 0 (zA ad)) nx) (zPj p l e (zRm μ) s m args below meth c dC dI ad cA (zMl μ) (MQ below (zQ dC dI ad cA μ K) args s 0 0 (zA ad))) pc (.lushr) a b v w L st M) : zPj p l e (zRm μ) s m args below meth c dC dI ad cA (zMl μ) (MQ below (zQ dC dI ad cA μ K) args s 0 0 (zA ad)) pc L st M := by
  obtain ⟨hμ, hx, hb, hml, hr, hlocks, hown, hts, hK, hinj, hst, hnw, IH⟩ := Hy
  subst hn
  intro H locs ls hP hS hL
  obtain ⟨x, y, r, rfl, h⟩ := zLI_e h
  refine lv_lushr hx hb hd (zlushr x y) ?_
  exact h H locs ls hP hS hL
theorem zi_i2l  {K : Kt} {d μ pc nx a b : Nat} {v : Int} {w : Nat} {L : Lc} {st : List Vl} {M : Mm} (Hy : zHy p l s m args meth c dC dI ad cA d μ) (hd : decode (zCd μ) pc = .ok (.i2l, zIl (.i2l))) (hn : nx = pc + zIl (.i2l)) (hi : zEI μ (.i2l) pc a b v w = true) (h : zEx (zSp d) K (zPj p l e (zRm μ) s m args below meth c dC dI ad cA (zMl μ) (MQ below (zQ dC dI ad cA μ K) args s 0 0 (zA ad)) nx) (zPj p l e (zRm μ) s m args below meth c dC dI ad cA (zMl μ) (MQ below (zQ dC dI ad cA μ K) args s 0 0 (zA ad))) pc (.i2l) a b v w L st M) : zPj p l e (zRm μ) s m args below meth c dC dI ad cA (zMl μ) (MQ below (zQ dC dI ad cA μ K) args s 0 0 (zA ad)) pc L st M := by
  obtain ⟨hμ, hx, hb, hml, hr, hlocks, hown, hts, hK, hinj, hst, hnw, IH⟩ := Hy
  subst hn
  intro H locs ls hP hS hL
  obtain ⟨x, r, rfl, h⟩ := zS1_e h
  obtain ⟨h1, h⟩ := zC_iff.mp h
  exact lv_i2l hx hb hd (zi2l h1) (h H locs ls hP hS hL)
theorem zi_l2i  {K : Kt} {d μ pc nx a b : Nat} {v : Int} {w : Nat} {L : Lc} {st : List Vl} {M : Mm} (Hy : zHy p l s m args meth c dC dI ad cA d μ) (hd : decode (zCd μ) pc = .ok (.l2i, zIl (.l2i))) (hn : nx = pc + zIl (.l2i)) (hi : zEI μ (.l2i) pc a b v w = true) (h : zEx (zSp d) K (zPj p l e (zRm μ) s m args below meth c dC dI ad cA (zMl μ) (MQ below (zQ dC dI ad cA μ K) args s 0 0 (zA ad)) nx) (zPj p l e (zRm μ) s m args below meth c dC dI ad cA (zMl μ) (MQ below (zQ dC dI ad cA μ K) args s 0 0 (zA ad))) pc (.l2i) a b v w L st M) : zPj p l e (zRm μ) s m args below meth c dC dI ad cA (zMl μ) (MQ below (zQ dC dI ad cA μ K) args s 0 0 (zA ad)) pc L st M := by
  obtain ⟨hμ, hx, hb, hml, hr, hlocks, hown, hts, hK, hinj, hst, hnw, IH⟩ := Hy
  subst hn
  intro H locs ls hP hS hL
  obtain ⟨x, r, rfl, h⟩ := zL1_e h
  exact lv_l2i hx hb hd (zl2i x) (h H locs ls hP hS hL)
theorem zi_i2b  {K : Kt} {d μ pc nx a b : Nat} {v : Int} {w : Nat} {L : Lc} {st : List Vl} {M : Mm} (Hy : zHy p l s m args meth c dC dI ad cA d μ) (hd : decode (zCd μ) pc = .ok (.i2b, zIl (.i2b))) (hn : nx = pc + zIl (.i2b)) (hi : zEI μ (.i2b) pc a b v w = true) (h : zEx (zSp d) K (zPj p l e (zRm μ) s m args below meth c dC dI ad cA (zMl μ) (MQ below (zQ dC dI ad cA μ K) args s 0 0 (zA ad)) nx) (zPj p l e (zRm μ) s m args below meth c dC dI ad cA (zMl μ) (MQ below (zQ dC dI ad cA μ K) args s 0 0 (zA ad))) pc (.i2b) a b v w L st M) : zPj p l e (zRm μ) s m args below meth c dC dI ad cA (zMl μ) (MQ below (zQ dC dI ad cA μ K) args s 0 0 (zA ad)) pc L st M := by
  obtain ⟨hμ, hx, hb, hml, hr, hlocks, hown, hts, hK, hinj, hst, hnw, IH⟩ := Hy
  subst hn
  intro H locs ls hP hS hL
  obtain ⟨x, r, rfl, h⟩ := zS1_e h
  exact lv_i2b hx hb hd (zi2b x) (h H locs ls hP hS hL)
theorem zi_lcmp  {K : Kt} {d μ pc nx a b : Nat} {v : Int} {w : Nat} {L : Lc} {st : List Vl} {M : Mm} (Hy : zHy p l s m args meth c dC dI ad cA d μ) (hd : decode (zCd μ) pc = .ok (.lcmp, zIl (.lcmp))) (hn : nx = pc + zIl (.lcmp)) (hi : zEI μ (.lcmp) pc a b v w = true) (h : zEx (zSp d) K (zPj p l e (zRm μ) s m args below meth c dC dI ad cA (zMl μ) (MQ below (zQ dC dI ad cA μ K) args s 0 0 (zA ad)) nx) (zPj p l e (zRm μ) s m args below meth c dC dI ad cA (zMl μ) (MQ below (zQ dC dI ad cA μ K) args s 0 0 (zA ad))) pc (.lcmp) a b v w L st M) : zPj p l e (zRm μ) s m args below meth c dC dI ad cA (zMl μ) (MQ below (zQ dC dI ad cA μ K) args s 0 0 (zA ad)) pc L st M := by
  obtain ⟨hμ, hx, hb, hml, hr, hlocks, hown, hts, hK, hinj, hst, hnw, IH⟩ := Hy
  subst hn
  intro H locs ls hP hS hL
  obtain ⟨x, y, r, rfl, h⟩ := zL2_e h
  obtain ⟨h1, h⟩ := zC_iff.mp h
  obtain ⟨h2, h⟩ := zC_iff.mp h
  refine W.lcmp hx hb hd ?_
  rw [zlcmp h1 h2]
  exact h H locs ls hP hS hL
theorem zi_dup  {K : Kt} {d μ pc nx a b : Nat} {v : Int} {w : Nat} {L : Lc} {st : List Vl} {M : Mm} (Hy : zHy p l s m args meth c dC dI ad cA d μ) (hd : decode (zCd μ) pc = .ok (.dup, zIl (.dup))) (hn : nx = pc + zIl (.dup)) (hi : zEI μ (.dup) pc a b v w = true) (h : zEx (zSp d) K (zPj p l e (zRm μ) s m args below meth c dC dI ad cA (zMl μ) (MQ below (zQ dC dI ad cA μ K) args s 0 0 (zA ad)) nx) (zPj p l e (zRm μ) s m args below meth c dC dI ad cA (zMl μ) (MQ below (zQ dC dI ad cA μ K) args s 0 0 (zA ad))) pc (.dup) a b v w L st M) : zPj p l e (zRm μ) s m args below meth c dC dI ad cA (zMl μ) (MQ below (zQ dC dI ad cA μ K) args s 0 0 (zA ad)) pc L st M := by
  obtain ⟨hμ, hx, hb, hml, hr, hlocks, hown, hts, hK, hinj, hst, hnw, IH⟩ := Hy
  subst hn
  intro H locs ls hP hS hL
  have h : zDup st (fun r => zPj p l e (zRm μ) s m args below meth c dC dI ad cA (zMl μ) (MQ below (zQ dC dI ad cA μ K) args s 0 0 (zA ad)) (pc + 1) L r M) := h
  unfold zDup at h
  split at h
  · exact lv_dup hx hb hd rfl (h H locs ls hP hS hL)
  · exact lv_dup hx hb hd rfl (h H locs ls hP hS hL)
  · exact h.elim
theorem zi_dup2  {K : Kt} {d μ pc nx a b : Nat} {v : Int} {w : Nat} {L : Lc} {st : List Vl} {M : Mm} (Hy : zHy p l s m args meth c dC dI ad cA d μ) (hd : decode (zCd μ) pc = .ok (.dup2, zIl (.dup2))) (hn : nx = pc + zIl (.dup2)) (hi : zEI μ (.dup2) pc a b v w = true) (h : zEx (zSp d) K (zPj p l e (zRm μ) s m args below meth c dC dI ad cA (zMl μ) (MQ below (zQ dC dI ad cA μ K) args s 0 0 (zA ad)) nx) (zPj p l e (zRm μ) s m args below meth c dC dI ad cA (zMl μ) (MQ below (zQ dC dI ad cA μ K) args s 0 0 (zA ad))) pc (.dup2) a b v w L st M) : zPj p l e (zRm μ) s m args below meth c dC dI ad cA (zMl μ) (MQ below (zQ dC dI ad cA μ K) args s 0 0 (zA ad)) pc L st M := by
  obtain ⟨hμ, hx, hb, hml, hr, hlocks, hown, hts, hK, hinj, hst, hnw, IH⟩ := Hy
  subst hn
  intro H locs ls hP hS hL
  have h : zDup2 st (fun r => zPj p l e (zRm μ) s m args below meth c dC dI ad cA (zMl μ) (MQ below (zQ dC dI ad cA μ K) args s 0 0 (zA ad)) (pc + 1) L r M) := h
  unfold zDup2 at h
  split at h
  · exact lv_dup2_2 hx hb hd rfl (h H locs ls hP hS hL)
  · exact lv_dup2_11 hx hb hd rfl rfl (h H locs ls hP hS hL)
  · exact lv_dup2_11 hx hb hd rfl rfl (h H locs ls hP hS hL)
  · exact h.elim
theorem zi_pop  {K : Kt} {d μ pc nx a b : Nat} {v : Int} {w : Nat} {L : Lc} {st : List Vl} {M : Mm} (Hy : zHy p l s m args meth c dC dI ad cA d μ) (hd : decode (zCd μ) pc = .ok (.pop, zIl (.pop))) (hn : nx = pc + zIl (.pop)) (hi : zEI μ (.pop) pc a b v w = true) (h : zEx (zSp d) K (zPj p l e (zRm μ) s m args below meth c dC dI ad cA (zMl μ) (MQ below (zQ dC dI ad cA μ K) args s 0 0 (zA ad)) nx) (zPj p l e (zRm μ) s m args below meth c dC dI ad cA (zMl μ) (MQ below (zQ dC dI ad cA μ K) args s 0 0 (zA ad))) pc (.pop) a b v w L st M) : zPj p l e (zRm μ) s m args below meth c dC dI ad cA (zMl μ) (MQ below (zQ dC dI ad cA μ K) args s 0 0 (zA ad)) pc L st M := by
  obtain ⟨hμ, hx, hb, hml, hr, hlocks, hown, hts, hK, hinj, hst, hnw, IH⟩ := Hy
  subst hn
  intro H locs ls hP hS hL
  have h : zPop1 st (fun r => zPj p l e (zRm μ) s m args below meth c dC dI ad cA (zMl μ) (MQ below (zQ dC dI ad cA μ K) args s 0 0 (zA ad)) (pc + 1) L r M) := h
  unfold zPop1 at h
  split at h
  · exact lv_pop hx hb hd rfl (h H locs ls hP hS hL)
  · exact lv_pop hx hb hd rfl (h H locs ls hP hS hL)
  · exact h.elim
theorem zi_goto {n : Int} {K : Kt} {d μ pc nx a b : Nat} {v : Int} {w : Nat} {L : Lc} {st : List Vl} {M : Mm} (Hy : zHy p l s m args meth c dC dI ad cA d μ) (hd : decode (zCd μ) pc = .ok (.goto n, zIl (.goto n))) (hn : nx = pc + zIl (.goto n)) (hi : zEI μ (.goto n) pc a b v w = true) (h : zEx (zSp d) K (zPj p l e (zRm μ) s m args below meth c dC dI ad cA (zMl μ) (MQ below (zQ dC dI ad cA μ K) args s 0 0 (zA ad)) nx) (zPj p l e (zRm μ) s m args below meth c dC dI ad cA (zMl μ) (MQ below (zQ dC dI ad cA μ K) args s 0 0 (zA ad))) pc (.goto n) a b v w L st M) : zPj p l e (zRm μ) s m args below meth c dC dI ad cA (zMl μ) (MQ below (zQ dC dI ad cA μ K) args s 0 0 (zA ad)) pc L st M := by
  obtain ⟨hμ, hx, hb, hml, hr, hlocks, hown, hts, hK, hinj, hst, hnw, IH⟩ := Hy
  subst hn
  intro H locs ls hP hS hL
  exact lv_goto hx hb hd (of_decide_eq_true hi) (h H locs ls hP hS hL)
theorem zi_ifCond {k : Jvm.ClassFile.Cond} {n : Int} {K : Kt} {d μ pc nx a b : Nat} {v : Int} {w : Nat} {L : Lc} {st : List Vl} {M : Mm} (Hy : zHy p l s m args meth c dC dI ad cA d μ) (hd : decode (zCd μ) pc = .ok (.ifCond k n, zIl (.ifCond k n))) (hn : nx = pc + zIl (.ifCond k n)) (hi : zEI μ (.ifCond k n) pc a b v w = true) (h : zEx (zSp d) K (zPj p l e (zRm μ) s m args below meth c dC dI ad cA (zMl μ) (MQ below (zQ dC dI ad cA μ K) args s 0 0 (zA ad)) nx) (zPj p l e (zRm μ) s m args below meth c dC dI ad cA (zMl μ) (MQ below (zQ dC dI ad cA μ K) args s 0 0 (zA ad))) pc (.ifCond k n) a b v w L st M) : zPj p l e (zRm μ) s m args below meth c dC dI ad cA (zMl μ) (MQ below (zQ dC dI ad cA μ K) args s 0 0 (zA ad)) pc L st M := by
  obtain ⟨hμ, hx, hb, hml, hr, hlocks, hown, hts, hK, hinj, hst, hnw, IH⟩ := Hy
  subst hn
  intro H locs ls hP hS hL
  obtain ⟨x, r, rfl, h⟩ := zS1_e h
  obtain ⟨h1, h⟩ := zC_iff.mp h
  have ht := of_decide_eq_true hi
  have h0 : zR32 0 = true := by decide
  cases k
  · exact lv_if_eq hx hb hd ht (fun q => h.1 ((z32_eq h1 h0).mp q) H locs ls hP hS hL) (fun q => h.2 (fun z => q ((z32_eq h1 h0).mpr z)) H locs ls hP hS hL)
  · exact lv_if_ne hx hb hd ht (fun q => h.1 (fun z => q ((z32_eq h1 h0).mpr z)) H locs ls hP hS hL) (fun q => h.2 (fun z => z ((z32_eq h1 h0).mp q)) H locs ls hP hS hL)
  · exact lv_if_lt hx hb hd ht (fun q => h.1 ((z32_lt h1 h0).mp q) H locs ls hP hS hL) (fun q => h.2 (fun z => q ((z32_lt h1 h0).mpr z)) H locs ls hP hS hL)
  · exact lv_if_ge hx hb hd ht (fun q => h.1 ((z32_le h0 h1).mp q) H locs ls hP hS hL) (fun q => h.2 (fun z => q ((z32_le h0 h1).mpr z)) H locs ls hP hS hL)
  · exact lv_if_gt hx hb hd ht (fun q => h.1 ((z32_lt h0 h1).mp q) H locs ls hP hS hL) (fun q => h.2 (fun z => q ((z32_lt h0 h1).mpr z)) H locs ls hP hS hL)
  · exact lv_if_le hx hb hd ht (fun q => h.1 ((z32_le h1 h0).mp q) H locs ls hP hS hL) (fun q => h.2 (fun z => q ((z32_le h1 h0).mpr z)) H locs ls hP hS hL)
theorem zi_if_icmp {k : Jvm.ClassFile.Cond} {n : Int} {K : Kt} {d μ pc nx a b : Nat} {v : Int} {w : Nat} {L : Lc} {st : List Vl} {M : Mm} (Hy : zHy p l s m args meth c dC dI ad cA d μ) (hd : decode (zCd μ) pc = .ok (.if_icmp k n, zIl (.if_icmp k n))) (hn : nx = pc + zIl (.if_icmp k n)) (hi : zEI μ (.if_icmp k n) pc a b v w = true) (h : zEx (zSp d) K (zPj p l e (zRm μ) s m args below meth c dC dI ad cA (zMl μ) (MQ below (zQ dC dI ad cA μ K) args s 0 0 (zA ad)) nx) (zPj p l e (zRm μ) s m args below meth c dC dI ad cA (zMl μ) (MQ below (zQ dC dI ad cA μ K) args s 0 0 (zA ad))) pc (.if_icmp k n) a b v w L st M) : zPj p l e (zRm μ) s m args below meth c dC dI ad cA (zMl μ) (MQ below (zQ dC dI ad cA μ K) args s 0 0 (zA ad)) pc L st M := by
  obtain ⟨hμ, hx, hb, hml, hr, hlocks, hown, hts, hK, hinj, hst, hnw, IH⟩ := Hy
  subst hn
  intro H locs ls hP hS hL
  obtain ⟨x, y, r, rfl, h⟩ := zS2_e h
  obtain ⟨h1, h⟩ := zC_iff.mp h
  obtain ⟨h0, h⟩ := zC_iff.mp h
  have ht := of_decide_eq_true hi
  cases k
  · exact lv_icmp_eq hx hb hd ht (fun q => h.1 ((z32_eq h1 h0).mp q) H locs ls hP hS hL) (fun q => h.2 (fun z => q ((z32_eq h1 h0).mpr z)) H locs ls hP hS hL)
  · exact lv_icmp_ne hx hb hd ht (fun q => h.1 (fun z => q ((z32_eq h1 h0).mpr z)) H locs ls hP hS hL) (fun q => h.2 (fun z => z ((z32_eq h1 h0).mp q)) H locs ls hP hS hL)
  · exact lv_icmp_lt hx hb hd ht (fun q => h.1 ((z32_lt h1 h0).mp q) H locs ls hP hS hL) (fun q => h.2 (fun z => q ((z32_lt h1 h0).mpr z)) H locs ls hP hS hL)
  · exact lv_icmp_ge hx hb hd ht (fun q => h.1 ((z32_le h0 h1).mp q) H locs ls hP hS hL) (fun q => h.2 (fun z => q ((z32_le h0 h1).mpr z)) H locs ls hP hS hL)
  · exact lv_icmp_gt hx hb hd ht (fun q => h.1 ((z32_lt h0 h1).mp q) H locs ls hP hS hL) (fun q => h.2 (fun z => q ((z32_lt h0 h1).mpr z)) H locs ls hP hS hL)
  · exact lv_icmp_le hx hb hd ht (fun q => h.1 ((z32_le h1 h0).mp q) H locs ls hP hS hL) (fun q => h.2 (fun z => q ((z32_le h1 h0).mpr z)) H locs ls hP hS hL)
theorem zi_getfield {n : Nat} {K : Kt} {d μ pc nx a b : Nat} {v : Int} {w : Nat} {L : Lc} {st : List Vl} {M : Mm} (Hy : zHy p l s m args meth c dC dI ad cA d μ) (hd : decode (zCd μ) pc = .ok (.getfield n, zIl (.getfield n))) (hn : nx = pc + zIl (.getfield n)) (hi : zEI μ (.getfield n) pc a b v w = true) (h : zEx (zSp d) K (zPj p l e (zRm μ) s m args below meth c dC dI ad cA (zMl μ) (MQ below (zQ dC dI ad cA μ K) args s 0 0 (zA ad)) nx) (zPj p l e (zRm μ) s m args below meth c dC dI ad cA (zMl μ) (MQ below (zQ dC dI ad cA μ K) args s 0 0 (zA ad))) pc (.getfield n) a b v w L st M) : zPj p l e (zRm μ) s m args below meth c dC dI ad cA (zMl μ) (MQ below (zQ dC dI ad cA μ K) args s 0 0 (zA ad)) pc L st M := by
  obtain ⟨hμ, hx, hb, hml, hr, hlocks, hown, hts, hK, hinj, hst, hnw, IH⟩ := Hy
  subst hn
  intro H locs ls hP hS hL
  obtain ⟨o, r, rfl, h⟩ := zR1_e h
  obtain ⟨ho, h⟩ := zC_iff.mp h
  obtain ⟨hlt, hsh⟩ := zObj_e ho
  simp only [zEI, Bool.and_eq_true] at hi
  have hl := hi.1
  simp only [zLinkF, Bool.and_eq_true, Bool.or_eq_true] at hl
  obtain ⟨hl, hv0, hci⟩ := hl
  have hv0 : 0 ≤ v := of_decide_eq_true hv0
  have hci : a < 13 := Nat.blt_eq.mp hci
  have hcl := zf_cl a hci (by rcases hl with hl | hl; exact zf_fl3 _ (zM4_mem hl); exact zf_nl3 _ (zM4_mem hl))
  have hbk : (zFk a)[v.toNat]? = some b := of_decide_eq_true hi.2
  have hk := (List.getElem?_eq_some_iff.mp hbk).1
  have hg : (zWd ad cA M)[o]? = some (ad o, .inr (a, zFsA ad o (M o) 0 (zFk a))) := by rw [zWd_get hlt, zEnt_obj hsh]
  have hv : (zFsA ad o (M o) 0 (zFk a))[v.toNat]? = some (zVm ad (zGf b o (M o v))) := by rw [zFsA_get, hbk]; show some (zVm ad (zGf b o (M o (0 + (v.toNat : Int))))) = _; rw [show (0 : Int) + (v.toNat : Int) = v by omega]
  rcases hl with hl | hl
  · exact va_get hx hb hts (zf_layg hci) hown hK hP o hg hcl v.toNat hk (hts _ (zGw (zc_fl _ (zM4_mem hl)) rfl)) (fun x hx => by rw [zf_T a hci _ hk] at hx; exact hx) hv hd (h H locs ls hP hS hL)
  · have hlk : (Jvm.Cond.fieldLinkNest (zCn (zOn μ)) n (zCn a) (zT a v.toNat).2.1 (zT a v.toNat).2.2.1 "LeastFailing").before args s = true := va_Nw.use (w := zNwC (zOn μ, n, a, v.toNat)) rfl (hnw _ (zM4_mem hl))
    exact va_getN hx hb hts (zf_layg hci) hown hK hP o hg hcl v.toNat hk hlk (fun x hx => by rw [zf_T a hci _ hk] at hx; exact hx) hv hd (h H locs ls hP hS hL)
theorem zi_putfield {n : Nat} {K : Kt} {d μ pc nx a b : Nat} {v : Int} {w : Nat} {L : Lc} {st : List Vl} {M : Mm} (Hy : zHy p l s m args meth c dC dI ad cA d μ) (hd : decode (zCd μ) pc = .ok (.putfield n, zIl (.putfield n))) (hn : nx = pc + zIl (.putfield n)) (hi : zEI μ (.putfield n) pc a b v w = true) (h : zEx (zSp d) K (zPj p l e (zRm μ) s m args below meth c dC dI ad cA (zMl μ) (MQ below (zQ dC dI ad cA μ K) args s 0 0 (zA ad)) nx) (zPj p l e (zRm μ) s m args below meth c dC dI ad cA (zMl μ) (MQ below (zQ dC dI ad cA μ K) args s 0 0 (zA ad))) pc (.putfield n) a b v w L st M) : zPj p l e (zRm μ) s m args below meth c dC dI ad cA (zMl μ) (MQ below (zQ dC dI ad cA μ K) args s 0 0 (zA ad)) pc L st M := by
  obtain ⟨hμ, hx, hb, hml, hr, hlocks, hown, hts, hK, hinj, hst, hnw, IH⟩ := Hy
  subst hn
  intro H locs ls hP hS hL
  simp only [zEI, Bool.and_eq_true] at hi
  have hl := hi.1
  simp only [zLinkF, Bool.and_eq_true, Bool.or_eq_true] at hl
  obtain ⟨hl, hv0, hci⟩ := hl
  have hv0 : 0 ≤ v := of_decide_eq_true hv0
  have hci : a < 13 := Nat.blt_eq.mp hci
  have hcl := zf_cl a hci (by rcases hl with hl | hl; exact zf_fl3 _ (zM4_mem hl); exact zf_nl3 _ (zM4_mem hl))
  have hbk : (zFk a)[v.toNat]? = some b := of_decide_eq_true hi.2.1
  have hb2 : b < 2 := Nat.blt_eq.mp hi.2.2
  have hk := (List.getElem?_eq_some_iff.mp hbk).1
  rcases (show b = 0 ∨ b = 1 by omega) with rfl | rfl
  · have h : zRI st (fun o x r => zC (zObj o a) (zPj p l e (zRm μ) s m args below meth c dC dI ad cA (zMl μ) (MQ below (zQ dC dI ad cA μ K) args s 0 0 (zA ad)) (pc + 3) L r (zUp M o v x))) := h
    obtain ⟨o, x, r, rfl, h⟩ := zRI_e h
    obtain ⟨ho, h⟩ := zC_iff.mp h
    obtain ⟨hlt, hsh⟩ := zObj_e ho
    have hg : (zWd ad cA M)[o]? = some (ad o, .inr (a, zFsA ad o (M o) 0 (zFk a))) := by rw [zWd_get hlt, zEnt_obj hsh]
    obtain ⟨hfin, hI⟩ := zf_int0 a hci _ hk hbk
    have hdd : parseFieldDescriptor (zT a v.toNat).2.2.1 = some .int := by rw [hI]; decide
    have he : ((zWd ad cA M).set o (ad o, .inr (a, (zFsA ad o (M o) 0 (zFk a)).set v.toNat (zVm ad (zGf 0 o x))))) = zWd ad cA (zUp M o v x) := by
      rw [zFsA_set hbk, ← zWd_set (M2 := zUp M o v x) hlt zUp_ne, zEnt_obj hsh, zUp_eq, show ((v.toNat : Nat) : Int) = v by omega]
    rcases hl with hl | hl
    · refine va_put hx hb hts (zf_layg hci) (zTyF a) (zf_ty a hci) (zf_nm a hci) hown hK hP (zWd_D hinj) hS o hg hcl v.toNat hk (hts _ (zGw (zc_fl _ (zM4_mem hl)) rfl)) (fun x hx => by rw [zf_T a hci _ hk] at hx; exact hx) hfin hdd rfl rfl (by rw [zFsA_len]; exact hk) hd (fun H1 locs1 hP1 _ hS1 => ?_)
      exact h H1 locs1 ls (by rw [← he]; exact hP1) hS1 hL
    · have hlk : (Jvm.Cond.fieldLinkNest (zCn (zOn μ)) n (zCn a) (zT a v.toNat).2.1 (zT a v.toNat).2.2.1 "LeastFailing").before args s = true := va_Nw.use (w := zNwC (zOn μ, n, a, v.toNat)) rfl (hnw _ (zM4_mem hl))
      refine va_putN hx hb hts (zf_layg hci) (zTyF a) (zf_ty a hci) (zf_nm a hci) hown hK hP (zWd_D hinj) hS o hg hcl v.toNat hk hlk (fun x hx => by rw [zf_T a hci _ hk] at hx; exact hx) hfin hdd rfl rfl (by rw [zFsA_len]; exact hk) hd (fun H1 locs1 hP1 _ hS1 => ?_)
      exact h H1 locs1 ls (by rw [← he]; exact hP1) hS1 hL
  · have h : zRJ st (fun o x r => zC (zObj o a) (zPj p l e (zRm μ) s m args below meth c dC dI ad cA (zMl μ) (MQ below (zQ dC dI ad cA μ K) args s 0 0 (zA ad)) (pc + 3) L r (zUp M o v x))) := h
    obtain ⟨o, x, r, rfl, h⟩ := zRJ_e h
    obtain ⟨ho, h⟩ := zC_iff.mp h
    obtain ⟨hlt, hsh⟩ := zObj_e ho
    have hg : (zWd ad cA M)[o]? = some (ad o, .inr (a, zFsA ad o (M o) 0 (zFk a))) := by rw [zWd_get hlt, zEnt_obj hsh]
    obtain ⟨hfin, hI⟩ := zf_int1 a hci _ hk hbk
    have hdd : parseFieldDescriptor (zT a v.toNat).2.2.1 = some .long := by rw [hI]; decide
    have he : ((zWd ad cA M).set o (ad o, .inr (a, (zFsA ad o (M o) 0 (zFk a)).set v.toNat (zVm ad (zGf 1 o x))))) = zWd ad cA (zUp M o v x) := by
      rw [zFsA_set hbk, ← zWd_set (M2 := zUp M o v x) hlt zUp_ne, zEnt_obj hsh, zUp_eq, show ((v.toNat : Nat) : Int) = v by omega]
    rcases hl with hl | hl
    · refine va_put hx hb hts (zf_layg hci) (zTyF a) (zf_ty a hci) (zf_nm a hci) hown hK hP (zWd_D hinj) hS o hg hcl v.toNat hk (hts _ (zGw (zc_fl _ (zM4_mem hl)) rfl)) (fun x hx => by rw [zf_T a hci _ hk] at hx; exact hx) hfin hdd rfl rfl (by rw [zFsA_len]; exact hk) hd (fun H1 locs1 hP1 _ hS1 => ?_)
      exact h H1 locs1 ls (by rw [← he]; exact hP1) hS1 hL
    · have hlk : (Jvm.Cond.fieldLinkNest (zCn (zOn μ)) n (zCn a) (zT a v.toNat).2.1 (zT a v.toNat).2.2.1 "LeastFailing").before args s = true := va_Nw.use (w := zNwC (zOn μ, n, a, v.toNat)) rfl (hnw _ (zM4_mem hl))
      refine va_putN hx hb hts (zf_layg hci) (zTyF a) (zf_ty a hci) (zf_nm a hci) hown hK hP (zWd_D hinj) hS o hg hcl v.toNat hk hlk (fun x hx => by rw [zf_T a hci _ hk] at hx; exact hx) hfin hdd rfl rfl (by rw [zFsA_len]; exact hk) hd (fun H1 locs1 hP1 _ hS1 => ?_)
      exact h H1 locs1 ls (by rw [← he]; exact hP1) hS1 hL
theorem zi_getstatic {n : Nat} {K : Kt} {d μ pc nx a b : Nat} {v : Int} {w : Nat} {L : Lc} {st : List Vl} {M : Mm} (Hy : zHy p l s m args meth c dC dI ad cA d μ) (hd : decode (zCd μ) pc = .ok (.getstatic n, zIl (.getstatic n))) (hn : nx = pc + zIl (.getstatic n)) (hi : zEI μ (.getstatic n) pc a b v w = true) (h : zEx (zSp d) K (zPj p l e (zRm μ) s m args below meth c dC dI ad cA (zMl μ) (MQ below (zQ dC dI ad cA μ K) args s 0 0 (zA ad)) nx) (zPj p l e (zRm μ) s m args below meth c dC dI ad cA (zMl μ) (MQ below (zQ dC dI ad cA μ K) args s 0 0 (zA ad))) pc (.getstatic n) a b v w L st M) : zPj p l e (zRm μ) s m args below meth c dC dI ad cA (zMl μ) (MQ below (zQ dC dI ad cA μ K) args s 0 0 (zA ad)) pc L st M := by
  obtain ⟨hμ, hx, hb, hml, hr, hlocks, hown, hts, hK, hinj, hst, hnw, IH⟩ := Hy
  subst hn
  intro H locs ls hP hS hL
  simp only [zEI, Bool.and_eq_true] at hi
  have h8 := Nat.eq_of_beq_eq_true hi.1
  have hn := Nat.eq_of_beq_eq_true hi.2
  subst hn
  rw [h8] at hown
  exact va_gets hx hb hst.1 hS hown (hts _ (zGw zc_ow rfl)) (fun x hx => hx) hd (h H locs ls hP hS hL)
theorem zi_iaload  {K : Kt} {d μ pc nx a b : Nat} {v : Int} {w : Nat} {L : Lc} {st : List Vl} {M : Mm} (Hy : zHy p l s m args meth c dC dI ad cA d μ) (hd : decode (zCd μ) pc = .ok (.iaload, zIl (.iaload))) (hn : nx = pc + zIl (.iaload)) (hi : zEI μ (.iaload) pc a b v w = true) (h : zEx (zSp d) K (zPj p l e (zRm μ) s m args below meth c dC dI ad cA (zMl μ) (MQ below (zQ dC dI ad cA μ K) args s 0 0 (zA ad)) nx) (zPj p l e (zRm μ) s m args below meth c dC dI ad cA (zMl μ) (MQ below (zQ dC dI ad cA μ K) args s 0 0 (zA ad))) pc (.iaload) a b v w L st M) : zPj p l e (zRm μ) s m args below meth c dC dI ad cA (zMl μ) (MQ below (zQ dC dI ad cA μ K) args s 0 0 (zA ad)) pc L st M := by
  obtain ⟨hμ, hx, hb, hml, hr, hlocks, hown, hts, hK, hinj, hst, hnw, IH⟩ := Hy
  subst hn
  intro H locs ls hP hS hL
  have h : cond (Nat.beq w 1) (zRI st fun o i r => zC (Nat.beq o zOW) (zC (zSm i 13) (zPj p l e (zRm μ) s m args below meth c dC dI ad cA (zMl μ) (MQ below (zQ dC dI ad cA μ K) args s 0 0 (zA ad)) (pc + 1) L (.inl (zOwn i) :: r) M))) (zRI st fun o i r => zC (zArr o 0) (zC (zSm i (zLen o)) (zPj p l e (zRm μ) s m args below meth c dC dI ad cA (zMl μ) (MQ below (zQ dC dI ad cA μ K) args s 0 0 (zA ad)) (pc + 1) L (.inl (M o i) :: r) M))) := h
  cases hw : Nat.beq w 1
  · rw [hw] at h
    obtain ⟨o, i, r, rfl, h⟩ := zRI_e h
    obtain ⟨ho, h⟩ := zC_iff.mp h
    obtain ⟨hs, h⟩ := zC_iff.mp h
    have ho : zArr o 0 = true := ho
    obtain ⟨t, n, hlt, hsh, hty, hlen, hn⟩ := zArr_e ho
    rw [hlen] at hs
    have hix := zidx hs hn
    have h0 := (zSm_iff.mp hs).1
    have hg : (zWd ad cA M)[o]? = some (ad o, .inl (cA 0, n, zRow ad 0 (M o))) := by rw [zWd_get hlt, zEnt_arr hsh, hty]
    refine va_iald hx hb hK hP o 0 hg rfl hix.2 hd ?_
    rw [hix.1, Int.toNat_of_nonneg h0]
    exact h H locs ls hP hS hL
  · rw [hw] at h
    obtain ⟨o, i, r, rfl, h⟩ := zRI_e h
    obtain ⟨ho, h⟩ := zC_iff.mp h
    obtain ⟨hs, h⟩ := zC_iff.mp h
    have ho := Nat.eq_of_beq_eq_true ho
    rw [ho]
    have hix := zidx (n := 13) hs (by omega)
    have h0 := (zSm_iff.mp hs).1
    refine va_ti hx hb hst.2 hS hix.2 rfl hd ?_
    rw [hix.1, Int.toNat_of_nonneg h0]
    exact h H locs ls hP hS hL
theorem zi_baload  {K : Kt} {d μ pc nx a b : Nat} {v : Int} {w : Nat} {L : Lc} {st : List Vl} {M : Mm} (Hy : zHy p l s m args meth c dC dI ad cA d μ) (hd : decode (zCd μ) pc = .ok (.baload, zIl (.baload))) (hn : nx = pc + zIl (.baload)) (hi : zEI μ (.baload) pc a b v w = true) (h : zEx (zSp d) K (zPj p l e (zRm μ) s m args below meth c dC dI ad cA (zMl μ) (MQ below (zQ dC dI ad cA μ K) args s 0 0 (zA ad)) nx) (zPj p l e (zRm μ) s m args below meth c dC dI ad cA (zMl μ) (MQ below (zQ dC dI ad cA μ K) args s 0 0 (zA ad))) pc (.baload) a b v w L st M) : zPj p l e (zRm μ) s m args below meth c dC dI ad cA (zMl μ) (MQ below (zQ dC dI ad cA μ K) args s 0 0 (zA ad)) pc L st M := by
  obtain ⟨hμ, hx, hb, hml, hr, hlocks, hown, hts, hK, hinj, hst, hnw, IH⟩ := Hy
  subst hn
  intro H locs ls hP hS hL
  have h : zRI st (fun o i r => zC (zArr o (cond (Nat.beq w 1) 3 2)) (zC (zSm i (zLen o)) (zPj p l e (zRm μ) s m args below meth c dC dI ad cA (zMl μ) (MQ below (zQ dC dI ad cA μ K) args s 0 0 (zA ad)) (pc + 1) L (.inl (M o i) :: r) M))) := h
  cases hw : Nat.beq w 1
  · rw [hw] at h
    obtain ⟨o, i, r, rfl, h⟩ := zRI_e h
    obtain ⟨ho, h⟩ := zC_iff.mp h
    obtain ⟨hs, h⟩ := zC_iff.mp h
    have ho : zArr o 2 = true := ho
    obtain ⟨t, n, hlt, hsh, hty, hlen, hn⟩ := zArr_e ho
    rw [hlen] at hs
    have hix := zidx hs hn
    have h0 := (zSm_iff.mp hs).1
    have hg : (zWd ad cA M)[o]? = some (ad o, .inl (cA 2, n, zRow ad 2 (M o))) := by rw [zWd_get hlt, zEnt_arr hsh, hty]
    refine va_bald hx hb hK hP o 2 hg rfl hix.2 hd ?_
    rw [hix.1, Int.toNat_of_nonneg h0]
    exact h H locs ls hP hS hL
  · rw [hw] at h
    obtain ⟨o, i, r, rfl, h⟩ := zRI_e h
    obtain ⟨ho, h⟩ := zC_iff.mp h
    obtain ⟨hs, h⟩ := zC_iff.mp h
    have ho : zArr o 3 = true := ho
    obtain ⟨t, n, hlt, hsh, hty, hlen, hn⟩ := zArr_e ho
    rw [hlen] at hs
    have hix := zidx hs hn
    have h0 := (zSm_iff.mp hs).1
    have hg : (zWd ad cA M)[o]? = some (ad o, .inl (cA 3, n, zRow ad 3 (M o))) := by rw [zWd_get hlt, zEnt_arr hsh, hty]
    refine va_zald hx hb hK hP o 3 hg rfl hix.2 hd ?_
    rw [hix.1, Int.toNat_of_nonneg h0]
    exact h H locs ls hP hS hL
theorem zi_laload  {K : Kt} {d μ pc nx a b : Nat} {v : Int} {w : Nat} {L : Lc} {st : List Vl} {M : Mm} (Hy : zHy p l s m args meth c dC dI ad cA d μ) (hd : decode (zCd μ) pc = .ok (.laload, zIl (.laload))) (hn : nx = pc + zIl (.laload)) (hi : zEI μ (.laload) pc a b v w = true) (h : zEx (zSp d) K (zPj p l e (zRm μ) s m args below meth c dC dI ad cA (zMl μ) (MQ below (zQ dC dI ad cA μ K) args s 0 0 (zA ad)) nx) (zPj p l e (zRm μ) s m args below meth c dC dI ad cA (zMl μ) (MQ below (zQ dC dI ad cA μ K) args s 0 0 (zA ad))) pc (.laload) a b v w L st M) : zPj p l e (zRm μ) s m args below meth c dC dI ad cA (zMl μ) (MQ below (zQ dC dI ad cA μ K) args s 0 0 (zA ad)) pc L st M := by
  obtain ⟨hμ, hx, hb, hml, hr, hlocks, hown, hts, hK, hinj, hst, hnw, IH⟩ := Hy
  subst hn
  intro H locs ls hP hS hL
  obtain ⟨o, i, r, rfl, h⟩ := zRI_e h
  obtain ⟨ho, h⟩ := zC_iff.mp h
  obtain ⟨hs, h⟩ := zC_iff.mp h
  have ho : zArr o 1 = true := ho
  obtain ⟨t, n, hlt, hsh, hty, hlen, hn⟩ := zArr_e ho
  rw [hlen] at hs
  have hix := zidx hs hn
  have h0 := (zSm_iff.mp hs).1
  have hg : (zWd ad cA M)[o]? = some (ad o, .inl (cA 1, n, zRow ad 1 (M o))) := by rw [zWd_get hlt, zEnt_arr hsh, hty]
  refine va_lald hx hb hK hP o 1 hg rfl hix.2 hd ?_
  rw [hix.1, Int.toNat_of_nonneg h0]
  exact h H locs ls hP hS hL
theorem zi_aaload  {K : Kt} {d μ pc nx a b : Nat} {v : Int} {w : Nat} {L : Lc} {st : List Vl} {M : Mm} (Hy : zHy p l s m args meth c dC dI ad cA d μ) (hd : decode (zCd μ) pc = .ok (.aaload, zIl (.aaload))) (hn : nx = pc + zIl (.aaload)) (hi : zEI μ (.aaload) pc a b v w = true) (h : zEx (zSp d) K (zPj p l e (zRm μ) s m args below meth c dC dI ad cA (zMl μ) (MQ below (zQ dC dI ad cA μ K) args s 0 0 (zA ad)) nx) (zPj p l e (zRm μ) s m args below meth c dC dI ad cA (zMl μ) (MQ below (zQ dC dI ad cA μ K) args s 0 0 (zA ad))) pc (.aaload) a b v w L st M) : zPj p l e (zRm μ) s m args below meth c dC dI ad cA (zMl μ) (MQ below (zQ dC dI ad cA μ K) args s 0 0 (zA ad)) pc L st M := by
  obtain ⟨hμ, hx, hb, hml, hr, hlocks, hown, hts, hK, hinj, hst, hnw, IH⟩ := Hy
  subst hn
  intro H locs ls hP hS hL
  obtain ⟨o, i, r, rfl, h⟩ := zRI_e h
  obtain ⟨ho, h⟩ := zC_iff.mp h
  obtain ⟨hs, h⟩ := zC_iff.mp h
  have ho : zArr o 4 = true := ho
  obtain ⟨t, n, hlt, hsh, hty, hlen, hn⟩ := zArr_e ho
  rw [hlen] at hs
  have hix := zidx hs hn
  have h0 := (zSm_iff.mp hs).1
  have hg : (zWd ad cA M)[o]? = some (ad o, .inl (cA 4, n, zRow ad 4 (M o))) := by rw [zWd_get hlt, zEnt_arr hsh, hty]
  refine va_aldq hx hb hK hP o 4 hg rfl hix.2 hd ?_
  rw [hix.1, Int.toNat_of_nonneg h0]
  exact h H locs ls hP hS hL
theorem zi_iastore  {K : Kt} {d μ pc nx a b : Nat} {v : Int} {w : Nat} {L : Lc} {st : List Vl} {M : Mm} (Hy : zHy p l s m args meth c dC dI ad cA d μ) (hd : decode (zCd μ) pc = .ok (.iastore, zIl (.iastore))) (hn : nx = pc + zIl (.iastore)) (hi : zEI μ (.iastore) pc a b v w = true) (h : zEx (zSp d) K (zPj p l e (zRm μ) s m args below meth c dC dI ad cA (zMl μ) (MQ below (zQ dC dI ad cA μ K) args s 0 0 (zA ad)) nx) (zPj p l e (zRm μ) s m args below meth c dC dI ad cA (zMl μ) (MQ below (zQ dC dI ad cA μ K) args s 0 0 (zA ad))) pc (.iastore) a b v w L st M) : zPj p l e (zRm μ) s m args below meth c dC dI ad cA (zMl μ) (MQ below (zQ dC dI ad cA μ K) args s 0 0 (zA ad)) pc L st M := by
  obtain ⟨hμ, hx, hb, hml, hr, hlocks, hown, hts, hK, hinj, hst, hnw, IH⟩ := Hy
  subst hn
  intro H locs ls hP hS hL
  obtain ⟨o, i, x, r, rfl, h⟩ := zRII_e h
  obtain ⟨ho, h⟩ := zC_iff.mp h
  obtain ⟨hs, h⟩ := zC_iff.mp h
  have ho : zArr o 0 = true := ho
  obtain ⟨t, n, hlt, hsh, hty, hlen, hn⟩ := zArr_e ho
  rw [hlen] at hs
  have hix := zidx hs hn
  have h0 := (zSm_iff.mp hs).1
  have hg : (zWd ad cA M)[o]? = some (ad o, .inl (cA 0, n, zRow ad 0 (M o))) := by rw [zWd_get hlt, zEnt_arr hsh, hty]
  have hM : zEnt ad cA (zUp M o i x) o = .inl (cA 0, n, zRow ad 0 (fun j => if j = i then x else M o j)) := by rw [zEnt_arr hsh, hty, zUp_eq]
  have hw2 : (zWd ad cA M).set o (ad o, .inl (cA 0, n, zRow ad 0 (fun j => if j = i then x else M o j))) = zWd ad cA (zUp M o i x) := by rw [← hM]; exact zWd_set hlt zUp_ne
  have hf : (upd (fun j : Nat => Int32.ofInt (M o (j : Int))) (Int32.ofInt i).toNatClampNeg (Int32.ofInt x)) = (fun j : Nat => Int32.ofInt (if (j : Int) = i then x else M o (j : Int))) := by
    funext j
    rw [hix.1]
    by_cases q : j = i.toNat
    · rw [if_pos (by omega)]; simp [upd, vp_updL, va_up, q]
    · rw [if_neg (by omega)]; simp [upd, vp_updL, va_up, q]
  refine va_iast hx hb hK hP (zWd_D hinj) hS o 0 hg rfl hix.2 hd (fun H1 locs1 hP1 _ hS1 => ?_)
  rw [hf] at hP1
  exact h H1 locs1 ls (by rw [← hw2]; exact hP1) hS1 hL
theorem zi_lastore  {K : Kt} {d μ pc nx a b : Nat} {v : Int} {w : Nat} {L : Lc} {st : List Vl} {M : Mm} (Hy : zHy p l s m args meth c dC dI ad cA d μ) (hd : decode (zCd μ) pc = .ok (.lastore, zIl (.lastore))) (hn : nx = pc + zIl (.lastore)) (hi : zEI μ (.lastore) pc a b v w = true) (h : zEx (zSp d) K (zPj p l e (zRm μ) s m args below meth c dC dI ad cA (zMl μ) (MQ below (zQ dC dI ad cA μ K) args s 0 0 (zA ad)) nx) (zPj p l e (zRm μ) s m args below meth c dC dI ad cA (zMl μ) (MQ below (zQ dC dI ad cA μ K) args s 0 0 (zA ad))) pc (.lastore) a b v w L st M) : zPj p l e (zRm μ) s m args below meth c dC dI ad cA (zMl μ) (MQ below (zQ dC dI ad cA μ K) args s 0 0 (zA ad)) pc L st M := by
  obtain ⟨hμ, hx, hb, hml, hr, hlocks, hown, hts, hK, hinj, hst, hnw, IH⟩ := Hy
  subst hn
  intro H locs ls hP hS hL
  obtain ⟨o, i, x, r, rfl, h⟩ := zRIL_e h
  obtain ⟨ho, h⟩ := zC_iff.mp h
  obtain ⟨hs, h⟩ := zC_iff.mp h
  have ho : zArr o 1 = true := ho
  obtain ⟨t, n, hlt, hsh, hty, hlen, hn⟩ := zArr_e ho
  rw [hlen] at hs
  have hix := zidx hs hn
  have h0 := (zSm_iff.mp hs).1
  have hg : (zWd ad cA M)[o]? = some (ad o, .inl (cA 1, n, zRow ad 1 (M o))) := by rw [zWd_get hlt, zEnt_arr hsh, hty]
  have hM : zEnt ad cA (zUp M o i x) o = .inl (cA 1, n, zRow ad 1 (fun j => if j = i then x else M o j)) := by rw [zEnt_arr hsh, hty, zUp_eq]
  have hw2 : (zWd ad cA M).set o (ad o, .inl (cA 1, n, zRow ad 1 (fun j => if j = i then x else M o j))) = zWd ad cA (zUp M o i x) := by rw [← hM]; exact zWd_set hlt zUp_ne
  have hf : (vp_updL (fun j : Nat => Int64.ofInt (M o (j : Int))) (Int32.ofInt i).toNatClampNeg (Int64.ofInt x)) = (fun j : Nat => Int64.ofInt (if (j : Int) = i then x else M o (j : Int))) := by
    funext j
    rw [hix.1]
    by_cases q : j = i.toNat
    · rw [if_pos (by omega)]; simp [upd, vp_updL, va_up, q]
    · rw [if_neg (by omega)]; simp [upd, vp_updL, va_up, q]
  refine va_last hx hb hK hP (zWd_D hinj) hS o 1 hg rfl hix.2 hd (fun H1 locs1 hP1 _ hS1 => ?_)
  rw [hf] at hP1
  exact h H1 locs1 ls (by rw [← hw2]; exact hP1) hS1 hL
theorem zi_bastore  {K : Kt} {d μ pc nx a b : Nat} {v : Int} {w : Nat} {L : Lc} {st : List Vl} {M : Mm} (Hy : zHy p l s m args meth c dC dI ad cA d μ) (hd : decode (zCd μ) pc = .ok (.bastore, zIl (.bastore))) (hn : nx = pc + zIl (.bastore)) (hi : zEI μ (.bastore) pc a b v w = true) (h : zEx (zSp d) K (zPj p l e (zRm μ) s m args below meth c dC dI ad cA (zMl μ) (MQ below (zQ dC dI ad cA μ K) args s 0 0 (zA ad)) nx) (zPj p l e (zRm μ) s m args below meth c dC dI ad cA (zMl μ) (MQ below (zQ dC dI ad cA μ K) args s 0 0 (zA ad))) pc (.bastore) a b v w L st M) : zPj p l e (zRm μ) s m args below meth c dC dI ad cA (zMl μ) (MQ below (zQ dC dI ad cA μ K) args s 0 0 (zA ad)) pc L st M := by
  obtain ⟨hμ, hx, hb, hml, hr, hlocks, hown, hts, hK, hinj, hst, hnw, IH⟩ := Hy
  subst hn
  intro H locs ls hP hS hL
  have h : cond (Nat.beq w 1) (zRII st fun o i x r => zC (zArr o 3) (zC (zSm i (zLen o)) (zC (zBo x) (zPj p l e (zRm μ) s m args below meth c dC dI ad cA (zMl μ) (MQ below (zQ dC dI ad cA μ K) args s 0 0 (zA ad)) (pc + 1) L r (zUp M o i x))))) (zRII st fun o i x r => zC (zArr o 2) (zC (zSm i (zLen o)) (zC (zBy x) (zPj p l e (zRm μ) s m args below meth c dC dI ad cA (zMl μ) (MQ below (zQ dC dI ad cA μ K) args s 0 0 (zA ad)) (pc + 1) L r (zUp M o i x))))) := h
  cases hw : Nat.beq w 1
  · rw [hw] at h
    obtain ⟨o, i, x, r, rfl, h⟩ := zRII_e h
    obtain ⟨ho, h⟩ := zC_iff.mp h
    obtain ⟨hs, h⟩ := zC_iff.mp h
    obtain ⟨hbx, h⟩ := zC_iff.mp h
    have hnar : vp_nar .byte (Int32.ofInt x) = Int32.ofInt x := by
      rw [vp_nar_byte, zi2b]
      congr 1
      have := zBy_iff.mp hbx
      unfold zB8
      omega
    have ho : zArr o 2 = true := ho
    obtain ⟨t, n, hlt, hsh, hty, hlen, hn⟩ := zArr_e ho
    rw [hlen] at hs
    have hix := zidx hs hn
    have h0 := (zSm_iff.mp hs).1
    have hg : (zWd ad cA M)[o]? = some (ad o, .inl (cA 2, n, zRow ad 2 (M o))) := by rw [zWd_get hlt, zEnt_arr hsh, hty]
    have hM : zEnt ad cA (zUp M o i x) o = .inl (cA 2, n, zRow ad 2 (fun j => if j = i then x else M o j)) := by rw [zEnt_arr hsh, hty, zUp_eq]
    have hw2 : (zWd ad cA M).set o (ad o, .inl (cA 2, n, zRow ad 2 (fun j => if j = i then x else M o j))) = zWd ad cA (zUp M o i x) := by rw [← hM]; exact zWd_set hlt zUp_ne
    have hf : (upd (fun j : Nat => Int32.ofInt (M o (j : Int))) (Int32.ofInt i).toNatClampNeg (vp_nar .byte (Int32.ofInt x))) = (fun j : Nat => Int32.ofInt (if (j : Int) = i then x else M o (j : Int))) := by
      funext j
      rw [hix.1, hnar]
      by_cases q : j = i.toNat
      · rw [if_pos (by omega)]; simp [upd, vp_updL, va_up, q]
      · rw [if_neg (by omega)]; simp [upd, vp_updL, va_up, q]
    refine va_bast hx hb hK hP (zWd_D hinj) hS o 2 hg rfl hix.2 hd (fun H1 locs1 hP1 _ hS1 => ?_)
    rw [hf] at hP1
    exact h H1 locs1 ls (by rw [← hw2]; exact hP1) hS1 hL
  · rw [hw] at h
    obtain ⟨o, i, x, r, rfl, h⟩ := zRII_e h
    obtain ⟨ho, h⟩ := zC_iff.mp h
    obtain ⟨hs, h⟩ := zC_iff.mp h
    obtain ⟨hbx, h⟩ := zC_iff.mp h
    have hnar : vp_nar .boolean (Int32.ofInt x) = Int32.ofInt x := by
      rcases zBo_iff.mp hbx with rfl | rfl <;> decide
    have ho : zArr o 3 = true := ho
    obtain ⟨t, n, hlt, hsh, hty, hlen, hn⟩ := zArr_e ho
    rw [hlen] at hs
    have hix := zidx hs hn
    have h0 := (zSm_iff.mp hs).1
    have hg : (zWd ad cA M)[o]? = some (ad o, .inl (cA 3, n, zRow ad 3 (M o))) := by rw [zWd_get hlt, zEnt_arr hsh, hty]
    have hM : zEnt ad cA (zUp M o i x) o = .inl (cA 3, n, zRow ad 3 (fun j => if j = i then x else M o j)) := by rw [zEnt_arr hsh, hty, zUp_eq]
    have hw2 : (zWd ad cA M).set o (ad o, .inl (cA 3, n, zRow ad 3 (fun j => if j = i then x else M o j))) = zWd ad cA (zUp M o i x) := by rw [← hM]; exact zWd_set hlt zUp_ne
    have hf : (upd (fun j : Nat => Int32.ofInt (M o (j : Int))) (Int32.ofInt i).toNatClampNeg (vp_nar .boolean (Int32.ofInt x))) = (fun j : Nat => Int32.ofInt (if (j : Int) = i then x else M o (j : Int))) := by
      funext j
      rw [hix.1, hnar]
      by_cases q : j = i.toNat
      · rw [if_pos (by omega)]; simp [upd, vp_updL, va_up, q]
      · rw [if_neg (by omega)]; simp [upd, vp_updL, va_up, q]
    refine va_zast hx hb hK hP (zWd_D hinj) hS o 3 hg rfl hix.2 hd (fun H1 locs1 hP1 _ hS1 => ?_)
    rw [hf] at hP1
    exact h H1 locs1 ls (by rw [← hw2]; exact hP1) hS1 hL
theorem zi_aastore  {K : Kt} {d μ pc nx a b : Nat} {v : Int} {w : Nat} {L : Lc} {st : List Vl} {M : Mm} (Hy : zHy p l s m args meth c dC dI ad cA d μ) (hd : decode (zCd μ) pc = .ok (.aastore, zIl (.aastore))) (hn : nx = pc + zIl (.aastore)) (hi : zEI μ (.aastore) pc a b v w = true) (h : zEx (zSp d) K (zPj p l e (zRm μ) s m args below meth c dC dI ad cA (zMl μ) (MQ below (zQ dC dI ad cA μ K) args s 0 0 (zA ad)) nx) (zPj p l e (zRm μ) s m args below meth c dC dI ad cA (zMl μ) (MQ below (zQ dC dI ad cA μ K) args s 0 0 (zA ad))) pc (.aastore) a b v w L st M) : zPj p l e (zRm μ) s m args below meth c dC dI ad cA (zMl μ) (MQ below (zQ dC dI ad cA μ K) args s 0 0 (zA ad)) pc L st M := by
  obtain ⟨hμ, hx, hb, hml, hr, hlocks, hown, hts, hK, hinj, hst, hnw, IH⟩ := Hy
  subst hn
  intro H locs ls hP hS hL
  obtain ⟨o, i, x, r, rfl, h⟩ := zRIR_e h
  obtain ⟨ho, h⟩ := zC_iff.mp h
  obtain ⟨hs, h⟩ := zC_iff.mp h
  obtain ⟨hbx, h⟩ := zC_iff.mp h
  obtain ⟨hlx, hshx⟩ := zObj_e hbx
  have hgx : (zWd ad cA M)[x]? = some (ad x, .inr (zTree, zFsA ad x (M x) 0 (zFk zTree))) := by rw [zWd_get hlx, zEnt_obj hshx]
  have ho : zArr o 4 = true := ho
  obtain ⟨t, n, hlt, hsh, hty, hlen, hn⟩ := zArr_e ho
  rw [hlen] at hs
  have hix := zidx hs hn
  have h0 := (zSm_iff.mp hs).1
  have hg : (zWd ad cA M)[o]? = some (ad o, .inl (cA 4, n, zRow ad 4 (M o))) := by rw [zWd_get hlt, zEnt_arr hsh, hty]
  have hM : zEnt ad cA (zUp M o i (x : Int)) o = .inl (cA 4, n, zRow ad 4 (fun j => if j = i then (x : Int) else M o j)) := by rw [zEnt_arr hsh, hty, zUp_eq]
  have hw2 : (zWd ad cA M).set o (ad o, .inl (cA 4, n, zRow ad 4 (fun j => if j = i then (x : Int) else M o j))) = zWd ad cA (zUp M o i (x : Int)) := by rw [← hM]; exact zWd_set hlt zUp_ne
  have hf : (va_up (fun j : Nat => some (ad (M o (j : Int)).toNat)) (Int32.ofInt i).toNatClampNeg (some (ad x))) = (fun j : Nat => some (ad (if (j : Int) = i then (x : Int) else M o (j : Int)).toNat)) := by
    funext j
    rw [hix.1]
    by_cases q : j = i.toNat
    · rw [if_pos (by omega)]; simp [upd, vp_updL, va_up, q]
    · rw [if_neg (by omega)]; simp [upd, vp_updL, va_up, q]
  refine va_astq hx hb hK hP (zWd_D hinj) hS o 4 x zTree hg rfl hgx (zf_cl zTree (by decide) (by decide)) hix.2 hd (fun H1 locs1 hP1 _ hS1 => ?_)
  rw [hf] at hP1
  exact h H1 locs1 ls (by rw [← hw2]; exact hP1) hS1 hL
theorem zi_arraylength  {K : Kt} {d μ pc nx a b : Nat} {v : Int} {w : Nat} {L : Lc} {st : List Vl} {M : Mm} (Hy : zHy p l s m args meth c dC dI ad cA d μ) (hd : decode (zCd μ) pc = .ok (.arraylength, zIl (.arraylength))) (hn : nx = pc + zIl (.arraylength)) (hi : zEI μ (.arraylength) pc a b v w = true) (h : zEx (zSp d) K (zPj p l e (zRm μ) s m args below meth c dC dI ad cA (zMl μ) (MQ below (zQ dC dI ad cA μ K) args s 0 0 (zA ad)) nx) (zPj p l e (zRm μ) s m args below meth c dC dI ad cA (zMl μ) (MQ below (zQ dC dI ad cA μ K) args s 0 0 (zA ad))) pc (.arraylength) a b v w L st M) : zPj p l e (zRm μ) s m args below meth c dC dI ad cA (zMl μ) (MQ below (zQ dC dI ad cA μ K) args s 0 0 (zA ad)) pc L st M := by
  obtain ⟨hμ, hx, hb, hml, hr, hlocks, hown, hts, hK, hinj, hst, hnw, IH⟩ := Hy
  subst hn
  intro H locs ls hP hS hL
  have h : cond (Nat.beq w 1) (zR1 st fun o r => zC (Nat.beq o zOW) (zPj p l e (zRm μ) s m args below meth c dC dI ad cA (zMl μ) (MQ below (zQ dC dI ad cA μ K) args s 0 0 (zA ad)) (pc + 1) L (.inl 13 :: r) M)) (zR1 st fun o r => zC (zArr o 0 || zArr o 1) (zPj p l e (zRm μ) s m args below meth c dC dI ad cA (zMl μ) (MQ below (zQ dC dI ad cA μ K) args s 0 0 (zA ad)) (pc + 1) L (.inl (zLen o) :: r) M)) := h
  cases hw : Nat.beq w 1
  · rw [hw] at h
    obtain ⟨o, r, rfl, h⟩ := zR1_e h
    obtain ⟨ho, h⟩ := zC_iff.mp h
    have ho2 : zArr o 0 = true ∨ zArr o 1 = true := by simpa using ho
    rcases ho2 with ho2 | ho2
    · obtain ⟨t, n, hlt, hsh, hty, hlen, hn⟩ := zArr_e ho2
      have hg : (zWd ad cA M)[o]? = some (ad o, .inl (cA 0, n, zRow ad 0 (M o))) := by rw [zWd_get hlt, zEnt_arr hsh, hty]
      refine va_alen hx hb hK hP o 0 hg rfl (v := Int32.ofInt (zLen o)) (by rw [hlen]; exact (Int32.ofInt_eq_ofNat).symm) hd ?_
      exact h H locs ls hP hS hL
    · obtain ⟨t, n, hlt, hsh, hty, hlen, hn⟩ := zArr_e ho2
      have hg : (zWd ad cA M)[o]? = some (ad o, .inl (cA 1, n, zRow ad 1 (M o))) := by rw [zWd_get hlt, zEnt_arr hsh, hty]
      refine va_alen hx hb hK hP o 1 hg rfl (v := Int32.ofInt (zLen o)) (by rw [hlen]; exact (Int32.ofInt_eq_ofNat).symm) hd ?_
      exact h H locs ls hP hS hL
  · rw [hw] at h
    obtain ⟨o, r, rfl, h⟩ := zR1_e h
    obtain ⟨ho, h⟩ := zC_iff.mp h
    have ho := Nat.eq_of_beq_eq_true ho
    rw [ho]
    refine va_tlen hx hb hst.2 hS (v := Int32.ofInt 13) (by decide) hd ?_
    exact h H locs ls hP hS hL
theorem zi_ireturn  {K : Kt} {d μ pc nx a b : Nat} {v : Int} {w : Nat} {L : Lc} {st : List Vl} {M : Mm} (Hy : zHy p l s m args meth c dC dI ad cA d μ) (hd : decode (zCd μ) pc = .ok (.ireturn, zIl (.ireturn))) (hn : nx = pc + zIl (.ireturn)) (hi : zEI μ (.ireturn) pc a b v w = true) (h : zEx (zSp d) K (zPj p l e (zRm μ) s m args below meth c dC dI ad cA (zMl μ) (MQ below (zQ dC dI ad cA μ K) args s 0 0 (zA ad)) nx) (zPj p l e (zRm μ) s m args below meth c dC dI ad cA (zMl μ) (MQ below (zQ dC dI ad cA μ K) args s 0 0 (zA ad))) pc (.ireturn) a b v w L st M) : zPj p l e (zRm μ) s m args below meth c dC dI ad cA (zMl μ) (MQ below (zQ dC dI ad cA μ K) args s 0 0 (zA ad)) pc L st M := by
  obtain ⟨hμ, hx, hb, hml, hr, hlocks, hown, hts, hK, hinj, hst, hnw, IH⟩ := Hy
  subst hn
  intro H locs ls hP hS hL
  obtain ⟨x, r, rfl, h⟩ := zS1_e h
  obtain ⟨h0, h⟩ := zC_iff.mp h
  have hrr : r = [] := by
    cases r with
    | nil => rfl
    | cons a b => cases h0
  subst hrr
  have hi : cond (Nat.beq w 1) (decide (zRt μ = some .boolean)) (decide (zRt μ = some .int)) = true := hi
  have h : cond (Nat.beq w 1) (zC (zBo x) (K x M)) (K x M) := h
  cases hw : Nat.beq w 1
  · rw [hw] at hi h
    have hrt : zRt μ = some .int := of_decide_eq_true hi
    exact W.zret (ty := .int) hx hb (hr.trans hrt) rfl (fun t ht _ => ⟨⟨_, M, (by rw [hrt]; rfl), h, by rw [ht]; exact hP⟩, hS.F ht⟩) hS.2.2 hd hlocks
  · rw [hw] at hi h
    have hrt : zRt μ = some .boolean := of_decide_eq_true hi
    obtain ⟨hbo, h⟩ := zC_iff.mp h
    exact W.zret (ty := .boolean) hx hb (hr.trans hrt) (by rcases zBo_iff.mp hbo with rfl | rfl <;> decide) (fun t ht _ => ⟨⟨_, M, (by rw [hrt]; rfl), h, by rw [ht]; exact hP⟩, hS.F ht⟩) hS.2.2 hd hlocks
theorem zi_lreturn  {K : Kt} {d μ pc nx a b : Nat} {v : Int} {w : Nat} {L : Lc} {st : List Vl} {M : Mm} (Hy : zHy p l s m args meth c dC dI ad cA d μ) (hd : decode (zCd μ) pc = .ok (.lreturn, zIl (.lreturn))) (hn : nx = pc + zIl (.lreturn)) (hi : zEI μ (.lreturn) pc a b v w = true) (h : zEx (zSp d) K (zPj p l e (zRm μ) s m args below meth c dC dI ad cA (zMl μ) (MQ below (zQ dC dI ad cA μ K) args s 0 0 (zA ad)) nx) (zPj p l e (zRm μ) s m args below meth c dC dI ad cA (zMl μ) (MQ below (zQ dC dI ad cA μ K) args s 0 0 (zA ad))) pc (.lreturn) a b v w L st M) : zPj p l e (zRm μ) s m args below meth c dC dI ad cA (zMl μ) (MQ below (zQ dC dI ad cA μ K) args s 0 0 (zA ad)) pc L st M := by
  obtain ⟨hμ, hx, hb, hml, hr, hlocks, hown, hts, hK, hinj, hst, hnw, IH⟩ := Hy
  subst hn
  intro H locs ls hP hS hL
  obtain ⟨x, r, rfl, h⟩ := zL1_e h
  obtain ⟨h0, h⟩ := zC_iff.mp h
  have hrr : r = [] := by
    cases r with
    | nil => rfl
    | cons a b => cases h0
  subst hrr
  have hrt : zRt μ = some .long := of_decide_eq_true hi
  exact W.lret hx hb (hr.trans hrt) (fun t ht _ => ⟨⟨_, M, (by rw [hrt]; rfl), h, by rw [ht]; exact hP⟩, hS.F ht⟩) hS.2.2 hd hlocks
theorem zi_return_  {K : Kt} {d μ pc nx a b : Nat} {v : Int} {w : Nat} {L : Lc} {st : List Vl} {M : Mm} (Hy : zHy p l s m args meth c dC dI ad cA d μ) (hd : decode (zCd μ) pc = .ok (.return_, zIl (.return_))) (hn : nx = pc + zIl (.return_)) (hi : zEI μ (.return_) pc a b v w = true) (h : zEx (zSp d) K (zPj p l e (zRm μ) s m args below meth c dC dI ad cA (zMl μ) (MQ below (zQ dC dI ad cA μ K) args s 0 0 (zA ad)) nx) (zPj p l e (zRm μ) s m args below meth c dC dI ad cA (zMl μ) (MQ below (zQ dC dI ad cA μ K) args s 0 0 (zA ad))) pc (.return_) a b v w L st M) : zPj p l e (zRm μ) s m args below meth c dC dI ad cA (zMl μ) (MQ below (zQ dC dI ad cA μ K) args s 0 0 (zA ad)) pc L st M := by
  obtain ⟨hμ, hx, hb, hml, hr, hlocks, hown, hts, hK, hinj, hst, hnw, IH⟩ := Hy
  subst hn
  intro H locs ls hP hS hL
  obtain ⟨h0, h⟩ := zC_iff.mp h
  have hrr : st = [] := by
    cases st with
    | nil => rfl
    | cons a b => cases h0
  subst hrr
  have hrt : zRt μ = none := of_decide_eq_true hi
  exact W.vret hx hb (hr.trans hrt) (fun t ht _ => ⟨⟨_, M, (by rw [hrt]; rfl), h, by rw [ht]; exact hP⟩, hS.F ht⟩) hS.2.2 hd hlocks
end ZS
