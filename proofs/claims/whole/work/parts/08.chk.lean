def zM3 (o i : Nat) (x : Int) (l : List (Nat × Nat × Int)) : Bool := l.any (fun q => Nat.beq q.1 o && (Nat.beq q.2.1 i && decide (q.2.2 = x)))
def zMn (o i x : Nat) (l : List (Nat × Nat × Nat)) : Bool := l.any (fun q => Nat.beq q.1 o && (Nat.beq q.2.1 i && Nat.beq q.2.2 x))
def zM4 (o i x y : Nat) (l : List (Nat × Nat × Nat × Nat)) : Bool := l.any (fun q => Nat.beq q.1 o && (Nat.beq q.2.1 i && (Nat.beq q.2.2.1 x && Nat.beq q.2.2.2 y)))
def zM2 (o i : Nat) (l : List (Nat × Nat)) : Bool := l.any (fun q => Nat.beq q.1 o && Nat.beq q.2 i)
theorem zM3_mem {o i : Nat} {x : Int} {l : List (Nat × Nat × Int)} (h : zM3 o i x l = true) : (o, i, x) ∈ l := by
  obtain ⟨⟨a, b, c⟩, hq, h1⟩ := List.any_eq_true.mp h
  simp only [Bool.and_eq_true, decide_eq_true_eq] at h1
  obtain ⟨h1, h2, h3⟩ := h1
  rw [← Nat.eq_of_beq_eq_true h1, ← Nat.eq_of_beq_eq_true h2, ← h3]; exact hq
theorem zMn_mem {o i x : Nat} {l : List (Nat × Nat × Nat)} (h : zMn o i x l = true) : (o, i, x) ∈ l := by
  obtain ⟨⟨a, b, c⟩, hq, h1⟩ := List.any_eq_true.mp h
  simp only [Bool.and_eq_true] at h1
  obtain ⟨h1, h2, h3⟩ := h1
  rw [← Nat.eq_of_beq_eq_true h1, ← Nat.eq_of_beq_eq_true h2, ← Nat.eq_of_beq_eq_true h3]; exact hq
theorem zM4_mem {o i x y : Nat} {l : List (Nat × Nat × Nat × Nat)} (h : zM4 o i x y l = true) : (o, i, x, y) ∈ l := by
  obtain ⟨⟨a, b, c, d⟩, hq, h1⟩ := List.any_eq_true.mp h
  simp only [Bool.and_eq_true] at h1
  obtain ⟨h1, h2, h3, h4⟩ := h1
  rw [← Nat.eq_of_beq_eq_true h1, ← Nat.eq_of_beq_eq_true h2, ← Nat.eq_of_beq_eq_true h3, ← Nat.eq_of_beq_eq_true h4]; exact hq
theorem zM2_mem {o i : Nat} {l : List (Nat × Nat)} (h : zM2 o i l = true) : (o, i) ∈ l := by
  obtain ⟨⟨a, b⟩, hq, h1⟩ := List.any_eq_true.mp h
  simp only [Bool.and_eq_true] at h1
  obtain ⟨h1, h2⟩ := h1
  rw [← Nat.eq_of_beq_eq_true h1, ← Nat.eq_of_beq_eq_true h2]; exact hq
theorem zIn_mem {q : Nat} : ∀ {l : List Nat}, zIn q l = true → q ∈ l
  | [], h => by simp [zIn] at h
  | a :: l, h => by
    unfold zIn at h
    cases hb : Nat.beq a q with
    | true => rw [Nat.eq_of_beq_eq_true hb]; exact List.mem_cons_self
    | false => rw [hb] at h; exact List.mem_cons_of_mem _ (zIn_mem h)
/-- how long an instruction is -/
def zIl : Instr → Nat
  | .bipush _ => 2
  | .sipush _ => 3
  | .ldc _ => 2
  | .ldc_w _ => 3
  | .ldc2_w _ => 3
  | .iload _ => 2
  | .lload _ => 2
  | .aload _ => 2
  | .istore _ => 2
  | .lstore _ => 2
  | .astore _ => 2
  | .iinc _ _ => 3
  | .goto _ => 3
  | .ifCond _ _ => 3
  | .if_icmp _ _ => 3
  | .getfield _ => 3
  | .putfield _ => 3
  | .getstatic _ => 3
  | .invokevirtual _ => 3
  | .invokestatic _ => 3
  | _ => 1
def zLinkF (μ k a : Nat) (v : Int) : Bool := (zM4 (zOn μ) k a v.toNat zFl || zM4 (zOn μ) k a v.toNat zNl) && (decide (0 ≤ v) && Nat.blt a 13)
def zRoomOk (μ a : Nat) : Bool := Nat.ble (zFr a + 1) (zFr μ) && Nat.ble (8 + (zMl a + 11) + zLo a) (zLo μ)
def zEI (μ : Nat) (i : Instr) (pc a b : Nat) (v : Int) (w : Nat) : Bool := match i with
  | .bipush n => decide ((Int8.ofInt n).toInt32 = Int32.ofInt n)
  | .sipush n => decide ((Int16.ofInt n).toInt32 = Int32.ofInt n)
  | .ldc k => zM3 (zOn μ) k v zKi
  | .ldc_w k => zM3 (zOn μ) k v zKi
  | .ldc2_w k => zM3 (zOn μ) k v zKj
  | .lconst n => decide (Int64.ofNat n.val = Int64.ofInt v)
  | .iload k => Nat.beq k a
  | .lload k => Nat.beq k a
  | .aload k => Nat.beq k a
  | .iload_n k => Nat.beq k.val a
  | .lload_n k => Nat.beq k.val a
  | .aload_n k => Nat.beq k.val a
  | .istore k => Nat.beq k a && Nat.blt a (zMl μ)
  | .astore k => Nat.beq k a && Nat.blt a (zMl μ)
  | .istore_n k => Nat.beq k.val a && Nat.blt a (zMl μ)
  | .astore_n k => Nat.beq k.val a && Nat.blt a (zMl μ)
  | .lstore k => Nat.beq k a && Nat.blt (a + 1) (zMl μ)
  | .lstore_n k => Nat.beq k.val a && Nat.blt (a + 1) (zMl μ)
  | .iinc k n => Nat.beq k a && (Nat.blt a (zMl μ) && decide (v = n))
  | .goto o => decide ((pc : Int) + o = (a : Int))
  | .ifCond _ o => decide ((pc : Int) + o = (a : Int))
  | .if_icmp _ o => decide ((pc : Int) + o = (a : Int))
  | .getfield k => zLinkF μ k a v && decide ((zFk a)[v.toNat]? = some b)
  | .putfield k => zLinkF μ k a v && (decide ((zFk a)[v.toNat]? = some b) && Nat.blt b 2)
  | .getstatic k => Nat.beq (zOn μ) 8 && Nat.beq k 54
  | .invokevirtual k => zMn (zOn μ) k a zMk && (zRoomOk μ a && (Nat.beq w (zOn a) && (Nat.beq b (zNp a + 1) && (decide (v = zRk a) && (zIn a zInsts && (Nat.blt a 265 && Nat.blt w 13))))))
  | .invokestatic k => cond (Nat.beq w 0) (zMn (zOn μ) k a zMk && (zRoomOk μ a && (Nat.beq b (zNp a) && (decide (v = zRk a) && (zIn a zStats && Nat.blt a 265)))))
      (cond (Nat.beq w 3) (zM2 (zOn μ) k zMx && (Nat.ble 1 (zFr μ) && Nat.ble 30 (zLo μ))) (cond (Nat.beq w 4) (zM2 (zOn μ) k zMi && (Nat.ble 1 (zFr μ) && Nat.ble 30 (zLo μ)))
      (zM2 (zOn μ) k zAc && (Nat.ble 1 (zFr μ) && (Nat.ble 30 (zLo μ) && (Nat.beq w 1 || Nat.beq w 2))))))
  | .ireturn => cond (Nat.beq w 1) (decide (zRt μ = some .boolean)) (decide (zRt μ = some .int))
  | .lreturn => decide (zRt μ = some .long)
  | .return_ => decide (zRt μ = none)
  | .iaload => true
  | .tableswitch df lo hi offs => decide (0 ≤ (pc : Int) + df) && (offs.toList.all (fun o => decide (0 ≤ (pc : Int) + o)) && decide (hi + 1 = lo + offs.size))
  | _ => true
def zTw : Instr → Bool
  | .tableswitch _ _ _ _ => true
  | _ => false
def zEOk (μ : Nat) (e : En) : Bool := match e with
  | (pc, i, nx, a, b, v, w) => cond (zTw i) (decide (decode (zCd μ) pc = .ok (i, nx - pc))) (decide (decode (zCd μ) pc = .ok (i, zIl i)) && Nat.beq nx (pc + zIl i)) && zEI μ i pc a b v w
