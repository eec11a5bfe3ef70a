theorem zS1_e {st : List Vl} {k : Int → List Vl → Prop} (h : zS1 st k) : ∃ x r, st = .inl x :: r ∧ k x r := by
  unfold zS1 at h
  split at h
  · exact ⟨_, _, rfl, h⟩
  · exact h.elim
theorem zS2_e {st : List Vl} {k : Int → Int → List Vl → Prop} (h : zS2 st k) : ∃ x y r, st = .inl y :: .inl x :: r ∧ k x y r := by
  unfold zS2 at h
  split at h
  · exact ⟨_, _, _, rfl, h⟩
  · exact h.elim
theorem zL1_e {st : List Vl} {k : Int → List Vl → Prop} (h : zL1 st k) : ∃ x r, st = .inr (.inl x) :: r ∧ k x r := by
  unfold zL1 at h
  split at h
  · exact ⟨_, _, rfl, h⟩
  · exact h.elim
theorem zL2_e {st : List Vl} {k : Int → Int → List Vl → Prop} (h : zL2 st k) : ∃ x y r, st = .inr (.inl y) :: .inr (.inl x) :: r ∧ k x y r := by
  unfold zL2 at h
  split at h
  · exact ⟨_, _, _, rfl, h⟩
  · exact h.elim
theorem zLI_e {st : List Vl} {k : Int → Int → List Vl → Prop} (h : zLI st k) : ∃ x y r, st = .inl y :: .inr (.inl x) :: r ∧ k x y r := by
  unfold zLI at h
  split at h
  · exact ⟨_, _, _, rfl, h⟩
  · exact h.elim
theorem zR1_e {st : List Vl} {k : Nat → List Vl → Prop} (h : zR1 st k) : ∃ a r, st = .inr (.inr a) :: r ∧ k a r := by
  unfold zR1 at h
  split at h
  · exact ⟨_, _, rfl, h⟩
  · exact h.elim
theorem zRI_e {st : List Vl} {k : Nat → Int → List Vl → Prop} (h : zRI st k) : ∃ a i r, st = .inl i :: .inr (.inr a) :: r ∧ k a i r := by
  unfold zRI at h
  split at h
  · exact ⟨_, _, _, rfl, h⟩
  · exact h.elim
theorem zRJ_e {st : List Vl} {k : Nat → Int → List Vl → Prop} (h : zRJ st k) : ∃ a i r, st = .inr (.inl i) :: .inr (.inr a) :: r ∧ k a i r := by
  unfold zRJ at h
  split at h
  · exact ⟨_, _, _, rfl, h⟩
  · exact h.elim
theorem zRII_e {st : List Vl} {k : Nat → Int → Int → List Vl → Prop} (h : zRII st k) : ∃ a i x r, st = .inl x :: .inl i :: .inr (.inr a) :: r ∧ k a i x r := by
  unfold zRII at h
  split at h
  · exact ⟨_, _, _, _, rfl, h⟩
  · exact h.elim
theorem zRIL_e {st : List Vl} {k : Nat → Int → Int → List Vl → Prop} (h : zRIL st k) : ∃ a i x r, st = .inr (.inl x) :: .inl i :: .inr (.inr a) :: r ∧ k a i x r := by
  unfold zRIL at h
  split at h
  · exact ⟨_, _, _, _, rfl, h⟩
  · exact h.elim
theorem zRIR_e {st : List Vl} {k : Nat → Int → Nat → List Vl → Prop} (h : zRIR st k) : ∃ a i x r, st = .inr (.inr x) :: .inl i :: .inr (.inr a) :: r ∧ k a i x r := by
  unfold zRIR at h
  split at h
  · exact ⟨_, _, _, _, rfl, h⟩
  · exact h.elim
theorem zIIRIR_e {st : List Vl} {k : Nat → Int → Nat → Int → Int → List Vl → Prop} (h : zIIRIR st k) : ∃ s sp d dp n r, st = .inl n :: .inl dp :: .inr (.inr d) :: .inl sp :: .inr (.inr s) :: r ∧ k s sp d dp n r := by
  unfold zIIRIR at h
  split at h
  · exact ⟨_, _, _, _, _, _, rfl, h⟩
  · exact h.elim
theorem zLdI_e {L : Lc} {i : Nat} {k : Int → Prop} (h : zLdI L i k) : ∃ x, zGet L i = some (.inl x) ∧ k x := by
  unfold zLdI at h
  split at h
  · rename_i x hx
    exact ⟨x, hx, h⟩
  · exact h.elim
theorem zLdL_e {L : Lc} {i : Nat} {k : Int → Prop} (h : zLdL L i k) : ∃ x, zGet L i = some (.inr (.inl x)) ∧ k x := by
  unfold zLdL at h
  split at h
  · rename_i x hx
    exact ⟨x, hx, h⟩
  · exact h.elim
theorem zLdR_e {L : Lc} {i : Nat} {k : Nat → Prop} (h : zLdR L i k) : ∃ x, zGet L i = some (.inr (.inr x)) ∧ k x := by
  unfold zLdR at h
  split at h
  · rename_i x hx
    exact ⟨x, hx, h⟩
  · exact h.elim
theorem zPops_e {k : List Vl → List Vl → Prop} : ∀ (n : Nat) (acc st : List Vl), zPops n acc st k → ∃ (as r : List Vl), st = as.reverse ++ r ∧ as.length = n ∧ k (as ++ acc) r
  | 0, acc, st, h => ⟨[], st, rfl, rfl, h⟩
  | n + 1, acc, [], h => h.elim
  | n + 1, acc, v :: st, h => by
    obtain ⟨as, r, h1, h2, h3⟩ := zPops_e n (v :: acc) st h
    refine ⟨as ++ [v], r, ?_, by simp [h2], by simpa using h3⟩
    rw [h1]; simp
theorem zf_cls : ∀ μ, μ < 265 → zCn (zOn μ) = (zY μ).cls := by decide +kernel
theorem zf_plain : ∀ μ, μ < 265 → Jvm.plainName (zY μ).cls = true := by decide +kernel
theorem zf_mh : ∀ μ, μ < 265 → (zY μ).cls ≠ "java/lang/invoke/MethodHandle" ∧ (zY μ).cls ≠ "java/lang/invoke/VarHandle" ∧ (parseMethodDescriptor (zY μ).desc).map (fun d => d.parameters.length) = some (zNp μ) := by decide +kernel
theorem zf_ret : ∀ μ, μ < 265 → (zRk μ = 0 ∧ zRt μ = none) ∨ (zRk μ = 1 ∧ (zRt μ = some .int ∨ zRt μ = some .boolean)) ∨ (zRk μ = 2 ∧ zRt μ = some .long) := by decide +kernel
theorem zf_cl : ∀ ci, ci < 13 → ci ≠ 3 → zCm[ci]? = some (zCn ci, zT ci, (zFk ci).length)
  | 0, _, _ => rfl
  | 1, _, _ => rfl
  | 2, _, _ => rfl
  | 3, _, h => absurd rfl h
  | 4, _, _ => rfl
  | 5, _, _ => rfl
  | 6, _, _ => rfl
  | 7, _, _ => rfl
  | 8, _, _ => rfl
  | 9, _, _ => rfl
  | 10, _, _ => rfl
  | 11, _, _ => rfl
  | 12, _, _ => rfl
  | n + 13, h, _ => absurd h (by omega)
theorem zf_fl3 : ∀ q ∈ zFl, q.2.2.1 ≠ 3 := by decide +kernel
theorem zf_nl3 : ∀ q ∈ zNl, q.2.2.1 ≠ 3 := by decide +kernel
theorem zf_own3 : ∀ q ∈ zInsts, zOn q ≠ 3 := by decide +kernel
theorem zf_T : ∀ ci, ci < 13 → ∀ k, k < (zFk ci).length → (zT ci k).1 = zCn ci := by decide +kernel
theorem zf_int0 : ∀ ci, ci < 13 → ∀ k, k < (zFk ci).length → (zFk ci)[k]? = some 0 → (zT ci k).2.2.2 = false ∧ (zT ci k).2.2.1 = "I" := by decide +kernel
theorem zf_int1 : ∀ ci, ci < 13 → ∀ k, k < (zFk ci).length → (zFk ci)[k]? = some 1 → (zT ci k).2.2.2 = false ∧ (zT ci k).2.2.1 = "J" := by decide +kernel
theorem zf_lay : ∀ ci, ci < 13 → ∀ w ∈ u_ws (zCn ci) (zT ci) (zFk ci).length, w ∈ lw_tbl
  | 0, _ => zl_0
  | 1, _ => zl_1
  | 2, _ => zl_2
  | 3, _ => fun w h => absurd h List.not_mem_nil
  | 4, _ => zl_4
  | 5, _ => zl_5
  | 6, _ => zl_6
  | 7, _ => zl_7
  | 8, _ => zl_8
  | 9, _ => zl_9
  | 10, _ => zl_10
  | 11, _ => zl_11
  | 12, _ => zl_12
  | n + 13, h => absurd h (by omega)
theorem zf_layg {ci : Nat} (h : ci < 13) : ∀ w ∈ u_ws (zCn ci) (zT ci) (zFk ci).length, w ∈ zTb := by
  intro w hw
  refine zGw (zf_lay ci h w hw) ?_
  obtain ⟨k, -, rfl⟩ := List.mem_map.mp hw
  unfold u_lay
  split <;> rfl
def zTyF (ci : Nat) : Nat → FieldType := ([tyX0, tyX1, tyX2, tyX3, tyX4, tyX5, tyX6, tyX7, tyX8, tyX9, tyX10, tyX11, tyX12] : List (Nat → FieldType)).getD ci tyX0
theorem zf_ty : ∀ ci, ci < 13 → ∀ k, k < (zFk ci).length → parseFieldDescriptor (zT ci k).2.2.1 = some (zTyF ci k)
  | 0, _ => tyX0_ok
  | 1, _ => tyX1_ok
  | 2, _ => tyX2_ok
  | 3, _ => fun k h => absurd h (Nat.not_lt_zero k)
  | 4, _ => tyX4_ok
  | 5, _ => tyX5_ok
  | 6, _ => tyX6_ok
  | 7, _ => tyX7_ok
  | 8, _ => tyX8_ok
  | 9, _ => tyX9_ok
  | 10, _ => tyX10_ok
  | 11, _ => tyX11_ok
  | 12, _ => tyX12_ok
  | n + 13, h => absurd h (by omega)
theorem zf_nm : ∀ ci, ci < 13 → ∀ a, a < (zFk ci).length → ∀ b, b < (zFk ci).length → a ≠ b → (zT ci a).2.1 ≠ (zT ci b).2.1
  | 0, _ => nmX0
  | 1, _ => nmX1
  | 2, _ => nmX2
  | 3, _ => fun k h => absurd h (Nat.not_lt_zero k)
  | 4, _ => nmX4
  | 5, _ => nmX5
  | 6, _ => nmX6
  | 7, _ => nmX7
  | 8, _ => nmX8
  | 9, _ => nmX9
  | 10, _ => nmX10
  | 11, _ => nmX11
  | 12, _ => nmX12
  | n + 13, h => absurd h (by omega)
