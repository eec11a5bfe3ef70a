theorem pe_180 : zPg 180 = pg_180 := rfl
/-! 180 LeastFailingModel.treeGoesOn -/
set_option maxHeartbeats 4000000 in
set_option maxRecDepth 100000 in
theorem me_180 {d : Nat} {K : Kt} {M : Mm} : zSp (d + 1) 180 [.inr (.inr 154)] M K = (zSp d 152 [.inr (.inr 154), .inl 40] M (fun z1 M1 => zC (zR32 z1) ((z1 = 0 → zWp (zSp d) 180 K 51 [some (.inr (.inr 154)), some (.inl z1), none, none, none, none] [] M1) ∧ (¬ (z1 = 0) → zC (zR32 (M1 154 28)) (((M1 154 28) = 12 → zWp (zSp d) 180 K 32 [some (.inr (.inr 154)), some (.inl z1), none, none, none, none] [] M1) ∧ (¬ ((M1 154 28) = 12) → zSp d 174 [.inr (.inr 154), .inl 322] M1 (fun z2 M2 => zC (zR32 z2) ((¬ z2 = 80 → zWp (zSp d) 180 K 41 [some (.inr (.inr 154)), some (.inl z1), none, none, none, none] [] M2) ∧ (¬ (¬ z2 = 80) → zWp (zSp d) 180 K 32 [some (.inr (.inr 154)), some (.inl z1), none, none, none, none] [] M2))))))))) := (zwp_blk (stops := [32, 41, 51, 72, 96, 124, 142, 172]) (fuel := 121) pe_180).trans rfl
set_option maxHeartbeats 4000000 in
set_option maxRecDepth 100000 in
theorem fe_180_32 {d : Nat} {K : Kt} {M : Mm} {x1 : Int} : zWp (zSp d) 180 K 32 [some (.inr (.inr 154)), some (.inl x1), none, none, none, none] [] M = (zSp d 149 [.inr (.inr 154)] M (fun z1 M1 => zSp d 144 [.inr (.inr 154), .inl 4, .inl z1] M1 (fun _ M2 => zWp (zSp d) 180 K 41 [some (.inr (.inr 154)), some (.inl x1), none, none, none, none] [] M2))) := (zwp_blk (stops := [32, 41, 51, 72, 96, 124, 142, 172]) (fuel := 121) pe_180).trans rfl
set_option maxHeartbeats 4000000 in
set_option maxRecDepth 100000 in
theorem fe_180_41 {d : Nat} {K : Kt} {M : Mm} {x1 : Int} : zWp (zSp d) 180 K 41 [some (.inr (.inr 154)), some (.inl x1), none, none, none, none] [] M = (zWp (zSp d) 180 K 51 [some (.inr (.inr 154)), some (.inl x1), none, none, none, none] [] (zUp M 154 4 ((M 154 4) + 1))) := (zwp_blk (stops := [32, 41, 51, 72, 96, 124, 142, 172]) (fuel := 121) pe_180).trans rfl
set_option maxHeartbeats 4000000 in
set_option maxRecDepth 100000 in
theorem fe_180_51 {d : Nat} {K : Kt} {M : Mm} {x1 : Int} : zWp (zSp d) 180 K 51 [some (.inr (.inr 154)), some (.inl x1), none, none, none, none] [] M = (zSp d 162 [.inr (.inr 154)] M (fun z1 M1 => zSp d 143 [.inr (.inr 154)] M1 (fun z2 M2 => zC (zR32 z2) ((z2 = 0 → zWp (zSp d) 180 K 72 [some (.inr (.inr 154)), some (.inl x1), some (.inr (.inl z1)), none, none, none] [.inl 0] M2) ∧ (¬ (z2 = 0) → zSp d 171 [.inr (.inr 154), .inr (.inl z1)] M2 (fun z3 M3 => zWp (zSp d) 180 K 72 [some (.inr (.inr 154)), some (.inl x1), some (.inr (.inl z1)), none, none, none] [.inl z3] M3)))))) := (zwp_blk (stops := [32, 41, 51, 72, 96, 124, 142, 172]) (fuel := 121) pe_180).trans rfl
set_option maxHeartbeats 4000000 in
set_option maxRecDepth 100000 in
theorem fe_180_72 {d : Nat} {K : Kt} {M : Mm} {x1 x2 y0 : Int} : zWp (zSp d) 180 K 72 [some (.inr (.inr 154)), some (.inl x1), some (.inr (.inl x2)), none, none, none] [.inl y0] M = (zSp d 143 [.inr (.inr 154)] M (fun z1 M1 => zC (zR32 z1) ((z1 = 0 → zWp (zSp d) 180 K 96 [some (.inr (.inr 154)), some (.inl x1), some (.inr (.inl x2)), none, some (.inl y0), none] [] M1) ∧ (¬ (z1 = 0) → zC (zR32 y0) ((¬ y0 = (-1) → zWp (zSp d) 180 K 96 [some (.inr (.inr 154)), some (.inl x1), some (.inr (.inl x2)), none, some (.inl y0), none] [] M1) ∧ (¬ (¬ y0 = (-1)) → zSp d 144 [.inr (.inr 154), .inl 3, .inl (M1 154 12)] M1 (fun _ M2 => zWp (zSp d) 180 K 96 [some (.inr (.inr 154)), some (.inl x1), some (.inr (.inl x2)), none, some (.inl y0), none] [] M2))))))) := (zwp_blk (stops := [32, 41, 51, 72, 96, 124, 142, 172]) (fuel := 121) pe_180).trans rfl
set_option maxHeartbeats 4000000 in
set_option maxRecDepth 100000 in
theorem fe_180_96 {d : Nat} {K : Kt} {M : Mm} {x1 x2 x4 : Int} : zWp (zSp d) 180 K 96 [some (.inr (.inr 154)), some (.inl x1), some (.inr (.inl x2)), none, some (.inl x4), none] [] M = (zSp d 143 [.inr (.inr 154)] M (fun z1 M1 => zC (zR32 z1) ((z1 = 0 → zWp (zSp d) 180 K 124 [some (.inr (.inr 154)), some (.inl x1), some (.inr (.inl x2)), none, some (.inl x4), none] [] M1) ∧ (¬ (z1 = 0) → zSp d 174 [.inr (.inr 154), .inl 322] M1 (fun z2 M2 => zC (zR32 z2) ((¬ z2 = 80 → zWp (zSp d) 180 K 124 [some (.inr (.inr 154)), some (.inl x1), some (.inr (.inl x2)), none, some (.inl x4), none] [] M2) ∧ (¬ (¬ z2 = 80) → zSp d 144 [.inr (.inr 154), .inl 4, .inl (M2 154 12)] M2 (fun _ M3 => zWp (zSp d) 180 K 124 [some (.inr (.inr 154)), some (.inl x1), some (.inr (.inl x2)), none, some (.inl x4), none] [] M3)))))))) := (zwp_blk (stops := [32, 41, 51, 72, 96, 124, 142, 172]) (fuel := 121) pe_180).trans rfl
set_option maxHeartbeats 4000000 in
set_option maxRecDepth 100000 in
theorem fe_180_124 {d : Nat} {K : Kt} {M : Mm} {x1 x2 x4 : Int} : zWp (zSp d) 180 K 124 [some (.inr (.inr 154)), some (.inl x1), some (.inr (.inl x2)), none, some (.inl x4), none] [] M = (zSp d 143 [.inr (.inr 154)] M (fun z1 M1 => zC (zR32 z1) ((z1 = 0 → zWp (zSp d) 180 K 142 [some (.inr (.inr 154)), some (.inl x1), some (.inr (.inl x2)), none, some (.inl x4), none] [] M1) ∧ (¬ (z1 = 0) → zSp d 179 [.inr (.inr 154), .inl x4, .inl x1, .inl (M1 154 12)] M1 (fun _ M2 => zWp (zSp d) 180 K 142 [some (.inr (.inr 154)), some (.inl x1), some (.inr (.inl x2)), none, some (.inl x4), none] [] M2))))) := (zwp_blk (stops := [32, 41, 51, 72, 96, 124, 142, 172]) (fuel := 121) pe_180).trans rfl
set_option maxHeartbeats 4000000 in
set_option maxRecDepth 100000 in
theorem fe_180_142 {d : Nat} {K : Kt} {M : Mm} {x1 x2 x4 : Int} : zWp (zSp d) 180 K 142 [some (.inr (.inr 154)), some (.inl x1), some (.inr (.inl x2)), none, some (.inl x4), none] [] M = (zSp d 143 [.inr (.inr 154)] M (fun z1 M1 => zC (zR32 z1) ((¬ z1 = 0 → zC (zR32 (M1 154 28)) (((M1 154 28) ≤ 0 → zWp (zSp d) 180 K 172 [some (.inr (.inr 154)), some (.inl x1), some (.inr (.inl x2)), none, some (.inl x4), none] [] M1) ∧ (¬ ((M1 154 28) ≤ 0) → zC (zSm ((M1 154 28) - 1) 16) (zC (zSm ((M1 154 28) - 1) 16) (zWp (zSp d) 180 K 172 [some (.inr (.inr 154)), some (.inl x1), some (.inr (.inl x2)), none, some (.inl x4), none] [] (zUp M1 167 ((M1 154 28) - 1) ((M1 167 ((M1 154 28) - 1)) + 1))))))) ∧ (¬ (¬ z1 = 0) → K 0 M1)))) := (zwp_blk (stops := [32, 41, 51, 72, 96, 124, 142, 172]) (fuel := 121) pe_180).trans rfl
set_option maxHeartbeats 4000000 in
set_option maxRecDepth 100000 in
theorem fe_180_172 {d : Nat} {K : Kt} {M : Mm} {x1 x2 x4 : Int} : zWp (zSp d) 180 K 172 [some (.inr (.inr 154)), some (.inl x1), some (.inr (.inl x2)), none, some (.inl x4), none] [] M = (zSp d 178 [.inr (.inr 154), .inl 322, .inl x4] M (fun z1 M1 => zC (zR32 x1) ((¬ x1 = 0 → zC (zSm (M1 154 28) 16) (zC (zSm (M1 154 28) 16) (K 0 (zUp (zUp (zUp M1 166 (M1 154 28) z1) 167 (M1 154 28) 0) 154 28 ((M1 154 28) + 1))))) ∧ (¬ (¬ x1 = 0) → K 0 M1)))) := (zwp_blk (stops := [32, 41, 51, 72, 96, 124, 142, 172]) (fuel := 121) pe_180).trans rfl
theorem pe_181 : zPg 181 = pg_181 := rfl
/-! 181 LeastFailingModel.treeCloses -/
set_option maxHeartbeats 4000000 in
set_option maxRecDepth 100000 in
theorem me_181 {d : Nat} {K : Kt} {M : Mm} : zSp (d + 1) 181 [.inr (.inr 154)] M K = (zC (zSm ((M 154 28) - 1) 16) (zSp d 175 [.inr (.inr 154), .inl 322, .inl (M 166 ((M 154 28) - 1))] M (fun z1 M1 => zC (zSm ((M1 154 28) - 1) 16) (zSp d 172 [.inr (.inr 154), .inl z1] M1 (fun z2 M2 => zC (zR32 (M1 167 ((M1 154 28) - 1))) (zC (zR32 z2) ((z2 ≤ (M1 167 ((M1 154 28) - 1)) → zWp (zSp d) 181 K 47 [some (.inr (.inr 154)), some (.inl z1)] [] M2) ∧ (¬ (z2 ≤ (M1 167 ((M1 154 28) - 1))) → zSp d 149 [.inr (.inr 154)] M2 (fun z3 M3 => zSp d 144 [.inr (.inr 154), .inl 5, .inl z3] M3 (fun _ M4 => zWp (zSp d) 181 K 47 [some (.inr (.inr 154)), some (.inl z1)] [] M4)))))))))) := (zwp_blk (stops := [47]) (fuel := 63) pe_181).trans rfl
set_option maxHeartbeats 4000000 in
set_option maxRecDepth 100000 in
theorem fe_181_47 {d : Nat} {K : Kt} {M : Mm} {x1 : Int} : zWp (zSp d) 181 K 47 [some (.inr (.inr 154)), some (.inl x1)] [] M = (zSp d 153 [.inr (.inr 154), .inl 41] M (fun z1 M1 => zC (zR32 z1) ((¬ z1 = 0 → zC (zSm ((M1 154 28) - 1) 16) (zSp d 174 [.inr (.inr 154), .inl 322] (zUp M1 154 28 ((M1 154 28) - 1)) (fun z2 M2 => zC (zSm (M2 154 28) 16) (zC (zSm (403 + (M1 166 ((M1 154 28) - 1))) 2093) (K 0 (zUp M2 165 (403 + (M1 166 ((M1 154 28) - 1))) (z2 - (M2 166 (M2 154 28))))))))) ∧ (¬ (¬ z1 = 0) → K 0 M1)))) := (zwp_blk (stops := [47]) (fuel := 63) pe_181).trans rfl
theorem pe_182 : zPg 182 = pg_182 := rfl
/-! 182 LeastFailingModel.input -/
set_option maxHeartbeats 4000000 in
set_option maxRecDepth 100000 in
theorem me_182 {d : Nat} {K : Kt} {M : Mm} : zSp (d + 1) 182 [.inr (.inr 154)] M K = (zC (zR32 (M 156 192)) ((¬ (M 156 192) = 0 → zSp d 142 [.inr (.inr 154)] (zUp M 154 0 0) (fun _ M1 => zWp (zSp d) 182 K 42 [some (.inr (.inr 154))] [] (zUp (zUp M1 165 322 0) 154 28 0))) ∧ (¬ (¬ (M 156 192) = 0) → K (-3) (zUp (zUp M 154 0 0) 154 2 0)))) := (zwp_blk (stops := [42, 65, 69, 83, 101]) (fuel := 71) pe_182).trans rfl
set_option maxHeartbeats 4000000 in
set_option maxRecDepth 100000 in
theorem fe_182_42 {d : Nat} {K : Kt} {M : Mm} : zWp (zSp d) 182 K 42 [some (.inr (.inr 154))] [] M = (zC (zR32 (M 154 28)) (((M 154 28) ≤ 0 → zWp (zSp d) 182 K 65 [some (.inr (.inr 154))] [] M) ∧ (¬ ((M 154 28) ≤ 0) → zSp d 152 [.inr (.inr 154), .inl 41] M (fun z1 M1 => zC (zR32 z1) ((z1 = 0 → zWp (zSp d) 182 K 65 [some (.inr (.inr 154))] [] M1) ∧ (¬ (z1 = 0) → zSp d 181 [.inr (.inr 154)] M1 (fun _ M2 => zWp (zSp d) 182 K 69 [some (.inr (.inr 154))] [] M2))))))) := (zwp_blk (stops := [42, 65, 69, 83, 101]) (fuel := 71) pe_182).trans rfl
set_option maxHeartbeats 4000000 in
set_option maxRecDepth 100000 in
theorem fe_182_65 {d : Nat} {K : Kt} {M : Mm} : zWp (zSp d) 182 K 65 [some (.inr (.inr 154))] [] M = (zSp d 180 [.inr (.inr 154)] M (fun _ M1 => zWp (zSp d) 182 K 69 [some (.inr (.inr 154))] [] M1)) := (zwp_blk (stops := [42, 65, 69, 83, 101]) (fuel := 71) pe_182).trans rfl
set_option maxHeartbeats 4000000 in
set_option maxRecDepth 100000 in
theorem fe_182_69 {d : Nat} {K : Kt} {M : Mm} : zWp (zSp d) 182 K 69 [some (.inr (.inr 154))] [] M = (zSp d 143 [.inr (.inr 154)] M (fun z1 M1 => zC (zR32 z1) ((z1 = 0 → zWp (zSp d) 182 K 83 [some (.inr (.inr 154))] [] M1) ∧ (¬ (z1 = 0) → zC (zR32 (M1 154 28)) ((0 < (M1 154 28) → zWp (zSp d) 182 K 42 [some (.inr (.inr 154))] [] M1) ∧ (¬ (0 < (M1 154 28)) → zWp (zSp d) 182 K 83 [some (.inr (.inr 154))] [] M1)))))) := (zwp_blk (stops := [42, 65, 69, 83, 101]) (fuel := 71) pe_182).trans rfl
set_option maxHeartbeats 4000000 in
set_option maxRecDepth 100000 in
theorem fe_182_83 {d : Nat} {K : Kt} {M : Mm} : zWp (zSp d) 182 K 83 [some (.inr (.inr 154))] [] M = (zSp d 143 [.inr (.inr 154)] M (fun z1 M1 => zC (zR32 z1) ((z1 = 0 → zWp (zSp d) 182 K 101 [some (.inr (.inr 154))] [] M1) ∧ (¬ (z1 = 0) → zSp d 150 [.inr (.inr 154)] M1 (fun z2 M2 => zC (zR32 z2) ((¬ z2 = 0 → zWp (zSp d) 182 K 101 [some (.inr (.inr 154))] [] M2) ∧ (¬ (¬ z2 = 0) → zSp d 151 [.inr (.inr 154)] M2 (fun _ M3 => zWp (zSp d) 182 K 101 [some (.inr (.inr 154))] [] M3)))))))) := (zwp_blk (stops := [42, 65, 69, 83, 101]) (fuel := 71) pe_182).trans rfl
set_option maxHeartbeats 4000000 in
set_option maxRecDepth 100000 in
theorem fe_182_101 {d : Nat} {K : Kt} {M : Mm} : zWp (zSp d) 182 K 101 [some (.inr (.inr 154))] [] M = (zSp d 145 [.inr (.inr 154)] M (fun z1 M1 => zC (zR32 z1) ((¬ z1 = 0 → zSp d 183 [.inr (.inr 154)] M1 (fun _ M2 => zSp d 177 [.inr (.inr 154), .inl 0, .inl 322] M2 (fun _ M3 => zSp d 209 [.inr (.inr 154)] M3 (fun _ M4 => zSp d 174 [.inr (.inr 154), .inl 0] M4 (fun z5 M5 => K z5 M5))))) ∧ (¬ (¬ z1 = 0) → K (-1) M1)))) := (zwp_blk (stops := [42, 65, 69, 83, 101]) (fuel := 71) pe_182).trans rfl
theorem pe_183 : zPg 183 = pg_183 := rfl
/-! 183 LeastFailingModel.keeps -/
set_option maxHeartbeats 4000000 in
set_option maxRecDepth 100000 in
theorem me_183 {d : Nat} {K : Kt} {M : Mm} : zSp (d + 1) 183 [.inr (.inr 154)] M K = (zC (zR32 ((M 154 25) + 1)) (zC (zDv ((M 154 25) + 1) 10) (zC (zR32 (M 154 24)) ((¬ (M 154 24) = 10 → zWp (zSp d) 183 K 34 [some (.inr (.inr 154))] [.inl ((M 154 24) + 1), .inr (.inr 154)] (zUp M 154 25 (((M 154 25) + 1) % 10))) ∧ (¬ (¬ (M 154 24) = 10) → zWp (zSp d) 183 K 34 [some (.inr (.inr 154))] [.inl 10, .inr (.inr 154)] (zUp M 154 25 (((M 154 25) + 1) % 10))))))) := (zwp_blk (stops := [34]) (fuel := 35) pe_183).trans rfl
set_option maxHeartbeats 4000000 in
set_option maxRecDepth 100000 in
theorem fe_183_34 {d : Nat} {K : Kt} {M : Mm} {y1 : Int} : zWp (zSp d) 183 K 34 [some (.inr (.inr 154))] [.inl y1, .inr (.inr 154)] M = (zSp d 177 [.inr (.inr 154), .inl (483 + (161 * (M 154 25))), .inl 0] (zUp M 154 24 y1) (fun _ M1 => K 0 M1)) := (zwp_blk (stops := [34]) (fuel := 35) pe_183).trans rfl
theorem pe_184 : zPg 184 = pg_184 := rfl
/-! 184 LeastFailingModel.undo -/
set_option maxHeartbeats 4000000 in
set_option maxRecDepth 100000 in
theorem me_184 {d : Nat} {K : Kt} {M : Mm} : zSp (d + 1) 184 [.inr (.inr 154)] M K = (zC (zR32 (M 154 24)) ((¬ (M 154 24) = 0 → zSp d 177 [.inr (.inr 154), .inl 0, .inl (483 + (161 * (M 154 25)))] (zUp M 154 0 0) (fun _ M1 => zC (zR32 (((M1 154 25) + 10) - 1)) (zC (zDv (((M1 154 25) + 10) - 1) 10) (zSp d 209 [.inr (.inr 154)] (zUp (zUp M1 154 25 ((((M1 154 25) + 10) - 1) % 10)) 154 24 ((M1 154 24) - 1)) (fun _ M2 => K (M2 154 24) M2))))) ∧ (¬ (¬ (M 154 24) = 0) → K (-3) (zUp M 154 0 0)))) := (zwp_blk (stops := []) (fuel := 43) pe_184).trans rfl
theorem pe_185 : zPg 185 = pg_185 := rfl
/-! 185 LeastFailingModel.emits -/
set_option maxHeartbeats 4000000 in
set_option maxRecDepth 100000 in
theorem me_185 {d : Nat} {K : Kt} {M : Mm} {a1 a2 a3 a4 a5 : Int} : zSp (d + 1) 185 [.inr (.inr 154), .inl a1, .inl a2, .inl a3, .inl a4, .inl a5] M K = (zC (zSm (5 * (M 154 38)) 2000) (zC (zSm ((5 * (M 154 38)) + 1) 2000) (zC (zSm ((5 * (M 154 38)) + 2) 2000) (zC (zSm ((5 * (M 154 38)) + 3) 2000) (zC (zSm ((5 * (M 154 38)) + 4) 2000) (K 0 (zUp (zUp (zUp (zUp (zUp (zUp M 169 (5 * (M 154 38)) a1) 169 ((5 * (M 154 38)) + 1) a2) 169 ((5 * (M 154 38)) + 2) a3) 169 ((5 * (M 154 38)) + 3) a4) 169 ((5 * (M 154 38)) + 4) a5) 154 38 ((M 154 38) + 1)))))))) := (zwp_blk (stops := []) (fuel := 60) pe_185).trans rfl
theorem pe_186 : zPg 186 = pg_186 := rfl
/-! 186 LeastFailingModel.nameInTest -/
set_option maxHeartbeats 4000000 in
set_option maxRecDepth 100000 in
theorem me_186 {d : Nat} {K : Kt} {M : Mm} : zSp (d + 1) 186 [.inr (.inr 154)] M K = (zSp d 162 [.inr (.inr 154)] M (fun z1 M1 => zSp d 143 [.inr (.inr 154)] M1 (fun z2 M2 => zC (zR32 z2) ((z2 = 0 → zWp (zSp d) 186 K 21 [some (.inr (.inr 154)), some (.inr (.inl z1)), none, none] [.inl 0] M2) ∧ (¬ (z2 = 0) → zSp d 171 [.inr (.inr 154), .inr (.inl z1)] M2 (fun z3 M3 => zWp (zSp d) 186 K 21 [some (.inr (.inr 154)), some (.inr (.inl z1)), none, none] [.inl z3] M3)))))) := (zwp_blk (stops := [21]) (fuel := 30) pe_186).trans rfl
set_option maxHeartbeats 4000000 in
set_option maxRecDepth 100000 in
theorem fe_186_21 {d : Nat} {K : Kt} {M : Mm} {x1 y0 : Int} : zWp (zSp d) 186 K 21 [some (.inr (.inr 154)), some (.inr (.inl x1)), none, none] [.inl y0] M = (zSp d 143 [.inr (.inr 154)] M (fun z1 M1 => zC (zR32 z1) ((z1 = 0 → K y0 M1) ∧ (¬ (z1 = 0) → zC (zR32 y0) ((¬ y0 = (-1) → K y0 M1) ∧ (¬ (¬ y0 = (-1)) → zSp d 144 [.inr (.inr 154), .inl 3, .inl (M1 154 12)] M1 (fun _ M2 => K y0 M2))))))) := (zwp_blk (stops := [21]) (fuel := 30) pe_186).trans rfl
theorem pe_187 : zPg 187 = pg_187 := rfl
/-! 187 LeastFailingModel.countRead -/
set_option maxHeartbeats 4000000 in
set_option maxRecDepth 100000 in
theorem me_187 {d : Nat} {K : Kt} {M : Mm} : zSp (d + 1) 187 [.inr (.inr 154)] M K = (zSp d 155 [.inl 115, .inl 105, .inl 122, .inl 101, .inl 0, .inl 0] M (fun z1 M1 => zSp d 159 [.inr (.inr 154), .inr (.inl z1)] M1 (fun z2 M2 => zC (zR32 z2) ((z2 = 0 → zSp d 155 [.inl 100, .inl 101, .inl 101, .inl 112, .inl 0, .inl 0] M2 (fun z3 M3 => zSp d 159 [.inr (.inr 154), .inr (.inl z3)] M3 (fun z4 M4 => zC (zR32 z4) ((z4 = 0 → zSp d 155 [.inl 104, .inl 97, .inl 115, .inl 0, .inl 0, .inl 0] M4 (fun z5 M5 => zSp d 159 [.inr (.inr 154), .inr (.inl z5)] M5 (fun z6 M6 => zC (zR32 z6) ((z6 = 0 → zSp d 155 [.inl 117, .inl 110, .inl 100, .inl 101, .inl 114, .inl 0] M6 (fun z7 M7 => zSp d 159 [.inr (.inr 154), .inr (.inl z7)] M7 (fun z8 M8 => zC (zR32 z8) ((z8 = 0 → zSp d 155 [.inl 110, .inl 101, .inl 120, .inl 116, .inl 0, .inl 0] M8 (fun z9 M9 => zSp d 159 [.inr (.inr 154), .inr (.inl z9)] M9 (fun z10 M10 => zC (zR32 z10) ((z10 = 0 → zWp (zSp d) 187 K 121 [some (.inr (.inr 154)), none, none, none, none, none] [.inl (-1)] M10) ∧ (¬ (z10 = 0) → zWp (zSp d) 187 K 121 [some (.inr (.inr 154)), none, none, none, none, none] [.inl 4] M10))))) ∧ (¬ (z8 = 0) → zWp (zSp d) 187 K 121 [some (.inr (.inr 154)), none, none, none, none, none] [.inl 3] M8))))) ∧ (¬ (z6 = 0) → zWp (zSp d) 187 K 121 [some (.inr (.inr 154)), none, none, none, none, none] [.inl 2] M6))))) ∧ (¬ (z4 = 0) → zWp (zSp d) 187 K 121 [some (.inr (.inr 154)), none, none, none, none, none] [.inl 1] M4))))) ∧ (¬ (z2 = 0) → zWp (zSp d) 187 K 121 [some (.inr (.inr 154)), none, none, none, none, none] [.inl 0] M2))))) := (zwp_blk (stops := [121, 131, 150, 151, 171, 172, 224, 236]) (fuel := 148) pe_187).trans rfl
set_option maxHeartbeats 4000000 in
set_option maxRecDepth 100000 in
theorem fe_187_121 {d : Nat} {K : Kt} {M : Mm} {y0 : Int} : zWp (zSp d) 187 K 121 [some (.inr (.inr 154)), none, none, none, none, none] [.inl y0] M = (zC (zR32 y0) ((¬ y0 = (-1) → zWp (zSp d) 187 K 131 [some (.inr (.inr 154)), some (.inl y0), none, none, none, none] [] M) ∧ (¬ (¬ y0 = (-1)) → zSp d 151 [.inr (.inr 154)] M (fun _ M1 => zWp (zSp d) 187 K 131 [some (.inr (.inr 154)), some (.inl y0), none, none, none, none] [] M1)))) := (zwp_blk (stops := [121, 131, 150, 151, 171, 172, 224, 236]) (fuel := 148) pe_187).trans rfl
set_option maxHeartbeats 4000000 in
set_option maxRecDepth 100000 in
theorem fe_187_131 {d : Nat} {K : Kt} {M : Mm} {x1 : Int} : zWp (zSp d) 187 K 131 [some (.inr (.inr 154)), some (.inl x1), none, none, none, none] [] M = (zSp d 143 [.inr (.inr 154)] M (fun z1 M1 => zC (zR32 z1) ((z1 = 0 → zWp (zSp d) 187 K 150 [some (.inr (.inr 154)), some (.inl x1), none, none, none, none] [] M1) ∧ (¬ (z1 = 0) → zC (zR32 x1) ((x1 ≤ 1 → zWp (zSp d) 187 K 150 [some (.inr (.inr 154)), some (.inl x1), none, none, none, none] [] M1) ∧ (¬ (x1 ≤ 1) → zSp d 186 [.inr (.inr 154)] M1 (fun z2 M2 => zWp (zSp d) 187 K 151 [some (.inr (.inr 154)), some (.inl x1), none, none, none, none] [.inl z2] M2))))))) := (zwp_blk (stops := [121, 131, 150, 151, 171, 172, 224, 236]) (fuel := 148) pe_187).trans rfl
set_option maxHeartbeats 4000000 in
set_option maxRecDepth 100000 in
theorem fe_187_150 {d : Nat} {K : Kt} {M : Mm} {x1 : Int} : zWp (zSp d) 187 K 150 [some (.inr (.inr 154)), some (.inl x1), none, none, none, none] [] M = (zWp (zSp d) 187 K 151 [some (.inr (.inr 154)), some (.inl x1), none, none, none, none] [.inl 0] M) := (zwp_blk (stops := [121, 131, 150, 151, 171, 172, 224, 236]) (fuel := 148) pe_187).trans rfl
set_option maxHeartbeats 4000000 in
set_option maxRecDepth 100000 in
theorem fe_187_151 {d : Nat} {K : Kt} {M : Mm} {x1 y0 : Int} : zWp (zSp d) 187 K 151 [some (.inr (.inr 154)), some (.inl x1), none, none, none, none] [.inl y0] M = (zSp d 143 [.inr (.inr 154)] M (fun z1 M1 => zC (zR32 z1) ((z1 = 0 → zWp (zSp d) 187 K 171 [some (.inr (.inr 154)), some (.inl x1), some (.inl y0), none, none, none] [] M1) ∧ (¬ (z1 = 0) → zC (zR32 x1) ((x1 ≤ 2 → zWp (zSp d) 187 K 171 [some (.inr (.inr 154)), some (.inl x1), some (.inl y0), none, none, none] [] M1) ∧ (¬ (x1 ≤ 2) → zSp d 186 [.inr (.inr 154)] M1 (fun z2 M2 => zWp (zSp d) 187 K 172 [some (.inr (.inr 154)), some (.inl x1), some (.inl y0), none, none, none] [.inl z2] M2))))))) := (zwp_blk (stops := [121, 131, 150, 151, 171, 172, 224, 236]) (fuel := 148) pe_187).trans rfl
set_option maxHeartbeats 4000000 in
set_option maxRecDepth 100000 in
theorem fe_187_171 {d : Nat} {K : Kt} {M : Mm} {x1 x2 : Int} : zWp (zSp d) 187 K 171 [some (.inr (.inr 154)), some (.inl x1), some (.inl x2), none, none, none] [] M = (zWp (zSp d) 187 K 172 [some (.inr (.inr 154)), some (.inl x1), some (.inl x2), none, none, none] [.inl 0] M) := (zwp_blk (stops := [121, 131, 150, 151, 171, 172, 224, 236]) (fuel := 148) pe_187).trans rfl
set_option maxHeartbeats 4000000 in
set_option maxRecDepth 100000 in
theorem fe_187_172 {d : Nat} {K : Kt} {M : Mm} {x1 x2 y0 : Int} : zWp (zSp d) 187 K 172 [some (.inr (.inr 154)), some (.inl x1), some (.inl x2), none, none, none] [.inl y0] M = (zSp d 143 [.inr (.inr 154)] M (fun z1 M1 => zC (zR32 z1) ((¬ z1 = 0 → zSp d 152 [.inr (.inr 154), .inl 60] M1 (fun z2 M2 => zC (zR32 z2) ((z2 = 0 → zSp d 152 [.inr (.inr 154), .inl 62] M2 (fun z3 M3 => zC (zR32 z3) ((z3 = 0 → zSp d 152 [.inr (.inr 154), .inl 61] M3 (fun z4 M4 => zC (zR32 z4) ((z4 = 0 → zWp (zSp d) 187 K 224 [some (.inr (.inr 154)), some (.inl x1), some (.inl x2), some (.inl y0), none, none] [.inl 2] M4) ∧ (¬ (z4 = 0) → zWp (zSp d) 187 K 224 [some (.inr (.inr 154)), some (.inl x1), some (.inl x2), some (.inl y0), none, none] [.inl 0] M4)))) ∧ (¬ (z3 = 0) → zWp (zSp d) 187 K 224 [some (.inr (.inr 154)), some (.inl x1), some (.inl x2), some (.inl y0), none, none] [.inl 1] M3)))) ∧ (¬ (z2 = 0) → zWp (zSp d) 187 K 224 [some (.inr (.inr 154)), some (.inl x1), some (.inl x2), some (.inl y0), none, none] [.inl (-1)] M2)))) ∧ (¬ (¬ z1 = 0) → zWp (zSp d) 187 K 224 [some (.inr (.inr 154)), some (.inl x1), some (.inl x2), some (.inl y0), none, none] [.inl 0] M1)))) := (zwp_blk (stops := [121, 131, 150, 151, 171, 172, 224, 236]) (fuel := 148) pe_187).trans rfl
set_option maxHeartbeats 4000000 in
set_option maxRecDepth 100000 in
theorem fe_187_224 {d : Nat} {K : Kt} {M : Mm} {x1 x2 x3 y0 : Int} : zWp (zSp d) 187 K 224 [some (.inr (.inr 154)), some (.inl x1), some (.inl x2), some (.inl x3), none, none] [.inl y0] M = (zC (zR32 y0) ((¬ y0 = 2 → zWp (zSp d) 187 K 236 [some (.inr (.inr 154)), some (.inl x1), some (.inl x2), some (.inl x3), some (.inl y0), none] [] M) ∧ (¬ (¬ y0 = 2) → zSp d 151 [.inr (.inr 154)] M (fun _ M1 => zWp (zSp d) 187 K 236 [some (.inr (.inr 154)), some (.inl x1), some (.inl x2), some (.inl x3), some (.inl y0), none] [] M1)))) := (zwp_blk (stops := [121, 131, 150, 151, 171, 172, 224, 236]) (fuel := 148) pe_187).trans rfl
set_option maxHeartbeats 4000000 in
set_option maxRecDepth 100000 in
theorem fe_187_236 {d : Nat} {K : Kt} {M : Mm} {x1 x2 x3 x4 : Int} : zWp (zSp d) 187 K 236 [some (.inr (.inr 154)), some (.inl x1), some (.inl x2), some (.inl x3), some (.inl x4), none] [] M = (zSp d 143 [.inr (.inr 154)] M (fun z1 M1 => zC (zR32 z1) ((¬ z1 = 0 → zSp d 163 [.inr (.inr 154)] (zUp M1 154 4 ((M1 154 4) + 1)) (fun z2 M2 => zSp d 143 [.inr (.inr 154)] M2 (fun z3 M3 => zC (zR32 z3) ((z3 = 0 → K 0 M3) ∧ (¬ (z3 = 0) → zSp d 185 [.inr (.inr 154), .inl x1, .inl x2, .inl x3, .inl x4, .inl z2] M3 (fun _ M4 => K 0 M4)))))) ∧ (¬ (¬ z1 = 0) → K 0 M1)))) := (zwp_blk (stops := [121, 131, 150, 151, 171, 172, 224, 236]) (fuel := 148) pe_187).trans rfl
theorem pe_188 : zPg 188 = pg_188 := rfl
/-! 188 LeastFailingModel.piles -/
set_option maxHeartbeats 4000000 in
set_option maxRecDepth 100000 in
theorem me_188 {d : Nat} {K : Kt} {M : Mm} {a1 : Int} : zSp (d + 1) 188 [.inr (.inr 154), .inl a1] M K = (zC (zSm (M 154 40) 400) (K 0 (zUp (zUp M 176 (M 154 40) a1) 154 40 ((M 154 40) + 1)))) := (zwp_blk (stops := []) (fuel := 18) pe_188).trans rfl
theorem pe_189 : zPg 189 = pg_189 := rfl
/-! 189 LeastFailingModel.drops -/
set_option maxHeartbeats 4000000 in
set_option maxRecDepth 100000 in
theorem me_189 {d : Nat} {K : Kt} {M : Mm} {a1 a2 : Int} : zSp (d + 1) 189 [.inr (.inr 154), .inl a1, .inl a2] M K = (zWp (zSp d) 189 K 0 [some (.inr (.inr 154)), some (.inl a1), some (.inl a2)] [] M) := rfl
set_option maxHeartbeats 4000000 in
set_option maxRecDepth 100000 in
theorem fe_189_0 {d : Nat} {K : Kt} {M : Mm} {x1 x2 : Int} : zWp (zSp d) 189 K 0 [some (.inr (.inr 154)), some (.inl x1), some (.inl x2)] [] M = (zC (zR32 (M 154 40)) (((M 154 40) ≤ 0 → K 0 M) ∧ (¬ ((M 154 40) ≤ 0) → zC (zSm ((M 154 40) - 1) 400) (zC (zR32 (M 176 ((M 154 40) - 1))) (zC (zR32 x1) (((M 176 ((M 154 40) - 1)) < x1 → K 0 M) ∧ (¬ ((M 176 ((M 154 40) - 1)) < x1) → zC (zSm ((M 154 40) - 1) 400) (zC (zR32 (M 176 ((M 154 40) - 1))) (zC (zR32 x2) ((x2 < (M 176 ((M 154 40) - 1)) → K 0 M) ∧ (¬ (x2 < (M 176 ((M 154 40) - 1))) → zC (zSm ((M 154 40) - 1) 400) (zC (zR32 (M 176 ((M 154 40) - 1))) ((¬ (M 176 ((M 154 40) - 1)) = 10 → zWp (zSp d) 189 K 71 [some (.inr (.inr 154)), some (.inl x1), some (.inl x2)] [.inl 0, .inl (M 154 41), .inr (.inr 154)] (zUp M 154 40 ((M 154 40) - 1))) ∧ (¬ (¬ (M 176 ((M 154 40) - 1)) = 10) → zWp (zSp d) 189 K 71 [some (.inr (.inr 154)), some (.inl x1), some (.inl x2)] [.inl 1, .inl (M 154 41), .inr (.inr 154)] (zUp M 154 40 ((M 154 40) - 1)))))))))))))))) := (zwp_blk (stops := [0, 71]) (fuel := 61) pe_189).trans rfl
set_option maxHeartbeats 4000000 in
set_option maxRecDepth 100000 in
theorem fe_189_71 {d : Nat} {K : Kt} {M : Mm} {x1 x2 y1 y2 : Int} : zWp (zSp d) 189 K 71 [some (.inr (.inr 154)), some (.inl x1), some (.inl x2)] [.inl y2, .inl y1, .inr (.inr 154)] M = (zSp d 138 [.inl y2] M (fun z1 M1 => zC (zSm (M1 154 40) 400) (zSp d 185 [.inr (.inr 154), .inl (M1 176 (M1 154 40)), .inl 0, .inl 0, .inl 0, .inl 0] (zUp M1 154 41 (y1 - z1)) (fun _ M2 => zWp (zSp d) 189 K 0 [some (.inr (.inr 154)), some (.inl x1), some (.inl x2)] [] M2)))) := (zwp_blk (stops := [0, 71]) (fuel := 61) pe_189).trans rfl
theorem pe_190 : zPg 190 = pg_190 := rfl
/-! 190 LeastFailingModel.factBegins -/
set_option maxHeartbeats 4000000 in
set_option maxRecDepth 100000 in
theorem me_190 {d : Nat} {K : Kt} {M : Mm} : zSp (d + 1) 190 [.inr (.inr 154)] M K = (zSp d 155 [.inl 110, .inl 111, .inl 116, .inl 0, .inl 0, .inl 0] M (fun z1 M1 => zSp d 157 [.inr (.inr 154), .inr (.inl z1)] M1 (fun z2 M2 => zC (zR32 z2) ((¬ z2 = 0 → zWp (zSp d) 190 K 36 [some (.inr (.inr 154)), some (.inl z2)] [] M2) ∧ (¬ (¬ z2 = 0) → zSp d 152 [.inr (.inr 154), .inl 91] M2 (fun z3 M3 => zC (zR32 z3) ((¬ z3 = 0 → zWp (zSp d) 190 K 36 [some (.inr (.inr 154)), some (.inl z2)] [] M3) ∧ (¬ (¬ z3 = 0) → zSp d 187 [.inr (.inr 154)] M3 (fun _ M4 => K 1 M4))))))))) := (zwp_blk (stops := [36, 54, 84, 106]) (fuel := 65) pe_190).trans rfl
set_option maxHeartbeats 4000000 in
set_option maxRecDepth 100000 in
theorem fe_190_36 {d : Nat} {K : Kt} {M : Mm} {x1 : Int} : zWp (zSp d) 190 K 36 [some (.inr (.inr 154)), some (.inl x1)] [] M = (zC (zR32 (M 154 41)) ((¬ (M 154 41) = 6 → zWp (zSp d) 190 K 54 [some (.inr (.inr 154)), some (.inl x1)] [] M) ∧ (¬ (¬ (M 154 41) = 6) → zSp d 149 [.inr (.inr 154)] M (fun z1 M1 => zSp d 144 [.inr (.inr 154), .inl 4, .inl z1] M1 (fun _ M2 => zWp (zSp d) 190 K 54 [some (.inr (.inr 154)), some (.inl x1)] [] M2))))) := (zwp_blk (stops := [36, 54, 84, 106]) (fuel := 65) pe_190).trans rfl
set_option maxHeartbeats 4000000 in
set_option maxRecDepth 100000 in
theorem fe_190_54 {d : Nat} {K : Kt} {M : Mm} {x1 : Int} : zWp (zSp d) 190 K 54 [some (.inr (.inr 154)), some (.inl x1)] [] M = (zSp d 143 [.inr (.inr 154)] M (fun z1 M1 => zC (zR32 z1) ((¬ z1 = 0 → zC (zR32 x1) ((x1 = 0 → zWp (zSp d) 190 K 84 [some (.inr (.inr 154)), some (.inl x1)] [] (zUp M1 154 4 ((M1 154 4) + 1))) ∧ (¬ (x1 = 0) → zSp d 158 [.inr (.inr 154)] M1 (fun _ M2 => zWp (zSp d) 190 K 84 [some (.inr (.inr 154)), some (.inl x1)] [] M2)))) ∧ (¬ (¬ z1 = 0) → K 1 M1)))) := (zwp_blk (stops := [36, 54, 84, 106]) (fuel := 65) pe_190).trans rfl
set_option maxHeartbeats 4000000 in
set_option maxRecDepth 100000 in
theorem fe_190_84 {d : Nat} {K : Kt} {M : Mm} {x1 : Int} : zWp (zSp d) 190 K 84 [some (.inr (.inr 154)), some (.inl x1)] [] M = (zC (zR32 x1) ((x1 = 0 → zWp (zSp d) 190 K 106 [some (.inr (.inr 154)), some (.inl x1)] [.inl 13, .inr (.inr 154)] (zUp M 154 41 ((M 154 41) + 1))) ∧ (¬ (x1 = 0) → zWp (zSp d) 190 K 106 [some (.inr (.inr 154)), some (.inl x1)] [.inl 10, .inr (.inr 154)] (zUp M 154 41 ((M 154 41) + 1))))) := (zwp_blk (stops := [36, 54, 84, 106]) (fuel := 65) pe_190).trans rfl
set_option maxHeartbeats 4000000 in
set_option maxRecDepth 100000 in
theorem fe_190_106 {d : Nat} {K : Kt} {M : Mm} {x1 y1 : Int} : zWp (zSp d) 190 K 106 [some (.inr (.inr 154)), some (.inl x1)] [.inl y1, .inr (.inr 154)] M = (zSp d 188 [.inr (.inr 154), .inl y1] M (fun _ M1 => K 0 M1)) := (zwp_blk (stops := [36, 54, 84, 106]) (fuel := 65) pe_190).trans rfl
theorem pe_191 : zPg 191 = pg_191 := rfl
/-! 191 LeastFailingModel.factGoesOn -/
set_option maxHeartbeats 4000000 in
set_option maxRecDepth 100000 in
theorem me_191 {d : Nat} {K : Kt} {M : Mm} : zSp (d + 1) 191 [.inr (.inr 154)] M K = (zSp d 189 [.inr (.inr 154), .inl 10, .inl 10] M (fun _ M1 => zSp d 155 [.inl 97, .inl 110, .inl 100, .inl 0, .inl 0, .inl 0] M1 (fun z2 M2 => zSp d 159 [.inr (.inr 154), .inr (.inl z2)] M2 (fun z3 M3 => zC (zR32 z3) ((z3 = 0 → zSp d 189 [.inr (.inr 154), .inl 11, .inl 11] M3 (fun _ M4 => zSp d 155 [.inl 111, .inl 114, .inl 0, .inl 0, .inl 0, .inl 0] M4 (fun z5 M5 => zSp d 159 [.inr (.inr 154), .inr (.inl z5)] M5 (fun z6 M6 => zC (zR32 z6) ((z6 = 0 → zSp d 189 [.inr (.inr 154), .inl 12, .inl 12] M6 (fun _ M7 => K 0 M7)) ∧ (¬ (z6 = 0) → zSp d 189 [.inr (.inr 154), .inl 12, .inl 12] M6 (fun _ M8 => zSp d 188 [.inr (.inr 154), .inl 12] M8 (fun _ M9 => K 1 M9)))))))) ∧ (¬ (z3 = 0) → zSp d 189 [.inr (.inr 154), .inl 11, .inl 11] M3 (fun _ M10 => zSp d 188 [.inr (.inr 154), .inl 11] M10 (fun _ M11 => K 1 M11)))))))) := (zwp_blk (stops := []) (fuel := 57) pe_191).trans rfl
theorem pe_192 : zPg 192 = pg_192 := rfl
/-! 192 LeastFailingModel.testRead -/
set_option maxHeartbeats 4000000 in
set_option maxRecDepth 100000 in
theorem me_192 {d : Nat} {K : Kt} {M : Mm} : zSp (d + 1) 192 [.inr (.inr 154)] M K = (zWp (zSp d) 192 K 12 [some (.inr (.inr 154)), some (.inl 1)] [] (zUp (zUp M 154 40 0) 154 41 0)) := (zwp_blk (stops := [12, 30, 46]) (fuel := 63) pe_192).trans rfl
set_option maxHeartbeats 4000000 in
set_option maxRecDepth 100000 in
theorem fe_192_12 {d : Nat} {K : Kt} {M : Mm} {x1 : Int} : zWp (zSp d) 192 K 12 [some (.inr (.inr 154)), some (.inl x1)] [] M = (zSp d 143 [.inr (.inr 154)] M (fun z1 M1 => zC (zR32 z1) ((z1 = 0 → K 0 M1) ∧ (¬ (z1 = 0) → zC (zR32 x1) ((¬ x1 = 0 → zWp (zSp d) 192 K 30 [some (.inr (.inr 154)), some (.inl x1)] [] M1) ∧ (¬ (¬ x1 = 0) → zC (zR32 (M1 154 40)) (((M1 154 40) ≤ 0 → K 0 M1) ∧ (¬ ((M1 154 40) ≤ 0) → zWp (zSp d) 192 K 30 [some (.inr (.inr 154)), some (.inl x1)] [] M1)))))))) := (zwp_blk (stops := [12, 30, 46]) (fuel := 63) pe_192).trans rfl
set_option maxHeartbeats 4000000 in
set_option maxRecDepth 100000 in
theorem fe_192_30 {d : Nat} {K : Kt} {M : Mm} {x1 : Int} : zWp (zSp d) 192 K 30 [some (.inr (.inr 154)), some (.inl x1)] [] M = (zC (zR32 x1) ((x1 = 0 → zSp d 154 [.inr (.inr 154), .inl 93] M (fun _ M1 => zSp d 143 [.inr (.inr 154)] M1 (fun z2 M2 => zC (zR32 z2) ((¬ z2 = 0 → zSp d 191 [.inr (.inr 154)] (zUp (zUp M2 154 40 ((M2 154 40) - 1)) 154 41 ((M2 154 41) - 1)) (fun z3 M3 => zWp (zSp d) 192 K 12 [some (.inr (.inr 154)), some (.inl z3)] [] M3)) ∧ (¬ (¬ z2 = 0) → K 0 M2))))) ∧ (¬ (x1 = 0) → zSp d 190 [.inr (.inr 154)] M (fun z4 M4 => zC (zR32 z4) ((¬ z4 = 0 → zWp (zSp d) 192 K 46 [some (.inr (.inr 154)), some (.inl x1)] [.inl 0] M4) ∧ (¬ (¬ z4 = 0) → zWp (zSp d) 192 K 46 [some (.inr (.inr 154)), some (.inl x1)] [.inl 1] M4)))))) := (zwp_blk (stops := [12, 30, 46]) (fuel := 63) pe_192).trans rfl
set_option maxHeartbeats 4000000 in
set_option maxRecDepth 100000 in
theorem fe_192_46 {d : Nat} {K : Kt} {M : Mm} {x1 y0 : Int} : zWp (zSp d) 192 K 46 [some (.inr (.inr 154)), some (.inl x1)] [.inl y0] M = (zC (zR32 y0) ((¬ y0 = 0 → zWp (zSp d) 192 K 12 [some (.inr (.inr 154)), some (.inl y0)] [] M) ∧ (¬ (¬ y0 = 0) → zSp d 143 [.inr (.inr 154)] M (fun z1 M1 => zC (zR32 z1) ((z1 = 0 → zWp (zSp d) 192 K 12 [some (.inr (.inr 154)), some (.inl y0)] [] M1) ∧ (¬ (z1 = 0) → zSp d 191 [.inr (.inr 154)] M1 (fun z2 M2 => zWp (zSp d) 192 K 12 [some (.inr (.inr 154)), some (.inl z2)] [] M2))))))) := (zwp_blk (stops := [12, 30, 46]) (fuel := 63) pe_192).trans rfl
theorem pe_193 : zPg 193 = pg_193 := rfl
/-! 193 LeastFailingModel.bugs -/
set_option maxHeartbeats 4000000 in
set_option maxRecDepth 100000 in
theorem me_193 {d : Nat} {K : Kt} {M : Mm} : zSp (d + 1) 193 [.inr (.inr 154)] M K = (zC (zR32 (M 156 192)) ((¬ (M 156 192) = 0 → zSp d 142 [.inr (.inr 154)] (zUp M 154 0 0) (fun _ M1 => zWp (zSp d) 193 K 35 [some (.inr (.inr 154)), some (.inl 0), none] [] (zUp M1 154 38 0))) ∧ (¬ (¬ (M 156 192) = 0) → K (-3) (zUp (zUp M 154 0 0) 154 2 0)))) := (zwp_blk (stops := [35, 90, 115, 136, 166, 191]) (fuel := 137) pe_193).trans rfl
set_option maxHeartbeats 4000000 in
set_option maxRecDepth 100000 in
theorem fe_193_35 {d : Nat} {K : Kt} {M : Mm} {x1 : Int} : zWp (zSp d) 193 K 35 [some (.inr (.inr 154)), some (.inl x1), none] [] M = (zSp d 143 [.inr (.inr 154)] M (fun z1 M1 => zC (zR32 z1) ((z1 = 0 → zWp (zSp d) 193 K 115 [some (.inr (.inr 154)), some (.inl x1), none] [] M1) ∧ (¬ (z1 = 0) → zSp d 150 [.inr (.inr 154)] M1 (fun z2 M2 => zC (zR32 z2) ((¬ z2 = 0 → zWp (zSp d) 193 K 115 [some (.inr (.inr 154)), some (.inl x1), none] [] M2) ∧ (¬ (¬ z2 = 0) → zSp d 155 [.inl 98, .inl 117, .inl 103, .inl 0, .inl 0, .inl 0] M2 (fun z3 M3 => zSp d 157 [.inr (.inr 154), .inr (.inl z3)] M3 (fun z4 M4 => zC (zR32 z4) ((¬ z4 = 0 → zC (zR32 x1) ((¬ x1 = 6 → zWp (zSp d) 193 K 90 [some (.inr (.inr 154)), some (.inl x1), none] [] M4) ∧ (¬ (¬ x1 = 6) → zSp d 149 [.inr (.inr 154)] M4 (fun z5 M5 => zSp d 144 [.inr (.inr 154), .inl 4, .inl z5] M5 (fun _ M6 => zWp (zSp d) 193 K 90 [some (.inr (.inr 154)), some (.inl x1), none] [] M6))))) ∧ (¬ (¬ z4 = 0) → zSp d 151 [.inr (.inr 154)] M4 (fun _ M7 => zWp (zSp d) 193 K 90 [some (.inr (.inr 154)), some (.inl x1), none] [] M7)))))))))))) := (zwp_blk (stops := [35, 90, 115, 136, 166, 191]) (fuel := 137) pe_193).trans rfl
set_option maxHeartbeats 4000000 in
set_option maxRecDepth 100000 in
theorem fe_193_90 {d : Nat} {K : Kt} {M : Mm} {x1 : Int} : zWp (zSp d) 193 K 90 [some (.inr (.inr 154)), some (.inl x1), none] [] M = (zSp d 143 [.inr (.inr 154)] M (fun z1 M1 => zC (zR32 z1) ((¬ z1 = 0 → zSp d 158 [.inr (.inr 154)] M1 (fun _ M2 => zSp d 194 [.inr (.inr 154), .inl x1] M2 (fun _ M3 => zWp (zSp d) 193 K 35 [some (.inr (.inr 154)), some (.inl (x1 + 1)), none] [] M3))) ∧ (¬ (¬ z1 = 0) → zWp (zSp d) 193 K 115 [some (.inr (.inr 154)), some (.inl x1), none] [] M1)))) := (zwp_blk (stops := [35, 90, 115, 136, 166, 191]) (fuel := 137) pe_193).trans rfl
set_option maxHeartbeats 4000000 in
set_option maxRecDepth 100000 in
theorem fe_193_115 {d : Nat} {K : Kt} {M : Mm} {x1 : Int} : zWp (zSp d) 193 K 115 [some (.inr (.inr 154)), some (.inl x1), none] [] M = (zSp d 145 [.inr (.inr 154)] M (fun z1 M1 => zC (zR32 z1) ((¬ z1 = 0 → zC (zSm x1 7) (zWp (zSp d) 193 K 136 [some (.inr (.inr 154)), some (.inl x1), some (.inl 0)] [] (zUp M1 171 x1 (M1 154 38)))) ∧ (¬ (¬ z1 = 0) → K (-1) M1)))) := (zwp_blk (stops := [35, 90, 115, 136, 166, 191]) (fuel := 137) pe_193).trans rfl
set_option maxHeartbeats 4000000 in
set_option maxRecDepth 100000 in
theorem fe_193_136 {d : Nat} {K : Kt} {M : Mm} {x1 x2 : Int} : zWp (zSp d) 193 K 136 [some (.inr (.inr 154)), some (.inl x1), some (.inl x2)] [] M = (zC (zR32 x2) (zC (zR32 (5 * (M 154 38))) (((5 * (M 154 38)) ≤ x2 → zWp (zSp d) 193 K 166 [some (.inr (.inr 154)), some (.inl x1), some (.inl 0)] [] M) ∧ (¬ ((5 * (M 154 38)) ≤ x2) → zC (zSm x2 2000) (zC (zSm x2 2000) (zWp (zSp d) 193 K 136 [some (.inr (.inr 154)), some (.inl x1), some (.inl (x2 + 1))] [] (zUp M 168 x2 (M 169 x2)))))))) := (zwp_blk (stops := [35, 90, 115, 136, 166, 191]) (fuel := 137) pe_193).trans rfl
set_option maxHeartbeats 4000000 in
set_option maxRecDepth 100000 in
theorem fe_193_166 {d : Nat} {K : Kt} {M : Mm} {x1 x2 : Int} : zWp (zSp d) 193 K 166 [some (.inr (.inr 154)), some (.inl x1), some (.inl x2)] [] M = (zC (zR32 x2) (zC (zR32 x1) ((x1 < x2 → zWp (zSp d) 193 K 191 [some (.inr (.inr 154)), some (.inl x1), some (.inl 0)] [] M) ∧ (¬ (x1 < x2) → zC (zSm x2 7) (zC (zSm x2 7) (zWp (zSp d) 193 K 166 [some (.inr (.inr 154)), some (.inl x1), some (.inl (x2 + 1))] [] (zUp M 170 x2 (M 171 x2)))))))) := (zwp_blk (stops := [35, 90, 115, 136, 166, 191]) (fuel := 137) pe_193).trans rfl
set_option maxHeartbeats 4000000 in
set_option maxRecDepth 100000 in
theorem fe_193_191 {d : Nat} {K : Kt} {M : Mm} {x1 x2 : Int} : zWp (zSp d) 193 K 191 [some (.inr (.inr 154)), some (.inl x1), some (.inl x2)] [] M = (zC (zR32 x2) (zC (zR32 x1) ((x1 ≤ x2 → zSp d 209 [.inr (.inr 154)] (zUp M 154 37 x1) (fun _ M1 => K x1 M1)) ∧ (¬ (x1 ≤ x2) → zC (zSm x2 6) (zC (zSm x2 6) (zC (zSm x2 6) (zC (zSm x2 6) (zWp (zSp d) 193 K 191 [some (.inr (.inr 154)), some (.inl x1), some (.inl (x2 + 1))] [] (zUp (zUp M 172 x2 (M 173 x2)) 174 x2 (M 175 x2)))))))))) := (zwp_blk (stops := [35, 90, 115, 136, 166, 191]) (fuel := 137) pe_193).trans rfl
theorem pe_194 : zPg 194 = pg_194 := rfl
/-! 194 LeastFailingModel.bugRead -/
set_option maxHeartbeats 4000000 in
set_option maxRecDepth 100000 in
theorem me_194 {d : Nat} {K : Kt} {M : Mm} {a1 : Int} : zSp (d + 1) 194 [.inr (.inr 154), .inl a1] M K = (zSp d 162 [.inr (.inr 154)] M (fun z1 M1 => zWp (zSp d) 194 K 8 [some (.inr (.inr 154)), some (.inl a1), some (.inr (.inl z1)), none, some (.inl 0)] [] M1)) := (zwp_blk (stops := [8, 48, 79, 94, 125, 156]) (fuel := 108) pe_194).trans rfl
set_option maxHeartbeats 4000000 in
set_option maxRecDepth 100000 in
theorem fe_194_8 {d : Nat} {K : Kt} {M : Mm} {x1 x2 x4 : Int} : zWp (zSp d) 194 K 8 [some (.inr (.inr 154)), some (.inl x1), some (.inr (.inl x2)), none, some (.inl x4)] [] M = (zC (zR32 x4) (zC (zR32 x1) ((x1 ≤ x4 → zWp (zSp d) 194 K 48 [some (.inr (.inr 154)), some (.inl x1), some (.inr (.inl x2)), none, some (.inl x4)] [] M) ∧ (¬ (x1 ≤ x4) → zSp d 143 [.inr (.inr 154)] M (fun z1 M1 => zC (zR32 z1) ((z1 = 0 → zWp (zSp d) 194 K 48 [some (.inr (.inr 154)), some (.inl x1), some (.inr (.inl x2)), none, some (.inl x4)] [] M1) ∧ (¬ (z1 = 0) → zC (zSm x4 6) (zC (zR64 (M1 175 x4)) (zC (zR64 x2) (zC (zR32 (zLcmp (M1 175 x4) x2)) ((¬ (zLcmp (M1 175 x4) x2) = 0 → zWp (zSp d) 194 K 8 [some (.inr (.inr 154)), some (.inl x1), some (.inr (.inl x2)), none, some (.inl (x4 + 1))] [] M1) ∧ (¬ (¬ (zLcmp (M1 175 x4) x2) = 0) → zSp d 144 [.inr (.inr 154), .inl 3, .inl (M1 154 12)] M1 (fun _ M2 => zWp (zSp d) 194 K 8 [some (.inr (.inr 154)), some (.inl x1), some (.inr (.inl x2)), none, some (.inl (x4 + 1))] [] M2))))))))))))) := (zwp_blk (stops := [8, 48, 79, 94, 125, 156]) (fuel := 108) pe_194).trans rfl
set_option maxHeartbeats 4000000 in
set_option maxRecDepth 100000 in
theorem fe_194_48 {d : Nat} {K : Kt} {M : Mm} {x1 x2 x4 : Int} : zWp (zSp d) 194 K 48 [some (.inr (.inr 154)), some (.inl x1), some (.inr (.inl x2)), none, some (.inl x4)] [] M = (zSp d 143 [.inr (.inr 154)] M (fun z1 M1 => zC (zR32 z1) ((z1 = 0 → zWp (zSp d) 194 K 79 [some (.inr (.inr 154)), some (.inl x1), some (.inr (.inl x2)), none, some (.inl x4)] [] M1) ∧ (¬ (z1 = 0) → zSp d 155 [.inl 111, .inl 100, .inl 100, .inl 115, .inl 0, .inl 0] M1 (fun z2 M2 => zSp d 159 [.inr (.inr 154), .inr (.inl z2)] M2 (fun z3 M3 => zC (zR32 z3) ((¬ z3 = 0 → zWp (zSp d) 194 K 79 [some (.inr (.inr 154)), some (.inl x1), some (.inr (.inl x2)), none, some (.inl x4)] [] M3) ∧ (¬ (¬ z3 = 0) → zSp d 151 [.inr (.inr 154)] M3 (fun _ M4 => zWp (zSp d) 194 K 79 [some (.inr (.inr 154)), some (.inl x1), some (.inr (.inl x2)), none, some (.inl x4)] [] M4))))))))) := (zwp_blk (stops := [8, 48, 79, 94, 125, 156]) (fuel := 108) pe_194).trans rfl
set_option maxHeartbeats 4000000 in
set_option maxRecDepth 100000 in
theorem fe_194_79 {d : Nat} {K : Kt} {M : Mm} {x1 x2 x4 : Int} : zWp (zSp d) 194 K 79 [some (.inr (.inr 154)), some (.inl x1), some (.inr (.inl x2)), none, some (.inl x4)] [] M = (zSp d 143 [.inr (.inr 154)] M (fun z1 M1 => zC (zR32 z1) ((z1 = 0 → zWp (zSp d) 194 K 94 [some (.inr (.inr 154)), some (.inl x1), some (.inr (.inl x2)), none, some (.inl x4)] [.inl 0] M1) ∧ (¬ (z1 = 0) → zSp d 163 [.inr (.inr 154)] M1 (fun z2 M2 => zWp (zSp d) 194 K 94 [some (.inr (.inr 154)), some (.inl x1), some (.inr (.inl x2)), none, some (.inl x4)] [.inl z2] M2))))) := (zwp_blk (stops := [8, 48, 79, 94, 125, 156]) (fuel := 108) pe_194).trans rfl
set_option maxHeartbeats 4000000 in
set_option maxRecDepth 100000 in
theorem fe_194_94 {d : Nat} {K : Kt} {M : Mm} {x1 x2 x4 y0 : Int} : zWp (zSp d) 194 K 94 [some (.inr (.inr 154)), some (.inl x1), some (.inr (.inl x2)), none, some (.inl x4)] [.inl y0] M = (zSp d 143 [.inr (.inr 154)] M (fun z1 M1 => zC (zR32 z1) ((z1 = 0 → zWp (zSp d) 194 K 125 [some (.inr (.inr 154)), some (.inl x1), some (.inr (.inl x2)), none, some (.inl y0)] [] M1) ∧ (¬ (z1 = 0) → zC (zR32 y0) (zSp d 137 [.inr (.inl y0), .inr (.inl 1), .inr (.inl 100)] M1 (fun z2 M2 => zC (zR32 z2) ((¬ z2 = 0 → zWp (zSp d) 194 K 125 [some (.inr (.inr 154)), some (.inl x1), some (.inr (.inl x2)), none, some (.inl y0)] [] M2) ∧ (¬ (¬ z2 = 0) → zSp d 144 [.inr (.inr 154), .inl 2, .inl (M2 154 13)] M2 (fun _ M3 => zWp (zSp d) 194 K 125 [some (.inr (.inr 154)), some (.inl x1), some (.inr (.inl x2)), none, some (.inl y0)] [] M3))))))))) := (zwp_blk (stops := [8, 48, 79, 94, 125, 156]) (fuel := 108) pe_194).trans rfl
set_option maxHeartbeats 4000000 in
set_option maxRecDepth 100000 in
theorem fe_194_125 {d : Nat} {K : Kt} {M : Mm} {x1 x2 x4 : Int} : zWp (zSp d) 194 K 125 [some (.inr (.inr 154)), some (.inl x1), some (.inr (.inl x2)), none, some (.inl x4)] [] M = (zSp d 143 [.inr (.inr 154)] M (fun z1 M1 => zC (zR32 z1) ((z1 = 0 → zWp (zSp d) 194 K 156 [some (.inr (.inr 154)), some (.inl x1), some (.inr (.inl x2)), none, some (.inl x4)] [] M1) ∧ (¬ (z1 = 0) → zSp d 155 [.inl 119, .inl 104, .inl 101, .inl 110, .inl 0, .inl 0] M1 (fun z2 M2 => zSp d 159 [.inr (.inr 154), .inr (.inl z2)] M2 (fun z3 M3 => zC (zR32 z3) ((¬ z3 = 0 → zWp (zSp d) 194 K 156 [some (.inr (.inr 154)), some (.inl x1), some (.inr (.inl x2)), none, some (.inl x4)] [] M3) ∧ (¬ (¬ z3 = 0) → zSp d 151 [.inr (.inr 154)] M3 (fun _ M4 => zWp (zSp d) 194 K 156 [some (.inr (.inr 154)), some (.inl x1), some (.inr (.inl x2)), none, some (.inl x4)] [] M4))))))))) := (zwp_blk (stops := [8, 48, 79, 94, 125, 156]) (fuel := 108) pe_194).trans rfl
set_option maxHeartbeats 4000000 in
set_option maxRecDepth 100000 in
theorem fe_194_156 {d : Nat} {K : Kt} {M : Mm} {x1 x2 x4 : Int} : zWp (zSp d) 194 K 156 [some (.inr (.inr 154)), some (.inl x1), some (.inr (.inl x2)), none, some (.inl x4)] [] M = (zSp d 143 [.inr (.inr 154)] M (fun z1 M1 => zC (zR32 z1) ((¬ z1 = 0 → zC (zSm x1 6) (zC (zSm x1 6) (zC (zSm x1 7) (zSp d 192 [.inr (.inr 154)] (zUp (zUp (zUp M1 175 x1 x2) 173 x1 x4) 171 x1 (M1 154 38)) (fun _ M2 => zSp d 154 [.inr (.inr 154), .inl 59] M2 (fun _ M3 => K 0 M3)))))) ∧ (¬ (¬ z1 = 0) → K 0 M1)))) := (zwp_blk (stops := [8, 48, 79, 94, 125, 156]) (fuel := 108) pe_194).trans rfl
theorem pe_195 : zPg 195 = pg_195 := rfl
/-! 195 LeastFailingModel.fault -/
set_option maxHeartbeats 4000000 in
set_option maxRecDepth 100000 in
theorem me_195 {d : Nat} {K : Kt} {M : Mm} {a1 : Int} : zSp (d + 1) 195 [.inr (.inr 154), .inl a1] M K = (zC (zR32 a1) ((¬ a1 = 0 → zC (zR32 a1) ((¬ a1 = 1 → K (-1) (zUp M 154 0 0)) ∧ (¬ (¬ a1 = 1) → K (M 154 9) (zUp M 154 0 0)))) ∧ (¬ (¬ a1 = 0) → K (M 154 8) (zUp M 154 0 0)))) := (zwp_blk (stops := []) (fuel := 21) pe_195).trans rfl
theorem pe_196 : zPg 196 = pg_196 := rfl
/-! 196 LeastFailingModel.lays -/
set_option maxHeartbeats 4000000 in
set_option maxRecDepth 100000 in
theorem me_196 {d : Nat} {K : Kt} {M : Mm} {a1 : Int} : zSp (d + 1) 196 [.inr (.inr 154), .inl a1] M K = (zWp (zSp d) 196 K 7 [some (.inr (.inr 154)), some (.inl a1), some (.inl 0), none, none, none] [] (zUp M 154 46 0)) := (zwp_blk (stops := [7, 48, 63, 128]) (fuel := 113) pe_196).trans rfl
set_option maxHeartbeats 4000000 in
set_option maxRecDepth 100000 in
theorem fe_196_7 {d : Nat} {K : Kt} {M : Mm} {x1 x2 : Int} {u3 u4 u5 : Option Vl} : zWp (zSp d) 196 K 7 [some (.inr (.inr 154)), some (.inl x1), some (.inl x2), u3, u4, u5] [] M = (zSp d 174 [.inr (.inr 154), .inl x1] M (fun z1 M1 => zC (zR32 x2) (zC (zR32 z1) ((z1 ≤ x2 → K 0 M1) ∧ (¬ (z1 ≤ x2) → zC (zR32 x2) ((¬ x2 = 0 → zWp (zSp d) 196 K 48 [some (.inr (.inr 154)), some (.inl x1), some (.inl x2), u3, u4, u5] [] M1) ∧ (¬ (¬ x2 = 0) → zWp (zSp d) 196 K 48 [some (.inr (.inr 154)), some (.inl x1), some (.inl x2), u3, u4, u5] [] (zUp (zUp (zUp (zUp M1 177 0 (-1)) 178 0 0) 179 0 (-1)) 180 0 0)))))))) := (zwp_blk (stops := [7, 48, 63, 128]) (fuel := 113) pe_196).trans rfl
set_option maxHeartbeats 4000000 in
set_option maxRecDepth 100000 in
theorem fe_196_48 {d : Nat} {K : Kt} {M : Mm} {x1 x2 : Int} {u3 u4 u5 : Option Vl} : zWp (zSp d) 196 K 48 [some (.inr (.inr 154)), some (.inl x1), some (.inl x2), u3, u4, u5] [] M = (zSp d 175 [.inr (.inr 154), .inl x1, .inl x2] M (fun z1 M1 => zWp (zSp d) 196 K 63 [some (.inr (.inr 154)), some (.inl x1), some (.inl x2), some (.inl 0), some (.inl z1), some (.inl (x2 + 1))] [] M1)) := (zwp_blk (stops := [7, 48, 63, 128]) (fuel := 113) pe_196).trans rfl
set_option maxHeartbeats 4000000 in
set_option maxRecDepth 100000 in
theorem fe_196_63 {d : Nat} {K : Kt} {M : Mm} {x1 x2 x3 x4 x5 : Int} : zWp (zSp d) 196 K 63 [some (.inr (.inr 154)), some (.inl x1), some (.inl x2), some (.inl x3), some (.inl x4), some (.inl x5)] [] M = (zSp d 176 [.inr (.inr 154), .inl x1, .inl x2] M (fun z1 M1 => zC (zR32 x5) (zC (zR32 (x2 + z1)) (((x2 + z1) ≤ x5 → zC (zSm x2 80) (zC (zR32 (M1 178 x2)) (zC (zR32 (M1 154 46)) (((M1 178 x2) ≤ (M1 154 46) → zWp (zSp d) 196 K 7 [some (.inr (.inr 154)), some (.inl x1), some (.inl (x2 + 1)), some (.inl x3), some (.inl x4), some (.inl x5)] [] M1) ∧ (¬ ((M1 178 x2) ≤ (M1 154 46)) → zC (zSm x2 80) (zWp (zSp d) 196 K 7 [some (.inr (.inr 154)), some (.inl x1), some (.inl (x2 + 1)), some (.inl x3), some (.inl x4), some (.inl x5)] [] (zUp M1 154 46 (M1 178 x2)))))))) ∧ (¬ ((x2 + z1) ≤ x5) → zC (zSm x5 80) (zC (zSm x2 80) (zC (zSm x5 80) (zC (zSm x5 80) (zSp d 172 [.inr (.inr 154), .inl x4] (zUp (zUp (zUp M1 177 x5 x2) 178 x5 ((M1 178 x2) + 1)) 179 x5 x3) (fun z2 M2 => zC (zR32 x3) (zC (zR32 z2) ((x3 < z2 → zWp (zSp d) 196 K 128 [some (.inr (.inr 154)), some (.inl x1), some (.inl x2), some (.inl x3), some (.inl x4), some (.inl x5)] [.inl 0, .inl x5, .inr (.inr 180)] M2) ∧ (¬ (x3 < z2) → zWp (zSp d) 196 K 128 [some (.inr (.inr 154)), some (.inl x1), some (.inl x2), some (.inl x3), some (.inl x4), some (.inl x5)] [.inl 1, .inl x5, .inr (.inr 180)] M2))))))))))))) := (zwp_blk (stops := [7, 48, 63, 128]) (fuel := 113) pe_196).trans rfl
set_option maxHeartbeats 4000000 in
set_option maxRecDepth 100000 in
theorem fe_196_128 {d : Nat} {K : Kt} {M : Mm} {x1 x2 x3 x4 x5 y1 y2 : Int} : zWp (zSp d) 196 K 128 [some (.inr (.inr 154)), some (.inl x1), some (.inl x2), some (.inl x3), some (.inl x4), some (.inl x5)] [.inl y2, .inl y1, .inr (.inr 180)] M = (zC (zSm y1 80) (zC (zBo y2) (zSp d 176 [.inr (.inr 154), .inl x1, .inl x5] (zUp M 180 y1 y2) (fun z1 M1 => zWp (zSp d) 196 K 63 [some (.inr (.inr 154)), some (.inl x1), some (.inl x2), some (.inl (x3 + 1)), some (.inl x4), some (.inl (x5 + z1))] [] M1)))) := (zwp_blk (stops := [7, 48, 63, 128]) (fuel := 113) pe_196).trans rfl
theorem pe_197 : zPg 197 = pg_197 := rfl
/-! 197 LeastFailingModel.sortAt -/
set_option maxHeartbeats 4000000 in
set_option maxRecDepth 100000 in
theorem me_197 {d : Nat} {K : Kt} {M : Mm} {a1 a2 : Int} : zSp (d + 1) 197 [.inr (.inr 154), .inl a1, .inl a2] M K = (zSp d 175 [.inr (.inr 154), .inl a1, .inl a2] M (fun z1 M1 => zSp d 170 [.inr (.inr 154), .inl z1, .inl 0] M1 (fun z2 M2 => K z2 M2))) := (zwp_blk (stops := []) (fuel := 13) pe_197).trans rfl
theorem pe_198 : zPg 198 = pg_198 := rfl
/-! 198 LeastFailingModel.leastAt -/
set_option maxHeartbeats 4000000 in
set_option maxRecDepth 100000 in
theorem me_198 {d : Nat} {K : Kt} {M : Mm} {a1 a2 : Int} : zSp (d + 1) 198 [.inr (.inr 154), .inl a1, .inl a2] M K = (zWp (zSp d) 198 K 5 [some (.inr (.inr 154)), some (.inl a1), some (.inl a2), some (.inl a1), some (.inl a2), none, none] [] M) := (zwp_blk (stops := [5, 24]) (fuel := 57) pe_198).trans rfl
set_option maxHeartbeats 4000000 in
set_option maxRecDepth 100000 in
theorem fe_198_5 {d : Nat} {K : Kt} {M : Mm} {x1 x2 x3 x4 : Int} {u5 u6 : Option Vl} : zWp (zSp d) 198 K 5 [some (.inr (.inr 154)), some (.inl x1), some (.inl x2), some (.inl x3), some (.inl x4), u5, u6] [] M = (zC (zR32 x4) ((x4 ≤ 0 → zC (zSm x3 6) (K (M 163 x3) M)) ∧ (¬ (x4 ≤ 0) → zC (zSm x3 6) (zWp (zSp d) 198 K 24 [some (.inr (.inr 154)), some (.inl x1), some (.inl x2), some (.inl x3), some (.inl (x4 + (-1))), some (.inl (M 163 x3)), some (.inl 0)] [] M)))) := (zwp_blk (stops := [5, 24]) (fuel := 57) pe_198).trans rfl
set_option maxHeartbeats 4000000 in
set_option maxRecDepth 100000 in
theorem fe_198_24 {d : Nat} {K : Kt} {M : Mm} {x1 x2 x3 x4 x5 x6 : Int} : zWp (zSp d) 198 K 24 [some (.inr (.inr 154)), some (.inl x1), some (.inl x2), some (.inl x3), some (.inl x4), some (.inl x5), some (.inl x6)] [] M = (zSp d 170 [.inr (.inr 154), .inl x5, .inl (4 + x6)] M (fun z1 M1 => zC (zSm z1 6) (zC (zR32 x4) (zC (zR32 (M1 162 z1)) ((x4 < (M1 162 z1) → zSp d 170 [.inr (.inr 154), .inl x5, .inl (4 + x6)] M1 (fun z2 M2 => zWp (zSp d) 198 K 5 [some (.inr (.inr 154)), some (.inl x1), some (.inl x2), some (.inl z2), some (.inl x4), some (.inl x5), some (.inl x6)] [] M2)) ∧ (¬ (x4 < (M1 162 z1)) → zSp d 170 [.inr (.inr 154), .inl x5, .inl (4 + x6)] M1 (fun z3 M3 => zC (zSm z3 6) (zWp (zSp d) 198 K 24 [some (.inr (.inr 154)), some (.inl x1), some (.inl x2), some (.inl x3), some (.inl (x4 - (M3 162 z3))), some (.inl x5), some (.inl (x6 + 1))] [] M3)))))))) := (zwp_blk (stops := [5, 24]) (fuel := 57) pe_198).trans rfl
theorem pe_199 : zPg 199 = pg_199 := rfl
/-! 199 LeastFailingModel.deepOf -/
set_option maxHeartbeats 4000000 in
set_option maxRecDepth 100000 in
theorem me_199 {d : Nat} {K : Kt} {M : Mm} {a1 : Int} : zSp (d + 1) 199 [.inr (.inr 154), .inl a1] M K = (zWp (zSp d) 199 K 7 [some (.inr (.inr 154)), some (.inl a1), some (.inl 0), some (.inl 0), some (.inl 0)] [] M) := (zwp_blk (stops := [7, 17, 40, 50]) (fuel := 50) pe_199).trans rfl
set_option maxHeartbeats 4000000 in
set_option maxRecDepth 100000 in
theorem fe_199_7 {d : Nat} {K : Kt} {M : Mm} {x1 x2 x3 x4 : Int} : zWp (zSp d) 199 K 7 [some (.inr (.inr 154)), some (.inl x1), some (.inl x2), some (.inl x3), some (.inl x4)] [] M = (zSp d 174 [.inr (.inr 154), .inl x1] M (fun z1 M1 => zC (zR32 x4) (zC (zR32 z1) ((z1 ≤ x4 → K x2 M1) ∧ (¬ (z1 ≤ x4) → zWp (zSp d) 199 K 17 [some (.inr (.inr 154)), some (.inl x1), some (.inl x2), some (.inl x3), some (.inl x4)] [] M1))))) := (zwp_blk (stops := [7, 17, 40, 50]) (fuel := 50) pe_199).trans rfl
set_option maxHeartbeats 4000000 in
set_option maxRecDepth 100000 in
theorem fe_199_17 {d : Nat} {K : Kt} {M : Mm} {x1 x2 x3 x4 : Int} : zWp (zSp d) 199 K 17 [some (.inr (.inr 154)), some (.inl x1), some (.inl x2), some (.inl x3), some (.inl x4)] [] M = (zC (zR32 x3) ((x3 ≤ 0 → zWp (zSp d) 199 K 40 [some (.inr (.inr 154)), some (.inl x1), some (.inl x2), some (.inl x3), some (.inl x4)] [] M) ∧ (¬ (x3 ≤ 0) → zC (zSm (x3 - 1) 96) (zC (zR32 (M 189 (x3 - 1))) (zC (zR32 x4) ((x4 < (M 189 (x3 - 1)) → zWp (zSp d) 199 K 40 [some (.inr (.inr 154)), some (.inl x1), some (.inl x2), some (.inl x3), some (.inl x4)] [] M) ∧ (¬ (x4 < (M 189 (x3 - 1))) → zWp (zSp d) 199 K 17 [some (.inr (.inr 154)), some (.inl x1), some (.inl x2), some (.inl (x3 + (-1))), some (.inl x4)] [] M))))))) := (zwp_blk (stops := [7, 17, 40, 50]) (fuel := 50) pe_199).trans rfl
set_option maxHeartbeats 4000000 in
set_option maxRecDepth 100000 in
theorem fe_199_40 {d : Nat} {K : Kt} {M : Mm} {x1 x2 x3 x4 : Int} : zWp (zSp d) 199 K 40 [some (.inr (.inr 154)), some (.inl x1), some (.inl x2), some (.inl x3), some (.inl x4)] [] M = (zC (zR32 x3) (zC (zR32 x2) ((x3 ≤ x2 → zWp (zSp d) 199 K 50 [some (.inr (.inr 154)), some (.inl x1), some (.inl x2), some (.inl x3), some (.inl x4)] [.inl x2] M) ∧ (¬ (x3 ≤ x2) → zWp (zSp d) 199 K 50 [some (.inr (.inr 154)), some (.inl x1), some (.inl x2), some (.inl x3), some (.inl x4)] [.inl x3] M)))) := (zwp_blk (stops := [7, 17, 40, 50]) (fuel := 50) pe_199).trans rfl
set_option maxHeartbeats 4000000 in
set_option maxRecDepth 100000 in
theorem fe_199_50 {d : Nat} {K : Kt} {M : Mm} {x1 x2 x3 x4 y0 : Int} : zWp (zSp d) 199 K 50 [some (.inr (.inr 154)), some (.inl x1), some (.inl x2), some (.inl x3), some (.inl x4)] [.inl y0] M = (zSp d 176 [.inr (.inr 154), .inl x1, .inl x4] M (fun z1 M1 => zC (zSm x3 96) (zWp (zSp d) 199 K 7 [some (.inr (.inr 154)), some (.inl x1), some (.inl y0), some (.inl (x3 + 1)), some (.inl (x4 + 1))] [] (zUp M1 189 x3 (x4 + z1))))) := (zwp_blk (stops := [7, 17, 40, 50]) (fuel := 50) pe_199).trans rfl
theorem pe_200 : zPg 200 = pg_200 := rfl
/-! 200 LeastFailingModel.underOf -/
set_option maxHeartbeats 4000000 in
set_option maxRecDepth 100000 in
theorem me_200 {d : Nat} {K : Kt} {M : Mm} {a1 a2 a3 : Int} : zSp (d + 1) 200 [.inr (.inr 154), .inl a1, .inl a2, .inl a3] M K = (zWp (zSp d) 200 K 9 [some (.inr (.inr 154)), some (.inl a1), some (.inl a2), some (.inl a3), some (.inl 0), some (.inl 0), some (.inl 0)] [] M) := (zwp_blk (stops := [9, 43, 44]) (fuel := 57) pe_200).trans rfl
set_option maxHeartbeats 4000000 in
set_option maxRecDepth 100000 in
theorem fe_200_9 {d : Nat} {K : Kt} {M : Mm} {x1 x2 x3 x4 x5 x6 : Int} : zWp (zSp d) 200 K 9 [some (.inr (.inr 154)), some (.inl x1), some (.inl x2), some (.inl x3), some (.inl x4), some (.inl x5), some (.inl x6)] [] M = (zSp d 174 [.inr (.inr 154), .inl x1] M (fun z1 M1 => zC (zR32 x6) (zC (zR32 z1) ((z1 ≤ x6 → K x4 M1) ∧ (¬ (z1 ≤ x6) → zC (zR32 x6) (zC (zR32 x5) ((x5 ≤ x6 → zWp (zSp d) 200 K 43 [some (.inr (.inr 154)), some (.inl x1), some (.inl x2), some (.inl x3), some (.inl x4), some (.inl x5), some (.inl x6)] [.inl x4] M1) ∧ (¬ (x5 ≤ x6) → zSp d 175 [.inr (.inr 154), .inl x1, .inl x6] M1 (fun z2 M2 => zC (zR32 z2) (zC (zR32 x3) ((¬ z2 = x3 → zWp (zSp d) 200 K 43 [some (.inr (.inr 154)), some (.inl x1), some (.inl x2), some (.inl x3), some (.inl x4), some (.inl x5), some (.inl x6)] [.inl x4] M2) ∧ (¬ (¬ z2 = x3) → zWp (zSp d) 200 K 44 [some (.inr (.inr 154)), some (.inl x1), some (.inl x2), some (.inl x3), some (.inl x4), some (.inl x5), some (.inl x6)] [.inl 1, .inl x4] M2)))))))))))) := (zwp_blk (stops := [9, 43, 44]) (fuel := 57) pe_200).trans rfl
set_option maxHeartbeats 4000000 in
set_option maxRecDepth 100000 in
theorem fe_200_43 {d : Nat} {K : Kt} {M : Mm} {x1 x2 x3 x4 x5 x6 y0 : Int} : zWp (zSp d) 200 K 43 [some (.inr (.inr 154)), some (.inl x1), some (.inl x2), some (.inl x3), some (.inl x4), some (.inl x5), some (.inl x6)] [.inl y0] M = (zWp (zSp d) 200 K 44 [some (.inr (.inr 154)), some (.inl x1), some (.inl x2), some (.inl x3), some (.inl x4), some (.inl x5), some (.inl x6)] [.inl 0, .inl y0] M) := (zwp_blk (stops := [9, 43, 44]) (fuel := 57) pe_200).trans rfl
set_option maxHeartbeats 4000000 in
set_option maxRecDepth 100000 in
theorem fe_200_44 {d : Nat} {K : Kt} {M : Mm} {x1 x2 x3 x4 x5 x6 y0 y1 : Int} : zWp (zSp d) 200 K 44 [some (.inr (.inr 154)), some (.inl x1), some (.inl x2), some (.inl x3), some (.inl x4), some (.inl x5), some (.inl x6)] [.inl y1, .inl y0] M = (zSp d 138 [.inl y1] M (fun z1 M1 => zSp d 175 [.inr (.inr 154), .inl x1, .inl x6] M1 (fun z2 M2 => zC (zR32 z2) (zC (zR32 x2) ((¬ z2 = x2 → zWp (zSp d) 200 K 9 [some (.inr (.inr 154)), some (.inl x1), some (.inl x2), some (.inl x3), some (.inl (y0 + z1)), some (.inl x5), some (.inl (x6 + 1))] [] M2) ∧ (¬ (¬ z2 = x2) → zSp d 176 [.inr (.inr 154), .inl x1, .inl x6] M2 (fun z3 M3 => zC (zR32 (x6 + z3)) (zC (zR32 x5) (((x6 + z3) ≤ x5 → zWp (zSp d) 200 K 9 [some (.inr (.inr 154)), some (.inl x1), some (.inl x2), some (.inl x3), some (.inl (y0 + z1)), some (.inl x5), some (.inl (x6 + 1))] [] M3) ∧ (¬ ((x6 + z3) ≤ x5) → zSp d 176 [.inr (.inr 154), .inl x1, .inl x6] M3 (fun z4 M4 => zWp (zSp d) 200 K 9 [some (.inr (.inr 154)), some (.inl x1), some (.inl x2), some (.inl x3), some (.inl (y0 + z1)), some (.inl (x6 + z4)), some (.inl (x6 + 1))] [] M4))))))))))) := (zwp_blk (stops := [9, 43, 44]) (fuel := 57) pe_200).trans rfl
theorem pe_201 : zPg 201 = pg_201 := rfl
/-! 201 LeastFailingModel.nextOf -/
set_option maxHeartbeats 4000000 in
set_option maxRecDepth 100000 in
theorem me_201 {d : Nat} {K : Kt} {M : Mm} {a1 a2 a3 : Int} : zSp (d + 1) 201 [.inr (.inr 154), .inl a1, .inl a2, .inl a3] M K = (zWp (zSp d) 201 K 6 [some (.inr (.inr 154)), some (.inl a1), some (.inl a2), some (.inl a3), some (.inl 0), some (.inl 0), none, none, none] [] M) := (zwp_blk (stops := [6, 34, 88, 89]) (fuel := 69) pe_201).trans rfl
set_option maxHeartbeats 4000000 in
set_option maxRecDepth 100000 in
theorem fe_201_6 {d : Nat} {K : Kt} {M : Mm} {x1 x2 x3 x4 x5 : Int} {u6 u7 u8 : Option Vl} : zWp (zSp d) 201 K 6 [some (.inr (.inr 154)), some (.inl x1), some (.inl x2), some (.inl x3), some (.inl x4), some (.inl x5), u6, u7, u8] [] M = (zSp d 174 [.inr (.inr 154), .inl x1] M (fun z1 M1 => zC (zR32 x5) (zC (zR32 z1) ((z1 ≤ x5 → K x4 M1) ∧ (¬ (z1 ≤ x5) → zSp d 176 [.inr (.inr 154), .inl x1, .inl x5] M1 (fun z2 M2 => zWp (zSp d) 201 K 34 [some (.inr (.inr 154)), some (.inl x1), some (.inl x2), some (.inl x3), some (.inl x4), some (.inl x5), some (.inl (x5 + z2)), some (.inl (x5 + 1)), u8] [] M2)))))) := (zwp_blk (stops := [6, 34, 88, 89]) (fuel := 69) pe_201).trans rfl
set_option maxHeartbeats 4000000 in
set_option maxRecDepth 100000 in
theorem fe_201_34 {d : Nat} {K : Kt} {M : Mm} {x1 x2 x3 x4 x5 x6 x7 : Int} {u8 : Option Vl} : zWp (zSp d) 201 K 34 [some (.inr (.inr 154)), some (.inl x1), some (.inl x2), some (.inl x3), some (.inl x4), some (.inl x5), some (.inl x6), some (.inl x7), u8] [] M = (zC (zR32 x7) (zC (zR32 x6) ((x6 ≤ x7 → zWp (zSp d) 201 K 6 [some (.inr (.inr 154)), some (.inl x1), some (.inl x2), some (.inl x3), some (.inl x4), some (.inl (x5 + 1)), some (.inl x6), some (.inl x7), u8] [] M) ∧ (¬ (x6 ≤ x7) → zSp d 176 [.inr (.inr 154), .inl x1, .inl x7] M (fun z1 M1 => zC (zR32 (x7 + z1)) (zC (zR32 x6) ((x6 ≤ (x7 + z1) → zWp (zSp d) 201 K 88 [some (.inr (.inr 154)), some (.inl x1), some (.inl x2), some (.inl x3), some (.inl x4), some (.inl x5), some (.inl x6), some (.inl x7), some (.inl (x7 + z1))] [.inl x4] M1) ∧ (¬ (x6 ≤ (x7 + z1)) → zSp d 175 [.inr (.inr 154), .inl x1, .inl x7] M1 (fun z2 M2 => zC (zR32 z2) (zC (zR32 x2) ((¬ z2 = x2 → zWp (zSp d) 201 K 88 [some (.inr (.inr 154)), some (.inl x1), some (.inl x2), some (.inl x3), some (.inl x4), some (.inl x5), some (.inl x6), some (.inl x7), some (.inl (x7 + z1))] [.inl x4] M2) ∧ (¬ (¬ z2 = x2) → zSp d 175 [.inr (.inr 154), .inl x1, .inl (x7 + z1)] M2 (fun z3 M3 => zC (zR32 z3) (zC (zR32 x3) ((¬ z3 = x3 → zWp (zSp d) 201 K 88 [some (.inr (.inr 154)), some (.inl x1), some (.inl x2), some (.inl x3), some (.inl x4), some (.inl x5), some (.inl x6), some (.inl x7), some (.inl (x7 + z1))] [.inl x4] M3) ∧ (¬ (¬ z3 = x3) → zWp (zSp d) 201 K 89 [some (.inr (.inr 154)), some (.inl x1), some (.inl x2), some (.inl x3), some (.inl x4), some (.inl x5), some (.inl x6), some (.inl x7), some (.inl (x7 + z1))] [.inl 1, .inl x4] M3)))))))))))))))) := (zwp_blk (stops := [6, 34, 88, 89]) (fuel := 69) pe_201).trans rfl
set_option maxHeartbeats 4000000 in
set_option maxRecDepth 100000 in
theorem fe_201_88 {d : Nat} {K : Kt} {M : Mm} {x1 x2 x3 x4 x5 x6 x7 x8 y0 : Int} : zWp (zSp d) 201 K 88 [some (.inr (.inr 154)), some (.inl x1), some (.inl x2), some (.inl x3), some (.inl x4), some (.inl x5), some (.inl x6), some (.inl x7), some (.inl x8)] [.inl y0] M = (zWp (zSp d) 201 K 89 [some (.inr (.inr 154)), some (.inl x1), some (.inl x2), some (.inl x3), some (.inl x4), some (.inl x5), some (.inl x6), some (.inl x7), some (.inl x8)] [.inl 0, .inl y0] M) := (zwp_blk (stops := [6, 34, 88, 89]) (fuel := 69) pe_201).trans rfl
set_option maxHeartbeats 4000000 in
set_option maxRecDepth 100000 in
theorem fe_201_89 {d : Nat} {K : Kt} {M : Mm} {x1 x2 x3 x4 x5 x6 x7 x8 y0 y1 : Int} : zWp (zSp d) 201 K 89 [some (.inr (.inr 154)), some (.inl x1), some (.inl x2), some (.inl x3), some (.inl x4), some (.inl x5), some (.inl x6), some (.inl x7), some (.inl x8)] [.inl y1, .inl y0] M = (zSp d 138 [.inl y1] M (fun z1 M1 => zSp d 176 [.inr (.inr 154), .inl x1, .inl x7] M1 (fun z2 M2 => zWp (zSp d) 201 K 34 [some (.inr (.inr 154)), some (.inl x1), some (.inl x2), some (.inl x3), some (.inl (y0 + z1)), some (.inl x5), some (.inl x6), some (.inl (x7 + z2)), some (.inl x8)] [] M2))) := (zwp_blk (stops := [6, 34, 88, 89]) (fuel := 69) pe_201).trans rfl
theorem pe_202 : zPg 202 = pg_202 := rfl
/-! 202 LeastFailingModel.hasOf -/
set_option maxHeartbeats 4000000 in
set_option maxRecDepth 100000 in
theorem me_202 {d : Nat} {K : Kt} {M : Mm} {a1 a2 : Int} : zSp (d + 1) 202 [.inr (.inr 154), .inl a1, .inl a2] M K = (zWp (zSp d) 202 K 5 [some (.inr (.inr 154)), some (.inl a1), some (.inl a2), some (.inl 0), some (.inl 0)] [] M) := (zwp_blk (stops := [5, 32]) (fuel := 31) pe_202).trans rfl
set_option maxHeartbeats 4000000 in
set_option maxRecDepth 100000 in
theorem fe_202_5 {d : Nat} {K : Kt} {M : Mm} {x1 x2 x3 x4 : Int} : zWp (zSp d) 202 K 5 [some (.inr (.inr 154)), some (.inl x1), some (.inl x2), some (.inl x3), some (.inl x4)] [] M = (zSp d 174 [.inr (.inr 154), .inl x1] M (fun z1 M1 => zC (zR32 x4) (zC (zR32 z1) ((z1 ≤ x4 → K x3 M1) ∧ (¬ (z1 ≤ x4) → zSp d 175 [.inr (.inr 154), .inl x1, .inl x4] M1 (fun z2 M2 => zC (zR32 z2) (zC (zR32 x2) ((¬ z2 = x2 → zWp (zSp d) 202 K 32 [some (.inr (.inr 154)), some (.inl x1), some (.inl x2), some (.inl x3), some (.inl x4)] [.inl 0, .inl x3] M2) ∧ (¬ (¬ z2 = x2) → zWp (zSp d) 202 K 32 [some (.inr (.inr 154)), some (.inl x1), some (.inl x2), some (.inl x3), some (.inl x4)] [.inl 1, .inl x3] M2))))))))) := (zwp_blk (stops := [5, 32]) (fuel := 31) pe_202).trans rfl
set_option maxHeartbeats 4000000 in
set_option maxRecDepth 100000 in
theorem fe_202_32 {d : Nat} {K : Kt} {M : Mm} {x1 x2 x3 x4 y0 y1 : Int} : zWp (zSp d) 202 K 32 [some (.inr (.inr 154)), some (.inl x1), some (.inl x2), some (.inl x3), some (.inl x4)] [.inl y1, .inl y0] M = (zSp d 138 [.inl y1] M (fun z1 M1 => zWp (zSp d) 202 K 5 [some (.inr (.inr 154)), some (.inl x1), some (.inl x2), some (.inl (y0 + z1)), some (.inl (x4 + 1))] [] M1)) := (zwp_blk (stops := [5, 32]) (fuel := 31) pe_202).trans rfl
theorem pe_203 : zPg 203 = pg_203 := rfl
/-! 203 LeastFailingModel.countOf -/
set_option maxHeartbeats 4000000 in
set_option maxRecDepth 100000 in
theorem me_203 {d : Nat} {K : Kt} {M : Mm} {a1 a2 a3 a4 : Int} : zSp (d + 1) 203 [.inr (.inr 154), .inl a1, .inl a2, .inl a3, .inl a4] M K = (zC (zR32 a2) (((a2 = 0 → zSp d 174 [.inr (.inr 154), .inl a1] M (fun z1 M1 => K z1 M1)) ∧ ((a2 = 1 → zSp d 199 [.inr (.inr 154), .inl a1] M (fun z2 M2 => K z2 M2)) ∧ ((a2 = 2 → zSp d 202 [.inr (.inr 154), .inl a1, .inl a3] M (fun z3 M3 => K z3 M3)) ∧ ((a2 = 3 → zSp d 200 [.inr (.inr 154), .inl a1, .inl a3, .inl a4] M (fun z4 M4 => K z4 M4)) ∧ True)))) ∧ ((a2 < 0 ∨ 3 < a2) → zSp d 201 [.inr (.inr 154), .inl a1, .inl a3, .inl a4] M (fun z5 M5 => K z5 M5)))) := (zwp_blk (stops := []) (fuel := 32) pe_203).trans rfl
theorem pe_204 : zPg 204 = pg_204 := rfl
/-! 204 LeastFailingModel.isSo -/
set_option maxHeartbeats 4000000 in
set_option maxRecDepth 100000 in
theorem me_204 {d : Nat} {K : Kt} {M : Mm} {a1 a2 : Int} : zSp (d + 1) 204 [.inr (.inr 154), .inl a1, .inl a2] M K = (zC (zSm (5 * a2) 2000) (zC (zSm ((5 * a2) + 1) 2000) (zC (zSm ((5 * a2) + 2) 2000) (zSp d 203 [.inr (.inr 154), .inl a1, .inl (M 168 (5 * a2)), .inl (M 168 ((5 * a2) + 1)), .inl (M 168 ((5 * a2) + 2))] M (fun z1 M1 => zC (zSm ((5 * a2) + 3) 2000) (zC (zSm ((5 * a2) + 4) 2000) (zC (zR32 (M1 168 ((5 * a2) + 3))) ((0 ≤ (M1 168 ((5 * a2) + 3)) → zC (zR32 (M1 168 ((5 * a2) + 3))) (((M1 168 ((5 * a2) + 3)) ≤ 0 → zC (zR32 z1) (zC (zR32 (M1 168 ((5 * a2) + 4))) ((¬ z1 = (M1 168 ((5 * a2) + 4)) → K 0 M1) ∧ (¬ (¬ z1 = (M1 168 ((5 * a2) + 4))) → K 1 M1)))) ∧ (¬ ((M1 168 ((5 * a2) + 3)) ≤ 0) → zC (zR32 z1) (zC (zR32 (M1 168 ((5 * a2) + 4))) ((z1 ≤ (M1 168 ((5 * a2) + 4)) → K 0 M1) ∧ (¬ (z1 ≤ (M1 168 ((5 * a2) + 4))) → K 1 M1)))))) ∧ (¬ (0 ≤ (M1 168 ((5 * a2) + 3))) → zC (zR32 z1) (zC (zR32 (M1 168 ((5 * a2) + 4))) (((M1 168 ((5 * a2) + 4)) ≤ z1 → K 0 M1) ∧ (¬ ((M1 168 ((5 * a2) + 4)) ≤ z1) → K 1 M1)))))))))))) := (zwp_blk (stops := []) (fuel := 74) pe_204).trans rfl
theorem pe_205 : zPg 205 = pg_205 := rfl
/-! 205 LeastFailingModel.holds -/
set_option maxHeartbeats 4000000 in
set_option maxRecDepth 100000 in
theorem me_205 {d : Nat} {K : Kt} {M : Mm} {a1 a2 : Int} : zSp (d + 1) 205 [.inr (.inr 154), .inl a1, .inl a2] M K = (zC (zSm a1 7) (zWp (zSp d) 205 K 10 [some (.inr (.inr 154)), some (.inl a1), some (.inl a2), some (.inl 0), some (.inl (M 170 a1)), none] [] M)) := (zwp_blk (stops := [10, 127]) (fuel := 109) pe_205).trans rfl
set_option maxHeartbeats 4000000 in
set_option maxRecDepth 100000 in
theorem fe_205_10 {d : Nat} {K : Kt} {M : Mm} {x1 x2 x3 x4 : Int} {u5 : Option Vl} : zWp (zSp d) 205 K 10 [some (.inr (.inr 154)), some (.inl x1), some (.inl x2), some (.inl x3), some (.inl x4), u5] [] M = (zC (zSm (x1 + 1) 7) (zC (zR32 x4) (zC (zR32 (M 170 (x1 + 1))) (((M 170 (x1 + 1)) ≤ x4 → zC (zR32 (M 176 0)) ((¬ (M 176 0) = 1 → K 0 M) ∧ (¬ (¬ (M 176 0) = 1) → K 1 M))) ∧ (¬ ((M 170 (x1 + 1)) ≤ x4) → zC (zSm (5 * x4) 2000) (zC (zR32 (M 168 (5 * x4))) ((¬ (M 168 (5 * x4)) = 10 → zC (zR32 (M 168 (5 * x4))) (((M 168 (5 * x4)) < 11 → zSp d 204 [.inr (.inr 154), .inl x2, .inl x4] M (fun z1 M1 => zSp d 138 [.inl z1] M1 (fun z2 M2 => zC (zSm x3 400) (zWp (zSp d) 205 K 10 [some (.inr (.inr 154)), some (.inl x1), some (.inl x2), some (.inl (x3 + 1)), some (.inl (x4 + 1)), some (.inl (M 168 (5 * x4)))] [] (zUp M2 176 x3 z2))))) ∧ (¬ ((M 168 (5 * x4)) < 11) → zC (zR32 (M 168 (5 * x4))) ((¬ (M 168 (5 * x4)) = 11 → zC (zSm ((x3 + (-1)) - 1) 400) (zC (zSm (x3 + (-1)) 400) (zC (zR32 ((M 176 ((x3 + (-1)) - 1)) + (M 176 (x3 + (-1))))) ((((M 176 ((x3 + (-1)) - 1)) + (M 176 (x3 + (-1)))) ≤ 0 → zWp (zSp d) 205 K 127 [some (.inr (.inr 154)), some (.inl x1), some (.inl x2), some (.inl (x3 + (-1))), some (.inl x4), some (.inl (M 168 (5 * x4)))] [.inl 0, .inl ((x3 + (-1)) - 1), .inr (.inr 176)] M) ∧ (¬ (((M 176 ((x3 + (-1)) - 1)) + (M 176 (x3 + (-1)))) ≤ 0) → zWp (zSp d) 205 K 127 [some (.inr (.inr 154)), some (.inl x1), some (.inl x2), some (.inl (x3 + (-1))), some (.inl x4), some (.inl (M 168 (5 * x4)))] [.inl 1, .inl ((x3 + (-1)) - 1), .inr (.inr 176)] M))))) ∧ (¬ (¬ (M 168 (5 * x4)) = 11) → zC (zSm ((x3 + (-1)) - 1) 400) (zC (zSm (x3 + (-1)) 400) (zC (zSm ((x3 + (-1)) - 1) 400) (zWp (zSp d) 205 K 10 [some (.inr (.inr 154)), some (.inl x1), some (.inl x2), some (.inl (x3 + (-1))), some (.inl (x4 + 1)), some (.inl (M 168 (5 * x4)))] [] (zUp M 176 ((x3 + (-1)) - 1) ((M 176 ((x3 + (-1)) - 1)) * (M 176 (x3 + (-1))))))))))))) ∧ (¬ (¬ (M 168 (5 * x4)) = 10) → zC (zSm (x3 - 1) 400) (zC (zSm (x3 - 1) 400) (zWp (zSp d) 205 K 10 [some (.inr (.inr 154)), some (.inl x1), some (.inl x2), some (.inl x3), some (.inl (x4 + 1)), some (.inl (M 168 (5 * x4)))] [] (zUp M 176 (x3 - 1) (1 - (M 176 (x3 - 1)))))))))))))) := (zwp_blk (stops := [10, 127]) (fuel := 109) pe_205).trans rfl
set_option maxHeartbeats 4000000 in
set_option maxRecDepth 100000 in
theorem fe_205_127 {d : Nat} {K : Kt} {M : Mm} {x1 x2 x3 x4 x5 y1 y2 : Int} : zWp (zSp d) 205 K 127 [some (.inr (.inr 154)), some (.inl x1), some (.inl x2), some (.inl x3), some (.inl x4), some (.inl x5)] [.inl y2, .inl y1, .inr (.inr 176)] M = (zSp d 138 [.inl y2] M (fun z1 M1 => zC (zSm y1 400) (zWp (zSp d) 205 K 10 [some (.inr (.inr 154)), some (.inl x1), some (.inl x2), some (.inl x3), some (.inl (x4 + 1)), some (.inl x5)] [] (zUp M1 176 y1 z1)))) := (zwp_blk (stops := [10, 127]) (fuel := 109) pe_205).trans rfl
theorem pe_206 : zPg 206 = pg_206 := rfl
/-! 206 LeastFailingModel.holdingOf -/
set_option maxHeartbeats 4000000 in
set_option maxRecDepth 100000 in
theorem me_206 {d : Nat} {K : Kt} {M : Mm} {a1 : Int} : zSp (d + 1) 206 [.inr (.inr 154), .inl a1] M K = (zWp (zSp d) 206 K 4 [some (.inr (.inr 154)), some (.inl a1), some (.inl 0), some (.inl 0)] [] M) := (zwp_blk (stops := [4]) (fuel := 28) pe_206).trans rfl
set_option maxHeartbeats 4000000 in
set_option maxRecDepth 100000 in
theorem fe_206_4 {d : Nat} {K : Kt} {M : Mm} {x1 x2 x3 : Int} : zWp (zSp d) 206 K 4 [some (.inr (.inr 154)), some (.inl x1), some (.inl x2), some (.inl x3)] [] M = (zC (zR32 x3) (zC (zR32 (M 154 37)) (((M 154 37) ≤ x3 → K x2 M) ∧ (¬ ((M 154 37) ≤ x3) → zSp d 205 [.inr (.inr 154), .inl x3, .inl x1] M (fun z1 M1 => zC (zR32 z1) ((z1 = 0 → zWp (zSp d) 206 K 4 [some (.inr (.inr 154)), some (.inl x1), some (.inl x2), some (.inl (x3 + 1))] [] M1) ∧ (¬ (z1 = 0) → zC (zSm x3 32) (zWp (zSp d) 206 K 4 [some (.inr (.inr 154)), some (.inl x1), some (.inl (zIorZ x2 (1 * 2 ^ x3.toNat))), some (.inl (x3 + 1))] [] M1)))))))) := (zwp_blk (stops := [4]) (fuel := 28) pe_206).trans rfl
theorem pe_207 : zPg 207 = pg_207 := rfl
/-! 207 LeastFailingModel.draw -/
set_option maxHeartbeats 4000000 in
set_option maxRecDepth 100000 in
theorem me_207 {d : Nat} {K : Kt} {M : Mm} : zSp (d + 1) 207 [.inr (.inr 154)] M K = (zC (zR64 ((1103515245 * (M 154 47)) + 12345)) (zC (zDv ((1103515245 * (M 154 47)) + 12345) 2147483648) (zC (zR64 (((1103515245 * (M 154 47)) + 12345) % 2147483648)) (zC (zDv (((1103515245 * (M 154 47)) + 12345) % 2147483648) 64) (zC (zR64 ((((1103515245 * (M 154 47)) + 12345) % 2147483648) / 64)) (zC (zDv ((((1103515245 * (M 154 47)) + 12345) % 2147483648) / 64) 100) (K (((((1103515245 * (M 154 47)) + 12345) % 2147483648) / 64) % 100) (zUp M 154 47 (((1103515245 * (M 154 47)) + 12345) % 2147483648))))))))) := (zwp_blk (stops := []) (fuel := 23) pe_207).trans rfl
theorem pe_208 : zPg 208 = pg_208 := rfl
/-! 208 LeastFailingModel.runOf -/
set_option maxHeartbeats 4000000 in
set_option maxRecDepth 100000 in
theorem me_208 {d : Nat} {K : Kt} {M : Mm} {a1 : Int} : zSp (d + 1) 208 [.inr (.inr 154), .inl a1] M K = (zWp (zSp d) 208 K 2 [some (.inr (.inr 154)), some (.inl a1), some (.inl 0)] [] M) := (zwp_blk (stops := [2]) (fuel := 37) pe_208).trans rfl
set_option maxHeartbeats 4000000 in
set_option maxRecDepth 100000 in
theorem fe_208_2 {d : Nat} {K : Kt} {M : Mm} {x1 x2 : Int} : zWp (zSp d) 208 K 2 [some (.inr (.inr 154)), some (.inl x1), some (.inl x2)] [] M = (zC (zR32 x2) (zC (zR32 (M 154 37)) (((M 154 37) ≤ x2 → K (-1) M) ∧ (¬ ((M 154 37) ≤ x2) → zC (zR32 x1) (zC (zSm x2 32) (zC (zR32 (zIandZ (x1 / 2 ^ x2.toNat) 1)) ((¬ (zIandZ (x1 / 2 ^ x2.toNat) 1) = 1 → zWp (zSp d) 208 K 2 [some (.inr (.inr 154)), some (.inl x1), some (.inl (x2 + 1))] [] M) ∧ (¬ (¬ (zIandZ (x1 / 2 ^ x2.toNat) 1) = 1) → zC (zSm x2 6) (zC (zR32 (M 172 x2)) (((M 172 x2) = 100 → K x2 M) ∧ (¬ ((M 172 x2) = 100) → zSp d 207 [.inr (.inr 154)] M (fun z1 M1 => zC (zSm x2 6) (zC (zR32 z1) (zC (zR32 (M1 172 x2)) (((M1 172 x2) ≤ z1 → zWp (zSp d) 208 K 2 [some (.inr (.inr 154)), some (.inl x1), some (.inl (x2 + 1))] [] M1) ∧ (¬ ((M1 172 x2) ≤ z1) → K x2 M1)))))))))))))))) := (zwp_blk (stops := [2]) (fuel := 37) pe_208).trans rfl
theorem pe_209 : zPg 209 = pg_209 := rfl
/-! 209 LeastFailingModel.forgets -/
set_option maxHeartbeats 4000000 in
set_option maxRecDepth 100000 in
theorem me_209 {d : Nat} {K : Kt} {M : Mm} : zSp (d + 1) 209 [.inr (.inr 154)] M K = (K 0 (zUp M 154 57 0)) := (zwp_blk (stops := []) (fuel := 9) pe_209).trans rfl
theorem pe_210 : zPg 210 = pg_210 := rfl
/-! 210 LeastFailingModel.cell -/
set_option maxHeartbeats 4000000 in
set_option maxRecDepth 100000 in
theorem me_210 {d : Nat} {K : Kt} {M : Mm} {a1 a2 : Int} : zSp (d + 1) 210 [.inr (.inr 154), .inl a1, .inl a2] M K = (zSp d 175 [.inr (.inr 154), .inl a1, .inl a2] M (fun z1 M1 => zSp d 176 [.inr (.inr 154), .inl a1, .inl a2] M1 (fun z2 M2 => K ((100 * z1) + z2) M2))) := (zwp_blk (stops := []) (fuel := 17) pe_210).trans rfl
theorem pe_211 : zPg 211 = pg_211 := rfl
/-! 211 LeastFailingModel.isTried -/
set_option maxHeartbeats 4000000 in
set_option maxRecDepth 100000 in
theorem me_211 {d : Nat} {K : Kt} {M : Mm} {a1 a2 : Int} : zSp (d + 1) 211 [.inr (.inr 154), .inl a1, .inl a2] M K = (zC (zSm a1 600) (zSp d 174 [.inr (.inr 154), .inl a2] M (fun z1 M1 => zC (zR32 (M 182 a1)) (zC (zR32 z1) (((M 182 a1) = z1 → zWp (zSp d) 211 K 18 [some (.inr (.inr 154)), some (.inl a1), some (.inl a2), some (.inl 0)] [] M1) ∧ (¬ ((M 182 a1) = z1) → K 0 M1)))))) := (zwp_blk (stops := [18]) (fuel := 41) pe_211).trans rfl
set_option maxHeartbeats 4000000 in
set_option maxRecDepth 100000 in
theorem fe_211_18 {d : Nat} {K : Kt} {M : Mm} {x1 x2 x3 : Int} : zWp (zSp d) 211 K 18 [some (.inr (.inr 154)), some (.inl x1), some (.inl x2), some (.inl x3)] [] M = (zSp d 174 [.inr (.inr 154), .inl x2] M (fun z1 M1 => zC (zR32 x3) (zC (zR32 z1) ((z1 ≤ x3 → K 1 M1) ∧ (¬ (z1 ≤ x3) → zC (zSm ((80 * x1) + x3) 48000) (zSp d 210 [.inr (.inr 154), .inl x2, .inl x3] M1 (fun z2 M2 => zC (zR32 (M1 181 ((80 * x1) + x3))) (zC (zR32 z2) (((M1 181 ((80 * x1) + x3)) = z2 → zWp (zSp d) 211 K 18 [some (.inr (.inr 154)), some (.inl x1), some (.inl x2), some (.inl (x3 + 1))] [] M2) ∧ (¬ ((M1 181 ((80 * x1) + x3)) = z2) → K 0 M2)))))))))) := (zwp_blk (stops := [18]) (fuel := 41) pe_211).trans rfl
theorem pe_212 : zPg 212 = pg_212 := rfl
/-! 212 LeastFailingModel.voted -/
set_option maxHeartbeats 4000000 in
set_option maxRecDepth 100000 in
theorem me_212 {d : Nat} {K : Kt} {M : Mm} {a1 : Int} : zSp (d + 1) 212 [.inr (.inr 154), .inl a1] M K = (zSp d 206 [.inr (.inr 154), .inl a1] M (fun z1 M1 => zWp (zSp d) 212 K 8 [some (.inr (.inr 154)), some (.inl a1), some (.inl z1), some (.inl 0), none] [] M1)) := (zwp_blk (stops := [8, 29, 90]) (fuel := 82) pe_212).trans rfl
set_option maxHeartbeats 4000000 in
set_option maxRecDepth 100000 in
theorem fe_212_8 {d : Nat} {K : Kt} {M : Mm} {x1 x2 x3 : Int} : zWp (zSp d) 212 K 8 [some (.inr (.inr 154)), some (.inl x1), some (.inl x2), some (.inl x3), none] [] M = (zC (zR32 x3) ((7 ≤ x3 → zWp (zSp d) 212 K 29 [some (.inr (.inr 154)), some (.inl x1), some (.inl x2), some (.inl 0), none] [] M) ∧ (¬ (7 ≤ x3) → zC (zSm x3 7) (zWp (zSp d) 212 K 8 [some (.inr (.inr 154)), some (.inl x1), some (.inl x2), some (.inl (x3 + 1)), none] [] (zUp M 186 x3 0))))) := (zwp_blk (stops := [8, 29, 90]) (fuel := 82) pe_212).trans rfl
set_option maxHeartbeats 4000000 in
set_option maxRecDepth 100000 in
theorem fe_212_29 {d : Nat} {K : Kt} {M : Mm} {x1 x2 x3 : Int} {u4 : Option Vl} : zWp (zSp d) 212 K 29 [some (.inr (.inr 154)), some (.inl x1), some (.inl x2), some (.inl x3), u4] [] M = (zC (zR32 x3) (zC (zR32 (M 154 48)) (((M 154 48) ≤ x3 → zWp (zSp d) 212 K 90 [some (.inr (.inr 154)), some (.inl x1), some (.inl x2), some (.inl 0), some (.inl 1)] [] (zUp M 154 50 ((M 154 50) + (M 154 48)))) ∧ (¬ ((M 154 48) ≤ x3) → zSp d 208 [.inr (.inr 154), .inl x2] M (fun z1 M1 => zC (zR32 z1) ((¬ z1 = (-1) → zC (zSm z1 7) (zC (zSm z1 7) (zWp (zSp d) 212 K 29 [some (.inr (.inr 154)), some (.inl x1), some (.inl x2), some (.inl (x3 + 1)), some (.inl z1)] [] (zUp M1 186 z1 ((M1 186 z1) + 1))))) ∧ (¬ (¬ z1 = (-1)) → zWp (zSp d) 212 K 29 [some (.inr (.inr 154)), some (.inl x1), some (.inl x2), some (.inl (x3 + 1)), some (.inl z1)] [] (zUp M1 186 6 ((M1 186 6) + 1))))))))) := (zwp_blk (stops := [8, 29, 90]) (fuel := 82) pe_212).trans rfl
set_option maxHeartbeats 4000000 in
set_option maxRecDepth 100000 in
theorem fe_212_90 {d : Nat} {K : Kt} {M : Mm} {x1 x2 x3 x4 : Int} : zWp (zSp d) 212 K 90 [some (.inr (.inr 154)), some (.inl x1), some (.inl x2), some (.inl x3), some (.inl x4)] [] M = (zC (zR32 x4) ((7 ≤ x4 → zC (zR32 x3) ((¬ x3 = 6 → K x3 M) ∧ (¬ (¬ x3 = 6) → K (-1) M))) ∧ (¬ (7 ≤ x4) → zC (zSm x4 7) (zC (zSm x3 7) (zC (zR32 (M 186 x4)) (zC (zR32 (M 186 x3)) (((M 186 x4) ≤ (M 186 x3) → zWp (zSp d) 212 K 90 [some (.inr (.inr 154)), some (.inl x1), some (.inl x2), some (.inl x3), some (.inl (x4 + 1))] [] M) ∧ (¬ ((M 186 x4) ≤ (M 186 x3)) → zWp (zSp d) 212 K 90 [some (.inr (.inr 154)), some (.inl x1), some (.inl x2), some (.inl x4), some (.inl (x4 + 1))] [] M)))))))) := (zwp_blk (stops := [8, 29, 90]) (fuel := 82) pe_212).trans rfl
theorem pe_213 : zPg 213 = pg_213 := rfl
/-! 213 LeastFailingModel.verdictOf -/
set_option maxHeartbeats 4000000 in
set_option maxRecDepth 100000 in
theorem me_213 {d : Nat} {K : Kt} {M : Mm} {a1 a2 a3 : Int} : zSp (d + 1) 213 [.inr (.inr 154), .inl a1, .inl a2, .inl a3] M K = (zWp (zSp d) 213 K 3 [some (.inr (.inr 154)), some (.inl a1), some (.inl a2), some (.inl a3), some (.inl 0), none] [] M) := (zwp_blk (stops := [3, 102]) (fuel := 101) pe_213).trans rfl
set_option maxHeartbeats 4000000 in
set_option maxRecDepth 100000 in
theorem fe_213_3 {d : Nat} {K : Kt} {M : Mm} {x1 x2 x3 x4 : Int} : zWp (zSp d) 213 K 3 [some (.inr (.inr 154)), some (.inl x1), some (.inl x2), some (.inl x3), some (.inl x4), none] [] M = (zC (zR32 x4) (zC (zR32 (M 154 57)) (((M 154 57) ≤ x4 → zC (zR32 (M 154 57)) ((¬ (M 154 57) = 600 → zSp d 174 [.inr (.inr 154), .inl x1] (zUp M 154 57 ((M 154 57) + 1)) (fun z1 M1 => zC (zSm (M 154 57) 600) (zWp (zSp d) 213 K 102 [some (.inr (.inr 154)), some (.inl x1), some (.inl x2), some (.inl x3), some (.inl (M 154 57)), some (.inl 0)] [] (zUp M1 182 (M 154 57) z1)))) ∧ (¬ (¬ (M 154 57) = 600) → K (-1) (zUp M 154 51 ((M 154 51) + 1))))) ∧ (¬ ((M 154 57) ≤ x4) → zSp d 211 [.inr (.inr 154), .inl x4, .inl x1] M (fun z2 M2 => zC (zR32 z2) ((¬ z2 = 0 → zC (zSm x4 600) (K (M2 183 x4) (zUp M2 154 49 ((M2 154 49) + 1)))) ∧ (¬ (¬ z2 = 0) → zWp (zSp d) 213 K 3 [some (.inr (.inr 154)), some (.inl x1), some (.inl x2), some (.inl x3), some (.inl (x4 + 1)), none] [] M2))))))) := (zwp_blk (stops := [3, 102]) (fuel := 101) pe_213).trans rfl
set_option maxHeartbeats 4000000 in
set_option maxRecDepth 100000 in
theorem fe_213_102 {d : Nat} {K : Kt} {M : Mm} {x1 x2 x3 x4 x5 : Int} : zWp (zSp d) 213 K 102 [some (.inr (.inr 154)), some (.inl x1), some (.inl x2), some (.inl x3), some (.inl x4), some (.inl x5)] [] M = (zSp d 174 [.inr (.inr 154), .inl x1] M (fun z1 M1 => zC (zR32 x5) (zC (zR32 z1) ((z1 ≤ x5 → zSp d 212 [.inr (.inr 154), .inl x1] M1 (fun z2 M2 => zC (zSm x4 600) (zC (zSm x4 600) (zC (zSm x4 600) (zC (zSm x4 600) (K ((zUp M2 183 x4 z2) 183 x4) (zUp (zUp (zUp M2 183 x4 z2) 184 x4 x2) 185 x4 x3))))))) ∧ (¬ (z1 ≤ x5) → zSp d 210 [.inr (.inr 154), .inl x1, .inl x5] M1 (fun z3 M3 => zC (zSm ((80 * x4) + x5) 48000) (zWp (zSp d) 213 K 102 [some (.inr (.inr 154)), some (.inl x1), some (.inl x2), some (.inl x3), some (.inl x4), some (.inl (x5 + 1))] [] (zUp M3 181 ((80 * x4) + x5) z3)))))))) := (zwp_blk (stops := [3, 102]) (fuel := 101) pe_213).trans rfl
theorem pe_214 : zPg 214 = pg_214 := rfl
/-! 214 LeastFailingModel.unmarks -/
set_option maxHeartbeats 4000000 in
set_option maxRecDepth 100000 in
theorem me_214 {d : Nat} {K : Kt} {M : Mm} : zSp (d + 1) 214 [.inr (.inr 154)] M K = (zWp (zSp d) 214 K 2 [some (.inr (.inr 154)), some (.inl 0)] [] M) := (zwp_blk (stops := [2]) (fuel := 18) pe_214).trans rfl
set_option maxHeartbeats 4000000 in
set_option maxRecDepth 100000 in
theorem fe_214_2 {d : Nat} {K : Kt} {M : Mm} {x1 : Int} : zWp (zSp d) 214 K 2 [some (.inr (.inr 154)), some (.inl x1)] [] M = (zC (zR32 x1) ((80 ≤ x1 → K 0 M) ∧ (¬ (80 ≤ x1) → zC (zSm x1 80) (zWp (zSp d) 214 K 2 [some (.inr (.inr 154)), some (.inl (x1 + 1))] [] (zUp M 187 x1 (-1)))))) := (zwp_blk (stops := [2]) (fuel := 18) pe_214).trans rfl
theorem pe_215 : zPg 215 = pg_215 := rfl
/-! 215 LeastFailingModel.addsLeast -/
set_option maxHeartbeats 4000000 in
set_option maxRecDepth 100000 in
theorem me_215 {d : Nat} {K : Kt} {M : Mm} {a1 : Int} : zSp (d + 1) 215 [.inr (.inr 154), .inl a1] M K = (zWp (zSp d) 215 K 2 [some (.inr (.inr 154)), some (.inl a1), some (.inl 0), none, none] [] M) := (zwp_blk (stops := [2]) (fuel := 39) pe_215).trans rfl
set_option maxHeartbeats 4000000 in
set_option maxRecDepth 100000 in
theorem fe_215_2 {d : Nat} {K : Kt} {M : Mm} {x1 x2 : Int} {u3 u4 : Option Vl} : zWp (zSp d) 215 K 2 [some (.inr (.inr 154)), some (.inl x1), some (.inl x2), u3, u4] [] M = (zC (zSm x1 6) (zC (zR32 x2) (zC (zR32 (M 162 x1)) (((M 162 x1) ≤ x2 → K 0 M) ∧ (¬ ((M 162 x1) ≤ x2) → zSp d 198 [.inr (.inr 154), .inl x1, .inl x2] M (fun z1 M1 => zSp d 178 [.inr (.inr 154), .inl 161, .inl z1] M1 (fun z2 M2 => zSp d 170 [.inr (.inr 154), .inl z1, .inl 0] M2 (fun z3 M3 => zC (zSm z3 6) (zC (zSm (242 + z2) 2093) (zWp (zSp d) 215 K 2 [some (.inr (.inr 154)), some (.inl x1), some (.inl (x2 + 1)), some (.inl z1), some (.inl z2)] [] (zUp M3 165 (242 + z2) (M3 162 z3)))))))))))) := (zwp_blk (stops := [2]) (fuel := 39) pe_215).trans rfl
theorem pe_216 : zPg 216 = pg_216 := rfl
/-! 216 LeastFailingModel.addsPart -/
set_option maxHeartbeats 4000000 in
set_option maxRecDepth 100000 in
theorem me_216 {d : Nat} {K : Kt} {M : Mm} {a1 : Int} : zSp (d + 1) 216 [.inr (.inr 154), .inl a1] M K = (zWp (zSp d) 216 K 2 [some (.inr (.inr 154)), some (.inl a1), some (.inl a1), none] [] M) := (zwp_blk (stops := [2]) (fuel := 36) pe_216).trans rfl
set_option maxHeartbeats 4000000 in
set_option maxRecDepth 100000 in
theorem fe_216_2 {d : Nat} {K : Kt} {M : Mm} {x1 x2 : Int} {u3 : Option Vl} : zWp (zSp d) 216 K 2 [some (.inr (.inr 154)), some (.inl x1), some (.inl x2), u3] [] M = (zSp d 176 [.inr (.inr 154), .inl 0, .inl x1] M (fun z1 M1 => zC (zR32 x2) (zC (zR32 (x1 + z1)) (((x1 + z1) ≤ x2 → K 0 M1) ∧ (¬ ((x1 + z1) ≤ x2) → zSp d 175 [.inr (.inr 154), .inl 0, .inl x2] M1 (fun z2 M2 => zSp d 178 [.inr (.inr 154), .inl 161, .inl z2] M2 (fun z3 M3 => zSp d 176 [.inr (.inr 154), .inl 0, .inl x2] M3 (fun z4 M4 => zC (zSm (242 + z3) 2093) (zWp (zSp d) 216 K 2 [some (.inr (.inr 154)), some (.inl x1), some (.inl (x2 + 1)), some (.inl z3)] [] (zUp M4 165 (242 + z3) z4)))))))))) := (zwp_blk (stops := [2]) (fuel := 36) pe_216).trans rfl
theorem pe_217 : zPg 217 = pg_217 := rfl
/-! 217 LeastFailingModel.builds -/
set_option maxHeartbeats 4000000 in
set_option maxRecDepth 100000 in
theorem me_217 {d : Nat} {K : Kt} {M : Mm} : zSp (d + 1) 217 [.inr (.inr 154)] M K = (zWp (zSp d) 217 K 13 [some (.inr (.inr 154)), some (.inl 0), some (.inl 0), none] [] (zUp M 165 161 0)) := (zwp_blk (stops := [13, 26, 77, 140]) (fuel := 116) pe_217).trans rfl
set_option maxHeartbeats 4000000 in
set_option maxRecDepth 100000 in
theorem fe_217_13 {d : Nat} {K : Kt} {M : Mm} {x1 x2 : Int} {u3 : Option Vl} : zWp (zSp d) 217 K 13 [some (.inr (.inr 154)), some (.inl x1), some (.inl x2), u3] [] M = (zC (zR32 x1) ((0 < x1 → zWp (zSp d) 217 K 26 [some (.inr (.inr 154)), some (.inl x1), some (.inl x2), u3] [] M) ∧ (¬ (0 < x1) → zSp d 174 [.inr (.inr 154), .inl 0] M (fun z1 M1 => zC (zR32 x2) (zC (zR32 z1) ((z1 ≤ x2 → K 0 M1) ∧ (¬ (z1 ≤ x2) → zWp (zSp d) 217 K 26 [some (.inr (.inr 154)), some (.inl x1), some (.inl x2), u3] [] M1))))))) := (zwp_blk (stops := [13, 26, 77, 140]) (fuel := 116) pe_217).trans rfl
set_option maxHeartbeats 4000000 in
set_option maxRecDepth 100000 in
theorem fe_217_26 {d : Nat} {K : Kt} {M : Mm} {x1 x2 : Int} {u3 : Option Vl} : zWp (zSp d) 217 K 26 [some (.inr (.inr 154)), some (.inl x1), some (.inl x2), u3] [] M = (zC (zR32 x1) ((x1 ≤ 0 → zWp (zSp d) 217 K 77 [some (.inr (.inr 154)), some (.inl x1), some (.inl x2), u3] [] M) ∧ (¬ (x1 ≤ 0) → zC (zSm (x1 - 1) 96) (zC (zR32 (M 189 (x1 - 1))) (zC (zR32 x2) ((¬ (M 189 (x1 - 1)) = x2 → zWp (zSp d) 217 K 77 [some (.inr (.inr 154)), some (.inl x1), some (.inl x2), u3] [] M) ∧ (¬ (¬ (M 189 (x1 - 1)) = x2) → zC (zSm (x1 + (-1)) 96) (zSp d 174 [.inr (.inr 154), .inl 161] M (fun z1 M1 => zC (zSm (x1 + (-1)) 96) (zC (zSm (242 + (M 190 (x1 + (-1)))) 2093) (zWp (zSp d) 217 K 13 [some (.inr (.inr 154)), some (.inl (x1 + (-1))), some (.inl x2), u3] [] (zUp M1 165 (242 + (M 190 (x1 + (-1)))) (z1 - (M1 190 (x1 + (-1)))))))))))))))) := (zwp_blk (stops := [13, 26, 77, 140]) (fuel := 116) pe_217).trans rfl
set_option maxHeartbeats 4000000 in
set_option maxRecDepth 100000 in
theorem fe_217_77 {d : Nat} {K : Kt} {M : Mm} {x1 x2 : Int} {u3 : Option Vl} : zWp (zSp d) 217 K 77 [some (.inr (.inr 154)), some (.inl x1), some (.inl x2), u3] [] M = (zSp d 174 [.inr (.inr 154), .inl 161] M (fun z1 M1 => zC (zSm x2 80) (zSp d 176 [.inr (.inr 154), .inl 0, .inl x2] (zUp M1 188 x2 z1) (fun z2 M2 => zC (zSm x2 80) (zC (zR32 (M2 187 x2)) ((¬ (M2 187 x2) = 1 → zC (zSm x2 80) (zC (zR32 (M2 187 x2)) ((¬ (M2 187 x2) = 2 → zWp (zSp d) 217 K 140 [some (.inr (.inr 154)), some (.inl x1), some (.inl x2), some (.inl (x2 + z2))] [] M2) ∧ (¬ (¬ (M2 187 x2) = 2) → zSp d 216 [.inr (.inr 154), .inl (M2 154 60)] M2 (fun _ M3 => zWp (zSp d) 217 K 140 [some (.inr (.inr 154)), some (.inl x1), some (.inl x2), some (.inl (x2 + z2))] [] M3))))) ∧ (¬ (¬ (M2 187 x2) = 1) → zSp d 197 [.inr (.inr 154), .inl 0, .inl x2] M2 (fun z4 M4 => zSp d 215 [.inr (.inr 154), .inl z4] M4 (fun _ M5 => zWp (zSp d) 217 K 140 [some (.inr (.inr 154)), some (.inl x1), some (.inl x2), some (.inl (x2 + z2))] [] M5))))))))) := (zwp_blk (stops := [13, 26, 77, 140]) (fuel := 116) pe_217).trans rfl
set_option maxHeartbeats 4000000 in
set_option maxRecDepth 100000 in
theorem fe_217_140 {d : Nat} {K : Kt} {M : Mm} {x1 x2 x3 : Int} : zWp (zSp d) 217 K 140 [some (.inr (.inr 154)), some (.inl x1), some (.inl x2), some (.inl x3)] [] M = (zC (zSm x2 80) (zC (zR32 (M 187 x2)) (((M 187 x2) = (-1) → zSp d 175 [.inr (.inr 154), .inl 0, .inl x2] M (fun z1 M1 => zSp d 178 [.inr (.inr 154), .inl 161, .inl z1] M1 (fun z2 M2 => zC (zSm x1 96) (zC (zSm x1 96) (zWp (zSp d) 217 K 13 [some (.inr (.inr 154)), some (.inl (x1 + 1)), some (.inl (x2 + 1)), some (.inl x3)] [] (zUp (zUp M2 190 x1 z2) 189 x1 x3)))))) ∧ (¬ ((M 187 x2) = (-1)) → zWp (zSp d) 217 K 13 [some (.inr (.inr 154)), some (.inl x1), some (.inl x3), some (.inl x3)] [] M)))) := (zwp_blk (stops := [13, 26, 77, 140]) (fuel := 116) pe_217).trans rfl
theorem pe_218 : zPg 218 = pg_218 := rfl
/-! 218 LeastFailingModel.canBeLeast -/
set_option maxHeartbeats 4000000 in
set_option maxRecDepth 100000 in
theorem me_218 {d : Nat} {K : Kt} {M : Mm} {a1 : Int} : zSp (d + 1) 218 [.inr (.inr 154), .inl a1] M K = (zSp d 197 [.inr (.inr 154), .inl 0, .inl a1] M (fun z1 M1 => zC (zSm z1 6) (zSp d 176 [.inr (.inr 154), .inl 0, .inl a1] M1 (fun z2 M2 => zC (zR32 (M1 162 z1)) (zC (zR32 z2) ((z2 ≤ (M1 162 z1) → K 0 M2) ∧ (¬ (z2 ≤ (M1 162 z1)) → K 1 M2))))))) := (zwp_blk (stops := []) (fuel := 21) pe_218).trans rfl
theorem pe_219 : zPg 219 = pg_219 := rfl
/-! 219 LeastFailingModel.changes -/
set_option maxHeartbeats 4000000 in
set_option maxRecDepth 100000 in
theorem me_219 {d : Nat} {K : Kt} {M : Mm} {a1 a2 a3 : Int} : zSp (d + 1) 219 [.inr (.inr 154), .inl a1, .inl a2, .inl a3] M K = (zSp d 214 [.inr (.inr 154)] M (fun _ M1 => zC (zSm a1 80) (zSp d 217 [.inr (.inr 154)] (zUp (zUp M1 187 a1 a2) 154 60 a3) (fun _ M2 => K 0 M2)))) := (zwp_blk (stops := []) (fuel := 18) pe_219).trans rfl
theorem pe_220 : zPg 220 = pg_220 := rfl
/-! 220 LeastFailingModel.isOne -/
set_option maxHeartbeats 4000000 in
set_option maxRecDepth 100000 in
theorem me_220 {d : Nat} {K : Kt} {M : Mm} {a1 a2 a3 : Int} : zSp (d + 1) 220 [.inr (.inr 154), .inl a1, .inl a2, .inl a3] M K = (K 0 (zUp (zUp (zUp M 154 64 a1) 154 65 a2) 154 66 a3)) := (zwp_blk (stops := []) (fuel := 15) pe_220).trans rfl
theorem pe_221 : zPg 221 = pg_221 := rfl
/-! 221 LeastFailingModel.singles -/
set_option maxHeartbeats 4000000 in
set_option maxRecDepth 100000 in
theorem me_221 {d : Nat} {K : Kt} {M : Mm} {a1 : Int} : zSp (d + 1) 221 [.inr (.inr 154), .inl a1] M K = (zSp d 196 [.inr (.inr 154), .inl 0] M (fun _ M1 => zWp (zSp d) 221 K 9 [some (.inr (.inr 154)), some (.inl a1), some (.inl 0), some (.inl 0), none] [] M1)) := (zwp_blk (stops := [9, 39, 42, 70]) (fuel := 81) pe_221).trans rfl
set_option maxHeartbeats 4000000 in
set_option maxRecDepth 100000 in
theorem fe_221_9 {d : Nat} {K : Kt} {M : Mm} {x1 x2 x3 : Int} {u4 : Option Vl} : zWp (zSp d) 221 K 9 [some (.inr (.inr 154)), some (.inl x1), some (.inl x2), some (.inl x3), u4] [] M = (zSp d 174 [.inr (.inr 154), .inl 0] M (fun z1 M1 => zC (zR32 x3) (zC (zR32 z1) ((z1 ≤ x3 → K x2 M1) ∧ (¬ (z1 ≤ x3) → zC (zSm x3 80) (zC (zR32 (M1 180 x3)) (((M1 180 x3) = 0 → zWp (zSp d) 221 K 42 [some (.inr (.inr 154)), some (.inl x1), some (.inl x2), some (.inl x3), u4] [] M1) ∧ (¬ ((M1 180 x3) = 0) → zC (zR32 x2) (zC (zR32 x1) ((¬ x2 = x1 → zWp (zSp d) 221 K 39 [some (.inr (.inr 154)), some (.inl x1), some (.inl x2), some (.inl x3), u4] [] M1) ∧ (¬ (¬ x2 = x1) → zSp d 220 [.inr (.inr 154), .inl x3, .inl 0, .inl (-1)] M1 (fun _ M2 => zWp (zSp d) 221 K 39 [some (.inr (.inr 154)), some (.inl x1), some (.inl x2), some (.inl x3), u4] [] M2)))))))))))) := (zwp_blk (stops := [9, 39, 42, 70]) (fuel := 81) pe_221).trans rfl
set_option maxHeartbeats 4000000 in
set_option maxRecDepth 100000 in
theorem fe_221_39 {d : Nat} {K : Kt} {M : Mm} {x1 x2 x3 : Int} {u4 : Option Vl} : zWp (zSp d) 221 K 39 [some (.inr (.inr 154)), some (.inl x1), some (.inl x2), some (.inl x3), u4] [] M = (zWp (zSp d) 221 K 42 [some (.inr (.inr 154)), some (.inl x1), some (.inl (x2 + 1)), some (.inl x3), u4] [] M) := (zwp_blk (stops := [9, 39, 42, 70]) (fuel := 81) pe_221).trans rfl
set_option maxHeartbeats 4000000 in
set_option maxRecDepth 100000 in
theorem fe_221_42 {d : Nat} {K : Kt} {M : Mm} {x1 x2 x3 : Int} {u4 : Option Vl} : zWp (zSp d) 221 K 42 [some (.inr (.inr 154)), some (.inl x1), some (.inl x2), some (.inl x3), u4] [] M = (zSp d 218 [.inr (.inr 154), .inl x3] M (fun z1 M1 => zC (zR32 z1) ((z1 = 0 → zWp (zSp d) 221 K 70 [some (.inr (.inr 154)), some (.inl x1), some (.inl x2), some (.inl x3), some (.inl (x3 + 1))] [] M1) ∧ (¬ (z1 = 0) → zC (zR32 x2) (zC (zR32 x1) ((¬ x2 = x1 → zWp (zSp d) 221 K 70 [some (.inr (.inr 154)), some (.inl x1), some (.inl (x2 + 1)), some (.inl x3), some (.inl (x3 + 1))] [] M1) ∧ (¬ (¬ x2 = x1) → zSp d 220 [.inr (.inr 154), .inl x3, .inl 1, .inl (-1)] M1 (fun _ M2 => zWp (zSp d) 221 K 70 [some (.inr (.inr 154)), some (.inl x1), some (.inl (x2 + 1)), some (.inl x3), some (.inl (x3 + 1))] [] M2)))))))) := (zwp_blk (stops := [9, 39, 42, 70]) (fuel := 81) pe_221).trans rfl
set_option maxHeartbeats 4000000 in
set_option maxRecDepth 100000 in
theorem fe_221_70 {d : Nat} {K : Kt} {M : Mm} {x1 x2 x3 x4 : Int} : zWp (zSp d) 221 K 70 [some (.inr (.inr 154)), some (.inl x1), some (.inl x2), some (.inl x3), some (.inl x4)] [] M = (zSp d 176 [.inr (.inr 154), .inl 0, .inl x3] M (fun z1 M1 => zC (zR32 x4) (zC (zR32 (x3 + z1)) (((x3 + z1) ≤ x4 → zWp (zSp d) 221 K 9 [some (.inr (.inr 154)), some (.inl x1), some (.inl x2), some (.inl (x3 + 1)), some (.inl x4)] [] M1) ∧ (¬ ((x3 + z1) ≤ x4) → zSp d 197 [.inr (.inr 154), .inl 0, .inl x4] M1 (fun z2 M2 => zSp d 197 [.inr (.inr 154), .inl 0, .inl x3] M2 (fun z3 M3 => zC (zR32 z2) (zC (zR32 z3) ((z2 = z3 → zC (zR32 x2) (zC (zR32 x1) ((¬ x2 = x1 → zWp (zSp d) 221 K 70 [some (.inr (.inr 154)), some (.inl x1), some (.inl (x2 + 1)), some (.inl x3), some (.inl (x4 + 1))] [] M3) ∧ (¬ (¬ x2 = x1) → zSp d 220 [.inr (.inr 154), .inl x3, .inl 2, .inl x4] M3 (fun _ M4 => zWp (zSp d) 221 K 70 [some (.inr (.inr 154)), some (.inl x1), some (.inl (x2 + 1)), some (.inl x3), some (.inl (x4 + 1))] [] M4))))) ∧ (¬ (z2 = z3) → zWp (zSp d) 221 K 70 [some (.inr (.inr 154)), some (.inl x1), some (.inl x2), some (.inl x3), some (.inl (x4 + 1))] [] M3)))))))))) := (zwp_blk (stops := [9, 39, 42, 70]) (fuel := 81) pe_221).trans rfl
theorem pe_222 : zPg 222 = pg_222 := rfl
/-! 222 LeastFailingModel.isLaid -/
set_option maxHeartbeats 4000000 in
set_option maxRecDepth 100000 in
theorem me_222 {d : Nat} {K : Kt} {M : Mm} {a1 : Int} : zSp (d + 1) 222 [.inr (.inr 154), .inl a1] M K = (zC (zR32 a1) ((a1 < 0 → K 0 M) ∧ (¬ (a1 < 0) → zSp d 221 [.inr (.inr 154), .inl a1] M (fun z1 M1 => zC (zR32 a1) (zC (zR32 z1) ((a1 < z1 → zSp d 219 [.inr (.inr 154), .inl (M1 154 64), .inl (M1 154 65), .inl (M1 154 66)] M1 (fun _ M2 => K 1 M2)) ∧ (¬ (a1 < z1) → K 0 M1))))))) := (zwp_blk (stops := []) (fuel := 24) pe_222).trans rfl
theorem pe_223 : zPg 223 = pg_223 := rfl
/-! 223 LeastFailingModel.single -/
set_option maxHeartbeats 4000000 in
set_option maxRecDepth 100000 in
theorem me_223 {d : Nat} {K : Kt} {M : Mm} {a1 a2 : Int} : zSp (d + 1) 223 [.inr (.inr 154), .inl a1, .inl a2] M K = (zC (zR32 a1) ((¬ a1 = (-1) → zC (zR32 a2) (zSp d 137 [.inr (.inl a2), .inr (.inl 0), .inr (.inl 4)] (zUp M 154 0 0) (fun z1 M1 => zC (zR32 z1) ((z1 = 0 → K (-1) M1) ∧ (¬ (z1 = 0) → zSp d 222 [.inr (.inr 154), .inl a1] M1 (fun z2 M2 => zC (zR32 z2) ((¬ z2 = 0 → zC (zR32 a2) (((a2 = 0 → K (M2 154 64) M2) ∧ ((a2 = 1 → K (M2 154 65) M2) ∧ ((a2 = 2 → K (M2 154 66) M2) ∧ ((a2 = 3 → zSp d 174 [.inr (.inr 154), .inl 161] M2 (fun z3 M3 => K z3 M3)) ∧ True)))) ∧ ((a2 < 0 ∨ 3 < a2) → zSp d 206 [.inr (.inr 154), .inl 161] M2 (fun z4 M4 => K z4 M4)))) ∧ (¬ (¬ z2 = 0) → K (-1) M2)))))))) ∧ (¬ (¬ a1 = (-1)) → zC (zR32 a2) ((¬ a2 = 0 → K (-1) (zUp M 154 0 0)) ∧ (¬ (¬ a2 = 0) → zSp d 221 [.inr (.inr 154), .inl (-1)] (zUp M 154 0 0) (fun z5 M5 => K z5 M5)))))) := (zwp_blk (stops := []) (fuel := 50) pe_223).trans rfl
theorem pe_224 : zPg 224 = pg_224 := rfl
/-! 224 LeastFailingModel.tries -/
set_option maxHeartbeats 4000000 in
set_option maxRecDepth 100000 in
theorem me_224 {d : Nat} {K : Kt} {M : Mm} {a1 : Int} : zSp (d + 1) 224 [.inr (.inr 154), .inl a1] M K = (zSp d 222 [.inr (.inr 154), .inl a1] (zUp M 154 0 0) (fun z1 M1 => zC (zR32 z1) ((z1 = 0 → K (-2) M1) ∧ (¬ (z1 = 0) → zSp d 213 [.inr (.inr 154), .inl 161, .inl 6, .inl (M1 154 64)] M1 (fun z2 M2 => K z2 M2))))) := (zwp_blk (stops := []) (fuel := 21) pe_224).trans rfl
