theorem pe_225 : zPg 225 = pg_225 := rfl
/-! 225 LeastFailingModel.change -/
set_option maxHeartbeats 4000000 in
set_option maxRecDepth 100000 in
theorem me_225 {d : Nat} {K : Kt} {M : Mm} {a1 : Int} : zSp (d + 1) 225 [.inr (.inr 154), .inl a1] M K = (zSp d 222 [.inr (.inr 154), .inl a1] (zUp M 154 0 0) (fun z1 M1 => zC (zR32 z1) ((¬ z1 = 0 → zSp d 183 [.inr (.inr 154)] M1 (fun _ M2 => zSp d 177 [.inr (.inr 154), .inl 0, .inl 161] M2 (fun _ M3 => zSp d 174 [.inr (.inr 154), .inl 0] M3 (fun z4 M4 => K z4 M4)))) ∧ (¬ (¬ z1 = 0) → K (-2) M1)))) := (zwp_blk (stops := []) (fuel := 24) pe_225).trans rfl
theorem pe_226 : zPg 226 = pg_226 := rfl
/-! 226 LeastFailingModel.more -/
set_option maxHeartbeats 4000000 in
set_option maxRecDepth 100000 in
theorem me_226 {d : Nat} {K : Kt} {M : Mm} : zSp (d + 1) 226 [.inr (.inr 154)] M K = (zSp d 174 [.inr (.inr 154), .inl 0] (zUp M 154 0 0) (fun z1 M1 => zC (zR32 z1) ((¬ z1 = 0 → zSp d 213 [.inr (.inr 154), .inl 0, .inl 0, .inl (-1)] M1 (fun z2 M2 => zWp (zSp d) 226 K 24 [some (.inr (.inr 154)), none, none] [.inl z2] M2)) ∧ (¬ (¬ z1 = 0) → zWp (zSp d) 226 K 24 [some (.inr (.inr 154)), none, none] [.inl (-1)] M1)))) := (zwp_blk (stops := [24, 35]) (fuel := 45) pe_226).trans rfl
set_option maxHeartbeats 4000000 in
set_option maxRecDepth 100000 in
theorem fe_226_24 {d : Nat} {K : Kt} {M : Mm} {y0 : Int} : zWp (zSp d) 226 K 24 [some (.inr (.inr 154)), none, none] [.inl y0] M = (zC (zR32 y0) ((¬ y0 = (-1) → zWp (zSp d) 226 K 35 [some (.inr (.inr 154)), some (.inl y0), some (.inl 0)] [] M) ∧ (¬ (¬ y0 = (-1)) → K (-3) M))) := (zwp_blk (stops := [24, 35]) (fuel := 45) pe_226).trans rfl
set_option maxHeartbeats 4000000 in
set_option maxRecDepth 100000 in
theorem fe_226_35 {d : Nat} {K : Kt} {M : Mm} {x1 x2 : Int} : zWp (zSp d) 226 K 35 [some (.inr (.inr 154)), some (.inl x1), some (.inl x2)] [] M = (zSp d 222 [.inr (.inr 154), .inl x2] M (fun z1 M1 => zC (zR32 z1) ((z1 = 0 → K (-1) M1) ∧ (¬ (z1 = 0) → zSp d 213 [.inr (.inr 154), .inl 161, .inl 6, .inl (M1 154 64)] M1 (fun z2 M2 => zC (zR32 z2) (zC (zR32 x1) ((¬ z2 = x1 → zWp (zSp d) 226 K 35 [some (.inr (.inr 154)), some (.inl x1), some (.inl (x2 + 1))] [] M2) ∧ (¬ (¬ z2 = x1) → K x2 M2)))))))) := (zwp_blk (stops := [24, 35]) (fuel := 45) pe_226).trans rfl
theorem pe_227 : zPg 227 = pg_227 := rfl
/-! 227 LeastFailingModel.isBug -/
set_option maxHeartbeats 4000000 in
set_option maxRecDepth 100000 in
theorem me_227 {d : Nat} {K : Kt} {M : Mm} {a1 : Int} : zSp (d + 1) 227 [.inr (.inr 154), .inl a1] M K = (zC (zR32 a1) (zC (zR32 ((M 154 37) - 1)) (zSp d 137 [.inr (.inl a1), .inr (.inl 0), .inr (.inl ((M 154 37) - 1))] M (fun z1 M1 => zC (zBo z1) (K z1 M1))))) := (zwp_blk (stops := []) (fuel := 15) pe_227).trans rfl
theorem pe_228 : zPg 228 = pg_228 := rfl
/-! 228 LeastFailingModel.apart -/
set_option maxHeartbeats 4000000 in
set_option maxRecDepth 100000 in
theorem me_228 {d : Nat} {K : Kt} {M : Mm} {a1 a2 : Int} : zSp (d + 1) 228 [.inr (.inr 154), .inl a1, .inl a2] M K = (zSp d 227 [.inr (.inr 154), .inl a1] (zUp M 154 0 0) (fun z1 M1 => zC (zR32 z1) ((z1 = 0 → K (-2) M1) ∧ (¬ (z1 = 0) → zSp d 227 [.inr (.inr 154), .inl a2] M1 (fun z2 M2 => zC (zR32 z2) ((z2 = 0 → K (-2) M2) ∧ (¬ (z2 = 0) → zC (zR32 a1) (zC (zR32 a2) ((¬ a1 = a2 → zSp d 174 [.inr (.inr 154), .inl 0] M2 (fun z3 M3 => zC (zR32 z3) ((¬ z3 = 0 → zWp (zSp d) 228 K 42 [some (.inr (.inr 154)), some (.inl a1), some (.inl a2), some (.inl 0)] [] M3) ∧ (¬ (¬ z3 = 0) → K (-3) M3)))) ∧ (¬ (¬ a1 = a2) → K (-2) M2)))))))))) := (zwp_blk (stops := [42]) (fuel := 49) pe_228).trans rfl
set_option maxHeartbeats 4000000 in
set_option maxRecDepth 100000 in
theorem fe_228_42 {d : Nat} {K : Kt} {M : Mm} {x1 x2 x3 : Int} : zWp (zSp d) 228 K 42 [some (.inr (.inr 154)), some (.inl x1), some (.inl x2), some (.inl x3)] [] M = (zSp d 222 [.inr (.inr 154), .inl x3] M (fun z1 M1 => zC (zR32 z1) ((z1 = 0 → K (-1) M1) ∧ (¬ (z1 = 0) → zSp d 205 [.inr (.inr 154), .inl x1, .inl 161] M1 (fun z2 M2 => zC (zR32 z2) ((z2 = 0 → zWp (zSp d) 228 K 42 [some (.inr (.inr 154)), some (.inl x1), some (.inl x2), some (.inl (x3 + 1))] [] M2) ∧ (¬ (z2 = 0) → zSp d 205 [.inr (.inr 154), .inl x2, .inl 161] M2 (fun z3 M3 => zC (zR32 z3) ((¬ z3 = 0 → zWp (zSp d) 228 K 42 [some (.inr (.inr 154)), some (.inl x1), some (.inl x2), some (.inl (x3 + 1))] [] M3) ∧ (¬ (¬ z3 = 0) → K x3 M3)))))))))) := (zwp_blk (stops := [42]) (fuel := 49) pe_228).trans rfl
theorem pe_229 : zPg 229 = pg_229 := rfl
/-! 229 LeastFailingModel.isTaken -/
set_option maxHeartbeats 4000000 in
set_option maxRecDepth 100000 in
theorem me_229 {d : Nat} {K : Kt} {M : Mm} {a1 a2 : Int} : zSp (d + 1) 229 [.inr (.inr 154), .inl a1, .inl a2] M K = (zSp d 213 [.inr (.inr 154), .inl 161, .inl a1, .inl a2] M (fun z1 M1 => zC (zR32 z1) (zC (zR32 (M1 154 67)) ((z1 = (M1 154 67) → zSp d 177 [.inr (.inr 154), .inl 0, .inl 161] M1 (fun _ M2 => zSp d 196 [.inr (.inr 154), .inl 0] M2 (fun _ M3 => K 1 (zUp M3 154 68 ((M3 154 68) + 1))))) ∧ (¬ (z1 = (M1 154 67)) → K 0 M1))))) := (zwp_blk (stops := []) (fuel := 30) pe_229).trans rfl
theorem pe_230 : zPg 230 = pg_230 := rfl
/-! 230 LeastFailingModel.laysRow -/
set_option maxHeartbeats 4000000 in
set_option maxRecDepth 100000 in
theorem me_230 {d : Nat} {K : Kt} {M : Mm} {a1 : Int} : zSp (d + 1) 230 [.inr (.inr 154), .inl a1] M K = (zSp d 196 [.inr (.inr 154), .inl 0] M (fun _ M1 => zWp (zSp d) 230 K 12 [some (.inr (.inr 154)), some (.inl a1), some (.inl 0)] [] (zUp M1 154 70 0))) := (zwp_blk (stops := [12, 51]) (fuel := 49) pe_230).trans rfl
set_option maxHeartbeats 4000000 in
set_option maxRecDepth 100000 in
theorem fe_230_12 {d : Nat} {K : Kt} {M : Mm} {x1 x2 : Int} : zWp (zSp d) 230 K 12 [some (.inr (.inr 154)), some (.inl x1), some (.inl x2)] [] M = (zSp d 174 [.inr (.inr 154), .inl 0] M (fun z1 M1 => zC (zR32 x2) (zC (zR32 z1) ((z1 ≤ x2 → K 0 M1) ∧ (¬ (z1 ≤ x2) → zC (zSm x2 80) (zC (zR32 (M1 178 x2)) (zC (zR32 x1) ((¬ (M1 178 x2) = x1 → zWp (zSp d) 230 K 12 [some (.inr (.inr 154)), some (.inl x1), some (.inl (x2 + 1))] [] M1) ∧ (¬ (¬ (M1 178 x2) = x1) → zC (zSm x2 80) (zC (zR32 (M1 180 x2)) ((¬ (M1 180 x2) = 0 → zWp (zSp d) 230 K 51 [some (.inr (.inr 154)), some (.inl x1), some (.inl x2)] [] M1) ∧ (¬ (¬ (M1 180 x2) = 0) → zSp d 218 [.inr (.inr 154), .inl x2] M1 (fun z2 M2 => zC (zR32 z2) ((¬ z2 = 0 → zWp (zSp d) 230 K 51 [some (.inr (.inr 154)), some (.inl x1), some (.inl x2)] [] M2) ∧ (¬ (¬ z2 = 0) → zWp (zSp d) 230 K 12 [some (.inr (.inr 154)), some (.inl x1), some (.inl (x2 + 1))] [] M2))))))))))))))) := (zwp_blk (stops := [12, 51]) (fuel := 49) pe_230).trans rfl
set_option maxHeartbeats 4000000 in
set_option maxRecDepth 100000 in
theorem fe_230_51 {d : Nat} {K : Kt} {M : Mm} {x1 x2 : Int} : zWp (zSp d) 230 K 51 [some (.inr (.inr 154)), some (.inl x1), some (.inl x2)] [] M = (zC (zSm (M 154 70) 80) (zWp (zSp d) 230 K 12 [some (.inr (.inr 154)), some (.inl x1), some (.inl (x2 + 1))] [] (zUp (zUp M 191 (M 154 70) x2) 154 70 ((M 154 70) + 1)))) := (zwp_blk (stops := [12, 51]) (fuel := 49) pe_230).trans rfl
theorem pe_231 : zPg 231 = pg_231 := rfl
/-! 231 LeastFailingModel.takesRow -/
set_option maxHeartbeats 4000000 in
set_option maxRecDepth 100000 in
theorem me_231 {d : Nat} {K : Kt} {M : Mm} {a1 a2 a3 a4 a5 : Int} : zSp (d + 1) 231 [.inr (.inr 154), .inl a1, .inl a2, .inl a3, .inl a4, .inl a5] M K = (zSp d 214 [.inr (.inr 154)] M (fun _ M1 => zWp (zSp d) 231 K 7 [some (.inr (.inr 154)), some (.inl a1), some (.inl a2), some (.inl a3), some (.inl a4), some (.inl a5), some (.inl 0), none] [] M1)) := (zwp_blk (stops := [7, 32, 33, 98, 123, 124]) (fuel := 92) pe_231).trans rfl
set_option maxHeartbeats 4000000 in
set_option maxRecDepth 100000 in
theorem fe_231_7 {d : Nat} {K : Kt} {M : Mm} {x1 x2 x3 x4 x5 x6 : Int} : zWp (zSp d) 231 K 7 [some (.inr (.inr 154)), some (.inl x1), some (.inl x2), some (.inl x3), some (.inl x4), some (.inl x5), some (.inl x6), none] [] M = (zC (zR32 x6) (zC (zR32 (M 154 70)) (((M 154 70) ≤ x6 → zSp d 217 [.inr (.inr 154)] M (fun _ M1 => zSp d 229 [.inr (.inr 154), .inl x4, .inl x5] M1 (fun z2 M2 => zC (zR32 z2) ((¬ z2 = 0 → zWp (zSp d) 231 K 98 [some (.inr (.inr 154)), some (.inl x1), some (.inl x2), some (.inl x3), some (.inl x4), some (.inl x5), some (.inl 0), some (.inl 0)] [] M2) ∧ (¬ (¬ z2 = 0) → K 0 M2))))) ∧ (¬ ((M 154 70) ≤ x6) → zC (zR32 x6) (zC (zR32 x1) ((x6 < x1 → zWp (zSp d) 231 K 32 [some (.inr (.inr 154)), some (.inl x1), some (.inl x2), some (.inl x3), some (.inl x4), some (.inl x5), some (.inl x6), none] [] M) ∧ (¬ (x6 < x1) → zC (zR32 x6) (zC (zR32 x2) ((x2 ≤ x6 → zWp (zSp d) 231 K 32 [some (.inr (.inr 154)), some (.inl x1), some (.inl x2), some (.inl x3), some (.inl x4), some (.inl x5), some (.inl x6), none] [] M) ∧ (¬ (x2 ≤ x6) → zWp (zSp d) 231 K 33 [some (.inr (.inr 154)), some (.inl x1), some (.inl x2), some (.inl x3), some (.inl x4), some (.inl x5), some (.inl x6), none] [.inl 1] M)))))))))) := (zwp_blk (stops := [7, 32, 33, 98, 123, 124]) (fuel := 92) pe_231).trans rfl
set_option maxHeartbeats 4000000 in
set_option maxRecDepth 100000 in
theorem fe_231_32 {d : Nat} {K : Kt} {M : Mm} {x1 x2 x3 x4 x5 x6 : Int} : zWp (zSp d) 231 K 32 [some (.inr (.inr 154)), some (.inl x1), some (.inl x2), some (.inl x3), some (.inl x4), some (.inl x5), some (.inl x6), none] [] M = (zWp (zSp d) 231 K 33 [some (.inr (.inr 154)), some (.inl x1), some (.inl x2), some (.inl x3), some (.inl x4), some (.inl x5), some (.inl x6), none] [.inl 0] M) := (zwp_blk (stops := [7, 32, 33, 98, 123, 124]) (fuel := 92) pe_231).trans rfl
set_option maxHeartbeats 4000000 in
set_option maxRecDepth 100000 in
theorem fe_231_33 {d : Nat} {K : Kt} {M : Mm} {x1 x2 x3 x4 x5 x6 y0 : Int} : zWp (zSp d) 231 K 33 [some (.inr (.inr 154)), some (.inl x1), some (.inl x2), some (.inl x3), some (.inl x4), some (.inl x5), some (.inl x6), none] [.inl y0] M = (zC (zR32 y0) (zC (zR32 x3) ((¬ y0 = x3 → zWp (zSp d) 231 K 7 [some (.inr (.inr 154)), some (.inl x1), some (.inl x2), some (.inl x3), some (.inl x4), some (.inl x5), some (.inl (x6 + 1)), none] [] M) ∧ (¬ (¬ y0 = x3) → zC (zSm x6 80) (zC (zSm x6 80) (zC (zSm (M 191 x6) 80) (zC (zR32 (M 180 (M 191 x6))) (((M 180 (M 191 x6)) = 0 → zC (zSm (M 191 x6) 80) (zWp (zSp d) 231 K 7 [some (.inr (.inr 154)), some (.inl x1), some (.inl x2), some (.inl x3), some (.inl x4), some (.inl x5), some (.inl (x6 + 1)), none] [] (zUp M 187 (M 191 x6) 1))) ∧ (¬ ((M 180 (M 191 x6)) = 0) → zC (zSm (M 191 x6) 80) (zWp (zSp d) 231 K 7 [some (.inr (.inr 154)), some (.inl x1), some (.inl x2), some (.inl x3), some (.inl x4), some (.inl x5), some (.inl (x6 + 1)), none] [] (zUp M 187 (M 191 x6) 0))))))))))) := (zwp_blk (stops := [7, 32, 33, 98, 123, 124]) (fuel := 92) pe_231).trans rfl
set_option maxHeartbeats 4000000 in
set_option maxRecDepth 100000 in
theorem fe_231_98 {d : Nat} {K : Kt} {M : Mm} {x1 x2 x3 x4 x5 x6 x7 : Int} : zWp (zSp d) 231 K 98 [some (.inr (.inr 154)), some (.inl x1), some (.inl x2), some (.inl x3), some (.inl x4), some (.inl x5), some (.inl x6), some (.inl x7)] [] M = (zC (zR32 x7) (zC (zR32 (M 154 70)) (((M 154 70) ≤ x7 → K 1 (zUp M 154 70 x6)) ∧ (¬ ((M 154 70) ≤ x7) → zC (zR32 x7) (zC (zR32 x1) ((x7 < x1 → zWp (zSp d) 231 K 123 [some (.inr (.inr 154)), some (.inl x1), some (.inl x2), some (.inl x3), some (.inl x4), some (.inl x5), some (.inl x6), some (.inl x7)] [] M) ∧ (¬ (x7 < x1) → zC (zR32 x7) (zC (zR32 x2) ((x2 ≤ x7 → zWp (zSp d) 231 K 123 [some (.inr (.inr 154)), some (.inl x1), some (.inl x2), some (.inl x3), some (.inl x4), some (.inl x5), some (.inl x6), some (.inl x7)] [] M) ∧ (¬ (x2 ≤ x7) → zWp (zSp d) 231 K 124 [some (.inr (.inr 154)), some (.inl x1), some (.inl x2), some (.inl x3), some (.inl x4), some (.inl x5), some (.inl x6), some (.inl x7)] [.inl 1] M)))))))))) := (zwp_blk (stops := [7, 32, 33, 98, 123, 124]) (fuel := 92) pe_231).trans rfl
set_option maxHeartbeats 4000000 in
set_option maxRecDepth 100000 in
theorem fe_231_123 {d : Nat} {K : Kt} {M : Mm} {x1 x2 x3 x4 x5 x6 x7 : Int} : zWp (zSp d) 231 K 123 [some (.inr (.inr 154)), some (.inl x1), some (.inl x2), some (.inl x3), some (.inl x4), some (.inl x5), some (.inl x6), some (.inl x7)] [] M = (zWp (zSp d) 231 K 124 [some (.inr (.inr 154)), some (.inl x1), some (.inl x2), some (.inl x3), some (.inl x4), some (.inl x5), some (.inl x6), some (.inl x7)] [.inl 0] M) := (zwp_blk (stops := [7, 32, 33, 98, 123, 124]) (fuel := 92) pe_231).trans rfl
set_option maxHeartbeats 4000000 in
set_option maxRecDepth 100000 in
theorem fe_231_124 {d : Nat} {K : Kt} {M : Mm} {x1 x2 x3 x4 x5 x6 x7 y0 : Int} : zWp (zSp d) 231 K 124 [some (.inr (.inr 154)), some (.inl x1), some (.inl x2), some (.inl x3), some (.inl x4), some (.inl x5), some (.inl x6), some (.inl x7)] [.inl y0] M = (zC (zR32 y0) (zC (zR32 x3) ((¬ y0 = x3 → zC (zSm x7 80) (zC (zSm (M 191 x7) 80) (zC (zSm x6 80) (zWp (zSp d) 231 K 98 [some (.inr (.inr 154)), some (.inl x1), some (.inl x2), some (.inl x3), some (.inl x4), some (.inl x5), some (.inl (x6 + 1)), some (.inl (x7 + 1))] [] (zUp M 191 x6 (M 188 (M 191 x7))))))) ∧ (¬ (¬ y0 = x3) → zWp (zSp d) 231 K 98 [some (.inr (.inr 154)), some (.inl x1), some (.inl x2), some (.inl x3), some (.inl x4), some (.inl x5), some (.inl x6), some (.inl (x7 + 1))] [] M)))) := (zwp_blk (stops := [7, 32, 33, 98, 123, 124]) (fuel := 92) pe_231).trans rfl
theorem pe_232 : zPg 232 = pg_232 := rfl
/-! 232 LeastFailingModel.partFrom -/
set_option maxHeartbeats 4000000 in
set_option maxRecDepth 100000 in
theorem me_232 {d : Nat} {K : Kt} {M : Mm} {a1 a2 : Int} : zSp (d + 1) 232 [.inr (.inr 154), .inl a1, .inl a2] M K = (zC (zR32 (a1 * (M 154 70))) (zC (zR32 a2) (zC (zDv (a1 * (M 154 70)) a2) (K ((a1 * (M 154 70)) / a2) M)))) := (zwp_blk (stops := []) (fuel := 12) pe_232).trans rfl
theorem pe_233 : zPg 233 = pg_233 := rfl
/-! 233 LeastFailingModel.takesAPart -/
set_option maxHeartbeats 4000000 in
set_option maxRecDepth 100000 in
theorem me_233 {d : Nat} {K : Kt} {M : Mm} {a1 a2 a3 a4 : Int} : zSp (d + 1) 233 [.inr (.inr 154), .inl a1, .inl a2, .inl a3, .inl a4] M K = (zWp (zSp d) 233 K 3 [some (.inr (.inr 154)), some (.inl a1), some (.inl a2), some (.inl a3), some (.inl a4), some (.inl 0)] [] M) := (zwp_blk (stops := [3]) (fuel := 32) pe_233).trans rfl
set_option maxHeartbeats 4000000 in
set_option maxRecDepth 100000 in
theorem fe_233_3 {d : Nat} {K : Kt} {M : Mm} {x1 x2 x3 x4 x5 : Int} : zWp (zSp d) 233 K 3 [some (.inr (.inr 154)), some (.inl x1), some (.inl x2), some (.inl x3), some (.inl x4), some (.inl x5)] [] M = (zC (zR32 x5) (zC (zR32 x1) ((x1 ≤ x5 → K 0 M) ∧ (¬ (x1 ≤ x5) → zSp d 232 [.inr (.inr 154), .inl x5, .inl x1] M (fun z1 M1 => zSp d 232 [.inr (.inr 154), .inl (x5 + 1), .inl x1] M1 (fun z2 M2 => zSp d 231 [.inr (.inr 154), .inl z1, .inl z2, .inl x2, .inl x3, .inl x4] M2 (fun z3 M3 => zC (zR32 z3) ((z3 = 0 → zWp (zSp d) 233 K 3 [some (.inr (.inr 154)), some (.inl x1), some (.inl x2), some (.inl x3), some (.inl x4), some (.inl (x5 + 1))] [] M3) ∧ (¬ (z3 = 0) → K 1 M3))))))))) := (zwp_blk (stops := [3]) (fuel := 32) pe_233).trans rfl
theorem pe_234 : zPg 234 = pg_234 := rfl
/-! 234 LeastFailingModel.byHalves -/
set_option maxHeartbeats 4000000 in
set_option maxRecDepth 100000 in
theorem me_234 {d : Nat} {K : Kt} {M : Mm} {a1 : Int} : zSp (d + 1) 234 [.inr (.inr 154), .inl a1] M K = (zWp (zSp d) 234 K 2 [some (.inr (.inr 154)), some (.inl a1), some (.inl 2)] [] M) := (zwp_blk (stops := [2, 48]) (fuel := 53) pe_234).trans rfl
set_option maxHeartbeats 4000000 in
set_option maxRecDepth 100000 in
theorem fe_234_2 {d : Nat} {K : Kt} {M : Mm} {x1 x2 : Int} : zWp (zSp d) 234 K 2 [some (.inr (.inr 154)), some (.inl x1), some (.inl x2)] [] M = (zC (zR32 (M 154 70)) (((M 154 70) ≤ 1 → K 0 M) ∧ (¬ ((M 154 70) ≤ 1) → zSp d 233 [.inr (.inr 154), .inl x2, .inl 0, .inl 2, .inl x1] M (fun z1 M1 => zC (zR32 z1) ((z1 = 0 → zC (zR32 x2) ((x2 ≤ 2 → zWp (zSp d) 234 K 48 [some (.inr (.inr 154)), some (.inl x1), some (.inl x2)] [] M1) ∧ (¬ (x2 ≤ 2) → zSp d 233 [.inr (.inr 154), .inl x2, .inl 1, .inl 3, .inl x1] M1 (fun z2 M2 => zC (zR32 z2) ((z2 = 0 → zWp (zSp d) 234 K 48 [some (.inr (.inr 154)), some (.inl x1), some (.inl x2)] [] M2) ∧ (¬ (z2 = 0) → zWp (zSp d) 234 K 2 [some (.inr (.inr 154)), some (.inl x1), some (.inl (x2 + (-1)))] [] M2)))))) ∧ (¬ (z1 = 0) → zWp (zSp d) 234 K 2 [some (.inr (.inr 154)), some (.inl x1), some (.inl 2)] [] M1)))))) := (zwp_blk (stops := [2, 48]) (fuel := 53) pe_234).trans rfl
set_option maxHeartbeats 4000000 in
set_option maxRecDepth 100000 in
theorem fe_234_48 {d : Nat} {K : Kt} {M : Mm} {x1 x2 : Int} : zWp (zSp d) 234 K 48 [some (.inr (.inr 154)), some (.inl x1), some (.inl x2)] [] M = (zC (zR32 x2) (zC (zR32 (M 154 70)) (((M 154 70) ≤ x2 → K 0 M) ∧ (¬ ((M 154 70) ≤ x2) → zC (zR32 (2 * x2)) (zC (zR32 (M 154 70)) (((M 154 70) ≤ (2 * x2) → zWp (zSp d) 234 K 2 [some (.inr (.inr 154)), some (.inl x1), some (.inl (M 154 70))] [] M) ∧ (¬ ((M 154 70) ≤ (2 * x2)) → zWp (zSp d) 234 K 2 [some (.inr (.inr 154)), some (.inl x1), some (.inl (2 * x2))] [] M))))))) := (zwp_blk (stops := [2, 48]) (fuel := 53) pe_234).trans rfl
theorem pe_235 : zPg 235 = pg_235 := rfl
/-! 235 LeastFailingModel.byLevels -/
set_option maxHeartbeats 4000000 in
set_option maxRecDepth 100000 in
theorem me_235 {d : Nat} {K : Kt} {M : Mm} : zSp (d + 1) 235 [.inr (.inr 154)] M K = (zSp d 196 [.inr (.inr 154), .inl 0] M (fun _ M1 => zWp (zSp d) 235 K 7 [some (.inr (.inr 154)), some (.inl 1)] [] M1)) := (zwp_blk (stops := [7, 47]) (fuel := 38) pe_235).trans rfl
set_option maxHeartbeats 4000000 in
set_option maxRecDepth 100000 in
theorem fe_235_7 {d : Nat} {K : Kt} {M : Mm} {x1 : Int} : zWp (zSp d) 235 K 7 [some (.inr (.inr 154)), some (.inl x1)] [] M = (zC (zR32 x1) (zC (zR32 (M 154 46)) (((M 154 46) < x1 → K 0 M) ∧ (¬ ((M 154 46) < x1) → zSp d 230 [.inr (.inr 154), .inl x1] M (fun _ M1 => zC (zR32 (M1 154 70)) (((M1 154 70) ≤ 0 → zWp (zSp d) 235 K 47 [some (.inr (.inr 154)), some (.inl x1)] [] M1) ∧ (¬ ((M1 154 70) ≤ 0) → zSp d 231 [.inr (.inr 154), .inl 0, .inl (M1 154 70), .inl 1, .inl 1, .inl x1] M1 (fun z2 M2 => zC (zR32 z2) ((¬ z2 = 0 → zWp (zSp d) 235 K 47 [some (.inr (.inr 154)), some (.inl x1)] [] M2) ∧ (¬ (¬ z2 = 0) → zSp d 234 [.inr (.inr 154), .inl x1] M2 (fun _ M3 => zWp (zSp d) 235 K 47 [some (.inr (.inr 154)), some (.inl x1)] [] M3))))))))))) := (zwp_blk (stops := [7, 47]) (fuel := 38) pe_235).trans rfl
set_option maxHeartbeats 4000000 in
set_option maxRecDepth 100000 in
theorem fe_235_47 {d : Nat} {K : Kt} {M : Mm} {x1 : Int} : zWp (zSp d) 235 K 47 [some (.inr (.inr 154)), some (.inl x1)] [] M = (zSp d 196 [.inr (.inr 154), .inl 0] M (fun _ M1 => zWp (zSp d) 235 K 7 [some (.inr (.inr 154)), some (.inl (x1 + 1))] [] M1)) := (zwp_blk (stops := [7, 47]) (fuel := 38) pe_235).trans rfl
theorem pe_236 : zPg 236 = pg_236 := rfl
/-! 236 LeastFailingModel.takesHoist -/
set_option maxHeartbeats 4000000 in
set_option maxRecDepth 100000 in
theorem me_236 {d : Nat} {K : Kt} {M : Mm} {a1 : Int} : zSp (d + 1) 236 [.inr (.inr 154), .inl a1] M K = (zSp d 176 [.inr (.inr 154), .inl 0, .inl a1] M (fun z1 M1 => zWp (zSp d) 236 K 13 [some (.inr (.inr 154)), some (.inl a1), some (.inl (a1 + z1)), some (.inl (a1 + 1))] [] M1)) := (zwp_blk (stops := [13]) (fuel := 45) pe_236).trans rfl
set_option maxHeartbeats 4000000 in
set_option maxRecDepth 100000 in
theorem fe_236_13 {d : Nat} {K : Kt} {M : Mm} {x1 x2 x3 : Int} : zWp (zSp d) 236 K 13 [some (.inr (.inr 154)), some (.inl x1), some (.inl x2), some (.inl x3)] [] M = (zC (zR32 x3) (zC (zR32 x2) ((x2 ≤ x3 → K 0 M) ∧ (¬ (x2 ≤ x3) → zSp d 197 [.inr (.inr 154), .inl 0, .inl x3] M (fun z1 M1 => zSp d 197 [.inr (.inr 154), .inl 0, .inl x1] M1 (fun z2 M2 => zC (zR32 z1) (zC (zR32 z2) ((z1 = z2 → zSp d 219 [.inr (.inr 154), .inl x1, .inl 2, .inl x3] M2 (fun _ M3 => zSp d 229 [.inr (.inr 154), .inl 4, .inl x1] M3 (fun z4 M4 => zC (zR32 z4) ((z4 = 0 → zWp (zSp d) 236 K 13 [some (.inr (.inr 154)), some (.inl x1), some (.inl x2), some (.inl (x3 + 1))] [] M4) ∧ (¬ (z4 = 0) → K 1 M4))))) ∧ (¬ (z1 = z2) → zWp (zSp d) 236 K 13 [some (.inr (.inr 154)), some (.inl x1), some (.inl x2), some (.inl (x3 + 1))] [] M2))))))))) := (zwp_blk (stops := [13]) (fuel := 45) pe_236).trans rfl
theorem pe_237 : zPg 237 = pg_237 := rfl
/-! 237 LeastFailingModel.takesCut -/
set_option maxHeartbeats 4000000 in
set_option maxRecDepth 100000 in
theorem me_237 {d : Nat} {K : Kt} {M : Mm} {a1 : Int} : zSp (d + 1) 237 [.inr (.inr 154), .inl a1] M K = (zC (zSm a1 80) (zC (zR32 (M 180 a1)) (((M 180 a1) = 0 → zWp (zSp d) 237 K 27 [some (.inr (.inr 154)), some (.inl a1)] [] M) ∧ (¬ ((M 180 a1) = 0) → zSp d 219 [.inr (.inr 154), .inl a1, .inl 0, .inl (-1)] M (fun _ M1 => zSp d 229 [.inr (.inr 154), .inl 5, .inl a1] M1 (fun z2 M2 => zC (zR32 z2) ((z2 = 0 → zWp (zSp d) 237 K 27 [some (.inr (.inr 154)), some (.inl a1)] [] M2) ∧ (¬ (z2 = 0) → K 1 M2)))))))) := (zwp_blk (stops := [27]) (fuel := 38) pe_237).trans rfl
set_option maxHeartbeats 4000000 in
set_option maxRecDepth 100000 in
theorem fe_237_27 {d : Nat} {K : Kt} {M : Mm} {x1 : Int} : zWp (zSp d) 237 K 27 [some (.inr (.inr 154)), some (.inl x1)] [] M = (zSp d 218 [.inr (.inr 154), .inl x1] M (fun z1 M1 => zC (zR32 z1) ((¬ z1 = 0 → zSp d 219 [.inr (.inr 154), .inl x1, .inl 1, .inl (-1)] M1 (fun _ M2 => zSp d 229 [.inr (.inr 154), .inl 5, .inl x1] M2 (fun z3 M3 => zC (zBo z3) (K z3 M3)))) ∧ (¬ (¬ z1 = 0) → K 0 M1)))) := (zwp_blk (stops := [27]) (fuel := 38) pe_237).trans rfl
theorem pe_238 : zPg 238 = pg_238 := rfl
/-! 238 LeastFailingModel.byNodes -/
set_option maxHeartbeats 4000000 in
set_option maxRecDepth 100000 in
theorem me_238 {d : Nat} {K : Kt} {M : Mm} {a1 : Int} : zSp (d + 1) 238 [.inr (.inr 154), .inl a1] M K = (zSp d 196 [.inr (.inr 154), .inl 0] M (fun _ M1 => zWp (zSp d) 238 K 7 [some (.inr (.inr 154)), some (.inl a1), some (.inl 0)] [] M1)) := (zwp_blk (stops := [7]) (fuel := 29) pe_238).trans rfl
set_option maxHeartbeats 4000000 in
set_option maxRecDepth 100000 in
theorem fe_238_7 {d : Nat} {K : Kt} {M : Mm} {x1 x2 : Int} : zWp (zSp d) 238 K 7 [some (.inr (.inr 154)), some (.inl x1), some (.inl x2)] [] M = (zSp d 174 [.inr (.inr 154), .inl 0] M (fun z1 M1 => zC (zR32 x2) (zC (zR32 z1) ((z1 ≤ x2 → K 0 M1) ∧ (¬ (z1 ≤ x2) → zC (zR32 x1) ((x1 = 0 → zSp d 237 [.inr (.inr 154), .inl x2] M1 (fun z2 M2 => zC (zR32 z2) ((¬ z2 = 0 → zWp (zSp d) 238 K 7 [some (.inr (.inr 154)), some (.inl x1), some (.inl x2)] [] M2) ∧ (¬ (¬ z2 = 0) → zWp (zSp d) 238 K 7 [some (.inr (.inr 154)), some (.inl x1), some (.inl (x2 + 1))] [] M2)))) ∧ (¬ (x1 = 0) → zSp d 236 [.inr (.inr 154), .inl x2] M1 (fun z3 M3 => zC (zR32 z3) ((z3 = 0 → zWp (zSp d) 238 K 7 [some (.inr (.inr 154)), some (.inl x1), some (.inl (x2 + 1))] [] M3) ∧ (¬ (z3 = 0) → zWp (zSp d) 238 K 7 [some (.inr (.inr 154)), some (.inl x1), some (.inl x2)] [] M3)))))))))) := (zwp_blk (stops := [7]) (fuel := 29) pe_238).trans rfl
theorem pe_239 : zPg 239 = pg_239 := rfl
/-! 239 LeastFailingModel.reduces -/
set_option maxHeartbeats 4000000 in
set_option maxRecDepth 100000 in
theorem me_239 {d : Nat} {K : Kt} {M : Mm} {a1 : Int} : zSp (d + 1) 239 [.inr (.inr 154), .inl a1] M K = (zC (zR32 a1) ((a1 = 0 → zWp (zSp d) 239 K 9 [some (.inr (.inr 154)), some (.inl a1)] [] M) ∧ (¬ (a1 = 0) → zC (zR32 a1) ((¬ a1 = 3 → zWp (zSp d) 239 K 13 [some (.inr (.inr 154)), some (.inl a1)] [] M) ∧ (¬ (¬ a1 = 3) → zWp (zSp d) 239 K 9 [some (.inr (.inr 154)), some (.inl a1)] [] M))))) := (zwp_blk (stops := [9, 13, 23, 28, 38]) (fuel := 31) pe_239).trans rfl
set_option maxHeartbeats 4000000 in
set_option maxRecDepth 100000 in
theorem fe_239_9 {d : Nat} {K : Kt} {M : Mm} {x1 : Int} : zWp (zSp d) 239 K 9 [some (.inr (.inr 154)), some (.inl x1)] [] M = (zSp d 235 [.inr (.inr 154)] M (fun _ M1 => zWp (zSp d) 239 K 13 [some (.inr (.inr 154)), some (.inl x1)] [] M1)) := (zwp_blk (stops := [9, 13, 23, 28, 38]) (fuel := 31) pe_239).trans rfl
set_option maxHeartbeats 4000000 in
set_option maxRecDepth 100000 in
theorem fe_239_13 {d : Nat} {K : Kt} {M : Mm} {x1 : Int} : zWp (zSp d) 239 K 13 [some (.inr (.inr 154)), some (.inl x1)] [] M = (zC (zR32 x1) ((x1 = 1 → zWp (zSp d) 239 K 23 [some (.inr (.inr 154)), some (.inl x1)] [] M) ∧ (¬ (x1 = 1) → zC (zR32 x1) ((¬ x1 = 3 → zWp (zSp d) 239 K 28 [some (.inr (.inr 154)), some (.inl x1)] [] M) ∧ (¬ (¬ x1 = 3) → zWp (zSp d) 239 K 23 [some (.inr (.inr 154)), some (.inl x1)] [] M))))) := (zwp_blk (stops := [9, 13, 23, 28, 38]) (fuel := 31) pe_239).trans rfl
set_option maxHeartbeats 4000000 in
set_option maxRecDepth 100000 in
theorem fe_239_23 {d : Nat} {K : Kt} {M : Mm} {x1 : Int} : zWp (zSp d) 239 K 23 [some (.inr (.inr 154)), some (.inl x1)] [] M = (zSp d 238 [.inr (.inr 154), .inl 1] M (fun _ M1 => zWp (zSp d) 239 K 28 [some (.inr (.inr 154)), some (.inl x1)] [] M1)) := (zwp_blk (stops := [9, 13, 23, 28, 38]) (fuel := 31) pe_239).trans rfl
set_option maxHeartbeats 4000000 in
set_option maxRecDepth 100000 in
theorem fe_239_28 {d : Nat} {K : Kt} {M : Mm} {x1 : Int} : zWp (zSp d) 239 K 28 [some (.inr (.inr 154)), some (.inl x1)] [] M = (zC (zR32 x1) ((x1 = 2 → zWp (zSp d) 239 K 38 [some (.inr (.inr 154)), some (.inl x1)] [] M) ∧ (¬ (x1 = 2) → zC (zR32 x1) ((¬ x1 = 3 → K 0 M) ∧ (¬ (¬ x1 = 3) → zWp (zSp d) 239 K 38 [some (.inr (.inr 154)), some (.inl x1)] [] M))))) := (zwp_blk (stops := [9, 13, 23, 28, 38]) (fuel := 31) pe_239).trans rfl
set_option maxHeartbeats 4000000 in
set_option maxRecDepth 100000 in
theorem fe_239_38 {d : Nat} {K : Kt} {M : Mm} {x1 : Int} : zWp (zSp d) 239 K 38 [some (.inr (.inr 154)), some (.inl x1)] [] M = (zSp d 238 [.inr (.inr 154), .inl 0] M (fun _ M1 => K 0 M1)) := (zwp_blk (stops := [9, 13, 23, 28, 38]) (fuel := 31) pe_239).trans rfl
theorem pe_240 : zPg 240 = pg_240 := rfl
/-! 240 LeastFailingModel.reduce -/
set_option maxHeartbeats 4000000 in
set_option maxRecDepth 100000 in
theorem me_240 {d : Nat} {K : Kt} {M : Mm} {a1 a2 : Int} : zSp (d + 1) 240 [.inr (.inr 154), .inl a1, .inl a2] M K = (zSp d 227 [.inr (.inr 154), .inl a1] (zUp M 154 0 0) (fun z1 M1 => zC (zR32 z1) ((z1 = 0 → K (-2) M1) ∧ (¬ (z1 = 0) → zC (zR32 a2) (zSp d 137 [.inr (.inl a2), .inr (.inl 0), .inr (.inl 3)] M1 (fun z2 M2 => zC (zR32 z2) ((¬ z2 = 0 → zSp d 174 [.inr (.inr 154), .inl 0] M2 (fun z3 M3 => zC (zR32 z3) ((z3 = 0 → K (-3) M3) ∧ (¬ (z3 = 0) → zSp d 213 [.inr (.inr 154), .inl 0, .inl 0, .inl (-1)] M3 (fun z4 M4 => zC (zR32 z4) (zC (zR32 a1) ((z4 = a1 → zSp d 183 [.inr (.inr 154)] M4 (fun _ M5 => zWp (zSp d) 240 K 66 [some (.inr (.inr 154)), some (.inl a1), some (.inl a2), some (.inl (-1))] [] (zUp (zUp M5 154 67 a1) 154 68 0))) ∧ (¬ (z4 = a1) → K (-3) M4)))))))) ∧ (¬ (¬ z2 = 0) → K (-2) M2)))))))) := (zwp_blk (stops := [66, 87]) (fuel := 68) pe_240).trans rfl
set_option maxHeartbeats 4000000 in
set_option maxRecDepth 100000 in
theorem fe_240_66 {d : Nat} {K : Kt} {M : Mm} {x1 x2 x3 : Int} : zWp (zSp d) 240 K 66 [some (.inr (.inr 154)), some (.inl x1), some (.inl x2), some (.inl x3)] [] M = (zC (zR32 x3) (zC (zR32 (M 154 68)) ((x3 = (M 154 68) → K (M 154 68) M) ∧ (¬ (x3 = (M 154 68)) → zC (zR32 x2) ((¬ x2 = 3 → zWp (zSp d) 240 K 87 [some (.inr (.inr 154)), some (.inl x1), some (.inl x2), some (.inl x3)] [.inl (-1)] M) ∧ (¬ (¬ x2 = 3) → zWp (zSp d) 240 K 87 [some (.inr (.inr 154)), some (.inl x1), some (.inl x2), some (.inl x3)] [.inl (M 154 68)] M)))))) := (zwp_blk (stops := [66, 87]) (fuel := 68) pe_240).trans rfl
set_option maxHeartbeats 4000000 in
set_option maxRecDepth 100000 in
theorem fe_240_87 {d : Nat} {K : Kt} {M : Mm} {x1 x2 x3 y0 : Int} : zWp (zSp d) 240 K 87 [some (.inr (.inr 154)), some (.inl x1), some (.inl x2), some (.inl x3)] [.inl y0] M = (zSp d 239 [.inr (.inr 154), .inl x2] M (fun _ M1 => zC (zR32 x2) ((x2 = 3 → zWp (zSp d) 240 K 66 [some (.inr (.inr 154)), some (.inl x1), some (.inl x2), some (.inl y0)] [] M1) ∧ (¬ (x2 = 3) → zWp (zSp d) 240 K 66 [some (.inr (.inr 154)), some (.inl x1), some (.inl x2), some (.inl (M1 154 68))] [] M1)))) := (zwp_blk (stops := [66, 87]) (fuel := 68) pe_240).trans rfl
theorem pe_241 : zPg 241 = pg_241 := rfl
/-! 241 LeastFailingModel.row -/
set_option maxHeartbeats 4000000 in
set_option maxRecDepth 100000 in
theorem me_241 {d : Nat} {K : Kt} {M : Mm} {a1 a2 : Int} : zSp (d + 1) 241 [.inr (.inr 154), .inl a1, .inl a2] M K = (zC (zR32 a1) ((a1 < 1 → K (-1) (zUp M 154 0 0)) ∧ (¬ (a1 < 1) → zSp d 174 [.inr (.inr 154), .inl 0] (zUp M 154 0 0) (fun z1 M1 => zC (zR32 z1) ((¬ z1 = 0 → zSp d 230 [.inr (.inr 154), .inl a1] M1 (fun _ M2 => zC (zR32 a2) ((¬ a2 = (-1) → zC (zR32 a2) (zC (zR32 ((M2 154 70) - 1)) (zSp d 137 [.inr (.inl a2), .inr (.inl 0), .inr (.inl ((M2 154 70) - 1))] M2 (fun z3 M3 => zC (zR32 z3) ((z3 = 0 → K (-1) M3) ∧ (¬ (z3 = 0) → zC (zSm a2 80) (K (M3 191 a2) M3))))))) ∧ (¬ (¬ a2 = (-1)) → K (M2 154 70) M2)))) ∧ (¬ (¬ z1 = 0) → K (-1) M1)))))) := (zwp_blk (stops := []) (fuel := 43) pe_241).trans rfl
theorem pe_242 : zPg 242 = pg_242 := rfl
/-! 242 LeastFailingModel.part -/
set_option maxHeartbeats 4000000 in
set_option maxRecDepth 100000 in
theorem me_242 {d : Nat} {K : Kt} {M : Mm} {a1 a2 a3 a4 : Int} : zSp (d + 1) 242 [.inr (.inr 154), .inl a1, .inl a2, .inl a3, .inl a4] M K = (zC (zR32 a1) (zSp d 137 [.inr (.inl a1), .inr (.inl 1), .inr (.inl 80)] (zUp M 154 0 0) (fun z1 M1 => zC (zR32 z1) ((z1 = 0 → K (-1) M1) ∧ (¬ (z1 = 0) → zC (zR32 a2) (zC (zR32 a1) (zSp d 137 [.inr (.inl a2), .inr (.inl 1), .inr (.inl a1)] M1 (fun z2 M2 => zC (zR32 z2) ((z2 = 0 → K (-1) M2) ∧ (¬ (z2 = 0) → zC (zR32 a3) (zC (zR32 (a2 - 1)) (zSp d 137 [.inr (.inl a3), .inr (.inl 0), .inr (.inl (a2 - 1))] M2 (fun z3 M3 => zC (zR32 z3) ((z3 = 0 → K (-1) M3) ∧ (¬ (z3 = 0) → zC (zR32 a4) (zSp d 137 [.inr (.inl a4), .inr (.inl 0), .inr (.inl 1)] M3 (fun z4 M4 => zC (zR32 z4) ((¬ z4 = 0 → zC (zR32 (a3 * a1)) (zC (zR32 a2) (zC (zDv (a3 * a1) a2) (zC (zR32 a4) ((¬ a4 = 0 → zC (zR32 ((a3 + 1) * a1)) (zC (zR32 a2) (zC (zDv ((a3 + 1) * a1) a2) (K ((((a3 + 1) * a1) / a2) - ((a3 * a1) / a2)) M4)))) ∧ (¬ (¬ a4 = 0) → K ((a3 * a1) / a2) M4)))))) ∧ (¬ (¬ z4 = 0) → K (-1) M4))))))))))))))))))) := (zwp_blk (stops := []) (fuel := 58) pe_242).trans rfl
theorem pe_243 : zPg 243 = pg_243 := rfl
/-! 243 LeastFailingModel.tried -/
set_option maxHeartbeats 4000000 in
set_option maxRecDepth 100000 in
theorem me_243 {d : Nat} {K : Kt} {M : Mm} {a1 : Int} : zSp (d + 1) 243 [.inr (.inr 154), .inl a1] M K = (zC (zR32 a1) (zC (zR32 ((M 154 37) - 1)) (zSp d 137 [.inr (.inl a1), .inr (.inl (-1)), .inr (.inl ((M 154 37) - 1))] (zUp M 154 0 0) (fun z1 M1 => zC (zR32 z1) ((¬ z1 = 0 → zWp (zSp d) 243 K 30 [some (.inr (.inr 154)), some (.inl a1), some (.inl 0), some (.inl 0)] [] M1) ∧ (¬ (¬ z1 = 0) → K (-2) M1)))))) := (zwp_blk (stops := [30, 54]) (fuel := 45) pe_243).trans rfl
set_option maxHeartbeats 4000000 in
set_option maxRecDepth 100000 in
theorem fe_243_30 {d : Nat} {K : Kt} {M : Mm} {x1 x2 x3 : Int} : zWp (zSp d) 243 K 30 [some (.inr (.inr 154)), some (.inl x1), some (.inl x2), some (.inl x3)] [] M = (zC (zR32 x3) (zC (zR32 (M 154 57)) (((M 154 57) ≤ x3 → K x2 M) ∧ (¬ ((M 154 57) ≤ x3) → zC (zSm x3 600) (zC (zR32 (M 183 x3)) (zC (zR32 x1) ((¬ (M 183 x3) = x1 → zWp (zSp d) 243 K 54 [some (.inr (.inr 154)), some (.inl x1), some (.inl x2), some (.inl x3)] [.inl 0, .inl x2] M) ∧ (¬ (¬ (M 183 x3) = x1) → zWp (zSp d) 243 K 54 [some (.inr (.inr 154)), some (.inl x1), some (.inl x2), some (.inl x3)] [.inl 1, .inl x2] M)))))))) := (zwp_blk (stops := [30, 54]) (fuel := 45) pe_243).trans rfl
set_option maxHeartbeats 4000000 in
set_option maxRecDepth 100000 in
theorem fe_243_54 {d : Nat} {K : Kt} {M : Mm} {x1 x2 x3 y0 y1 : Int} : zWp (zSp d) 243 K 54 [some (.inr (.inr 154)), some (.inl x1), some (.inl x2), some (.inl x3)] [.inl y1, .inl y0] M = (zSp d 138 [.inl y1] M (fun z1 M1 => zWp (zSp d) 243 K 30 [some (.inr (.inr 154)), some (.inl x1), some (.inl (y0 + z1)), some (.inl (x3 + 1))] [] M1)) := (zwp_blk (stops := [30, 54]) (fuel := 45) pe_243).trans rfl
theorem pe_244 : zPg 244 = pg_244 := rfl
/-! 244 LeastFailingModel.trace -/
set_option maxHeartbeats 4000000 in
set_option maxRecDepth 100000 in
theorem me_244 {d : Nat} {K : Kt} {M : Mm} {a1 a2 : Int} : zSp (d + 1) 244 [.inr (.inr 154), .inl a1, .inl a2] M K = (zC (zR32 a1) (zC (zR32 ((M 154 57) - 1)) (zSp d 137 [.inr (.inl a1), .inr (.inl 0), .inr (.inl ((M 154 57) - 1))] (zUp M 154 0 0) (fun z1 M1 => zC (zR32 z1) ((¬ z1 = 0 → zC (zR32 a2) (((a2 = 0 → zC (zSm a1 600) (K (M1 182 a1) M1)) ∧ ((a2 = 1 → zC (zSm a1 600) (K (M1 183 a1) M1)) ∧ ((a2 = 2 → zC (zSm a1 600) (K (M1 184 a1) M1)) ∧ ((a2 = 3 → zC (zSm a1 600) (K (M1 185 a1) M1)) ∧ True)))) ∧ ((a2 < 0 ∨ 3 < a2) → K (-2) M1))) ∧ (¬ (¬ z1 = 0) → K (-2) M1)))))) := (zwp_blk (stops := []) (fuel := 44) pe_244).trans rfl
theorem pe_245 : zPg 245 = pg_245 := rfl
/-! 245 LeastFailingModel.votes -/
set_option maxHeartbeats 4000000 in
set_option maxRecDepth 100000 in
theorem me_245 {d : Nat} {K : Kt} {M : Mm} {a1 : Int} : zSp (d + 1) 245 [.inr (.inr 154), .inl a1] M K = (zC (zR32 a1) (zSp d 137 [.inr (.inl a1), .inr (.inl 1), .inr (.inl 9)] (zUp M 154 0 0) (fun z1 M1 => zC (zR32 z1) ((z1 = 0 → K (-2) M1) ∧ (¬ (z1 = 0) → zC (zR32 a1) (zC (zDv a1 2) (zC (zR32 (a1 % 2)) ((¬ (a1 % 2) = 0 → zSp d 209 [.inr (.inr 154)] (zUp M1 154 48 a1) (fun _ M2 => K (M1 154 48) M2)) ∧ (¬ (¬ (a1 % 2) = 0) → K (-2) M1))))))))) := (zwp_blk (stops := []) (fuel := 30) pe_245).trans rfl
theorem pe_246 : zPg 246 = pg_246 := rfl
/-! 246 LeastFailingModel.seed -/
set_option maxHeartbeats 4000000 in
set_option maxRecDepth 100000 in
theorem me_246 {d : Nat} {K : Kt} {M : Mm} {a1 : Int} : zSp (d + 1) 246 [.inr (.inr 154), .inl a1] M K = (zC (zR32 a1) ((0 ≤ a1 → zC (zR32 a1) (zSp d 209 [.inr (.inr 154)] (zUp (zUp M 154 0 0) 154 47 a1) (fun _ M1 => K 1 M1))) ∧ (¬ (0 ≤ a1) → K (-2) (zUp M 154 0 0)))) := (zwp_blk (stops := []) (fuel := 20) pe_246).trans rfl
theorem pe_247 : zPg 247 = pg_247 := rfl
/-! 247 LeastFailingModel.ways -/
set_option maxHeartbeats 4000000 in
set_option maxRecDepth 100000 in
theorem me_247 {d : Nat} {K : Kt} {M : Mm} {a1 a2 a3 : Int} : zSp (d + 1) 247 [.inl a1, .inl a2, .inl a3] M K = (zWp (zSp d) 247 K 5 [some (.inl a1), some (.inl a2), some (.inl a3), some (.inr (.inl 1)), none, some (.inl 0)] [] M) := (zwp_blk (stops := [5, 34]) (fuel := 48) pe_247).trans rfl
set_option maxHeartbeats 4000000 in
set_option maxRecDepth 100000 in
theorem fe_247_5 {d : Nat} {K : Kt} {M : Mm} {x0 x1 x2 x3 x5 : Int} : zWp (zSp d) 247 K 5 [some (.inl x0), some (.inl x1), some (.inl x2), some (.inr (.inl x3)), none, some (.inl x5)] [] M = (zC (zR32 x5) (zC (zR32 x2) ((x2 ≤ x5 → zWp (zSp d) 247 K 34 [some (.inl x0), some (.inl x1), some (.inl x2), some (.inr (.inl x3)), none, some (.inl 0)] [] M) ∧ (¬ (x2 ≤ x5) → zC (zR32 (x1 - x5)) (zC (zR32 (x5 + 1)) (zC (zR64 (x3 * (x1 - x5))) (zC (zR64 (x5 + 1)) (zC (zDv (x3 * (x1 - x5)) (x5 + 1)) (zWp (zSp d) 247 K 5 [some (.inl x0), some (.inl x1), some (.inl x2), some (.inr (.inl ((x3 * (x1 - x5)) / (x5 + 1)))), none, some (.inl (x5 + 1))] [] M))))))))) := (zwp_blk (stops := [5, 34]) (fuel := 48) pe_247).trans rfl
set_option maxHeartbeats 4000000 in
set_option maxRecDepth 100000 in
theorem fe_247_34 {d : Nat} {K : Kt} {M : Mm} {x0 x1 x2 x3 x5 : Int} : zWp (zSp d) 247 K 34 [some (.inl x0), some (.inl x1), some (.inl x2), some (.inr (.inl x3)), none, some (.inl x5)] [] M = (zC (zR32 x5) (zC (zR32 x1) ((x1 ≤ x5 → K x3 M) ∧ (¬ (x1 ≤ x5) → zC (zR32 x5) (zC (zR32 x2) ((x2 ≤ x5 → zC (zR32 (100 - x0)) (zWp (zSp d) 247 K 34 [some (.inl x0), some (.inl x1), some (.inl x2), some (.inr (.inl (x3 * (100 - x0)))), none, some (.inl (x5 + 1))] [] M)) ∧ (¬ (x2 ≤ x5) → zC (zR32 x0) (zWp (zSp d) 247 K 34 [some (.inl x0), some (.inl x1), some (.inl x2), some (.inr (.inl (x3 * x0))), none, some (.inl (x5 + 1))] [] M)))))))) := (zwp_blk (stops := [5, 34]) (fuel := 48) pe_247).trans rfl
theorem pe_248 : zPg 248 = pg_248 := rfl
/-! 248 LeastFailingModel.sureOf -/
set_option maxHeartbeats 4000000 in
set_option maxRecDepth 100000 in
theorem me_248 {d : Nat} {K : Kt} {M : Mm} {a1 a2 : Int} : zSp (d + 1) 248 [.inl a1, .inl a2] M K = (zC (zR32 a2) (zC (zDv a2 2) (zWp (zSp d) 248 K 9 [some (.inl a1), some (.inl a2), some (.inr (.inl 0)), none, some (.inl ((a2 / 2) + 1))] [] M))) := (zwp_blk (stops := [9, 46]) (fuel := 47) pe_248).trans rfl
set_option maxHeartbeats 4000000 in
set_option maxRecDepth 100000 in
theorem fe_248_9 {d : Nat} {K : Kt} {M : Mm} {x0 x1 x2 x4 : Int} : zWp (zSp d) 248 K 9 [some (.inl x0), some (.inl x1), some (.inr (.inl x2)), none, some (.inl x4)] [] M = (zC (zR32 x4) (zC (zR32 x1) ((x1 < x4 → zC (zR32 x1) ((¬ x1 = 1 → zWp (zSp d) 248 K 46 [some (.inl x0), some (.inl x1), some (.inr (.inl x2)), none, some (.inl 3)] [] M) ∧ (¬ (¬ x1 = 1) → K (x2 * 10000) M))) ∧ (¬ (x1 < x4) → zSp d 247 [.inl x0, .inl x1, .inl x4] M (fun z1 M1 => zWp (zSp d) 248 K 9 [some (.inl x0), some (.inl x1), some (.inr (.inl (x2 + z1))), none, some (.inl (x4 + 1))] [] M1))))) := (zwp_blk (stops := [9, 46]) (fuel := 47) pe_248).trans rfl
set_option maxHeartbeats 4000000 in
set_option maxRecDepth 100000 in
theorem fe_248_46 {d : Nat} {K : Kt} {M : Mm} {x0 x1 x2 x4 : Int} : zWp (zSp d) 248 K 46 [some (.inl x0), some (.inl x1), some (.inr (.inl x2)), none, some (.inl x4)] [] M = (zC (zR32 x4) (zC (zR32 x1) ((x1 ≤ x4 → K x2 M) ∧ (¬ (x1 ≤ x4) → zC (zR64 x2) (zC (zDv x2 100) (zWp (zSp d) 248 K 46 [some (.inl x0), some (.inl x1), some (.inr (.inl (x2 / 100))), none, some (.inl (x4 + 1))] [] M)))))) := (zwp_blk (stops := [9, 46]) (fuel := 47) pe_248).trans rfl
theorem pe_249 : zPg 249 = pg_249 := rfl
/-! 249 LeastFailingModel.sure -/
set_option maxHeartbeats 4000000 in
set_option maxRecDepth 100000 in
theorem me_249 {d : Nat} {K : Kt} {M : Mm} {a1 a2 : Int} : zSp (d + 1) 249 [.inr (.inr 154), .inl a1, .inl a2] M K = (zC (zR32 a1) (zSp d 137 [.inr (.inl a1), .inr (.inl 0), .inr (.inl 100)] (zUp M 154 0 0) (fun z1 M1 => zC (zR32 z1) ((z1 = 0 → K (-2) M1) ∧ (¬ (z1 = 0) → zC (zR32 a2) (zSp d 137 [.inr (.inl a2), .inr (.inl 1), .inr (.inl 9)] M1 (fun z2 M2 => zC (zR32 z2) ((z2 = 0 → K (-2) M2) ∧ (¬ (z2 = 0) → zC (zR32 a2) (zC (zDv a2 2) (zC (zR32 (a2 % 2)) ((¬ (a2 % 2) = 1 → K (-2) M2) ∧ (¬ (¬ (a2 % 2) = 1) → zSp d 248 [.inl a1, .inl a2] M2 (fun z3 M3 => K z3 M3)))))))))))))) := (zwp_blk (stops := []) (fuel := 31) pe_249).trans rfl
theorem pe_250 : zPg 250 = pg_250 := rfl
/-! 250 LeastFailingModel.enough -/
set_option maxHeartbeats 4000000 in
set_option maxRecDepth 100000 in
theorem me_250 {d : Nat} {K : Kt} {M : Mm} {a1 a2 : Int} : zSp (d + 1) 250 [.inr (.inr 154), .inl a1, .inl a2] M K = (zC (zR32 a1) (zSp d 137 [.inr (.inl a1), .inr (.inl 0), .inr (.inl 100)] (zUp M 154 0 0) (fun z1 M1 => zC (zR32 z1) ((z1 = 0 → K (-2) M1) ∧ (¬ (z1 = 0) → zC (zR32 a2) (zSp d 137 [.inr (.inl a2), .inr (.inl 0), .inr (.inl 1000000)] M1 (fun z2 M2 => zC (zR32 z2) ((¬ z2 = 0 → zWp (zSp d) 250 K 34 [some (.inr (.inr 154)), some (.inl a1), some (.inl a2), some (.inl 1)] [] M2) ∧ (¬ (¬ z2 = 0) → K (-2) M2))))))))) := (zwp_blk (stops := [34]) (fuel := 38) pe_250).trans rfl
set_option maxHeartbeats 4000000 in
set_option maxRecDepth 100000 in
theorem fe_250_34 {d : Nat} {K : Kt} {M : Mm} {x1 x2 x3 : Int} : zWp (zSp d) 250 K 34 [some (.inr (.inr 154)), some (.inl x1), some (.inl x2), some (.inl x3)] [] M = (zC (zR32 x3) ((10 ≤ x3 → K (-1) M) ∧ (¬ (10 ≤ x3) → zSp d 248 [.inl x1, .inl x3] M (fun z1 M1 => zC (zR32 z1) (zC (zR32 x2) ((z1 < x2 → zWp (zSp d) 250 K 34 [some (.inr (.inr 154)), some (.inl x1), some (.inl x2), some (.inl (x3 + 2))] [] M1) ∧ (¬ (z1 < x2) → K x3 M1))))))) := (zwp_blk (stops := [34]) (fuel := 38) pe_250).trans rfl
theorem pe_251 : zPg 251 = pg_251 := rfl
/-! 251 LeastFailingModel.run -/
set_option maxHeartbeats 4000000 in
set_option maxRecDepth 100000 in
theorem me_251 {d : Nat} {K : Kt} {M : Mm} {a1 : Int} : zSp (d + 1) 251 [.inr (.inr 154), .inl a1] M K = (zC (zR32 a1) ((a1 < 0 → K (-1) (zUp M 154 0 0)) ∧ (¬ (a1 < 0) → zSp d 174 [.inr (.inr 154), .inl 0] (zUp M 154 0 0) (fun z1 M1 => zC (zR32 z1) ((¬ z1 = 0 → zC (zR32 a1) (zSp d 206 [.inr (.inr 154), .inl 0] (zUp M1 154 47 a1) (fun z2 M2 => zSp d 208 [.inr (.inr 154), .inl z2] M2 (fun z3 M3 => K z3 (zUp M3 154 47 (M1 154 47)))))) ∧ (¬ (¬ z1 = 0) → K (-1) M1)))))) := (zwp_blk (stops := []) (fuel := 34) pe_251).trans rfl
theorem pe_252 : zPg 252 = pg_252 := rfl
/-! 252 LeastFailingModel.often -/
set_option maxHeartbeats 4000000 in
set_option maxRecDepth 100000 in
theorem me_252 {d : Nat} {K : Kt} {M : Mm} {a1 a2 a3 : Int} : zSp (d + 1) 252 [.inr (.inr 154), .inl a1, .inl a2, .inl a3] M K = (zC (zR32 a1) (zC (zR32 ((M 154 37) - 1)) (zSp d 137 [.inr (.inl a1), .inr (.inl (-1)), .inr (.inl ((M 154 37) - 1))] (zUp M 154 0 0) (fun z1 M1 => zC (zR32 z1) ((z1 = 0 → K (-2) M1) ∧ (¬ (z1 = 0) → zC (zR32 a2) ((a2 < 0 → K (-2) M1) ∧ (¬ (a2 < 0) → zC (zR32 a3) (zSp d 137 [.inr (.inl a3), .inr (.inl 1), .inr (.inl 1000)] M1 (fun z2 M2 => zC (zR32 z2) ((¬ z2 = 0 → zSp d 174 [.inr (.inr 154), .inl 0] M2 (fun z3 M3 => zC (zR32 z3) ((¬ z3 = 0 → zC (zR32 a2) (zSp d 206 [.inr (.inr 154), .inl 0] (zUp M3 154 47 a2) (fun z4 M4 => zWp (zSp d) 252 K 78 [some (.inr (.inr 154)), some (.inl a1), some (.inl a2), some (.inl a3), some (.inr (.inl (M3 154 47))), none, some (.inl z4), some (.inl 0), some (.inl 0)] [] M4))) ∧ (¬ (¬ z3 = 0) → K (-3) M3)))) ∧ (¬ (¬ z2 = 0) → K (-2) M2)))))))))))) := (zwp_blk (stops := [78, 101]) (fuel := 71) pe_252).trans rfl
set_option maxHeartbeats 4000000 in
set_option maxRecDepth 100000 in
theorem fe_252_78 {d : Nat} {K : Kt} {M : Mm} {x1 x2 x3 x4 x6 x7 x8 : Int} : zWp (zSp d) 252 K 78 [some (.inr (.inr 154)), some (.inl x1), some (.inl x2), some (.inl x3), some (.inr (.inl x4)), none, some (.inl x6), some (.inl x7), some (.inl x8)] [] M = (zC (zR32 x8) (zC (zR32 x3) ((x3 ≤ x8 → K x7 (zUp M 154 47 x4)) ∧ (¬ (x3 ≤ x8) → zSp d 208 [.inr (.inr 154), .inl x6] M (fun z1 M1 => zC (zR32 z1) (zC (zR32 x1) ((¬ z1 = x1 → zWp (zSp d) 252 K 101 [some (.inr (.inr 154)), some (.inl x1), some (.inl x2), some (.inl x3), some (.inr (.inl x4)), none, some (.inl x6), some (.inl x7), some (.inl x8)] [.inl 0, .inl x7] M1) ∧ (¬ (¬ z1 = x1) → zWp (zSp d) 252 K 101 [some (.inr (.inr 154)), some (.inl x1), some (.inl x2), some (.inl x3), some (.inr (.inl x4)), none, some (.inl x6), some (.inl x7), some (.inl x8)] [.inl 1, .inl x7] M1)))))))) := (zwp_blk (stops := [78, 101]) (fuel := 71) pe_252).trans rfl
set_option maxHeartbeats 4000000 in
set_option maxRecDepth 100000 in
theorem fe_252_101 {d : Nat} {K : Kt} {M : Mm} {x1 x2 x3 x4 x6 x7 x8 y0 y1 : Int} : zWp (zSp d) 252 K 101 [some (.inr (.inr 154)), some (.inl x1), some (.inl x2), some (.inl x3), some (.inr (.inl x4)), none, some (.inl x6), some (.inl x7), some (.inl x8)] [.inl y1, .inl y0] M = (zSp d 138 [.inl y1] M (fun z1 M1 => zWp (zSp d) 252 K 78 [some (.inr (.inr 154)), some (.inl x1), some (.inl x2), some (.inl x3), some (.inr (.inl x4)), none, some (.inl x6), some (.inl (y0 + z1)), some (.inl (x8 + 1))] [] M1)) := (zwp_blk (stops := [78, 101]) (fuel := 71) pe_252).trans rfl
theorem pe_253 : zPg 253 = pg_253 := rfl
/-! 253 LeastFailingModel.verdict -/
set_option maxHeartbeats 4000000 in
set_option maxRecDepth 100000 in
theorem me_253 {d : Nat} {K : Kt} {M : Mm} : zSp (d + 1) 253 [.inr (.inr 154)] M K = (zSp d 174 [.inr (.inr 154), .inl 0] (zUp M 154 0 0) (fun z1 M1 => zC (zR32 z1) ((¬ z1 = 0 → zSp d 213 [.inr (.inr 154), .inl 0, .inl 0, .inl (-1)] M1 (fun z2 M2 => K z2 M2)) ∧ (¬ (¬ z1 = 0) → K (-1) M1)))) := (zwp_blk (stops := []) (fuel := 20) pe_253).trans rfl
theorem pe_254 : zPg 254 = pg_254 := rfl
/-! 254 LeastFailingModel.count -/
set_option maxHeartbeats 4000000 in
set_option maxRecDepth 100000 in
theorem me_254 {d : Nat} {K : Kt} {M : Mm} {a1 : Int} : zSp (d + 1) 254 [.inr (.inr 154), .inl a1] M K = (zC (zR32 a1) (((a1 = 0 → K (M 156 192) (zUp M 154 0 0)) ∧ ((a1 = 1 → K (M 156 193) (zUp M 154 0 0)) ∧ ((a1 = 2 → zSp d 174 [.inr (.inr 154), .inl 0] (zUp M 154 0 0) (fun z1 M1 => K z1 M1)) ∧ ((a1 = 3 → K (M 154 37) (zUp M 154 0 0)) ∧ ((a1 = 4 → K (M 154 48) (zUp M 154 0 0)) ∧ ((a1 = 5 → K (M 154 57) (zUp M 154 0 0)) ∧ ((a1 = 6 → K (M 154 49) (zUp M 154 0 0)) ∧ ((a1 = 7 → K (M 154 50) (zUp M 154 0 0)) ∧ ((a1 = 8 → K (M 154 51) (zUp M 154 0 0)) ∧ ((a1 = 9 → K (M 154 47) (zUp M 154 0 0)) ∧ ((a1 = 10 → K (M 154 24) (zUp M 154 0 0)) ∧ ((a1 = 11 → zSp d 174 [.inr (.inr 154), .inl 0] (zUp M 154 0 0) (fun z2 M2 => zC (zR32 z2) ((¬ z2 = 0 → zSp d 199 [.inr (.inr 154), .inl 0] M2 (fun z3 M3 => K z3 M3)) ∧ (¬ (¬ z2 = 0) → K (-1) M2)))) ∧ True)))))))))))) ∧ ((a1 < 0 ∨ 11 < a1) → K (-1) (zUp M 154 0 0)))) := (zwp_blk (stops := []) (fuel := 61) pe_254).trans rfl
theorem pe_255 : zPg 255 = pg_255 := rfl
/-! 255 LeastFailingModel.letter -/
set_option maxHeartbeats 4000000 in
set_option maxRecDepth 100000 in
theorem me_255 {d : Nat} {K : Kt} {M : Mm} {a1 a2 a3 : Int} : zSp (d + 1) 255 [.inr (.inr 154), .inl a1, .inl a2, .inl a3] M K = (zC (zR32 a1) ((¬ a1 = 0 → zC (zR32 a1) ((¬ a1 = 1 → zC (zR32 a1) ((¬ a1 = 2 → zWp (zSp d) 255 K 49 [some (.inr (.inr 154)), some (.inl a1), some (.inl a2), some (.inl a3), none, none, none] [.inl 0] (zUp M 154 0 0)) ∧ (¬ (¬ a1 = 2) → zWp (zSp d) 255 K 49 [some (.inr (.inr 154)), some (.inl a1), some (.inl a2), some (.inl a3), none, none, none] [.inl (M 154 37)] (zUp M 154 0 0)))) ∧ (¬ (¬ a1 = 1) → zWp (zSp d) 255 K 49 [some (.inr (.inr 154)), some (.inl a1), some (.inl a2), some (.inl a3), none, none, none] [.inl (M 156 193)] (zUp M 154 0 0)))) ∧ (¬ (¬ a1 = 0) → zWp (zSp d) 255 K 49 [some (.inr (.inr 154)), some (.inl a1), some (.inl a2), some (.inl a3), none, none, none] [.inl (M 156 192)] (zUp M 154 0 0)))) := (zwp_blk (stops := [49, 112]) (fuel := 79) pe_255).trans rfl
set_option maxHeartbeats 4000000 in
set_option maxRecDepth 100000 in
theorem fe_255_49 {d : Nat} {K : Kt} {M : Mm} {x1 x2 x3 y0 : Int} : zWp (zSp d) 255 K 49 [some (.inr (.inr 154)), some (.inl x1), some (.inl x2), some (.inl x3), none, none, none] [.inl y0] M = (zC (zR32 x2) (zC (zR32 (y0 - 1)) (zSp d 137 [.inr (.inl x2), .inr (.inl 0), .inr (.inl (y0 - 1))] M (fun z1 M1 => zC (zR32 z1) ((z1 = 0 → K (-1) M1) ∧ (¬ (z1 = 0) → zC (zR32 x3) (zSp d 137 [.inr (.inl x3), .inr (.inl 0), .inr (.inl 5)] M1 (fun z2 M2 => zC (zR32 z2) ((¬ z2 = 0 → zC (zR32 x1) ((¬ x1 = 0 → zC (zR32 x1) ((¬ x1 = 1 → zC (zSm x2 6) (zWp (zSp d) 255 K 112 [some (.inr (.inr 154)), some (.inl x1), some (.inl x2), some (.inl x3), some (.inl y0), none, none] [.inr (.inl (M2 174 x2))] M2)) ∧ (¬ (¬ x1 = 1) → zC (zSm x2 6) (zWp (zSp d) 255 K 112 [some (.inr (.inr 154)), some (.inl x1), some (.inl x2), some (.inl x3), some (.inl y0), none, none] [.inr (.inl (M2 158 x2))] M2)))) ∧ (¬ (¬ x1 = 0) → zC (zSm x2 24) (zWp (zSp d) 255 K 112 [some (.inr (.inr 154)), some (.inl x1), some (.inl x2), some (.inl x3), some (.inl y0), none, none] [.inr (.inl (M2 157 x2))] M2)))) ∧ (¬ (¬ z2 = 0) → K (-1) M2)))))))))) := (zwp_blk (stops := [49, 112]) (fuel := 79) pe_255).trans rfl
set_option maxHeartbeats 4000000 in
set_option maxRecDepth 100000 in
theorem fe_255_112 {d : Nat} {K : Kt} {M : Mm} {x1 x2 x3 x4 y0 : Int} : zWp (zSp d) 255 K 112 [some (.inr (.inr 154)), some (.inl x1), some (.inl x2), some (.inl x3), some (.inl x4), none, none] [.inr (.inl y0)] M = (zC (zR64 y0) (zC (zSm (5 * (5 - x3)) 64) (K (zLandZ (y0 / 2 ^ (5 * (5 - x3)).toNat) 31) M))) := (zwp_blk (stops := [49, 112]) (fuel := 79) pe_255).trans rfl
theorem pe_256 : zPg 256 = pg_256 := rfl
/-! 256 LeastFailingModel.isLine -/
set_option maxHeartbeats 4000000 in
set_option maxRecDepth 100000 in
theorem me_256 {d : Nat} {K : Kt} {M : Mm} {a1 : Int} : zSp (d + 1) 256 [.inr (.inr 154), .inl a1] M K = (zC (zR32 a1) (zC (zR32 ((M 156 192) - 1)) (zSp d 137 [.inr (.inl a1), .inr (.inl 0), .inr (.inl ((M 156 192) - 1))] M (fun z1 M1 => zC (zBo z1) (K z1 M1))))) := (zwp_blk (stops := []) (fuel := 17) pe_256).trans rfl
theorem pe_257 : zPg 257 = pg_257 := rfl
/-! 257 LeastFailingModel.line -/
set_option maxHeartbeats 4000000 in
set_option maxRecDepth 100000 in
theorem me_257 {d : Nat} {K : Kt} {M : Mm} {a1 a2 : Int} : zSp (d + 1) 257 [.inr (.inr 154), .inl a1, .inl a2] M K = (zSp d 256 [.inr (.inr 154), .inl a1] (zUp M 154 0 0) (fun z1 M1 => zC (zR32 z1) ((¬ z1 = 0 → zC (zR32 a2) (((a2 = 0 → zSp d 170 [.inr (.inr 154), .inl a1, .inl 1] M1 (fun z2 M2 => K z2 M2)) ∧ ((a2 = 1 → zSp d 170 [.inr (.inr 154), .inl a1, .inl 0] M1 (fun z3 M3 => K z3 M3)) ∧ ((a2 = 2 → zSp d 170 [.inr (.inr 154), .inl a1, .inl 2] M1 (fun z4 M4 => K z4 M4)) ∧ ((a2 = 3 → zSp d 170 [.inr (.inr 154), .inl a1, .inl 3] M1 (fun z5 M5 => K z5 M5)) ∧ True)))) ∧ ((a2 < 0 ∨ 3 < a2) → zC (zR32 a2) (zSp d 170 [.inr (.inr 154), .inl a1, .inl 2] M1 (fun z6 M6 => zC (zR32 (9 + z6)) (zSp d 137 [.inr (.inl a2), .inr (.inl 10), .inr (.inl (9 + z6))] M6 (fun z7 M7 => zC (zR32 z7) ((z7 = 0 → K (-1) M7) ∧ (¬ (z7 = 0) → zSp d 170 [.inr (.inr 154), .inl a1, .inl ((4 + a2) - 10)] M7 (fun z8 M8 => K z8 M8)))))))))) ∧ (¬ (¬ z1 = 0) → K (-1) M1)))) := (zwp_blk (stops := []) (fuel := 59) pe_257).trans rfl
theorem pe_258 : zPg 258 = pg_258 := rfl
/-! 258 LeastFailingModel.least -/
set_option maxHeartbeats 4000000 in
set_option maxRecDepth 100000 in
theorem me_258 {d : Nat} {K : Kt} {M : Mm} {a1 a2 : Int} : zSp (d + 1) 258 [.inr (.inr 154), .inl a1, .inl a2] M K = (zC (zR32 a1) (zC (zR32 ((M 156 193) - 1)) (zSp d 137 [.inr (.inl a1), .inr (.inl 0), .inr (.inl ((M 156 193) - 1))] (zUp M 154 0 0) (fun z1 M1 => zC (zR32 z1) ((¬ z1 = 0 → zC (zR32 a2) ((¬ a2 = (-1) → zC (zR32 a2) (zC (zSm a1 6) (zC (zR32 ((M1 162 a1) - 1)) (zSp d 137 [.inr (.inl a2), .inr (.inl 0), .inr (.inl ((M1 162 a1) - 1))] M1 (fun z2 M2 => zC (zR32 z2) ((z2 = 0 → K (-1) M2) ∧ (¬ (z2 = 0) → zSp d 198 [.inr (.inr 154), .inl a1, .inl a2] M2 (fun z3 M3 => K z3 M3)))))))) ∧ (¬ (¬ a2 = (-1)) → zC (zSm a1 6) (K (M1 162 a1) M1)))) ∧ (¬ (¬ z1 = 0) → K (-1) M1)))))) := (zwp_blk (stops := []) (fuel := 49) pe_258).trans rfl
theorem pe_259 : zPg 259 = pg_259 := rfl
/-! 259 LeastFailingModel.partsOf -/
set_option maxHeartbeats 4000000 in
set_option maxRecDepth 100000 in
theorem me_259 {d : Nat} {K : Kt} {M : Mm} {a1 : Int} : zSp (d + 1) 259 [.inr (.inr 154), .inl a1] M K = (zWp (zSp d) 259 K 6 [some (.inr (.inr 154)), some (.inl a1), some (.inl 0), some (.inl (a1 + 1))] [] M) := (zwp_blk (stops := [6]) (fuel := 30) pe_259).trans rfl
set_option maxHeartbeats 4000000 in
set_option maxRecDepth 100000 in
theorem fe_259_6 {d : Nat} {K : Kt} {M : Mm} {x1 x2 x3 : Int} : zWp (zSp d) 259 K 6 [some (.inr (.inr 154)), some (.inl x1), some (.inl x2), some (.inl x3)] [] M = (zSp d 176 [.inr (.inr 154), .inl 0, .inl x1] M (fun z1 M1 => zC (zR32 x3) (zC (zR32 (x1 + z1)) (((x1 + z1) ≤ x3 → K x2 M1) ∧ (¬ ((x1 + z1) ≤ x3) → zSp d 176 [.inr (.inr 154), .inl 0, .inl x3] M1 (fun z2 M2 => zWp (zSp d) 259 K 6 [some (.inr (.inr 154)), some (.inl x1), some (.inl (x2 + 1)), some (.inl (x3 + z2))] [] M2)))))) := (zwp_blk (stops := [6]) (fuel := 30) pe_259).trans rfl
theorem pe_260 : zPg 260 = pg_260 := rfl
/-! 260 LeastFailingModel.node -/
set_option maxHeartbeats 4000000 in
set_option maxRecDepth 100000 in
theorem me_260 {d : Nat} {K : Kt} {M : Mm} {a1 a2 : Int} : zSp (d + 1) 260 [.inr (.inr 154), .inl a1, .inl a2] M K = (zC (zR32 a1) (zSp d 174 [.inr (.inr 154), .inl 0] (zUp M 154 0 0) (fun z1 M1 => zC (zR32 (z1 - 1)) (zSp d 137 [.inr (.inl a1), .inr (.inl 0), .inr (.inl (z1 - 1))] M1 (fun z2 M2 => zC (zR32 z2) ((¬ z2 = 0 → zSp d 196 [.inr (.inr 154), .inl 0] M2 (fun _ M3 => zC (zR32 a2) (((a2 = 0 → zSp d 175 [.inr (.inr 154), .inl 0, .inl a1] M3 (fun z4 M4 => K z4 M4)) ∧ ((a2 = 1 → zSp d 197 [.inr (.inr 154), .inl 0, .inl a1] M3 (fun z5 M5 => K z5 M5)) ∧ ((a2 = 2 → zC (zSm a1 80) (K (M3 178 a1) M3)) ∧ ((a2 = 3 → zSp d 176 [.inr (.inr 154), .inl 0, .inl a1] M3 (fun z6 M6 => K z6 M6)) ∧ ((a2 = 4 → zSp d 259 [.inr (.inr 154), .inl a1] M3 (fun z7 M7 => K z7 M7)) ∧ ((a2 = 5 → zC (zSm a1 80) (K (M3 177 a1) M3)) ∧ ((a2 = 6 → zC (zSm a1 80) (K (M3 179 a1) M3)) ∧ ((a2 = 7 → zC (zSm a1 80) (zSp d 138 [.inl (M3 180 a1)] M3 (fun z8 M8 => K z8 M8))) ∧ True)))))))) ∧ ((a2 < 0 ∨ 7 < a2) → K (-2) M3)))) ∧ (¬ (¬ z2 = 0) → K (-2) M2))))))) := (zwp_blk (stops := []) (fuel := 68) pe_260).trans rfl
theorem pe_261 : zPg 261 = pg_261 := rfl
/-! 261 LeastFailingModel.holding -/
set_option maxHeartbeats 4000000 in
set_option maxRecDepth 100000 in
theorem me_261 {d : Nat} {K : Kt} {M : Mm} : zSp (d + 1) 261 [.inr (.inr 154)] M K = (zSp d 174 [.inr (.inr 154), .inl 0] (zUp M 154 0 0) (fun z1 M1 => zC (zR32 z1) ((¬ z1 = 0 → zSp d 206 [.inr (.inr 154), .inl 0] M1 (fun z2 M2 => K z2 M2)) ∧ (¬ (¬ z1 = 0) → K (-1) M1)))) := (zwp_blk (stops := []) (fuel := 18) pe_261).trans rfl
theorem pe_262 : zPg 262 = pg_262 := rfl
/-! 262 LeastFailingModel.counts -/
set_option maxHeartbeats 4000000 in
set_option maxRecDepth 100000 in
theorem me_262 {d : Nat} {K : Kt} {M : Mm} {a1 a2 a3 : Int} : zSp (d + 1) 262 [.inr (.inr 154), .inl a1, .inl a2, .inl a3] M K = (zSp d 174 [.inr (.inr 154), .inl 0] (zUp M 154 0 0) (fun z1 M1 => zC (zR32 z1) ((z1 = 0 → K (-1) M1) ∧ (¬ (z1 = 0) → zC (zR32 a1) (zSp d 137 [.inr (.inl a1), .inr (.inl 0), .inr (.inl 4)] M1 (fun z2 M2 => zC (zR32 z2) ((z2 = 0 → K (-1) M2) ∧ (¬ (z2 = 0) → zC (zR32 a1) ((a1 ≤ 1 → zWp (zSp d) 262 K 38 [some (.inr (.inr 154)), some (.inl a1), some (.inl a2), some (.inl a3)] [] M2) ∧ (¬ (a1 ≤ 1) → zSp d 256 [.inr (.inr 154), .inl a2] M2 (fun z3 M3 => zC (zR32 z3) ((z3 = 0 → K (-1) M3) ∧ (¬ (z3 = 0) → zWp (zSp d) 262 K 38 [some (.inr (.inr 154)), some (.inl a1), some (.inl a2), some (.inl a3)] [] M3))))))))))))) := (zwp_blk (stops := [38, 53]) (fuel := 41) pe_262).trans rfl
set_option maxHeartbeats 4000000 in
set_option maxRecDepth 100000 in
theorem fe_262_38 {d : Nat} {K : Kt} {M : Mm} {x1 x2 x3 : Int} : zWp (zSp d) 262 K 38 [some (.inr (.inr 154)), some (.inl x1), some (.inl x2), some (.inl x3)] [] M = (zC (zR32 x1) ((x1 ≤ 2 → zWp (zSp d) 262 K 53 [some (.inr (.inr 154)), some (.inl x1), some (.inl x2), some (.inl x3)] [] M) ∧ (¬ (x1 ≤ 2) → zSp d 256 [.inr (.inr 154), .inl x3] M (fun z1 M1 => zC (zR32 z1) ((¬ z1 = 0 → zWp (zSp d) 262 K 53 [some (.inr (.inr 154)), some (.inl x1), some (.inl x2), some (.inl x3)] [] M1) ∧ (¬ (¬ z1 = 0) → K (-1) M1)))))) := (zwp_blk (stops := [38, 53]) (fuel := 41) pe_262).trans rfl
set_option maxHeartbeats 4000000 in
set_option maxRecDepth 100000 in
theorem fe_262_53 {d : Nat} {K : Kt} {M : Mm} {x1 x2 x3 : Int} : zWp (zSp d) 262 K 53 [some (.inr (.inr 154)), some (.inl x1), some (.inl x2), some (.inl x3)] [] M = (zSp d 203 [.inr (.inr 154), .inl 0, .inl x1, .inl x2, .inl x3] M (fun z1 M1 => K z1 M1)) := (zwp_blk (stops := [38, 53]) (fuel := 41) pe_262).trans rfl
theorem pe_263 : zPg 263 = pg_263 := rfl
/-! 263 fillL -/
set_option maxHeartbeats 4000000 in
set_option maxRecDepth 100000 in
theorem me_263 {d : Nat} {K : Kt} {M : Mm} {a2 : Int} {o1 : Nat} : zSp (d + 1) 263 [.inr (.inr o1), .inr (.inl a2)] M K = (zC (zArr o1 0 || zArr o1 1) (zWp (zSp d) 263 K 6 [some (.inr (.inr o1)), some (.inr (.inl a2)), none, some (.inl 0), some (.inl (zLen o1))] [] M)) := (zwp_blk (stops := [6]) (fuel := 20) pe_263).trans rfl
set_option maxHeartbeats 4000000 in
set_option maxRecDepth 100000 in
theorem fe_263_6 {d : Nat} {K : Kt} {M : Mm} {x1 x3 x4 : Int} {o1 : Nat} : zWp (zSp d) 263 K 6 [some (.inr (.inr o1)), some (.inr (.inl x1)), none, some (.inl x3), some (.inl x4)] [] M = (zC (zR32 x3) (zC (zR32 x4) ((x4 ≤ x3 → K 0 M) ∧ (¬ (x4 ≤ x3) → zC (zArr o1 1) (zC (zSm x3 (zLen o1)) (zWp (zSp d) 263 K 6 [some (.inr (.inr o1)), some (.inr (.inl x1)), none, some (.inl (x3 + 1)), some (.inl x4)] [] (zUp M o1 x3 x1))))))) := (zwp_blk (stops := [6]) (fuel := 20) pe_263).trans rfl
theorem pe_264 : zPg 264 = pg_264 := rfl
/-! 264 fillI -/
set_option maxHeartbeats 4000000 in
set_option maxRecDepth 100000 in
theorem me_264 {d : Nat} {K : Kt} {M : Mm} {a2 : Int} {o1 : Nat} : zSp (d + 1) 264 [.inr (.inr o1), .inl a2] M K = (zC (zArr o1 0 || zArr o1 1) (zWp (zSp d) 264 K 5 [some (.inr (.inr o1)), some (.inl a2), some (.inl 0), some (.inl (zLen o1))] [] M)) := (zwp_blk (stops := [5]) (fuel := 20) pe_264).trans rfl
set_option maxHeartbeats 4000000 in
set_option maxRecDepth 100000 in
theorem fe_264_5 {d : Nat} {K : Kt} {M : Mm} {x1 x2 x3 : Int} {o1 : Nat} : zWp (zSp d) 264 K 5 [some (.inr (.inr o1)), some (.inl x1), some (.inl x2), some (.inl x3)] [] M = (zC (zR32 x2) (zC (zR32 x3) ((x3 ≤ x2 → K 0 M) ∧ (¬ (x3 ≤ x2) → zC (zArr o1 0) (zC (zSm x2 (zLen o1)) (zWp (zSp d) 264 K 5 [some (.inr (.inr o1)), some (.inl x1), some (.inl (x2 + 1)), some (.inl x3)] [] (zUp M o1 x2 x1))))))) := (zwp_blk (stops := [5]) (fuel := 20) pe_264).trans rfl
