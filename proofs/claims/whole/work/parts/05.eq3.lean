theorem pe_135 : zPg 135 = pg_135 := rfl
/-! 135 LeastFailing.waysOf -/
set_option maxHeartbeats 4000000 in
set_option maxRecDepth 100000 in
theorem me_135 {d : Nat} {K : Kt} {M : Mm} {a1 a2 : Int} : zSp (d + 1) 135 [.inl a1, .inl a2] M K = (zWp (zSp d) 135 K 5 [some (.inl a1), some (.inl a2), some (.inr (.inl 1)), none, some (.inl 0)] [] M) := (zwp_blk (stops := [5]) (fuel := 28) pe_135).trans rfl
set_option maxHeartbeats 4000000 in
set_option maxRecDepth 100000 in
theorem fe_135_5 {d : Nat} {K : Kt} {M : Mm} {x0 x1 x2 x4 : Int} : zWp (zSp d) 135 K 5 [some (.inl x0), some (.inl x1), some (.inr (.inl x2)), none, some (.inl x4)] [] M = (zC (zR32 x4) (zC (zR32 x1) ((x1 ≤ x4 → K x2 M) ∧ (¬ (x1 ≤ x4) → zC (zR32 (x0 - x4)) (zC (zR32 (x4 + 1)) (zC (zR64 (x2 * (x0 - x4))) (zC (zR64 (x4 + 1)) (zC (zDv (x2 * (x0 - x4)) (x4 + 1)) (zWp (zSp d) 135 K 5 [some (.inl x0), some (.inl x1), some (.inr (.inl ((x2 * (x0 - x4)) / (x4 + 1)))), none, some (.inl (x4 + 1))] [] M))))))))) := (zwp_blk (stops := [5]) (fuel := 28) pe_135).trans rfl
theorem pe_136 : zPg 136 = pg_136 := rfl
/-! 136 LeastFailing.powerOf -/
set_option maxHeartbeats 4000000 in
set_option maxRecDepth 100000 in
theorem me_136 {d : Nat} {K : Kt} {M : Mm} {a1 a2 : Int} : zSp (d + 1) 136 [.inl a1, .inl a2] M K = (zWp (zSp d) 136 K 5 [some (.inl a1), some (.inl a2), some (.inr (.inl 1)), none, some (.inl 0)] [] M) := (zwp_blk (stops := [5]) (fuel := 21) pe_136).trans rfl
set_option maxHeartbeats 4000000 in
set_option maxRecDepth 100000 in
theorem fe_136_5 {d : Nat} {K : Kt} {M : Mm} {x0 x1 x2 x4 : Int} : zWp (zSp d) 136 K 5 [some (.inl x0), some (.inl x1), some (.inr (.inl x2)), none, some (.inl x4)] [] M = (zC (zR32 x4) (zC (zR32 x1) ((x1 ≤ x4 → K x2 M) ∧ (¬ (x1 ≤ x4) → zC (zR32 x0) (zWp (zSp d) 136 K 5 [some (.inl x0), some (.inl x1), some (.inr (.inl (x2 * x0))), none, some (.inl (x4 + 1))] [] M))))) := (zwp_blk (stops := [5]) (fuel := 21) pe_136).trans rfl
theorem pe_137 : zPg 137 = pg_137 := rfl
/-! 137 LeastFailingModel.isIn -/
set_option maxHeartbeats 4000000 in
set_option maxRecDepth 100000 in
theorem me_137 {d : Nat} {K : Kt} {M : Mm} {a1 a2 a3 : Int} : zSp (d + 1) 137 [.inr (.inl a1), .inr (.inl a2), .inr (.inl a3)] M K = (zC (zR64 a1) (zC (zR64 a2) (zC (zR32 (zLcmp a1 a2)) (((zLcmp a1 a2) < 0 → K 0 M) ∧ (¬ ((zLcmp a1 a2) < 0) → zC (zR64 a1) (zC (zR64 a3) (zC (zR32 (zLcmp a1 a3)) ((0 < (zLcmp a1 a3) → K 0 M) ∧ (¬ (0 < (zLcmp a1 a3)) → K 1 M))))))))) := (zwp_blk (stops := []) (fuel := 17) pe_137).trans rfl
theorem pe_138 : zPg 138 = pg_138 := rfl
/-! 138 LeastFailingModel.flag -/
set_option maxHeartbeats 4000000 in
set_option maxRecDepth 100000 in
theorem me_138 {d : Nat} {K : Kt} {M : Mm} {a1 : Int} : zSp (d + 1) 138 [.inl a1] M K = (zC (zR32 a1) ((a1 = 0 → K 0 M) ∧ (¬ (a1 = 0) → K 1 M))) := (zwp_blk (stops := []) (fuel := 11) pe_138).trans rfl
theorem pe_139 : zPg 139 = pg_139 := rfl
/-! 139 LeastFailingModel.four -/
set_option maxHeartbeats 4000000 in
set_option maxRecDepth 100000 in
theorem me_139 {d : Nat} {K : Kt} {M : Mm} {a1 : Int} : zSp (d + 1) 139 [.inr (.inr 154), .inl a1] M K = (zWp (zSp d) 139 K 3 [some (.inr (.inr 154)), some (.inl a1), some (.inl 24)] [] M) := (zwp_blk (stops := [3]) (fuel := 27) pe_139).trans rfl
set_option maxHeartbeats 4000000 in
set_option maxRecDepth 100000 in
theorem fe_139_3 {d : Nat} {K : Kt} {M : Mm} {x1 x2 : Int} : zWp (zSp d) 139 K 3 [some (.inr (.inr 154)), some (.inl x1), some (.inl x2)] [] M = (zC (zR32 x2) ((x2 < 0 → K 0 M) ∧ (¬ (x2 < 0) → zC (zR32 x1) (zC (zSm x2 32) (zC (zSm (M 154 2) 1000) (zC (zBy (zB8 (x1 / 2 ^ x2.toNat))) (zWp (zSp d) 139 K 3 [some (.inr (.inr 154)), some (.inl x1), some (.inl (x2 + (-8)))] [] (zUp (zUp M 155 (M 154 2) (zB8 (x1 / 2 ^ x2.toNat))) 154 2 ((M 154 2) + 1))))))))) := (zwp_blk (stops := [3]) (fuel := 27) pe_139).trans rfl
theorem pe_140 : zPg 140 = pg_140 := rfl
/-! 140 LeastFailingModel.feed -/
set_option maxHeartbeats 4000000 in
set_option maxRecDepth 100000 in
theorem me_140 {d : Nat} {K : Kt} {M : Mm} {a1 a2 a3 a4 a5 : Int} : zSp (d + 1) 140 [.inr (.inr 154), .inl a1, .inl a2, .inl a3, .inl a4, .inl a5] M K = (zC (zR32 ((M 154 2) + 20)) ((((M 154 2) + 20) ≤ 1000 → zSp d 139 [.inr (.inr 154), .inl a1] (zUp M 154 0 0) (fun _ M1 => zSp d 139 [.inr (.inr 154), .inl a2] M1 (fun _ M2 => zSp d 139 [.inr (.inr 154), .inl a3] M2 (fun _ M3 => zSp d 139 [.inr (.inr 154), .inl a4] M3 (fun _ M4 => zSp d 139 [.inr (.inr 154), .inl a5] M4 (fun _ M5 => K (M5 154 2) M5)))))) ∧ (¬ (((M 154 2) + 20) ≤ 1000) → K (-1) (zUp M 154 0 0)))) := (zwp_blk (stops := []) (fuel := 34) pe_140).trans rfl
theorem pe_141 : zPg 141 = pg_141 := rfl
/-! 141 LeastFailingModel.end -/
set_option maxHeartbeats 4000000 in
set_option maxRecDepth 100000 in
theorem me_141 {d : Nat} {K : Kt} {M : Mm} {a1 : Int} : zSp (d + 1) 141 [.inr (.inr 154), .inl a1] M K = (zC (zR32 a1) (zC (zR32 (M 154 2)) (zSp d 137 [.inr (.inl a1), .inr (.inl 0), .inr (.inl (M 154 2))] (zUp M 154 0 0) (fun z1 M1 => zC (zR32 z1) ((¬ z1 = 0 → K 1 (zUp M1 154 2 a1)) ∧ (¬ (¬ z1 = 0) → K 0 M1)))))) := (zwp_blk (stops := []) (fuel := 23) pe_141).trans rfl
theorem pe_142 : zPg 142 = pg_142 := rfl
/-! 142 LeastFailingModel.begins -/
set_option maxHeartbeats 4000000 in
set_option maxRecDepth 100000 in
theorem me_142 {d : Nat} {K : Kt} {M : Mm} : zSp (d + 1) 142 [.inr (.inr 154)] M K = (K 0 (zUp (zUp (zUp (zUp (zUp (zUp M 154 3 (M 154 2)) 154 2 0) 154 4 0) 154 5 (-1)) 154 6 0) 154 7 (-1))) := (zwp_blk (stops := []) (fuel := 25) pe_142).trans rfl
theorem pe_143 : zPg 143 = pg_143 := rfl
/-! 143 LeastFailingModel.isFine -/
set_option maxHeartbeats 4000000 in
set_option maxRecDepth 100000 in
theorem me_143 {d : Nat} {K : Kt} {M : Mm} : zSp (d + 1) 143 [.inr (.inr 154)] M K = (zC (zR32 (M 154 6)) ((¬ (M 154 6) = 0 → K 0 M) ∧ (¬ (¬ (M 154 6) = 0) → K 1 M))) := (zwp_blk (stops := []) (fuel := 12) pe_143).trans rfl
theorem pe_144 : zPg 144 = pg_144 := rfl
/-! 144 LeastFailingModel.fail -/
set_option maxHeartbeats 4000000 in
set_option maxRecDepth 100000 in
theorem me_144 {d : Nat} {K : Kt} {M : Mm} {a1 a2 : Int} : zSp (d + 1) 144 [.inr (.inr 154), .inl a1, .inl a2] M K = (zC (zR32 (M 154 6)) (((M 154 6) = 0 → K 0 (zUp (zUp M 154 6 a1) 154 7 a2)) ∧ (¬ ((M 154 6) = 0) → K 0 M))) := (zwp_blk (stops := []) (fuel := 16) pe_144).trans rfl
theorem pe_145 : zPg 145 = pg_145 := rfl
/-! 145 LeastFailingModel.isRead -/
set_option maxHeartbeats 4000000 in
set_option maxRecDepth 100000 in
theorem me_145 {d : Nat} {K : Kt} {M : Mm} : zSp (d + 1) 145 [.inr (.inr 154)] M K = (zC (zR32 (M 154 6)) ((¬ (M 154 6) = 0 → zWp (zSp d) 145 K 24 [some (.inr (.inr 154))] [.inl (M 154 7), .inr (.inr 154)] (zUp M 154 8 (M 154 6))) ∧ (¬ (¬ (M 154 6) = 0) → zWp (zSp d) 145 K 24 [some (.inr (.inr 154))] [.inl (-1), .inr (.inr 154)] (zUp M 154 8 (M 154 6))))) := (zwp_blk (stops := [24]) (fuel := 25) pe_145).trans rfl
set_option maxHeartbeats 4000000 in
set_option maxRecDepth 100000 in
theorem fe_145_24 {d : Nat} {K : Kt} {M : Mm} {y1 : Int} : zWp (zSp d) 145 K 24 [some (.inr (.inr 154))] [.inl y1, .inr (.inr 154)] M = (zC (zR32 (M 154 6)) ((¬ (M 154 6) = 0 → K 0 (zUp M 154 9 y1)) ∧ (¬ (¬ (M 154 6) = 0) → K 1 (zUp M 154 9 y1)))) := (zwp_blk (stops := [24]) (fuel := 25) pe_145).trans rfl
theorem pe_146 : zPg 146 = pg_146 := rfl
/-! 146 LeastFailingModel.here -/
set_option maxHeartbeats 4000000 in
set_option maxRecDepth 100000 in
theorem me_146 {d : Nat} {K : Kt} {M : Mm} {a1 : Int} : zSp (d + 1) 146 [.inr (.inr 154), .inl a1] M K = (zC (zR32 a1) (zC (zR32 (M 154 3)) (((M 154 3) ≤ a1 → K 0 M) ∧ (¬ ((M 154 3) ≤ a1) → zC (zSm a1 1000) (K (M 155 a1) M))))) := (zwp_blk (stops := []) (fuel := 16) pe_146).trans rfl
theorem pe_147 : zPg 147 = pg_147 := rfl
/-! 147 LeastFailingModel.isLetter -/
set_option maxHeartbeats 4000000 in
set_option maxRecDepth 100000 in
theorem me_147 {d : Nat} {K : Kt} {M : Mm} {a1 : Int} : zSp (d + 1) 147 [.inr (.inr 154), .inl a1] M K = (zSp d 146 [.inr (.inr 154), .inl a1] M (fun z1 M1 => zC (zR32 z1) (zSp d 137 [.inr (.inl z1), .inr (.inl 97), .inr (.inl 122)] M1 (fun z2 M2 => zC (zBo z2) (K z2 M2))))) := (zwp_blk (stops := []) (fuel := 13) pe_147).trans rfl
theorem pe_148 : zPg 148 = pg_148 := rfl
/-! 148 LeastFailingModel.isDigit -/
set_option maxHeartbeats 4000000 in
set_option maxRecDepth 100000 in
theorem me_148 {d : Nat} {K : Kt} {M : Mm} {a1 : Int} : zSp (d + 1) 148 [.inr (.inr 154), .inl a1] M K = (zSp d 146 [.inr (.inr 154), .inl a1] M (fun z1 M1 => zC (zR32 z1) (zSp d 137 [.inr (.inl z1), .inr (.inl 48), .inr (.inl 57)] M1 (fun z2 M2 => zC (zBo z2) (K z2 M2))))) := (zwp_blk (stops := []) (fuel := 13) pe_148).trans rfl
theorem pe_149 : zPg 149 = pg_149 := rfl
/-! 149 LeastFailingModel.next -/
set_option maxHeartbeats 4000000 in
set_option maxRecDepth 100000 in
theorem me_149 {d : Nat} {K : Kt} {M : Mm} : zSp (d + 1) 149 [.inr (.inr 154)] M K = (zWp (zSp d) 149 K 0 [some (.inr (.inr 154))] [] M) := rfl
set_option maxHeartbeats 4000000 in
set_option maxRecDepth 100000 in
theorem fe_149_0 {d : Nat} {K : Kt} {M : Mm} : zWp (zSp d) 149 K 0 [some (.inr (.inr 154))] [] M = (zC (zR32 (M 154 4)) (zC (zR32 (M 154 3)) (((M 154 3) ≤ (M 154 4) → K (M 154 4) M) ∧ (¬ ((M 154 3) ≤ (M 154 4)) → zC (zSm (M 154 4) 1000) (zC (zR32 (M 155 (M 154 4))) (((M 155 (M 154 4)) = 32 → zWp (zSp d) 149 K 0 [some (.inr (.inr 154))] [] (zUp M 154 4 ((M 154 4) + 1))) ∧ (¬ ((M 155 (M 154 4)) = 32) → zC (zSm (M 154 4) 1000) (zC (zR32 (M 155 (M 154 4))) ((¬ (M 155 (M 154 4)) = 10 → K (M 154 4) M) ∧ (¬ (¬ (M 155 (M 154 4)) = 10) → zWp (zSp d) 149 K 0 [some (.inr (.inr 154))] [] (zUp M 154 4 ((M 154 4) + 1)))))))))))) := (zwp_blk (stops := [0]) (fuel := 34) pe_149).trans rfl
theorem pe_150 : zPg 150 = pg_150 := rfl
/-! 150 LeastFailingModel.isOver -/
set_option maxHeartbeats 4000000 in
set_option maxRecDepth 100000 in
theorem me_150 {d : Nat} {K : Kt} {M : Mm} : zSp (d + 1) 150 [.inr (.inr 154)] M K = (zSp d 149 [.inr (.inr 154)] M (fun z1 M1 => zC (zR32 z1) (zC (zR32 (M1 154 3)) ((z1 < (M1 154 3) → K 0 M1) ∧ (¬ (z1 < (M1 154 3)) → K 1 M1))))) := (zwp_blk (stops := []) (fuel := 14) pe_150).trans rfl
theorem pe_151 : zPg 151 = pg_151 := rfl
/-! 151 LeastFailingModel.unlike -/
set_option maxHeartbeats 4000000 in
set_option maxRecDepth 100000 in
theorem me_151 {d : Nat} {K : Kt} {M : Mm} : zSp (d + 1) 151 [.inr (.inr 154)] M K = (zSp d 149 [.inr (.inr 154)] M (fun z1 M1 => zSp d 144 [.inr (.inr 154), .inl 1, .inl z1] M1 (fun _ M2 => K 0 M2))) := (zwp_blk (stops := []) (fuel := 11) pe_151).trans rfl
theorem pe_152 : zPg 152 = pg_152 := rfl
/-! 152 LeastFailingModel.isSign -/
set_option maxHeartbeats 4000000 in
set_option maxRecDepth 100000 in
theorem me_152 {d : Nat} {K : Kt} {M : Mm} {a1 : Int} : zSp (d + 1) 152 [.inr (.inr 154), .inl a1] M K = (zSp d 149 [.inr (.inr 154)] M (fun z1 M1 => zC (zR32 z1) (zC (zR32 (M1 154 3)) (((M1 154 3) ≤ z1 → K 0 M1) ∧ (¬ ((M1 154 3) ≤ z1) → zC (zSm (M1 154 4) 1000) (zC (zR32 (M1 155 (M1 154 4))) (zC (zR32 a1) ((¬ (M1 155 (M1 154 4)) = a1 → K 0 M1) ∧ (¬ (¬ (M1 155 (M1 154 4)) = a1) → K 1 M1))))))))) := (zwp_blk (stops := []) (fuel := 21) pe_152).trans rfl
theorem pe_153 : zPg 153 = pg_153 := rfl
/-! 153 LeastFailingModel.takesSign -/
set_option maxHeartbeats 4000000 in
set_option maxRecDepth 100000 in
theorem me_153 {d : Nat} {K : Kt} {M : Mm} {a1 : Int} : zSp (d + 1) 153 [.inr (.inr 154), .inl a1] M K = (zSp d 143 [.inr (.inr 154)] M (fun z1 M1 => zC (zR32 z1) ((z1 = 0 → K 0 M1) ∧ (¬ (z1 = 0) → zSp d 152 [.inr (.inr 154), .inl a1] M1 (fun z2 M2 => zC (zR32 z2) ((¬ z2 = 0 → K 1 (zUp M2 154 4 ((M2 154 4) + 1))) ∧ (¬ (¬ z2 = 0) → K 0 M2))))))) := (zwp_blk (stops := []) (fuel := 22) pe_153).trans rfl
theorem pe_154 : zPg 154 = pg_154 := rfl
/-! 154 LeastFailingModel.needsSign -/
set_option maxHeartbeats 4000000 in
set_option maxRecDepth 100000 in
theorem me_154 {d : Nat} {K : Kt} {M : Mm} {a1 : Int} : zSp (d + 1) 154 [.inr (.inr 154), .inl a1] M K = (zSp d 143 [.inr (.inr 154)] M (fun z1 M1 => zC (zR32 z1) ((z1 = 0 → K 0 M1) ∧ (¬ (z1 = 0) → zSp d 153 [.inr (.inr 154), .inl a1] M1 (fun z2 M2 => zC (zR32 z2) ((¬ z2 = 0 → K 0 M2) ∧ (¬ (¬ z2 = 0) → zSp d 151 [.inr (.inr 154)] M2 (fun _ M3 => K 0 M3)))))))) := (zwp_blk (stops := []) (fuel := 15) pe_154).trans rfl
theorem pe_155 : zPg 155 = pg_155 := rfl
/-! 155 LeastFailingModel.packed -/
set_option maxHeartbeats 4000000 in
set_option maxRecDepth 100000 in
theorem me_155 {d : Nat} {K : Kt} {M : Mm} {a1 a2 a3 a4 a5 a6 : Int} : zSp (d + 1) 155 [.inl a1, .inl a2, .inl a3, .inl a4, .inl a5, .inl a6] M K = (zC (zR32 a1) (zC (zR32 a2) ((¬ a2 = 0 → zWp (zSp d) 155 K 22 [some (.inl a1), some (.inl a2), some (.inl a3), some (.inl a4), some (.inl a5), some (.inl a6), some (.inr (.inl a1)), none] [.inl (a2 - 96), .inr (.inl (32 * a1))] M) ∧ (¬ (¬ a2 = 0) → zWp (zSp d) 155 K 22 [some (.inl a1), some (.inl a2), some (.inl a3), some (.inl a4), some (.inl a5), some (.inl a6), some (.inr (.inl a1)), none] [.inl 0, .inr (.inl (32 * a1))] M)))) := (zwp_blk (stops := [22, 44, 66, 90]) (fuel := 75) pe_155).trans rfl
set_option maxHeartbeats 4000000 in
set_option maxRecDepth 100000 in
theorem fe_155_22 {d : Nat} {K : Kt} {M : Mm} {x0 x1 x2 x3 x4 x5 x6 y0 y1 : Int} : zWp (zSp d) 155 K 22 [some (.inl x0), some (.inl x1), some (.inl x2), some (.inl x3), some (.inl x4), some (.inl x5), some (.inr (.inl x6)), none] [.inl y1, .inr (.inl y0)] M = (zC (zR32 y1) (zC (zR32 x2) ((¬ x2 = 0 → zWp (zSp d) 155 K 44 [some (.inl x0), some (.inl x1), some (.inl x2), some (.inl x3), some (.inl x4), some (.inl x5), some (.inr (.inl (y0 + y1))), none] [.inl (x2 - 96), .inr (.inl (32 * (y0 + y1)))] M) ∧ (¬ (¬ x2 = 0) → zWp (zSp d) 155 K 44 [some (.inl x0), some (.inl x1), some (.inl x2), some (.inl x3), some (.inl x4), some (.inl x5), some (.inr (.inl (y0 + y1))), none] [.inl 0, .inr (.inl (32 * (y0 + y1)))] M)))) := (zwp_blk (stops := [22, 44, 66, 90]) (fuel := 75) pe_155).trans rfl
set_option maxHeartbeats 4000000 in
set_option maxRecDepth 100000 in
theorem fe_155_44 {d : Nat} {K : Kt} {M : Mm} {x0 x1 x2 x3 x4 x5 x6 y0 y1 : Int} : zWp (zSp d) 155 K 44 [some (.inl x0), some (.inl x1), some (.inl x2), some (.inl x3), some (.inl x4), some (.inl x5), some (.inr (.inl x6)), none] [.inl y1, .inr (.inl y0)] M = (zC (zR32 y1) (zC (zR32 x3) ((¬ x3 = 0 → zWp (zSp d) 155 K 66 [some (.inl x0), some (.inl x1), some (.inl x2), some (.inl x3), some (.inl x4), some (.inl x5), some (.inr (.inl (y0 + y1))), none] [.inl (x3 - 96), .inr (.inl (32 * (y0 + y1)))] M) ∧ (¬ (¬ x3 = 0) → zWp (zSp d) 155 K 66 [some (.inl x0), some (.inl x1), some (.inl x2), some (.inl x3), some (.inl x4), some (.inl x5), some (.inr (.inl (y0 + y1))), none] [.inl 0, .inr (.inl (32 * (y0 + y1)))] M)))) := (zwp_blk (stops := [22, 44, 66, 90]) (fuel := 75) pe_155).trans rfl
set_option maxHeartbeats 4000000 in
set_option maxRecDepth 100000 in
theorem fe_155_66 {d : Nat} {K : Kt} {M : Mm} {x0 x1 x2 x3 x4 x5 x6 y0 y1 : Int} : zWp (zSp d) 155 K 66 [some (.inl x0), some (.inl x1), some (.inl x2), some (.inl x3), some (.inl x4), some (.inl x5), some (.inr (.inl x6)), none] [.inl y1, .inr (.inl y0)] M = (zC (zR32 y1) (zC (zR32 x4) ((¬ x4 = 0 → zWp (zSp d) 155 K 90 [some (.inl x0), some (.inl x1), some (.inl x2), some (.inl x3), some (.inl x4), some (.inl x5), some (.inr (.inl (y0 + y1))), none] [.inl (x4 - 96), .inr (.inl (32 * (y0 + y1)))] M) ∧ (¬ (¬ x4 = 0) → zWp (zSp d) 155 K 90 [some (.inl x0), some (.inl x1), some (.inl x2), some (.inl x3), some (.inl x4), some (.inl x5), some (.inr (.inl (y0 + y1))), none] [.inl 0, .inr (.inl (32 * (y0 + y1)))] M)))) := (zwp_blk (stops := [22, 44, 66, 90]) (fuel := 75) pe_155).trans rfl
set_option maxHeartbeats 4000000 in
set_option maxRecDepth 100000 in
theorem fe_155_90 {d : Nat} {K : Kt} {M : Mm} {x0 x1 x2 x3 x4 x5 x6 y0 y1 : Int} : zWp (zSp d) 155 K 90 [some (.inl x0), some (.inl x1), some (.inl x2), some (.inl x3), some (.inl x4), some (.inl x5), some (.inr (.inl x6)), none] [.inl y1, .inr (.inl y0)] M = (zC (zR32 y1) (zC (zR32 x5) ((¬ x5 = 0 → zC (zR32 (x5 - 96)) (K (((32 * (y0 + y1)) + (x5 - 96)) - 3221225472) M)) ∧ (¬ (¬ x5 = 0) → K (((32 * (y0 + y1)) + 0) - 3221225472) M)))) := (zwp_blk (stops := [22, 44, 66, 90]) (fuel := 75) pe_155).trans rfl
theorem pe_156 : zPg 156 = pg_156 := rfl
/-! 156 LeastFailingModel.seesWord -/
set_option maxHeartbeats 4000000 in
set_option maxRecDepth 100000 in
theorem me_156 {d : Nat} {K : Kt} {M : Mm} : zSp (d + 1) 156 [.inr (.inr 154)] M K = (zSp d 149 [.inr (.inr 154)] M (fun z1 M1 => zSp d 147 [.inr (.inr 154), .inl z1] (zUp (zUp M1 154 11 0) 154 10 0) (fun z2 M2 => zC (zR32 z2) ((z2 = 0 → K 0 M2) ∧ (¬ (z2 = 0) → zC (zR32 z1) (zC (zR32 (M2 154 5)) ((¬ z1 = (M2 154 5) → zWp (zSp d) 156 K 33 [some (.inr (.inr 154)), some (.inl z1), none] [] M2) ∧ (¬ (¬ z1 = (M2 154 5)) → K 0 M2)))))))) := (zwp_blk (stops := [33, 88, 109]) (fuel := 78) pe_156).trans rfl
set_option maxHeartbeats 4000000 in
set_option maxRecDepth 100000 in
theorem fe_156_33 {d : Nat} {K : Kt} {M : Mm} {x1 : Int} : zWp (zSp d) 156 K 33 [some (.inr (.inr 154)), some (.inl x1), none] [] M = (zSp d 147 [.inr (.inr 154), .inl (x1 + (M 154 11))] M (fun z1 M1 => zC (zR32 z1) ((z1 = 0 → zWp (zSp d) 156 K 109 [some (.inr (.inr 154)), some (.inl x1), some (.inl (M1 154 11))] [] M1) ∧ (¬ (z1 = 0) → zC (zR32 (M1 154 11)) ((6 ≤ (M1 154 11) → zWp (zSp d) 156 K 88 [some (.inr (.inr 154)), some (.inl x1), none] [.inr (.inl (M1 154 10)), .inr (.inr 154)] M1) ∧ (¬ (6 ≤ (M1 154 11)) → zC (zSm (x1 + (M1 154 11)) 1000) (zC (zR32 (M1 155 (x1 + (M1 154 11)))) (zWp (zSp d) 156 K 88 [some (.inr (.inr 154)), some (.inl x1), none] [.inr (.inl (((32 * (M1 154 10)) + (M1 155 (x1 + (M1 154 11)))) - 96)), .inr (.inr 154)] M1)))))))) := (zwp_blk (stops := [33, 88, 109]) (fuel := 78) pe_156).trans rfl
set_option maxHeartbeats 4000000 in
set_option maxRecDepth 100000 in
theorem fe_156_88 {d : Nat} {K : Kt} {M : Mm} {x1 y1 : Int} : zWp (zSp d) 156 K 88 [some (.inr (.inr 154)), some (.inl x1), none] [.inr (.inl y1), .inr (.inr 154)] M = (zWp (zSp d) 156 K 33 [some (.inr (.inr 154)), some (.inl x1), none] [] (zUp (zUp M 154 10 y1) 154 11 ((M 154 11) + 1))) := (zwp_blk (stops := [33, 88, 109]) (fuel := 78) pe_156).trans rfl
set_option maxHeartbeats 4000000 in
set_option maxRecDepth 100000 in
theorem fe_156_109 {d : Nat} {K : Kt} {M : Mm} {x1 x2 : Int} : zWp (zSp d) 156 K 109 [some (.inr (.inr 154)), some (.inl x1), some (.inl x2)] [] M = (zC (zR32 x2) ((6 ≤ x2 → K 1 M) ∧ (¬ (6 ≤ x2) → zWp (zSp d) 156 K 109 [some (.inr (.inr 154)), some (.inl x1), some (.inl (x2 + 1))] [] (zUp M 154 10 ((M 154 10) * 32))))) := (zwp_blk (stops := [33, 88, 109]) (fuel := 78) pe_156).trans rfl
theorem pe_157 : zPg 157 = pg_157 := rfl
/-! 157 LeastFailingModel.isWord -/
set_option maxHeartbeats 4000000 in
set_option maxRecDepth 100000 in
theorem me_157 {d : Nat} {K : Kt} {M : Mm} {a1 : Int} : zSp (d + 1) 157 [.inr (.inr 154), .inr (.inl a1)] M K = (zSp d 156 [.inr (.inr 154)] M (fun z1 M1 => zC (zR32 z1) ((z1 = 0 → K 0 M1) ∧ (¬ (z1 = 0) → zC (zR32 (M1 154 11)) ((6 < (M1 154 11) → K 0 M1) ∧ (¬ (6 < (M1 154 11)) → zC (zR64 (M1 154 10)) (zC (zR64 a1) (zC (zR32 (zLcmp (M1 154 10) a1)) ((¬ (zLcmp (M1 154 10) a1) = 0 → K 0 M1) ∧ (¬ (¬ (zLcmp (M1 154 10) a1) = 0) → K 1 M1)))))))))) := (zwp_blk (stops := []) (fuel := 21) pe_157).trans rfl
theorem pe_158 : zPg 158 = pg_158 := rfl
/-! 158 LeastFailingModel.pass -/
set_option maxHeartbeats 4000000 in
set_option maxRecDepth 100000 in
theorem me_158 {d : Nat} {K : Kt} {M : Mm} : zSp (d + 1) 158 [.inr (.inr 154)] M K = (K 0 (zUp (zUp M 154 4 ((M 154 4) + (M 154 11))) 154 5 ((M 154 4) + (M 154 11)))) := (zwp_blk (stops := []) (fuel := 17) pe_158).trans rfl
theorem pe_159 : zPg 159 = pg_159 := rfl
/-! 159 LeastFailingModel.takes -/
set_option maxHeartbeats 4000000 in
set_option maxRecDepth 100000 in
theorem me_159 {d : Nat} {K : Kt} {M : Mm} {a1 : Int} : zSp (d + 1) 159 [.inr (.inr 154), .inr (.inl a1)] M K = (zSp d 143 [.inr (.inr 154)] M (fun z1 M1 => zC (zR32 z1) ((z1 = 0 → K 0 M1) ∧ (¬ (z1 = 0) → zSp d 157 [.inr (.inr 154), .inr (.inl a1)] M1 (fun z2 M2 => zC (zR32 z2) ((¬ z2 = 0 → zSp d 158 [.inr (.inr 154)] M2 (fun _ M3 => K 1 M3)) ∧ (¬ (¬ z2 = 0) → K 0 M2))))))) := (zwp_blk (stops := []) (fuel := 18) pe_159).trans rfl
theorem pe_160 : zPg 160 = pg_160 := rfl
/-! 160 LeastFailingModel.isOwn -/
set_option maxHeartbeats 4000000 in
set_option maxRecDepth 100000 in
theorem me_160 {d : Nat} {K : Kt} {M : Mm} : zSp (d + 1) 160 [.inr (.inr 154)] M K = (zSp d 155 [.inl 102, .inl 111, .inl 114, .inl 109, .inl 0, .inl 0] M (fun z1 M1 => zC (zR64 (M 154 10)) (zC (zR64 z1) (zC (zR32 (zLcmp (M 154 10) z1)) (((zLcmp (M 154 10) z1) = 0 → K 1 M1) ∧ (¬ ((zLcmp (M 154 10) z1) = 0) → zSp d 155 [.inl 108, .inl 101, .inl 97, .inl 102, .inl 0, .inl 0] M1 (fun z2 M2 => zC (zR64 (M1 154 10)) (zC (zR64 z2) (zC (zR32 (zLcmp (M1 154 10) z2)) (((zLcmp (M1 154 10) z2) = 0 → K 1 M2) ∧ (¬ ((zLcmp (M1 154 10) z2) = 0) → zSp d 155 [.inl 98, .inl 117, .inl 103, .inl 0, .inl 0, .inl 0] M2 (fun z3 M3 => zC (zR64 (M2 154 10)) (zC (zR64 z3) (zC (zR32 (zLcmp (M2 154 10) z3)) (((zLcmp (M2 154 10) z3) = 0 → K 1 M3) ∧ (¬ ((zLcmp (M2 154 10) z3) = 0) → zSp d 155 [.inl 111, .inl 100, .inl 100, .inl 115, .inl 0, .inl 0] M3 (fun z4 M4 => zC (zR64 (M3 154 10)) (zC (zR64 z4) (zC (zR32 (zLcmp (M3 154 10) z4)) (((zLcmp (M3 154 10) z4) = 0 → K 1 M4) ∧ (¬ ((zLcmp (M3 154 10) z4) = 0) → zSp d 155 [.inl 119, .inl 104, .inl 101, .inl 110, .inl 0, .inl 0] M4 (fun z5 M5 => zC (zR64 (M4 154 10)) (zC (zR64 z5) (zC (zR32 (zLcmp (M4 154 10) z5)) (((zLcmp (M4 154 10) z5) = 0 → K 1 M5) ∧ (¬ ((zLcmp (M4 154 10) z5) = 0) → zSp d 155 [.inl 111, .inl 114, .inl 0, .inl 0, .inl 0, .inl 0] M5 (fun z6 M6 => zC (zR64 (M5 154 10)) (zC (zR64 z6) (zC (zR32 (zLcmp (M5 154 10) z6)) (((zLcmp (M5 154 10) z6) = 0 → K 1 M6) ∧ (¬ ((zLcmp (M5 154 10) z6) = 0) → zSp d 155 [.inl 97, .inl 110, .inl 100, .inl 0, .inl 0, .inl 0] M6 (fun z7 M7 => zC (zR64 (M6 154 10)) (zC (zR64 z7) (zC (zR32 (zLcmp (M6 154 10) z7)) (((zLcmp (M6 154 10) z7) = 0 → K 1 M7) ∧ (¬ ((zLcmp (M6 154 10) z7) = 0) → zSp d 155 [.inl 110, .inl 111, .inl 116, .inl 0, .inl 0, .inl 0] M7 (fun z8 M8 => zC (zR64 (M7 154 10)) (zC (zR64 z8) (zC (zR32 (zLcmp (M7 154 10) z8)) (((zLcmp (M7 154 10) z8) = 0 → K 1 M8) ∧ (¬ ((zLcmp (M7 154 10) z8) = 0) → zSp d 155 [.inl 115, .inl 105, .inl 122, .inl 101, .inl 0, .inl 0] M8 (fun z9 M9 => zC (zR64 (M8 154 10)) (zC (zR64 z9) (zC (zR32 (zLcmp (M8 154 10) z9)) (((zLcmp (M8 154 10) z9) = 0 → K 1 M9) ∧ (¬ ((zLcmp (M8 154 10) z9) = 0) → zSp d 155 [.inl 100, .inl 101, .inl 101, .inl 112, .inl 0, .inl 0] M9 (fun z10 M10 => zC (zR64 (M9 154 10)) (zC (zR64 z10) (zC (zR32 (zLcmp (M9 154 10) z10)) (((zLcmp (M9 154 10) z10) = 0 → K 1 M10) ∧ (¬ ((zLcmp (M9 154 10) z10) = 0) → zSp d 155 [.inl 104, .inl 97, .inl 115, .inl 0, .inl 0, .inl 0] M10 (fun z11 M11 => zC (zR64 (M10 154 10)) (zC (zR64 z11) (zC (zR32 (zLcmp (M10 154 10) z11)) (((zLcmp (M10 154 10) z11) = 0 → K 1 M11) ∧ (¬ ((zLcmp (M10 154 10) z11) = 0) → zSp d 155 [.inl 117, .inl 110, .inl 100, .inl 101, .inl 114, .inl 0] M11 (fun z12 M12 => zC (zR64 (M11 154 10)) (zC (zR64 z12) (zC (zR32 (zLcmp (M11 154 10) z12)) (((zLcmp (M11 154 10) z12) = 0 → K 1 M12) ∧ (¬ ((zLcmp (M11 154 10) z12) = 0) → zSp d 155 [.inl 110, .inl 101, .inl 120, .inl 116, .inl 0, .inl 0] M12 (fun z13 M13 => zC (zR64 (M12 154 10)) (zC (zR64 z13) (zC (zR32 (zLcmp (M12 154 10) z13)) ((¬ (zLcmp (M12 154 10) z13) = 0 → K 0 M13) ∧ (¬ (¬ (zLcmp (M12 154 10) z13) = 0) → K 1 M13)))))))))))))))))))))))))))))))))))))))))))))))))))))))))))))))))) := (zwp_blk (stops := []) (fuel := 152) pe_160).trans rfl
theorem pe_161 : zPg 161 = pg_161 := rfl
/-! 161 LeastFailingModel.isName -/
set_option maxHeartbeats 4000000 in
set_option maxRecDepth 100000 in
theorem me_161 {d : Nat} {K : Kt} {M : Mm} : zSp (d + 1) 161 [.inr (.inr 154)] M K = (zSp d 156 [.inr (.inr 154)] M (fun z1 M1 => zC (zR32 z1) ((z1 = 0 → K 0 M1) ∧ (¬ (z1 = 0) → zC (zR32 (M1 154 11)) ((6 < (M1 154 11) → K 0 M1) ∧ (¬ (6 < (M1 154 11)) → zSp d 160 [.inr (.inr 154)] M1 (fun z2 M2 => zC (zR32 z2) ((¬ z2 = 0 → K 0 M2) ∧ (¬ (¬ z2 = 0) → K 1 M2))))))))) := (zwp_blk (stops := []) (fuel := 19) pe_161).trans rfl
theorem pe_162 : zPg 162 = pg_162 := rfl
/-! 162 LeastFailingModel.name -/
set_option maxHeartbeats 4000000 in
set_option maxRecDepth 100000 in
theorem me_162 {d : Nat} {K : Kt} {M : Mm} : zSp (d + 1) 162 [.inr (.inr 154)] M K = (zSp d 149 [.inr (.inr 154)] M (fun z1 M1 => zSp d 143 [.inr (.inr 154)] (zUp M1 154 12 z1) (fun z2 M2 => zC (zR32 z2) ((z2 = 0 → zWp (zSp d) 162 K 26 [some (.inr (.inr 154)), none, none] [] M2) ∧ (¬ (z2 = 0) → zSp d 161 [.inr (.inr 154)] M2 (fun z3 M3 => zC (zR32 z3) ((¬ z3 = 0 → zWp (zSp d) 162 K 26 [some (.inr (.inr 154)), none, none] [] M3) ∧ (¬ (¬ z3 = 0) → zSp d 151 [.inr (.inr 154)] M3 (fun _ M4 => zWp (zSp d) 162 K 26 [some (.inr (.inr 154)), none, none] [] M4))))))))) := (zwp_blk (stops := [26]) (fuel := 29) pe_162).trans rfl
set_option maxHeartbeats 4000000 in
set_option maxRecDepth 100000 in
theorem fe_162_26 {d : Nat} {K : Kt} {M : Mm} : zWp (zSp d) 162 K 26 [some (.inr (.inr 154)), none, none] [] M = (zSp d 143 [.inr (.inr 154)] M (fun z1 M1 => zC (zR32 z1) ((¬ z1 = 0 → zSp d 158 [.inr (.inr 154)] M1 (fun _ M2 => K (M1 154 10) M2)) ∧ (¬ (¬ z1 = 0) → K 0 M1)))) := (zwp_blk (stops := [26]) (fuel := 29) pe_162).trans rfl
theorem pe_163 : zPg 163 = pg_163 := rfl
/-! 163 LeastFailingModel.number -/
set_option maxHeartbeats 4000000 in
set_option maxRecDepth 100000 in
theorem me_163 {d : Nat} {K : Kt} {M : Mm} : zSp (d + 1) 163 [.inr (.inr 154)] M K = (zSp d 149 [.inr (.inr 154)] M (fun z1 M1 => zWp (zSp d) 163 K 10 [some (.inr (.inr 154)), some (.inl 0), none, none] [] (zUp M1 154 13 z1))) := (zwp_blk (stops := [10, 56, 60, 73]) (fuel := 75) pe_163).trans rfl
set_option maxHeartbeats 4000000 in
set_option maxRecDepth 100000 in
theorem fe_163_10 {d : Nat} {K : Kt} {M : Mm} {x1 : Int} : zWp (zSp d) 163 K 10 [some (.inr (.inr 154)), some (.inl x1), none, none] [] M = (zSp d 148 [.inr (.inr 154), .inl ((M 154 13) + x1)] M (fun z1 M1 => zC (zR32 z1) ((z1 = 0 → zSp d 143 [.inr (.inr 154)] M1 (fun z2 M2 => zC (zR32 z2) ((z2 = 0 → zWp (zSp d) 163 K 60 [some (.inr (.inr 154)), some (.inl x1), none, none] [] M2) ∧ (¬ (z2 = 0) → zC (zR32 x1) ((x1 = 0 → zWp (zSp d) 163 K 56 [some (.inr (.inr 154)), some (.inl x1), none, none] [] M2) ∧ (¬ (x1 = 0) → zC (zR32 x1) ((3 < x1 → zWp (zSp d) 163 K 56 [some (.inr (.inr 154)), some (.inl x1), none, none] [] M2) ∧ (¬ (3 < x1) → zC (zR32 (M2 154 13)) (zC (zR32 (M2 154 5)) ((¬ (M2 154 13) = (M2 154 5) → zWp (zSp d) 163 K 60 [some (.inr (.inr 154)), some (.inl x1), none, none] [] M2) ∧ (¬ (¬ (M2 154 13) = (M2 154 5)) → zWp (zSp d) 163 K 56 [some (.inr (.inr 154)), some (.inl x1), none, none] [] M2))))))))))) ∧ (¬ (z1 = 0) → zWp (zSp d) 163 K 10 [some (.inr (.inr 154)), some (.inl (x1 + 1)), none, none] [] M1)))) := (zwp_blk (stops := [10, 56, 60, 73]) (fuel := 75) pe_163).trans rfl
set_option maxHeartbeats 4000000 in
set_option maxRecDepth 100000 in
theorem fe_163_56 {d : Nat} {K : Kt} {M : Mm} {x1 : Int} : zWp (zSp d) 163 K 56 [some (.inr (.inr 154)), some (.inl x1), none, none] [] M = (zSp d 151 [.inr (.inr 154)] M (fun _ M1 => zWp (zSp d) 163 K 60 [some (.inr (.inr 154)), some (.inl x1), none, none] [] M1)) := (zwp_blk (stops := [10, 56, 60, 73]) (fuel := 75) pe_163).trans rfl
set_option maxHeartbeats 4000000 in
set_option maxRecDepth 100000 in
theorem fe_163_60 {d : Nat} {K : Kt} {M : Mm} {x1 : Int} : zWp (zSp d) 163 K 60 [some (.inr (.inr 154)), some (.inl x1), none, none] [] M = (zSp d 143 [.inr (.inr 154)] M (fun z1 M1 => zC (zR32 z1) ((¬ z1 = 0 → zWp (zSp d) 163 K 73 [some (.inr (.inr 154)), some (.inl x1), some (.inl 0), some (.inl 0)] [] M1) ∧ (¬ (¬ z1 = 0) → K 0 M1)))) := (zwp_blk (stops := [10, 56, 60, 73]) (fuel := 75) pe_163).trans rfl
set_option maxHeartbeats 4000000 in
set_option maxRecDepth 100000 in
theorem fe_163_73 {d : Nat} {K : Kt} {M : Mm} {x1 x2 x3 : Int} : zWp (zSp d) 163 K 73 [some (.inr (.inr 154)), some (.inl x1), some (.inl x2), some (.inl x3)] [] M = (zC (zR32 x3) (zC (zR32 x1) ((x1 ≤ x3 → K x2 (zUp (zUp M 154 4 ((M 154 13) + x1)) 154 5 ((M 154 13) + x1))) ∧ (¬ (x1 ≤ x3) → zC (zSm ((M 154 13) + x3) 1000) (zWp (zSp d) 163 K 73 [some (.inr (.inr 154)), some (.inl x1), some (.inl (((10 * x2) + (M 155 ((M 154 13) + x3))) - 48)), some (.inl (x3 + 1))] [] M))))) := (zwp_blk (stops := [10, 56, 60, 73]) (fuel := 75) pe_163).trans rfl
theorem pe_164 : zPg 164 = pg_164 := rfl
/-! 164 LeastFailingModel.sortRead -/
set_option maxHeartbeats 4000000 in
set_option maxRecDepth 100000 in
theorem me_164 {d : Nat} {K : Kt} {M : Mm} : zSp (d + 1) 164 [.inr (.inr 154)] M K = (zSp d 162 [.inr (.inr 154)] M (fun z1 M1 => zSp d 143 [.inr (.inr 154)] M1 (fun z2 M2 => zC (zR32 z2) ((¬ z2 = 0 → zWp (zSp d) 164 K 16 [some (.inr (.inr 154)), some (.inr (.inl z1)), none, some (.inl 0)] [] M2) ∧ (¬ (¬ z2 = 0) → K 0 M2))))) := (zwp_blk (stops := [16, 69]) (fuel := 71) pe_164).trans rfl
set_option maxHeartbeats 4000000 in
set_option maxRecDepth 100000 in
theorem fe_164_16 {d : Nat} {K : Kt} {M : Mm} {x1 x3 : Int} : zWp (zSp d) 164 K 16 [some (.inr (.inr 154)), some (.inr (.inl x1)), none, some (.inl x3)] [] M = (zC (zR32 x3) (zC (zR32 (M 159 193)) (((M 159 193) ≤ x3 → zC (zR32 (M 159 193)) ((¬ (M 159 193) = 6 → zWp (zSp d) 164 K 69 [some (.inr (.inr 154)), some (.inr (.inl x1)), none, some (.inl x3)] [] M) ∧ (¬ (¬ (M 159 193) = 6) → zSp d 144 [.inr (.inr 154), .inl 4, .inl (M 154 12)] M (fun _ M1 => zWp (zSp d) 164 K 69 [some (.inr (.inr 154)), some (.inr (.inl x1)), none, some (.inl x3)] [] M1)))) ∧ (¬ ((M 159 193) ≤ x3) → zC (zSm x3 6) (zC (zR64 (M 161 x3)) (zC (zR64 x1) (zC (zR32 (zLcmp (M 161 x3) x1)) ((¬ (zLcmp (M 161 x3) x1) = 0 → zWp (zSp d) 164 K 16 [some (.inr (.inr 154)), some (.inr (.inl x1)), none, some (.inl (x3 + 1))] [] M) ∧ (¬ (¬ (zLcmp (M 161 x3) x1) = 0) → K x3 M))))))))) := (zwp_blk (stops := [16, 69]) (fuel := 71) pe_164).trans rfl
set_option maxHeartbeats 4000000 in
set_option maxRecDepth 100000 in
theorem fe_164_69 {d : Nat} {K : Kt} {M : Mm} {x1 x3 : Int} : zWp (zSp d) 164 K 69 [some (.inr (.inr 154)), some (.inr (.inl x1)), none, some (.inl x3)] [] M = (zSp d 143 [.inr (.inr 154)] M (fun z1 M1 => zC (zR32 z1) ((¬ z1 = 0 → zC (zSm (M1 159 193) 6) (K (((M1 159 193) + 1) - 1) (zUp (zUp M1 161 (M1 159 193) x1) 159 193 ((M1 159 193) + 1)))) ∧ (¬ (¬ z1 = 0) → K 0 M1)))) := (zwp_blk (stops := [16, 69]) (fuel := 71) pe_164).trans rfl
theorem pe_165 : zPg 165 = pg_165 := rfl
/-! 165 LeastFailingModel.partsRead -/
set_option maxHeartbeats 4000000 in
set_option maxRecDepth 100000 in
theorem me_165 {d : Nat} {K : Kt} {M : Mm} {a1 : Int} : zSp (d + 1) 165 [.inr (.inr 154), .inl a1] M K = (zSp d 154 [.inr (.inr 154), .inl 58] M (fun _ M1 => zWp (zSp d) 165 K 10 [some (.inr (.inr 154)), some (.inl a1), some (.inl 0), some (.inl 0), none] [] M1)) := (zwp_blk (stops := [10, 42, 84]) (fuel := 72) pe_165).trans rfl
set_option maxHeartbeats 4000000 in
set_option maxRecDepth 100000 in
theorem fe_165_10 {d : Nat} {K : Kt} {M : Mm} {x1 x2 x3 : Int} {u4 : Option Vl} : zWp (zSp d) 165 K 10 [some (.inr (.inr 154)), some (.inl x1), some (.inl x2), some (.inl x3), u4] [] M = (zSp d 143 [.inr (.inr 154)] M (fun z1 M1 => zC (zR32 z1) ((z1 = 0 → zWp (zSp d) 165 K 84 [some (.inr (.inr 154)), some (.inl x1), some (.inl x2), some (.inl x3), u4] [] M1) ∧ (¬ (z1 = 0) → zC (zR32 x3) ((¬ x3 = 0 → zWp (zSp d) 165 K 84 [some (.inr (.inr 154)), some (.inl x1), some (.inl x2), some (.inl x3), u4] [] M1) ∧ (¬ (¬ x3 = 0) → zSp d 161 [.inr (.inr 154)] M1 (fun z2 M2 => zC (zR32 z2) ((z2 = 0 → zWp (zSp d) 165 K 84 [some (.inr (.inr 154)), some (.inl x1), some (.inl x2), some (.inl x3), u4] [] M2) ∧ (¬ (z2 = 0) → zC (zR32 x2) ((¬ x2 = 4 → zWp (zSp d) 165 K 42 [some (.inr (.inr 154)), some (.inl x1), some (.inl x2), some (.inl x3), u4] [] M2) ∧ (¬ (¬ x2 = 4) → zSp d 149 [.inr (.inr 154)] M2 (fun z3 M3 => zSp d 144 [.inr (.inr 154), .inl 4, .inl z3] M3 (fun _ M4 => zWp (zSp d) 165 K 42 [some (.inr (.inr 154)), some (.inl x1), some (.inl x2), some (.inl x3), u4] [] M4))))))))))))) := (zwp_blk (stops := [10, 42, 84]) (fuel := 72) pe_165).trans rfl
set_option maxHeartbeats 4000000 in
set_option maxRecDepth 100000 in
theorem fe_165_42 {d : Nat} {K : Kt} {M : Mm} {x1 x2 x3 : Int} {u4 : Option Vl} : zWp (zSp d) 165 K 42 [some (.inr (.inr 154)), some (.inl x1), some (.inl x2), some (.inl x3), u4] [] M = (zSp d 164 [.inr (.inr 154)] M (fun z1 M1 => zSp d 143 [.inr (.inr 154)] M1 (fun z2 M2 => zC (zR32 z2) ((¬ z2 = 0 → zC (zSm (((8 * x1) + 4) + x2) 194) (zSp d 153 [.inr (.inr 154), .inl 42] (zUp M2 159 (((8 * x1) + 4) + x2) z1) (fun z3 M3 => zWp (zSp d) 165 K 10 [some (.inr (.inr 154)), some (.inl x1), some (.inl (x2 + 1)), some (.inl z3), some (.inl z1)] [] M3))) ∧ (¬ (¬ z2 = 0) → K 0 M2))))) := (zwp_blk (stops := [10, 42, 84]) (fuel := 72) pe_165).trans rfl
set_option maxHeartbeats 4000000 in
set_option maxRecDepth 100000 in
theorem fe_165_84 {d : Nat} {K : Kt} {M : Mm} {x1 x2 x3 : Int} {u4 : Option Vl} : zWp (zSp d) 165 K 84 [some (.inr (.inr 154)), some (.inl x1), some (.inl x2), some (.inl x3), u4] [] M = (zC (zSm ((8 * x1) + 2) 194) (zSp d 138 [.inl x3] (zUp M 159 ((8 * x1) + 2) x2) (fun z1 M1 => zC (zSm ((8 * x1) + 3) 194) (K 0 (zUp M1 159 ((8 * x1) + 3) z1))))) := (zwp_blk (stops := [10, 42, 84]) (fuel := 72) pe_165).trans rfl
theorem pe_166 : zPg 166 = pg_166 := rfl
/-! 166 LeastFailingModel.lineRead -/
set_option maxHeartbeats 4000000 in
set_option maxRecDepth 100000 in
theorem me_166 {d : Nat} {K : Kt} {M : Mm} : zSp (d + 1) 166 [.inr (.inr 154)] M K = (zSp d 155 [.inl 102, .inl 111, .inl 114, .inl 109, .inl 0, .inl 0] M (fun z1 M1 => zSp d 157 [.inr (.inr 154), .inr (.inl z1)] M1 (fun z2 M2 => zC (zR32 z2) ((¬ z2 = 0 → zWp (zSp d) 166 K 46 [some (.inr (.inr 154)), some (.inl z2), none, none, none, none] [] M2) ∧ (¬ (¬ z2 = 0) → zSp d 155 [.inl 108, .inl 101, .inl 97, .inl 102, .inl 0, .inl 0] M2 (fun z3 M3 => zSp d 157 [.inr (.inr 154), .inr (.inl z3)] M3 (fun z4 M4 => zC (zR32 z4) ((¬ z4 = 0 → zWp (zSp d) 166 K 46 [some (.inr (.inr 154)), some (.inl z2), none, none, none, none] [] M4) ∧ (¬ (¬ z4 = 0) → zSp d 151 [.inr (.inr 154)] M4 (fun _ M5 => zWp (zSp d) 166 K 46 [some (.inr (.inr 154)), some (.inl z2), none, none, none, none] [] M5)))))))))) := (zwp_blk (stops := [46, 70, 90, 130, 188]) (fuel := 121) pe_166).trans rfl
set_option maxHeartbeats 4000000 in
set_option maxRecDepth 100000 in
theorem fe_166_46 {d : Nat} {K : Kt} {M : Mm} {x1 : Int} : zWp (zSp d) 166 K 46 [some (.inr (.inr 154)), some (.inl x1), none, none, none, none] [] M = (zC (zR32 (M 159 192)) ((¬ (M 159 192) = 24 → zWp (zSp d) 166 K 70 [some (.inr (.inr 154)), some (.inl x1), some (.inl (M 159 192)), none, none, none] [] M) ∧ (¬ (¬ (M 159 192) = 24) → zSp d 149 [.inr (.inr 154)] M (fun z1 M1 => zSp d 144 [.inr (.inr 154), .inl 4, .inl z1] M1 (fun _ M2 => zWp (zSp d) 166 K 70 [some (.inr (.inr 154)), some (.inl x1), some (.inl (M 159 192)), none, none, none] [] M2))))) := (zwp_blk (stops := [46, 70, 90, 130, 188]) (fuel := 121) pe_166).trans rfl
set_option maxHeartbeats 4000000 in
set_option maxRecDepth 100000 in
theorem fe_166_70 {d : Nat} {K : Kt} {M : Mm} {x1 x2 : Int} : zWp (zSp d) 166 K 70 [some (.inr (.inr 154)), some (.inl x1), some (.inl x2), none, none, none] [] M = (zSp d 143 [.inr (.inr 154)] M (fun z1 M1 => zC (zR32 z1) ((¬ z1 = 0 → zSp d 158 [.inr (.inr 154)] M1 (fun _ M2 => zSp d 162 [.inr (.inr 154)] M2 (fun z3 M3 => zWp (zSp d) 166 K 90 [some (.inr (.inr 154)), some (.inl x1), some (.inl x2), some (.inr (.inl z3)), none, some (.inl 0)] [] M3))) ∧ (¬ (¬ z1 = 0) → K 0 M1)))) := (zwp_blk (stops := [46, 70, 90, 130, 188]) (fuel := 121) pe_166).trans rfl
set_option maxHeartbeats 4000000 in
set_option maxRecDepth 100000 in
theorem fe_166_90 {d : Nat} {K : Kt} {M : Mm} {x1 x2 x3 x5 : Int} : zWp (zSp d) 166 K 90 [some (.inr (.inr 154)), some (.inl x1), some (.inl x2), some (.inr (.inl x3)), none, some (.inl x5)] [] M = (zC (zR32 x5) (zC (zR32 x2) ((x2 ≤ x5 → zWp (zSp d) 166 K 130 [some (.inr (.inr 154)), some (.inl x1), some (.inl x2), some (.inr (.inl x3)), none, some (.inl x5)] [] M) ∧ (¬ (x2 ≤ x5) → zSp d 143 [.inr (.inr 154)] M (fun z1 M1 => zC (zR32 z1) ((z1 = 0 → zWp (zSp d) 166 K 130 [some (.inr (.inr 154)), some (.inl x1), some (.inl x2), some (.inr (.inl x3)), none, some (.inl x5)] [] M1) ∧ (¬ (z1 = 0) → zC (zSm x5 24) (zC (zR64 (M1 160 x5)) (zC (zR64 x3) (zC (zR32 (zLcmp (M1 160 x5) x3)) ((¬ (zLcmp (M1 160 x5) x3) = 0 → zWp (zSp d) 166 K 90 [some (.inr (.inr 154)), some (.inl x1), some (.inl x2), some (.inr (.inl x3)), none, some (.inl (x5 + 1))] [] M1) ∧ (¬ (¬ (zLcmp (M1 160 x5) x3) = 0) → zSp d 144 [.inr (.inr 154), .inl 3, .inl (M1 154 12)] M1 (fun _ M2 => zWp (zSp d) 166 K 90 [some (.inr (.inr 154)), some (.inl x1), some (.inl x2), some (.inr (.inl x3)), none, some (.inl (x5 + 1))] [] M2))))))))))))) := (zwp_blk (stops := [46, 70, 90, 130, 188]) (fuel := 121) pe_166).trans rfl
set_option maxHeartbeats 4000000 in
set_option maxRecDepth 100000 in
theorem fe_166_130 {d : Nat} {K : Kt} {M : Mm} {x1 x2 x3 x5 : Int} : zWp (zSp d) 166 K 130 [some (.inr (.inr 154)), some (.inl x1), some (.inl x2), some (.inr (.inl x3)), none, some (.inl x5)] [] M = (zSp d 164 [.inr (.inr 154)] M (fun z1 M1 => zSp d 143 [.inr (.inr 154)] M1 (fun z2 M2 => zC (zR32 z2) ((¬ z2 = 0 → zC (zSm x2 24) (zC (zSm ((8 * x2) + 0) 194) (zSp d 138 [.inl x1] (zUp (zUp M2 160 x2 x3) 159 ((8 * x2) + 0) z1) (fun z3 M3 => zC (zSm ((8 * x2) + 1) 194) (zC (zR32 x1) ((x1 = 0 → zWp (zSp d) 166 K 188 [some (.inr (.inr 154)), some (.inl x1), some (.inl x2), some (.inr (.inl x3)), none, some (.inl z1)] [] (zUp M3 159 ((8 * x2) + 1) z3)) ∧ (¬ (x1 = 0) → zSp d 165 [.inr (.inr 154), .inl x2] (zUp M3 159 ((8 * x2) + 1) z3) (fun _ M4 => zWp (zSp d) 166 K 188 [some (.inr (.inr 154)), some (.inl x1), some (.inl x2), some (.inr (.inl x3)), none, some (.inl z1)] [] M4)))))))) ∧ (¬ (¬ z2 = 0) → K 0 M2))))) := (zwp_blk (stops := [46, 70, 90, 130, 188]) (fuel := 121) pe_166).trans rfl
set_option maxHeartbeats 4000000 in
set_option maxRecDepth 100000 in
theorem fe_166_188 {d : Nat} {K : Kt} {M : Mm} {x1 x2 x3 x5 : Int} : zWp (zSp d) 166 K 188 [some (.inr (.inr 154)), some (.inl x1), some (.inl x2), some (.inr (.inl x3)), none, some (.inl x5)] [] M = (zSp d 154 [.inr (.inr 154), .inl 59] M (fun _ M1 => K 0 (zUp M1 159 192 ((M1 159 192) + 1)))) := (zwp_blk (stops := [46, 70, 90, 130, 188]) (fuel := 121) pe_166).trans rfl
theorem pe_167 : zPg 167 = pg_167 := rfl
/-! 167 LeastFailingModel.leastOf -/
set_option maxHeartbeats 4000000 in
set_option maxRecDepth 100000 in
theorem me_167 {d : Nat} {K : Kt} {M : Mm} {a1 : Int} : zSp (d + 1) 167 [.inr (.inr 154), .inl a1] M K = (zWp (zSp d) 167 K 4 [some (.inr (.inr 154)), some (.inl a1), some (.inl 1), some (.inl 0), none] [] M) := (zwp_blk (stops := [4]) (fuel := 58) pe_167).trans rfl
set_option maxHeartbeats 4000000 in
set_option maxRecDepth 100000 in
theorem fe_167_4 {d : Nat} {K : Kt} {M : Mm} {x1 x2 x3 : Int} {u4 : Option Vl} : zWp (zSp d) 167 K 4 [some (.inr (.inr 154)), some (.inl x1), some (.inl x2), some (.inl x3), u4] [] M = (zC (zSm ((8 * x1) + 2) 194) (zC (zSm ((8 * x1) + 3) 194) (zC (zR32 x3) (zC (zR32 ((M 159 ((8 * x1) + 2)) - (M 159 ((8 * x1) + 3)))) ((((M 159 ((8 * x1) + 2)) - (M 159 ((8 * x1) + 3))) ≤ x3 → K x2 M) ∧ (¬ (((M 159 ((8 * x1) + 2)) - (M 159 ((8 * x1) + 3))) ≤ x3) → zC (zSm (((8 * x1) + 4) + x3) 194) (zC (zSm (M 159 (((8 * x1) + 4) + x3)) 6) (zC (zR32 (M 164 (M 159 (((8 * x1) + 4) + x3)))) (((M 164 (M 159 (((8 * x1) + 4) + x3))) = 1000000 → zWp (zSp d) 167 K 4 [some (.inr (.inr 154)), some (.inl x1), some (.inl 1000000), some (.inl (x3 + 1)), some (.inl (M 164 (M 159 (((8 * x1) + 4) + x3))))] [] M) ∧ (¬ ((M 164 (M 159 (((8 * x1) + 4) + x3))) = 1000000) → zC (zR32 x2) ((¬ x2 = 1000000 → zWp (zSp d) 167 K 4 [some (.inr (.inr 154)), some (.inl x1), some (.inl (x2 + (M 164 (M 159 (((8 * x1) + 4) + x3))))), some (.inl (x3 + 1)), some (.inl (M 164 (M 159 (((8 * x1) + 4) + x3))))] [] M) ∧ (¬ (¬ x2 = 1000000) → zWp (zSp d) 167 K 4 [some (.inr (.inr 154)), some (.inl x1), some (.inl 1000000), some (.inl (x3 + 1)), some (.inl (M 164 (M 159 (((8 * x1) + 4) + x3))))] [] M)))))))))))) := (zwp_blk (stops := [4]) (fuel := 58) pe_167).trans rfl
theorem pe_168 : zPg 168 = pg_168 := rfl
/-! 168 LeastFailingModel.laysLeast -/
set_option maxHeartbeats 4000000 in
set_option maxRecDepth 100000 in
theorem me_168 {d : Nat} {K : Kt} {M : Mm} : zSp (d + 1) 168 [.inr (.inr 154)] M K = (zWp (zSp d) 168 K 2 [some (.inr (.inr 154)), some (.inl 0), none, none] [] M) := (zwp_blk (stops := [2, 25, 33, 96]) (fuel := 80) pe_168).trans rfl
set_option maxHeartbeats 4000000 in
set_option maxRecDepth 100000 in
theorem fe_168_2 {d : Nat} {K : Kt} {M : Mm} {x1 : Int} : zWp (zSp d) 168 K 2 [some (.inr (.inr 154)), some (.inl x1), none, none] [] M = (zC (zR32 x1) ((6 ≤ x1 → zWp (zSp d) 168 K 25 [some (.inr (.inr 154)), some (.inl 0), none, none] [] M) ∧ (¬ (6 ≤ x1) → zC (zSm x1 6) (zWp (zSp d) 168 K 2 [some (.inr (.inr 154)), some (.inl (x1 + 1)), none, none] [] (zUp M 164 x1 1000000))))) := (zwp_blk (stops := [2, 25, 33, 96]) (fuel := 80) pe_168).trans rfl
set_option maxHeartbeats 4000000 in
set_option maxRecDepth 100000 in
theorem fe_168_25 {d : Nat} {K : Kt} {M : Mm} {x1 : Int} {u2 u3 : Option Vl} : zWp (zSp d) 168 K 25 [some (.inr (.inr 154)), some (.inl x1), u2, u3] [] M = (zC (zR32 x1) ((6 < x1 → zWp (zSp d) 168 K 96 [some (.inr (.inr 154)), some (.inl 0), u2, u3] [] M) ∧ (¬ (6 < x1) → zWp (zSp d) 168 K 33 [some (.inr (.inr 154)), some (.inl x1), some (.inl 0), u3] [] M))) := (zwp_blk (stops := [2, 25, 33, 96]) (fuel := 80) pe_168).trans rfl
set_option maxHeartbeats 4000000 in
set_option maxRecDepth 100000 in
theorem fe_168_33 {d : Nat} {K : Kt} {M : Mm} {x1 x2 : Int} {u3 : Option Vl} : zWp (zSp d) 168 K 33 [some (.inr (.inr 154)), some (.inl x1), some (.inl x2), u3] [] M = (zC (zR32 x2) (zC (zR32 (M 159 192)) (((M 159 192) ≤ x2 → zWp (zSp d) 168 K 25 [some (.inr (.inr 154)), some (.inl (x1 + 1)), some (.inl x2), u3] [] M) ∧ (¬ ((M 159 192) ≤ x2) → zC (zSm ((8 * x2) + 0) 194) (zSp d 167 [.inr (.inr 154), .inl x2] M (fun z1 M1 => zC (zSm (M 159 ((8 * x2) + 0)) 6) (zC (zR32 z1) (zC (zR32 (M1 164 (M 159 ((8 * x2) + 0)))) (((M1 164 (M 159 ((8 * x2) + 0))) ≤ z1 → zWp (zSp d) 168 K 33 [some (.inr (.inr 154)), some (.inl x1), some (.inl (x2 + 1)), some (.inl (M 159 ((8 * x2) + 0)))] [] M1) ∧ (¬ ((M1 164 (M 159 ((8 * x2) + 0))) ≤ z1) → zSp d 167 [.inr (.inr 154), .inl x2] M1 (fun z2 M2 => zC (zSm (M 159 ((8 * x2) + 0)) 6) (zWp (zSp d) 168 K 33 [some (.inr (.inr 154)), some (.inl x1), some (.inl (x2 + 1)), some (.inl (M 159 ((8 * x2) + 0)))] [] (zUp M2 164 (M 159 ((8 * x2) + 0)) z2))))))))))))) := (zwp_blk (stops := [2, 25, 33, 96]) (fuel := 80) pe_168).trans rfl
set_option maxHeartbeats 4000000 in
set_option maxRecDepth 100000 in
theorem fe_168_96 {d : Nat} {K : Kt} {M : Mm} {x1 : Int} {u2 u3 : Option Vl} : zWp (zSp d) 168 K 96 [some (.inr (.inr 154)), some (.inl x1), u2, u3] [] M = (zC (zR32 x1) (zC (zR32 (M 159 193)) (((M 159 193) ≤ x1 → K 0 M) ∧ (¬ ((M 159 193) ≤ x1) → zC (zSm x1 6) (zC (zR32 (M 164 x1)) ((¬ (M 164 x1) = 1000000 → zWp (zSp d) 168 K 96 [some (.inr (.inr 154)), some (.inl (x1 + 1)), u2, u3] [] M) ∧ (¬ (¬ (M 164 x1) = 1000000) → zSp d 144 [.inr (.inr 154), .inl 5, .inl (M 154 3)] M (fun _ M1 => zWp (zSp d) 168 K 96 [some (.inr (.inr 154)), some (.inl (x1 + 1)), u2, u3] [] M1)))))))) := (zwp_blk (stops := [2, 25, 33, 96]) (fuel := 80) pe_168).trans rfl
theorem pe_169 : zPg 169 = pg_169 := rfl
/-! 169 LeastFailingModel.grammar -/
set_option maxHeartbeats 4000000 in
set_option maxRecDepth 100000 in
theorem me_169 {d : Nat} {K : Kt} {M : Mm} : zSp (d + 1) 169 [.inr (.inr 154)] M K = (zSp d 142 [.inr (.inr 154)] (zUp M 154 0 0) (fun _ M1 => zWp (zSp d) 169 K 11 [some (.inr (.inr 154)), some (.inl 0)] [] M1)) := (zwp_blk (stops := [11, 42, 63, 74, 85, 112, 138, 192]) (fuel := 152) pe_169).trans rfl
set_option maxHeartbeats 4000000 in
set_option maxRecDepth 100000 in
theorem fe_169_11 {d : Nat} {K : Kt} {M : Mm} {x1 : Int} : zWp (zSp d) 169 K 11 [some (.inr (.inr 154)), some (.inl x1)] [] M = (zC (zR32 x1) ((194 ≤ x1 → zSp d 150 [.inr (.inr 154)] M (fun z1 M1 => zC (zR32 z1) ((z1 = 0 → zWp (zSp d) 169 K 42 [some (.inr (.inr 154)), some (.inl x1)] [] M1) ∧ (¬ (z1 = 0) → zSp d 151 [.inr (.inr 154)] M1 (fun _ M2 => zWp (zSp d) 169 K 42 [some (.inr (.inr 154)), some (.inl x1)] [] M2))))) ∧ (¬ (194 ≤ x1) → zC (zSm x1 194) (zWp (zSp d) 169 K 11 [some (.inr (.inr 154)), some (.inl (x1 + 1))] [] (zUp M 159 x1 0))))) := (zwp_blk (stops := [11, 42, 63, 74, 85, 112, 138, 192]) (fuel := 152) pe_169).trans rfl
set_option maxHeartbeats 4000000 in
set_option maxRecDepth 100000 in
theorem fe_169_42 {d : Nat} {K : Kt} {M : Mm} {x1 : Int} : zWp (zSp d) 169 K 42 [some (.inr (.inr 154)), some (.inl x1)] [] M = (zSp d 143 [.inr (.inr 154)] M (fun z1 M1 => zC (zR32 z1) ((z1 = 0 → zWp (zSp d) 169 K 63 [some (.inr (.inr 154)), some (.inl x1)] [] M1) ∧ (¬ (z1 = 0) → zSp d 150 [.inr (.inr 154)] M1 (fun z2 M2 => zC (zR32 z2) ((¬ z2 = 0 → zWp (zSp d) 169 K 63 [some (.inr (.inr 154)), some (.inl x1)] [] M2) ∧ (¬ (¬ z2 = 0) → zSp d 166 [.inr (.inr 154)] M2 (fun _ M3 => zWp (zSp d) 169 K 42 [some (.inr (.inr 154)), some (.inl x1)] [] M3)))))))) := (zwp_blk (stops := [11, 42, 63, 74, 85, 112, 138, 192]) (fuel := 152) pe_169).trans rfl
set_option maxHeartbeats 4000000 in
set_option maxRecDepth 100000 in
theorem fe_169_63 {d : Nat} {K : Kt} {M : Mm} {x1 : Int} : zWp (zSp d) 169 K 63 [some (.inr (.inr 154)), some (.inl x1)] [] M = (zSp d 143 [.inr (.inr 154)] M (fun z1 M1 => zC (zR32 z1) ((z1 = 0 → zWp (zSp d) 169 K 74 [some (.inr (.inr 154)), some (.inl x1)] [] M1) ∧ (¬ (z1 = 0) → zSp d 168 [.inr (.inr 154)] M1 (fun _ M2 => zWp (zSp d) 169 K 74 [some (.inr (.inr 154)), some (.inl x1)] [] M2))))) := (zwp_blk (stops := [11, 42, 63, 74, 85, 112, 138, 192]) (fuel := 152) pe_169).trans rfl
set_option maxHeartbeats 4000000 in
set_option maxRecDepth 100000 in
theorem fe_169_74 {d : Nat} {K : Kt} {M : Mm} {x1 : Int} : zWp (zSp d) 169 K 74 [some (.inr (.inr 154)), some (.inl x1)] [] M = (zSp d 145 [.inr (.inr 154)] M (fun z1 M1 => zC (zR32 z1) ((¬ z1 = 0 → zWp (zSp d) 169 K 85 [some (.inr (.inr 154)), some (.inl 0)] [] M1) ∧ (¬ (¬ z1 = 0) → K (-1) M1)))) := (zwp_blk (stops := [11, 42, 63, 74, 85, 112, 138, 192]) (fuel := 152) pe_169).trans rfl
set_option maxHeartbeats 4000000 in
set_option maxRecDepth 100000 in
theorem fe_169_85 {d : Nat} {K : Kt} {M : Mm} {x1 : Int} : zWp (zSp d) 169 K 85 [some (.inr (.inr 154)), some (.inl x1)] [] M = (zC (zR32 x1) ((194 ≤ x1 → zWp (zSp d) 169 K 112 [some (.inr (.inr 154)), some (.inl 0)] [] M) ∧ (¬ (194 ≤ x1) → zC (zSm x1 194) (zC (zSm x1 194) (zWp (zSp d) 169 K 85 [some (.inr (.inr 154)), some (.inl (x1 + 1))] [] (zUp M 156 x1 (M 159 x1))))))) := (zwp_blk (stops := [11, 42, 63, 74, 85, 112, 138, 192]) (fuel := 152) pe_169).trans rfl
set_option maxHeartbeats 4000000 in
set_option maxRecDepth 100000 in
theorem fe_169_112 {d : Nat} {K : Kt} {M : Mm} {x1 : Int} : zWp (zSp d) 169 K 112 [some (.inr (.inr 154)), some (.inl x1)] [] M = (zC (zR32 x1) ((24 ≤ x1 → zWp (zSp d) 169 K 138 [some (.inr (.inr 154)), some (.inl 0)] [] M) ∧ (¬ (24 ≤ x1) → zC (zSm x1 24) (zC (zSm x1 24) (zWp (zSp d) 169 K 112 [some (.inr (.inr 154)), some (.inl (x1 + 1))] [] (zUp M 157 x1 (M 160 x1))))))) := (zwp_blk (stops := [11, 42, 63, 74, 85, 112, 138, 192]) (fuel := 152) pe_169).trans rfl
set_option maxHeartbeats 4000000 in
set_option maxRecDepth 100000 in
theorem fe_169_138 {d : Nat} {K : Kt} {M : Mm} {x1 : Int} : zWp (zSp d) 169 K 138 [some (.inr (.inr 154)), some (.inl x1)] [] M = (zC (zR32 x1) ((6 ≤ x1 → zWp (zSp d) 169 K 192 [some (.inr (.inr 154)), some (.inl ((M 156 192) - 1))] [] M) ∧ (¬ (6 ≤ x1) → zC (zSm x1 6) (zC (zSm x1 6) (zC (zSm x1 6) (zC (zSm x1 6) (zC (zSm x1 6) (zWp (zSp d) 169 K 138 [some (.inr (.inr 154)), some (.inl (x1 + 1))] [] (zUp (zUp (zUp M 158 x1 (M 161 x1)) 162 x1 (M 164 x1)) 163 x1 (-1)))))))))) := (zwp_blk (stops := [11, 42, 63, 74, 85, 112, 138, 192]) (fuel := 152) pe_169).trans rfl
set_option maxHeartbeats 4000000 in
set_option maxRecDepth 100000 in
theorem fe_169_192 {d : Nat} {K : Kt} {M : Mm} {x1 : Int} : zWp (zSp d) 169 K 192 [some (.inr (.inr 154)), some (.inl x1)] [] M = (zC (zR32 x1) ((x1 < 0 → zSp d 209 [.inr (.inr 154)] (zUp (zUp (zUp M 165 0 0) 154 37 0) 154 24 0) (fun _ M1 => K (M1 156 192) M1)) ∧ (¬ (x1 < 0) → zSp d 167 [.inr (.inr 154), .inl x1] M (fun z2 M2 => zSp d 170 [.inr (.inr 154), .inl x1, .inl 0] M2 (fun z3 M3 => zC (zSm z3 6) (zC (zR32 z2) (zC (zR32 (M3 162 z3)) ((¬ z2 = (M3 162 z3) → zWp (zSp d) 169 K 192 [some (.inr (.inr 154)), some (.inl (x1 + (-1)))] [] M3) ∧ (¬ (¬ z2 = (M3 162 z3)) → zSp d 170 [.inr (.inr 154), .inl x1, .inl 0] M3 (fun z4 M4 => zC (zSm z4 6) (zWp (zSp d) 169 K 192 [some (.inr (.inr 154)), some (.inl (x1 + (-1)))] [] (zUp M4 163 z4 x1)))))))))))) := (zwp_blk (stops := [11, 42, 63, 74, 85, 112, 138, 192]) (fuel := 152) pe_169).trans rfl
theorem pe_170 : zPg 170 = pg_170 := rfl
/-! 170 LeastFailingModel.ofLine -/
set_option maxHeartbeats 4000000 in
set_option maxRecDepth 100000 in
theorem me_170 {d : Nat} {K : Kt} {M : Mm} {a1 a2 : Int} : zSp (d + 1) 170 [.inr (.inr 154), .inl a1, .inl a2] M K = (zC (zSm ((8 * a1) + a2) 194) (K (M 156 ((8 * a1) + a2)) M)) := (zwp_blk (stops := []) (fuel := 14) pe_170).trans rfl
theorem pe_171 : zPg 171 = pg_171 := rfl
/-! 171 LeastFailingModel.lineOf -/
set_option maxHeartbeats 4000000 in
set_option maxRecDepth 100000 in
theorem me_171 {d : Nat} {K : Kt} {M : Mm} {a1 : Int} : zSp (d + 1) 171 [.inr (.inr 154), .inr (.inl a1)] M K = (zWp (zSp d) 171 K 2 [some (.inr (.inr 154)), some (.inr (.inl a1)), none, some (.inl 0)] [] M) := (zwp_blk (stops := [2]) (fuel := 26) pe_171).trans rfl
set_option maxHeartbeats 4000000 in
set_option maxRecDepth 100000 in
theorem fe_171_2 {d : Nat} {K : Kt} {M : Mm} {x1 x3 : Int} : zWp (zSp d) 171 K 2 [some (.inr (.inr 154)), some (.inr (.inl x1)), none, some (.inl x3)] [] M = (zC (zR32 x3) (zC (zR32 (M 156 192)) (((M 156 192) ≤ x3 → K (-1) M) ∧ (¬ ((M 156 192) ≤ x3) → zC (zSm x3 24) (zC (zR64 (M 157 x3)) (zC (zR64 x1) (zC (zR32 (zLcmp (M 157 x3) x1)) ((¬ (zLcmp (M 157 x3) x1) = 0 → zWp (zSp d) 171 K 2 [some (.inr (.inr 154)), some (.inr (.inl x1)), none, some (.inl (x3 + 1))] [] M) ∧ (¬ (¬ (zLcmp (M 157 x3) x1) = 0) → K x3 M))))))))) := (zwp_blk (stops := [2]) (fuel := 26) pe_171).trans rfl
theorem pe_172 : zPg 172 = pg_172 := rfl
/-! 172 LeastFailingModel.fixed -/
set_option maxHeartbeats 4000000 in
set_option maxRecDepth 100000 in
theorem me_172 {d : Nat} {K : Kt} {M : Mm} {a1 : Int} : zSp (d + 1) 172 [.inr (.inr 154), .inl a1] M K = (zSp d 170 [.inr (.inr 154), .inl a1, .inl 2] M (fun z1 M1 => zSp d 170 [.inr (.inr 154), .inl a1, .inl 3] M1 (fun z2 M2 => K (z1 - z2) M2))) := (zwp_blk (stops := []) (fuel := 15) pe_172).trans rfl
theorem pe_173 : zPg 173 = pg_173 := rfl
/-! 173 LeastFailingModel.sortOfPart -/
set_option maxHeartbeats 4000000 in
set_option maxRecDepth 100000 in
theorem me_173 {d : Nat} {K : Kt} {M : Mm} {a1 a2 : Int} : zSp (d + 1) 173 [.inr (.inr 154), .inl a1, .inl a2] M K = (zSp d 172 [.inr (.inr 154), .inl a1] M (fun z1 M1 => zC (zR32 a2) (zC (zR32 z1) ((z1 ≤ a2 → zSp d 170 [.inr (.inr 154), .inl a1, .inl 3] M1 (fun z2 M2 => zC (zR32 z2) ((¬ z2 = 1 → K (-1) M2) ∧ (¬ (¬ z2 = 1) → zSp d 170 [.inr (.inr 154), .inl a1, .inl 2] M2 (fun z3 M3 => zSp d 170 [.inr (.inr 154), .inl a1, .inl ((4 + z3) - 1)] M3 (fun z4 M4 => K z4 M4)))))) ∧ (¬ (z1 ≤ a2) → zSp d 170 [.inr (.inr 154), .inl a1, .inl (4 + a2)] M1 (fun z5 M5 => K z5 M5)))))) := (zwp_blk (stops := []) (fuel := 37) pe_173).trans rfl
theorem pe_174 : zPg 174 = pg_174 := rfl
/-! 174 LeastFailingModel.many -/
set_option maxHeartbeats 4000000 in
set_option maxRecDepth 100000 in
theorem me_174 {d : Nat} {K : Kt} {M : Mm} {a1 : Int} : zSp (d + 1) 174 [.inr (.inr 154), .inl a1] M K = (zC (zSm a1 2093) (K (M 165 a1) M)) := (zwp_blk (stops := []) (fuel := 10) pe_174).trans rfl
theorem pe_175 : zPg 175 = pg_175 := rfl
/-! 175 LeastFailingModel.nameOf -/
set_option maxHeartbeats 4000000 in
set_option maxRecDepth 100000 in
theorem me_175 {d : Nat} {K : Kt} {M : Mm} {a1 a2 : Int} : zSp (d + 1) 175 [.inr (.inr 154), .inl a1, .inl a2] M K = (zC (zSm ((a1 + 1) + a2) 2093) (K (M 165 ((a1 + 1) + a2)) M)) := (zwp_blk (stops := []) (fuel := 14) pe_175).trans rfl
theorem pe_176 : zPg 176 = pg_176 := rfl
/-! 176 LeastFailingModel.sizeOf -/
set_option maxHeartbeats 4000000 in
set_option maxRecDepth 100000 in
theorem me_176 {d : Nat} {K : Kt} {M : Mm} {a1 a2 : Int} : zSp (d + 1) 176 [.inr (.inr 154), .inl a1, .inl a2] M K = (zC (zSm ((a1 + 81) + a2) 2093) (K (M 165 ((a1 + 81) + a2)) M)) := (zwp_blk (stops := []) (fuel := 14) pe_176).trans rfl
theorem pe_177 : zPg 177 = pg_177 := rfl
/-! 177 LeastFailingModel.copies -/
set_option maxHeartbeats 4000000 in
set_option maxRecDepth 100000 in
theorem me_177 {d : Nat} {K : Kt} {M : Mm} {a1 a2 : Int} : zSp (d + 1) 177 [.inr (.inr 154), .inl a1, .inl a2] M K = (zWp (zSp d) 177 K 2 [some (.inr (.inr 154)), some (.inl a1), some (.inl a2), some (.inl 0)] [] M) := (zwp_blk (stops := [2]) (fuel := 25) pe_177).trans rfl
set_option maxHeartbeats 4000000 in
set_option maxRecDepth 100000 in
theorem fe_177_2 {d : Nat} {K : Kt} {M : Mm} {x1 x2 x3 : Int} : zWp (zSp d) 177 K 2 [some (.inr (.inr 154)), some (.inl x1), some (.inl x2), some (.inl x3)] [] M = (zC (zR32 x3) ((161 ≤ x3 → K 0 M) ∧ (¬ (161 ≤ x3) → zC (zSm (x2 + x3) 2093) (zC (zSm (x1 + x3) 2093) (zWp (zSp d) 177 K 2 [some (.inr (.inr 154)), some (.inl x1), some (.inl x2), some (.inl (x3 + 1))] [] (zUp M 165 (x1 + x3) (M 165 (x2 + x3)))))))) := (zwp_blk (stops := [2]) (fuel := 25) pe_177).trans rfl
theorem pe_178 : zPg 178 = pg_178 := rfl
/-! 178 LeastFailingModel.adds -/
set_option maxHeartbeats 4000000 in
set_option maxRecDepth 100000 in
theorem me_178 {d : Nat} {K : Kt} {M : Mm} {a1 a2 : Int} : zSp (d + 1) 178 [.inr (.inr 154), .inl a1, .inl a2] M K = (zC (zSm a1 2093) (zC (zSm ((a1 + 1) + (M 165 a1)) 2093) (zC (zSm ((a1 + 81) + (M 165 a1)) 2093) (zC (zSm a1 2093) (zC (zSm a1 2093) (K (M 165 a1) (zUp (zUp (zUp M 165 ((a1 + 1) + (M 165 a1)) a2) 165 ((a1 + 81) + (M 165 a1)) 1) 165 a1 (((zUp (zUp M 165 ((a1 + 1) + (M 165 a1)) a2) 165 ((a1 + 81) + (M 165 a1)) 1) 165 a1) + 1)))))))) := (zwp_blk (stops := []) (fuel := 38) pe_178).trans rfl
theorem pe_179 : zPg 179 = pg_179 := rfl
/-! 179 LeastFailingModel.stands -/
set_option maxHeartbeats 4000000 in
set_option maxRecDepth 100000 in
theorem me_179 {d : Nat} {K : Kt} {M : Mm} {a1 a2 a3 : Int} : zSp (d + 1) 179 [.inr (.inr 154), .inl a1, .inl a2, .inl a3] M K = (zSp d 170 [.inr (.inr 154), .inl a1, .inl 1] M (fun z1 M1 => zC (zR32 z1) ((¬ z1 = 1 → zWp (zSp d) 179 K 15 [some (.inr (.inr 154)), some (.inl a1), some (.inl a2), some (.inl a3), none, none] [.inl 0] M1) ∧ (¬ (¬ z1 = 1) → zWp (zSp d) 179 K 15 [some (.inr (.inr 154)), some (.inl a1), some (.inl a2), some (.inl a3), none, none] [.inl 1] M1)))) := (zwp_blk (stops := [15, 61, 80]) (fuel := 54) pe_179).trans rfl
set_option maxHeartbeats 4000000 in
set_option maxRecDepth 100000 in
theorem fe_179_15 {d : Nat} {K : Kt} {M : Mm} {x1 x2 x3 y0 : Int} : zWp (zSp d) 179 K 15 [some (.inr (.inr 154)), some (.inl x1), some (.inl x2), some (.inl x3), none, none] [.inl y0] M = (zC (zR32 (M 154 28)) ((¬ (M 154 28) = 0 → zC (zSm ((M 154 28) - 1) 16) (zSp d 175 [.inr (.inr 154), .inl 322, .inl (M 166 ((M 154 28) - 1))] M (fun z1 M1 => zC (zSm ((M1 154 28) - 1) 16) (zSp d 173 [.inr (.inr 154), .inl z1, .inl (M1 167 ((M1 154 28) - 1))] M1 (fun z2 M2 => zWp (zSp d) 179 K 61 [some (.inr (.inr 154)), some (.inl x1), some (.inl x2), some (.inl x3), some (.inl y0), none] [.inl z2] M2))))) ∧ (¬ (¬ (M 154 28) = 0) → zWp (zSp d) 179 K 61 [some (.inr (.inr 154)), some (.inl x1), some (.inl x2), some (.inl x3), some (.inl y0), none] [.inl 0] M))) := (zwp_blk (stops := [15, 61, 80]) (fuel := 54) pe_179).trans rfl
set_option maxHeartbeats 4000000 in
set_option maxRecDepth 100000 in
theorem fe_179_61 {d : Nat} {K : Kt} {M : Mm} {x1 x2 x3 x4 y0 : Int} : zWp (zSp d) 179 K 61 [some (.inr (.inr 154)), some (.inl x1), some (.inl x2), some (.inl x3), some (.inl x4), none] [.inl y0] M = (zC (zR32 x4) (zC (zR32 x2) ((¬ x4 = x2 → zWp (zSp d) 179 K 80 [some (.inr (.inr 154)), some (.inl x1), some (.inl x2), some (.inl x3), some (.inl x4), some (.inl y0)] [] M) ∧ (¬ (¬ x4 = x2) → zSp d 170 [.inr (.inr 154), .inl x1, .inl 0] M (fun z1 M1 => zC (zR32 y0) (zC (zR32 z1) ((y0 = z1 → K 0 M1) ∧ (¬ (y0 = z1) → zWp (zSp d) 179 K 80 [some (.inr (.inr 154)), some (.inl x1), some (.inl x2), some (.inl x3), some (.inl x4), some (.inl y0)] [] M1)))))))) := (zwp_blk (stops := [15, 61, 80]) (fuel := 54) pe_179).trans rfl
set_option maxHeartbeats 4000000 in
set_option maxRecDepth 100000 in
theorem fe_179_80 {d : Nat} {K : Kt} {M : Mm} {x1 x2 x3 x4 x5 : Int} : zWp (zSp d) 179 K 80 [some (.inr (.inr 154)), some (.inl x1), some (.inl x2), some (.inl x3), some (.inl x4), some (.inl x5)] [] M = (zSp d 144 [.inr (.inr 154), .inl 5, .inl x3] M (fun _ M1 => K 0 M1)) := (zwp_blk (stops := [15, 61, 80]) (fuel := 54) pe_179).trans rfl
