theorem pe_45 : zPg 45 = pg_45 := rfl
/-! 45 Reducer.partStart -/
set_option maxHeartbeats 4000000 in
set_option maxRecDepth 100000 in
theorem me_45 {d : Nat} {K : Kt} {M : Mm} {a1 a2 a3 : Int} : zSp (d + 1) 45 [.inl a1, .inl a2, .inl a3] M K = (zC (zR32 a2) ((1 ≤ a2 → zC (zR32 (a3 * a1)) (zC (zR32 a2) (zC (zDv (a3 * a1) a2) (K ((a3 * a1) / a2) M)))) ∧ (¬ (1 ≤ a2) → K 0 M))) := (zwp_blk (stops := []) (fuel := 16) pe_45).trans rfl
theorem pe_46 : zPg 46 = pg_46 := rfl
/-! 46 Reducer.start -/
set_option maxHeartbeats 4000000 in
set_option maxRecDepth 100000 in
theorem me_46 {d : Nat} {K : Kt} {M : Mm} {a1 : Int} : zSp (d + 1) 46 [.inr (.inr 150), .inl a1] M K = (K 0 (zUp (zUp M 150 3 a1) 150 4 0)) := (zwp_blk (stops := []) (fuel := 12) pe_46).trans rfl
theorem pe_47 : zPg 47 = pg_47 := rfl
/-! 47 Reducer.byLevels -/
set_option maxHeartbeats 4000000 in
set_option maxRecDepth 100000 in
theorem me_47 {d : Nat} {K : Kt} {M : Mm} : zSp (d + 1) 47 [.inr (.inr 150)] M K = (zWp (zSp d) 47 K 2 [some (.inr (.inr 150)), some (.inl 1)] [] M) := (zwp_blk (stops := [2]) (fuel := 27) pe_47).trans rfl
set_option maxHeartbeats 4000000 in
set_option maxRecDepth 100000 in
theorem fe_47_2 {d : Nat} {K : Kt} {M : Mm} {x1 : Int} : zWp (zSp d) 47 K 2 [some (.inr (.inr 150)), some (.inl x1)] [] M = (zC (zR32 x1) ((80 ≤ x1 → K 0 M) ∧ (¬ (80 ≤ x1) → zC (zR32 x1) (zC (zR32 (M 38 2)) (((M 38 2) < x1 → K 0 M) ∧ (¬ ((M 38 2) < x1) → zSp d 53 [.inr (.inr 150), .inl x1] M (fun _ M1 => zC (zR32 (M1 150 6)) (((M1 150 6) ≤ 0 → zWp (zSp d) 47 K 2 [some (.inr (.inr 150)), some (.inl (x1 + 1))] [] M1) ∧ (¬ ((M1 150 6) ≤ 0) → zSp d 54 [.inr (.inr 150), .inl x1] M1 (fun _ M2 => zWp (zSp d) 47 K 2 [some (.inr (.inr 150)), some (.inl (x1 + 1))] [] M2)))))))))) := (zwp_blk (stops := [2]) (fuel := 27) pe_47).trans rfl
theorem pe_48 : zPg 48 = pg_48 := rfl
/-! 48 Reducer.byHoists -/
set_option maxHeartbeats 4000000 in
set_option maxRecDepth 100000 in
theorem me_48 {d : Nat} {K : Kt} {M : Mm} : zSp (d + 1) 48 [.inr (.inr 150)] M K = (zWp (zSp d) 48 K 4 [some (.inr (.inr 150)), some (.inl 0), some (.inl 0)] [] M) := (zwp_blk (stops := [4]) (fuel := 25) pe_48).trans rfl
set_option maxHeartbeats 4000000 in
set_option maxRecDepth 100000 in
theorem fe_48_4 {d : Nat} {K : Kt} {M : Mm} {x1 x2 : Int} : zWp (zSp d) 48 K 4 [some (.inr (.inr 150)), some (.inl x1), some (.inl x2)] [] M = (zC (zR32 x2) ((100000 ≤ x2 → K 0 M) ∧ (¬ (100000 ≤ x2) → zC (zR32 x1) (zC (zR32 (M 38 1)) (((M 38 1) ≤ x1 → K 0 M) ∧ (¬ ((M 38 1) ≤ x1) → zSp d 50 [.inr (.inr 150), .inl x1] M (fun z1 M1 => zC (zR32 z1) ((¬ z1 = 0 → zWp (zSp d) 48 K 4 [some (.inr (.inr 150)), some (.inl x1), some (.inl (x2 + 1))] [] M1) ∧ (¬ (¬ z1 = 0) → zWp (zSp d) 48 K 4 [some (.inr (.inr 150)), some (.inl (x1 + 1)), some (.inl (x2 + 1))] [] M1))))))))) := (zwp_blk (stops := [4]) (fuel := 25) pe_48).trans rfl
theorem pe_49 : zPg 49 = pg_49 := rfl
/-! 49 Reducer.byCuts -/
set_option maxHeartbeats 4000000 in
set_option maxRecDepth 100000 in
theorem me_49 {d : Nat} {K : Kt} {M : Mm} : zSp (d + 1) 49 [.inr (.inr 150)] M K = (zWp (zSp d) 49 K 4 [some (.inr (.inr 150)), some (.inl 0), some (.inl 0), none] [] M) := (zwp_blk (stops := [4, 47, 48, 79, 80, 81]) (fuel := 57) pe_49).trans rfl
set_option maxHeartbeats 4000000 in
set_option maxRecDepth 100000 in
theorem fe_49_4 {d : Nat} {K : Kt} {M : Mm} {x1 x2 : Int} {u3 : Option Vl} : zWp (zSp d) 49 K 4 [some (.inr (.inr 150)), some (.inl x1), some (.inl x2), u3] [] M = (zC (zR32 x2) ((100000 ≤ x2 → K 0 M) ∧ (¬ (100000 ≤ x2) → zC (zR32 x1) (zC (zR32 (M 38 1)) (((M 38 1) ≤ x1 → K 0 M) ∧ (¬ ((M 38 1) ≤ x1) → zSp d 86 [.inr (.inr 38), .inl x1] M (fun z1 M1 => zC (zR32 z1) ((z1 = 0 → zWp (zSp d) 49 K 47 [some (.inr (.inr 150)), some (.inl x1), some (.inl x2), u3] [] M1) ∧ (¬ (z1 = 0) → zSp d 51 [.inr (.inr 150), .inl 0, .inl x1, .inl (-1), .inl 5] M1 (fun z2 M2 => zC (zR32 z2) ((z2 = 0 → zWp (zSp d) 49 K 47 [some (.inr (.inr 150)), some (.inl x1), some (.inl x2), u3] [] M2) ∧ (¬ (z2 = 0) → zWp (zSp d) 49 K 48 [some (.inr (.inr 150)), some (.inl x1), some (.inl x2), u3] [.inl 1] M2)))))))))))) := (zwp_blk (stops := [4, 47, 48, 79, 80, 81]) (fuel := 57) pe_49).trans rfl
set_option maxHeartbeats 4000000 in
set_option maxRecDepth 100000 in
theorem fe_49_47 {d : Nat} {K : Kt} {M : Mm} {x1 x2 : Int} {u3 : Option Vl} : zWp (zSp d) 49 K 47 [some (.inr (.inr 150)), some (.inl x1), some (.inl x2), u3] [] M = (zWp (zSp d) 49 K 48 [some (.inr (.inr 150)), some (.inl x1), some (.inl x2), u3] [.inl 0] M) := (zwp_blk (stops := [4, 47, 48, 79, 80, 81]) (fuel := 57) pe_49).trans rfl
set_option maxHeartbeats 4000000 in
set_option maxRecDepth 100000 in
theorem fe_49_48 {d : Nat} {K : Kt} {M : Mm} {x1 x2 y0 : Int} {u3 : Option Vl} : zWp (zSp d) 49 K 48 [some (.inr (.inr 150)), some (.inl x1), some (.inl x2), u3] [.inl y0] M = (zC (zR32 y0) ((¬ y0 = 0 → zWp (zSp d) 49 K 81 [some (.inr (.inr 150)), some (.inl x1), some (.inl x2), some (.inl y0)] [] M) ∧ (¬ (¬ y0 = 0) → zSp d 87 [.inr (.inr 38), .inl x1] M (fun z1 M1 => zC (zR32 z1) ((z1 = 0 → zWp (zSp d) 49 K 79 [some (.inr (.inr 150)), some (.inl x1), some (.inl x2), some (.inl y0)] [] M1) ∧ (¬ (z1 = 0) → zSp d 51 [.inr (.inr 150), .inl 1, .inl x1, .inl (-1), .inl 5] M1 (fun z2 M2 => zC (zR32 z2) ((z2 = 0 → zWp (zSp d) 49 K 79 [some (.inr (.inr 150)), some (.inl x1), some (.inl x2), some (.inl y0)] [] M2) ∧ (¬ (z2 = 0) → zWp (zSp d) 49 K 80 [some (.inr (.inr 150)), some (.inl x1), some (.inl x2), some (.inl y0)] [.inl 1] M2))))))))) := (zwp_blk (stops := [4, 47, 48, 79, 80, 81]) (fuel := 57) pe_49).trans rfl
set_option maxHeartbeats 4000000 in
set_option maxRecDepth 100000 in
theorem fe_49_79 {d : Nat} {K : Kt} {M : Mm} {x1 x2 x3 : Int} : zWp (zSp d) 49 K 79 [some (.inr (.inr 150)), some (.inl x1), some (.inl x2), some (.inl x3)] [] M = (zWp (zSp d) 49 K 80 [some (.inr (.inr 150)), some (.inl x1), some (.inl x2), some (.inl x3)] [.inl 0] M) := (zwp_blk (stops := [4, 47, 48, 79, 80, 81]) (fuel := 57) pe_49).trans rfl
set_option maxHeartbeats 4000000 in
set_option maxRecDepth 100000 in
theorem fe_49_80 {d : Nat} {K : Kt} {M : Mm} {x1 x2 x3 y0 : Int} : zWp (zSp d) 49 K 80 [some (.inr (.inr 150)), some (.inl x1), some (.inl x2), some (.inl x3)] [.inl y0] M = (zWp (zSp d) 49 K 81 [some (.inr (.inr 150)), some (.inl x1), some (.inl x2), some (.inl y0)] [] M) := (zwp_blk (stops := [4, 47, 48, 79, 80, 81]) (fuel := 57) pe_49).trans rfl
set_option maxHeartbeats 4000000 in
set_option maxRecDepth 100000 in
theorem fe_49_81 {d : Nat} {K : Kt} {M : Mm} {x1 x2 x3 : Int} : zWp (zSp d) 49 K 81 [some (.inr (.inr 150)), some (.inl x1), some (.inl x2), some (.inl x3)] [] M = (zC (zR32 x3) ((¬ x3 = 0 → zWp (zSp d) 49 K 4 [some (.inr (.inr 150)), some (.inl x1), some (.inl (x2 + 1)), some (.inl x3)] [] M) ∧ (¬ (¬ x3 = 0) → zWp (zSp d) 49 K 4 [some (.inr (.inr 150)), some (.inl (x1 + 1)), some (.inl (x2 + 1)), some (.inl x3)] [] M))) := (zwp_blk (stops := [4, 47, 48, 79, 80, 81]) (fuel := 57) pe_49).trans rfl
theorem pe_50 : zPg 50 = pg_50 := rfl
/-! 50 Reducer.isHoisted -/
set_option maxHeartbeats 4000000 in
set_option maxRecDepth 100000 in
theorem me_50 {d : Nat} {K : Kt} {M : Mm} {a1 : Int} : zSp (d + 1) 50 [.inr (.inr 150), .inl a1] M K = (zWp (zSp d) 50 K 4 [some (.inr (.inr 150)), some (.inl a1), some (.inl (a1 + 1))] [] M) := (zwp_blk (stops := [4]) (fuel := 40) pe_50).trans rfl
set_option maxHeartbeats 4000000 in
set_option maxRecDepth 100000 in
theorem fe_50_4 {d : Nat} {K : Kt} {M : Mm} {x1 x2 : Int} : zWp (zSp d) 50 K 4 [some (.inr (.inr 150)), some (.inl x1), some (.inl x2)] [] M = (zC (zSm x1 80) (zC (zR32 x2) (zC (zR32 (x1 + (M 44 x1))) (((x1 + (M 44 x1)) ≤ x2 → K 0 M) ∧ (¬ ((x1 + (M 44 x1)) ≤ x2) → zSp d 85 [.inr (.inr 38), .inl x2] M (fun z1 M1 => zSp d 85 [.inr (.inr 38), .inl x1] M1 (fun z2 M2 => zC (zR32 z1) (zC (zR32 z2) ((¬ z1 = z2 → zWp (zSp d) 50 K 4 [some (.inr (.inr 150)), some (.inl x1), some (.inl (x2 + 1))] [] M2) ∧ (¬ (¬ z1 = z2) → zSp d 51 [.inr (.inr 150), .inl 2, .inl x1, .inl x2, .inl 4] M2 (fun z3 M3 => zC (zR32 z3) ((z3 = 0 → zWp (zSp d) 50 K 4 [some (.inr (.inr 150)), some (.inl x1), some (.inl (x2 + 1))] [] M3) ∧ (¬ (z3 = 0) → K 1 M3))))))))))))) := (zwp_blk (stops := [4]) (fuel := 40) pe_50).trans rfl
theorem pe_51 : zPg 51 = pg_51 := rfl
/-! 51 Reducer.isTakenSingle -/
set_option maxHeartbeats 4000000 in
set_option maxRecDepth 100000 in
theorem me_51 {d : Nat} {K : Kt} {M : Mm} {a1 a2 a3 a4 : Int} : zSp (d + 1) 51 [.inr (.inr 150), .inl a1, .inl a2, .inl a3, .inl a4] M K = (zSp d 90 [.inr (.inr 46), .inr (.inr 38), .inl a1, .inl a2, .inl a3] M (fun _ M1 => zSp d 52 [.inr (.inr 150), .inl a4, .inl a2] M1 (fun z2 M2 => zC (zBo z2) (K z2 M2)))) := (zwp_blk (stops := []) (fuel := 18) pe_51).trans rfl
theorem pe_52 : zPg 52 = pg_52 := rfl
/-! 52 Reducer.isTaken -/
set_option maxHeartbeats 4000000 in
set_option maxRecDepth 100000 in
theorem me_52 {d : Nat} {K : Kt} {M : Mm} {a1 a2 : Int} : zSp (d + 1) 52 [.inr (.inr 150), .inl a1, .inl a2] M K = (zSp d 42 [.inr (.inr 147), .inr (.inr 46), .inl a1, .inl a2] M (fun z1 M1 => zC (zR32 z1) (zC (zR32 (M1 150 3)) ((z1 = (M1 150 3) → zSp d 80 [.inr (.inr 38), .inr (.inr 46)] M1 (fun _ M2 => K 1 (zUp M2 150 4 ((M2 150 4) + 1)))) ∧ (¬ (z1 = (M1 150 3)) → K 0 M1))))) := (zwp_blk (stops := []) (fuel := 30) pe_52).trans rfl
theorem pe_53 : zPg 53 = pg_53 := rfl
/-! 53 Reducer.gatherRow -/
set_option maxHeartbeats 4000000 in
set_option maxRecDepth 100000 in
theorem me_53 {d : Nat} {K : Kt} {M : Mm} {a1 : Int} : zSp (d + 1) 53 [.inr (.inr 150), .inl a1] M K = (zWp (zSp d) 53 K 7 [some (.inr (.inr 150)), some (.inl a1), some (.inl 0)] [] (zUp M 150 6 0)) := (zwp_blk (stops := [7]) (fuel := 36) pe_53).trans rfl
set_option maxHeartbeats 4000000 in
set_option maxRecDepth 100000 in
theorem fe_53_7 {d : Nat} {K : Kt} {M : Mm} {x1 x2 : Int} : zWp (zSp d) 53 K 7 [some (.inr (.inr 150)), some (.inl x1), some (.inl x2)] [] M = (zC (zR32 x2) (zC (zR32 (M 38 1)) (((M 38 1) ≤ x2 → K 0 M) ∧ (¬ ((M 38 1) ≤ x2) → zSp d 88 [.inr (.inr 38), .inl x2, .inl x1] M (fun z1 M1 => zC (zR32 z1) ((z1 = 0 → zWp (zSp d) 53 K 7 [some (.inr (.inr 150)), some (.inl x1), some (.inl (x2 + 1))] [] M1) ∧ (¬ (z1 = 0) → zC (zSm (M1 150 6) 80) (zWp (zSp d) 53 K 7 [some (.inr (.inr 150)), some (.inl x1), some (.inl (x2 + 1))] [] (zUp (zUp M1 151 (M1 150 6) x2) 150 6 ((M1 150 6) + 1)))))))))) := (zwp_blk (stops := [7]) (fuel := 36) pe_53).trans rfl
theorem pe_54 : zPg 54 = pg_54 := rfl
/-! 54 Reducer.reduceRow -/
set_option maxHeartbeats 4000000 in
set_option maxRecDepth 100000 in
theorem me_54 {d : Nat} {K : Kt} {M : Mm} {a1 : Int} : zSp (d + 1) 54 [.inr (.inr 150), .inl a1] M K = (zSp d 55 [.inr (.inr 150), .inl 1, .inl 1, .inl 1, .inl a1] M (fun z1 M1 => zC (zR32 z1) ((z1 = 0 → zWp (zSp d) 54 K 16 [some (.inr (.inr 150)), some (.inl a1), some (.inl 2), some (.inl 0)] [] M1) ∧ (¬ (z1 = 0) → K 0 M1)))) := (zwp_blk (stops := [16, 68]) (fuel := 62) pe_54).trans rfl
set_option maxHeartbeats 4000000 in
set_option maxRecDepth 100000 in
theorem fe_54_16 {d : Nat} {K : Kt} {M : Mm} {x1 x2 x3 : Int} : zWp (zSp d) 54 K 16 [some (.inr (.inr 150)), some (.inl x1), some (.inl x2), some (.inl x3)] [] M = (zC (zR32 x3) ((100000 ≤ x3 → K 0 M) ∧ (¬ (100000 ≤ x3) → zC (zR32 (M 150 6)) (((M 150 6) < 2 → K 0 M) ∧ (¬ ((M 150 6) < 2) → zSp d 55 [.inr (.inr 150), .inl x2, .inl 0, .inl 2, .inl x1] M (fun z1 M1 => zC (zR32 z1) ((z1 = 0 → zC (zR32 x2) ((x2 ≤ 2 → zWp (zSp d) 54 K 68 [some (.inr (.inr 150)), some (.inl x1), some (.inl x2), some (.inl x3)] [] M1) ∧ (¬ (x2 ≤ 2) → zSp d 55 [.inr (.inr 150), .inl x2, .inl 1, .inl 3, .inl x1] M1 (fun z2 M2 => zC (zR32 z2) ((z2 = 0 → zWp (zSp d) 54 K 68 [some (.inr (.inr 150)), some (.inl x1), some (.inl x2), some (.inl x3)] [] M2) ∧ (¬ (z2 = 0) → zWp (zSp d) 54 K 16 [some (.inr (.inr 150)), some (.inl x1), some (.inl (x2 + (-1))), some (.inl (x3 + 1))] [] M2)))))) ∧ (¬ (z1 = 0) → zWp (zSp d) 54 K 16 [some (.inr (.inr 150)), some (.inl x1), some (.inl 2), some (.inl (x3 + 1))] [] M1)))))))) := (zwp_blk (stops := [16, 68]) (fuel := 62) pe_54).trans rfl
set_option maxHeartbeats 4000000 in
set_option maxRecDepth 100000 in
theorem fe_54_68 {d : Nat} {K : Kt} {M : Mm} {x1 x2 x3 : Int} : zWp (zSp d) 54 K 68 [some (.inr (.inr 150)), some (.inl x1), some (.inl x2), some (.inl x3)] [] M = (zC (zR32 x2) (zC (zR32 (M 150 6)) (((M 150 6) ≤ x2 → K 0 M) ∧ (¬ ((M 150 6) ≤ x2) → zC (zR32 (2 * x2)) (zC (zR32 (M 150 6)) (zWp (zSp d) 54 K 16 [some (.inr (.inr 150)), some (.inl x1), some (.inl (zMin (2 * x2) (M 150 6))), some (.inl (x3 + 1))] [] M)))))) := (zwp_blk (stops := [16, 68]) (fuel := 62) pe_54).trans rfl
theorem pe_55 : zPg 55 = pg_55 := rfl
/-! 55 Reducer.isPartTaken -/
set_option maxHeartbeats 4000000 in
set_option maxRecDepth 100000 in
theorem me_55 {d : Nat} {K : Kt} {M : Mm} {a1 a2 a3 a4 : Int} : zSp (d + 1) 55 [.inr (.inr 150), .inl a1, .inl a2, .inl a3, .inl a4] M K = (zWp (zSp d) 55 K 3 [some (.inr (.inr 150)), some (.inl a1), some (.inl a2), some (.inl a3), some (.inl a4), some (.inl 0)] [] M) := (zwp_blk (stops := [3]) (fuel := 47) pe_55).trans rfl
set_option maxHeartbeats 4000000 in
set_option maxRecDepth 100000 in
theorem fe_55_3 {d : Nat} {K : Kt} {M : Mm} {x1 x2 x3 x4 x5 : Int} : zWp (zSp d) 55 K 3 [some (.inr (.inr 150)), some (.inl x1), some (.inl x2), some (.inl x3), some (.inl x4), some (.inl x5)] [] M = (zC (zR32 x5) (zC (zR32 x1) ((x1 ≤ x5 → K 0 M) ∧ (¬ (x1 ≤ x5) → zSp d 45 [.inl (M 150 6), .inl x1, .inl x5] M (fun z1 M1 => zSp d 45 [.inl (M1 150 6), .inl x1, .inl (x5 + 1)] M1 (fun z2 M2 => zSp d 56 [.inr (.inr 150), .inl z1, .inl z2, .inl x2] M2 (fun _ M3 => zSp d 91 [.inr (.inr 46), .inr (.inr 38), .inr (.inr 152), .inr (.inr 153)] M3 (fun _ M4 => zSp d 52 [.inr (.inr 150), .inl x3, .inl x4] M4 (fun z5 M5 => zC (zR32 z5) ((z5 = 0 → zWp (zSp d) 55 K 3 [some (.inr (.inr 150)), some (.inl x1), some (.inl x2), some (.inl x3), some (.inl x4), some (.inl (x5 + 1))] [] M5) ∧ (¬ (z5 = 0) → zSp d 57 [.inr (.inr 150)] M5 (fun _ M6 => K 1 M6)))))))))))) := (zwp_blk (stops := [3]) (fuel := 47) pe_55).trans rfl
theorem pe_56 : zPg 56 = pg_56 := rfl
/-! 56 Reducer.markRow -/
set_option maxHeartbeats 4000000 in
set_option maxRecDepth 100000 in
theorem me_56 {d : Nat} {K : Kt} {M : Mm} {a1 a2 a3 : Int} : zSp (d + 1) 56 [.inr (.inr 150), .inl a1, .inl a2, .inl a3] M K = (zWp (zSp d) 56 K 3 [some (.inr (.inr 150)), some (.inl a1), some (.inl a2), some (.inl a3), some (.inl 0)] [] M) := (zwp_blk (stops := [3, 27, 63, 64]) (fuel := 47) pe_56).trans rfl
set_option maxHeartbeats 4000000 in
set_option maxRecDepth 100000 in
theorem fe_56_3 {d : Nat} {K : Kt} {M : Mm} {x1 x2 x3 x4 : Int} : zWp (zSp d) 56 K 3 [some (.inr (.inr 150)), some (.inl x1), some (.inl x2), some (.inl x3), some (.inl x4)] [] M = (zC (zR32 x4) ((80 ≤ x4 → zWp (zSp d) 56 K 27 [some (.inr (.inr 150)), some (.inl x1), some (.inl x2), some (.inl x3), some (.inl 0)] [] M) ∧ (¬ (80 ≤ x4) → zC (zSm x4 80) (zWp (zSp d) 56 K 3 [some (.inr (.inr 150)), some (.inl x1), some (.inl x2), some (.inl x3), some (.inl (x4 + 1))] [] (zUp M 152 x4 0))))) := (zwp_blk (stops := [3, 27, 63, 64]) (fuel := 47) pe_56).trans rfl
set_option maxHeartbeats 4000000 in
set_option maxRecDepth 100000 in
theorem fe_56_27 {d : Nat} {K : Kt} {M : Mm} {x1 x2 x3 x4 : Int} : zWp (zSp d) 56 K 27 [some (.inr (.inr 150)), some (.inl x1), some (.inl x2), some (.inl x3), some (.inl x4)] [] M = (zC (zR32 x4) (zC (zR32 (M 150 6)) (((M 150 6) ≤ x4 → K 0 M) ∧ (¬ ((M 150 6) ≤ x4) → zC (zSm x4 80) (zC (zR32 x4) (zC (zR32 x1) ((x4 < x1 → zWp (zSp d) 56 K 63 [some (.inr (.inr 150)), some (.inl x1), some (.inl x2), some (.inl x3), some (.inl x4)] [.inl (M 151 x4), .inr (.inr 152)] M) ∧ (¬ (x4 < x1) → zC (zR32 x4) (zC (zR32 x2) ((x2 ≤ x4 → zWp (zSp d) 56 K 63 [some (.inr (.inr 150)), some (.inl x1), some (.inl x2), some (.inl x3), some (.inl x4)] [.inl (M 151 x4), .inr (.inr 152)] M) ∧ (¬ (x2 ≤ x4) → zWp (zSp d) 56 K 64 [some (.inr (.inr 150)), some (.inl x1), some (.inl x2), some (.inl x3), some (.inl x4)] [.inl 1, .inl (M 151 x4), .inr (.inr 152)] M))))))))))) := (zwp_blk (stops := [3, 27, 63, 64]) (fuel := 47) pe_56).trans rfl
set_option maxHeartbeats 4000000 in
set_option maxRecDepth 100000 in
theorem fe_56_63 {d : Nat} {K : Kt} {M : Mm} {x1 x2 x3 x4 y1 : Int} : zWp (zSp d) 56 K 63 [some (.inr (.inr 150)), some (.inl x1), some (.inl x2), some (.inl x3), some (.inl x4)] [.inl y1, .inr (.inr 152)] M = (zWp (zSp d) 56 K 64 [some (.inr (.inr 150)), some (.inl x1), some (.inl x2), some (.inl x3), some (.inl x4)] [.inl 0, .inl y1, .inr (.inr 152)] M) := (zwp_blk (stops := [3, 27, 63, 64]) (fuel := 47) pe_56).trans rfl
set_option maxHeartbeats 4000000 in
set_option maxRecDepth 100000 in
theorem fe_56_64 {d : Nat} {K : Kt} {M : Mm} {x1 x2 x3 x4 y1 y2 : Int} : zWp (zSp d) 56 K 64 [some (.inr (.inr 150)), some (.inl x1), some (.inl x2), some (.inl x3), some (.inl x4)] [.inl y2, .inl y1, .inr (.inr 152)] M = (zC (zR32 y2) (zC (zR32 x3) ((¬ y2 = x3 → zC (zSm y1 80) (zWp (zSp d) 56 K 27 [some (.inr (.inr 150)), some (.inl x1), some (.inl x2), some (.inl x3), some (.inl (x4 + 1))] [] (zUp M 152 y1 0))) ∧ (¬ (¬ y2 = x3) → zC (zSm y1 80) (zWp (zSp d) 56 K 27 [some (.inr (.inr 150)), some (.inl x1), some (.inl x2), some (.inl x3), some (.inl (x4 + 1))] [] (zUp M 152 y1 1)))))) := (zwp_blk (stops := [3, 27, 63, 64]) (fuel := 47) pe_56).trans rfl
theorem pe_57 : zPg 57 = pg_57 := rfl
/-! 57 Reducer.keepUnchanged -/
set_option maxHeartbeats 4000000 in
set_option maxRecDepth 100000 in
theorem me_57 {d : Nat} {K : Kt} {M : Mm} : zSp (d + 1) 57 [.inr (.inr 150)] M K = (zWp (zSp d) 57 K 4 [some (.inr (.inr 150)), some (.inl 0), some (.inl 0)] [] M) := (zwp_blk (stops := [4]) (fuel := 39) pe_57).trans rfl
set_option maxHeartbeats 4000000 in
set_option maxRecDepth 100000 in
theorem fe_57_4 {d : Nat} {K : Kt} {M : Mm} {x1 x2 : Int} : zWp (zSp d) 57 K 4 [some (.inr (.inr 150)), some (.inl x1), some (.inl x2)] [] M = (zC (zR32 x2) (zC (zR32 (M 150 6)) (((M 150 6) ≤ x2 → K 0 (zUp M 150 6 x1)) ∧ (¬ ((M 150 6) ≤ x2) → zC (zSm x2 80) (zC (zSm (M 151 x2) 80) (zC (zR32 (M 152 (M 151 x2))) ((¬ (M 152 (M 151 x2)) = 0 → zWp (zSp d) 57 K 4 [some (.inr (.inr 150)), some (.inl x1), some (.inl (x2 + 1))] [] M) ∧ (¬ (¬ (M 152 (M 151 x2)) = 0) → zC (zSm x2 80) (zC (zSm (M 151 x2) 80) (zC (zSm x1 80) (zWp (zSp d) 57 K 4 [some (.inr (.inr 150)), some (.inl (x1 + 1)), some (.inl (x2 + 1))] [] (zUp M 151 x1 (M 153 (M 151 x2)))))))))))))) := (zwp_blk (stops := [4]) (fuel := 39) pe_57).trans rfl
theorem pe_58 : zPg 58 = pg_58 := rfl
/-! 58 Single.start -/
set_option maxHeartbeats 4000000 in
set_option maxRecDepth 100000 in
theorem me_58 {d : Nat} {K : Kt} {M : Mm} : zSp (d + 1) 58 [.inr (.inr 149)] M K = (zSp d 59 [.inr (.inr 149), .inl 0] M (fun _ M1 => K 0 M1)) := (zwp_blk (stops := []) (fuel := 9) pe_58).trans rfl
theorem pe_59 : zPg 59 = pg_59 := rfl
/-! 59 Single.atNode -/
set_option maxHeartbeats 4000000 in
set_option maxRecDepth 100000 in
theorem me_59 {d : Nat} {K : Kt} {M : Mm} {a1 : Int} : zSp (d + 1) 59 [.inr (.inr 149), .inl a1] M K = (K 0 (zUp (zUp (zUp M 149 1 a1) 149 2 (-1)) 149 3 a1)) := (zwp_blk (stops := []) (fuel := 15) pe_59).trans rfl
theorem pe_60 : zPg 60 = pg_60 := rfl
/-! 60 Single.step -/
set_option maxHeartbeats 4000000 in
set_option maxRecDepth 100000 in
theorem me_60 {d : Nat} {K : Kt} {M : Mm} : zSp (d + 1) 60 [.inr (.inr 149)] M K = (zWp (zSp d) 60 K 0 [some (.inr (.inr 149))] [] M) := rfl
set_option maxHeartbeats 4000000 in
set_option maxRecDepth 100000 in
theorem fe_60_0 {d : Nat} {K : Kt} {M : Mm} : zWp (zSp d) 60 K 0 [some (.inr (.inr 149))] [] M = (zC (zR32 (M 149 1)) (zC (zR32 (M 38 1)) (((M 38 1) ≤ (M 149 1) → K 0 M) ∧ (¬ ((M 38 1) ≤ (M 149 1)) → zC (zR32 (M 149 2)) ((0 ≤ (M 149 2) → zWp (zSp d) 60 K 42 [some (.inr (.inr 149))] [] M) ∧ (¬ (0 ≤ (M 149 2)) → zSp d 86 [.inr (.inr 38), .inl (M 149 1)] (zUp M 149 2 0) (fun z1 M1 => zC (zR32 z1) ((z1 = 0 → zWp (zSp d) 60 K 42 [some (.inr (.inr 149))] [] M1) ∧ (¬ (z1 = 0) → K 1 M1))))))))) := (zwp_blk (stops := [0, 42, 71, 86]) (fuel := 90) pe_60).trans rfl
set_option maxHeartbeats 4000000 in
set_option maxRecDepth 100000 in
theorem fe_60_42 {d : Nat} {K : Kt} {M : Mm} : zWp (zSp d) 60 K 42 [some (.inr (.inr 149))] [] M = (zC (zR32 (M 149 2)) ((1 ≤ (M 149 2) → zWp (zSp d) 60 K 71 [some (.inr (.inr 149))] [] M) ∧ (¬ (1 ≤ (M 149 2)) → zSp d 87 [.inr (.inr 38), .inl (M 149 1)] (zUp M 149 2 1) (fun z1 M1 => zC (zR32 z1) ((z1 = 0 → zWp (zSp d) 60 K 71 [some (.inr (.inr 149))] [] M1) ∧ (¬ (z1 = 0) → K 1 M1)))))) := (zwp_blk (stops := [0, 42, 71, 86]) (fuel := 90) pe_60).trans rfl
set_option maxHeartbeats 4000000 in
set_option maxRecDepth 100000 in
theorem fe_60_71 {d : Nat} {K : Kt} {M : Mm} : zWp (zSp d) 60 K 71 [some (.inr (.inr 149))] [] M = (zWp (zSp d) 60 K 86 [some (.inr (.inr 149))] [] (zUp (zUp M 149 2 2) 149 3 ((M 149 3) + 1))) := (zwp_blk (stops := [0, 42, 71, 86]) (fuel := 90) pe_60).trans rfl
set_option maxHeartbeats 4000000 in
set_option maxRecDepth 100000 in
theorem fe_60_86 {d : Nat} {K : Kt} {M : Mm} : zWp (zSp d) 60 K 86 [some (.inr (.inr 149))] [] M = (zC (zSm (M 149 1) 80) (zC (zR32 (M 149 3)) (zC (zR32 ((M 149 1) + (M 44 (M 149 1)))) ((((M 149 1) + (M 44 (M 149 1))) ≤ (M 149 3) → zSp d 59 [.inr (.inr 149), .inl ((M 149 1) + 1)] M (fun _ M1 => zWp (zSp d) 60 K 0 [some (.inr (.inr 149))] [] M1)) ∧ (¬ (((M 149 1) + (M 44 (M 149 1))) ≤ (M 149 3)) → zSp d 85 [.inr (.inr 38), .inl (M 149 3)] M (fun z2 M2 => zSp d 85 [.inr (.inr 38), .inl (M2 149 1)] M2 (fun z3 M3 => zC (zR32 z2) (zC (zR32 z3) ((¬ z2 = z3 → zWp (zSp d) 60 K 86 [some (.inr (.inr 149))] [] (zUp M3 149 3 ((M3 149 3) + 1))) ∧ (¬ (¬ z2 = z3) → K 1 M3)))))))))) := (zwp_blk (stops := [0, 42, 71, 86]) (fuel := 90) pe_60).trans rfl
theorem pe_61 : zPg 61 = pg_61 := rfl
/-! 61 Single.goTo -/
set_option maxHeartbeats 4000000 in
set_option maxRecDepth 100000 in
theorem me_61 {d : Nat} {K : Kt} {M : Mm} {a1 : Int} : zSp (d + 1) 61 [.inr (.inr 149), .inl a1] M K = (zC (zR32 a1) ((0 ≤ a1 → zSp d 58 [.inr (.inr 149)] M (fun _ M1 => zWp (zSp d) 61 K 12 [some (.inr (.inr 149)), some (.inl a1), some (.inl 0)] [] M1)) ∧ (¬ (0 ≤ a1) → K 0 M))) := (zwp_blk (stops := [12]) (fuel := 28) pe_61).trans rfl
set_option maxHeartbeats 4000000 in
set_option maxRecDepth 100000 in
theorem fe_61_12 {d : Nat} {K : Kt} {M : Mm} {x1 x2 : Int} : zWp (zSp d) 61 K 12 [some (.inr (.inr 149)), some (.inl x1), some (.inl x2)] [] M = (zC (zR32 x2) ((100000 ≤ x2 → K 0 M) ∧ (¬ (100000 ≤ x2) → zSp d 60 [.inr (.inr 149)] M (fun z1 M1 => zC (zR32 z1) ((z1 = 0 → K 0 M1) ∧ (¬ (z1 = 0) → zC (zR32 x2) (zC (zR32 x1) ((¬ x2 = x1 → zWp (zSp d) 61 K 12 [some (.inr (.inr 149)), some (.inl x1), some (.inl (x2 + 1))] [] M1) ∧ (¬ (¬ x2 = x1) → K 1 M1))))))))) := (zwp_blk (stops := [12]) (fuel := 28) pe_61).trans rfl
theorem pe_62 : zPg 62 = pg_62 := rfl
/-! 62 Single.howMany -/
set_option maxHeartbeats 4000000 in
set_option maxRecDepth 100000 in
theorem me_62 {d : Nat} {K : Kt} {M : Mm} : zSp (d + 1) 62 [.inr (.inr 149)] M K = (zSp d 58 [.inr (.inr 149)] M (fun _ M1 => zWp (zSp d) 62 K 6 [some (.inr (.inr 149)), some (.inl 0)] [] M1)) := (zwp_blk (stops := [6]) (fuel := 19) pe_62).trans rfl
set_option maxHeartbeats 4000000 in
set_option maxRecDepth 100000 in
theorem fe_62_6 {d : Nat} {K : Kt} {M : Mm} {x1 : Int} : zWp (zSp d) 62 K 6 [some (.inr (.inr 149)), some (.inl x1)] [] M = (zC (zR32 x1) ((100000 ≤ x1 → K x1 M) ∧ (¬ (100000 ≤ x1) → zSp d 60 [.inr (.inr 149)] M (fun z1 M1 => zC (zR32 z1) ((z1 = 0 → K x1 M1) ∧ (¬ (z1 = 0) → zWp (zSp d) 62 K 6 [some (.inr (.inr 149)), some (.inl (x1 + 1))] [] M1)))))) := (zwp_blk (stops := [6]) (fuel := 19) pe_62).trans rfl
theorem pe_63 : zPg 63 = pg_63 := rfl
/-! 63 Text.letterOf -/
set_option maxHeartbeats 4000000 in
set_option maxRecDepth 100000 in
theorem me_63 {d : Nat} {K : Kt} {M : Mm} {a1 a2 : Int} : zSp (d + 1) 63 [.inl a1, .inl a2] M K = (zC (zR32 a1) (zC (zSm (25 - (5 * a2)) 32) (K (zIandZ (a1 / 2 ^ (25 - (5 * a2)).toNat) 31) M))) := (zwp_blk (stops := []) (fuel := 15) pe_63).trans rfl
theorem pe_64 : zPg 64 = pg_64 := rfl
/-! 64 Text.append -/
set_option maxHeartbeats 4000000 in
set_option maxRecDepth 100000 in
theorem me_64 {d : Nat} {K : Kt} {M : Mm} {a1 : Int} : zSp (d + 1) 64 [.inr (.inr 2), .inl a1] M K = (zWp (zSp d) 64 K 3 [some (.inr (.inr 2)), some (.inl a1), some (.inl 24)] [] M) := (zwp_blk (stops := [3]) (fuel := 31) pe_64).trans rfl
set_option maxHeartbeats 4000000 in
set_option maxRecDepth 100000 in
theorem fe_64_3 {d : Nat} {K : Kt} {M : Mm} {x1 x2 : Int} : zWp (zSp d) 64 K 3 [some (.inr (.inr 2)), some (.inl x1), some (.inl x2)] [] M = (zC (zR32 x2) ((x2 < 0 → K 0 M) ∧ (¬ (x2 < 0) → zC (zR32 (M 2 1)) ((1000 ≤ (M 2 1) → K 0 M) ∧ (¬ (1000 ≤ (M 2 1)) → zC (zR32 x1) (zC (zSm x2 32) (zC (zSm (M 2 1) 1000) (zC (zBy (zB8 (x1 / 2 ^ x2.toNat))) (zWp (zSp d) 64 K 3 [some (.inr (.inr 2)), some (.inl x1), some (.inl (x2 + (-8)))] [] (zUp (zUp M 3 (M 2 1) (zB8 (x1 / 2 ^ x2.toNat))) 2 1 ((M 2 1) + 1))))))))))) := (zwp_blk (stops := [3]) (fuel := 31) pe_64).trans rfl
theorem pe_65 : zPg 65 = pg_65 := rfl
/-! 65 Text.start -/
set_option maxHeartbeats 4000000 in
set_option maxRecDepth 100000 in
theorem me_65 {d : Nat} {K : Kt} {M : Mm} : zSp (d + 1) 65 [.inr (.inr 2)] M K = (zSp d 67 [.inr (.inr 2)] (zUp (zUp (zUp (zUp M 2 2 0) 2 3 0) 2 6 0) 2 7 (-1)) (fun _ M1 => K 0 M1)) := (zwp_blk (stops := []) (fuel := 20) pe_65).trans rfl
theorem pe_66 : zPg 66 = pg_66 := rfl
/-! 66 Text.fail -/
set_option maxHeartbeats 4000000 in
set_option maxRecDepth 100000 in
theorem me_66 {d : Nat} {K : Kt} {M : Mm} {a1 : Int} : zSp (d + 1) 66 [.inr (.inr 2), .inl a1] M K = (K 0 (zUp (zUp M 2 6 a1) 2 7 (M 2 4))) := (zwp_blk (stops := []) (fuel := 14) pe_66).trans rfl
theorem pe_67 : zPg 67 = pg_67 := rfl
/-! 67 Text.advance -/
set_option maxHeartbeats 4000000 in
set_option maxRecDepth 100000 in
theorem me_67 {d : Nat} {K : Kt} {M : Mm} : zSp (d + 1) 67 [.inr (.inr 2)] M K = (zC (zR32 (M 2 3)) (((M 2 3) = 1 → zWp (zSp d) 67 K 27 [some (.inr (.inr 2)), some (.inl 0), some (.inl (M 2 2))] [] M) ∧ (¬ ((M 2 3) = 1) → zC (zR32 (M 2 3)) (((M 2 3) = 2 → zWp (zSp d) 67 K 27 [some (.inr (.inr 2)), some (.inl 0), some (.inl (M 2 2))] [] M) ∧ (¬ ((M 2 3) = 2) → zWp (zSp d) 67 K 27 [some (.inr (.inr 2)), some (.inl 1), some (.inl (M 2 2))] [] M))))) := (zwp_blk (stops := [27, 79, 134, 139, 173, 178]) (fuel := 114) pe_67).trans rfl
set_option maxHeartbeats 4000000 in
set_option maxRecDepth 100000 in
theorem fe_67_27 {d : Nat} {K : Kt} {M : Mm} {x1 x2 : Int} : zWp (zSp d) 67 K 27 [some (.inr (.inr 2)), some (.inl x1), some (.inl x2)] [] M = (zC (zR32 (M 2 2)) (zC (zR32 (M 2 1)) (((M 2 1) ≤ (M 2 2) → zWp (zSp d) 67 K 79 [some (.inr (.inr 2)), some (.inl x1), some (.inl x2)] [] M) ∧ (¬ ((M 2 1) ≤ (M 2 2)) → zC (zSm (M 2 2) 1000) (zC (zR32 (M 3 (M 2 2))) (((M 3 (M 2 2)) = 32 → zWp (zSp d) 67 K 27 [some (.inr (.inr 2)), some (.inl x1), some (.inl x2)] [] (zUp M 2 2 ((M 2 2) + 1))) ∧ (¬ ((M 3 (M 2 2)) = 32) → zC (zSm (M 2 2) 1000) (zC (zR32 (M 3 (M 2 2))) ((¬ (M 3 (M 2 2)) = 10 → zWp (zSp d) 67 K 79 [some (.inr (.inr 2)), some (.inl x1), some (.inl x2)] [] M) ∧ (¬ (¬ (M 3 (M 2 2)) = 10) → zWp (zSp d) 67 K 27 [some (.inr (.inr 2)), some (.inl x1), some (.inl x2)] [] (zUp M 2 2 ((M 2 2) + 1)))))))))))) := (zwp_blk (stops := [27, 79, 134, 139, 173, 178]) (fuel := 114) pe_67).trans rfl
set_option maxHeartbeats 4000000 in
set_option maxRecDepth 100000 in
theorem fe_67_79 {d : Nat} {K : Kt} {M : Mm} {x1 x2 : Int} : zWp (zSp d) 67 K 79 [some (.inr (.inr 2)), some (.inl x1), some (.inl x2)] [] M = (zC (zR32 (M 2 2)) (zC (zR32 (M 2 1)) (((M 2 2) < (M 2 1) → zC (zSm (M 2 2) 1000) (zSp d 70 [.inl (M 3 (M 2 2))] (zUp M 2 4 (M 2 2)) (fun z1 M1 => zC (zR32 z1) ((z1 = 0 → zC (zSm (M1 2 2) 1000) (zSp d 71 [.inl (M1 3 (M1 2 2))] M1 (fun z2 M2 => zC (zR32 z2) ((z2 = 0 → zC (zSm (M2 2 2) 1000) (K 0 (zUp (zUp (zUp M2 2 3 3) 2 5 (M2 3 (M2 2 2))) 2 2 ((M2 2 2) + 1)))) ∧ (¬ (z2 = 0) → zC (zR32 x1) ((¬ x1 = 0 → zWp (zSp d) 67 K 173 [some (.inr (.inr 2)), some (.inl x1), some (.inl x2)] [.inr (.inr 2)] M2) ∧ (¬ (¬ x1 = 0) → zC (zR32 (M2 2 2)) (zC (zR32 x2) (((M2 2 2) ≤ x2 → zWp (zSp d) 67 K 178 [some (.inr (.inr 2)), some (.inl x1), some (.inl x2)] [.inl 0, .inr (.inr 2)] M2) ∧ (¬ ((M2 2 2) ≤ x2) → zWp (zSp d) 67 K 173 [some (.inr (.inr 2)), some (.inl x1), some (.inl x2)] [.inr (.inr 2)] M2)))))))))) ∧ (¬ (z1 = 0) → zC (zR32 x1) ((¬ x1 = 0 → zWp (zSp d) 67 K 134 [some (.inr (.inr 2)), some (.inl x1), some (.inl x2)] [.inr (.inr 2)] M1) ∧ (¬ (¬ x1 = 0) → zC (zR32 (M1 2 2)) (zC (zR32 x2) (((M1 2 2) ≤ x2 → zWp (zSp d) 67 K 139 [some (.inr (.inr 2)), some (.inl x1), some (.inl x2)] [.inl 0, .inr (.inr 2)] M1) ∧ (¬ ((M1 2 2) ≤ x2) → zWp (zSp d) 67 K 134 [some (.inr (.inr 2)), some (.inl x1), some (.inl x2)] [.inr (.inr 2)] M1)))))))))) ∧ (¬ ((M 2 2) < (M 2 1)) → K 0 (zUp (zUp M 2 4 (M 2 2)) 2 3 0))))) := (zwp_blk (stops := [27, 79, 134, 139, 173, 178]) (fuel := 114) pe_67).trans rfl
set_option maxHeartbeats 4000000 in
set_option maxRecDepth 100000 in
theorem fe_67_134 {d : Nat} {K : Kt} {M : Mm} {x1 x2 : Int} : zWp (zSp d) 67 K 134 [some (.inr (.inr 2)), some (.inl x1), some (.inl x2)] [.inr (.inr 2)] M = (zWp (zSp d) 67 K 139 [some (.inr (.inr 2)), some (.inl x1), some (.inl x2)] [.inl 1, .inr (.inr 2)] M) := (zwp_blk (stops := [27, 79, 134, 139, 173, 178]) (fuel := 114) pe_67).trans rfl
set_option maxHeartbeats 4000000 in
set_option maxRecDepth 100000 in
theorem fe_67_139 {d : Nat} {K : Kt} {M : Mm} {x1 x2 y1 : Int} : zWp (zSp d) 67 K 139 [some (.inr (.inr 2)), some (.inl x1), some (.inl x2)] [.inl y1, .inr (.inr 2)] M = (zSp d 68 [.inr (.inr 2), .inl y1] M (fun _ M1 => K 0 M1)) := (zwp_blk (stops := [27, 79, 134, 139, 173, 178]) (fuel := 114) pe_67).trans rfl
set_option maxHeartbeats 4000000 in
set_option maxRecDepth 100000 in
theorem fe_67_173 {d : Nat} {K : Kt} {M : Mm} {x1 x2 : Int} : zWp (zSp d) 67 K 173 [some (.inr (.inr 2)), some (.inl x1), some (.inl x2)] [.inr (.inr 2)] M = (zWp (zSp d) 67 K 178 [some (.inr (.inr 2)), some (.inl x1), some (.inl x2)] [.inl 1, .inr (.inr 2)] M) := (zwp_blk (stops := [27, 79, 134, 139, 173, 178]) (fuel := 114) pe_67).trans rfl
set_option maxHeartbeats 4000000 in
set_option maxRecDepth 100000 in
theorem fe_67_178 {d : Nat} {K : Kt} {M : Mm} {x1 x2 y1 : Int} : zWp (zSp d) 67 K 178 [some (.inr (.inr 2)), some (.inl x1), some (.inl x2)] [.inl y1, .inr (.inr 2)] M = (zSp d 69 [.inr (.inr 2), .inl y1] M (fun _ M1 => K 0 M1)) := (zwp_blk (stops := [27, 79, 134, 139, 173, 178]) (fuel := 114) pe_67).trans rfl
theorem pe_68 : zPg 68 = pg_68 := rfl
/-! 68 Text.advanceWord -/
set_option maxHeartbeats 4000000 in
set_option maxRecDepth 100000 in
theorem me_68 {d : Nat} {K : Kt} {M : Mm} {a1 : Int} : zSp (d + 1) 68 [.inr (.inr 2), .inl a1] M K = (zWp (zSp d) 68 K 7 [some (.inr (.inr 2)), some (.inl a1), some (.inl 0)] [] (zUp M 2 5 0)) := (zwp_blk (stops := [7, 69, 85]) (fuel := 64) pe_68).trans rfl
set_option maxHeartbeats 4000000 in
set_option maxRecDepth 100000 in
theorem fe_68_7 {d : Nat} {K : Kt} {M : Mm} {x1 x2 : Int} : zWp (zSp d) 68 K 7 [some (.inr (.inr 2)), some (.inl x1), some (.inl x2)] [] M = (zC (zR32 (M 2 2)) (zC (zR32 (M 2 1)) (((M 2 1) ≤ (M 2 2) → zWp (zSp d) 68 K 85 [some (.inr (.inr 2)), some (.inl x1), some (.inl x2)] [] M) ∧ (¬ ((M 2 1) ≤ (M 2 2)) → zC (zSm (M 2 2) 1000) (zSp d 70 [.inl (M 3 (M 2 2))] M (fun z1 M1 => zC (zR32 z1) ((z1 = 0 → zWp (zSp d) 68 K 85 [some (.inr (.inr 2)), some (.inl x1), some (.inl x2)] [] M1) ∧ (¬ (z1 = 0) → zC (zR32 x2) ((6 ≤ x2 → zWp (zSp d) 68 K 69 [some (.inr (.inr 2)), some (.inl x1), some (.inl x2)] [] M1) ∧ (¬ (6 ≤ x2) → zC (zSm (M1 2 2) 1000) (zC (zSm (25 - (5 * x2)) 32) (zWp (zSp d) 68 K 69 [some (.inr (.inr 2)), some (.inl x1), some (.inl x2)] [] (zUp M1 2 5 (zIorZ (M1 2 5) ((((M1 3 (M1 2 2)) - 97) + 1) * 2 ^ (25 - (5 * x2)).toNat))))))))))))))) := (zwp_blk (stops := [7, 69, 85]) (fuel := 64) pe_68).trans rfl
set_option maxHeartbeats 4000000 in
set_option maxRecDepth 100000 in
theorem fe_68_69 {d : Nat} {K : Kt} {M : Mm} {x1 x2 : Int} : zWp (zSp d) 68 K 69 [some (.inr (.inr 2)), some (.inl x1), some (.inl x2)] [] M = (zWp (zSp d) 68 K 7 [some (.inr (.inr 2)), some (.inl x1), some (.inl (x2 + 1))] [] (zUp M 2 2 ((M 2 2) + 1))) := (zwp_blk (stops := [7, 69, 85]) (fuel := 64) pe_68).trans rfl
set_option maxHeartbeats 4000000 in
set_option maxRecDepth 100000 in
theorem fe_68_85 {d : Nat} {K : Kt} {M : Mm} {x1 x2 : Int} : zWp (zSp d) 68 K 85 [some (.inr (.inr 2)), some (.inl x1), some (.inl x2)] [] M = (zC (zR32 x1) ((x1 = 0 → K 0 (zUp M 2 3 4)) ∧ (¬ (x1 = 0) → zC (zR32 x2) ((6 < x2 → K 0 (zUp M 2 3 4)) ∧ (¬ (6 < x2) → K 0 (zUp M 2 3 1)))))) := (zwp_blk (stops := [7, 69, 85]) (fuel := 64) pe_68).trans rfl
theorem pe_69 : zPg 69 = pg_69 := rfl
/-! 69 Text.advanceNumber -/
set_option maxHeartbeats 4000000 in
set_option maxRecDepth 100000 in
theorem me_69 {d : Nat} {K : Kt} {M : Mm} {a1 : Int} : zSp (d + 1) 69 [.inr (.inr 2), .inl a1] M K = (zWp (zSp d) 69 K 7 [some (.inr (.inr 2)), some (.inl a1), some (.inl 0)] [] (zUp M 2 5 0)) := (zwp_blk (stops := [7, 62, 78]) (fuel := 58) pe_69).trans rfl
set_option maxHeartbeats 4000000 in
set_option maxRecDepth 100000 in
theorem fe_69_7 {d : Nat} {K : Kt} {M : Mm} {x1 x2 : Int} : zWp (zSp d) 69 K 7 [some (.inr (.inr 2)), some (.inl x1), some (.inl x2)] [] M = (zC (zR32 (M 2 2)) (zC (zR32 (M 2 1)) (((M 2 1) ≤ (M 2 2) → zWp (zSp d) 69 K 78 [some (.inr (.inr 2)), some (.inl x1), some (.inl x2)] [] M) ∧ (¬ ((M 2 1) ≤ (M 2 2)) → zC (zSm (M 2 2) 1000) (zSp d 71 [.inl (M 3 (M 2 2))] M (fun z1 M1 => zC (zR32 z1) ((z1 = 0 → zWp (zSp d) 69 K 78 [some (.inr (.inr 2)), some (.inl x1), some (.inl x2)] [] M1) ∧ (¬ (z1 = 0) → zC (zR32 x2) ((3 ≤ x2 → zWp (zSp d) 69 K 62 [some (.inr (.inr 2)), some (.inl x1), some (.inl x2)] [] M1) ∧ (¬ (3 ≤ x2) → zC (zSm (M1 2 2) 1000) (zWp (zSp d) 69 K 62 [some (.inr (.inr 2)), some (.inl x1), some (.inl x2)] [] (zUp M1 2 5 ((((M1 2 5) * 10) + (M1 3 (M1 2 2))) - 48))))))))))))) := (zwp_blk (stops := [7, 62, 78]) (fuel := 58) pe_69).trans rfl
set_option maxHeartbeats 4000000 in
set_option maxRecDepth 100000 in
theorem fe_69_62 {d : Nat} {K : Kt} {M : Mm} {x1 x2 : Int} : zWp (zSp d) 69 K 62 [some (.inr (.inr 2)), some (.inl x1), some (.inl x2)] [] M = (zWp (zSp d) 69 K 7 [some (.inr (.inr 2)), some (.inl x1), some (.inl (x2 + 1))] [] (zUp M 2 2 ((M 2 2) + 1))) := (zwp_blk (stops := [7, 62, 78]) (fuel := 58) pe_69).trans rfl
set_option maxHeartbeats 4000000 in
set_option maxRecDepth 100000 in
theorem fe_69_78 {d : Nat} {K : Kt} {M : Mm} {x1 x2 : Int} : zWp (zSp d) 69 K 78 [some (.inr (.inr 2)), some (.inl x1), some (.inl x2)] [] M = (zC (zR32 x1) ((x1 = 0 → K 0 (zUp M 2 3 4)) ∧ (¬ (x1 = 0) → zC (zR32 x2) ((3 < x2 → K 0 (zUp M 2 3 4)) ∧ (¬ (3 < x2) → K 0 (zUp M 2 3 2)))))) := (zwp_blk (stops := [7, 62, 78]) (fuel := 58) pe_69).trans rfl
theorem pe_70 : zPg 70 = pg_70 := rfl
/-! 70 Text.isLetter -/
set_option maxHeartbeats 4000000 in
set_option maxRecDepth 100000 in
theorem me_70 {d : Nat} {K : Kt} {M : Mm} {a1 : Int} : zSp (d + 1) 70 [.inl a1] M K = (zC (zR32 a1) ((a1 < 97 → K 0 M) ∧ (¬ (a1 < 97) → zC (zR32 a1) ((122 < a1 → K 0 M) ∧ (¬ (122 < a1) → K 1 M))))) := (zwp_blk (stops := []) (fuel := 15) pe_70).trans rfl
theorem pe_71 : zPg 71 = pg_71 := rfl
/-! 71 Text.isDigit -/
set_option maxHeartbeats 4000000 in
set_option maxRecDepth 100000 in
theorem me_71 {d : Nat} {K : Kt} {M : Mm} {a1 : Int} : zSp (d + 1) 71 [.inl a1] M K = (zC (zR32 a1) ((a1 < 48 → K 0 M) ∧ (¬ (a1 < 48) → zC (zR32 a1) ((57 < a1 → K 0 M) ∧ (¬ (57 < a1) → K 1 M))))) := (zwp_blk (stops := []) (fuel := 15) pe_71).trans rfl
theorem pe_72 : zPg 72 = pg_72 := rfl
/-! 72 Text.isAtEnd -/
set_option maxHeartbeats 4000000 in
set_option maxRecDepth 100000 in
theorem me_72 {d : Nat} {K : Kt} {M : Mm} : zSp (d + 1) 72 [.inr (.inr 2)] M K = (zC (zR32 (M 2 3)) ((¬ (M 2 3) = 0 → K 0 M) ∧ (¬ (¬ (M 2 3) = 0) → K 1 M))) := (zwp_blk (stops := []) (fuel := 12) pe_72).trans rfl
theorem pe_73 : zPg 73 = pg_73 := rfl
/-! 73 Text.isWord -/
set_option maxHeartbeats 4000000 in
set_option maxRecDepth 100000 in
theorem me_73 {d : Nat} {K : Kt} {M : Mm} {a1 : Int} : zSp (d + 1) 73 [.inr (.inr 2), .inl a1] M K = (zC (zR32 (M 2 3)) ((¬ (M 2 3) = 1 → K 0 M) ∧ (¬ (¬ (M 2 3) = 1) → zC (zR32 (M 2 5)) (zC (zR32 a1) ((¬ (M 2 5) = a1 → K 0 M) ∧ (¬ (¬ (M 2 5) = a1) → K 1 M)))))) := (zwp_blk (stops := []) (fuel := 17) pe_73).trans rfl
theorem pe_74 : zPg 74 = pg_74 := rfl
/-! 74 Text.isSign -/
set_option maxHeartbeats 4000000 in
set_option maxRecDepth 100000 in
theorem me_74 {d : Nat} {K : Kt} {M : Mm} {a1 : Int} : zSp (d + 1) 74 [.inr (.inr 2), .inl a1] M K = (zC (zR32 (M 2 3)) ((¬ (M 2 3) = 3 → K 0 M) ∧ (¬ (¬ (M 2 3) = 3) → zC (zR32 (M 2 5)) (zC (zR32 a1) ((¬ (M 2 5) = a1 → K 0 M) ∧ (¬ (¬ (M 2 5) = a1) → K 1 M)))))) := (zwp_blk (stops := []) (fuel := 17) pe_74).trans rfl
theorem pe_75 : zPg 75 = pg_75 := rfl
/-! 75 Text.isNumber -/
set_option maxHeartbeats 4000000 in
set_option maxRecDepth 100000 in
theorem me_75 {d : Nat} {K : Kt} {M : Mm} : zSp (d + 1) 75 [.inr (.inr 2)] M K = (zC (zR32 (M 2 3)) ((¬ (M 2 3) = 2 → K 0 M) ∧ (¬ (¬ (M 2 3) = 2) → K 1 M))) := (zwp_blk (stops := []) (fuel := 13) pe_75).trans rfl
theorem pe_76 : zPg 76 = pg_76 := rfl
/-! 76 Text.isName -/
set_option maxHeartbeats 4000000 in
set_option maxRecDepth 100000 in
theorem me_76 {d : Nat} {K : Kt} {M : Mm} : zSp (d + 1) 76 [.inr (.inr 2)] M K = (zC (zR32 (M 2 3)) (((M 2 3) = 1 → zWp (zSp d) 76 K 12 [some (.inr (.inr 2)), some (.inl 0)] [] M) ∧ (¬ ((M 2 3) = 1) → K 0 M))) := (zwp_blk (stops := [12]) (fuel := 29) pe_76).trans rfl
set_option maxHeartbeats 4000000 in
set_option maxRecDepth 100000 in
theorem fe_76_12 {d : Nat} {K : Kt} {M : Mm} {x1 : Int} : zWp (zSp d) 76 K 12 [some (.inr (.inr 2)), some (.inl x1)] [] M = (zC (zR32 x1) ((13 ≤ x1 → K 1 M) ∧ (¬ (13 ≤ x1) → zC (zSm x1 13) (zC (zR32 (zOwn x1)) (zC (zR32 (M 2 5)) ((¬ (zOwn x1) = (M 2 5) → zWp (zSp d) 76 K 12 [some (.inr (.inr 2)), some (.inl (x1 + 1))] [] M) ∧ (¬ (¬ (zOwn x1) = (M 2 5)) → K 0 M))))))) := (zwp_blk (stops := [12]) (fuel := 29) pe_76).trans rfl
theorem pe_77 : zPg 77 = pg_77 := rfl
/-! 77 Text.passWord -/
set_option maxHeartbeats 4000000 in
set_option maxRecDepth 100000 in
theorem me_77 {d : Nat} {K : Kt} {M : Mm} {a1 : Int} : zSp (d + 1) 77 [.inr (.inr 2), .inl a1] M K = (zSp d 73 [.inr (.inr 2), .inl a1] M (fun z1 M1 => zC (zR32 z1) ((¬ z1 = 0 → zSp d 67 [.inr (.inr 2)] M1 (fun _ M2 => K 1 M2)) ∧ (¬ (¬ z1 = 0) → zSp d 66 [.inr (.inr 2), .inl 1] M1 (fun z3 M3 => zC (zBo z3) (K z3 M3)))))) := (zwp_blk (stops := []) (fuel := 17) pe_77).trans rfl
theorem pe_78 : zPg 78 = pg_78 := rfl
/-! 78 Text.passSign -/
set_option maxHeartbeats 4000000 in
set_option maxRecDepth 100000 in
theorem me_78 {d : Nat} {K : Kt} {M : Mm} {a1 : Int} : zSp (d + 1) 78 [.inr (.inr 2), .inl a1] M K = (zSp d 74 [.inr (.inr 2), .inl a1] M (fun z1 M1 => zC (zR32 z1) ((¬ z1 = 0 → zSp d 67 [.inr (.inr 2)] M1 (fun _ M2 => K 1 M2)) ∧ (¬ (¬ z1 = 0) → zSp d 66 [.inr (.inr 2), .inl 1] M1 (fun z3 M3 => zC (zBo z3) (K z3 M3)))))) := (zwp_blk (stops := []) (fuel := 17) pe_78).trans rfl
theorem pe_79 : zPg 79 = pg_79 := rfl
/-! 79 Tree.clear -/
set_option maxHeartbeats 4000000 in
set_option maxRecDepth 100000 in
theorem me_79 {d : Nat} {K : Kt} {M : Mm} {b : Nat} : zSp (d + 1) 79 [.inr (.inr b)] M K = (zC (zObj b 9) (K 0 (zUp M b 1 0))) := (zwp_blk (stops := []) (fuel := 9) pe_79).trans rfl
theorem pe_80 : zPg 80 = pg_80 := rfl
/-! 80 Tree.copyFrom -/
set_option maxHeartbeats 4000000 in
set_option maxRecDepth 100000 in
theorem me_80 {d : Nat} {K : Kt} {M : Mm} {b o1 : Nat} : zSp (d + 1) 80 [.inr (.inr b), .inr (.inr o1)] M K = (zC (zObj b 9) (zSp d 79 [.inr (.inr b)] M (fun _ M1 => zC (zObj o1 9) (zC (zObj b 9) (zSp d 82 [.inr (.inr b), .inr (.inr o1), .inl 0, .inl (M1 o1 1)] M1 (fun _ M2 => zC (zObj b 9) (zSp d 84 [.inr (.inr b)] M2 (fun _ M3 => K 0 M3)))))))) := (zwp_blk (stops := []) (fuel := 16) pe_80).trans rfl
theorem pe_81 : zPg 81 = pg_81 := rfl
/-! 81 Tree.addNode -/
set_option maxHeartbeats 4000000 in
set_option maxRecDepth 100000 in
theorem me_81 {d : Nat} {K : Kt} {M : Mm} {a1 a2 : Int} {b : Nat} : zSp (d + 1) 81 [.inr (.inr b), .inl a1, .inl a2] M K = (zC (zObj b 9) (zC (zR32 (M b 1)) ((80 ≤ (M b 1) → K 0 M) ∧ (¬ (80 ≤ (M b 1)) → zC (zObj b 9) (zC (zObj b 9) (zC (zArr (b + 1) 0) (zC (zSm (M b 1) (zLen (b + 1))) (zC (zObj b 9) (zC (zObj b 9) (zC (zArr (b + 2) 0) (zC (zSm ((zUp M (b + 1) (M b 1) a1) b 1) (zLen (b + 2))) (zC (zObj b 9) (zC (zObj b 9) (K 0 (zUp (zUp (zUp M (b + 1) (M b 1) a1) (b + 2) ((zUp M (b + 1) (M b 1) a1) b 1) a2) b 1 (((zUp (zUp M (b + 1) (M b 1) a1) (b + 2) ((zUp M (b + 1) (M b 1) a1) b 1) a2) b 1) + 1)))))))))))))))) := (zwp_blk (stops := []) (fuel := 28) pe_81).trans rfl
theorem pe_82 : zPg 82 = pg_82 := rfl
/-! 82 Tree.addAll -/
set_option maxHeartbeats 4000000 in
set_option maxRecDepth 100000 in
theorem me_82 {d : Nat} {K : Kt} {M : Mm} {a2 a3 : Int} {b o1 : Nat} : zSp (d + 1) 82 [.inr (.inr b), .inr (.inr o1), .inl a2, .inl a3] M K = (zWp (zSp d) 82 K 3 [some (.inr (.inr b)), some (.inr (.inr o1)), some (.inl a2), some (.inl a3), some (.inl a2)] [] M) := (zwp_blk (stops := [3]) (fuel := 23) pe_82).trans rfl
set_option maxHeartbeats 4000000 in
set_option maxRecDepth 100000 in
theorem fe_82_3 {d : Nat} {K : Kt} {M : Mm} {x2 x3 x4 : Int} {b o1 : Nat} : zWp (zSp d) 82 K 3 [some (.inr (.inr b)), some (.inr (.inr o1)), some (.inl x2), some (.inl x3), some (.inl x4)] [] M = (zC (zR32 x4) (zC (zR32 x3) ((x3 ≤ x4 → K 0 M) ∧ (¬ (x3 ≤ x4) → zC (zObj o1 9) (zC (zArr (o1 + 1) 0) (zC (zSm x4 (zLen (o1 + 1))) (zC (zObj o1 9) (zC (zArr (o1 + 2) 0) (zC (zSm x4 (zLen (o1 + 2))) (zC (zObj b 9) (zSp d 81 [.inr (.inr b), .inl (M (o1 + 1) x4), .inl (M (o1 + 2) x4)] M (fun _ M1 => zWp (zSp d) 82 K 3 [some (.inr (.inr b)), some (.inr (.inr o1)), some (.inl x2), some (.inl x3), some (.inl (x4 + 1))] [] M1)))))))))))) := (zwp_blk (stops := [3]) (fuel := 23) pe_82).trans rfl
theorem pe_83 : zPg 83 = pg_83 := rfl
/-! 83 Tree.addLeast -/
set_option maxHeartbeats 4000000 in
set_option maxRecDepth 100000 in
theorem me_83 {d : Nat} {K : Kt} {M : Mm} {a1 : Int} {b : Nat} : zSp (d + 1) 83 [.inr (.inr b), .inl a1] M K = (zWp (zSp d) 83 K 2 [some (.inr (.inr b)), some (.inl a1), some (.inl 0), none] [] M) := (zwp_blk (stops := [2]) (fuel := 30) pe_83).trans rfl
set_option maxHeartbeats 4000000 in
set_option maxRecDepth 100000 in
theorem fe_83_2 {d : Nat} {K : Kt} {M : Mm} {x1 x2 : Int} {b : Nat} {u3 : Option Vl} : zWp (zSp d) 83 K 2 [some (.inr (.inr b)), some (.inl x1), some (.inl x2), u3] [] M = (zC (zObj b 9) (zC (zSm x1 6) (zC (zR32 x2) (zC (zR32 (M 12 x1)) (((M 12 x1) ≤ x2 → K 0 M) ∧ (¬ ((M 12 x1) ≤ x2) → zC (zObj b 9) (zSp d 33 [.inr (.inr 4), .inl x1, .inl x2] M (fun z1 M1 => zC (zObj b 9) (zSp d 29 [.inr (.inr 4), .inl z1] M1 (fun z2 M2 => zC (zObj b 9) (zSp d 81 [.inr (.inr b), .inl z1, .inl z2] M2 (fun _ M3 => zWp (zSp d) 83 K 2 [some (.inr (.inr b)), some (.inl x1), some (.inl (x2 + 1)), some (.inl z1)] [] M3)))))))))))) := (zwp_blk (stops := [2]) (fuel := 30) pe_83).trans rfl
theorem pe_84 : zPg 84 = pg_84 := rfl
/-! 84 Tree.settle -/
set_option maxHeartbeats 4000000 in
set_option maxRecDepth 100000 in
theorem me_84 {d : Nat} {K : Kt} {M : Mm} {b : Nat} : zSp (d + 1) 84 [.inr (.inr b)] M K = (zC (zObj b 9) (zWp (zSp d) 84 K 7 [some (.inr (.inr b)), some (.inl 0), none, none] [] (zUp M b 2 0))) := (zwp_blk (stops := [7, 21, 58, 84, 106, 121, 165]) (fuel := 132) pe_84).trans rfl
set_option maxHeartbeats 4000000 in
set_option maxRecDepth 100000 in
theorem fe_84_7 {d : Nat} {K : Kt} {M : Mm} {x1 : Int} {b : Nat} {u2 u3 : Option Vl} : zWp (zSp d) 84 K 7 [some (.inr (.inr b)), some (.inl x1), u2, u3] [] M = (zC (zObj b 9) (zC (zR32 x1) (zC (zR32 (M b 1)) (((M b 1) ≤ x1 → zC (zObj b 9) (zWp (zSp d) 84 K 165 [some (.inr (.inr b)), some (.inl ((M b 1) - 1)), u2, u3] [] M)) ∧ (¬ ((M b 1) ≤ x1) → zWp (zSp d) 84 K 21 [some (.inr (.inr b)), some (.inl x1), some (.inl (x1 - 1)), some (.inl 0)] [] M))))) := (zwp_blk (stops := [7, 21, 58, 84, 106, 121, 165]) (fuel := 132) pe_84).trans rfl
set_option maxHeartbeats 4000000 in
set_option maxRecDepth 100000 in
theorem fe_84_21 {d : Nat} {K : Kt} {M : Mm} {x1 x2 x3 : Int} {b : Nat} : zWp (zSp d) 84 K 21 [some (.inr (.inr b)), some (.inl x1), some (.inl x2), some (.inl x3)] [] M = (zC (zR32 x3) (zC (zR32 x1) ((x1 ≤ x3 → zWp (zSp d) 84 K 58 [some (.inr (.inr b)), some (.inl x1), some (.inl x2), some (.inl x3)] [] M) ∧ (¬ (x1 ≤ x3) → zC (zR32 x2) ((x2 < 0 → zWp (zSp d) 84 K 58 [some (.inr (.inr b)), some (.inl x1), some (.inl x2), some (.inl x3)] [] M) ∧ (¬ (x2 < 0) → zC (zObj b 9) (zC (zArr (b + 7) 0) (zC (zSm x2 (zLen (b + 7))) (zC (zObj b 9) (zC (zArr (b + 2) 0) (zC (zSm x2 (zLen (b + 2))) (zC (zR32 (M (b + 7) x2)) (zC (zR32 (M (b + 2) x2)) (((M (b + 7) x2) < (M (b + 2) x2) → zWp (zSp d) 84 K 58 [some (.inr (.inr b)), some (.inl x1), some (.inl x2), some (.inl x3)] [] M) ∧ (¬ ((M (b + 7) x2) < (M (b + 2) x2)) → zC (zObj b 9) (zC (zArr (b + 3) 0) (zC (zSm x2 (zLen (b + 3))) (zWp (zSp d) 84 K 21 [some (.inr (.inr b)), some (.inl x1), some (.inl (M (b + 3) x2)), some (.inl (x3 + 1))] [] M)))))))))))))))))) := (zwp_blk (stops := [7, 21, 58, 84, 106, 121, 165]) (fuel := 132) pe_84).trans rfl
set_option maxHeartbeats 4000000 in
set_option maxRecDepth 100000 in
theorem fe_84_58 {d : Nat} {K : Kt} {M : Mm} {x1 x2 x3 : Int} {b : Nat} : zWp (zSp d) 84 K 58 [some (.inr (.inr b)), some (.inl x1), some (.inl x2), some (.inl x3)] [] M = (zC (zObj b 9) (zC (zArr (b + 3) 0) (zC (zSm x1 (zLen (b + 3))) (zC (zObj b 9) (zC (zR32 x2) ((0 ≤ x2 → zC (zObj b 9) (zC (zArr (b + 7) 0) (zC (zSm x2 (zLen (b + 7))) (zWp (zSp d) 84 K 84 [some (.inr (.inr b)), some (.inl x1), some (.inl x2), some (.inl x3)] [.inl ((zUp M (b + 3) x1 x2) (b + 7) x2), .inl x1, .inr (.inr (b + 4))] (zUp M (b + 3) x1 x2))))) ∧ (¬ (0 ≤ x2) → zWp (zSp d) 84 K 84 [some (.inr (.inr b)), some (.inl x1), some (.inl x2), some (.inl x3)] [.inl (-1), .inl x1, .inr (.inr (b + 4))] (zUp M (b + 3) x1 x2)))))))) := (zwp_blk (stops := [7, 21, 58, 84, 106, 121, 165]) (fuel := 132) pe_84).trans rfl
set_option maxHeartbeats 4000000 in
set_option maxRecDepth 100000 in
theorem fe_84_84 {d : Nat} {K : Kt} {M : Mm} {x1 x2 x3 y1 y2 : Int} {b r0 : Nat} : zWp (zSp d) 84 K 84 [some (.inr (.inr b)), some (.inl x1), some (.inl x2), some (.inl x3)] [.inl y2, .inl y1, .inr (.inr r0)] M = (zC (zArr r0 0) (zC (zSm y1 (zLen r0)) (zC (zObj b 9) (zC (zR32 x2) ((0 ≤ x2 → zC (zObj b 9) (zC (zArr (b + 5) 0) (zC (zSm x2 (zLen (b + 5))) (zWp (zSp d) 84 K 106 [some (.inr (.inr b)), some (.inl x1), some (.inl x2), some (.inl x3)] [.inl (((zUp M r0 y1 y2) (b + 5) x2) + 1), .inl x1, .inr (.inr (b + 5))] (zUp M r0 y1 y2))))) ∧ (¬ (0 ≤ x2) → zWp (zSp d) 84 K 106 [some (.inr (.inr b)), some (.inl x1), some (.inl x2), some (.inl x3)] [.inl 0, .inl x1, .inr (.inr (b + 5))] (zUp M r0 y1 y2))))))) := (zwp_blk (stops := [7, 21, 58, 84, 106, 121, 165]) (fuel := 132) pe_84).trans rfl
set_option maxHeartbeats 4000000 in
set_option maxRecDepth 100000 in
theorem fe_84_106 {d : Nat} {K : Kt} {M : Mm} {x1 x2 x3 y1 y2 : Int} {b r0 : Nat} : zWp (zSp d) 84 K 106 [some (.inr (.inr b)), some (.inl x1), some (.inl x2), some (.inl x3)] [.inl y2, .inl y1, .inr (.inr r0)] M = (zC (zArr r0 0) (zC (zSm y1 (zLen r0)) (zC (zR32 x2) ((x2 < 0 → zWp (zSp d) 84 K 121 [some (.inr (.inr b)), some (.inl x1), some (.inl x2), some (.inl x3)] [] (zUp M r0 y1 y2)) ∧ (¬ (x2 < 0) → zC (zObj b 9) (zC (zArr (b + 7) 0) (zC (zSm x2 (zLen (b + 7))) (zC (zArr (b + 7) 0) (zC (zSm x2 (zLen (b + 7))) (zWp (zSp d) 84 K 121 [some (.inr (.inr b)), some (.inl x1), some (.inl x2), some (.inl x3)] [] (zUp (zUp M r0 y1 y2) (b + 7) x2 (((zUp M r0 y1 y2) (b + 7) x2) + 1)))))))))))) := (zwp_blk (stops := [7, 21, 58, 84, 106, 121, 165]) (fuel := 132) pe_84).trans rfl
set_option maxHeartbeats 4000000 in
set_option maxRecDepth 100000 in
theorem fe_84_121 {d : Nat} {K : Kt} {M : Mm} {x1 x2 x3 : Int} {b : Nat} : zWp (zSp d) 84 K 121 [some (.inr (.inr b)), some (.inl x1), some (.inl x2), some (.inl x3)] [] M = (zC (zObj b 9) (zC (zArr (b + 7) 0) (zC (zSm x1 (zLen (b + 7))) (zC (zObj b 9) (zC (zArr (b + 6) 0) (zC (zSm x1 (zLen (b + 6))) (zC (zObj b 9) (zC (zObj b 9) (zC (zArr (b + 5) 0) (zC (zSm x1 (zLen (b + 5))) (zC (zR32 ((zUp (zUp M (b + 7) x1 0) (b + 6) x1 1) b 2)) (zC (zR32 ((zUp (zUp M (b + 7) x1 0) (b + 6) x1 1) (b + 5) x1)) (zC (zObj b 9) (zWp (zSp d) 84 K 7 [some (.inr (.inr b)), some (.inl (x1 + 1)), some (.inl x2), some (.inl x3)] [] (zUp (zUp (zUp M (b + 7) x1 0) (b + 6) x1 1) b 2 (zMax ((zUp (zUp M (b + 7) x1 0) (b + 6) x1 1) b 2) ((zUp (zUp M (b + 7) x1 0) (b + 6) x1 1) (b + 5) x1))))))))))))))))) := (zwp_blk (stops := [7, 21, 58, 84, 106, 121, 165]) (fuel := 132) pe_84).trans rfl
set_option maxHeartbeats 4000000 in
set_option maxRecDepth 100000 in
theorem fe_84_165 {d : Nat} {K : Kt} {M : Mm} {x1 : Int} {b : Nat} {u2 u3 : Option Vl} : zWp (zSp d) 84 K 165 [some (.inr (.inr b)), some (.inl x1), u2, u3] [] M = (zC (zR32 x1) ((x1 ≤ 0 → K 0 M) ∧ (¬ (x1 ≤ 0) → zC (zObj b 9) (zC (zArr (b + 3) 0) (zC (zSm x1 (zLen (b + 3))) (zC (zR32 (M (b + 3) x1)) (((M (b + 3) x1) < 0 → zWp (zSp d) 84 K 165 [some (.inr (.inr b)), some (.inl (x1 + (-1))), u2, u3] [] M) ∧ (¬ ((M (b + 3) x1) < 0) → zC (zObj b 9) (zC (zObj b 9) (zC (zArr (b + 3) 0) (zC (zSm x1 (zLen (b + 3))) (zC (zArr (b + 6) 0) (zC (zSm (M (b + 3) x1) (zLen (b + 6))) (zC (zObj b 9) (zC (zArr (b + 6) 0) (zC (zSm x1 (zLen (b + 6))) (zC (zArr (b + 6) 0) (zC (zSm (M (b + 3) x1) (zLen (b + 6))) (zWp (zSp d) 84 K 165 [some (.inr (.inr b)), some (.inl (x1 + (-1))), u2, u3] [] (zUp M (b + 6) (M (b + 3) x1) ((M (b + 6) (M (b + 3) x1)) + (M (b + 6) x1)))))))))))))))))))))) := (zwp_blk (stops := [7, 21, 58, 84, 106, 121, 165]) (fuel := 132) pe_84).trans rfl
theorem pe_85 : zPg 85 = pg_85 := rfl
/-! 85 Tree.sortAt -/
set_option maxHeartbeats 4000000 in
set_option maxRecDepth 100000 in
theorem me_85 {d : Nat} {K : Kt} {M : Mm} {a1 : Int} {b : Nat} : zSp (d + 1) 85 [.inr (.inr b), .inl a1] M K = (zC (zObj b 9) (zC (zObj b 9) (zC (zArr (b + 1) 0) (zC (zSm a1 (zLen (b + 1))) (zC (zSm (M (b + 1) a1) 24) (K (M 7 (M (b + 1) a1)) M)))))) := (zwp_blk (stops := []) (fuel := 14) pe_85).trans rfl
theorem pe_86 : zPg 86 = pg_86 := rfl
/-! 86 Tree.canCut -/
set_option maxHeartbeats 4000000 in
set_option maxRecDepth 100000 in
theorem me_86 {d : Nat} {K : Kt} {M : Mm} {a1 : Int} {b : Nat} : zSp (d + 1) 86 [.inr (.inr b), .inl a1] M K = (zC (zObj b 9) (zC (zArr (b + 3) 0) (zC (zSm a1 (zLen (b + 3))) (zC (zR32 (M (b + 3) a1)) (((M (b + 3) a1) < 0 → K 0 M) ∧ (¬ ((M (b + 3) a1) < 0) → zC (zObj b 9) (zC (zArr (b + 4) 0) (zC (zSm a1 (zLen (b + 4))) (zC (zObj b 9) (zC (zObj b 9) (zC (zArr (b + 1) 0) (zC (zSm (M (b + 3) a1) (zLen (b + 1))) (zSp d 29 [.inr (.inr 4), .inl (M (b + 1) (M (b + 3) a1))] M (fun z1 M1 => zC (zR32 (M (b + 4) a1)) (zC (zR32 z1) (((M (b + 4) a1) < z1 → K 0 M1) ∧ (¬ ((M (b + 4) a1) < z1) → K 1 M1))))))))))))))))) := (zwp_blk (stops := []) (fuel := 28) pe_86).trans rfl
theorem pe_87 : zPg 87 = pg_87 := rfl
/-! 87 Tree.canBeLeast -/
set_option maxHeartbeats 4000000 in
set_option maxRecDepth 100000 in
theorem me_87 {d : Nat} {K : Kt} {M : Mm} {a1 : Int} {b : Nat} : zSp (d + 1) 87 [.inr (.inr b), .inl a1] M K = (zC (zObj b 9) (zC (zObj b 9) (zSp d 85 [.inr (.inr b), .inl a1] M (fun z1 M1 => zC (zSm z1 6) (zC (zObj b 9) (zC (zArr (b + 6) 0) (zC (zSm a1 (zLen (b + 6))) (zC (zR32 (M1 12 z1)) (zC (zR32 (M1 (b + 6) a1)) (((M1 (b + 6) a1) ≤ (M1 12 z1) → K 0 M1) ∧ (¬ ((M1 (b + 6) a1) ≤ (M1 12 z1)) → K 1 M1))))))))))) := (zwp_blk (stops := []) (fuel := 21) pe_87).trans rfl
theorem pe_88 : zPg 88 = pg_88 := rfl
/-! 88 Tree.isInRow -/
set_option maxHeartbeats 4000000 in
set_option maxRecDepth 100000 in
theorem me_88 {d : Nat} {K : Kt} {M : Mm} {a1 a2 : Int} {b : Nat} : zSp (d + 1) 88 [.inr (.inr b), .inl a1, .inl a2] M K = (zC (zObj b 9) (zC (zArr (b + 5) 0) (zC (zSm a1 (zLen (b + 5))) (zC (zR32 (M (b + 5) a1)) (zC (zR32 a2) ((¬ (M (b + 5) a1) = a2 → K 0 M) ∧ (¬ (¬ (M (b + 5) a1) = a2) → zC (zObj b 9) (zSp d 86 [.inr (.inr b), .inl a1] M (fun z1 M1 => zC (zR32 z1) ((¬ z1 = 0 → K 1 M1) ∧ (¬ (¬ z1 = 0) → zC (zObj b 9) (zSp d 87 [.inr (.inr b), .inl a1] M1 (fun z2 M2 => zC (zR32 z2) ((z2 = 0 → K 0 M2) ∧ (¬ (z2 = 0) → K 1 M2))))))))))))))) := (zwp_blk (stops := []) (fuel := 23) pe_88).trans rfl
theorem pe_89 : zPg 89 = pg_89 := rfl
/-! 89 Tree.countOf -/
set_option maxHeartbeats 4000000 in
set_option maxRecDepth 100000 in
theorem me_89 {d : Nat} {K : Kt} {M : Mm} {a1 a2 a3 : Int} {b : Nat} : zSp (d + 1) 89 [.inr (.inr b), .inl a1, .inl a2, .inl a3] M K = (zC (zR32 a1) ((¬ a1 = 0 → zC (zR32 a1) ((¬ a1 = 1 → zWp (zSp d) 89 K 28 [some (.inr (.inr b)), some (.inl a1), some (.inl a2), some (.inl a3), some (.inl 0), some (.inl 0), some (.inl 0), none] [] M) ∧ (¬ (¬ a1 = 1) → zC (zObj b 9) (K (M b 2) M)))) ∧ (¬ (¬ a1 = 0) → zC (zObj b 9) (K (M b 1) M)))) := (zwp_blk (stops := [28, 59, 85]) (fuel := 106) pe_89).trans rfl
set_option maxHeartbeats 4000000 in
set_option maxRecDepth 100000 in
theorem fe_89_28 {d : Nat} {K : Kt} {M : Mm} {x1 x2 x3 x4 x5 x6 : Int} {b : Nat} {u7 : Option Vl} : zWp (zSp d) 89 K 28 [some (.inr (.inr b)), some (.inl x1), some (.inl x2), some (.inl x3), some (.inl x4), some (.inl x5), some (.inl x6), u7] [] M = (zC (zObj b 9) (zC (zR32 x6) (zC (zR32 (M b 1)) (((M b 1) ≤ x6 → K x4 M) ∧ (¬ ((M b 1) ≤ x6) → zC (zR32 x1) ((¬ x1 = 2 → zWp (zSp d) 89 K 59 [some (.inr (.inr b)), some (.inl x1), some (.inl x2), some (.inl x3), some (.inl x4), some (.inl x5), some (.inl x6), u7] [] M) ∧ (¬ (¬ x1 = 2) → zC (zObj b 9) (zC (zArr (b + 1) 0) (zC (zSm x6 (zLen (b + 1))) (zC (zR32 (M (b + 1) x6)) (zC (zR32 x2) ((¬ (M (b + 1) x6) = x2 → zWp (zSp d) 89 K 59 [some (.inr (.inr b)), some (.inl x1), some (.inl x2), some (.inl x3), some (.inl x4), some (.inl x5), some (.inl x6), u7] [] M) ∧ (¬ (¬ (M (b + 1) x6) = x2) → zWp (zSp d) 89 K 28 [some (.inr (.inr b)), some (.inl x1), some (.inl x2), some (.inl x3), some (.inl (x4 + 1)), some (.inl x5), some (.inl (x6 + 1)), u7] [] M))))))))))))) := (zwp_blk (stops := [28, 59, 85]) (fuel := 106) pe_89).trans rfl
set_option maxHeartbeats 4000000 in
set_option maxRecDepth 100000 in
theorem fe_89_59 {d : Nat} {K : Kt} {M : Mm} {x1 x2 x3 x4 x5 x6 : Int} {b : Nat} {u7 : Option Vl} : zWp (zSp d) 89 K 59 [some (.inr (.inr b)), some (.inl x1), some (.inl x2), some (.inl x3), some (.inl x4), some (.inl x5), some (.inl x6), u7] [] M = (zC (zR32 x1) ((¬ x1 = 3 → zC (zR32 x1) ((¬ x1 = 4 → zWp (zSp d) 89 K 28 [some (.inr (.inr b)), some (.inl x1), some (.inl x2), some (.inl x3), some (.inl x4), some (.inl x5), some (.inl (x6 + 1)), u7] [] M) ∧ (¬ (¬ x1 = 4) → zC (zObj b 9) (zC (zArr (b + 1) 0) (zC (zSm x6 (zLen (b + 1))) (zC (zR32 (M (b + 1) x6)) (zC (zR32 x2) ((¬ (M (b + 1) x6) = x2 → zWp (zSp d) 89 K 28 [some (.inr (.inr b)), some (.inl x1), some (.inl x2), some (.inl x3), some (.inl x4), some (.inl x5), some (.inl (x6 + 1)), u7] [] M) ∧ (¬ (¬ (M (b + 1) x6) = x2) → zC (zObj b 9) (zC (zArr (b + 6) 0) (zC (zSm x6 (zLen (b + 6))) (zC (zObj b 9) (zC (zR32 (x6 + (M (b + 6) x6))) (zC (zR32 (M b 1)) (((M b 1) ≤ (x6 + (M (b + 6) x6)) → zWp (zSp d) 89 K 28 [some (.inr (.inr b)), some (.inl x1), some (.inl x2), some (.inl x3), some (.inl x4), some (.inl x5), some (.inl (x6 + 1)), some (.inl (x6 + (M (b + 6) x6)))] [] M) ∧ (¬ ((M b 1) ≤ (x6 + (M (b + 6) x6))) → zC (zObj b 9) (zC (zArr (b + 3) 0) (zC (zSm (x6 + (M (b + 6) x6)) (zLen (b + 3))) (zC (zObj b 9) (zC (zArr (b + 3) 0) (zC (zSm x6 (zLen (b + 3))) (zC (zR32 (M (b + 3) (x6 + (M (b + 6) x6)))) (zC (zR32 (M (b + 3) x6)) ((¬ (M (b + 3) (x6 + (M (b + 6) x6))) = (M (b + 3) x6) → zWp (zSp d) 89 K 28 [some (.inr (.inr b)), some (.inl x1), some (.inl x2), some (.inl x3), some (.inl x4), some (.inl x5), some (.inl (x6 + 1)), some (.inl (x6 + (M (b + 6) x6)))] [] M) ∧ (¬ (¬ (M (b + 3) (x6 + (M (b + 6) x6))) = (M (b + 3) x6)) → zC (zObj b 9) (zC (zArr (b + 1) 0) (zC (zSm (x6 + (M (b + 6) x6)) (zLen (b + 1))) (zC (zR32 (M (b + 1) (x6 + (M (b + 6) x6)))) (zC (zR32 x3) ((¬ (M (b + 1) (x6 + (M (b + 6) x6))) = x3 → zWp (zSp d) 89 K 28 [some (.inr (.inr b)), some (.inl x1), some (.inl x2), some (.inl x3), some (.inl x4), some (.inl x5), some (.inl (x6 + 1)), some (.inl (x6 + (M (b + 6) x6)))] [] M) ∧ (¬ (¬ (M (b + 1) (x6 + (M (b + 6) x6))) = x3) → zWp (zSp d) 89 K 28 [some (.inr (.inr b)), some (.inl x1), some (.inl x2), some (.inl x3), some (.inl (x4 + 1)), some (.inl x5), some (.inl (x6 + 1)), some (.inl (x6 + (M (b + 6) x6)))] [] M))))))))))))))))))))))))))))))) ∧ (¬ (¬ x1 = 3) → zC (zR32 x6) (zC (zR32 x5) ((x5 ≤ x6 → zWp (zSp d) 89 K 85 [some (.inr (.inr b)), some (.inl x1), some (.inl x2), some (.inl x3), some (.inl x4), some (.inl x5), some (.inl x6), u7] [] M) ∧ (¬ (x5 ≤ x6) → zC (zObj b 9) (zC (zArr (b + 1) 0) (zC (zSm x6 (zLen (b + 1))) (zC (zR32 (M (b + 1) x6)) (zC (zR32 x3) ((¬ (M (b + 1) x6) = x3 → zWp (zSp d) 89 K 85 [some (.inr (.inr b)), some (.inl x1), some (.inl x2), some (.inl x3), some (.inl x4), some (.inl x5), some (.inl x6), u7] [] M) ∧ (¬ (¬ (M (b + 1) x6) = x3) → zWp (zSp d) 89 K 85 [some (.inr (.inr b)), some (.inl x1), some (.inl x2), some (.inl x3), some (.inl (x4 + 1)), some (.inl x5), some (.inl x6), u7] [] M)))))))))))) := (zwp_blk (stops := [28, 59, 85]) (fuel := 106) pe_89).trans rfl
set_option maxHeartbeats 4000000 in
set_option maxRecDepth 100000 in
theorem fe_89_85 {d : Nat} {K : Kt} {M : Mm} {x1 x2 x3 x4 x5 x6 : Int} {b : Nat} {u7 : Option Vl} : zWp (zSp d) 89 K 85 [some (.inr (.inr b)), some (.inl x1), some (.inl x2), some (.inl x3), some (.inl x4), some (.inl x5), some (.inl x6), u7] [] M = (zC (zObj b 9) (zC (zArr (b + 1) 0) (zC (zSm x6 (zLen (b + 1))) (zC (zR32 (M (b + 1) x6)) (zC (zR32 x2) ((¬ (M (b + 1) x6) = x2 → zWp (zSp d) 89 K 28 [some (.inr (.inr b)), some (.inl x1), some (.inl x2), some (.inl x3), some (.inl x4), some (.inl x5), some (.inl (x6 + 1)), u7] [] M) ∧ (¬ (¬ (M (b + 1) x6) = x2) → zC (zObj b 9) (zC (zArr (b + 6) 0) (zC (zSm x6 (zLen (b + 6))) (zC (zR32 x5) (zC (zR32 (x6 + (M (b + 6) x6))) (zWp (zSp d) 89 K 28 [some (.inr (.inr b)), some (.inl x1), some (.inl x2), some (.inl x3), some (.inl x4), some (.inl (zMax x5 (x6 + (M (b + 6) x6)))), some (.inl (x6 + 1)), u7] [] M)))))))))))) := (zwp_blk (stops := [28, 59, 85]) (fuel := 106) pe_89).trans rfl
