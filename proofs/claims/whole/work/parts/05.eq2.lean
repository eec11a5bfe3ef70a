theorem pe_90 : zPg 90 = pg_90 := rfl
/-! 90 Tree.becomeSingle -/
set_option maxHeartbeats 4000000 in
set_option maxRecDepth 100000 in
theorem me_90 {d : Nat} {K : Kt} {M : Mm} {a2 a3 a4 : Int} {b : Nat} : zSp (d + 1) 90 [.inr (.inr b), .inr (.inr 38), .inl a2, .inl a3, .inl a4] M K = (zC (zObj b 9) (zSp d 79 [.inr (.inr b)] M (fun _ M1 => zC (zObj b 9) (zSp d 82 [.inr (.inr b), .inr (.inr 38), .inl 0, .inl a3] M1 (fun _ M2 => zC (zR32 a2) ((¬ a2 = 0 → zC (zR32 a2) ((¬ a2 = 1 → zC (zSm a4 80) (zC (zObj b 9) (zSp d 82 [.inr (.inr b), .inr (.inr 38), .inl a4, .inl (a4 + (M2 44 a4))] M2 (fun _ M3 => zWp (zSp d) 90 K 76 [some (.inr (.inr b)), some (.inr (.inr 38)), some (.inl a2), some (.inl a3), some (.inl a4), none] [] M3)))) ∧ (¬ (¬ a2 = 1) → zSp d 85 [.inr (.inr 38), .inl a3] M2 (fun z4 M4 => zC (zObj b 9) (zSp d 83 [.inr (.inr b), .inl z4] M4 (fun _ M5 => zWp (zSp d) 90 K 76 [some (.inr (.inr b)), some (.inr (.inr 38)), some (.inl a2), some (.inl a3), some (.inl a4), none] [] M5)))))) ∧ (¬ (¬ a2 = 0) → zC (zSm a3 80) (zC (zR32 (M2 41 a3)) (((M2 41 a3) < 0 → zWp (zSp d) 90 K 39 [some (.inr (.inr b)), some (.inr (.inr 38)), some (.inl a2), some (.inl a3), some (.inl a4), some (.inl (M2 41 a3))] [] M2) ∧ (¬ ((M2 41 a3) < 0) → zC (zObj b 9) (zC (zArr (b + 2) 0) (zC (zSm (M2 41 a3) (zLen (b + 2))) (zC (zArr (b + 2) 0) (zC (zSm (M2 41 a3) (zLen (b + 2))) (zWp (zSp d) 90 K 39 [some (.inr (.inr b)), some (.inr (.inr 38)), some (.inl a2), some (.inl a3), some (.inl a4), some (.inl (M2 41 a3))] [] (zUp M2 (b + 2) (M2 41 a3) ((M2 (b + 2) (M2 41 a3)) - 1))))))))))))))))) := (zwp_blk (stops := [39, 76]) (fuel := 63) pe_90).trans rfl
set_option maxHeartbeats 4000000 in
set_option maxRecDepth 100000 in
theorem fe_90_39 {d : Nat} {K : Kt} {M : Mm} {x2 x3 x4 x5 : Int} {b : Nat} : zWp (zSp d) 90 K 39 [some (.inr (.inr b)), some (.inr (.inr 38)), some (.inl x2), some (.inl x3), some (.inl x4), some (.inl x5)] [] M = (zWp (zSp d) 90 K 76 [some (.inr (.inr b)), some (.inr (.inr 38)), some (.inl x2), some (.inl x3), some (.inl x4), some (.inl x5)] [] M) := (zwp_blk (stops := [39, 76]) (fuel := 63) pe_90).trans rfl
set_option maxHeartbeats 4000000 in
set_option maxRecDepth 100000 in
theorem fe_90_76 {d : Nat} {K : Kt} {M : Mm} {x2 x3 x4 : Int} {b : Nat} {u5 : Option Vl} : zWp (zSp d) 90 K 76 [some (.inr (.inr b)), some (.inr (.inr 38)), some (.inl x2), some (.inl x3), some (.inl x4), u5] [] M = (zC (zSm x3 80) (zC (zObj b 9) (zSp d 82 [.inr (.inr b), .inr (.inr 38), .inl (x3 + (M 44 x3)), .inl (M 38 1)] M (fun _ M1 => zC (zObj b 9) (zSp d 84 [.inr (.inr b)] M1 (fun _ M2 => K 0 M2)))))) := (zwp_blk (stops := [39, 76]) (fuel := 63) pe_90).trans rfl
theorem pe_91 : zPg 91 = pg_91 := rfl
/-! 91 Tree.becomeChanged -/
set_option maxHeartbeats 4000000 in
set_option maxRecDepth 100000 in
theorem me_91 {d : Nat} {K : Kt} {M : Mm} {b : Nat} : zSp (d + 1) 91 [.inr (.inr b), .inr (.inr 38), .inr (.inr 152), .inr (.inr 153)] M K = (zC (zObj b 9) (zSp d 79 [.inr (.inr b)] M (fun _ M1 => zWp (zSp d) 91 K 7 [some (.inr (.inr b)), some (.inr (.inr 38)), some (.inr (.inr 152)), some (.inr (.inr 153)), some (.inl 0)] [] M1))) := (zwp_blk (stops := [7, 95]) (fuel := 70) pe_91).trans rfl
set_option maxHeartbeats 4000000 in
set_option maxRecDepth 100000 in
theorem fe_91_7 {d : Nat} {K : Kt} {M : Mm} {x4 : Int} {b : Nat} : zWp (zSp d) 91 K 7 [some (.inr (.inr b)), some (.inr (.inr 38)), some (.inr (.inr 152)), some (.inr (.inr 153)), some (.inl x4)] [] M = (zC (zR32 x4) (zC (zR32 (M 38 1)) (((M 38 1) ≤ x4 → zC (zObj b 9) (zSp d 84 [.inr (.inr b)] M (fun _ M1 => K 0 M1))) ∧ (¬ ((M 38 1) ≤ x4) → zC (zSm x4 80) (zC (zR32 (M 152 x4)) ((¬ (M 152 x4) = 0 → zSp d 86 [.inr (.inr 38), .inl x4] M (fun z2 M2 => zC (zR32 z2) ((¬ z2 = 0 → zC (zObj b 9) (zC (zSm x4 80) (zC (zSm (M2 41 x4) 80) (zC (zArr (b + 2) 0) (zC (zSm (M2 153 (M2 41 x4)) (zLen (b + 2))) (zC (zArr (b + 2) 0) (zC (zSm (M2 153 (M2 41 x4)) (zLen (b + 2))) (zWp (zSp d) 91 K 95 [some (.inr (.inr b)), some (.inr (.inr 38)), some (.inr (.inr 152)), some (.inr (.inr 153)), some (.inl x4)] [] (zUp M2 (b + 2) (M2 153 (M2 41 x4)) ((M2 (b + 2) (M2 153 (M2 41 x4))) - 1)))))))))) ∧ (¬ (¬ z2 = 0) → zSp d 85 [.inr (.inr 38), .inl x4] M2 (fun z3 M3 => zC (zObj b 9) (zSp d 83 [.inr (.inr b), .inl z3] M3 (fun _ M4 => zWp (zSp d) 91 K 95 [some (.inr (.inr b)), some (.inr (.inr 38)), some (.inr (.inr 152)), some (.inr (.inr 153)), some (.inl x4)] [] M4))))))) ∧ (¬ (¬ (M 152 x4) = 0) → zC (zObj b 9) (zC (zSm x4 80) (zC (zSm x4 80) (zC (zSm x4 80) (zC (zObj b 9) (zSp d 81 [.inr (.inr b), .inl (M 39 x4), .inl (M 40 x4)] (zUp M 153 x4 (M b 1)) (fun _ M5 => zWp (zSp d) 91 K 7 [some (.inr (.inr b)), some (.inr (.inr 38)), some (.inr (.inr 152)), some (.inr (.inr 153)), some (.inl (x4 + 1))] [] M5))))))))))))) := (zwp_blk (stops := [7, 95]) (fuel := 70) pe_91).trans rfl
set_option maxHeartbeats 4000000 in
set_option maxRecDepth 100000 in
theorem fe_91_95 {d : Nat} {K : Kt} {M : Mm} {x4 : Int} {b : Nat} : zWp (zSp d) 91 K 95 [some (.inr (.inr b)), some (.inr (.inr 38)), some (.inr (.inr 152)), some (.inr (.inr 153)), some (.inl x4)] [] M = (zC (zSm x4 80) (zC (zR32 (M 44 x4)) (zWp (zSp d) 91 K 7 [some (.inr (.inr b)), some (.inr (.inr 38)), some (.inr (.inr 152)), some (.inr (.inr 153)), some (.inl (x4 + (zMax 1 (M 44 x4))))] [] M))) := (zwp_blk (stops := [7, 95]) (fuel := 70) pe_91).trans rfl
theorem pe_92 : zPg 92 = pg_92 := rfl
/-! 92 Tried.forget -/
set_option maxHeartbeats 4000000 in
set_option maxRecDepth 100000 in
theorem me_92 {d : Nat} {K : Kt} {M : Mm} : zSp (d + 1) 92 [.inr (.inr 138)] M K = (zSp d 264 [.inr (.inr 145), .inl (-1)] (zUp M 138 0 0) (fun _ M1 => K 0 M1)) := (zwp_blk (stops := []) (fuel := 13) pe_92).trans rfl
theorem pe_93 : zPg 93 = pg_93 := rfl
/-! 93 Tried.find -/
set_option maxHeartbeats 4000000 in
set_option maxRecDepth 100000 in
theorem me_93 {d : Nat} {K : Kt} {M : Mm} {o1 : Nat} : zSp (d + 1) 93 [.inr (.inr 138), .inr (.inr o1)] M K = (zSp d 95 [.inr (.inr 138), .inr (.inr o1)] M (fun _ M1 => zC (zSm (M1 138 9) 1024) (zWp (zSp d) 93 K 17 [some (.inr (.inr 138)), some (.inr (.inr o1)), some (.inl (M1 145 (M1 138 9))), some (.inl 0)] [] M1))) := (zwp_blk (stops := [17]) (fuel := 44) pe_93).trans rfl
set_option maxHeartbeats 4000000 in
set_option maxRecDepth 100000 in
theorem fe_93_17 {d : Nat} {K : Kt} {M : Mm} {x2 x3 : Int} {o1 : Nat} : zWp (zSp d) 93 K 17 [some (.inr (.inr 138)), some (.inr (.inr o1)), some (.inl x2), some (.inl x3)] [] M = (zC (zR32 x3) ((600 ≤ x3 → K (-1) M) ∧ (¬ (600 ≤ x3) → zC (zR32 x2) ((x2 = (-1) → K (-1) M) ∧ (¬ (x2 = (-1)) → zC (zSm x2 600) (zC (zObj o1 9) (zC (zR32 (M 139 x2)) (zC (zR32 (M o1 1)) ((¬ (M 139 x2) = (M o1 1) → zC (zSm x2 600) (zWp (zSp d) 93 K 17 [some (.inr (.inr 138)), some (.inr (.inr o1)), some (.inl (M 144 x2)), some (.inl (x3 + 1))] [] M)) ∧ (¬ (¬ (M 139 x2) = (M o1 1)) → zSp d 96 [.inr (.inr 138), .inl x2] M (fun z1 M1 => zC (zR32 z1) ((z1 = 0 → zC (zSm x2 600) (zWp (zSp d) 93 K 17 [some (.inr (.inr 138)), some (.inr (.inr o1)), some (.inl (M1 144 x2)), some (.inl (x3 + 1))] [] M1)) ∧ (¬ (z1 = 0) → K x2 M1))))))))))))) := (zwp_blk (stops := [17]) (fuel := 44) pe_93).trans rfl
theorem pe_94 : zPg 94 = pg_94 := rfl
/-! 94 Tried.add -/
set_option maxHeartbeats 4000000 in
set_option maxRecDepth 100000 in
theorem me_94 {d : Nat} {K : Kt} {M : Mm} {a1 a2 a3 a4 : Int} : zSp (d + 1) 94 [.inr (.inr 138), .inl a1, .inl a2, .inl a3, .inl a4] M K = (zC (zR32 (M 138 0)) (((M 138 0) < 600 → zC (zSm (M 138 0) 600) (zC (zSm (M 138 0) 600) (zC (zSm (M 138 0) 600) (zC (zSm (M 138 0) 600) (zC (zCo 0 ((M 138 0) * 16) 16 16 9600) (zC (zSm (M 138 9) 1024) (zC (zSm (M 138 0) 600) (zC (zSm (M 138 9) 1024) (K 0 (zUp (zUp (zUp (zCpy (zUp (zUp (zUp (zUp M 139 (M 138 0) a1) 140 (M 138 0) a2) 141 (M 138 0) a3) 142 (M 138 0) a4) 146 0 143 ((M 138 0) * 16) 16) 144 (M 138 0) (M 145 (M 138 9))) 145 (M 138 9) (M 138 0)) 138 0 ((M 138 0) + 1))))))))))) ∧ (¬ ((M 138 0) < 600) → K 0 M))) := (zwp_blk (stops := []) (fuel := 69) pe_94).trans rfl
theorem pe_95 : zPg 95 = pg_95 := rfl
/-! 95 Tried.makeKey -/
set_option maxHeartbeats 4000000 in
set_option maxRecDepth 100000 in
theorem me_95 {d : Nat} {K : Kt} {M : Mm} {o1 : Nat} : zSp (d + 1) 95 [.inr (.inr 138), .inr (.inr o1)] M K = (zSp d 263 [.inr (.inr 146), .inr (.inl 0)] M (fun _ M1 => zC (zObj o1 9) (zC (zR32 (M1 o1 1)) (zWp (zSp d) 95 K 17 [some (.inr (.inr 138)), some (.inr (.inr o1)), some (.inr (.inl (M1 o1 1))), none, some (.inl 0), none] [] M1)))) := (zwp_blk (stops := [17]) (fuel := 68) pe_95).trans rfl
set_option maxHeartbeats 4000000 in
set_option maxRecDepth 100000 in
theorem fe_95_17 {d : Nat} {K : Kt} {M : Mm} {x2 x4 : Int} {o1 : Nat} {u5 : Option Vl} : zWp (zSp d) 95 K 17 [some (.inr (.inr 138)), some (.inr (.inr o1)), some (.inr (.inl x2)), none, some (.inl x4), u5] [] M = (zC (zObj o1 9) (zC (zR32 x4) (zC (zR32 (M o1 1)) (((M o1 1) ≤ x4 → K 0 (zUp M 138 9 (zIandZ (zLxorZ x2 (zLushrZ x2 16)) 1023))) ∧ (¬ ((M o1 1) ≤ x4) → zC (zObj o1 9) (zC (zArr (o1 + 1) 0) (zC (zSm x4 (zLen (o1 + 1))) (zC (zObj o1 9) (zC (zArr (o1 + 2) 0) (zC (zSm x4 (zLen (o1 + 2))) (zC (zR32 x4) (zC (zDv x4 5) (zC (zR32 x4) (zC (zDv x4 5) (zC (zSm (x4 / 5) 16) (zC (zR32 (zIorZ ((M (o1 + 1) x4) * 2 ^ 7) (M (o1 + 2) x4))) (zC (zSm (x4 / 5) 16) (zC (zR32 (zIorZ ((M (o1 + 1) x4) * 2 ^ 7) (M (o1 + 2) x4))) (zWp (zSp d) 95 K 17 [some (.inr (.inr 138)), some (.inr (.inr o1)), some (.inr (.inl ((x2 * 31) + (zIorZ ((M (o1 + 1) x4) * 2 ^ 7) (M (o1 + 2) x4))))), none, some (.inl (x4 + 1)), some (.inl (zIorZ ((M (o1 + 1) x4) * 2 ^ 7) (M (o1 + 2) x4)))] [] (zUp M 146 (x4 / 5) (zLorZ ((M 146 (x4 / 5)) * 2 ^ 12) (zIorZ ((M (o1 + 1) x4) * 2 ^ 7) (M (o1 + 2) x4))))))))))))))))))))))) := (zwp_blk (stops := [17]) (fuel := 68) pe_95).trans rfl
theorem pe_96 : zPg 96 = pg_96 := rfl
/-! 96 Tried.hasKey -/
set_option maxHeartbeats 4000000 in
set_option maxRecDepth 100000 in
theorem me_96 {d : Nat} {K : Kt} {M : Mm} {a1 : Int} : zSp (d + 1) 96 [.inr (.inr 138), .inl a1] M K = (zWp (zSp d) 96 K 2 [some (.inr (.inr 138)), some (.inl a1), some (.inl 0)] [] M) := (zwp_blk (stops := [2]) (fuel := 30) pe_96).trans rfl
set_option maxHeartbeats 4000000 in
set_option maxRecDepth 100000 in
theorem fe_96_2 {d : Nat} {K : Kt} {M : Mm} {x1 x2 : Int} : zWp (zSp d) 96 K 2 [some (.inr (.inr 138)), some (.inl x1), some (.inl x2)] [] M = (zC (zR32 x2) ((16 ≤ x2 → K 1 M) ∧ (¬ (16 ≤ x2) → zC (zSm ((x1 * 16) + x2) 9600) (zC (zSm x2 16) (zC (zR64 (M 143 ((x1 * 16) + x2))) (zC (zR64 (M 146 x2)) (zC (zR32 (zLcmp (M 143 ((x1 * 16) + x2)) (M 146 x2))) (((zLcmp (M 143 ((x1 * 16) + x2)) (M 146 x2)) = 0 → zWp (zSp d) 96 K 2 [some (.inr (.inr 138)), some (.inl x1), some (.inl (x2 + 1))] [] M) ∧ (¬ ((zLcmp (M 143 ((x1 * 16) + x2)) (M 146 x2)) = 0) → K 0 M))))))))) := (zwp_blk (stops := [2]) (fuel := 30) pe_96).trans rfl
theorem pe_97 : zPg 97 = pg_97 := rfl
/-! 97 LeastFailing.feed -/
set_option maxHeartbeats 4000000 in
set_option maxRecDepth 100000 in
theorem me_97 {d : Nat} {K : Kt} {M : Mm} {a1 a2 a3 a4 a5 : Int} : zSp (d + 1) 97 [.inr (.inr 0), .inl a1, .inl a2, .inl a3, .inl a4, .inl a5] M K = (zC (zR32 ((M 2 1) + 20)) ((((M 2 1) + 20) ≤ 1000 → zSp d 64 [.inr (.inr 2), .inl a1] M (fun _ M1 => zSp d 64 [.inr (.inr 2), .inl a2] M1 (fun _ M2 => zSp d 64 [.inr (.inr 2), .inl a3] M2 (fun _ M3 => zSp d 64 [.inr (.inr 2), .inl a4] M3 (fun _ M4 => zSp d 64 [.inr (.inr 2), .inl a5] M4 (fun _ M5 => K (M5 2 1) M5)))))) ∧ (¬ (((M 2 1) + 20) ≤ 1000) → K (-1) M))) := (zwp_blk (stops := []) (fuel := 38) pe_97).trans rfl
theorem pe_98 : zPg 98 = pg_98 := rfl
/-! 98 LeastFailing.end -/
set_option maxHeartbeats 4000000 in
set_option maxRecDepth 100000 in
theorem me_98 {d : Nat} {K : Kt} {M : Mm} {a1 : Int} : zSp (d + 1) 98 [.inr (.inr 0), .inl a1] M K = (zC (zR32 a1) ((a1 < 0 → K 0 M) ∧ (¬ (a1 < 0) → zC (zR32 a1) (zC (zR32 (M 2 1)) ((a1 ≤ (M 2 1) → K 1 (zUp M 2 1 a1)) ∧ (¬ (a1 ≤ (M 2 1)) → K 0 M)))))) := (zwp_blk (stops := []) (fuel := 20) pe_98).trans rfl
theorem pe_99 : zPg 99 = pg_99 := rfl
/-! 99 LeastFailing.grammar -/
set_option maxHeartbeats 4000000 in
set_option maxRecDepth 100000 in
theorem me_99 {d : Nat} {K : Kt} {M : Mm} : zSp (d + 1) 99 [.inr (.inr 0)] M K = (zSp d 34 [.inr (.inr 2), .inr (.inr 14)] M (fun z1 M1 => zC (zR32 z1) ((¬ z1 = 0 → zSp d 22 [.inr (.inr 4), .inr (.inr 14)] (zUp M1 2 1 0) (fun _ M2 => zSp d 79 [.inr (.inr 38)] M2 (fun _ M3 => zSp d 0 [.inr (.inr 24)] M3 (fun _ M4 => zSp d 92 [.inr (.inr 138)] (zUp M4 0 8 0) (fun _ M5 => K (M5 4 0) M5))))) ∧ (¬ (¬ z1 = 0) → K (-1) (zUp M1 2 1 0))))) := (zwp_blk (stops := []) (fuel := 40) pe_99).trans rfl
theorem pe_100 : zPg 100 = pg_100 := rfl
/-! 100 LeastFailing.input -/
set_option maxHeartbeats 4000000 in
set_option maxRecDepth 100000 in
theorem me_100 {d : Nat} {K : Kt} {M : Mm} : zSp (d + 1) 100 [.inr (.inr 0)] M K = (zC (zR32 (M 4 0)) ((¬ (M 4 0) = 0 → zSp d 38 [.inr (.inr 134)] M (fun z1 M1 => zC (zR32 z1) ((¬ z1 = 0 → zSp d 131 [.inr (.inr 0)] (zUp M1 2 1 0) (fun _ M2 => zSp d 80 [.inr (.inr 38), .inr (.inr 46)] M2 (fun _ M3 => zSp d 92 [.inr (.inr 138)] M3 (fun _ M4 => K (M4 38 1) M4)))) ∧ (¬ (¬ z1 = 0) → K (-1) (zUp M1 2 1 0))))) ∧ (¬ (¬ (M 4 0) = 0) → K (-3) (zUp M 2 1 0)))) := (zwp_blk (stops := []) (fuel := 41) pe_100).trans rfl
theorem pe_101 : zPg 101 = pg_101 := rfl
/-! 101 LeastFailing.bugs -/
set_option maxHeartbeats 4000000 in
set_option maxRecDepth 100000 in
theorem me_101 {d : Nat} {K : Kt} {M : Mm} : zSp (d + 1) 101 [.inr (.inr 0)] M K = (zC (zR32 (M 4 0)) ((¬ (M 4 0) = 0 → zSp d 8 [.inr (.inr 136)] M (fun z1 M1 => zC (zR32 z1) ((¬ z1 = 0 → zSp d 1 [.inr (.inr 24), .inr (.inr 31)] (zUp M1 2 1 0) (fun _ M2 => zSp d 92 [.inr (.inr 138)] M2 (fun _ M3 => K (M3 24 0) M3))) ∧ (¬ (¬ z1 = 0) → K (-1) (zUp M1 2 1 0))))) ∧ (¬ (¬ (M 4 0) = 0) → K (-3) (zUp M 2 1 0)))) := (zwp_blk (stops := []) (fuel := 39) pe_101).trans rfl
theorem pe_102 : zPg 102 = pg_102 := rfl
/-! 102 LeastFailing.fault -/
set_option maxHeartbeats 4000000 in
set_option maxRecDepth 100000 in
theorem me_102 {d : Nat} {K : Kt} {M : Mm} {a1 : Int} : zSp (d + 1) 102 [.inr (.inr 0), .inl a1] M K = (zC (zR32 a1) ((¬ a1 = 0 → zC (zR32 a1) ((¬ a1 = 1 → K (-1) M) ∧ (¬ (¬ a1 = 1) → K (M 2 7) M))) ∧ (¬ (¬ a1 = 0) → K (M 2 6) M))) := (zwp_blk (stops := []) (fuel := 20) pe_102).trans rfl
theorem pe_103 : zPg 103 = pg_103 := rfl
/-! 103 LeastFailing.votes -/
set_option maxHeartbeats 4000000 in
set_option maxRecDepth 100000 in
theorem me_103 {d : Nat} {K : Kt} {M : Mm} {a1 : Int} : zSp (d + 1) 103 [.inr (.inr 0), .inl a1] M K = (zSp d 129 [.inl a1] M (fun z1 M1 => zC (zR32 z1) ((¬ z1 = 0 → zSp d 92 [.inr (.inr 138)] (zUp M1 147 3 a1) (fun _ M2 => K (M1 147 3) M2)) ∧ (¬ (¬ z1 = 0) → K (-2) M1)))) := (zwp_blk (stops := []) (fuel := 23) pe_103).trans rfl
theorem pe_104 : zPg 104 = pg_104 := rfl
/-! 104 LeastFailing.seed -/
set_option maxHeartbeats 4000000 in
set_option maxRecDepth 100000 in
theorem me_104 {d : Nat} {K : Kt} {M : Mm} {a1 : Int} : zSp (d + 1) 104 [.inr (.inr 0), .inl a1] M K = (zC (zR32 a1) ((0 ≤ a1 → zSp d 92 [.inr (.inr 138)] (zUp M 147 4 a1) (fun _ M1 => K 1 M1)) ∧ (¬ (0 ≤ a1) → K (-2) M))) := (zwp_blk (stops := []) (fuel := 18) pe_104).trans rfl
theorem pe_105 : zPg 105 = pg_105 := rfl
/-! 105 LeastFailing.count -/
set_option maxHeartbeats 4000000 in
set_option maxRecDepth 100000 in
theorem me_105 {d : Nat} {K : Kt} {M : Mm} {a1 : Int} : zSp (d + 1) 105 [.inr (.inr 0), .inl a1] M K = (zC (zR32 a1) (((a1 = 0 → K (M 4 0) M) ∧ ((a1 = 1 → K (M 4 1) M) ∧ ((a1 = 2 → K (M 38 1) M) ∧ ((a1 = 3 → K (M 24 0) M) ∧ ((a1 = 4 → K (M 147 3) M) ∧ ((a1 = 5 → K (M 138 0) M) ∧ ((a1 = 6 → K (M 147 5) M) ∧ ((a1 = 7 → K (M 147 6) M) ∧ ((a1 = 8 → K (M 147 7) M) ∧ ((a1 = 9 → K (M 147 4) M) ∧ ((a1 = 10 → K (M 0 8) M) ∧ ((a1 = 11 → zC (zR32 (M 38 1)) ((¬ (M 38 1) = 0 → K (M 38 2) M) ∧ (¬ (¬ (M 38 1) = 0) → K (-1) M))) ∧ True)))))))))))) ∧ ((a1 < 0 ∨ 11 < a1) → K (-1) M))) := (zwp_blk (stops := []) (fuel := 62) pe_105).trans rfl
theorem pe_106 : zPg 106 = pg_106 := rfl
/-! 106 LeastFailing.letter -/
set_option maxHeartbeats 4000000 in
set_option maxRecDepth 100000 in
theorem me_106 {d : Nat} {K : Kt} {M : Mm} {a1 a2 a3 : Int} : zSp (d + 1) 106 [.inr (.inr 0), .inl a1, .inl a2, .inl a3] M K = (zC (zR32 a3) ((a3 < 0 → K (-1) M) ∧ (¬ (a3 < 0) → zC (zR32 a3) ((6 ≤ a3 → K (-1) M) ∧ (¬ (6 ≤ a3) → zC (zR32 a2) ((0 ≤ a2 → zC (zR32 a1) ((¬ a1 = 0 → zWp (zSp d) 106 K 45 [some (.inr (.inr 0)), some (.inl a1), some (.inl a2), some (.inl a3)] [] M) ∧ (¬ (¬ a1 = 0) → zC (zR32 a2) (zC (zR32 (M 4 0)) (((M 4 0) ≤ a2 → zWp (zSp d) 106 K 45 [some (.inr (.inr 0)), some (.inl a1), some (.inl a2), some (.inl a3)] [] M) ∧ (¬ ((M 4 0) ≤ a2) → zC (zSm a2 24) (zSp d 63 [.inl (M 5 a2), .inl a3] M (fun z1 M1 => K z1 M1)))))))) ∧ (¬ (0 ≤ a2) → K (-1) M))))))) := (zwp_blk (stops := [45, 75]) (fuel := 63) pe_106).trans rfl
set_option maxHeartbeats 4000000 in
set_option maxRecDepth 100000 in
theorem fe_106_45 {d : Nat} {K : Kt} {M : Mm} {x1 x2 x3 : Int} : zWp (zSp d) 106 K 45 [some (.inr (.inr 0)), some (.inl x1), some (.inl x2), some (.inl x3)] [] M = (zC (zR32 x1) ((¬ x1 = 1 → zWp (zSp d) 106 K 75 [some (.inr (.inr 0)), some (.inl x1), some (.inl x2), some (.inl x3)] [] M) ∧ (¬ (¬ x1 = 1) → zC (zR32 x2) (zC (zR32 (M 4 1)) (((M 4 1) ≤ x2 → zWp (zSp d) 106 K 75 [some (.inr (.inr 0)), some (.inl x1), some (.inl x2), some (.inl x3)] [] M) ∧ (¬ ((M 4 1) ≤ x2) → zC (zSm x2 6) (zSp d 63 [.inl (M 11 x2), .inl x3] M (fun z1 M1 => K z1 M1)))))))) := (zwp_blk (stops := [45, 75]) (fuel := 63) pe_106).trans rfl
set_option maxHeartbeats 4000000 in
set_option maxRecDepth 100000 in
theorem fe_106_75 {d : Nat} {K : Kt} {M : Mm} {x1 x2 x3 : Int} : zWp (zSp d) 106 K 75 [some (.inr (.inr 0)), some (.inl x1), some (.inl x2), some (.inl x3)] [] M = (zC (zR32 x1) ((¬ x1 = 2 → K (-1) M) ∧ (¬ (¬ x1 = 2) → zC (zR32 x2) (zC (zR32 (M 24 0)) (((M 24 0) ≤ x2 → K (-1) M) ∧ (¬ ((M 24 0) ≤ x2) → zC (zSm x2 6) (zSp d 63 [.inl (M 25 x2), .inl x3] M (fun z1 M1 => K z1 M1)))))))) := (zwp_blk (stops := [45, 75]) (fuel := 63) pe_106).trans rfl
theorem pe_107 : zPg 107 = pg_107 := rfl
/-! 107 LeastFailing.line -/
set_option maxHeartbeats 4000000 in
set_option maxRecDepth 100000 in
theorem me_107 {d : Nat} {K : Kt} {M : Mm} {a1 a2 : Int} : zSp (d + 1) 107 [.inr (.inr 0), .inl a1, .inl a2] M K = (zC (zR32 a1) ((a1 < 0 → K (-1) M) ∧ (¬ (a1 < 0) → zC (zR32 a1) (zC (zR32 (M 4 0)) ((a1 < (M 4 0) → zC (zR32 a2) (((a2 = 0 → zC (zSm a1 24) (zC (zR32 (M 6 a1)) (((M 6 a1) = 0 → K 0 M) ∧ (¬ ((M 6 a1) = 0) → K 1 M)))) ∧ ((a2 = 1 → zC (zSm a1 24) (K (M 7 a1) M)) ∧ ((a2 = 2 → zC (zSm a1 24) (K (M 8 a1) M)) ∧ ((a2 = 3 → zC (zSm a1 24) (zC (zR32 (M 9 a1)) (((M 9 a1) = 0 → K 0 M) ∧ (¬ ((M 9 a1) = 0) → K 1 M)))) ∧ True)))) ∧ ((a2 < 0 ∨ 3 < a2) → zC (zR32 a2) ((a2 < 10 → K (-1) M) ∧ (¬ (a2 < 10) → zC (zSm a1 24) (zC (zR32 (a2 - 10)) (zC (zR32 (M 8 a1)) (((a2 - 10) < (M 8 a1) → zSp d 28 [.inr (.inr 4), .inl a1, .inl (a2 - 10)] M (fun z1 M1 => K z1 M1)) ∧ (¬ ((a2 - 10) < (M 8 a1)) → K (-1) M))))))))) ∧ (¬ (a1 < (M 4 0)) → K (-1) M)))))) := (zwp_blk (stops := []) (fuel := 70) pe_107).trans rfl
theorem pe_108 : zPg 108 = pg_108 := rfl
/-! 108 LeastFailing.least -/
set_option maxHeartbeats 4000000 in
set_option maxRecDepth 100000 in
theorem me_108 {d : Nat} {K : Kt} {M : Mm} {a1 a2 : Int} : zSp (d + 1) 108 [.inr (.inr 0), .inl a1, .inl a2] M K = (zC (zR32 a1) ((a1 < 0 → K (-1) M) ∧ (¬ (a1 < 0) → zC (zR32 a1) (zC (zR32 (M 4 1)) ((a1 < (M 4 1) → zC (zR32 a2) ((¬ a2 = (-1) → zC (zR32 a2) ((a2 < 0 → K (-1) M) ∧ (¬ (a2 < 0) → zC (zSm a1 6) (zC (zR32 a2) (zC (zR32 (M 12 a1)) ((a2 < (M 12 a1) → zSp d 33 [.inr (.inr 4), .inl a1, .inl a2] M (fun z1 M1 => K z1 M1)) ∧ (¬ (a2 < (M 12 a1)) → K (-1) M))))))) ∧ (¬ (¬ a2 = (-1)) → zC (zSm a1 6) (K (M 12 a1) M)))) ∧ (¬ (a1 < (M 4 1)) → K (-1) M)))))) := (zwp_blk (stops := []) (fuel := 40) pe_108).trans rfl
theorem pe_109 : zPg 109 = pg_109 := rfl
/-! 109 LeastFailing.node -/
set_option maxHeartbeats 4000000 in
set_option maxRecDepth 100000 in
theorem me_109 {d : Nat} {K : Kt} {M : Mm} {a1 a2 : Int} : zSp (d + 1) 109 [.inr (.inr 0), .inl a1, .inl a2] M K = (zC (zR32 a1) ((a1 < 0 → K (-2) M) ∧ (¬ (a1 < 0) → zC (zR32 a1) (zC (zR32 (M 38 1)) ((a1 < (M 38 1) → zC (zR32 a2) (((a2 = 0 → zC (zSm a1 80) (K (M 39 a1) M)) ∧ ((a2 = 1 → zSp d 85 [.inr (.inr 38), .inl a1] M (fun z1 M1 => K z1 M1)) ∧ ((a2 = 2 → zC (zSm a1 80) (K (M 43 a1) M)) ∧ ((a2 = 3 → zC (zSm a1 80) (K (M 44 a1) M)) ∧ ((a2 = 4 → zC (zSm a1 80) (K (M 40 a1) M)) ∧ ((a2 = 5 → zC (zSm a1 80) (K (M 41 a1) M)) ∧ ((a2 = 6 → zC (zSm a1 80) (K (M 42 a1) M)) ∧ ((a2 = 7 → zSp d 86 [.inr (.inr 38), .inl a1] M (fun z2 M2 => zC (zR32 z2) ((z2 = 0 → K 0 M2) ∧ (¬ (z2 = 0) → K 1 M2)))) ∧ True)))))))) ∧ ((a2 < 0 ∨ 7 < a2) → K (-2) M))) ∧ (¬ (a1 < (M 38 1)) → K (-2) M)))))) := (zwp_blk (stops := []) (fuel := 68) pe_109).trans rfl
theorem pe_110 : zPg 110 = pg_110 := rfl
/-! 110 LeastFailing.holding -/
set_option maxHeartbeats 4000000 in
set_option maxRecDepth 100000 in
theorem me_110 {d : Nat} {K : Kt} {M : Mm} : zSp (d + 1) 110 [.inr (.inr 0)] M K = (zC (zR32 (M 38 1)) ((¬ (M 38 1) = 0 → zSp d 6 [.inr (.inr 24), .inr (.inr 38)] M (fun z1 M1 => K z1 M1)) ∧ (¬ (¬ (M 38 1) = 0) → K (-1) M))) := (zwp_blk (stops := []) (fuel := 17) pe_110).trans rfl
theorem pe_111 : zPg 111 = pg_111 := rfl
/-! 111 LeastFailing.counts -/
set_option maxHeartbeats 4000000 in
set_option maxRecDepth 100000 in
theorem me_111 {d : Nat} {K : Kt} {M : Mm} {a1 a2 a3 : Int} : zSp (d + 1) 111 [.inr (.inr 0), .inl a1, .inl a2, .inl a3] M K = (zC (zR32 (M 38 1)) (((M 38 1) = 0 → K (-1) M) ∧ (¬ ((M 38 1) = 0) → zC (zR32 a1) ((a1 < 0 → K (-1) M) ∧ (¬ (a1 < 0) → zC (zR32 a1) ((a1 ≤ 4 → zC (zR32 a1) ((a1 < 2 → zWp (zSp d) 111 K 43 [some (.inr (.inr 0)), some (.inl a1), some (.inl a2), some (.inl a3)] [] M) ∧ (¬ (a1 < 2) → zC (zR32 a2) ((a2 < 0 → K (-1) M) ∧ (¬ (a2 < 0) → zC (zR32 a2) (zC (zR32 (M 4 0)) ((a2 < (M 4 0) → zWp (zSp d) 111 K 43 [some (.inr (.inr 0)), some (.inl a1), some (.inl a2), some (.inl a3)] [] M) ∧ (¬ (a2 < (M 4 0)) → K (-1) M)))))))) ∧ (¬ (a1 ≤ 4) → K (-1) M))))))) := (zwp_blk (stops := [43, 65]) (fuel := 47) pe_111).trans rfl
set_option maxHeartbeats 4000000 in
set_option maxRecDepth 100000 in
theorem fe_111_43 {d : Nat} {K : Kt} {M : Mm} {x1 x2 x3 : Int} : zWp (zSp d) 111 K 43 [some (.inr (.inr 0)), some (.inl x1), some (.inl x2), some (.inl x3)] [] M = (zC (zR32 x1) ((x1 < 3 → zWp (zSp d) 111 K 65 [some (.inr (.inr 0)), some (.inl x1), some (.inl x2), some (.inl x3)] [] M) ∧ (¬ (x1 < 3) → zC (zR32 x3) ((x3 < 0 → K (-1) M) ∧ (¬ (x3 < 0) → zC (zR32 x3) (zC (zR32 (M 4 0)) ((x3 < (M 4 0) → zWp (zSp d) 111 K 65 [some (.inr (.inr 0)), some (.inl x1), some (.inl x2), some (.inl x3)] [] M) ∧ (¬ (x3 < (M 4 0)) → K (-1) M)))))))) := (zwp_blk (stops := [43, 65]) (fuel := 47) pe_111).trans rfl
set_option maxHeartbeats 4000000 in
set_option maxRecDepth 100000 in
theorem fe_111_65 {d : Nat} {K : Kt} {M : Mm} {x1 x2 x3 : Int} : zWp (zSp d) 111 K 65 [some (.inr (.inr 0)), some (.inl x1), some (.inl x2), some (.inl x3)] [] M = (zSp d 89 [.inr (.inr 38), .inl x1, .inl x2, .inl x3] M (fun z1 M1 => K z1 M1)) := (zwp_blk (stops := [43, 65]) (fuel := 47) pe_111).trans rfl
theorem pe_112 : zPg 112 = pg_112 := rfl
/-! 112 LeastFailing.verdict -/
set_option maxHeartbeats 4000000 in
set_option maxRecDepth 100000 in
theorem me_112 {d : Nat} {K : Kt} {M : Mm} : zSp (d + 1) 112 [.inr (.inr 0)] M K = (zC (zR32 (M 38 1)) ((¬ (M 38 1) = 0 → zSp d 42 [.inr (.inr 147), .inr (.inr 38), .inl 0, .inl (-1)] M (fun z1 M1 => K z1 M1)) ∧ (¬ (¬ (M 38 1) = 0) → K (-1) M))) := (zwp_blk (stops := []) (fuel := 19) pe_112).trans rfl
theorem pe_113 : zPg 113 = pg_113 := rfl
/-! 113 LeastFailing.run -/
set_option maxHeartbeats 4000000 in
set_option maxRecDepth 100000 in
theorem me_113 {d : Nat} {K : Kt} {M : Mm} {a1 : Int} : zSp (d + 1) 113 [.inr (.inr 0), .inl a1] M K = (zC (zR32 a1) ((a1 < 0 → K (-1) M) ∧ (¬ (a1 < 0) → zC (zR32 (M 38 1)) ((¬ (M 38 1) = 0 → zSp d 6 [.inr (.inr 24), .inr (.inr 38)] (zUp M 147 4 a1) (fun z1 M1 => zSp d 44 [.inr (.inr 147), .inl z1] M1 (fun z2 M2 => K z2 (zUp M2 147 4 (M 147 4))))) ∧ (¬ (¬ (M 38 1) = 0) → K (-1) M))))) := (zwp_blk (stops := []) (fuel := 36) pe_113).trans rfl
theorem pe_114 : zPg 114 = pg_114 := rfl
/-! 114 LeastFailing.single -/
set_option maxHeartbeats 4000000 in
set_option maxRecDepth 100000 in
theorem me_114 {d : Nat} {K : Kt} {M : Mm} {a1 a2 : Int} : zSp (d + 1) 114 [.inr (.inr 0), .inl a1, .inl a2] M K = (zC (zR32 a1) ((¬ a1 = (-1) → zC (zR32 a2) ((a2 < 0 → K (-1) M) ∧ (¬ (a2 < 0) → zC (zR32 a2) ((4 < a2 → K (-1) M) ∧ (¬ (4 < a2) → zSp d 61 [.inr (.inr 149), .inl a1] M (fun z1 M1 => zC (zR32 z1) ((¬ z1 = 0 → zC (zR32 a2) (((a2 = 0 → K (M1 149 1) M1) ∧ ((a2 = 1 → K (M1 149 2) M1) ∧ ((a2 = 2 → zC (zR32 (M1 149 2)) ((¬ (M1 149 2) = 2 → K (-1) M1) ∧ (¬ (¬ (M1 149 2) = 2) → K (M1 149 3) M1))) ∧ True))) ∧ ((a2 < 0 ∨ 2 < a2) → zSp d 132 [.inr (.inr 0)] M1 (fun _ M2 => zC (zR32 a2) ((¬ a2 = 3 → zSp d 6 [.inr (.inr 24), .inr (.inr 46)] M2 (fun z3 M3 => K z3 M3)) ∧ (¬ (¬ a2 = 3) → K (M2 46 1) M2)))))) ∧ (¬ (¬ z1 = 0) → K (-1) M1)))))))) ∧ (¬ (¬ a1 = (-1)) → zC (zR32 a2) ((¬ a2 = 0 → K (-1) M) ∧ (¬ (¬ a2 = 0) → zSp d 62 [.inr (.inr 149)] M (fun z4 M4 => K z4 M4)))))) := (zwp_blk (stops := []) (fuel := 64) pe_114).trans rfl
theorem pe_115 : zPg 115 = pg_115 := rfl
/-! 115 LeastFailing.tries -/
set_option maxHeartbeats 4000000 in
set_option maxRecDepth 100000 in
theorem me_115 {d : Nat} {K : Kt} {M : Mm} {a1 : Int} : zSp (d + 1) 115 [.inr (.inr 0), .inl a1] M K = (zSp d 61 [.inr (.inr 149), .inl a1] M (fun z1 M1 => zC (zR32 z1) ((¬ z1 = 0 → zSp d 133 [.inr (.inr 0)] M1 (fun z2 M2 => K z2 M2)) ∧ (¬ (¬ z1 = 0) → K (-2) M1)))) := (zwp_blk (stops := []) (fuel := 15) pe_115).trans rfl
theorem pe_116 : zPg 116 = pg_116 := rfl
/-! 116 LeastFailing.change -/
set_option maxHeartbeats 4000000 in
set_option maxRecDepth 100000 in
theorem me_116 {d : Nat} {K : Kt} {M : Mm} {a1 : Int} : zSp (d + 1) 116 [.inr (.inr 0), .inl a1] M K = (zSp d 61 [.inr (.inr 149), .inl a1] M (fun z1 M1 => zC (zR32 z1) ((¬ z1 = 0 → zSp d 132 [.inr (.inr 0)] M1 (fun _ M2 => zSp d 131 [.inr (.inr 0)] M2 (fun _ M3 => zSp d 80 [.inr (.inr 38), .inr (.inr 46)] M3 (fun _ M4 => K (M4 38 1) M4)))) ∧ (¬ (¬ z1 = 0) → K (-2) M1)))) := (zwp_blk (stops := []) (fuel := 25) pe_116).trans rfl
theorem pe_117 : zPg 117 = pg_117 := rfl
/-! 117 LeastFailing.more -/
set_option maxHeartbeats 4000000 in
set_option maxRecDepth 100000 in
theorem me_117 {d : Nat} {K : Kt} {M : Mm} : zSp (d + 1) 117 [.inr (.inr 0)] M K = (zC (zR32 (M 38 1)) ((¬ (M 38 1) = 0 → zSp d 42 [.inr (.inr 147), .inr (.inr 38), .inl 0, .inl (-1)] M (fun z1 M1 => zC (zR32 z1) ((¬ z1 = (-1) → zSp d 58 [.inr (.inr 149)] M1 (fun _ M2 => zWp (zSp d) 117 K 44 [some (.inr (.inr 0)), some (.inl z1), some (.inl 0)] [] M2)) ∧ (¬ (¬ z1 = (-1)) → K (-3) M1)))) ∧ (¬ (¬ (M 38 1) = 0) → K (-3) M))) := (zwp_blk (stops := [44]) (fuel := 46) pe_117).trans rfl
set_option maxHeartbeats 4000000 in
set_option maxRecDepth 100000 in
theorem fe_117_44 {d : Nat} {K : Kt} {M : Mm} {x1 x2 : Int} : zWp (zSp d) 117 K 44 [some (.inr (.inr 0)), some (.inl x1), some (.inl x2)] [] M = (zC (zR32 x2) ((100000 ≤ x2 → K (-1) M) ∧ (¬ (100000 ≤ x2) → zSp d 60 [.inr (.inr 149)] M (fun z1 M1 => zC (zR32 z1) ((z1 = 0 → K (-1) M1) ∧ (¬ (z1 = 0) → zSp d 133 [.inr (.inr 0)] M1 (fun z2 M2 => zC (zR32 z2) (zC (zR32 x1) ((¬ z2 = x1 → zWp (zSp d) 117 K 44 [some (.inr (.inr 0)), some (.inl x1), some (.inl (x2 + 1))] [] M2) ∧ (¬ (¬ z2 = x1) → K x2 M2)))))))))) := (zwp_blk (stops := [44]) (fuel := 46) pe_117).trans rfl
theorem pe_118 : zPg 118 = pg_118 := rfl
/-! 118 LeastFailing.apart -/
set_option maxHeartbeats 4000000 in
set_option maxRecDepth 100000 in
theorem me_118 {d : Nat} {K : Kt} {M : Mm} {a1 a2 : Int} : zSp (d + 1) 118 [.inr (.inr 0), .inl a1, .inl a2] M K = (zSp d 128 [.inr (.inr 0), .inl a1] M (fun z1 M1 => zC (zR32 z1) ((z1 = 0 → K (-2) M1) ∧ (¬ (z1 = 0) → zSp d 128 [.inr (.inr 0), .inl a2] M1 (fun z2 M2 => zC (zR32 z2) ((z2 = 0 → K (-2) M2) ∧ (¬ (z2 = 0) → zC (zR32 a1) (zC (zR32 a2) ((¬ a1 = a2 → zC (zR32 (M2 38 1)) ((¬ (M2 38 1) = 0 → zSp d 58 [.inr (.inr 149)] M2 (fun _ M3 => zWp (zSp d) 118 K 46 [some (.inr (.inr 0)), some (.inl a1), some (.inl a2), some (.inl 0), none] [] M3)) ∧ (¬ (¬ (M2 38 1) = 0) → K (-3) M2))) ∧ (¬ (¬ a1 = a2) → K (-2) M2)))))))))) := (zwp_blk (stops := [46]) (fuel := 63) pe_118).trans rfl
set_option maxHeartbeats 4000000 in
set_option maxRecDepth 100000 in
theorem fe_118_46 {d : Nat} {K : Kt} {M : Mm} {x1 x2 x3 : Int} {u4 : Option Vl} : zWp (zSp d) 118 K 46 [some (.inr (.inr 0)), some (.inl x1), some (.inl x2), some (.inl x3), u4] [] M = (zC (zR32 x3) ((100000 ≤ x3 → K (-1) M) ∧ (¬ (100000 ≤ x3) → zSp d 60 [.inr (.inr 149)] M (fun z1 M1 => zC (zR32 z1) ((z1 = 0 → K (-1) M1) ∧ (¬ (z1 = 0) → zSp d 132 [.inr (.inr 0)] M1 (fun _ M2 => zSp d 6 [.inr (.inr 24), .inr (.inr 46)] M2 (fun z3 M3 => zC (zR32 z3) (zC (zSm x1 32) (zC (zR32 (zIandZ (z3 / 2 ^ x1.toNat) 1)) ((¬ (zIandZ (z3 / 2 ^ x1.toNat) 1) = 1 → zWp (zSp d) 118 K 46 [some (.inr (.inr 0)), some (.inl x1), some (.inl x2), some (.inl (x3 + 1)), some (.inl z3)] [] M3) ∧ (¬ (¬ (zIandZ (z3 / 2 ^ x1.toNat) 1) = 1) → zC (zR32 z3) (zC (zSm x2 32) (zC (zR32 (zIandZ (z3 / 2 ^ x2.toNat) 1)) ((¬ (zIandZ (z3 / 2 ^ x2.toNat) 1) = 0 → zWp (zSp d) 118 K 46 [some (.inr (.inr 0)), some (.inl x1), some (.inl x2), some (.inl (x3 + 1)), some (.inl z3)] [] M3) ∧ (¬ (¬ (zIandZ (z3 / 2 ^ x2.toNat) 1) = 0) → K x3 M3)))))))))))))))) := (zwp_blk (stops := [46]) (fuel := 63) pe_118).trans rfl
theorem pe_119 : zPg 119 = pg_119 := rfl
/-! 119 LeastFailing.reduce -/
set_option maxHeartbeats 4000000 in
set_option maxRecDepth 100000 in
theorem me_119 {d : Nat} {K : Kt} {M : Mm} {a1 a2 : Int} : zSp (d + 1) 119 [.inr (.inr 0), .inl a1, .inl a2] M K = (zSp d 128 [.inr (.inr 0), .inl a1] M (fun z1 M1 => zC (zR32 z1) ((z1 = 0 → K (-2) M1) ∧ (¬ (z1 = 0) → zC (zR32 a2) ((a2 < 0 → K (-2) M1) ∧ (¬ (a2 < 0) → zC (zR32 a2) ((a2 ≤ 3 → zC (zR32 (M1 38 1)) (((M1 38 1) = 0 → K (-3) M1) ∧ (¬ ((M1 38 1) = 0) → zSp d 42 [.inr (.inr 147), .inr (.inr 38), .inl 0, .inl (-1)] M1 (fun z2 M2 => zC (zR32 z2) (zC (zR32 a1) ((z2 = a1 → zSp d 131 [.inr (.inr 0)] M2 (fun _ M3 => zSp d 46 [.inr (.inr 150), .inl a1] M3 (fun _ M4 => zWp (zSp d) 119 K 64 [some (.inr (.inr 0)), some (.inl a1), some (.inl a2), some (.inl 0), none] [] M4))) ∧ (¬ (z2 = a1) → K (-3) M2))))))) ∧ (¬ (a2 ≤ 3) → K (-2) M1)))))))) := (zwp_blk (stops := [64, 89, 96, 106, 113, 123, 130]) (fuel := 87) pe_119).trans rfl
set_option maxHeartbeats 4000000 in
set_option maxRecDepth 100000 in
theorem fe_119_64 {d : Nat} {K : Kt} {M : Mm} {x1 x2 x3 : Int} {u4 : Option Vl} : zWp (zSp d) 119 K 64 [some (.inr (.inr 0)), some (.inl x1), some (.inl x2), some (.inl x3), u4] [] M = (zC (zR32 x3) ((100000 ≤ x3 → K (M 150 4) M) ∧ (¬ (100000 ≤ x3) → zC (zR32 x2) ((x2 = 0 → zWp (zSp d) 119 K 89 [some (.inr (.inr 0)), some (.inl x1), some (.inl x2), some (.inl x3), some (.inl (M 150 4))] [] M) ∧ (¬ (x2 = 0) → zC (zR32 x2) ((¬ x2 = 3 → zWp (zSp d) 119 K 96 [some (.inr (.inr 0)), some (.inl x1), some (.inl x2), some (.inl x3), some (.inl (M 150 4))] [] M) ∧ (¬ (¬ x2 = 3) → zWp (zSp d) 119 K 89 [some (.inr (.inr 0)), some (.inl x1), some (.inl x2), some (.inl x3), some (.inl (M 150 4))] [] M))))))) := (zwp_blk (stops := [64, 89, 96, 106, 113, 123, 130]) (fuel := 87) pe_119).trans rfl
set_option maxHeartbeats 4000000 in
set_option maxRecDepth 100000 in
theorem fe_119_89 {d : Nat} {K : Kt} {M : Mm} {x1 x2 x3 x4 : Int} : zWp (zSp d) 119 K 89 [some (.inr (.inr 0)), some (.inl x1), some (.inl x2), some (.inl x3), some (.inl x4)] [] M = (zSp d 47 [.inr (.inr 150)] M (fun _ M1 => zWp (zSp d) 119 K 96 [some (.inr (.inr 0)), some (.inl x1), some (.inl x2), some (.inl x3), some (.inl x4)] [] M1)) := (zwp_blk (stops := [64, 89, 96, 106, 113, 123, 130]) (fuel := 87) pe_119).trans rfl
set_option maxHeartbeats 4000000 in
set_option maxRecDepth 100000 in
theorem fe_119_96 {d : Nat} {K : Kt} {M : Mm} {x1 x2 x3 x4 : Int} : zWp (zSp d) 119 K 96 [some (.inr (.inr 0)), some (.inl x1), some (.inl x2), some (.inl x3), some (.inl x4)] [] M = (zC (zR32 x2) ((x2 = 1 → zWp (zSp d) 119 K 106 [some (.inr (.inr 0)), some (.inl x1), some (.inl x2), some (.inl x3), some (.inl x4)] [] M) ∧ (¬ (x2 = 1) → zC (zR32 x2) ((¬ x2 = 3 → zWp (zSp d) 119 K 113 [some (.inr (.inr 0)), some (.inl x1), some (.inl x2), some (.inl x3), some (.inl x4)] [] M) ∧ (¬ (¬ x2 = 3) → zWp (zSp d) 119 K 106 [some (.inr (.inr 0)), some (.inl x1), some (.inl x2), some (.inl x3), some (.inl x4)] [] M))))) := (zwp_blk (stops := [64, 89, 96, 106, 113, 123, 130]) (fuel := 87) pe_119).trans rfl
set_option maxHeartbeats 4000000 in
set_option maxRecDepth 100000 in
theorem fe_119_106 {d : Nat} {K : Kt} {M : Mm} {x1 x2 x3 x4 : Int} : zWp (zSp d) 119 K 106 [some (.inr (.inr 0)), some (.inl x1), some (.inl x2), some (.inl x3), some (.inl x4)] [] M = (zSp d 48 [.inr (.inr 150)] M (fun _ M1 => zWp (zSp d) 119 K 113 [some (.inr (.inr 0)), some (.inl x1), some (.inl x2), some (.inl x3), some (.inl x4)] [] M1)) := (zwp_blk (stops := [64, 89, 96, 106, 113, 123, 130]) (fuel := 87) pe_119).trans rfl
set_option maxHeartbeats 4000000 in
set_option maxRecDepth 100000 in
theorem fe_119_113 {d : Nat} {K : Kt} {M : Mm} {x1 x2 x3 x4 : Int} : zWp (zSp d) 119 K 113 [some (.inr (.inr 0)), some (.inl x1), some (.inl x2), some (.inl x3), some (.inl x4)] [] M = (zC (zR32 x2) ((x2 = 2 → zWp (zSp d) 119 K 123 [some (.inr (.inr 0)), some (.inl x1), some (.inl x2), some (.inl x3), some (.inl x4)] [] M) ∧ (¬ (x2 = 2) → zC (zR32 x2) ((¬ x2 = 3 → zWp (zSp d) 119 K 130 [some (.inr (.inr 0)), some (.inl x1), some (.inl x2), some (.inl x3), some (.inl x4)] [] M) ∧ (¬ (¬ x2 = 3) → zWp (zSp d) 119 K 123 [some (.inr (.inr 0)), some (.inl x1), some (.inl x2), some (.inl x3), some (.inl x4)] [] M))))) := (zwp_blk (stops := [64, 89, 96, 106, 113, 123, 130]) (fuel := 87) pe_119).trans rfl
set_option maxHeartbeats 4000000 in
set_option maxRecDepth 100000 in
theorem fe_119_123 {d : Nat} {K : Kt} {M : Mm} {x1 x2 x3 x4 : Int} : zWp (zSp d) 119 K 123 [some (.inr (.inr 0)), some (.inl x1), some (.inl x2), some (.inl x3), some (.inl x4)] [] M = (zSp d 49 [.inr (.inr 150)] M (fun _ M1 => zWp (zSp d) 119 K 130 [some (.inr (.inr 0)), some (.inl x1), some (.inl x2), some (.inl x3), some (.inl x4)] [] M1)) := (zwp_blk (stops := [64, 89, 96, 106, 113, 123, 130]) (fuel := 87) pe_119).trans rfl
set_option maxHeartbeats 4000000 in
set_option maxRecDepth 100000 in
theorem fe_119_130 {d : Nat} {K : Kt} {M : Mm} {x1 x2 x3 x4 : Int} : zWp (zSp d) 119 K 130 [some (.inr (.inr 0)), some (.inl x1), some (.inl x2), some (.inl x3), some (.inl x4)] [] M = (zC (zR32 x2) ((¬ x2 = 3 → K (M 150 4) M) ∧ (¬ (¬ x2 = 3) → zC (zR32 (M 150 4)) (zC (zR32 x4) ((¬ (M 150 4) = x4 → zWp (zSp d) 119 K 64 [some (.inr (.inr 0)), some (.inl x1), some (.inl x2), some (.inl (x3 + 1)), some (.inl x4)] [] M) ∧ (¬ (¬ (M 150 4) = x4) → K (M 150 4) M)))))) := (zwp_blk (stops := [64, 89, 96, 106, 113, 123, 130]) (fuel := 87) pe_119).trans rfl
theorem pe_120 : zPg 120 = pg_120 := rfl
/-! 120 LeastFailing.row -/
set_option maxHeartbeats 4000000 in
set_option maxRecDepth 100000 in
theorem me_120 {d : Nat} {K : Kt} {M : Mm} {a1 a2 : Int} : zSp (d + 1) 120 [.inr (.inr 0), .inl a1, .inl a2] M K = (zC (zR32 (M 38 1)) (((M 38 1) = 0 → K (-1) M) ∧ (¬ ((M 38 1) = 0) → zC (zR32 a1) ((1 ≤ a1 → zWp (zSp d) 120 K 22 [some (.inr (.inr 0)), some (.inl a1), some (.inl a2), some (.inl 0), some (.inl 0)] [] M) ∧ (¬ (1 ≤ a1) → K (-1) M))))) := (zwp_blk (stops := [22]) (fuel := 44) pe_120).trans rfl
set_option maxHeartbeats 4000000 in
set_option maxRecDepth 100000 in
theorem fe_120_22 {d : Nat} {K : Kt} {M : Mm} {x1 x2 x3 x4 : Int} : zWp (zSp d) 120 K 22 [some (.inr (.inr 0)), some (.inl x1), some (.inl x2), some (.inl x3), some (.inl x4)] [] M = (zC (zR32 x4) (zC (zR32 (M 38 1)) (((M 38 1) ≤ x4 → zC (zR32 x2) ((¬ x2 = (-1) → K (-1) M) ∧ (¬ (¬ x2 = (-1)) → K x3 M))) ∧ (¬ ((M 38 1) ≤ x4) → zSp d 88 [.inr (.inr 38), .inl x4, .inl x1] M (fun z1 M1 => zC (zR32 z1) ((z1 = 0 → zWp (zSp d) 120 K 22 [some (.inr (.inr 0)), some (.inl x1), some (.inl x2), some (.inl x3), some (.inl (x4 + 1))] [] M1) ∧ (¬ (z1 = 0) → zC (zR32 x3) (zC (zR32 x2) ((¬ x3 = x2 → zWp (zSp d) 120 K 22 [some (.inr (.inr 0)), some (.inl x1), some (.inl x2), some (.inl (x3 + 1)), some (.inl (x4 + 1))] [] M1) ∧ (¬ (¬ x3 = x2) → K x4 M1)))))))))) := (zwp_blk (stops := [22]) (fuel := 44) pe_120).trans rfl
theorem pe_121 : zPg 121 = pg_121 := rfl
/-! 121 LeastFailing.part -/
set_option maxHeartbeats 4000000 in
set_option maxRecDepth 100000 in
theorem me_121 {d : Nat} {K : Kt} {M : Mm} {a1 a2 a3 a4 : Int} : zSp (d + 1) 121 [.inr (.inr 0), .inl a1, .inl a2, .inl a3, .inl a4] M K = (zC (zR32 a1) ((a1 < 1 → K (-1) M) ∧ (¬ (a1 < 1) → zC (zR32 a1) ((80 < a1 → K (-1) M) ∧ (¬ (80 < a1) → zC (zR32 a2) ((a2 < 1 → K (-1) M) ∧ (¬ (a2 < 1) → zC (zR32 a2) (zC (zR32 a1) ((a1 < a2 → K (-1) M) ∧ (¬ (a1 < a2) → zC (zR32 a3) ((a3 < 0 → K (-1) M) ∧ (¬ (a3 < 0) → zC (zR32 a3) (zC (zR32 a2) ((a3 < a2 → zSp d 45 [.inl a1, .inl a2, .inl a3] M (fun z1 M1 => zC (zR32 a4) ((¬ a4 = 0 → zC (zR32 a4) ((¬ a4 = 1 → K (-1) M1) ∧ (¬ (¬ a4 = 1) → zSp d 45 [.inl a1, .inl a2, .inl (a3 + 1)] M1 (fun z2 M2 => K (z2 - z1) M2)))) ∧ (¬ (¬ a4 = 0) → K z1 M1)))) ∧ (¬ (a3 < a2) → K (-1) M))))))))))))))) := (zwp_blk (stops := []) (fuel := 47) pe_121).trans rfl
theorem pe_122 : zPg 122 = pg_122 := rfl
/-! 122 LeastFailing.tried -/
set_option maxHeartbeats 4000000 in
set_option maxRecDepth 100000 in
theorem me_122 {d : Nat} {K : Kt} {M : Mm} {a1 : Int} : zSp (d + 1) 122 [.inr (.inr 0), .inl a1] M K = (zC (zR32 a1) ((a1 = (-1) → zWp (zSp d) 122 K 20 [some (.inr (.inr 0)), some (.inl a1), some (.inl 0), some (.inl 0)] [] M) ∧ (¬ (a1 = (-1)) → zSp d 128 [.inr (.inr 0), .inl a1] M (fun z1 M1 => zC (zR32 z1) ((¬ z1 = 0 → zWp (zSp d) 122 K 20 [some (.inr (.inr 0)), some (.inl a1), some (.inl 0), some (.inl 0)] [] M1) ∧ (¬ (¬ z1 = 0) → K (-2) M1)))))) := (zwp_blk (stops := [20]) (fuel := 35) pe_122).trans rfl
set_option maxHeartbeats 4000000 in
set_option maxRecDepth 100000 in
theorem fe_122_20 {d : Nat} {K : Kt} {M : Mm} {x1 x2 x3 : Int} : zWp (zSp d) 122 K 20 [some (.inr (.inr 0)), some (.inl x1), some (.inl x2), some (.inl x3)] [] M = (zC (zR32 x3) (zC (zR32 (M 138 0)) (((M 138 0) ≤ x3 → K x2 M) ∧ (¬ ((M 138 0) ≤ x3) → zC (zSm x3 600) (zC (zR32 (M 140 x3)) (zC (zR32 x1) ((¬ (M 140 x3) = x1 → zWp (zSp d) 122 K 20 [some (.inr (.inr 0)), some (.inl x1), some (.inl x2), some (.inl (x3 + 1))] [] M) ∧ (¬ (¬ (M 140 x3) = x1) → zWp (zSp d) 122 K 20 [some (.inr (.inr 0)), some (.inl x1), some (.inl (x2 + 1)), some (.inl (x3 + 1))] [] M)))))))) := (zwp_blk (stops := [20]) (fuel := 35) pe_122).trans rfl
theorem pe_123 : zPg 123 = pg_123 := rfl
/-! 123 LeastFailing.trace -/
set_option maxHeartbeats 4000000 in
set_option maxRecDepth 100000 in
theorem me_123 {d : Nat} {K : Kt} {M : Mm} {a1 a2 : Int} : zSp (d + 1) 123 [.inr (.inr 0), .inl a1, .inl a2] M K = (zC (zR32 a1) ((a1 < 0 → K (-2) M) ∧ (¬ (a1 < 0) → zC (zR32 a1) (zC (zR32 (M 138 0)) ((a1 < (M 138 0) → zC (zR32 a2) (((a2 = 0 → zC (zSm a1 600) (K (M 139 a1) M)) ∧ ((a2 = 1 → zC (zSm a1 600) (K (M 140 a1) M)) ∧ ((a2 = 2 → zC (zSm a1 600) (K (M 141 a1) M)) ∧ ((a2 = 3 → zC (zSm a1 600) (K (M 142 a1) M)) ∧ True)))) ∧ ((a2 < 0 ∨ 3 < a2) → K (-2) M))) ∧ (¬ (a1 < (M 138 0)) → K (-2) M)))))) := (zwp_blk (stops := []) (fuel := 42) pe_123).trans rfl
theorem pe_124 : zPg 124 = pg_124 := rfl
/-! 124 LeastFailing.sure -/
set_option maxHeartbeats 4000000 in
set_option maxRecDepth 100000 in
theorem me_124 {d : Nat} {K : Kt} {M : Mm} {a1 a2 : Int} : zSp (d + 1) 124 [.inr (.inr 0), .inl a1, .inl a2] M K = (zSp d 130 [.inl a1] M (fun z1 M1 => zC (zR32 z1) ((z1 = 0 → K (-2) M1) ∧ (¬ (z1 = 0) → zSp d 129 [.inl a2] M1 (fun z2 M2 => zC (zR32 z2) ((z2 = 0 → K (-2) M2) ∧ (¬ (z2 = 0) → zSp d 134 [.inl a1, .inl a2] M2 (fun z3 M3 => K z3 M3)))))))) := (zwp_blk (stops := []) (fuel := 17) pe_124).trans rfl
theorem pe_125 : zPg 125 = pg_125 := rfl
/-! 125 LeastFailing.enough -/
set_option maxHeartbeats 4000000 in
set_option maxRecDepth 100000 in
theorem me_125 {d : Nat} {K : Kt} {M : Mm} {a1 a2 : Int} : zSp (d + 1) 125 [.inr (.inr 0), .inl a1, .inl a2] M K = (zSp d 130 [.inl a1] M (fun z1 M1 => zC (zR32 z1) ((z1 = 0 → K (-2) M1) ∧ (¬ (z1 = 0) → zC (zR32 a2) ((a2 < 0 → K (-2) M1) ∧ (¬ (a2 < 0) → zC (zR32 a2) ((a2 ≤ 1000000 → zWp (zSp d) 125 K 23 [some (.inr (.inr 0)), some (.inl a1), some (.inl a2), some (.inl 1)] [] M1) ∧ (¬ (a2 ≤ 1000000) → K (-2) M1)))))))) := (zwp_blk (stops := [23]) (fuel := 31) pe_125).trans rfl
set_option maxHeartbeats 4000000 in
set_option maxRecDepth 100000 in
theorem fe_125_23 {d : Nat} {K : Kt} {M : Mm} {x1 x2 x3 : Int} : zWp (zSp d) 125 K 23 [some (.inr (.inr 0)), some (.inl x1), some (.inl x2), some (.inl x3)] [] M = (zC (zR32 x3) ((9 < x3 → K (-1) M) ∧ (¬ (9 < x3) → zSp d 134 [.inl x1, .inl x3] M (fun z1 M1 => zC (zR32 z1) (zC (zR32 x2) ((z1 < x2 → zWp (zSp d) 125 K 23 [some (.inr (.inr 0)), some (.inl x1), some (.inl x2), some (.inl (x3 + 2))] [] M1) ∧ (¬ (z1 < x2) → K x3 M1))))))) := (zwp_blk (stops := [23]) (fuel := 31) pe_125).trans rfl
theorem pe_126 : zPg 126 = pg_126 := rfl
/-! 126 LeastFailing.often -/
set_option maxHeartbeats 4000000 in
set_option maxRecDepth 100000 in
theorem me_126 {d : Nat} {K : Kt} {M : Mm} {a1 a2 a3 : Int} : zSp (d + 1) 126 [.inr (.inr 0), .inl a1, .inl a2, .inl a3] M K = (zC (zR32 a1) ((a1 = (-1) → zWp (zSp d) 126 K 13 [some (.inr (.inr 0)), some (.inl a1), some (.inl a2), some (.inl a3), none, none, none, none] [] M) ∧ (¬ (a1 = (-1)) → zSp d 128 [.inr (.inr 0), .inl a1] M (fun z1 M1 => zC (zR32 z1) ((z1 = 0 → K (-2) M1) ∧ (¬ (z1 = 0) → zWp (zSp d) 126 K 13 [some (.inr (.inr 0)), some (.inl a1), some (.inl a2), some (.inl a3), none, none, none, none] [] M1)))))) := (zwp_blk (stops := [13, 81]) (fuel := 64) pe_126).trans rfl
set_option maxHeartbeats 4000000 in
set_option maxRecDepth 100000 in
theorem fe_126_13 {d : Nat} {K : Kt} {M : Mm} {x1 x2 x3 : Int} : zWp (zSp d) 126 K 13 [some (.inr (.inr 0)), some (.inl x1), some (.inl x2), some (.inl x3), none, none, none, none] [] M = (zC (zR32 x2) ((x2 < 0 → K (-2) M) ∧ (¬ (x2 < 0) → zC (zR32 x3) ((x3 < 1 → K (-2) M) ∧ (¬ (x3 < 1) → zC (zR32 x3) ((x3 ≤ 1000 → zC (zR32 (M 38 1)) ((¬ (M 38 1) = 0 → zSp d 6 [.inr (.inr 24), .inr (.inr 38)] M (fun z1 M1 => zWp (zSp d) 126 K 81 [some (.inr (.inr 0)), some (.inl x1), some (.inl x2), some (.inl x3), some (.inl z1), some (.inl (M1 147 4)), some (.inl 0), some (.inl 0)] [] (zUp M1 147 4 x2))) ∧ (¬ (¬ (M 38 1) = 0) → K (-3) M))) ∧ (¬ (x3 ≤ 1000) → K (-2) M))))))) := (zwp_blk (stops := [13, 81]) (fuel := 64) pe_126).trans rfl
set_option maxHeartbeats 4000000 in
set_option maxRecDepth 100000 in
theorem fe_126_81 {d : Nat} {K : Kt} {M : Mm} {x1 x2 x3 x4 x5 x6 x7 : Int} : zWp (zSp d) 126 K 81 [some (.inr (.inr 0)), some (.inl x1), some (.inl x2), some (.inl x3), some (.inl x4), some (.inl x5), some (.inl x6), some (.inl x7)] [] M = (zC (zR32 x7) (zC (zR32 x3) ((x3 ≤ x7 → K x6 (zUp M 147 4 x5)) ∧ (¬ (x3 ≤ x7) → zSp d 44 [.inr (.inr 147), .inl x4] M (fun z1 M1 => zC (zR32 z1) (zC (zR32 x1) ((¬ z1 = x1 → zWp (zSp d) 126 K 81 [some (.inr (.inr 0)), some (.inl x1), some (.inl x2), some (.inl x3), some (.inl x4), some (.inl x5), some (.inl x6), some (.inl (x7 + 1))] [] M1) ∧ (¬ (¬ z1 = x1) → zWp (zSp d) 126 K 81 [some (.inr (.inr 0)), some (.inl x1), some (.inl x2), some (.inl x3), some (.inl x4), some (.inl x5), some (.inl (x6 + 1)), some (.inl (x7 + 1))] [] M1)))))))) := (zwp_blk (stops := [13, 81]) (fuel := 64) pe_126).trans rfl
theorem pe_127 : zPg 127 = pg_127 := rfl
/-! 127 LeastFailing.undo -/
set_option maxHeartbeats 4000000 in
set_option maxRecDepth 100000 in
theorem me_127 {d : Nat} {K : Kt} {M : Mm} : zSp (d + 1) 127 [.inr (.inr 0)] M K = (zC (zR32 (M 0 8)) ((1 ≤ (M 0 8) → zC (zSm ((M 0 8) - 1) 10) (zSp d 80 [.inr (.inr 38), .inr (.inr (M 1 ((M 0 8) - 1)).toNat)] (zUp M 0 8 ((M 0 8) - 1)) (fun _ M1 => zSp d 92 [.inr (.inr 138)] M1 (fun _ M2 => K (M2 0 8) M2)))) ∧ (¬ (1 ≤ (M 0 8)) → K (-3) M))) := (zwp_blk (stops := []) (fuel := 31) pe_127).trans rfl
theorem pe_128 : zPg 128 = pg_128 := rfl
/-! 128 LeastFailing.isBug -/
set_option maxHeartbeats 4000000 in
set_option maxRecDepth 100000 in
theorem me_128 {d : Nat} {K : Kt} {M : Mm} {a1 : Int} : zSp (d + 1) 128 [.inr (.inr 0), .inl a1] M K = (zC (zR32 a1) ((a1 < 0 → K 0 M) ∧ (¬ (a1 < 0) → zC (zR32 a1) (zC (zR32 (M 24 0)) (((M 24 0) ≤ a1 → K 0 M) ∧ (¬ ((M 24 0) ≤ a1) → K 1 M)))))) := (zwp_blk (stops := []) (fuel := 16) pe_128).trans rfl
theorem pe_129 : zPg 129 = pg_129 := rfl
/-! 129 LeastFailing.canVote -/
set_option maxHeartbeats 4000000 in
set_option maxRecDepth 100000 in
theorem me_129 {d : Nat} {K : Kt} {M : Mm} {a1 : Int} : zSp (d + 1) 129 [.inl a1] M K = (zC (zR32 a1) ((a1 < 1 → K 0 M) ∧ (¬ (a1 < 1) → zC (zR32 a1) ((9 < a1 → K 0 M) ∧ (¬ (9 < a1) → zC (zR32 a1) (zC (zDv a1 2) (zC (zR32 (a1 % 2)) ((¬ (a1 % 2) = 1 → K 0 M) ∧ (¬ (¬ (a1 % 2) = 1) → K 1 M))))))))) := (zwp_blk (stops := []) (fuel := 20) pe_129).trans rfl
theorem pe_130 : zPg 130 = pg_130 := rfl
/-! 130 LeastFailing.areOdds -/
set_option maxHeartbeats 4000000 in
set_option maxRecDepth 100000 in
theorem me_130 {d : Nat} {K : Kt} {M : Mm} {a1 : Int} : zSp (d + 1) 130 [.inl a1] M K = (zC (zR32 a1) ((a1 < 0 → K 0 M) ∧ (¬ (a1 < 0) → zC (zR32 a1) ((100 < a1 → K 0 M) ∧ (¬ (100 < a1) → K 1 M))))) := (zwp_blk (stops := []) (fuel := 14) pe_130).trans rfl
theorem pe_131 : zPg 131 = pg_131 := rfl
/-! 131 LeastFailing.remember -/
set_option maxHeartbeats 4000000 in
set_option maxRecDepth 100000 in
theorem me_131 {d : Nat} {K : Kt} {M : Mm} : zSp (d + 1) 131 [.inr (.inr 0)] M K = (zC (zR32 (M 0 8)) ((¬ (M 0 8) = 10 → zWp (zSp d) 131 K 62 [some (.inr (.inr 0)), none, none] [] M) ∧ (¬ (¬ (M 0 8) = 10) → zWp (zSp d) 131 K 18 [some (.inr (.inr 0)), some (.inr (.inr (M 1 0).toNat)), some (.inl 1)] [] M))) := (zwp_blk (stops := [18, 62]) (fuel := 57) pe_131).trans rfl
set_option maxHeartbeats 4000000 in
set_option maxRecDepth 100000 in
theorem fe_131_18 {d : Nat} {K : Kt} {M : Mm} {x2 : Int} {r1 : Nat} : zWp (zSp d) 131 K 18 [some (.inr (.inr 0)), some (.inr (.inr r1)), some (.inl x2)] [] M = (zC (zR32 x2) ((10 ≤ x2 → zC (zObj r1 9) (zWp (zSp d) 131 K 62 [some (.inr (.inr 0)), some (.inr (.inr r1)), some (.inl x2)] [] (zUp (zUp M 1 9 r1) 0 8 ((M 0 8) - 1)))) ∧ (¬ (10 ≤ x2) → zC (zSm x2 10) (zC (zSm (x2 - 1) 10) (zC (zObj ((M 1 x2).toNat) 9) (zWp (zSp d) 131 K 18 [some (.inr (.inr 0)), some (.inr (.inr r1)), some (.inl (x2 + 1))] [] (zUp M 1 (x2 - 1) ((M 1 x2).toNat)))))))) := (zwp_blk (stops := [18, 62]) (fuel := 57) pe_131).trans rfl
set_option maxHeartbeats 4000000 in
set_option maxRecDepth 100000 in
theorem fe_131_62 {d : Nat} {K : Kt} {M : Mm} {u1 u2 : Option Vl} : zWp (zSp d) 131 K 62 [some (.inr (.inr 0)), u1, u2] [] M = (zC (zSm (M 0 8) 10) (zC (zObj ((M 1 (M 0 8)).toNat) 9) (zSp d 80 [.inr (.inr (M 1 (M 0 8)).toNat), .inr (.inr 38)] M (fun _ M1 => K 0 (zUp M1 0 8 ((M1 0 8) + 1)))))) := (zwp_blk (stops := [18, 62]) (fuel := 57) pe_131).trans rfl
theorem pe_132 : zPg 132 = pg_132 := rfl
/-! 132 LeastFailing.makeSingle -/
set_option maxHeartbeats 4000000 in
set_option maxRecDepth 100000 in
theorem me_132 {d : Nat} {K : Kt} {M : Mm} : zSp (d + 1) 132 [.inr (.inr 0)] M K = (zSp d 90 [.inr (.inr 46), .inr (.inr 38), .inl (M 149 2), .inl (M 149 1), .inl (M 149 3)] M (fun _ M1 => K 0 M1)) := (zwp_blk (stops := []) (fuel := 20) pe_132).trans rfl
theorem pe_133 : zPg 133 = pg_133 := rfl
/-! 133 LeastFailing.askSingle -/
set_option maxHeartbeats 4000000 in
set_option maxRecDepth 100000 in
theorem me_133 {d : Nat} {K : Kt} {M : Mm} : zSp (d + 1) 133 [.inr (.inr 0)] M K = (zSp d 132 [.inr (.inr 0)] M (fun _ M1 => zSp d 42 [.inr (.inr 147), .inr (.inr 46), .inl 6, .inl (M1 149 1)] M1 (fun z2 M2 => K z2 M2))) := (zwp_blk (stops := []) (fuel := 17) pe_133).trans rfl
theorem pe_134 : zPg 134 = pg_134 := rfl
/-! 134 LeastFailing.millionths -/
set_option maxHeartbeats 4000000 in
set_option maxRecDepth 100000 in
theorem me_134 {d : Nat} {K : Kt} {M : Mm} {a1 a2 : Int} : zSp (d + 1) 134 [.inl a1, .inl a2] M K = (zC (zR32 a2) (zC (zDv a2 2) (zWp (zSp d) 134 K 9 [some (.inl a1), some (.inl a2), some (.inr (.inl 0)), none, some (.inl ((a2 / 2) + 1))] [] M))) := (zwp_blk (stops := [9]) (fuel := 52) pe_134).trans rfl
set_option maxHeartbeats 4000000 in
set_option maxRecDepth 100000 in
theorem fe_134_9 {d : Nat} {K : Kt} {M : Mm} {x0 x1 x2 x4 : Int} : zWp (zSp d) 134 K 9 [some (.inl x0), some (.inl x1), some (.inr (.inl x2)), none, some (.inl x4)] [] M = (zC (zR32 x4) (zC (zR32 x1) ((x1 < x4 → zC (zR32 x1) ((3 ≤ x1 → zSp d 136 [.inl 100, .inl (x1 - 3)] M (fun z1 M1 => zC (zR64 x2) (zC (zR64 z1) (zC (zDv x2 z1) (K (x2 / z1) M1))))) ∧ (¬ (3 ≤ x1) → K (x2 * 10000) M))) ∧ (¬ (x1 < x4) → zSp d 135 [.inl x1, .inl x4] M (fun z2 M2 => zSp d 136 [.inl x0, .inl x4] M2 (fun z3 M3 => zSp d 136 [.inl (100 - x0), .inl (x1 - x4)] M3 (fun z4 M4 => zWp (zSp d) 134 K 9 [some (.inl x0), some (.inl x1), some (.inr (.inl (x2 + ((z2 * z3) * z4)))), none, some (.inl (x4 + 1))] [] M4))))))) := (zwp_blk (stops := [9]) (fuel := 52) pe_134).trans rfl
