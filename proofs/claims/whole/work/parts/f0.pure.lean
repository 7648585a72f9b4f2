/-! Segments for every target at once. -/
abbrev isG (C : Nat) : Prop := C = 47 ∨ C = 51 ∨ C = 55 ∨ C = 59
theorem sgc_21 {L d : Nat} {xs : Nat → Int32} (I : Nat → Nat → Int32) (J : Nat → Nat → Int64) (tg : Option Nat) {C : Nat} (hC : isG C) {r : Option Value × SS} (h : (r = (none, (zS (up2 (up2 (up2 I C 4 0) C 5 0) C 6 (-1)) J tg)))) : Runs (GW L xs) d 21 (0, [.ref C], [], (zS I J tg)) r := by
  rcases hC with rfl | rfl | rfl | rfl
  · exact sg_21g47 I J tg h
  · exact sg_21g51 I J tg h
  · exact sg_21g55 I J tg h
  · exact sg_21g59 I J tg h
theorem sgc_22 {L d : Nat} {xs : Nat → Int32} (I : Nat → Nat → Int32) (J : Nat → Nat → Int64) (tg : Option Nat) {C : Nat} (hC : isG C) {r : Option Value × SS} (h : ((if (I C 4) < 10 then (r = (some (.int 0), (zS I J tg))) else (r = (some (.int 1), (zS I J tg)))))) : Runs (GW L xs) d 22 (0, [.ref C], [], (zS I J tg)) r := by
  rcases hC with rfl | rfl | rfl | rfl
  · exact sg_22g47 I J tg h
  · exact sg_22g51 I J tg h
  · exact sg_22g55 I J tg h
  · exact sg_22g59 I J tg h
theorem sgc_23 {L d : Nat} {xs : Nat → Int32} (I : Nat → Nat → Int32) (J : Nat → Nat → Int64) (tg : Option Nat) (a1 : Int32) {C : Nat} (hC : isG C) {r : Option Value × SS} (h : ((if 10 ≤ (I C 4) then (r = (none, (zS I J tg))) else (¬ ((I C 4) < 0 ∨ 10 ≤ (I C 4).toNatClampNeg) ∧ (if a1 = 6 then (r = (none, (zS (up2 (up2 I (C + 2) ((I C 4).toNatClampNeg) a1) C 6 (I C 4)) J tg))) else (r = (none, (zS (up2 (up2 I (C + 2) ((I C 4).toNatClampNeg) a1) C 6 (I C 6)) J tg)))))))) : Runs (GW L xs) d 23 (0, [.ref C, .int a1], [], (zS I J tg)) r := by
  rcases hC with rfl | rfl | rfl | rfl
  · exact sg_23g47 I J tg a1 h
  · exact sg_23g51 I J tg a1 h
  · exact sg_23g55 I J tg a1 h
  · exact sg_23g59 I J tg a1 h
theorem sgc_24 {L d : Nat} {xs : Nat → Int32} (I : Nat → Nat → Int32) (J : Nat → Nat → Int64) (tg : Option Nat) {C : Nat} (hC : isG C) {r : Option Value × SS} (h : ((if 10 ≤ (I C 4) then (r = (none, (zS I J tg))) else (¬ (((I C 4) + 1) < 0 ∨ 11 ≤ ((I C 4) + 1).toNatClampNeg) ∧ r = (none, (zS (up2 (up2 I C 4 ((I C 4) + 1)) (C + 3) (((I C 4) + 1).toNatClampNeg) (I C 5)) J tg)))))) : Runs (GW L xs) d 24 (0, [.ref C], [], (zS I J tg)) r := by
  rcases hC with rfl | rfl | rfl | rfl
  · exact sg_24g47 I J tg h
  · exact sg_24g51 I J tg h
  · exact sg_24g55 I J tg h
  · exact sg_24g59 I J tg h
theorem sgc_25 {L d : Nat} {xs : Nat → Int32} (I : Nat → Nat → Int32) (J : Nat → Nat → Int64) (tg : Option Nat) (a1 : Int32) {C : Nat} (hC : isG C) {r : Option Value × SS} (h : ((if 300 ≤ (I C 5) then (r = (none, (zS I J tg))) else (¬ ((I C 5) < 0 ∨ 300 ≤ (I C 5).toNatClampNeg) ∧ r = (none, (zS (up2 (up2 I (C + 1) ((I C 5).toNatClampNeg) a1) C 5 ((I C 5) + 1)) J tg)))))) : Runs (GW L xs) d 25 (0, [.ref C, .int a1], [], (zS I J tg)) r := by
  rcases hC with rfl | rfl | rfl | rfl
  · exact sg_25g47 I J tg a1 h
  · exact sg_25g51 I J tg a1 h
  · exact sg_25g55 I J tg a1 h
  · exact sg_25g59 I J tg a1 h
theorem sgc_28 {L d : Nat} {xs : Nat → Int32} (I : Nat → Nat → Int32) (J : Nat → Nat → Int64) (tg : Option Nat) {C : Nat} (hC : isG C) {r : Option Value × SS} (h : ((if (I C 6) = (-1) then (r = (some (.int 0), (zS I J tg))) else (r = (some (.int 1), (zS I J tg)))))) : Runs (GW L xs) d 28 (0, [.ref C], [], (zS I J tg)) r := by
  rcases hC with rfl | rfl | rfl | rfl
  · exact sg_28g47 I J tg h
  · exact sg_28g51 I J tg h
  · exact sg_28g55 I J tg h
  · exact sg_28g59 I J tg h
theorem sgc_70 {L d : Nat} {xs : Nat → Int32} (I : Nat → Nat → Int32) (J : Nat → Nat → Int64) (tg : Option Nat) {C : Nat} (hC : isG C) {r : Option Value × SS} (h : (∃ (I2 : Nat → Nat → Int32), Runs (GW L xs) d 21 (0, [.ref C], [], (zS I J (some C))) (none, (zS I2 J (some C))) ∧ r = (none, (zS (up2 (up2 (up2 (up2 (up2 (up2 (up2 (up2 (up2 I2 67 3 1) 67 4 0) 67 5 (-1)) 67 7 0) 67 9 0) 67 10 0) 67 11 0) 67 15 0) 67 12 1) J (some C))))) : Runs (GW L xs) (d + 1) 70 (0, [.ref 67, .ref C], [], (zS I J tg)) r := by
  rcases hC with rfl | rfl | rfl | rfl
  · exact sg_70t47 I J tg h
  · exact sg_70t51 I J tg h
  · exact sg_70t55 I J tg h
  · exact sg_70t59 I J tg h
theorem sgc_71 {L d : Nat} {xs : Nat → Int32} (I : Nat → Nat → Int32) (J : Nat → Nat → Int64) (tg : Option Nat) {C : Nat} (hC : isG C) {r : Option Value × SS} (h : (∃ (I14 : Nat → Nat → Int32), Runs (GW L xs) d 70 (0, [.ref 67, .ref C], [], (zS I J tg)) (none, (zS I14 J (some C))) ∧ Runs (GW L xs) (d + 1) 71 (7, [.ref 67, .ref C, .int 0], [], (zS I14 J (some C))) r)) : Runs (GW L xs) (d + 1) 71 (0, [.ref 67, .ref C, vU], [], (zS I J tg)) r := by
  rcases hC with rfl | rfl | rfl | rfl
  · exact sg_71t47 I J tg h
  · exact sg_71t51 I J tg h
  · exact sg_71t55 I J tg h
  · exact sg_71t59 I J tg h
theorem sgc_71_7 {L d : Nat} {xs : Nat → Int32} (I : Nat → Nat → Int32) (J : Nat → Nat → Int64) (tg : Option Nat) (x2 : Int32) {C : Nat} (hC : isG C) {r : Option Value × SS} (h : ((if 300 < x2 then ((if (I 67 4) = 0 then ((if (I 67 4) = 0 then (r = (some (.int 1), (zS (up2 I 67 2 0) J (some C)))) else (r = (some (.int 0), (zS (up2 I 67 2 0) J (some C)))))) else ((if (I 67 4) = 0 then (r = (some (.int 1), (zS (up2 (up2 I 67 5 (I 67 14)) 67 2 0) J (some C)))) else (r = (some (.int 0), (zS (up2 (up2 I 67 5 (I 67 14)) 67 2 0) J (some C)))))))) else ((if (I 67 12) = 0 then ((if (I 67 4) = 0 then ((if (I 67 4) = 0 then (r = (some (.int 1), (zS (up2 I 67 2 0) J (some C)))) else (r = (some (.int 0), (zS (up2 I 67 2 0) J (some C)))))) else ((if (I 67 4) = 0 then (r = (some (.int 1), (zS (up2 (up2 I 67 5 (I 67 14)) 67 2 0) J (some C)))) else (r = (some (.int 0), (zS (up2 (up2 I 67 5 (I 67 14)) 67 2 0) J (some C)))))))) else ((if (I 67 4) = 0 then (∃ (I1 : Nat → Nat → Int32), Runs (GW L xs) d 72 (0, [.ref 67, vU], [], (zS I J (some C))) (none, (zS I1 J (some C))) ∧ (if Int32.toInt (I1 67 7) < 0 ∨ 3 < Int32.toInt (I1 67 7) then (∃ (v10 : Int32) (I11 : Nat → Nat → Int32), Runs (GW L xs) d 85 (0, [.ref 67], [], (zS I1 J (some C))) ((some (.int v10)), (zS I11 J (some C))) ∧ Runs (GW L xs) (d + 1) 71 (7, [.ref 67, .ref C, .int (x2 + 1)], [], (zS (up2 I11 67 4 v10) J (some C))) r) else (if (I1 67 7) = 0 then (∃ (v2 : Int32) (I3 : Nat → Nat → Int32), Runs (GW L xs) d 80 (0, [.ref 67], [], (zS I1 J (some C))) ((some (.int v2)), (zS I3 J (some C))) ∧ Runs (GW L xs) (d + 1) 71 (7, [.ref 67, .ref C, .int (x2 + 1)], [], (zS (up2 I3 67 4 v2) J (some C))) r) else (if (I1 67 7) = 1 then (∃ (v4 : Int32) (I5 : Nat → Nat → Int32), Runs (GW L xs) d 81 (0, [.ref 67], [], (zS I1 J (some C))) ((some (.int v4)), (zS I5 J (some C))) ∧ Runs (GW L xs) (d + 1) 71 (7, [.ref 67, .ref C, .int (x2 + 1)], [], (zS (up2 I5 67 4 v4) J (some C))) r) else (if (I1 67 7) = 2 then (∃ (v6 : Int32) (I7 : Nat → Nat → Int32), Runs (GW L xs) d 82 (0, [.ref 67], [], (zS I1 J (some C))) ((some (.int v6)), (zS I7 J (some C))) ∧ Runs (GW L xs) (d + 1) 71 (7, [.ref 67, .ref C, .int (x2 + 1)], [], (zS (up2 I7 67 4 v6) J (some C))) r) else (if (I1 67 7) = 3 then (∃ (v8 : Int32) (I9 : Nat → Nat → Int32), Runs (GW L xs) d 84 (0, [.ref 67], [], (zS I1 J (some C))) ((some (.int v8)), (zS I9 J (some C))) ∧ Runs (GW L xs) (d + 1) 71 (7, [.ref 67, .ref C, .int (x2 + 1)], [], (zS (up2 I9 67 4 v8) J (some C))) r) else False)))))) else ((if (I 67 4) = 0 then ((if (I 67 4) = 0 then (r = (some (.int 1), (zS (up2 I 67 2 0) J (some C)))) else (r = (some (.int 0), (zS (up2 I 67 2 0) J (some C)))))) else ((if (I 67 4) = 0 then (r = (some (.int 1), (zS (up2 (up2 I 67 5 (I 67 14)) 67 2 0) J (some C)))) else (r = (some (.int 0), (zS (up2 (up2 I 67 5 (I 67 14)) 67 2 0) J (some C))))))))))))))) : Runs (GW L xs) (d + 1) 71 (7, [.ref 67, .ref C, .int x2], [], (zS I J (some C))) r := by
  rcases hC with rfl | rfl | rfl | rfl
  · exact sg_71t47_7 I J tg x2 h
  · exact sg_71t51_7 I J tg x2 h
  · exact sg_71t55_7 I J tg x2 h
  · exact sg_71t59_7 I J tg x2 h
theorem sgc_80 {L d : Nat} {xs : Nat → Int32} (I : Nat → Nat → Int32) (J : Nat → Nat → Int64) (tg : Option Nat) {C : Nat} (hC : isG C) {r : Option Value × SS} (h : ((if (I 67 12) = 0 then (r = (some (.int 0), (zS I J (some C)))) else ((if (I 67 12) = 4 then (Runs (GW L xs) (d + 1) 80 (36, [.ref 67], [], (zS I J (some C))) r) else ((if (I 67 12) = 5 then (Runs (GW L xs) (d + 1) 80 (36, [.ref 67], [], (zS I J (some C))) r) else ((if (I 67 12) = 6 then (Runs (GW L xs) (d + 1) 80 (36, [.ref 67], [], (zS I J (some C))) r) else (r = (some (.int 1), (zS I J (some C))))))))))))) : Runs (GW L xs) (d + 1) 80 (0, [.ref 67], [], (zS I J (some C))) r := by
  rcases hC with rfl | rfl | rfl | rfl
  · exact sg_80t47 I J tg h
  · exact sg_80t51 I J tg h
  · exact sg_80t55 I J tg h
  · exact sg_80t59 I J tg h
theorem sgc_80_36 {L d : Nat} {xs : Nat → Int32} (I : Nat → Nat → Int32) (J : Nat → Nat → Int64) (tg : Option Nat) {C : Nat} (hC : isG C) {r : Option Value × SS} (h : ((if (I 67 12) = 6 then (∃ (v1 : Int32) (I2 : Nat → Nat → Int32), Runs (GW L xs) d 28 (0, [.ref C], [], (zS I J (some C))) ((some (.int v1)), (zS I2 J (some C))) ∧ (if v1 = 0 then (Runs (GW L xs) (d + 1) 80 (57, [.ref 67], [], (zS I2 J (some C))) r) else (r = (some (.int 4), (zS I2 J (some C)))))) else (Runs (GW L xs) (d + 1) 80 (57, [.ref 67], [], (zS I J (some C))) r)))) : Runs (GW L xs) (d + 1) 80 (36, [.ref 67], [], (zS I J (some C))) r := by
  rcases hC with rfl | rfl | rfl | rfl
  · exact sg_80t47_36 I J tg h
  · exact sg_80t51_36 I J tg h
  · exact sg_80t55_36 I J tg h
  · exact sg_80t59_36 I J tg h
theorem sgc_80_57 {L d : Nat} {xs : Nat → Int32} (I : Nat → Nat → Int32) (J : Nat → Nat → Int64) (tg : Option Nat) {C : Nat} (hC : isG C) {r : Option Value × SS} (h : (∃ (v1 : Int32) (I2 : Nat → Nat → Int32), Runs (GW L xs) d 22 (0, [.ref C], [], (zS I J (some C))) ((some (.int v1)), (zS I2 J (some C))) ∧ (if v1 = 0 then (∃ (I3 : Nat → Nat → Int32), Runs (GW L xs) d 23 (0, [.ref C, .int (I2 67 12)], [], (zS I2 J (some C))) (none, (zS I3 J (some C))) ∧ (if (I3 67 12) = 6 then (r = (some (.int 0), (zS (up2 (up2 (up2 I3 67 7 1) 67 8 2) 67 7 2) J (some C)))) else (r = (some (.int 0), (zS (up2 I3 67 7 1) J (some C)))))) else (r = (some (.int 6), (zS I2 J (some C))))))) : Runs (GW L xs) (d + 1) 80 (57, [.ref 67], [], (zS I J (some C))) r := by
  rcases hC with rfl | rfl | rfl | rfl
  · exact sg_80t47_57 I J tg h
  · exact sg_80t51_57 I J tg h
  · exact sg_80t55_57 I J tg h
  · exact sg_80t59_57 I J tg h
theorem sgc_82 {L d : Nat} {xs : Nat → Int32} (I : Nat → Nat → Int32) (J : Nat → Nat → Int64) (tg : Option Nat) {C : Nat} (hC : isG C) {r : Option Value × SS} (h : ((if (I 67 12) = 2 then ((if (I 67 13) ≤ 9999 then (∃ (I12 : Nat → Nat → Int32), Runs (GW L xs) d 25 (0, [.ref C, .int (I 67 13)], [], (zS I J (some C))) (none, (zS I12 J (some C))) ∧ Runs (GW L xs) (d + 1) 82 (84, [.ref 67], [], (zS I12 J (some C))) r) else (r = (some (.int 2), (zS I J (some C)))))) else ((if (I 67 12) = 3 then ((if (I 67 13) < 8 then (∃ (I13 : Nat → Nat → Int32), Runs (GW L xs) d 25 (0, [.ref C, .int (10000 + (I 67 13))], [], (zS I J (some C))) (none, (zS I13 J (some C))) ∧ Runs (GW L xs) (d + 1) 82 (84, [.ref 67], [], (zS I13 J (some C))) r) else ((if (I 67 8) = 2 then (∃ (I14 : Nat → Nat → Int32), Runs (GW L xs) d 25 (0, [.ref C, .int (10000 + (I 67 13))], [], (zS I J (some C))) (none, (zS I14 J (some C))) ∧ Runs (GW L xs) (d + 1) 82 (84, [.ref 67], [], (zS I14 J (some C))) r) else (r = (some (.int 5), (zS I J (some C)))))))) else (∃ (v15 : Int32) (I16 : Nat → Nat → Int32), Runs (GW L xs) d 83 (0, [.ref 67], [], (zS I J (some C))) ((some (.int v15)), (zS I16 J (some C))) ∧ r = (some (.int v15), (zS I16 J (some C))))))))) : Runs (GW L xs) (d + 1) 82 (0, [.ref 67], [], (zS I J (some C))) r := by
  rcases hC with rfl | rfl | rfl | rfl
  · exact sg_82t47 I J tg h
  · exact sg_82t51 I J tg h
  · exact sg_82t55 I J tg h
  · exact sg_82t59 I J tg h
theorem sgc_82_84 {L d : Nat} {xs : Nat → Int32} (I : Nat → Nat → Int32) (J : Nat → Nat → Int64) (tg : Option Nat) {C : Nat} (hC : isG C) {r : Option Value × SS} (h : ((if (I 67 11) ≤ 0 then (r = (some (.int 0), (zS (up2 I 67 7 3) J (some C)))) else (∃ (I1 : Nat → Nat → Int32), Runs (GW L xs) d 25 (0, [.ref C, .int 20021], [], (zS I J (some C))) (none, (zS I1 J (some C))) ∧ Runs (GW L xs) (d + 1) 82 (84, [.ref 67], [], (zS (up2 I1 67 11 ((I1 67 11) - 1)) J (some C))) r)))) : Runs (GW L xs) (d + 1) 82 (84, [.ref 67], [], (zS I J (some C))) r := by
  rcases hC with rfl | rfl | rfl | rfl
  · exact sg_82t47_84 I J tg h
  · exact sg_82t51_84 I J tg h
  · exact sg_82t55_84 I J tg h
  · exact sg_82t59_84 I J tg h
theorem sgc_85 {L d : Nat} {xs : Nat → Int32} (I : Nat → Nat → Int32) (J : Nat → Nat → Int64) (tg : Option Nat) {C : Nat} (hC : isG C) {r : Option Value × SS} (h : ((if (I 67 12) = 7 then (∃ (I8 : Nat → Nat → Int32), Runs (GW L xs) d 86 (0, [.ref 67], [], (zS I J (some C))) (none, (zS I8 J (some C))) ∧ r = (some (.int 0), (zS (up2 I8 67 7 1) J (some C)))) else ((if (I 67 12) = 8 then (∃ (I9 : Nat → Nat → Int32), Runs (GW L xs) d 86 (0, [.ref 67], [], (zS I J (some C))) (none, (zS I9 J (some C))) ∧ r = (some (.int 0), (zS (up2 I9 67 7 1) J (some C)))) else ((if (I 67 12) = 19 then ((if (I 67 10) ≤ 0 then ((if (I 67 12) = 20 then ((if (I 67 10) = 0 then (∃ (I10 : Nat → Nat → Int32), Runs (GW L xs) d 88 (0, [.ref 67, .int 1], [], (zS I J (some C))) (none, (zS I10 J (some C))) ∧ ∃ (I11 : Nat → Nat → Int32), Runs (GW L xs) d 24 (0, [.ref C], [], (zS I10 J (some C))) (none, (zS I11 J (some C))) ∧ r = (some (.int 0), (zS (up2 I11 67 7 0) J (some C)))) else (r = (some (.int 1), (zS I J (some C)))))) else (r = (some (.int 1), (zS I J (some C)))))) else (∃ (I12 : Nat → Nat → Int32), Runs (GW L xs) d 88 (0, [.ref 67, .int 1], [], (zS I J (some C))) (none, (zS I12 J (some C))) ∧ r = (some (.int 0), (zS (up2 (up2 (up2 I12 67 9 ((I12 67 9) - 1)) 67 10 ((I12 67 10) - 1)) 67 7 4) J (some C)))))) else ((if (I 67 12) = 20 then ((if (I 67 10) = 0 then (∃ (I13 : Nat → Nat → Int32), Runs (GW L xs) d 88 (0, [.ref 67, .int 1], [], (zS I J (some C))) (none, (zS I13 J (some C))) ∧ ∃ (I14 : Nat → Nat → Int32), Runs (GW L xs) d 24 (0, [.ref C], [], (zS I13 J (some C))) (none, (zS I14 J (some C))) ∧ r = (some (.int 0), (zS (up2 I14 67 7 0) J (some C)))) else (r = (some (.int 1), (zS I J (some C)))))) else (r = (some (.int 1), (zS I J (some C))))))))))))) : Runs (GW L xs) (d + 1) 85 (0, [.ref 67], [], (zS I J (some C))) r := by
  rcases hC with rfl | rfl | rfl | rfl
  · exact sg_85t47 I J tg h
  · exact sg_85t51 I J tg h
  · exact sg_85t55 I J tg h
  · exact sg_85t59 I J tg h
theorem sgc_88 {L d : Nat} {xs : Nat → Int32} (I : Nat → Nat → Int32) (J : Nat → Nat → Int64) (tg : Option Nat) (a1 : Int32) {C : Nat} (hC : isG C) {r : Option Value × SS} (h : ((if (I 67 9) ≤ 0 then (r = (none, (zS I J (some C)))) else (¬ (((I 67 9) - 1) < 0 ∨ 300 ≤ ((I 67 9) - 1).toNatClampNeg) ∧ ∃ (v10 : Int32) (I11 : Nat → Nat → Int32), Runs (GW L xs) d 89 (0, [.int (I 69 (((I 67 9) - 1).toNatClampNeg))], [], (zS I J (some C))) ((some (.int v10)), (zS I11 J (some C))) ∧ (if v10 < a1 then (r = (none, (zS I11 J (some C)))) else (¬ (((I11 67 9) - 1) < 0 ∨ 300 ≤ ((I11 67 9) - 1).toNatClampNeg) ∧ ∃ (I12 : Nat → Nat → Int32), Runs (GW L xs) d 25 (0, [.ref C, .int (20000 + (I11 69 (((I11 67 9) - 1).toNatClampNeg)))], [], (zS I11 J (some C))) (none, (zS I12 J (some C))) ∧ Runs (GW L xs) (d + 1) 88 (0, [.ref 67, .int a1], [], (zS (up2 I12 67 9 ((I12 67 9) - 1)) J (some C))) r)))))) : Runs (GW L xs) (d + 1) 88 (0, [.ref 67, .int a1], [], (zS I J (some C))) r := by
  rcases hC with rfl | rfl | rfl | rfl
  · exact sg_88t47 I J tg a1 h
  · exact sg_88t51 I J tg a1 h
  · exact sg_88t55 I J tg a1 h
  · exact sg_88t59 I J tg a1 h
