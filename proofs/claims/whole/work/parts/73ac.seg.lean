-- X2_run g55
theorem sg_29g55 {L d : Nat} {xs : Nat → Int32} (I : Nat → Nat → Int32) (J : Nat → Nat → Int64) (tg : Option Nat) (a1 : Int32) {r : Option Value × SS} (h : (¬ (a1 < 0 ∨ 11 ≤ (a1).toNatClampNeg) ∧ Runs (GW L xs) (d + 1) 29 (10, [.ref 55, .int a1, .ref 78, .int 0, .int (I 58 ((a1).toNatClampNeg)), vU, vU, vU], [], (zS I J tg)) r)) : Runs (GW L xs) (d + 1) 29 (0, [.ref 55, .int a1, .ref 78, vU, vU, vU, vU, vU], [], (zS I J tg)) r := by
  refine Runs.sN 5 (c' := (7, [.ref 55, .int a1, .ref 78, .int 0, vU, vU, vU, vU], [.int a1, .ref 58], (zS I J tg))) rfl ?_
  obtain ⟨c5, h⟩ := h
  refine Runs.to (c' := (8, [.ref 55, .int a1, .ref 78, .int 0, vU, vU, vU, vU], [.int (I 58 ((a1).toNatClampNeg))], (zS I J tg))) (Runs.ild rfl (show (58 : Nat) < 114 by decide) rfl c5) ?_
  refine Runs.sN 1 (c' := (10, [.ref 55, .int a1, .ref 78, .int 0, .int (I 58 ((a1).toNatClampNeg)), vU, vU, vU], [], (zS I J tg))) rfl ?_
  exact h
theorem sg_29g55_10 {L d : Nat} {xs : Nat → Int32} (I : Nat → Nat → Int32) (J : Nat → Nat → Int64) (tg : Option Nat) (x1 : Int32) (x3 : Int32) (x4 : Int32) {r : Option Value × SS} (h : (¬ ((x1 + 1) < 0 ∨ 11 ≤ (x1 + 1).toNatClampNeg) ∧ (if (I 58 ((x1 + 1).toNatClampNeg)) ≤ x4 then (r = (some (.int (I 45 0)), (zS I J tg))) else (¬ (x4 < 0 ∨ 300 ≤ (x4).toNatClampNeg) ∧ (if 20000 ≤ (I 56 ((x4).toNatClampNeg)) then ((if (I 56 ((x4).toNatClampNeg)) = 20021 then ((if x3 ≤ 0 then ((if x3 ≤ 1 then (Runs (GW L xs) (d + 1) 29 (10, [.ref 55, .int x1, .ref 78, .int x3, .int (x4 + 1), vU, vU, vU], [], (zS I J tg)) r) else (¬ (((x3 + (-1)) - 1) < 0 ∨ 300 ≤ ((x3 + (-1)) - 1).toNatClampNeg) ∧ ¬ ((x3 + (-1)) < 0 ∨ 300 ≤ (x3 + (-1)).toNatClampNeg) ∧ ∃ (v1 : Int64) (I2 : Nat → Nat → Int32), Runs (GW L xs) d 30 (0, [.int ((I 56 ((x4).toNatClampNeg)) - 20000), .long (Int32.toInt64 (I 45 (((x3 + (-1)) - 1).toNatClampNeg))), vU, .long (Int32.toInt64 (I 45 ((x3 + (-1)).toNatClampNeg))), vU], [], (zS I J tg)) ((some (.long v1)), (zS I2 J tg)) ∧ ¬ (((x3 + (-1)) - 1) < 0 ∨ 300 ≤ ((x3 + (-1)) - 1).toNatClampNeg) ∧ Runs (GW L xs) (d + 1) 29 (10, [.ref 55, .int x1, .ref 78, .int (x3 + (-1)), .int (x4 + 1), vU, vU, vU], [], (zS (up2 I2 45 (((x3 + (-1)) - 1).toNatClampNeg) (Int64.toInt32 (if (if v1 < 1000000 then v1 else 1000000) < (-1000000) then (-1000000) else (if v1 < 1000000 then v1 else 1000000)))) J tg)) r))) else (¬ ((x3 - 1) < 0 ∨ 300 ≤ (x3 - 1).toNatClampNeg) ∧ ¬ ((x3 - 1) < 0 ∨ 300 ≤ (x3 - 1).toNatClampNeg) ∧ Runs (GW L xs) (d + 1) 29 (10, [.ref 55, .int x1, .ref 78, .int x3, .int (x4 + 1), vU, vU, vU], [], (zS (up2 I 45 ((x3 - 1).toNatClampNeg) (-(I 45 ((x3 - 1).toNatClampNeg)))) J tg)) r))) else ((if x3 ≤ 1 then (Runs (GW L xs) (d + 1) 29 (10, [.ref 55, .int x1, .ref 78, .int x3, .int (x4 + 1), vU, vU, vU], [], (zS I J tg)) r) else (¬ (((x3 + (-1)) - 1) < 0 ∨ 300 ≤ ((x3 + (-1)) - 1).toNatClampNeg) ∧ ¬ ((x3 + (-1)) < 0 ∨ 300 ≤ (x3 + (-1)).toNatClampNeg) ∧ ∃ (v3 : Int64) (I4 : Nat → Nat → Int32), Runs (GW L xs) d 30 (0, [.int ((I 56 ((x4).toNatClampNeg)) - 20000), .long (Int32.toInt64 (I 45 (((x3 + (-1)) - 1).toNatClampNeg))), vU, .long (Int32.toInt64 (I 45 ((x3 + (-1)).toNatClampNeg))), vU], [], (zS I J tg)) ((some (.long v3)), (zS I4 J tg)) ∧ ¬ (((x3 + (-1)) - 1) < 0 ∨ 300 ≤ ((x3 + (-1)) - 1).toNatClampNeg) ∧ Runs (GW L xs) (d + 1) 29 (10, [.ref 55, .int x1, .ref 78, .int (x3 + (-1)), .int (x4 + 1), vU, vU, vU], [], (zS (up2 I4 45 (((x3 + (-1)) - 1).toNatClampNeg) (Int64.toInt32 (if (if v3 < 1000000 then v3 else 1000000) < (-1000000) then (-1000000) else (if v3 < 1000000 then v3 else 1000000)))) J tg)) r))))) else ((if 10000 ≤ (I 56 ((x4).toNatClampNeg)) then (¬ (((I 56 ((x4).toNatClampNeg)) - 10000) < 0 ∨ 12 ≤ ((I 56 ((x4).toNatClampNeg)) - 10000).toNatClampNeg) ∧ ¬ (x3 < 0 ∨ 300 ≤ (x3).toNatClampNeg) ∧ Runs (GW L xs) (d + 1) 29 (10, [.ref 55, .int x1, .ref 78, .int (x3 + 1), .int (x4 + 1), vU, vU, vU], [], (zS (up2 I 45 ((x3).toNatClampNeg) (I 78 (((I 56 ((x4).toNatClampNeg)) - 10000).toNatClampNeg))) J tg)) r) else (¬ (x3 < 0 ∨ 300 ≤ (x3).toNatClampNeg) ∧ Runs (GW L xs) (d + 1) 29 (10, [.ref 55, .int x1, .ref 78, .int (x3 + 1), .int (x4 + 1), vU, vU, vU], [], (zS (up2 I 45 ((x3).toNatClampNeg) (I 56 ((x4).toNatClampNeg))) J tg)) r)))))))) : Runs (GW L xs) (d + 1) 29 (10, [.ref 55, .int x1, .ref 78, .int x3, .int x4, vU, vU, vU], [], (zS I J tg)) r := by
  refine Runs.sN 6 (c' := (19, [.ref 55, .int x1, .ref 78, .int x3, .int x4, vU, vU, vU], [.int (x1 + 1), .ref 58, .int x4], (zS I J tg))) rfl ?_
  obtain ⟨c5, h⟩ := h
  refine Runs.to (c' := (20, [.ref 55, .int x1, .ref 78, .int x3, .int x4, vU, vU, vU], [.int (I 58 ((x1 + 1).toNatClampNeg)), .int x4], (zS I J tg))) (Runs.ild rfl (show (58 : Nat) < 114 by decide) rfl c5) ?_
  by_cases c6 : (I 58 ((x1 + 1).toNatClampNeg)) ≤ x4
  · rw [if_pos c6] at h
    refine Runs.brT (P := (I 58 ((x1 + 1).toNatClampNeg)) ≤ x4) (a := 169) (b := 23) (L := [.ref 55, .int x1, .ref 78, .int x3, .int x4, vU, vU, vU]) (S := []) (z := (zS I J tg)) rfl c6 ?_
    refine Runs.sN 4 (c' := (175, [.ref 55, .int x1, .ref 78, .int x3, .int x4, vU, vU, vU], [.int (I 45 0)], (zS I J tg))) rfl ?_
    subst h
    exact Runs.rt rfl
  · rw [if_neg c6] at h
    refine Runs.brF (P := (I 58 ((x1 + 1).toNatClampNeg)) ≤ x4) (a := 169) (b := 23) (L := [.ref 55, .int x1, .ref 78, .int x3, .int x4, vU, vU, vU]) (S := []) (z := (zS I J tg)) rfl c6 ?_
    refine Runs.sN 3 (c' := (29, [.ref 55, .int x1, .ref 78, .int x3, .int x4, vU, vU, vU], [.int x4, .ref 56], (zS I J tg))) rfl ?_
    obtain ⟨c7, h⟩ := h
    refine Runs.to (c' := (30, [.ref 55, .int x1, .ref 78, .int x3, .int x4, vU, vU, vU], [.int (I 56 ((x4).toNatClampNeg))], (zS I J tg))) (Runs.ild rfl (show (56 : Nat) < 114 by decide) rfl c7) ?_
    refine Runs.sN 3 (c' := (37, [.ref 55, .int x1, .ref 78, .int x3, .int x4, .int (I 56 ((x4).toNatClampNeg)), vU, vU], [.int 20000, .int (I 56 ((x4).toNatClampNeg))], (zS I J tg))) rfl ?_
    by_cases c8 : 20000 ≤ (I 56 ((x4).toNatClampNeg))
    · rw [if_pos c8] at h
      refine Runs.brT (P := 20000 ≤ (I 56 ((x4).toNatClampNeg))) (a := 73) (b := 40) (L := [.ref 55, .int x1, .ref 78, .int x3, .int x4, .int (I 56 ((x4).toNatClampNeg)), vU, vU]) (S := []) (z := (zS I J tg)) rfl c8 ?_
      refine Runs.sN 2 (c' := (78, [.ref 55, .int x1, .ref 78, .int x3, .int x4, .int (I 56 ((x4).toNatClampNeg)), vU, vU], [.int 20021, .int (I 56 ((x4).toNatClampNeg))], (zS I J tg))) rfl ?_
      by_cases c9 : (I 56 ((x4).toNatClampNeg)) = 20021
      · rw [if_pos c9] at h
        refine Runs.brT (P := (I 56 ((x4).toNatClampNeg)) = 20021) (a := 81) (b := 105) (L := [.ref 55, .int x1, .ref 78, .int x3, .int x4, .int (I 56 ((x4).toNatClampNeg)), vU, vU]) (S := []) (z := (zS I J tg)) rfl c9 ?_
        refine Runs.sN 1 (c' := (82, [.ref 55, .int x1, .ref 78, .int x3, .int x4, .int (I 56 ((x4).toNatClampNeg)), vU, vU], [.int x3], (zS I J tg))) rfl ?_
        by_cases c10 : x3 ≤ 0
        · rw [if_pos c10] at h
          refine Runs.brT (P := x3 ≤ 0) (a := 105) (b := 85) (L := [.ref 55, .int x1, .ref 78, .int x3, .int x4, .int (I 56 ((x4).toNatClampNeg)), vU, vU]) (S := []) (z := (zS I J tg)) rfl c10 ?_
          refine Runs.sN 2 (c' := (107, [.ref 55, .int x1, .ref 78, .int x3, .int x4, .int (I 56 ((x4).toNatClampNeg)), vU, vU], [.int 1, .int x3], (zS I J tg))) rfl ?_
          by_cases c11 : x3 ≤ 1
          · rw [if_pos c11] at h
            refine Runs.brT (P := x3 ≤ 1) (a := 163) (b := 110) (L := [.ref 55, .int x1, .ref 78, .int x3, .int x4, .int (I 56 ((x4).toNatClampNeg)), vU, vU]) (S := []) (z := (zS I J tg)) rfl c11 ?_
            refine Runs.sN 2 (c' := (10, [.ref 55, .int x1, .ref 78, .int x3, .int (x4 + 1), .int (I 56 ((x4).toNatClampNeg)), vU, vU], [], (zS I J tg))) rfl ?_
            exact Runs.weak (L := [.ref 55, .int x1, .ref 78, .int x3, .int (x4 + 1), vU, vU, vU]) (Lle.k (Lle.k (Lle.k (Lle.k (Lle.k (Lle.u (Lle.k (Lle.k Lle.n)))))))) h
          · rw [if_neg c11] at h
            refine Runs.brF (P := x3 ≤ 1) (a := 163) (b := 110) (L := [.ref 55, .int x1, .ref 78, .int x3, .int x4, .int (I 56 ((x4).toNatClampNeg)), vU, vU]) (S := []) (z := (zS I J tg)) rfl c11 ?_
            refine Runs.sN 9 (c' := (126, [.ref 55, .int x1, .ref 78, .int (x3 + (-1)), .int x4, .int (I 56 ((x4).toNatClampNeg)), vU, vU], [.int ((x3 + (-1)) - 1), .ref 45, .int ((I 56 ((x4).toNatClampNeg)) - 20000)], (zS I J tg))) rfl ?_
            obtain ⟨c12, h⟩ := h
            refine Runs.to (c' := (127, [.ref 55, .int x1, .ref 78, .int (x3 + (-1)), .int x4, .int (I 56 ((x4).toNatClampNeg)), vU, vU], [.int (I 45 (((x3 + (-1)) - 1).toNatClampNeg)), .int ((I 56 ((x4).toNatClampNeg)) - 20000)], (zS I J tg))) (Runs.ild rfl (show (45 : Nat) < 114 by decide) rfl c12) ?_
            refine Runs.sN 4 (c' := (133, [.ref 55, .int x1, .ref 78, .int (x3 + (-1)), .int x4, .int (I 56 ((x4).toNatClampNeg)), vU, vU], [.int (x3 + (-1)), .ref 45, .long (Int32.toInt64 (I 45 (((x3 + (-1)) - 1).toNatClampNeg))), .int ((I 56 ((x4).toNatClampNeg)) - 20000)], (zS I J tg))) rfl ?_
            obtain ⟨c13, h⟩ := h
            refine Runs.to (c' := (134, [.ref 55, .int x1, .ref 78, .int (x3 + (-1)), .int x4, .int (I 56 ((x4).toNatClampNeg)), vU, vU], [.int (I 45 ((x3 + (-1)).toNatClampNeg)), .long (Int32.toInt64 (I 45 (((x3 + (-1)) - 1).toNatClampNeg))), .int ((I 56 ((x4).toNatClampNeg)) - 20000)], (zS I J tg))) (Runs.ild rfl (show (45 : Nat) < 114 by decide) rfl c13) ?_
            refine Runs.sN 1 (c' := (135, [.ref 55, .int x1, .ref 78, .int (x3 + (-1)), .int x4, .int (I 56 ((x4).toNatClampNeg)), vU, vU], [.long (Int32.toInt64 (I 45 ((x3 + (-1)).toNatClampNeg))), .long (Int32.toInt64 (I 45 (((x3 + (-1)) - 1).toNatClampNeg))), .int ((I 56 ((x4).toNatClampNeg)) - 20000)], (zS I J tg))) rfl ?_
            obtain ⟨v1, I2, c14, h⟩ := h
            refine Runs.cl (cm := 30) (as := [.int ((I 56 ((x4).toNatClampNeg)) - 20000), .long (Int32.toInt64 (I 45 (((x3 + (-1)) - 1).toNatClampNeg))), .long (Int32.toInt64 (I 45 ((x3 + (-1)).toNatClampNeg)))]) (rest := []) (r1 := ((some (.long v1)), (zS I2 J tg))) rfl (Nat.le_of_ble_eq_true rfl) c14 ?_
            refine Runs.as (c' := (138, [.ref 55, .int x1, .ref 78, .int (x3 + (-1)), .int x4, .int (I 56 ((x4).toNatClampNeg)), vU, vU], [.long v1], (zS I2 J tg))) rfl ?_
            refine Runs.sN 12 (c' := (162, [.ref 55, .int x1, .ref 78, .int (x3 + (-1)), .int x4, .int (I 56 ((x4).toNatClampNeg)), .long v1, vU], [.int (Int64.toInt32 (if (if v1 < 1000000 then v1 else 1000000) < (-1000000) then (-1000000) else (if v1 < 1000000 then v1 else 1000000))), .int ((x3 + (-1)) - 1), .ref 45], (zS I2 J tg))) rfl ?_
            obtain ⟨c15, h⟩ := h
            refine Runs.to (c' := (163, [.ref 55, .int x1, .ref 78, .int (x3 + (-1)), .int x4, .int (I 56 ((x4).toNatClampNeg)), .long v1, vU], [], (zS (up2 I2 45 (((x3 + (-1)) - 1).toNatClampNeg) (Int64.toInt32 (if (if v1 < 1000000 then v1 else 1000000) < (-1000000) then (-1000000) else (if v1 < 1000000 then v1 else 1000000)))) J tg))) (Runs.ist rfl (show (45 : Nat) < 114 by decide) rfl c15) ?_
            refine Runs.sN 2 (c' := (10, [.ref 55, .int x1, .ref 78, .int (x3 + (-1)), .int (x4 + 1), .int (I 56 ((x4).toNatClampNeg)), .long v1, vU], [], (zS (up2 I2 45 (((x3 + (-1)) - 1).toNatClampNeg) (Int64.toInt32 (if (if v1 < 1000000 then v1 else 1000000) < (-1000000) then (-1000000) else (if v1 < 1000000 then v1 else 1000000)))) J tg))) rfl ?_
            exact Runs.weak (L := [.ref 55, .int x1, .ref 78, .int (x3 + (-1)), .int (x4 + 1), vU, vU, vU]) (Lle.k (Lle.k (Lle.k (Lle.k (Lle.k (Lle.u (Lle.u (Lle.k Lle.n)))))))) h
        · rw [if_neg c10] at h
          refine Runs.brF (P := x3 ≤ 0) (a := 105) (b := 85) (L := [.ref 55, .int x1, .ref 78, .int x3, .int x4, .int (I 56 ((x4).toNatClampNeg)), vU, vU]) (S := []) (z := (zS I J tg)) rfl c10 ?_
          refine Runs.sN 10 (c' := (99, [.ref 55, .int x1, .ref 78, .int x3, .int x4, .int (I 56 ((x4).toNatClampNeg)), vU, vU], [.int (x3 - 1), .ref 45, .int (x3 - 1), .ref 45], (zS I J tg))) rfl ?_
          obtain ⟨c16, h⟩ := h
          refine Runs.to (c' := (100, [.ref 55, .int x1, .ref 78, .int x3, .int x4, .int (I 56 ((x4).toNatClampNeg)), vU, vU], [.int (I 45 ((x3 - 1).toNatClampNeg)), .int (x3 - 1), .ref 45], (zS I J tg))) (Runs.ild rfl (show (45 : Nat) < 114 by decide) rfl c16) ?_
          refine Runs.sN 1 (c' := (101, [.ref 55, .int x1, .ref 78, .int x3, .int x4, .int (I 56 ((x4).toNatClampNeg)), vU, vU], [.int (-(I 45 ((x3 - 1).toNatClampNeg))), .int (x3 - 1), .ref 45], (zS I J tg))) rfl ?_
          obtain ⟨c17, h⟩ := h
          refine Runs.to (c' := (102, [.ref 55, .int x1, .ref 78, .int x3, .int x4, .int (I 56 ((x4).toNatClampNeg)), vU, vU], [], (zS (up2 I 45 ((x3 - 1).toNatClampNeg) (-(I 45 ((x3 - 1).toNatClampNeg)))) J tg))) (Runs.ist rfl (show (45 : Nat) < 114 by decide) rfl c17) ?_
          refine Runs.sN 3 (c' := (10, [.ref 55, .int x1, .ref 78, .int x3, .int (x4 + 1), .int (I 56 ((x4).toNatClampNeg)), vU, vU], [], (zS (up2 I 45 ((x3 - 1).toNatClampNeg) (-(I 45 ((x3 - 1).toNatClampNeg)))) J tg))) rfl ?_
          exact Runs.weak (L := [.ref 55, .int x1, .ref 78, .int x3, .int (x4 + 1), vU, vU, vU]) (Lle.k (Lle.k (Lle.k (Lle.k (Lle.k (Lle.u (Lle.k (Lle.k Lle.n)))))))) h
      · rw [if_neg c9] at h
        refine Runs.brF (P := (I 56 ((x4).toNatClampNeg)) = 20021) (a := 81) (b := 105) (L := [.ref 55, .int x1, .ref 78, .int x3, .int x4, .int (I 56 ((x4).toNatClampNeg)), vU, vU]) (S := []) (z := (zS I J tg)) rfl c9 ?_
        refine Runs.sN 2 (c' := (107, [.ref 55, .int x1, .ref 78, .int x3, .int x4, .int (I 56 ((x4).toNatClampNeg)), vU, vU], [.int 1, .int x3], (zS I J tg))) rfl ?_
        by_cases c18 : x3 ≤ 1
        · rw [if_pos c18] at h
          refine Runs.brT (P := x3 ≤ 1) (a := 163) (b := 110) (L := [.ref 55, .int x1, .ref 78, .int x3, .int x4, .int (I 56 ((x4).toNatClampNeg)), vU, vU]) (S := []) (z := (zS I J tg)) rfl c18 ?_
          refine Runs.sN 2 (c' := (10, [.ref 55, .int x1, .ref 78, .int x3, .int (x4 + 1), .int (I 56 ((x4).toNatClampNeg)), vU, vU], [], (zS I J tg))) rfl ?_
          exact Runs.weak (L := [.ref 55, .int x1, .ref 78, .int x3, .int (x4 + 1), vU, vU, vU]) (Lle.k (Lle.k (Lle.k (Lle.k (Lle.k (Lle.u (Lle.k (Lle.k Lle.n)))))))) h
        · rw [if_neg c18] at h
          refine Runs.brF (P := x3 ≤ 1) (a := 163) (b := 110) (L := [.ref 55, .int x1, .ref 78, .int x3, .int x4, .int (I 56 ((x4).toNatClampNeg)), vU, vU]) (S := []) (z := (zS I J tg)) rfl c18 ?_
          refine Runs.sN 9 (c' := (126, [.ref 55, .int x1, .ref 78, .int (x3 + (-1)), .int x4, .int (I 56 ((x4).toNatClampNeg)), vU, vU], [.int ((x3 + (-1)) - 1), .ref 45, .int ((I 56 ((x4).toNatClampNeg)) - 20000)], (zS I J tg))) rfl ?_
          obtain ⟨c19, h⟩ := h
          refine Runs.to (c' := (127, [.ref 55, .int x1, .ref 78, .int (x3 + (-1)), .int x4, .int (I 56 ((x4).toNatClampNeg)), vU, vU], [.int (I 45 (((x3 + (-1)) - 1).toNatClampNeg)), .int ((I 56 ((x4).toNatClampNeg)) - 20000)], (zS I J tg))) (Runs.ild rfl (show (45 : Nat) < 114 by decide) rfl c19) ?_
          refine Runs.sN 4 (c' := (133, [.ref 55, .int x1, .ref 78, .int (x3 + (-1)), .int x4, .int (I 56 ((x4).toNatClampNeg)), vU, vU], [.int (x3 + (-1)), .ref 45, .long (Int32.toInt64 (I 45 (((x3 + (-1)) - 1).toNatClampNeg))), .int ((I 56 ((x4).toNatClampNeg)) - 20000)], (zS I J tg))) rfl ?_
          obtain ⟨c20, h⟩ := h
          refine Runs.to (c' := (134, [.ref 55, .int x1, .ref 78, .int (x3 + (-1)), .int x4, .int (I 56 ((x4).toNatClampNeg)), vU, vU], [.int (I 45 ((x3 + (-1)).toNatClampNeg)), .long (Int32.toInt64 (I 45 (((x3 + (-1)) - 1).toNatClampNeg))), .int ((I 56 ((x4).toNatClampNeg)) - 20000)], (zS I J tg))) (Runs.ild rfl (show (45 : Nat) < 114 by decide) rfl c20) ?_
          refine Runs.sN 1 (c' := (135, [.ref 55, .int x1, .ref 78, .int (x3 + (-1)), .int x4, .int (I 56 ((x4).toNatClampNeg)), vU, vU], [.long (Int32.toInt64 (I 45 ((x3 + (-1)).toNatClampNeg))), .long (Int32.toInt64 (I 45 (((x3 + (-1)) - 1).toNatClampNeg))), .int ((I 56 ((x4).toNatClampNeg)) - 20000)], (zS I J tg))) rfl ?_
          obtain ⟨v3, I4, c21, h⟩ := h
          refine Runs.cl (cm := 30) (as := [.int ((I 56 ((x4).toNatClampNeg)) - 20000), .long (Int32.toInt64 (I 45 (((x3 + (-1)) - 1).toNatClampNeg))), .long (Int32.toInt64 (I 45 ((x3 + (-1)).toNatClampNeg)))]) (rest := []) (r1 := ((some (.long v3)), (zS I4 J tg))) rfl (Nat.le_of_ble_eq_true rfl) c21 ?_
          refine Runs.as (c' := (138, [.ref 55, .int x1, .ref 78, .int (x3 + (-1)), .int x4, .int (I 56 ((x4).toNatClampNeg)), vU, vU], [.long v3], (zS I4 J tg))) rfl ?_
          refine Runs.sN 12 (c' := (162, [.ref 55, .int x1, .ref 78, .int (x3 + (-1)), .int x4, .int (I 56 ((x4).toNatClampNeg)), .long v3, vU], [.int (Int64.toInt32 (if (if v3 < 1000000 then v3 else 1000000) < (-1000000) then (-1000000) else (if v3 < 1000000 then v3 else 1000000))), .int ((x3 + (-1)) - 1), .ref 45], (zS I4 J tg))) rfl ?_
          obtain ⟨c22, h⟩ := h
          refine Runs.to (c' := (163, [.ref 55, .int x1, .ref 78, .int (x3 + (-1)), .int x4, .int (I 56 ((x4).toNatClampNeg)), .long v3, vU], [], (zS (up2 I4 45 (((x3 + (-1)) - 1).toNatClampNeg) (Int64.toInt32 (if (if v3 < 1000000 then v3 else 1000000) < (-1000000) then (-1000000) else (if v3 < 1000000 then v3 else 1000000)))) J tg))) (Runs.ist rfl (show (45 : Nat) < 114 by decide) rfl c22) ?_
          refine Runs.sN 2 (c' := (10, [.ref 55, .int x1, .ref 78, .int (x3 + (-1)), .int (x4 + 1), .int (I 56 ((x4).toNatClampNeg)), .long v3, vU], [], (zS (up2 I4 45 (((x3 + (-1)) - 1).toNatClampNeg) (Int64.toInt32 (if (if v3 < 1000000 then v3 else 1000000) < (-1000000) then (-1000000) else (if v3 < 1000000 then v3 else 1000000)))) J tg))) rfl ?_
          exact Runs.weak (L := [.ref 55, .int x1, .ref 78, .int (x3 + (-1)), .int (x4 + 1), vU, vU, vU]) (Lle.k (Lle.k (Lle.k (Lle.k (Lle.k (Lle.u (Lle.u (Lle.k Lle.n)))))))) h
    · rw [if_neg c8] at h
      refine Runs.brF (P := 20000 ≤ (I 56 ((x4).toNatClampNeg))) (a := 73) (b := 40) (L := [.ref 55, .int x1, .ref 78, .int x3, .int x4, .int (I 56 ((x4).toNatClampNeg)), vU, vU]) (S := []) (z := (zS I J tg)) rfl c8 ?_
      refine Runs.sN 5 (c' := (50, [.ref 55, .int x1, .ref 78, .int x3, .int x4, .int (I 56 ((x4).toNatClampNeg)), vU, vU], [.int 10000, .int (I 56 ((x4).toNatClampNeg)), .int x3, .ref 45], (zS I J tg))) rfl ?_
      by_cases c23 : 10000 ≤ (I 56 ((x4).toNatClampNeg))
      · rw [if_pos c23] at h
        refine Runs.brT (P := 10000 ≤ (I 56 ((x4).toNatClampNeg))) (a := 58) (b := 53) (L := [.ref 55, .int x1, .ref 78, .int x3, .int x4, .int (I 56 ((x4).toNatClampNeg)), vU, vU]) (S := [.int x3, .ref 45]) (z := (zS I J tg)) rfl c23 ?_
        refine Runs.sN 4 (c' := (65, [.ref 55, .int x1, .ref 78, .int x3, .int x4, .int (I 56 ((x4).toNatClampNeg)), vU, vU], [.int ((I 56 ((x4).toNatClampNeg)) - 10000), .ref 78, .int x3, .ref 45], (zS I J tg))) rfl ?_
        obtain ⟨c24, h⟩ := h
        refine Runs.to (c' := (66, [.ref 55, .int x1, .ref 78, .int x3, .int x4, .int (I 56 ((x4).toNatClampNeg)), vU, vU], [.int (I 78 (((I 56 ((x4).toNatClampNeg)) - 10000).toNatClampNeg)), .int x3, .ref 45], (zS I J tg))) (Runs.ild rfl (show (78 : Nat) < 114 by decide) rfl c24) ?_
        obtain ⟨c25, h⟩ := h
        refine Runs.to (c' := (67, [.ref 55, .int x1, .ref 78, .int x3, .int x4, .int (I 56 ((x4).toNatClampNeg)), vU, vU], [], (zS (up2 I 45 ((x3).toNatClampNeg) (I 78 (((I 56 ((x4).toNatClampNeg)) - 10000).toNatClampNeg))) J tg))) (Runs.ist rfl (show (45 : Nat) < 114 by decide) rfl c25) ?_
        refine Runs.sN 4 (c' := (10, [.ref 55, .int x1, .ref 78, .int (x3 + 1), .int (x4 + 1), .int (I 56 ((x4).toNatClampNeg)), vU, vU], [], (zS (up2 I 45 ((x3).toNatClampNeg) (I 78 (((I 56 ((x4).toNatClampNeg)) - 10000).toNatClampNeg))) J tg))) rfl ?_
        exact Runs.weak (L := [.ref 55, .int x1, .ref 78, .int (x3 + 1), .int (x4 + 1), vU, vU, vU]) (Lle.k (Lle.k (Lle.k (Lle.k (Lle.k (Lle.u (Lle.k (Lle.k Lle.n)))))))) h
      · rw [if_neg c23] at h
        refine Runs.brF (P := 10000 ≤ (I 56 ((x4).toNatClampNeg))) (a := 58) (b := 53) (L := [.ref 55, .int x1, .ref 78, .int x3, .int x4, .int (I 56 ((x4).toNatClampNeg)), vU, vU]) (S := [.int x3, .ref 45]) (z := (zS I J tg)) rfl c23 ?_
        refine Runs.sN 2 (c' := (66, [.ref 55, .int x1, .ref 78, .int x3, .int x4, .int (I 56 ((x4).toNatClampNeg)), vU, vU], [.int (I 56 ((x4).toNatClampNeg)), .int x3, .ref 45], (zS I J tg))) rfl ?_
        obtain ⟨c26, h⟩ := h
        refine Runs.to (c' := (67, [.ref 55, .int x1, .ref 78, .int x3, .int x4, .int (I 56 ((x4).toNatClampNeg)), vU, vU], [], (zS (up2 I 45 ((x3).toNatClampNeg) (I 56 ((x4).toNatClampNeg))) J tg))) (Runs.ist rfl (show (45 : Nat) < 114 by decide) rfl c26) ?_
        refine Runs.sN 4 (c' := (10, [.ref 55, .int x1, .ref 78, .int (x3 + 1), .int (x4 + 1), .int (I 56 ((x4).toNatClampNeg)), vU, vU], [], (zS (up2 I 45 ((x3).toNatClampNeg) (I 56 ((x4).toNatClampNeg))) J tg))) rfl ?_
        exact Runs.weak (L := [.ref 55, .int x1, .ref 78, .int (x3 + 1), .int (x4 + 1), vU, vU, vU]) (Lle.k (Lle.k (Lle.k (Lle.k (Lle.k (Lle.u (Lle.k (Lle.k Lle.n)))))))) h
-- X2_run g59
theorem sg_29g59 {L d : Nat} {xs : Nat → Int32} (I : Nat → Nat → Int32) (J : Nat → Nat → Int64) (tg : Option Nat) (a1 : Int32) {r : Option Value × SS} (h : (¬ (a1 < 0 ∨ 11 ≤ (a1).toNatClampNeg) ∧ Runs (GW L xs) (d + 1) 29 (10, [.ref 59, .int a1, .ref 78, .int 0, .int (I 62 ((a1).toNatClampNeg)), vU, vU, vU], [], (zS I J tg)) r)) : Runs (GW L xs) (d + 1) 29 (0, [.ref 59, .int a1, .ref 78, vU, vU, vU, vU, vU], [], (zS I J tg)) r := by
  refine Runs.sN 5 (c' := (7, [.ref 59, .int a1, .ref 78, .int 0, vU, vU, vU, vU], [.int a1, .ref 62], (zS I J tg))) rfl ?_
  obtain ⟨c5, h⟩ := h
  refine Runs.to (c' := (8, [.ref 59, .int a1, .ref 78, .int 0, vU, vU, vU, vU], [.int (I 62 ((a1).toNatClampNeg))], (zS I J tg))) (Runs.ild rfl (show (62 : Nat) < 114 by decide) rfl c5) ?_
  refine Runs.sN 1 (c' := (10, [.ref 59, .int a1, .ref 78, .int 0, .int (I 62 ((a1).toNatClampNeg)), vU, vU, vU], [], (zS I J tg))) rfl ?_
  exact h
theorem sg_29g59_10 {L d : Nat} {xs : Nat → Int32} (I : Nat → Nat → Int32) (J : Nat → Nat → Int64) (tg : Option Nat) (x1 : Int32) (x3 : Int32) (x4 : Int32) {r : Option Value × SS} (h : (¬ ((x1 + 1) < 0 ∨ 11 ≤ (x1 + 1).toNatClampNeg) ∧ (if (I 62 ((x1 + 1).toNatClampNeg)) ≤ x4 then (r = (some (.int (I 45 0)), (zS I J tg))) else (¬ (x4 < 0 ∨ 300 ≤ (x4).toNatClampNeg) ∧ (if 20000 ≤ (I 60 ((x4).toNatClampNeg)) then ((if (I 60 ((x4).toNatClampNeg)) = 20021 then ((if x3 ≤ 0 then ((if x3 ≤ 1 then (Runs (GW L xs) (d + 1) 29 (10, [.ref 59, .int x1, .ref 78, .int x3, .int (x4 + 1), vU, vU, vU], [], (zS I J tg)) r) else (¬ (((x3 + (-1)) - 1) < 0 ∨ 300 ≤ ((x3 + (-1)) - 1).toNatClampNeg) ∧ ¬ ((x3 + (-1)) < 0 ∨ 300 ≤ (x3 + (-1)).toNatClampNeg) ∧ ∃ (v1 : Int64) (I2 : Nat → Nat → Int32), Runs (GW L xs) d 30 (0, [.int ((I 60 ((x4).toNatClampNeg)) - 20000), .long (Int32.toInt64 (I 45 (((x3 + (-1)) - 1).toNatClampNeg))), vU, .long (Int32.toInt64 (I 45 ((x3 + (-1)).toNatClampNeg))), vU], [], (zS I J tg)) ((some (.long v1)), (zS I2 J tg)) ∧ ¬ (((x3 + (-1)) - 1) < 0 ∨ 300 ≤ ((x3 + (-1)) - 1).toNatClampNeg) ∧ Runs (GW L xs) (d + 1) 29 (10, [.ref 59, .int x1, .ref 78, .int (x3 + (-1)), .int (x4 + 1), vU, vU, vU], [], (zS (up2 I2 45 (((x3 + (-1)) - 1).toNatClampNeg) (Int64.toInt32 (if (if v1 < 1000000 then v1 else 1000000) < (-1000000) then (-1000000) else (if v1 < 1000000 then v1 else 1000000)))) J tg)) r))) else (¬ ((x3 - 1) < 0 ∨ 300 ≤ (x3 - 1).toNatClampNeg) ∧ ¬ ((x3 - 1) < 0 ∨ 300 ≤ (x3 - 1).toNatClampNeg) ∧ Runs (GW L xs) (d + 1) 29 (10, [.ref 59, .int x1, .ref 78, .int x3, .int (x4 + 1), vU, vU, vU], [], (zS (up2 I 45 ((x3 - 1).toNatClampNeg) (-(I 45 ((x3 - 1).toNatClampNeg)))) J tg)) r))) else ((if x3 ≤ 1 then (Runs (GW L xs) (d + 1) 29 (10, [.ref 59, .int x1, .ref 78, .int x3, .int (x4 + 1), vU, vU, vU], [], (zS I J tg)) r) else (¬ (((x3 + (-1)) - 1) < 0 ∨ 300 ≤ ((x3 + (-1)) - 1).toNatClampNeg) ∧ ¬ ((x3 + (-1)) < 0 ∨ 300 ≤ (x3 + (-1)).toNatClampNeg) ∧ ∃ (v3 : Int64) (I4 : Nat → Nat → Int32), Runs (GW L xs) d 30 (0, [.int ((I 60 ((x4).toNatClampNeg)) - 20000), .long (Int32.toInt64 (I 45 (((x3 + (-1)) - 1).toNatClampNeg))), vU, .long (Int32.toInt64 (I 45 ((x3 + (-1)).toNatClampNeg))), vU], [], (zS I J tg)) ((some (.long v3)), (zS I4 J tg)) ∧ ¬ (((x3 + (-1)) - 1) < 0 ∨ 300 ≤ ((x3 + (-1)) - 1).toNatClampNeg) ∧ Runs (GW L xs) (d + 1) 29 (10, [.ref 59, .int x1, .ref 78, .int (x3 + (-1)), .int (x4 + 1), vU, vU, vU], [], (zS (up2 I4 45 (((x3 + (-1)) - 1).toNatClampNeg) (Int64.toInt32 (if (if v3 < 1000000 then v3 else 1000000) < (-1000000) then (-1000000) else (if v3 < 1000000 then v3 else 1000000)))) J tg)) r))))) else ((if 10000 ≤ (I 60 ((x4).toNatClampNeg)) then (¬ (((I 60 ((x4).toNatClampNeg)) - 10000) < 0 ∨ 12 ≤ ((I 60 ((x4).toNatClampNeg)) - 10000).toNatClampNeg) ∧ ¬ (x3 < 0 ∨ 300 ≤ (x3).toNatClampNeg) ∧ Runs (GW L xs) (d + 1) 29 (10, [.ref 59, .int x1, .ref 78, .int (x3 + 1), .int (x4 + 1), vU, vU, vU], [], (zS (up2 I 45 ((x3).toNatClampNeg) (I 78 (((I 60 ((x4).toNatClampNeg)) - 10000).toNatClampNeg))) J tg)) r) else (¬ (x3 < 0 ∨ 300 ≤ (x3).toNatClampNeg) ∧ Runs (GW L xs) (d + 1) 29 (10, [.ref 59, .int x1, .ref 78, .int (x3 + 1), .int (x4 + 1), vU, vU, vU], [], (zS (up2 I 45 ((x3).toNatClampNeg) (I 60 ((x4).toNatClampNeg))) J tg)) r)))))))) : Runs (GW L xs) (d + 1) 29 (10, [.ref 59, .int x1, .ref 78, .int x3, .int x4, vU, vU, vU], [], (zS I J tg)) r := by
  refine Runs.sN 6 (c' := (19, [.ref 59, .int x1, .ref 78, .int x3, .int x4, vU, vU, vU], [.int (x1 + 1), .ref 62, .int x4], (zS I J tg))) rfl ?_
  obtain ⟨c5, h⟩ := h
  refine Runs.to (c' := (20, [.ref 59, .int x1, .ref 78, .int x3, .int x4, vU, vU, vU], [.int (I 62 ((x1 + 1).toNatClampNeg)), .int x4], (zS I J tg))) (Runs.ild rfl (show (62 : Nat) < 114 by decide) rfl c5) ?_
  by_cases c6 : (I 62 ((x1 + 1).toNatClampNeg)) ≤ x4
  · rw [if_pos c6] at h
    refine Runs.brT (P := (I 62 ((x1 + 1).toNatClampNeg)) ≤ x4) (a := 169) (b := 23) (L := [.ref 59, .int x1, .ref 78, .int x3, .int x4, vU, vU, vU]) (S := []) (z := (zS I J tg)) rfl c6 ?_
    refine Runs.sN 4 (c' := (175, [.ref 59, .int x1, .ref 78, .int x3, .int x4, vU, vU, vU], [.int (I 45 0)], (zS I J tg))) rfl ?_
    subst h
    exact Runs.rt rfl
  · rw [if_neg c6] at h
    refine Runs.brF (P := (I 62 ((x1 + 1).toNatClampNeg)) ≤ x4) (a := 169) (b := 23) (L := [.ref 59, .int x1, .ref 78, .int x3, .int x4, vU, vU, vU]) (S := []) (z := (zS I J tg)) rfl c6 ?_
    refine Runs.sN 3 (c' := (29, [.ref 59, .int x1, .ref 78, .int x3, .int x4, vU, vU, vU], [.int x4, .ref 60], (zS I J tg))) rfl ?_
    obtain ⟨c7, h⟩ := h
    refine Runs.to (c' := (30, [.ref 59, .int x1, .ref 78, .int x3, .int x4, vU, vU, vU], [.int (I 60 ((x4).toNatClampNeg))], (zS I J tg))) (Runs.ild rfl (show (60 : Nat) < 114 by decide) rfl c7) ?_
    refine Runs.sN 3 (c' := (37, [.ref 59, .int x1, .ref 78, .int x3, .int x4, .int (I 60 ((x4).toNatClampNeg)), vU, vU], [.int 20000, .int (I 60 ((x4).toNatClampNeg))], (zS I J tg))) rfl ?_
    by_cases c8 : 20000 ≤ (I 60 ((x4).toNatClampNeg))
    · rw [if_pos c8] at h
      refine Runs.brT (P := 20000 ≤ (I 60 ((x4).toNatClampNeg))) (a := 73) (b := 40) (L := [.ref 59, .int x1, .ref 78, .int x3, .int x4, .int (I 60 ((x4).toNatClampNeg)), vU, vU]) (S := []) (z := (zS I J tg)) rfl c8 ?_
      refine Runs.sN 2 (c' := (78, [.ref 59, .int x1, .ref 78, .int x3, .int x4, .int (I 60 ((x4).toNatClampNeg)), vU, vU], [.int 20021, .int (I 60 ((x4).toNatClampNeg))], (zS I J tg))) rfl ?_
      by_cases c9 : (I 60 ((x4).toNatClampNeg)) = 20021
      · rw [if_pos c9] at h
        refine Runs.brT (P := (I 60 ((x4).toNatClampNeg)) = 20021) (a := 81) (b := 105) (L := [.ref 59, .int x1, .ref 78, .int x3, .int x4, .int (I 60 ((x4).toNatClampNeg)), vU, vU]) (S := []) (z := (zS I J tg)) rfl c9 ?_
        refine Runs.sN 1 (c' := (82, [.ref 59, .int x1, .ref 78, .int x3, .int x4, .int (I 60 ((x4).toNatClampNeg)), vU, vU], [.int x3], (zS I J tg))) rfl ?_
        by_cases c10 : x3 ≤ 0
        · rw [if_pos c10] at h
          refine Runs.brT (P := x3 ≤ 0) (a := 105) (b := 85) (L := [.ref 59, .int x1, .ref 78, .int x3, .int x4, .int (I 60 ((x4).toNatClampNeg)), vU, vU]) (S := []) (z := (zS I J tg)) rfl c10 ?_
          refine Runs.sN 2 (c' := (107, [.ref 59, .int x1, .ref 78, .int x3, .int x4, .int (I 60 ((x4).toNatClampNeg)), vU, vU], [.int 1, .int x3], (zS I J tg))) rfl ?_
          by_cases c11 : x3 ≤ 1
          · rw [if_pos c11] at h
            refine Runs.brT (P := x3 ≤ 1) (a := 163) (b := 110) (L := [.ref 59, .int x1, .ref 78, .int x3, .int x4, .int (I 60 ((x4).toNatClampNeg)), vU, vU]) (S := []) (z := (zS I J tg)) rfl c11 ?_
            refine Runs.sN 2 (c' := (10, [.ref 59, .int x1, .ref 78, .int x3, .int (x4 + 1), .int (I 60 ((x4).toNatClampNeg)), vU, vU], [], (zS I J tg))) rfl ?_
            exact Runs.weak (L := [.ref 59, .int x1, .ref 78, .int x3, .int (x4 + 1), vU, vU, vU]) (Lle.k (Lle.k (Lle.k (Lle.k (Lle.k (Lle.u (Lle.k (Lle.k Lle.n)))))))) h
          · rw [if_neg c11] at h
            refine Runs.brF (P := x3 ≤ 1) (a := 163) (b := 110) (L := [.ref 59, .int x1, .ref 78, .int x3, .int x4, .int (I 60 ((x4).toNatClampNeg)), vU, vU]) (S := []) (z := (zS I J tg)) rfl c11 ?_
            refine Runs.sN 9 (c' := (126, [.ref 59, .int x1, .ref 78, .int (x3 + (-1)), .int x4, .int (I 60 ((x4).toNatClampNeg)), vU, vU], [.int ((x3 + (-1)) - 1), .ref 45, .int ((I 60 ((x4).toNatClampNeg)) - 20000)], (zS I J tg))) rfl ?_
            obtain ⟨c12, h⟩ := h
            refine Runs.to (c' := (127, [.ref 59, .int x1, .ref 78, .int (x3 + (-1)), .int x4, .int (I 60 ((x4).toNatClampNeg)), vU, vU], [.int (I 45 (((x3 + (-1)) - 1).toNatClampNeg)), .int ((I 60 ((x4).toNatClampNeg)) - 20000)], (zS I J tg))) (Runs.ild rfl (show (45 : Nat) < 114 by decide) rfl c12) ?_
            refine Runs.sN 4 (c' := (133, [.ref 59, .int x1, .ref 78, .int (x3 + (-1)), .int x4, .int (I 60 ((x4).toNatClampNeg)), vU, vU], [.int (x3 + (-1)), .ref 45, .long (Int32.toInt64 (I 45 (((x3 + (-1)) - 1).toNatClampNeg))), .int ((I 60 ((x4).toNatClampNeg)) - 20000)], (zS I J tg))) rfl ?_
            obtain ⟨c13, h⟩ := h
            refine Runs.to (c' := (134, [.ref 59, .int x1, .ref 78, .int (x3 + (-1)), .int x4, .int (I 60 ((x4).toNatClampNeg)), vU, vU], [.int (I 45 ((x3 + (-1)).toNatClampNeg)), .long (Int32.toInt64 (I 45 (((x3 + (-1)) - 1).toNatClampNeg))), .int ((I 60 ((x4).toNatClampNeg)) - 20000)], (zS I J tg))) (Runs.ild rfl (show (45 : Nat) < 114 by decide) rfl c13) ?_
            refine Runs.sN 1 (c' := (135, [.ref 59, .int x1, .ref 78, .int (x3 + (-1)), .int x4, .int (I 60 ((x4).toNatClampNeg)), vU, vU], [.long (Int32.toInt64 (I 45 ((x3 + (-1)).toNatClampNeg))), .long (Int32.toInt64 (I 45 (((x3 + (-1)) - 1).toNatClampNeg))), .int ((I 60 ((x4).toNatClampNeg)) - 20000)], (zS I J tg))) rfl ?_
            obtain ⟨v1, I2, c14, h⟩ := h
            refine Runs.cl (cm := 30) (as := [.int ((I 60 ((x4).toNatClampNeg)) - 20000), .long (Int32.toInt64 (I 45 (((x3 + (-1)) - 1).toNatClampNeg))), .long (Int32.toInt64 (I 45 ((x3 + (-1)).toNatClampNeg)))]) (rest := []) (r1 := ((some (.long v1)), (zS I2 J tg))) rfl (Nat.le_of_ble_eq_true rfl) c14 ?_
            refine Runs.as (c' := (138, [.ref 59, .int x1, .ref 78, .int (x3 + (-1)), .int x4, .int (I 60 ((x4).toNatClampNeg)), vU, vU], [.long v1], (zS I2 J tg))) rfl ?_
            refine Runs.sN 12 (c' := (162, [.ref 59, .int x1, .ref 78, .int (x3 + (-1)), .int x4, .int (I 60 ((x4).toNatClampNeg)), .long v1, vU], [.int (Int64.toInt32 (if (if v1 < 1000000 then v1 else 1000000) < (-1000000) then (-1000000) else (if v1 < 1000000 then v1 else 1000000))), .int ((x3 + (-1)) - 1), .ref 45], (zS I2 J tg))) rfl ?_
            obtain ⟨c15, h⟩ := h
            refine Runs.to (c' := (163, [.ref 59, .int x1, .ref 78, .int (x3 + (-1)), .int x4, .int (I 60 ((x4).toNatClampNeg)), .long v1, vU], [], (zS (up2 I2 45 (((x3 + (-1)) - 1).toNatClampNeg) (Int64.toInt32 (if (if v1 < 1000000 then v1 else 1000000) < (-1000000) then (-1000000) else (if v1 < 1000000 then v1 else 1000000)))) J tg))) (Runs.ist rfl (show (45 : Nat) < 114 by decide) rfl c15) ?_
            refine Runs.sN 2 (c' := (10, [.ref 59, .int x1, .ref 78, .int (x3 + (-1)), .int (x4 + 1), .int (I 60 ((x4).toNatClampNeg)), .long v1, vU], [], (zS (up2 I2 45 (((x3 + (-1)) - 1).toNatClampNeg) (Int64.toInt32 (if (if v1 < 1000000 then v1 else 1000000) < (-1000000) then (-1000000) else (if v1 < 1000000 then v1 else 1000000)))) J tg))) rfl ?_
            exact Runs.weak (L := [.ref 59, .int x1, .ref 78, .int (x3 + (-1)), .int (x4 + 1), vU, vU, vU]) (Lle.k (Lle.k (Lle.k (Lle.k (Lle.k (Lle.u (Lle.u (Lle.k Lle.n)))))))) h
        · rw [if_neg c10] at h
          refine Runs.brF (P := x3 ≤ 0) (a := 105) (b := 85) (L := [.ref 59, .int x1, .ref 78, .int x3, .int x4, .int (I 60 ((x4).toNatClampNeg)), vU, vU]) (S := []) (z := (zS I J tg)) rfl c10 ?_
          refine Runs.sN 10 (c' := (99, [.ref 59, .int x1, .ref 78, .int x3, .int x4, .int (I 60 ((x4).toNatClampNeg)), vU, vU], [.int (x3 - 1), .ref 45, .int (x3 - 1), .ref 45], (zS I J tg))) rfl ?_
          obtain ⟨c16, h⟩ := h
          refine Runs.to (c' := (100, [.ref 59, .int x1, .ref 78, .int x3, .int x4, .int (I 60 ((x4).toNatClampNeg)), vU, vU], [.int (I 45 ((x3 - 1).toNatClampNeg)), .int (x3 - 1), .ref 45], (zS I J tg))) (Runs.ild rfl (show (45 : Nat) < 114 by decide) rfl c16) ?_
          refine Runs.sN 1 (c' := (101, [.ref 59, .int x1, .ref 78, .int x3, .int x4, .int (I 60 ((x4).toNatClampNeg)), vU, vU], [.int (-(I 45 ((x3 - 1).toNatClampNeg))), .int (x3 - 1), .ref 45], (zS I J tg))) rfl ?_
          obtain ⟨c17, h⟩ := h
          refine Runs.to (c' := (102, [.ref 59, .int x1, .ref 78, .int x3, .int x4, .int (I 60 ((x4).toNatClampNeg)), vU, vU], [], (zS (up2 I 45 ((x3 - 1).toNatClampNeg) (-(I 45 ((x3 - 1).toNatClampNeg)))) J tg))) (Runs.ist rfl (show (45 : Nat) < 114 by decide) rfl c17) ?_
          refine Runs.sN 3 (c' := (10, [.ref 59, .int x1, .ref 78, .int x3, .int (x4 + 1), .int (I 60 ((x4).toNatClampNeg)), vU, vU], [], (zS (up2 I 45 ((x3 - 1).toNatClampNeg) (-(I 45 ((x3 - 1).toNatClampNeg)))) J tg))) rfl ?_
          exact Runs.weak (L := [.ref 59, .int x1, .ref 78, .int x3, .int (x4 + 1), vU, vU, vU]) (Lle.k (Lle.k (Lle.k (Lle.k (Lle.k (Lle.u (Lle.k (Lle.k Lle.n)))))))) h
      · rw [if_neg c9] at h
        refine Runs.brF (P := (I 60 ((x4).toNatClampNeg)) = 20021) (a := 81) (b := 105) (L := [.ref 59, .int x1, .ref 78, .int x3, .int x4, .int (I 60 ((x4).toNatClampNeg)), vU, vU]) (S := []) (z := (zS I J tg)) rfl c9 ?_
        refine Runs.sN 2 (c' := (107, [.ref 59, .int x1, .ref 78, .int x3, .int x4, .int (I 60 ((x4).toNatClampNeg)), vU, vU], [.int 1, .int x3], (zS I J tg))) rfl ?_
        by_cases c18 : x3 ≤ 1
        · rw [if_pos c18] at h
          refine Runs.brT (P := x3 ≤ 1) (a := 163) (b := 110) (L := [.ref 59, .int x1, .ref 78, .int x3, .int x4, .int (I 60 ((x4).toNatClampNeg)), vU, vU]) (S := []) (z := (zS I J tg)) rfl c18 ?_
          refine Runs.sN 2 (c' := (10, [.ref 59, .int x1, .ref 78, .int x3, .int (x4 + 1), .int (I 60 ((x4).toNatClampNeg)), vU, vU], [], (zS I J tg))) rfl ?_
          exact Runs.weak (L := [.ref 59, .int x1, .ref 78, .int x3, .int (x4 + 1), vU, vU, vU]) (Lle.k (Lle.k (Lle.k (Lle.k (Lle.k (Lle.u (Lle.k (Lle.k Lle.n)))))))) h
        · rw [if_neg c18] at h
          refine Runs.brF (P := x3 ≤ 1) (a := 163) (b := 110) (L := [.ref 59, .int x1, .ref 78, .int x3, .int x4, .int (I 60 ((x4).toNatClampNeg)), vU, vU]) (S := []) (z := (zS I J tg)) rfl c18 ?_
          refine Runs.sN 9 (c' := (126, [.ref 59, .int x1, .ref 78, .int (x3 + (-1)), .int x4, .int (I 60 ((x4).toNatClampNeg)), vU, vU], [.int ((x3 + (-1)) - 1), .ref 45, .int ((I 60 ((x4).toNatClampNeg)) - 20000)], (zS I J tg))) rfl ?_
          obtain ⟨c19, h⟩ := h
          refine Runs.to (c' := (127, [.ref 59, .int x1, .ref 78, .int (x3 + (-1)), .int x4, .int (I 60 ((x4).toNatClampNeg)), vU, vU], [.int (I 45 (((x3 + (-1)) - 1).toNatClampNeg)), .int ((I 60 ((x4).toNatClampNeg)) - 20000)], (zS I J tg))) (Runs.ild rfl (show (45 : Nat) < 114 by decide) rfl c19) ?_
          refine Runs.sN 4 (c' := (133, [.ref 59, .int x1, .ref 78, .int (x3 + (-1)), .int x4, .int (I 60 ((x4).toNatClampNeg)), vU, vU], [.int (x3 + (-1)), .ref 45, .long (Int32.toInt64 (I 45 (((x3 + (-1)) - 1).toNatClampNeg))), .int ((I 60 ((x4).toNatClampNeg)) - 20000)], (zS I J tg))) rfl ?_
          obtain ⟨c20, h⟩ := h
          refine Runs.to (c' := (134, [.ref 59, .int x1, .ref 78, .int (x3 + (-1)), .int x4, .int (I 60 ((x4).toNatClampNeg)), vU, vU], [.int (I 45 ((x3 + (-1)).toNatClampNeg)), .long (Int32.toInt64 (I 45 (((x3 + (-1)) - 1).toNatClampNeg))), .int ((I 60 ((x4).toNatClampNeg)) - 20000)], (zS I J tg))) (Runs.ild rfl (show (45 : Nat) < 114 by decide) rfl c20) ?_
          refine Runs.sN 1 (c' := (135, [.ref 59, .int x1, .ref 78, .int (x3 + (-1)), .int x4, .int (I 60 ((x4).toNatClampNeg)), vU, vU], [.long (Int32.toInt64 (I 45 ((x3 + (-1)).toNatClampNeg))), .long (Int32.toInt64 (I 45 (((x3 + (-1)) - 1).toNatClampNeg))), .int ((I 60 ((x4).toNatClampNeg)) - 20000)], (zS I J tg))) rfl ?_
          obtain ⟨v3, I4, c21, h⟩ := h
          refine Runs.cl (cm := 30) (as := [.int ((I 60 ((x4).toNatClampNeg)) - 20000), .long (Int32.toInt64 (I 45 (((x3 + (-1)) - 1).toNatClampNeg))), .long (Int32.toInt64 (I 45 ((x3 + (-1)).toNatClampNeg)))]) (rest := []) (r1 := ((some (.long v3)), (zS I4 J tg))) rfl (Nat.le_of_ble_eq_true rfl) c21 ?_
          refine Runs.as (c' := (138, [.ref 59, .int x1, .ref 78, .int (x3 + (-1)), .int x4, .int (I 60 ((x4).toNatClampNeg)), vU, vU], [.long v3], (zS I4 J tg))) rfl ?_
          refine Runs.sN 12 (c' := (162, [.ref 59, .int x1, .ref 78, .int (x3 + (-1)), .int x4, .int (I 60 ((x4).toNatClampNeg)), .long v3, vU], [.int (Int64.toInt32 (if (if v3 < 1000000 then v3 else 1000000) < (-1000000) then (-1000000) else (if v3 < 1000000 then v3 else 1000000))), .int ((x3 + (-1)) - 1), .ref 45], (zS I4 J tg))) rfl ?_
          obtain ⟨c22, h⟩ := h
          refine Runs.to (c' := (163, [.ref 59, .int x1, .ref 78, .int (x3 + (-1)), .int x4, .int (I 60 ((x4).toNatClampNeg)), .long v3, vU], [], (zS (up2 I4 45 (((x3 + (-1)) - 1).toNatClampNeg) (Int64.toInt32 (if (if v3 < 1000000 then v3 else 1000000) < (-1000000) then (-1000000) else (if v3 < 1000000 then v3 else 1000000)))) J tg))) (Runs.ist rfl (show (45 : Nat) < 114 by decide) rfl c22) ?_
          refine Runs.sN 2 (c' := (10, [.ref 59, .int x1, .ref 78, .int (x3 + (-1)), .int (x4 + 1), .int (I 60 ((x4).toNatClampNeg)), .long v3, vU], [], (zS (up2 I4 45 (((x3 + (-1)) - 1).toNatClampNeg) (Int64.toInt32 (if (if v3 < 1000000 then v3 else 1000000) < (-1000000) then (-1000000) else (if v3 < 1000000 then v3 else 1000000)))) J tg))) rfl ?_
          exact Runs.weak (L := [.ref 59, .int x1, .ref 78, .int (x3 + (-1)), .int (x4 + 1), vU, vU, vU]) (Lle.k (Lle.k (Lle.k (Lle.k (Lle.k (Lle.u (Lle.u (Lle.k Lle.n)))))))) h
    · rw [if_neg c8] at h
      refine Runs.brF (P := 20000 ≤ (I 60 ((x4).toNatClampNeg))) (a := 73) (b := 40) (L := [.ref 59, .int x1, .ref 78, .int x3, .int x4, .int (I 60 ((x4).toNatClampNeg)), vU, vU]) (S := []) (z := (zS I J tg)) rfl c8 ?_
      refine Runs.sN 5 (c' := (50, [.ref 59, .int x1, .ref 78, .int x3, .int x4, .int (I 60 ((x4).toNatClampNeg)), vU, vU], [.int 10000, .int (I 60 ((x4).toNatClampNeg)), .int x3, .ref 45], (zS I J tg))) rfl ?_
      by_cases c23 : 10000 ≤ (I 60 ((x4).toNatClampNeg))
      · rw [if_pos c23] at h
        refine Runs.brT (P := 10000 ≤ (I 60 ((x4).toNatClampNeg))) (a := 58) (b := 53) (L := [.ref 59, .int x1, .ref 78, .int x3, .int x4, .int (I 60 ((x4).toNatClampNeg)), vU, vU]) (S := [.int x3, .ref 45]) (z := (zS I J tg)) rfl c23 ?_
        refine Runs.sN 4 (c' := (65, [.ref 59, .int x1, .ref 78, .int x3, .int x4, .int (I 60 ((x4).toNatClampNeg)), vU, vU], [.int ((I 60 ((x4).toNatClampNeg)) - 10000), .ref 78, .int x3, .ref 45], (zS I J tg))) rfl ?_
        obtain ⟨c24, h⟩ := h
        refine Runs.to (c' := (66, [.ref 59, .int x1, .ref 78, .int x3, .int x4, .int (I 60 ((x4).toNatClampNeg)), vU, vU], [.int (I 78 (((I 60 ((x4).toNatClampNeg)) - 10000).toNatClampNeg)), .int x3, .ref 45], (zS I J tg))) (Runs.ild rfl (show (78 : Nat) < 114 by decide) rfl c24) ?_
        obtain ⟨c25, h⟩ := h
        refine Runs.to (c' := (67, [.ref 59, .int x1, .ref 78, .int x3, .int x4, .int (I 60 ((x4).toNatClampNeg)), vU, vU], [], (zS (up2 I 45 ((x3).toNatClampNeg) (I 78 (((I 60 ((x4).toNatClampNeg)) - 10000).toNatClampNeg))) J tg))) (Runs.ist rfl (show (45 : Nat) < 114 by decide) rfl c25) ?_
        refine Runs.sN 4 (c' := (10, [.ref 59, .int x1, .ref 78, .int (x3 + 1), .int (x4 + 1), .int (I 60 ((x4).toNatClampNeg)), vU, vU], [], (zS (up2 I 45 ((x3).toNatClampNeg) (I 78 (((I 60 ((x4).toNatClampNeg)) - 10000).toNatClampNeg))) J tg))) rfl ?_
        exact Runs.weak (L := [.ref 59, .int x1, .ref 78, .int (x3 + 1), .int (x4 + 1), vU, vU, vU]) (Lle.k (Lle.k (Lle.k (Lle.k (Lle.k (Lle.u (Lle.k (Lle.k Lle.n)))))))) h
      · rw [if_neg c23] at h
        refine Runs.brF (P := 10000 ≤ (I 60 ((x4).toNatClampNeg))) (a := 58) (b := 53) (L := [.ref 59, .int x1, .ref 78, .int x3, .int x4, .int (I 60 ((x4).toNatClampNeg)), vU, vU]) (S := [.int x3, .ref 45]) (z := (zS I J tg)) rfl c23 ?_
        refine Runs.sN 2 (c' := (66, [.ref 59, .int x1, .ref 78, .int x3, .int x4, .int (I 60 ((x4).toNatClampNeg)), vU, vU], [.int (I 60 ((x4).toNatClampNeg)), .int x3, .ref 45], (zS I J tg))) rfl ?_
        obtain ⟨c26, h⟩ := h
        refine Runs.to (c' := (67, [.ref 59, .int x1, .ref 78, .int x3, .int x4, .int (I 60 ((x4).toNatClampNeg)), vU, vU], [], (zS (up2 I 45 ((x3).toNatClampNeg) (I 60 ((x4).toNatClampNeg))) J tg))) (Runs.ist rfl (show (45 : Nat) < 114 by decide) rfl c26) ?_
        refine Runs.sN 4 (c' := (10, [.ref 59, .int x1, .ref 78, .int (x3 + 1), .int (x4 + 1), .int (I 60 ((x4).toNatClampNeg)), vU, vU], [], (zS (up2 I 45 ((x3).toNatClampNeg) (I 60 ((x4).toNatClampNeg))) J tg))) rfl ?_
        exact Runs.weak (L := [.ref 59, .int x1, .ref 78, .int (x3 + 1), .int (x4 + 1), vU, vU, vU]) (Lle.k (Lle.k (Lle.k (Lle.k (Lle.k (Lle.u (Lle.k (Lle.k Lle.n)))))))) h
-- X2_run g63
theorem sg_29g63 {L d : Nat} {xs : Nat → Int32} (I : Nat → Nat → Int32) (J : Nat → Nat → Int64) (tg : Option Nat) (a1 : Int32) {r : Option Value × SS} (h : (¬ (a1 < 0 ∨ 11 ≤ (a1).toNatClampNeg) ∧ Runs (GW L xs) (d + 1) 29 (10, [.ref 63, .int a1, .ref 78, .int 0, .int (I 66 ((a1).toNatClampNeg)), vU, vU, vU], [], (zS I J tg)) r)) : Runs (GW L xs) (d + 1) 29 (0, [.ref 63, .int a1, .ref 78, vU, vU, vU, vU, vU], [], (zS I J tg)) r := by
  refine Runs.sN 5 (c' := (7, [.ref 63, .int a1, .ref 78, .int 0, vU, vU, vU, vU], [.int a1, .ref 66], (zS I J tg))) rfl ?_
  obtain ⟨c5, h⟩ := h
  refine Runs.to (c' := (8, [.ref 63, .int a1, .ref 78, .int 0, vU, vU, vU, vU], [.int (I 66 ((a1).toNatClampNeg))], (zS I J tg))) (Runs.ild rfl (show (66 : Nat) < 114 by decide) rfl c5) ?_
  refine Runs.sN 1 (c' := (10, [.ref 63, .int a1, .ref 78, .int 0, .int (I 66 ((a1).toNatClampNeg)), vU, vU, vU], [], (zS I J tg))) rfl ?_
  exact h
theorem sg_29g63_10 {L d : Nat} {xs : Nat → Int32} (I : Nat → Nat → Int32) (J : Nat → Nat → Int64) (tg : Option Nat) (x1 : Int32) (x3 : Int32) (x4 : Int32) {r : Option Value × SS} (h : (¬ ((x1 + 1) < 0 ∨ 11 ≤ (x1 + 1).toNatClampNeg) ∧ (if (I 66 ((x1 + 1).toNatClampNeg)) ≤ x4 then (r = (some (.int (I 45 0)), (zS I J tg))) else (¬ (x4 < 0 ∨ 300 ≤ (x4).toNatClampNeg) ∧ (if 20000 ≤ (I 64 ((x4).toNatClampNeg)) then ((if (I 64 ((x4).toNatClampNeg)) = 20021 then ((if x3 ≤ 0 then ((if x3 ≤ 1 then (Runs (GW L xs) (d + 1) 29 (10, [.ref 63, .int x1, .ref 78, .int x3, .int (x4 + 1), vU, vU, vU], [], (zS I J tg)) r) else (¬ (((x3 + (-1)) - 1) < 0 ∨ 300 ≤ ((x3 + (-1)) - 1).toNatClampNeg) ∧ ¬ ((x3 + (-1)) < 0 ∨ 300 ≤ (x3 + (-1)).toNatClampNeg) ∧ ∃ (v1 : Int64) (I2 : Nat → Nat → Int32), Runs (GW L xs) d 30 (0, [.int ((I 64 ((x4).toNatClampNeg)) - 20000), .long (Int32.toInt64 (I 45 (((x3 + (-1)) - 1).toNatClampNeg))), vU, .long (Int32.toInt64 (I 45 ((x3 + (-1)).toNatClampNeg))), vU], [], (zS I J tg)) ((some (.long v1)), (zS I2 J tg)) ∧ ¬ (((x3 + (-1)) - 1) < 0 ∨ 300 ≤ ((x3 + (-1)) - 1).toNatClampNeg) ∧ Runs (GW L xs) (d + 1) 29 (10, [.ref 63, .int x1, .ref 78, .int (x3 + (-1)), .int (x4 + 1), vU, vU, vU], [], (zS (up2 I2 45 (((x3 + (-1)) - 1).toNatClampNeg) (Int64.toInt32 (if (if v1 < 1000000 then v1 else 1000000) < (-1000000) then (-1000000) else (if v1 < 1000000 then v1 else 1000000)))) J tg)) r))) else (¬ ((x3 - 1) < 0 ∨ 300 ≤ (x3 - 1).toNatClampNeg) ∧ ¬ ((x3 - 1) < 0 ∨ 300 ≤ (x3 - 1).toNatClampNeg) ∧ Runs (GW L xs) (d + 1) 29 (10, [.ref 63, .int x1, .ref 78, .int x3, .int (x4 + 1), vU, vU, vU], [], (zS (up2 I 45 ((x3 - 1).toNatClampNeg) (-(I 45 ((x3 - 1).toNatClampNeg)))) J tg)) r))) else ((if x3 ≤ 1 then (Runs (GW L xs) (d + 1) 29 (10, [.ref 63, .int x1, .ref 78, .int x3, .int (x4 + 1), vU, vU, vU], [], (zS I J tg)) r) else (¬ (((x3 + (-1)) - 1) < 0 ∨ 300 ≤ ((x3 + (-1)) - 1).toNatClampNeg) ∧ ¬ ((x3 + (-1)) < 0 ∨ 300 ≤ (x3 + (-1)).toNatClampNeg) ∧ ∃ (v3 : Int64) (I4 : Nat → Nat → Int32), Runs (GW L xs) d 30 (0, [.int ((I 64 ((x4).toNatClampNeg)) - 20000), .long (Int32.toInt64 (I 45 (((x3 + (-1)) - 1).toNatClampNeg))), vU, .long (Int32.toInt64 (I 45 ((x3 + (-1)).toNatClampNeg))), vU], [], (zS I J tg)) ((some (.long v3)), (zS I4 J tg)) ∧ ¬ (((x3 + (-1)) - 1) < 0 ∨ 300 ≤ ((x3 + (-1)) - 1).toNatClampNeg) ∧ Runs (GW L xs) (d + 1) 29 (10, [.ref 63, .int x1, .ref 78, .int (x3 + (-1)), .int (x4 + 1), vU, vU, vU], [], (zS (up2 I4 45 (((x3 + (-1)) - 1).toNatClampNeg) (Int64.toInt32 (if (if v3 < 1000000 then v3 else 1000000) < (-1000000) then (-1000000) else (if v3 < 1000000 then v3 else 1000000)))) J tg)) r))))) else ((if 10000 ≤ (I 64 ((x4).toNatClampNeg)) then (¬ (((I 64 ((x4).toNatClampNeg)) - 10000) < 0 ∨ 12 ≤ ((I 64 ((x4).toNatClampNeg)) - 10000).toNatClampNeg) ∧ ¬ (x3 < 0 ∨ 300 ≤ (x3).toNatClampNeg) ∧ Runs (GW L xs) (d + 1) 29 (10, [.ref 63, .int x1, .ref 78, .int (x3 + 1), .int (x4 + 1), vU, vU, vU], [], (zS (up2 I 45 ((x3).toNatClampNeg) (I 78 (((I 64 ((x4).toNatClampNeg)) - 10000).toNatClampNeg))) J tg)) r) else (¬ (x3 < 0 ∨ 300 ≤ (x3).toNatClampNeg) ∧ Runs (GW L xs) (d + 1) 29 (10, [.ref 63, .int x1, .ref 78, .int (x3 + 1), .int (x4 + 1), vU, vU, vU], [], (zS (up2 I 45 ((x3).toNatClampNeg) (I 64 ((x4).toNatClampNeg))) J tg)) r)))))))) : Runs (GW L xs) (d + 1) 29 (10, [.ref 63, .int x1, .ref 78, .int x3, .int x4, vU, vU, vU], [], (zS I J tg)) r := by
  refine Runs.sN 6 (c' := (19, [.ref 63, .int x1, .ref 78, .int x3, .int x4, vU, vU, vU], [.int (x1 + 1), .ref 66, .int x4], (zS I J tg))) rfl ?_
  obtain ⟨c5, h⟩ := h
  refine Runs.to (c' := (20, [.ref 63, .int x1, .ref 78, .int x3, .int x4, vU, vU, vU], [.int (I 66 ((x1 + 1).toNatClampNeg)), .int x4], (zS I J tg))) (Runs.ild rfl (show (66 : Nat) < 114 by decide) rfl c5) ?_
  by_cases c6 : (I 66 ((x1 + 1).toNatClampNeg)) ≤ x4
  · rw [if_pos c6] at h
    refine Runs.brT (P := (I 66 ((x1 + 1).toNatClampNeg)) ≤ x4) (a := 169) (b := 23) (L := [.ref 63, .int x1, .ref 78, .int x3, .int x4, vU, vU, vU]) (S := []) (z := (zS I J tg)) rfl c6 ?_
    refine Runs.sN 4 (c' := (175, [.ref 63, .int x1, .ref 78, .int x3, .int x4, vU, vU, vU], [.int (I 45 0)], (zS I J tg))) rfl ?_
    subst h
    exact Runs.rt rfl
  · rw [if_neg c6] at h
    refine Runs.brF (P := (I 66 ((x1 + 1).toNatClampNeg)) ≤ x4) (a := 169) (b := 23) (L := [.ref 63, .int x1, .ref 78, .int x3, .int x4, vU, vU, vU]) (S := []) (z := (zS I J tg)) rfl c6 ?_
    refine Runs.sN 3 (c' := (29, [.ref 63, .int x1, .ref 78, .int x3, .int x4, vU, vU, vU], [.int x4, .ref 64], (zS I J tg))) rfl ?_
    obtain ⟨c7, h⟩ := h
    refine Runs.to (c' := (30, [.ref 63, .int x1, .ref 78, .int x3, .int x4, vU, vU, vU], [.int (I 64 ((x4).toNatClampNeg))], (zS I J tg))) (Runs.ild rfl (show (64 : Nat) < 114 by decide) rfl c7) ?_
    refine Runs.sN 3 (c' := (37, [.ref 63, .int x1, .ref 78, .int x3, .int x4, .int (I 64 ((x4).toNatClampNeg)), vU, vU], [.int 20000, .int (I 64 ((x4).toNatClampNeg))], (zS I J tg))) rfl ?_
    by_cases c8 : 20000 ≤ (I 64 ((x4).toNatClampNeg))
    · rw [if_pos c8] at h
      refine Runs.brT (P := 20000 ≤ (I 64 ((x4).toNatClampNeg))) (a := 73) (b := 40) (L := [.ref 63, .int x1, .ref 78, .int x3, .int x4, .int (I 64 ((x4).toNatClampNeg)), vU, vU]) (S := []) (z := (zS I J tg)) rfl c8 ?_
      refine Runs.sN 2 (c' := (78, [.ref 63, .int x1, .ref 78, .int x3, .int x4, .int (I 64 ((x4).toNatClampNeg)), vU, vU], [.int 20021, .int (I 64 ((x4).toNatClampNeg))], (zS I J tg))) rfl ?_
      by_cases c9 : (I 64 ((x4).toNatClampNeg)) = 20021
      · rw [if_pos c9] at h
        refine Runs.brT (P := (I 64 ((x4).toNatClampNeg)) = 20021) (a := 81) (b := 105) (L := [.ref 63, .int x1, .ref 78, .int x3, .int x4, .int (I 64 ((x4).toNatClampNeg)), vU, vU]) (S := []) (z := (zS I J tg)) rfl c9 ?_
        refine Runs.sN 1 (c' := (82, [.ref 63, .int x1, .ref 78, .int x3, .int x4, .int (I 64 ((x4).toNatClampNeg)), vU, vU], [.int x3], (zS I J tg))) rfl ?_
        by_cases c10 : x3 ≤ 0
        · rw [if_pos c10] at h
          refine Runs.brT (P := x3 ≤ 0) (a := 105) (b := 85) (L := [.ref 63, .int x1, .ref 78, .int x3, .int x4, .int (I 64 ((x4).toNatClampNeg)), vU, vU]) (S := []) (z := (zS I J tg)) rfl c10 ?_
          refine Runs.sN 2 (c' := (107, [.ref 63, .int x1, .ref 78, .int x3, .int x4, .int (I 64 ((x4).toNatClampNeg)), vU, vU], [.int 1, .int x3], (zS I J tg))) rfl ?_
          by_cases c11 : x3 ≤ 1
          · rw [if_pos c11] at h
            refine Runs.brT (P := x3 ≤ 1) (a := 163) (b := 110) (L := [.ref 63, .int x1, .ref 78, .int x3, .int x4, .int (I 64 ((x4).toNatClampNeg)), vU, vU]) (S := []) (z := (zS I J tg)) rfl c11 ?_
            refine Runs.sN 2 (c' := (10, [.ref 63, .int x1, .ref 78, .int x3, .int (x4 + 1), .int (I 64 ((x4).toNatClampNeg)), vU, vU], [], (zS I J tg))) rfl ?_
            exact Runs.weak (L := [.ref 63, .int x1, .ref 78, .int x3, .int (x4 + 1), vU, vU, vU]) (Lle.k (Lle.k (Lle.k (Lle.k (Lle.k (Lle.u (Lle.k (Lle.k Lle.n)))))))) h
          · rw [if_neg c11] at h
            refine Runs.brF (P := x3 ≤ 1) (a := 163) (b := 110) (L := [.ref 63, .int x1, .ref 78, .int x3, .int x4, .int (I 64 ((x4).toNatClampNeg)), vU, vU]) (S := []) (z := (zS I J tg)) rfl c11 ?_
            refine Runs.sN 9 (c' := (126, [.ref 63, .int x1, .ref 78, .int (x3 + (-1)), .int x4, .int (I 64 ((x4).toNatClampNeg)), vU, vU], [.int ((x3 + (-1)) - 1), .ref 45, .int ((I 64 ((x4).toNatClampNeg)) - 20000)], (zS I J tg))) rfl ?_
            obtain ⟨c12, h⟩ := h
            refine Runs.to (c' := (127, [.ref 63, .int x1, .ref 78, .int (x3 + (-1)), .int x4, .int (I 64 ((x4).toNatClampNeg)), vU, vU], [.int (I 45 (((x3 + (-1)) - 1).toNatClampNeg)), .int ((I 64 ((x4).toNatClampNeg)) - 20000)], (zS I J tg))) (Runs.ild rfl (show (45 : Nat) < 114 by decide) rfl c12) ?_
            refine Runs.sN 4 (c' := (133, [.ref 63, .int x1, .ref 78, .int (x3 + (-1)), .int x4, .int (I 64 ((x4).toNatClampNeg)), vU, vU], [.int (x3 + (-1)), .ref 45, .long (Int32.toInt64 (I 45 (((x3 + (-1)) - 1).toNatClampNeg))), .int ((I 64 ((x4).toNatClampNeg)) - 20000)], (zS I J tg))) rfl ?_
            obtain ⟨c13, h⟩ := h
            refine Runs.to (c' := (134, [.ref 63, .int x1, .ref 78, .int (x3 + (-1)), .int x4, .int (I 64 ((x4).toNatClampNeg)), vU, vU], [.int (I 45 ((x3 + (-1)).toNatClampNeg)), .long (Int32.toInt64 (I 45 (((x3 + (-1)) - 1).toNatClampNeg))), .int ((I 64 ((x4).toNatClampNeg)) - 20000)], (zS I J tg))) (Runs.ild rfl (show (45 : Nat) < 114 by decide) rfl c13) ?_
            refine Runs.sN 1 (c' := (135, [.ref 63, .int x1, .ref 78, .int (x3 + (-1)), .int x4, .int (I 64 ((x4).toNatClampNeg)), vU, vU], [.long (Int32.toInt64 (I 45 ((x3 + (-1)).toNatClampNeg))), .long (Int32.toInt64 (I 45 (((x3 + (-1)) - 1).toNatClampNeg))), .int ((I 64 ((x4).toNatClampNeg)) - 20000)], (zS I J tg))) rfl ?_
            obtain ⟨v1, I2, c14, h⟩ := h
            refine Runs.cl (cm := 30) (as := [.int ((I 64 ((x4).toNatClampNeg)) - 20000), .long (Int32.toInt64 (I 45 (((x3 + (-1)) - 1).toNatClampNeg))), .long (Int32.toInt64 (I 45 ((x3 + (-1)).toNatClampNeg)))]) (rest := []) (r1 := ((some (.long v1)), (zS I2 J tg))) rfl (Nat.le_of_ble_eq_true rfl) c14 ?_
            refine Runs.as (c' := (138, [.ref 63, .int x1, .ref 78, .int (x3 + (-1)), .int x4, .int (I 64 ((x4).toNatClampNeg)), vU, vU], [.long v1], (zS I2 J tg))) rfl ?_
            refine Runs.sN 12 (c' := (162, [.ref 63, .int x1, .ref 78, .int (x3 + (-1)), .int x4, .int (I 64 ((x4).toNatClampNeg)), .long v1, vU], [.int (Int64.toInt32 (if (if v1 < 1000000 then v1 else 1000000) < (-1000000) then (-1000000) else (if v1 < 1000000 then v1 else 1000000))), .int ((x3 + (-1)) - 1), .ref 45], (zS I2 J tg))) rfl ?_
            obtain ⟨c15, h⟩ := h
            refine Runs.to (c' := (163, [.ref 63, .int x1, .ref 78, .int (x3 + (-1)), .int x4, .int (I 64 ((x4).toNatClampNeg)), .long v1, vU], [], (zS (up2 I2 45 (((x3 + (-1)) - 1).toNatClampNeg) (Int64.toInt32 (if (if v1 < 1000000 then v1 else 1000000) < (-1000000) then (-1000000) else (if v1 < 1000000 then v1 else 1000000)))) J tg))) (Runs.ist rfl (show (45 : Nat) < 114 by decide) rfl c15) ?_
            refine Runs.sN 2 (c' := (10, [.ref 63, .int x1, .ref 78, .int (x3 + (-1)), .int (x4 + 1), .int (I 64 ((x4).toNatClampNeg)), .long v1, vU], [], (zS (up2 I2 45 (((x3 + (-1)) - 1).toNatClampNeg) (Int64.toInt32 (if (if v1 < 1000000 then v1 else 1000000) < (-1000000) then (-1000000) else (if v1 < 1000000 then v1 else 1000000)))) J tg))) rfl ?_
            exact Runs.weak (L := [.ref 63, .int x1, .ref 78, .int (x3 + (-1)), .int (x4 + 1), vU, vU, vU]) (Lle.k (Lle.k (Lle.k (Lle.k (Lle.k (Lle.u (Lle.u (Lle.k Lle.n)))))))) h
        · rw [if_neg c10] at h
          refine Runs.brF (P := x3 ≤ 0) (a := 105) (b := 85) (L := [.ref 63, .int x1, .ref 78, .int x3, .int x4, .int (I 64 ((x4).toNatClampNeg)), vU, vU]) (S := []) (z := (zS I J tg)) rfl c10 ?_
          refine Runs.sN 10 (c' := (99, [.ref 63, .int x1, .ref 78, .int x3, .int x4, .int (I 64 ((x4).toNatClampNeg)), vU, vU], [.int (x3 - 1), .ref 45, .int (x3 - 1), .ref 45], (zS I J tg))) rfl ?_
          obtain ⟨c16, h⟩ := h
          refine Runs.to (c' := (100, [.ref 63, .int x1, .ref 78, .int x3, .int x4, .int (I 64 ((x4).toNatClampNeg)), vU, vU], [.int (I 45 ((x3 - 1).toNatClampNeg)), .int (x3 - 1), .ref 45], (zS I J tg))) (Runs.ild rfl (show (45 : Nat) < 114 by decide) rfl c16) ?_
          refine Runs.sN 1 (c' := (101, [.ref 63, .int x1, .ref 78, .int x3, .int x4, .int (I 64 ((x4).toNatClampNeg)), vU, vU], [.int (-(I 45 ((x3 - 1).toNatClampNeg))), .int (x3 - 1), .ref 45], (zS I J tg))) rfl ?_
          obtain ⟨c17, h⟩ := h
          refine Runs.to (c' := (102, [.ref 63, .int x1, .ref 78, .int x3, .int x4, .int (I 64 ((x4).toNatClampNeg)), vU, vU], [], (zS (up2 I 45 ((x3 - 1).toNatClampNeg) (-(I 45 ((x3 - 1).toNatClampNeg)))) J tg))) (Runs.ist rfl (show (45 : Nat) < 114 by decide) rfl c17) ?_
          refine Runs.sN 3 (c' := (10, [.ref 63, .int x1, .ref 78, .int x3, .int (x4 + 1), .int (I 64 ((x4).toNatClampNeg)), vU, vU], [], (zS (up2 I 45 ((x3 - 1).toNatClampNeg) (-(I 45 ((x3 - 1).toNatClampNeg)))) J tg))) rfl ?_
          exact Runs.weak (L := [.ref 63, .int x1, .ref 78, .int x3, .int (x4 + 1), vU, vU, vU]) (Lle.k (Lle.k (Lle.k (Lle.k (Lle.k (Lle.u (Lle.k (Lle.k Lle.n)))))))) h
      · rw [if_neg c9] at h
        refine Runs.brF (P := (I 64 ((x4).toNatClampNeg)) = 20021) (a := 81) (b := 105) (L := [.ref 63, .int x1, .ref 78, .int x3, .int x4, .int (I 64 ((x4).toNatClampNeg)), vU, vU]) (S := []) (z := (zS I J tg)) rfl c9 ?_
        refine Runs.sN 2 (c' := (107, [.ref 63, .int x1, .ref 78, .int x3, .int x4, .int (I 64 ((x4).toNatClampNeg)), vU, vU], [.int 1, .int x3], (zS I J tg))) rfl ?_
        by_cases c18 : x3 ≤ 1
        · rw [if_pos c18] at h
          refine Runs.brT (P := x3 ≤ 1) (a := 163) (b := 110) (L := [.ref 63, .int x1, .ref 78, .int x3, .int x4, .int (I 64 ((x4).toNatClampNeg)), vU, vU]) (S := []) (z := (zS I J tg)) rfl c18 ?_
          refine Runs.sN 2 (c' := (10, [.ref 63, .int x1, .ref 78, .int x3, .int (x4 + 1), .int (I 64 ((x4).toNatClampNeg)), vU, vU], [], (zS I J tg))) rfl ?_
          exact Runs.weak (L := [.ref 63, .int x1, .ref 78, .int x3, .int (x4 + 1), vU, vU, vU]) (Lle.k (Lle.k (Lle.k (Lle.k (Lle.k (Lle.u (Lle.k (Lle.k Lle.n)))))))) h
        · rw [if_neg c18] at h
          refine Runs.brF (P := x3 ≤ 1) (a := 163) (b := 110) (L := [.ref 63, .int x1, .ref 78, .int x3, .int x4, .int (I 64 ((x4).toNatClampNeg)), vU, vU]) (S := []) (z := (zS I J tg)) rfl c18 ?_
          refine Runs.sN 9 (c' := (126, [.ref 63, .int x1, .ref 78, .int (x3 + (-1)), .int x4, .int (I 64 ((x4).toNatClampNeg)), vU, vU], [.int ((x3 + (-1)) - 1), .ref 45, .int ((I 64 ((x4).toNatClampNeg)) - 20000)], (zS I J tg))) rfl ?_
          obtain ⟨c19, h⟩ := h
          refine Runs.to (c' := (127, [.ref 63, .int x1, .ref 78, .int (x3 + (-1)), .int x4, .int (I 64 ((x4).toNatClampNeg)), vU, vU], [.int (I 45 (((x3 + (-1)) - 1).toNatClampNeg)), .int ((I 64 ((x4).toNatClampNeg)) - 20000)], (zS I J tg))) (Runs.ild rfl (show (45 : Nat) < 114 by decide) rfl c19) ?_
          refine Runs.sN 4 (c' := (133, [.ref 63, .int x1, .ref 78, .int (x3 + (-1)), .int x4, .int (I 64 ((x4).toNatClampNeg)), vU, vU], [.int (x3 + (-1)), .ref 45, .long (Int32.toInt64 (I 45 (((x3 + (-1)) - 1).toNatClampNeg))), .int ((I 64 ((x4).toNatClampNeg)) - 20000)], (zS I J tg))) rfl ?_
          obtain ⟨c20, h⟩ := h
          refine Runs.to (c' := (134, [.ref 63, .int x1, .ref 78, .int (x3 + (-1)), .int x4, .int (I 64 ((x4).toNatClampNeg)), vU, vU], [.int (I 45 ((x3 + (-1)).toNatClampNeg)), .long (Int32.toInt64 (I 45 (((x3 + (-1)) - 1).toNatClampNeg))), .int ((I 64 ((x4).toNatClampNeg)) - 20000)], (zS I J tg))) (Runs.ild rfl (show (45 : Nat) < 114 by decide) rfl c20) ?_
          refine Runs.sN 1 (c' := (135, [.ref 63, .int x1, .ref 78, .int (x3 + (-1)), .int x4, .int (I 64 ((x4).toNatClampNeg)), vU, vU], [.long (Int32.toInt64 (I 45 ((x3 + (-1)).toNatClampNeg))), .long (Int32.toInt64 (I 45 (((x3 + (-1)) - 1).toNatClampNeg))), .int ((I 64 ((x4).toNatClampNeg)) - 20000)], (zS I J tg))) rfl ?_
          obtain ⟨v3, I4, c21, h⟩ := h
          refine Runs.cl (cm := 30) (as := [.int ((I 64 ((x4).toNatClampNeg)) - 20000), .long (Int32.toInt64 (I 45 (((x3 + (-1)) - 1).toNatClampNeg))), .long (Int32.toInt64 (I 45 ((x3 + (-1)).toNatClampNeg)))]) (rest := []) (r1 := ((some (.long v3)), (zS I4 J tg))) rfl (Nat.le_of_ble_eq_true rfl) c21 ?_
          refine Runs.as (c' := (138, [.ref 63, .int x1, .ref 78, .int (x3 + (-1)), .int x4, .int (I 64 ((x4).toNatClampNeg)), vU, vU], [.long v3], (zS I4 J tg))) rfl ?_
          refine Runs.sN 12 (c' := (162, [.ref 63, .int x1, .ref 78, .int (x3 + (-1)), .int x4, .int (I 64 ((x4).toNatClampNeg)), .long v3, vU], [.int (Int64.toInt32 (if (if v3 < 1000000 then v3 else 1000000) < (-1000000) then (-1000000) else (if v3 < 1000000 then v3 else 1000000))), .int ((x3 + (-1)) - 1), .ref 45], (zS I4 J tg))) rfl ?_
          obtain ⟨c22, h⟩ := h
          refine Runs.to (c' := (163, [.ref 63, .int x1, .ref 78, .int (x3 + (-1)), .int x4, .int (I 64 ((x4).toNatClampNeg)), .long v3, vU], [], (zS (up2 I4 45 (((x3 + (-1)) - 1).toNatClampNeg) (Int64.toInt32 (if (if v3 < 1000000 then v3 else 1000000) < (-1000000) then (-1000000) else (if v3 < 1000000 then v3 else 1000000)))) J tg))) (Runs.ist rfl (show (45 : Nat) < 114 by decide) rfl c22) ?_
          refine Runs.sN 2 (c' := (10, [.ref 63, .int x1, .ref 78, .int (x3 + (-1)), .int (x4 + 1), .int (I 64 ((x4).toNatClampNeg)), .long v3, vU], [], (zS (up2 I4 45 (((x3 + (-1)) - 1).toNatClampNeg) (Int64.toInt32 (if (if v3 < 1000000 then v3 else 1000000) < (-1000000) then (-1000000) else (if v3 < 1000000 then v3 else 1000000)))) J tg))) rfl ?_
          exact Runs.weak (L := [.ref 63, .int x1, .ref 78, .int (x3 + (-1)), .int (x4 + 1), vU, vU, vU]) (Lle.k (Lle.k (Lle.k (Lle.k (Lle.k (Lle.u (Lle.u (Lle.k Lle.n)))))))) h
    · rw [if_neg c8] at h
      refine Runs.brF (P := 20000 ≤ (I 64 ((x4).toNatClampNeg))) (a := 73) (b := 40) (L := [.ref 63, .int x1, .ref 78, .int x3, .int x4, .int (I 64 ((x4).toNatClampNeg)), vU, vU]) (S := []) (z := (zS I J tg)) rfl c8 ?_
      refine Runs.sN 5 (c' := (50, [.ref 63, .int x1, .ref 78, .int x3, .int x4, .int (I 64 ((x4).toNatClampNeg)), vU, vU], [.int 10000, .int (I 64 ((x4).toNatClampNeg)), .int x3, .ref 45], (zS I J tg))) rfl ?_
      by_cases c23 : 10000 ≤ (I 64 ((x4).toNatClampNeg))
      · rw [if_pos c23] at h
        refine Runs.brT (P := 10000 ≤ (I 64 ((x4).toNatClampNeg))) (a := 58) (b := 53) (L := [.ref 63, .int x1, .ref 78, .int x3, .int x4, .int (I 64 ((x4).toNatClampNeg)), vU, vU]) (S := [.int x3, .ref 45]) (z := (zS I J tg)) rfl c23 ?_
        refine Runs.sN 4 (c' := (65, [.ref 63, .int x1, .ref 78, .int x3, .int x4, .int (I 64 ((x4).toNatClampNeg)), vU, vU], [.int ((I 64 ((x4).toNatClampNeg)) - 10000), .ref 78, .int x3, .ref 45], (zS I J tg))) rfl ?_
        obtain ⟨c24, h⟩ := h
        refine Runs.to (c' := (66, [.ref 63, .int x1, .ref 78, .int x3, .int x4, .int (I 64 ((x4).toNatClampNeg)), vU, vU], [.int (I 78 (((I 64 ((x4).toNatClampNeg)) - 10000).toNatClampNeg)), .int x3, .ref 45], (zS I J tg))) (Runs.ild rfl (show (78 : Nat) < 114 by decide) rfl c24) ?_
        obtain ⟨c25, h⟩ := h
        refine Runs.to (c' := (67, [.ref 63, .int x1, .ref 78, .int x3, .int x4, .int (I 64 ((x4).toNatClampNeg)), vU, vU], [], (zS (up2 I 45 ((x3).toNatClampNeg) (I 78 (((I 64 ((x4).toNatClampNeg)) - 10000).toNatClampNeg))) J tg))) (Runs.ist rfl (show (45 : Nat) < 114 by decide) rfl c25) ?_
        refine Runs.sN 4 (c' := (10, [.ref 63, .int x1, .ref 78, .int (x3 + 1), .int (x4 + 1), .int (I 64 ((x4).toNatClampNeg)), vU, vU], [], (zS (up2 I 45 ((x3).toNatClampNeg) (I 78 (((I 64 ((x4).toNatClampNeg)) - 10000).toNatClampNeg))) J tg))) rfl ?_
        exact Runs.weak (L := [.ref 63, .int x1, .ref 78, .int (x3 + 1), .int (x4 + 1), vU, vU, vU]) (Lle.k (Lle.k (Lle.k (Lle.k (Lle.k (Lle.u (Lle.k (Lle.k Lle.n)))))))) h
      · rw [if_neg c23] at h
        refine Runs.brF (P := 10000 ≤ (I 64 ((x4).toNatClampNeg))) (a := 58) (b := 53) (L := [.ref 63, .int x1, .ref 78, .int x3, .int x4, .int (I 64 ((x4).toNatClampNeg)), vU, vU]) (S := [.int x3, .ref 45]) (z := (zS I J tg)) rfl c23 ?_
        refine Runs.sN 2 (c' := (66, [.ref 63, .int x1, .ref 78, .int x3, .int x4, .int (I 64 ((x4).toNatClampNeg)), vU, vU], [.int (I 64 ((x4).toNatClampNeg)), .int x3, .ref 45], (zS I J tg))) rfl ?_
        obtain ⟨c26, h⟩ := h
        refine Runs.to (c' := (67, [.ref 63, .int x1, .ref 78, .int x3, .int x4, .int (I 64 ((x4).toNatClampNeg)), vU, vU], [], (zS (up2 I 45 ((x3).toNatClampNeg) (I 64 ((x4).toNatClampNeg))) J tg))) (Runs.ist rfl (show (45 : Nat) < 114 by decide) rfl c26) ?_
        refine Runs.sN 4 (c' := (10, [.ref 63, .int x1, .ref 78, .int (x3 + 1), .int (x4 + 1), .int (I 64 ((x4).toNatClampNeg)), vU, vU], [], (zS (up2 I 45 ((x3).toNatClampNeg) (I 64 ((x4).toNatClampNeg))) J tg))) rfl ?_
        exact Runs.weak (L := [.ref 63, .int x1, .ref 78, .int (x3 + 1), .int (x4 + 1), vU, vU, vU]) (Lle.k (Lle.k (Lle.k (Lle.k (Lle.k (Lle.u (Lle.k (Lle.k Lle.n)))))))) h
-- X3_takenAmong 
theorem sg_33 {L d : Nat} {xs : Nat → Int32} (I : Nat → Nat → Int32) (J : Nat → Nat → Int64) (tg : Option Nat) (a1 : Int32) (a2 : Int32) {r : Option Value × SS} (h : (∃ (v7 : Int32) (I8 : Nat → Nat → Int32), Runs (GW L xs) d 35 (0, [.ref 86, .int 0, .int a2, .int 0, .int 0, vU, vU, vU, vU], [], (zS I J tg)) ((some (.int v7)), (zS I8 J tg)) ∧ Runs (GW L xs) (d + 1) 33 (12, [.ref 86, .int a1, .int a2, .int v7, .int 1], [], (zS I8 J tg)) r)) : Runs (GW L xs) (d + 1) 33 (0, [.ref 86, .int a1, .int a2, vU, vU], [], (zS I J tg)) r := by
  refine Runs.sN 5 (c' := (5, [.ref 86, .int a1, .int a2, vU, vU], [.int 0, .int 0, .int a2, .int 0, .ref 86], (zS I J tg))) rfl ?_
  obtain ⟨v7, I8, c9, h⟩ := h
  refine Runs.cl (cm := 35) (as := [.ref 86, .int 0, .int a2, .int 0, .int 0]) (rest := []) (r1 := ((some (.int v7)), (zS I8 J tg))) rfl (Nat.le_of_ble_eq_true rfl) c9 ?_
  refine Runs.as (c' := (8, [.ref 86, .int a1, .int a2, vU, vU], [.int v7], (zS I8 J tg))) rfl ?_
  refine Runs.sN 3 (c' := (12, [.ref 86, .int a1, .int a2, .int v7, .int 1], [], (zS I8 J tg))) rfl ?_
  exact h
theorem sg_33_12 {L d : Nat} {xs : Nat → Int32} (I : Nat → Nat → Int32) (J : Nat → Nat → Int64) (tg : Option Nat) (x1 : Int32) (x2 : Int32) (x3 : Int32) (x4 : Int32) {r : Option Value × SS} (h : ((if x1 < x4 then (r = (some (.int x3), (zS I J tg))) else (∃ (v1 : Int32) (I2 : Nat → Nat → Int32), Runs (GW L xs) d 34 (0, [.ref 86, .int x4, .int x2, .int x3, vU], [], (zS I J tg)) ((some (.int v1)), (zS I2 J tg)) ∧ Runs (GW L xs) (d + 1) 33 (12, [.ref 86, .int x1, .int x2, .int v1, .int (x4 + 1)], [], (zS I2 J tg)) r)))) : Runs (GW L xs) (d + 1) 33 (12, [.ref 86, .int x1, .int x2, .int x3, .int x4], [], (zS I J tg)) r := by
  refine Runs.sN 2 (c' := (15, [.ref 86, .int x1, .int x2, .int x3, .int x4], [.int x1, .int x4], (zS I J tg))) rfl ?_
  by_cases c3 : x1 < x4
  · rw [if_pos c3] at h
    refine Runs.brT (P := x1 < x4) (a := 33) (b := 18) (L := [.ref 86, .int x1, .int x2, .int x3, .int x4]) (S := []) (z := (zS I J tg)) rfl c3 ?_
    refine Runs.sN 1 (c' := (34, [.ref 86, .int x1, .int x2, .int x3, .int x4], [.int x3], (zS I J tg))) rfl ?_
    subst h
    exact Runs.rt rfl
  · rw [if_neg c3] at h
    refine Runs.brF (P := x1 < x4) (a := 33) (b := 18) (L := [.ref 86, .int x1, .int x2, .int x3, .int x4]) (S := []) (z := (zS I J tg)) rfl c3 ?_
    refine Runs.sN 4 (c' := (23, [.ref 86, .int x1, .int x2, .int x3, .int x4], [.int x3, .int x2, .int x4, .ref 86], (zS I J tg))) rfl ?_
    obtain ⟨v1, I2, c4, h⟩ := h
    refine Runs.cl (cm := 34) (as := [.ref 86, .int x4, .int x2, .int x3]) (rest := []) (r1 := ((some (.int v1)), (zS I2 J tg))) rfl (Nat.le_of_ble_eq_true rfl) c4 ?_
    refine Runs.as (c' := (26, [.ref 86, .int x1, .int x2, .int x3, .int x4], [.int v1], (zS I2 J tg))) rfl ?_
    refine Runs.sN 3 (c' := (12, [.ref 86, .int x1, .int x2, .int v1, .int (x4 + 1)], [], (zS I2 J tg))) rfl ?_
    exact h
-- X3_takenBehind 
theorem sg_34 {L d : Nat} {xs : Nat → Int32} (I : Nat → Nat → Int32) (J : Nat → Nat → Int64) (tg : Option Nat) (a1 : Int32) (a2 : Int32) (a3 : Int32) {r : Option Value × SS} (h : ((if (I 18 3) ≤ (a1 + 1) then (¬ (a1 < 0 ∨ 8 ≤ (a1).toNatClampNeg) ∧ ∃ (v15 : Int32) (I16 : Nat → Nat → Int32), Runs (GW L xs) d 112 (0, [.ref 7, .int a3], [], (zS I J tg)) ((some (.int v15)), (zS I16 J tg)) ∧ ∃ (v17 : Int32) (I18 : Nat → Nat → Int32), Runs (GW L xs) d 112 (0, [.ref 7, .int (-1)], [], (zS I16 J tg)) ((some (.int v17)), (zS I18 J tg)) ∧ ∃ (v19 : Int32) (I20 : Nat → Nat → Int32), Runs (GW L xs) d 35 (0, [.ref 86, .int (I 90 ((a1).toNatClampNeg)), .int a2, .int v15, .int v17, vU, vU, vU, vU], [], (zS I18 J tg)) ((some (.int v19)), (zS I20 J tg)) ∧ r = (some (.int v19), (zS I20 J tg))) else (¬ ((a1 + 1) < 0 ∨ 8 ≤ (a1 + 1).toNatClampNeg) ∧ ∃ (v21 : Int32) (I22 : Nat → Nat → Int32), Runs (GW L xs) d 35 (0, [.ref 86, .int (I 90 ((a1 + 1).toNatClampNeg)), .int a2, .int 0, .int 0, vU, vU, vU, vU], [], (zS I J tg)) ((some (.int v21)), (zS I22 J tg)) ∧ ¬ (a1 < 0 ∨ 8 ≤ (a1).toNatClampNeg) ∧ ∃ (v23 : Int32) (I24 : Nat → Nat → Int32), Runs (GW L xs) d 112 (0, [.ref 7, .int a3], [], (zS I22 J tg)) ((some (.int v23)), (zS I24 J tg)) ∧ ∃ (v25 : Int32) (I26 : Nat → Nat → Int32), Runs (GW L xs) d 112 (0, [.ref 7, .int v21], [], (zS I24 J tg)) ((some (.int v25)), (zS I26 J tg)) ∧ ∃ (v27 : Int32) (I28 : Nat → Nat → Int32), Runs (GW L xs) d 35 (0, [.ref 86, .int (I22 90 ((a1).toNatClampNeg)), .int a2, .int v23, .int v25, vU, vU, vU, vU], [], (zS I26 J tg)) ((some (.int v27)), (zS I28 J tg)) ∧ r = (some (.int v27), (zS I28 J tg)))))) : Runs (GW L xs) (d + 1) 34 (0, [.ref 86, .int a1, .int a2, .int a3, vU], [], (zS I J tg)) r := by
  refine Runs.sN 6 (c' := (10, [.ref 86, .int a1, .int a2, .int a3, vU], [.int (I 18 3), .int (a1 + 1)], (zS I J tg))) rfl ?_
  by_cases c29 : (I 18 3) ≤ (a1 + 1)
  · rw [if_pos c29] at h
    refine Runs.brT (P := (I 18 3) ≤ (a1 + 1)) (a := 31) (b := 13) (L := [.ref 86, .int a1, .int a2, .int a3, vU]) (S := []) (z := (zS I J tg)) rfl c29 ?_
    refine Runs.sN 6 (c' := (40, [.ref 86, .int a1, .int a2, .int a3, .int (-1)], [.int a1, .ref 90, .ref 86], (zS I J tg))) rfl ?_
    obtain ⟨c30, h⟩ := h
    refine Runs.to (c' := (41, [.ref 86, .int a1, .int a2, .int a3, .int (-1)], [.int (I 90 ((a1).toNatClampNeg)), .ref 86], (zS I J tg))) (Runs.ild rfl (show (90 : Nat) < 114 by decide) rfl c30) ?_
    refine Runs.sN 4 (c' := (47, [.ref 86, .int a1, .int a2, .int a3, .int (-1)], [.int a3, .ref 7, .int a2, .int (I 90 ((a1).toNatClampNeg)), .ref 86], (zS I J tg))) rfl ?_
    obtain ⟨v15, I16, c31, h⟩ := h
    refine Runs.cl (cm := 112) (as := [.ref 7, .int a3]) (rest := [.int a2, .int (I 90 ((a1).toNatClampNeg)), .ref 86]) (r1 := ((some (.int v15)), (zS I16 J tg))) rfl (Nat.le_of_ble_eq_true rfl) c31 ?_
    refine Runs.as (c' := (50, [.ref 86, .int a1, .int a2, .int a3, .int (-1)], [.int v15, .int a2, .int (I 90 ((a1).toNatClampNeg)), .ref 86], (zS I16 J tg))) rfl ?_
    refine Runs.sN 3 (c' := (56, [.ref 86, .int a1, .int a2, .int a3, .int (-1)], [.int (-1), .ref 7, .int v15, .int a2, .int (I 90 ((a1).toNatClampNeg)), .ref 86], (zS I16 J tg))) rfl ?_
    obtain ⟨v17, I18, c32, h⟩ := h
    refine Runs.cl (cm := 112) (as := [.ref 7, .int (-1)]) (rest := [.int v15, .int a2, .int (I 90 ((a1).toNatClampNeg)), .ref 86]) (r1 := ((some (.int v17)), (zS I18 J tg))) rfl (Nat.le_of_ble_eq_true rfl) c32 ?_
    refine Runs.as (c' := (59, [.ref 86, .int a1, .int a2, .int a3, .int (-1)], [.int v17, .int v15, .int a2, .int (I 90 ((a1).toNatClampNeg)), .ref 86], (zS I18 J tg))) rfl ?_
    obtain ⟨v19, I20, c33, h⟩ := h
    refine Runs.cl (cm := 35) (as := [.ref 86, .int (I 90 ((a1).toNatClampNeg)), .int a2, .int v15, .int v17]) (rest := []) (r1 := ((some (.int v19)), (zS I20 J tg))) rfl (Nat.le_of_ble_eq_true rfl) c33 ?_
    refine Runs.as (c' := (62, [.ref 86, .int a1, .int a2, .int a3, .int (-1)], [.int v19], (zS I20 J tg))) rfl ?_
    subst h
    exact Runs.rt rfl
  · rw [if_neg c29] at h
    refine Runs.brF (P := (I 18 3) ≤ (a1 + 1)) (a := 31) (b := 13) (L := [.ref 86, .int a1, .int a2, .int a3, vU]) (S := []) (z := (zS I J tg)) rfl c29 ?_
    refine Runs.sN 6 (c' := (21, [.ref 86, .int a1, .int a2, .int a3, vU], [.int (a1 + 1), .ref 90, .ref 86], (zS I J tg))) rfl ?_
    obtain ⟨c34, h⟩ := h
    refine Runs.to (c' := (22, [.ref 86, .int a1, .int a2, .int a3, vU], [.int (I 90 ((a1 + 1).toNatClampNeg)), .ref 86], (zS I J tg))) (Runs.ild rfl (show (90 : Nat) < 114 by decide) rfl c34) ?_
    refine Runs.sN 3 (c' := (25, [.ref 86, .int a1, .int a2, .int a3, vU], [.int 0, .int 0, .int a2, .int (I 90 ((a1 + 1).toNatClampNeg)), .ref 86], (zS I J tg))) rfl ?_
    obtain ⟨v21, I22, c35, h⟩ := h
    refine Runs.cl (cm := 35) (as := [.ref 86, .int (I 90 ((a1 + 1).toNatClampNeg)), .int a2, .int 0, .int 0]) (rest := []) (r1 := ((some (.int v21)), (zS I22 J tg))) rfl (Nat.le_of_ble_eq_true rfl) c35 ?_
    refine Runs.as (c' := (28, [.ref 86, .int a1, .int a2, .int a3, vU], [.int v21], (zS I22 J tg))) rfl ?_
    refine Runs.sN 6 (c' := (40, [.ref 86, .int a1, .int a2, .int a3, .int v21], [.int a1, .ref 90, .ref 86], (zS I22 J tg))) rfl ?_
    obtain ⟨c36, h⟩ := h
    refine Runs.to (c' := (41, [.ref 86, .int a1, .int a2, .int a3, .int v21], [.int (I22 90 ((a1).toNatClampNeg)), .ref 86], (zS I22 J tg))) (Runs.ild rfl (show (90 : Nat) < 114 by decide) rfl c36) ?_
    refine Runs.sN 4 (c' := (47, [.ref 86, .int a1, .int a2, .int a3, .int v21], [.int a3, .ref 7, .int a2, .int (I22 90 ((a1).toNatClampNeg)), .ref 86], (zS I22 J tg))) rfl ?_
    obtain ⟨v23, I24, c37, h⟩ := h
    refine Runs.cl (cm := 112) (as := [.ref 7, .int a3]) (rest := [.int a2, .int (I22 90 ((a1).toNatClampNeg)), .ref 86]) (r1 := ((some (.int v23)), (zS I24 J tg))) rfl (Nat.le_of_ble_eq_true rfl) c37 ?_
    refine Runs.as (c' := (50, [.ref 86, .int a1, .int a2, .int a3, .int v21], [.int v23, .int a2, .int (I22 90 ((a1).toNatClampNeg)), .ref 86], (zS I24 J tg))) rfl ?_
    refine Runs.sN 3 (c' := (56, [.ref 86, .int a1, .int a2, .int a3, .int v21], [.int v21, .ref 7, .int v23, .int a2, .int (I22 90 ((a1).toNatClampNeg)), .ref 86], (zS I24 J tg))) rfl ?_
    obtain ⟨v25, I26, c38, h⟩ := h
    refine Runs.cl (cm := 112) (as := [.ref 7, .int v21]) (rest := [.int v23, .int a2, .int (I22 90 ((a1).toNatClampNeg)), .ref 86]) (r1 := ((some (.int v25)), (zS I26 J tg))) rfl (Nat.le_of_ble_eq_true rfl) c38 ?_
    refine Runs.as (c' := (59, [.ref 86, .int a1, .int a2, .int a3, .int v21], [.int v25, .int v23, .int a2, .int (I22 90 ((a1).toNatClampNeg)), .ref 86], (zS I26 J tg))) rfl ?_
    obtain ⟨v27, I28, c39, h⟩ := h
    refine Runs.cl (cm := 35) (as := [.ref 86, .int (I22 90 ((a1).toNatClampNeg)), .int a2, .int v23, .int v25]) (rest := []) (r1 := ((some (.int v27)), (zS I28 J tg))) rfl (Nat.le_of_ble_eq_true rfl) c39 ?_
    refine Runs.as (c' := (62, [.ref 86, .int a1, .int a2, .int a3, .int v21], [.int v27], (zS I28 J tg))) rfl ?_
    subst h
    exact Runs.rt rfl
-- X3_takenBeside 
theorem sg_35 {L d : Nat} {xs : Nat → Int32} (I : Nat → Nat → Int32) (J : Nat → Nat → Int64) (tg : Option Nat) (a1 : Int32) (a2 : Int32) (a3 : Int32) (a4 : Int32) {r : Option Value × SS} (h : (¬ (((((((a1 * 6) + a2) * 6) + a3) * 6) + a4) < 0 ∨ 1728 ≤ ((((((a1 * 6) + a2) * 6) + a3) * 6) + a4).toNatClampNeg) ∧ (if (I 89 (((((((a1 * 6) + a2) * 6) + a3) * 6) + a4).toNatClampNeg)) = (-2) then (Runs (GW L xs) (d + 1) 35 (37, [.ref 86, .int a1, .int a2, .int a3, .int a4, .int ((((((a1 * 6) + a2) * 6) + a3) * 6) + a4), .int 0, .int 0, vU], [], (zS I J tg)) r) else (¬ (((((((a1 * 6) + a2) * 6) + a3) * 6) + a4) < 0 ∨ 1728 ≤ ((((((a1 * 6) + a2) * 6) + a3) * 6) + a4).toNatClampNeg) ∧ r = (some (.int (I 89 (((((((a1 * 6) + a2) * 6) + a3) * 6) + a4).toNatClampNeg))), (zS I J tg)))))) : Runs (GW L xs) (d + 1) 35 (0, [.ref 86, .int a1, .int a2, .int a3, .int a4, vU, vU, vU, vU], [], (zS I J tg)) r := by
  refine Runs.sN 17 (c' := (25, [.ref 86, .int a1, .int a2, .int a3, .int a4, .int ((((((a1 * 6) + a2) * 6) + a3) * 6) + a4), vU, vU, vU], [.int ((((((a1 * 6) + a2) * 6) + a3) * 6) + a4), .ref 89], (zS I J tg))) rfl ?_
  obtain ⟨c3, h⟩ := h
  refine Runs.to (c' := (26, [.ref 86, .int a1, .int a2, .int a3, .int a4, .int ((((((a1 * 6) + a2) * 6) + a3) * 6) + a4), vU, vU, vU], [.int (I 89 (((((((a1 * 6) + a2) * 6) + a3) * 6) + a4).toNatClampNeg))], (zS I J tg))) (Runs.ild rfl (show (89 : Nat) < 114 by decide) rfl c3) ?_
  refine Runs.sN 1 (c' := (28, [.ref 86, .int a1, .int a2, .int a3, .int a4, .int ((((((a1 * 6) + a2) * 6) + a3) * 6) + a4), vU, vU, vU], [.int (-2), .int (I 89 (((((((a1 * 6) + a2) * 6) + a3) * 6) + a4).toNatClampNeg))], (zS I J tg))) rfl ?_
  by_cases c4 : (I 89 (((((((a1 * 6) + a2) * 6) + a3) * 6) + a4).toNatClampNeg)) = (-2)
  · rw [if_pos c4] at h
    refine Runs.brT (P := (I 89 (((((((a1 * 6) + a2) * 6) + a3) * 6) + a4).toNatClampNeg)) = (-2)) (a := 31) (b := 122) (L := [.ref 86, .int a1, .int a2, .int a3, .int a4, .int ((((((a1 * 6) + a2) * 6) + a3) * 6) + a4), vU, vU, vU]) (S := []) (z := (zS I J tg)) rfl c4 ?_
    refine Runs.sN 4 (c' := (37, [.ref 86, .int a1, .int a2, .int a3, .int a4, .int ((((((a1 * 6) + a2) * 6) + a3) * 6) + a4), .int 0, .int 0, vU], [], (zS I J tg))) rfl ?_
    exact h
  · rw [if_neg c4] at h
    refine Runs.brF (P := (I 89 (((((((a1 * 6) + a2) * 6) + a3) * 6) + a4).toNatClampNeg)) = (-2)) (a := 31) (b := 122) (L := [.ref 86, .int a1, .int a2, .int a3, .int a4, .int ((((((a1 * 6) + a2) * 6) + a3) * 6) + a4), vU, vU, vU]) (S := []) (z := (zS I J tg)) rfl c4 ?_
    refine Runs.sN 3 (c' := (128, [.ref 86, .int a1, .int a2, .int a3, .int a4, .int ((((((a1 * 6) + a2) * 6) + a3) * 6) + a4), vU, vU, vU], [.int ((((((a1 * 6) + a2) * 6) + a3) * 6) + a4), .ref 89], (zS I J tg))) rfl ?_
    obtain ⟨c5, h⟩ := h
    refine Runs.to (c' := (129, [.ref 86, .int a1, .int a2, .int a3, .int a4, .int ((((((a1 * 6) + a2) * 6) + a3) * 6) + a4), vU, vU, vU], [.int (I 89 (((((((a1 * 6) + a2) * 6) + a3) * 6) + a4).toNatClampNeg))], (zS I J tg))) (Runs.ild rfl (show (89 : Nat) < 114 by decide) rfl c5) ?_
    subst h
    exact Runs.rt rfl
theorem sg_35_37 {L d : Nat} {xs : Nat → Int32} (I : Nat → Nat → Int32) (J : Nat → Nat → Int64) (tg : Option Nat) (x1 : Int32) (x2 : Int32) (x3 : Int32) (x4 : Int32) (x5 : Int32) (x6 : Int32) (x7 : Int32) {r : Option Value × SS} (h : ((if 12 ≤ x7 then (¬ (x2 < 0 ∨ 6 ≤ (x2).toNatClampNeg) ∧ ∃ (v1 : Int32) (I2 : Nat → Nat → Int32), Runs (GW L xs) d 113 (0, [.ref 7, .ref 87, .int (x1 * 12), .int (I 9 ((x2).toNatClampNeg)), .int x6, vU, vU, vU, vU], [], (zS I J tg)) ((some (.int v1)), (zS I2 J tg)) ∧ ¬ (x5 < 0 ∨ 1728 ≤ (x5).toNatClampNeg) ∧ ¬ (x5 < 0 ∨ 1728 ≤ (x5).toNatClampNeg) ∧ r = (some (.int ((up2 I2 89 ((x5).toNatClampNeg) v1) 89 ((x5).toNatClampNeg))), (zS (up2 I2 89 ((x5).toNatClampNeg) v1) J tg))) else (¬ (x7 < 0 ∨ 12 ≤ (x7).toNatClampNeg) ∧ (if (I 11 ((x7).toNatClampNeg)) = 0 then (Runs (GW L xs) (d + 1) 35 (37, [.ref 86, .int x1, .int x2, .int x3, .int x4, .int x5, .int x6, .int (x7 + 1), vU], [], (zS I J tg)) r) else ((if (I 11 ((x7).toNatClampNeg)) = x3 then (Runs (GW L xs) (d + 1) 35 (37, [.ref 86, .int x1, .int x2, .int x3, .int x4, .int x5, .int (x6 ||| (1 <<< (x7 &&& 31))), .int (x7 + 1), vU], [], (zS I J tg)) r) else ((if (I 11 ((x7).toNatClampNeg)) = x4 then (Runs (GW L xs) (d + 1) 35 (37, [.ref 86, .int x1, .int x2, .int x3, .int x4, .int x5, .int (x6 ||| (1 <<< (x7 &&& 31))), .int (x7 + 1), vU], [], (zS I J tg)) r) else (Runs (GW L xs) (d + 1) 35 (37, [.ref 86, .int x1, .int x2, .int x3, .int x4, .int x5, .int x6, .int (x7 + 1), vU], [], (zS I J tg)) r)))))))))) : Runs (GW L xs) (d + 1) 35 (37, [.ref 86, .int x1, .int x2, .int x3, .int x4, .int x5, .int x6, .int x7, vU], [], (zS I J tg)) r := by
  refine Runs.sN 2 (c' := (41, [.ref 86, .int x1, .int x2, .int x3, .int x4, .int x5, .int x6, .int x7, vU], [.int 12, .int x7], (zS I J tg))) rfl ?_
  by_cases c3 : 12 ≤ x7
  · rw [if_pos c3] at h
    refine Runs.brT (P := 12 ≤ x7) (a := 89) (b := 44) (L := [.ref 86, .int x1, .int x2, .int x3, .int x4, .int x5, .int x6, .int x7, vU]) (S := []) (z := (zS I J tg)) rfl c3 ?_
    refine Runs.sN 14 (c' := (115, [.ref 86, .int x1, .int x2, .int x3, .int x4, .int x5, .int x6, .int x7, vU], [.int x2, .ref 9, .int (x1 * 12), .ref 87, .ref 7, .int x5, .ref 89], (zS I J tg))) rfl ?_
    obtain ⟨c4, h⟩ := h
    refine Runs.to (c' := (116, [.ref 86, .int x1, .int x2, .int x3, .int x4, .int x5, .int x6, .int x7, vU], [.int (I 9 ((x2).toNatClampNeg)), .int (x1 * 12), .ref 87, .ref 7, .int x5, .ref 89], (zS I J tg))) (Runs.ild rfl (show (9 : Nat) < 114 by decide) rfl c4) ?_
    refine Runs.sN 1 (c' := (118, [.ref 86, .int x1, .int x2, .int x3, .int x4, .int x5, .int x6, .int x7, vU], [.int x6, .int (I 9 ((x2).toNatClampNeg)), .int (x1 * 12), .ref 87, .ref 7, .int x5, .ref 89], (zS I J tg))) rfl ?_
    obtain ⟨v1, I2, c5, h⟩ := h
    refine Runs.cl (cm := 113) (as := [.ref 7, .ref 87, .int (x1 * 12), .int (I 9 ((x2).toNatClampNeg)), .int x6]) (rest := [.int x5, .ref 89]) (r1 := ((some (.int v1)), (zS I2 J tg))) rfl (Nat.le_of_ble_eq_true rfl) c5 ?_
    refine Runs.as (c' := (121, [.ref 86, .int x1, .int x2, .int x3, .int x4, .int x5, .int x6, .int x7, vU], [.int v1, .int x5, .ref 89], (zS I2 J tg))) rfl ?_
    obtain ⟨c6, h⟩ := h
    refine Runs.to (c' := (122, [.ref 86, .int x1, .int x2, .int x3, .int x4, .int x5, .int x6, .int x7, vU], [], (zS (up2 I2 89 ((x5).toNatClampNeg) v1) J tg))) (Runs.ist rfl (show (89 : Nat) < 114 by decide) rfl c6) ?_
    refine Runs.sN 3 (c' := (128, [.ref 86, .int x1, .int x2, .int x3, .int x4, .int x5, .int x6, .int x7, vU], [.int x5, .ref 89], (zS (up2 I2 89 ((x5).toNatClampNeg) v1) J tg))) rfl ?_
    obtain ⟨c7, h⟩ := h
    refine Runs.to (c' := (129, [.ref 86, .int x1, .int x2, .int x3, .int x4, .int x5, .int x6, .int x7, vU], [.int ((up2 I2 89 ((x5).toNatClampNeg) v1) 89 ((x5).toNatClampNeg))], (zS (up2 I2 89 ((x5).toNatClampNeg) v1) J tg))) (Runs.ild rfl (show (89 : Nat) < 114 by decide) rfl c7) ?_
    subst h
    exact Runs.rt rfl
  · rw [if_neg c3] at h
    refine Runs.brF (P := 12 ≤ x7) (a := 89) (b := 44) (L := [.ref 86, .int x1, .int x2, .int x3, .int x4, .int x5, .int x6, .int x7, vU]) (S := []) (z := (zS I J tg)) rfl c3 ?_
    refine Runs.sN 4 (c' := (53, [.ref 86, .int x1, .int x2, .int x3, .int x4, .int x5, .int x6, .int x7, vU], [.int x7, .ref 11], (zS I J tg))) rfl ?_
    obtain ⟨c8, h⟩ := h
    refine Runs.to (c' := (54, [.ref 86, .int x1, .int x2, .int x3, .int x4, .int x5, .int x6, .int x7, vU], [.int (I 11 ((x7).toNatClampNeg))], (zS I J tg))) (Runs.ild rfl (show (11 : Nat) < 114 by decide) rfl c8) ?_
    refine Runs.sN 2 (c' := (58, [.ref 86, .int x1, .int x2, .int x3, .int x4, .int x5, .int x6, .int x7, .int (I 11 ((x7).toNatClampNeg))], [.int (I 11 ((x7).toNatClampNeg))], (zS I J tg))) rfl ?_
    by_cases c9 : (I 11 ((x7).toNatClampNeg)) = 0
    · rw [if_pos c9] at h
      refine Runs.brT (P := (I 11 ((x7).toNatClampNeg)) = 0) (a := 83) (b := 61) (L := [.ref 86, .int x1, .int x2, .int x3, .int x4, .int x5, .int x6, .int x7, .int (I 11 ((x7).toNatClampNeg))]) (S := []) (z := (zS I J tg)) rfl c9 ?_
      refine Runs.sN 2 (c' := (37, [.ref 86, .int x1, .int x2, .int x3, .int x4, .int x5, .int x6, .int (x7 + 1), .int (I 11 ((x7).toNatClampNeg))], [], (zS I J tg))) rfl ?_
      exact Runs.weak (L := [.ref 86, .int x1, .int x2, .int x3, .int x4, .int x5, .int x6, .int (x7 + 1), vU]) (Lle.k (Lle.k (Lle.k (Lle.k (Lle.k (Lle.k (Lle.k (Lle.k (Lle.u Lle.n))))))))) h
    · rw [if_neg c9] at h
      refine Runs.brF (P := (I 11 ((x7).toNatClampNeg)) = 0) (a := 83) (b := 61) (L := [.ref 86, .int x1, .int x2, .int x3, .int x4, .int x5, .int x6, .int x7, .int (I 11 ((x7).toNatClampNeg))]) (S := []) (z := (zS I J tg)) rfl c9 ?_
      refine Runs.sN 2 (c' := (64, [.ref 86, .int x1, .int x2, .int x3, .int x4, .int x5, .int x6, .int x7, .int (I 11 ((x7).toNatClampNeg))], [.int x3, .int (I 11 ((x7).toNatClampNeg))], (zS I J tg))) rfl ?_
      by_cases c10 : (I 11 ((x7).toNatClampNeg)) = x3
      · rw [if_pos c10] at h
        refine Runs.brT (P := (I 11 ((x7).toNatClampNeg)) = x3) (a := 74) (b := 67) (L := [.ref 86, .int x1, .int x2, .int x3, .int x4, .int x5, .int x6, .int x7, .int (I 11 ((x7).toNatClampNeg))]) (S := []) (z := (zS I J tg)) rfl c10 ?_
        refine Runs.sN 8 (c' := (37, [.ref 86, .int x1, .int x2, .int x3, .int x4, .int x5, .int (x6 ||| (1 <<< (x7 &&& 31))), .int (x7 + 1), .int (I 11 ((x7).toNatClampNeg))], [], (zS I J tg))) rfl ?_
        exact Runs.weak (L := [.ref 86, .int x1, .int x2, .int x3, .int x4, .int x5, .int (x6 ||| (1 <<< (x7 &&& 31))), .int (x7 + 1), vU]) (Lle.k (Lle.k (Lle.k (Lle.k (Lle.k (Lle.k (Lle.k (Lle.k (Lle.u Lle.n))))))))) h
      · rw [if_neg c10] at h
        refine Runs.brF (P := (I 11 ((x7).toNatClampNeg)) = x3) (a := 74) (b := 67) (L := [.ref 86, .int x1, .int x2, .int x3, .int x4, .int x5, .int x6, .int x7, .int (I 11 ((x7).toNatClampNeg))]) (S := []) (z := (zS I J tg)) rfl c10 ?_
        refine Runs.sN 2 (c' := (71, [.ref 86, .int x1, .int x2, .int x3, .int x4, .int x5, .int x6, .int x7, .int (I 11 ((x7).toNatClampNeg))], [.int x4, .int (I 11 ((x7).toNatClampNeg))], (zS I J tg))) rfl ?_
        by_cases c11 : (I 11 ((x7).toNatClampNeg)) = x4
        · rw [if_pos c11] at h
          refine Runs.brT (P := (I 11 ((x7).toNatClampNeg)) = x4) (a := 74) (b := 83) (L := [.ref 86, .int x1, .int x2, .int x3, .int x4, .int x5, .int x6, .int x7, .int (I 11 ((x7).toNatClampNeg))]) (S := []) (z := (zS I J tg)) rfl c11 ?_
          refine Runs.sN 8 (c' := (37, [.ref 86, .int x1, .int x2, .int x3, .int x4, .int x5, .int (x6 ||| (1 <<< (x7 &&& 31))), .int (x7 + 1), .int (I 11 ((x7).toNatClampNeg))], [], (zS I J tg))) rfl ?_
          exact Runs.weak (L := [.ref 86, .int x1, .int x2, .int x3, .int x4, .int x5, .int (x6 ||| (1 <<< (x7 &&& 31))), .int (x7 + 1), vU]) (Lle.k (Lle.k (Lle.k (Lle.k (Lle.k (Lle.k (Lle.k (Lle.k (Lle.u Lle.n))))))))) h
        · rw [if_neg c11] at h
          refine Runs.brF (P := (I 11 ((x7).toNatClampNeg)) = x4) (a := 74) (b := 83) (L := [.ref 86, .int x1, .int x2, .int x3, .int x4, .int x5, .int x6, .int x7, .int (I 11 ((x7).toNatClampNeg))]) (S := []) (z := (zS I J tg)) rfl c11 ?_
          refine Runs.sN 2 (c' := (37, [.ref 86, .int x1, .int x2, .int x3, .int x4, .int x5, .int x6, .int (x7 + 1), .int (I 11 ((x7).toNatClampNeg))], [], (zS I J tg))) rfl ?_
          exact Runs.weak (L := [.ref 86, .int x1, .int x2, .int x3, .int x4, .int x5, .int x6, .int (x7 + 1), vU]) (Lle.k (Lle.k (Lle.k (Lle.k (Lle.k (Lle.k (Lle.k (Lle.k (Lle.u Lle.n))))))))) h
-- X3_seekOrder 
theorem sg_36 {L d : Nat} {xs : Nat → Int32} (I : Nat → Nat → Int32) (J : Nat → Nat → Int64) (tg : Option Nat) {r : Option Value × SS} (h : (∃ (I2 : Nat → Nat → Int32), Runs (GW L xs) d 37 (0, [.ref 86, .int 0, .int 0, vU], [], (zS (up2 I 86 8 (-1)) J tg)) (none, (zS I2 J tg)) ∧ r = (none, (zS I2 J tg)))) : Runs (GW L xs) (d + 1) 36 (0, [.ref 86], [], (zS I J tg)) r := by
  refine Runs.sN 6 (c' := (8, [.ref 86], [.int 0, .int 0, .ref 86], (zS (up2 I 86 8 (-1)) J tg))) rfl ?_
  obtain ⟨I2, c3, h⟩ := h
  refine Runs.cl (cm := 37) (as := [.ref 86, .int 0, .int 0]) (rest := []) (r1 := (none, (zS I2 J tg))) rfl (Nat.le_of_ble_eq_true rfl) c3 ?_
  refine Runs.as (c' := (11, [.ref 86], [], (zS I2 J tg))) rfl ?_
  subst h
  exact Runs.rt rfl
-- X3_arrange 
theorem sg_37 {L d : Nat} {xs : Nat → Int32} (I : Nat → Nat → Int32) (J : Nat → Nat → Int64) (tg : Option Nat) (a1 : Int32) (a2 : Int32) {r : Option Value × SS} (h : ((if a1 < (I 18 3) then (Runs (GW L xs) (d + 1) 37 (18, [.ref 86, .int a1, .int a2, .int 0], [], (zS I J tg)) r) else (∃ (I4 : Nat → Nat → Int32), Runs (GW L xs) d 38 (0, [.ref 86, vU, vU, vU, vU], [], (zS I J tg)) (none, (zS I4 J tg)) ∧ r = (none, (zS I4 J tg)))))) : Runs (GW L xs) (d + 1) 37 (0, [.ref 86, .int a1, .int a2, vU], [], (zS I J tg)) r := by
  refine Runs.sN 4 (c' := (8, [.ref 86, .int a1, .int a2, vU], [.int (I 18 3), .int a1], (zS I J tg))) rfl ?_
  by_cases c5 : a1 < (I 18 3)
  · rw [if_pos c5] at h
    refine Runs.brT (P := a1 < (I 18 3)) (a := 16) (b := 11) (L := [.ref 86, .int a1, .int a2, vU]) (S := []) (z := (zS I J tg)) rfl c5 ?_
    refine Runs.sN 2 (c' := (18, [.ref 86, .int a1, .int a2, .int 0], [], (zS I J tg))) rfl ?_
    exact h
  · rw [if_neg c5] at h
    refine Runs.brF (P := a1 < (I 18 3)) (a := 16) (b := 11) (L := [.ref 86, .int a1, .int a2, vU]) (S := []) (z := (zS I J tg)) rfl c5 ?_
    refine Runs.sN 1 (c' := (12, [.ref 86, .int a1, .int a2, vU], [.ref 86], (zS I J tg))) rfl ?_
    obtain ⟨I4, c6, h⟩ := h
    refine Runs.cl (cm := 38) (as := [.ref 86]) (rest := []) (r1 := (none, (zS I4 J tg))) rfl (Nat.le_of_ble_eq_true rfl) c6 ?_
    refine Runs.as (c' := (15, [.ref 86, .int a1, .int a2, vU], [], (zS I4 J tg))) rfl ?_
    subst h
    exact Runs.rt rfl
theorem sg_37_18 {L d : Nat} {xs : Nat → Int32} (I : Nat → Nat → Int32) (J : Nat → Nat → Int64) (tg : Option Nat) (x1 : Int32) (x2 : Int32) (x3 : Int32) {r : Option Value × SS} (h : ((if (I 18 3) ≤ x3 then (r = (none, (zS I J tg))) else ((if ((x2 >>> (x3 &&& 31)) &&& 1) = 0 then (¬ (x1 < 0 ∨ 8 ≤ (x1).toNatClampNeg) ∧ ∃ (I1 : Nat → Nat → Int32), Runs (GW L xs) d 37 (0, [.ref 86, .int (x1 + 1), .int (x2 ||| (1 <<< (x3 &&& 31))), vU], [], (zS (up2 I 90 ((x1).toNatClampNeg) x3) J tg)) (none, (zS I1 J tg)) ∧ Runs (GW L xs) (d + 1) 37 (18, [.ref 86, .int x1, .int x2, .int (x3 + 1)], [], (zS I1 J tg)) r) else (Runs (GW L xs) (d + 1) 37 (18, [.ref 86, .int x1, .int x2, .int (x3 + 1)], [], (zS I J tg)) r)))))) : Runs (GW L xs) (d + 1) 37 (18, [.ref 86, .int x1, .int x2, .int x3], [], (zS I J tg)) r := by
  refine Runs.sN 4 (c' := (26, [.ref 86, .int x1, .int x2, .int x3], [.int (I 18 3), .int x3], (zS I J tg))) rfl ?_
  by_cases c2 : (I 18 3) ≤ x3
  · rw [if_pos c2] at h
    refine Runs.brT (P := (I 18 3) ≤ x3) (a := 62) (b := 29) (L := [.ref 86, .int x1, .int x2, .int x3]) (S := []) (z := (zS I J tg)) rfl c2 ?_
    subst h
    exact Runs.rt rfl
  · rw [if_neg c2] at h
    refine Runs.brF (P := (I 18 3) ≤ x3) (a := 62) (b := 29) (L := [.ref 86, .int x1, .int x2, .int x3]) (S := []) (z := (zS I J tg)) rfl c2 ?_
    refine Runs.sN 5 (c' := (34, [.ref 86, .int x1, .int x2, .int x3], [.int ((x2 >>> (x3 &&& 31)) &&& 1)], (zS I J tg))) rfl ?_
    by_cases c3 : ((x2 >>> (x3 &&& 31)) &&& 1) = 0
    · rw [if_pos c3] at h
      refine Runs.brT (P := ((x2 >>> (x3 &&& 31)) &&& 1) = 0) (a := 37) (b := 56) (L := [.ref 86, .int x1, .int x2, .int x3]) (S := []) (z := (zS I J tg)) rfl c3 ?_
      refine Runs.sN 4 (c' := (43, [.ref 86, .int x1, .int x2, .int x3], [.int x3, .int x1, .ref 90], (zS I J tg))) rfl ?_
      obtain ⟨c4, h⟩ := h
      refine Runs.to (c' := (44, [.ref 86, .int x1, .int x2, .int x3], [], (zS (up2 I 90 ((x1).toNatClampNeg) x3) J tg))) (Runs.ist rfl (show (90 : Nat) < 114 by decide) rfl c4) ?_
      refine Runs.sN 9 (c' := (53, [.ref 86, .int x1, .int x2, .int x3], [.int (x2 ||| (1 <<< (x3 &&& 31))), .int (x1 + 1), .ref 86], (zS (up2 I 90 ((x1).toNatClampNeg) x3) J tg))) rfl ?_
      obtain ⟨I1, c5, h⟩ := h
      refine Runs.cl (cm := 37) (as := [.ref 86, .int (x1 + 1), .int (x2 ||| (1 <<< (x3 &&& 31)))]) (rest := []) (r1 := (none, (zS I1 J tg))) rfl (Nat.le_of_ble_eq_true rfl) c5 ?_
      refine Runs.as (c' := (56, [.ref 86, .int x1, .int x2, .int x3], [], (zS I1 J tg))) rfl ?_
      refine Runs.sN 2 (c' := (18, [.ref 86, .int x1, .int x2, .int (x3 + 1)], [], (zS I1 J tg))) rfl ?_
      exact h
    · rw [if_neg c3] at h
      refine Runs.brF (P := ((x2 >>> (x3 &&& 31)) &&& 1) = 0) (a := 37) (b := 56) (L := [.ref 86, .int x1, .int x2, .int x3]) (S := []) (z := (zS I J tg)) rfl c3 ?_
      refine Runs.sN 2 (c' := (18, [.ref 86, .int x1, .int x2, .int (x3 + 1)], [], (zS I J tg))) rfl ?_
      exact h
-- X3_weighOrder 
theorem sg_38 {L d : Nat} {xs : Nat → Int32} (I : Nat → Nat → Int32) (J : Nat → Nat → Int64) (tg : Option Nat) {r : Option Value × SS} (h : (Runs (GW L xs) (d + 1) 38 (4, [.ref 86, .int 0, .int 0, vU, vU], [], (zS I J tg)) r)) : Runs (GW L xs) (d + 1) 38 (0, [.ref 86, vU, vU, vU, vU], [], (zS I J tg)) r := by
  refine Runs.sN 4 (c' := (4, [.ref 86, .int 0, .int 0, vU, vU], [], (zS I J tg))) rfl ?_
  exact h
theorem sg_38_4 {L d : Nat} {xs : Nat → Int32} (I : Nat → Nat → Int32) (J : Nat → Nat → Int64) (tg : Option Nat) (x1 : Int32) (x2 : Int32) {r : Option Value × SS} (h : ((if 6 ≤ x2 then ((if x1 ≤ (I 86 8) then (r = (none, (zS I J tg))) else (∃ (I1 : Nat → Nat → Int32), Runs (GW L xs) d 174 (0, [.ref 90, .ref 91], [], (zS (up2 I 86 8 x1) J tg)) (none, (zS I1 J tg)) ∧ r = (none, (zS I1 J tg))))) else (Runs (GW L xs) (d + 1) 38 (15, [.ref 86, .int x1, .int x2, .int (-1), .int 0], [], (zS I J tg)) r)))) : Runs (GW L xs) (d + 1) 38 (4, [.ref 86, .int x1, .int x2, vU, vU], [], (zS I J tg)) r := by
  refine Runs.sN 2 (c' := (7, [.ref 86, .int x1, .int x2, vU, vU], [.int 6, .int x2], (zS I J tg))) rfl ?_
  by_cases c2 : 6 ≤ x2
  · rw [if_pos c2] at h
    refine Runs.brT (P := 6 ≤ x2) (a := 113) (b := 10) (L := [.ref 86, .int x1, .int x2, vU, vU]) (S := []) (z := (zS I J tg)) rfl c2 ?_
    refine Runs.sN 3 (c' := (118, [.ref 86, .int x1, .int x2, vU, vU], [.int (I 86 8), .int x1], (zS I J tg))) rfl ?_
    by_cases c3 : x1 ≤ (I 86 8)
    · rw [if_pos c3] at h
      refine Runs.brT (P := x1 ≤ (I 86 8)) (a := 137) (b := 121) (L := [.ref 86, .int x1, .int x2, vU, vU]) (S := []) (z := (zS I J tg)) rfl c3 ?_
      subst h
      exact Runs.rt rfl
    · rw [if_neg c3] at h
      refine Runs.brF (P := x1 ≤ (I 86 8)) (a := 137) (b := 121) (L := [.ref 86, .int x1, .int x2, vU, vU]) (S := []) (z := (zS I J tg)) rfl c3 ?_
      refine Runs.sN 7 (c' := (134, [.ref 86, .int x1, .int x2, vU, vU], [.ref 91, .ref 90], (zS (up2 I 86 8 x1) J tg))) rfl ?_
      obtain ⟨I1, c4, h⟩ := h
      refine Runs.cl (cm := 174) (as := [.ref 90, .ref 91]) (rest := []) (r1 := (none, (zS I1 J tg))) rfl (Nat.le_of_ble_eq_true rfl) c4 ?_
      refine Runs.as (c' := (137, [.ref 86, .int x1, .int x2, vU, vU], [], (zS I1 J tg))) rfl ?_
      subst h
      exact Runs.rt rfl
  · rw [if_neg c2] at h
    refine Runs.brF (P := 6 ≤ x2) (a := 113) (b := 10) (L := [.ref 86, .int x1, .int x2, vU, vU]) (S := []) (z := (zS I J tg)) rfl c2 ?_
    refine Runs.sN 4 (c' := (15, [.ref 86, .int x1, .int x2, .int (-1), .int 0], [], (zS I J tg))) rfl ?_
    exact h
theorem sg_38_15 {L d : Nat} {xs : Nat → Int32} (I : Nat → Nat → Int32) (J : Nat → Nat → Int64) (tg : Option Nat) (x1 : Int32) (x2 : Int32) (x3 : Int32) (x4 : Int32) {r : Option Value × SS} (h : ((if (I 18 3) ≤ x4 then (Runs (GW L xs) (d + 1) 38 (4, [.ref 86, .int x1, .int (x2 + 1), vU, vU], [], (zS I J tg)) r) else (¬ (x2 < 0 ∨ 6 ≤ (x2).toNatClampNeg) ∧ (if (I 8 ((x2).toNatClampNeg)) ≤ 0 then (Runs (GW L xs) (d + 1) 38 (4, [.ref 86, .int x1, .int (x2 + 1), vU, vU], [], (zS I J tg)) r) else ((if x4 = 0 then (∃ (v1 : Int32) (I2 : Nat → Nat → Int32), Runs (GW L xs) d 35 (0, [.ref 86, .int (I 90 0), .int x2, .int 0, .int 0, vU, vU, vU, vU], [], (zS I J tg)) ((some (.int v1)), (zS I2 J tg)) ∧ ¬ (x4 < 0 ∨ 8 ≤ (x4).toNatClampNeg) ∧ ∃ (v3 : Int32) (I4 : Nat → Nat → Int32), Runs (GW L xs) d 39 (0, [.ref 86, .int (I2 90 ((x4).toNatClampNeg)), .int x2, .int v1, vU], [], (zS I2 J tg)) ((some (.int v3)), (zS I4 J tg)) ∧ (if v3 = 0 then (Runs (GW L xs) (d + 1) 38 (15, [.ref 86, .int (x1 + 0), .int x2, .int v1, .int (x4 + 1)], [], (zS I4 J tg)) r) else (¬ (x2 < 0 ∨ 6 ≤ (x2).toNatClampNeg) ∧ Runs (GW L xs) (d + 1) 38 (15, [.ref 86, .int (x1 + (I4 8 ((x2).toNatClampNeg))), .int x2, .int v1, .int (x4 + 1)], [], (zS I4 J tg)) r))) else (∃ (v5 : Int32) (I6 : Nat → Nat → Int32), Runs (GW L xs) d 34 (0, [.ref 86, .int x4, .int x2, .int x3, vU], [], (zS I J tg)) ((some (.int v5)), (zS I6 J tg)) ∧ ¬ (x4 < 0 ∨ 8 ≤ (x4).toNatClampNeg) ∧ ∃ (v7 : Int32) (I8 : Nat → Nat → Int32), Runs (GW L xs) d 39 (0, [.ref 86, .int (I6 90 ((x4).toNatClampNeg)), .int x2, .int v5, vU], [], (zS I6 J tg)) ((some (.int v7)), (zS I8 J tg)) ∧ (if v7 = 0 then (Runs (GW L xs) (d + 1) 38 (15, [.ref 86, .int (x1 + 0), .int x2, .int v5, .int (x4 + 1)], [], (zS I8 J tg)) r) else (¬ (x2 < 0 ∨ 6 ≤ (x2).toNatClampNeg) ∧ Runs (GW L xs) (d + 1) 38 (15, [.ref 86, .int (x1 + (I8 8 ((x2).toNatClampNeg))), .int x2, .int v5, .int (x4 + 1)], [], (zS I8 J tg)) r)))))))))) : Runs (GW L xs) (d + 1) 38 (15, [.ref 86, .int x1, .int x2, .int x3, .int x4], [], (zS I J tg)) r := by
  refine Runs.sN 4 (c' := (24, [.ref 86, .int x1, .int x2, .int x3, .int x4], [.int (I 18 3), .int x4], (zS I J tg))) rfl ?_
  by_cases c9 : (I 18 3) ≤ x4
  · rw [if_pos c9] at h
    refine Runs.brT (P := (I 18 3) ≤ x4) (a := 107) (b := 27) (L := [.ref 86, .int x1, .int x2, .int x3, .int x4]) (S := []) (z := (zS I J tg)) rfl c9 ?_
    refine Runs.sN 2 (c' := (4, [.ref 86, .int x1, .int (x2 + 1), .int x3, .int x4], [], (zS I J tg))) rfl ?_
    exact Runs.weak (L := [.ref 86, .int x1, .int (x2 + 1), vU, vU]) (Lle.k (Lle.k (Lle.k (Lle.u (Lle.u Lle.n))))) h
  · rw [if_neg c9] at h
    refine Runs.brF (P := (I 18 3) ≤ x4) (a := 107) (b := 27) (L := [.ref 86, .int x1, .int x2, .int x3, .int x4]) (S := []) (z := (zS I J tg)) rfl c9 ?_
    refine Runs.sN 4 (c' := (35, [.ref 86, .int x1, .int x2, .int x3, .int x4], [.int x2, .ref 8], (zS I J tg))) rfl ?_
    obtain ⟨c10, h⟩ := h
    refine Runs.to (c' := (36, [.ref 86, .int x1, .int x2, .int x3, .int x4], [.int (I 8 ((x2).toNatClampNeg))], (zS I J tg))) (Runs.ild rfl (show (8 : Nat) < 114 by decide) rfl c10) ?_
    by_cases c11 : (I 8 ((x2).toNatClampNeg)) ≤ 0
    · rw [if_pos c11] at h
      refine Runs.brT (P := (I 8 ((x2).toNatClampNeg)) ≤ 0) (a := 107) (b := 39) (L := [.ref 86, .int x1, .int x2, .int x3, .int x4]) (S := []) (z := (zS I J tg)) rfl c11 ?_
      refine Runs.sN 2 (c' := (4, [.ref 86, .int x1, .int (x2 + 1), .int x3, .int x4], [], (zS I J tg))) rfl ?_
      exact Runs.weak (L := [.ref 86, .int x1, .int (x2 + 1), vU, vU]) (Lle.k (Lle.k (Lle.k (Lle.u (Lle.u Lle.n))))) h
    · rw [if_neg c11] at h
      refine Runs.brF (P := (I 8 ((x2).toNatClampNeg)) ≤ 0) (a := 107) (b := 39) (L := [.ref 86, .int x1, .int x2, .int x3, .int x4]) (S := []) (z := (zS I J tg)) rfl c11 ?_
      refine Runs.sN 1 (c' := (41, [.ref 86, .int x1, .int x2, .int x3, .int x4], [.int x4], (zS I J tg))) rfl ?_
      by_cases c12 : x4 = 0
      · rw [if_pos c12] at h
        refine Runs.brT (P := x4 = 0) (a := 44) (b := 60) (L := [.ref 86, .int x1, .int x2, .int x3, .int x4]) (S := []) (z := (zS I J tg)) rfl c12 ?_
        refine Runs.sN 8 (c' := (54, [.ref 86, .int x1, .int x2, .int x3, .int x4], [.int 0, .int 0, .int x2, .int (I 90 0), .ref 86], (zS I J tg))) rfl ?_
        obtain ⟨v1, I2, c13, h⟩ := h
        refine Runs.cl (cm := 35) (as := [.ref 86, .int (I 90 0), .int x2, .int 0, .int 0]) (rest := []) (r1 := ((some (.int v1)), (zS I2 J tg))) rfl (Nat.le_of_ble_eq_true rfl) c13 ?_
        refine Runs.as (c' := (57, [.ref 86, .int x1, .int x2, .int x3, .int x4], [.int v1], (zS I2 J tg))) rfl ?_
        refine Runs.sN 7 (c' := (77, [.ref 86, .int x1, .int x2, .int v1, .int x4], [.int x4, .ref 90, .ref 86, .int x1], (zS I2 J tg))) rfl ?_
        obtain ⟨c14, h⟩ := h
        refine Runs.to (c' := (78, [.ref 86, .int x1, .int x2, .int v1, .int x4], [.int (I2 90 ((x4).toNatClampNeg)), .ref 86, .int x1], (zS I2 J tg))) (Runs.ild rfl (show (90 : Nat) < 114 by decide) rfl c14) ?_
        refine Runs.sN 2 (c' := (80, [.ref 86, .int x1, .int x2, .int v1, .int x4], [.int v1, .int x2, .int (I2 90 ((x4).toNatClampNeg)), .ref 86, .int x1], (zS I2 J tg))) rfl ?_
        obtain ⟨v3, I4, c15, h⟩ := h
        refine Runs.cl (cm := 39) (as := [.ref 86, .int (I2 90 ((x4).toNatClampNeg)), .int x2, .int v1]) (rest := [.int x1]) (r1 := ((some (.int v3)), (zS I4 J tg))) rfl (Nat.le_of_ble_eq_true rfl) c15 ?_
        refine Runs.as (c' := (83, [.ref 86, .int x1, .int x2, .int v1, .int x4], [.int v3, .int x1], (zS I4 J tg))) rfl ?_
        by_cases c16 : v3 = 0
        · rw [if_pos c16] at h
          refine Runs.brT (P := v3 = 0) (a := 98) (b := 86) (L := [.ref 86, .int x1, .int x2, .int v1, .int x4]) (S := [.int x1]) (z := (zS I4 J tg)) rfl c16 ?_
          refine Runs.sN 5 (c' := (15, [.ref 86, .int (x1 + 0), .int x2, .int v1, .int (x4 + 1)], [], (zS I4 J tg))) rfl ?_
          exact h
        · rw [if_neg c16] at h
          refine Runs.brF (P := v3 = 0) (a := 98) (b := 86) (L := [.ref 86, .int x1, .int x2, .int v1, .int x4]) (S := [.int x1]) (z := (zS I4 J tg)) rfl c16 ?_
          refine Runs.sN 4 (c' := (94, [.ref 86, .int x1, .int x2, .int v1, .int x4], [.int x2, .ref 8, .int x1], (zS I4 J tg))) rfl ?_
          obtain ⟨c17, h⟩ := h
          refine Runs.to (c' := (95, [.ref 86, .int x1, .int x2, .int v1, .int x4], [.int (I4 8 ((x2).toNatClampNeg)), .int x1], (zS I4 J tg))) (Runs.ild rfl (show (8 : Nat) < 114 by decide) rfl c17) ?_
          refine Runs.sN 5 (c' := (15, [.ref 86, .int (x1 + (I4 8 ((x2).toNatClampNeg))), .int x2, .int v1, .int (x4 + 1)], [], (zS I4 J tg))) rfl ?_
          exact h
      · rw [if_neg c12] at h
        refine Runs.brF (P := x4 = 0) (a := 44) (b := 60) (L := [.ref 86, .int x1, .int x2, .int x3, .int x4]) (S := []) (z := (zS I J tg)) rfl c12 ?_
        refine Runs.sN 4 (c' := (65, [.ref 86, .int x1, .int x2, .int x3, .int x4], [.int x3, .int x2, .int x4, .ref 86], (zS I J tg))) rfl ?_
        obtain ⟨v5, I6, c18, h⟩ := h
        refine Runs.cl (cm := 34) (as := [.ref 86, .int x4, .int x2, .int x3]) (rest := []) (r1 := ((some (.int v5)), (zS I6 J tg))) rfl (Nat.le_of_ble_eq_true rfl) c18 ?_
        refine Runs.as (c' := (68, [.ref 86, .int x1, .int x2, .int x3, .int x4], [.int v5], (zS I6 J tg))) rfl ?_
        refine Runs.sN 6 (c' := (77, [.ref 86, .int x1, .int x2, .int v5, .int x4], [.int x4, .ref 90, .ref 86, .int x1], (zS I6 J tg))) rfl ?_
        obtain ⟨c19, h⟩ := h
        refine Runs.to (c' := (78, [.ref 86, .int x1, .int x2, .int v5, .int x4], [.int (I6 90 ((x4).toNatClampNeg)), .ref 86, .int x1], (zS I6 J tg))) (Runs.ild rfl (show (90 : Nat) < 114 by decide) rfl c19) ?_
        refine Runs.sN 2 (c' := (80, [.ref 86, .int x1, .int x2, .int v5, .int x4], [.int v5, .int x2, .int (I6 90 ((x4).toNatClampNeg)), .ref 86, .int x1], (zS I6 J tg))) rfl ?_
        obtain ⟨v7, I8, c20, h⟩ := h
        refine Runs.cl (cm := 39) (as := [.ref 86, .int (I6 90 ((x4).toNatClampNeg)), .int x2, .int v5]) (rest := [.int x1]) (r1 := ((some (.int v7)), (zS I8 J tg))) rfl (Nat.le_of_ble_eq_true rfl) c20 ?_
        refine Runs.as (c' := (83, [.ref 86, .int x1, .int x2, .int v5, .int x4], [.int v7, .int x1], (zS I8 J tg))) rfl ?_
        by_cases c21 : v7 = 0
        · rw [if_pos c21] at h
          refine Runs.brT (P := v7 = 0) (a := 98) (b := 86) (L := [.ref 86, .int x1, .int x2, .int v5, .int x4]) (S := [.int x1]) (z := (zS I8 J tg)) rfl c21 ?_
          refine Runs.sN 5 (c' := (15, [.ref 86, .int (x1 + 0), .int x2, .int v5, .int (x4 + 1)], [], (zS I8 J tg))) rfl ?_
          exact h
        · rw [if_neg c21] at h
          refine Runs.brF (P := v7 = 0) (a := 98) (b := 86) (L := [.ref 86, .int x1, .int x2, .int v5, .int x4]) (S := [.int x1]) (z := (zS I8 J tg)) rfl c21 ?_
          refine Runs.sN 4 (c' := (94, [.ref 86, .int x1, .int x2, .int v5, .int x4], [.int x2, .ref 8, .int x1], (zS I8 J tg))) rfl ?_
          obtain ⟨c22, h⟩ := h
          refine Runs.to (c' := (95, [.ref 86, .int x1, .int x2, .int v5, .int x4], [.int (I8 8 ((x2).toNatClampNeg)), .int x1], (zS I8 J tg))) (Runs.ild rfl (show (8 : Nat) < 114 by decide) rfl c22) ?_
          refine Runs.sN 5 (c' := (15, [.ref 86, .int (x1 + (I8 8 ((x2).toNatClampNeg))), .int x2, .int v5, .int (x4 + 1)], [], (zS I8 J tg))) rfl ?_
          exact h
-- X3_isRight 
theorem sg_39 {L d : Nat} {xs : Nat → Int32} (I : Nat → Nat → Int32) (J : Nat → Nat → Int64) (tg : Option Nat) (a1 : Int32) (a2 : Int32) (a3 : Int32) {r : Option Value × SS} (h : (¬ (a1 < 0 ∨ 8 ≤ (a1).toNatClampNeg) ∧ ¬ ((((I 22 ((a1).toNatClampNeg)) * 6) + a2) < 0 ∨ 72 ≤ (((I 22 ((a1).toNatClampNeg)) * 6) + a2).toNatClampNeg) ∧ (if (I 12 ((((I 22 ((a1).toNatClampNeg)) * 6) + a2).toNatClampNeg)) < 500 then ((if (0 : Int32) = 0 then ((if a3 = (-1) then (r = (some (.int 0), (zS I J tg))) else (¬ (a1 < 0 ∨ 8 ≤ (a1).toNatClampNeg) ∧ (if a3 = (I 88 ((a1).toNatClampNeg)) then (r = (some (.int 1), (zS I J tg))) else (r = (some (.int 0), (zS I J tg))))))) else (r = (some (.int 1), (zS I J tg))))) else ((if (1 : Int32) = 0 then ((if a3 = (-1) then (r = (some (.int 0), (zS I J tg))) else (¬ (a1 < 0 ∨ 8 ≤ (a1).toNatClampNeg) ∧ (if a3 = (I 88 ((a1).toNatClampNeg)) then (r = (some (.int 1), (zS I J tg))) else (r = (some (.int 0), (zS I J tg))))))) else (r = (some (.int 1), (zS I J tg)))))))) : Runs (GW L xs) d 39 (0, [.ref 86, .int a1, .int a2, .int a3, vU], [], (zS I J tg)) r := by
  refine Runs.sN 7 (c' := (15, [.ref 86, .int a1, .int a2, .int a3, vU], [.int a1, .ref 22, .ref 12], (zS I J tg))) rfl ?_
  obtain ⟨c1, h⟩ := h
  refine Runs.to (c' := (16, [.ref 86, .int a1, .int a2, .int a3, vU], [.int (I 22 ((a1).toNatClampNeg)), .ref 12], (zS I J tg))) (Runs.ild rfl (show (22 : Nat) < 114 by decide) rfl c1) ?_
  refine Runs.sN 4 (c' := (21, [.ref 86, .int a1, .int a2, .int a3, vU], [.int (((I 22 ((a1).toNatClampNeg)) * 6) + a2), .ref 12], (zS I J tg))) rfl ?_
  obtain ⟨c2, h⟩ := h
  refine Runs.to (c' := (22, [.ref 86, .int a1, .int a2, .int a3, vU], [.int (I 12 ((((I 22 ((a1).toNatClampNeg)) * 6) + a2).toNatClampNeg))], (zS I J tg))) (Runs.ild rfl (show (12 : Nat) < 114 by decide) rfl c2) ?_
  refine Runs.sN 1 (c' := (25, [.ref 86, .int a1, .int a2, .int a3, vU], [.int 500, .int (I 12 ((((I 22 ((a1).toNatClampNeg)) * 6) + a2).toNatClampNeg))], (zS I J tg))) rfl ?_
  by_cases c3 : (I 12 ((((I 22 ((a1).toNatClampNeg)) * 6) + a2).toNatClampNeg)) < 500
  · rw [if_pos c3] at h
    refine Runs.brT (P := (I 12 ((((I 22 ((a1).toNatClampNeg)) * 6) + a2).toNatClampNeg)) < 500) (a := 32) (b := 28) (L := [.ref 86, .int a1, .int a2, .int a3, vU]) (S := []) (z := (zS I J tg)) rfl c3 ?_
    refine Runs.sN 3 (c' := (37, [.ref 86, .int a1, .int a2, .int a3, .int 0], [.int 0], (zS I J tg))) rfl ?_
    by_cases c4 : (0 : Int32) = 0
    · rw [if_pos c4] at h
      refine Runs.brT (P := (0 : Int32) = 0) (a := 40) (b := 55) (L := [.ref 86, .int a1, .int a2, .int a3, .int 0]) (S := []) (z := (zS I J tg)) rfl c4 ?_
      refine Runs.sN 2 (c' := (42, [.ref 86, .int a1, .int a2, .int a3, .int 0], [.int (-1), .int a3], (zS I J tg))) rfl ?_
      by_cases c5 : a3 = (-1)
      · rw [if_pos c5] at h
        refine Runs.brT (P := a3 = (-1)) (a := 59) (b := 45) (L := [.ref 86, .int a1, .int a2, .int a3, .int 0]) (S := []) (z := (zS I J tg)) rfl c5 ?_
        refine Runs.sN 1 (c' := (60, [.ref 86, .int a1, .int a2, .int a3, .int 0], [.int 0], (zS I J tg))) rfl ?_
        subst h
        exact Runs.rt rfl
      · rw [if_neg c5] at h
        refine Runs.brF (P := a3 = (-1)) (a := 59) (b := 45) (L := [.ref 86, .int a1, .int a2, .int a3, .int 0]) (S := []) (z := (zS I J tg)) rfl c5 ?_
        refine Runs.sN 4 (c' := (51, [.ref 86, .int a1, .int a2, .int a3, .int 0], [.int a1, .ref 88, .int a3], (zS I J tg))) rfl ?_
        obtain ⟨c6, h⟩ := h
        refine Runs.to (c' := (52, [.ref 86, .int a1, .int a2, .int a3, .int 0], [.int (I 88 ((a1).toNatClampNeg)), .int a3], (zS I J tg))) (Runs.ild rfl (show (88 : Nat) < 114 by decide) rfl c6) ?_
        by_cases c7 : a3 = (I 88 ((a1).toNatClampNeg))
        · rw [if_pos c7] at h
          refine Runs.brT (P := a3 = (I 88 ((a1).toNatClampNeg))) (a := 55) (b := 59) (L := [.ref 86, .int a1, .int a2, .int a3, .int 0]) (S := []) (z := (zS I J tg)) rfl c7 ?_
          refine Runs.sN 2 (c' := (60, [.ref 86, .int a1, .int a2, .int a3, .int 0], [.int 1], (zS I J tg))) rfl ?_
          subst h
          exact Runs.rt rfl
        · rw [if_neg c7] at h
          refine Runs.brF (P := a3 = (I 88 ((a1).toNatClampNeg))) (a := 55) (b := 59) (L := [.ref 86, .int a1, .int a2, .int a3, .int 0]) (S := []) (z := (zS I J tg)) rfl c7 ?_
          refine Runs.sN 1 (c' := (60, [.ref 86, .int a1, .int a2, .int a3, .int 0], [.int 0], (zS I J tg))) rfl ?_
          subst h
          exact Runs.rt rfl
    · rw [if_neg c4] at h
      refine Runs.brF (P := (0 : Int32) = 0) (a := 40) (b := 55) (L := [.ref 86, .int a1, .int a2, .int a3, .int 0]) (S := []) (z := (zS I J tg)) rfl c4 ?_
      refine Runs.sN 2 (c' := (60, [.ref 86, .int a1, .int a2, .int a3, .int 0], [.int 1], (zS I J tg))) rfl ?_
      subst h
      exact Runs.rt rfl
  · rw [if_neg c3] at h
    refine Runs.brF (P := (I 12 ((((I 22 ((a1).toNatClampNeg)) * 6) + a2).toNatClampNeg)) < 500) (a := 32) (b := 28) (L := [.ref 86, .int a1, .int a2, .int a3, vU]) (S := []) (z := (zS I J tg)) rfl c3 ?_
    refine Runs.sN 4 (c' := (37, [.ref 86, .int a1, .int a2, .int a3, .int 1], [.int 1], (zS I J tg))) rfl ?_
    by_cases c8 : (1 : Int32) = 0
    · rw [if_pos c8] at h
      refine Runs.brT (P := (1 : Int32) = 0) (a := 40) (b := 55) (L := [.ref 86, .int a1, .int a2, .int a3, .int 1]) (S := []) (z := (zS I J tg)) rfl c8 ?_
      refine Runs.sN 2 (c' := (42, [.ref 86, .int a1, .int a2, .int a3, .int 1], [.int (-1), .int a3], (zS I J tg))) rfl ?_
      by_cases c9 : a3 = (-1)
      · rw [if_pos c9] at h
        refine Runs.brT (P := a3 = (-1)) (a := 59) (b := 45) (L := [.ref 86, .int a1, .int a2, .int a3, .int 1]) (S := []) (z := (zS I J tg)) rfl c9 ?_
        refine Runs.sN 1 (c' := (60, [.ref 86, .int a1, .int a2, .int a3, .int 1], [.int 0], (zS I J tg))) rfl ?_
        subst h
        exact Runs.rt rfl
      · rw [if_neg c9] at h
        refine Runs.brF (P := a3 = (-1)) (a := 59) (b := 45) (L := [.ref 86, .int a1, .int a2, .int a3, .int 1]) (S := []) (z := (zS I J tg)) rfl c9 ?_
        refine Runs.sN 4 (c' := (51, [.ref 86, .int a1, .int a2, .int a3, .int 1], [.int a1, .ref 88, .int a3], (zS I J tg))) rfl ?_
        obtain ⟨c10, h⟩ := h
        refine Runs.to (c' := (52, [.ref 86, .int a1, .int a2, .int a3, .int 1], [.int (I 88 ((a1).toNatClampNeg)), .int a3], (zS I J tg))) (Runs.ild rfl (show (88 : Nat) < 114 by decide) rfl c10) ?_
        by_cases c11 : a3 = (I 88 ((a1).toNatClampNeg))
        · rw [if_pos c11] at h
          refine Runs.brT (P := a3 = (I 88 ((a1).toNatClampNeg))) (a := 55) (b := 59) (L := [.ref 86, .int a1, .int a2, .int a3, .int 1]) (S := []) (z := (zS I J tg)) rfl c11 ?_
          refine Runs.sN 2 (c' := (60, [.ref 86, .int a1, .int a2, .int a3, .int 1], [.int 1], (zS I J tg))) rfl ?_
          subst h
          exact Runs.rt rfl
        · rw [if_neg c11] at h
          refine Runs.brF (P := a3 = (I 88 ((a1).toNatClampNeg))) (a := 55) (b := 59) (L := [.ref 86, .int a1, .int a2, .int a3, .int 1]) (S := []) (z := (zS I J tg)) rfl c11 ?_
          refine Runs.sN 1 (c' := (60, [.ref 86, .int a1, .int a2, .int a3, .int 1], [.int 0], (zS I J tg))) rfl ?_
          subst h
          exact Runs.rt rfl
    · rw [if_neg c8] at h
      refine Runs.brF (P := (1 : Int32) = 0) (a := 40) (b := 55) (L := [.ref 86, .int a1, .int a2, .int a3, .int 1]) (S := []) (z := (zS I J tg)) rfl c8 ?_
      refine Runs.sN 2 (c' := (60, [.ref 86, .int a1, .int a2, .int a3, .int 1], [.int 1], (zS I J tg))) rfl ?_
      subst h
      exact Runs.rt rfl
-- X4_toldSlots 
theorem sg_41 {L d : Nat} {xs : Nat → Int32} (I : Nat → Nat → Int32) (J : Nat → Nat → Int64) (tg : Option Nat) {r : Option Value × SS} (h : (Runs (GW L xs) d 41 (4, [.ref 18, .int 0, .int 0], [], (zS I J tg)) r)) : Runs (GW L xs) d 41 (0, [.ref 18, vU, vU], [], (zS I J tg)) r := by
  refine Runs.sN 4 (c' := (4, [.ref 18, .int 0, .int 0], [], (zS I J tg))) rfl ?_
  exact h
theorem sg_41_4 {L d : Nat} {xs : Nat → Int32} (I : Nat → Nat → Int32) (J : Nat → Nat → Int64) (tg : Option Nat) (x1 : Int32) (x2 : Int32) {r : Option Value × SS} (h : ((if 6 ≤ x2 then (r = (some (.int x1), (zS I J tg))) else (¬ (x2 < 0 ∨ 6 ≤ (x2).toNatClampNeg) ∧ (if (I 21 ((x2).toNatClampNeg)) ≤ 0 then (Runs (GW L xs) d 41 (4, [.ref 18, .int (x1 + 0), .int (x2 + 1)], [], (zS I J tg)) r) else (Runs (GW L xs) d 41 (4, [.ref 18, .int (x1 + 1), .int (x2 + 1)], [], (zS I J tg)) r)))))) : Runs (GW L xs) d 41 (4, [.ref 18, .int x1, .int x2], [], (zS I J tg)) r := by
  refine Runs.sN 2 (c' := (7, [.ref 18, .int x1, .int x2], [.int 6, .int x2], (zS I J tg))) rfl ?_
  by_cases c1 : 6 ≤ x2
  · rw [if_pos c1] at h
    refine Runs.brT (P := 6 ≤ x2) (a := 33) (b := 10) (L := [.ref 18, .int x1, .int x2]) (S := []) (z := (zS I J tg)) rfl c1 ?_
    refine Runs.sN 1 (c' := (34, [.ref 18, .int x1, .int x2], [.int x1], (zS I J tg))) rfl ?_
    subst h
    exact Runs.rt rfl
  · rw [if_neg c1] at h
    refine Runs.brF (P := 6 ≤ x2) (a := 33) (b := 10) (L := [.ref 18, .int x1, .int x2]) (S := []) (z := (zS I J tg)) rfl c1 ?_
    refine Runs.sN 4 (c' := (16, [.ref 18, .int x1, .int x2], [.int x2, .ref 21, .int x1], (zS I J tg))) rfl ?_
    obtain ⟨c2, h⟩ := h
    refine Runs.to (c' := (17, [.ref 18, .int x1, .int x2], [.int (I 21 ((x2).toNatClampNeg)), .int x1], (zS I J tg))) (Runs.ild rfl (show (21 : Nat) < 114 by decide) rfl c2) ?_
    by_cases c3 : (I 21 ((x2).toNatClampNeg)) ≤ 0
    · rw [if_pos c3] at h
      refine Runs.brT (P := (I 21 ((x2).toNatClampNeg)) ≤ 0) (a := 24) (b := 20) (L := [.ref 18, .int x1, .int x2]) (S := [.int x1]) (z := (zS I J tg)) rfl c3 ?_
      refine Runs.sN 5 (c' := (4, [.ref 18, .int (x1 + 0), .int (x2 + 1)], [], (zS I J tg))) rfl ?_
      exact h
    · rw [if_neg c3] at h
      refine Runs.brF (P := (I 21 ((x2).toNatClampNeg)) ≤ 0) (a := 24) (b := 20) (L := [.ref 18, .int x1, .int x2]) (S := [.int x1]) (z := (zS I J tg)) rfl c3 ?_
      refine Runs.sN 6 (c' := (4, [.ref 18, .int (x1 + 1), .int (x2 + 1)], [], (zS I J tg))) rfl ?_
      exact h
-- X4_copyFrom i
theorem sg_42i {L d : Nat} {xs : Nat → Int32} (I : Nat → Nat → Int32) (J : Nat → Nat → Int64) (tg : Option Nat) {r : Option Value × SS} (h : (∃ (I5 : Nat → Nat → Int32), Runs (GW L xs) d 174 (0, [.ref 19, .ref 41], [], (zS (up2 (up2 (up2 (up2 I 40 0 (I 18 0)) 40 1 (I 18 1)) 40 2 (I 18 2)) 40 3 (I 18 3)) J tg)) (none, (zS I5 J tg)) ∧ ∃ (I6 : Nat → Nat → Int32), Runs (GW L xs) d 174 (0, [.ref 20, .ref 42], [], (zS I5 J tg)) (none, (zS I6 J tg)) ∧ ∃ (I7 : Nat → Nat → Int32), Runs (GW L xs) d 174 (0, [.ref 21, .ref 43], [], (zS I6 J tg)) (none, (zS I7 J tg)) ∧ ∃ (I8 : Nat → Nat → Int32), Runs (GW L xs) d 174 (0, [.ref 22, .ref 44], [], (zS I7 J tg)) (none, (zS I8 J tg)) ∧ r = (none, (zS I8 J tg)))) : Runs (GW L xs) (d + 1) 42 (0, [.ref 40, .ref 18], [], (zS I J tg)) r := by
  refine Runs.sN 20 (c' := (40, [.ref 40, .ref 18], [.ref 41, .ref 19], (zS (up2 (up2 (up2 (up2 I 40 0 (I 18 0)) 40 1 (I 18 1)) 40 2 (I 18 2)) 40 3 (I 18 3)) J tg))) rfl ?_
  obtain ⟨I5, c9, h⟩ := h
  refine Runs.cl (cm := 174) (as := [.ref 19, .ref 41]) (rest := []) (r1 := (none, (zS I5 J tg))) rfl (Nat.le_of_ble_eq_true rfl) c9 ?_
  refine Runs.as (c' := (43, [.ref 40, .ref 18], [], (zS I5 J tg))) rfl ?_
  refine Runs.sN 4 (c' := (51, [.ref 40, .ref 18], [.ref 42, .ref 20], (zS I5 J tg))) rfl ?_
  obtain ⟨I6, c10, h⟩ := h
  refine Runs.cl (cm := 174) (as := [.ref 20, .ref 42]) (rest := []) (r1 := (none, (zS I6 J tg))) rfl (Nat.le_of_ble_eq_true rfl) c10 ?_
  refine Runs.as (c' := (54, [.ref 40, .ref 18], [], (zS I6 J tg))) rfl ?_
  refine Runs.sN 4 (c' := (62, [.ref 40, .ref 18], [.ref 43, .ref 21], (zS I6 J tg))) rfl ?_
  obtain ⟨I7, c11, h⟩ := h
  refine Runs.cl (cm := 174) (as := [.ref 21, .ref 43]) (rest := []) (r1 := (none, (zS I7 J tg))) rfl (Nat.le_of_ble_eq_true rfl) c11 ?_
  refine Runs.as (c' := (65, [.ref 40, .ref 18], [], (zS I7 J tg))) rfl ?_
  refine Runs.sN 4 (c' := (73, [.ref 40, .ref 18], [.ref 44, .ref 22], (zS I7 J tg))) rfl ?_
  obtain ⟨I8, c12, h⟩ := h
  refine Runs.cl (cm := 174) (as := [.ref 22, .ref 44]) (rest := []) (r1 := (none, (zS I8 J tg))) rfl (Nat.le_of_ble_eq_true rfl) c12 ?_
  refine Runs.as (c' := (76, [.ref 40, .ref 18], [], (zS I8 J tg))) rfl ?_
  subst h
  exact Runs.rt rfl
-- X4_copyFrom b
theorem sg_42b {L d : Nat} {xs : Nat → Int32} (I : Nat → Nat → Int32) (J : Nat → Nat → Int64) (tg : Option Nat) {r : Option Value × SS} (h : (∃ (I5 : Nat → Nat → Int32), Runs (GW L xs) d 174 (0, [.ref 41, .ref 19], [], (zS (up2 (up2 (up2 (up2 I 18 0 (I 40 0)) 18 1 (I 40 1)) 18 2 (I 40 2)) 18 3 (I 40 3)) J tg)) (none, (zS I5 J tg)) ∧ ∃ (I6 : Nat → Nat → Int32), Runs (GW L xs) d 174 (0, [.ref 42, .ref 20], [], (zS I5 J tg)) (none, (zS I6 J tg)) ∧ ∃ (I7 : Nat → Nat → Int32), Runs (GW L xs) d 174 (0, [.ref 43, .ref 21], [], (zS I6 J tg)) (none, (zS I7 J tg)) ∧ ∃ (I8 : Nat → Nat → Int32), Runs (GW L xs) d 174 (0, [.ref 44, .ref 22], [], (zS I7 J tg)) (none, (zS I8 J tg)) ∧ r = (none, (zS I8 J tg)))) : Runs (GW L xs) (d + 1) 42 (0, [.ref 18, .ref 40], [], (zS I J tg)) r := by
  refine Runs.sN 20 (c' := (40, [.ref 18, .ref 40], [.ref 19, .ref 41], (zS (up2 (up2 (up2 (up2 I 18 0 (I 40 0)) 18 1 (I 40 1)) 18 2 (I 40 2)) 18 3 (I 40 3)) J tg))) rfl ?_
  obtain ⟨I5, c9, h⟩ := h
  refine Runs.cl (cm := 174) (as := [.ref 41, .ref 19]) (rest := []) (r1 := (none, (zS I5 J tg))) rfl (Nat.le_of_ble_eq_true rfl) c9 ?_
  refine Runs.as (c' := (43, [.ref 18, .ref 40], [], (zS I5 J tg))) rfl ?_
  refine Runs.sN 4 (c' := (51, [.ref 18, .ref 40], [.ref 20, .ref 42], (zS I5 J tg))) rfl ?_
  obtain ⟨I6, c10, h⟩ := h
  refine Runs.cl (cm := 174) (as := [.ref 42, .ref 20]) (rest := []) (r1 := (none, (zS I6 J tg))) rfl (Nat.le_of_ble_eq_true rfl) c10 ?_
  refine Runs.as (c' := (54, [.ref 18, .ref 40], [], (zS I6 J tg))) rfl ?_
  refine Runs.sN 4 (c' := (62, [.ref 18, .ref 40], [.ref 21, .ref 43], (zS I6 J tg))) rfl ?_
  obtain ⟨I7, c11, h⟩ := h
  refine Runs.cl (cm := 174) (as := [.ref 43, .ref 21]) (rest := []) (r1 := (none, (zS I7 J tg))) rfl (Nat.le_of_ble_eq_true rfl) c11 ?_
  refine Runs.as (c' := (65, [.ref 18, .ref 40], [], (zS I7 J tg))) rfl ?_
  refine Runs.sN 4 (c' := (73, [.ref 18, .ref 40], [.ref 22, .ref 44], (zS I7 J tg))) rfl ?_
  obtain ⟨I8, c12, h⟩ := h
  refine Runs.cl (cm := 174) (as := [.ref 44, .ref 22]) (rest := []) (r1 := (none, (zS I8 J tg))) rfl (Nat.le_of_ble_eq_true rfl) c12 ?_
  refine Runs.as (c' := (76, [.ref 18, .ref 40], [], (zS I8 J tg))) rfl ?_
  subst h
  exact Runs.rt rfl
-- X5_isDrawing 
theorem sg_44 {L d : Nat} {xs : Nat → Int32} (I : Nat → Nat → Int32) (J : Nat → Nat → Int64) (tg : Option Nat) (a1 : Int32) {r : Option Value × SS} (h : (∃ (v3 : Int32) (I4 : Nat → Nat → Int32), Runs (GW L xs) d 164 (0, [.int a1, .int 0, .int ((I 1 0) - 1)], [], (zS I J tg)) ((some (.int v3)), (zS I4 J tg)) ∧ (v3 = 0 ∨ v3 = 1) ∧ r = (some (.int v3), (zS I4 J tg)))) : Runs (GW L xs) (d + 1) 44 (0, [.ref 1, .int a1], [], (zS I J tg)) r := by
  refine Runs.sN 6 (c' := (8, [.ref 1, .int a1], [.int ((I 1 0) - 1), .int 0, .int a1], (zS I J tg))) rfl ?_
  obtain ⟨v3, I4, c5, h⟩ := h
  refine Runs.cl (cm := 164) (as := [.int a1, .int 0, .int ((I 1 0) - 1)]) (rest := []) (r1 := ((some (.int v3)), (zS I4 J tg))) rfl (Nat.le_of_ble_eq_true rfl) c5 ?_
  refine Runs.as (c' := (11, [.ref 1, .int a1], [.int v3], (zS I4 J tg))) rfl ?_
  obtain ⟨h0, h⟩ := h
  subst h
  exact Runs.zrt rfl rfl h0
-- X5_isThing 
theorem sg_45 {L d : Nat} {xs : Nat → Int32} (I : Nat → Nat → Int32) (J : Nat → Nat → Int64) (tg : Option Nat) (a1 : Int32) {r : Option Value × SS} (h : (∃ (v3 : Int32) (I4 : Nat → Nat → Int32), Runs (GW L xs) d 164 (0, [.int a1, .int 12, .int ((12 + (I 1 1)) - 1)], [], (zS I J tg)) ((some (.int v3)), (zS I4 J tg)) ∧ (v3 = 0 ∨ v3 = 1) ∧ r = (some (.int v3), (zS I4 J tg)))) : Runs (GW L xs) (d + 1) 45 (0, [.ref 1, .int a1], [], (zS I J tg)) r := by
  refine Runs.sN 8 (c' := (12, [.ref 1, .int a1], [.int ((12 + (I 1 1)) - 1), .int 12, .int a1], (zS I J tg))) rfl ?_
  obtain ⟨v3, I4, c5, h⟩ := h
  refine Runs.cl (cm := 164) (as := [.int a1, .int 12, .int ((12 + (I 1 1)) - 1)]) (rest := []) (r1 := ((some (.int v3)), (zS I4 J tg))) rfl (Nat.le_of_ble_eq_true rfl) c5 ?_
  refine Runs.as (c' := (15, [.ref 1, .int a1], [.int v3], (zS I4 J tg))) rfl ?_
  obtain ⟨h0, h⟩ := h
  subst h
  exact Runs.zrt rfl rfl h0
-- X5_isTold 
theorem sg_46 {L d : Nat} {xs : Nat → Int32} (I : Nat → Nat → Int32) (J : Nat → Nat → Int64) (tg : Option Nat) (a1 : Int32) {r : Option Value × SS} (h : (∃ (v5 : Int32) (I6 : Nat → Nat → Int32), Runs (GW L xs) d 44 (0, [.ref 1, .int a1], [], (zS I J tg)) ((some (.int v5)), (zS I6 J tg)) ∧ (if v5 = 0 then (∃ (v7 : Int32) (I8 : Nat → Nat → Int32), Runs (GW L xs) d 45 (0, [.ref 1, .int a1], [], (zS I6 J tg)) ((some (.int v7)), (zS I8 J tg)) ∧ (if v7 = 0 then (r = (some (.int 0), (zS I8 J tg))) else (r = (some (.int 1), (zS I8 J tg))))) else (r = (some (.int 1), (zS I6 J tg)))))) : Runs (GW L xs) (d + 1) 46 (0, [.ref 1, .int a1], [], (zS I J tg)) r := by
  refine Runs.sN 2 (c' := (2, [.ref 1, .int a1], [.int a1, .ref 1], (zS I J tg))) rfl ?_
  obtain ⟨v5, I6, c9, h⟩ := h
  refine Runs.cl (cm := 44) (as := [.ref 1, .int a1]) (rest := []) (r1 := ((some (.int v5)), (zS I6 J tg))) rfl (Nat.le_of_ble_eq_true rfl) c9 ?_
  refine Runs.as (c' := (5, [.ref 1, .int a1], [.int v5], (zS I6 J tg))) rfl ?_
  by_cases c10 : v5 = 0
  · rw [if_pos c10] at h
    refine Runs.brT (P := v5 = 0) (a := 8) (b := 16) (L := [.ref 1, .int a1]) (S := []) (z := (zS I6 J tg)) rfl c10 ?_
    refine Runs.sN 2 (c' := (10, [.ref 1, .int a1], [.int a1, .ref 1], (zS I6 J tg))) rfl ?_
    obtain ⟨v7, I8, c11, h⟩ := h
    refine Runs.cl (cm := 45) (as := [.ref 1, .int a1]) (rest := []) (r1 := ((some (.int v7)), (zS I8 J tg))) rfl (Nat.le_of_ble_eq_true rfl) c11 ?_
    refine Runs.as (c' := (13, [.ref 1, .int a1], [.int v7], (zS I8 J tg))) rfl ?_
    by_cases c12 : v7 = 0
    · rw [if_pos c12] at h
      refine Runs.brT (P := v7 = 0) (a := 20) (b := 16) (L := [.ref 1, .int a1]) (S := []) (z := (zS I8 J tg)) rfl c12 ?_
      refine Runs.sN 1 (c' := (21, [.ref 1, .int a1], [.int 0], (zS I8 J tg))) rfl ?_
      subst h
      exact Runs.rt rfl
    · rw [if_neg c12] at h
      refine Runs.brF (P := v7 = 0) (a := 20) (b := 16) (L := [.ref 1, .int a1]) (S := []) (z := (zS I8 J tg)) rfl c12 ?_
      refine Runs.sN 2 (c' := (21, [.ref 1, .int a1], [.int 1], (zS I8 J tg))) rfl ?_
      subst h
      exact Runs.rt rfl
  · rw [if_neg c10] at h
    refine Runs.brF (P := v5 = 0) (a := 8) (b := 16) (L := [.ref 1, .int a1]) (S := []) (z := (zS I6 J tg)) rfl c10 ?_
    refine Runs.sN 2 (c' := (21, [.ref 1, .int a1], [.int 1], (zS I6 J tg))) rfl ?_
    subst h
    exact Runs.rt rfl
-- X5_isSet 
theorem sg_47 {L d : Nat} {xs : Nat → Int32} (I : Nat → Nat → Int32) (J : Nat → Nat → Int64) (tg : Option Nat) (a1 : Int32) {r : Option Value × SS} (h : (∃ (v3 : Int32) (I4 : Nat → Nat → Int32), Runs (GW L xs) d 164 (0, [.int a1, .int 0, .int ((1 <<< ((I 1 0) &&& 31)) - 1)], [], (zS I J tg)) ((some (.int v3)), (zS I4 J tg)) ∧ (v3 = 0 ∨ v3 = 1) ∧ r = (some (.int v3), (zS I4 J tg)))) : Runs (GW L xs) (d + 1) 47 (0, [.ref 1, .int a1], [], (zS I J tg)) r := by
  refine Runs.sN 8 (c' := (10, [.ref 1, .int a1], [.int ((1 <<< ((I 1 0) &&& 31)) - 1), .int 0, .int a1], (zS I J tg))) rfl ?_
  obtain ⟨v3, I4, c5, h⟩ := h
  refine Runs.cl (cm := 164) (as := [.int a1, .int 0, .int ((1 <<< ((I 1 0) &&& 31)) - 1)]) (rest := []) (r1 := ((some (.int v3)), (zS I4 J tg))) rfl (Nat.le_of_ble_eq_true rfl) c5 ?_
  refine Runs.as (c' := (13, [.ref 1, .int a1], [.int v3], (zS I4 J tg))) rfl ?_
  obtain ⟨h0, h⟩ := h
  subst h
  exact Runs.zrt rfl rfl h0
-- X5_toldThings 
theorem sg_48 {L d : Nat} {xs : Nat → Int32} (I : Nat → Nat → Int32) (J : Nat → Nat → Int64) (tg : Option Nat) {r : Option Value × SS} (h : (r = (some (.int ((1 <<< ((I 1 1) &&& 31)) - 1)), (zS I J tg)))) : Runs (GW L xs) d 48 (0, [.ref 1], [], (zS I J tg)) r := by
  refine Runs.sN 6 (c' := (8, [.ref 1], [.int ((1 <<< ((I 1 1) &&& 31)) - 1)], (zS I J tg))) rfl ?_
  subst h
  exact Runs.rt rfl
-- X6_gather 
theorem sg_51 {L d : Nat} {xs : Nat → Int32} (I : Nat → Nat → Int32) (J : Nat → Nat → Int64) (tg : Option Nat) (a1 : Int32) (a2 : Int32) {r : Option Value × SS} (h : (Runs (GW L xs) (d + 1) 51 (17, [.ref 92, .int a1, .int a2, .int 0], [], (zS (up2 (up2 (up2 I 92 3 1) 92 4 0) 92 5 0) J tg)) r)) : Runs (GW L xs) (d + 1) 51 (0, [.ref 92, .int a1, .int a2, vU], [], (zS I J tg)) r := by
  refine Runs.sN 11 (c' := (17, [.ref 92, .int a1, .int a2, .int 0], [], (zS (up2 (up2 (up2 I 92 3 1) 92 4 0) 92 5 0) J tg))) rfl ?_
  exact h
theorem sg_51_17 {L d : Nat} {xs : Nat → Int32} (I : Nat → Nat → Int32) (J : Nat → Nat → Int64) (tg : Option Nat) (x1 : Int32) (x2 : Int32) (x3 : Int32) {r : Option Value × SS} (h : ((if (I 7 5) ≤ x3 then ((if (I 92 3) = 0 then (r = (none, (zS (up2 I 92 3 0) J tg))) else ((if ((I 92 4) &&& (I 92 5)) = 0 then (r = (none, (zS (up2 I 92 3 1) J tg))) else (r = (none, (zS (up2 I 92 3 0) J tg))))))) else (¬ (x3 < 0 ∨ 60 ≤ (x3).toNatClampNeg) ∧ (if (I 13 ((x3).toNatClampNeg)) = x1 then (¬ (x3 < 0 ∨ 60 ≤ (x3).toNatClampNeg) ∧ (if x2 < (I 17 ((x3).toNatClampNeg)) then (Runs (GW L xs) (d + 1) 51 (17, [.ref 92, .int x1, .int x2, .int (x3 + 1)], [], (zS I J tg)) r) else (¬ (x3 < 0 ∨ 60 ≤ (x3).toNatClampNeg) ∧ ¬ (x3 < 0 ∨ 60 ≤ (x3).toNatClampNeg) ∧ ∃ (I1 : Nat → Nat → Int32), Runs (GW L xs) d 92 (0, [.ref 75, .int (I 15 ((x3).toNatClampNeg)), .int (I 14 ((x3).toNatClampNeg)), vU], [], (zS I J tg)) (none, (zS I1 J tg)) ∧ ¬ (x3 < 0 ∨ 60 ≤ (x3).toNatClampNeg) ∧ ∃ (I2 : Nat → Nat → Int32), Runs (GW L xs) d 52 (0, [.ref 92, .int (I1 16 ((x3).toNatClampNeg)), vU], [], (zS I1 J tg)) (none, (zS I2 J tg)) ∧ Runs (GW L xs) (d + 1) 51 (17, [.ref 92, .int x1, .int x2, .int (x3 + 1)], [], (zS I2 J tg)) r))) else (Runs (GW L xs) (d + 1) 51 (17, [.ref 92, .int x1, .int x2, .int (x3 + 1)], [], (zS I J tg)) r)))))) : Runs (GW L xs) (d + 1) 51 (17, [.ref 92, .int x1, .int x2, .int x3], [], (zS I J tg)) r := by
  refine Runs.sN 4 (c' := (25, [.ref 92, .int x1, .int x2, .int x3], [.int (I 7 5), .int x3], (zS I J tg))) rfl ?_
  by_cases c3 : (I 7 5) ≤ x3
  · rw [if_pos c3] at h
    refine Runs.brT (P := (I 7 5) ≤ x3) (a := 98) (b := 28) (L := [.ref 92, .int x1, .int x2, .int x3]) (S := []) (z := (zS I J tg)) rfl c3 ?_
    refine Runs.sN 3 (c' := (103, [.ref 92, .int x1, .int x2, .int x3], [.int (I 92 3), .ref 92], (zS I J tg))) rfl ?_
    by_cases c4 : (I 92 3) = 0
    · rw [if_pos c4] at h
      refine Runs.brT (P := (I 92 3) = 0) (a := 122) (b := 106) (L := [.ref 92, .int x1, .int x2, .int x3]) (S := [.ref 92]) (z := (zS I J tg)) rfl c4 ?_
      refine Runs.sN 2 (c' := (126, [.ref 92, .int x1, .int x2, .int x3], [], (zS (up2 I 92 3 0) J tg))) rfl ?_
      subst h
      exact Runs.rt rfl
    · rw [if_neg c4] at h
      refine Runs.brF (P := (I 92 3) = 0) (a := 122) (b := 106) (L := [.ref 92, .int x1, .int x2, .int x3]) (S := [.ref 92]) (z := (zS I J tg)) rfl c4 ?_
      refine Runs.sN 5 (c' := (115, [.ref 92, .int x1, .int x2, .int x3], [.int ((I 92 4) &&& (I 92 5)), .ref 92], (zS I J tg))) rfl ?_
      by_cases c5 : ((I 92 4) &&& (I 92 5)) = 0
      · rw [if_pos c5] at h
        refine Runs.brT (P := ((I 92 4) &&& (I 92 5)) = 0) (a := 118) (b := 122) (L := [.ref 92, .int x1, .int x2, .int x3]) (S := [.ref 92]) (z := (zS I J tg)) rfl c5 ?_
        refine Runs.sN 3 (c' := (126, [.ref 92, .int x1, .int x2, .int x3], [], (zS (up2 I 92 3 1) J tg))) rfl ?_
        subst h
        exact Runs.rt rfl
      · rw [if_neg c5] at h
        refine Runs.brF (P := ((I 92 4) &&& (I 92 5)) = 0) (a := 118) (b := 122) (L := [.ref 92, .int x1, .int x2, .int x3]) (S := [.ref 92]) (z := (zS I J tg)) rfl c5 ?_
        refine Runs.sN 2 (c' := (126, [.ref 92, .int x1, .int x2, .int x3], [], (zS (up2 I 92 3 0) J tg))) rfl ?_
        subst h
        exact Runs.rt rfl
  · rw [if_neg c3] at h
    refine Runs.brF (P := (I 7 5) ≤ x3) (a := 98) (b := 28) (L := [.ref 92, .int x1, .int x2, .int x3]) (S := []) (z := (zS I J tg)) rfl c3 ?_
    refine Runs.sN 4 (c' := (36, [.ref 92, .int x1, .int x2, .int x3], [.int x3, .ref 13], (zS I J tg))) rfl ?_
    obtain ⟨c6, h⟩ := h
    refine Runs.to (c' := (37, [.ref 92, .int x1, .int x2, .int x3], [.int (I 13 ((x3).toNatClampNeg))], (zS I J tg))) (Runs.ild rfl (show (13 : Nat) < 114 by decide) rfl c6) ?_
    refine Runs.sN 1 (c' := (38, [.ref 92, .int x1, .int x2, .int x3], [.int x1, .int (I 13 ((x3).toNatClampNeg))], (zS I J tg))) rfl ?_
    by_cases c7 : (I 13 ((x3).toNatClampNeg)) = x1
    · rw [if_pos c7] at h
      refine Runs.brT (P := (I 13 ((x3).toNatClampNeg)) = x1) (a := 41) (b := 92) (L := [.ref 92, .int x1, .int x2, .int x3]) (S := []) (z := (zS I J tg)) rfl c7 ?_
      refine Runs.sN 4 (c' := (49, [.ref 92, .int x1, .int x2, .int x3], [.int x3, .ref 17], (zS I J tg))) rfl ?_
      obtain ⟨c8, h⟩ := h
      refine Runs.to (c' := (50, [.ref 92, .int x1, .int x2, .int x3], [.int (I 17 ((x3).toNatClampNeg))], (zS I J tg))) (Runs.ild rfl (show (17 : Nat) < 114 by decide) rfl c8) ?_
      refine Runs.sN 1 (c' := (51, [.ref 92, .int x1, .int x2, .int x3], [.int x2, .int (I 17 ((x3).toNatClampNeg))], (zS I J tg))) rfl ?_
      by_cases c9 : x2 < (I 17 ((x3).toNatClampNeg))
      · rw [if_pos c9] at h
        refine Runs.brT (P := x2 < (I 17 ((x3).toNatClampNeg))) (a := 92) (b := 54) (L := [.ref 92, .int x1, .int x2, .int x3]) (S := []) (z := (zS I J tg)) rfl c9 ?_
        refine Runs.sN 2 (c' := (17, [.ref 92, .int x1, .int x2, .int (x3 + 1)], [], (zS I J tg))) rfl ?_
        exact h
      · rw [if_neg c9] at h
        refine Runs.brF (P := x2 < (I 17 ((x3).toNatClampNeg))) (a := 92) (b := 54) (L := [.ref 92, .int x1, .int x2, .int x3]) (S := []) (z := (zS I J tg)) rfl c9 ?_
        refine Runs.sN 6 (c' := (66, [.ref 92, .int x1, .int x2, .int x3], [.int x3, .ref 15, .ref 75], (zS I J tg))) rfl ?_
        obtain ⟨c10, h⟩ := h
        refine Runs.to (c' := (67, [.ref 92, .int x1, .int x2, .int x3], [.int (I 15 ((x3).toNatClampNeg)), .ref 75], (zS I J tg))) (Runs.ild rfl (show (15 : Nat) < 114 by decide) rfl c10) ?_
        refine Runs.sN 4 (c' := (75, [.ref 92, .int x1, .int x2, .int x3], [.int x3, .ref 14, .int (I 15 ((x3).toNatClampNeg)), .ref 75], (zS I J tg))) rfl ?_
        obtain ⟨c11, h⟩ := h
        refine Runs.to (c' := (76, [.ref 92, .int x1, .int x2, .int x3], [.int (I 14 ((x3).toNatClampNeg)), .int (I 15 ((x3).toNatClampNeg)), .ref 75], (zS I J tg))) (Runs.ild rfl (show (14 : Nat) < 114 by decide) rfl c11) ?_
        obtain ⟨I1, c12, h⟩ := h
        refine Runs.cl (cm := 92) (as := [.ref 75, .int (I 15 ((x3).toNatClampNeg)), .int (I 14 ((x3).toNatClampNeg))]) (rest := []) (r1 := (none, (zS I1 J tg))) rfl (Nat.le_of_ble_eq_true rfl) c12 ?_
        refine Runs.as (c' := (79, [.ref 92, .int x1, .int x2, .int x3], [], (zS I1 J tg))) rfl ?_
        refine Runs.sN 5 (c' := (88, [.ref 92, .int x1, .int x2, .int x3], [.int x3, .ref 16, .ref 92], (zS I1 J tg))) rfl ?_
        obtain ⟨c13, h⟩ := h
        refine Runs.to (c' := (89, [.ref 92, .int x1, .int x2, .int x3], [.int (I1 16 ((x3).toNatClampNeg)), .ref 92], (zS I1 J tg))) (Runs.ild rfl (show (16 : Nat) < 114 by decide) rfl c13) ?_
        obtain ⟨I2, c14, h⟩ := h
        refine Runs.cl (cm := 52) (as := [.ref 92, .int (I1 16 ((x3).toNatClampNeg))]) (rest := []) (r1 := (none, (zS I2 J tg))) rfl (Nat.le_of_ble_eq_true rfl) c14 ?_
        refine Runs.as (c' := (92, [.ref 92, .int x1, .int x2, .int x3], [], (zS I2 J tg))) rfl ?_
        refine Runs.sN 2 (c' := (17, [.ref 92, .int x1, .int x2, .int (x3 + 1)], [], (zS I2 J tg))) rfl ?_
        exact h
    · rw [if_neg c7] at h
      refine Runs.brF (P := (I 13 ((x3).toNatClampNeg)) = x1) (a := 41) (b := 92) (L := [.ref 92, .int x1, .int x2, .int x3]) (S := []) (z := (zS I J tg)) rfl c7 ?_
      refine Runs.sN 2 (c' := (17, [.ref 92, .int x1, .int x2, .int (x3 + 1)], [], (zS I J tg))) rfl ?_
      exact h
