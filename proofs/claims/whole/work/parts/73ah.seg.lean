-- X11_look 
theorem sg_116 {L d : Nat} {xs : Nat → Int32} (I : Nat → Nat → Int32) (J : Nat → Nat → Int64) (tg : Option Nat) (a1 : Int32) {r : Option Value × SS} (h : ((if a1 = 0 then ((if (I 1 0) < 12 then (r = (some (.int (((I 1 0) + 1) - 1)), (zS (up2 I 1 0 ((I 1 0) + 1)) J tg))) else (r = (some (.int (-1)), (zS I J tg))))) else ((if (I 1 1) < 12 then (r = (some (.int ((12 + ((I 1 1) + 1)) - 1)), (zS (up2 I 1 1 ((I 1 1) + 1)) J tg))) else (r = (some (.int (-1)), (zS I J tg)))))))) : Runs (GW L xs) d 116 (0, [.ref 0, .int a1], [], (zS I J tg)) r := by
  refine Runs.sN 1 (c' := (1, [.ref 0, .int a1], [.int a1], (zS I J tg))) rfl ?_
  by_cases c1 : a1 = 0
  · rw [if_pos c1] at h
    refine Runs.brT (P := a1 = 0) (a := 44) (b := 4) (L := [.ref 0, .int a1]) (S := []) (z := (zS I J tg)) rfl c1 ?_
    refine Runs.sN 4 (c' := (53, [.ref 0, .int a1], [.int 12, .int (I 1 0)], (zS I J tg))) rfl ?_
    by_cases c2 : (I 1 0) < 12
    · rw [if_pos c2] at h
      refine Runs.brT (P := (I 1 0) < 12) (a := 58) (b := 56) (L := [.ref 0, .int a1]) (S := []) (z := (zS I J tg)) rfl c2 ?_
      refine Runs.sN 12 (c' := (80, [.ref 0, .int a1], [.int (((I 1 0) + 1) - 1)], (zS (up2 I 1 0 ((I 1 0) + 1)) J tg))) rfl ?_
      subst h
      exact Runs.rt rfl
    · rw [if_neg c2] at h
      refine Runs.brF (P := (I 1 0) < 12) (a := 58) (b := 56) (L := [.ref 0, .int a1]) (S := []) (z := (zS I J tg)) rfl c2 ?_
      refine Runs.sN 1 (c' := (57, [.ref 0, .int a1], [.int (-1)], (zS I J tg))) rfl ?_
      subst h
      exact Runs.rt rfl
  · rw [if_neg c1] at h
    refine Runs.brF (P := a1 = 0) (a := 44) (b := 4) (L := [.ref 0, .int a1]) (S := []) (z := (zS I J tg)) rfl c1 ?_
    refine Runs.sN 4 (c' := (13, [.ref 0, .int a1], [.int 12, .int (I 1 1)], (zS I J tg))) rfl ?_
    by_cases c3 : (I 1 1) < 12
    · rw [if_pos c3] at h
      refine Runs.brT (P := (I 1 1) < 12) (a := 18) (b := 16) (L := [.ref 0, .int a1]) (S := []) (z := (zS I J tg)) rfl c3 ?_
      refine Runs.sN 14 (c' := (43, [.ref 0, .int a1], [.int ((12 + ((I 1 1) + 1)) - 1)], (zS (up2 I 1 1 ((I 1 1) + 1)) J tg))) rfl ?_
      subst h
      exact Runs.rt rfl
    · rw [if_neg c3] at h
      refine Runs.brF (P := (I 1 1) < 12) (a := 18) (b := 16) (L := [.ref 0, .int a1]) (S := []) (z := (zS I J tg)) rfl c3 ?_
      refine Runs.sN 1 (c' := (17, [.ref 0, .int a1], [.int (-1)], (zS I J tg))) rfl ?_
      subst h
      exact Runs.rt rfl
-- X11_part 
theorem sg_117 {L d : Nat} {xs : Nat → Int32} (I : Nat → Nat → Int32) (J : Nat → Nat → Int64) (tg : Option Nat) (a1 : Int32) (a2 : Int32) (a3 : Int32) (a4 : Int32) {r : Option Value × SS} (h : (∃ (v20 : Int32) (I21 : Nat → Nat → Int32) (J22 : Nat → Nat → Int64) (tg23 : Option Nat), Runs (GW L xs) d 46 (0, [.ref 1, .int a1], [], (zS I J tg)) ((some (.int v20)), (zS I21 J22 tg23)) ∧ (if v20 = 0 then (r = (some (.int (-1)), (zS I21 J22 tg23))) else (∃ (v24 : Int32) (I25 : Nat → Nat → Int32) (J26 : Nat → Nat → Int64) (tg27 : Option Nat), Runs (GW L xs) d 167 (0, [.int a2, .int a3, .int a4], [], (zS I21 J22 tg23)) ((some (.int v24)), (zS I25 J26 tg27)) ∧ (if v24 = 0 then (r = (some (.int (-1)), (zS I25 J26 tg27))) else (∃ (v28 : Int32) (I29 : Nat → Nat → Int32) (J30 : Nat → Nat → Int64) (tg31 : Option Nat), Runs (GW L xs) d 169 (0, [.int a2, .int a3, .int a4], [], (zS I25 J26 tg27)) ((some (.int v28)), (zS I29 J30 tg31)) ∧ ¬ (a1 < 0 ∨ 24 ≤ (a1).toNatClampNeg) ∧ (if 6 ≤ (I29 3 ((a1).toNatClampNeg)) then (r = (some (.int (-1)), (zS I29 J30 tg31))) else (∃ (v32 : Int32) (I33 : Nat → Nat → Int32) (J34 : Nat → Nat → Int64) (tg35 : Option Nat), Runs (GW L xs) d 173 (0, [.ref 2, .int (a1 * 6), .int (I29 3 ((a1).toNatClampNeg)), .int v28, vU], [], (zS I29 J30 tg31)) ((some (.int v32)), (zS I33 J34 tg35)) ∧ (if v32 = 0 then (¬ (((a1 * 6) + (I29 3 ((a1).toNatClampNeg))) < 0 ∨ 144 ≤ ((a1 * 6) + (I29 3 ((a1).toNatClampNeg))).toNatClampNeg) ∧ ¬ (a1 < 0 ∨ 24 ≤ (a1).toNatClampNeg) ∧ ∃ (I36 : Nat → Nat → Int32) (J37 : Nat → Nat → Int64) (tg38 : Option Nat), Runs (GW L xs) d 61 (0, [.ref 70, .int a1, vU], [], (zS (up2 (up2 I33 2 (((a1 * 6) + (I29 3 ((a1).toNatClampNeg))).toNatClampNeg) v28) 3 ((a1).toNatClampNeg) ((I29 3 ((a1).toNatClampNeg)) + 1)) J34 tg35)) (none, (zS I36 J37 tg38)) ∧ r = (some (.int ((I29 3 ((a1).toNatClampNeg)) + 1)), (zS I36 J37 tg38))) else (r = (some (.int (-1)), (zS I33 J34 tg35)))))))))))) : Runs (GW L xs) (d + 1) 117 (0, [.ref 0, .int a1, .int a2, .int a3, .int a4, vU, vU], [], (zS I J tg)) r := by
  refine Runs.sN 3 (c' := (5, [.ref 0, .int a1, .int a2, .int a3, .int a4, vU, vU], [.int a1, .ref 1], (zS I J tg))) rfl ?_
  obtain ⟨v20, I21, J22, tg23, c39, h⟩ := h
  refine Runs.cl (cm := 46) (as := [.ref 1, .int a1]) (rest := []) (r1 := ((some (.int v20)), (zS I21 J22 tg23))) rfl (Nat.le_of_ble_eq_true rfl) c39 ?_
  refine Runs.as (c' := (8, [.ref 0, .int a1, .int a2, .int a3, .int a4, vU, vU], [.int v20], (zS I21 J22 tg23))) rfl ?_
  by_cases c40 : v20 = 0
  · rw [if_pos c40] at h
    refine Runs.brT (P := v20 = 0) (a := 21) (b := 11) (L := [.ref 0, .int a1, .int a2, .int a3, .int a4, vU, vU]) (S := []) (z := (zS I21 J22 tg23)) rfl c40 ?_
    refine Runs.sN 1 (c' := (22, [.ref 0, .int a1, .int a2, .int a3, .int a4, vU, vU], [.int (-1)], (zS I21 J22 tg23))) rfl ?_
    subst h
    exact Runs.rt rfl
  · rw [if_neg c40] at h
    refine Runs.brF (P := v20 = 0) (a := 21) (b := 11) (L := [.ref 0, .int a1, .int a2, .int a3, .int a4, vU, vU]) (S := []) (z := (zS I21 J22 tg23)) rfl c40 ?_
    refine Runs.sN 3 (c' := (15, [.ref 0, .int a1, .int a2, .int a3, .int a4, vU, vU], [.int a4, .int a3, .int a2], (zS I21 J22 tg23))) rfl ?_
    obtain ⟨v24, I25, J26, tg27, c41, h⟩ := h
    refine Runs.cl (cm := 167) (as := [.int a2, .int a3, .int a4]) (rest := []) (r1 := ((some (.int v24)), (zS I25 J26 tg27))) rfl (Nat.le_of_ble_eq_true rfl) c41 ?_
    refine Runs.as (c' := (18, [.ref 0, .int a1, .int a2, .int a3, .int a4, vU, vU], [.int v24], (zS I25 J26 tg27))) rfl ?_
    by_cases c42 : v24 = 0
    · rw [if_pos c42] at h
      refine Runs.brT (P := v24 = 0) (a := 21) (b := 23) (L := [.ref 0, .int a1, .int a2, .int a3, .int a4, vU, vU]) (S := []) (z := (zS I25 J26 tg27)) rfl c42 ?_
      refine Runs.sN 1 (c' := (22, [.ref 0, .int a1, .int a2, .int a3, .int a4, vU, vU], [.int (-1)], (zS I25 J26 tg27))) rfl ?_
      subst h
      exact Runs.rt rfl
    · rw [if_neg c42] at h
      refine Runs.brF (P := v24 = 0) (a := 21) (b := 23) (L := [.ref 0, .int a1, .int a2, .int a3, .int a4, vU, vU]) (S := []) (z := (zS I25 J26 tg27)) rfl c42 ?_
      refine Runs.sN 3 (c' := (27, [.ref 0, .int a1, .int a2, .int a3, .int a4, vU, vU], [.int a4, .int a3, .int a2], (zS I25 J26 tg27))) rfl ?_
      obtain ⟨v28, I29, J30, tg31, c43, h⟩ := h
      refine Runs.cl (cm := 169) (as := [.int a2, .int a3, .int a4]) (rest := []) (r1 := ((some (.int v28)), (zS I29 J30 tg31))) rfl (Nat.le_of_ble_eq_true rfl) c43 ?_
      refine Runs.as (c' := (30, [.ref 0, .int a1, .int a2, .int a3, .int a4, vU, vU], [.int v28], (zS I29 J30 tg31))) rfl ?_
      refine Runs.sN 5 (c' := (40, [.ref 0, .int a1, .int a2, .int a3, .int a4, .int v28, vU], [.int a1, .ref 3], (zS I29 J30 tg31))) rfl ?_
      obtain ⟨c44, h⟩ := h
      refine Runs.to (c' := (41, [.ref 0, .int a1, .int a2, .int a3, .int a4, .int v28, vU], [.int (I29 3 ((a1).toNatClampNeg))], (zS I29 J30 tg31))) (Runs.ild rfl (show (3 : Nat) < 114 by decide) rfl c44) ?_
      refine Runs.sN 3 (c' := (47, [.ref 0, .int a1, .int a2, .int a3, .int a4, .int v28, .int (I29 3 ((a1).toNatClampNeg))], [.int 6, .int (I29 3 ((a1).toNatClampNeg))], (zS I29 J30 tg31))) rfl ?_
      by_cases c45 : 6 ≤ (I29 3 ((a1).toNatClampNeg))
      · rw [if_pos c45] at h
        refine Runs.brT (P := 6 ≤ (I29 3 ((a1).toNatClampNeg))) (a := 71) (b := 50) (L := [.ref 0, .int a1, .int a2, .int a3, .int a4, .int v28, .int (I29 3 ((a1).toNatClampNeg))]) (S := []) (z := (zS I29 J30 tg31)) rfl c45 ?_
        refine Runs.sN 1 (c' := (72, [.ref 0, .int a1, .int a2, .int a3, .int a4, .int v28, .int (I29 3 ((a1).toNatClampNeg))], [.int (-1)], (zS I29 J30 tg31))) rfl ?_
        subst h
        exact Runs.rt rfl
      · rw [if_neg c45] at h
        refine Runs.brF (P := 6 ≤ (I29 3 ((a1).toNatClampNeg))) (a := 71) (b := 50) (L := [.ref 0, .int a1, .int a2, .int a3, .int a4, .int v28, .int (I29 3 ((a1).toNatClampNeg))]) (S := []) (z := (zS I29 J30 tg31)) rfl c45 ?_
        refine Runs.sN 8 (c' := (65, [.ref 0, .int a1, .int a2, .int a3, .int a4, .int v28, .int (I29 3 ((a1).toNatClampNeg))], [.int v28, .int (I29 3 ((a1).toNatClampNeg)), .int (a1 * 6), .ref 2], (zS I29 J30 tg31))) rfl ?_
        obtain ⟨v32, I33, J34, tg35, c46, h⟩ := h
        refine Runs.cl (cm := 173) (as := [.ref 2, .int (a1 * 6), .int (I29 3 ((a1).toNatClampNeg)), .int v28]) (rest := []) (r1 := ((some (.int v32)), (zS I33 J34 tg35))) rfl (Nat.le_of_ble_eq_true rfl) c46 ?_
        refine Runs.as (c' := (68, [.ref 0, .int a1, .int a2, .int a3, .int a4, .int v28, .int (I29 3 ((a1).toNatClampNeg))], [.int v32], (zS I33 J34 tg35))) rfl ?_
        by_cases c47 : v32 = 0
        · rw [if_pos c47] at h
          refine Runs.brT (P := v32 = 0) (a := 73) (b := 71) (L := [.ref 0, .int a1, .int a2, .int a3, .int a4, .int v28, .int (I29 3 ((a1).toNatClampNeg))]) (S := []) (z := (zS I33 J34 tg35)) rfl c47 ?_
          refine Runs.sN 9 (c' := (89, [.ref 0, .int a1, .int a2, .int a3, .int a4, .int v28, .int (I29 3 ((a1).toNatClampNeg))], [.int v28, .int ((a1 * 6) + (I29 3 ((a1).toNatClampNeg))), .ref 2], (zS I33 J34 tg35))) rfl ?_
          obtain ⟨c48, h⟩ := h
          refine Runs.to (c' := (90, [.ref 0, .int a1, .int a2, .int a3, .int a4, .int v28, .int (I29 3 ((a1).toNatClampNeg))], [], (zS (up2 I33 2 (((a1 * 6) + (I29 3 ((a1).toNatClampNeg))).toNatClampNeg) v28) J34 tg35))) (Runs.ist rfl (show (2 : Nat) < 114 by decide) rfl c48) ?_
          refine Runs.sN 7 (c' := (102, [.ref 0, .int a1, .int a2, .int a3, .int a4, .int v28, .int (I29 3 ((a1).toNatClampNeg))], [.int ((I29 3 ((a1).toNatClampNeg)) + 1), .int a1, .ref 3], (zS (up2 I33 2 (((a1 * 6) + (I29 3 ((a1).toNatClampNeg))).toNatClampNeg) v28) J34 tg35))) rfl ?_
          obtain ⟨c49, h⟩ := h
          refine Runs.to (c' := (103, [.ref 0, .int a1, .int a2, .int a3, .int a4, .int v28, .int (I29 3 ((a1).toNatClampNeg))], [], (zS (up2 (up2 I33 2 (((a1 * 6) + (I29 3 ((a1).toNatClampNeg))).toNatClampNeg) v28) 3 ((a1).toNatClampNeg) ((I29 3 ((a1).toNatClampNeg)) + 1)) J34 tg35))) (Runs.ist rfl (show (3 : Nat) < 114 by decide) rfl c49) ?_
          refine Runs.sN 3 (c' := (108, [.ref 0, .int a1, .int a2, .int a3, .int a4, .int v28, .int (I29 3 ((a1).toNatClampNeg))], [.int a1, .ref 70], (zS (up2 (up2 I33 2 (((a1 * 6) + (I29 3 ((a1).toNatClampNeg))).toNatClampNeg) v28) 3 ((a1).toNatClampNeg) ((I29 3 ((a1).toNatClampNeg)) + 1)) J34 tg35))) rfl ?_
          obtain ⟨I36, J37, tg38, c50, h⟩ := h
          refine Runs.cl (cm := 61) (as := [.ref 70, .int a1]) (rest := []) (r1 := (none, (zS I36 J37 tg38))) rfl (Nat.le_of_ble_eq_true rfl) c50 ?_
          refine Runs.as (c' := (111, [.ref 0, .int a1, .int a2, .int a3, .int a4, .int v28, .int (I29 3 ((a1).toNatClampNeg))], [], (zS I36 J37 tg38))) rfl ?_
          refine Runs.sN 3 (c' := (115, [.ref 0, .int a1, .int a2, .int a3, .int a4, .int v28, .int (I29 3 ((a1).toNatClampNeg))], [.int ((I29 3 ((a1).toNatClampNeg)) + 1)], (zS I36 J37 tg38))) rfl ?_
          subst h
          exact Runs.rt rfl
        · rw [if_neg c47] at h
          refine Runs.brF (P := v32 = 0) (a := 73) (b := 71) (L := [.ref 0, .int a1, .int a2, .int a3, .int a4, .int v28, .int (I29 3 ((a1).toNatClampNeg))]) (S := []) (z := (zS I33 J34 tg35)) rfl c47 ?_
          refine Runs.sN 1 (c' := (72, [.ref 0, .int a1, .int a2, .int a3, .int a4, .int v28, .int (I29 3 ((a1).toNatClampNeg))], [.int (-1)], (zS I33 J34 tg35))) rfl ?_
          subst h
          exact Runs.rt rfl
-- X11_clear 
theorem sg_118 {L d : Nat} {xs : Nat → Int32} (I : Nat → Nat → Int32) (J : Nat → Nat → Int64) (tg : Option Nat) (a1 : Int32) {r : Option Value × SS} (h : (∃ (v8 : Int32) (I9 : Nat → Nat → Int32) (J10 : Nat → Nat → Int64) (tg11 : Option Nat), Runs (GW L xs) d 46 (0, [.ref 1, .int a1], [], (zS I J tg)) ((some (.int v8)), (zS I9 J10 tg11)) ∧ (if v8 = 0 then (r = (some (.int (-1)), (zS I9 J10 tg11))) else (¬ (a1 < 0 ∨ 24 ≤ (a1).toNatClampNeg) ∧ ¬ (a1 < 0 ∨ 24 ≤ (a1).toNatClampNeg) ∧ ∃ (I12 : Nat → Nat → Int32) (J13 : Nat → Nat → Int64) (tg14 : Option Nat), Runs (GW L xs) d 61 (0, [.ref 70, .int a1, vU], [], (zS (up2 I9 3 ((a1).toNatClampNeg) 0) J10 tg11)) (none, (zS I12 J13 tg14)) ∧ r = (some (.int (I9 3 ((a1).toNatClampNeg))), (zS I12 J13 tg14)))))) : Runs (GW L xs) (d + 1) 118 (0, [.ref 0, .int a1, vU], [], (zS I J tg)) r := by
  refine Runs.sN 3 (c' := (5, [.ref 0, .int a1, vU], [.int a1, .ref 1], (zS I J tg))) rfl ?_
  obtain ⟨v8, I9, J10, tg11, c15, h⟩ := h
  refine Runs.cl (cm := 46) (as := [.ref 1, .int a1]) (rest := []) (r1 := ((some (.int v8)), (zS I9 J10 tg11))) rfl (Nat.le_of_ble_eq_true rfl) c15 ?_
  refine Runs.as (c' := (8, [.ref 0, .int a1, vU], [.int v8], (zS I9 J10 tg11))) rfl ?_
  by_cases c16 : v8 = 0
  · rw [if_pos c16] at h
    refine Runs.brT (P := v8 = 0) (a := 11) (b := 13) (L := [.ref 0, .int a1, vU]) (S := []) (z := (zS I9 J10 tg11)) rfl c16 ?_
    refine Runs.sN 1 (c' := (12, [.ref 0, .int a1, vU], [.int (-1)], (zS I9 J10 tg11))) rfl ?_
    subst h
    exact Runs.rt rfl
  · rw [if_neg c16] at h
    refine Runs.brF (P := v8 = 0) (a := 11) (b := 13) (L := [.ref 0, .int a1, vU]) (S := []) (z := (zS I9 J10 tg11)) rfl c16 ?_
    refine Runs.sN 4 (c' := (21, [.ref 0, .int a1, vU], [.int a1, .ref 3], (zS I9 J10 tg11))) rfl ?_
    obtain ⟨c17, h⟩ := h
    refine Runs.to (c' := (22, [.ref 0, .int a1, vU], [.int (I9 3 ((a1).toNatClampNeg))], (zS I9 J10 tg11))) (Runs.ild rfl (show (3 : Nat) < 114 by decide) rfl c17) ?_
    refine Runs.sN 6 (c' := (32, [.ref 0, .int a1, .int (I9 3 ((a1).toNatClampNeg))], [.int 0, .int a1, .ref 3], (zS I9 J10 tg11))) rfl ?_
    obtain ⟨c18, h⟩ := h
    refine Runs.to (c' := (33, [.ref 0, .int a1, .int (I9 3 ((a1).toNatClampNeg))], [], (zS (up2 I9 3 ((a1).toNatClampNeg) 0) J10 tg11))) (Runs.ist rfl (show (3 : Nat) < 114 by decide) rfl c18) ?_
    refine Runs.sN 3 (c' := (38, [.ref 0, .int a1, .int (I9 3 ((a1).toNatClampNeg))], [.int a1, .ref 70], (zS (up2 I9 3 ((a1).toNatClampNeg) 0) J10 tg11))) rfl ?_
    obtain ⟨I12, J13, tg14, c19, h⟩ := h
    refine Runs.cl (cm := 61) (as := [.ref 70, .int a1]) (rest := []) (r1 := (none, (zS I12 J13 tg14))) rfl (Nat.le_of_ble_eq_true rfl) c19 ?_
    refine Runs.as (c' := (41, [.ref 0, .int a1, .int (I9 3 ((a1).toNatClampNeg))], [], (zS I12 J13 tg14))) rfl ?_
    refine Runs.sN 1 (c' := (42, [.ref 0, .int a1, .int (I9 3 ((a1).toNatClampNeg))], [.int (I9 3 ((a1).toNatClampNeg))], (zS I12 J13 tg14))) rfl ?_
    subst h
    exact Runs.rt rfl
-- X11_colour 
theorem sg_119 {L d : Nat} {xs : Nat → Int32} (I : Nat → Nat → Int32) (J : Nat → Nat → Int64) (tg : Option Nat) (a1 : Int32) (a2 : Int32) {r : Option Value × SS} (h : (∃ (v12 : Int32) (I13 : Nat → Nat → Int32) (J14 : Nat → Nat → Int64) (tg15 : Option Nat), Runs (GW L xs) d 46 (0, [.ref 1, .int a1], [], (zS I J tg)) ((some (.int v12)), (zS I13 J14 tg15)) ∧ (if v12 = 0 then (r = (some (.int 0), (zS I13 J14 tg15))) else (∃ (v16 : Int32) (I17 : Nat → Nat → Int32) (J18 : Nat → Nat → Int64) (tg19 : Option Nat), Runs (GW L xs) d 164 (0, [.int a2, .int 0, .int 3], [], (zS I13 J14 tg15)) ((some (.int v16)), (zS I17 J18 tg19)) ∧ (if v16 = 0 then (r = (some (.int 0), (zS I17 J18 tg19))) else (¬ (a1 < 0 ∨ 24 ≤ (a1).toNatClampNeg) ∧ ∃ (I20 : Nat → Nat → Int32) (J21 : Nat → Nat → Int64) (tg22 : Option Nat), Runs (GW L xs) d 61 (0, [.ref 70, .int a1, vU], [], (zS (up2 I17 4 ((a1).toNatClampNeg) a2) J18 tg19)) (none, (zS I20 J21 tg22)) ∧ r = (some (.int 1), (zS I20 J21 tg22)))))))) : Runs (GW L xs) (d + 1) 119 (0, [.ref 0, .int a1, .int a2], [], (zS I J tg)) r := by
  refine Runs.sN 3 (c' := (5, [.ref 0, .int a1, .int a2], [.int a1, .ref 1], (zS I J tg))) rfl ?_
  obtain ⟨v12, I13, J14, tg15, c23, h⟩ := h
  refine Runs.cl (cm := 46) (as := [.ref 1, .int a1]) (rest := []) (r1 := ((some (.int v12)), (zS I13 J14 tg15))) rfl (Nat.le_of_ble_eq_true rfl) c23 ?_
  refine Runs.as (c' := (8, [.ref 0, .int a1, .int a2], [.int v12], (zS I13 J14 tg15))) rfl ?_
  by_cases c24 : v12 = 0
  · rw [if_pos c24] at h
    refine Runs.brT (P := v12 = 0) (a := 20) (b := 11) (L := [.ref 0, .int a1, .int a2]) (S := []) (z := (zS I13 J14 tg15)) rfl c24 ?_
    refine Runs.sN 1 (c' := (21, [.ref 0, .int a1, .int a2], [.int 0], (zS I13 J14 tg15))) rfl ?_
    subst h
    exact Runs.rt rfl
  · rw [if_neg c24] at h
    refine Runs.brF (P := v12 = 0) (a := 20) (b := 11) (L := [.ref 0, .int a1, .int a2]) (S := []) (z := (zS I13 J14 tg15)) rfl c24 ?_
    refine Runs.sN 3 (c' := (14, [.ref 0, .int a1, .int a2], [.int 3, .int 0, .int a2], (zS I13 J14 tg15))) rfl ?_
    obtain ⟨v16, I17, J18, tg19, c25, h⟩ := h
    refine Runs.cl (cm := 164) (as := [.int a2, .int 0, .int 3]) (rest := []) (r1 := ((some (.int v16)), (zS I17 J18 tg19))) rfl (Nat.le_of_ble_eq_true rfl) c25 ?_
    refine Runs.as (c' := (17, [.ref 0, .int a1, .int a2], [.int v16], (zS I17 J18 tg19))) rfl ?_
    by_cases c26 : v16 = 0
    · rw [if_pos c26] at h
      refine Runs.brT (P := v16 = 0) (a := 20) (b := 22) (L := [.ref 0, .int a1, .int a2]) (S := []) (z := (zS I17 J18 tg19)) rfl c26 ?_
      refine Runs.sN 1 (c' := (21, [.ref 0, .int a1, .int a2], [.int 0], (zS I17 J18 tg19))) rfl ?_
      subst h
      exact Runs.rt rfl
    · rw [if_neg c26] at h
      refine Runs.brF (P := v16 = 0) (a := 20) (b := 22) (L := [.ref 0, .int a1, .int a2]) (S := []) (z := (zS I17 J18 tg19)) rfl c26 ?_
      refine Runs.sN 5 (c' := (31, [.ref 0, .int a1, .int a2], [.int a2, .int a1, .ref 4], (zS I17 J18 tg19))) rfl ?_
      obtain ⟨c27, h⟩ := h
      refine Runs.to (c' := (32, [.ref 0, .int a1, .int a2], [], (zS (up2 I17 4 ((a1).toNatClampNeg) a2) J18 tg19))) (Runs.ist rfl (show (4 : Nat) < 114 by decide) rfl c27) ?_
      refine Runs.sN 3 (c' := (37, [.ref 0, .int a1, .int a2], [.int a1, .ref 70], (zS (up2 I17 4 ((a1).toNatClampNeg) a2) J18 tg19))) rfl ?_
      obtain ⟨I20, J21, tg22, c28, h⟩ := h
      refine Runs.cl (cm := 61) (as := [.ref 70, .int a1]) (rest := []) (r1 := (none, (zS I20 J21 tg22))) rfl (Nat.le_of_ble_eq_true rfl) c28 ?_
      refine Runs.as (c' := (40, [.ref 0, .int a1, .int a2], [], (zS I20 J21 tg22))) rfl ?_
      refine Runs.sN 1 (c' := (41, [.ref 0, .int a1, .int a2], [.int 1], (zS I20 J21 tg22))) rfl ?_
      subst h
      exact Runs.rt rfl
-- X11_means 
theorem sg_120 {L d : Nat} {xs : Nat → Int32} (I : Nat → Nat → Int32) (J : Nat → Nat → Int64) (tg : Option Nat) (a1 : Int32) (a2 : Int32) (a3 : Int32) {r : Option Value × SS} (h : (∃ (v9 : Int32) (I10 : Nat → Nat → Int32) (J11 : Nat → Nat → Int64) (tg12 : Option Nat), Runs (GW L xs) d 44 (0, [.ref 1, .int a1], [], (zS I J tg)) ((some (.int v9)), (zS I10 J11 tg12)) ∧ (if v9 = 0 then (r = (some (.int 0), (zS I10 J11 tg12))) else ((if a2 = (-1) then ((if a2 = (-1) then (¬ (a1 < 0 ∨ 12 ≤ (a1).toNatClampNeg) ∧ ¬ (a1 < 0 ∨ 12 ≤ (a1).toNatClampNeg) ∧ (a3 = 0 ∨ a3 = 1) ∧ r = (some (.int 1), (zS (up2 (up2 I10 5 ((a1).toNatClampNeg) (-1)) 6 ((a1).toNatClampNeg) a3) J11 tg12))) else (¬ (a1 < 0 ∨ 12 ≤ (a1).toNatClampNeg) ∧ ¬ (a1 < 0 ∨ 12 ≤ (a1).toNatClampNeg) ∧ (a3 = 0 ∨ a3 = 1) ∧ r = (some (.int 1), (zS (up2 (up2 I10 5 ((a1).toNatClampNeg) (a2 - 12)) 6 ((a1).toNatClampNeg) a3) J11 tg12))))) else (∃ (v13 : Int32) (I14 : Nat → Nat → Int32) (J15 : Nat → Nat → Int64) (tg16 : Option Nat), Runs (GW L xs) d 45 (0, [.ref 1, .int a2], [], (zS I10 J11 tg12)) ((some (.int v13)), (zS I14 J15 tg16)) ∧ (if v13 = 0 then (r = (some (.int 0), (zS I14 J15 tg16))) else ((if a2 = (-1) then (¬ (a1 < 0 ∨ 12 ≤ (a1).toNatClampNeg) ∧ ¬ (a1 < 0 ∨ 12 ≤ (a1).toNatClampNeg) ∧ (a3 = 0 ∨ a3 = 1) ∧ r = (some (.int 1), (zS (up2 (up2 I14 5 ((a1).toNatClampNeg) (-1)) 6 ((a1).toNatClampNeg) a3) J15 tg16))) else (¬ (a1 < 0 ∨ 12 ≤ (a1).toNatClampNeg) ∧ ¬ (a1 < 0 ∨ 12 ≤ (a1).toNatClampNeg) ∧ (a3 = 0 ∨ a3 = 1) ∧ r = (some (.int 1), (zS (up2 (up2 I14 5 ((a1).toNatClampNeg) (a2 - 12)) 6 ((a1).toNatClampNeg) a3) J15 tg16)))))))))))) : Runs (GW L xs) (d + 1) 120 (0, [.ref 0, .int a1, .int a2, .int a3], [], (zS I J tg)) r := by
  refine Runs.sN 3 (c' := (5, [.ref 0, .int a1, .int a2, .int a3], [.int a1, .ref 1], (zS I J tg))) rfl ?_
  obtain ⟨v9, I10, J11, tg12, c17, h⟩ := h
  refine Runs.cl (cm := 44) (as := [.ref 1, .int a1]) (rest := []) (r1 := ((some (.int v9)), (zS I10 J11 tg12))) rfl (Nat.le_of_ble_eq_true rfl) c17 ?_
  refine Runs.as (c' := (8, [.ref 0, .int a1, .int a2, .int a3], [.int v9], (zS I10 J11 tg12))) rfl ?_
  by_cases c18 : v9 = 0
  · rw [if_pos c18] at h
    refine Runs.brT (P := v9 = 0) (a := 27) (b := 11) (L := [.ref 0, .int a1, .int a2, .int a3]) (S := []) (z := (zS I10 J11 tg12)) rfl c18 ?_
    refine Runs.sN 1 (c' := (28, [.ref 0, .int a1, .int a2, .int a3], [.int 0], (zS I10 J11 tg12))) rfl ?_
    subst h
    exact Runs.rt rfl
  · rw [if_neg c18] at h
    refine Runs.brF (P := v9 = 0) (a := 27) (b := 11) (L := [.ref 0, .int a1, .int a2, .int a3]) (S := []) (z := (zS I10 J11 tg12)) rfl c18 ?_
    refine Runs.sN 2 (c' := (13, [.ref 0, .int a1, .int a2, .int a3], [.int (-1), .int a2], (zS I10 J11 tg12))) rfl ?_
    by_cases c19 : a2 = (-1)
    · rw [if_pos c19] at h
      refine Runs.brT (P := a2 = (-1)) (a := 29) (b := 16) (L := [.ref 0, .int a1, .int a2, .int a3]) (S := []) (z := (zS I10 J11 tg12)) rfl c19 ?_
      refine Runs.sN 6 (c' := (39, [.ref 0, .int a1, .int a2, .int a3], [.int (-1), .int a2, .int a1, .ref 5], (zS I10 J11 tg12))) rfl ?_
      by_cases c20 : a2 = (-1)
      · rw [if_pos c20] at h
        refine Runs.brT (P := a2 = (-1)) (a := 42) (b := 46) (L := [.ref 0, .int a1, .int a2, .int a3]) (S := [.int a1, .ref 5]) (z := (zS I10 J11 tg12)) rfl c20 ?_
        refine Runs.sN 2 (c' := (50, [.ref 0, .int a1, .int a2, .int a3], [.int (-1), .int a1, .ref 5], (zS I10 J11 tg12))) rfl ?_
        obtain ⟨c21, h⟩ := h
        refine Runs.to (c' := (51, [.ref 0, .int a1, .int a2, .int a3], [], (zS (up2 I10 5 ((a1).toNatClampNeg) (-1)) J11 tg12))) (Runs.ist rfl (show (5 : Nat) < 114 by decide) rfl c21) ?_
        refine Runs.sN 5 (c' := (60, [.ref 0, .int a1, .int a2, .int a3], [.int a3, .int a1, .ref 6], (zS (up2 I10 5 ((a1).toNatClampNeg) (-1)) J11 tg12))) rfl ?_
        obtain ⟨c22, h⟩ := h
        obtain ⟨c23, h⟩ := h
        refine Runs.to (c' := (61, [.ref 0, .int a1, .int a2, .int a3], [], (zS (up2 (up2 I10 5 ((a1).toNatClampNeg) (-1)) 6 ((a1).toNatClampNeg) a3) J11 tg12))) (Runs.zst rfl (show (6 : Nat) < 114 by decide) rfl c22 c23) ?_
        refine Runs.sN 1 (c' := (62, [.ref 0, .int a1, .int a2, .int a3], [.int 1], (zS (up2 (up2 I10 5 ((a1).toNatClampNeg) (-1)) 6 ((a1).toNatClampNeg) a3) J11 tg12))) rfl ?_
        subst h
        exact Runs.rt rfl
      · rw [if_neg c20] at h
        refine Runs.brF (P := a2 = (-1)) (a := 42) (b := 46) (L := [.ref 0, .int a1, .int a2, .int a3]) (S := [.int a1, .ref 5]) (z := (zS I10 J11 tg12)) rfl c20 ?_
        refine Runs.sN 3 (c' := (50, [.ref 0, .int a1, .int a2, .int a3], [.int (a2 - 12), .int a1, .ref 5], (zS I10 J11 tg12))) rfl ?_
        obtain ⟨c24, h⟩ := h
        refine Runs.to (c' := (51, [.ref 0, .int a1, .int a2, .int a3], [], (zS (up2 I10 5 ((a1).toNatClampNeg) (a2 - 12)) J11 tg12))) (Runs.ist rfl (show (5 : Nat) < 114 by decide) rfl c24) ?_
        refine Runs.sN 5 (c' := (60, [.ref 0, .int a1, .int a2, .int a3], [.int a3, .int a1, .ref 6], (zS (up2 I10 5 ((a1).toNatClampNeg) (a2 - 12)) J11 tg12))) rfl ?_
        obtain ⟨c25, h⟩ := h
        obtain ⟨c26, h⟩ := h
        refine Runs.to (c' := (61, [.ref 0, .int a1, .int a2, .int a3], [], (zS (up2 (up2 I10 5 ((a1).toNatClampNeg) (a2 - 12)) 6 ((a1).toNatClampNeg) a3) J11 tg12))) (Runs.zst rfl (show (6 : Nat) < 114 by decide) rfl c25 c26) ?_
        refine Runs.sN 1 (c' := (62, [.ref 0, .int a1, .int a2, .int a3], [.int 1], (zS (up2 (up2 I10 5 ((a1).toNatClampNeg) (a2 - 12)) 6 ((a1).toNatClampNeg) a3) J11 tg12))) rfl ?_
        subst h
        exact Runs.rt rfl
    · rw [if_neg c19] at h
      refine Runs.brF (P := a2 = (-1)) (a := 29) (b := 16) (L := [.ref 0, .int a1, .int a2, .int a3]) (S := []) (z := (zS I10 J11 tg12)) rfl c19 ?_
      refine Runs.sN 3 (c' := (21, [.ref 0, .int a1, .int a2, .int a3], [.int a2, .ref 1], (zS I10 J11 tg12))) rfl ?_
      obtain ⟨v13, I14, J15, tg16, c27, h⟩ := h
      refine Runs.cl (cm := 45) (as := [.ref 1, .int a2]) (rest := []) (r1 := ((some (.int v13)), (zS I14 J15 tg16))) rfl (Nat.le_of_ble_eq_true rfl) c27 ?_
      refine Runs.as (c' := (24, [.ref 0, .int a1, .int a2, .int a3], [.int v13], (zS I14 J15 tg16))) rfl ?_
      by_cases c28 : v13 = 0
      · rw [if_pos c28] at h
        refine Runs.brT (P := v13 = 0) (a := 27) (b := 29) (L := [.ref 0, .int a1, .int a2, .int a3]) (S := []) (z := (zS I14 J15 tg16)) rfl c28 ?_
        refine Runs.sN 1 (c' := (28, [.ref 0, .int a1, .int a2, .int a3], [.int 0], (zS I14 J15 tg16))) rfl ?_
        subst h
        exact Runs.rt rfl
      · rw [if_neg c28] at h
        refine Runs.brF (P := v13 = 0) (a := 27) (b := 29) (L := [.ref 0, .int a1, .int a2, .int a3]) (S := []) (z := (zS I14 J15 tg16)) rfl c28 ?_
        refine Runs.sN 6 (c' := (39, [.ref 0, .int a1, .int a2, .int a3], [.int (-1), .int a2, .int a1, .ref 5], (zS I14 J15 tg16))) rfl ?_
        by_cases c29 : a2 = (-1)
        · rw [if_pos c29] at h
          refine Runs.brT (P := a2 = (-1)) (a := 42) (b := 46) (L := [.ref 0, .int a1, .int a2, .int a3]) (S := [.int a1, .ref 5]) (z := (zS I14 J15 tg16)) rfl c29 ?_
          refine Runs.sN 2 (c' := (50, [.ref 0, .int a1, .int a2, .int a3], [.int (-1), .int a1, .ref 5], (zS I14 J15 tg16))) rfl ?_
          obtain ⟨c30, h⟩ := h
          refine Runs.to (c' := (51, [.ref 0, .int a1, .int a2, .int a3], [], (zS (up2 I14 5 ((a1).toNatClampNeg) (-1)) J15 tg16))) (Runs.ist rfl (show (5 : Nat) < 114 by decide) rfl c30) ?_
          refine Runs.sN 5 (c' := (60, [.ref 0, .int a1, .int a2, .int a3], [.int a3, .int a1, .ref 6], (zS (up2 I14 5 ((a1).toNatClampNeg) (-1)) J15 tg16))) rfl ?_
          obtain ⟨c31, h⟩ := h
          obtain ⟨c32, h⟩ := h
          refine Runs.to (c' := (61, [.ref 0, .int a1, .int a2, .int a3], [], (zS (up2 (up2 I14 5 ((a1).toNatClampNeg) (-1)) 6 ((a1).toNatClampNeg) a3) J15 tg16))) (Runs.zst rfl (show (6 : Nat) < 114 by decide) rfl c31 c32) ?_
          refine Runs.sN 1 (c' := (62, [.ref 0, .int a1, .int a2, .int a3], [.int 1], (zS (up2 (up2 I14 5 ((a1).toNatClampNeg) (-1)) 6 ((a1).toNatClampNeg) a3) J15 tg16))) rfl ?_
          subst h
          exact Runs.rt rfl
        · rw [if_neg c29] at h
          refine Runs.brF (P := a2 = (-1)) (a := 42) (b := 46) (L := [.ref 0, .int a1, .int a2, .int a3]) (S := [.int a1, .ref 5]) (z := (zS I14 J15 tg16)) rfl c29 ?_
          refine Runs.sN 3 (c' := (50, [.ref 0, .int a1, .int a2, .int a3], [.int (a2 - 12), .int a1, .ref 5], (zS I14 J15 tg16))) rfl ?_
          obtain ⟨c33, h⟩ := h
          refine Runs.to (c' := (51, [.ref 0, .int a1, .int a2, .int a3], [], (zS (up2 I14 5 ((a1).toNatClampNeg) (a2 - 12)) J15 tg16))) (Runs.ist rfl (show (5 : Nat) < 114 by decide) rfl c33) ?_
          refine Runs.sN 5 (c' := (60, [.ref 0, .int a1, .int a2, .int a3], [.int a3, .int a1, .ref 6], (zS (up2 I14 5 ((a1).toNatClampNeg) (a2 - 12)) J15 tg16))) rfl ?_
          obtain ⟨c34, h⟩ := h
          obtain ⟨c35, h⟩ := h
          refine Runs.to (c' := (61, [.ref 0, .int a1, .int a2, .int a3], [], (zS (up2 (up2 I14 5 ((a1).toNatClampNeg) (a2 - 12)) 6 ((a1).toNatClampNeg) a3) J15 tg16))) (Runs.zst rfl (show (6 : Nat) < 114 by decide) rfl c34 c35) ?_
          refine Runs.sN 1 (c' := (62, [.ref 0, .int a1, .int a2, .int a3], [.int 1], (zS (up2 (up2 I14 5 ((a1).toNatClampNeg) (a2 - 12)) 6 ((a1).toNatClampNeg) a3) J15 tg16))) rfl ?_
          subst h
          exact Runs.rt rfl
-- X11_weights 
theorem sg_121 {L d : Nat} {xs : Nat → Int32} (I : Nat → Nat → Int32) (J : Nat → Nat → Int64) (tg : Option Nat) (a1 : Int32) (a2 : Int32) (a3 : Int32) (a4 : Int32) {r : Option Value × SS} (h : (∃ (v20 : Int32) (I21 : Nat → Nat → Int32) (J22 : Nat → Nat → Int64) (tg23 : Option Nat), Runs (GW L xs) d 164 (0, [.int a1, .int 0, .int 99], [], (zS I J tg)) ((some (.int v20)), (zS I21 J22 tg23)) ∧ (if v20 = 0 then (r = (some (.int 0), (zS I21 J22 tg23))) else (∃ (v24 : Int32) (I25 : Nat → Nat → Int32) (J26 : Nat → Nat → Int64) (tg27 : Option Nat), Runs (GW L xs) d 164 (0, [.int a2, .int 0, .int 99], [], (zS I21 J22 tg23)) ((some (.int v24)), (zS I25 J26 tg27)) ∧ (if v24 = 0 then (r = (some (.int 0), (zS I25 J26 tg27))) else (∃ (v28 : Int32) (I29 : Nat → Nat → Int32) (J30 : Nat → Nat → Int64) (tg31 : Option Nat), Runs (GW L xs) d 164 (0, [.int a3, .int 0, .int 99], [], (zS I25 J26 tg27)) ((some (.int v28)), (zS I29 J30 tg31)) ∧ (if v28 = 0 then (r = (some (.int 0), (zS I29 J30 tg31))) else (∃ (v32 : Int32) (I33 : Nat → Nat → Int32) (J34 : Nat → Nat → Int64) (tg35 : Option Nat), Runs (GW L xs) d 164 (0, [.int a4, .int 0, .int 99], [], (zS I29 J30 tg31)) ((some (.int v32)), (zS I33 J34 tg35)) ∧ (if v32 = 0 then (r = (some (.int 0), (zS I33 J34 tg35))) else (∃ (I36 : Nat → Nat → Int32) (J37 : Nat → Nat → Int64) (tg38 : Option Nat), Runs (GW L xs) d 60 (0, [.ref 70], [], (zS (up2 (up2 (up2 (up2 I33 1 2 a1) 1 3 a2) 1 4 a3) 1 5 a4) J34 tg35)) (none, (zS I36 J37 tg38)) ∧ r = (some (.int 1), (zS I36 J37 tg38)))))))))))) : Runs (GW L xs) (d + 1) 121 (0, [.ref 0, .int a1, .int a2, .int a3, .int a4], [], (zS I J tg)) r := by
  refine Runs.sN 3 (c' := (4, [.ref 0, .int a1, .int a2, .int a3, .int a4], [.int 99, .int 0, .int a1], (zS I J tg))) rfl ?_
  obtain ⟨v20, I21, J22, tg23, c39, h⟩ := h
  refine Runs.cl (cm := 164) (as := [.int a1, .int 0, .int 99]) (rest := []) (r1 := ((some (.int v20)), (zS I21 J22 tg23))) rfl (Nat.le_of_ble_eq_true rfl) c39 ?_
  refine Runs.as (c' := (7, [.ref 0, .int a1, .int a2, .int a3, .int a4], [.int v20], (zS I21 J22 tg23))) rfl ?_
  by_cases c40 : v20 = 0
  · rw [if_pos c40] at h
    refine Runs.brT (P := v20 = 0) (a := 41) (b := 10) (L := [.ref 0, .int a1, .int a2, .int a3, .int a4]) (S := []) (z := (zS I21 J22 tg23)) rfl c40 ?_
    refine Runs.sN 1 (c' := (42, [.ref 0, .int a1, .int a2, .int a3, .int a4], [.int 0], (zS I21 J22 tg23))) rfl ?_
    subst h
    exact Runs.rt rfl
  · rw [if_neg c40] at h
    refine Runs.brF (P := v20 = 0) (a := 41) (b := 10) (L := [.ref 0, .int a1, .int a2, .int a3, .int a4]) (S := []) (z := (zS I21 J22 tg23)) rfl c40 ?_
    refine Runs.sN 3 (c' := (14, [.ref 0, .int a1, .int a2, .int a3, .int a4], [.int 99, .int 0, .int a2], (zS I21 J22 tg23))) rfl ?_
    obtain ⟨v24, I25, J26, tg27, c41, h⟩ := h
    refine Runs.cl (cm := 164) (as := [.int a2, .int 0, .int 99]) (rest := []) (r1 := ((some (.int v24)), (zS I25 J26 tg27))) rfl (Nat.le_of_ble_eq_true rfl) c41 ?_
    refine Runs.as (c' := (17, [.ref 0, .int a1, .int a2, .int a3, .int a4], [.int v24], (zS I25 J26 tg27))) rfl ?_
    by_cases c42 : v24 = 0
    · rw [if_pos c42] at h
      refine Runs.brT (P := v24 = 0) (a := 41) (b := 20) (L := [.ref 0, .int a1, .int a2, .int a3, .int a4]) (S := []) (z := (zS I25 J26 tg27)) rfl c42 ?_
      refine Runs.sN 1 (c' := (42, [.ref 0, .int a1, .int a2, .int a3, .int a4], [.int 0], (zS I25 J26 tg27))) rfl ?_
      subst h
      exact Runs.rt rfl
    · rw [if_neg c42] at h
      refine Runs.brF (P := v24 = 0) (a := 41) (b := 20) (L := [.ref 0, .int a1, .int a2, .int a3, .int a4]) (S := []) (z := (zS I25 J26 tg27)) rfl c42 ?_
      refine Runs.sN 3 (c' := (24, [.ref 0, .int a1, .int a2, .int a3, .int a4], [.int 99, .int 0, .int a3], (zS I25 J26 tg27))) rfl ?_
      obtain ⟨v28, I29, J30, tg31, c43, h⟩ := h
      refine Runs.cl (cm := 164) (as := [.int a3, .int 0, .int 99]) (rest := []) (r1 := ((some (.int v28)), (zS I29 J30 tg31))) rfl (Nat.le_of_ble_eq_true rfl) c43 ?_
      refine Runs.as (c' := (27, [.ref 0, .int a1, .int a2, .int a3, .int a4], [.int v28], (zS I29 J30 tg31))) rfl ?_
      by_cases c44 : v28 = 0
      · rw [if_pos c44] at h
        refine Runs.brT (P := v28 = 0) (a := 41) (b := 30) (L := [.ref 0, .int a1, .int a2, .int a3, .int a4]) (S := []) (z := (zS I29 J30 tg31)) rfl c44 ?_
        refine Runs.sN 1 (c' := (42, [.ref 0, .int a1, .int a2, .int a3, .int a4], [.int 0], (zS I29 J30 tg31))) rfl ?_
        subst h
        exact Runs.rt rfl
      · rw [if_neg c44] at h
        refine Runs.brF (P := v28 = 0) (a := 41) (b := 30) (L := [.ref 0, .int a1, .int a2, .int a3, .int a4]) (S := []) (z := (zS I29 J30 tg31)) rfl c44 ?_
        refine Runs.sN 3 (c' := (35, [.ref 0, .int a1, .int a2, .int a3, .int a4], [.int 99, .int 0, .int a4], (zS I29 J30 tg31))) rfl ?_
        obtain ⟨v32, I33, J34, tg35, c45, h⟩ := h
        refine Runs.cl (cm := 164) (as := [.int a4, .int 0, .int 99]) (rest := []) (r1 := ((some (.int v32)), (zS I33 J34 tg35))) rfl (Nat.le_of_ble_eq_true rfl) c45 ?_
        refine Runs.as (c' := (38, [.ref 0, .int a1, .int a2, .int a3, .int a4], [.int v32], (zS I33 J34 tg35))) rfl ?_
        by_cases c46 : v32 = 0
        · rw [if_pos c46] at h
          refine Runs.brT (P := v32 = 0) (a := 41) (b := 43) (L := [.ref 0, .int a1, .int a2, .int a3, .int a4]) (S := []) (z := (zS I33 J34 tg35)) rfl c46 ?_
          refine Runs.sN 1 (c' := (42, [.ref 0, .int a1, .int a2, .int a3, .int a4], [.int 0], (zS I33 J34 tg35))) rfl ?_
          subst h
          exact Runs.rt rfl
        · rw [if_neg c46] at h
          refine Runs.brF (P := v32 = 0) (a := 41) (b := 43) (L := [.ref 0, .int a1, .int a2, .int a3, .int a4]) (S := []) (z := (zS I33 J34 tg35)) rfl c46 ?_
          refine Runs.sN 18 (c' := (80, [.ref 0, .int a1, .int a2, .int a3, .int a4], [.ref 70], (zS (up2 (up2 (up2 (up2 I33 1 2 a1) 1 3 a2) 1 4 a3) 1 5 a4) J34 tg35))) rfl ?_
          obtain ⟨I36, J37, tg38, c47, h⟩ := h
          refine Runs.cl (cm := 60) (as := [.ref 70]) (rest := []) (r1 := (none, (zS I36 J37 tg38))) rfl (Nat.le_of_ble_eq_true rfl) c47 ?_
          refine Runs.as (c' := (83, [.ref 0, .int a1, .int a2, .int a3, .int a4], [], (zS I36 J37 tg38))) rfl ?_
          refine Runs.sN 1 (c' := (84, [.ref 0, .int a1, .int a2, .int a3, .int a4], [.int 1], (zS I36 J37 tg38))) rfl ?_
          subst h
          exact Runs.rt rfl
-- X11_far 
theorem sg_122 {L d : Nat} {xs : Nat → Int32} (I : Nat → Nat → Int32) (J : Nat → Nat → Int64) (tg : Option Nat) (a1 : Int32) (a2 : Int32) {r : Option Value × SS} (h : (∃ (v13 : Int32) (I14 : Nat → Nat → Int32) (J15 : Nat → Nat → Int64) (tg16 : Option Nat), Runs (GW L xs) d 46 (0, [.ref 1, .int a1], [], (zS I J tg)) ((some (.int v13)), (zS I14 J15 tg16)) ∧ (if v13 = 0 then (r = (some (.int (-1)), (zS I14 J15 tg16))) else (∃ (v17 : Int32) (I18 : Nat → Nat → Int32) (J19 : Nat → Nat → Int64) (tg20 : Option Nat), Runs (GW L xs) d 46 (0, [.ref 1, .int a2], [], (zS I14 J15 tg16)) ((some (.int v17)), (zS I18 J19 tg20)) ∧ (if v17 = 0 then (r = (some (.int (-1)), (zS I18 J19 tg20))) else (∃ (v21 : Int32) (I22 : Nat → Nat → Int32) (J23 : Nat → Nat → Int64) (tg24 : Option Nat), Runs (GW L xs) d 62 (0, [.ref 70, .int a1, .int a2, vU], [], (zS I18 J19 tg20)) ((some (.int v21)), (zS I22 J23 tg24)) ∧ r = (some (.int v21), (zS I22 J23 tg24)))))))) : Runs (GW L xs) (d + 1) 122 (0, [.ref 0, .int a1, .int a2], [], (zS I J tg)) r := by
  refine Runs.sN 3 (c' := (5, [.ref 0, .int a1, .int a2], [.int a1, .ref 1], (zS I J tg))) rfl ?_
  obtain ⟨v13, I14, J15, tg16, c25, h⟩ := h
  refine Runs.cl (cm := 46) (as := [.ref 1, .int a1]) (rest := []) (r1 := ((some (.int v13)), (zS I14 J15 tg16))) rfl (Nat.le_of_ble_eq_true rfl) c25 ?_
  refine Runs.as (c' := (8, [.ref 0, .int a1, .int a2], [.int v13], (zS I14 J15 tg16))) rfl ?_
  by_cases c26 : v13 = 0
  · rw [if_pos c26] at h
    refine Runs.brT (P := v13 = 0) (a := 22) (b := 11) (L := [.ref 0, .int a1, .int a2]) (S := []) (z := (zS I14 J15 tg16)) rfl c26 ?_
    refine Runs.sN 1 (c' := (23, [.ref 0, .int a1, .int a2], [.int (-1)], (zS I14 J15 tg16))) rfl ?_
    subst h
    exact Runs.rt rfl
  · rw [if_neg c26] at h
    refine Runs.brF (P := v13 = 0) (a := 22) (b := 11) (L := [.ref 0, .int a1, .int a2]) (S := []) (z := (zS I14 J15 tg16)) rfl c26 ?_
    refine Runs.sN 3 (c' := (16, [.ref 0, .int a1, .int a2], [.int a2, .ref 1], (zS I14 J15 tg16))) rfl ?_
    obtain ⟨v17, I18, J19, tg20, c27, h⟩ := h
    refine Runs.cl (cm := 46) (as := [.ref 1, .int a2]) (rest := []) (r1 := ((some (.int v17)), (zS I18 J19 tg20))) rfl (Nat.le_of_ble_eq_true rfl) c27 ?_
    refine Runs.as (c' := (19, [.ref 0, .int a1, .int a2], [.int v17], (zS I18 J19 tg20))) rfl ?_
    by_cases c28 : v17 = 0
    · rw [if_pos c28] at h
      refine Runs.brT (P := v17 = 0) (a := 22) (b := 24) (L := [.ref 0, .int a1, .int a2]) (S := []) (z := (zS I18 J19 tg20)) rfl c28 ?_
      refine Runs.sN 1 (c' := (23, [.ref 0, .int a1, .int a2], [.int (-1)], (zS I18 J19 tg20))) rfl ?_
      subst h
      exact Runs.rt rfl
    · rw [if_neg c28] at h
      refine Runs.brF (P := v17 = 0) (a := 22) (b := 24) (L := [.ref 0, .int a1, .int a2]) (S := []) (z := (zS I18 J19 tg20)) rfl c28 ?_
      refine Runs.sN 4 (c' := (30, [.ref 0, .int a1, .int a2], [.int a2, .int a1, .ref 70], (zS I18 J19 tg20))) rfl ?_
      obtain ⟨v21, I22, J23, tg24, c29, h⟩ := h
      refine Runs.cl (cm := 62) (as := [.ref 70, .int a1, .int a2]) (rest := []) (r1 := ((some (.int v21)), (zS I22 J23 tg24))) rfl (Nat.le_of_ble_eq_true rfl) c29 ?_
      refine Runs.as (c' := (33, [.ref 0, .int a1, .int a2], [.int v21], (zS I22 J23 tg24))) rfl ?_
      subst h
      exact Runs.rt rfl
-- X11_land 
theorem sg_123 {L d : Nat} {xs : Nat → Int32} (I : Nat → Nat → Int32) (J : Nat → Nat → Int64) (tg : Option Nat) (a1 : Int32) (a2 : Int32) (a3 : Int32) {r : Option Value × SS} (h : (∃ (v13 : Int32) (I14 : Nat → Nat → Int32) (J15 : Nat → Nat → Int64) (tg16 : Option Nat), Runs (GW L xs) d 165 (0, [.int a1], [], (zS I J tg)) ((some (.int v13)), (zS I14 J15 tg16)) ∧ (if v13 = 0 then (r = (some (.int 0), (zS I14 J15 tg16))) else (∃ (v17 : Int32) (I18 : Nat → Nat → Int32) (J19 : Nat → Nat → Int64) (tg20 : Option Nat), Runs (GW L xs) d 164 (0, [.int a2, .int 0, .int 99], [], (zS I14 J15 tg16)) ((some (.int v17)), (zS I18 J19 tg20)) ∧ (if v17 = 0 then (r = (some (.int 0), (zS I18 J19 tg20))) else (¬ (a1 < 0 ∨ 6 ≤ (a1).toNatClampNeg) ∧ ∃ (v21 : Int32) (I22 : Nat → Nat → Int32) (J23 : Nat → Nat → Int64) (tg24 : Option Nat), Runs (GW L xs) d 48 (0, [.ref 1], [], (zS (up2 I18 8 ((a1).toNatClampNeg) a2) J19 tg20)) ((some (.int v21)), (zS I22 J23 tg24)) ∧ ¬ (a1 < 0 ∨ 6 ≤ (a1).toNatClampNeg) ∧ r = (some (.int 1), (zS (up2 I22 9 ((a1).toNatClampNeg) (a3 &&& v21)) J23 tg24)))))))) : Runs (GW L xs) (d + 1) 123 (0, [.ref 0, .int a1, .int a2, .int a3], [], (zS I J tg)) r := by
  refine Runs.sN 1 (c' := (1, [.ref 0, .int a1, .int a2, .int a3], [.int a1], (zS I J tg))) rfl ?_
  obtain ⟨v13, I14, J15, tg16, c25, h⟩ := h
  refine Runs.cl (cm := 165) (as := [.int a1]) (rest := []) (r1 := ((some (.int v13)), (zS I14 J15 tg16))) rfl (Nat.le_of_ble_eq_true rfl) c25 ?_
  refine Runs.as (c' := (4, [.ref 0, .int a1, .int a2, .int a3], [.int v13], (zS I14 J15 tg16))) rfl ?_
  by_cases c26 : v13 = 0
  · rw [if_pos c26] at h
    refine Runs.brT (P := v13 = 0) (a := 17) (b := 7) (L := [.ref 0, .int a1, .int a2, .int a3]) (S := []) (z := (zS I14 J15 tg16)) rfl c26 ?_
    refine Runs.sN 1 (c' := (18, [.ref 0, .int a1, .int a2, .int a3], [.int 0], (zS I14 J15 tg16))) rfl ?_
    subst h
    exact Runs.rt rfl
  · rw [if_neg c26] at h
    refine Runs.brF (P := v13 = 0) (a := 17) (b := 7) (L := [.ref 0, .int a1, .int a2, .int a3]) (S := []) (z := (zS I14 J15 tg16)) rfl c26 ?_
    refine Runs.sN 3 (c' := (11, [.ref 0, .int a1, .int a2, .int a3], [.int 99, .int 0, .int a2], (zS I14 J15 tg16))) rfl ?_
    obtain ⟨v17, I18, J19, tg20, c27, h⟩ := h
    refine Runs.cl (cm := 164) (as := [.int a2, .int 0, .int 99]) (rest := []) (r1 := ((some (.int v17)), (zS I18 J19 tg20))) rfl (Nat.le_of_ble_eq_true rfl) c27 ?_
    refine Runs.as (c' := (14, [.ref 0, .int a1, .int a2, .int a3], [.int v17], (zS I18 J19 tg20))) rfl ?_
    by_cases c28 : v17 = 0
    · rw [if_pos c28] at h
      refine Runs.brT (P := v17 = 0) (a := 17) (b := 19) (L := [.ref 0, .int a1, .int a2, .int a3]) (S := []) (z := (zS I18 J19 tg20)) rfl c28 ?_
      refine Runs.sN 1 (c' := (18, [.ref 0, .int a1, .int a2, .int a3], [.int 0], (zS I18 J19 tg20))) rfl ?_
      subst h
      exact Runs.rt rfl
    · rw [if_neg c28] at h
      refine Runs.brF (P := v17 = 0) (a := 17) (b := 19) (L := [.ref 0, .int a1, .int a2, .int a3]) (S := []) (z := (zS I18 J19 tg20)) rfl c28 ?_
      refine Runs.sN 5 (c' := (28, [.ref 0, .int a1, .int a2, .int a3], [.int a2, .int a1, .ref 8], (zS I18 J19 tg20))) rfl ?_
      obtain ⟨c29, h⟩ := h
      refine Runs.to (c' := (29, [.ref 0, .int a1, .int a2, .int a3], [], (zS (up2 I18 8 ((a1).toNatClampNeg) a2) J19 tg20))) (Runs.ist rfl (show (8 : Nat) < 114 by decide) rfl c29) ?_
      refine Runs.sN 7 (c' := (42, [.ref 0, .int a1, .int a2, .int a3], [.ref 1, .int a3, .int a1, .ref 9], (zS (up2 I18 8 ((a1).toNatClampNeg) a2) J19 tg20))) rfl ?_
      obtain ⟨v21, I22, J23, tg24, c30, h⟩ := h
      refine Runs.cl (cm := 48) (as := [.ref 1]) (rest := [.int a3, .int a1, .ref 9]) (r1 := ((some (.int v21)), (zS I22 J23 tg24))) rfl (Nat.le_of_ble_eq_true rfl) c30 ?_
      refine Runs.as (c' := (45, [.ref 0, .int a1, .int a2, .int a3], [.int v21, .int a3, .int a1, .ref 9], (zS I22 J23 tg24))) rfl ?_
      refine Runs.sN 1 (c' := (46, [.ref 0, .int a1, .int a2, .int a3], [.int (a3 &&& v21), .int a1, .ref 9], (zS I22 J23 tg24))) rfl ?_
      obtain ⟨c31, h⟩ := h
      refine Runs.to (c' := (47, [.ref 0, .int a1, .int a2, .int a3], [], (zS (up2 I22 9 ((a1).toNatClampNeg) (a3 &&& v21)) J23 tg24))) (Runs.ist rfl (show (9 : Nat) < 114 by decide) rfl c31) ?_
      refine Runs.sN 1 (c' := (48, [.ref 0, .int a1, .int a2, .int a3], [.int 1], (zS (up2 I22 9 ((a1).toNatClampNeg) (a3 &&& v21)) J23 tg24))) rfl ?_
      subst h
      exact Runs.rt rfl
-- X11_lean 
theorem sg_124 {L d : Nat} {xs : Nat → Int32} (I : Nat → Nat → Int32) (J : Nat → Nat → Int64) (tg : Option Nat) (a1 : Int32) (a2 : Int32) (a3 : Int32) {r : Option Value × SS} (h : (∃ (v13 : Int32) (I14 : Nat → Nat → Int32) (J15 : Nat → Nat → Int64) (tg16 : Option Nat), Runs (GW L xs) d 166 (0, [.int a1], [], (zS I J tg)) ((some (.int v13)), (zS I14 J15 tg16)) ∧ (if v13 = 0 then (r = (some (.int 0), (zS I14 J15 tg16))) else (∃ (v17 : Int32) (I18 : Nat → Nat → Int32) (J19 : Nat → Nat → Int64) (tg20 : Option Nat), Runs (GW L xs) d 45 (0, [.ref 1, .int a2], [], (zS I14 J15 tg16)) ((some (.int v17)), (zS I18 J19 tg20)) ∧ (if v17 = 0 then (r = (some (.int 0), (zS I18 J19 tg20))) else (∃ (v21 : Int32) (I22 : Nat → Nat → Int32) (J23 : Nat → Nat → Int64) (tg24 : Option Nat), Runs (GW L xs) d 164 (0, [.int a3, .int 0, .int 99], [], (zS I18 J19 tg20)) ((some (.int v21)), (zS I22 J23 tg24)) ∧ (if v21 = 0 then (r = (some (.int 0), (zS I22 J23 tg24))) else (¬ ((((a1 * 12) + a2) - 12) < 0 ∨ 72 ≤ (((a1 * 12) + a2) - 12).toNatClampNeg) ∧ r = (some (.int 1), (zS (up2 I22 10 ((((a1 * 12) + a2) - 12).toNatClampNeg) a3) J23 tg24)))))))))) : Runs (GW L xs) (d + 1) 124 (0, [.ref 0, .int a1, .int a2, .int a3], [], (zS I J tg)) r := by
  refine Runs.sN 1 (c' := (1, [.ref 0, .int a1, .int a2, .int a3], [.int a1], (zS I J tg))) rfl ?_
  obtain ⟨v13, I14, J15, tg16, c25, h⟩ := h
  refine Runs.cl (cm := 166) (as := [.int a1]) (rest := []) (r1 := ((some (.int v13)), (zS I14 J15 tg16))) rfl (Nat.le_of_ble_eq_true rfl) c25 ?_
  refine Runs.as (c' := (4, [.ref 0, .int a1, .int a2, .int a3], [.int v13], (zS I14 J15 tg16))) rfl ?_
  by_cases c26 : v13 = 0
  · rw [if_pos c26] at h
    refine Runs.brT (P := v13 = 0) (a := 28) (b := 7) (L := [.ref 0, .int a1, .int a2, .int a3]) (S := []) (z := (zS I14 J15 tg16)) rfl c26 ?_
    refine Runs.sN 1 (c' := (29, [.ref 0, .int a1, .int a2, .int a3], [.int 0], (zS I14 J15 tg16))) rfl ?_
    subst h
    exact Runs.rt rfl
  · rw [if_neg c26] at h
    refine Runs.brF (P := v13 = 0) (a := 28) (b := 7) (L := [.ref 0, .int a1, .int a2, .int a3]) (S := []) (z := (zS I14 J15 tg16)) rfl c26 ?_
    refine Runs.sN 3 (c' := (12, [.ref 0, .int a1, .int a2, .int a3], [.int a2, .ref 1], (zS I14 J15 tg16))) rfl ?_
    obtain ⟨v17, I18, J19, tg20, c27, h⟩ := h
    refine Runs.cl (cm := 45) (as := [.ref 1, .int a2]) (rest := []) (r1 := ((some (.int v17)), (zS I18 J19 tg20))) rfl (Nat.le_of_ble_eq_true rfl) c27 ?_
    refine Runs.as (c' := (15, [.ref 0, .int a1, .int a2, .int a3], [.int v17], (zS I18 J19 tg20))) rfl ?_
    by_cases c28 : v17 = 0
    · rw [if_pos c28] at h
      refine Runs.brT (P := v17 = 0) (a := 28) (b := 18) (L := [.ref 0, .int a1, .int a2, .int a3]) (S := []) (z := (zS I18 J19 tg20)) rfl c28 ?_
      refine Runs.sN 1 (c' := (29, [.ref 0, .int a1, .int a2, .int a3], [.int 0], (zS I18 J19 tg20))) rfl ?_
      subst h
      exact Runs.rt rfl
    · rw [if_neg c28] at h
      refine Runs.brF (P := v17 = 0) (a := 28) (b := 18) (L := [.ref 0, .int a1, .int a2, .int a3]) (S := []) (z := (zS I18 J19 tg20)) rfl c28 ?_
      refine Runs.sN 3 (c' := (22, [.ref 0, .int a1, .int a2, .int a3], [.int 99, .int 0, .int a3], (zS I18 J19 tg20))) rfl ?_
      obtain ⟨v21, I22, J23, tg24, c29, h⟩ := h
      refine Runs.cl (cm := 164) (as := [.int a3, .int 0, .int 99]) (rest := []) (r1 := ((some (.int v21)), (zS I22 J23 tg24))) rfl (Nat.le_of_ble_eq_true rfl) c29 ?_
      refine Runs.as (c' := (25, [.ref 0, .int a1, .int a2, .int a3], [.int v21], (zS I22 J23 tg24))) rfl ?_
      by_cases c30 : v21 = 0
      · rw [if_pos c30] at h
        refine Runs.brT (P := v21 = 0) (a := 28) (b := 30) (L := [.ref 0, .int a1, .int a2, .int a3]) (S := []) (z := (zS I22 J23 tg24)) rfl c30 ?_
        refine Runs.sN 1 (c' := (29, [.ref 0, .int a1, .int a2, .int a3], [.int 0], (zS I22 J23 tg24))) rfl ?_
        subst h
        exact Runs.rt rfl
      · rw [if_neg c30] at h
        refine Runs.brF (P := v21 = 0) (a := 28) (b := 30) (L := [.ref 0, .int a1, .int a2, .int a3]) (S := []) (z := (zS I22 J23 tg24)) rfl c30 ?_
        refine Runs.sN 11 (c' := (47, [.ref 0, .int a1, .int a2, .int a3], [.int a3, .int (((a1 * 12) + a2) - 12), .ref 10], (zS I22 J23 tg24))) rfl ?_
        obtain ⟨c31, h⟩ := h
        refine Runs.to (c' := (48, [.ref 0, .int a1, .int a2, .int a3], [], (zS (up2 I22 10 ((((a1 * 12) + a2) - 12).toNatClampNeg) a3) J23 tg24))) (Runs.ist rfl (show (10 : Nat) < 114 by decide) rfl c31) ?_
        refine Runs.sN 1 (c' := (49, [.ref 0, .int a1, .int a2, .int a3], [.int 1], (zS (up2 I22 10 ((((a1 * 12) + a2) - 12).toNatClampNeg) a3) J23 tg24))) rfl ?_
        subst h
        exact Runs.rt rfl
-- X11_rules 
theorem sg_125 {L d : Nat} {xs : Nat → Int32} (I : Nat → Nat → Int32) (J : Nat → Nat → Int64) (tg : Option Nat) (a1 : Int32) (a2 : Int32) (a3 : Int32) (a4 : Int32) {r : Option Value × SS} (h : (∃ (v17 : Int32) (I18 : Nat → Nat → Int32) (J19 : Nat → Nat → Int64) (tg20 : Option Nat), Runs (GW L xs) d 164 (0, [.int a1, .int 0, .int 999], [], (zS I J tg)) ((some (.int v17)), (zS I18 J19 tg20)) ∧ (if v17 = 0 then (r = (some (.int 0), (zS I18 J19 tg20))) else (∃ (v21 : Int32) (I22 : Nat → Nat → Int32) (J23 : Nat → Nat → Int64) (tg24 : Option Nat), Runs (GW L xs) d 164 (0, [.int a2, .int 0, .int 99], [], (zS I18 J19 tg20)) ((some (.int v21)), (zS I22 J23 tg24)) ∧ (if v21 = 0 then (r = (some (.int 0), (zS I22 J23 tg24))) else (∃ (v25 : Int32) (I26 : Nat → Nat → Int32) (J27 : Nat → Nat → Int64) (tg28 : Option Nat), Runs (GW L xs) d 164 (0, [.int a3, .int 1, .int 1000], [], (zS I22 J23 tg24)) ((some (.int v25)), (zS I26 J27 tg28)) ∧ (if v25 = 0 then (r = (some (.int 0), (zS I26 J27 tg28))) else (∃ (v29 : Int32) (I30 : Nat → Nat → Int32) (J31 : Nat → Nat → Int64) (tg32 : Option Nat), Runs (GW L xs) d 164 (0, [.int a4, .int 0, .int 1000], [], (zS I26 J27 tg28)) ((some (.int v29)), (zS I30 J31 tg32)) ∧ (if v29 = 0 then (r = (some (.int 0), (zS I30 J31 tg32))) else (r = (some (.int 1), (zS (up2 (up2 (up2 (up2 I30 7 0 a1) 7 1 a2) 7 2 a3) 7 3 a4) J31 tg32)))))))))))) : Runs (GW L xs) (d + 1) 125 (0, [.ref 0, .int a1, .int a2, .int a3, .int a4], [], (zS I J tg)) r := by
  refine Runs.sN 3 (c' := (5, [.ref 0, .int a1, .int a2, .int a3, .int a4], [.int 999, .int 0, .int a1], (zS I J tg))) rfl ?_
  obtain ⟨v17, I18, J19, tg20, c33, h⟩ := h
  refine Runs.cl (cm := 164) (as := [.int a1, .int 0, .int 999]) (rest := []) (r1 := ((some (.int v17)), (zS I18 J19 tg20))) rfl (Nat.le_of_ble_eq_true rfl) c33 ?_
  refine Runs.as (c' := (8, [.ref 0, .int a1, .int a2, .int a3, .int a4], [.int v17], (zS I18 J19 tg20))) rfl ?_
  by_cases c34 : v17 = 0
  · rw [if_pos c34] at h
    refine Runs.brT (P := v17 = 0) (a := 44) (b := 11) (L := [.ref 0, .int a1, .int a2, .int a3, .int a4]) (S := []) (z := (zS I18 J19 tg20)) rfl c34 ?_
    refine Runs.sN 1 (c' := (45, [.ref 0, .int a1, .int a2, .int a3, .int a4], [.int 0], (zS I18 J19 tg20))) rfl ?_
    subst h
    exact Runs.rt rfl
  · rw [if_neg c34] at h
    refine Runs.brF (P := v17 = 0) (a := 44) (b := 11) (L := [.ref 0, .int a1, .int a2, .int a3, .int a4]) (S := []) (z := (zS I18 J19 tg20)) rfl c34 ?_
    refine Runs.sN 3 (c' := (15, [.ref 0, .int a1, .int a2, .int a3, .int a4], [.int 99, .int 0, .int a2], (zS I18 J19 tg20))) rfl ?_
    obtain ⟨v21, I22, J23, tg24, c35, h⟩ := h
    refine Runs.cl (cm := 164) (as := [.int a2, .int 0, .int 99]) (rest := []) (r1 := ((some (.int v21)), (zS I22 J23 tg24))) rfl (Nat.le_of_ble_eq_true rfl) c35 ?_
    refine Runs.as (c' := (18, [.ref 0, .int a1, .int a2, .int a3, .int a4], [.int v21], (zS I22 J23 tg24))) rfl ?_
    by_cases c36 : v21 = 0
    · rw [if_pos c36] at h
      refine Runs.brT (P := v21 = 0) (a := 44) (b := 21) (L := [.ref 0, .int a1, .int a2, .int a3, .int a4]) (S := []) (z := (zS I22 J23 tg24)) rfl c36 ?_
      refine Runs.sN 1 (c' := (45, [.ref 0, .int a1, .int a2, .int a3, .int a4], [.int 0], (zS I22 J23 tg24))) rfl ?_
      subst h
      exact Runs.rt rfl
    · rw [if_neg c36] at h
      refine Runs.brF (P := v21 = 0) (a := 44) (b := 21) (L := [.ref 0, .int a1, .int a2, .int a3, .int a4]) (S := []) (z := (zS I22 J23 tg24)) rfl c36 ?_
      refine Runs.sN 3 (c' := (26, [.ref 0, .int a1, .int a2, .int a3, .int a4], [.int 1000, .int 1, .int a3], (zS I22 J23 tg24))) rfl ?_
      obtain ⟨v25, I26, J27, tg28, c37, h⟩ := h
      refine Runs.cl (cm := 164) (as := [.int a3, .int 1, .int 1000]) (rest := []) (r1 := ((some (.int v25)), (zS I26 J27 tg28))) rfl (Nat.le_of_ble_eq_true rfl) c37 ?_
      refine Runs.as (c' := (29, [.ref 0, .int a1, .int a2, .int a3, .int a4], [.int v25], (zS I26 J27 tg28))) rfl ?_
      by_cases c38 : v25 = 0
      · rw [if_pos c38] at h
        refine Runs.brT (P := v25 = 0) (a := 44) (b := 32) (L := [.ref 0, .int a1, .int a2, .int a3, .int a4]) (S := []) (z := (zS I26 J27 tg28)) rfl c38 ?_
        refine Runs.sN 1 (c' := (45, [.ref 0, .int a1, .int a2, .int a3, .int a4], [.int 0], (zS I26 J27 tg28))) rfl ?_
        subst h
        exact Runs.rt rfl
      · rw [if_neg c38] at h
        refine Runs.brF (P := v25 = 0) (a := 44) (b := 32) (L := [.ref 0, .int a1, .int a2, .int a3, .int a4]) (S := []) (z := (zS I26 J27 tg28)) rfl c38 ?_
        refine Runs.sN 3 (c' := (38, [.ref 0, .int a1, .int a2, .int a3, .int a4], [.int 1000, .int 0, .int a4], (zS I26 J27 tg28))) rfl ?_
        obtain ⟨v29, I30, J31, tg32, c39, h⟩ := h
        refine Runs.cl (cm := 164) (as := [.int a4, .int 0, .int 1000]) (rest := []) (r1 := ((some (.int v29)), (zS I30 J31 tg32))) rfl (Nat.le_of_ble_eq_true rfl) c39 ?_
        refine Runs.as (c' := (41, [.ref 0, .int a1, .int a2, .int a3, .int a4], [.int v29], (zS I30 J31 tg32))) rfl ?_
        by_cases c40 : v29 = 0
        · rw [if_pos c40] at h
          refine Runs.brT (P := v29 = 0) (a := 44) (b := 46) (L := [.ref 0, .int a1, .int a2, .int a3, .int a4]) (S := []) (z := (zS I30 J31 tg32)) rfl c40 ?_
          refine Runs.sN 1 (c' := (45, [.ref 0, .int a1, .int a2, .int a3, .int a4], [.int 0], (zS I30 J31 tg32))) rfl ?_
          subst h
          exact Runs.rt rfl
        · rw [if_neg c40] at h
          refine Runs.brF (P := v29 = 0) (a := 44) (b := 46) (L := [.ref 0, .int a1, .int a2, .int a3, .int a4]) (S := []) (z := (zS I30 J31 tg32)) rfl c40 ?_
          refine Runs.sN 17 (c' := (80, [.ref 0, .int a1, .int a2, .int a3, .int a4], [.int 1], (zS (up2 (up2 (up2 (up2 I30 7 0 a1) 7 1 a2) 7 2 a3) 7 3 a4) J31 tg32))) rfl ?_
          subst h
          exact Runs.rt rfl
-- X11_feed 
theorem sg_126 {L d : Nat} {xs : Nat → Int32} (I : Nat → Nat → Int32) (J : Nat → Nat → Int64) (tg : Option Nat) (a1 : Int32) (a2 : Int32) (a3 : Int32) (a4 : Int32) (a5 : Int32) {r : Option Value × SS} (h : ((if ((I 67 2) + 20) ≤ 300 then (∃ (I16 : Nat → Nat → Int32) (J17 : Nat → Nat → Int64) (tg18 : Option Nat), Runs (GW L xs) d 69 (0, [.ref 67, .int a1, vU], [], (zS I J tg)) (none, (zS I16 J17 tg18)) ∧ ∃ (I19 : Nat → Nat → Int32) (J20 : Nat → Nat → Int64) (tg21 : Option Nat), Runs (GW L xs) d 69 (0, [.ref 67, .int a2, vU], [], (zS I16 J17 tg18)) (none, (zS I19 J20 tg21)) ∧ ∃ (I22 : Nat → Nat → Int32) (J23 : Nat → Nat → Int64) (tg24 : Option Nat), Runs (GW L xs) d 69 (0, [.ref 67, .int a3, vU], [], (zS I19 J20 tg21)) (none, (zS I22 J23 tg24)) ∧ ∃ (I25 : Nat → Nat → Int32) (J26 : Nat → Nat → Int64) (tg27 : Option Nat), Runs (GW L xs) d 69 (0, [.ref 67, .int a4, vU], [], (zS I22 J23 tg24)) (none, (zS I25 J26 tg27)) ∧ ∃ (I28 : Nat → Nat → Int32) (J29 : Nat → Nat → Int64) (tg30 : Option Nat), Runs (GW L xs) d 69 (0, [.ref 67, .int a5, vU], [], (zS I25 J26 tg27)) (none, (zS I28 J29 tg30)) ∧ r = (some (.int (I28 67 2)), (zS I28 J29 tg30))) else (r = (some (.int (-1)), (zS I J tg)))))) : Runs (GW L xs) (d + 1) 126 (0, [.ref 0, .int a1, .int a2, .int a3, .int a4, .int a5], [], (zS I J tg)) r := by
  refine Runs.sN 6 (c' := (13, [.ref 0, .int a1, .int a2, .int a3, .int a4, .int a5], [.int 300, .int ((I 67 2) + 20)], (zS I J tg))) rfl ?_
  by_cases c31 : ((I 67 2) + 20) ≤ 300
  · rw [if_pos c31] at h
    refine Runs.brT (P := ((I 67 2) + 20) ≤ 300) (a := 18) (b := 16) (L := [.ref 0, .int a1, .int a2, .int a3, .int a4, .int a5]) (S := []) (z := (zS I J tg)) rfl c31 ?_
    refine Runs.sN 3 (c' := (23, [.ref 0, .int a1, .int a2, .int a3, .int a4, .int a5], [.int a1, .ref 67], (zS I J tg))) rfl ?_
    obtain ⟨I16, J17, tg18, c32, h⟩ := h
    refine Runs.cl (cm := 69) (as := [.ref 67, .int a1]) (rest := []) (r1 := (none, (zS I16 J17 tg18))) rfl (Nat.le_of_ble_eq_true rfl) c32 ?_
    refine Runs.as (c' := (26, [.ref 0, .int a1, .int a2, .int a3, .int a4, .int a5], [], (zS I16 J17 tg18))) rfl ?_
    refine Runs.sN 3 (c' := (31, [.ref 0, .int a1, .int a2, .int a3, .int a4, .int a5], [.int a2, .ref 67], (zS I16 J17 tg18))) rfl ?_
    obtain ⟨I19, J20, tg21, c33, h⟩ := h
    refine Runs.cl (cm := 69) (as := [.ref 67, .int a2]) (rest := []) (r1 := (none, (zS I19 J20 tg21))) rfl (Nat.le_of_ble_eq_true rfl) c33 ?_
    refine Runs.as (c' := (34, [.ref 0, .int a1, .int a2, .int a3, .int a4, .int a5], [], (zS I19 J20 tg21))) rfl ?_
    refine Runs.sN 3 (c' := (39, [.ref 0, .int a1, .int a2, .int a3, .int a4, .int a5], [.int a3, .ref 67], (zS I19 J20 tg21))) rfl ?_
    obtain ⟨I22, J23, tg24, c34, h⟩ := h
    refine Runs.cl (cm := 69) (as := [.ref 67, .int a3]) (rest := []) (r1 := (none, (zS I22 J23 tg24))) rfl (Nat.le_of_ble_eq_true rfl) c34 ?_
    refine Runs.as (c' := (42, [.ref 0, .int a1, .int a2, .int a3, .int a4, .int a5], [], (zS I22 J23 tg24))) rfl ?_
    refine Runs.sN 3 (c' := (48, [.ref 0, .int a1, .int a2, .int a3, .int a4, .int a5], [.int a4, .ref 67], (zS I22 J23 tg24))) rfl ?_
    obtain ⟨I25, J26, tg27, c35, h⟩ := h
    refine Runs.cl (cm := 69) (as := [.ref 67, .int a4]) (rest := []) (r1 := (none, (zS I25 J26 tg27))) rfl (Nat.le_of_ble_eq_true rfl) c35 ?_
    refine Runs.as (c' := (51, [.ref 0, .int a1, .int a2, .int a3, .int a4, .int a5], [], (zS I25 J26 tg27))) rfl ?_
    refine Runs.sN 3 (c' := (57, [.ref 0, .int a1, .int a2, .int a3, .int a4, .int a5], [.int a5, .ref 67], (zS I25 J26 tg27))) rfl ?_
    obtain ⟨I28, J29, tg30, c36, h⟩ := h
    refine Runs.cl (cm := 69) (as := [.ref 67, .int a5]) (rest := []) (r1 := (none, (zS I28 J29 tg30))) rfl (Nat.le_of_ble_eq_true rfl) c36 ?_
    refine Runs.as (c' := (60, [.ref 0, .int a1, .int a2, .int a3, .int a4, .int a5], [], (zS I28 J29 tg30))) rfl ?_
    refine Runs.sN 3 (c' := (67, [.ref 0, .int a1, .int a2, .int a3, .int a4, .int a5], [.int (I28 67 2)], (zS I28 J29 tg30))) rfl ?_
    subst h
    exact Runs.rt rfl
  · rw [if_neg c31] at h
    refine Runs.brF (P := ((I 67 2) + 20) ≤ 300) (a := 18) (b := 16) (L := [.ref 0, .int a1, .int a2, .int a3, .int a4, .int a5]) (S := []) (z := (zS I J tg)) rfl c31 ?_
    refine Runs.sN 1 (c' := (17, [.ref 0, .int a1, .int a2, .int a3, .int a4, .int a5], [.int (-1)], (zS I J tg))) rfl ?_
    subst h
    exact Runs.rt rfl
-- X11_end 
theorem sg_127 {L d : Nat} {xs : Nat → Int32} (I : Nat → Nat → Int32) (J : Nat → Nat → Int64) (tg : Option Nat) (a1 : Int32) {r : Option Value × SS} (h : (∃ (v5 : Int32) (I6 : Nat → Nat → Int32) (J7 : Nat → Nat → Int64) (tg8 : Option Nat), Runs (GW L xs) d 164 (0, [.int a1, .int 0, .int (I 67 2)], [], (zS I J tg)) ((some (.int v5)), (zS I6 J7 tg8)) ∧ (if v5 = 0 then (r = (some (.int (-1)), (zS I6 J7 tg8))) else (r = (some (.int a1), (zS (up2 I6 67 2 a1) J7 tg8)))))) : Runs (GW L xs) (d + 1) 127 (0, [.ref 0, .int a1], [], (zS I J tg)) r := by
  refine Runs.sN 5 (c' := (9, [.ref 0, .int a1], [.int (I 67 2), .int 0, .int a1], (zS I J tg))) rfl ?_
  obtain ⟨v5, I6, J7, tg8, c9, h⟩ := h
  refine Runs.cl (cm := 164) (as := [.int a1, .int 0, .int (I 67 2)]) (rest := []) (r1 := ((some (.int v5)), (zS I6 J7 tg8))) rfl (Nat.le_of_ble_eq_true rfl) c9 ?_
  refine Runs.as (c' := (12, [.ref 0, .int a1], [.int v5], (zS I6 J7 tg8))) rfl ?_
  by_cases c10 : v5 = 0
  · rw [if_pos c10] at h
    refine Runs.brT (P := v5 = 0) (a := 15) (b := 17) (L := [.ref 0, .int a1]) (S := []) (z := (zS I6 J7 tg8)) rfl c10 ?_
    refine Runs.sN 1 (c' := (16, [.ref 0, .int a1], [.int (-1)], (zS I6 J7 tg8))) rfl ?_
    subst h
    exact Runs.rt rfl
  · rw [if_neg c10] at h
    refine Runs.brF (P := v5 = 0) (a := 15) (b := 17) (L := [.ref 0, .int a1]) (S := []) (z := (zS I6 J7 tg8)) rfl c10 ?_
    refine Runs.sN 5 (c' := (26, [.ref 0, .int a1], [.int a1], (zS (up2 I6 67 2 a1) J7 tg8))) rfl ?_
    subst h
    exact Runs.rt rfl
-- X11_fault 
theorem sg_129 {L d : Nat} {xs : Nat → Int32} (I : Nat → Nat → Int32) (J : Nat → Nat → Int64) (tg : Option Nat) (a1 : Int32) {r : Option Value × SS} (h : ((if (I 67 3) = 0 then (r = (some (.int (-1)), (zS I J tg))) else ((if a1 = 0 then (r = (some (.int (I 67 4)), (zS I J tg))) else ((if a1 = 1 then (r = (some (.int (I 67 5)), (zS I J tg))) else (r = (some (.int (-1)), (zS I J tg)))))))))) : Runs (GW L xs) d 129 (0, [.ref 0, .int a1], [], (zS I J tg)) r := by
  refine Runs.sN 3 (c' := (7, [.ref 0, .int a1], [.int (I 67 3)], (zS I J tg))) rfl ?_
  by_cases c1 : (I 67 3) = 0
  · rw [if_pos c1] at h
    refine Runs.brT (P := (I 67 3) = 0) (a := 10) (b := 12) (L := [.ref 0, .int a1]) (S := []) (z := (zS I J tg)) rfl c1 ?_
    refine Runs.sN 1 (c' := (11, [.ref 0, .int a1], [.int (-1)], (zS I J tg))) rfl ?_
    subst h
    exact Runs.rt rfl
  · rw [if_neg c1] at h
    refine Runs.brF (P := (I 67 3) = 0) (a := 10) (b := 12) (L := [.ref 0, .int a1]) (S := []) (z := (zS I J tg)) rfl c1 ?_
    refine Runs.sN 1 (c' := (13, [.ref 0, .int a1], [.int a1], (zS I J tg))) rfl ?_
    by_cases c2 : a1 = 0
    · rw [if_pos c2] at h
      refine Runs.brT (P := a1 = 0) (a := 16) (b := 24) (L := [.ref 0, .int a1]) (S := []) (z := (zS I J tg)) rfl c2 ?_
      refine Runs.sN 3 (c' := (23, [.ref 0, .int a1], [.int (I 67 4)], (zS I J tg))) rfl ?_
      subst h
      exact Runs.rt rfl
    · rw [if_neg c2] at h
      refine Runs.brF (P := a1 = 0) (a := 16) (b := 24) (L := [.ref 0, .int a1]) (S := []) (z := (zS I J tg)) rfl c2 ?_
      refine Runs.sN 2 (c' := (26, [.ref 0, .int a1], [.int 1, .int a1], (zS I J tg))) rfl ?_
      by_cases c3 : a1 = 1
      · rw [if_pos c3] at h
        refine Runs.brT (P := a1 = 1) (a := 29) (b := 39) (L := [.ref 0, .int a1]) (S := []) (z := (zS I J tg)) rfl c3 ?_
        refine Runs.sN 4 (c' := (40, [.ref 0, .int a1], [.int (I 67 5)], (zS I J tg))) rfl ?_
        subst h
        exact Runs.rt rfl
      · rw [if_neg c3] at h
        refine Runs.brF (P := a1 = 1) (a := 29) (b := 39) (L := [.ref 0, .int a1]) (S := []) (z := (zS I J tg)) rfl c3 ?_
        refine Runs.sN 1 (c' := (40, [.ref 0, .int a1], [.int (-1)], (zS I J tg))) rfl ?_
        subst h
        exact Runs.rt rfl
-- X11_by 
theorem sg_130 {L d : Nat} {xs : Nat → Int32} (I : Nat → Nat → Int32) (J : Nat → Nat → Int64) (tg : Option Nat) (a1 : Int32) {r : Option Value × SS} (h : (∃ (v5 : Int32) (I6 : Nat → Nat → Int32) (J7 : Nat → Nat → Int64) (tg8 : Option Nat), Runs (GW L xs) d 164 (0, [.int a1, .int (-1), .int ((I 18 0) - 1)], [], (zS I J tg)) ((some (.int v5)), (zS I6 J7 tg8)) ∧ (if v5 = 0 then (r = (some (.int 0), (zS I6 J7 tg8))) else (r = (some (.int 1), (zS (up2 I6 18 1 a1) J7 tg8)))))) : Runs (GW L xs) (d + 1) 130 (0, [.ref 0, .int a1], [], (zS I J tg)) r := by
  refine Runs.sN 7 (c' := (11, [.ref 0, .int a1], [.int ((I 18 0) - 1), .int (-1), .int a1], (zS I J tg))) rfl ?_
  obtain ⟨v5, I6, J7, tg8, c9, h⟩ := h
  refine Runs.cl (cm := 164) (as := [.int a1, .int (-1), .int ((I 18 0) - 1)]) (rest := []) (r1 := ((some (.int v5)), (zS I6 J7 tg8))) rfl (Nat.le_of_ble_eq_true rfl) c9 ?_
  refine Runs.as (c' := (14, [.ref 0, .int a1], [.int v5], (zS I6 J7 tg8))) rfl ?_
  by_cases c10 : v5 = 0
  · rw [if_pos c10] at h
    refine Runs.brT (P := v5 = 0) (a := 17) (b := 19) (L := [.ref 0, .int a1]) (S := []) (z := (zS I6 J7 tg8)) rfl c10 ?_
    refine Runs.sN 1 (c' := (18, [.ref 0, .int a1], [.int 0], (zS I6 J7 tg8))) rfl ?_
    subst h
    exact Runs.rt rfl
  · rw [if_neg c10] at h
    refine Runs.brF (P := v5 = 0) (a := 17) (b := 19) (L := [.ref 0, .int a1]) (S := []) (z := (zS I6 J7 tg8)) rfl c10 ?_
    refine Runs.sN 5 (c' := (28, [.ref 0, .int a1], [.int 1], (zS (up2 I6 18 1 a1) J7 tg8))) rfl ?_
    subst h
    exact Runs.rt rfl
-- X11_taken 
theorem sg_131 {L d : Nat} {xs : Nat → Int32} (I : Nat → Nat → Int32) (J : Nat → Nat → Int64) (tg : Option Nat) (a1 : Int32) (a2 : Int32) (a3 : Int32) {r : Option Value × SS} (h : (∃ (v16 : Int32) (I17 : Nat → Nat → Int32) (J18 : Nat → Nat → Int64) (tg19 : Option Nat), Runs (GW L xs) d 163 (0, [.ref 0, .int a1, .int a2, .int a3], [], (zS I J tg)) ((some (.int v16)), (zS I17 J18 tg19)) ∧ (if v16 = 0 then (r = (some (.int (-1)), (zS I17 J18 tg19))) else (∃ (I20 : Nat → Nat → Int32) (J21 : Nat → Nat → Int64) (tg22 : Option Nat), Runs (GW L xs) d 92 (0, [.ref 75, .int a1, .int a3, vU], [], (zS I17 J18 tg19)) (none, (zS I20 J21 tg22)) ∧ ¬ (a2 < 0 ∨ 6 ≤ (a2).toNatClampNeg) ∧ ∃ (v23 : Int32) (I24 : Nat → Nat → Int32) (J25 : Nat → Nat → Int64) (tg26 : Option Nat), Runs (GW L xs) d 100 (0, [.ref 75, .int (I20 9 ((a2).toNatClampNeg))], [], (zS I20 J21 tg22)) ((some (.int v23)), (zS I24 J25 tg26)) ∧ ∃ (v27 : Int32) (I28 : Nat → Nat → Int32) (J29 : Nat → Nat → Int64) (tg30 : Option Nat), Runs (GW L xs) d 168 (0, [.int v23], [], (zS I24 J25 tg26)) ((some (.int v27)), (zS I28 J29 tg30)) ∧ r = (some (.int v27), (zS I28 J29 tg30)))))) : Runs (GW L xs) (d + 1) 131 (0, [.ref 0, .int a1, .int a2, .int a3], [], (zS I J tg)) r := by
  refine Runs.sN 4 (c' := (4, [.ref 0, .int a1, .int a2, .int a3], [.int a3, .int a2, .int a1, .ref 0], (zS I J tg))) rfl ?_
  obtain ⟨v16, I17, J18, tg19, c31, h⟩ := h
  refine Runs.cl (cm := 163) (as := [.ref 0, .int a1, .int a2, .int a3]) (rest := []) (r1 := ((some (.int v16)), (zS I17 J18 tg19))) rfl (Nat.le_of_ble_eq_true rfl) c31 ?_
  refine Runs.as (c' := (7, [.ref 0, .int a1, .int a2, .int a3], [.int v16], (zS I17 J18 tg19))) rfl ?_
  by_cases c32 : v16 = 0
  · rw [if_pos c32] at h
    refine Runs.brT (P := v16 = 0) (a := 10) (b := 12) (L := [.ref 0, .int a1, .int a2, .int a3]) (S := []) (z := (zS I17 J18 tg19)) rfl c32 ?_
    refine Runs.sN 1 (c' := (11, [.ref 0, .int a1, .int a2, .int a3], [.int (-1)], (zS I17 J18 tg19))) rfl ?_
    subst h
    exact Runs.rt rfl
  · rw [if_neg c32] at h
    refine Runs.brF (P := v16 = 0) (a := 10) (b := 12) (L := [.ref 0, .int a1, .int a2, .int a3]) (S := []) (z := (zS I17 J18 tg19)) rfl c32 ?_
    refine Runs.sN 4 (c' := (18, [.ref 0, .int a1, .int a2, .int a3], [.int a3, .int a1, .ref 75], (zS I17 J18 tg19))) rfl ?_
    obtain ⟨I20, J21, tg22, c33, h⟩ := h
    refine Runs.cl (cm := 92) (as := [.ref 75, .int a1, .int a3]) (rest := []) (r1 := (none, (zS I20 J21 tg22))) rfl (Nat.le_of_ble_eq_true rfl) c33 ?_
    refine Runs.as (c' := (21, [.ref 0, .int a1, .int a2, .int a3], [], (zS I20 J21 tg22))) rfl ?_
    refine Runs.sN 6 (c' := (33, [.ref 0, .int a1, .int a2, .int a3], [.int a2, .ref 9, .ref 75], (zS I20 J21 tg22))) rfl ?_
    obtain ⟨c34, h⟩ := h
    refine Runs.to (c' := (34, [.ref 0, .int a1, .int a2, .int a3], [.int (I20 9 ((a2).toNatClampNeg)), .ref 75], (zS I20 J21 tg22))) (Runs.ild rfl (show (9 : Nat) < 114 by decide) rfl c34) ?_
    obtain ⟨v23, I24, J25, tg26, c35, h⟩ := h
    refine Runs.cl (cm := 100) (as := [.ref 75, .int (I20 9 ((a2).toNatClampNeg))]) (rest := []) (r1 := ((some (.int v23)), (zS I24 J25 tg26))) rfl (Nat.le_of_ble_eq_true rfl) c35 ?_
    refine Runs.as (c' := (37, [.ref 0, .int a1, .int a2, .int a3], [.int v23], (zS I24 J25 tg26))) rfl ?_
    obtain ⟨v27, I28, J29, tg30, c36, h⟩ := h
    refine Runs.cl (cm := 168) (as := [.int v23]) (rest := []) (r1 := ((some (.int v27)), (zS I28 J29 tg30))) rfl (Nat.le_of_ble_eq_true rfl) c36 ?_
    refine Runs.as (c' := (40, [.ref 0, .int a1, .int a2, .int a3], [.int v27], (zS I28 J29 tg30))) rfl ?_
    subst h
    exact Runs.rt rfl
-- X11_says 
theorem sg_132 {L d : Nat} {xs : Nat → Int32} (I : Nat → Nat → Int32) (J : Nat → Nat → Int64) (tg : Option Nat) (a1 : Int32) (a2 : Int32) {r : Option Value × SS} (h : (∃ (v16 : Int32) (I17 : Nat → Nat → Int32) (J18 : Nat → Nat → Int64) (tg19 : Option Nat), Runs (GW L xs) d 44 (0, [.ref 1, .int a1], [], (zS I J tg)) ((some (.int v16)), (zS I17 J18 tg19)) ∧ (if v16 = 0 then (r = (some (.int (-1)), (zS I17 J18 tg19))) else (∃ (v20 : Int32) (I21 : Nat → Nat → Int32) (J22 : Nat → Nat → Int64) (tg23 : Option Nat), Runs (GW L xs) d 164 (0, [.int a2, .int 0, .int 1], [], (zS I17 J18 tg19)) ((some (.int v20)), (zS I21 J22 tg23)) ∧ (if v20 = 0 then (r = (some (.int (-1)), (zS I21 J22 tg23))) else (∃ (I24 : Nat → Nat → Int32) (J25 : Nat → Nat → Int64) (tg26 : Option Nat), Runs (GW L xs) d 93 (0, [.ref 75, .int a1, .int 0], [], (zS I21 J22 tg23)) (none, (zS I24 J25 tg26)) ∧ (if a2 = 0 then ((if (I24 75 10) = 0 then (r = (some (.int 0), (zS I24 J25 tg26))) else (r = (some (.int 1), (zS I24 J25 tg26))))) else (∃ (v27 : Int32) (I28 : Nat → Nat → Int32) (J29 : Nat → Nat → Int64) (tg30 : Option Nat), Runs (GW L xs) d 99 (0, [.ref 75], [], (zS I24 J25 tg26)) ((some (.int v27)), (zS I28 J29 tg30)) ∧ (if v27 = 0 then (r = (some (.int 0), (zS I28 J29 tg30))) else (r = (some (.int 1), (zS I28 J29 tg30)))))))))))) : Runs (GW L xs) (d + 1) 132 (0, [.ref 0, .int a1, .int a2], [], (zS I J tg)) r := by
  refine Runs.sN 3 (c' := (5, [.ref 0, .int a1, .int a2], [.int a1, .ref 1], (zS I J tg))) rfl ?_
  obtain ⟨v16, I17, J18, tg19, c31, h⟩ := h
  refine Runs.cl (cm := 44) (as := [.ref 1, .int a1]) (rest := []) (r1 := ((some (.int v16)), (zS I17 J18 tg19))) rfl (Nat.le_of_ble_eq_true rfl) c31 ?_
  refine Runs.as (c' := (8, [.ref 0, .int a1, .int a2], [.int v16], (zS I17 J18 tg19))) rfl ?_
  by_cases c32 : v16 = 0
  · rw [if_pos c32] at h
    refine Runs.brT (P := v16 = 0) (a := 20) (b := 11) (L := [.ref 0, .int a1, .int a2]) (S := []) (z := (zS I17 J18 tg19)) rfl c32 ?_
    refine Runs.sN 1 (c' := (21, [.ref 0, .int a1, .int a2], [.int (-1)], (zS I17 J18 tg19))) rfl ?_
    subst h
    exact Runs.rt rfl
  · rw [if_neg c32] at h
    refine Runs.brF (P := v16 = 0) (a := 20) (b := 11) (L := [.ref 0, .int a1, .int a2]) (S := []) (z := (zS I17 J18 tg19)) rfl c32 ?_
    refine Runs.sN 3 (c' := (14, [.ref 0, .int a1, .int a2], [.int 1, .int 0, .int a2], (zS I17 J18 tg19))) rfl ?_
    obtain ⟨v20, I21, J22, tg23, c33, h⟩ := h
    refine Runs.cl (cm := 164) (as := [.int a2, .int 0, .int 1]) (rest := []) (r1 := ((some (.int v20)), (zS I21 J22 tg23))) rfl (Nat.le_of_ble_eq_true rfl) c33 ?_
    refine Runs.as (c' := (17, [.ref 0, .int a1, .int a2], [.int v20], (zS I21 J22 tg23))) rfl ?_
    by_cases c34 : v20 = 0
    · rw [if_pos c34] at h
      refine Runs.brT (P := v20 = 0) (a := 20) (b := 22) (L := [.ref 0, .int a1, .int a2]) (S := []) (z := (zS I21 J22 tg23)) rfl c34 ?_
      refine Runs.sN 1 (c' := (21, [.ref 0, .int a1, .int a2], [.int (-1)], (zS I21 J22 tg23))) rfl ?_
      subst h
      exact Runs.rt rfl
    · rw [if_neg c34] at h
      refine Runs.brF (P := v20 = 0) (a := 20) (b := 22) (L := [.ref 0, .int a1, .int a2]) (S := []) (z := (zS I21 J22 tg23)) rfl c34 ?_
      refine Runs.sN 4 (c' := (28, [.ref 0, .int a1, .int a2], [.int 0, .int a1, .ref 75], (zS I21 J22 tg23))) rfl ?_
      obtain ⟨I24, J25, tg26, c35, h⟩ := h
      refine Runs.cl (cm := 93) (as := [.ref 75, .int a1, .int 0]) (rest := []) (r1 := (none, (zS I24 J25 tg26))) rfl (Nat.le_of_ble_eq_true rfl) c35 ?_
      refine Runs.as (c' := (31, [.ref 0, .int a1, .int a2], [], (zS I24 J25 tg26))) rfl ?_
      refine Runs.sN 1 (c' := (32, [.ref 0, .int a1, .int a2], [.int a2], (zS I24 J25 tg26))) rfl ?_
      by_cases c36 : a2 = 0
      · rw [if_pos c36] at h
        refine Runs.brT (P := a2 = 0) (a := 35) (b := 48) (L := [.ref 0, .int a1, .int a2]) (S := []) (z := (zS I24 J25 tg26)) rfl c36 ?_
        refine Runs.sN 3 (c' := (42, [.ref 0, .int a1, .int a2], [.int (I24 75 10)], (zS I24 J25 tg26))) rfl ?_
        by_cases c37 : (I24 75 10) = 0
        · rw [if_pos c37] at h
          refine Runs.brT (P := (I24 75 10) = 0) (a := 62) (b := 45) (L := [.ref 0, .int a1, .int a2]) (S := []) (z := (zS I24 J25 tg26)) rfl c37 ?_
          refine Runs.sN 1 (c' := (63, [.ref 0, .int a1, .int a2], [.int 0], (zS I24 J25 tg26))) rfl ?_
          subst h
          exact Runs.rt rfl
        · rw [if_neg c37] at h
          refine Runs.brF (P := (I24 75 10) = 0) (a := 62) (b := 45) (L := [.ref 0, .int a1, .int a2]) (S := []) (z := (zS I24 J25 tg26)) rfl c37 ?_
          refine Runs.sN 3 (c' := (63, [.ref 0, .int a1, .int a2], [.int 1], (zS I24 J25 tg26))) rfl ?_
          subst h
          exact Runs.rt rfl
      · rw [if_neg c36] at h
        refine Runs.brF (P := a2 = 0) (a := 35) (b := 48) (L := [.ref 0, .int a1, .int a2]) (S := []) (z := (zS I24 J25 tg26)) rfl c36 ?_
        refine Runs.sN 2 (c' := (52, [.ref 0, .int a1, .int a2], [.ref 75], (zS I24 J25 tg26))) rfl ?_
        obtain ⟨v27, I28, J29, tg30, c38, h⟩ := h
        refine Runs.cl (cm := 99) (as := [.ref 75]) (rest := []) (r1 := ((some (.int v27)), (zS I28 J29 tg30))) rfl (Nat.le_of_ble_eq_true rfl) c38 ?_
        refine Runs.as (c' := (55, [.ref 0, .int a1, .int a2], [.int v27], (zS I28 J29 tg30))) rfl ?_
        by_cases c39 : v27 = 0
        · rw [if_pos c39] at h
          refine Runs.brT (P := v27 = 0) (a := 62) (b := 58) (L := [.ref 0, .int a1, .int a2]) (S := []) (z := (zS I28 J29 tg30)) rfl c39 ?_
          refine Runs.sN 1 (c' := (63, [.ref 0, .int a1, .int a2], [.int 0], (zS I28 J29 tg30))) rfl ?_
          subst h
          exact Runs.rt rfl
        · rw [if_neg c39] at h
          refine Runs.brF (P := v27 = 0) (a := 62) (b := 58) (L := [.ref 0, .int a1, .int a2]) (S := []) (z := (zS I28 J29 tg30)) rfl c39 ?_
          refine Runs.sN 2 (c' := (63, [.ref 0, .int a1, .int a2], [.int 1], (zS I28 J29 tg30))) rfl ?_
          subst h
          exact Runs.rt rfl
-- X11_right 
theorem sg_133 {L d : Nat} {xs : Nat → Int32} (I : Nat → Nat → Int32) (J : Nat → Nat → Int64) (tg : Option Nat) (a1 : Int32) (a2 : Int32) (a3 : Int32) {r : Option Value × SS} (h : (∃ (v16 : Int32) (I17 : Nat → Nat → Int32) (J18 : Nat → Nat → Int64) (tg19 : Option Nat), Runs (GW L xs) d 163 (0, [.ref 0, .int a1, .int a2, .int a3], [], (zS I J tg)) ((some (.int v16)), (zS I17 J18 tg19)) ∧ (if v16 = 0 then (r = (some (.int (-1)), (zS I17 J18 tg19))) else (∃ (I20 : Nat → Nat → Int32) (J21 : Nat → Nat → Int64) (tg22 : Option Nat), Runs (GW L xs) d 94 (0, [.ref 75, .int a1, .int a3], [], (zS I17 J18 tg19)) (none, (zS I20 J21 tg22)) ∧ ¬ (a2 < 0 ∨ 6 ≤ (a2).toNatClampNeg) ∧ ∃ (v23 : Int32) (I24 : Nat → Nat → Int32) (J25 : Nat → Nat → Int64) (tg26 : Option Nat), Runs (GW L xs) d 100 (0, [.ref 75, .int (I20 9 ((a2).toNatClampNeg))], [], (zS I20 J21 tg22)) ((some (.int v23)), (zS I24 J25 tg26)) ∧ ∃ (v27 : Int32) (I28 : Nat → Nat → Int32) (J29 : Nat → Nat → Int64) (tg30 : Option Nat), Runs (GW L xs) d 103 (0, [.ref 75, .int a2, .int v23], [], (zS I24 J25 tg26)) ((some (.int v27)), (zS I28 J29 tg30)) ∧ (if v27 = 0 then (r = (some (.int 0), (zS I28 J29 tg30))) else (r = (some (.int 1), (zS I28 J29 tg30)))))))) : Runs (GW L xs) (d + 1) 133 (0, [.ref 0, .int a1, .int a2, .int a3], [], (zS I J tg)) r := by
  refine Runs.sN 4 (c' := (4, [.ref 0, .int a1, .int a2, .int a3], [.int a3, .int a2, .int a1, .ref 0], (zS I J tg))) rfl ?_
  obtain ⟨v16, I17, J18, tg19, c31, h⟩ := h
  refine Runs.cl (cm := 163) (as := [.ref 0, .int a1, .int a2, .int a3]) (rest := []) (r1 := ((some (.int v16)), (zS I17 J18 tg19))) rfl (Nat.le_of_ble_eq_true rfl) c31 ?_
  refine Runs.as (c' := (7, [.ref 0, .int a1, .int a2, .int a3], [.int v16], (zS I17 J18 tg19))) rfl ?_
  by_cases c32 : v16 = 0
  · rw [if_pos c32] at h
    refine Runs.brT (P := v16 = 0) (a := 10) (b := 12) (L := [.ref 0, .int a1, .int a2, .int a3]) (S := []) (z := (zS I17 J18 tg19)) rfl c32 ?_
    refine Runs.sN 1 (c' := (11, [.ref 0, .int a1, .int a2, .int a3], [.int (-1)], (zS I17 J18 tg19))) rfl ?_
    subst h
    exact Runs.rt rfl
  · rw [if_neg c32] at h
    refine Runs.brF (P := v16 = 0) (a := 10) (b := 12) (L := [.ref 0, .int a1, .int a2, .int a3]) (S := []) (z := (zS I17 J18 tg19)) rfl c32 ?_
    refine Runs.sN 4 (c' := (18, [.ref 0, .int a1, .int a2, .int a3], [.int a3, .int a1, .ref 75], (zS I17 J18 tg19))) rfl ?_
    obtain ⟨I20, J21, tg22, c33, h⟩ := h
    refine Runs.cl (cm := 94) (as := [.ref 75, .int a1, .int a3]) (rest := []) (r1 := (none, (zS I20 J21 tg22))) rfl (Nat.le_of_ble_eq_true rfl) c33 ?_
    refine Runs.as (c' := (21, [.ref 0, .int a1, .int a2, .int a3], [], (zS I20 J21 tg22))) rfl ?_
    refine Runs.sN 9 (c' := (38, [.ref 0, .int a1, .int a2, .int a3], [.int a2, .ref 9, .ref 75, .int a2, .ref 75], (zS I20 J21 tg22))) rfl ?_
    obtain ⟨c34, h⟩ := h
    refine Runs.to (c' := (39, [.ref 0, .int a1, .int a2, .int a3], [.int (I20 9 ((a2).toNatClampNeg)), .ref 75, .int a2, .ref 75], (zS I20 J21 tg22))) (Runs.ild rfl (show (9 : Nat) < 114 by decide) rfl c34) ?_
    obtain ⟨v23, I24, J25, tg26, c35, h⟩ := h
    refine Runs.cl (cm := 100) (as := [.ref 75, .int (I20 9 ((a2).toNatClampNeg))]) (rest := [.int a2, .ref 75]) (r1 := ((some (.int v23)), (zS I24 J25 tg26))) rfl (Nat.le_of_ble_eq_true rfl) c35 ?_
    refine Runs.as (c' := (42, [.ref 0, .int a1, .int a2, .int a3], [.int v23, .int a2, .ref 75], (zS I24 J25 tg26))) rfl ?_
    obtain ⟨v27, I28, J29, tg30, c36, h⟩ := h
    refine Runs.cl (cm := 103) (as := [.ref 75, .int a2, .int v23]) (rest := []) (r1 := ((some (.int v27)), (zS I28 J29 tg30))) rfl (Nat.le_of_ble_eq_true rfl) c36 ?_
    refine Runs.as (c' := (45, [.ref 0, .int a1, .int a2, .int a3], [.int v27], (zS I28 J29 tg30))) rfl ?_
    by_cases c37 : v27 = 0
    · rw [if_pos c37] at h
      refine Runs.brT (P := v27 = 0) (a := 52) (b := 48) (L := [.ref 0, .int a1, .int a2, .int a3]) (S := []) (z := (zS I28 J29 tg30)) rfl c37 ?_
      refine Runs.sN 1 (c' := (53, [.ref 0, .int a1, .int a2, .int a3], [.int 0], (zS I28 J29 tg30))) rfl ?_
      subst h
      exact Runs.rt rfl
    · rw [if_neg c37] at h
      refine Runs.brF (P := v27 = 0) (a := 52) (b := 48) (L := [.ref 0, .int a1, .int a2, .int a3]) (S := []) (z := (zS I28 J29 tg30)) rfl c37 ?_
      refine Runs.sN 2 (c' := (53, [.ref 0, .int a1, .int a2, .int a3], [.int 1], (zS I28 J29 tg30))) rfl ?_
      subst h
      exact Runs.rt rfl
-- X11_harm 
theorem sg_134 {L d : Nat} {xs : Nat → Int32} (I : Nat → Nat → Int32) (J : Nat → Nat → Int64) (tg : Option Nat) (a1 : Int32) (a2 : Int32) (a3 : Int32) {r : Option Value × SS} (h : (∃ (v16 : Int32) (I17 : Nat → Nat → Int32) (J18 : Nat → Nat → Int64) (tg19 : Option Nat), Runs (GW L xs) d 163 (0, [.ref 0, .int a1, .int a2, .int a3], [], (zS I J tg)) ((some (.int v16)), (zS I17 J18 tg19)) ∧ (if v16 = 0 then (r = (some (.int (-1)), (zS I17 J18 tg19))) else (∃ (I20 : Nat → Nat → Int32) (J21 : Nat → Nat → Int64) (tg22 : Option Nat), Runs (GW L xs) d 94 (0, [.ref 75, .int a1, .int a3], [], (zS I17 J18 tg19)) (none, (zS I20 J21 tg22)) ∧ ¬ (a2 < 0 ∨ 6 ≤ (a2).toNatClampNeg) ∧ ∃ (v23 : Int32) (I24 : Nat → Nat → Int32) (J25 : Nat → Nat → Int64) (tg26 : Option Nat), Runs (GW L xs) d 100 (0, [.ref 75, .int (I20 9 ((a2).toNatClampNeg))], [], (zS I20 J21 tg22)) ((some (.int v23)), (zS I24 J25 tg26)) ∧ ∃ (v27 : Int32) (I28 : Nat → Nat → Int32) (J29 : Nat → Nat → Int64) (tg30 : Option Nat), Runs (GW L xs) d 104 (0, [.ref 75, .int a2, .int v23, vU], [], (zS I24 J25 tg26)) ((some (.int v27)), (zS I28 J29 tg30)) ∧ r = (some (.int v27), (zS I28 J29 tg30)))))) : Runs (GW L xs) (d + 1) 134 (0, [.ref 0, .int a1, .int a2, .int a3], [], (zS I J tg)) r := by
  refine Runs.sN 4 (c' := (4, [.ref 0, .int a1, .int a2, .int a3], [.int a3, .int a2, .int a1, .ref 0], (zS I J tg))) rfl ?_
  obtain ⟨v16, I17, J18, tg19, c31, h⟩ := h
  refine Runs.cl (cm := 163) (as := [.ref 0, .int a1, .int a2, .int a3]) (rest := []) (r1 := ((some (.int v16)), (zS I17 J18 tg19))) rfl (Nat.le_of_ble_eq_true rfl) c31 ?_
  refine Runs.as (c' := (7, [.ref 0, .int a1, .int a2, .int a3], [.int v16], (zS I17 J18 tg19))) rfl ?_
  by_cases c32 : v16 = 0
  · rw [if_pos c32] at h
    refine Runs.brT (P := v16 = 0) (a := 10) (b := 12) (L := [.ref 0, .int a1, .int a2, .int a3]) (S := []) (z := (zS I17 J18 tg19)) rfl c32 ?_
    refine Runs.sN 1 (c' := (11, [.ref 0, .int a1, .int a2, .int a3], [.int (-1)], (zS I17 J18 tg19))) rfl ?_
    subst h
    exact Runs.rt rfl
  · rw [if_neg c32] at h
    refine Runs.brF (P := v16 = 0) (a := 10) (b := 12) (L := [.ref 0, .int a1, .int a2, .int a3]) (S := []) (z := (zS I17 J18 tg19)) rfl c32 ?_
    refine Runs.sN 4 (c' := (18, [.ref 0, .int a1, .int a2, .int a3], [.int a3, .int a1, .ref 75], (zS I17 J18 tg19))) rfl ?_
    obtain ⟨I20, J21, tg22, c33, h⟩ := h
    refine Runs.cl (cm := 94) (as := [.ref 75, .int a1, .int a3]) (rest := []) (r1 := (none, (zS I20 J21 tg22))) rfl (Nat.le_of_ble_eq_true rfl) c33 ?_
    refine Runs.as (c' := (21, [.ref 0, .int a1, .int a2, .int a3], [], (zS I20 J21 tg22))) rfl ?_
    refine Runs.sN 9 (c' := (38, [.ref 0, .int a1, .int a2, .int a3], [.int a2, .ref 9, .ref 75, .int a2, .ref 75], (zS I20 J21 tg22))) rfl ?_
    obtain ⟨c34, h⟩ := h
    refine Runs.to (c' := (39, [.ref 0, .int a1, .int a2, .int a3], [.int (I20 9 ((a2).toNatClampNeg)), .ref 75, .int a2, .ref 75], (zS I20 J21 tg22))) (Runs.ild rfl (show (9 : Nat) < 114 by decide) rfl c34) ?_
    obtain ⟨v23, I24, J25, tg26, c35, h⟩ := h
    refine Runs.cl (cm := 100) (as := [.ref 75, .int (I20 9 ((a2).toNatClampNeg))]) (rest := [.int a2, .ref 75]) (r1 := ((some (.int v23)), (zS I24 J25 tg26))) rfl (Nat.le_of_ble_eq_true rfl) c35 ?_
    refine Runs.as (c' := (42, [.ref 0, .int a1, .int a2, .int a3], [.int v23, .int a2, .ref 75], (zS I24 J25 tg26))) rfl ?_
    obtain ⟨v27, I28, J29, tg30, c36, h⟩ := h
    refine Runs.cl (cm := 104) (as := [.ref 75, .int a2, .int v23]) (rest := []) (r1 := ((some (.int v27)), (zS I28 J29 tg30))) rfl (Nat.le_of_ble_eq_true rfl) c36 ?_
    refine Runs.as (c' := (45, [.ref 0, .int a1, .int a2, .int a3], [.int v27], (zS I28 J29 tg30))) rfl ?_
    subst h
    exact Runs.rt rfl
-- X11_odds 
theorem sg_135 {L d : Nat} {xs : Nat → Int32} (I : Nat → Nat → Int32) (J : Nat → Nat → Int64) (tg : Option Nat) (a1 : Int32) (a2 : Int32) (a3 : Int32) {r : Option Value × SS} (h : (∃ (v28 : Int32) (I29 : Nat → Nat → Int32) (J30 : Nat → Nat → Int64) (tg31 : Option Nat), Runs (GW L xs) d 44 (0, [.ref 1, .int a1], [], (zS I J tg)) ((some (.int v28)), (zS I29 J30 tg31)) ∧ (if v28 = 0 then (r = (some (.int (-1)), (zS I29 J30 tg31))) else (∃ (v32 : Int32) (I33 : Nat → Nat → Int32) (J34 : Nat → Nat → Int64) (tg35 : Option Nat), Runs (GW L xs) d 166 (0, [.int a2], [], (zS I29 J30 tg31)) ((some (.int v32)), (zS I33 J34 tg35)) ∧ (if v32 = 0 then (r = (some (.int (-1)), (zS I33 J34 tg35))) else (∃ (v36 : Int32) (I37 : Nat → Nat → Int32) (J38 : Nat → Nat → Int64) (tg39 : Option Nat), Runs (GW L xs) d 164 (0, [.int a3, .int 0, .int 2], [], (zS I33 J34 tg35)) ((some (.int v36)), (zS I37 J38 tg39)) ∧ (if v36 = 0 then (r = (some (.int (-1)), (zS I37 J38 tg39))) else ((if a3 = 2 then (∃ (v40 : Int32) (I41 : Nat → Nat → Int32) (J42 : Nat → Nat → Int64) (tg43 : Option Nat), Runs (GW L xs) d 109 (0, [.ref 7, vU, vU], [], (zS I37 J38 tg39)) ((some (.int v40)), (zS I41 J42 tg43)) ∧ r = (some (.int v40), (zS I41 J42 tg43))) else (∃ (I44 : Nat → Nat → Int32) (J45 : Nat → Nat → Int64) (tg46 : Option Nat), Runs (GW L xs) d 94 (0, [.ref 75, .int a1, .int a2], [], (zS I37 J38 tg39)) (none, (zS I44 J45 tg46)) ∧ (if a3 = 0 then (∃ (v47 : Int32) (I48 : Nat → Nat → Int32) (J49 : Nat → Nat → Int64) (tg50 : Option Nat), Runs (GW L xs) d 105 (0, [.ref 75, vU, vU], [], (zS I44 J45 tg46)) ((some (.int v47)), (zS I48 J49 tg50)) ∧ r = (some (.int v47), (zS I48 J49 tg50))) else (∃ (v51 : Int32) (I52 : Nat → Nat → Int32) (J53 : Nat → Nat → Int64) (tg54 : Option Nat), Runs (GW L xs) d 106 (0, [.ref 75, vU, vU], [], (zS I44 J45 tg46)) ((some (.int v51)), (zS I52 J53 tg54)) ∧ r = (some (.int v51), (zS I52 J53 tg54)))))))))))))) : Runs (GW L xs) (d + 1) 135 (0, [.ref 0, .int a1, .int a2, .int a3], [], (zS I J tg)) r := by
  refine Runs.sN 3 (c' := (5, [.ref 0, .int a1, .int a2, .int a3], [.int a1, .ref 1], (zS I J tg))) rfl ?_
  obtain ⟨v28, I29, J30, tg31, c55, h⟩ := h
  refine Runs.cl (cm := 44) (as := [.ref 1, .int a1]) (rest := []) (r1 := ((some (.int v28)), (zS I29 J30 tg31))) rfl (Nat.le_of_ble_eq_true rfl) c55 ?_
  refine Runs.as (c' := (8, [.ref 0, .int a1, .int a2, .int a3], [.int v28], (zS I29 J30 tg31))) rfl ?_
  by_cases c56 : v28 = 0
  · rw [if_pos c56] at h
    refine Runs.brT (P := v28 = 0) (a := 27) (b := 11) (L := [.ref 0, .int a1, .int a2, .int a3]) (S := []) (z := (zS I29 J30 tg31)) rfl c56 ?_
    refine Runs.sN 1 (c' := (28, [.ref 0, .int a1, .int a2, .int a3], [.int (-1)], (zS I29 J30 tg31))) rfl ?_
    subst h
    exact Runs.rt rfl
  · rw [if_neg c56] at h
    refine Runs.brF (P := v28 = 0) (a := 27) (b := 11) (L := [.ref 0, .int a1, .int a2, .int a3]) (S := []) (z := (zS I29 J30 tg31)) rfl c56 ?_
    refine Runs.sN 1 (c' := (12, [.ref 0, .int a1, .int a2, .int a3], [.int a2], (zS I29 J30 tg31))) rfl ?_
    obtain ⟨v32, I33, J34, tg35, c57, h⟩ := h
    refine Runs.cl (cm := 166) (as := [.int a2]) (rest := []) (r1 := ((some (.int v32)), (zS I33 J34 tg35))) rfl (Nat.le_of_ble_eq_true rfl) c57 ?_
    refine Runs.as (c' := (15, [.ref 0, .int a1, .int a2, .int a3], [.int v32], (zS I33 J34 tg35))) rfl ?_
    by_cases c58 : v32 = 0
    · rw [if_pos c58] at h
      refine Runs.brT (P := v32 = 0) (a := 27) (b := 18) (L := [.ref 0, .int a1, .int a2, .int a3]) (S := []) (z := (zS I33 J34 tg35)) rfl c58 ?_
      refine Runs.sN 1 (c' := (28, [.ref 0, .int a1, .int a2, .int a3], [.int (-1)], (zS I33 J34 tg35))) rfl ?_
      subst h
      exact Runs.rt rfl
    · rw [if_neg c58] at h
      refine Runs.brF (P := v32 = 0) (a := 27) (b := 18) (L := [.ref 0, .int a1, .int a2, .int a3]) (S := []) (z := (zS I33 J34 tg35)) rfl c58 ?_
      refine Runs.sN 3 (c' := (21, [.ref 0, .int a1, .int a2, .int a3], [.int 2, .int 0, .int a3], (zS I33 J34 tg35))) rfl ?_
      obtain ⟨v36, I37, J38, tg39, c59, h⟩ := h
      refine Runs.cl (cm := 164) (as := [.int a3, .int 0, .int 2]) (rest := []) (r1 := ((some (.int v36)), (zS I37 J38 tg39))) rfl (Nat.le_of_ble_eq_true rfl) c59 ?_
      refine Runs.as (c' := (24, [.ref 0, .int a1, .int a2, .int a3], [.int v36], (zS I37 J38 tg39))) rfl ?_
      by_cases c60 : v36 = 0
      · rw [if_pos c60] at h
        refine Runs.brT (P := v36 = 0) (a := 27) (b := 29) (L := [.ref 0, .int a1, .int a2, .int a3]) (S := []) (z := (zS I37 J38 tg39)) rfl c60 ?_
        refine Runs.sN 1 (c' := (28, [.ref 0, .int a1, .int a2, .int a3], [.int (-1)], (zS I37 J38 tg39))) rfl ?_
        subst h
        exact Runs.rt rfl
      · rw [if_neg c60] at h
        refine Runs.brF (P := v36 = 0) (a := 27) (b := 29) (L := [.ref 0, .int a1, .int a2, .int a3]) (S := []) (z := (zS I37 J38 tg39)) rfl c60 ?_
        refine Runs.sN 2 (c' := (31, [.ref 0, .int a1, .int a2, .int a3], [.int 2, .int a3], (zS I37 J38 tg39))) rfl ?_
        by_cases c61 : a3 = 2
        · rw [if_pos c61] at h
          refine Runs.brT (P := a3 = 2) (a := 34) (b := 42) (L := [.ref 0, .int a1, .int a2, .int a3]) (S := []) (z := (zS I37 J38 tg39)) rfl c61 ?_
          refine Runs.sN 2 (c' := (38, [.ref 0, .int a1, .int a2, .int a3], [.ref 7], (zS I37 J38 tg39))) rfl ?_
          obtain ⟨v40, I41, J42, tg43, c62, h⟩ := h
          refine Runs.cl (cm := 109) (as := [.ref 7]) (rest := []) (r1 := ((some (.int v40)), (zS I41 J42 tg43))) rfl (Nat.le_of_ble_eq_true rfl) c62 ?_
          refine Runs.as (c' := (41, [.ref 0, .int a1, .int a2, .int a3], [.int v40], (zS I41 J42 tg43))) rfl ?_
          subst h
          exact Runs.rt rfl
        · rw [if_neg c61] at h
          refine Runs.brF (P := a3 = 2) (a := 34) (b := 42) (L := [.ref 0, .int a1, .int a2, .int a3]) (S := []) (z := (zS I37 J38 tg39)) rfl c61 ?_
          refine Runs.sN 4 (c' := (48, [.ref 0, .int a1, .int a2, .int a3], [.int a2, .int a1, .ref 75], (zS I37 J38 tg39))) rfl ?_
          obtain ⟨I44, J45, tg46, c63, h⟩ := h
          refine Runs.cl (cm := 94) (as := [.ref 75, .int a1, .int a2]) (rest := []) (r1 := (none, (zS I44 J45 tg46))) rfl (Nat.le_of_ble_eq_true rfl) c63 ?_
          refine Runs.as (c' := (51, [.ref 0, .int a1, .int a2, .int a3], [], (zS I44 J45 tg46))) rfl ?_
          refine Runs.sN 1 (c' := (52, [.ref 0, .int a1, .int a2, .int a3], [.int a3], (zS I44 J45 tg46))) rfl ?_
          by_cases c64 : a3 = 0
          · rw [if_pos c64] at h
            refine Runs.brT (P := a3 = 0) (a := 55) (b := 65) (L := [.ref 0, .int a1, .int a2, .int a3]) (S := []) (z := (zS I44 J45 tg46)) rfl c64 ?_
            refine Runs.sN 2 (c' := (59, [.ref 0, .int a1, .int a2, .int a3], [.ref 75], (zS I44 J45 tg46))) rfl ?_
            obtain ⟨v47, I48, J49, tg50, c65, h⟩ := h
            refine Runs.cl (cm := 105) (as := [.ref 75]) (rest := []) (r1 := ((some (.int v47)), (zS I48 J49 tg50))) rfl (Nat.le_of_ble_eq_true rfl) c65 ?_
            refine Runs.as (c' := (62, [.ref 0, .int a1, .int a2, .int a3], [.int v47], (zS I48 J49 tg50))) rfl ?_
            refine Runs.sN 1 (c' := (72, [.ref 0, .int a1, .int a2, .int a3], [.int v47], (zS I48 J49 tg50))) rfl ?_
            subst h
            exact Runs.rt rfl
          · rw [if_neg c64] at h
            refine Runs.brF (P := a3 = 0) (a := 55) (b := 65) (L := [.ref 0, .int a1, .int a2, .int a3]) (S := []) (z := (zS I44 J45 tg46)) rfl c64 ?_
            refine Runs.sN 2 (c' := (69, [.ref 0, .int a1, .int a2, .int a3], [.ref 75], (zS I44 J45 tg46))) rfl ?_
            obtain ⟨v51, I52, J53, tg54, c66, h⟩ := h
            refine Runs.cl (cm := 106) (as := [.ref 75]) (rest := []) (r1 := ((some (.int v51)), (zS I52 J53 tg54))) rfl (Nat.le_of_ble_eq_true rfl) c66 ?_
            refine Runs.as (c' := (72, [.ref 0, .int a1, .int a2, .int a3], [.int v51], (zS I52 J53 tg54))) rfl ?_
            subst h
            exact Runs.rt rfl
-- X11_stock 
theorem sg_136 {L d : Nat} {xs : Nat → Int32} (I : Nat → Nat → Int32) (J : Nat → Nat → Int64) (tg : Option Nat) (a1 : Int32) (a2 : Int32) (a3 : Int32) {r : Option Value × SS} (h : (∃ (v13 : Int32) (I14 : Nat → Nat → Int32) (J15 : Nat → Nat → Int64) (tg16 : Option Nat), Runs (GW L xs) d 167 (0, [.int a1, .int a2, .int a3], [], (zS I J tg)) ((some (.int v13)), (zS I14 J15 tg16)) ∧ (if v13 = 0 then (r = (some (.int (-1)), (zS I14 J15 tg16))) else ((if (I14 18 2) < 10 then (∃ (v17 : Int32) (I18 : Nat → Nat → Int32) (J19 : Nat → Nat → Int64) (tg20 : Option Nat), Runs (GW L xs) d 169 (0, [.int a1, .int a2, .int a3], [], (zS I14 J15 tg16)) ((some (.int v17)), (zS I18 J19 tg20)) ∧ ∃ (v21 : Int32) (I22 : Nat → Nat → Int32) (J23 : Nat → Nat → Int64) (tg24 : Option Nat), Runs (GW L xs) d 173 (0, [.ref 19, .int 0, .int (I18 18 2), .int v17, vU], [], (zS I18 J19 tg20)) ((some (.int v21)), (zS I22 J23 tg24)) ∧ (if v21 = 0 then (¬ ((I22 18 2) < 0 ∨ 10 ≤ (I22 18 2).toNatClampNeg) ∧ r = (some (.int ((I22 18 2) + 1)), (zS (up2 (up2 I22 19 ((I22 18 2).toNatClampNeg) v17) 18 2 ((I22 18 2) + 1)) J23 tg24))) else (r = (some (.int (-1)), (zS I22 J23 tg24))))) else (r = (some (.int (-1)), (zS I14 J15 tg16)))))))) : Runs (GW L xs) (d + 1) 136 (0, [.ref 0, .int a1, .int a2, .int a3, vU], [], (zS I J tg)) r := by
  refine Runs.sN 3 (c' := (3, [.ref 0, .int a1, .int a2, .int a3, vU], [.int a3, .int a2, .int a1], (zS I J tg))) rfl ?_
  obtain ⟨v13, I14, J15, tg16, c25, h⟩ := h
  refine Runs.cl (cm := 167) (as := [.int a1, .int a2, .int a3]) (rest := []) (r1 := ((some (.int v13)), (zS I14 J15 tg16))) rfl (Nat.le_of_ble_eq_true rfl) c25 ?_
  refine Runs.as (c' := (6, [.ref 0, .int a1, .int a2, .int a3, vU], [.int v13], (zS I14 J15 tg16))) rfl ?_
  by_cases c26 : v13 = 0
  · rw [if_pos c26] at h
    refine Runs.brT (P := v13 = 0) (a := 21) (b := 9) (L := [.ref 0, .int a1, .int a2, .int a3, vU]) (S := []) (z := (zS I14 J15 tg16)) rfl c26 ?_
    refine Runs.sN 1 (c' := (22, [.ref 0, .int a1, .int a2, .int a3, vU], [.int (-1)], (zS I14 J15 tg16))) rfl ?_
    subst h
    exact Runs.rt rfl
  · rw [if_neg c26] at h
    refine Runs.brF (P := v13 = 0) (a := 21) (b := 9) (L := [.ref 0, .int a1, .int a2, .int a3, vU]) (S := []) (z := (zS I14 J15 tg16)) rfl c26 ?_
    refine Runs.sN 4 (c' := (18, [.ref 0, .int a1, .int a2, .int a3, vU], [.int 10, .int (I14 18 2)], (zS I14 J15 tg16))) rfl ?_
    by_cases c27 : (I14 18 2) < 10
    · rw [if_pos c27] at h
      refine Runs.brT (P := (I14 18 2) < 10) (a := 23) (b := 21) (L := [.ref 0, .int a1, .int a2, .int a3, vU]) (S := []) (z := (zS I14 J15 tg16)) rfl c27 ?_
      refine Runs.sN 3 (c' := (26, [.ref 0, .int a1, .int a2, .int a3, vU], [.int a3, .int a2, .int a1], (zS I14 J15 tg16))) rfl ?_
      obtain ⟨v17, I18, J19, tg20, c28, h⟩ := h
      refine Runs.cl (cm := 169) (as := [.int a1, .int a2, .int a3]) (rest := []) (r1 := ((some (.int v17)), (zS I18 J19 tg20))) rfl (Nat.le_of_ble_eq_true rfl) c28 ?_
      refine Runs.as (c' := (29, [.ref 0, .int a1, .int a2, .int a3, vU], [.int v17], (zS I18 J19 tg20))) rfl ?_
      refine Runs.sN 9 (c' := (48, [.ref 0, .int a1, .int a2, .int a3, .int v17], [.int v17, .int (I18 18 2), .int 0, .ref 19], (zS I18 J19 tg20))) rfl ?_
      obtain ⟨v21, I22, J23, tg24, c29, h⟩ := h
      refine Runs.cl (cm := 173) (as := [.ref 19, .int 0, .int (I18 18 2), .int v17]) (rest := []) (r1 := ((some (.int v21)), (zS I22 J23 tg24))) rfl (Nat.le_of_ble_eq_true rfl) c29 ?_
      refine Runs.as (c' := (51, [.ref 0, .int a1, .int a2, .int a3, .int v17], [.int v21], (zS I22 J23 tg24))) rfl ?_
      by_cases c30 : v21 = 0
      · rw [if_pos c30] at h
        refine Runs.brT (P := v21 = 0) (a := 56) (b := 54) (L := [.ref 0, .int a1, .int a2, .int a3, .int v17]) (S := []) (z := (zS I22 J23 tg24)) rfl c30 ?_
        refine Runs.sN 7 (c' := (72, [.ref 0, .int a1, .int a2, .int a3, .int v17], [.int v17, .int (I22 18 2), .ref 19], (zS I22 J23 tg24))) rfl ?_
        obtain ⟨c31, h⟩ := h
        refine Runs.to (c' := (73, [.ref 0, .int a1, .int a2, .int a3, .int v17], [], (zS (up2 I22 19 ((I22 18 2).toNatClampNeg) v17) J23 tg24))) (Runs.ist rfl (show (19 : Nat) < 114 by decide) rfl c31) ?_
        refine Runs.sN 10 (c' := (93, [.ref 0, .int a1, .int a2, .int a3, .int v17], [.int ((I22 18 2) + 1)], (zS (up2 (up2 I22 19 ((I22 18 2).toNatClampNeg) v17) 18 2 ((I22 18 2) + 1)) J23 tg24))) rfl ?_
        subst h
        exact Runs.rt rfl
      · rw [if_neg c30] at h
        refine Runs.brF (P := v21 = 0) (a := 56) (b := 54) (L := [.ref 0, .int a1, .int a2, .int a3, .int v17]) (S := []) (z := (zS I22 J23 tg24)) rfl c30 ?_
        refine Runs.sN 1 (c' := (55, [.ref 0, .int a1, .int a2, .int a3, .int v17], [.int (-1)], (zS I22 J23 tg24))) rfl ?_
        subst h
        exact Runs.rt rfl
    · rw [if_neg c27] at h
      refine Runs.brF (P := (I14 18 2) < 10) (a := 23) (b := 21) (L := [.ref 0, .int a1, .int a2, .int a3, vU]) (S := []) (z := (zS I14 J15 tg16)) rfl c27 ?_
      refine Runs.sN 1 (c' := (22, [.ref 0, .int a1, .int a2, .int a3, vU], [.int (-1)], (zS I14 J15 tg16))) rfl ?_
      subst h
      exact Runs.rt rfl
