-- X11_answer 
theorem sg_154 {L d : Nat} {xs : Nat → Int32} (I : Nat → Nat → Int32) (J : Nat → Nat → Int64) (tg : Option Nat) (a1 : Int32) (a2 : Int32) (a3 : Int32) (a4 : Int32) {r : Option Value × SS} (h : (∃ (v17 : Int32) (I18 : Nat → Nat → Int32) (J19 : Nat → Nat → Int64) (tg20 : Option Nat), Runs (GW L xs) d 165 (0, [.int a1], [], (zS I J tg)) ((some (.int v17)), (zS I18 J19 tg20)) ∧ (if v17 = 0 then (r = (some (.int (-1)), (zS I18 J19 tg20))) else (∃ (v21 : Int32) (I22 : Nat → Nat → Int32) (J23 : Nat → Nat → Int64) (tg24 : Option Nat), Runs (GW L xs) d 166 (0, [.int a2], [], (zS I18 J19 tg20)) ((some (.int v21)), (zS I22 J23 tg24)) ∧ (if v21 = 0 then (r = (some (.int (-1)), (zS I22 J23 tg24))) else (∃ (v25 : Int32) (I26 : Nat → Nat → Int32) (J27 : Nat → Nat → Int64) (tg28 : Option Nat), Runs (GW L xs) d 44 (0, [.ref 1, .int a3], [], (zS I22 J23 tg24)) ((some (.int v25)), (zS I26 J27 tg28)) ∧ (if v25 = 0 then (r = (some (.int (-1)), (zS I26 J27 tg28))) else ((if a4 = (-1) then ((if (I26 7 5) < 60 then (¬ ((I26 7 5) < 0 ∨ 60 ≤ (I26 7 5).toNatClampNeg) ∧ ¬ ((I26 7 5) < 0 ∨ 60 ≤ (I26 7 5).toNatClampNeg) ∧ ¬ ((I26 7 5) < 0 ∨ 60 ≤ (I26 7 5).toNatClampNeg) ∧ (if a4 = (-1) then (¬ ((I26 7 5) < 0 ∨ 60 ≤ (I26 7 5).toNatClampNeg) ∧ ¬ ((I26 7 5) < 0 ∨ 60 ≤ (I26 7 5).toNatClampNeg) ∧ r = (some (.int ((I26 7 5) + 1)), (zS (up2 (up2 (up2 (up2 (up2 (up2 I26 13 ((I26 7 5).toNatClampNeg) a1) 14 ((I26 7 5).toNatClampNeg) a2) 15 ((I26 7 5).toNatClampNeg) a3) 16 ((I26 7 5).toNatClampNeg) (-1)) 17 ((I26 7 5).toNatClampNeg) (I26 7 4)) 7 5 ((I26 7 5) + 1)) J27 tg28))) else (¬ ((I26 7 5) < 0 ∨ 60 ≤ (I26 7 5).toNatClampNeg) ∧ ¬ ((I26 7 5) < 0 ∨ 60 ≤ (I26 7 5).toNatClampNeg) ∧ r = (some (.int ((I26 7 5) + 1)), (zS (up2 (up2 (up2 (up2 (up2 (up2 I26 13 ((I26 7 5).toNatClampNeg) a1) 14 ((I26 7 5).toNatClampNeg) a2) 15 ((I26 7 5).toNatClampNeg) a3) 16 ((I26 7 5).toNatClampNeg) (a4 - 12)) 17 ((I26 7 5).toNatClampNeg) (I26 7 4)) 7 5 ((I26 7 5) + 1)) J27 tg28))))) else (r = (some (.int (-1)), (zS I26 J27 tg28))))) else (∃ (v29 : Int32) (I30 : Nat → Nat → Int32) (J31 : Nat → Nat → Int64) (tg32 : Option Nat), Runs (GW L xs) d 45 (0, [.ref 1, .int a4], [], (zS I26 J27 tg28)) ((some (.int v29)), (zS I30 J31 tg32)) ∧ (if v29 = 0 then (r = (some (.int (-1)), (zS I30 J31 tg32))) else ((if (I30 7 5) < 60 then (¬ ((I30 7 5) < 0 ∨ 60 ≤ (I30 7 5).toNatClampNeg) ∧ ¬ ((I30 7 5) < 0 ∨ 60 ≤ (I30 7 5).toNatClampNeg) ∧ ¬ ((I30 7 5) < 0 ∨ 60 ≤ (I30 7 5).toNatClampNeg) ∧ (if a4 = (-1) then (¬ ((I30 7 5) < 0 ∨ 60 ≤ (I30 7 5).toNatClampNeg) ∧ ¬ ((I30 7 5) < 0 ∨ 60 ≤ (I30 7 5).toNatClampNeg) ∧ r = (some (.int ((I30 7 5) + 1)), (zS (up2 (up2 (up2 (up2 (up2 (up2 I30 13 ((I30 7 5).toNatClampNeg) a1) 14 ((I30 7 5).toNatClampNeg) a2) 15 ((I30 7 5).toNatClampNeg) a3) 16 ((I30 7 5).toNatClampNeg) (-1)) 17 ((I30 7 5).toNatClampNeg) (I30 7 4)) 7 5 ((I30 7 5) + 1)) J31 tg32))) else (¬ ((I30 7 5) < 0 ∨ 60 ≤ (I30 7 5).toNatClampNeg) ∧ ¬ ((I30 7 5) < 0 ∨ 60 ≤ (I30 7 5).toNatClampNeg) ∧ r = (some (.int ((I30 7 5) + 1)), (zS (up2 (up2 (up2 (up2 (up2 (up2 I30 13 ((I30 7 5).toNatClampNeg) a1) 14 ((I30 7 5).toNatClampNeg) a2) 15 ((I30 7 5).toNatClampNeg) a3) 16 ((I30 7 5).toNatClampNeg) (a4 - 12)) 17 ((I30 7 5).toNatClampNeg) (I30 7 4)) 7 5 ((I30 7 5) + 1)) J31 tg32))))) else (r = (some (.int (-1)), (zS I30 J31 tg32)))))))))))))))) : Runs (GW L xs) (d + 1) 154 (0, [.ref 0, .int a1, .int a2, .int a3, .int a4, vU], [], (zS I J tg)) r := by
  refine Runs.sN 1 (c' := (1, [.ref 0, .int a1, .int a2, .int a3, .int a4, vU], [.int a1], (zS I J tg))) rfl ?_
  obtain ⟨v17, I18, J19, tg20, c33, h⟩ := h
  refine Runs.cl (cm := 165) (as := [.int a1]) (rest := []) (r1 := ((some (.int v17)), (zS I18 J19 tg20))) rfl (Nat.le_of_ble_eq_true rfl) c33 ?_
  refine Runs.as (c' := (4, [.ref 0, .int a1, .int a2, .int a3, .int a4, vU], [.int v17], (zS I18 J19 tg20))) rfl ?_
  by_cases c34 : v17 = 0
  · rw [if_pos c34] at h
    refine Runs.brT (P := v17 = 0) (a := 25) (b := 7) (L := [.ref 0, .int a1, .int a2, .int a3, .int a4, vU]) (S := []) (z := (zS I18 J19 tg20)) rfl c34 ?_
    refine Runs.sN 1 (c' := (26, [.ref 0, .int a1, .int a2, .int a3, .int a4, vU], [.int (-1)], (zS I18 J19 tg20))) rfl ?_
    subst h
    exact Runs.rt rfl
  · rw [if_neg c34] at h
    refine Runs.brF (P := v17 = 0) (a := 25) (b := 7) (L := [.ref 0, .int a1, .int a2, .int a3, .int a4, vU]) (S := []) (z := (zS I18 J19 tg20)) rfl c34 ?_
    refine Runs.sN 1 (c' := (8, [.ref 0, .int a1, .int a2, .int a3, .int a4, vU], [.int a2], (zS I18 J19 tg20))) rfl ?_
    obtain ⟨v21, I22, J23, tg24, c35, h⟩ := h
    refine Runs.cl (cm := 166) (as := [.int a2]) (rest := []) (r1 := ((some (.int v21)), (zS I22 J23 tg24))) rfl (Nat.le_of_ble_eq_true rfl) c35 ?_
    refine Runs.as (c' := (11, [.ref 0, .int a1, .int a2, .int a3, .int a4, vU], [.int v21], (zS I22 J23 tg24))) rfl ?_
    by_cases c36 : v21 = 0
    · rw [if_pos c36] at h
      refine Runs.brT (P := v21 = 0) (a := 25) (b := 14) (L := [.ref 0, .int a1, .int a2, .int a3, .int a4, vU]) (S := []) (z := (zS I22 J23 tg24)) rfl c36 ?_
      refine Runs.sN 1 (c' := (26, [.ref 0, .int a1, .int a2, .int a3, .int a4, vU], [.int (-1)], (zS I22 J23 tg24))) rfl ?_
      subst h
      exact Runs.rt rfl
    · rw [if_neg c36] at h
      refine Runs.brF (P := v21 = 0) (a := 25) (b := 14) (L := [.ref 0, .int a1, .int a2, .int a3, .int a4, vU]) (S := []) (z := (zS I22 J23 tg24)) rfl c36 ?_
      refine Runs.sN 3 (c' := (19, [.ref 0, .int a1, .int a2, .int a3, .int a4, vU], [.int a3, .ref 1], (zS I22 J23 tg24))) rfl ?_
      obtain ⟨v25, I26, J27, tg28, c37, h⟩ := h
      refine Runs.cl (cm := 44) (as := [.ref 1, .int a3]) (rest := []) (r1 := ((some (.int v25)), (zS I26 J27 tg28))) rfl (Nat.le_of_ble_eq_true rfl) c37 ?_
      refine Runs.as (c' := (22, [.ref 0, .int a1, .int a2, .int a3, .int a4, vU], [.int v25], (zS I26 J27 tg28))) rfl ?_
      by_cases c38 : v25 = 0
      · rw [if_pos c38] at h
        refine Runs.brT (P := v25 = 0) (a := 25) (b := 27) (L := [.ref 0, .int a1, .int a2, .int a3, .int a4, vU]) (S := []) (z := (zS I26 J27 tg28)) rfl c38 ?_
        refine Runs.sN 1 (c' := (26, [.ref 0, .int a1, .int a2, .int a3, .int a4, vU], [.int (-1)], (zS I26 J27 tg28))) rfl ?_
        subst h
        exact Runs.rt rfl
      · rw [if_neg c38] at h
        refine Runs.brF (P := v25 = 0) (a := 25) (b := 27) (L := [.ref 0, .int a1, .int a2, .int a3, .int a4, vU]) (S := []) (z := (zS I26 J27 tg28)) rfl c38 ?_
        refine Runs.sN 2 (c' := (30, [.ref 0, .int a1, .int a2, .int a3, .int a4, vU], [.int (-1), .int a4], (zS I26 J27 tg28))) rfl ?_
        by_cases c39 : a4 = (-1)
        · rw [if_pos c39] at h
          refine Runs.brT (P := a4 = (-1)) (a := 45) (b := 33) (L := [.ref 0, .int a1, .int a2, .int a3, .int a4, vU]) (S := []) (z := (zS I26 J27 tg28)) rfl c39 ?_
          refine Runs.sN 4 (c' := (54, [.ref 0, .int a1, .int a2, .int a3, .int a4, vU], [.int 60, .int (I26 7 5)], (zS I26 J27 tg28))) rfl ?_
          by_cases c40 : (I26 7 5) < 60
          · rw [if_pos c40] at h
            refine Runs.brT (P := (I26 7 5) < 60) (a := 59) (b := 57) (L := [.ref 0, .int a1, .int a2, .int a3, .int a4, vU]) (S := []) (z := (zS I26 J27 tg28)) rfl c40 ?_
            refine Runs.sN 9 (c' := (78, [.ref 0, .int a1, .int a2, .int a3, .int a4, .int (I26 7 5)], [.int a1, .int (I26 7 5), .ref 13], (zS I26 J27 tg28))) rfl ?_
            obtain ⟨c41, h⟩ := h
            refine Runs.to (c' := (79, [.ref 0, .int a1, .int a2, .int a3, .int a4, .int (I26 7 5)], [], (zS (up2 I26 13 ((I26 7 5).toNatClampNeg) a1) J27 tg28))) (Runs.ist rfl (show (13 : Nat) < 114 by decide) rfl c41) ?_
            refine Runs.sN 5 (c' := (89, [.ref 0, .int a1, .int a2, .int a3, .int a4, .int (I26 7 5)], [.int a2, .int (I26 7 5), .ref 14], (zS (up2 I26 13 ((I26 7 5).toNatClampNeg) a1) J27 tg28))) rfl ?_
            obtain ⟨c42, h⟩ := h
            refine Runs.to (c' := (90, [.ref 0, .int a1, .int a2, .int a3, .int a4, .int (I26 7 5)], [], (zS (up2 (up2 I26 13 ((I26 7 5).toNatClampNeg) a1) 14 ((I26 7 5).toNatClampNeg) a2) J27 tg28))) (Runs.ist rfl (show (14 : Nat) < 114 by decide) rfl c42) ?_
            refine Runs.sN 5 (c' := (100, [.ref 0, .int a1, .int a2, .int a3, .int a4, .int (I26 7 5)], [.int a3, .int (I26 7 5), .ref 15], (zS (up2 (up2 I26 13 ((I26 7 5).toNatClampNeg) a1) 14 ((I26 7 5).toNatClampNeg) a2) J27 tg28))) rfl ?_
            obtain ⟨c43, h⟩ := h
            refine Runs.to (c' := (101, [.ref 0, .int a1, .int a2, .int a3, .int a4, .int (I26 7 5)], [], (zS (up2 (up2 (up2 I26 13 ((I26 7 5).toNatClampNeg) a1) 14 ((I26 7 5).toNatClampNeg) a2) 15 ((I26 7 5).toNatClampNeg) a3) J27 tg28))) (Runs.ist rfl (show (15 : Nat) < 114 by decide) rfl c43) ?_
            refine Runs.sN 6 (c' := (113, [.ref 0, .int a1, .int a2, .int a3, .int a4, .int (I26 7 5)], [.int (-1), .int a4, .int (I26 7 5), .ref 16], (zS (up2 (up2 (up2 I26 13 ((I26 7 5).toNatClampNeg) a1) 14 ((I26 7 5).toNatClampNeg) a2) 15 ((I26 7 5).toNatClampNeg) a3) J27 tg28))) rfl ?_
            by_cases c44 : a4 = (-1)
            · rw [if_pos c44] at h
              refine Runs.brT (P := a4 = (-1)) (a := 116) (b := 120) (L := [.ref 0, .int a1, .int a2, .int a3, .int a4, .int (I26 7 5)]) (S := [.int (I26 7 5), .ref 16]) (z := (zS (up2 (up2 (up2 I26 13 ((I26 7 5).toNatClampNeg) a1) 14 ((I26 7 5).toNatClampNeg) a2) 15 ((I26 7 5).toNatClampNeg) a3) J27 tg28)) rfl c44 ?_
              refine Runs.sN 2 (c' := (125, [.ref 0, .int a1, .int a2, .int a3, .int a4, .int (I26 7 5)], [.int (-1), .int (I26 7 5), .ref 16], (zS (up2 (up2 (up2 I26 13 ((I26 7 5).toNatClampNeg) a1) 14 ((I26 7 5).toNatClampNeg) a2) 15 ((I26 7 5).toNatClampNeg) a3) J27 tg28))) rfl ?_
              obtain ⟨c45, h⟩ := h
              refine Runs.to (c' := (126, [.ref 0, .int a1, .int a2, .int a3, .int a4, .int (I26 7 5)], [], (zS (up2 (up2 (up2 (up2 I26 13 ((I26 7 5).toNatClampNeg) a1) 14 ((I26 7 5).toNatClampNeg) a2) 15 ((I26 7 5).toNatClampNeg) a3) 16 ((I26 7 5).toNatClampNeg) (-1)) J27 tg28))) (Runs.ist rfl (show (16 : Nat) < 114 by decide) rfl c45) ?_
              refine Runs.sN 7 (c' := (142, [.ref 0, .int a1, .int a2, .int a3, .int a4, .int (I26 7 5)], [.int (I26 7 4), .int (I26 7 5), .ref 17], (zS (up2 (up2 (up2 (up2 I26 13 ((I26 7 5).toNatClampNeg) a1) 14 ((I26 7 5).toNatClampNeg) a2) 15 ((I26 7 5).toNatClampNeg) a3) 16 ((I26 7 5).toNatClampNeg) (-1)) J27 tg28))) rfl ?_
              obtain ⟨c46, h⟩ := h
              refine Runs.to (c' := (143, [.ref 0, .int a1, .int a2, .int a3, .int a4, .int (I26 7 5)], [], (zS (up2 (up2 (up2 (up2 (up2 I26 13 ((I26 7 5).toNatClampNeg) a1) 14 ((I26 7 5).toNatClampNeg) a2) 15 ((I26 7 5).toNatClampNeg) a3) 16 ((I26 7 5).toNatClampNeg) (-1)) 17 ((I26 7 5).toNatClampNeg) (I26 7 4)) J27 tg28))) (Runs.ist rfl (show (17 : Nat) < 114 by decide) rfl c46) ?_
              refine Runs.sN 10 (c' := (163, [.ref 0, .int a1, .int a2, .int a3, .int a4, .int (I26 7 5)], [.int ((I26 7 5) + 1)], (zS (up2 (up2 (up2 (up2 (up2 (up2 I26 13 ((I26 7 5).toNatClampNeg) a1) 14 ((I26 7 5).toNatClampNeg) a2) 15 ((I26 7 5).toNatClampNeg) a3) 16 ((I26 7 5).toNatClampNeg) (-1)) 17 ((I26 7 5).toNatClampNeg) (I26 7 4)) 7 5 ((I26 7 5) + 1)) J27 tg28))) rfl ?_
              subst h
              exact Runs.rt rfl
            · rw [if_neg c44] at h
              refine Runs.brF (P := a4 = (-1)) (a := 116) (b := 120) (L := [.ref 0, .int a1, .int a2, .int a3, .int a4, .int (I26 7 5)]) (S := [.int (I26 7 5), .ref 16]) (z := (zS (up2 (up2 (up2 I26 13 ((I26 7 5).toNatClampNeg) a1) 14 ((I26 7 5).toNatClampNeg) a2) 15 ((I26 7 5).toNatClampNeg) a3) J27 tg28)) rfl c44 ?_
              refine Runs.sN 3 (c' := (125, [.ref 0, .int a1, .int a2, .int a3, .int a4, .int (I26 7 5)], [.int (a4 - 12), .int (I26 7 5), .ref 16], (zS (up2 (up2 (up2 I26 13 ((I26 7 5).toNatClampNeg) a1) 14 ((I26 7 5).toNatClampNeg) a2) 15 ((I26 7 5).toNatClampNeg) a3) J27 tg28))) rfl ?_
              obtain ⟨c47, h⟩ := h
              refine Runs.to (c' := (126, [.ref 0, .int a1, .int a2, .int a3, .int a4, .int (I26 7 5)], [], (zS (up2 (up2 (up2 (up2 I26 13 ((I26 7 5).toNatClampNeg) a1) 14 ((I26 7 5).toNatClampNeg) a2) 15 ((I26 7 5).toNatClampNeg) a3) 16 ((I26 7 5).toNatClampNeg) (a4 - 12)) J27 tg28))) (Runs.ist rfl (show (16 : Nat) < 114 by decide) rfl c47) ?_
              refine Runs.sN 7 (c' := (142, [.ref 0, .int a1, .int a2, .int a3, .int a4, .int (I26 7 5)], [.int (I26 7 4), .int (I26 7 5), .ref 17], (zS (up2 (up2 (up2 (up2 I26 13 ((I26 7 5).toNatClampNeg) a1) 14 ((I26 7 5).toNatClampNeg) a2) 15 ((I26 7 5).toNatClampNeg) a3) 16 ((I26 7 5).toNatClampNeg) (a4 - 12)) J27 tg28))) rfl ?_
              obtain ⟨c48, h⟩ := h
              refine Runs.to (c' := (143, [.ref 0, .int a1, .int a2, .int a3, .int a4, .int (I26 7 5)], [], (zS (up2 (up2 (up2 (up2 (up2 I26 13 ((I26 7 5).toNatClampNeg) a1) 14 ((I26 7 5).toNatClampNeg) a2) 15 ((I26 7 5).toNatClampNeg) a3) 16 ((I26 7 5).toNatClampNeg) (a4 - 12)) 17 ((I26 7 5).toNatClampNeg) (I26 7 4)) J27 tg28))) (Runs.ist rfl (show (17 : Nat) < 114 by decide) rfl c48) ?_
              refine Runs.sN 10 (c' := (163, [.ref 0, .int a1, .int a2, .int a3, .int a4, .int (I26 7 5)], [.int ((I26 7 5) + 1)], (zS (up2 (up2 (up2 (up2 (up2 (up2 I26 13 ((I26 7 5).toNatClampNeg) a1) 14 ((I26 7 5).toNatClampNeg) a2) 15 ((I26 7 5).toNatClampNeg) a3) 16 ((I26 7 5).toNatClampNeg) (a4 - 12)) 17 ((I26 7 5).toNatClampNeg) (I26 7 4)) 7 5 ((I26 7 5) + 1)) J27 tg28))) rfl ?_
              subst h
              exact Runs.rt rfl
          · rw [if_neg c40] at h
            refine Runs.brF (P := (I26 7 5) < 60) (a := 59) (b := 57) (L := [.ref 0, .int a1, .int a2, .int a3, .int a4, vU]) (S := []) (z := (zS I26 J27 tg28)) rfl c40 ?_
            refine Runs.sN 1 (c' := (58, [.ref 0, .int a1, .int a2, .int a3, .int a4, vU], [.int (-1)], (zS I26 J27 tg28))) rfl ?_
            subst h
            exact Runs.rt rfl
        · rw [if_neg c39] at h
          refine Runs.brF (P := a4 = (-1)) (a := 45) (b := 33) (L := [.ref 0, .int a1, .int a2, .int a3, .int a4, vU]) (S := []) (z := (zS I26 J27 tg28)) rfl c39 ?_
          refine Runs.sN 3 (c' := (39, [.ref 0, .int a1, .int a2, .int a3, .int a4, vU], [.int a4, .ref 1], (zS I26 J27 tg28))) rfl ?_
          obtain ⟨v29, I30, J31, tg32, c49, h⟩ := h
          refine Runs.cl (cm := 45) (as := [.ref 1, .int a4]) (rest := []) (r1 := ((some (.int v29)), (zS I30 J31 tg32))) rfl (Nat.le_of_ble_eq_true rfl) c49 ?_
          refine Runs.as (c' := (42, [.ref 0, .int a1, .int a2, .int a3, .int a4, vU], [.int v29], (zS I30 J31 tg32))) rfl ?_
          by_cases c50 : v29 = 0
          · rw [if_pos c50] at h
            refine Runs.brT (P := v29 = 0) (a := 57) (b := 45) (L := [.ref 0, .int a1, .int a2, .int a3, .int a4, vU]) (S := []) (z := (zS I30 J31 tg32)) rfl c50 ?_
            refine Runs.sN 1 (c' := (58, [.ref 0, .int a1, .int a2, .int a3, .int a4, vU], [.int (-1)], (zS I30 J31 tg32))) rfl ?_
            subst h
            exact Runs.rt rfl
          · rw [if_neg c50] at h
            refine Runs.brF (P := v29 = 0) (a := 57) (b := 45) (L := [.ref 0, .int a1, .int a2, .int a3, .int a4, vU]) (S := []) (z := (zS I30 J31 tg32)) rfl c50 ?_
            refine Runs.sN 4 (c' := (54, [.ref 0, .int a1, .int a2, .int a3, .int a4, vU], [.int 60, .int (I30 7 5)], (zS I30 J31 tg32))) rfl ?_
            by_cases c51 : (I30 7 5) < 60
            · rw [if_pos c51] at h
              refine Runs.brT (P := (I30 7 5) < 60) (a := 59) (b := 57) (L := [.ref 0, .int a1, .int a2, .int a3, .int a4, vU]) (S := []) (z := (zS I30 J31 tg32)) rfl c51 ?_
              refine Runs.sN 9 (c' := (78, [.ref 0, .int a1, .int a2, .int a3, .int a4, .int (I30 7 5)], [.int a1, .int (I30 7 5), .ref 13], (zS I30 J31 tg32))) rfl ?_
              obtain ⟨c52, h⟩ := h
              refine Runs.to (c' := (79, [.ref 0, .int a1, .int a2, .int a3, .int a4, .int (I30 7 5)], [], (zS (up2 I30 13 ((I30 7 5).toNatClampNeg) a1) J31 tg32))) (Runs.ist rfl (show (13 : Nat) < 114 by decide) rfl c52) ?_
              refine Runs.sN 5 (c' := (89, [.ref 0, .int a1, .int a2, .int a3, .int a4, .int (I30 7 5)], [.int a2, .int (I30 7 5), .ref 14], (zS (up2 I30 13 ((I30 7 5).toNatClampNeg) a1) J31 tg32))) rfl ?_
              obtain ⟨c53, h⟩ := h
              refine Runs.to (c' := (90, [.ref 0, .int a1, .int a2, .int a3, .int a4, .int (I30 7 5)], [], (zS (up2 (up2 I30 13 ((I30 7 5).toNatClampNeg) a1) 14 ((I30 7 5).toNatClampNeg) a2) J31 tg32))) (Runs.ist rfl (show (14 : Nat) < 114 by decide) rfl c53) ?_
              refine Runs.sN 5 (c' := (100, [.ref 0, .int a1, .int a2, .int a3, .int a4, .int (I30 7 5)], [.int a3, .int (I30 7 5), .ref 15], (zS (up2 (up2 I30 13 ((I30 7 5).toNatClampNeg) a1) 14 ((I30 7 5).toNatClampNeg) a2) J31 tg32))) rfl ?_
              obtain ⟨c54, h⟩ := h
              refine Runs.to (c' := (101, [.ref 0, .int a1, .int a2, .int a3, .int a4, .int (I30 7 5)], [], (zS (up2 (up2 (up2 I30 13 ((I30 7 5).toNatClampNeg) a1) 14 ((I30 7 5).toNatClampNeg) a2) 15 ((I30 7 5).toNatClampNeg) a3) J31 tg32))) (Runs.ist rfl (show (15 : Nat) < 114 by decide) rfl c54) ?_
              refine Runs.sN 6 (c' := (113, [.ref 0, .int a1, .int a2, .int a3, .int a4, .int (I30 7 5)], [.int (-1), .int a4, .int (I30 7 5), .ref 16], (zS (up2 (up2 (up2 I30 13 ((I30 7 5).toNatClampNeg) a1) 14 ((I30 7 5).toNatClampNeg) a2) 15 ((I30 7 5).toNatClampNeg) a3) J31 tg32))) rfl ?_
              by_cases c55 : a4 = (-1)
              · rw [if_pos c55] at h
                refine Runs.brT (P := a4 = (-1)) (a := 116) (b := 120) (L := [.ref 0, .int a1, .int a2, .int a3, .int a4, .int (I30 7 5)]) (S := [.int (I30 7 5), .ref 16]) (z := (zS (up2 (up2 (up2 I30 13 ((I30 7 5).toNatClampNeg) a1) 14 ((I30 7 5).toNatClampNeg) a2) 15 ((I30 7 5).toNatClampNeg) a3) J31 tg32)) rfl c55 ?_
                refine Runs.sN 2 (c' := (125, [.ref 0, .int a1, .int a2, .int a3, .int a4, .int (I30 7 5)], [.int (-1), .int (I30 7 5), .ref 16], (zS (up2 (up2 (up2 I30 13 ((I30 7 5).toNatClampNeg) a1) 14 ((I30 7 5).toNatClampNeg) a2) 15 ((I30 7 5).toNatClampNeg) a3) J31 tg32))) rfl ?_
                obtain ⟨c56, h⟩ := h
                refine Runs.to (c' := (126, [.ref 0, .int a1, .int a2, .int a3, .int a4, .int (I30 7 5)], [], (zS (up2 (up2 (up2 (up2 I30 13 ((I30 7 5).toNatClampNeg) a1) 14 ((I30 7 5).toNatClampNeg) a2) 15 ((I30 7 5).toNatClampNeg) a3) 16 ((I30 7 5).toNatClampNeg) (-1)) J31 tg32))) (Runs.ist rfl (show (16 : Nat) < 114 by decide) rfl c56) ?_
                refine Runs.sN 7 (c' := (142, [.ref 0, .int a1, .int a2, .int a3, .int a4, .int (I30 7 5)], [.int (I30 7 4), .int (I30 7 5), .ref 17], (zS (up2 (up2 (up2 (up2 I30 13 ((I30 7 5).toNatClampNeg) a1) 14 ((I30 7 5).toNatClampNeg) a2) 15 ((I30 7 5).toNatClampNeg) a3) 16 ((I30 7 5).toNatClampNeg) (-1)) J31 tg32))) rfl ?_
                obtain ⟨c57, h⟩ := h
                refine Runs.to (c' := (143, [.ref 0, .int a1, .int a2, .int a3, .int a4, .int (I30 7 5)], [], (zS (up2 (up2 (up2 (up2 (up2 I30 13 ((I30 7 5).toNatClampNeg) a1) 14 ((I30 7 5).toNatClampNeg) a2) 15 ((I30 7 5).toNatClampNeg) a3) 16 ((I30 7 5).toNatClampNeg) (-1)) 17 ((I30 7 5).toNatClampNeg) (I30 7 4)) J31 tg32))) (Runs.ist rfl (show (17 : Nat) < 114 by decide) rfl c57) ?_
                refine Runs.sN 10 (c' := (163, [.ref 0, .int a1, .int a2, .int a3, .int a4, .int (I30 7 5)], [.int ((I30 7 5) + 1)], (zS (up2 (up2 (up2 (up2 (up2 (up2 I30 13 ((I30 7 5).toNatClampNeg) a1) 14 ((I30 7 5).toNatClampNeg) a2) 15 ((I30 7 5).toNatClampNeg) a3) 16 ((I30 7 5).toNatClampNeg) (-1)) 17 ((I30 7 5).toNatClampNeg) (I30 7 4)) 7 5 ((I30 7 5) + 1)) J31 tg32))) rfl ?_
                subst h
                exact Runs.rt rfl
              · rw [if_neg c55] at h
                refine Runs.brF (P := a4 = (-1)) (a := 116) (b := 120) (L := [.ref 0, .int a1, .int a2, .int a3, .int a4, .int (I30 7 5)]) (S := [.int (I30 7 5), .ref 16]) (z := (zS (up2 (up2 (up2 I30 13 ((I30 7 5).toNatClampNeg) a1) 14 ((I30 7 5).toNatClampNeg) a2) 15 ((I30 7 5).toNatClampNeg) a3) J31 tg32)) rfl c55 ?_
                refine Runs.sN 3 (c' := (125, [.ref 0, .int a1, .int a2, .int a3, .int a4, .int (I30 7 5)], [.int (a4 - 12), .int (I30 7 5), .ref 16], (zS (up2 (up2 (up2 I30 13 ((I30 7 5).toNatClampNeg) a1) 14 ((I30 7 5).toNatClampNeg) a2) 15 ((I30 7 5).toNatClampNeg) a3) J31 tg32))) rfl ?_
                obtain ⟨c58, h⟩ := h
                refine Runs.to (c' := (126, [.ref 0, .int a1, .int a2, .int a3, .int a4, .int (I30 7 5)], [], (zS (up2 (up2 (up2 (up2 I30 13 ((I30 7 5).toNatClampNeg) a1) 14 ((I30 7 5).toNatClampNeg) a2) 15 ((I30 7 5).toNatClampNeg) a3) 16 ((I30 7 5).toNatClampNeg) (a4 - 12)) J31 tg32))) (Runs.ist rfl (show (16 : Nat) < 114 by decide) rfl c58) ?_
                refine Runs.sN 7 (c' := (142, [.ref 0, .int a1, .int a2, .int a3, .int a4, .int (I30 7 5)], [.int (I30 7 4), .int (I30 7 5), .ref 17], (zS (up2 (up2 (up2 (up2 I30 13 ((I30 7 5).toNatClampNeg) a1) 14 ((I30 7 5).toNatClampNeg) a2) 15 ((I30 7 5).toNatClampNeg) a3) 16 ((I30 7 5).toNatClampNeg) (a4 - 12)) J31 tg32))) rfl ?_
                obtain ⟨c59, h⟩ := h
                refine Runs.to (c' := (143, [.ref 0, .int a1, .int a2, .int a3, .int a4, .int (I30 7 5)], [], (zS (up2 (up2 (up2 (up2 (up2 I30 13 ((I30 7 5).toNatClampNeg) a1) 14 ((I30 7 5).toNatClampNeg) a2) 15 ((I30 7 5).toNatClampNeg) a3) 16 ((I30 7 5).toNatClampNeg) (a4 - 12)) 17 ((I30 7 5).toNatClampNeg) (I30 7 4)) J31 tg32))) (Runs.ist rfl (show (17 : Nat) < 114 by decide) rfl c59) ?_
                refine Runs.sN 10 (c' := (163, [.ref 0, .int a1, .int a2, .int a3, .int a4, .int (I30 7 5)], [.int ((I30 7 5) + 1)], (zS (up2 (up2 (up2 (up2 (up2 (up2 I30 13 ((I30 7 5).toNatClampNeg) a1) 14 ((I30 7 5).toNatClampNeg) a2) 15 ((I30 7 5).toNatClampNeg) a3) 16 ((I30 7 5).toNatClampNeg) (a4 - 12)) 17 ((I30 7 5).toNatClampNeg) (I30 7 4)) 7 5 ((I30 7 5) + 1)) J31 tg32))) rfl ?_
                subst h
                exact Runs.rt rfl
            · rw [if_neg c51] at h
              refine Runs.brF (P := (I30 7 5) < 60) (a := 59) (b := 57) (L := [.ref 0, .int a1, .int a2, .int a3, .int a4, vU]) (S := []) (z := (zS I30 J31 tg32)) rfl c51 ?_
              refine Runs.sN 1 (c' := (58, [.ref 0, .int a1, .int a2, .int a3, .int a4, vU], [.int (-1)], (zS I30 J31 tg32))) rfl ?_
              subst h
              exact Runs.rt rfl
-- X11_minds 
theorem sg_155 {L d : Nat} {xs : Nat → Int32} (I : Nat → Nat → Int32) (J : Nat → Nat → Int64) (tg : Option Nat) (a1 : Int32) (a2 : Int32) (a3 : Int32) {r : Option Value × SS} (h : (∃ (v28 : Int32) (I29 : Nat → Nat → Int32) (J30 : Nat → Nat → Int64) (tg31 : Option Nat), Runs (GW L xs) d 165 (0, [.int a1], [], (zS I J tg)) ((some (.int v28)), (zS I29 J30 tg31)) ∧ (if v28 = 0 then (r = (some (.int (-1)), (zS I29 J30 tg31))) else (∃ (v32 : Int32) (I33 : Nat → Nat → Int32) (J34 : Nat → Nat → Int64) (tg35 : Option Nat), Runs (GW L xs) d 164 (0, [.int a2, .int 0, .int 999], [], (zS I29 J30 tg31)) ((some (.int v32)), (zS I33 J34 tg35)) ∧ (if v32 = 0 then (r = (some (.int (-1)), (zS I33 J34 tg35))) else (∃ (I36 : Nat → Nat → Int32) (J37 : Nat → Nat → Int64) (tg38 : Option Nat), Runs (GW L xs) d 51 (0, [.ref 92, .int a1, .int a2, vU], [], (zS I33 J34 tg35)) (none, (zS I36 J37 tg38)) ∧ (if a3 = (-1) then (∃ (v39 : Int32) (I40 : Nat → Nat → Int32) (J41 : Nat → Nat → Int64) (tg42 : Option Nat), Runs (GW L xs) d 54 (0, [.ref 92], [], (zS I36 J37 tg38)) ((some (.int v39)), (zS I40 J41 tg42)) ∧ r = (some (.int v39), (zS I40 J41 tg42))) else (∃ (v43 : Int32) (I44 : Nat → Nat → Int32) (J45 : Nat → Nat → Int64) (tg46 : Option Nat), Runs (GW L xs) d 54 (0, [.ref 92], [], (zS I36 J37 tg38)) ((some (.int v43)), (zS I44 J45 tg46)) ∧ ∃ (v47 : Int32) (I48 : Nat → Nat → Int32) (J49 : Nat → Nat → Int64) (tg50 : Option Nat), Runs (GW L xs) d 164 (0, [.int a3, .int 0, .int (v43 - 1)], [], (zS I44 J45 tg46)) ((some (.int v47)), (zS I48 J49 tg50)) ∧ (if v47 = 0 then (r = (some (.int (-1)), (zS I48 J49 tg50))) else (∃ (v51 : Int32) (I52 : Nat → Nat → Int32) (J53 : Nat → Nat → Int64) (tg54 : Option Nat), Runs (GW L xs) d 55 (0, [.ref 92, .int a3, vU, vU, vU, vU], [], (zS I48 J49 tg50)) ((some (.int v51)), (zS I52 J53 tg54)) ∧ r = (some (.int v51), (zS I52 J53 tg54)))))))))))) : Runs (GW L xs) (d + 1) 155 (0, [.ref 0, .int a1, .int a2, .int a3], [], (zS I J tg)) r := by
  refine Runs.sN 1 (c' := (1, [.ref 0, .int a1, .int a2, .int a3], [.int a1], (zS I J tg))) rfl ?_
  obtain ⟨v28, I29, J30, tg31, c55, h⟩ := h
  refine Runs.cl (cm := 165) (as := [.int a1]) (rest := []) (r1 := ((some (.int v28)), (zS I29 J30 tg31))) rfl (Nat.le_of_ble_eq_true rfl) c55 ?_
  refine Runs.as (c' := (4, [.ref 0, .int a1, .int a2, .int a3], [.int v28], (zS I29 J30 tg31))) rfl ?_
  by_cases c56 : v28 = 0
  · rw [if_pos c56] at h
    refine Runs.brT (P := v28 = 0) (a := 18) (b := 7) (L := [.ref 0, .int a1, .int a2, .int a3]) (S := []) (z := (zS I29 J30 tg31)) rfl c56 ?_
    refine Runs.sN 1 (c' := (19, [.ref 0, .int a1, .int a2, .int a3], [.int (-1)], (zS I29 J30 tg31))) rfl ?_
    subst h
    exact Runs.rt rfl
  · rw [if_neg c56] at h
    refine Runs.brF (P := v28 = 0) (a := 18) (b := 7) (L := [.ref 0, .int a1, .int a2, .int a3]) (S := []) (z := (zS I29 J30 tg31)) rfl c56 ?_
    refine Runs.sN 3 (c' := (12, [.ref 0, .int a1, .int a2, .int a3], [.int 999, .int 0, .int a2], (zS I29 J30 tg31))) rfl ?_
    obtain ⟨v32, I33, J34, tg35, c57, h⟩ := h
    refine Runs.cl (cm := 164) (as := [.int a2, .int 0, .int 999]) (rest := []) (r1 := ((some (.int v32)), (zS I33 J34 tg35))) rfl (Nat.le_of_ble_eq_true rfl) c57 ?_
    refine Runs.as (c' := (15, [.ref 0, .int a1, .int a2, .int a3], [.int v32], (zS I33 J34 tg35))) rfl ?_
    by_cases c58 : v32 = 0
    · rw [if_pos c58] at h
      refine Runs.brT (P := v32 = 0) (a := 18) (b := 20) (L := [.ref 0, .int a1, .int a2, .int a3]) (S := []) (z := (zS I33 J34 tg35)) rfl c58 ?_
      refine Runs.sN 1 (c' := (19, [.ref 0, .int a1, .int a2, .int a3], [.int (-1)], (zS I33 J34 tg35))) rfl ?_
      subst h
      exact Runs.rt rfl
    · rw [if_neg c58] at h
      refine Runs.brF (P := v32 = 0) (a := 18) (b := 20) (L := [.ref 0, .int a1, .int a2, .int a3]) (S := []) (z := (zS I33 J34 tg35)) rfl c58 ?_
      refine Runs.sN 4 (c' := (26, [.ref 0, .int a1, .int a2, .int a3], [.int a2, .int a1, .ref 92], (zS I33 J34 tg35))) rfl ?_
      obtain ⟨I36, J37, tg38, c59, h⟩ := h
      refine Runs.cl (cm := 51) (as := [.ref 92, .int a1, .int a2]) (rest := []) (r1 := (none, (zS I36 J37 tg38))) rfl (Nat.le_of_ble_eq_true rfl) c59 ?_
      refine Runs.as (c' := (29, [.ref 0, .int a1, .int a2, .int a3], [], (zS I36 J37 tg38))) rfl ?_
      refine Runs.sN 2 (c' := (31, [.ref 0, .int a1, .int a2, .int a3], [.int (-1), .int a3], (zS I36 J37 tg38))) rfl ?_
      by_cases c60 : a3 = (-1)
      · rw [if_pos c60] at h
        refine Runs.brT (P := a3 = (-1)) (a := 34) (b := 42) (L := [.ref 0, .int a1, .int a2, .int a3]) (S := []) (z := (zS I36 J37 tg38)) rfl c60 ?_
        refine Runs.sN 2 (c' := (38, [.ref 0, .int a1, .int a2, .int a3], [.ref 92], (zS I36 J37 tg38))) rfl ?_
        obtain ⟨v39, I40, J41, tg42, c61, h⟩ := h
        refine Runs.cl (cm := 54) (as := [.ref 92]) (rest := []) (r1 := ((some (.int v39)), (zS I40 J41 tg42))) rfl (Nat.le_of_ble_eq_true rfl) c61 ?_
        refine Runs.as (c' := (41, [.ref 0, .int a1, .int a2, .int a3], [.int v39], (zS I40 J41 tg42))) rfl ?_
        subst h
        exact Runs.rt rfl
      · rw [if_neg c60] at h
        refine Runs.brF (P := a3 = (-1)) (a := 34) (b := 42) (L := [.ref 0, .int a1, .int a2, .int a3]) (S := []) (z := (zS I36 J37 tg38)) rfl c60 ?_
        refine Runs.sN 4 (c' := (48, [.ref 0, .int a1, .int a2, .int a3], [.ref 92, .int 0, .int a3], (zS I36 J37 tg38))) rfl ?_
        obtain ⟨v43, I44, J45, tg46, c62, h⟩ := h
        refine Runs.cl (cm := 54) (as := [.ref 92]) (rest := [.int 0, .int a3]) (r1 := ((some (.int v43)), (zS I44 J45 tg46))) rfl (Nat.le_of_ble_eq_true rfl) c62 ?_
        refine Runs.as (c' := (51, [.ref 0, .int a1, .int a2, .int a3], [.int v43, .int 0, .int a3], (zS I44 J45 tg46))) rfl ?_
        refine Runs.sN 2 (c' := (53, [.ref 0, .int a1, .int a2, .int a3], [.int (v43 - 1), .int 0, .int a3], (zS I44 J45 tg46))) rfl ?_
        obtain ⟨v47, I48, J49, tg50, c63, h⟩ := h
        refine Runs.cl (cm := 164) (as := [.int a3, .int 0, .int (v43 - 1)]) (rest := []) (r1 := ((some (.int v47)), (zS I48 J49 tg50))) rfl (Nat.le_of_ble_eq_true rfl) c63 ?_
        refine Runs.as (c' := (56, [.ref 0, .int a1, .int a2, .int a3], [.int v47], (zS I48 J49 tg50))) rfl ?_
        by_cases c64 : v47 = 0
        · rw [if_pos c64] at h
          refine Runs.brT (P := v47 = 0) (a := 70) (b := 59) (L := [.ref 0, .int a1, .int a2, .int a3]) (S := []) (z := (zS I48 J49 tg50)) rfl c64 ?_
          refine Runs.sN 1 (c' := (71, [.ref 0, .int a1, .int a2, .int a3], [.int (-1)], (zS I48 J49 tg50))) rfl ?_
          subst h
          exact Runs.rt rfl
        · rw [if_neg c64] at h
          refine Runs.brF (P := v47 = 0) (a := 70) (b := 59) (L := [.ref 0, .int a1, .int a2, .int a3]) (S := []) (z := (zS I48 J49 tg50)) rfl c64 ?_
          refine Runs.sN 3 (c' := (64, [.ref 0, .int a1, .int a2, .int a3], [.int a3, .ref 92], (zS I48 J49 tg50))) rfl ?_
          obtain ⟨v51, I52, J53, tg54, c65, h⟩ := h
          refine Runs.cl (cm := 55) (as := [.ref 92, .int a3]) (rest := []) (r1 := ((some (.int v51)), (zS I52 J53 tg54))) rfl (Nat.le_of_ble_eq_true rfl) c65 ?_
          refine Runs.as (c' := (67, [.ref 0, .int a1, .int a2, .int a3], [.int v51], (zS I52 J53 tg54))) rfl ?_
          refine Runs.sN 1 (c' := (71, [.ref 0, .int a1, .int a2, .int a3], [.int v51], (zS I52 J53 tg54))) rfl ?_
          subst h
          exact Runs.rt rfl
-- X11_knows 
theorem sg_156 {L d : Nat} {xs : Nat → Int32} (I : Nat → Nat → Int32) (J : Nat → Nat → Int64) (tg : Option Nat) (a1 : Int32) (a2 : Int32) (a3 : Int32) {r : Option Value × SS} (h : (∃ (v20 : Int32) (I21 : Nat → Nat → Int32) (J22 : Nat → Nat → Int64) (tg23 : Option Nat), Runs (GW L xs) d 165 (0, [.int a1], [], (zS I J tg)) ((some (.int v20)), (zS I21 J22 tg23)) ∧ (if v20 = 0 then (r = (some (.int (-1)), (zS I21 J22 tg23))) else (∃ (v24 : Int32) (I25 : Nat → Nat → Int32) (J26 : Nat → Nat → Int64) (tg27 : Option Nat), Runs (GW L xs) d 164 (0, [.int a2, .int 0, .int 999], [], (zS I21 J22 tg23)) ((some (.int v24)), (zS I25 J26 tg27)) ∧ (if v24 = 0 then (r = (some (.int (-1)), (zS I25 J26 tg27))) else (∃ (v28 : Int32) (I29 : Nat → Nat → Int32) (J30 : Nat → Nat → Int64) (tg31 : Option Nat), Runs (GW L xs) d 45 (0, [.ref 1, .int a3], [], (zS I25 J26 tg27)) ((some (.int v28)), (zS I29 J30 tg31)) ∧ (if v28 = 0 then (r = (some (.int (-1)), (zS I29 J30 tg31))) else (∃ (I32 : Nat → Nat → Int32) (J33 : Nat → Nat → Int64) (tg34 : Option Nat), Runs (GW L xs) d 51 (0, [.ref 92, .int a1, .int a2, vU], [], (zS I29 J30 tg31)) (none, (zS I32 J33 tg34)) ∧ ∃ (v35 : Int32) (I36 : Nat → Nat → Int32) (J37 : Nat → Nat → Int64) (tg38 : Option Nat), Runs (GW L xs) d 56 (0, [.ref 92, .int (a3 - 12)], [], (zS I32 J33 tg34)) ((some (.int v35)), (zS I36 J37 tg38)) ∧ r = (some (.int v35), (zS I36 J37 tg38)))))))))) : Runs (GW L xs) (d + 1) 156 (0, [.ref 0, .int a1, .int a2, .int a3], [], (zS I J tg)) r := by
  refine Runs.sN 1 (c' := (1, [.ref 0, .int a1, .int a2, .int a3], [.int a1], (zS I J tg))) rfl ?_
  obtain ⟨v20, I21, J22, tg23, c39, h⟩ := h
  refine Runs.cl (cm := 165) (as := [.int a1]) (rest := []) (r1 := ((some (.int v20)), (zS I21 J22 tg23))) rfl (Nat.le_of_ble_eq_true rfl) c39 ?_
  refine Runs.as (c' := (4, [.ref 0, .int a1, .int a2, .int a3], [.int v20], (zS I21 J22 tg23))) rfl ?_
  by_cases c40 : v20 = 0
  · rw [if_pos c40] at h
    refine Runs.brT (P := v20 = 0) (a := 29) (b := 7) (L := [.ref 0, .int a1, .int a2, .int a3]) (S := []) (z := (zS I21 J22 tg23)) rfl c40 ?_
    refine Runs.sN 1 (c' := (30, [.ref 0, .int a1, .int a2, .int a3], [.int (-1)], (zS I21 J22 tg23))) rfl ?_
    subst h
    exact Runs.rt rfl
  · rw [if_neg c40] at h
    refine Runs.brF (P := v20 = 0) (a := 29) (b := 7) (L := [.ref 0, .int a1, .int a2, .int a3]) (S := []) (z := (zS I21 J22 tg23)) rfl c40 ?_
    refine Runs.sN 3 (c' := (12, [.ref 0, .int a1, .int a2, .int a3], [.int 999, .int 0, .int a2], (zS I21 J22 tg23))) rfl ?_
    obtain ⟨v24, I25, J26, tg27, c41, h⟩ := h
    refine Runs.cl (cm := 164) (as := [.int a2, .int 0, .int 999]) (rest := []) (r1 := ((some (.int v24)), (zS I25 J26 tg27))) rfl (Nat.le_of_ble_eq_true rfl) c41 ?_
    refine Runs.as (c' := (15, [.ref 0, .int a1, .int a2, .int a3], [.int v24], (zS I25 J26 tg27))) rfl ?_
    by_cases c42 : v24 = 0
    · rw [if_pos c42] at h
      refine Runs.brT (P := v24 = 0) (a := 29) (b := 18) (L := [.ref 0, .int a1, .int a2, .int a3]) (S := []) (z := (zS I25 J26 tg27)) rfl c42 ?_
      refine Runs.sN 1 (c' := (30, [.ref 0, .int a1, .int a2, .int a3], [.int (-1)], (zS I25 J26 tg27))) rfl ?_
      subst h
      exact Runs.rt rfl
    · rw [if_neg c42] at h
      refine Runs.brF (P := v24 = 0) (a := 29) (b := 18) (L := [.ref 0, .int a1, .int a2, .int a3]) (S := []) (z := (zS I25 J26 tg27)) rfl c42 ?_
      refine Runs.sN 3 (c' := (23, [.ref 0, .int a1, .int a2, .int a3], [.int a3, .ref 1], (zS I25 J26 tg27))) rfl ?_
      obtain ⟨v28, I29, J30, tg31, c43, h⟩ := h
      refine Runs.cl (cm := 45) (as := [.ref 1, .int a3]) (rest := []) (r1 := ((some (.int v28)), (zS I29 J30 tg31))) rfl (Nat.le_of_ble_eq_true rfl) c43 ?_
      refine Runs.as (c' := (26, [.ref 0, .int a1, .int a2, .int a3], [.int v28], (zS I29 J30 tg31))) rfl ?_
      by_cases c44 : v28 = 0
      · rw [if_pos c44] at h
        refine Runs.brT (P := v28 = 0) (a := 29) (b := 31) (L := [.ref 0, .int a1, .int a2, .int a3]) (S := []) (z := (zS I29 J30 tg31)) rfl c44 ?_
        refine Runs.sN 1 (c' := (30, [.ref 0, .int a1, .int a2, .int a3], [.int (-1)], (zS I29 J30 tg31))) rfl ?_
        subst h
        exact Runs.rt rfl
      · rw [if_neg c44] at h
        refine Runs.brF (P := v28 = 0) (a := 29) (b := 31) (L := [.ref 0, .int a1, .int a2, .int a3]) (S := []) (z := (zS I29 J30 tg31)) rfl c44 ?_
        refine Runs.sN 4 (c' := (37, [.ref 0, .int a1, .int a2, .int a3], [.int a2, .int a1, .ref 92], (zS I29 J30 tg31))) rfl ?_
        obtain ⟨I32, J33, tg34, c45, h⟩ := h
        refine Runs.cl (cm := 51) (as := [.ref 92, .int a1, .int a2]) (rest := []) (r1 := (none, (zS I32 J33 tg34))) rfl (Nat.le_of_ble_eq_true rfl) c45 ?_
        refine Runs.as (c' := (40, [.ref 0, .int a1, .int a2, .int a3], [], (zS I32 J33 tg34))) rfl ?_
        refine Runs.sN 5 (c' := (48, [.ref 0, .int a1, .int a2, .int a3], [.int (a3 - 12), .ref 92], (zS I32 J33 tg34))) rfl ?_
        obtain ⟨v35, I36, J37, tg38, c46, h⟩ := h
        refine Runs.cl (cm := 56) (as := [.ref 92, .int (a3 - 12)]) (rest := []) (r1 := ((some (.int v35)), (zS I36 J37 tg38))) rfl (Nat.le_of_ble_eq_true rfl) c46 ?_
        refine Runs.as (c' := (51, [.ref 0, .int a1, .int a2, .int a3], [.int v35], (zS I36 J37 tg38))) rfl ?_
        subst h
        exact Runs.rt rfl
-- X11_parts 
theorem sg_157 {L d : Nat} {xs : Nat → Int32} (I : Nat → Nat → Int32) (J : Nat → Nat → Int64) (tg : Option Nat) (a1 : Int32) (a2 : Int32) (a3 : Int32) {r : Option Value × SS} (h : (∃ (v19 : Int32) (I20 : Nat → Nat → Int32) (J21 : Nat → Nat → Int64) (tg22 : Option Nat), Runs (GW L xs) d 165 (0, [.int a1], [], (zS I J tg)) ((some (.int v19)), (zS I20 J21 tg22)) ∧ (if v19 = 0 then (r = (some (.int (-1)), (zS I20 J21 tg22))) else (∃ (v23 : Int32) (I24 : Nat → Nat → Int32) (J25 : Nat → Nat → Int64) (tg26 : Option Nat), Runs (GW L xs) d 166 (0, [.int a2], [], (zS I20 J21 tg22)) ((some (.int v23)), (zS I24 J25 tg26)) ∧ (if v23 = 0 then (r = (some (.int (-1)), (zS I24 J25 tg26))) else (∃ (v27 : Int32) (I28 : Nat → Nat → Int32) (J29 : Nat → Nat → Int64) (tg30 : Option Nat), Runs (GW L xs) d 164 (0, [.int a3, .int 0, .int 1], [], (zS I24 J25 tg26)) ((some (.int v27)), (zS I28 J29 tg30)) ∧ (if v27 = 0 then (r = (some (.int (-1)), (zS I28 J29 tg30))) else (∃ (I31 : Nat → Nat → Int32) (J32 : Nat → Nat → Int64) (tg33 : Option Nat), Runs (GW L xs) d 51 (0, [.ref 92, .int a1, .int (I28 7 4), vU], [], (zS I28 J29 tg30)) (none, (zS I31 J32 tg33)) ∧ ∃ (I34 : Nat → Nat → Int32) (J35 : Nat → Nat → Int64) (tg36 : Option Nat), Runs (GW L xs) d 57 (0, [.ref 92, .int a2, vU, vU], [], (zS I31 J32 tg33)) (none, (zS I34 J35 tg36)) ∧ (if (I34 92 6) = (-1) then (r = (some (.int (-1)), (zS I34 J35 tg36))) else ((if a3 = 0 then (r = (some (.int (I34 92 6)), (zS I34 J35 tg36))) else (r = (some (.int (I34 92 7)), (zS I34 J35 tg36)))))))))))))) : Runs (GW L xs) (d + 1) 157 (0, [.ref 0, .int a1, .int a2, .int a3], [], (zS I J tg)) r := by
  refine Runs.sN 1 (c' := (1, [.ref 0, .int a1, .int a2, .int a3], [.int a1], (zS I J tg))) rfl ?_
  obtain ⟨v19, I20, J21, tg22, c37, h⟩ := h
  refine Runs.cl (cm := 165) (as := [.int a1]) (rest := []) (r1 := ((some (.int v19)), (zS I20 J21 tg22))) rfl (Nat.le_of_ble_eq_true rfl) c37 ?_
  refine Runs.as (c' := (4, [.ref 0, .int a1, .int a2, .int a3], [.int v19], (zS I20 J21 tg22))) rfl ?_
  by_cases c38 : v19 = 0
  · rw [if_pos c38] at h
    refine Runs.brT (P := v19 = 0) (a := 23) (b := 7) (L := [.ref 0, .int a1, .int a2, .int a3]) (S := []) (z := (zS I20 J21 tg22)) rfl c38 ?_
    refine Runs.sN 1 (c' := (24, [.ref 0, .int a1, .int a2, .int a3], [.int (-1)], (zS I20 J21 tg22))) rfl ?_
    subst h
    exact Runs.rt rfl
  · rw [if_neg c38] at h
    refine Runs.brF (P := v19 = 0) (a := 23) (b := 7) (L := [.ref 0, .int a1, .int a2, .int a3]) (S := []) (z := (zS I20 J21 tg22)) rfl c38 ?_
    refine Runs.sN 1 (c' := (8, [.ref 0, .int a1, .int a2, .int a3], [.int a2], (zS I20 J21 tg22))) rfl ?_
    obtain ⟨v23, I24, J25, tg26, c39, h⟩ := h
    refine Runs.cl (cm := 166) (as := [.int a2]) (rest := []) (r1 := ((some (.int v23)), (zS I24 J25 tg26))) rfl (Nat.le_of_ble_eq_true rfl) c39 ?_
    refine Runs.as (c' := (11, [.ref 0, .int a1, .int a2, .int a3], [.int v23], (zS I24 J25 tg26))) rfl ?_
    by_cases c40 : v23 = 0
    · rw [if_pos c40] at h
      refine Runs.brT (P := v23 = 0) (a := 23) (b := 14) (L := [.ref 0, .int a1, .int a2, .int a3]) (S := []) (z := (zS I24 J25 tg26)) rfl c40 ?_
      refine Runs.sN 1 (c' := (24, [.ref 0, .int a1, .int a2, .int a3], [.int (-1)], (zS I24 J25 tg26))) rfl ?_
      subst h
      exact Runs.rt rfl
    · rw [if_neg c40] at h
      refine Runs.brF (P := v23 = 0) (a := 23) (b := 14) (L := [.ref 0, .int a1, .int a2, .int a3]) (S := []) (z := (zS I24 J25 tg26)) rfl c40 ?_
      refine Runs.sN 3 (c' := (17, [.ref 0, .int a1, .int a2, .int a3], [.int 1, .int 0, .int a3], (zS I24 J25 tg26))) rfl ?_
      obtain ⟨v27, I28, J29, tg30, c41, h⟩ := h
      refine Runs.cl (cm := 164) (as := [.int a3, .int 0, .int 1]) (rest := []) (r1 := ((some (.int v27)), (zS I28 J29 tg30))) rfl (Nat.le_of_ble_eq_true rfl) c41 ?_
      refine Runs.as (c' := (20, [.ref 0, .int a1, .int a2, .int a3], [.int v27], (zS I28 J29 tg30))) rfl ?_
      by_cases c42 : v27 = 0
      · rw [if_pos c42] at h
        refine Runs.brT (P := v27 = 0) (a := 23) (b := 25) (L := [.ref 0, .int a1, .int a2, .int a3]) (S := []) (z := (zS I28 J29 tg30)) rfl c42 ?_
        refine Runs.sN 1 (c' := (24, [.ref 0, .int a1, .int a2, .int a3], [.int (-1)], (zS I28 J29 tg30))) rfl ?_
        subst h
        exact Runs.rt rfl
      · rw [if_neg c42] at h
        refine Runs.brF (P := v27 = 0) (a := 23) (b := 25) (L := [.ref 0, .int a1, .int a2, .int a3]) (S := []) (z := (zS I28 J29 tg30)) rfl c42 ?_
        refine Runs.sN 6 (c' := (37, [.ref 0, .int a1, .int a2, .int a3], [.int (I28 7 4), .int a1, .ref 92], (zS I28 J29 tg30))) rfl ?_
        obtain ⟨I31, J32, tg33, c43, h⟩ := h
        refine Runs.cl (cm := 51) (as := [.ref 92, .int a1, .int (I28 7 4)]) (rest := []) (r1 := (none, (zS I31 J32 tg33))) rfl (Nat.le_of_ble_eq_true rfl) c43 ?_
        refine Runs.as (c' := (40, [.ref 0, .int a1, .int a2, .int a3], [], (zS I31 J32 tg33))) rfl ?_
        refine Runs.sN 3 (c' := (45, [.ref 0, .int a1, .int a2, .int a3], [.int a2, .ref 92], (zS I31 J32 tg33))) rfl ?_
        obtain ⟨I34, J35, tg36, c44, h⟩ := h
        refine Runs.cl (cm := 57) (as := [.ref 92, .int a2]) (rest := []) (r1 := (none, (zS I34 J35 tg36))) rfl (Nat.le_of_ble_eq_true rfl) c44 ?_
        refine Runs.as (c' := (48, [.ref 0, .int a1, .int a2, .int a3], [], (zS I34 J35 tg36))) rfl ?_
        refine Runs.sN 4 (c' := (56, [.ref 0, .int a1, .int a2, .int a3], [.int (-1), .int (I34 92 6)], (zS I34 J35 tg36))) rfl ?_
        by_cases c45 : (I34 92 6) = (-1)
        · rw [if_pos c45] at h
          refine Runs.brT (P := (I34 92 6) = (-1)) (a := 59) (b := 61) (L := [.ref 0, .int a1, .int a2, .int a3]) (S := []) (z := (zS I34 J35 tg36)) rfl c45 ?_
          refine Runs.sN 1 (c' := (60, [.ref 0, .int a1, .int a2, .int a3], [.int (-1)], (zS I34 J35 tg36))) rfl ?_
          subst h
          exact Runs.rt rfl
        · rw [if_neg c45] at h
          refine Runs.brF (P := (I34 92 6) = (-1)) (a := 59) (b := 61) (L := [.ref 0, .int a1, .int a2, .int a3]) (S := []) (z := (zS I34 J35 tg36)) rfl c45 ?_
          refine Runs.sN 1 (c' := (62, [.ref 0, .int a1, .int a2, .int a3], [.int a3], (zS I34 J35 tg36))) rfl ?_
          by_cases c46 : a3 = 0
          · rw [if_pos c46] at h
            refine Runs.brT (P := a3 = 0) (a := 65) (b := 75) (L := [.ref 0, .int a1, .int a2, .int a3]) (S := []) (z := (zS I34 J35 tg36)) rfl c46 ?_
            refine Runs.sN 4 (c' := (82, [.ref 0, .int a1, .int a2, .int a3], [.int (I34 92 6)], (zS I34 J35 tg36))) rfl ?_
            subst h
            exact Runs.rt rfl
          · rw [if_neg c46] at h
            refine Runs.brF (P := a3 = 0) (a := 65) (b := 75) (L := [.ref 0, .int a1, .int a2, .int a3]) (S := []) (z := (zS I34 J35 tg36)) rfl c46 ?_
            refine Runs.sN 3 (c' := (82, [.ref 0, .int a1, .int a2, .int a3], [.int (I34 92 7)], (zS I34 J35 tg36))) rfl ?_
            subst h
            exact Runs.rt rfl
-- X11_mended 
theorem sg_158 {L d : Nat} {xs : Nat → Int32} (I : Nat → Nat → Int32) (J : Nat → Nat → Int64) (tg : Option Nat) (a1 : Int32) (a2 : Int32) (a3 : Int32) (a4 : Int32) {r : Option Value × SS} (h : (∃ (v21 : Int32) (I22 : Nat → Nat → Int32) (J23 : Nat → Nat → Int64) (tg24 : Option Nat), Runs (GW L xs) d 44 (0, [.ref 1, .int a1], [], (zS I J tg)) ((some (.int v21)), (zS I22 J23 tg24)) ∧ (if v21 = 0 then (r = (some (.int (-1)), (zS I22 J23 tg24))) else (∃ (v25 : Int32) (I26 : Nat → Nat → Int32) (J27 : Nat → Nat → Int64) (tg28 : Option Nat), Runs (GW L xs) d 44 (0, [.ref 1, .int a2], [], (zS I22 J23 tg24)) ((some (.int v25)), (zS I26 J27 tg28)) ∧ (if v25 = 0 then (r = (some (.int (-1)), (zS I26 J27 tg28))) else ((if a1 = a2 then (r = (some (.int (-1)), (zS I26 J27 tg28))) else (∃ (v29 : Int32) (I30 : Nat → Nat → Int32) (J31 : Nat → Nat → Int64) (tg32 : Option Nat), Runs (GW L xs) d 164 (0, [.int a3, .int 1, .int 999], [], (zS I26 J27 tg28)) ((some (.int v29)), (zS I30 J31 tg32)) ∧ (if v29 = 0 then (r = (some (.int (-1)), (zS I30 J31 tg32))) else (∃ (v33 : Int32) (I34 : Nat → Nat → Int32) (J35 : Nat → Nat → Int64) (tg36 : Option Nat), Runs (GW L xs) d 164 (0, [.int a4, .int 0, .int 3], [], (zS I30 J31 tg32)) ((some (.int v33)), (zS I34 J35 tg36)) ∧ (if v33 = 0 then (r = (some (.int (-1)), (zS I34 J35 tg36))) else (∃ (v37 : Int32) (I38 : Nat → Nat → Int32) (J39 : Nat → Nat → Int64) (tg40 : Option Nat), Runs (GW L xs) d 10 (0, [.ref 79, .int a1, .int a2, .int a3, vU, vU, vU], [], (zS I34 J35 tg36)) ((some (.int v37)), (zS I38 J39 tg40)) ∧ (if v37 = 0 then (r = (some (.int (-1)), (zS I38 J39 tg40))) else (¬ (a4 < 0 ∨ 4 ≤ (a4).toNatClampNeg) ∧ r = (some (.int (I38 82 ((a4).toNatClampNeg))), (zS I38 J39 tg40)))))))))))))))) : Runs (GW L xs) (d + 1) 158 (0, [.ref 0, .int a1, .int a2, .int a3, .int a4], [], (zS I J tg)) r := by
  refine Runs.sN 3 (c' := (5, [.ref 0, .int a1, .int a2, .int a3, .int a4], [.int a1, .ref 1], (zS I J tg))) rfl ?_
  obtain ⟨v21, I22, J23, tg24, c41, h⟩ := h
  refine Runs.cl (cm := 44) (as := [.ref 1, .int a1]) (rest := []) (r1 := ((some (.int v21)), (zS I22 J23 tg24))) rfl (Nat.le_of_ble_eq_true rfl) c41 ?_
  refine Runs.as (c' := (8, [.ref 0, .int a1, .int a2, .int a3, .int a4], [.int v21], (zS I22 J23 tg24))) rfl ?_
  by_cases c42 : v21 = 0
  · rw [if_pos c42] at h
    refine Runs.brT (P := v21 = 0) (a := 27) (b := 11) (L := [.ref 0, .int a1, .int a2, .int a3, .int a4]) (S := []) (z := (zS I22 J23 tg24)) rfl c42 ?_
    refine Runs.sN 1 (c' := (28, [.ref 0, .int a1, .int a2, .int a3, .int a4], [.int (-1)], (zS I22 J23 tg24))) rfl ?_
    subst h
    exact Runs.rt rfl
  · rw [if_neg c42] at h
    refine Runs.brF (P := v21 = 0) (a := 27) (b := 11) (L := [.ref 0, .int a1, .int a2, .int a3, .int a4]) (S := []) (z := (zS I22 J23 tg24)) rfl c42 ?_
    refine Runs.sN 3 (c' := (16, [.ref 0, .int a1, .int a2, .int a3, .int a4], [.int a2, .ref 1], (zS I22 J23 tg24))) rfl ?_
    obtain ⟨v25, I26, J27, tg28, c43, h⟩ := h
    refine Runs.cl (cm := 44) (as := [.ref 1, .int a2]) (rest := []) (r1 := ((some (.int v25)), (zS I26 J27 tg28))) rfl (Nat.le_of_ble_eq_true rfl) c43 ?_
    refine Runs.as (c' := (19, [.ref 0, .int a1, .int a2, .int a3, .int a4], [.int v25], (zS I26 J27 tg28))) rfl ?_
    by_cases c44 : v25 = 0
    · rw [if_pos c44] at h
      refine Runs.brT (P := v25 = 0) (a := 27) (b := 22) (L := [.ref 0, .int a1, .int a2, .int a3, .int a4]) (S := []) (z := (zS I26 J27 tg28)) rfl c44 ?_
      refine Runs.sN 1 (c' := (28, [.ref 0, .int a1, .int a2, .int a3, .int a4], [.int (-1)], (zS I26 J27 tg28))) rfl ?_
      subst h
      exact Runs.rt rfl
    · rw [if_neg c44] at h
      refine Runs.brF (P := v25 = 0) (a := 27) (b := 22) (L := [.ref 0, .int a1, .int a2, .int a3, .int a4]) (S := []) (z := (zS I26 J27 tg28)) rfl c44 ?_
      refine Runs.sN 2 (c' := (24, [.ref 0, .int a1, .int a2, .int a3, .int a4], [.int a2, .int a1], (zS I26 J27 tg28))) rfl ?_
      by_cases c45 : a1 = a2
      · rw [if_pos c45] at h
        refine Runs.brT (P := a1 = a2) (a := 27) (b := 29) (L := [.ref 0, .int a1, .int a2, .int a3, .int a4]) (S := []) (z := (zS I26 J27 tg28)) rfl c45 ?_
        refine Runs.sN 1 (c' := (28, [.ref 0, .int a1, .int a2, .int a3, .int a4], [.int (-1)], (zS I26 J27 tg28))) rfl ?_
        subst h
        exact Runs.rt rfl
      · rw [if_neg c45] at h
        refine Runs.brF (P := a1 = a2) (a := 27) (b := 29) (L := [.ref 0, .int a1, .int a2, .int a3, .int a4]) (S := []) (z := (zS I26 J27 tg28)) rfl c45 ?_
        refine Runs.sN 3 (c' := (34, [.ref 0, .int a1, .int a2, .int a3, .int a4], [.int 999, .int 1, .int a3], (zS I26 J27 tg28))) rfl ?_
        obtain ⟨v29, I30, J31, tg32, c46, h⟩ := h
        refine Runs.cl (cm := 164) (as := [.int a3, .int 1, .int 999]) (rest := []) (r1 := ((some (.int v29)), (zS I30 J31 tg32))) rfl (Nat.le_of_ble_eq_true rfl) c46 ?_
        refine Runs.as (c' := (37, [.ref 0, .int a1, .int a2, .int a3, .int a4], [.int v29], (zS I30 J31 tg32))) rfl ?_
        by_cases c47 : v29 = 0
        · rw [if_pos c47] at h
          refine Runs.brT (P := v29 = 0) (a := 50) (b := 40) (L := [.ref 0, .int a1, .int a2, .int a3, .int a4]) (S := []) (z := (zS I30 J31 tg32)) rfl c47 ?_
          refine Runs.sN 1 (c' := (51, [.ref 0, .int a1, .int a2, .int a3, .int a4], [.int (-1)], (zS I30 J31 tg32))) rfl ?_
          subst h
          exact Runs.rt rfl
        · rw [if_neg c47] at h
          refine Runs.brF (P := v29 = 0) (a := 50) (b := 40) (L := [.ref 0, .int a1, .int a2, .int a3, .int a4]) (S := []) (z := (zS I30 J31 tg32)) rfl c47 ?_
          refine Runs.sN 3 (c' := (44, [.ref 0, .int a1, .int a2, .int a3, .int a4], [.int 3, .int 0, .int a4], (zS I30 J31 tg32))) rfl ?_
          obtain ⟨v33, I34, J35, tg36, c48, h⟩ := h
          refine Runs.cl (cm := 164) (as := [.int a4, .int 0, .int 3]) (rest := []) (r1 := ((some (.int v33)), (zS I34 J35 tg36))) rfl (Nat.le_of_ble_eq_true rfl) c48 ?_
          refine Runs.as (c' := (47, [.ref 0, .int a1, .int a2, .int a3, .int a4], [.int v33], (zS I34 J35 tg36))) rfl ?_
          by_cases c49 : v33 = 0
          · rw [if_pos c49] at h
            refine Runs.brT (P := v33 = 0) (a := 50) (b := 52) (L := [.ref 0, .int a1, .int a2, .int a3, .int a4]) (S := []) (z := (zS I34 J35 tg36)) rfl c49 ?_
            refine Runs.sN 1 (c' := (51, [.ref 0, .int a1, .int a2, .int a3, .int a4], [.int (-1)], (zS I34 J35 tg36))) rfl ?_
            subst h
            exact Runs.rt rfl
          · rw [if_neg c49] at h
            refine Runs.brF (P := v33 = 0) (a := 50) (b := 52) (L := [.ref 0, .int a1, .int a2, .int a3, .int a4]) (S := []) (z := (zS I34 J35 tg36)) rfl c49 ?_
            refine Runs.sN 5 (c' := (59, [.ref 0, .int a1, .int a2, .int a3, .int a4], [.int a3, .int a2, .int a1, .ref 79], (zS I34 J35 tg36))) rfl ?_
            obtain ⟨v37, I38, J39, tg40, c50, h⟩ := h
            refine Runs.cl (cm := 10) (as := [.ref 79, .int a1, .int a2, .int a3]) (rest := []) (r1 := ((some (.int v37)), (zS I38 J39 tg40))) rfl (Nat.le_of_ble_eq_true rfl) c50 ?_
            refine Runs.as (c' := (62, [.ref 0, .int a1, .int a2, .int a3, .int a4], [.int v37], (zS I38 J39 tg40))) rfl ?_
            by_cases c51 : v37 = 0
            · rw [if_pos c51] at h
              refine Runs.brT (P := v37 = 0) (a := 78) (b := 65) (L := [.ref 0, .int a1, .int a2, .int a3, .int a4]) (S := []) (z := (zS I38 J39 tg40)) rfl c51 ?_
              refine Runs.sN 1 (c' := (79, [.ref 0, .int a1, .int a2, .int a3, .int a4], [.int (-1)], (zS I38 J39 tg40))) rfl ?_
              subst h
              exact Runs.rt rfl
            · rw [if_neg c51] at h
              refine Runs.brF (P := v37 = 0) (a := 78) (b := 65) (L := [.ref 0, .int a1, .int a2, .int a3, .int a4]) (S := []) (z := (zS I38 J39 tg40)) rfl c51 ?_
              refine Runs.sN 4 (c' := (74, [.ref 0, .int a1, .int a2, .int a3, .int a4], [.int a4, .ref 82], (zS I38 J39 tg40))) rfl ?_
              obtain ⟨c52, h⟩ := h
              refine Runs.to (c' := (75, [.ref 0, .int a1, .int a2, .int a3, .int a4], [.int (I38 82 ((a4).toNatClampNeg))], (zS I38 J39 tg40))) (Runs.ild rfl (show (82 : Nat) < 114 by decide) rfl c52) ?_
              refine Runs.sN 1 (c' := (79, [.ref 0, .int a1, .int a2, .int a3, .int a4], [.int (I38 82 ((a4).toNatClampNeg))], (zS I38 J39 tg40))) rfl ?_
              subst h
              exact Runs.rt rfl
-- X11_image 
theorem sg_159 {L d : Nat} {xs : Nat → Int32} (I : Nat → Nat → Int32) (J : Nat → Nat → Int64) (tg : Option Nat) {r : Option Value × SS} (h : (∃ (I10 : Nat → Nat → Int32) (J11 : Nat → Nat → Int64) (tg12 : Option Nat), Runs (GW L xs) d 49 (0, [.ref 23, .ref 1], [], (zS I J tg)) (none, (zS I10 J11 tg12)) ∧ ∃ (I13 : Nat → Nat → Int32) (J14 : Nat → Nat → Int64) (tg15 : Option Nat), Runs (GW L xs) d 114 (0, [.ref 29, .ref 7], [], (zS I10 J11 tg12)) (none, (zS I13 J14 tg15)) ∧ ∃ (I16 : Nat → Nat → Int32) (J17 : Nat → Nat → Int64) (tg18 : Option Nat), Runs (GW L xs) d 42 (0, [.ref 40, .ref 18], [], (zS I13 J14 tg15)) (none, (zS I16 J17 tg18)) ∧ r = (some (.int (I16 7 4)), (zS I16 J17 tg18)))) : Runs (GW L xs) (d + 1) 159 (0, [.ref 0], [], (zS I J tg)) r := by
  refine Runs.sN 4 (c' := (8, [.ref 0], [.ref 1, .ref 23], (zS I J tg))) rfl ?_
  obtain ⟨I10, J11, tg12, c19, h⟩ := h
  refine Runs.cl (cm := 49) (as := [.ref 23, .ref 1]) (rest := []) (r1 := (none, (zS I10 J11 tg12))) rfl (Nat.le_of_ble_eq_true rfl) c19 ?_
  refine Runs.as (c' := (11, [.ref 0], [], (zS I10 J11 tg12))) rfl ?_
  refine Runs.sN 4 (c' := (19, [.ref 0], [.ref 7, .ref 29], (zS I10 J11 tg12))) rfl ?_
  obtain ⟨I13, J14, tg15, c20, h⟩ := h
  refine Runs.cl (cm := 114) (as := [.ref 29, .ref 7]) (rest := []) (r1 := (none, (zS I13 J14 tg15))) rfl (Nat.le_of_ble_eq_true rfl) c20 ?_
  refine Runs.as (c' := (22, [.ref 0], [], (zS I13 J14 tg15))) rfl ?_
  refine Runs.sN 4 (c' := (30, [.ref 0], [.ref 18, .ref 40], (zS I13 J14 tg15))) rfl ?_
  obtain ⟨I16, J17, tg18, c21, h⟩ := h
  refine Runs.cl (cm := 42) (as := [.ref 40, .ref 18]) (rest := []) (r1 := (none, (zS I16 J17 tg18))) rfl (Nat.le_of_ble_eq_true rfl) c21 ?_
  refine Runs.as (c' := (33, [.ref 0], [], (zS I16 J17 tg18))) rfl ?_
  refine Runs.sN 3 (c' := (40, [.ref 0], [.int (I16 7 4)], (zS I16 J17 tg18))) rfl ?_
  subst h
  exact Runs.rt rfl
-- X11_back 
theorem sg_160 {L d : Nat} {xs : Nat → Int32} (I : Nat → Nat → Int32) (J : Nat → Nat → Int64) (tg : Option Nat) {r : Option Value × SS} (h : (∃ (I13 : Nat → Nat → Int32) (J14 : Nat → Nat → Int64) (tg15 : Option Nat), Runs (GW L xs) d 49 (0, [.ref 1, .ref 23], [], (zS I J tg)) (none, (zS I13 J14 tg15)) ∧ ∃ (I16 : Nat → Nat → Int32) (J17 : Nat → Nat → Int64) (tg18 : Option Nat), Runs (GW L xs) d 114 (0, [.ref 7, .ref 29], [], (zS I13 J14 tg15)) (none, (zS I16 J17 tg18)) ∧ ∃ (I19 : Nat → Nat → Int32) (J20 : Nat → Nat → Int64) (tg21 : Option Nat), Runs (GW L xs) d 42 (0, [.ref 18, .ref 40], [], (zS I16 J17 tg18)) (none, (zS I19 J20 tg21)) ∧ ∃ (I22 : Nat → Nat → Int32) (J23 : Nat → Nat → Int64) (tg24 : Option Nat), Runs (GW L xs) d 60 (0, [.ref 70], [], (zS I19 J20 tg21)) (none, (zS I22 J23 tg24)) ∧ r = (some (.int (I22 7 4)), (zS I22 J23 tg24)))) : Runs (GW L xs) (d + 1) 160 (0, [.ref 0], [], (zS I J tg)) r := by
  refine Runs.sN 4 (c' := (8, [.ref 0], [.ref 23, .ref 1], (zS I J tg))) rfl ?_
  obtain ⟨I13, J14, tg15, c25, h⟩ := h
  refine Runs.cl (cm := 49) (as := [.ref 1, .ref 23]) (rest := []) (r1 := (none, (zS I13 J14 tg15))) rfl (Nat.le_of_ble_eq_true rfl) c25 ?_
  refine Runs.as (c' := (11, [.ref 0], [], (zS I13 J14 tg15))) rfl ?_
  refine Runs.sN 4 (c' := (19, [.ref 0], [.ref 29, .ref 7], (zS I13 J14 tg15))) rfl ?_
  obtain ⟨I16, J17, tg18, c26, h⟩ := h
  refine Runs.cl (cm := 114) (as := [.ref 7, .ref 29]) (rest := []) (r1 := (none, (zS I16 J17 tg18))) rfl (Nat.le_of_ble_eq_true rfl) c26 ?_
  refine Runs.as (c' := (22, [.ref 0], [], (zS I16 J17 tg18))) rfl ?_
  refine Runs.sN 4 (c' := (30, [.ref 0], [.ref 40, .ref 18], (zS I16 J17 tg18))) rfl ?_
  obtain ⟨I19, J20, tg21, c27, h⟩ := h
  refine Runs.cl (cm := 42) (as := [.ref 18, .ref 40]) (rest := []) (r1 := (none, (zS I19 J20 tg21))) rfl (Nat.le_of_ble_eq_true rfl) c27 ?_
  refine Runs.as (c' := (33, [.ref 0], [], (zS I19 J20 tg21))) rfl ?_
  refine Runs.sN 2 (c' := (37, [.ref 0], [.ref 70], (zS I19 J20 tg21))) rfl ?_
  obtain ⟨I22, J23, tg24, c28, h⟩ := h
  refine Runs.cl (cm := 60) (as := [.ref 70]) (rest := []) (r1 := (none, (zS I22 J23 tg24))) rfl (Nat.le_of_ble_eq_true rfl) c28 ?_
  refine Runs.as (c' := (40, [.ref 0], [], (zS I22 J23 tg24))) rfl ?_
  refine Runs.sN 3 (c' := (47, [.ref 0], [.int (I22 7 4)], (zS I22 J23 tg24))) rfl ?_
  subst h
  exact Runs.rt rfl
-- X11_partsAbout 
theorem sg_162 {L d : Nat} {xs : Nat → Int32} (I : Nat → Nat → Int32) (J : Nat → Nat → Int64) (tg : Option Nat) (a1 : Int32) {r : Option Value × SS} (h : (∃ (v9 : Int32) (I10 : Nat → Nat → Int32) (J11 : Nat → Nat → Int64) (tg12 : Option Nat), Runs (GW L xs) d 164 (0, [.int a1, .int 20, .int 43], [], (zS I J tg)) ((some (.int v9)), (zS I10 J11 tg12)) ∧ (if v9 = 0 then (r = (some (.int (-1)), (zS I10 J11 tg12))) else (∃ (v13 : Int32) (I14 : Nat → Nat → Int32) (J15 : Nat → Nat → Int64) (tg16 : Option Nat), Runs (GW L xs) d 46 (0, [.ref 1, .int (a1 - 20)], [], (zS I10 J11 tg12)) ((some (.int v13)), (zS I14 J15 tg16)) ∧ (if v13 = 0 then (r = (some (.int (-1)), (zS I14 J15 tg16))) else (¬ ((a1 - 20) < 0 ∨ 24 ≤ (a1 - 20).toNatClampNeg) ∧ r = (some (.int (I14 3 ((a1 - 20).toNatClampNeg))), (zS I14 J15 tg16)))))))) : Runs (GW L xs) (d + 1) 162 (0, [.ref 0, .int a1, vU], [], (zS I J tg)) r := by
  refine Runs.sN 3 (c' := (5, [.ref 0, .int a1, vU], [.int 43, .int 20, .int a1], (zS I J tg))) rfl ?_
  obtain ⟨v9, I10, J11, tg12, c17, h⟩ := h
  refine Runs.cl (cm := 164) (as := [.int a1, .int 20, .int 43]) (rest := []) (r1 := ((some (.int v9)), (zS I10 J11 tg12))) rfl (Nat.le_of_ble_eq_true rfl) c17 ?_
  refine Runs.as (c' := (8, [.ref 0, .int a1, vU], [.int v9], (zS I10 J11 tg12))) rfl ?_
  by_cases c18 : v9 = 0
  · rw [if_pos c18] at h
    refine Runs.brT (P := v9 = 0) (a := 11) (b := 13) (L := [.ref 0, .int a1, vU]) (S := []) (z := (zS I10 J11 tg12)) rfl c18 ?_
    refine Runs.sN 1 (c' := (12, [.ref 0, .int a1, vU], [.int (-1)], (zS I10 J11 tg12))) rfl ?_
    subst h
    exact Runs.rt rfl
  · rw [if_neg c18] at h
    refine Runs.brF (P := v9 = 0) (a := 11) (b := 13) (L := [.ref 0, .int a1, vU]) (S := []) (z := (zS I10 J11 tg12)) rfl c18 ?_
    refine Runs.sN 7 (c' := (23, [.ref 0, .int a1, .int (a1 - 20)], [.int (a1 - 20), .ref 1], (zS I10 J11 tg12))) rfl ?_
    obtain ⟨v13, I14, J15, tg16, c19, h⟩ := h
    refine Runs.cl (cm := 46) (as := [.ref 1, .int (a1 - 20)]) (rest := []) (r1 := ((some (.int v13)), (zS I14 J15 tg16))) rfl (Nat.le_of_ble_eq_true rfl) c19 ?_
    refine Runs.as (c' := (26, [.ref 0, .int a1, .int (a1 - 20)], [.int v13], (zS I14 J15 tg16))) rfl ?_
    by_cases c20 : v13 = 0
    · rw [if_pos c20] at h
      refine Runs.brT (P := v13 = 0) (a := 41) (b := 29) (L := [.ref 0, .int a1, .int (a1 - 20)]) (S := []) (z := (zS I14 J15 tg16)) rfl c20 ?_
      refine Runs.sN 1 (c' := (42, [.ref 0, .int a1, .int (a1 - 20)], [.int (-1)], (zS I14 J15 tg16))) rfl ?_
      subst h
      exact Runs.rt rfl
    · rw [if_neg c20] at h
      refine Runs.brF (P := v13 = 0) (a := 41) (b := 29) (L := [.ref 0, .int a1, .int (a1 - 20)]) (S := []) (z := (zS I14 J15 tg16)) rfl c20 ?_
      refine Runs.sN 4 (c' := (37, [.ref 0, .int a1, .int (a1 - 20)], [.int (a1 - 20), .ref 3], (zS I14 J15 tg16))) rfl ?_
      obtain ⟨c21, h⟩ := h
      refine Runs.to (c' := (38, [.ref 0, .int a1, .int (a1 - 20)], [.int (I14 3 ((a1 - 20).toNatClampNeg))], (zS I14 J15 tg16))) (Runs.ild rfl (show (3 : Nat) < 114 by decide) rfl c21) ?_
      refine Runs.sN 1 (c' := (42, [.ref 0, .int a1, .int (a1 - 20)], [.int (I14 3 ((a1 - 20).toNatClampNeg))], (zS I14 J15 tg16))) rfl ?_
      subst h
      exact Runs.rt rfl
-- X11_isReading 
theorem sg_163 {L d : Nat} {xs : Nat → Int32} (I : Nat → Nat → Int32) (J : Nat → Nat → Int64) (tg : Option Nat) (a1 : Int32) (a2 : Int32) (a3 : Int32) {r : Option Value × SS} (h : (∃ (v13 : Int32) (I14 : Nat → Nat → Int32) (J15 : Nat → Nat → Int64) (tg16 : Option Nat), Runs (GW L xs) d 44 (0, [.ref 1, .int a1], [], (zS I J tg)) ((some (.int v13)), (zS I14 J15 tg16)) ∧ (if v13 = 0 then (r = (some (.int 0), (zS I14 J15 tg16))) else (∃ (v17 : Int32) (I18 : Nat → Nat → Int32) (J19 : Nat → Nat → Int64) (tg20 : Option Nat), Runs (GW L xs) d 165 (0, [.int a2], [], (zS I14 J15 tg16)) ((some (.int v17)), (zS I18 J19 tg20)) ∧ (if v17 = 0 then (r = (some (.int 0), (zS I18 J19 tg20))) else (∃ (v21 : Int32) (I22 : Nat → Nat → Int32) (J23 : Nat → Nat → Int64) (tg24 : Option Nat), Runs (GW L xs) d 166 (0, [.int a3], [], (zS I18 J19 tg20)) ((some (.int v21)), (zS I22 J23 tg24)) ∧ (if v21 = 0 then (r = (some (.int 0), (zS I22 J23 tg24))) else (r = (some (.int 1), (zS I22 J23 tg24)))))))))) : Runs (GW L xs) (d + 1) 163 (0, [.ref 0, .int a1, .int a2, .int a3], [], (zS I J tg)) r := by
  refine Runs.sN 3 (c' := (5, [.ref 0, .int a1, .int a2, .int a3], [.int a1, .ref 1], (zS I J tg))) rfl ?_
  obtain ⟨v13, I14, J15, tg16, c25, h⟩ := h
  refine Runs.cl (cm := 44) (as := [.ref 1, .int a1]) (rest := []) (r1 := ((some (.int v13)), (zS I14 J15 tg16))) rfl (Nat.le_of_ble_eq_true rfl) c25 ?_
  refine Runs.as (c' := (8, [.ref 0, .int a1, .int a2, .int a3], [.int v13], (zS I14 J15 tg16))) rfl ?_
  by_cases c26 : v13 = 0
  · rw [if_pos c26] at h
    refine Runs.brT (P := v13 = 0) (a := 29) (b := 11) (L := [.ref 0, .int a1, .int a2, .int a3]) (S := []) (z := (zS I14 J15 tg16)) rfl c26 ?_
    refine Runs.sN 1 (c' := (30, [.ref 0, .int a1, .int a2, .int a3], [.int 0], (zS I14 J15 tg16))) rfl ?_
    subst h
    exact Runs.rt rfl
  · rw [if_neg c26] at h
    refine Runs.brF (P := v13 = 0) (a := 29) (b := 11) (L := [.ref 0, .int a1, .int a2, .int a3]) (S := []) (z := (zS I14 J15 tg16)) rfl c26 ?_
    refine Runs.sN 1 (c' := (12, [.ref 0, .int a1, .int a2, .int a3], [.int a2], (zS I14 J15 tg16))) rfl ?_
    obtain ⟨v17, I18, J19, tg20, c27, h⟩ := h
    refine Runs.cl (cm := 165) (as := [.int a2]) (rest := []) (r1 := ((some (.int v17)), (zS I18 J19 tg20))) rfl (Nat.le_of_ble_eq_true rfl) c27 ?_
    refine Runs.as (c' := (15, [.ref 0, .int a1, .int a2, .int a3], [.int v17], (zS I18 J19 tg20))) rfl ?_
    by_cases c28 : v17 = 0
    · rw [if_pos c28] at h
      refine Runs.brT (P := v17 = 0) (a := 29) (b := 18) (L := [.ref 0, .int a1, .int a2, .int a3]) (S := []) (z := (zS I18 J19 tg20)) rfl c28 ?_
      refine Runs.sN 1 (c' := (30, [.ref 0, .int a1, .int a2, .int a3], [.int 0], (zS I18 J19 tg20))) rfl ?_
      subst h
      exact Runs.rt rfl
    · rw [if_neg c28] at h
      refine Runs.brF (P := v17 = 0) (a := 29) (b := 18) (L := [.ref 0, .int a1, .int a2, .int a3]) (S := []) (z := (zS I18 J19 tg20)) rfl c28 ?_
      refine Runs.sN 1 (c' := (19, [.ref 0, .int a1, .int a2, .int a3], [.int a3], (zS I18 J19 tg20))) rfl ?_
      obtain ⟨v21, I22, J23, tg24, c29, h⟩ := h
      refine Runs.cl (cm := 166) (as := [.int a3]) (rest := []) (r1 := ((some (.int v21)), (zS I22 J23 tg24))) rfl (Nat.le_of_ble_eq_true rfl) c29 ?_
      refine Runs.as (c' := (22, [.ref 0, .int a1, .int a2, .int a3], [.int v21], (zS I22 J23 tg24))) rfl ?_
      by_cases c30 : v21 = 0
      · rw [if_pos c30] at h
        refine Runs.brT (P := v21 = 0) (a := 29) (b := 25) (L := [.ref 0, .int a1, .int a2, .int a3]) (S := []) (z := (zS I22 J23 tg24)) rfl c30 ?_
        refine Runs.sN 1 (c' := (30, [.ref 0, .int a1, .int a2, .int a3], [.int 0], (zS I22 J23 tg24))) rfl ?_
        subst h
        exact Runs.rt rfl
      · rw [if_neg c30] at h
        refine Runs.brF (P := v21 = 0) (a := 29) (b := 25) (L := [.ref 0, .int a1, .int a2, .int a3]) (S := []) (z := (zS I22 J23 tg24)) rfl c30 ?_
        refine Runs.sN 2 (c' := (30, [.ref 0, .int a1, .int a2, .int a3], [.int 1], (zS I22 J23 tg24))) rfl ?_
        subst h
        exact Runs.rt rfl
-- X11_within 
theorem sg_164 {L d : Nat} {xs : Nat → Int32} (I : Nat → Nat → Int32) (J : Nat → Nat → Int64) (tg : Option Nat) (a1 : Int32) (a2 : Int32) (a3 : Int32) {r : Option Value × SS} (h : ((if a1 < a2 then (r = (some (.int 0), (zS I J tg))) else ((if a3 < a1 then (r = (some (.int 0), (zS I J tg))) else (r = (some (.int 1), (zS I J tg)))))))) : Runs (GW L xs) d 164 (0, [.int a1, .int a2, .int a3], [], (zS I J tg)) r := by
  refine Runs.sN 2 (c' := (2, [.int a1, .int a2, .int a3], [.int a2, .int a1], (zS I J tg))) rfl ?_
  by_cases c1 : a1 < a2
  · rw [if_pos c1] at h
    refine Runs.brT (P := a1 < a2) (a := 14) (b := 5) (L := [.int a1, .int a2, .int a3]) (S := []) (z := (zS I J tg)) rfl c1 ?_
    refine Runs.sN 1 (c' := (15, [.int a1, .int a2, .int a3], [.int 0], (zS I J tg))) rfl ?_
    subst h
    exact Runs.rt rfl
  · rw [if_neg c1] at h
    refine Runs.brF (P := a1 < a2) (a := 14) (b := 5) (L := [.int a1, .int a2, .int a3]) (S := []) (z := (zS I J tg)) rfl c1 ?_
    refine Runs.sN 2 (c' := (7, [.int a1, .int a2, .int a3], [.int a3, .int a1], (zS I J tg))) rfl ?_
    by_cases c2 : a3 < a1
    · rw [if_pos c2] at h
      refine Runs.brT (P := a3 < a1) (a := 14) (b := 10) (L := [.int a1, .int a2, .int a3]) (S := []) (z := (zS I J tg)) rfl c2 ?_
      refine Runs.sN 1 (c' := (15, [.int a1, .int a2, .int a3], [.int 0], (zS I J tg))) rfl ?_
      subst h
      exact Runs.rt rfl
    · rw [if_neg c2] at h
      refine Runs.brF (P := a3 < a1) (a := 14) (b := 10) (L := [.int a1, .int a2, .int a3]) (S := []) (z := (zS I J tg)) rfl c2 ?_
      refine Runs.sN 2 (c' := (15, [.int a1, .int a2, .int a3], [.int 1], (zS I J tg))) rfl ?_
      subst h
      exact Runs.rt rfl
-- X11_isLand 
theorem sg_165 {L d : Nat} {xs : Nat → Int32} (I : Nat → Nat → Int32) (J : Nat → Nat → Int64) (tg : Option Nat) (a1 : Int32) {r : Option Value × SS} (h : (∃ (v5 : Int32) (I6 : Nat → Nat → Int32) (J7 : Nat → Nat → Int64) (tg8 : Option Nat), Runs (GW L xs) d 164 (0, [.int a1, .int 0, .int 5], [], (zS I J tg)) ((some (.int v5)), (zS I6 J7 tg8)) ∧ (v5 = 0 ∨ v5 = 1) ∧ r = (some (.int v5), (zS I6 J7 tg8)))) : Runs (GW L xs) (d + 1) 165 (0, [.int a1], [], (zS I J tg)) r := by
  refine Runs.sN 3 (c' := (3, [.int a1], [.int 5, .int 0, .int a1], (zS I J tg))) rfl ?_
  obtain ⟨v5, I6, J7, tg8, c9, h⟩ := h
  refine Runs.cl (cm := 164) (as := [.int a1, .int 0, .int 5]) (rest := []) (r1 := ((some (.int v5)), (zS I6 J7 tg8))) rfl (Nat.le_of_ble_eq_true rfl) c9 ?_
  refine Runs.as (c' := (6, [.int a1], [.int v5], (zS I6 J7 tg8))) rfl ?_
  obtain ⟨h0, h⟩ := h
  subst h
  exact Runs.zrt rfl rfl h0
-- X11_isSite 
theorem sg_166 {L d : Nat} {xs : Nat → Int32} (I : Nat → Nat → Int32) (J : Nat → Nat → Int64) (tg : Option Nat) (a1 : Int32) {r : Option Value × SS} (h : (∃ (v5 : Int32) (I6 : Nat → Nat → Int32) (J7 : Nat → Nat → Int64) (tg8 : Option Nat), Runs (GW L xs) d 164 (0, [.int a1, .int 0, .int 5], [], (zS I J tg)) ((some (.int v5)), (zS I6 J7 tg8)) ∧ (v5 = 0 ∨ v5 = 1) ∧ r = (some (.int v5), (zS I6 J7 tg8)))) : Runs (GW L xs) (d + 1) 166 (0, [.int a1], [], (zS I J tg)) r := by
  refine Runs.sN 3 (c' := (3, [.int a1], [.int 5, .int 0, .int a1], (zS I J tg))) rfl ?_
  obtain ⟨v5, I6, J7, tg8, c9, h⟩ := h
  refine Runs.cl (cm := 164) (as := [.int a1, .int 0, .int 5]) (rest := []) (r1 := ((some (.int v5)), (zS I6 J7 tg8))) rfl (Nat.le_of_ble_eq_true rfl) c9 ?_
  refine Runs.as (c' := (6, [.int a1], [.int v5], (zS I6 J7 tg8))) rfl ?_
  obtain ⟨h0, h⟩ := h
  subst h
  exact Runs.zrt rfl rfl h0
-- X11_isPart 
theorem sg_167 {L d : Nat} {xs : Nat → Int32} (I : Nat → Nat → Int32) (J : Nat → Nat → Int64) (tg : Option Nat) (a1 : Int32) (a2 : Int32) (a3 : Int32) {r : Option Value × SS} (h : (∃ (v13 : Int32) (I14 : Nat → Nat → Int32) (J15 : Nat → Nat → Int64) (tg16 : Option Nat), Runs (GW L xs) d 164 (0, [.int a1, .int 0, .int 4], [], (zS I J tg)) ((some (.int v13)), (zS I14 J15 tg16)) ∧ (if v13 = 0 then (r = (some (.int 0), (zS I14 J15 tg16))) else (∃ (v17 : Int32) (I18 : Nat → Nat → Int32) (J19 : Nat → Nat → Int64) (tg20 : Option Nat), Runs (GW L xs) d 164 (0, [.int a2, .int 0, .int 8], [], (zS I14 J15 tg16)) ((some (.int v17)), (zS I18 J19 tg20)) ∧ (if v17 = 0 then (r = (some (.int 0), (zS I18 J19 tg20))) else (∃ (v21 : Int32) (I22 : Nat → Nat → Int32) (J23 : Nat → Nat → Int64) (tg24 : Option Nat), Runs (GW L xs) d 164 (0, [.int a3, .int 0, .int 3], [], (zS I18 J19 tg20)) ((some (.int v21)), (zS I22 J23 tg24)) ∧ (if v21 = 0 then (r = (some (.int 0), (zS I22 J23 tg24))) else (r = (some (.int 1), (zS I22 J23 tg24)))))))))) : Runs (GW L xs) (d + 1) 167 (0, [.int a1, .int a2, .int a3], [], (zS I J tg)) r := by
  refine Runs.sN 3 (c' := (3, [.int a1, .int a2, .int a3], [.int 4, .int 0, .int a1], (zS I J tg))) rfl ?_
  obtain ⟨v13, I14, J15, tg16, c25, h⟩ := h
  refine Runs.cl (cm := 164) (as := [.int a1, .int 0, .int 4]) (rest := []) (r1 := ((some (.int v13)), (zS I14 J15 tg16))) rfl (Nat.le_of_ble_eq_true rfl) c25 ?_
  refine Runs.as (c' := (6, [.int a1, .int a2, .int a3], [.int v13], (zS I14 J15 tg16))) rfl ?_
  by_cases c26 : v13 = 0
  · rw [if_pos c26] at h
    refine Runs.brT (P := v13 = 0) (a := 32) (b := 9) (L := [.int a1, .int a2, .int a3]) (S := []) (z := (zS I14 J15 tg16)) rfl c26 ?_
    refine Runs.sN 1 (c' := (33, [.int a1, .int a2, .int a3], [.int 0], (zS I14 J15 tg16))) rfl ?_
    subst h
    exact Runs.rt rfl
  · rw [if_neg c26] at h
    refine Runs.brF (P := v13 = 0) (a := 32) (b := 9) (L := [.int a1, .int a2, .int a3]) (S := []) (z := (zS I14 J15 tg16)) rfl c26 ?_
    refine Runs.sN 3 (c' := (13, [.int a1, .int a2, .int a3], [.int 8, .int 0, .int a2], (zS I14 J15 tg16))) rfl ?_
    obtain ⟨v17, I18, J19, tg20, c27, h⟩ := h
    refine Runs.cl (cm := 164) (as := [.int a2, .int 0, .int 8]) (rest := []) (r1 := ((some (.int v17)), (zS I18 J19 tg20))) rfl (Nat.le_of_ble_eq_true rfl) c27 ?_
    refine Runs.as (c' := (16, [.int a1, .int a2, .int a3], [.int v17], (zS I18 J19 tg20))) rfl ?_
    by_cases c28 : v17 = 0
    · rw [if_pos c28] at h
      refine Runs.brT (P := v17 = 0) (a := 32) (b := 19) (L := [.int a1, .int a2, .int a3]) (S := []) (z := (zS I18 J19 tg20)) rfl c28 ?_
      refine Runs.sN 1 (c' := (33, [.int a1, .int a2, .int a3], [.int 0], (zS I18 J19 tg20))) rfl ?_
      subst h
      exact Runs.rt rfl
    · rw [if_neg c28] at h
      refine Runs.brF (P := v17 = 0) (a := 32) (b := 19) (L := [.int a1, .int a2, .int a3]) (S := []) (z := (zS I18 J19 tg20)) rfl c28 ?_
      refine Runs.sN 3 (c' := (22, [.int a1, .int a2, .int a3], [.int 3, .int 0, .int a3], (zS I18 J19 tg20))) rfl ?_
      obtain ⟨v21, I22, J23, tg24, c29, h⟩ := h
      refine Runs.cl (cm := 164) (as := [.int a3, .int 0, .int 3]) (rest := []) (r1 := ((some (.int v21)), (zS I22 J23 tg24))) rfl (Nat.le_of_ble_eq_true rfl) c29 ?_
      refine Runs.as (c' := (25, [.int a1, .int a2, .int a3], [.int v21], (zS I22 J23 tg24))) rfl ?_
      by_cases c30 : v21 = 0
      · rw [if_pos c30] at h
        refine Runs.brT (P := v21 = 0) (a := 32) (b := 28) (L := [.int a1, .int a2, .int a3]) (S := []) (z := (zS I22 J23 tg24)) rfl c30 ?_
        refine Runs.sN 1 (c' := (33, [.int a1, .int a2, .int a3], [.int 0], (zS I22 J23 tg24))) rfl ?_
        subst h
        exact Runs.rt rfl
      · rw [if_neg c30] at h
        refine Runs.brF (P := v21 = 0) (a := 32) (b := 28) (L := [.int a1, .int a2, .int a3]) (S := []) (z := (zS I22 J23 tg24)) rfl c30 ?_
        refine Runs.sN 2 (c' := (33, [.int a1, .int a2, .int a3], [.int 1], (zS I22 J23 tg24))) rfl ?_
        subst h
        exact Runs.rt rfl
-- X11_lookOf 
theorem sg_168 {L d : Nat} {xs : Nat → Int32} (I : Nat → Nat → Int32) (J : Nat → Nat → Int64) (tg : Option Nat) (a1 : Int32) {r : Option Value × SS} (h : ((if a1 = (-1) then (r = (some (.int (-1)), (zS I J tg))) else (r = (some (.int (12 + a1)), (zS I J tg)))))) : Runs (GW L xs) d 168 (0, [.int a1], [], (zS I J tg)) r := by
  refine Runs.sN 2 (c' := (2, [.int a1], [.int (-1), .int a1], (zS I J tg))) rfl ?_
  by_cases c1 : a1 = (-1)
  · rw [if_pos c1] at h
    refine Runs.brT (P := a1 = (-1)) (a := 5) (b := 9) (L := [.int a1]) (S := []) (z := (zS I J tg)) rfl c1 ?_
    refine Runs.sN 2 (c' := (13, [.int a1], [.int (-1)], (zS I J tg))) rfl ?_
    subst h
    exact Runs.rt rfl
  · rw [if_neg c1] at h
    refine Runs.brF (P := a1 = (-1)) (a := 5) (b := 9) (L := [.int a1]) (S := []) (z := (zS I J tg)) rfl c1 ?_
    refine Runs.sN 3 (c' := (13, [.int a1], [.int (12 + a1)], (zS I J tg))) rfl ?_
    subst h
    exact Runs.rt rfl
-- X11_codeOf 
theorem sg_169 {L d : Nat} {xs : Nat → Int32} (I : Nat → Nat → Int32) (J : Nat → Nat → Int64) (tg : Option Nat) (a1 : Int32) (a2 : Int32) (a3 : Int32) {r : Option Value × SS} (h : (r = (some (.int ((((a1 * 9) + a2) * 4) + a3)), (zS I J tg)))) : Runs (GW L xs) d 169 (0, [.int a1, .int a2, .int a3], [], (zS I J tg)) r := by
  refine Runs.sN 9 (c' := (10, [.int a1, .int a2, .int a3], [.int ((((a1 * 9) + a2) * 4) + a3)], (zS I J tg))) rfl ?_
  subst h
  exact Runs.rt rfl
-- X11_kindOf 
theorem sg_170 {L d : Nat} {xs : Nat → Int32} (I : Nat → Nat → Int32) (J : Nat → Nat → Int64) (tg : Option Nat) (a1 : Int32) {r : Option Value × SS} (h : (r = (some (.int (a1 / 36)), (zS I J tg)))) : Runs (GW L xs) d 170 (0, [.int a1], [], (zS I J tg)) r := by
  refine Runs.sN 3 (c' := (4, [.int a1], [.int (a1 / 36)], (zS I J tg))) rfl ?_
  subst h
  exact Runs.rt rfl
-- X11_placeOf 
theorem sg_171 {L d : Nat} {xs : Nat → Int32} (I : Nat → Nat → Int32) (J : Nat → Nat → Int64) (tg : Option Nat) (a1 : Int32) {r : Option Value × SS} (h : (r = (some (.int ((a1 / 4) - (a1 / 4) / 9 * 9)), (zS I J tg)))) : Runs (GW L xs) d 171 (0, [.int a1], [], (zS I J tg)) r := by
  refine Runs.sN 5 (c' := (6, [.int a1], [.int ((a1 / 4) - (a1 / 4) / 9 * 9)], (zS I J tg))) rfl ?_
  subst h
  exact Runs.rt rfl
-- X11_wayOf 
theorem sg_172 {L d : Nat} {xs : Nat → Int32} (I : Nat → Nat → Int32) (J : Nat → Nat → Int64) (tg : Option Nat) (a1 : Int32) {r : Option Value × SS} (h : (r = (some (.int (a1 - a1 / 4 * 4)), (zS I J tg)))) : Runs (GW L xs) d 172 (0, [.int a1], [], (zS I J tg)) r := by
  refine Runs.sN 3 (c' := (3, [.int a1], [.int (a1 - a1 / 4 * 4)], (zS I J tg))) rfl ?_
  subst h
  exact Runs.rt rfl
-- X11_holds c2
theorem sg_173c2 {L d : Nat} {xs : Nat → Int32} (I : Nat → Nat → Int32) (J : Nat → Nat → Int64) (tg : Option Nat) (a1 : Int32) (a2 : Int32) (a3 : Int32) {r : Option Value × SS} (h : (Runs (GW L xs) d 173 (3, [.ref 2, .int a1, .int a2, .int a3, .int 0], [], (zS I J tg)) r)) : Runs (GW L xs) d 173 (0, [.ref 2, .int a1, .int a2, .int a3, vU], [], (zS I J tg)) r := by
  refine Runs.sN 2 (c' := (3, [.ref 2, .int a1, .int a2, .int a3, .int 0], [], (zS I J tg))) rfl ?_
  exact h
theorem sg_173c2_3 {L d : Nat} {xs : Nat → Int32} (I : Nat → Nat → Int32) (J : Nat → Nat → Int64) (tg : Option Nat) (x1 : Int32) (x2 : Int32) (x3 : Int32) (x4 : Int32) {r : Option Value × SS} (h : ((if x2 ≤ x4 then (r = (some (.int 0), (zS I J tg))) else (¬ ((x1 + x4) < 0 ∨ 144 ≤ (x1 + x4).toNatClampNeg) ∧ (if (I 2 ((x1 + x4).toNatClampNeg)) = x3 then (r = (some (.int 1), (zS I J tg))) else (Runs (GW L xs) d 173 (3, [.ref 2, .int x1, .int x2, .int x3, .int (x4 + 1)], [], (zS I J tg)) r)))))) : Runs (GW L xs) d 173 (3, [.ref 2, .int x1, .int x2, .int x3, .int x4], [], (zS I J tg)) r := by
  refine Runs.sN 2 (c' := (6, [.ref 2, .int x1, .int x2, .int x3, .int x4], [.int x2, .int x4], (zS I J tg))) rfl ?_
  by_cases c1 : x2 ≤ x4
  · rw [if_pos c1] at h
    refine Runs.brT (P := x2 ≤ x4) (a := 27) (b := 9) (L := [.ref 2, .int x1, .int x2, .int x3, .int x4]) (S := []) (z := (zS I J tg)) rfl c1 ?_
    refine Runs.sN 1 (c' := (28, [.ref 2, .int x1, .int x2, .int x3, .int x4], [.int 0], (zS I J tg))) rfl ?_
    subst h
    exact Runs.rt rfl
  · rw [if_neg c1] at h
    refine Runs.brF (P := x2 ≤ x4) (a := 27) (b := 9) (L := [.ref 2, .int x1, .int x2, .int x3, .int x4]) (S := []) (z := (zS I J tg)) rfl c1 ?_
    refine Runs.sN 4 (c' := (14, [.ref 2, .int x1, .int x2, .int x3, .int x4], [.int (x1 + x4), .ref 2], (zS I J tg))) rfl ?_
    obtain ⟨c2, h⟩ := h
    refine Runs.to (c' := (15, [.ref 2, .int x1, .int x2, .int x3, .int x4], [.int (I 2 ((x1 + x4).toNatClampNeg))], (zS I J tg))) (Runs.ild rfl (show (2 : Nat) < 114 by decide) rfl c2) ?_
    refine Runs.sN 1 (c' := (16, [.ref 2, .int x1, .int x2, .int x3, .int x4], [.int x3, .int (I 2 ((x1 + x4).toNatClampNeg))], (zS I J tg))) rfl ?_
    by_cases c3 : (I 2 ((x1 + x4).toNatClampNeg)) = x3
    · rw [if_pos c3] at h
      refine Runs.brT (P := (I 2 ((x1 + x4).toNatClampNeg)) = x3) (a := 19) (b := 21) (L := [.ref 2, .int x1, .int x2, .int x3, .int x4]) (S := []) (z := (zS I J tg)) rfl c3 ?_
      refine Runs.sN 1 (c' := (20, [.ref 2, .int x1, .int x2, .int x3, .int x4], [.int 1], (zS I J tg))) rfl ?_
      subst h
      exact Runs.rt rfl
    · rw [if_neg c3] at h
      refine Runs.brF (P := (I 2 ((x1 + x4).toNatClampNeg)) = x3) (a := 19) (b := 21) (L := [.ref 2, .int x1, .int x2, .int x3, .int x4]) (S := []) (z := (zS I J tg)) rfl c3 ?_
      refine Runs.sN 2 (c' := (3, [.ref 2, .int x1, .int x2, .int x3, .int (x4 + 1)], [], (zS I J tg))) rfl ?_
      exact h
-- X11_holds c19
theorem sg_173c19 {L d : Nat} {xs : Nat → Int32} (I : Nat → Nat → Int32) (J : Nat → Nat → Int64) (tg : Option Nat) (a1 : Int32) (a2 : Int32) (a3 : Int32) {r : Option Value × SS} (h : (Runs (GW L xs) d 173 (3, [.ref 19, .int a1, .int a2, .int a3, .int 0], [], (zS I J tg)) r)) : Runs (GW L xs) d 173 (0, [.ref 19, .int a1, .int a2, .int a3, vU], [], (zS I J tg)) r := by
  refine Runs.sN 2 (c' := (3, [.ref 19, .int a1, .int a2, .int a3, .int 0], [], (zS I J tg))) rfl ?_
  exact h
theorem sg_173c19_3 {L d : Nat} {xs : Nat → Int32} (I : Nat → Nat → Int32) (J : Nat → Nat → Int64) (tg : Option Nat) (x1 : Int32) (x2 : Int32) (x3 : Int32) (x4 : Int32) {r : Option Value × SS} (h : ((if x2 ≤ x4 then (r = (some (.int 0), (zS I J tg))) else (¬ ((x1 + x4) < 0 ∨ 10 ≤ (x1 + x4).toNatClampNeg) ∧ (if (I 19 ((x1 + x4).toNatClampNeg)) = x3 then (r = (some (.int 1), (zS I J tg))) else (Runs (GW L xs) d 173 (3, [.ref 19, .int x1, .int x2, .int x3, .int (x4 + 1)], [], (zS I J tg)) r)))))) : Runs (GW L xs) d 173 (3, [.ref 19, .int x1, .int x2, .int x3, .int x4], [], (zS I J tg)) r := by
  refine Runs.sN 2 (c' := (6, [.ref 19, .int x1, .int x2, .int x3, .int x4], [.int x2, .int x4], (zS I J tg))) rfl ?_
  by_cases c1 : x2 ≤ x4
  · rw [if_pos c1] at h
    refine Runs.brT (P := x2 ≤ x4) (a := 27) (b := 9) (L := [.ref 19, .int x1, .int x2, .int x3, .int x4]) (S := []) (z := (zS I J tg)) rfl c1 ?_
    refine Runs.sN 1 (c' := (28, [.ref 19, .int x1, .int x2, .int x3, .int x4], [.int 0], (zS I J tg))) rfl ?_
    subst h
    exact Runs.rt rfl
  · rw [if_neg c1] at h
    refine Runs.brF (P := x2 ≤ x4) (a := 27) (b := 9) (L := [.ref 19, .int x1, .int x2, .int x3, .int x4]) (S := []) (z := (zS I J tg)) rfl c1 ?_
    refine Runs.sN 4 (c' := (14, [.ref 19, .int x1, .int x2, .int x3, .int x4], [.int (x1 + x4), .ref 19], (zS I J tg))) rfl ?_
    obtain ⟨c2, h⟩ := h
    refine Runs.to (c' := (15, [.ref 19, .int x1, .int x2, .int x3, .int x4], [.int (I 19 ((x1 + x4).toNatClampNeg))], (zS I J tg))) (Runs.ild rfl (show (19 : Nat) < 114 by decide) rfl c2) ?_
    refine Runs.sN 1 (c' := (16, [.ref 19, .int x1, .int x2, .int x3, .int x4], [.int x3, .int (I 19 ((x1 + x4).toNatClampNeg))], (zS I J tg))) rfl ?_
    by_cases c3 : (I 19 ((x1 + x4).toNatClampNeg)) = x3
    · rw [if_pos c3] at h
      refine Runs.brT (P := (I 19 ((x1 + x4).toNatClampNeg)) = x3) (a := 19) (b := 21) (L := [.ref 19, .int x1, .int x2, .int x3, .int x4]) (S := []) (z := (zS I J tg)) rfl c3 ?_
      refine Runs.sN 1 (c' := (20, [.ref 19, .int x1, .int x2, .int x3, .int x4], [.int 1], (zS I J tg))) rfl ?_
      subst h
      exact Runs.rt rfl
    · rw [if_neg c3] at h
      refine Runs.brF (P := (I 19 ((x1 + x4).toNatClampNeg)) = x3) (a := 19) (b := 21) (L := [.ref 19, .int x1, .int x2, .int x3, .int x4]) (S := []) (z := (zS I J tg)) rfl c3 ?_
      refine Runs.sN 2 (c' := (3, [.ref 19, .int x1, .int x2, .int x3, .int (x4 + 1)], [], (zS I J tg))) rfl ?_
      exact h
-- X11_holds c20
theorem sg_173c20 {L d : Nat} {xs : Nat → Int32} (I : Nat → Nat → Int32) (J : Nat → Nat → Int64) (tg : Option Nat) (a1 : Int32) (a2 : Int32) (a3 : Int32) {r : Option Value × SS} (h : (Runs (GW L xs) d 173 (3, [.ref 20, .int a1, .int a2, .int a3, .int 0], [], (zS I J tg)) r)) : Runs (GW L xs) d 173 (0, [.ref 20, .int a1, .int a2, .int a3, vU], [], (zS I J tg)) r := by
  refine Runs.sN 2 (c' := (3, [.ref 20, .int a1, .int a2, .int a3, .int 0], [], (zS I J tg))) rfl ?_
  exact h
theorem sg_173c20_3 {L d : Nat} {xs : Nat → Int32} (I : Nat → Nat → Int32) (J : Nat → Nat → Int64) (tg : Option Nat) (x1 : Int32) (x2 : Int32) (x3 : Int32) (x4 : Int32) {r : Option Value × SS} (h : ((if x2 ≤ x4 then (r = (some (.int 0), (zS I J tg))) else (¬ ((x1 + x4) < 0 ∨ 24 ≤ (x1 + x4).toNatClampNeg) ∧ (if (I 20 ((x1 + x4).toNatClampNeg)) = x3 then (r = (some (.int 1), (zS I J tg))) else (Runs (GW L xs) d 173 (3, [.ref 20, .int x1, .int x2, .int x3, .int (x4 + 1)], [], (zS I J tg)) r)))))) : Runs (GW L xs) d 173 (3, [.ref 20, .int x1, .int x2, .int x3, .int x4], [], (zS I J tg)) r := by
  refine Runs.sN 2 (c' := (6, [.ref 20, .int x1, .int x2, .int x3, .int x4], [.int x2, .int x4], (zS I J tg))) rfl ?_
  by_cases c1 : x2 ≤ x4
  · rw [if_pos c1] at h
    refine Runs.brT (P := x2 ≤ x4) (a := 27) (b := 9) (L := [.ref 20, .int x1, .int x2, .int x3, .int x4]) (S := []) (z := (zS I J tg)) rfl c1 ?_
    refine Runs.sN 1 (c' := (28, [.ref 20, .int x1, .int x2, .int x3, .int x4], [.int 0], (zS I J tg))) rfl ?_
    subst h
    exact Runs.rt rfl
  · rw [if_neg c1] at h
    refine Runs.brF (P := x2 ≤ x4) (a := 27) (b := 9) (L := [.ref 20, .int x1, .int x2, .int x3, .int x4]) (S := []) (z := (zS I J tg)) rfl c1 ?_
    refine Runs.sN 4 (c' := (14, [.ref 20, .int x1, .int x2, .int x3, .int x4], [.int (x1 + x4), .ref 20], (zS I J tg))) rfl ?_
    obtain ⟨c2, h⟩ := h
    refine Runs.to (c' := (15, [.ref 20, .int x1, .int x2, .int x3, .int x4], [.int (I 20 ((x1 + x4).toNatClampNeg))], (zS I J tg))) (Runs.ild rfl (show (20 : Nat) < 114 by decide) rfl c2) ?_
    refine Runs.sN 1 (c' := (16, [.ref 20, .int x1, .int x2, .int x3, .int x4], [.int x3, .int (I 20 ((x1 + x4).toNatClampNeg))], (zS I J tg))) rfl ?_
    by_cases c3 : (I 20 ((x1 + x4).toNatClampNeg)) = x3
    · rw [if_pos c3] at h
      refine Runs.brT (P := (I 20 ((x1 + x4).toNatClampNeg)) = x3) (a := 19) (b := 21) (L := [.ref 20, .int x1, .int x2, .int x3, .int x4]) (S := []) (z := (zS I J tg)) rfl c3 ?_
      refine Runs.sN 1 (c' := (20, [.ref 20, .int x1, .int x2, .int x3, .int x4], [.int 1], (zS I J tg))) rfl ?_
      subst h
      exact Runs.rt rfl
    · rw [if_neg c3] at h
      refine Runs.brF (P := (I 20 ((x1 + x4).toNatClampNeg)) = x3) (a := 19) (b := 21) (L := [.ref 20, .int x1, .int x2, .int x3, .int x4]) (S := []) (z := (zS I J tg)) rfl c3 ?_
      refine Runs.sN 2 (c' := (3, [.ref 20, .int x1, .int x2, .int x3, .int (x4 + 1)], [], (zS I J tg))) rfl ?_
      exact h
-- X11_holds c80
theorem sg_173c80 {L d : Nat} {xs : Nat → Int32} (I : Nat → Nat → Int32) (J : Nat → Nat → Int64) (tg : Option Nat) (a1 : Int32) (a2 : Int32) (a3 : Int32) {r : Option Value × SS} (h : (Runs (GW L xs) d 173 (3, [.ref 80, .int a1, .int a2, .int a3, .int 0], [], (zS I J tg)) r)) : Runs (GW L xs) d 173 (0, [.ref 80, .int a1, .int a2, .int a3, vU], [], (zS I J tg)) r := by
  refine Runs.sN 2 (c' := (3, [.ref 80, .int a1, .int a2, .int a3, .int 0], [], (zS I J tg))) rfl ?_
  exact h
theorem sg_173c80_3 {L d : Nat} {xs : Nat → Int32} (I : Nat → Nat → Int32) (J : Nat → Nat → Int64) (tg : Option Nat) (x1 : Int32) (x2 : Int32) (x3 : Int32) (x4 : Int32) {r : Option Value × SS} (h : ((if x2 ≤ x4 then (r = (some (.int 0), (zS I J tg))) else (¬ ((x1 + x4) < 0 ∨ 6 ≤ (x1 + x4).toNatClampNeg) ∧ (if (I 80 ((x1 + x4).toNatClampNeg)) = x3 then (r = (some (.int 1), (zS I J tg))) else (Runs (GW L xs) d 173 (3, [.ref 80, .int x1, .int x2, .int x3, .int (x4 + 1)], [], (zS I J tg)) r)))))) : Runs (GW L xs) d 173 (3, [.ref 80, .int x1, .int x2, .int x3, .int x4], [], (zS I J tg)) r := by
  refine Runs.sN 2 (c' := (6, [.ref 80, .int x1, .int x2, .int x3, .int x4], [.int x2, .int x4], (zS I J tg))) rfl ?_
  by_cases c1 : x2 ≤ x4
  · rw [if_pos c1] at h
    refine Runs.brT (P := x2 ≤ x4) (a := 27) (b := 9) (L := [.ref 80, .int x1, .int x2, .int x3, .int x4]) (S := []) (z := (zS I J tg)) rfl c1 ?_
    refine Runs.sN 1 (c' := (28, [.ref 80, .int x1, .int x2, .int x3, .int x4], [.int 0], (zS I J tg))) rfl ?_
    subst h
    exact Runs.rt rfl
  · rw [if_neg c1] at h
    refine Runs.brF (P := x2 ≤ x4) (a := 27) (b := 9) (L := [.ref 80, .int x1, .int x2, .int x3, .int x4]) (S := []) (z := (zS I J tg)) rfl c1 ?_
    refine Runs.sN 4 (c' := (14, [.ref 80, .int x1, .int x2, .int x3, .int x4], [.int (x1 + x4), .ref 80], (zS I J tg))) rfl ?_
    obtain ⟨c2, h⟩ := h
    refine Runs.to (c' := (15, [.ref 80, .int x1, .int x2, .int x3, .int x4], [.int (I 80 ((x1 + x4).toNatClampNeg))], (zS I J tg))) (Runs.ild rfl (show (80 : Nat) < 114 by decide) rfl c2) ?_
    refine Runs.sN 1 (c' := (16, [.ref 80, .int x1, .int x2, .int x3, .int x4], [.int x3, .int (I 80 ((x1 + x4).toNatClampNeg))], (zS I J tg))) rfl ?_
    by_cases c3 : (I 80 ((x1 + x4).toNatClampNeg)) = x3
    · rw [if_pos c3] at h
      refine Runs.brT (P := (I 80 ((x1 + x4).toNatClampNeg)) = x3) (a := 19) (b := 21) (L := [.ref 80, .int x1, .int x2, .int x3, .int x4]) (S := []) (z := (zS I J tg)) rfl c3 ?_
      refine Runs.sN 1 (c' := (20, [.ref 80, .int x1, .int x2, .int x3, .int x4], [.int 1], (zS I J tg))) rfl ?_
      subst h
      exact Runs.rt rfl
    · rw [if_neg c3] at h
      refine Runs.brF (P := (I 80 ((x1 + x4).toNatClampNeg)) = x3) (a := 19) (b := 21) (L := [.ref 80, .int x1, .int x2, .int x3, .int x4]) (S := []) (z := (zS I J tg)) rfl c3 ?_
      refine Runs.sN 2 (c' := (3, [.ref 80, .int x1, .int x2, .int x3, .int (x4 + 1)], [], (zS I J tg))) rfl ?_
      exact h
-- X12_isIn 
theorem sg_177 {L d : Nat} {xs : Nat → Int32} (I : Nat → Nat → Int32) (J : Nat → Nat → Int64) (tg : Option Nat) (a1 : Int32) (a2 : Int32) (a3 : Int32) {r : Option Value × SS} (h : ((if a1 < a2 then (r = (some (.int 0), (zS I J tg))) else ((if a3 < a1 then (r = (some (.int 0), (zS I J tg))) else (r = (some (.int 1), (zS I J tg)))))))) : Runs (GW L xs) d 177 (0, [.int a1, .int a2, .int a3], [], (zS I J tg)) r := by
  refine Runs.sN 2 (c' := (2, [.int a1, .int a2, .int a3], [.int a2, .int a1], (zS I J tg))) rfl ?_
  by_cases c1 : a1 < a2
  · rw [if_pos c1] at h
    refine Runs.brT (P := a1 < a2) (a := 14) (b := 5) (L := [.int a1, .int a2, .int a3]) (S := []) (z := (zS I J tg)) rfl c1 ?_
    refine Runs.sN 1 (c' := (15, [.int a1, .int a2, .int a3], [.int 0], (zS I J tg))) rfl ?_
    subst h
    exact Runs.rt rfl
  · rw [if_neg c1] at h
    refine Runs.brF (P := a1 < a2) (a := 14) (b := 5) (L := [.int a1, .int a2, .int a3]) (S := []) (z := (zS I J tg)) rfl c1 ?_
    refine Runs.sN 2 (c' := (7, [.int a1, .int a2, .int a3], [.int a3, .int a1], (zS I J tg))) rfl ?_
    by_cases c2 : a3 < a1
    · rw [if_pos c2] at h
      refine Runs.brT (P := a3 < a1) (a := 14) (b := 10) (L := [.int a1, .int a2, .int a3]) (S := []) (z := (zS I J tg)) rfl c2 ?_
      refine Runs.sN 1 (c' := (15, [.int a1, .int a2, .int a3], [.int 0], (zS I J tg))) rfl ?_
      subst h
      exact Runs.rt rfl
    · rw [if_neg c2] at h
      refine Runs.brF (P := a3 < a1) (a := 14) (b := 10) (L := [.int a1, .int a2, .int a3]) (S := []) (z := (zS I J tg)) rfl c2 ?_
      refine Runs.sN 2 (c' := (15, [.int a1, .int a2, .int a3], [.int 1], (zS I J tg))) rfl ?_
      subst h
      exact Runs.rt rfl
-- X12_abs 
theorem sg_178 {L d : Nat} {xs : Nat → Int32} (I : Nat → Nat → Int32) (J : Nat → Nat → Int64) (tg : Option Nat) (a1 : Int32) {r : Option Value × SS} (h : ((if 0 ≤ a1 then (r = (some (.int a1), (zS I J tg))) else (r = (some (.int (-a1)), (zS I J tg)))))) : Runs (GW L xs) d 178 (0, [.int a1], [], (zS I J tg)) r := by
  refine Runs.sN 1 (c' := (1, [.int a1], [.int a1], (zS I J tg))) rfl ?_
  by_cases c1 : 0 ≤ a1
  · rw [if_pos c1] at h
    refine Runs.brT (P := 0 ≤ a1) (a := 9) (b := 4) (L := [.int a1]) (S := []) (z := (zS I J tg)) rfl c1 ?_
    refine Runs.sN 1 (c' := (10, [.int a1], [.int a1], (zS I J tg))) rfl ?_
    subst h
    exact Runs.rt rfl
  · rw [if_neg c1] at h
    refine Runs.brF (P := 0 ≤ a1) (a := 9) (b := 4) (L := [.int a1]) (S := []) (z := (zS I J tg)) rfl c1 ?_
    refine Runs.sN 3 (c' := (10, [.int a1], [.int (-a1)], (zS I J tg))) rfl ?_
    subst h
    exact Runs.rt rfl
-- X12_isDrawing 
theorem sg_179 {L d : Nat} {xs : Nat → Int32} (I : Nat → Nat → Int32) (J : Nat → Nat → Int64) (tg : Option Nat) (a1 : Int32) {r : Option Value × SS} (h : (∃ (v5 : Int32) (I6 : Nat → Nat → Int32) (J7 : Nat → Nat → Int64) (tg8 : Option Nat), Runs (GW L xs) d 177 (0, [.int a1, .int 0, .int ((I 94 1) - 1)], [], (zS I J tg)) ((some (.int v5)), (zS I6 J7 tg8)) ∧ (v5 = 0 ∨ v5 = 1) ∧ r = (some (.int v5), (zS I6 J7 tg8)))) : Runs (GW L xs) (d + 1) 179 (0, [.ref 93, .int a1], [], (zS I J tg)) r := by
  refine Runs.sN 8 (c' := (10, [.ref 93, .int a1], [.int ((I 94 1) - 1), .int 0, .int a1], (zS I J tg))) rfl ?_
  obtain ⟨v5, I6, J7, tg8, c9, h⟩ := h
  refine Runs.cl (cm := 177) (as := [.int a1, .int 0, .int ((I 94 1) - 1)]) (rest := []) (r1 := ((some (.int v5)), (zS I6 J7 tg8))) rfl (Nat.le_of_ble_eq_true rfl) c9 ?_
  refine Runs.as (c' := (13, [.ref 93, .int a1], [.int v5], (zS I6 J7 tg8))) rfl ?_
  obtain ⟨h0, h⟩ := h
  subst h
  exact Runs.zrt rfl rfl h0
-- X12_isThing 
theorem sg_180 {L d : Nat} {xs : Nat → Int32} (I : Nat → Nat → Int32) (J : Nat → Nat → Int64) (tg : Option Nat) (a1 : Int32) {r : Option Value × SS} (h : (∃ (v5 : Int32) (I6 : Nat → Nat → Int32) (J7 : Nat → Nat → Int64) (tg8 : Option Nat), Runs (GW L xs) d 177 (0, [.int a1, .int 12, .int (11 + (I 94 2))], [], (zS I J tg)) ((some (.int v5)), (zS I6 J7 tg8)) ∧ (v5 = 0 ∨ v5 = 1) ∧ r = (some (.int v5), (zS I6 J7 tg8)))) : Runs (GW L xs) (d + 1) 180 (0, [.ref 93, .int a1], [], (zS I J tg)) r := by
  refine Runs.sN 8 (c' := (12, [.ref 93, .int a1], [.int (11 + (I 94 2)), .int 12, .int a1], (zS I J tg))) rfl ?_
  obtain ⟨v5, I6, J7, tg8, c9, h⟩ := h
  refine Runs.cl (cm := 177) (as := [.int a1, .int 12, .int (11 + (I 94 2))]) (rest := []) (r1 := ((some (.int v5)), (zS I6 J7 tg8))) rfl (Nat.le_of_ble_eq_true rfl) c9 ?_
  refine Runs.as (c' := (15, [.ref 93, .int a1], [.int v5], (zS I6 J7 tg8))) rfl ?_
  obtain ⟨h0, h⟩ := h
  subst h
  exact Runs.zrt rfl rfl h0
-- X12_isLook 
theorem sg_181 {L d : Nat} {xs : Nat → Int32} (I : Nat → Nat → Int32) (J : Nat → Nat → Int64) (tg : Option Nat) (a1 : Int32) {r : Option Value × SS} (h : (∃ (v9 : Int32) (I10 : Nat → Nat → Int32) (J11 : Nat → Nat → Int64) (tg12 : Option Nat), Runs (GW L xs) d 179 (0, [.ref 93, .int a1], [], (zS I J tg)) ((some (.int v9)), (zS I10 J11 tg12)) ∧ (if v9 = 0 then (∃ (v13 : Int32) (I14 : Nat → Nat → Int32) (J15 : Nat → Nat → Int64) (tg16 : Option Nat), Runs (GW L xs) d 180 (0, [.ref 93, .int a1], [], (zS I10 J11 tg12)) ((some (.int v13)), (zS I14 J15 tg16)) ∧ (if v13 = 0 then (r = (some (.int 0), (zS I14 J15 tg16))) else (r = (some (.int 1), (zS I14 J15 tg16))))) else (r = (some (.int 1), (zS I10 J11 tg12)))))) : Runs (GW L xs) (d + 1) 181 (0, [.ref 93, .int a1], [], (zS I J tg)) r := by
  refine Runs.sN 2 (c' := (2, [.ref 93, .int a1], [.int a1, .ref 93], (zS I J tg))) rfl ?_
  obtain ⟨v9, I10, J11, tg12, c17, h⟩ := h
  refine Runs.cl (cm := 179) (as := [.ref 93, .int a1]) (rest := []) (r1 := ((some (.int v9)), (zS I10 J11 tg12))) rfl (Nat.le_of_ble_eq_true rfl) c17 ?_
  refine Runs.as (c' := (5, [.ref 93, .int a1], [.int v9], (zS I10 J11 tg12))) rfl ?_
  by_cases c18 : v9 = 0
  · rw [if_pos c18] at h
    refine Runs.brT (P := v9 = 0) (a := 8) (b := 16) (L := [.ref 93, .int a1]) (S := []) (z := (zS I10 J11 tg12)) rfl c18 ?_
    refine Runs.sN 2 (c' := (10, [.ref 93, .int a1], [.int a1, .ref 93], (zS I10 J11 tg12))) rfl ?_
    obtain ⟨v13, I14, J15, tg16, c19, h⟩ := h
    refine Runs.cl (cm := 180) (as := [.ref 93, .int a1]) (rest := []) (r1 := ((some (.int v13)), (zS I14 J15 tg16))) rfl (Nat.le_of_ble_eq_true rfl) c19 ?_
    refine Runs.as (c' := (13, [.ref 93, .int a1], [.int v13], (zS I14 J15 tg16))) rfl ?_
    by_cases c20 : v13 = 0
    · rw [if_pos c20] at h
      refine Runs.brT (P := v13 = 0) (a := 20) (b := 16) (L := [.ref 93, .int a1]) (S := []) (z := (zS I14 J15 tg16)) rfl c20 ?_
      refine Runs.sN 1 (c' := (21, [.ref 93, .int a1], [.int 0], (zS I14 J15 tg16))) rfl ?_
      subst h
      exact Runs.rt rfl
    · rw [if_neg c20] at h
      refine Runs.brF (P := v13 = 0) (a := 20) (b := 16) (L := [.ref 93, .int a1]) (S := []) (z := (zS I14 J15 tg16)) rfl c20 ?_
      refine Runs.sN 2 (c' := (21, [.ref 93, .int a1], [.int 1], (zS I14 J15 tg16))) rfl ?_
      subst h
      exact Runs.rt rfl
  · rw [if_neg c18] at h
    refine Runs.brF (P := v9 = 0) (a := 8) (b := 16) (L := [.ref 93, .int a1]) (S := []) (z := (zS I10 J11 tg12)) rfl c18 ?_
    refine Runs.sN 2 (c' := (21, [.ref 93, .int a1], [.int 1], (zS I10 J11 tg12))) rfl ?_
    subst h
    exact Runs.rt rfl
-- X12_isLand 
theorem sg_182 {L d : Nat} {xs : Nat → Int32} (I : Nat → Nat → Int32) (J : Nat → Nat → Int64) (tg : Option Nat) (a1 : Int32) {r : Option Value × SS} (h : (∃ (v5 : Int32) (I6 : Nat → Nat → Int32) (J7 : Nat → Nat → Int64) (tg8 : Option Nat), Runs (GW L xs) d 177 (0, [.int a1, .int 0, .int 5], [], (zS I J tg)) ((some (.int v5)), (zS I6 J7 tg8)) ∧ (v5 = 0 ∨ v5 = 1) ∧ r = (some (.int v5), (zS I6 J7 tg8)))) : Runs (GW L xs) (d + 1) 182 (0, [.int a1], [], (zS I J tg)) r := by
  refine Runs.sN 3 (c' := (3, [.int a1], [.int 5, .int 0, .int a1], (zS I J tg))) rfl ?_
  obtain ⟨v5, I6, J7, tg8, c9, h⟩ := h
  refine Runs.cl (cm := 177) (as := [.int a1, .int 0, .int 5]) (rest := []) (r1 := ((some (.int v5)), (zS I6 J7 tg8))) rfl (Nat.le_of_ble_eq_true rfl) c9 ?_
  refine Runs.as (c' := (6, [.int a1], [.int v5], (zS I6 J7 tg8))) rfl ?_
  obtain ⟨h0, h⟩ := h
  subst h
  exact Runs.zrt rfl rfl h0
-- X12_isPart 
theorem sg_183 {L d : Nat} {xs : Nat → Int32} (I : Nat → Nat → Int32) (J : Nat → Nat → Int64) (tg : Option Nat) (a1 : Int32) (a2 : Int32) (a3 : Int32) {r : Option Value × SS} (h : (∃ (v13 : Int32) (I14 : Nat → Nat → Int32) (J15 : Nat → Nat → Int64) (tg16 : Option Nat), Runs (GW L xs) d 177 (0, [.int a1, .int 0, .int 4], [], (zS I J tg)) ((some (.int v13)), (zS I14 J15 tg16)) ∧ (if v13 = 0 then (r = (some (.int 0), (zS I14 J15 tg16))) else (∃ (v17 : Int32) (I18 : Nat → Nat → Int32) (J19 : Nat → Nat → Int64) (tg20 : Option Nat), Runs (GW L xs) d 177 (0, [.int a2, .int 0, .int 8], [], (zS I14 J15 tg16)) ((some (.int v17)), (zS I18 J19 tg20)) ∧ (if v17 = 0 then (r = (some (.int 0), (zS I18 J19 tg20))) else (∃ (v21 : Int32) (I22 : Nat → Nat → Int32) (J23 : Nat → Nat → Int64) (tg24 : Option Nat), Runs (GW L xs) d 177 (0, [.int a3, .int 0, .int 3], [], (zS I18 J19 tg20)) ((some (.int v21)), (zS I22 J23 tg24)) ∧ (if v21 = 0 then (r = (some (.int 0), (zS I22 J23 tg24))) else (r = (some (.int 1), (zS I22 J23 tg24)))))))))) : Runs (GW L xs) (d + 1) 183 (0, [.int a1, .int a2, .int a3], [], (zS I J tg)) r := by
  refine Runs.sN 3 (c' := (3, [.int a1, .int a2, .int a3], [.int 4, .int 0, .int a1], (zS I J tg))) rfl ?_
  obtain ⟨v13, I14, J15, tg16, c25, h⟩ := h
  refine Runs.cl (cm := 177) (as := [.int a1, .int 0, .int 4]) (rest := []) (r1 := ((some (.int v13)), (zS I14 J15 tg16))) rfl (Nat.le_of_ble_eq_true rfl) c25 ?_
  refine Runs.as (c' := (6, [.int a1, .int a2, .int a3], [.int v13], (zS I14 J15 tg16))) rfl ?_
  by_cases c26 : v13 = 0
  · rw [if_pos c26] at h
    refine Runs.brT (P := v13 = 0) (a := 32) (b := 9) (L := [.int a1, .int a2, .int a3]) (S := []) (z := (zS I14 J15 tg16)) rfl c26 ?_
    refine Runs.sN 1 (c' := (33, [.int a1, .int a2, .int a3], [.int 0], (zS I14 J15 tg16))) rfl ?_
    subst h
    exact Runs.rt rfl
  · rw [if_neg c26] at h
    refine Runs.brF (P := v13 = 0) (a := 32) (b := 9) (L := [.int a1, .int a2, .int a3]) (S := []) (z := (zS I14 J15 tg16)) rfl c26 ?_
    refine Runs.sN 3 (c' := (13, [.int a1, .int a2, .int a3], [.int 8, .int 0, .int a2], (zS I14 J15 tg16))) rfl ?_
    obtain ⟨v17, I18, J19, tg20, c27, h⟩ := h
    refine Runs.cl (cm := 177) (as := [.int a2, .int 0, .int 8]) (rest := []) (r1 := ((some (.int v17)), (zS I18 J19 tg20))) rfl (Nat.le_of_ble_eq_true rfl) c27 ?_
    refine Runs.as (c' := (16, [.int a1, .int a2, .int a3], [.int v17], (zS I18 J19 tg20))) rfl ?_
    by_cases c28 : v17 = 0
    · rw [if_pos c28] at h
      refine Runs.brT (P := v17 = 0) (a := 32) (b := 19) (L := [.int a1, .int a2, .int a3]) (S := []) (z := (zS I18 J19 tg20)) rfl c28 ?_
      refine Runs.sN 1 (c' := (33, [.int a1, .int a2, .int a3], [.int 0], (zS I18 J19 tg20))) rfl ?_
      subst h
      exact Runs.rt rfl
    · rw [if_neg c28] at h
      refine Runs.brF (P := v17 = 0) (a := 32) (b := 19) (L := [.int a1, .int a2, .int a3]) (S := []) (z := (zS I18 J19 tg20)) rfl c28 ?_
      refine Runs.sN 3 (c' := (22, [.int a1, .int a2, .int a3], [.int 3, .int 0, .int a3], (zS I18 J19 tg20))) rfl ?_
      obtain ⟨v21, I22, J23, tg24, c29, h⟩ := h
      refine Runs.cl (cm := 177) (as := [.int a3, .int 0, .int 3]) (rest := []) (r1 := ((some (.int v21)), (zS I22 J23 tg24))) rfl (Nat.le_of_ble_eq_true rfl) c29 ?_
      refine Runs.as (c' := (25, [.int a1, .int a2, .int a3], [.int v21], (zS I22 J23 tg24))) rfl ?_
      by_cases c30 : v21 = 0
      · rw [if_pos c30] at h
        refine Runs.brT (P := v21 = 0) (a := 32) (b := 28) (L := [.int a1, .int a2, .int a3]) (S := []) (z := (zS I22 J23 tg24)) rfl c30 ?_
        refine Runs.sN 1 (c' := (33, [.int a1, .int a2, .int a3], [.int 0], (zS I22 J23 tg24))) rfl ?_
        subst h
        exact Runs.rt rfl
      · rw [if_neg c30] at h
        refine Runs.brF (P := v21 = 0) (a := 32) (b := 28) (L := [.int a1, .int a2, .int a3]) (S := []) (z := (zS I22 J23 tg24)) rfl c30 ?_
        refine Runs.sN 2 (c' := (33, [.int a1, .int a2, .int a3], [.int 1], (zS I22 J23 tg24))) rfl ?_
        subst h
        exact Runs.rt rfl
-- X12_has 
theorem sg_184 {L d : Nat} {xs : Nat → Int32} (I : Nat → Nat → Int32) (J : Nat → Nat → Int64) (tg : Option Nat) (a1 : Int32) (a2 : Int32) {r : Option Value × SS} (h : (¬ (((20 + (22 * a1)) + a2) < 0 ∨ 1200 ≤ ((20 + (22 * a1)) + a2).toNatClampNeg) ∧ r = (some (.int (I 94 (((20 + (22 * a1)) + a2).toNatClampNeg))), (zS I J tg)))) : Runs (GW L xs) d 184 (0, [.ref 93, .int a1, .int a2], [], (zS I J tg)) r := by
  refine Runs.sN 9 (c' := (13, [.ref 93, .int a1, .int a2], [.int ((20 + (22 * a1)) + a2), .ref 94], (zS I J tg))) rfl ?_
  obtain ⟨c1, h⟩ := h
  refine Runs.to (c' := (14, [.ref 93, .int a1, .int a2], [.int (I 94 (((20 + (22 * a1)) + a2).toNatClampNeg))], (zS I J tg))) (Runs.ild rfl (show (94 : Nat) < 114 by decide) rfl c1) ?_
  subst h
  exact Runs.rt rfl
-- X12_bitsOf 
theorem sg_185 {L d : Nat} {xs : Nat → Int32} (I : Nat → Nat → Int32) (J : Nat → Nat → Int64) (tg : Option Nat) (a1 : Int32) {r : Option Value × SS} (h : (Runs (GW L xs) d 185 (4, [.int a1, .int 0, .int 0], [], (zS I J tg)) r)) : Runs (GW L xs) d 185 (0, [.int a1, vU, vU], [], (zS I J tg)) r := by
  refine Runs.sN 4 (c' := (4, [.int a1, .int 0, .int 0], [], (zS I J tg))) rfl ?_
  exact h
theorem sg_185_4 {L d : Nat} {xs : Nat → Int32} (I : Nat → Nat → Int32) (J : Nat → Nat → Int64) (tg : Option Nat) (x0 : Int32) (x1 : Int32) (x2 : Int32) {r : Option Value × SS} (h : ((if 12 ≤ x2 then (r = (some (.int x1), (zS I J tg))) else (Runs (GW L xs) d 185 (4, [.int x0, .int (x1 + ((x0 >>> (x2 &&& 31)) &&& 1)), .int (x2 + 1)], [], (zS I J tg)) r)))) : Runs (GW L xs) d 185 (4, [.int x0, .int x1, .int x2], [], (zS I J tg)) r := by
  refine Runs.sN 2 (c' := (7, [.int x0, .int x1, .int x2], [.int 12, .int x2], (zS I J tg))) rfl ?_
  by_cases c1 : 12 ≤ x2
  · rw [if_pos c1] at h
    refine Runs.brT (P := 12 ≤ x2) (a := 24) (b := 10) (L := [.int x0, .int x1, .int x2]) (S := []) (z := (zS I J tg)) rfl c1 ?_
    refine Runs.sN 1 (c' := (25, [.int x0, .int x1, .int x2], [.int x1], (zS I J tg))) rfl ?_
    subst h
    exact Runs.rt rfl
  · rw [if_neg c1] at h
    refine Runs.brF (P := 12 ≤ x2) (a := 24) (b := 10) (L := [.int x0, .int x1, .int x2]) (S := []) (z := (zS I J tg)) rfl c1 ?_
    refine Runs.sN 10 (c' := (4, [.int x0, .int (x1 + ((x0 >>> (x2 &&& 31)) &&& 1)), .int (x2 + 1)], [], (zS I J tg))) rfl ?_
    exact h
