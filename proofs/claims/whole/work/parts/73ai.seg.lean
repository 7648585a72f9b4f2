-- X11_made 
theorem sg_137 {L d : Nat} {xs : Nat → Int32} (I : Nat → Nat → Int32) (J : Nat → Nat → Int64) (tg : Option Nat) (a1 : Int32) (a2 : Int32) (a3 : Int32) {r : Option Value × SS} (h : (∃ (v20 : Int32) (I21 : Nat → Nat → Int32) (J22 : Nat → Nat → Int64) (tg23 : Option Nat), Runs (GW L xs) d 44 (0, [.ref 1, .int a1], [], (zS I J tg)) ((some (.int v20)), (zS I21 J22 tg23)) ∧ (if v20 = 0 then (r = (some (.int (-1)), (zS I21 J22 tg23))) else (∃ (v24 : Int32) (I25 : Nat → Nat → Int32) (J26 : Nat → Nat → Int64) (tg27 : Option Nat), Runs (GW L xs) d 166 (0, [.int a2], [], (zS I21 J22 tg23)) ((some (.int v24)), (zS I25 J26 tg27)) ∧ (if v24 = 0 then (r = (some (.int (-1)), (zS I25 J26 tg27))) else (∃ (v28 : Int32) (I29 : Nat → Nat → Int32) (J30 : Nat → Nat → Int64) (tg31 : Option Nat), Runs (GW L xs) d 164 (0, [.int a3, .int 0, .int 2], [], (zS I25 J26 tg27)) ((some (.int v28)), (zS I29 J30 tg31)) ∧ (if v28 = 0 then (r = (some (.int (-1)), (zS I29 J30 tg31))) else (∃ (I32 : Nat → Nat → Int32) (J33 : Nat → Nat → Int64) (tg34 : Option Nat), Runs (GW L xs) d 1 (0, [.ref 79, .int a1, .int a2, vU], [], (zS I29 J30 tg31)) (none, (zS I32 J33 tg34)) ∧ (if (I32 79 10) = (-1) then (r = (some (.int (-1)), (zS I32 J33 tg34))) else ((if a3 = 2 then (∃ (v35 : Int32) (I36 : Nat → Nat → Int32) (J37 : Nat → Nat → Int64) (tg38 : Option Nat), Runs (GW L xs) d 7 (0, [.ref 79, .int a1, vU, vU], [], (zS I32 J33 tg34)) ((some (.int v35)), (zS I36 J37 tg38)) ∧ r = (some (.int v35), (zS I36 J37 tg38))) else ((if a3 = 0 then (r = (some (.int (I32 79 10)), (zS I32 J33 tg34))) else (r = (some (.int (I32 79 11)), (zS I32 J33 tg34)))))))))))))))) : Runs (GW L xs) (d + 1) 137 (0, [.ref 0, .int a1, .int a2, .int a3], [], (zS I J tg)) r := by
  refine Runs.sN 3 (c' := (5, [.ref 0, .int a1, .int a2, .int a3], [.int a1, .ref 1], (zS I J tg))) rfl ?_
  obtain ⟨v20, I21, J22, tg23, c39, h⟩ := h
  refine Runs.cl (cm := 44) (as := [.ref 1, .int a1]) (rest := []) (r1 := ((some (.int v20)), (zS I21 J22 tg23))) rfl (Nat.le_of_ble_eq_true rfl) c39 ?_
  refine Runs.as (c' := (8, [.ref 0, .int a1, .int a2, .int a3], [.int v20], (zS I21 J22 tg23))) rfl ?_
  by_cases c40 : v20 = 0
  · rw [if_pos c40] at h
    refine Runs.brT (P := v20 = 0) (a := 27) (b := 11) (L := [.ref 0, .int a1, .int a2, .int a3]) (S := []) (z := (zS I21 J22 tg23)) rfl c40 ?_
    refine Runs.sN 1 (c' := (28, [.ref 0, .int a1, .int a2, .int a3], [.int (-1)], (zS I21 J22 tg23))) rfl ?_
    subst h
    exact Runs.rt rfl
  · rw [if_neg c40] at h
    refine Runs.brF (P := v20 = 0) (a := 27) (b := 11) (L := [.ref 0, .int a1, .int a2, .int a3]) (S := []) (z := (zS I21 J22 tg23)) rfl c40 ?_
    refine Runs.sN 1 (c' := (12, [.ref 0, .int a1, .int a2, .int a3], [.int a2], (zS I21 J22 tg23))) rfl ?_
    obtain ⟨v24, I25, J26, tg27, c41, h⟩ := h
    refine Runs.cl (cm := 166) (as := [.int a2]) (rest := []) (r1 := ((some (.int v24)), (zS I25 J26 tg27))) rfl (Nat.le_of_ble_eq_true rfl) c41 ?_
    refine Runs.as (c' := (15, [.ref 0, .int a1, .int a2, .int a3], [.int v24], (zS I25 J26 tg27))) rfl ?_
    by_cases c42 : v24 = 0
    · rw [if_pos c42] at h
      refine Runs.brT (P := v24 = 0) (a := 27) (b := 18) (L := [.ref 0, .int a1, .int a2, .int a3]) (S := []) (z := (zS I25 J26 tg27)) rfl c42 ?_
      refine Runs.sN 1 (c' := (28, [.ref 0, .int a1, .int a2, .int a3], [.int (-1)], (zS I25 J26 tg27))) rfl ?_
      subst h
      exact Runs.rt rfl
    · rw [if_neg c42] at h
      refine Runs.brF (P := v24 = 0) (a := 27) (b := 18) (L := [.ref 0, .int a1, .int a2, .int a3]) (S := []) (z := (zS I25 J26 tg27)) rfl c42 ?_
      refine Runs.sN 3 (c' := (21, [.ref 0, .int a1, .int a2, .int a3], [.int 2, .int 0, .int a3], (zS I25 J26 tg27))) rfl ?_
      obtain ⟨v28, I29, J30, tg31, c43, h⟩ := h
      refine Runs.cl (cm := 164) (as := [.int a3, .int 0, .int 2]) (rest := []) (r1 := ((some (.int v28)), (zS I29 J30 tg31))) rfl (Nat.le_of_ble_eq_true rfl) c43 ?_
      refine Runs.as (c' := (24, [.ref 0, .int a1, .int a2, .int a3], [.int v28], (zS I29 J30 tg31))) rfl ?_
      by_cases c44 : v28 = 0
      · rw [if_pos c44] at h
        refine Runs.brT (P := v28 = 0) (a := 27) (b := 29) (L := [.ref 0, .int a1, .int a2, .int a3]) (S := []) (z := (zS I29 J30 tg31)) rfl c44 ?_
        refine Runs.sN 1 (c' := (28, [.ref 0, .int a1, .int a2, .int a3], [.int (-1)], (zS I29 J30 tg31))) rfl ?_
        subst h
        exact Runs.rt rfl
      · rw [if_neg c44] at h
        refine Runs.brF (P := v28 = 0) (a := 27) (b := 29) (L := [.ref 0, .int a1, .int a2, .int a3]) (S := []) (z := (zS I29 J30 tg31)) rfl c44 ?_
        refine Runs.sN 4 (c' := (35, [.ref 0, .int a1, .int a2, .int a3], [.int a2, .int a1, .ref 79], (zS I29 J30 tg31))) rfl ?_
        obtain ⟨I32, J33, tg34, c45, h⟩ := h
        refine Runs.cl (cm := 1) (as := [.ref 79, .int a1, .int a2]) (rest := []) (r1 := (none, (zS I32 J33 tg34))) rfl (Nat.le_of_ble_eq_true rfl) c45 ?_
        refine Runs.as (c' := (38, [.ref 0, .int a1, .int a2, .int a3], [], (zS I32 J33 tg34))) rfl ?_
        refine Runs.sN 4 (c' := (46, [.ref 0, .int a1, .int a2, .int a3], [.int (-1), .int (I32 79 10)], (zS I32 J33 tg34))) rfl ?_
        by_cases c46 : (I32 79 10) = (-1)
        · rw [if_pos c46] at h
          refine Runs.brT (P := (I32 79 10) = (-1)) (a := 49) (b := 51) (L := [.ref 0, .int a1, .int a2, .int a3]) (S := []) (z := (zS I32 J33 tg34)) rfl c46 ?_
          refine Runs.sN 1 (c' := (50, [.ref 0, .int a1, .int a2, .int a3], [.int (-1)], (zS I32 J33 tg34))) rfl ?_
          subst h
          exact Runs.rt rfl
        · rw [if_neg c46] at h
          refine Runs.brF (P := (I32 79 10) = (-1)) (a := 49) (b := 51) (L := [.ref 0, .int a1, .int a2, .int a3]) (S := []) (z := (zS I32 J33 tg34)) rfl c46 ?_
          refine Runs.sN 2 (c' := (53, [.ref 0, .int a1, .int a2, .int a3], [.int 2, .int a3], (zS I32 J33 tg34))) rfl ?_
          by_cases c47 : a3 = 2
          · rw [if_pos c47] at h
            refine Runs.brT (P := a3 = 2) (a := 56) (b := 65) (L := [.ref 0, .int a1, .int a2, .int a3]) (S := []) (z := (zS I32 J33 tg34)) rfl c47 ?_
            refine Runs.sN 3 (c' := (61, [.ref 0, .int a1, .int a2, .int a3], [.int a1, .ref 79], (zS I32 J33 tg34))) rfl ?_
            obtain ⟨v35, I36, J37, tg38, c48, h⟩ := h
            refine Runs.cl (cm := 7) (as := [.ref 79, .int a1]) (rest := []) (r1 := ((some (.int v35)), (zS I36 J37 tg38))) rfl (Nat.le_of_ble_eq_true rfl) c48 ?_
            refine Runs.as (c' := (64, [.ref 0, .int a1, .int a2, .int a3], [.int v35], (zS I36 J37 tg38))) rfl ?_
            subst h
            exact Runs.rt rfl
          · rw [if_neg c47] at h
            refine Runs.brF (P := a3 = 2) (a := 56) (b := 65) (L := [.ref 0, .int a1, .int a2, .int a3]) (S := []) (z := (zS I32 J33 tg34)) rfl c47 ?_
            refine Runs.sN 1 (c' := (66, [.ref 0, .int a1, .int a2, .int a3], [.int a3], (zS I32 J33 tg34))) rfl ?_
            by_cases c49 : a3 = 0
            · rw [if_pos c49] at h
              refine Runs.brT (P := a3 = 0) (a := 69) (b := 79) (L := [.ref 0, .int a1, .int a2, .int a3]) (S := []) (z := (zS I32 J33 tg34)) rfl c49 ?_
              refine Runs.sN 4 (c' := (86, [.ref 0, .int a1, .int a2, .int a3], [.int (I32 79 10)], (zS I32 J33 tg34))) rfl ?_
              subst h
              exact Runs.rt rfl
            · rw [if_neg c49] at h
              refine Runs.brF (P := a3 = 0) (a := 69) (b := 79) (L := [.ref 0, .int a1, .int a2, .int a3]) (S := []) (z := (zS I32 J33 tg34)) rfl c49 ?_
              refine Runs.sN 3 (c' := (86, [.ref 0, .int a1, .int a2, .int a3], [.int (I32 79 11)], (zS I32 J33 tg34))) rfl ?_
              subst h
              exact Runs.rt rfl
-- X11_least 
theorem sg_138 {L d : Nat} {xs : Nat → Int32} (I : Nat → Nat → Int32) (J : Nat → Nat → Int64) (tg : Option Nat) (a1 : Int32) (a2 : Int32) {r : Option Value × SS} (h : (∃ (v16 : Int32) (I17 : Nat → Nat → Int32) (J18 : Nat → Nat → Int64) (tg19 : Option Nat), Runs (GW L xs) d 47 (0, [.ref 1, .int a1], [], (zS I J tg)) ((some (.int v16)), (zS I17 J18 tg19)) ∧ (if v16 = 0 then (r = (some (.int (-1)), (zS I17 J18 tg19))) else (∃ (v20 : Int32) (I21 : Nat → Nat → Int32) (J22 : Nat → Nat → Int64) (tg23 : Option Nat), Runs (GW L xs) d 164 (0, [.int a2, .int 0, .int 2], [], (zS I17 J18 tg19)) ((some (.int v20)), (zS I21 J22 tg23)) ∧ (if v20 = 0 then (r = (some (.int (-1)), (zS I21 J22 tg23))) else (∃ (v24 : Int32) (I25 : Nat → Nat → Int32) (J26 : Nat → Nat → Int64) (tg27 : Option Nat), Runs (GW L xs) d 300 (0, [.int a1], [], (zS I21 J22 tg23)) ((some (.int v24)), (zS I25 J26 tg27)) ∧ (if 2 ≤ v24 then (∃ (I28 : Nat → Nat → Int32) (J29 : Nat → Nat → Int64) (tg30 : Option Nat), Runs (GW L xs) d 14 (0, [.ref 83, .int a1, vU, vU, vU], [], (zS I25 J26 tg27)) (none, (zS I28 J29 tg30)) ∧ (if a2 = 0 then (r = (some (.int (I28 83 6)), (zS I28 J29 tg30))) else ((if a2 = 1 then (r = (some (.int (I28 83 7)), (zS I28 J29 tg30))) else (r = (some (.int (I28 83 8)), (zS I28 J29 tg30))))))) else (r = (some (.int (-1)), (zS I25 J26 tg27)))))))))) : Runs (GW L xs) (d + 1) 138 (0, [.ref 0, .int a1, .int a2], [], (zS I J tg)) r := by
  refine Runs.sN 3 (c' := (5, [.ref 0, .int a1, .int a2], [.int a1, .ref 1], (zS I J tg))) rfl ?_
  obtain ⟨v16, I17, J18, tg19, c31, h⟩ := h
  refine Runs.cl (cm := 47) (as := [.ref 1, .int a1]) (rest := []) (r1 := ((some (.int v16)), (zS I17 J18 tg19))) rfl (Nat.le_of_ble_eq_true rfl) c31 ?_
  refine Runs.as (c' := (8, [.ref 0, .int a1, .int a2], [.int v16], (zS I17 J18 tg19))) rfl ?_
  by_cases c32 : v16 = 0
  · rw [if_pos c32] at h
    refine Runs.brT (P := v16 = 0) (a := 28) (b := 11) (L := [.ref 0, .int a1, .int a2]) (S := []) (z := (zS I17 J18 tg19)) rfl c32 ?_
    refine Runs.sN 1 (c' := (29, [.ref 0, .int a1, .int a2], [.int (-1)], (zS I17 J18 tg19))) rfl ?_
    subst h
    exact Runs.rt rfl
  · rw [if_neg c32] at h
    refine Runs.brF (P := v16 = 0) (a := 28) (b := 11) (L := [.ref 0, .int a1, .int a2]) (S := []) (z := (zS I17 J18 tg19)) rfl c32 ?_
    refine Runs.sN 3 (c' := (14, [.ref 0, .int a1, .int a2], [.int 2, .int 0, .int a2], (zS I17 J18 tg19))) rfl ?_
    obtain ⟨v20, I21, J22, tg23, c33, h⟩ := h
    refine Runs.cl (cm := 164) (as := [.int a2, .int 0, .int 2]) (rest := []) (r1 := ((some (.int v20)), (zS I21 J22 tg23))) rfl (Nat.le_of_ble_eq_true rfl) c33 ?_
    refine Runs.as (c' := (17, [.ref 0, .int a1, .int a2], [.int v20], (zS I21 J22 tg23))) rfl ?_
    by_cases c34 : v20 = 0
    · rw [if_pos c34] at h
      refine Runs.brT (P := v20 = 0) (a := 28) (b := 20) (L := [.ref 0, .int a1, .int a2]) (S := []) (z := (zS I21 J22 tg23)) rfl c34 ?_
      refine Runs.sN 1 (c' := (29, [.ref 0, .int a1, .int a2], [.int (-1)], (zS I21 J22 tg23))) rfl ?_
      subst h
      exact Runs.rt rfl
    · rw [if_neg c34] at h
      refine Runs.brF (P := v20 = 0) (a := 28) (b := 20) (L := [.ref 0, .int a1, .int a2]) (S := []) (z := (zS I21 J22 tg23)) rfl c34 ?_
      refine Runs.sN 1 (c' := (21, [.ref 0, .int a1, .int a2], [.int a1], (zS I21 J22 tg23))) rfl ?_
      obtain ⟨v24, I25, J26, tg27, c35, h⟩ := h
      refine Runs.cl (cm := 300) (as := [.int a1]) (rest := []) (r1 := ((some (.int v24)), (zS I25 J26 tg27))) rfl (Nat.le_of_ble_eq_true rfl) c35 ?_
      refine Runs.as (c' := (24, [.ref 0, .int a1, .int a2], [.int v24], (zS I25 J26 tg27))) rfl ?_
      refine Runs.sN 1 (c' := (25, [.ref 0, .int a1, .int a2], [.int 2, .int v24], (zS I25 J26 tg27))) rfl ?_
      by_cases c36 : 2 ≤ v24
      · rw [if_pos c36] at h
        refine Runs.brT (P := 2 ≤ v24) (a := 30) (b := 28) (L := [.ref 0, .int a1, .int a2]) (S := []) (z := (zS I25 J26 tg27)) rfl c36 ?_
        refine Runs.sN 3 (c' := (35, [.ref 0, .int a1, .int a2], [.int a1, .ref 83], (zS I25 J26 tg27))) rfl ?_
        obtain ⟨I28, J29, tg30, c37, h⟩ := h
        refine Runs.cl (cm := 14) (as := [.ref 83, .int a1]) (rest := []) (r1 := (none, (zS I28 J29 tg30))) rfl (Nat.le_of_ble_eq_true rfl) c37 ?_
        refine Runs.as (c' := (38, [.ref 0, .int a1, .int a2], [], (zS I28 J29 tg30))) rfl ?_
        refine Runs.sN 1 (c' := (39, [.ref 0, .int a1, .int a2], [.int a2], (zS I28 J29 tg30))) rfl ?_
        by_cases c38 : a2 = 0
        · rw [if_pos c38] at h
          refine Runs.brT (P := a2 = 0) (a := 42) (b := 50) (L := [.ref 0, .int a1, .int a2]) (S := []) (z := (zS I28 J29 tg30)) rfl c38 ?_
          refine Runs.sN 3 (c' := (49, [.ref 0, .int a1, .int a2], [.int (I28 83 6)], (zS I28 J29 tg30))) rfl ?_
          subst h
          exact Runs.rt rfl
        · rw [if_neg c38] at h
          refine Runs.brF (P := a2 = 0) (a := 42) (b := 50) (L := [.ref 0, .int a1, .int a2]) (S := []) (z := (zS I28 J29 tg30)) rfl c38 ?_
          refine Runs.sN 2 (c' := (52, [.ref 0, .int a1, .int a2], [.int 1, .int a2], (zS I28 J29 tg30))) rfl ?_
          by_cases c39 : a2 = 1
          · rw [if_pos c39] at h
            refine Runs.brT (P := a2 = 1) (a := 55) (b := 65) (L := [.ref 0, .int a1, .int a2]) (S := []) (z := (zS I28 J29 tg30)) rfl c39 ?_
            refine Runs.sN 4 (c' := (72, [.ref 0, .int a1, .int a2], [.int (I28 83 7)], (zS I28 J29 tg30))) rfl ?_
            subst h
            exact Runs.rt rfl
          · rw [if_neg c39] at h
            refine Runs.brF (P := a2 = 1) (a := 55) (b := 65) (L := [.ref 0, .int a1, .int a2]) (S := []) (z := (zS I28 J29 tg30)) rfl c39 ?_
            refine Runs.sN 3 (c' := (72, [.ref 0, .int a1, .int a2], [.int (I28 83 8)], (zS I28 J29 tg30))) rfl ?_
            subst h
            exact Runs.rt rfl
      · rw [if_neg c36] at h
        refine Runs.brF (P := 2 ≤ v24) (a := 30) (b := 28) (L := [.ref 0, .int a1, .int a2]) (S := []) (z := (zS I25 J26 tg27)) rfl c36 ?_
        refine Runs.sN 1 (c' := (29, [.ref 0, .int a1, .int a2], [.int (-1)], (zS I25 J26 tg27))) rfl ?_
        subst h
        exact Runs.rt rfl
-- X11_candidate 
theorem sg_139 {L d : Nat} {xs : Nat → Int32} (I : Nat → Nat → Int32) (J : Nat → Nat → Int64) (tg : Option Nat) (a1 : Int32) (a2 : Int32) {r : Option Value × SS} (h : (∃ (v13 : Int32) (I14 : Nat → Nat → Int32) (J15 : Nat → Nat → Int64) (tg16 : Option Nat), Runs (GW L xs) d 164 (0, [.int a1, .int 0, .int 5], [], (zS I J tg)) ((some (.int v13)), (zS I14 J15 tg16)) ∧ (if v13 = 0 then (r = (some (.int (-1)), (zS I14 J15 tg16))) else (∃ (v17 : Int32) (I18 : Nat → Nat → Int32) (J19 : Nat → Nat → Int64) (tg20 : Option Nat), Runs (GW L xs) d 44 (0, [.ref 1, .int a2], [], (zS I14 J15 tg16)) ((some (.int v17)), (zS I18 J19 tg20)) ∧ (if v17 = 0 then (r = (some (.int (-1)), (zS I18 J19 tg20))) else (¬ (a1 < 0 ∨ 6 ≤ (a1).toNatClampNeg) ∧ (if 4 ≤ (I18 21 ((a1).toNatClampNeg)) then (r = (some (.int (-1)), (zS I18 J19 tg20))) else (∃ (v21 : Int32) (I22 : Nat → Nat → Int32) (J23 : Nat → Nat → Int64) (tg24 : Option Nat), Runs (GW L xs) d 173 (0, [.ref 20, .int (a1 * 4), .int (I18 21 ((a1).toNatClampNeg)), .int a2, vU], [], (zS I18 J19 tg20)) ((some (.int v21)), (zS I22 J23 tg24)) ∧ (if v21 = 0 then (¬ (((a1 * 4) + (I18 21 ((a1).toNatClampNeg))) < 0 ∨ 24 ≤ ((a1 * 4) + (I18 21 ((a1).toNatClampNeg))).toNatClampNeg) ∧ ¬ (a1 < 0 ∨ 6 ≤ (a1).toNatClampNeg) ∧ r = (some (.int ((I18 21 ((a1).toNatClampNeg)) + 1)), (zS (up2 (up2 I22 20 (((a1 * 4) + (I18 21 ((a1).toNatClampNeg))).toNatClampNeg) a2) 21 ((a1).toNatClampNeg) ((I18 21 ((a1).toNatClampNeg)) + 1)) J23 tg24))) else (r = (some (.int (-1)), (zS I22 J23 tg24)))))))))))) : Runs (GW L xs) (d + 1) 139 (0, [.ref 0, .int a1, .int a2, vU], [], (zS I J tg)) r := by
  refine Runs.sN 3 (c' := (3, [.ref 0, .int a1, .int a2, vU], [.int 5, .int 0, .int a1], (zS I J tg))) rfl ?_
  obtain ⟨v13, I14, J15, tg16, c25, h⟩ := h
  refine Runs.cl (cm := 164) (as := [.int a1, .int 0, .int 5]) (rest := []) (r1 := ((some (.int v13)), (zS I14 J15 tg16))) rfl (Nat.le_of_ble_eq_true rfl) c25 ?_
  refine Runs.as (c' := (6, [.ref 0, .int a1, .int a2, vU], [.int v13], (zS I14 J15 tg16))) rfl ?_
  by_cases c26 : v13 = 0
  · rw [if_pos c26] at h
    refine Runs.brT (P := v13 = 0) (a := 20) (b := 9) (L := [.ref 0, .int a1, .int a2, vU]) (S := []) (z := (zS I14 J15 tg16)) rfl c26 ?_
    refine Runs.sN 1 (c' := (21, [.ref 0, .int a1, .int a2, vU], [.int (-1)], (zS I14 J15 tg16))) rfl ?_
    subst h
    exact Runs.rt rfl
  · rw [if_neg c26] at h
    refine Runs.brF (P := v13 = 0) (a := 20) (b := 9) (L := [.ref 0, .int a1, .int a2, vU]) (S := []) (z := (zS I14 J15 tg16)) rfl c26 ?_
    refine Runs.sN 3 (c' := (14, [.ref 0, .int a1, .int a2, vU], [.int a2, .ref 1], (zS I14 J15 tg16))) rfl ?_
    obtain ⟨v17, I18, J19, tg20, c27, h⟩ := h
    refine Runs.cl (cm := 44) (as := [.ref 1, .int a2]) (rest := []) (r1 := ((some (.int v17)), (zS I18 J19 tg20))) rfl (Nat.le_of_ble_eq_true rfl) c27 ?_
    refine Runs.as (c' := (17, [.ref 0, .int a1, .int a2, vU], [.int v17], (zS I18 J19 tg20))) rfl ?_
    by_cases c28 : v17 = 0
    · rw [if_pos c28] at h
      refine Runs.brT (P := v17 = 0) (a := 20) (b := 22) (L := [.ref 0, .int a1, .int a2, vU]) (S := []) (z := (zS I18 J19 tg20)) rfl c28 ?_
      refine Runs.sN 1 (c' := (21, [.ref 0, .int a1, .int a2, vU], [.int (-1)], (zS I18 J19 tg20))) rfl ?_
      subst h
      exact Runs.rt rfl
    · rw [if_neg c28] at h
      refine Runs.brF (P := v17 = 0) (a := 20) (b := 22) (L := [.ref 0, .int a1, .int a2, vU]) (S := []) (z := (zS I18 J19 tg20)) rfl c28 ?_
      refine Runs.sN 4 (c' := (30, [.ref 0, .int a1, .int a2, vU], [.int a1, .ref 21], (zS I18 J19 tg20))) rfl ?_
      obtain ⟨c29, h⟩ := h
      refine Runs.to (c' := (31, [.ref 0, .int a1, .int a2, vU], [.int (I18 21 ((a1).toNatClampNeg))], (zS I18 J19 tg20))) (Runs.ild rfl (show (21 : Nat) < 114 by decide) rfl c29) ?_
      refine Runs.sN 3 (c' := (34, [.ref 0, .int a1, .int a2, .int (I18 21 ((a1).toNatClampNeg))], [.int 4, .int (I18 21 ((a1).toNatClampNeg))], (zS I18 J19 tg20))) rfl ?_
      by_cases c30 : 4 ≤ (I18 21 ((a1).toNatClampNeg))
      · rw [if_pos c30] at h
        refine Runs.brT (P := 4 ≤ (I18 21 ((a1).toNatClampNeg))) (a := 55) (b := 37) (L := [.ref 0, .int a1, .int a2, .int (I18 21 ((a1).toNatClampNeg))]) (S := []) (z := (zS I18 J19 tg20)) rfl c30 ?_
        refine Runs.sN 1 (c' := (56, [.ref 0, .int a1, .int a2, .int (I18 21 ((a1).toNatClampNeg))], [.int (-1)], (zS I18 J19 tg20))) rfl ?_
        subst h
        exact Runs.rt rfl
      · rw [if_neg c30] at h
        refine Runs.brF (P := 4 ≤ (I18 21 ((a1).toNatClampNeg))) (a := 55) (b := 37) (L := [.ref 0, .int a1, .int a2, .int (I18 21 ((a1).toNatClampNeg))]) (S := []) (z := (zS I18 J19 tg20)) rfl c30 ?_
        refine Runs.sN 8 (c' := (49, [.ref 0, .int a1, .int a2, .int (I18 21 ((a1).toNatClampNeg))], [.int a2, .int (I18 21 ((a1).toNatClampNeg)), .int (a1 * 4), .ref 20], (zS I18 J19 tg20))) rfl ?_
        obtain ⟨v21, I22, J23, tg24, c31, h⟩ := h
        refine Runs.cl (cm := 173) (as := [.ref 20, .int (a1 * 4), .int (I18 21 ((a1).toNatClampNeg)), .int a2]) (rest := []) (r1 := ((some (.int v21)), (zS I22 J23 tg24))) rfl (Nat.le_of_ble_eq_true rfl) c31 ?_
        refine Runs.as (c' := (52, [.ref 0, .int a1, .int a2, .int (I18 21 ((a1).toNatClampNeg))], [.int v21], (zS I22 J23 tg24))) rfl ?_
        by_cases c32 : v21 = 0
        · rw [if_pos c32] at h
          refine Runs.brT (P := v21 = 0) (a := 57) (b := 55) (L := [.ref 0, .int a1, .int a2, .int (I18 21 ((a1).toNatClampNeg))]) (S := []) (z := (zS I22 J23 tg24)) rfl c32 ?_
          refine Runs.sN 9 (c' := (70, [.ref 0, .int a1, .int a2, .int (I18 21 ((a1).toNatClampNeg))], [.int a2, .int ((a1 * 4) + (I18 21 ((a1).toNatClampNeg))), .ref 20], (zS I22 J23 tg24))) rfl ?_
          obtain ⟨c33, h⟩ := h
          refine Runs.to (c' := (71, [.ref 0, .int a1, .int a2, .int (I18 21 ((a1).toNatClampNeg))], [], (zS (up2 I22 20 (((a1 * 4) + (I18 21 ((a1).toNatClampNeg))).toNatClampNeg) a2) J23 tg24))) (Runs.ist rfl (show (20 : Nat) < 114 by decide) rfl c33) ?_
          refine Runs.sN 7 (c' := (82, [.ref 0, .int a1, .int a2, .int (I18 21 ((a1).toNatClampNeg))], [.int ((I18 21 ((a1).toNatClampNeg)) + 1), .int a1, .ref 21], (zS (up2 I22 20 (((a1 * 4) + (I18 21 ((a1).toNatClampNeg))).toNatClampNeg) a2) J23 tg24))) rfl ?_
          obtain ⟨c34, h⟩ := h
          refine Runs.to (c' := (83, [.ref 0, .int a1, .int a2, .int (I18 21 ((a1).toNatClampNeg))], [], (zS (up2 (up2 I22 20 (((a1 * 4) + (I18 21 ((a1).toNatClampNeg))).toNatClampNeg) a2) 21 ((a1).toNatClampNeg) ((I18 21 ((a1).toNatClampNeg)) + 1)) J23 tg24))) (Runs.ist rfl (show (21 : Nat) < 114 by decide) rfl c34) ?_
          refine Runs.sN 3 (c' := (86, [.ref 0, .int a1, .int a2, .int (I18 21 ((a1).toNatClampNeg))], [.int ((I18 21 ((a1).toNatClampNeg)) + 1)], (zS (up2 (up2 I22 20 (((a1 * 4) + (I18 21 ((a1).toNatClampNeg))).toNatClampNeg) a2) 21 ((a1).toNatClampNeg) ((I18 21 ((a1).toNatClampNeg)) + 1)) J23 tg24))) rfl ?_
          subst h
          exact Runs.rt rfl
        · rw [if_neg c32] at h
          refine Runs.brF (P := v21 = 0) (a := 57) (b := 55) (L := [.ref 0, .int a1, .int a2, .int (I18 21 ((a1).toNatClampNeg))]) (S := []) (z := (zS I22 J23 tg24)) rfl c32 ?_
          refine Runs.sN 1 (c' := (56, [.ref 0, .int a1, .int a2, .int (I18 21 ((a1).toNatClampNeg))], [.int (-1)], (zS I22 J23 tg24))) rfl ?_
          subst h
          exact Runs.rt rfl
-- X11_choice 
theorem sg_140 {L d : Nat} {xs : Nat → Int32} (I : Nat → Nat → Int32) (J : Nat → Nat → Int64) (tg : Option Nat) (a1 : Int32) {r : Option Value × SS} (h : (∃ (v15 : Int32) (I16 : Nat → Nat → Int32) (J17 : Nat → Nat → Int64) (tg18 : Option Nat), Runs (GW L xs) d 164 (0, [.int a1, .int (-1), .int 5], [], (zS I J tg)) ((some (.int v15)), (zS I16 J17 tg18)) ∧ (if v15 = 0 then (r = (some (.int (-1)), (zS I16 J17 tg18))) else (∃ (v19 : Int32) (I20 : Nat → Nat → Int32) (J21 : Nat → Nat → Int64) (tg22 : Option Nat), Runs (GW L xs) d 41 (0, [.ref 18, vU, vU], [], (zS I16 J17 tg18)) ((some (.int v19)), (zS I20 J21 tg22)) ∧ (if 2 ≤ v19 then ((if a1 = (-1) then (∃ (I23 : Nat → Nat → Int32) (J24 : Nat → Nat → Int64) (tg25 : Option Nat), Runs (GW L xs) d 15 (0, [.ref 83], [], (zS I20 J21 tg22)) (none, (zS I23 J24 tg25)) ∧ (if a1 = (-1) then (r = (some (.int (I23 83 4)), (zS I23 J24 tg25))) else (¬ (a1 < 0 ∨ 6 ≤ (a1).toNatClampNeg) ∧ r = (some (.int (I23 85 ((a1).toNatClampNeg))), (zS I23 J24 tg25))))) else (¬ (a1 < 0 ∨ 6 ≤ (a1).toNatClampNeg) ∧ (if (I20 21 ((a1).toNatClampNeg)) = 0 then (r = (some (.int (-1)), (zS I20 J21 tg22))) else (∃ (I26 : Nat → Nat → Int32) (J27 : Nat → Nat → Int64) (tg28 : Option Nat), Runs (GW L xs) d 15 (0, [.ref 83], [], (zS I20 J21 tg22)) (none, (zS I26 J27 tg28)) ∧ (if a1 = (-1) then (r = (some (.int (I26 83 4)), (zS I26 J27 tg28))) else (¬ (a1 < 0 ∨ 6 ≤ (a1).toNatClampNeg) ∧ r = (some (.int (I26 85 ((a1).toNatClampNeg))), (zS I26 J27 tg28))))))))) else (r = (some (.int (-1)), (zS I20 J21 tg22)))))))) : Runs (GW L xs) (d + 1) 140 (0, [.ref 0, .int a1], [], (zS I J tg)) r := by
  refine Runs.sN 3 (c' := (3, [.ref 0, .int a1], [.int 5, .int (-1), .int a1], (zS I J tg))) rfl ?_
  obtain ⟨v15, I16, J17, tg18, c29, h⟩ := h
  refine Runs.cl (cm := 164) (as := [.int a1, .int (-1), .int 5]) (rest := []) (r1 := ((some (.int v15)), (zS I16 J17 tg18))) rfl (Nat.le_of_ble_eq_true rfl) c29 ?_
  refine Runs.as (c' := (6, [.ref 0, .int a1], [.int v15], (zS I16 J17 tg18))) rfl ?_
  by_cases c30 : v15 = 0
  · rw [if_pos c30] at h
    refine Runs.brT (P := v15 = 0) (a := 20) (b := 9) (L := [.ref 0, .int a1]) (S := []) (z := (zS I16 J17 tg18)) rfl c30 ?_
    refine Runs.sN 1 (c' := (21, [.ref 0, .int a1], [.int (-1)], (zS I16 J17 tg18))) rfl ?_
    subst h
    exact Runs.rt rfl
  · rw [if_neg c30] at h
    refine Runs.brF (P := v15 = 0) (a := 20) (b := 9) (L := [.ref 0, .int a1]) (S := []) (z := (zS I16 J17 tg18)) rfl c30 ?_
    refine Runs.sN 2 (c' := (13, [.ref 0, .int a1], [.ref 18], (zS I16 J17 tg18))) rfl ?_
    obtain ⟨v19, I20, J21, tg22, c31, h⟩ := h
    refine Runs.cl (cm := 41) (as := [.ref 18]) (rest := []) (r1 := ((some (.int v19)), (zS I20 J21 tg22))) rfl (Nat.le_of_ble_eq_true rfl) c31 ?_
    refine Runs.as (c' := (16, [.ref 0, .int a1], [.int v19], (zS I20 J21 tg22))) rfl ?_
    refine Runs.sN 1 (c' := (17, [.ref 0, .int a1], [.int 2, .int v19], (zS I20 J21 tg22))) rfl ?_
    by_cases c32 : 2 ≤ v19
    · rw [if_pos c32] at h
      refine Runs.brT (P := 2 ≤ v19) (a := 22) (b := 20) (L := [.ref 0, .int a1]) (S := []) (z := (zS I20 J21 tg22)) rfl c32 ?_
      refine Runs.sN 2 (c' := (24, [.ref 0, .int a1], [.int (-1), .int a1], (zS I20 J21 tg22))) rfl ?_
      by_cases c33 : a1 = (-1)
      · rw [if_pos c33] at h
        refine Runs.brT (P := a1 = (-1)) (a := 41) (b := 27) (L := [.ref 0, .int a1]) (S := []) (z := (zS I20 J21 tg22)) rfl c33 ?_
        refine Runs.sN 2 (c' := (45, [.ref 0, .int a1], [.ref 83], (zS I20 J21 tg22))) rfl ?_
        obtain ⟨I23, J24, tg25, c34, h⟩ := h
        refine Runs.cl (cm := 15) (as := [.ref 83]) (rest := []) (r1 := (none, (zS I23 J24 tg25))) rfl (Nat.le_of_ble_eq_true rfl) c34 ?_
        refine Runs.as (c' := (48, [.ref 0, .int a1], [], (zS I23 J24 tg25))) rfl ?_
        refine Runs.sN 2 (c' := (50, [.ref 0, .int a1], [.int (-1), .int a1], (zS I23 J24 tg25))) rfl ?_
        by_cases c35 : a1 = (-1)
        · rw [if_pos c35] at h
          refine Runs.brT (P := a1 = (-1)) (a := 53) (b := 63) (L := [.ref 0, .int a1]) (S := []) (z := (zS I23 J24 tg25)) rfl c35 ?_
          refine Runs.sN 4 (c' := (72, [.ref 0, .int a1], [.int (I23 83 4)], (zS I23 J24 tg25))) rfl ?_
          subst h
          exact Runs.rt rfl
        · rw [if_neg c35] at h
          refine Runs.brF (P := a1 = (-1)) (a := 53) (b := 63) (L := [.ref 0, .int a1]) (S := []) (z := (zS I23 J24 tg25)) rfl c35 ?_
          refine Runs.sN 4 (c' := (71, [.ref 0, .int a1], [.int a1, .ref 85], (zS I23 J24 tg25))) rfl ?_
          obtain ⟨c36, h⟩ := h
          refine Runs.to (c' := (72, [.ref 0, .int a1], [.int (I23 85 ((a1).toNatClampNeg))], (zS I23 J24 tg25))) (Runs.ild rfl (show (85 : Nat) < 114 by decide) rfl c36) ?_
          subst h
          exact Runs.rt rfl
      · rw [if_neg c33] at h
        refine Runs.brF (P := a1 = (-1)) (a := 41) (b := 27) (L := [.ref 0, .int a1]) (S := []) (z := (zS I20 J21 tg22)) rfl c33 ?_
        refine Runs.sN 4 (c' := (35, [.ref 0, .int a1], [.int a1, .ref 21], (zS I20 J21 tg22))) rfl ?_
        obtain ⟨c37, h⟩ := h
        refine Runs.to (c' := (36, [.ref 0, .int a1], [.int (I20 21 ((a1).toNatClampNeg))], (zS I20 J21 tg22))) (Runs.ild rfl (show (21 : Nat) < 114 by decide) rfl c37) ?_
        by_cases c38 : (I20 21 ((a1).toNatClampNeg)) = 0
        · rw [if_pos c38] at h
          refine Runs.brT (P := (I20 21 ((a1).toNatClampNeg)) = 0) (a := 39) (b := 41) (L := [.ref 0, .int a1]) (S := []) (z := (zS I20 J21 tg22)) rfl c38 ?_
          refine Runs.sN 1 (c' := (40, [.ref 0, .int a1], [.int (-1)], (zS I20 J21 tg22))) rfl ?_
          subst h
          exact Runs.rt rfl
        · rw [if_neg c38] at h
          refine Runs.brF (P := (I20 21 ((a1).toNatClampNeg)) = 0) (a := 39) (b := 41) (L := [.ref 0, .int a1]) (S := []) (z := (zS I20 J21 tg22)) rfl c38 ?_
          refine Runs.sN 2 (c' := (45, [.ref 0, .int a1], [.ref 83], (zS I20 J21 tg22))) rfl ?_
          obtain ⟨I26, J27, tg28, c39, h⟩ := h
          refine Runs.cl (cm := 15) (as := [.ref 83]) (rest := []) (r1 := (none, (zS I26 J27 tg28))) rfl (Nat.le_of_ble_eq_true rfl) c39 ?_
          refine Runs.as (c' := (48, [.ref 0, .int a1], [], (zS I26 J27 tg28))) rfl ?_
          refine Runs.sN 2 (c' := (50, [.ref 0, .int a1], [.int (-1), .int a1], (zS I26 J27 tg28))) rfl ?_
          by_cases c40 : a1 = (-1)
          · rw [if_pos c40] at h
            refine Runs.brT (P := a1 = (-1)) (a := 53) (b := 63) (L := [.ref 0, .int a1]) (S := []) (z := (zS I26 J27 tg28)) rfl c40 ?_
            refine Runs.sN 4 (c' := (72, [.ref 0, .int a1], [.int (I26 83 4)], (zS I26 J27 tg28))) rfl ?_
            subst h
            exact Runs.rt rfl
          · rw [if_neg c40] at h
            refine Runs.brF (P := a1 = (-1)) (a := 53) (b := 63) (L := [.ref 0, .int a1]) (S := []) (z := (zS I26 J27 tg28)) rfl c40 ?_
            refine Runs.sN 4 (c' := (71, [.ref 0, .int a1], [.int a1, .ref 85], (zS I26 J27 tg28))) rfl ?_
            obtain ⟨c41, h⟩ := h
            refine Runs.to (c' := (72, [.ref 0, .int a1], [.int (I26 85 ((a1).toNatClampNeg))], (zS I26 J27 tg28))) (Runs.ild rfl (show (85 : Nat) < 114 by decide) rfl c41) ?_
            subst h
            exact Runs.rt rfl
    · rw [if_neg c32] at h
      refine Runs.brF (P := 2 ≤ v19) (a := 22) (b := 20) (L := [.ref 0, .int a1]) (S := []) (z := (zS I20 J21 tg22)) rfl c32 ?_
      refine Runs.sN 1 (c' := (21, [.ref 0, .int a1], [.int (-1)], (zS I20 J21 tg22))) rfl ?_
      subst h
      exact Runs.rt rfl
-- X11_bars 
theorem sg_141 {L d : Nat} {xs : Nat → Int32} (I : Nat → Nat → Int32) (J : Nat → Nat → Int64) (tg : Option Nat) (a1 : Int32) {r : Option Value × SS} (h : (∃ (v9 : Int32) (I10 : Nat → Nat → Int32) (J11 : Nat → Nat → Int64) (tg12 : Option Nat), Runs (GW L xs) d 164 (0, [.int a1, .int 1, .int 999], [], (zS I J tg)) ((some (.int v9)), (zS I10 J11 tg12)) ∧ (if v9 = 0 then (r = (some (.int (-1)), (zS I10 J11 tg12))) else (∃ (v13 : Int32) (I14 : Nat → Nat → Int32) (J15 : Nat → Nat → Int64) (tg16 : Option Nat), Runs (GW L xs) d 18 (0, [.ref 83, .int a1], [], (zS I10 J11 tg12)) ((some (.int v13)), (zS I14 J15 tg16)) ∧ r = (some (.int v13), (zS I14 J15 tg16)))))) : Runs (GW L xs) (d + 1) 141 (0, [.ref 0, .int a1], [], (zS I J tg)) r := by
  refine Runs.sN 3 (c' := (5, [.ref 0, .int a1], [.int 999, .int 1, .int a1], (zS I J tg))) rfl ?_
  obtain ⟨v9, I10, J11, tg12, c17, h⟩ := h
  refine Runs.cl (cm := 164) (as := [.int a1, .int 1, .int 999]) (rest := []) (r1 := ((some (.int v9)), (zS I10 J11 tg12))) rfl (Nat.le_of_ble_eq_true rfl) c17 ?_
  refine Runs.as (c' := (8, [.ref 0, .int a1], [.int v9], (zS I10 J11 tg12))) rfl ?_
  by_cases c18 : v9 = 0
  · rw [if_pos c18] at h
    refine Runs.brT (P := v9 = 0) (a := 22) (b := 11) (L := [.ref 0, .int a1]) (S := []) (z := (zS I10 J11 tg12)) rfl c18 ?_
    refine Runs.sN 1 (c' := (23, [.ref 0, .int a1], [.int (-1)], (zS I10 J11 tg12))) rfl ?_
    subst h
    exact Runs.rt rfl
  · rw [if_neg c18] at h
    refine Runs.brF (P := v9 = 0) (a := 22) (b := 11) (L := [.ref 0, .int a1]) (S := []) (z := (zS I10 J11 tg12)) rfl c18 ?_
    refine Runs.sN 3 (c' := (16, [.ref 0, .int a1], [.int a1, .ref 83], (zS I10 J11 tg12))) rfl ?_
    obtain ⟨v13, I14, J15, tg16, c19, h⟩ := h
    refine Runs.cl (cm := 18) (as := [.ref 83, .int a1]) (rest := []) (r1 := ((some (.int v13)), (zS I14 J15 tg16))) rfl (Nat.le_of_ble_eq_true rfl) c19 ?_
    refine Runs.as (c' := (19, [.ref 0, .int a1], [.int v13], (zS I14 J15 tg16))) rfl ?_
    refine Runs.sN 1 (c' := (23, [.ref 0, .int a1], [.int v13], (zS I14 J15 tg16))) rfl ?_
    subst h
    exact Runs.rt rfl
-- X11_group 
theorem sg_142 {L d : Nat} {xs : Nat → Int32} (I : Nat → Nat → Int32) (J : Nat → Nat → Int64) (tg : Option Nat) (a1 : Int32) (a2 : Int32) {r : Option Value × SS} (h : (∃ (v9 : Int32) (I10 : Nat → Nat → Int32) (J11 : Nat → Nat → Int64) (tg12 : Option Nat), Runs (GW L xs) d 45 (0, [.ref 1, .int a1], [], (zS I J tg)) ((some (.int v9)), (zS I10 J11 tg12)) ∧ (if v9 = 0 then (r = (some (.int 0), (zS I10 J11 tg12))) else (∃ (v13 : Int32) (I14 : Nat → Nat → Int32) (J15 : Nat → Nat → Int64) (tg16 : Option Nat), Runs (GW L xs) d 164 (0, [.int a2, .int 0, .int 5], [], (zS I10 J11 tg12)) ((some (.int v13)), (zS I14 J15 tg16)) ∧ (if v13 = 0 then (r = (some (.int 0), (zS I14 J15 tg16))) else (¬ ((a1 - 12) < 0 ∨ 12 ≤ (a1 - 12).toNatClampNeg) ∧ r = (some (.int 1), (zS (up2 I14 11 ((a1 - 12).toNatClampNeg) a2) J15 tg16)))))))) : Runs (GW L xs) (d + 1) 142 (0, [.ref 0, .int a1, .int a2], [], (zS I J tg)) r := by
  refine Runs.sN 3 (c' := (5, [.ref 0, .int a1, .int a2], [.int a1, .ref 1], (zS I J tg))) rfl ?_
  obtain ⟨v9, I10, J11, tg12, c17, h⟩ := h
  refine Runs.cl (cm := 45) (as := [.ref 1, .int a1]) (rest := []) (r1 := ((some (.int v9)), (zS I10 J11 tg12))) rfl (Nat.le_of_ble_eq_true rfl) c17 ?_
  refine Runs.as (c' := (8, [.ref 0, .int a1, .int a2], [.int v9], (zS I10 J11 tg12))) rfl ?_
  by_cases c18 : v9 = 0
  · rw [if_pos c18] at h
    refine Runs.brT (P := v9 = 0) (a := 20) (b := 11) (L := [.ref 0, .int a1, .int a2]) (S := []) (z := (zS I10 J11 tg12)) rfl c18 ?_
    refine Runs.sN 1 (c' := (21, [.ref 0, .int a1, .int a2], [.int 0], (zS I10 J11 tg12))) rfl ?_
    subst h
    exact Runs.rt rfl
  · rw [if_neg c18] at h
    refine Runs.brF (P := v9 = 0) (a := 20) (b := 11) (L := [.ref 0, .int a1, .int a2]) (S := []) (z := (zS I10 J11 tg12)) rfl c18 ?_
    refine Runs.sN 3 (c' := (14, [.ref 0, .int a1, .int a2], [.int 5, .int 0, .int a2], (zS I10 J11 tg12))) rfl ?_
    obtain ⟨v13, I14, J15, tg16, c19, h⟩ := h
    refine Runs.cl (cm := 164) (as := [.int a2, .int 0, .int 5]) (rest := []) (r1 := ((some (.int v13)), (zS I14 J15 tg16))) rfl (Nat.le_of_ble_eq_true rfl) c19 ?_
    refine Runs.as (c' := (17, [.ref 0, .int a1, .int a2], [.int v13], (zS I14 J15 tg16))) rfl ?_
    by_cases c20 : v13 = 0
    · rw [if_pos c20] at h
      refine Runs.brT (P := v13 = 0) (a := 20) (b := 22) (L := [.ref 0, .int a1, .int a2]) (S := []) (z := (zS I14 J15 tg16)) rfl c20 ?_
      refine Runs.sN 1 (c' := (21, [.ref 0, .int a1, .int a2], [.int 0], (zS I14 J15 tg16))) rfl ?_
      subst h
      exact Runs.rt rfl
    · rw [if_neg c20] at h
      refine Runs.brF (P := v13 = 0) (a := 20) (b := 22) (L := [.ref 0, .int a1, .int a2]) (S := []) (z := (zS I14 J15 tg16)) rfl c20 ?_
      refine Runs.sN 7 (c' := (34, [.ref 0, .int a1, .int a2], [.int a2, .int (a1 - 12), .ref 11], (zS I14 J15 tg16))) rfl ?_
      obtain ⟨c21, h⟩ := h
      refine Runs.to (c' := (35, [.ref 0, .int a1, .int a2], [], (zS (up2 I14 11 ((a1 - 12).toNatClampNeg) a2) J15 tg16))) (Runs.ist rfl (show (11 : Nat) < 114 by decide) rfl c21) ?_
      refine Runs.sN 1 (c' := (36, [.ref 0, .int a1, .int a2], [.int 1], (zS (up2 I14 11 ((a1 - 12).toNatClampNeg) a2) J15 tg16))) rfl ?_
      subst h
      exact Runs.rt rfl
-- X11_hang 
theorem sg_143 {L d : Nat} {xs : Nat → Int32} (I : Nat → Nat → Int32) (J : Nat → Nat → Int64) (tg : Option Nat) (a1 : Int32) {r : Option Value × SS} (h : (∃ (v5 : Int32) (I6 : Nat → Nat → Int32) (J7 : Nat → Nat → Int64) (tg8 : Option Nat), Runs (GW L xs) d 44 (0, [.ref 1, .int a1], [], (zS I J tg)) ((some (.int v5)), (zS I6 J7 tg8)) ∧ (if v5 = 0 then (r = (some (.int (-1)), (zS I6 J7 tg8))) else ((if (I6 18 3) < 8 then (¬ ((I6 18 3) < 0 ∨ 8 ≤ (I6 18 3).toNatClampNeg) ∧ r = (some (.int ((I6 18 3) + 1)), (zS (up2 (up2 I6 22 ((I6 18 3).toNatClampNeg) a1) 18 3 ((I6 18 3) + 1)) J7 tg8))) else (r = (some (.int (-1)), (zS I6 J7 tg8)))))))) : Runs (GW L xs) (d + 1) 143 (0, [.ref 0, .int a1], [], (zS I J tg)) r := by
  refine Runs.sN 3 (c' := (5, [.ref 0, .int a1], [.int a1, .ref 1], (zS I J tg))) rfl ?_
  obtain ⟨v5, I6, J7, tg8, c9, h⟩ := h
  refine Runs.cl (cm := 44) (as := [.ref 1, .int a1]) (rest := []) (r1 := ((some (.int v5)), (zS I6 J7 tg8))) rfl (Nat.le_of_ble_eq_true rfl) c9 ?_
  refine Runs.as (c' := (8, [.ref 0, .int a1], [.int v5], (zS I6 J7 tg8))) rfl ?_
  by_cases c10 : v5 = 0
  · rw [if_pos c10] at h
    refine Runs.brT (P := v5 = 0) (a := 23) (b := 11) (L := [.ref 0, .int a1]) (S := []) (z := (zS I6 J7 tg8)) rfl c10 ?_
    refine Runs.sN 1 (c' := (24, [.ref 0, .int a1], [.int (-1)], (zS I6 J7 tg8))) rfl ?_
    subst h
    exact Runs.rt rfl
  · rw [if_neg c10] at h
    refine Runs.brF (P := v5 = 0) (a := 23) (b := 11) (L := [.ref 0, .int a1]) (S := []) (z := (zS I6 J7 tg8)) rfl c10 ?_
    refine Runs.sN 4 (c' := (20, [.ref 0, .int a1], [.int 8, .int (I6 18 3)], (zS I6 J7 tg8))) rfl ?_
    by_cases c11 : (I6 18 3) < 8
    · rw [if_pos c11] at h
      refine Runs.brT (P := (I6 18 3) < 8) (a := 25) (b := 23) (L := [.ref 0, .int a1]) (S := []) (z := (zS I6 J7 tg8)) rfl c11 ?_
      refine Runs.sN 7 (c' := (40, [.ref 0, .int a1], [.int a1, .int (I6 18 3), .ref 22], (zS I6 J7 tg8))) rfl ?_
      obtain ⟨c12, h⟩ := h
      refine Runs.to (c' := (41, [.ref 0, .int a1], [], (zS (up2 I6 22 ((I6 18 3).toNatClampNeg) a1) J7 tg8))) (Runs.ist rfl (show (22 : Nat) < 114 by decide) rfl c12) ?_
      refine Runs.sN 10 (c' := (61, [.ref 0, .int a1], [.int ((I6 18 3) + 1)], (zS (up2 (up2 I6 22 ((I6 18 3).toNatClampNeg) a1) 18 3 ((I6 18 3) + 1)) J7 tg8))) rfl ?_
      subst h
      exact Runs.rt rfl
    · rw [if_neg c11] at h
      refine Runs.brF (P := (I6 18 3) < 8) (a := 25) (b := 23) (L := [.ref 0, .int a1]) (S := []) (z := (zS I6 J7 tg8)) rfl c11 ?_
      refine Runs.sN 1 (c' := (24, [.ref 0, .int a1], [.int (-1)], (zS I6 J7 tg8))) rfl ?_
      subst h
      exact Runs.rt rfl
-- X11_unhang 
theorem sg_144 {L d : Nat} {xs : Nat → Int32} (I : Nat → Nat → Int32) (J : Nat → Nat → Int64) (tg : Option Nat) {r : Option Value × SS} (h : (r = (some (.int (I 18 3)), (zS (up2 I 18 3 0) J tg)))) : Runs (GW L xs) d 144 (0, [.ref 0, vU], [], (zS I J tg)) r := by
  refine Runs.sN 9 (c' := (17, [.ref 0, .int (I 18 3)], [.int (I 18 3)], (zS (up2 I 18 3 0) J tg))) rfl ?_
  subst h
  exact Runs.rt rfl
-- X11_among 
theorem sg_145 {L d : Nat} {xs : Nat → Int32} (I : Nat → Nat → Int32) (J : Nat → Nat → Int64) (tg : Option Nat) (a1 : Int32) (a2 : Int32) (a3 : Int32) {r : Option Value × SS} (h : (∃ (v24 : Int32) (I25 : Nat → Nat → Int32) (J26 : Nat → Nat → Int64) (tg27 : Option Nat), Runs (GW L xs) d 164 (0, [.int a1, .int 0, .int ((I 18 3) - 1)], [], (zS I J tg)) ((some (.int v24)), (zS I25 J26 tg27)) ∧ (if v24 = 0 then (r = (some (.int (-1)), (zS I25 J26 tg27))) else (∃ (v28 : Int32) (I29 : Nat → Nat → Int32) (J30 : Nat → Nat → Int64) (tg31 : Option Nat), Runs (GW L xs) d 165 (0, [.int a2], [], (zS I25 J26 tg27)) ((some (.int v28)), (zS I29 J30 tg31)) ∧ (if v28 = 0 then (r = (some (.int (-1)), (zS I29 J30 tg31))) else (∃ (v32 : Int32) (I33 : Nat → Nat → Int32) (J34 : Nat → Nat → Int64) (tg35 : Option Nat), Runs (GW L xs) d 166 (0, [.int a3], [], (zS I29 J30 tg31)) ((some (.int v32)), (zS I33 J34 tg35)) ∧ (if v32 = 0 then (r = (some (.int (-1)), (zS I33 J34 tg35))) else (∃ (I36 : Nat → Nat → Int32) (J37 : Nat → Nat → Int64) (tg38 : Option Nat), Runs (GW L xs) d 32 (0, [.ref 86, .int a3, vU], [], (zS I33 J34 tg35)) (none, (zS I36 J37 tg38)) ∧ ∃ (v39 : Int32) (I40 : Nat → Nat → Int32) (J41 : Nat → Nat → Int64) (tg42 : Option Nat), Runs (GW L xs) d 33 (0, [.ref 86, .int a1, .int a2, vU, vU], [], (zS I36 J37 tg38)) ((some (.int v39)), (zS I40 J41 tg42)) ∧ ∃ (v43 : Int32) (I44 : Nat → Nat → Int32) (J45 : Nat → Nat → Int64) (tg46 : Option Nat), Runs (GW L xs) d 168 (0, [.int v39], [], (zS I40 J41 tg42)) ((some (.int v43)), (zS I44 J45 tg46)) ∧ r = (some (.int v43), (zS I44 J45 tg46)))))))))) : Runs (GW L xs) (d + 1) 145 (0, [.ref 0, .int a1, .int a2, .int a3], [], (zS I J tg)) r := by
  refine Runs.sN 7 (c' := (11, [.ref 0, .int a1, .int a2, .int a3], [.int ((I 18 3) - 1), .int 0, .int a1], (zS I J tg))) rfl ?_
  obtain ⟨v24, I25, J26, tg27, c47, h⟩ := h
  refine Runs.cl (cm := 164) (as := [.int a1, .int 0, .int ((I 18 3) - 1)]) (rest := []) (r1 := ((some (.int v24)), (zS I25 J26 tg27))) rfl (Nat.le_of_ble_eq_true rfl) c47 ?_
  refine Runs.as (c' := (14, [.ref 0, .int a1, .int a2, .int a3], [.int v24], (zS I25 J26 tg27))) rfl ?_
  by_cases c48 : v24 = 0
  · rw [if_pos c48] at h
    refine Runs.brT (P := v24 = 0) (a := 31) (b := 17) (L := [.ref 0, .int a1, .int a2, .int a3]) (S := []) (z := (zS I25 J26 tg27)) rfl c48 ?_
    refine Runs.sN 1 (c' := (32, [.ref 0, .int a1, .int a2, .int a3], [.int (-1)], (zS I25 J26 tg27))) rfl ?_
    subst h
    exact Runs.rt rfl
  · rw [if_neg c48] at h
    refine Runs.brF (P := v24 = 0) (a := 31) (b := 17) (L := [.ref 0, .int a1, .int a2, .int a3]) (S := []) (z := (zS I25 J26 tg27)) rfl c48 ?_
    refine Runs.sN 1 (c' := (18, [.ref 0, .int a1, .int a2, .int a3], [.int a2], (zS I25 J26 tg27))) rfl ?_
    obtain ⟨v28, I29, J30, tg31, c49, h⟩ := h
    refine Runs.cl (cm := 165) (as := [.int a2]) (rest := []) (r1 := ((some (.int v28)), (zS I29 J30 tg31))) rfl (Nat.le_of_ble_eq_true rfl) c49 ?_
    refine Runs.as (c' := (21, [.ref 0, .int a1, .int a2, .int a3], [.int v28], (zS I29 J30 tg31))) rfl ?_
    by_cases c50 : v28 = 0
    · rw [if_pos c50] at h
      refine Runs.brT (P := v28 = 0) (a := 31) (b := 24) (L := [.ref 0, .int a1, .int a2, .int a3]) (S := []) (z := (zS I29 J30 tg31)) rfl c50 ?_
      refine Runs.sN 1 (c' := (32, [.ref 0, .int a1, .int a2, .int a3], [.int (-1)], (zS I29 J30 tg31))) rfl ?_
      subst h
      exact Runs.rt rfl
    · rw [if_neg c50] at h
      refine Runs.brF (P := v28 = 0) (a := 31) (b := 24) (L := [.ref 0, .int a1, .int a2, .int a3]) (S := []) (z := (zS I29 J30 tg31)) rfl c50 ?_
      refine Runs.sN 1 (c' := (25, [.ref 0, .int a1, .int a2, .int a3], [.int a3], (zS I29 J30 tg31))) rfl ?_
      obtain ⟨v32, I33, J34, tg35, c51, h⟩ := h
      refine Runs.cl (cm := 166) (as := [.int a3]) (rest := []) (r1 := ((some (.int v32)), (zS I33 J34 tg35))) rfl (Nat.le_of_ble_eq_true rfl) c51 ?_
      refine Runs.as (c' := (28, [.ref 0, .int a1, .int a2, .int a3], [.int v32], (zS I33 J34 tg35))) rfl ?_
      by_cases c52 : v32 = 0
      · rw [if_pos c52] at h
        refine Runs.brT (P := v32 = 0) (a := 31) (b := 33) (L := [.ref 0, .int a1, .int a2, .int a3]) (S := []) (z := (zS I33 J34 tg35)) rfl c52 ?_
        refine Runs.sN 1 (c' := (32, [.ref 0, .int a1, .int a2, .int a3], [.int (-1)], (zS I33 J34 tg35))) rfl ?_
        subst h
        exact Runs.rt rfl
      · rw [if_neg c52] at h
        refine Runs.brF (P := v32 = 0) (a := 31) (b := 33) (L := [.ref 0, .int a1, .int a2, .int a3]) (S := []) (z := (zS I33 J34 tg35)) rfl c52 ?_
        refine Runs.sN 3 (c' := (38, [.ref 0, .int a1, .int a2, .int a3], [.int a3, .ref 86], (zS I33 J34 tg35))) rfl ?_
        obtain ⟨I36, J37, tg38, c53, h⟩ := h
        refine Runs.cl (cm := 32) (as := [.ref 86, .int a3]) (rest := []) (r1 := (none, (zS I36 J37 tg38))) rfl (Nat.le_of_ble_eq_true rfl) c53 ?_
        refine Runs.as (c' := (41, [.ref 0, .int a1, .int a2, .int a3], [], (zS I36 J37 tg38))) rfl ?_
        refine Runs.sN 4 (c' := (47, [.ref 0, .int a1, .int a2, .int a3], [.int a2, .int a1, .ref 86], (zS I36 J37 tg38))) rfl ?_
        obtain ⟨v39, I40, J41, tg42, c54, h⟩ := h
        refine Runs.cl (cm := 33) (as := [.ref 86, .int a1, .int a2]) (rest := []) (r1 := ((some (.int v39)), (zS I40 J41 tg42))) rfl (Nat.le_of_ble_eq_true rfl) c54 ?_
        refine Runs.as (c' := (50, [.ref 0, .int a1, .int a2, .int a3], [.int v39], (zS I40 J41 tg42))) rfl ?_
        obtain ⟨v43, I44, J45, tg46, c55, h⟩ := h
        refine Runs.cl (cm := 168) (as := [.int v39]) (rest := []) (r1 := ((some (.int v43)), (zS I44 J45 tg46))) rfl (Nat.le_of_ble_eq_true rfl) c55 ?_
        refine Runs.as (c' := (53, [.ref 0, .int a1, .int a2, .int a3], [.int v43], (zS I44 J45 tg46))) rfl ?_
        subst h
        exact Runs.rt rfl
-- X11_order 
theorem sg_146 {L d : Nat} {xs : Nat → Int32} (I : Nat → Nat → Int32) (J : Nat → Nat → Int64) (tg : Option Nat) (a1 : Int32) (a2 : Int32) {r : Option Value × SS} (h : (∃ (v19 : Int32) (I20 : Nat → Nat → Int32) (J21 : Nat → Nat → Int64) (tg22 : Option Nat), Runs (GW L xs) d 166 (0, [.int a1], [], (zS I J tg)) ((some (.int v19)), (zS I20 J21 tg22)) ∧ (if v19 = 0 then (r = (some (.int (-1)), (zS I20 J21 tg22))) else (∃ (v23 : Int32) (I24 : Nat → Nat → Int32) (J25 : Nat → Nat → Int64) (tg26 : Option Nat), Runs (GW L xs) d 164 (0, [.int (I20 18 3), .int 1, .int 6], [], (zS I20 J21 tg22)) ((some (.int v23)), (zS I24 J25 tg26)) ∧ (if v23 = 0 then (r = (some (.int (-1)), (zS I24 J25 tg26))) else (∃ (v27 : Int32) (I28 : Nat → Nat → Int32) (J29 : Nat → Nat → Int64) (tg30 : Option Nat), Runs (GW L xs) d 164 (0, [.int a2, .int (-1), .int ((I24 18 3) - 1)], [], (zS I24 J25 tg26)) ((some (.int v27)), (zS I28 J29 tg30)) ∧ (if v27 = 0 then (r = (some (.int (-1)), (zS I28 J29 tg30))) else (∃ (I31 : Nat → Nat → Int32) (J32 : Nat → Nat → Int64) (tg33 : Option Nat), Runs (GW L xs) d 32 (0, [.ref 86, .int a1, vU], [], (zS I28 J29 tg30)) (none, (zS I31 J32 tg33)) ∧ ∃ (I34 : Nat → Nat → Int32) (J35 : Nat → Nat → Int64) (tg36 : Option Nat), Runs (GW L xs) d 36 (0, [.ref 86], [], (zS I31 J32 tg33)) (none, (zS I34 J35 tg36)) ∧ (if a2 = (-1) then (r = (some (.int (I34 86 8)), (zS I34 J35 tg36))) else (¬ (a2 < 0 ∨ 8 ≤ (a2).toNatClampNeg) ∧ ¬ ((I34 91 ((a2).toNatClampNeg)) < 0 ∨ 8 ≤ (I34 91 ((a2).toNatClampNeg)).toNatClampNeg) ∧ r = (some (.int (I34 22 ((I34 91 ((a2).toNatClampNeg)).toNatClampNeg))), (zS I34 J35 tg36)))))))))))) : Runs (GW L xs) (d + 1) 146 (0, [.ref 0, .int a1, .int a2], [], (zS I J tg)) r := by
  refine Runs.sN 1 (c' := (1, [.ref 0, .int a1, .int a2], [.int a1], (zS I J tg))) rfl ?_
  obtain ⟨v19, I20, J21, tg22, c37, h⟩ := h
  refine Runs.cl (cm := 166) (as := [.int a1]) (rest := []) (r1 := ((some (.int v19)), (zS I20 J21 tg22))) rfl (Nat.le_of_ble_eq_true rfl) c37 ?_
  refine Runs.as (c' := (4, [.ref 0, .int a1, .int a2], [.int v19], (zS I20 J21 tg22))) rfl ?_
  by_cases c38 : v19 = 0
  · rw [if_pos c38] at h
    refine Runs.brT (P := v19 = 0) (a := 40) (b := 7) (L := [.ref 0, .int a1, .int a2]) (S := []) (z := (zS I20 J21 tg22)) rfl c38 ?_
    refine Runs.sN 1 (c' := (41, [.ref 0, .int a1, .int a2], [.int (-1)], (zS I20 J21 tg22))) rfl ?_
    subst h
    exact Runs.rt rfl
  · rw [if_neg c38] at h
    refine Runs.brF (P := v19 = 0) (a := 40) (b := 7) (L := [.ref 0, .int a1, .int a2]) (S := []) (z := (zS I20 J21 tg22)) rfl c38 ?_
    refine Runs.sN 5 (c' := (17, [.ref 0, .int a1, .int a2], [.int 6, .int 1, .int (I20 18 3)], (zS I20 J21 tg22))) rfl ?_
    obtain ⟨v23, I24, J25, tg26, c39, h⟩ := h
    refine Runs.cl (cm := 164) (as := [.int (I20 18 3), .int 1, .int 6]) (rest := []) (r1 := ((some (.int v23)), (zS I24 J25 tg26))) rfl (Nat.le_of_ble_eq_true rfl) c39 ?_
    refine Runs.as (c' := (20, [.ref 0, .int a1, .int a2], [.int v23], (zS I24 J25 tg26))) rfl ?_
    by_cases c40 : v23 = 0
    · rw [if_pos c40] at h
      refine Runs.brT (P := v23 = 0) (a := 40) (b := 23) (L := [.ref 0, .int a1, .int a2]) (S := []) (z := (zS I24 J25 tg26)) rfl c40 ?_
      refine Runs.sN 1 (c' := (41, [.ref 0, .int a1, .int a2], [.int (-1)], (zS I24 J25 tg26))) rfl ?_
      subst h
      exact Runs.rt rfl
    · rw [if_neg c40] at h
      refine Runs.brF (P := v23 = 0) (a := 40) (b := 23) (L := [.ref 0, .int a1, .int a2]) (S := []) (z := (zS I24 J25 tg26)) rfl c40 ?_
      refine Runs.sN 7 (c' := (34, [.ref 0, .int a1, .int a2], [.int ((I24 18 3) - 1), .int (-1), .int a2], (zS I24 J25 tg26))) rfl ?_
      obtain ⟨v27, I28, J29, tg30, c41, h⟩ := h
      refine Runs.cl (cm := 164) (as := [.int a2, .int (-1), .int ((I24 18 3) - 1)]) (rest := []) (r1 := ((some (.int v27)), (zS I28 J29 tg30))) rfl (Nat.le_of_ble_eq_true rfl) c41 ?_
      refine Runs.as (c' := (37, [.ref 0, .int a1, .int a2], [.int v27], (zS I28 J29 tg30))) rfl ?_
      by_cases c42 : v27 = 0
      · rw [if_pos c42] at h
        refine Runs.brT (P := v27 = 0) (a := 40) (b := 42) (L := [.ref 0, .int a1, .int a2]) (S := []) (z := (zS I28 J29 tg30)) rfl c42 ?_
        refine Runs.sN 1 (c' := (41, [.ref 0, .int a1, .int a2], [.int (-1)], (zS I28 J29 tg30))) rfl ?_
        subst h
        exact Runs.rt rfl
      · rw [if_neg c42] at h
        refine Runs.brF (P := v27 = 0) (a := 40) (b := 42) (L := [.ref 0, .int a1, .int a2]) (S := []) (z := (zS I28 J29 tg30)) rfl c42 ?_
        refine Runs.sN 3 (c' := (47, [.ref 0, .int a1, .int a2], [.int a1, .ref 86], (zS I28 J29 tg30))) rfl ?_
        obtain ⟨I31, J32, tg33, c43, h⟩ := h
        refine Runs.cl (cm := 32) (as := [.ref 86, .int a1]) (rest := []) (r1 := (none, (zS I31 J32 tg33))) rfl (Nat.le_of_ble_eq_true rfl) c43 ?_
        refine Runs.as (c' := (50, [.ref 0, .int a1, .int a2], [], (zS I31 J32 tg33))) rfl ?_
        refine Runs.sN 2 (c' := (54, [.ref 0, .int a1, .int a2], [.ref 86], (zS I31 J32 tg33))) rfl ?_
        obtain ⟨I34, J35, tg36, c44, h⟩ := h
        refine Runs.cl (cm := 36) (as := [.ref 86]) (rest := []) (r1 := (none, (zS I34 J35 tg36))) rfl (Nat.le_of_ble_eq_true rfl) c44 ?_
        refine Runs.as (c' := (57, [.ref 0, .int a1, .int a2], [], (zS I34 J35 tg36))) rfl ?_
        refine Runs.sN 2 (c' := (59, [.ref 0, .int a1, .int a2], [.int (-1), .int a2], (zS I34 J35 tg36))) rfl ?_
        by_cases c45 : a2 = (-1)
        · rw [if_pos c45] at h
          refine Runs.brT (P := a2 = (-1)) (a := 62) (b := 72) (L := [.ref 0, .int a1, .int a2]) (S := []) (z := (zS I34 J35 tg36)) rfl c45 ?_
          refine Runs.sN 4 (c' := (89, [.ref 0, .int a1, .int a2], [.int (I34 86 8)], (zS I34 J35 tg36))) rfl ?_
          subst h
          exact Runs.rt rfl
        · rw [if_neg c45] at h
          refine Runs.brF (P := a2 = (-1)) (a := 62) (b := 72) (L := [.ref 0, .int a1, .int a2]) (S := []) (z := (zS I34 J35 tg36)) rfl c45 ?_
          refine Runs.sN 7 (c' := (87, [.ref 0, .int a1, .int a2], [.int a2, .ref 91, .ref 22], (zS I34 J35 tg36))) rfl ?_
          obtain ⟨c46, h⟩ := h
          refine Runs.to (c' := (88, [.ref 0, .int a1, .int a2], [.int (I34 91 ((a2).toNatClampNeg)), .ref 22], (zS I34 J35 tg36))) (Runs.ild rfl (show (91 : Nat) < 114 by decide) rfl c46) ?_
          obtain ⟨c47, h⟩ := h
          refine Runs.to (c' := (89, [.ref 0, .int a1, .int a2], [.int (I34 22 ((I34 91 ((a2).toNatClampNeg)).toNatClampNeg))], (zS I34 J35 tg36))) (Runs.ild rfl (show (22 : Nat) < 114 by decide) rfl c47) ?_
          subst h
          exact Runs.rt rfl
-- X11_worn 
theorem sg_147 {L d : Nat} {xs : Nat → Int32} (I : Nat → Nat → Int32) (J : Nat → Nat → Int64) (tg : Option Nat) (a1 : Int32) (a2 : Int32) (a3 : Int32) (a4 : Int32) {r : Option Value × SS} (h : (∃ (v20 : Int32) (I21 : Nat → Nat → Int32) (J22 : Nat → Nat → Int64) (tg23 : Option Nat), Runs (GW L xs) d 44 (0, [.ref 1, .int a1], [], (zS I J tg)) ((some (.int v20)), (zS I21 J22 tg23)) ∧ (if v20 = 0 then (r = (some (.int (-1)), (zS I21 J22 tg23))) else (∃ (v24 : Int32) (I25 : Nat → Nat → Int32) (J26 : Nat → Nat → Int64) (tg27 : Option Nat), Runs (GW L xs) d 166 (0, [.int a2], [], (zS I21 J22 tg23)) ((some (.int v24)), (zS I25 J26 tg27)) ∧ (if v24 = 0 then (r = (some (.int (-1)), (zS I25 J26 tg27))) else (∃ (v28 : Int32) (I29 : Nat → Nat → Int32) (J30 : Nat → Nat → Int64) (tg31 : Option Nat), Runs (GW L xs) d 164 (0, [.int a4, .int 0, .int 1], [], (zS I25 J26 tg27)) ((some (.int v28)), (zS I29 J30 tg31)) ∧ (if v28 = 0 then (r = (some (.int (-1)), (zS I29 J30 tg31))) else (¬ (a1 < 0 ∨ 24 ≤ (a1).toNatClampNeg) ∧ ∃ (v32 : Int32) (I33 : Nat → Nat → Int32) (J34 : Nat → Nat → Int64) (tg35 : Option Nat), Runs (GW L xs) d 164 (0, [.int a3, .int 0, .int (I29 3 ((a1).toNatClampNeg))], [], (zS I29 J30 tg31)) ((some (.int v32)), (zS I33 J34 tg35)) ∧ (if v32 = 0 then (r = (some (.int (-1)), (zS I33 J34 tg35))) else (∃ (I36 : Nat → Nat → Int32) (J37 : Nat → Nat → Int64) (tg38 : Option Nat), Runs (GW L xs) d 8 (0, [.ref 79, .int a1, .int a2, .int a3, vU, vU, vU], [], (zS I33 J34 tg35)) (none, (zS I36 J37 tg38)) ∧ (if a4 = 0 then (r = (some (.int (I36 79 12)), (zS I36 J37 tg38))) else (r = (some (.int (I36 79 13)), (zS I36 J37 tg38)))))))))))))) : Runs (GW L xs) (d + 1) 147 (0, [.ref 0, .int a1, .int a2, .int a3, .int a4], [], (zS I J tg)) r := by
  refine Runs.sN 3 (c' := (5, [.ref 0, .int a1, .int a2, .int a3, .int a4], [.int a1, .ref 1], (zS I J tg))) rfl ?_
  obtain ⟨v20, I21, J22, tg23, c39, h⟩ := h
  refine Runs.cl (cm := 44) (as := [.ref 1, .int a1]) (rest := []) (r1 := ((some (.int v20)), (zS I21 J22 tg23))) rfl (Nat.le_of_ble_eq_true rfl) c39 ?_
  refine Runs.as (c' := (8, [.ref 0, .int a1, .int a2, .int a3, .int a4], [.int v20], (zS I21 J22 tg23))) rfl ?_
  by_cases c40 : v20 = 0
  · rw [if_pos c40] at h
    refine Runs.brT (P := v20 = 0) (a := 28) (b := 11) (L := [.ref 0, .int a1, .int a2, .int a3, .int a4]) (S := []) (z := (zS I21 J22 tg23)) rfl c40 ?_
    refine Runs.sN 1 (c' := (29, [.ref 0, .int a1, .int a2, .int a3, .int a4], [.int (-1)], (zS I21 J22 tg23))) rfl ?_
    subst h
    exact Runs.rt rfl
  · rw [if_neg c40] at h
    refine Runs.brF (P := v20 = 0) (a := 28) (b := 11) (L := [.ref 0, .int a1, .int a2, .int a3, .int a4]) (S := []) (z := (zS I21 J22 tg23)) rfl c40 ?_
    refine Runs.sN 1 (c' := (12, [.ref 0, .int a1, .int a2, .int a3, .int a4], [.int a2], (zS I21 J22 tg23))) rfl ?_
    obtain ⟨v24, I25, J26, tg27, c41, h⟩ := h
    refine Runs.cl (cm := 166) (as := [.int a2]) (rest := []) (r1 := ((some (.int v24)), (zS I25 J26 tg27))) rfl (Nat.le_of_ble_eq_true rfl) c41 ?_
    refine Runs.as (c' := (15, [.ref 0, .int a1, .int a2, .int a3, .int a4], [.int v24], (zS I25 J26 tg27))) rfl ?_
    by_cases c42 : v24 = 0
    · rw [if_pos c42] at h
      refine Runs.brT (P := v24 = 0) (a := 28) (b := 18) (L := [.ref 0, .int a1, .int a2, .int a3, .int a4]) (S := []) (z := (zS I25 J26 tg27)) rfl c42 ?_
      refine Runs.sN 1 (c' := (29, [.ref 0, .int a1, .int a2, .int a3, .int a4], [.int (-1)], (zS I25 J26 tg27))) rfl ?_
      subst h
      exact Runs.rt rfl
    · rw [if_neg c42] at h
      refine Runs.brF (P := v24 = 0) (a := 28) (b := 18) (L := [.ref 0, .int a1, .int a2, .int a3, .int a4]) (S := []) (z := (zS I25 J26 tg27)) rfl c42 ?_
      refine Runs.sN 3 (c' := (22, [.ref 0, .int a1, .int a2, .int a3, .int a4], [.int 1, .int 0, .int a4], (zS I25 J26 tg27))) rfl ?_
      obtain ⟨v28, I29, J30, tg31, c43, h⟩ := h
      refine Runs.cl (cm := 164) (as := [.int a4, .int 0, .int 1]) (rest := []) (r1 := ((some (.int v28)), (zS I29 J30 tg31))) rfl (Nat.le_of_ble_eq_true rfl) c43 ?_
      refine Runs.as (c' := (25, [.ref 0, .int a1, .int a2, .int a3, .int a4], [.int v28], (zS I29 J30 tg31))) rfl ?_
      by_cases c44 : v28 = 0
      · rw [if_pos c44] at h
        refine Runs.brT (P := v28 = 0) (a := 28) (b := 30) (L := [.ref 0, .int a1, .int a2, .int a3, .int a4]) (S := []) (z := (zS I29 J30 tg31)) rfl c44 ?_
        refine Runs.sN 1 (c' := (29, [.ref 0, .int a1, .int a2, .int a3, .int a4], [.int (-1)], (zS I29 J30 tg31))) rfl ?_
        subst h
        exact Runs.rt rfl
      · rw [if_neg c44] at h
        refine Runs.brF (P := v28 = 0) (a := 28) (b := 30) (L := [.ref 0, .int a1, .int a2, .int a3, .int a4]) (S := []) (z := (zS I29 J30 tg31)) rfl c44 ?_
        refine Runs.sN 6 (c' := (40, [.ref 0, .int a1, .int a2, .int a3, .int a4], [.int a1, .ref 3, .int 0, .int a3], (zS I29 J30 tg31))) rfl ?_
        obtain ⟨c45, h⟩ := h
        refine Runs.to (c' := (41, [.ref 0, .int a1, .int a2, .int a3, .int a4], [.int (I29 3 ((a1).toNatClampNeg)), .int 0, .int a3], (zS I29 J30 tg31))) (Runs.ild rfl (show (3 : Nat) < 114 by decide) rfl c45) ?_
        obtain ⟨v32, I33, J34, tg35, c46, h⟩ := h
        refine Runs.cl (cm := 164) (as := [.int a3, .int 0, .int (I29 3 ((a1).toNatClampNeg))]) (rest := []) (r1 := ((some (.int v32)), (zS I33 J34 tg35))) rfl (Nat.le_of_ble_eq_true rfl) c46 ?_
        refine Runs.as (c' := (44, [.ref 0, .int a1, .int a2, .int a3, .int a4], [.int v32], (zS I33 J34 tg35))) rfl ?_
        by_cases c47 : v32 = 0
        · rw [if_pos c47] at h
          refine Runs.brT (P := v32 = 0) (a := 47) (b := 49) (L := [.ref 0, .int a1, .int a2, .int a3, .int a4]) (S := []) (z := (zS I33 J34 tg35)) rfl c47 ?_
          refine Runs.sN 1 (c' := (48, [.ref 0, .int a1, .int a2, .int a3, .int a4], [.int (-1)], (zS I33 J34 tg35))) rfl ?_
          subst h
          exact Runs.rt rfl
        · rw [if_neg c47] at h
          refine Runs.brF (P := v32 = 0) (a := 47) (b := 49) (L := [.ref 0, .int a1, .int a2, .int a3, .int a4]) (S := []) (z := (zS I33 J34 tg35)) rfl c47 ?_
          refine Runs.sN 5 (c' := (56, [.ref 0, .int a1, .int a2, .int a3, .int a4], [.int a3, .int a2, .int a1, .ref 79], (zS I33 J34 tg35))) rfl ?_
          obtain ⟨I36, J37, tg38, c48, h⟩ := h
          refine Runs.cl (cm := 8) (as := [.ref 79, .int a1, .int a2, .int a3]) (rest := []) (r1 := (none, (zS I36 J37 tg38))) rfl (Nat.le_of_ble_eq_true rfl) c48 ?_
          refine Runs.as (c' := (59, [.ref 0, .int a1, .int a2, .int a3, .int a4], [], (zS I36 J37 tg38))) rfl ?_
          refine Runs.sN 1 (c' := (61, [.ref 0, .int a1, .int a2, .int a3, .int a4], [.int a4], (zS I36 J37 tg38))) rfl ?_
          by_cases c49 : a4 = 0
          · rw [if_pos c49] at h
            refine Runs.brT (P := a4 = 0) (a := 64) (b := 74) (L := [.ref 0, .int a1, .int a2, .int a3, .int a4]) (S := []) (z := (zS I36 J37 tg38)) rfl c49 ?_
            refine Runs.sN 4 (c' := (81, [.ref 0, .int a1, .int a2, .int a3, .int a4], [.int (I36 79 12)], (zS I36 J37 tg38))) rfl ?_
            subst h
            exact Runs.rt rfl
          · rw [if_neg c49] at h
            refine Runs.brF (P := a4 = 0) (a := 64) (b := 74) (L := [.ref 0, .int a1, .int a2, .int a3, .int a4]) (S := []) (z := (zS I36 J37 tg38)) rfl c49 ?_
            refine Runs.sN 3 (c' := (81, [.ref 0, .int a1, .int a2, .int a3, .int a4], [.int (I36 79 13)], (zS I36 J37 tg38))) rfl ?_
            subst h
            exact Runs.rt rfl
-- X11_teach 
theorem sg_148 {L d : Nat} {xs : Nat → Int32} (I : Nat → Nat → Int32) (J : Nat → Nat → Int64) (tg : Option Nat) (a1 : Int32) (a2 : Int32) {r : Option Value × SS} (h : (∃ (v13 : Int32) (I14 : Nat → Nat → Int32) (J15 : Nat → Nat → Int64) (tg16 : Option Nat), Runs (GW L xs) d 44 (0, [.ref 1, .int a1], [], (zS I J tg)) ((some (.int v13)), (zS I14 J15 tg16)) ∧ (if v13 = 0 then (r = (some (.int (-1)), (zS I14 J15 tg16))) else (∃ (v17 : Int32) (I18 : Nat → Nat → Int32) (J19 : Nat → Nat → Int64) (tg20 : Option Nat), Runs (GW L xs) d 165 (0, [.int a2], [], (zS I14 J15 tg16)) ((some (.int v17)), (zS I18 J19 tg20)) ∧ (if v17 = 0 then (r = (some (.int (-1)), (zS I18 J19 tg20))) else (¬ (((a1 * 6) + a2) < 0 ∨ 72 ≤ ((a1 * 6) + a2).toNatClampNeg) ∧ ∃ (v21 : Int32) (I22 : Nat → Nat → Int32) (J23 : Nat → Nat → Int64) (tg24 : Option Nat), Runs (GW L xs) d 110 (0, [.ref 7, .int (I18 12 (((a1 * 6) + a2).toNatClampNeg))], [], (zS I18 J19 tg20)) ((some (.int v21)), (zS I22 J23 tg24)) ∧ ¬ (((a1 * 6) + a2) < 0 ∨ 72 ≤ ((a1 * 6) + a2).toNatClampNeg) ∧ ¬ (((a1 * 6) + a2) < 0 ∨ 72 ≤ ((a1 * 6) + a2).toNatClampNeg) ∧ r = (some (.int ((up2 I22 12 (((a1 * 6) + a2).toNatClampNeg) v21) 12 (((a1 * 6) + a2).toNatClampNeg))), (zS (up2 I22 12 (((a1 * 6) + a2).toNatClampNeg) v21) J23 tg24)))))))) : Runs (GW L xs) (d + 1) 148 (0, [.ref 0, .int a1, .int a2, vU], [], (zS I J tg)) r := by
  refine Runs.sN 3 (c' := (5, [.ref 0, .int a1, .int a2, vU], [.int a1, .ref 1], (zS I J tg))) rfl ?_
  obtain ⟨v13, I14, J15, tg16, c25, h⟩ := h
  refine Runs.cl (cm := 44) (as := [.ref 1, .int a1]) (rest := []) (r1 := ((some (.int v13)), (zS I14 J15 tg16))) rfl (Nat.le_of_ble_eq_true rfl) c25 ?_
  refine Runs.as (c' := (8, [.ref 0, .int a1, .int a2, vU], [.int v13], (zS I14 J15 tg16))) rfl ?_
  by_cases c26 : v13 = 0
  · rw [if_pos c26] at h
    refine Runs.brT (P := v13 = 0) (a := 18) (b := 11) (L := [.ref 0, .int a1, .int a2, vU]) (S := []) (z := (zS I14 J15 tg16)) rfl c26 ?_
    refine Runs.sN 1 (c' := (19, [.ref 0, .int a1, .int a2, vU], [.int (-1)], (zS I14 J15 tg16))) rfl ?_
    subst h
    exact Runs.rt rfl
  · rw [if_neg c26] at h
    refine Runs.brF (P := v13 = 0) (a := 18) (b := 11) (L := [.ref 0, .int a1, .int a2, vU]) (S := []) (z := (zS I14 J15 tg16)) rfl c26 ?_
    refine Runs.sN 1 (c' := (12, [.ref 0, .int a1, .int a2, vU], [.int a2], (zS I14 J15 tg16))) rfl ?_
    obtain ⟨v17, I18, J19, tg20, c27, h⟩ := h
    refine Runs.cl (cm := 165) (as := [.int a2]) (rest := []) (r1 := ((some (.int v17)), (zS I18 J19 tg20))) rfl (Nat.le_of_ble_eq_true rfl) c27 ?_
    refine Runs.as (c' := (15, [.ref 0, .int a1, .int a2, vU], [.int v17], (zS I18 J19 tg20))) rfl ?_
    by_cases c28 : v17 = 0
    · rw [if_pos c28] at h
      refine Runs.brT (P := v17 = 0) (a := 18) (b := 20) (L := [.ref 0, .int a1, .int a2, vU]) (S := []) (z := (zS I18 J19 tg20)) rfl c28 ?_
      refine Runs.sN 1 (c' := (19, [.ref 0, .int a1, .int a2, vU], [.int (-1)], (zS I18 J19 tg20))) rfl ?_
      subst h
      exact Runs.rt rfl
    · rw [if_neg c28] at h
      refine Runs.brF (P := v17 = 0) (a := 18) (b := 20) (L := [.ref 0, .int a1, .int a2, vU]) (S := []) (z := (zS I18 J19 tg20)) rfl c28 ?_
      refine Runs.sN 16 (c' := (47, [.ref 0, .int a1, .int a2, .int ((a1 * 6) + a2)], [.int ((a1 * 6) + a2), .ref 12, .ref 7, .int ((a1 * 6) + a2), .ref 12], (zS I18 J19 tg20))) rfl ?_
      obtain ⟨c29, h⟩ := h
      refine Runs.to (c' := (48, [.ref 0, .int a1, .int a2, .int ((a1 * 6) + a2)], [.int (I18 12 (((a1 * 6) + a2).toNatClampNeg)), .ref 7, .int ((a1 * 6) + a2), .ref 12], (zS I18 J19 tg20))) (Runs.ild rfl (show (12 : Nat) < 114 by decide) rfl c29) ?_
      obtain ⟨v21, I22, J23, tg24, c30, h⟩ := h
      refine Runs.cl (cm := 110) (as := [.ref 7, .int (I18 12 (((a1 * 6) + a2).toNatClampNeg))]) (rest := [.int ((a1 * 6) + a2), .ref 12]) (r1 := ((some (.int v21)), (zS I22 J23 tg24))) rfl (Nat.le_of_ble_eq_true rfl) c30 ?_
      refine Runs.as (c' := (51, [.ref 0, .int a1, .int a2, .int ((a1 * 6) + a2)], [.int v21, .int ((a1 * 6) + a2), .ref 12], (zS I22 J23 tg24))) rfl ?_
      obtain ⟨c31, h⟩ := h
      refine Runs.to (c' := (52, [.ref 0, .int a1, .int a2, .int ((a1 * 6) + a2)], [], (zS (up2 I22 12 (((a1 * 6) + a2).toNatClampNeg) v21) J23 tg24))) (Runs.ist rfl (show (12 : Nat) < 114 by decide) rfl c31) ?_
      refine Runs.sN 4 (c' := (60, [.ref 0, .int a1, .int a2, .int ((a1 * 6) + a2)], [.int ((a1 * 6) + a2), .ref 12], (zS (up2 I22 12 (((a1 * 6) + a2).toNatClampNeg) v21) J23 tg24))) rfl ?_
      obtain ⟨c32, h⟩ := h
      refine Runs.to (c' := (61, [.ref 0, .int a1, .int a2, .int ((a1 * 6) + a2)], [.int ((up2 I22 12 (((a1 * 6) + a2).toNatClampNeg) v21) 12 (((a1 * 6) + a2).toNatClampNeg))], (zS (up2 I22 12 (((a1 * 6) + a2).toNatClampNeg) v21) J23 tg24))) (Runs.ild rfl (show (12 : Nat) < 114 by decide) rfl c32) ?_
      subst h
      exact Runs.rt rfl
-- X11_weeks 
theorem sg_149 {L d : Nat} {xs : Nat → Int32} (I : Nat → Nat → Int32) (J : Nat → Nat → Int64) (tg : Option Nat) (a1 : Int32) {r : Option Value × SS} (h : (∃ (v13 : Int32) (I14 : Nat → Nat → Int32) (J15 : Nat → Nat → Int64) (tg16 : Option Nat), Runs (GW L xs) d 164 (0, [.int a1, .int 1, .int 50], [], (zS I J tg)) ((some (.int v13)), (zS I14 J15 tg16)) ∧ (if v13 = 0 then (r = (some (.int (-1)), (zS I14 J15 tg16))) else (Runs (GW L xs) (d + 1) 149 (14, [.ref 0, .int a1, .int 0], [], (zS I14 J15 tg16)) r)))) : Runs (GW L xs) (d + 1) 149 (0, [.ref 0, .int a1, vU], [], (zS I J tg)) r := by
  refine Runs.sN 3 (c' := (4, [.ref 0, .int a1, vU], [.int 50, .int 1, .int a1], (zS I J tg))) rfl ?_
  obtain ⟨v13, I14, J15, tg16, c17, h⟩ := h
  refine Runs.cl (cm := 164) (as := [.int a1, .int 1, .int 50]) (rest := []) (r1 := ((some (.int v13)), (zS I14 J15 tg16))) rfl (Nat.le_of_ble_eq_true rfl) c17 ?_
  refine Runs.as (c' := (7, [.ref 0, .int a1, vU], [.int v13], (zS I14 J15 tg16))) rfl ?_
  by_cases c18 : v13 = 0
  · rw [if_pos c18] at h
    refine Runs.brT (P := v13 = 0) (a := 10) (b := 12) (L := [.ref 0, .int a1, vU]) (S := []) (z := (zS I14 J15 tg16)) rfl c18 ?_
    refine Runs.sN 1 (c' := (11, [.ref 0, .int a1, vU], [.int (-1)], (zS I14 J15 tg16))) rfl ?_
    subst h
    exact Runs.rt rfl
  · rw [if_neg c18] at h
    refine Runs.brF (P := v13 = 0) (a := 10) (b := 12) (L := [.ref 0, .int a1, vU]) (S := []) (z := (zS I14 J15 tg16)) rfl c18 ?_
    refine Runs.sN 2 (c' := (14, [.ref 0, .int a1, .int 0], [], (zS I14 J15 tg16))) rfl ?_
    exact h
theorem sg_149_14 {L d : Nat} {xs : Nat → Int32} (I : Nat → Nat → Int32) (J : Nat → Nat → Int64) (tg : Option Nat) (x1 : Int32) (x2 : Int32) {r : Option Value × SS} (h : ((if (nI 72) ≤ x2 then (r = (some (.int x1), (zS I J tg))) else (¬ (x2 < 0 ∨ 72 ≤ (x2).toNatClampNeg) ∧ ∃ (v1 : Int32) (I2 : Nat → Nat → Int32) (J3 : Nat → Nat → Int64) (tg4 : Option Nat), Runs (GW L xs) d 111 (0, [.ref 7, .int (I 12 ((x2).toNatClampNeg)), .int x1, vU, vU], [], (zS I J tg)) ((some (.int v1)), (zS I2 J3 tg4)) ∧ ¬ (x2 < 0 ∨ 72 ≤ (x2).toNatClampNeg) ∧ Runs (GW L xs) (d + 1) 149 (14, [.ref 0, .int x1, .int (x2 + 1)], [], (zS (up2 I2 12 ((x2).toNatClampNeg) v1) J3 tg4)) r)))) : Runs (GW L xs) (d + 1) 149 (14, [.ref 0, .int x1, .int x2], [], (zS I J tg)) r := by
  refine Runs.sN 5 (c' := (23, [.ref 0, .int x1, .int x2], [.int (nI 72), .int x2], (zS I J tg))) rfl ?_
  by_cases c5 : (nI 72) ≤ x2
  · rw [if_pos c5] at h
    refine Runs.brT (P := (nI 72) ≤ x2) (a := 58) (b := 26) (L := [.ref 0, .int x1, .int x2]) (S := []) (z := (zS I J tg)) rfl c5 ?_
    refine Runs.sN 1 (c' := (59, [.ref 0, .int x1, .int x2], [.int x1], (zS I J tg))) rfl ?_
    subst h
    exact Runs.rt rfl
  · rw [if_neg c5] at h
    refine Runs.brF (P := (nI 72) ≤ x2) (a := 58) (b := 26) (L := [.ref 0, .int x1, .int x2]) (S := []) (z := (zS I J tg)) rfl c5 ?_
    refine Runs.sN 10 (c' := (46, [.ref 0, .int x1, .int x2], [.int x2, .ref 12, .ref 7, .int x2, .ref 12], (zS I J tg))) rfl ?_
    obtain ⟨c6, h⟩ := h
    refine Runs.to (c' := (47, [.ref 0, .int x1, .int x2], [.int (I 12 ((x2).toNatClampNeg)), .ref 7, .int x2, .ref 12], (zS I J tg))) (Runs.ild rfl (show (12 : Nat) < 114 by decide) rfl c6) ?_
    refine Runs.sN 1 (c' := (48, [.ref 0, .int x1, .int x2], [.int x1, .int (I 12 ((x2).toNatClampNeg)), .ref 7, .int x2, .ref 12], (zS I J tg))) rfl ?_
    obtain ⟨v1, I2, J3, tg4, c7, h⟩ := h
    refine Runs.cl (cm := 111) (as := [.ref 7, .int (I 12 ((x2).toNatClampNeg)), .int x1]) (rest := [.int x2, .ref 12]) (r1 := ((some (.int v1)), (zS I2 J3 tg4))) rfl (Nat.le_of_ble_eq_true rfl) c7 ?_
    refine Runs.as (c' := (51, [.ref 0, .int x1, .int x2], [.int v1, .int x2, .ref 12], (zS I2 J3 tg4))) rfl ?_
    obtain ⟨c8, h⟩ := h
    refine Runs.to (c' := (52, [.ref 0, .int x1, .int x2], [], (zS (up2 I2 12 ((x2).toNatClampNeg) v1) J3 tg4))) (Runs.ist rfl (show (12 : Nat) < 114 by decide) rfl c8) ?_
    refine Runs.sN 2 (c' := (14, [.ref 0, .int x1, .int (x2 + 1)], [], (zS (up2 I2 12 ((x2).toNatClampNeg) v1) J3 tg4))) rfl ?_
    exact h
-- X11_tellings 
theorem sg_150 {L d : Nat} {xs : Nat → Int32} (I : Nat → Nat → Int32) (J : Nat → Nat → Int64) (tg : Option Nat) (a1 : Int32) (a2 : Int32) (a3 : Int32) {r : Option Value × SS} (h : (∃ (v33 : Int32) (I34 : Nat → Nat → Int32) (J35 : Nat → Nat → Int64) (tg36 : Option Nat), Runs (GW L xs) d 44 (0, [.ref 1, .int a1], [], (zS I J tg)) ((some (.int v33)), (zS I34 J35 tg36)) ∧ (if v33 = 0 then (r = (some (.int (-1)), (zS I34 J35 tg36))) else (∃ (v37 : Int32) (I38 : Nat → Nat → Int32) (J39 : Nat → Nat → Int64) (tg40 : Option Nat), Runs (GW L xs) d 165 (0, [.int a2], [], (zS I34 J35 tg36)) ((some (.int v37)), (zS I38 J39 tg40)) ∧ (if v37 = 0 then (r = (some (.int (-1)), (zS I38 J39 tg40))) else (∃ (v41 : Int32) (I42 : Nat → Nat → Int32) (J43 : Nat → Nat → Int64) (tg44 : Option Nat), Runs (GW L xs) d 164 (0, [.int a3, .int 0, .int 50], [], (zS I38 J39 tg40)) ((some (.int v41)), (zS I42 J43 tg44)) ∧ (if v41 = 0 then (r = (some (.int (-1)), (zS I42 J43 tg44))) else (¬ (((a1 * 6) + a2) < 0 ∨ 72 ≤ ((a1 * 6) + a2).toNatClampNeg) ∧ Runs (GW L xs) (d + 1) 150 (49, [.ref 0, .int a1, .int a2, .int a3, .int (I42 12 (((a1 * 6) + a2).toNatClampNeg)), .int 0], [], (zS I42 J43 tg44)) r)))))))) : Runs (GW L xs) (d + 1) 150 (0, [.ref 0, .int a1, .int a2, .int a3, vU, vU], [], (zS I J tg)) r := by
  refine Runs.sN 3 (c' := (5, [.ref 0, .int a1, .int a2, .int a3, vU, vU], [.int a1, .ref 1], (zS I J tg))) rfl ?_
  obtain ⟨v33, I34, J35, tg36, c45, h⟩ := h
  refine Runs.cl (cm := 44) (as := [.ref 1, .int a1]) (rest := []) (r1 := ((some (.int v33)), (zS I34 J35 tg36))) rfl (Nat.le_of_ble_eq_true rfl) c45 ?_
  refine Runs.as (c' := (8, [.ref 0, .int a1, .int a2, .int a3, vU, vU], [.int v33], (zS I34 J35 tg36))) rfl ?_
  by_cases c46 : v33 = 0
  · rw [if_pos c46] at h
    refine Runs.brT (P := v33 = 0) (a := 28) (b := 11) (L := [.ref 0, .int a1, .int a2, .int a3, vU, vU]) (S := []) (z := (zS I34 J35 tg36)) rfl c46 ?_
    refine Runs.sN 1 (c' := (29, [.ref 0, .int a1, .int a2, .int a3, vU, vU], [.int (-1)], (zS I34 J35 tg36))) rfl ?_
    subst h
    exact Runs.rt rfl
  · rw [if_neg c46] at h
    refine Runs.brF (P := v33 = 0) (a := 28) (b := 11) (L := [.ref 0, .int a1, .int a2, .int a3, vU, vU]) (S := []) (z := (zS I34 J35 tg36)) rfl c46 ?_
    refine Runs.sN 1 (c' := (12, [.ref 0, .int a1, .int a2, .int a3, vU, vU], [.int a2], (zS I34 J35 tg36))) rfl ?_
    obtain ⟨v37, I38, J39, tg40, c47, h⟩ := h
    refine Runs.cl (cm := 165) (as := [.int a2]) (rest := []) (r1 := ((some (.int v37)), (zS I38 J39 tg40))) rfl (Nat.le_of_ble_eq_true rfl) c47 ?_
    refine Runs.as (c' := (15, [.ref 0, .int a1, .int a2, .int a3, vU, vU], [.int v37], (zS I38 J39 tg40))) rfl ?_
    by_cases c48 : v37 = 0
    · rw [if_pos c48] at h
      refine Runs.brT (P := v37 = 0) (a := 28) (b := 18) (L := [.ref 0, .int a1, .int a2, .int a3, vU, vU]) (S := []) (z := (zS I38 J39 tg40)) rfl c48 ?_
      refine Runs.sN 1 (c' := (29, [.ref 0, .int a1, .int a2, .int a3, vU, vU], [.int (-1)], (zS I38 J39 tg40))) rfl ?_
      subst h
      exact Runs.rt rfl
    · rw [if_neg c48] at h
      refine Runs.brF (P := v37 = 0) (a := 28) (b := 18) (L := [.ref 0, .int a1, .int a2, .int a3, vU, vU]) (S := []) (z := (zS I38 J39 tg40)) rfl c48 ?_
      refine Runs.sN 3 (c' := (22, [.ref 0, .int a1, .int a2, .int a3, vU, vU], [.int 50, .int 0, .int a3], (zS I38 J39 tg40))) rfl ?_
      obtain ⟨v41, I42, J43, tg44, c49, h⟩ := h
      refine Runs.cl (cm := 164) (as := [.int a3, .int 0, .int 50]) (rest := []) (r1 := ((some (.int v41)), (zS I42 J43 tg44))) rfl (Nat.le_of_ble_eq_true rfl) c49 ?_
      refine Runs.as (c' := (25, [.ref 0, .int a1, .int a2, .int a3, vU, vU], [.int v41], (zS I42 J43 tg44))) rfl ?_
      by_cases c50 : v41 = 0
      · rw [if_pos c50] at h
        refine Runs.brT (P := v41 = 0) (a := 28) (b := 30) (L := [.ref 0, .int a1, .int a2, .int a3, vU, vU]) (S := []) (z := (zS I42 J43 tg44)) rfl c50 ?_
        refine Runs.sN 1 (c' := (29, [.ref 0, .int a1, .int a2, .int a3, vU, vU], [.int (-1)], (zS I42 J43 tg44))) rfl ?_
        subst h
        exact Runs.rt rfl
      · rw [if_neg c50] at h
        refine Runs.brF (P := v41 = 0) (a := 28) (b := 30) (L := [.ref 0, .int a1, .int a2, .int a3, vU, vU]) (S := []) (z := (zS I42 J43 tg44)) rfl c50 ?_
        refine Runs.sN 8 (c' := (43, [.ref 0, .int a1, .int a2, .int a3, vU, vU], [.int ((a1 * 6) + a2), .ref 12], (zS I42 J43 tg44))) rfl ?_
        obtain ⟨c51, h⟩ := h
        refine Runs.to (c' := (44, [.ref 0, .int a1, .int a2, .int a3, vU, vU], [.int (I42 12 (((a1 * 6) + a2).toNatClampNeg))], (zS I42 J43 tg44))) (Runs.ild rfl (show (12 : Nat) < 114 by decide) rfl c51) ?_
        refine Runs.sN 3 (c' := (49, [.ref 0, .int a1, .int a2, .int a3, .int (I42 12 (((a1 * 6) + a2).toNatClampNeg)), .int 0], [], (zS I42 J43 tg44))) rfl ?_
        exact h
theorem sg_150_49 {L d : Nat} {xs : Nat → Int32} (I : Nat → Nat → Int32) (J : Nat → Nat → Int64) (tg : Option Nat) (x1 : Int32) (x2 : Int32) (x3 : Int32) (x4 : Int32) (x5 : Int32) {r : Option Value × SS} (h : ((if 100 < x5 then (r = (some (.int (-1)), (zS I J tg))) else (∃ (v1 : Int32) (I2 : Nat → Nat → Int32) (J3 : Nat → Nat → Int64) (tg4 : Option Nat), Runs (GW L xs) d 111 (0, [.ref 7, .int x4, .int x3, vU, vU], [], (zS I J tg)) ((some (.int v1)), (zS I2 J3 tg4)) ∧ (if v1 < 500 then (∃ (v5 : Int32) (I6 : Nat → Nat → Int32) (J7 : Nat → Nat → Int64) (tg8 : Option Nat), Runs (GW L xs) d 110 (0, [.ref 7, .int x4], [], (zS I2 J3 tg4)) ((some (.int v5)), (zS I6 J7 tg8)) ∧ Runs (GW L xs) (d + 1) 150 (49, [.ref 0, .int x1, .int x2, .int x3, .int v5, .int (x5 + 1)], [], (zS I6 J7 tg8)) r) else (r = (some (.int x5), (zS I2 J3 tg4)))))))) : Runs (GW L xs) (d + 1) 150 (49, [.ref 0, .int x1, .int x2, .int x3, .int x4, .int x5], [], (zS I J tg)) r := by
  refine Runs.sN 2 (c' := (53, [.ref 0, .int x1, .int x2, .int x3, .int x4, .int x5], [.int 100, .int x5], (zS I J tg))) rfl ?_
  by_cases c9 : 100 < x5
  · rw [if_pos c9] at h
    refine Runs.brT (P := 100 < x5) (a := 92) (b := 56) (L := [.ref 0, .int x1, .int x2, .int x3, .int x4, .int x5]) (S := []) (z := (zS I J tg)) rfl c9 ?_
    refine Runs.sN 1 (c' := (93, [.ref 0, .int x1, .int x2, .int x3, .int x4, .int x5], [.int (-1)], (zS I J tg))) rfl ?_
    subst h
    exact Runs.rt rfl
  · rw [if_neg c9] at h
    refine Runs.brF (P := 100 < x5) (a := 92) (b := 56) (L := [.ref 0, .int x1, .int x2, .int x3, .int x4, .int x5]) (S := []) (z := (zS I J tg)) rfl c9 ?_
    refine Runs.sN 4 (c' := (63, [.ref 0, .int x1, .int x2, .int x3, .int x4, .int x5], [.int x3, .int x4, .ref 7], (zS I J tg))) rfl ?_
    obtain ⟨v1, I2, J3, tg4, c10, h⟩ := h
    refine Runs.cl (cm := 111) (as := [.ref 7, .int x4, .int x3]) (rest := []) (r1 := ((some (.int v1)), (zS I2 J3 tg4))) rfl (Nat.le_of_ble_eq_true rfl) c10 ?_
    refine Runs.as (c' := (66, [.ref 0, .int x1, .int x2, .int x3, .int x4, .int x5], [.int v1], (zS I2 J3 tg4))) rfl ?_
    refine Runs.sN 1 (c' := (69, [.ref 0, .int x1, .int x2, .int x3, .int x4, .int x5], [.int 500, .int v1], (zS I2 J3 tg4))) rfl ?_
    by_cases c11 : v1 < 500
    · rw [if_pos c11] at h
      refine Runs.brT (P := v1 < 500) (a := 75) (b := 72) (L := [.ref 0, .int x1, .int x2, .int x3, .int x4, .int x5]) (S := []) (z := (zS I2 J3 tg4)) rfl c11 ?_
      refine Runs.sN 3 (c' := (81, [.ref 0, .int x1, .int x2, .int x3, .int x4, .int x5], [.int x4, .ref 7], (zS I2 J3 tg4))) rfl ?_
      obtain ⟨v5, I6, J7, tg8, c12, h⟩ := h
      refine Runs.cl (cm := 110) (as := [.ref 7, .int x4]) (rest := []) (r1 := ((some (.int v5)), (zS I6 J7 tg8))) rfl (Nat.le_of_ble_eq_true rfl) c12 ?_
      refine Runs.as (c' := (84, [.ref 0, .int x1, .int x2, .int x3, .int x4, .int x5], [.int v5], (zS I6 J7 tg8))) rfl ?_
      refine Runs.sN 3 (c' := (49, [.ref 0, .int x1, .int x2, .int x3, .int v5, .int (x5 + 1)], [], (zS I6 J7 tg8))) rfl ?_
      exact h
    · rw [if_neg c11] at h
      refine Runs.brF (P := v1 < 500) (a := 75) (b := 72) (L := [.ref 0, .int x1, .int x2, .int x3, .int x4, .int x5]) (S := []) (z := (zS I2 J3 tg4)) rfl c11 ?_
      refine Runs.sN 1 (c' := (74, [.ref 0, .int x1, .int x2, .int x3, .int x4, .int x5], [.int x5], (zS I2 J3 tg4))) rfl ?_
      subst h
      exact Runs.rt rfl
-- X11_anybody 
theorem sg_151 {L d : Nat} {xs : Nat → Int32} (I : Nat → Nat → Int32) (J : Nat → Nat → Int64) (tg : Option Nat) (a1 : Int32) (a2 : Int32) (a3 : Int32) (a4 : Int32) {r : Option Value × SS} (h : (∃ (v20 : Int32) (I21 : Nat → Nat → Int32) (J22 : Nat → Nat → Int64) (tg23 : Option Nat), Runs (GW L xs) d 44 (0, [.ref 1, .int a1], [], (zS I J tg)) ((some (.int v20)), (zS I21 J22 tg23)) ∧ (if v20 = 0 then (r = (some (.int (-1)), (zS I21 J22 tg23))) else (∃ (v24 : Int32) (I25 : Nat → Nat → Int32) (J26 : Nat → Nat → Int64) (tg27 : Option Nat), Runs (GW L xs) d 166 (0, [.int a2], [], (zS I21 J22 tg23)) ((some (.int v24)), (zS I25 J26 tg27)) ∧ (if v24 = 0 then (r = (some (.int (-1)), (zS I25 J26 tg27))) else (∃ (v28 : Int32) (I29 : Nat → Nat → Int32) (J30 : Nat → Nat → Int64) (tg31 : Option Nat), Runs (GW L xs) d 164 (0, [.int a3, .int 0, .int (I25 1 1)], [], (zS I25 J26 tg27)) ((some (.int v28)), (zS I29 J30 tg31)) ∧ (if v28 = 0 then (r = (some (.int (-1)), (zS I29 J30 tg31))) else (∃ (v32 : Int32) (I33 : Nat → Nat → Int32) (J34 : Nat → Nat → Int64) (tg35 : Option Nat), Runs (GW L xs) d 164 (0, [.int a4, .int 0, .int 1], [], (zS I29 J30 tg31)) ((some (.int v32)), (zS I33 J34 tg35)) ∧ (if v32 = 0 then (r = (some (.int (-1)), (zS I33 J34 tg35))) else (∃ (I36 : Nat → Nat → Int32) (J37 : Nat → Nat → Int64) (tg38 : Option Nat), Runs (GW L xs) d 107 (0, [.ref 75, .int a1, .int a2, .int a3, vU, vU], [], (zS I33 J34 tg35)) (none, (zS I36 J37 tg38)) ∧ (if a4 = 0 then (r = (some (.int (I36 75 11)), (zS I36 J37 tg38))) else (r = (some (.int (I36 75 12)), (zS I36 J37 tg38)))))))))))))) : Runs (GW L xs) (d + 1) 151 (0, [.ref 0, .int a1, .int a2, .int a3, .int a4], [], (zS I J tg)) r := by
  refine Runs.sN 3 (c' := (5, [.ref 0, .int a1, .int a2, .int a3, .int a4], [.int a1, .ref 1], (zS I J tg))) rfl ?_
  obtain ⟨v20, I21, J22, tg23, c39, h⟩ := h
  refine Runs.cl (cm := 44) (as := [.ref 1, .int a1]) (rest := []) (r1 := ((some (.int v20)), (zS I21 J22 tg23))) rfl (Nat.le_of_ble_eq_true rfl) c39 ?_
  refine Runs.as (c' := (8, [.ref 0, .int a1, .int a2, .int a3, .int a4], [.int v20], (zS I21 J22 tg23))) rfl ?_
  by_cases c40 : v20 = 0
  · rw [if_pos c40] at h
    refine Runs.brT (P := v20 = 0) (a := 43) (b := 11) (L := [.ref 0, .int a1, .int a2, .int a3, .int a4]) (S := []) (z := (zS I21 J22 tg23)) rfl c40 ?_
    refine Runs.sN 1 (c' := (44, [.ref 0, .int a1, .int a2, .int a3, .int a4], [.int (-1)], (zS I21 J22 tg23))) rfl ?_
    subst h
    exact Runs.rt rfl
  · rw [if_neg c40] at h
    refine Runs.brF (P := v20 = 0) (a := 43) (b := 11) (L := [.ref 0, .int a1, .int a2, .int a3, .int a4]) (S := []) (z := (zS I21 J22 tg23)) rfl c40 ?_
    refine Runs.sN 1 (c' := (12, [.ref 0, .int a1, .int a2, .int a3, .int a4], [.int a2], (zS I21 J22 tg23))) rfl ?_
    obtain ⟨v24, I25, J26, tg27, c41, h⟩ := h
    refine Runs.cl (cm := 166) (as := [.int a2]) (rest := []) (r1 := ((some (.int v24)), (zS I25 J26 tg27))) rfl (Nat.le_of_ble_eq_true rfl) c41 ?_
    refine Runs.as (c' := (15, [.ref 0, .int a1, .int a2, .int a3, .int a4], [.int v24], (zS I25 J26 tg27))) rfl ?_
    by_cases c42 : v24 = 0
    · rw [if_pos c42] at h
      refine Runs.brT (P := v24 = 0) (a := 43) (b := 18) (L := [.ref 0, .int a1, .int a2, .int a3, .int a4]) (S := []) (z := (zS I25 J26 tg27)) rfl c42 ?_
      refine Runs.sN 1 (c' := (44, [.ref 0, .int a1, .int a2, .int a3, .int a4], [.int (-1)], (zS I25 J26 tg27))) rfl ?_
      subst h
      exact Runs.rt rfl
    · rw [if_neg c42] at h
      refine Runs.brF (P := v24 = 0) (a := 43) (b := 18) (L := [.ref 0, .int a1, .int a2, .int a3, .int a4]) (S := []) (z := (zS I25 J26 tg27)) rfl c42 ?_
      refine Runs.sN 5 (c' := (27, [.ref 0, .int a1, .int a2, .int a3, .int a4], [.int (I25 1 1), .int 0, .int a3], (zS I25 J26 tg27))) rfl ?_
      obtain ⟨v28, I29, J30, tg31, c43, h⟩ := h
      refine Runs.cl (cm := 164) (as := [.int a3, .int 0, .int (I25 1 1)]) (rest := []) (r1 := ((some (.int v28)), (zS I29 J30 tg31))) rfl (Nat.le_of_ble_eq_true rfl) c43 ?_
      refine Runs.as (c' := (30, [.ref 0, .int a1, .int a2, .int a3, .int a4], [.int v28], (zS I29 J30 tg31))) rfl ?_
      by_cases c44 : v28 = 0
      · rw [if_pos c44] at h
        refine Runs.brT (P := v28 = 0) (a := 43) (b := 33) (L := [.ref 0, .int a1, .int a2, .int a3, .int a4]) (S := []) (z := (zS I29 J30 tg31)) rfl c44 ?_
        refine Runs.sN 1 (c' := (44, [.ref 0, .int a1, .int a2, .int a3, .int a4], [.int (-1)], (zS I29 J30 tg31))) rfl ?_
        subst h
        exact Runs.rt rfl
      · rw [if_neg c44] at h
        refine Runs.brF (P := v28 = 0) (a := 43) (b := 33) (L := [.ref 0, .int a1, .int a2, .int a3, .int a4]) (S := []) (z := (zS I29 J30 tg31)) rfl c44 ?_
        refine Runs.sN 3 (c' := (37, [.ref 0, .int a1, .int a2, .int a3, .int a4], [.int 1, .int 0, .int a4], (zS I29 J30 tg31))) rfl ?_
        obtain ⟨v32, I33, J34, tg35, c45, h⟩ := h
        refine Runs.cl (cm := 164) (as := [.int a4, .int 0, .int 1]) (rest := []) (r1 := ((some (.int v32)), (zS I33 J34 tg35))) rfl (Nat.le_of_ble_eq_true rfl) c45 ?_
        refine Runs.as (c' := (40, [.ref 0, .int a1, .int a2, .int a3, .int a4], [.int v32], (zS I33 J34 tg35))) rfl ?_
        by_cases c46 : v32 = 0
        · rw [if_pos c46] at h
          refine Runs.brT (P := v32 = 0) (a := 43) (b := 45) (L := [.ref 0, .int a1, .int a2, .int a3, .int a4]) (S := []) (z := (zS I33 J34 tg35)) rfl c46 ?_
          refine Runs.sN 1 (c' := (44, [.ref 0, .int a1, .int a2, .int a3, .int a4], [.int (-1)], (zS I33 J34 tg35))) rfl ?_
          subst h
          exact Runs.rt rfl
        · rw [if_neg c46] at h
          refine Runs.brF (P := v32 = 0) (a := 43) (b := 45) (L := [.ref 0, .int a1, .int a2, .int a3, .int a4]) (S := []) (z := (zS I33 J34 tg35)) rfl c46 ?_
          refine Runs.sN 5 (c' := (52, [.ref 0, .int a1, .int a2, .int a3, .int a4], [.int a3, .int a2, .int a1, .ref 75], (zS I33 J34 tg35))) rfl ?_
          obtain ⟨I36, J37, tg38, c47, h⟩ := h
          refine Runs.cl (cm := 107) (as := [.ref 75, .int a1, .int a2, .int a3]) (rest := []) (r1 := (none, (zS I36 J37 tg38))) rfl (Nat.le_of_ble_eq_true rfl) c47 ?_
          refine Runs.as (c' := (55, [.ref 0, .int a1, .int a2, .int a3, .int a4], [], (zS I36 J37 tg38))) rfl ?_
          refine Runs.sN 1 (c' := (57, [.ref 0, .int a1, .int a2, .int a3, .int a4], [.int a4], (zS I36 J37 tg38))) rfl ?_
          by_cases c48 : a4 = 0
          · rw [if_pos c48] at h
            refine Runs.brT (P := a4 = 0) (a := 60) (b := 70) (L := [.ref 0, .int a1, .int a2, .int a3, .int a4]) (S := []) (z := (zS I36 J37 tg38)) rfl c48 ?_
            refine Runs.sN 4 (c' := (77, [.ref 0, .int a1, .int a2, .int a3, .int a4], [.int (I36 75 11)], (zS I36 J37 tg38))) rfl ?_
            subst h
            exact Runs.rt rfl
          · rw [if_neg c48] at h
            refine Runs.brF (P := a4 = 0) (a := 60) (b := 70) (L := [.ref 0, .int a1, .int a2, .int a3, .int a4]) (S := []) (z := (zS I36 J37 tg38)) rfl c48 ?_
            refine Runs.sN 3 (c' := (77, [.ref 0, .int a1, .int a2, .int a3, .int a4], [.int (I36 75 12)], (zS I36 J37 tg38))) rfl ?_
            subst h
            exact Runs.rt rfl
-- X11_best 
theorem sg_152 {L d : Nat} {xs : Nat → Int32} (I : Nat → Nat → Int32) (J : Nat → Nat → Int64) (tg : Option Nat) (a1 : Int32) (a2 : Int32) (a3 : Int32) {r : Option Value × SS} (h : (∃ (v28 : Int32) (I29 : Nat → Nat → Int32) (J30 : Nat → Nat → Int64) (tg31 : Option Nat), Runs (GW L xs) d 47 (0, [.ref 1, .int a1], [], (zS I J tg)) ((some (.int v28)), (zS I29 J30 tg31)) ∧ (if v28 = 0 then (r = (some (.int (-1)), (zS I29 J30 tg31))) else (∃ (v32 : Int32) (I33 : Nat → Nat → Int32) (J34 : Nat → Nat → Int64) (tg35 : Option Nat), Runs (GW L xs) d 166 (0, [.int a2], [], (zS I29 J30 tg31)) ((some (.int v32)), (zS I33 J34 tg35)) ∧ (if v32 = 0 then (r = (some (.int (-1)), (zS I33 J34 tg35))) else (∃ (v36 : Int32) (I37 : Nat → Nat → Int32) (J38 : Nat → Nat → Int64) (tg39 : Option Nat), Runs (GW L xs) d 164 (0, [.int a3, .int 0, .int (I33 1 1)], [], (zS I33 J34 tg35)) ((some (.int v36)), (zS I37 J38 tg39)) ∧ (if v36 = 0 then (r = (some (.int (-1)), (zS I37 J38 tg39))) else (Runs (GW L xs) (d + 1) 152 (44, [.ref 0, .int a1, .int a2, .int a3, .int (-1), .int 0, .int 0], [], (zS I37 J38 tg39)) r)))))))) : Runs (GW L xs) (d + 1) 152 (0, [.ref 0, .int a1, .int a2, .int a3, vU, vU, vU], [], (zS I J tg)) r := by
  refine Runs.sN 3 (c' := (5, [.ref 0, .int a1, .int a2, .int a3, vU, vU, vU], [.int a1, .ref 1], (zS I J tg))) rfl ?_
  obtain ⟨v28, I29, J30, tg31, c40, h⟩ := h
  refine Runs.cl (cm := 47) (as := [.ref 1, .int a1]) (rest := []) (r1 := ((some (.int v28)), (zS I29 J30 tg31))) rfl (Nat.le_of_ble_eq_true rfl) c40 ?_
  refine Runs.as (c' := (8, [.ref 0, .int a1, .int a2, .int a3, vU, vU, vU], [.int v28], (zS I29 J30 tg31))) rfl ?_
  by_cases c41 : v28 = 0
  · rw [if_pos c41] at h
    refine Runs.brT (P := v28 = 0) (a := 33) (b := 11) (L := [.ref 0, .int a1, .int a2, .int a3, vU, vU, vU]) (S := []) (z := (zS I29 J30 tg31)) rfl c41 ?_
    refine Runs.sN 1 (c' := (34, [.ref 0, .int a1, .int a2, .int a3, vU, vU, vU], [.int (-1)], (zS I29 J30 tg31))) rfl ?_
    subst h
    exact Runs.rt rfl
  · rw [if_neg c41] at h
    refine Runs.brF (P := v28 = 0) (a := 33) (b := 11) (L := [.ref 0, .int a1, .int a2, .int a3, vU, vU, vU]) (S := []) (z := (zS I29 J30 tg31)) rfl c41 ?_
    refine Runs.sN 1 (c' := (12, [.ref 0, .int a1, .int a2, .int a3, vU, vU, vU], [.int a2], (zS I29 J30 tg31))) rfl ?_
    obtain ⟨v32, I33, J34, tg35, c42, h⟩ := h
    refine Runs.cl (cm := 166) (as := [.int a2]) (rest := []) (r1 := ((some (.int v32)), (zS I33 J34 tg35))) rfl (Nat.le_of_ble_eq_true rfl) c42 ?_
    refine Runs.as (c' := (15, [.ref 0, .int a1, .int a2, .int a3, vU, vU, vU], [.int v32], (zS I33 J34 tg35))) rfl ?_
    by_cases c43 : v32 = 0
    · rw [if_pos c43] at h
      refine Runs.brT (P := v32 = 0) (a := 33) (b := 18) (L := [.ref 0, .int a1, .int a2, .int a3, vU, vU, vU]) (S := []) (z := (zS I33 J34 tg35)) rfl c43 ?_
      refine Runs.sN 1 (c' := (34, [.ref 0, .int a1, .int a2, .int a3, vU, vU, vU], [.int (-1)], (zS I33 J34 tg35))) rfl ?_
      subst h
      exact Runs.rt rfl
    · rw [if_neg c43] at h
      refine Runs.brF (P := v32 = 0) (a := 33) (b := 18) (L := [.ref 0, .int a1, .int a2, .int a3, vU, vU, vU]) (S := []) (z := (zS I33 J34 tg35)) rfl c43 ?_
      refine Runs.sN 5 (c' := (27, [.ref 0, .int a1, .int a2, .int a3, vU, vU, vU], [.int (I33 1 1), .int 0, .int a3], (zS I33 J34 tg35))) rfl ?_
      obtain ⟨v36, I37, J38, tg39, c44, h⟩ := h
      refine Runs.cl (cm := 164) (as := [.int a3, .int 0, .int (I33 1 1)]) (rest := []) (r1 := ((some (.int v36)), (zS I37 J38 tg39))) rfl (Nat.le_of_ble_eq_true rfl) c44 ?_
      refine Runs.as (c' := (30, [.ref 0, .int a1, .int a2, .int a3, vU, vU, vU], [.int v36], (zS I37 J38 tg39))) rfl ?_
      by_cases c45 : v36 = 0
      · rw [if_pos c45] at h
        refine Runs.brT (P := v36 = 0) (a := 33) (b := 35) (L := [.ref 0, .int a1, .int a2, .int a3, vU, vU, vU]) (S := []) (z := (zS I37 J38 tg39)) rfl c45 ?_
        refine Runs.sN 1 (c' := (34, [.ref 0, .int a1, .int a2, .int a3, vU, vU, vU], [.int (-1)], (zS I37 J38 tg39))) rfl ?_
        subst h
        exact Runs.rt rfl
      · rw [if_neg c45] at h
        refine Runs.brF (P := v36 = 0) (a := 33) (b := 35) (L := [.ref 0, .int a1, .int a2, .int a3, vU, vU, vU]) (S := []) (z := (zS I37 J38 tg39)) rfl c45 ?_
        refine Runs.sN 6 (c' := (44, [.ref 0, .int a1, .int a2, .int a3, .int (-1), .int 0, .int 0], [], (zS I37 J38 tg39))) rfl ?_
        exact h
theorem sg_152_44 {L d : Nat} {xs : Nat → Int32} (I : Nat → Nat → Int32) (J : Nat → Nat → Int64) (tg : Option Nat) (x1 : Int32) (x2 : Int32) (x3 : Int32) (x4 : Int32) (x5 : Int32) (x6 : Int32) {r : Option Value × SS} (h : ((if (I 1 0) ≤ x6 then (r = (some (.int x4), (zS I J tg))) else ((if ((x1 >>> (x6 &&& 31)) &&& 1) = 0 then (Runs (GW L xs) (d + 1) 152 (44, [.ref 0, .int x1, .int x2, .int x3, .int x4, .int x5, .int (x6 + 1)], [], (zS I J tg)) r) else (∃ (I1 : Nat → Nat → Int32) (J2 : Nat → Nat → Int64) (tg3 : Option Nat), Runs (GW L xs) d 107 (0, [.ref 75, .int x6, .int x2, .int x3, vU, vU], [], (zS I J tg)) (none, (zS I1 J2 tg3)) ∧ (if x4 = (-1) then (Runs (GW L xs) (d + 1) 152 (44, [.ref 0, .int x1, .int x2, .int x3, .int x6, .int (I1 75 11), .int (x6 + 1)], [], (zS I1 J2 tg3)) r) else ((if x5 ≤ (I1 75 11) then (Runs (GW L xs) (d + 1) 152 (44, [.ref 0, .int x1, .int x2, .int x3, .int x4, .int x5, .int (x6 + 1)], [], (zS I1 J2 tg3)) r) else (Runs (GW L xs) (d + 1) 152 (44, [.ref 0, .int x1, .int x2, .int x3, .int x6, .int (I1 75 11), .int (x6 + 1)], [], (zS I1 J2 tg3)) r)))))))))) : Runs (GW L xs) (d + 1) 152 (44, [.ref 0, .int x1, .int x2, .int x3, .int x4, .int x5, .int x6], [], (zS I J tg)) r := by
  refine Runs.sN 4 (c' := (53, [.ref 0, .int x1, .int x2, .int x3, .int x4, .int x5, .int x6], [.int (I 1 0), .int x6], (zS I J tg))) rfl ?_
  by_cases c4 : (I 1 0) ≤ x6
  · rw [if_pos c4] at h
    refine Runs.brT (P := (I 1 0) ≤ x6) (a := 116) (b := 56) (L := [.ref 0, .int x1, .int x2, .int x3, .int x4, .int x5, .int x6]) (S := []) (z := (zS I J tg)) rfl c4 ?_
    refine Runs.sN 1 (c' := (118, [.ref 0, .int x1, .int x2, .int x3, .int x4, .int x5, .int x6], [.int x4], (zS I J tg))) rfl ?_
    subst h
    exact Runs.rt rfl
  · rw [if_neg c4] at h
    refine Runs.brF (P := (I 1 0) ≤ x6) (a := 116) (b := 56) (L := [.ref 0, .int x1, .int x2, .int x3, .int x4, .int x5, .int x6]) (S := []) (z := (zS I J tg)) rfl c4 ?_
    refine Runs.sN 5 (c' := (62, [.ref 0, .int x1, .int x2, .int x3, .int x4, .int x5, .int x6], [.int ((x1 >>> (x6 &&& 31)) &&& 1)], (zS I J tg))) rfl ?_
    by_cases c5 : ((x1 >>> (x6 &&& 31)) &&& 1) = 0
    · rw [if_pos c5] at h
      refine Runs.brT (P := ((x1 >>> (x6 &&& 31)) &&& 1) = 0) (a := 65) (b := 68) (L := [.ref 0, .int x1, .int x2, .int x3, .int x4, .int x5, .int x6]) (S := []) (z := (zS I J tg)) rfl c5 ?_
      refine Runs.sN 3 (c' := (44, [.ref 0, .int x1, .int x2, .int x3, .int x4, .int x5, .int (x6 + 1)], [], (zS I J tg))) rfl ?_
      exact h
    · rw [if_neg c5] at h
      refine Runs.brF (P := ((x1 >>> (x6 &&& 31)) &&& 1) = 0) (a := 65) (b := 68) (L := [.ref 0, .int x1, .int x2, .int x3, .int x4, .int x5, .int x6]) (S := []) (z := (zS I J tg)) rfl c5 ?_
      refine Runs.sN 5 (c' := (76, [.ref 0, .int x1, .int x2, .int x3, .int x4, .int x5, .int x6], [.int x3, .int x2, .int x6, .ref 75], (zS I J tg))) rfl ?_
      obtain ⟨I1, J2, tg3, c6, h⟩ := h
      refine Runs.cl (cm := 107) (as := [.ref 75, .int x6, .int x2, .int x3]) (rest := []) (r1 := (none, (zS I1 J2 tg3))) rfl (Nat.le_of_ble_eq_true rfl) c6 ?_
      refine Runs.as (c' := (79, [.ref 0, .int x1, .int x2, .int x3, .int x4, .int x5, .int x6], [], (zS I1 J2 tg3))) rfl ?_
      refine Runs.sN 2 (c' := (82, [.ref 0, .int x1, .int x2, .int x3, .int x4, .int x5, .int x6], [.int (-1), .int x4], (zS I1 J2 tg3))) rfl ?_
      by_cases c7 : x4 = (-1)
      · rw [if_pos c7] at h
        refine Runs.brT (P := x4 = (-1)) (a := 97) (b := 85) (L := [.ref 0, .int x1, .int x2, .int x3, .int x4, .int x5, .int x6]) (S := []) (z := (zS I1 J2 tg3)) rfl c7 ?_
        refine Runs.sN 8 (c' := (44, [.ref 0, .int x1, .int x2, .int x3, .int x6, .int (I1 75 11), .int (x6 + 1)], [], (zS I1 J2 tg3))) rfl ?_
        exact h
      · rw [if_neg c7] at h
        refine Runs.brF (P := x4 = (-1)) (a := 97) (b := 85) (L := [.ref 0, .int x1, .int x2, .int x3, .int x4, .int x5, .int x6]) (S := []) (z := (zS I1 J2 tg3)) rfl c7 ?_
        refine Runs.sN 4 (c' := (94, [.ref 0, .int x1, .int x2, .int x3, .int x4, .int x5, .int x6], [.int x5, .int (I1 75 11)], (zS I1 J2 tg3))) rfl ?_
        by_cases c8 : x5 ≤ (I1 75 11)
        · rw [if_pos c8] at h
          refine Runs.brT (P := x5 ≤ (I1 75 11)) (a := 110) (b := 97) (L := [.ref 0, .int x1, .int x2, .int x3, .int x4, .int x5, .int x6]) (S := []) (z := (zS I1 J2 tg3)) rfl c8 ?_
          refine Runs.sN 2 (c' := (44, [.ref 0, .int x1, .int x2, .int x3, .int x4, .int x5, .int (x6 + 1)], [], (zS I1 J2 tg3))) rfl ?_
          exact h
        · rw [if_neg c8] at h
          refine Runs.brF (P := x5 ≤ (I1 75 11)) (a := 110) (b := 97) (L := [.ref 0, .int x1, .int x2, .int x3, .int x4, .int x5, .int x6]) (S := []) (z := (zS I1 J2 tg3)) rfl c8 ?_
          refine Runs.sN 8 (c' := (44, [.ref 0, .int x1, .int x2, .int x3, .int x6, .int (I1 75 11), .int (x6 + 1)], [], (zS I1 J2 tg3))) rfl ?_
          exact h
-- X11_days 
theorem sg_153 {L d : Nat} {xs : Nat → Int32} (I : Nat → Nat → Int32) (J : Nat → Nat → Int64) (tg : Option Nat) (a1 : Int32) {r : Option Value × SS} (h : (∃ (v5 : Int32) (I6 : Nat → Nat → Int32) (J7 : Nat → Nat → Int64) (tg8 : Option Nat), Runs (GW L xs) d 164 (0, [.int a1, .int 1, .int 99], [], (zS I J tg)) ((some (.int v5)), (zS I6 J7 tg8)) ∧ (if v5 = 0 then (r = (some (.int (-1)), (zS I6 J7 tg8))) else ((if ((I6 7 4) + a1) ≤ 999 then (r = (some (.int ((I6 7 4) + a1)), (zS (up2 I6 7 4 ((I6 7 4) + a1)) J7 tg8))) else (r = (some (.int (-1)), (zS I6 J7 tg8)))))))) : Runs (GW L xs) (d + 1) 153 (0, [.ref 0, .int a1], [], (zS I J tg)) r := by
  refine Runs.sN 3 (c' := (4, [.ref 0, .int a1], [.int 99, .int 1, .int a1], (zS I J tg))) rfl ?_
  obtain ⟨v5, I6, J7, tg8, c9, h⟩ := h
  refine Runs.cl (cm := 164) (as := [.int a1, .int 1, .int 99]) (rest := []) (r1 := ((some (.int v5)), (zS I6 J7 tg8))) rfl (Nat.le_of_ble_eq_true rfl) c9 ?_
  refine Runs.as (c' := (7, [.ref 0, .int a1], [.int v5], (zS I6 J7 tg8))) rfl ?_
  by_cases c10 : v5 = 0
  · rw [if_pos c10] at h
    refine Runs.brT (P := v5 = 0) (a := 25) (b := 10) (L := [.ref 0, .int a1]) (S := []) (z := (zS I6 J7 tg8)) rfl c10 ?_
    refine Runs.sN 1 (c' := (26, [.ref 0, .int a1], [.int (-1)], (zS I6 J7 tg8))) rfl ?_
    subst h
    exact Runs.rt rfl
  · rw [if_neg c10] at h
    refine Runs.brF (P := v5 = 0) (a := 25) (b := 10) (L := [.ref 0, .int a1]) (S := []) (z := (zS I6 J7 tg8)) rfl c10 ?_
    refine Runs.sN 6 (c' := (22, [.ref 0, .int a1], [.int 999, .int ((I6 7 4) + a1)], (zS I6 J7 tg8))) rfl ?_
    by_cases c11 : ((I6 7 4) + a1) ≤ 999
    · rw [if_pos c11] at h
      refine Runs.brT (P := ((I6 7 4) + a1) ≤ 999) (a := 27) (b := 25) (L := [.ref 0, .int a1]) (S := []) (z := (zS I6 J7 tg8)) rfl c11 ?_
      refine Runs.sN 10 (c' := (47, [.ref 0, .int a1], [.int ((I6 7 4) + a1)], (zS (up2 I6 7 4 ((I6 7 4) + a1)) J7 tg8))) rfl ?_
      subst h
      exact Runs.rt rfl
    · rw [if_neg c11] at h
      refine Runs.brF (P := ((I6 7 4) + a1) ≤ 999) (a := 27) (b := 25) (L := [.ref 0, .int a1]) (S := []) (z := (zS I6 J7 tg8)) rfl c11 ?_
      refine Runs.sN 1 (c' := (26, [.ref 0, .int a1], [.int (-1)], (zS I6 J7 tg8))) rfl ?_
      subst h
      exact Runs.rt rfl
