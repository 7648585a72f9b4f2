theorem sg_109 {L d : Nat} {xs : Nat → Int32} (I : Nat → Nat → Int32) (J : Nat → Nat → Int64) (tg : Option Nat) {r : Option Value × SS} (h : (Runs (GW L xs) d 109 (4, [.ref 7, .int 0, .int 0], [], (zS I J tg)) r)) : Runs (GW L xs) d 109 (0, [.ref 7, vU, vU], [], (zS I J tg)) r := by
  refine Runs.sN 4 (c' := (4, [.ref 7, .int 0, .int 0], [], (zS I J tg))) rfl ?_
  exact h
theorem sg_109_4 {L d : Nat} {xs : Nat → Int32} (I : Nat → Nat → Int32) (J : Nat → Nat → Int64) (tg : Option Nat) (x1 : Int32) (x2 : Int32) {r : Option Value × SS} (h : ((if 6 ≤ x2 then (r = (some (.int x1), (zS I J tg))) else (¬ (x2 < 0 ∨ 6 ≤ (x2).toNatClampNeg) ∧ Runs (GW L xs) d 109 (4, [.ref 7, .int (x1 + (I 8 ((x2).toNatClampNeg))), .int (x2 + 1)], [], (zS I J tg)) r)))) : Runs (GW L xs) d 109 (4, [.ref 7, .int x1, .int x2], [], (zS I J tg)) r := by
  refine Runs.sN 2 (c' := (7, [.ref 7, .int x1, .int x2], [.int 6, .int x2], (zS I J tg))) rfl ?_
  by_cases c1 : 6 ≤ x2
  · rw [if_pos c1] at h
    refine Runs.brT (P := 6 ≤ x2) (a := 25) (b := 10) (L := [.ref 7, .int x1, .int x2]) (S := []) (z := (zS I J tg)) rfl c1 ?_
    refine Runs.sN 1 (c' := (26, [.ref 7, .int x1, .int x2], [.int x1], (zS I J tg))) rfl ?_
    subst h
    exact Runs.rt rfl
  · rw [if_neg c1] at h
    refine Runs.brF (P := 6 ≤ x2) (a := 25) (b := 10) (L := [.ref 7, .int x1, .int x2]) (S := []) (z := (zS I J tg)) rfl c1 ?_
    refine Runs.sN 4 (c' := (16, [.ref 7, .int x1, .int x2], [.int x2, .ref 8, .int x1], (zS I J tg))) rfl ?_
    obtain ⟨c2, h⟩ := h
    refine Runs.to (c' := (17, [.ref 7, .int x1, .int x2], [.int (I 8 ((x2).toNatClampNeg)), .int x1], (zS I J tg))) (Runs.ild rfl (show (8 : Nat) < 114 by decide) rfl c2) ?_
    refine Runs.sN 4 (c' := (4, [.ref 7, .int (x1 + (I 8 ((x2).toNatClampNeg))), .int (x2 + 1)], [], (zS I J tg))) rfl ?_
    exact h
theorem sg_185 {L d : Nat} {xs : Nat → Int32} (I : Nat → Nat → Int32) (J : Nat → Nat → Int64) (tg : Option Nat) (a1 : Int32) {r : Option Value × SS} (h : (Runs (GW L xs) d 185 (4, [.int a1, .int 0, .int 0], [], (zS I J tg)) r)) : Runs (GW L xs) d 185 (0, [.int a1, vU, vU], [], (zS I J tg)) r := by
  refine Runs.sN 4 (c' := (4, [.int a1, .int 0, .int 0], [], (zS I J tg))) rfl ?_
  exact h
theorem sg_185_4 {L d : Nat} {xs : Nat → Int32} (I : Nat → Nat → Int32) (J : Nat → Nat → Int64) (tg : Option Nat) (x0 : Int32) (x1 : Int32) (x2 : Int32) {r : Option Value × SS} (h : ((if 12 ≤ x2 then (r = (some (.int x1), (zS I J tg))) else (Runs (GW L xs) d 185 (4, [.int x0, .int (x1 + ((x0 >>> (x2 &&& 31)) &&& 1)), .int (x2 + 1)], [], (zS I J tg)) r)))) : Runs (GW L xs) d 185 (4, [.int x0, .int x1, .int x2], [], (zS I J tg)) r := by
  refine Runs.sN 2 (c' := (7, [.int x0, .int x1, .int x2], [.int 12, .int x2], (zS I J tg))) rfl ?_
  by_cases c1 : 12 ≤ x2
  · rw [if_pos c1] at h
    refine Runs.brT (P := 12 ≤ x2) (a := 24) (b := 10) (L := [.int x0, .int x1, .int x2]) (S := []) (z := (zS I J tg)) rfl c1 ?_
    refine Runs.sN 1 (c' := (25, [.int x0, .int x1, .int x2], [.int x1], (zS I J tg))) rfl ?_
    subst h
    exact Runs.rt rfl
  · rw [if_neg c1] at h
    refine Runs.brF (P := 12 ≤ x2) (a := 24) (b := 10) (L := [.int x0, .int x1, .int x2]) (S := []) (z := (zS I J tg)) rfl c1 ?_
    refine Runs.sN 10 (c' := (4, [.int x0, .int (x1 + ((x0 >>> (x2 &&& 31)) &&& 1)), .int (x2 + 1)], [], (zS I J tg))) rfl ?_
    exact h
theorem sg_186 {L d : Nat} {xs : Nat → Int32} (I : Nat → Nat → Int32) (J : Nat → Nat → Int64) (tg : Option Nat) (a1 : Int32) {r : Option Value × SS} (h : ((if a1 = 0 then ((if (I 94 1) = 12 then (r = (some (.int (-1)), (zS I J tg))) else ((if a1 = 0 then (Runs (GW L xs) d 186 (55, [.ref 93, .int a1, .int (I 94 1), .int (20 + (22 * (I 94 1))), .int 0], [], (zS I J tg)) r) else (Runs (GW L xs) d 186 (55, [.ref 93, .int a1, .int (12 + (I 94 2)), .int (20 + (22 * (12 + (I 94 2)))), .int 0], [], (zS I J tg)) r))))) else ((if (I 94 2) = 12 then (r = (some (.int (-1)), (zS I J tg))) else ((if a1 = 0 then (Runs (GW L xs) d 186 (55, [.ref 93, .int a1, .int (I 94 1), .int (20 + (22 * (I 94 1))), .int 0], [], (zS I J tg)) r) else (Runs (GW L xs) d 186 (55, [.ref 93, .int a1, .int (12 + (I 94 2)), .int (20 + (22 * (12 + (I 94 2)))), .int 0], [], (zS I J tg)) r)))))))) : Runs (GW L xs) d 186 (0, [.ref 93, .int a1, vU, vU, vU], [], (zS I J tg)) r := by
  refine Runs.sN 3 (c' := (5, [.ref 93, .int a1, vU, vU, vU], [.int a1, .ref 94], (zS I J tg))) rfl ?_
  by_cases c1 : a1 = 0
  · rw [if_pos c1] at h
    refine Runs.brT (P := a1 = 0) (a := 12) (b := 8) (L := [.ref 93, .int a1, vU, vU, vU]) (S := [.ref 94]) (z := (zS I J tg)) rfl c1 ?_
    refine Runs.sN 3 (c' := (16, [.ref 93, .int a1, vU, vU, vU], [.int 12, .int (I 94 1)], (zS I J tg))) rfl ?_
    by_cases c2 : (I 94 1) = 12
    · rw [if_pos c2] at h
      refine Runs.brT (P := (I 94 1) = 12) (a := 19) (b := 21) (L := [.ref 93, .int a1, vU, vU, vU]) (S := []) (z := (zS I J tg)) rfl c2 ?_
      refine Runs.sN 1 (c' := (20, [.ref 93, .int a1, vU, vU, vU], [.int (-1)], (zS I J tg))) rfl ?_
      subst h
      exact Runs.rt rfl
    · rw [if_neg c2] at h
      refine Runs.brF (P := (I 94 1) = 12) (a := 19) (b := 21) (L := [.ref 93, .int a1, vU, vU, vU]) (S := []) (z := (zS I J tg)) rfl c2 ?_
      refine Runs.sN 1 (c' := (22, [.ref 93, .int a1, vU, vU, vU], [.int a1], (zS I J tg))) rfl ?_
      by_cases c3 : a1 = 0
      · rw [if_pos c3] at h
        refine Runs.brT (P := a1 = 0) (a := 37) (b := 25) (L := [.ref 93, .int a1, vU, vU, vU]) (S := []) (z := (zS I J tg)) rfl c3 ?_
        refine Runs.sN 13 (c' := (55, [.ref 93, .int a1, .int (I 94 1), .int (20 + (22 * (I 94 1))), .int 0], [], (zS I J tg))) rfl ?_
        exact h
      · rw [if_neg c3] at h
        refine Runs.brF (P := a1 = 0) (a := 37) (b := 25) (L := [.ref 93, .int a1, vU, vU, vU]) (S := []) (z := (zS I J tg)) rfl c3 ?_
        refine Runs.sN 16 (c' := (55, [.ref 93, .int a1, .int (12 + (I 94 2)), .int (20 + (22 * (12 + (I 94 2)))), .int 0], [], (zS I J tg))) rfl ?_
        exact h
  · rw [if_neg c1] at h
    refine Runs.brF (P := a1 = 0) (a := 12) (b := 8) (L := [.ref 93, .int a1, vU, vU, vU]) (S := [.ref 94]) (z := (zS I J tg)) rfl c1 ?_
    refine Runs.sN 4 (c' := (16, [.ref 93, .int a1, vU, vU, vU], [.int 12, .int (I 94 2)], (zS I J tg))) rfl ?_
    by_cases c4 : (I 94 2) = 12
    · rw [if_pos c4] at h
      refine Runs.brT (P := (I 94 2) = 12) (a := 19) (b := 21) (L := [.ref 93, .int a1, vU, vU, vU]) (S := []) (z := (zS I J tg)) rfl c4 ?_
      refine Runs.sN 1 (c' := (20, [.ref 93, .int a1, vU, vU, vU], [.int (-1)], (zS I J tg))) rfl ?_
      subst h
      exact Runs.rt rfl
    · rw [if_neg c4] at h
      refine Runs.brF (P := (I 94 2) = 12) (a := 19) (b := 21) (L := [.ref 93, .int a1, vU, vU, vU]) (S := []) (z := (zS I J tg)) rfl c4 ?_
      refine Runs.sN 1 (c' := (22, [.ref 93, .int a1, vU, vU, vU], [.int a1], (zS I J tg))) rfl ?_
      by_cases c5 : a1 = 0
      · rw [if_pos c5] at h
        refine Runs.brT (P := a1 = 0) (a := 37) (b := 25) (L := [.ref 93, .int a1, vU, vU, vU]) (S := []) (z := (zS I J tg)) rfl c5 ?_
        refine Runs.sN 13 (c' := (55, [.ref 93, .int a1, .int (I 94 1), .int (20 + (22 * (I 94 1))), .int 0], [], (zS I J tg))) rfl ?_
        exact h
      · rw [if_neg c5] at h
        refine Runs.brF (P := a1 = 0) (a := 37) (b := 25) (L := [.ref 93, .int a1, vU, vU, vU]) (S := []) (z := (zS I J tg)) rfl c5 ?_
        refine Runs.sN 16 (c' := (55, [.ref 93, .int a1, .int (12 + (I 94 2)), .int (20 + (22 * (12 + (I 94 2)))), .int 0], [], (zS I J tg))) rfl ?_
        exact h
theorem sg_186_55 {L d : Nat} {xs : Nat → Int32} (I : Nat → Nat → Int32) (J : Nat → Nat → Int64) (tg : Option Nat) (x1 : Int32) (x2 : Int32) (x3 : Int32) (x4 : Int32) {r : Option Value × SS} (h : ((if 22 ≤ x4 then (¬ ((x3 + 2) < 0 ∨ 1200 ≤ (x3 + 2).toNatClampNeg) ∧ Runs (GW L xs) d 186 (90, [.ref 93, .int x1, .int x2, .int x3, .int 0], [], (zS (up2 I 94 ((x3 + 2).toNatClampNeg) (-1)) J tg)) r) else (¬ ((x3 + x4) < 0 ∨ 1200 ≤ (x3 + x4).toNatClampNeg) ∧ Runs (GW L xs) d 186 (55, [.ref 93, .int x1, .int x2, .int x3, .int (x4 + 1)], [], (zS (up2 I 94 ((x3 + x4).toNatClampNeg) 0) J tg)) r)))) : Runs (GW L xs) d 186 (55, [.ref 93, .int x1, .int x2, .int x3, .int x4], [], (zS I J tg)) r := by
  refine Runs.sN 2 (c' := (59, [.ref 93, .int x1, .int x2, .int x3, .int x4], [.int 22, .int x4], (zS I J tg))) rfl ?_
  by_cases c1 : 22 ≤ x4
  · rw [if_pos c1] at h
    refine Runs.brT (P := 22 ≤ x4) (a := 78) (b := 62) (L := [.ref 93, .int x1, .int x2, .int x3, .int x4]) (S := []) (z := (zS I J tg)) rfl c1 ?_
    refine Runs.sN 6 (c' := (86, [.ref 93, .int x1, .int x2, .int x3, .int x4], [.int (-1), .int (x3 + 2), .ref 94], (zS I J tg))) rfl ?_
    obtain ⟨c2, h⟩ := h
    refine Runs.to (c' := (87, [.ref 93, .int x1, .int x2, .int x3, .int x4], [], (zS (up2 I 94 ((x3 + 2).toNatClampNeg) (-1)) J tg))) (Runs.ist rfl (show (94 : Nat) < 114 by decide) rfl c2) ?_
    refine Runs.sN 2 (c' := (90, [.ref 93, .int x1, .int x2, .int x3, .int 0], [], (zS (up2 I 94 ((x3 + 2).toNatClampNeg) (-1)) J tg))) rfl ?_
    exact h
  · rw [if_neg c1] at h
    refine Runs.brF (P := 22 ≤ x4) (a := 78) (b := 62) (L := [.ref 93, .int x1, .int x2, .int x3, .int x4]) (S := []) (z := (zS I J tg)) rfl c1 ?_
    refine Runs.sN 6 (c' := (71, [.ref 93, .int x1, .int x2, .int x3, .int x4], [.int 0, .int (x3 + x4), .ref 94], (zS I J tg))) rfl ?_
    obtain ⟨c3, h⟩ := h
    refine Runs.to (c' := (72, [.ref 93, .int x1, .int x2, .int x3, .int x4], [], (zS (up2 I 94 ((x3 + x4).toNatClampNeg) 0) J tg))) (Runs.ist rfl (show (94 : Nat) < 114 by decide) rfl c3) ?_
    refine Runs.sN 2 (c' := (55, [.ref 93, .int x1, .int x2, .int x3, .int (x4 + 1)], [], (zS (up2 I 94 ((x3 + x4).toNatClampNeg) 0) J tg))) rfl ?_
    exact h
theorem sg_186_90 {L d : Nat} {xs : Nat → Int32} (I : Nat → Nat → Int32) (J : Nat → Nat → Int64) (tg : Option Nat) (x1 : Int32) (x2 : Int32) (x3 : Int32) (x4 : Int32) {r : Option Value × SS} (h : ((if 6 ≤ x4 then ((if x1 = 0 then (r = (some (.int x2), (zS (up2 I 94 1 ((I 94 1) + 1)) J tg))) else (r = (some (.int x2), (zS (up2 I 94 2 ((I 94 2) + 1)) J tg))))) else ((if x1 = 0 then (¬ (((600 + (6 * x2)) + x4) < 0 ∨ 1200 ≤ ((600 + (6 * x2)) + x4).toNatClampNeg) ∧ Runs (GW L xs) d 186 (90, [.ref 93, .int x1, .int x2, .int x3, .int (x4 + 1)], [], (zS (up2 I 94 (((600 + (6 * x2)) + x4).toNatClampNeg) 0) J tg)) r) else ((if x1 = 0 then (r = (some (.int x2), (zS (up2 I 94 1 ((I 94 1) + 1)) J tg))) else (r = (some (.int x2), (zS (up2 I 94 2 ((I 94 2) + 1)) J tg)))))))))) : Runs (GW L xs) d 186 (90, [.ref 93, .int x1, .int x2, .int x3, .int x4], [], (zS I J tg)) r := by
  refine Runs.sN 2 (c' := (94, [.ref 93, .int x1, .int x2, .int x3, .int x4], [.int 6, .int x4], (zS I J tg))) rfl ?_
  by_cases c1 : 6 ≤ x4
  · rw [if_pos c1] at h
    refine Runs.brT (P := 6 ≤ x4) (a := 124) (b := 97) (L := [.ref 93, .int x1, .int x2, .int x3, .int x4]) (S := []) (z := (zS I J tg)) rfl c1 ?_
    refine Runs.sN 3 (c' := (129, [.ref 93, .int x1, .int x2, .int x3, .int x4], [.int x1, .ref 94], (zS I J tg))) rfl ?_
    by_cases c2 : x1 = 0
    · rw [if_pos c2] at h
      refine Runs.brT (P := x1 = 0) (a := 136) (b := 132) (L := [.ref 93, .int x1, .int x2, .int x3, .int x4]) (S := [.ref 94]) (z := (zS I J tg)) rfl c2 ?_
      refine Runs.sN 7 (c' := (143, [.ref 93, .int x1, .int x2, .int x3, .int x4], [.int x2], (zS (up2 I 94 1 ((I 94 1) + 1)) J tg))) rfl ?_
      subst h
      exact Runs.rt rfl
    · rw [if_neg c2] at h
      refine Runs.brF (P := x1 = 0) (a := 136) (b := 132) (L := [.ref 93, .int x1, .int x2, .int x3, .int x4]) (S := [.ref 94]) (z := (zS I J tg)) rfl c2 ?_
      refine Runs.sN 8 (c' := (143, [.ref 93, .int x1, .int x2, .int x3, .int x4], [.int x2], (zS (up2 I 94 2 ((I 94 2) + 1)) J tg))) rfl ?_
      subst h
      exact Runs.rt rfl
  · rw [if_neg c1] at h
    refine Runs.brF (P := 6 ≤ x4) (a := 124) (b := 97) (L := [.ref 93, .int x1, .int x2, .int x3, .int x4]) (S := []) (z := (zS I J tg)) rfl c1 ?_
    refine Runs.sN 1 (c' := (98, [.ref 93, .int x1, .int x2, .int x3, .int x4], [.int x1], (zS I J tg))) rfl ?_
    by_cases c3 : x1 = 0
    · rw [if_pos c3] at h
      refine Runs.brT (P := x1 = 0) (a := 101) (b := 124) (L := [.ref 93, .int x1, .int x2, .int x3, .int x4]) (S := []) (z := (zS I J tg)) rfl c3 ?_
      refine Runs.sN 10 (c' := (117, [.ref 93, .int x1, .int x2, .int x3, .int x4], [.int 0, .int ((600 + (6 * x2)) + x4), .ref 94], (zS I J tg))) rfl ?_
      obtain ⟨c4, h⟩ := h
      refine Runs.to (c' := (118, [.ref 93, .int x1, .int x2, .int x3, .int x4], [], (zS (up2 I 94 (((600 + (6 * x2)) + x4).toNatClampNeg) 0) J tg))) (Runs.ist rfl (show (94 : Nat) < 114 by decide) rfl c4) ?_
      refine Runs.sN 2 (c' := (90, [.ref 93, .int x1, .int x2, .int x3, .int (x4 + 1)], [], (zS (up2 I 94 (((600 + (6 * x2)) + x4).toNatClampNeg) 0) J tg))) rfl ?_
      exact h
    · rw [if_neg c3] at h
      refine Runs.brF (P := x1 = 0) (a := 101) (b := 124) (L := [.ref 93, .int x1, .int x2, .int x3, .int x4]) (S := []) (z := (zS I J tg)) rfl c3 ?_
      refine Runs.sN 3 (c' := (129, [.ref 93, .int x1, .int x2, .int x3, .int x4], [.int x1, .ref 94], (zS I J tg))) rfl ?_
      by_cases c5 : x1 = 0
      · rw [if_pos c5] at h
        refine Runs.brT (P := x1 = 0) (a := 136) (b := 132) (L := [.ref 93, .int x1, .int x2, .int x3, .int x4]) (S := [.ref 94]) (z := (zS I J tg)) rfl c5 ?_
        refine Runs.sN 7 (c' := (143, [.ref 93, .int x1, .int x2, .int x3, .int x4], [.int x2], (zS (up2 I 94 1 ((I 94 1) + 1)) J tg))) rfl ?_
        subst h
        exact Runs.rt rfl
      · rw [if_neg c5] at h
        refine Runs.brF (P := x1 = 0) (a := 136) (b := 132) (L := [.ref 93, .int x1, .int x2, .int x3, .int x4]) (S := [.ref 94]) (z := (zS I J tg)) rfl c5 ?_
        refine Runs.sN 8 (c' := (143, [.ref 93, .int x1, .int x2, .int x3, .int x4], [.int x2], (zS (up2 I 94 2 ((I 94 2) + 1)) J tg))) rfl ?_
        subst h
        exact Runs.rt rfl
theorem sg_188 {L d : Nat} {xs : Nat → Int32} (I : Nat → Nat → Int32) (J : Nat → Nat → Int64) (tg : Option Nat) (a1 : Int32) (a2 : Int32) {r : Option Value × SS} (h : (Runs (GW L xs) (d + 1) 188 (2, [.ref 93, .int a1, .int a2, .int 0], [], (zS I J tg)) r)) : Runs (GW L xs) (d + 1) 188 (0, [.ref 93, .int a1, .int a2, vU], [], (zS I J tg)) r := by
  refine Runs.sN 2 (c' := (2, [.ref 93, .int a1, .int a2, .int 0], [], (zS I J tg))) rfl ?_
  exact h
theorem sg_188_2 {L d : Nat} {xs : Nat → Int32} (I : Nat → Nat → Int32) (J : Nat → Nat → Int64) (tg : Option Nat) (x1 : Int32) (x2 : Int32) (x3 : Int32) {r : Option Value × SS} (h : (∃ (v1 : Int32) (I2 : Nat → Nat → Int32) (J3 : Nat → Nat → Int64) (tg4 : Option Nat), Runs (GW L xs) d 184 (0, [.ref 93, .int x1, .int 0], [], (zS I J tg)) ((some (.int v1)), (zS I2 J3 tg4)) ∧ (if v1 ≤ x3 then (r = (some (.int 0), (zS I2 J3 tg4))) else (∃ (v5 : Int32) (I6 : Nat → Nat → Int32) (J7 : Nat → Nat → Int64) (tg8 : Option Nat), Runs (GW L xs) d 184 (0, [.ref 93, .int x1, .int (4 + x3)], [], (zS I2 J3 tg4)) ((some (.int v5)), (zS I6 J7 tg8)) ∧ (if v5 = x2 then (r = (some (.int 1), (zS I6 J7 tg8))) else (Runs (GW L xs) (d + 1) 188 (2, [.ref 93, .int x1, .int x2, .int (x3 + 1)], [], (zS I6 J7 tg8)) r)))))) : Runs (GW L xs) (d + 1) 188 (2, [.ref 93, .int x1, .int x2, .int x3], [], (zS I J tg)) r := by
  refine Runs.sN 4 (c' := (6, [.ref 93, .int x1, .int x2, .int x3], [.int 0, .int x1, .ref 93, .int x3], (zS I J tg))) rfl ?_
  obtain ⟨v1, I2, J3, tg4, c9, h⟩ := h
  refine Runs.cl (cm := 184) (as := [.ref 93, .int x1, .int 0]) (rest := [.int x3]) (r1 := ((some (.int v1)), (zS I2 J3 tg4))) rfl (Nat.le_of_ble_eq_true rfl) c9 ?_
  refine Runs.as (c' := (9, [.ref 93, .int x1, .int x2, .int x3], [.int v1, .int x3], (zS I2 J3 tg4))) rfl ?_
  by_cases c10 : v1 ≤ x3
  · rw [if_pos c10] at h
    refine Runs.brT (P := v1 ≤ x3) (a := 32) (b := 12) (L := [.ref 93, .int x1, .int x2, .int x3]) (S := []) (z := (zS I2 J3 tg4)) rfl c10 ?_
    refine Runs.sN 1 (c' := (33, [.ref 93, .int x1, .int x2, .int x3], [.int 0], (zS I2 J3 tg4))) rfl ?_
    subst h
    exact Runs.rt rfl
  · rw [if_neg c10] at h
    refine Runs.brF (P := v1 ≤ x3) (a := 32) (b := 12) (L := [.ref 93, .int x1, .int x2, .int x3]) (S := []) (z := (zS I2 J3 tg4)) rfl c10 ?_
    refine Runs.sN 5 (c' := (17, [.ref 93, .int x1, .int x2, .int x3], [.int (4 + x3), .int x1, .ref 93], (zS I2 J3 tg4))) rfl ?_
    obtain ⟨v5, I6, J7, tg8, c11, h⟩ := h
    refine Runs.cl (cm := 184) (as := [.ref 93, .int x1, .int (4 + x3)]) (rest := []) (r1 := ((some (.int v5)), (zS I6 J7 tg8))) rfl (Nat.le_of_ble_eq_true rfl) c11 ?_
    refine Runs.as (c' := (20, [.ref 93, .int x1, .int x2, .int x3], [.int v5], (zS I6 J7 tg8))) rfl ?_
    refine Runs.sN 1 (c' := (21, [.ref 93, .int x1, .int x2, .int x3], [.int x2, .int v5], (zS I6 J7 tg8))) rfl ?_
    by_cases c12 : v5 = x2
    · rw [if_pos c12] at h
      refine Runs.brT (P := v5 = x2) (a := 24) (b := 26) (L := [.ref 93, .int x1, .int x2, .int x3]) (S := []) (z := (zS I6 J7 tg8)) rfl c12 ?_
      refine Runs.sN 1 (c' := (25, [.ref 93, .int x1, .int x2, .int x3], [.int 1], (zS I6 J7 tg8))) rfl ?_
      subst h
      exact Runs.rt rfl
    · rw [if_neg c12] at h
      refine Runs.brF (P := v5 = x2) (a := 24) (b := 26) (L := [.ref 93, .int x1, .int x2, .int x3]) (S := []) (z := (zS I6 J7 tg8)) rfl c12 ?_
      refine Runs.sN 2 (c' := (2, [.ref 93, .int x1, .int x2, .int (x3 + 1)], [], (zS I6 J7 tg8))) rfl ?_
      exact h
theorem sg_197 {L d : Nat} {xs : Nat → Int32} (I : Nat → Nat → Int32) (J : Nat → Nat → Int64) (tg : Option Nat) (a1 : Int32) (a2 : Int32) {r : Option Value × SS} (h : (∃ (v77 : Int32) (I78 : Nat → Nat → Int32) (J79 : Nat → Nat → Int64) (tg80 : Option Nat), Runs (GW L xs) d 184 (0, [.ref 93, .int a2, .int 0], [], (zS I J tg)) ((some (.int v77)), (zS I78 J79 tg80)) ∧ Runs (GW L xs) (d + 1) 197 (10, [.ref 93, .int a1, .int a2, .int v77, .int 0, vU, vU, vU, vU, vU], [], (zS I78 J79 tg80)) r)) : Runs (GW L xs) (d + 1) 197 (0, [.ref 93, .int a1, .int a2, vU, vU, vU, vU, vU, vU, vU], [], (zS I J tg)) r := by
  refine Runs.sN 3 (c' := (3, [.ref 93, .int a1, .int a2, vU, vU, vU, vU, vU, vU, vU], [.int 0, .int a2, .ref 93], (zS I J tg))) rfl ?_
  obtain ⟨v77, I78, J79, tg80, c81, h⟩ := h
  refine Runs.cl (cm := 184) (as := [.ref 93, .int a2, .int 0]) (rest := []) (r1 := ((some (.int v77)), (zS I78 J79 tg80))) rfl (Nat.le_of_ble_eq_true rfl) c81 ?_
  refine Runs.as (c' := (6, [.ref 93, .int a1, .int a2, vU, vU, vU, vU, vU, vU, vU], [.int v77], (zS I78 J79 tg80))) rfl ?_
  refine Runs.sN 3 (c' := (10, [.ref 93, .int a1, .int a2, .int v77, .int 0, vU, vU, vU, vU, vU], [], (zS I78 J79 tg80))) rfl ?_
  exact h
theorem sg_197_10 {L d : Nat} {xs : Nat → Int32} (I : Nat → Nat → Int32) (J : Nat → Nat → Int64) (tg : Option Nat) (x1 : Int32) (x2 : Int32) (x3 : Int32) (x4 : Int32) {r : Option Value × SS} (h : ((if (1 <<< (x3 &&& 31)) ≤ x4 then (Runs (GW L xs) (d + 1) 197 (45, [.ref 93, .int x1, .int x2, .int x3, .int 0, vU, vU, vU, vU, vU], [], (zS I J tg)) r) else ((if x4 = 0 then (¬ (x4 < 0 ∨ 64 ≤ (x4).toNatClampNeg) ∧ Runs (GW L xs) (d + 1) 197 (10, [.ref 93, .int x1, .int x2, .int x3, .int (x4 + 1), vU, vU, vU, vU, vU], [], (zS (up2 I 97 ((x4).toNatClampNeg) 0) J tg)) r) else (¬ (x4 < 0 ∨ 64 ≤ (x4).toNatClampNeg) ∧ Runs (GW L xs) (d + 1) 197 (10, [.ref 93, .int x1, .int x2, .int x3, .int (x4 + 1), vU, vU, vU, vU, vU], [], (zS (up2 I 97 ((x4).toNatClampNeg) 1000000) J tg)) r)))))) : Runs (GW L xs) (d + 1) 197 (10, [.ref 93, .int x1, .int x2, .int x3, .int x4, vU, vU, vU, vU, vU], [], (zS I J tg)) r := by
  refine Runs.sN 4 (c' := (15, [.ref 93, .int x1, .int x2, .int x3, .int x4, vU, vU, vU, vU, vU], [.int (1 <<< (x3 &&& 31)), .int x4], (zS I J tg))) rfl ?_
  by_cases c1 : (1 <<< (x3 &&& 31)) ≤ x4
  · rw [if_pos c1] at h
    refine Runs.brT (P := (1 <<< (x3 &&& 31)) ≤ x4) (a := 42) (b := 18) (L := [.ref 93, .int x1, .int x2, .int x3, .int x4, vU, vU, vU, vU, vU]) (S := []) (z := (zS I J tg)) rfl c1 ?_
    refine Runs.sN 2 (c' := (45, [.ref 93, .int x1, .int x2, .int x3, .int 0, vU, vU, vU, vU, vU], [], (zS I J tg))) rfl ?_
    exact h
  · rw [if_neg c1] at h
    refine Runs.brF (P := (1 <<< (x3 &&& 31)) ≤ x4) (a := 42) (b := 18) (L := [.ref 93, .int x1, .int x2, .int x3, .int x4, vU, vU, vU, vU, vU]) (S := []) (z := (zS I J tg)) rfl c1 ?_
    refine Runs.sN 4 (c' := (26, [.ref 93, .int x1, .int x2, .int x3, .int x4, vU, vU, vU, vU, vU], [.int x4, .int x4, .ref 97], (zS I J tg))) rfl ?_
    by_cases c2 : x4 = 0
    · rw [if_pos c2] at h
      refine Runs.brT (P := x4 = 0) (a := 29) (b := 33) (L := [.ref 93, .int x1, .int x2, .int x3, .int x4, vU, vU, vU, vU, vU]) (S := [.int x4, .ref 97]) (z := (zS I J tg)) rfl c2 ?_
      refine Runs.sN 2 (c' := (35, [.ref 93, .int x1, .int x2, .int x3, .int x4, vU, vU, vU, vU, vU], [.int 0, .int x4, .ref 97], (zS I J tg))) rfl ?_
      obtain ⟨c3, h⟩ := h
      refine Runs.to (c' := (36, [.ref 93, .int x1, .int x2, .int x3, .int x4, vU, vU, vU, vU, vU], [], (zS (up2 I 97 ((x4).toNatClampNeg) 0) J tg))) (Runs.ist rfl (show (97 : Nat) < 114 by decide) rfl c3) ?_
      refine Runs.sN 2 (c' := (10, [.ref 93, .int x1, .int x2, .int x3, .int (x4 + 1), vU, vU, vU, vU, vU], [], (zS (up2 I 97 ((x4).toNatClampNeg) 0) J tg))) rfl ?_
      exact h
    · rw [if_neg c2] at h
      refine Runs.brF (P := x4 = 0) (a := 29) (b := 33) (L := [.ref 93, .int x1, .int x2, .int x3, .int x4, vU, vU, vU, vU, vU]) (S := [.int x4, .ref 97]) (z := (zS I J tg)) rfl c2 ?_
      refine Runs.sN 1 (c' := (35, [.ref 93, .int x1, .int x2, .int x3, .int x4, vU, vU, vU, vU, vU], [.int 1000000, .int x4, .ref 97], (zS I J tg))) rfl ?_
      obtain ⟨c4, h⟩ := h
      refine Runs.to (c' := (36, [.ref 93, .int x1, .int x2, .int x3, .int x4, vU, vU, vU, vU, vU], [], (zS (up2 I 97 ((x4).toNatClampNeg) 1000000) J tg))) (Runs.ist rfl (show (97 : Nat) < 114 by decide) rfl c4) ?_
      refine Runs.sN 2 (c' := (10, [.ref 93, .int x1, .int x2, .int x3, .int (x4 + 1), vU, vU, vU, vU, vU], [], (zS (up2 I 97 ((x4).toNatClampNeg) 1000000) J tg))) rfl ?_
      exact h
theorem sg_197_45 {L d : Nat} {xs : Nat → Int32} (I : Nat → Nat → Int32) (J : Nat → Nat → Int64) (tg : Option Nat) (x1 : Int32) (x2 : Int32) (x3 : Int32) (x4 : Int32) {r : Option Value × SS} (h : (∃ (v1 : Int32) (I2 : Nat → Nat → Int32) (J3 : Nat → Nat → Int64) (tg4 : Option Nat), Runs (GW L xs) d 184 (0, [.ref 93, .int x1, .int 0], [], (zS I J tg)) ((some (.int v1)), (zS I2 J3 tg4)) ∧ (if v1 ≤ x4 then (Runs (GW L xs) (d + 1) 197 (246, [.ref 93, .int x1, .int x2, .int x3, .int 1000000, .int 0, vU, vU, vU, vU], [], (zS I2 J3 tg4)) r) else (∃ (v5 : Int32) (I6 : Nat → Nat → Int32) (J7 : Nat → Nat → Int64) (tg8 : Option Nat), Runs (GW L xs) d 184 (0, [.ref 93, .int x1, .int (4 + x4)], [], (zS I2 J3 tg4)) ((some (.int v5)), (zS I6 J7 tg8)) ∧ Runs (GW L xs) (d + 1) 197 (70, [.ref 93, .int x1, .int x2, .int x3, .int x4, .int v5, .int 0, vU, vU, vU], [], (zS I6 J7 tg8)) r)))) : Runs (GW L xs) (d + 1) 197 (45, [.ref 93, .int x1, .int x2, .int x3, .int x4, vU, vU, vU, vU, vU], [], (zS I J tg)) r := by
  refine Runs.sN 4 (c' := (50, [.ref 93, .int x1, .int x2, .int x3, .int x4, vU, vU, vU, vU, vU], [.int 0, .int x1, .ref 93, .int x4], (zS I J tg))) rfl ?_
  obtain ⟨v1, I2, J3, tg4, c9, h⟩ := h
  refine Runs.cl (cm := 184) (as := [.ref 93, .int x1, .int 0]) (rest := [.int x4]) (r1 := ((some (.int v1)), (zS I2 J3 tg4))) rfl (Nat.le_of_ble_eq_true rfl) c9 ?_
  refine Runs.as (c' := (53, [.ref 93, .int x1, .int x2, .int x3, .int x4, vU, vU, vU, vU, vU], [.int v1, .int x4], (zS I2 J3 tg4))) rfl ?_
  by_cases c10 : v1 ≤ x4
  · rw [if_pos c10] at h
    refine Runs.brT (P := v1 ≤ x4) (a := 239) (b := 56) (L := [.ref 93, .int x1, .int x2, .int x3, .int x4, vU, vU, vU, vU, vU]) (S := []) (z := (zS I2 J3 tg4)) rfl c10 ?_
    refine Runs.sN 4 (c' := (246, [.ref 93, .int x1, .int x2, .int x3, .int 1000000, .int 0, vU, vU, vU, vU], [], (zS I2 J3 tg4))) rfl ?_
    exact h
  · rw [if_neg c10] at h
    refine Runs.brF (P := v1 ≤ x4) (a := 239) (b := 56) (L := [.ref 93, .int x1, .int x2, .int x3, .int x4, vU, vU, vU, vU, vU]) (S := []) (z := (zS I2 J3 tg4)) rfl c10 ?_
    refine Runs.sN 5 (c' := (62, [.ref 93, .int x1, .int x2, .int x3, .int x4, vU, vU, vU, vU, vU], [.int (4 + x4), .int x1, .ref 93], (zS I2 J3 tg4))) rfl ?_
    obtain ⟨v5, I6, J7, tg8, c11, h⟩ := h
    refine Runs.cl (cm := 184) (as := [.ref 93, .int x1, .int (4 + x4)]) (rest := []) (r1 := ((some (.int v5)), (zS I6 J7 tg8))) rfl (Nat.le_of_ble_eq_true rfl) c11 ?_
    refine Runs.as (c' := (65, [.ref 93, .int x1, .int x2, .int x3, .int x4, vU, vU, vU, vU, vU], [.int v5], (zS I6 J7 tg8))) rfl ?_
    refine Runs.sN 3 (c' := (70, [.ref 93, .int x1, .int x2, .int x3, .int x4, .int v5, .int 0, vU, vU, vU], [], (zS I6 J7 tg8))) rfl ?_
    exact h
theorem sg_197_70 {L d : Nat} {xs : Nat → Int32} (I : Nat → Nat → Int32) (J : Nat → Nat → Int64) (tg : Option Nat) (x1 : Int32) (x2 : Int32) (x3 : Int32) (x4 : Int32) (x5 : Int32) (x6 : Int32) {r : Option Value × SS} (h : ((if (1 <<< (x3 &&& 31)) ≤ x6 then (Runs (GW L xs) (d + 1) 197 (205, [.ref 93, .int x1, .int x2, .int x3, .int x4, .int x5, .int 0, vU, vU, vU], [], (zS I J tg)) r) else (¬ (x6 < 0 ∨ 64 ≤ (x6).toNatClampNeg) ∧ ¬ (x6 < 0 ∨ 64 ≤ (x6).toNatClampNeg) ∧ Runs (GW L xs) (d + 1) 197 (103, [.ref 93, .int x1, .int x2, .int x3, .int x4, .int x5, .int x6, .int 0, vU, vU], [], (zS (up2 I 98 ((x6).toNatClampNeg) ((I 97 ((x6).toNatClampNeg)) + (I 94 10))) J tg)) r)))) : Runs (GW L xs) (d + 1) 197 (70, [.ref 93, .int x1, .int x2, .int x3, .int x4, .int x5, .int x6, vU, vU, vU], [], (zS I J tg)) r := by
  refine Runs.sN 4 (c' := (75, [.ref 93, .int x1, .int x2, .int x3, .int x4, .int x5, .int x6, vU, vU, vU], [.int (1 <<< (x3 &&& 31)), .int x6], (zS I J tg))) rfl ?_
  by_cases c1 : (1 <<< (x3 &&& 31)) ≤ x6
  · rw [if_pos c1] at h
    refine Runs.brT (P := (1 <<< (x3 &&& 31)) ≤ x6) (a := 202) (b := 78) (L := [.ref 93, .int x1, .int x2, .int x3, .int x4, .int x5, .int x6, vU, vU, vU]) (S := []) (z := (zS I J tg)) rfl c1 ?_
    refine Runs.sN 2 (c' := (205, [.ref 93, .int x1, .int x2, .int x3, .int x4, .int x5, .int 0, vU, vU, vU], [], (zS I J tg))) rfl ?_
    exact h
  · rw [if_neg c1] at h
    refine Runs.brF (P := (1 <<< (x3 &&& 31)) ≤ x6) (a := 202) (b := 78) (L := [.ref 93, .int x1, .int x2, .int x3, .int x4, .int x5, .int x6, vU, vU, vU]) (S := []) (z := (zS I J tg)) rfl c1 ?_
    refine Runs.sN 6 (c' := (90, [.ref 93, .int x1, .int x2, .int x3, .int x4, .int x5, .int x6, vU, vU, vU], [.int x6, .ref 97, .int x6, .ref 98], (zS I J tg))) rfl ?_
    obtain ⟨c2, h⟩ := h
    refine Runs.to (c' := (91, [.ref 93, .int x1, .int x2, .int x3, .int x4, .int x5, .int x6, vU, vU, vU], [.int (I 97 ((x6).toNatClampNeg)), .int x6, .ref 98], (zS I J tg))) (Runs.ild rfl (show (97 : Nat) < 114 by decide) rfl c2) ?_
    refine Runs.sN 5 (c' := (99, [.ref 93, .int x1, .int x2, .int x3, .int x4, .int x5, .int x6, vU, vU, vU], [.int ((I 97 ((x6).toNatClampNeg)) + (I 94 10)), .int x6, .ref 98], (zS I J tg))) rfl ?_
    obtain ⟨c3, h⟩ := h
    refine Runs.to (c' := (100, [.ref 93, .int x1, .int x2, .int x3, .int x4, .int x5, .int x6, vU, vU, vU], [], (zS (up2 I 98 ((x6).toNatClampNeg) ((I 97 ((x6).toNatClampNeg)) + (I 94 10))) J tg))) (Runs.ist rfl (show (98 : Nat) < 114 by decide) rfl c3) ?_
    refine Runs.sN 2 (c' := (103, [.ref 93, .int x1, .int x2, .int x3, .int x4, .int x5, .int x6, .int 0, vU, vU], [], (zS (up2 I 98 ((x6).toNatClampNeg) ((I 97 ((x6).toNatClampNeg)) + (I 94 10))) J tg))) rfl ?_
    exact h
theorem sg_197_103 {L d : Nat} {xs : Nat → Int32} (I : Nat → Nat → Int32) (J : Nat → Nat → Int64) (tg : Option Nat) (x1 : Int32) (x2 : Int32) (x3 : Int32) (x4 : Int32) (x5 : Int32) (x6 : Int32) (x7 : Int32) {r : Option Value × SS} (h : ((if x3 ≤ x7 then (Runs (GW L xs) (d + 1) 197 (70, [.ref 93, .int x1, .int x2, .int x3, .int x4, .int x5, .int (x6 + 1), vU, vU, vU], [], (zS I J tg)) r) else (∃ (v1 : Int32) (I2 : Nat → Nat → Int32) (J3 : Nat → Nat → Int64) (tg4 : Option Nat), Runs (GW L xs) d 184 (0, [.ref 93, .int x2, .int (4 + x7)], [], (zS I J tg)) ((some (.int v1)), (zS I2 J3 tg4)) ∧ (if ((x6 >>> (x7 &&& 31)) &&& 1) = 0 then (Runs (GW L xs) (d + 1) 197 (103, [.ref 93, .int x1, .int x2, .int x3, .int x4, .int x5, .int x6, .int (x7 + 1), vU, vU], [], (zS I2 J3 tg4)) r) else ((if (x5 / 36) = (v1 / 36) then (¬ ((x6 ^^^ (1 <<< (x7 &&& 31))) < 0 ∨ 64 ≤ (x6 ^^^ (1 <<< (x7 &&& 31))).toNatClampNeg) ∧ ∃ (v5 : Int32) (I6 : Nat → Nat → Int32) (J7 : Nat → Nat → Int64) (tg8 : Option Nat), Runs (GW L xs) d 196 (0, [.ref 93, .int x5, .int v1, vU, vU], [], (zS I2 J3 tg4)) ((some (.int v5)), (zS I6 J7 tg8)) ∧ ¬ (x6 < 0 ∨ 64 ≤ (x6).toNatClampNeg) ∧ (if (I6 98 ((x6).toNatClampNeg)) ≤ ((I2 97 ((x6 ^^^ (1 <<< (x7 &&& 31))).toNatClampNeg)) + v5) then (Runs (GW L xs) (d + 1) 197 (103, [.ref 93, .int x1, .int x2, .int x3, .int x4, .int x5, .int x6, .int (x7 + 1), vU, vU], [], (zS I6 J7 tg8)) r) else (¬ (x6 < 0 ∨ 64 ≤ (x6).toNatClampNeg) ∧ Runs (GW L xs) (d + 1) 197 (103, [.ref 93, .int x1, .int x2, .int x3, .int x4, .int x5, .int x6, .int (x7 + 1), vU, vU], [], (zS (up2 I6 98 ((x6).toNatClampNeg) ((I2 97 ((x6 ^^^ (1 <<< (x7 &&& 31))).toNatClampNeg)) + v5)) J7 tg8)) r))) else (Runs (GW L xs) (d + 1) 197 (103, [.ref 93, .int x1, .int x2, .int x3, .int x4, .int x5, .int x6, .int (x7 + 1), vU, vU], [], (zS I2 J3 tg4)) r)))))))) : Runs (GW L xs) (d + 1) 197 (103, [.ref 93, .int x1, .int x2, .int x3, .int x4, .int x5, .int x6, .int x7, vU, vU], [], (zS I J tg)) r := by
  refine Runs.sN 2 (c' := (106, [.ref 93, .int x1, .int x2, .int x3, .int x4, .int x5, .int x6, .int x7, vU, vU], [.int x3, .int x7], (zS I J tg))) rfl ?_
  by_cases c9 : x3 ≤ x7
  · rw [if_pos c9] at h
    refine Runs.brT (P := x3 ≤ x7) (a := 196) (b := 109) (L := [.ref 93, .int x1, .int x2, .int x3, .int x4, .int x5, .int x6, .int x7, vU, vU]) (S := []) (z := (zS I J tg)) rfl c9 ?_
    refine Runs.sN 2 (c' := (70, [.ref 93, .int x1, .int x2, .int x3, .int x4, .int x5, .int (x6 + 1), .int x7, vU, vU], [], (zS I J tg))) rfl ?_
    exact Runs.weak (L := [.ref 93, .int x1, .int x2, .int x3, .int x4, .int x5, .int (x6 + 1), vU, vU, vU]) (Lle.k (Lle.k (Lle.k (Lle.k (Lle.k (Lle.k (Lle.k (Lle.u (Lle.k (Lle.k Lle.n)))))))))) h
  · rw [if_neg c9] at h
    refine Runs.brF (P := x3 ≤ x7) (a := 196) (b := 109) (L := [.ref 93, .int x1, .int x2, .int x3, .int x4, .int x5, .int x6, .int x7, vU, vU]) (S := []) (z := (zS I J tg)) rfl c9 ?_
    refine Runs.sN 5 (c' := (115, [.ref 93, .int x1, .int x2, .int x3, .int x4, .int x5, .int x6, .int x7, vU, vU], [.int (4 + x7), .int x2, .ref 93], (zS I J tg))) rfl ?_
    obtain ⟨v1, I2, J3, tg4, c10, h⟩ := h
    refine Runs.cl (cm := 184) (as := [.ref 93, .int x2, .int (4 + x7)]) (rest := []) (r1 := ((some (.int v1)), (zS I2 J3 tg4))) rfl (Nat.le_of_ble_eq_true rfl) c10 ?_
    refine Runs.as (c' := (118, [.ref 93, .int x1, .int x2, .int x3, .int x4, .int x5, .int x6, .int x7, vU, vU], [.int v1], (zS I2 J3 tg4))) rfl ?_
    refine Runs.sN 6 (c' := (127, [.ref 93, .int x1, .int x2, .int x3, .int x4, .int x5, .int x6, .int x7, .int v1, vU], [.int ((x6 >>> (x7 &&& 31)) &&& 1)], (zS I2 J3 tg4))) rfl ?_
    by_cases c11 : ((x6 >>> (x7 &&& 31)) &&& 1) = 0
    · rw [if_pos c11] at h
      refine Runs.brT (P := ((x6 >>> (x7 &&& 31)) &&& 1) = 0) (a := 190) (b := 130) (L := [.ref 93, .int x1, .int x2, .int x3, .int x4, .int x5, .int x6, .int x7, .int v1, vU]) (S := []) (z := (zS I2 J3 tg4)) rfl c11 ?_
      refine Runs.sN 2 (c' := (103, [.ref 93, .int x1, .int x2, .int x3, .int x4, .int x5, .int x6, .int (x7 + 1), .int v1, vU], [], (zS I2 J3 tg4))) rfl ?_
      exact Runs.weak (L := [.ref 93, .int x1, .int x2, .int x3, .int x4, .int x5, .int x6, .int (x7 + 1), vU, vU]) (Lle.k (Lle.k (Lle.k (Lle.k (Lle.k (Lle.k (Lle.k (Lle.k (Lle.u (Lle.k Lle.n)))))))))) h
    · rw [if_neg c11] at h
      refine Runs.brF (P := ((x6 >>> (x7 &&& 31)) &&& 1) = 0) (a := 190) (b := 130) (L := [.ref 93, .int x1, .int x2, .int x3, .int x4, .int x5, .int x6, .int x7, .int v1, vU]) (S := []) (z := (zS I2 J3 tg4)) rfl c11 ?_
      refine Runs.sN 6 (c' := (140, [.ref 93, .int x1, .int x2, .int x3, .int x4, .int x5, .int x6, .int x7, .int v1, vU], [.int (v1 / 36), .int (x5 / 36)], (zS I2 J3 tg4))) rfl ?_
      by_cases c12 : (x5 / 36) = (v1 / 36)
      · rw [if_pos c12] at h
        refine Runs.brT (P := (x5 / 36) = (v1 / 36)) (a := 146) (b := 143) (L := [.ref 93, .int x1, .int x2, .int x3, .int x4, .int x5, .int x6, .int x7, .int v1, vU]) (S := []) (z := (zS I2 J3 tg4)) rfl c12 ?_
        refine Runs.sN 7 (c' := (157, [.ref 93, .int x1, .int x2, .int x3, .int x4, .int x5, .int x6, .int x7, .int v1, vU], [.int (x6 ^^^ (1 <<< (x7 &&& 31))), .ref 97], (zS I2 J3 tg4))) rfl ?_
        obtain ⟨c13, h⟩ := h
        refine Runs.to (c' := (158, [.ref 93, .int x1, .int x2, .int x3, .int x4, .int x5, .int x6, .int x7, .int v1, vU], [.int (I2 97 ((x6 ^^^ (1 <<< (x7 &&& 31))).toNatClampNeg))], (zS I2 J3 tg4))) (Runs.ild rfl (show (97 : Nat) < 114 by decide) rfl c13) ?_
        refine Runs.sN 3 (c' := (163, [.ref 93, .int x1, .int x2, .int x3, .int x4, .int x5, .int x6, .int x7, .int v1, vU], [.int v1, .int x5, .ref 93, .int (I2 97 ((x6 ^^^ (1 <<< (x7 &&& 31))).toNatClampNeg))], (zS I2 J3 tg4))) rfl ?_
        obtain ⟨v5, I6, J7, tg8, c14, h⟩ := h
        refine Runs.cl (cm := 196) (as := [.ref 93, .int x5, .int v1]) (rest := [.int (I2 97 ((x6 ^^^ (1 <<< (x7 &&& 31))).toNatClampNeg))]) (r1 := ((some (.int v5)), (zS I6 J7 tg8))) rfl (Nat.le_of_ble_eq_true rfl) c14 ?_
        refine Runs.as (c' := (166, [.ref 93, .int x1, .int x2, .int x3, .int x4, .int x5, .int x6, .int x7, .int v1, vU], [.int v5, .int (I2 97 ((x6 ^^^ (1 <<< (x7 &&& 31))).toNatClampNeg))], (zS I6 J7 tg8))) rfl ?_
        refine Runs.sN 6 (c' := (177, [.ref 93, .int x1, .int x2, .int x3, .int x4, .int x5, .int x6, .int x7, .int v1, .int ((I2 97 ((x6 ^^^ (1 <<< (x7 &&& 31))).toNatClampNeg)) + v5)], [.int x6, .ref 98, .int ((I2 97 ((x6 ^^^ (1 <<< (x7 &&& 31))).toNatClampNeg)) + v5)], (zS I6 J7 tg8))) rfl ?_
        obtain ⟨c15, h⟩ := h
        refine Runs.to (c' := (178, [.ref 93, .int x1, .int x2, .int x3, .int x4, .int x5, .int x6, .int x7, .int v1, .int ((I2 97 ((x6 ^^^ (1 <<< (x7 &&& 31))).toNatClampNeg)) + v5)], [.int (I6 98 ((x6).toNatClampNeg)), .int ((I2 97 ((x6 ^^^ (1 <<< (x7 &&& 31))).toNatClampNeg)) + v5)], (zS I6 J7 tg8))) (Runs.ild rfl (show (98 : Nat) < 114 by decide) rfl c15) ?_
        by_cases c16 : (I6 98 ((x6).toNatClampNeg)) ≤ ((I2 97 ((x6 ^^^ (1 <<< (x7 &&& 31))).toNatClampNeg)) + v5)
        · rw [if_pos c16] at h
          refine Runs.brT (P := (I6 98 ((x6).toNatClampNeg)) ≤ ((I2 97 ((x6 ^^^ (1 <<< (x7 &&& 31))).toNatClampNeg)) + v5)) (a := 190) (b := 181) (L := [.ref 93, .int x1, .int x2, .int x3, .int x4, .int x5, .int x6, .int x7, .int v1, .int ((I2 97 ((x6 ^^^ (1 <<< (x7 &&& 31))).toNatClampNeg)) + v5)]) (S := []) (z := (zS I6 J7 tg8)) rfl c16 ?_
          refine Runs.sN 2 (c' := (103, [.ref 93, .int x1, .int x2, .int x3, .int x4, .int x5, .int x6, .int (x7 + 1), .int v1, .int ((I2 97 ((x6 ^^^ (1 <<< (x7 &&& 31))).toNatClampNeg)) + v5)], [], (zS I6 J7 tg8))) rfl ?_
          exact Runs.weak (L := [.ref 93, .int x1, .int x2, .int x3, .int x4, .int x5, .int x6, .int (x7 + 1), vU, vU]) (Lle.k (Lle.k (Lle.k (Lle.k (Lle.k (Lle.k (Lle.k (Lle.k (Lle.u (Lle.u Lle.n)))))))))) h
        · rw [if_neg c16] at h
          refine Runs.brF (P := (I6 98 ((x6).toNatClampNeg)) ≤ ((I2 97 ((x6 ^^^ (1 <<< (x7 &&& 31))).toNatClampNeg)) + v5)) (a := 190) (b := 181) (L := [.ref 93, .int x1, .int x2, .int x3, .int x4, .int x5, .int x6, .int x7, .int v1, .int ((I2 97 ((x6 ^^^ (1 <<< (x7 &&& 31))).toNatClampNeg)) + v5)]) (S := []) (z := (zS I6 J7 tg8)) rfl c16 ?_
          refine Runs.sN 4 (c' := (189, [.ref 93, .int x1, .int x2, .int x3, .int x4, .int x5, .int x6, .int x7, .int v1, .int ((I2 97 ((x6 ^^^ (1 <<< (x7 &&& 31))).toNatClampNeg)) + v5)], [.int ((I2 97 ((x6 ^^^ (1 <<< (x7 &&& 31))).toNatClampNeg)) + v5), .int x6, .ref 98], (zS I6 J7 tg8))) rfl ?_
          obtain ⟨c17, h⟩ := h
          refine Runs.to (c' := (190, [.ref 93, .int x1, .int x2, .int x3, .int x4, .int x5, .int x6, .int x7, .int v1, .int ((I2 97 ((x6 ^^^ (1 <<< (x7 &&& 31))).toNatClampNeg)) + v5)], [], (zS (up2 I6 98 ((x6).toNatClampNeg) ((I2 97 ((x6 ^^^ (1 <<< (x7 &&& 31))).toNatClampNeg)) + v5)) J7 tg8))) (Runs.ist rfl (show (98 : Nat) < 114 by decide) rfl c17) ?_
          refine Runs.sN 2 (c' := (103, [.ref 93, .int x1, .int x2, .int x3, .int x4, .int x5, .int x6, .int (x7 + 1), .int v1, .int ((I2 97 ((x6 ^^^ (1 <<< (x7 &&& 31))).toNatClampNeg)) + v5)], [], (zS (up2 I6 98 ((x6).toNatClampNeg) ((I2 97 ((x6 ^^^ (1 <<< (x7 &&& 31))).toNatClampNeg)) + v5)) J7 tg8))) rfl ?_
          exact Runs.weak (L := [.ref 93, .int x1, .int x2, .int x3, .int x4, .int x5, .int x6, .int (x7 + 1), vU, vU]) (Lle.k (Lle.k (Lle.k (Lle.k (Lle.k (Lle.k (Lle.k (Lle.k (Lle.u (Lle.u Lle.n)))))))))) h
      · rw [if_neg c12] at h
        refine Runs.brF (P := (x5 / 36) = (v1 / 36)) (a := 146) (b := 143) (L := [.ref 93, .int x1, .int x2, .int x3, .int x4, .int x5, .int x6, .int x7, .int v1, vU]) (S := []) (z := (zS I2 J3 tg4)) rfl c12 ?_
        refine Runs.sN 3 (c' := (103, [.ref 93, .int x1, .int x2, .int x3, .int x4, .int x5, .int x6, .int (x7 + 1), .int v1, vU], [], (zS I2 J3 tg4))) rfl ?_
        exact Runs.weak (L := [.ref 93, .int x1, .int x2, .int x3, .int x4, .int x5, .int x6, .int (x7 + 1), vU, vU]) (Lle.k (Lle.k (Lle.k (Lle.k (Lle.k (Lle.k (Lle.k (Lle.k (Lle.u (Lle.k Lle.n)))))))))) h
theorem sg_197_205 {L d : Nat} {xs : Nat → Int32} (I : Nat → Nat → Int32) (J : Nat → Nat → Int64) (tg : Option Nat) (x1 : Int32) (x2 : Int32) (x3 : Int32) (x4 : Int32) (x5 : Int32) (x6 : Int32) {r : Option Value × SS} (h : ((if (1 <<< (x3 &&& 31)) ≤ x6 then (Runs (GW L xs) (d + 1) 197 (45, [.ref 93, .int x1, .int x2, .int x3, .int (x4 + 1), vU, vU, vU, vU, vU], [], (zS I J tg)) r) else (¬ (x6 < 0 ∨ 64 ≤ (x6).toNatClampNeg) ∧ ¬ (x6 < 0 ∨ 64 ≤ (x6).toNatClampNeg) ∧ Runs (GW L xs) (d + 1) 197 (205, [.ref 93, .int x1, .int x2, .int x3, .int x4, .int x5, .int (x6 + 1), vU, vU, vU], [], (zS (up2 I 97 ((x6).toNatClampNeg) (I 98 ((x6).toNatClampNeg))) J tg)) r)))) : Runs (GW L xs) (d + 1) 197 (205, [.ref 93, .int x1, .int x2, .int x3, .int x4, .int x5, .int x6, vU, vU, vU], [], (zS I J tg)) r := by
  refine Runs.sN 4 (c' := (210, [.ref 93, .int x1, .int x2, .int x3, .int x4, .int x5, .int x6, vU, vU, vU], [.int (1 <<< (x3 &&& 31)), .int x6], (zS I J tg))) rfl ?_
  by_cases c1 : (1 <<< (x3 &&& 31)) ≤ x6
  · rw [if_pos c1] at h
    refine Runs.brT (P := (1 <<< (x3 &&& 31)) ≤ x6) (a := 233) (b := 213) (L := [.ref 93, .int x1, .int x2, .int x3, .int x4, .int x5, .int x6, vU, vU, vU]) (S := []) (z := (zS I J tg)) rfl c1 ?_
    refine Runs.sN 2 (c' := (45, [.ref 93, .int x1, .int x2, .int x3, .int (x4 + 1), .int x5, .int x6, vU, vU, vU], [], (zS I J tg))) rfl ?_
    exact Runs.weak (L := [.ref 93, .int x1, .int x2, .int x3, .int (x4 + 1), vU, vU, vU, vU, vU]) (Lle.k (Lle.k (Lle.k (Lle.k (Lle.k (Lle.u (Lle.u (Lle.k (Lle.k (Lle.k Lle.n)))))))))) h
  · rw [if_neg c1] at h
    refine Runs.brF (P := (1 <<< (x3 &&& 31)) ≤ x6) (a := 233) (b := 213) (L := [.ref 93, .int x1, .int x2, .int x3, .int x4, .int x5, .int x6, vU, vU, vU]) (S := []) (z := (zS I J tg)) rfl c1 ?_
    refine Runs.sN 6 (c' := (225, [.ref 93, .int x1, .int x2, .int x3, .int x4, .int x5, .int x6, vU, vU, vU], [.int x6, .ref 98, .int x6, .ref 97], (zS I J tg))) rfl ?_
    obtain ⟨c2, h⟩ := h
    refine Runs.to (c' := (226, [.ref 93, .int x1, .int x2, .int x3, .int x4, .int x5, .int x6, vU, vU, vU], [.int (I 98 ((x6).toNatClampNeg)), .int x6, .ref 97], (zS I J tg))) (Runs.ild rfl (show (98 : Nat) < 114 by decide) rfl c2) ?_
    obtain ⟨c3, h⟩ := h
    refine Runs.to (c' := (227, [.ref 93, .int x1, .int x2, .int x3, .int x4, .int x5, .int x6, vU, vU, vU], [], (zS (up2 I 97 ((x6).toNatClampNeg) (I 98 ((x6).toNatClampNeg))) J tg))) (Runs.ist rfl (show (97 : Nat) < 114 by decide) rfl c3) ?_
    refine Runs.sN 2 (c' := (205, [.ref 93, .int x1, .int x2, .int x3, .int x4, .int x5, .int (x6 + 1), vU, vU, vU], [], (zS (up2 I 97 ((x6).toNatClampNeg) (I 98 ((x6).toNatClampNeg))) J tg))) rfl ?_
    exact h
theorem sg_197_246 {L d : Nat} {xs : Nat → Int32} (I : Nat → Nat → Int32) (J : Nat → Nat → Int64) (tg : Option Nat) (x1 : Int32) (x2 : Int32) (x3 : Int32) (x4 : Int32) (x5 : Int32) {r : Option Value × SS} (h : ((if (1 <<< (x3 &&& 31)) ≤ x5 then (∃ (v1 : Int32) (I2 : Nat → Nat → Int32) (J3 : Nat → Nat → Int64) (tg4 : Option Nat), Runs (GW L xs) d 184 (0, [.ref 93, .int x1, .int 1], [], (zS I J tg)) ((some (.int v1)), (zS I2 J3 tg4)) ∧ ∃ (v5 : Int32) (I6 : Nat → Nat → Int32) (J7 : Nat → Nat → Int64) (tg8 : Option Nat), Runs (GW L xs) d 184 (0, [.ref 93, .int x2, .int 1], [], (zS I2 J3 tg4)) ((some (.int v5)), (zS I6 J7 tg8)) ∧ (if v1 = v5 then (r = (some (.int (x4 + 0)), (zS I6 J7 tg8))) else (r = (some (.int (x4 + (I6 94 11))), (zS I6 J7 tg8))))) else (¬ (x5 < 0 ∨ 64 ≤ (x5).toNatClampNeg) ∧ ∃ (v9 : Int32) (I10 : Nat → Nat → Int32) (J11 : Nat → Nat → Int64) (tg12 : Option Nat), Runs (GW L xs) d 185 (0, [.int x5, vU, vU], [], (zS I J tg)) ((some (.int v9)), (zS I10 J11 tg12)) ∧ (if x4 ≤ ((I 97 ((x5).toNatClampNeg)) + ((I 94 10) * (x3 - v9))) then (Runs (GW L xs) (d + 1) 197 (246, [.ref 93, .int x1, .int x2, .int x3, .int x4, .int (x5 + 1), vU, vU, vU, vU], [], (zS I10 J11 tg12)) r) else (Runs (GW L xs) (d + 1) 197 (246, [.ref 93, .int x1, .int x2, .int x3, .int ((I 97 ((x5).toNatClampNeg)) + ((I 94 10) * (x3 - v9))), .int (x5 + 1), vU, vU, vU, vU], [], (zS I10 J11 tg12)) r)))))) : Runs (GW L xs) (d + 1) 197 (246, [.ref 93, .int x1, .int x2, .int x3, .int x4, .int x5, vU, vU, vU, vU], [], (zS I J tg)) r := by
  refine Runs.sN 4 (c' := (251, [.ref 93, .int x1, .int x2, .int x3, .int x4, .int x5, vU, vU, vU, vU], [.int (1 <<< (x3 &&& 31)), .int x5], (zS I J tg))) rfl ?_
  by_cases c13 : (1 <<< (x3 &&& 31)) ≤ x5
  · rw [if_pos c13] at h
    refine Runs.brT (P := (1 <<< (x3 &&& 31)) ≤ x5) (a := 296) (b := 254) (L := [.ref 93, .int x1, .int x2, .int x3, .int x4, .int x5, vU, vU, vU, vU]) (S := []) (z := (zS I J tg)) rfl c13 ?_
    refine Runs.sN 4 (c' := (301, [.ref 93, .int x1, .int x2, .int x3, .int x4, .int x5, vU, vU, vU, vU], [.int 1, .int x1, .ref 93, .int x4], (zS I J tg))) rfl ?_
    obtain ⟨v1, I2, J3, tg4, c14, h⟩ := h
    refine Runs.cl (cm := 184) (as := [.ref 93, .int x1, .int 1]) (rest := [.int x4]) (r1 := ((some (.int v1)), (zS I2 J3 tg4))) rfl (Nat.le_of_ble_eq_true rfl) c14 ?_
    refine Runs.as (c' := (304, [.ref 93, .int x1, .int x2, .int x3, .int x4, .int x5, vU, vU, vU, vU], [.int v1, .int x4], (zS I2 J3 tg4))) rfl ?_
    refine Runs.sN 3 (c' := (307, [.ref 93, .int x1, .int x2, .int x3, .int x4, .int x5, vU, vU, vU, vU], [.int 1, .int x2, .ref 93, .int v1, .int x4], (zS I2 J3 tg4))) rfl ?_
    obtain ⟨v5, I6, J7, tg8, c15, h⟩ := h
    refine Runs.cl (cm := 184) (as := [.ref 93, .int x2, .int 1]) (rest := [.int v1, .int x4]) (r1 := ((some (.int v5)), (zS I6 J7 tg8))) rfl (Nat.le_of_ble_eq_true rfl) c15 ?_
    refine Runs.as (c' := (310, [.ref 93, .int x1, .int x2, .int x3, .int x4, .int x5, vU, vU, vU, vU], [.int v5, .int v1, .int x4], (zS I6 J7 tg8))) rfl ?_
    by_cases c16 : v1 = v5
    · rw [if_pos c16] at h
      refine Runs.brT (P := v1 = v5) (a := 323) (b := 313) (L := [.ref 93, .int x1, .int x2, .int x3, .int x4, .int x5, vU, vU, vU, vU]) (S := [.int x4]) (z := (zS I6 J7 tg8)) rfl c16 ?_
      refine Runs.sN 2 (c' := (325, [.ref 93, .int x1, .int x2, .int x3, .int x4, .int x5, vU, vU, vU, vU], [.int (x4 + 0)], (zS I6 J7 tg8))) rfl ?_
      subst h
      exact Runs.rt rfl
    · rw [if_neg c16] at h
      refine Runs.brF (P := v1 = v5) (a := 323) (b := 313) (L := [.ref 93, .int x1, .int x2, .int x3, .int x4, .int x5, vU, vU, vU, vU]) (S := [.int x4]) (z := (zS I6 J7 tg8)) rfl c16 ?_
      refine Runs.sN 6 (c' := (325, [.ref 93, .int x1, .int x2, .int x3, .int x4, .int x5, vU, vU, vU, vU], [.int (x4 + (I6 94 11))], (zS I6 J7 tg8))) rfl ?_
      subst h
      exact Runs.rt rfl
  · rw [if_neg c13] at h
    refine Runs.brF (P := (1 <<< (x3 &&& 31)) ≤ x5) (a := 296) (b := 254) (L := [.ref 93, .int x1, .int x2, .int x3, .int x4, .int x5, vU, vU, vU, vU]) (S := []) (z := (zS I J tg)) rfl c13 ?_
    refine Runs.sN 3 (c' := (260, [.ref 93, .int x1, .int x2, .int x3, .int x4, .int x5, vU, vU, vU, vU], [.int x5, .ref 97], (zS I J tg))) rfl ?_
    obtain ⟨c17, h⟩ := h
    refine Runs.to (c' := (261, [.ref 93, .int x1, .int x2, .int x3, .int x4, .int x5, vU, vU, vU, vU], [.int (I 97 ((x5).toNatClampNeg))], (zS I J tg))) (Runs.ild rfl (show (97 : Nat) < 114 by decide) rfl c17) ?_
    refine Runs.sN 6 (c' := (271, [.ref 93, .int x1, .int x2, .int x3, .int x4, .int x5, vU, vU, vU, vU], [.int x5, .int x3, .int (I 94 10), .int (I 97 ((x5).toNatClampNeg))], (zS I J tg))) rfl ?_
    obtain ⟨v9, I10, J11, tg12, c18, h⟩ := h
    refine Runs.cl (cm := 185) (as := [.int x5]) (rest := [.int x3, .int (I 94 10), .int (I 97 ((x5).toNatClampNeg))]) (r1 := ((some (.int v9)), (zS I10 J11 tg12))) rfl (Nat.le_of_ble_eq_true rfl) c18 ?_
    refine Runs.as (c' := (274, [.ref 93, .int x1, .int x2, .int x3, .int x4, .int x5, vU, vU, vU, vU], [.int v9, .int x3, .int (I 94 10), .int (I 97 ((x5).toNatClampNeg))], (zS I10 J11 tg12))) rfl ?_
    refine Runs.sN 6 (c' := (283, [.ref 93, .int x1, .int x2, .int x3, .int x4, .int x5, .int ((I 97 ((x5).toNatClampNeg)) + ((I 94 10) * (x3 - v9))), vU, vU, vU], [.int x4, .int ((I 97 ((x5).toNatClampNeg)) + ((I 94 10) * (x3 - v9)))], (zS I10 J11 tg12))) rfl ?_
    by_cases c19 : x4 ≤ ((I 97 ((x5).toNatClampNeg)) + ((I 94 10) * (x3 - v9)))
    · rw [if_pos c19] at h
      refine Runs.brT (P := x4 ≤ ((I 97 ((x5).toNatClampNeg)) + ((I 94 10) * (x3 - v9)))) (a := 290) (b := 286) (L := [.ref 93, .int x1, .int x2, .int x3, .int x4, .int x5, .int ((I 97 ((x5).toNatClampNeg)) + ((I 94 10) * (x3 - v9))), vU, vU, vU]) (S := []) (z := (zS I10 J11 tg12)) rfl c19 ?_
      refine Runs.sN 2 (c' := (246, [.ref 93, .int x1, .int x2, .int x3, .int x4, .int (x5 + 1), .int ((I 97 ((x5).toNatClampNeg)) + ((I 94 10) * (x3 - v9))), vU, vU, vU], [], (zS I10 J11 tg12))) rfl ?_
      exact Runs.weak (L := [.ref 93, .int x1, .int x2, .int x3, .int x4, .int (x5 + 1), vU, vU, vU, vU]) (Lle.k (Lle.k (Lle.k (Lle.k (Lle.k (Lle.k (Lle.u (Lle.k (Lle.k (Lle.k Lle.n)))))))))) h
    · rw [if_neg c19] at h
      refine Runs.brF (P := x4 ≤ ((I 97 ((x5).toNatClampNeg)) + ((I 94 10) * (x3 - v9)))) (a := 290) (b := 286) (L := [.ref 93, .int x1, .int x2, .int x3, .int x4, .int x5, .int ((I 97 ((x5).toNatClampNeg)) + ((I 94 10) * (x3 - v9))), vU, vU, vU]) (S := []) (z := (zS I10 J11 tg12)) rfl c19 ?_
      refine Runs.sN 4 (c' := (246, [.ref 93, .int x1, .int x2, .int x3, .int ((I 97 ((x5).toNatClampNeg)) + ((I 94 10) * (x3 - v9))), .int (x5 + 1), .int ((I 97 ((x5).toNatClampNeg)) + ((I 94 10) * (x3 - v9))), vU, vU, vU], [], (zS I10 J11 tg12))) rfl ?_
      exact Runs.weak (L := [.ref 93, .int x1, .int x2, .int x3, .int ((I 97 ((x5).toNatClampNeg)) + ((I 94 10) * (x3 - v9))), .int (x5 + 1), vU, vU, vU, vU]) (Lle.k (Lle.k (Lle.k (Lle.k (Lle.k (Lle.k (Lle.u (Lle.k (Lle.k (Lle.k Lle.n)))))))))) h
theorem sg_61 {L d : Nat} {xs : Nat → Int32} (I : Nat → Nat → Int32) (J : Nat → Nat → Int64) (tg : Option Nat) (a1 : Int32) {r : Option Value × SS} (h : (Runs (GW L xs) d 61 (2, [.ref 70, .int a1, .int 0], [], (zS I J tg)) r)) : Runs (GW L xs) d 61 (0, [.ref 70, .int a1, vU], [], (zS I J tg)) r := by
  refine Runs.sN 2 (c' := (2, [.ref 70, .int a1, .int 0], [], (zS I J tg))) rfl ?_
  exact h
theorem sg_61_2 {L d : Nat} {xs : Nat → Int32} (I : Nat → Nat → Int32) (J : Nat → Nat → Int64) (tg : Option Nat) (x1 : Int32) (x2 : Int32) {r : Option Value × SS} (h : ((if 24 ≤ x2 then (r = (none, (zS I J tg))) else (¬ (((x1 * 24) + x2) < 0 ∨ 576 ≤ ((x1 * 24) + x2).toNatClampNeg) ∧ ¬ (((x2 * 24) + x1) < 0 ∨ 576 ≤ ((x2 * 24) + x1).toNatClampNeg) ∧ Runs (GW L xs) d 61 (2, [.ref 70, .int x1, .int (x2 + 1)], [], (zS (up2 (up2 I 71 (((x1 * 24) + x2).toNatClampNeg) (-1)) 71 (((x2 * 24) + x1).toNatClampNeg) (-1)) J tg)) r)))) : Runs (GW L xs) d 61 (2, [.ref 70, .int x1, .int x2], [], (zS I J tg)) r := by
  refine Runs.sN 2 (c' := (5, [.ref 70, .int x1, .int x2], [.int 24, .int x2], (zS I J tg))) rfl ?_
  by_cases c1 : 24 ≤ x2
  · rw [if_pos c1] at h
    refine Runs.brT (P := 24 ≤ x2) (a := 38) (b := 8) (L := [.ref 70, .int x1, .int x2]) (S := []) (z := (zS I J tg)) rfl c1 ?_
    subst h
    exact Runs.rt rfl
  · rw [if_neg c1] at h
    refine Runs.brF (P := 24 ≤ x2) (a := 38) (b := 8) (L := [.ref 70, .int x1, .int x2]) (S := []) (z := (zS I J tg)) rfl c1 ?_
    refine Runs.sN 8 (c' := (19, [.ref 70, .int x1, .int x2], [.int (-1), .int ((x1 * 24) + x2), .ref 71], (zS I J tg))) rfl ?_
    obtain ⟨c2, h⟩ := h
    refine Runs.to (c' := (20, [.ref 70, .int x1, .int x2], [], (zS (up2 I 71 (((x1 * 24) + x2).toNatClampNeg) (-1)) J tg))) (Runs.ist rfl (show (71 : Nat) < 114 by decide) rfl c2) ?_
    refine Runs.sN 8 (c' := (31, [.ref 70, .int x1, .int x2], [.int (-1), .int ((x2 * 24) + x1), .ref 71], (zS (up2 I 71 (((x1 * 24) + x2).toNatClampNeg) (-1)) J tg))) rfl ?_
    obtain ⟨c3, h⟩ := h
    refine Runs.to (c' := (32, [.ref 70, .int x1, .int x2], [], (zS (up2 (up2 I 71 (((x1 * 24) + x2).toNatClampNeg) (-1)) 71 (((x2 * 24) + x1).toNatClampNeg) (-1)) J tg))) (Runs.ist rfl (show (71 : Nat) < 114 by decide) rfl c3) ?_
    refine Runs.sN 2 (c' := (2, [.ref 70, .int x1, .int (x2 + 1)], [], (zS (up2 (up2 I 71 (((x1 * 24) + x2).toNatClampNeg) (-1)) 71 (((x2 * 24) + x1).toNatClampNeg) (-1)) J tg))) rfl ?_
    exact h
theorem sg_67 {L d : Nat} {xs : Nat → Int32} (I : Nat → Nat → Int32) (J : Nat → Nat → Int64) (tg : Option Nat) (a1 : Int32) (a2 : Int32) {r : Option Value × SS} (h : (Runs (GW L xs) d 67 (5, [.ref 70, .int a1, .int a2, .int 0, .int 0, vU, vU, vU], [], (zS I J tg)) r)) : Runs (GW L xs) d 67 (0, [.ref 70, .int a1, .int a2, vU, vU, vU, vU, vU], [], (zS I J tg)) r := by
  refine Runs.sN 4 (c' := (5, [.ref 70, .int a1, .int a2, .int 0, .int 0, vU, vU, vU], [], (zS I J tg))) rfl ?_
  exact h
theorem sg_67_5 {L d : Nat} {xs : Nat → Int32} (I : Nat → Nat → Int32) (J : Nat → Nat → Int64) (tg : Option Nat) (x1 : Int32) (x2 : Int32) (x3 : Int32) (x4 : Int32) {r : Option Value × SS} (h : (¬ (x2 < 0 ∨ 24 ≤ (x2).toNatClampNeg) ∧ (if (I 3 ((x2).toNatClampNeg)) ≤ x4 then (r = (some (.int x3), (zS I J tg))) else (¬ (((x2 * 6) + x4) < 0 ∨ 144 ≤ ((x2 * 6) + x4).toNatClampNeg) ∧ (if ((I 2 (((x2 * 6) + x4).toNatClampNeg)) / 36) = (x1 / 36) then (¬ (((((x1 / 4) - (x1 / 4) / 9 * 9) * 9) + (((I 2 (((x2 * 6) + x4).toNatClampNeg)) / 4) - ((I 2 (((x2 * 6) + x4).toNatClampNeg)) / 4) / 9 * 9)) < 0 ∨ 81 ≤ ((((x1 / 4) - (x1 / 4) / 9 * 9) * 9) + (((I 2 (((x2 * 6) + x4).toNatClampNeg)) / 4) - ((I 2 (((x2 * 6) + x4).toNatClampNeg)) / 4) / 9 * 9)).toNatClampNeg) ∧ (if (x1 - x1 / 4 * 4) = ((I 2 (((x2 * 6) + x4).toNatClampNeg)) - (I 2 (((x2 * 6) + x4).toNatClampNeg)) / 4 * 4) then ((if (2 * (I 1 4)) ≤ (((I 1 2) * (gaps.getD ((((x1 / 4) - (x1 / 4) / 9 * 9) * 9) + (((I 2 (((x2 * 6) + x4).toNatClampNeg)) / 4) - ((I 2 (((x2 * 6) + x4).toNatClampNeg)) / 4) / 9 * 9)).toNatClampNeg 0)) + 0) then (Runs (GW L xs) d 67 (5, [.ref 70, .int x1, .int x2, .int x3, .int (x4 + 1), vU, vU, vU], [], (zS I J tg)) r) else (¬ (x3 < 0 ∨ 6 ≤ (x3).toNatClampNeg) ∧ ¬ (x3 < 0 ∨ 6 ≤ (x3).toNatClampNeg) ∧ Runs (GW L xs) d 67 (5, [.ref 70, .int x1, .int x2, .int (x3 + 1), .int (x4 + 1), vU, vU, vU], [], (zS (up2 (up2 I 73 ((x3).toNatClampNeg) (1 <<< (x4 &&& 31))) 74 ((x3).toNatClampNeg) ((2 * (I 1 4)) - (((I 1 2) * (gaps.getD ((((x1 / 4) - (x1 / 4) / 9 * 9) * 9) + (((I 2 (((x2 * 6) + x4).toNatClampNeg)) / 4) - ((I 2 (((x2 * 6) + x4).toNatClampNeg)) / 4) / 9 * 9)).toNatClampNeg 0)) + 0))) J tg)) r))) else ((if (2 * (I 1 4)) ≤ (((I 1 2) * (gaps.getD ((((x1 / 4) - (x1 / 4) / 9 * 9) * 9) + (((I 2 (((x2 * 6) + x4).toNatClampNeg)) / 4) - ((I 2 (((x2 * 6) + x4).toNatClampNeg)) / 4) / 9 * 9)).toNatClampNeg 0)) + (I 1 3)) then (Runs (GW L xs) d 67 (5, [.ref 70, .int x1, .int x2, .int x3, .int (x4 + 1), vU, vU, vU], [], (zS I J tg)) r) else (¬ (x3 < 0 ∨ 6 ≤ (x3).toNatClampNeg) ∧ ¬ (x3 < 0 ∨ 6 ≤ (x3).toNatClampNeg) ∧ Runs (GW L xs) d 67 (5, [.ref 70, .int x1, .int x2, .int (x3 + 1), .int (x4 + 1), vU, vU, vU], [], (zS (up2 (up2 I 73 ((x3).toNatClampNeg) (1 <<< (x4 &&& 31))) 74 ((x3).toNatClampNeg) ((2 * (I 1 4)) - (((I 1 2) * (gaps.getD ((((x1 / 4) - (x1 / 4) / 9 * 9) * 9) + (((I 2 (((x2 * 6) + x4).toNatClampNeg)) / 4) - ((I 2 (((x2 * 6) + x4).toNatClampNeg)) / 4) / 9 * 9)).toNatClampNeg 0)) + (I 1 3)))) J tg)) r))))) else (Runs (GW L xs) d 67 (5, [.ref 70, .int x1, .int x2, .int x3, .int (x4 + 1), vU, vU, vU], [], (zS I J tg)) r)))))) : Runs (GW L xs) d 67 (5, [.ref 70, .int x1, .int x2, .int x3, .int x4, vU, vU, vU], [], (zS I J tg)) r := by
  refine Runs.sN 5 (c' := (15, [.ref 70, .int x1, .int x2, .int x3, .int x4, vU, vU, vU], [.int x2, .ref 3, .int x4], (zS I J tg))) rfl ?_
  obtain ⟨c1, h⟩ := h
  refine Runs.to (c' := (16, [.ref 70, .int x1, .int x2, .int x3, .int x4, vU, vU, vU], [.int (I 3 ((x2).toNatClampNeg)), .int x4], (zS I J tg))) (Runs.ild rfl (show (3 : Nat) < 114 by decide) rfl c1) ?_
  by_cases c2 : (I 3 ((x2).toNatClampNeg)) ≤ x4
  · rw [if_pos c2] at h
    refine Runs.brT (P := (I 3 ((x2).toNatClampNeg)) ≤ x4) (a := 159) (b := 19) (L := [.ref 70, .int x1, .int x2, .int x3, .int x4, vU, vU, vU]) (S := []) (z := (zS I J tg)) rfl c2 ?_
    refine Runs.sN 1 (c' := (160, [.ref 70, .int x1, .int x2, .int x3, .int x4, vU, vU, vU], [.int x3], (zS I J tg))) rfl ?_
    subst h
    exact Runs.rt rfl
  · rw [if_neg c2] at h
    refine Runs.brF (P := (I 3 ((x2).toNatClampNeg)) ≤ x4) (a := 159) (b := 19) (L := [.ref 70, .int x1, .int x2, .int x3, .int x4, vU, vU, vU]) (S := []) (z := (zS I J tg)) rfl c2 ?_
    refine Runs.sN 8 (c' := (33, [.ref 70, .int x1, .int x2, .int x3, .int x4, vU, vU, vU], [.int ((x2 * 6) + x4), .ref 2], (zS I J tg))) rfl ?_
    obtain ⟨c3, h⟩ := h
    refine Runs.to (c' := (34, [.ref 70, .int x1, .int x2, .int x3, .int x4, vU, vU, vU], [.int (I 2 (((x2 * 6) + x4).toNatClampNeg))], (zS I J tg))) (Runs.ild rfl (show (2 : Nat) < 114 by decide) rfl c3) ?_
    refine Runs.sN 7 (c' := (45, [.ref 70, .int x1, .int x2, .int x3, .int x4, .int (I 2 (((x2 * 6) + x4).toNatClampNeg)), vU, vU], [.int (x1 / 36), .int ((I 2 (((x2 * 6) + x4).toNatClampNeg)) / 36)], (zS I J tg))) rfl ?_
    by_cases c4 : ((I 2 (((x2 * 6) + x4).toNatClampNeg)) / 36) = (x1 / 36)
    · rw [if_pos c4] at h
      refine Runs.brT (P := ((I 2 (((x2 * 6) + x4).toNatClampNeg)) / 36) = (x1 / 36)) (a := 51) (b := 48) (L := [.ref 70, .int x1, .int x2, .int x3, .int x4, .int (I 2 (((x2 * 6) + x4).toNatClampNeg)), vU, vU]) (S := []) (z := (zS I J tg)) rfl c4 ?_
      refine Runs.sN 14 (c' := (71, [.ref 70, .int x1, .int x2, .int x3, .int x4, .int (I 2 (((x2 * 6) + x4).toNatClampNeg)), vU, vU], [.int ((((x1 / 4) - (x1 / 4) / 9 * 9) * 9) + (((I 2 (((x2 * 6) + x4).toNatClampNeg)) / 4) - ((I 2 (((x2 * 6) + x4).toNatClampNeg)) / 4) / 9 * 9)), .retAddr 1], (zS I J tg))) rfl ?_
      obtain ⟨c5, h⟩ := h
      refine Runs.to (c' := (72, [.ref 70, .int x1, .int x2, .int x3, .int x4, .int (I 2 (((x2 * 6) + x4).toNatClampNeg)), vU, vU], [.int (gaps.getD ((((x1 / 4) - (x1 / 4) / 9 * 9) * 9) + (((I 2 (((x2 * 6) + x4).toNatClampNeg)) / 4) - ((I 2 (((x2 * 6) + x4).toNatClampNeg)) / 4) / 9 * 9)).toNatClampNeg 0)], (zS I J tg))) (Runs.sld rfl (show (1 : Nat) < 2 by decide) c5) ?_
      refine Runs.sN 12 (c' := (91, [.ref 70, .int x1, .int x2, .int x3, .int x4, .int (I 2 (((x2 * 6) + x4).toNatClampNeg)), .int (gaps.getD ((((x1 / 4) - (x1 / 4) / 9 * 9) * 9) + (((I 2 (((x2 * 6) + x4).toNatClampNeg)) / 4) - ((I 2 (((x2 * 6) + x4).toNatClampNeg)) / 4) / 9 * 9)).toNatClampNeg 0), vU], [.int ((I 2 (((x2 * 6) + x4).toNatClampNeg)) - (I 2 (((x2 * 6) + x4).toNatClampNeg)) / 4 * 4), .int (x1 - x1 / 4 * 4), .int ((I 1 2) * (gaps.getD ((((x1 / 4) - (x1 / 4) / 9 * 9) * 9) + (((I 2 (((x2 * 6) + x4).toNatClampNeg)) / 4) - ((I 2 (((x2 * 6) + x4).toNatClampNeg)) / 4) / 9 * 9)).toNatClampNeg 0))], (zS I J tg))) rfl ?_
      by_cases c6 : (x1 - x1 / 4 * 4) = ((I 2 (((x2 * 6) + x4).toNatClampNeg)) - (I 2 (((x2 * 6) + x4).toNatClampNeg)) / 4 * 4)
      · rw [if_pos c6] at h
        refine Runs.brT (P := (x1 - x1 / 4 * 4) = ((I 2 (((x2 * 6) + x4).toNatClampNeg)) - (I 2 (((x2 * 6) + x4).toNatClampNeg)) / 4 * 4)) (a := 94) (b := 98) (L := [.ref 70, .int x1, .int x2, .int x3, .int x4, .int (I 2 (((x2 * 6) + x4).toNatClampNeg)), .int (gaps.getD ((((x1 / 4) - (x1 / 4) / 9 * 9) * 9) + (((I 2 (((x2 * 6) + x4).toNatClampNeg)) / 4) - ((I 2 (((x2 * 6) + x4).toNatClampNeg)) / 4) / 9 * 9)).toNatClampNeg 0), vU]) (S := [.int ((I 1 2) * (gaps.getD ((((x1 / 4) - (x1 / 4) / 9 * 9) * 9) + (((I 2 (((x2 * 6) + x4).toNatClampNeg)) / 4) - ((I 2 (((x2 * 6) + x4).toNatClampNeg)) / 4) / 9 * 9)).toNatClampNeg 0))]) (z := (zS I J tg)) rfl c6 ?_
        refine Runs.sN 10 (c' := (119, [.ref 70, .int x1, .int x2, .int x3, .int x4, .int (I 2 (((x2 * 6) + x4).toNatClampNeg)), .int (gaps.getD ((((x1 / 4) - (x1 / 4) / 9 * 9) * 9) + (((I 2 (((x2 * 6) + x4).toNatClampNeg)) / 4) - ((I 2 (((x2 * 6) + x4).toNatClampNeg)) / 4) / 9 * 9)).toNatClampNeg 0), .int (((I 1 2) * (gaps.getD ((((x1 / 4) - (x1 / 4) / 9 * 9) * 9) + (((I 2 (((x2 * 6) + x4).toNatClampNeg)) / 4) - ((I 2 (((x2 * 6) + x4).toNatClampNeg)) / 4) / 9 * 9)).toNatClampNeg 0)) + 0)], [.int (2 * (I 1 4)), .int (((I 1 2) * (gaps.getD ((((x1 / 4) - (x1 / 4) / 9 * 9) * 9) + (((I 2 (((x2 * 6) + x4).toNatClampNeg)) / 4) - ((I 2 (((x2 * 6) + x4).toNatClampNeg)) / 4) / 9 * 9)).toNatClampNeg 0)) + 0)], (zS I J tg))) rfl ?_
        by_cases c7 : (2 * (I 1 4)) ≤ (((I 1 2) * (gaps.getD ((((x1 / 4) - (x1 / 4) / 9 * 9) * 9) + (((I 2 (((x2 * 6) + x4).toNatClampNeg)) / 4) - ((I 2 (((x2 * 6) + x4).toNatClampNeg)) / 4) / 9 * 9)).toNatClampNeg 0)) + 0)
        · rw [if_pos c7] at h
          refine Runs.brT (P := (2 * (I 1 4)) ≤ (((I 1 2) * (gaps.getD ((((x1 / 4) - (x1 / 4) / 9 * 9) * 9) + (((I 2 (((x2 * 6) + x4).toNatClampNeg)) / 4) - ((I 2 (((x2 * 6) + x4).toNatClampNeg)) / 4) / 9 * 9)).toNatClampNeg 0)) + 0)) (a := 153) (b := 122) (L := [.ref 70, .int x1, .int x2, .int x3, .int x4, .int (I 2 (((x2 * 6) + x4).toNatClampNeg)), .int (gaps.getD ((((x1 / 4) - (x1 / 4) / 9 * 9) * 9) + (((I 2 (((x2 * 6) + x4).toNatClampNeg)) / 4) - ((I 2 (((x2 * 6) + x4).toNatClampNeg)) / 4) / 9 * 9)).toNatClampNeg 0), .int (((I 1 2) * (gaps.getD ((((x1 / 4) - (x1 / 4) / 9 * 9) * 9) + (((I 2 (((x2 * 6) + x4).toNatClampNeg)) / 4) - ((I 2 (((x2 * 6) + x4).toNatClampNeg)) / 4) / 9 * 9)).toNatClampNeg 0)) + 0)]) (S := []) (z := (zS I J tg)) rfl c7 ?_
          refine Runs.sN 2 (c' := (5, [.ref 70, .int x1, .int x2, .int x3, .int (x4 + 1), .int (I 2 (((x2 * 6) + x4).toNatClampNeg)), .int (gaps.getD ((((x1 / 4) - (x1 / 4) / 9 * 9) * 9) + (((I 2 (((x2 * 6) + x4).toNatClampNeg)) / 4) - ((I 2 (((x2 * 6) + x4).toNatClampNeg)) / 4) / 9 * 9)).toNatClampNeg 0), .int (((I 1 2) * (gaps.getD ((((x1 / 4) - (x1 / 4) / 9 * 9) * 9) + (((I 2 (((x2 * 6) + x4).toNatClampNeg)) / 4) - ((I 2 (((x2 * 6) + x4).toNatClampNeg)) / 4) / 9 * 9)).toNatClampNeg 0)) + 0)], [], (zS I J tg))) rfl ?_
          exact Runs.weak (L := [.ref 70, .int x1, .int x2, .int x3, .int (x4 + 1), vU, vU, vU]) (Lle.k (Lle.k (Lle.k (Lle.k (Lle.k (Lle.u (Lle.u (Lle.u Lle.n)))))))) h
        · rw [if_neg c7] at h
          refine Runs.brF (P := (2 * (I 1 4)) ≤ (((I 1 2) * (gaps.getD ((((x1 / 4) - (x1 / 4) / 9 * 9) * 9) + (((I 2 (((x2 * 6) + x4).toNatClampNeg)) / 4) - ((I 2 (((x2 * 6) + x4).toNatClampNeg)) / 4) / 9 * 9)).toNatClampNeg 0)) + 0)) (a := 153) (b := 122) (L := [.ref 70, .int x1, .int x2, .int x3, .int x4, .int (I 2 (((x2 * 6) + x4).toNatClampNeg)), .int (gaps.getD ((((x1 / 4) - (x1 / 4) / 9 * 9) * 9) + (((I 2 (((x2 * 6) + x4).toNatClampNeg)) / 4) - ((I 2 (((x2 * 6) + x4).toNatClampNeg)) / 4) / 9 * 9)).toNatClampNeg 0), .int (((I 1 2) * (gaps.getD ((((x1 / 4) - (x1 / 4) / 9 * 9) * 9) + (((I 2 (((x2 * 6) + x4).toNatClampNeg)) / 4) - ((I 2 (((x2 * 6) + x4).toNatClampNeg)) / 4) / 9 * 9)).toNatClampNeg 0)) + 0)]) (S := []) (z := (zS I J tg)) rfl c7 ?_
          refine Runs.sN 6 (c' := (131, [.ref 70, .int x1, .int x2, .int x3, .int x4, .int (I 2 (((x2 * 6) + x4).toNatClampNeg)), .int (gaps.getD ((((x1 / 4) - (x1 / 4) / 9 * 9) * 9) + (((I 2 (((x2 * 6) + x4).toNatClampNeg)) / 4) - ((I 2 (((x2 * 6) + x4).toNatClampNeg)) / 4) / 9 * 9)).toNatClampNeg 0), .int (((I 1 2) * (gaps.getD ((((x1 / 4) - (x1 / 4) / 9 * 9) * 9) + (((I 2 (((x2 * 6) + x4).toNatClampNeg)) / 4) - ((I 2 (((x2 * 6) + x4).toNatClampNeg)) / 4) / 9 * 9)).toNatClampNeg 0)) + 0)], [.int (1 <<< (x4 &&& 31)), .int x3, .ref 73], (zS I J tg))) rfl ?_
          obtain ⟨c8, h⟩ := h
          refine Runs.to (c' := (132, [.ref 70, .int x1, .int x2, .int x3, .int x4, .int (I 2 (((x2 * 6) + x4).toNatClampNeg)), .int (gaps.getD ((((x1 / 4) - (x1 / 4) / 9 * 9) * 9) + (((I 2 (((x2 * 6) + x4).toNatClampNeg)) / 4) - ((I 2 (((x2 * 6) + x4).toNatClampNeg)) / 4) / 9 * 9)).toNatClampNeg 0), .int (((I 1 2) * (gaps.getD ((((x1 / 4) - (x1 / 4) / 9 * 9) * 9) + (((I 2 (((x2 * 6) + x4).toNatClampNeg)) / 4) - ((I 2 (((x2 * 6) + x4).toNatClampNeg)) / 4) / 9 * 9)).toNatClampNeg 0)) + 0)], [], (zS (up2 I 73 ((x3).toNatClampNeg) (1 <<< (x4 &&& 31))) J tg))) (Runs.ist rfl (show (73 : Nat) < 114 by decide) rfl c8) ?_
          refine Runs.sN 10 (c' := (149, [.ref 70, .int x1, .int x2, .int x3, .int x4, .int (I 2 (((x2 * 6) + x4).toNatClampNeg)), .int (gaps.getD ((((x1 / 4) - (x1 / 4) / 9 * 9) * 9) + (((I 2 (((x2 * 6) + x4).toNatClampNeg)) / 4) - ((I 2 (((x2 * 6) + x4).toNatClampNeg)) / 4) / 9 * 9)).toNatClampNeg 0), .int (((I 1 2) * (gaps.getD ((((x1 / 4) - (x1 / 4) / 9 * 9) * 9) + (((I 2 (((x2 * 6) + x4).toNatClampNeg)) / 4) - ((I 2 (((x2 * 6) + x4).toNatClampNeg)) / 4) / 9 * 9)).toNatClampNeg 0)) + 0)], [.int ((2 * (I 1 4)) - (((I 1 2) * (gaps.getD ((((x1 / 4) - (x1 / 4) / 9 * 9) * 9) + (((I 2 (((x2 * 6) + x4).toNatClampNeg)) / 4) - ((I 2 (((x2 * 6) + x4).toNatClampNeg)) / 4) / 9 * 9)).toNatClampNeg 0)) + 0)), .int x3, .ref 74], (zS (up2 I 73 ((x3).toNatClampNeg) (1 <<< (x4 &&& 31))) J tg))) rfl ?_
          obtain ⟨c9, h⟩ := h
          refine Runs.to (c' := (150, [.ref 70, .int x1, .int x2, .int x3, .int x4, .int (I 2 (((x2 * 6) + x4).toNatClampNeg)), .int (gaps.getD ((((x1 / 4) - (x1 / 4) / 9 * 9) * 9) + (((I 2 (((x2 * 6) + x4).toNatClampNeg)) / 4) - ((I 2 (((x2 * 6) + x4).toNatClampNeg)) / 4) / 9 * 9)).toNatClampNeg 0), .int (((I 1 2) * (gaps.getD ((((x1 / 4) - (x1 / 4) / 9 * 9) * 9) + (((I 2 (((x2 * 6) + x4).toNatClampNeg)) / 4) - ((I 2 (((x2 * 6) + x4).toNatClampNeg)) / 4) / 9 * 9)).toNatClampNeg 0)) + 0)], [], (zS (up2 (up2 I 73 ((x3).toNatClampNeg) (1 <<< (x4 &&& 31))) 74 ((x3).toNatClampNeg) ((2 * (I 1 4)) - (((I 1 2) * (gaps.getD ((((x1 / 4) - (x1 / 4) / 9 * 9) * 9) + (((I 2 (((x2 * 6) + x4).toNatClampNeg)) / 4) - ((I 2 (((x2 * 6) + x4).toNatClampNeg)) / 4) / 9 * 9)).toNatClampNeg 0)) + 0))) J tg))) (Runs.ist rfl (show (74 : Nat) < 114 by decide) rfl c9) ?_
          refine Runs.sN 3 (c' := (5, [.ref 70, .int x1, .int x2, .int (x3 + 1), .int (x4 + 1), .int (I 2 (((x2 * 6) + x4).toNatClampNeg)), .int (gaps.getD ((((x1 / 4) - (x1 / 4) / 9 * 9) * 9) + (((I 2 (((x2 * 6) + x4).toNatClampNeg)) / 4) - ((I 2 (((x2 * 6) + x4).toNatClampNeg)) / 4) / 9 * 9)).toNatClampNeg 0), .int (((I 1 2) * (gaps.getD ((((x1 / 4) - (x1 / 4) / 9 * 9) * 9) + (((I 2 (((x2 * 6) + x4).toNatClampNeg)) / 4) - ((I 2 (((x2 * 6) + x4).toNatClampNeg)) / 4) / 9 * 9)).toNatClampNeg 0)) + 0)], [], (zS (up2 (up2 I 73 ((x3).toNatClampNeg) (1 <<< (x4 &&& 31))) 74 ((x3).toNatClampNeg) ((2 * (I 1 4)) - (((I 1 2) * (gaps.getD ((((x1 / 4) - (x1 / 4) / 9 * 9) * 9) + (((I 2 (((x2 * 6) + x4).toNatClampNeg)) / 4) - ((I 2 (((x2 * 6) + x4).toNatClampNeg)) / 4) / 9 * 9)).toNatClampNeg 0)) + 0))) J tg))) rfl ?_
          exact Runs.weak (L := [.ref 70, .int x1, .int x2, .int (x3 + 1), .int (x4 + 1), vU, vU, vU]) (Lle.k (Lle.k (Lle.k (Lle.k (Lle.k (Lle.u (Lle.u (Lle.u Lle.n)))))))) h
      · rw [if_neg c6] at h
        refine Runs.brF (P := (x1 - x1 / 4 * 4) = ((I 2 (((x2 * 6) + x4).toNatClampNeg)) - (I 2 (((x2 * 6) + x4).toNatClampNeg)) / 4 * 4)) (a := 94) (b := 98) (L := [.ref 70, .int x1, .int x2, .int x3, .int x4, .int (I 2 (((x2 * 6) + x4).toNatClampNeg)), .int (gaps.getD ((((x1 / 4) - (x1 / 4) / 9 * 9) * 9) + (((I 2 (((x2 * 6) + x4).toNatClampNeg)) / 4) - ((I 2 (((x2 * 6) + x4).toNatClampNeg)) / 4) / 9 * 9)).toNatClampNeg 0), vU]) (S := [.int ((I 1 2) * (gaps.getD ((((x1 / 4) - (x1 / 4) / 9 * 9) * 9) + (((I 2 (((x2 * 6) + x4).toNatClampNeg)) / 4) - ((I 2 (((x2 * 6) + x4).toNatClampNeg)) / 4) / 9 * 9)).toNatClampNeg 0))]) (z := (zS I J tg)) rfl c6 ?_
        refine Runs.sN 11 (c' := (119, [.ref 70, .int x1, .int x2, .int x3, .int x4, .int (I 2 (((x2 * 6) + x4).toNatClampNeg)), .int (gaps.getD ((((x1 / 4) - (x1 / 4) / 9 * 9) * 9) + (((I 2 (((x2 * 6) + x4).toNatClampNeg)) / 4) - ((I 2 (((x2 * 6) + x4).toNatClampNeg)) / 4) / 9 * 9)).toNatClampNeg 0), .int (((I 1 2) * (gaps.getD ((((x1 / 4) - (x1 / 4) / 9 * 9) * 9) + (((I 2 (((x2 * 6) + x4).toNatClampNeg)) / 4) - ((I 2 (((x2 * 6) + x4).toNatClampNeg)) / 4) / 9 * 9)).toNatClampNeg 0)) + (I 1 3))], [.int (2 * (I 1 4)), .int (((I 1 2) * (gaps.getD ((((x1 / 4) - (x1 / 4) / 9 * 9) * 9) + (((I 2 (((x2 * 6) + x4).toNatClampNeg)) / 4) - ((I 2 (((x2 * 6) + x4).toNatClampNeg)) / 4) / 9 * 9)).toNatClampNeg 0)) + (I 1 3))], (zS I J tg))) rfl ?_
        by_cases c10 : (2 * (I 1 4)) ≤ (((I 1 2) * (gaps.getD ((((x1 / 4) - (x1 / 4) / 9 * 9) * 9) + (((I 2 (((x2 * 6) + x4).toNatClampNeg)) / 4) - ((I 2 (((x2 * 6) + x4).toNatClampNeg)) / 4) / 9 * 9)).toNatClampNeg 0)) + (I 1 3))
        · rw [if_pos c10] at h
          refine Runs.brT (P := (2 * (I 1 4)) ≤ (((I 1 2) * (gaps.getD ((((x1 / 4) - (x1 / 4) / 9 * 9) * 9) + (((I 2 (((x2 * 6) + x4).toNatClampNeg)) / 4) - ((I 2 (((x2 * 6) + x4).toNatClampNeg)) / 4) / 9 * 9)).toNatClampNeg 0)) + (I 1 3))) (a := 153) (b := 122) (L := [.ref 70, .int x1, .int x2, .int x3, .int x4, .int (I 2 (((x2 * 6) + x4).toNatClampNeg)), .int (gaps.getD ((((x1 / 4) - (x1 / 4) / 9 * 9) * 9) + (((I 2 (((x2 * 6) + x4).toNatClampNeg)) / 4) - ((I 2 (((x2 * 6) + x4).toNatClampNeg)) / 4) / 9 * 9)).toNatClampNeg 0), .int (((I 1 2) * (gaps.getD ((((x1 / 4) - (x1 / 4) / 9 * 9) * 9) + (((I 2 (((x2 * 6) + x4).toNatClampNeg)) / 4) - ((I 2 (((x2 * 6) + x4).toNatClampNeg)) / 4) / 9 * 9)).toNatClampNeg 0)) + (I 1 3))]) (S := []) (z := (zS I J tg)) rfl c10 ?_
          refine Runs.sN 2 (c' := (5, [.ref 70, .int x1, .int x2, .int x3, .int (x4 + 1), .int (I 2 (((x2 * 6) + x4).toNatClampNeg)), .int (gaps.getD ((((x1 / 4) - (x1 / 4) / 9 * 9) * 9) + (((I 2 (((x2 * 6) + x4).toNatClampNeg)) / 4) - ((I 2 (((x2 * 6) + x4).toNatClampNeg)) / 4) / 9 * 9)).toNatClampNeg 0), .int (((I 1 2) * (gaps.getD ((((x1 / 4) - (x1 / 4) / 9 * 9) * 9) + (((I 2 (((x2 * 6) + x4).toNatClampNeg)) / 4) - ((I 2 (((x2 * 6) + x4).toNatClampNeg)) / 4) / 9 * 9)).toNatClampNeg 0)) + (I 1 3))], [], (zS I J tg))) rfl ?_
          exact Runs.weak (L := [.ref 70, .int x1, .int x2, .int x3, .int (x4 + 1), vU, vU, vU]) (Lle.k (Lle.k (Lle.k (Lle.k (Lle.k (Lle.u (Lle.u (Lle.u Lle.n)))))))) h
        · rw [if_neg c10] at h
          refine Runs.brF (P := (2 * (I 1 4)) ≤ (((I 1 2) * (gaps.getD ((((x1 / 4) - (x1 / 4) / 9 * 9) * 9) + (((I 2 (((x2 * 6) + x4).toNatClampNeg)) / 4) - ((I 2 (((x2 * 6) + x4).toNatClampNeg)) / 4) / 9 * 9)).toNatClampNeg 0)) + (I 1 3))) (a := 153) (b := 122) (L := [.ref 70, .int x1, .int x2, .int x3, .int x4, .int (I 2 (((x2 * 6) + x4).toNatClampNeg)), .int (gaps.getD ((((x1 / 4) - (x1 / 4) / 9 * 9) * 9) + (((I 2 (((x2 * 6) + x4).toNatClampNeg)) / 4) - ((I 2 (((x2 * 6) + x4).toNatClampNeg)) / 4) / 9 * 9)).toNatClampNeg 0), .int (((I 1 2) * (gaps.getD ((((x1 / 4) - (x1 / 4) / 9 * 9) * 9) + (((I 2 (((x2 * 6) + x4).toNatClampNeg)) / 4) - ((I 2 (((x2 * 6) + x4).toNatClampNeg)) / 4) / 9 * 9)).toNatClampNeg 0)) + (I 1 3))]) (S := []) (z := (zS I J tg)) rfl c10 ?_
          refine Runs.sN 6 (c' := (131, [.ref 70, .int x1, .int x2, .int x3, .int x4, .int (I 2 (((x2 * 6) + x4).toNatClampNeg)), .int (gaps.getD ((((x1 / 4) - (x1 / 4) / 9 * 9) * 9) + (((I 2 (((x2 * 6) + x4).toNatClampNeg)) / 4) - ((I 2 (((x2 * 6) + x4).toNatClampNeg)) / 4) / 9 * 9)).toNatClampNeg 0), .int (((I 1 2) * (gaps.getD ((((x1 / 4) - (x1 / 4) / 9 * 9) * 9) + (((I 2 (((x2 * 6) + x4).toNatClampNeg)) / 4) - ((I 2 (((x2 * 6) + x4).toNatClampNeg)) / 4) / 9 * 9)).toNatClampNeg 0)) + (I 1 3))], [.int (1 <<< (x4 &&& 31)), .int x3, .ref 73], (zS I J tg))) rfl ?_
          obtain ⟨c11, h⟩ := h
          refine Runs.to (c' := (132, [.ref 70, .int x1, .int x2, .int x3, .int x4, .int (I 2 (((x2 * 6) + x4).toNatClampNeg)), .int (gaps.getD ((((x1 / 4) - (x1 / 4) / 9 * 9) * 9) + (((I 2 (((x2 * 6) + x4).toNatClampNeg)) / 4) - ((I 2 (((x2 * 6) + x4).toNatClampNeg)) / 4) / 9 * 9)).toNatClampNeg 0), .int (((I 1 2) * (gaps.getD ((((x1 / 4) - (x1 / 4) / 9 * 9) * 9) + (((I 2 (((x2 * 6) + x4).toNatClampNeg)) / 4) - ((I 2 (((x2 * 6) + x4).toNatClampNeg)) / 4) / 9 * 9)).toNatClampNeg 0)) + (I 1 3))], [], (zS (up2 I 73 ((x3).toNatClampNeg) (1 <<< (x4 &&& 31))) J tg))) (Runs.ist rfl (show (73 : Nat) < 114 by decide) rfl c11) ?_
          refine Runs.sN 10 (c' := (149, [.ref 70, .int x1, .int x2, .int x3, .int x4, .int (I 2 (((x2 * 6) + x4).toNatClampNeg)), .int (gaps.getD ((((x1 / 4) - (x1 / 4) / 9 * 9) * 9) + (((I 2 (((x2 * 6) + x4).toNatClampNeg)) / 4) - ((I 2 (((x2 * 6) + x4).toNatClampNeg)) / 4) / 9 * 9)).toNatClampNeg 0), .int (((I 1 2) * (gaps.getD ((((x1 / 4) - (x1 / 4) / 9 * 9) * 9) + (((I 2 (((x2 * 6) + x4).toNatClampNeg)) / 4) - ((I 2 (((x2 * 6) + x4).toNatClampNeg)) / 4) / 9 * 9)).toNatClampNeg 0)) + (I 1 3))], [.int ((2 * (I 1 4)) - (((I 1 2) * (gaps.getD ((((x1 / 4) - (x1 / 4) / 9 * 9) * 9) + (((I 2 (((x2 * 6) + x4).toNatClampNeg)) / 4) - ((I 2 (((x2 * 6) + x4).toNatClampNeg)) / 4) / 9 * 9)).toNatClampNeg 0)) + (I 1 3))), .int x3, .ref 74], (zS (up2 I 73 ((x3).toNatClampNeg) (1 <<< (x4 &&& 31))) J tg))) rfl ?_
          obtain ⟨c12, h⟩ := h
          refine Runs.to (c' := (150, [.ref 70, .int x1, .int x2, .int x3, .int x4, .int (I 2 (((x2 * 6) + x4).toNatClampNeg)), .int (gaps.getD ((((x1 / 4) - (x1 / 4) / 9 * 9) * 9) + (((I 2 (((x2 * 6) + x4).toNatClampNeg)) / 4) - ((I 2 (((x2 * 6) + x4).toNatClampNeg)) / 4) / 9 * 9)).toNatClampNeg 0), .int (((I 1 2) * (gaps.getD ((((x1 / 4) - (x1 / 4) / 9 * 9) * 9) + (((I 2 (((x2 * 6) + x4).toNatClampNeg)) / 4) - ((I 2 (((x2 * 6) + x4).toNatClampNeg)) / 4) / 9 * 9)).toNatClampNeg 0)) + (I 1 3))], [], (zS (up2 (up2 I 73 ((x3).toNatClampNeg) (1 <<< (x4 &&& 31))) 74 ((x3).toNatClampNeg) ((2 * (I 1 4)) - (((I 1 2) * (gaps.getD ((((x1 / 4) - (x1 / 4) / 9 * 9) * 9) + (((I 2 (((x2 * 6) + x4).toNatClampNeg)) / 4) - ((I 2 (((x2 * 6) + x4).toNatClampNeg)) / 4) / 9 * 9)).toNatClampNeg 0)) + (I 1 3)))) J tg))) (Runs.ist rfl (show (74 : Nat) < 114 by decide) rfl c12) ?_
          refine Runs.sN 3 (c' := (5, [.ref 70, .int x1, .int x2, .int (x3 + 1), .int (x4 + 1), .int (I 2 (((x2 * 6) + x4).toNatClampNeg)), .int (gaps.getD ((((x1 / 4) - (x1 / 4) / 9 * 9) * 9) + (((I 2 (((x2 * 6) + x4).toNatClampNeg)) / 4) - ((I 2 (((x2 * 6) + x4).toNatClampNeg)) / 4) / 9 * 9)).toNatClampNeg 0), .int (((I 1 2) * (gaps.getD ((((x1 / 4) - (x1 / 4) / 9 * 9) * 9) + (((I 2 (((x2 * 6) + x4).toNatClampNeg)) / 4) - ((I 2 (((x2 * 6) + x4).toNatClampNeg)) / 4) / 9 * 9)).toNatClampNeg 0)) + (I 1 3))], [], (zS (up2 (up2 I 73 ((x3).toNatClampNeg) (1 <<< (x4 &&& 31))) 74 ((x3).toNatClampNeg) ((2 * (I 1 4)) - (((I 1 2) * (gaps.getD ((((x1 / 4) - (x1 / 4) / 9 * 9) * 9) + (((I 2 (((x2 * 6) + x4).toNatClampNeg)) / 4) - ((I 2 (((x2 * 6) + x4).toNatClampNeg)) / 4) / 9 * 9)).toNatClampNeg 0)) + (I 1 3)))) J tg))) rfl ?_
          exact Runs.weak (L := [.ref 70, .int x1, .int x2, .int (x3 + 1), .int (x4 + 1), vU, vU, vU]) (Lle.k (Lle.k (Lle.k (Lle.k (Lle.k (Lle.u (Lle.u (Lle.u Lle.n)))))))) h
    · rw [if_neg c4] at h
      refine Runs.brF (P := ((I 2 (((x2 * 6) + x4).toNatClampNeg)) / 36) = (x1 / 36)) (a := 51) (b := 48) (L := [.ref 70, .int x1, .int x2, .int x3, .int x4, .int (I 2 (((x2 * 6) + x4).toNatClampNeg)), vU, vU]) (S := []) (z := (zS I J tg)) rfl c4 ?_
      refine Runs.sN 3 (c' := (5, [.ref 70, .int x1, .int x2, .int x3, .int (x4 + 1), .int (I 2 (((x2 * 6) + x4).toNatClampNeg)), vU, vU], [], (zS I J tg))) rfl ?_
      exact Runs.weak (L := [.ref 70, .int x1, .int x2, .int x3, .int (x4 + 1), vU, vU, vU]) (Lle.k (Lle.k (Lle.k (Lle.k (Lle.k (Lle.u (Lle.k (Lle.k Lle.n)))))))) h
theorem sg_150 {L d : Nat} {xs : Nat → Int32} (I : Nat → Nat → Int32) (J : Nat → Nat → Int64) (tg : Option Nat) (a1 : Int32) (a2 : Int32) (a3 : Int32) {r : Option Value × SS} (h : (∃ (v33 : Int32) (I34 : Nat → Nat → Int32) (J35 : Nat → Nat → Int64) (tg36 : Option Nat), Runs (GW L xs) d 44 (0, [.ref 1, .int a1], [], (zS I J tg)) ((some (.int v33)), (zS I34 J35 tg36)) ∧ (if v33 = 0 then (r = (some (.int (-1)), (zS I34 J35 tg36))) else (∃ (v37 : Int32) (I38 : Nat → Nat → Int32) (J39 : Nat → Nat → Int64) (tg40 : Option Nat), Runs (GW L xs) d 165 (0, [.int a2], [], (zS I34 J35 tg36)) ((some (.int v37)), (zS I38 J39 tg40)) ∧ (if v37 = 0 then (r = (some (.int (-1)), (zS I38 J39 tg40))) else (∃ (v41 : Int32) (I42 : Nat → Nat → Int32) (J43 : Nat → Nat → Int64) (tg44 : Option Nat), Runs (GW L xs) d 164 (0, [.int a3, .int 0, .int 50], [], (zS I38 J39 tg40)) ((some (.int v41)), (zS I42 J43 tg44)) ∧ (if v41 = 0 then (r = (some (.int (-1)), (zS I42 J43 tg44))) else (¬ (((a1 * 6) + a2) < 0 ∨ 72 ≤ ((a1 * 6) + a2).toNatClampNeg) ∧ Runs (GW L xs) (d + 1) 150 (49, [.ref 0, .int a1, .int a2, .int a3, .int (I42 12 (((a1 * 6) + a2).toNatClampNeg)), .int 0], [], (zS I42 J43 tg44)) r)))))))) : Runs (GW L xs) (d + 1) 150 (0, [.ref 0, .int a1, .int a2, .int a3, vU, vU], [], (zS I J tg)) r := by
  refine Runs.sN 3 (c' := (5, [.ref 0, .int a1, .int a2, .int a3, vU, vU], [.int a1, .ref 1], (zS I J tg))) rfl ?_
  obtain ⟨v33, I34, J35, tg36, c45, h⟩ := h
  refine Runs.cl (cm := 44) (as := [.ref 1, .int a1]) (rest := []) (r1 := ((some (.int v33)), (zS I34 J35 tg36))) rfl (Nat.le_of_ble_eq_true rfl) c45 ?_
  refine Runs.as (c' := (8, [.ref 0, .int a1, .int a2, .int a3, vU, vU], [.int v33], (zS I34 J35 tg36))) rfl ?_
  by_cases c46 : v33 = 0
  · rw [if_pos c46] at h
    refine Runs.brT (P := v33 = 0) (a := 28) (b := 11) (L := [.ref 0, .int a1, .int a2, .int a3, vU, vU]) (S := []) (z := (zS I34 J35 tg36)) rfl c46 ?_
    refine Runs.sN 1 (c' := (29, [.ref 0, .int a1, .int a2, .int a3, vU, vU], [.int (-1)], (zS I34 J35 tg36))) rfl ?_
    subst h
    exact Runs.rt rfl
  · rw [if_neg c46] at h
    refine Runs.brF (P := v33 = 0) (a := 28) (b := 11) (L := [.ref 0, .int a1, .int a2, .int a3, vU, vU]) (S := []) (z := (zS I34 J35 tg36)) rfl c46 ?_
    refine Runs.sN 1 (c' := (12, [.ref 0, .int a1, .int a2, .int a3, vU, vU], [.int a2], (zS I34 J35 tg36))) rfl ?_
    obtain ⟨v37, I38, J39, tg40, c47, h⟩ := h
    refine Runs.cl (cm := 165) (as := [.int a2]) (rest := []) (r1 := ((some (.int v37)), (zS I38 J39 tg40))) rfl (Nat.le_of_ble_eq_true rfl) c47 ?_
    refine Runs.as (c' := (15, [.ref 0, .int a1, .int a2, .int a3, vU, vU], [.int v37], (zS I38 J39 tg40))) rfl ?_
    by_cases c48 : v37 = 0
    · rw [if_pos c48] at h
      refine Runs.brT (P := v37 = 0) (a := 28) (b := 18) (L := [.ref 0, .int a1, .int a2, .int a3, vU, vU]) (S := []) (z := (zS I38 J39 tg40)) rfl c48 ?_
      refine Runs.sN 1 (c' := (29, [.ref 0, .int a1, .int a2, .int a3, vU, vU], [.int (-1)], (zS I38 J39 tg40))) rfl ?_
      subst h
      exact Runs.rt rfl
    · rw [if_neg c48] at h
      refine Runs.brF (P := v37 = 0) (a := 28) (b := 18) (L := [.ref 0, .int a1, .int a2, .int a3, vU, vU]) (S := []) (z := (zS I38 J39 tg40)) rfl c48 ?_
      refine Runs.sN 3 (c' := (22, [.ref 0, .int a1, .int a2, .int a3, vU, vU], [.int 50, .int 0, .int a3], (zS I38 J39 tg40))) rfl ?_
      obtain ⟨v41, I42, J43, tg44, c49, h⟩ := h
      refine Runs.cl (cm := 164) (as := [.int a3, .int 0, .int 50]) (rest := []) (r1 := ((some (.int v41)), (zS I42 J43 tg44))) rfl (Nat.le_of_ble_eq_true rfl) c49 ?_
      refine Runs.as (c' := (25, [.ref 0, .int a1, .int a2, .int a3, vU, vU], [.int v41], (zS I42 J43 tg44))) rfl ?_
      by_cases c50 : v41 = 0
      · rw [if_pos c50] at h
        refine Runs.brT (P := v41 = 0) (a := 28) (b := 30) (L := [.ref 0, .int a1, .int a2, .int a3, vU, vU]) (S := []) (z := (zS I42 J43 tg44)) rfl c50 ?_
        refine Runs.sN 1 (c' := (29, [.ref 0, .int a1, .int a2, .int a3, vU, vU], [.int (-1)], (zS I42 J43 tg44))) rfl ?_
        subst h
        exact Runs.rt rfl
      · rw [if_neg c50] at h
        refine Runs.brF (P := v41 = 0) (a := 28) (b := 30) (L := [.ref 0, .int a1, .int a2, .int a3, vU, vU]) (S := []) (z := (zS I42 J43 tg44)) rfl c50 ?_
        refine Runs.sN 8 (c' := (43, [.ref 0, .int a1, .int a2, .int a3, vU, vU], [.int ((a1 * 6) + a2), .ref 12], (zS I42 J43 tg44))) rfl ?_
        obtain ⟨c51, h⟩ := h
        refine Runs.to (c' := (44, [.ref 0, .int a1, .int a2, .int a3, vU, vU], [.int (I42 12 (((a1 * 6) + a2).toNatClampNeg))], (zS I42 J43 tg44))) (Runs.ild rfl (show (12 : Nat) < 114 by decide) rfl c51) ?_
        refine Runs.sN 3 (c' := (49, [.ref 0, .int a1, .int a2, .int a3, .int (I42 12 (((a1 * 6) + a2).toNatClampNeg)), .int 0], [], (zS I42 J43 tg44))) rfl ?_
        exact h
theorem sg_150_49 {L d : Nat} {xs : Nat → Int32} (I : Nat → Nat → Int32) (J : Nat → Nat → Int64) (tg : Option Nat) (x1 : Int32) (x2 : Int32) (x3 : Int32) (x4 : Int32) (x5 : Int32) {r : Option Value × SS} (h : ((if 100 < x5 then (r = (some (.int (-1)), (zS I J tg))) else (∃ (v1 : Int32) (I2 : Nat → Nat → Int32) (J3 : Nat → Nat → Int64) (tg4 : Option Nat), Runs (GW L xs) d 111 (0, [.ref 7, .int x4, .int x3, vU, vU], [], (zS I J tg)) ((some (.int v1)), (zS I2 J3 tg4)) ∧ (if v1 < 500 then (∃ (v5 : Int32) (I6 : Nat → Nat → Int32) (J7 : Nat → Nat → Int64) (tg8 : Option Nat), Runs (GW L xs) d 110 (0, [.ref 7, .int x4], [], (zS I2 J3 tg4)) ((some (.int v5)), (zS I6 J7 tg8)) ∧ Runs (GW L xs) (d + 1) 150 (49, [.ref 0, .int x1, .int x2, .int x3, .int v5, .int (x5 + 1)], [], (zS I6 J7 tg8)) r) else (r = (some (.int x5), (zS I2 J3 tg4)))))))) : Runs (GW L xs) (d + 1) 150 (49, [.ref 0, .int x1, .int x2, .int x3, .int x4, .int x5], [], (zS I J tg)) r := by
  refine Runs.sN 2 (c' := (53, [.ref 0, .int x1, .int x2, .int x3, .int x4, .int x5], [.int 100, .int x5], (zS I J tg))) rfl ?_
  by_cases c9 : 100 < x5
  · rw [if_pos c9] at h
    refine Runs.brT (P := 100 < x5) (a := 92) (b := 56) (L := [.ref 0, .int x1, .int x2, .int x3, .int x4, .int x5]) (S := []) (z := (zS I J tg)) rfl c9 ?_
    refine Runs.sN 1 (c' := (93, [.ref 0, .int x1, .int x2, .int x3, .int x4, .int x5], [.int (-1)], (zS I J tg))) rfl ?_
    subst h
    exact Runs.rt rfl
  · rw [if_neg c9] at h
    refine Runs.brF (P := 100 < x5) (a := 92) (b := 56) (L := [.ref 0, .int x1, .int x2, .int x3, .int x4, .int x5]) (S := []) (z := (zS I J tg)) rfl c9 ?_
    refine Runs.sN 4 (c' := (63, [.ref 0, .int x1, .int x2, .int x3, .int x4, .int x5], [.int x3, .int x4, .ref 7], (zS I J tg))) rfl ?_
    obtain ⟨v1, I2, J3, tg4, c10, h⟩ := h
    refine Runs.cl (cm := 111) (as := [.ref 7, .int x4, .int x3]) (rest := []) (r1 := ((some (.int v1)), (zS I2 J3 tg4))) rfl (Nat.le_of_ble_eq_true rfl) c10 ?_
    refine Runs.as (c' := (66, [.ref 0, .int x1, .int x2, .int x3, .int x4, .int x5], [.int v1], (zS I2 J3 tg4))) rfl ?_
    refine Runs.sN 1 (c' := (69, [.ref 0, .int x1, .int x2, .int x3, .int x4, .int x5], [.int 500, .int v1], (zS I2 J3 tg4))) rfl ?_
    by_cases c11 : v1 < 500
    · rw [if_pos c11] at h
      refine Runs.brT (P := v1 < 500) (a := 75) (b := 72) (L := [.ref 0, .int x1, .int x2, .int x3, .int x4, .int x5]) (S := []) (z := (zS I2 J3 tg4)) rfl c11 ?_
      refine Runs.sN 3 (c' := (81, [.ref 0, .int x1, .int x2, .int x3, .int x4, .int x5], [.int x4, .ref 7], (zS I2 J3 tg4))) rfl ?_
      obtain ⟨v5, I6, J7, tg8, c12, h⟩ := h
      refine Runs.cl (cm := 110) (as := [.ref 7, .int x4]) (rest := []) (r1 := ((some (.int v5)), (zS I6 J7 tg8))) rfl (Nat.le_of_ble_eq_true rfl) c12 ?_
      refine Runs.as (c' := (84, [.ref 0, .int x1, .int x2, .int x3, .int x4, .int x5], [.int v5], (zS I6 J7 tg8))) rfl ?_
      refine Runs.sN 3 (c' := (49, [.ref 0, .int x1, .int x2, .int x3, .int v5, .int (x5 + 1)], [], (zS I6 J7 tg8))) rfl ?_
      exact h
    · rw [if_neg c11] at h
      refine Runs.brF (P := v1 < 500) (a := 75) (b := 72) (L := [.ref 0, .int x1, .int x2, .int x3, .int x4, .int x5]) (S := []) (z := (zS I2 J3 tg4)) rfl c11 ?_
      refine Runs.sN 1 (c' := (74, [.ref 0, .int x1, .int x2, .int x3, .int x4, .int x5], [.int x5], (zS I2 J3 tg4))) rfl ?_
      subst h
      exact Runs.rt rfl
theorem sg_204 {L d : Nat} {xs : Nat → Int32} (I : Nat → Nat → Int32) (J : Nat → Nat → Int64) (tg : Option Nat) (a1 : Int32) (a2 : Int32) (a3 : Int32) {r : Option Value × SS} (h : (Runs (GW L xs) d 204 (9, [.ref 93, .int a1, .int a2, .int a3, .int (-1), .int 0, .int 0, vU, vU], [], (zS I J tg)) r)) : Runs (GW L xs) d 204 (0, [.ref 93, .int a1, .int a2, .int a3, vU, vU, vU, vU, vU], [], (zS I J tg)) r := by
  refine Runs.sN 6 (c' := (9, [.ref 93, .int a1, .int a2, .int a3, .int (-1), .int 0, .int 0, vU, vU], [], (zS I J tg))) rfl ?_
  exact h
theorem sg_204_9 {L d : Nat} {xs : Nat → Int32} (I : Nat → Nat → Int32) (J : Nat → Nat → Int64) (tg : Option Nat) (x1 : Int32) (x2 : Int32) (x3 : Int32) (x4 : Int32) (x5 : Int32) (x6 : Int32) {r : Option Value × SS} (h : ((if (I 94 2) ≤ x6 then ((if x4 < 0 then (r = (some (.int (-1)), (zS I J tg))) else ((if x5 ≤ (I 94 12) then (r = (some (.int (12 + x4)), (zS I J tg))) else (r = (some (.int (-1)), (zS I J tg))))))) else ((if ((x1 >>> (x6 &&& 31)) &&& 1) = 0 then (Runs (GW L xs) d 204 (9, [.ref 93, .int x1, .int x2, .int x3, .int x4, .int x5, .int (x6 + 1), vU, vU], [], (zS I J tg)) r) else (¬ ((780 + x6) < 0 ∨ 1200 ≤ (780 + x6).toNatClampNeg) ∧ ¬ (x6 < 0 ∨ 12 ≤ (x6).toNatClampNeg) ∧ (if (I 94 ((780 + x6).toNatClampNeg)) ≤ 0 then ((if x4 < 0 then (Runs (GW L xs) d 204 (9, [.ref 93, .int x1, .int x2, .int x3, .int x6, .int ((I 99 ((x6).toNatClampNeg)) - 0), .int (x6 + 1), vU, vU], [], (zS I J tg)) r) else ((if ((I 99 ((x6).toNatClampNeg)) - 0) < x5 then (Runs (GW L xs) d 204 (9, [.ref 93, .int x1, .int x2, .int x3, .int x6, .int ((I 99 ((x6).toNatClampNeg)) - 0), .int (x6 + 1), vU, vU], [], (zS I J tg)) r) else (Runs (GW L xs) d 204 (9, [.ref 93, .int x1, .int x2, .int x3, .int x4, .int x5, .int (x6 + 1), vU, vU], [], (zS I J tg)) r))))) else ((if (I 94 ((780 + x6).toNatClampNeg)) = x2 then ((if x4 < 0 then (Runs (GW L xs) d 204 (9, [.ref 93, .int x1, .int x2, .int x3, .int x6, .int ((I 99 ((x6).toNatClampNeg)) - (I 94 13)), .int (x6 + 1), vU, vU], [], (zS I J tg)) r) else ((if ((I 99 ((x6).toNatClampNeg)) - (I 94 13)) < x5 then (Runs (GW L xs) d 204 (9, [.ref 93, .int x1, .int x2, .int x3, .int x6, .int ((I 99 ((x6).toNatClampNeg)) - (I 94 13)), .int (x6 + 1), vU, vU], [], (zS I J tg)) r) else (Runs (GW L xs) d 204 (9, [.ref 93, .int x1, .int x2, .int x3, .int x4, .int x5, .int (x6 + 1), vU, vU], [], (zS I J tg)) r))))) else ((if (I 94 ((780 + x6).toNatClampNeg)) = x3 then ((if x4 < 0 then (Runs (GW L xs) d 204 (9, [.ref 93, .int x1, .int x2, .int x3, .int x6, .int ((I 99 ((x6).toNatClampNeg)) - (I 94 13)), .int (x6 + 1), vU, vU], [], (zS I J tg)) r) else ((if ((I 99 ((x6).toNatClampNeg)) - (I 94 13)) < x5 then (Runs (GW L xs) d 204 (9, [.ref 93, .int x1, .int x2, .int x3, .int x6, .int ((I 99 ((x6).toNatClampNeg)) - (I 94 13)), .int (x6 + 1), vU, vU], [], (zS I J tg)) r) else (Runs (GW L xs) d 204 (9, [.ref 93, .int x1, .int x2, .int x3, .int x4, .int x5, .int (x6 + 1), vU, vU], [], (zS I J tg)) r))))) else ((if x4 < 0 then (Runs (GW L xs) d 204 (9, [.ref 93, .int x1, .int x2, .int x3, .int x6, .int ((I 99 ((x6).toNatClampNeg)) - 0), .int (x6 + 1), vU, vU], [], (zS I J tg)) r) else ((if ((I 99 ((x6).toNatClampNeg)) - 0) < x5 then (Runs (GW L xs) d 204 (9, [.ref 93, .int x1, .int x2, .int x3, .int x6, .int ((I 99 ((x6).toNatClampNeg)) - 0), .int (x6 + 1), vU, vU], [], (zS I J tg)) r) else (Runs (GW L xs) d 204 (9, [.ref 93, .int x1, .int x2, .int x3, .int x4, .int x5, .int (x6 + 1), vU, vU], [], (zS I J tg)) r)))))))))))))))) : Runs (GW L xs) d 204 (9, [.ref 93, .int x1, .int x2, .int x3, .int x4, .int x5, .int x6, vU, vU], [], (zS I J tg)) r := by
  refine Runs.sN 5 (c' := (17, [.ref 93, .int x1, .int x2, .int x3, .int x4, .int x5, .int x6, vU, vU], [.int (I 94 2), .int x6], (zS I J tg))) rfl ?_
  by_cases c1 : (I 94 2) ≤ x6
  · rw [if_pos c1] at h
    refine Runs.brT (P := (I 94 2) ≤ x6) (a := 112) (b := 20) (L := [.ref 93, .int x1, .int x2, .int x3, .int x4, .int x5, .int x6, vU, vU]) (S := []) (z := (zS I J tg)) rfl c1 ?_
    refine Runs.sN 1 (c' := (114, [.ref 93, .int x1, .int x2, .int x3, .int x4, .int x5, .int x6, vU, vU], [.int x4], (zS I J tg))) rfl ?_
    by_cases c2 : x4 < 0
    · rw [if_pos c2] at h
      refine Runs.brT (P := x4 < 0) (a := 129) (b := 117) (L := [.ref 93, .int x1, .int x2, .int x3, .int x4, .int x5, .int x6, vU, vU]) (S := []) (z := (zS I J tg)) rfl c2 ?_
      refine Runs.sN 2 (c' := (138, [.ref 93, .int x1, .int x2, .int x3, .int x4, .int x5, .int x6, vU, vU], [.int (-1)], (zS I J tg))) rfl ?_
      subst h
      exact Runs.rt rfl
    · rw [if_neg c2] at h
      refine Runs.brF (P := x4 < 0) (a := 129) (b := 117) (L := [.ref 93, .int x1, .int x2, .int x3, .int x4, .int x5, .int x6, vU, vU]) (S := []) (z := (zS I J tg)) rfl c2 ?_
      refine Runs.sN 5 (c' := (126, [.ref 93, .int x1, .int x2, .int x3, .int x4, .int x5, .int x6, vU, vU], [.int (I 94 12), .int x5], (zS I J tg))) rfl ?_
      by_cases c3 : x5 ≤ (I 94 12)
      · rw [if_pos c3] at h
        refine Runs.brT (P := x5 ≤ (I 94 12)) (a := 133) (b := 129) (L := [.ref 93, .int x1, .int x2, .int x3, .int x4, .int x5, .int x6, vU, vU]) (S := []) (z := (zS I J tg)) rfl c3 ?_
        refine Runs.sN 3 (c' := (138, [.ref 93, .int x1, .int x2, .int x3, .int x4, .int x5, .int x6, vU, vU], [.int (12 + x4)], (zS I J tg))) rfl ?_
        subst h
        exact Runs.rt rfl
      · rw [if_neg c3] at h
        refine Runs.brF (P := x5 ≤ (I 94 12)) (a := 133) (b := 129) (L := [.ref 93, .int x1, .int x2, .int x3, .int x4, .int x5, .int x6, vU, vU]) (S := []) (z := (zS I J tg)) rfl c3 ?_
        refine Runs.sN 2 (c' := (138, [.ref 93, .int x1, .int x2, .int x3, .int x4, .int x5, .int x6, vU, vU], [.int (-1)], (zS I J tg))) rfl ?_
        subst h
        exact Runs.rt rfl
  · rw [if_neg c1] at h
    refine Runs.brF (P := (I 94 2) ≤ x6) (a := 112) (b := 20) (L := [.ref 93, .int x1, .int x2, .int x3, .int x4, .int x5, .int x6, vU, vU]) (S := []) (z := (zS I J tg)) rfl c1 ?_
    refine Runs.sN 5 (c' := (26, [.ref 93, .int x1, .int x2, .int x3, .int x4, .int x5, .int x6, vU, vU], [.int ((x1 >>> (x6 &&& 31)) &&& 1)], (zS I J tg))) rfl ?_
    by_cases c4 : ((x1 >>> (x6 &&& 31)) &&& 1) = 0
    · rw [if_pos c4] at h
      refine Runs.brT (P := ((x1 >>> (x6 &&& 31)) &&& 1) = 0) (a := 29) (b := 32) (L := [.ref 93, .int x1, .int x2, .int x3, .int x4, .int x5, .int x6, vU, vU]) (S := []) (z := (zS I J tg)) rfl c4 ?_
      refine Runs.sN 3 (c' := (9, [.ref 93, .int x1, .int x2, .int x3, .int x4, .int x5, .int (x6 + 1), vU, vU], [], (zS I J tg))) rfl ?_
      exact h
    · rw [if_neg c4] at h
      refine Runs.brF (P := ((x1 >>> (x6 &&& 31)) &&& 1) = 0) (a := 29) (b := 32) (L := [.ref 93, .int x1, .int x2, .int x3, .int x4, .int x5, .int x6, vU, vU]) (S := []) (z := (zS I J tg)) rfl c4 ?_
      refine Runs.sN 5 (c' := (42, [.ref 93, .int x1, .int x2, .int x3, .int x4, .int x5, .int x6, vU, vU], [.int (780 + x6), .ref 94], (zS I J tg))) rfl ?_
      obtain ⟨c5, h⟩ := h
      refine Runs.to (c' := (43, [.ref 93, .int x1, .int x2, .int x3, .int x4, .int x5, .int x6, vU, vU], [.int (I 94 ((780 + x6).toNatClampNeg))], (zS I J tg))) (Runs.ild rfl (show (94 : Nat) < 114 by decide) rfl c5) ?_
      refine Runs.sN 4 (c' := (51, [.ref 93, .int x1, .int x2, .int x3, .int x4, .int x5, .int x6, .int (I 94 ((780 + x6).toNatClampNeg)), vU], [.int x6, .ref 99], (zS I J tg))) rfl ?_
      obtain ⟨c6, h⟩ := h
      refine Runs.to (c' := (52, [.ref 93, .int x1, .int x2, .int x3, .int x4, .int x5, .int x6, .int (I 94 ((780 + x6).toNatClampNeg)), vU], [.int (I 99 ((x6).toNatClampNeg))], (zS I J tg))) (Runs.ild rfl (show (99 : Nat) < 114 by decide) rfl c6) ?_
      refine Runs.sN 1 (c' := (54, [.ref 93, .int x1, .int x2, .int x3, .int x4, .int x5, .int x6, .int (I 94 ((780 + x6).toNatClampNeg)), vU], [.int (I 94 ((780 + x6).toNatClampNeg)), .int (I 99 ((x6).toNatClampNeg))], (zS I J tg))) rfl ?_
      by_cases c7 : (I 94 ((780 + x6).toNatClampNeg)) ≤ 0
      · rw [if_pos c7] at h
        refine Runs.brT (P := (I 94 ((780 + x6).toNatClampNeg)) ≤ 0) (a := 79) (b := 57) (L := [.ref 93, .int x1, .int x2, .int x3, .int x4, .int x5, .int x6, .int (I 94 ((780 + x6).toNatClampNeg)), vU]) (S := [.int (I 99 ((x6).toNatClampNeg))]) (z := (zS I J tg)) rfl c7 ?_
        refine Runs.sN 4 (c' := (85, [.ref 93, .int x1, .int x2, .int x3, .int x4, .int x5, .int x6, .int (I 94 ((780 + x6).toNatClampNeg)), .int ((I 99 ((x6).toNatClampNeg)) - 0)], [.int x4], (zS I J tg))) rfl ?_
        by_cases c8 : x4 < 0
        · rw [if_pos c8] at h
          refine Runs.brT (P := x4 < 0) (a := 98) (b := 88) (L := [.ref 93, .int x1, .int x2, .int x3, .int x4, .int x5, .int x6, .int (I 94 ((780 + x6).toNatClampNeg)), .int ((I 99 ((x6).toNatClampNeg)) - 0)]) (S := []) (z := (zS I J tg)) rfl c8 ?_
          refine Runs.sN 6 (c' := (9, [.ref 93, .int x1, .int x2, .int x3, .int x6, .int ((I 99 ((x6).toNatClampNeg)) - 0), .int (x6 + 1), .int (I 94 ((780 + x6).toNatClampNeg)), .int ((I 99 ((x6).toNatClampNeg)) - 0)], [], (zS I J tg))) rfl ?_
          exact Runs.weak (L := [.ref 93, .int x1, .int x2, .int x3, .int x6, .int ((I 99 ((x6).toNatClampNeg)) - 0), .int (x6 + 1), vU, vU]) (Lle.k (Lle.k (Lle.k (Lle.k (Lle.k (Lle.k (Lle.k (Lle.u (Lle.u Lle.n))))))))) h
        · rw [if_neg c8] at h
          refine Runs.brF (P := x4 < 0) (a := 98) (b := 88) (L := [.ref 93, .int x1, .int x2, .int x3, .int x4, .int x5, .int x6, .int (I 94 ((780 + x6).toNatClampNeg)), .int ((I 99 ((x6).toNatClampNeg)) - 0)]) (S := []) (z := (zS I J tg)) rfl c8 ?_
          refine Runs.sN 2 (c' := (92, [.ref 93, .int x1, .int x2, .int x3, .int x4, .int x5, .int x6, .int (I 94 ((780 + x6).toNatClampNeg)), .int ((I 99 ((x6).toNatClampNeg)) - 0)], [.int x5, .int ((I 99 ((x6).toNatClampNeg)) - 0)], (zS I J tg))) rfl ?_
          by_cases c9 : ((I 99 ((x6).toNatClampNeg)) - 0) < x5
          · rw [if_pos c9] at h
            refine Runs.brT (P := ((I 99 ((x6).toNatClampNeg)) - 0) < x5) (a := 98) (b := 95) (L := [.ref 93, .int x1, .int x2, .int x3, .int x4, .int x5, .int x6, .int (I 94 ((780 + x6).toNatClampNeg)), .int ((I 99 ((x6).toNatClampNeg)) - 0)]) (S := []) (z := (zS I J tg)) rfl c9 ?_
            refine Runs.sN 6 (c' := (9, [.ref 93, .int x1, .int x2, .int x3, .int x6, .int ((I 99 ((x6).toNatClampNeg)) - 0), .int (x6 + 1), .int (I 94 ((780 + x6).toNatClampNeg)), .int ((I 99 ((x6).toNatClampNeg)) - 0)], [], (zS I J tg))) rfl ?_
            exact Runs.weak (L := [.ref 93, .int x1, .int x2, .int x3, .int x6, .int ((I 99 ((x6).toNatClampNeg)) - 0), .int (x6 + 1), vU, vU]) (Lle.k (Lle.k (Lle.k (Lle.k (Lle.k (Lle.k (Lle.k (Lle.u (Lle.u Lle.n))))))))) h
          · rw [if_neg c9] at h
            refine Runs.brF (P := ((I 99 ((x6).toNatClampNeg)) - 0) < x5) (a := 98) (b := 95) (L := [.ref 93, .int x1, .int x2, .int x3, .int x4, .int x5, .int x6, .int (I 94 ((780 + x6).toNatClampNeg)), .int ((I 99 ((x6).toNatClampNeg)) - 0)]) (S := []) (z := (zS I J tg)) rfl c9 ?_
            refine Runs.sN 3 (c' := (9, [.ref 93, .int x1, .int x2, .int x3, .int x4, .int x5, .int (x6 + 1), .int (I 94 ((780 + x6).toNatClampNeg)), .int ((I 99 ((x6).toNatClampNeg)) - 0)], [], (zS I J tg))) rfl ?_
            exact Runs.weak (L := [.ref 93, .int x1, .int x2, .int x3, .int x4, .int x5, .int (x6 + 1), vU, vU]) (Lle.k (Lle.k (Lle.k (Lle.k (Lle.k (Lle.k (Lle.k (Lle.u (Lle.u Lle.n))))))))) h
      · rw [if_neg c7] at h
        refine Runs.brF (P := (I 94 ((780 + x6).toNatClampNeg)) ≤ 0) (a := 79) (b := 57) (L := [.ref 93, .int x1, .int x2, .int x3, .int x4, .int x5, .int x6, .int (I 94 ((780 + x6).toNatClampNeg)), vU]) (S := [.int (I 99 ((x6).toNatClampNeg))]) (z := (zS I J tg)) rfl c7 ?_
        refine Runs.sN 2 (c' := (60, [.ref 93, .int x1, .int x2, .int x3, .int x4, .int x5, .int x6, .int (I 94 ((780 + x6).toNatClampNeg)), vU], [.int x2, .int (I 94 ((780 + x6).toNatClampNeg)), .int (I 99 ((x6).toNatClampNeg))], (zS I J tg))) rfl ?_
        by_cases c10 : (I 94 ((780 + x6).toNatClampNeg)) = x2
        · rw [if_pos c10] at h
          refine Runs.brT (P := (I 94 ((780 + x6).toNatClampNeg)) = x2) (a := 69) (b := 63) (L := [.ref 93, .int x1, .int x2, .int x3, .int x4, .int x5, .int x6, .int (I 94 ((780 + x6).toNatClampNeg)), vU]) (S := [.int (I 99 ((x6).toNatClampNeg))]) (z := (zS I J tg)) rfl c10 ?_
          refine Runs.sN 8 (c' := (85, [.ref 93, .int x1, .int x2, .int x3, .int x4, .int x5, .int x6, .int (I 94 ((780 + x6).toNatClampNeg)), .int ((I 99 ((x6).toNatClampNeg)) - (I 94 13))], [.int x4], (zS I J tg))) rfl ?_
          by_cases c11 : x4 < 0
          · rw [if_pos c11] at h
            refine Runs.brT (P := x4 < 0) (a := 98) (b := 88) (L := [.ref 93, .int x1, .int x2, .int x3, .int x4, .int x5, .int x6, .int (I 94 ((780 + x6).toNatClampNeg)), .int ((I 99 ((x6).toNatClampNeg)) - (I 94 13))]) (S := []) (z := (zS I J tg)) rfl c11 ?_
            refine Runs.sN 6 (c' := (9, [.ref 93, .int x1, .int x2, .int x3, .int x6, .int ((I 99 ((x6).toNatClampNeg)) - (I 94 13)), .int (x6 + 1), .int (I 94 ((780 + x6).toNatClampNeg)), .int ((I 99 ((x6).toNatClampNeg)) - (I 94 13))], [], (zS I J tg))) rfl ?_
            exact Runs.weak (L := [.ref 93, .int x1, .int x2, .int x3, .int x6, .int ((I 99 ((x6).toNatClampNeg)) - (I 94 13)), .int (x6 + 1), vU, vU]) (Lle.k (Lle.k (Lle.k (Lle.k (Lle.k (Lle.k (Lle.k (Lle.u (Lle.u Lle.n))))))))) h
          · rw [if_neg c11] at h
            refine Runs.brF (P := x4 < 0) (a := 98) (b := 88) (L := [.ref 93, .int x1, .int x2, .int x3, .int x4, .int x5, .int x6, .int (I 94 ((780 + x6).toNatClampNeg)), .int ((I 99 ((x6).toNatClampNeg)) - (I 94 13))]) (S := []) (z := (zS I J tg)) rfl c11 ?_
            refine Runs.sN 2 (c' := (92, [.ref 93, .int x1, .int x2, .int x3, .int x4, .int x5, .int x6, .int (I 94 ((780 + x6).toNatClampNeg)), .int ((I 99 ((x6).toNatClampNeg)) - (I 94 13))], [.int x5, .int ((I 99 ((x6).toNatClampNeg)) - (I 94 13))], (zS I J tg))) rfl ?_
            by_cases c12 : ((I 99 ((x6).toNatClampNeg)) - (I 94 13)) < x5
            · rw [if_pos c12] at h
              refine Runs.brT (P := ((I 99 ((x6).toNatClampNeg)) - (I 94 13)) < x5) (a := 98) (b := 95) (L := [.ref 93, .int x1, .int x2, .int x3, .int x4, .int x5, .int x6, .int (I 94 ((780 + x6).toNatClampNeg)), .int ((I 99 ((x6).toNatClampNeg)) - (I 94 13))]) (S := []) (z := (zS I J tg)) rfl c12 ?_
              refine Runs.sN 6 (c' := (9, [.ref 93, .int x1, .int x2, .int x3, .int x6, .int ((I 99 ((x6).toNatClampNeg)) - (I 94 13)), .int (x6 + 1), .int (I 94 ((780 + x6).toNatClampNeg)), .int ((I 99 ((x6).toNatClampNeg)) - (I 94 13))], [], (zS I J tg))) rfl ?_
              exact Runs.weak (L := [.ref 93, .int x1, .int x2, .int x3, .int x6, .int ((I 99 ((x6).toNatClampNeg)) - (I 94 13)), .int (x6 + 1), vU, vU]) (Lle.k (Lle.k (Lle.k (Lle.k (Lle.k (Lle.k (Lle.k (Lle.u (Lle.u Lle.n))))))))) h
            · rw [if_neg c12] at h
              refine Runs.brF (P := ((I 99 ((x6).toNatClampNeg)) - (I 94 13)) < x5) (a := 98) (b := 95) (L := [.ref 93, .int x1, .int x2, .int x3, .int x4, .int x5, .int x6, .int (I 94 ((780 + x6).toNatClampNeg)), .int ((I 99 ((x6).toNatClampNeg)) - (I 94 13))]) (S := []) (z := (zS I J tg)) rfl c12 ?_
              refine Runs.sN 3 (c' := (9, [.ref 93, .int x1, .int x2, .int x3, .int x4, .int x5, .int (x6 + 1), .int (I 94 ((780 + x6).toNatClampNeg)), .int ((I 99 ((x6).toNatClampNeg)) - (I 94 13))], [], (zS I J tg))) rfl ?_
              exact Runs.weak (L := [.ref 93, .int x1, .int x2, .int x3, .int x4, .int x5, .int (x6 + 1), vU, vU]) (Lle.k (Lle.k (Lle.k (Lle.k (Lle.k (Lle.k (Lle.k (Lle.u (Lle.u Lle.n))))))))) h
        · rw [if_neg c10] at h
          refine Runs.brF (P := (I 94 ((780 + x6).toNatClampNeg)) = x2) (a := 69) (b := 63) (L := [.ref 93, .int x1, .int x2, .int x3, .int x4, .int x5, .int x6, .int (I 94 ((780 + x6).toNatClampNeg)), vU]) (S := [.int (I 99 ((x6).toNatClampNeg))]) (z := (zS I J tg)) rfl c10 ?_
          refine Runs.sN 2 (c' := (66, [.ref 93, .int x1, .int x2, .int x3, .int x4, .int x5, .int x6, .int (I 94 ((780 + x6).toNatClampNeg)), vU], [.int x3, .int (I 94 ((780 + x6).toNatClampNeg)), .int (I 99 ((x6).toNatClampNeg))], (zS I J tg))) rfl ?_
          by_cases c13 : (I 94 ((780 + x6).toNatClampNeg)) = x3
          · rw [if_pos c13] at h
            refine Runs.brT (P := (I 94 ((780 + x6).toNatClampNeg)) = x3) (a := 69) (b := 79) (L := [.ref 93, .int x1, .int x2, .int x3, .int x4, .int x5, .int x6, .int (I 94 ((780 + x6).toNatClampNeg)), vU]) (S := [.int (I 99 ((x6).toNatClampNeg))]) (z := (zS I J tg)) rfl c13 ?_
            refine Runs.sN 8 (c' := (85, [.ref 93, .int x1, .int x2, .int x3, .int x4, .int x5, .int x6, .int (I 94 ((780 + x6).toNatClampNeg)), .int ((I 99 ((x6).toNatClampNeg)) - (I 94 13))], [.int x4], (zS I J tg))) rfl ?_
            by_cases c14 : x4 < 0
            · rw [if_pos c14] at h
              refine Runs.brT (P := x4 < 0) (a := 98) (b := 88) (L := [.ref 93, .int x1, .int x2, .int x3, .int x4, .int x5, .int x6, .int (I 94 ((780 + x6).toNatClampNeg)), .int ((I 99 ((x6).toNatClampNeg)) - (I 94 13))]) (S := []) (z := (zS I J tg)) rfl c14 ?_
              refine Runs.sN 6 (c' := (9, [.ref 93, .int x1, .int x2, .int x3, .int x6, .int ((I 99 ((x6).toNatClampNeg)) - (I 94 13)), .int (x6 + 1), .int (I 94 ((780 + x6).toNatClampNeg)), .int ((I 99 ((x6).toNatClampNeg)) - (I 94 13))], [], (zS I J tg))) rfl ?_
              exact Runs.weak (L := [.ref 93, .int x1, .int x2, .int x3, .int x6, .int ((I 99 ((x6).toNatClampNeg)) - (I 94 13)), .int (x6 + 1), vU, vU]) (Lle.k (Lle.k (Lle.k (Lle.k (Lle.k (Lle.k (Lle.k (Lle.u (Lle.u Lle.n))))))))) h
            · rw [if_neg c14] at h
              refine Runs.brF (P := x4 < 0) (a := 98) (b := 88) (L := [.ref 93, .int x1, .int x2, .int x3, .int x4, .int x5, .int x6, .int (I 94 ((780 + x6).toNatClampNeg)), .int ((I 99 ((x6).toNatClampNeg)) - (I 94 13))]) (S := []) (z := (zS I J tg)) rfl c14 ?_
              refine Runs.sN 2 (c' := (92, [.ref 93, .int x1, .int x2, .int x3, .int x4, .int x5, .int x6, .int (I 94 ((780 + x6).toNatClampNeg)), .int ((I 99 ((x6).toNatClampNeg)) - (I 94 13))], [.int x5, .int ((I 99 ((x6).toNatClampNeg)) - (I 94 13))], (zS I J tg))) rfl ?_
              by_cases c15 : ((I 99 ((x6).toNatClampNeg)) - (I 94 13)) < x5
              · rw [if_pos c15] at h
                refine Runs.brT (P := ((I 99 ((x6).toNatClampNeg)) - (I 94 13)) < x5) (a := 98) (b := 95) (L := [.ref 93, .int x1, .int x2, .int x3, .int x4, .int x5, .int x6, .int (I 94 ((780 + x6).toNatClampNeg)), .int ((I 99 ((x6).toNatClampNeg)) - (I 94 13))]) (S := []) (z := (zS I J tg)) rfl c15 ?_
                refine Runs.sN 6 (c' := (9, [.ref 93, .int x1, .int x2, .int x3, .int x6, .int ((I 99 ((x6).toNatClampNeg)) - (I 94 13)), .int (x6 + 1), .int (I 94 ((780 + x6).toNatClampNeg)), .int ((I 99 ((x6).toNatClampNeg)) - (I 94 13))], [], (zS I J tg))) rfl ?_
                exact Runs.weak (L := [.ref 93, .int x1, .int x2, .int x3, .int x6, .int ((I 99 ((x6).toNatClampNeg)) - (I 94 13)), .int (x6 + 1), vU, vU]) (Lle.k (Lle.k (Lle.k (Lle.k (Lle.k (Lle.k (Lle.k (Lle.u (Lle.u Lle.n))))))))) h
              · rw [if_neg c15] at h
                refine Runs.brF (P := ((I 99 ((x6).toNatClampNeg)) - (I 94 13)) < x5) (a := 98) (b := 95) (L := [.ref 93, .int x1, .int x2, .int x3, .int x4, .int x5, .int x6, .int (I 94 ((780 + x6).toNatClampNeg)), .int ((I 99 ((x6).toNatClampNeg)) - (I 94 13))]) (S := []) (z := (zS I J tg)) rfl c15 ?_
                refine Runs.sN 3 (c' := (9, [.ref 93, .int x1, .int x2, .int x3, .int x4, .int x5, .int (x6 + 1), .int (I 94 ((780 + x6).toNatClampNeg)), .int ((I 99 ((x6).toNatClampNeg)) - (I 94 13))], [], (zS I J tg))) rfl ?_
                exact Runs.weak (L := [.ref 93, .int x1, .int x2, .int x3, .int x4, .int x5, .int (x6 + 1), vU, vU]) (Lle.k (Lle.k (Lle.k (Lle.k (Lle.k (Lle.k (Lle.k (Lle.u (Lle.u Lle.n))))))))) h
          · rw [if_neg c13] at h
            refine Runs.brF (P := (I 94 ((780 + x6).toNatClampNeg)) = x3) (a := 69) (b := 79) (L := [.ref 93, .int x1, .int x2, .int x3, .int x4, .int x5, .int x6, .int (I 94 ((780 + x6).toNatClampNeg)), vU]) (S := [.int (I 99 ((x6).toNatClampNeg))]) (z := (zS I J tg)) rfl c13 ?_
            refine Runs.sN 4 (c' := (85, [.ref 93, .int x1, .int x2, .int x3, .int x4, .int x5, .int x6, .int (I 94 ((780 + x6).toNatClampNeg)), .int ((I 99 ((x6).toNatClampNeg)) - 0)], [.int x4], (zS I J tg))) rfl ?_
            by_cases c16 : x4 < 0
            · rw [if_pos c16] at h
              refine Runs.brT (P := x4 < 0) (a := 98) (b := 88) (L := [.ref 93, .int x1, .int x2, .int x3, .int x4, .int x5, .int x6, .int (I 94 ((780 + x6).toNatClampNeg)), .int ((I 99 ((x6).toNatClampNeg)) - 0)]) (S := []) (z := (zS I J tg)) rfl c16 ?_
              refine Runs.sN 6 (c' := (9, [.ref 93, .int x1, .int x2, .int x3, .int x6, .int ((I 99 ((x6).toNatClampNeg)) - 0), .int (x6 + 1), .int (I 94 ((780 + x6).toNatClampNeg)), .int ((I 99 ((x6).toNatClampNeg)) - 0)], [], (zS I J tg))) rfl ?_
              exact Runs.weak (L := [.ref 93, .int x1, .int x2, .int x3, .int x6, .int ((I 99 ((x6).toNatClampNeg)) - 0), .int (x6 + 1), vU, vU]) (Lle.k (Lle.k (Lle.k (Lle.k (Lle.k (Lle.k (Lle.k (Lle.u (Lle.u Lle.n))))))))) h
            · rw [if_neg c16] at h
              refine Runs.brF (P := x4 < 0) (a := 98) (b := 88) (L := [.ref 93, .int x1, .int x2, .int x3, .int x4, .int x5, .int x6, .int (I 94 ((780 + x6).toNatClampNeg)), .int ((I 99 ((x6).toNatClampNeg)) - 0)]) (S := []) (z := (zS I J tg)) rfl c16 ?_
              refine Runs.sN 2 (c' := (92, [.ref 93, .int x1, .int x2, .int x3, .int x4, .int x5, .int x6, .int (I 94 ((780 + x6).toNatClampNeg)), .int ((I 99 ((x6).toNatClampNeg)) - 0)], [.int x5, .int ((I 99 ((x6).toNatClampNeg)) - 0)], (zS I J tg))) rfl ?_
              by_cases c17 : ((I 99 ((x6).toNatClampNeg)) - 0) < x5
              · rw [if_pos c17] at h
                refine Runs.brT (P := ((I 99 ((x6).toNatClampNeg)) - 0) < x5) (a := 98) (b := 95) (L := [.ref 93, .int x1, .int x2, .int x3, .int x4, .int x5, .int x6, .int (I 94 ((780 + x6).toNatClampNeg)), .int ((I 99 ((x6).toNatClampNeg)) - 0)]) (S := []) (z := (zS I J tg)) rfl c17 ?_
                refine Runs.sN 6 (c' := (9, [.ref 93, .int x1, .int x2, .int x3, .int x6, .int ((I 99 ((x6).toNatClampNeg)) - 0), .int (x6 + 1), .int (I 94 ((780 + x6).toNatClampNeg)), .int ((I 99 ((x6).toNatClampNeg)) - 0)], [], (zS I J tg))) rfl ?_
                exact Runs.weak (L := [.ref 93, .int x1, .int x2, .int x3, .int x6, .int ((I 99 ((x6).toNatClampNeg)) - 0), .int (x6 + 1), vU, vU]) (Lle.k (Lle.k (Lle.k (Lle.k (Lle.k (Lle.k (Lle.k (Lle.u (Lle.u Lle.n))))))))) h
              · rw [if_neg c17] at h
                refine Runs.brF (P := ((I 99 ((x6).toNatClampNeg)) - 0) < x5) (a := 98) (b := 95) (L := [.ref 93, .int x1, .int x2, .int x3, .int x4, .int x5, .int x6, .int (I 94 ((780 + x6).toNatClampNeg)), .int ((I 99 ((x6).toNatClampNeg)) - 0)]) (S := []) (z := (zS I J tg)) rfl c17 ?_
                refine Runs.sN 3 (c' := (9, [.ref 93, .int x1, .int x2, .int x3, .int x4, .int x5, .int (x6 + 1), .int (I 94 ((780 + x6).toNatClampNeg)), .int ((I 99 ((x6).toNatClampNeg)) - 0)], [], (zS I J tg))) rfl ?_
                exact Runs.weak (L := [.ref 93, .int x1, .int x2, .int x3, .int x4, .int x5, .int (x6 + 1), vU, vU]) (Lle.k (Lle.k (Lle.k (Lle.k (Lle.k (Lle.k (Lle.k (Lle.u (Lle.u Lle.n))))))))) h
theorem sg_277 {L d : Nat} {xs : Nat → Int32} (I : Nat → Nat → Int32) (J : Nat → Nat → Int64) (tg : Option Nat) (a1 : Int32) {r : Option Value × SS} (h : (Runs (GW L xs) d 277 (4, [.ref 93, .int a1, .int (a1 - 2), vU, vU, vU, vU], [], (zS I J tg)) r)) : Runs (GW L xs) d 277 (0, [.ref 93, .int a1, vU, vU, vU, vU, vU], [], (zS I J tg)) r := by
  refine Runs.sN 4 (c' := (4, [.ref 93, .int a1, .int (a1 - 2), vU, vU, vU, vU], [], (zS I J tg))) rfl ?_
  exact h
theorem sg_277_4 {L d : Nat} {xs : Nat → Int32} (I : Nat → Nat → Int32) (J : Nat → Nat → Int64) (tg : Option Nat) (x1 : Int32) (x2 : Int32) {r : Option Value × SS} (h : ((if x2 < 0 then ((if 0 ≤ x2 then (Runs (GW L xs) d 277 (41, [.ref 93, .int x1, .int x2, .int (x1 - 1), vU, vU, vU], [], (zS I J tg)) r) else (r = (some (.int 0), (zS I J tg))))) else (¬ (x2 < 0 ∨ 8 ≤ (x2).toNatClampNeg) ∧ ¬ ((x2 + 1) < 0 ∨ 8 ≤ (x2 + 1).toNatClampNeg) ∧ (if (I 109 ((x2).toNatClampNeg)) ≤ (I 109 ((x2 + 1).toNatClampNeg)) then ((if 0 ≤ x2 then (Runs (GW L xs) d 277 (41, [.ref 93, .int x1, .int x2, .int (x1 - 1), vU, vU, vU], [], (zS I J tg)) r) else (r = (some (.int 0), (zS I J tg))))) else (Runs (GW L xs) d 277 (4, [.ref 93, .int x1, .int (x2 + (-1)), vU, vU, vU, vU], [], (zS I J tg)) r)))))) : Runs (GW L xs) d 277 (4, [.ref 93, .int x1, .int x2, vU, vU, vU, vU], [], (zS I J tg)) r := by
  refine Runs.sN 1 (c' := (5, [.ref 93, .int x1, .int x2, vU, vU, vU, vU], [.int x2], (zS I J tg))) rfl ?_
  by_cases c1 : x2 < 0
  · rw [if_pos c1] at h
    refine Runs.brT (P := x2 < 0) (a := 31) (b := 8) (L := [.ref 93, .int x1, .int x2, vU, vU, vU, vU]) (S := []) (z := (zS I J tg)) rfl c1 ?_
    refine Runs.sN 1 (c' := (32, [.ref 93, .int x1, .int x2, vU, vU, vU, vU], [.int x2], (zS I J tg))) rfl ?_
    by_cases c2 : 0 ≤ x2
    · rw [if_pos c2] at h
      refine Runs.brT (P := 0 ≤ x2) (a := 37) (b := 35) (L := [.ref 93, .int x1, .int x2, vU, vU, vU, vU]) (S := []) (z := (zS I J tg)) rfl c2 ?_
      refine Runs.sN 4 (c' := (41, [.ref 93, .int x1, .int x2, .int (x1 - 1), vU, vU, vU], [], (zS I J tg))) rfl ?_
      exact h
    · rw [if_neg c2] at h
      refine Runs.brF (P := 0 ≤ x2) (a := 37) (b := 35) (L := [.ref 93, .int x1, .int x2, vU, vU, vU, vU]) (S := []) (z := (zS I J tg)) rfl c2 ?_
      refine Runs.sN 1 (c' := (36, [.ref 93, .int x1, .int x2, vU, vU, vU, vU], [.int 0], (zS I J tg))) rfl ?_
      subst h
      exact Runs.rt rfl
  · rw [if_neg c1] at h
    refine Runs.brF (P := x2 < 0) (a := 31) (b := 8) (L := [.ref 93, .int x1, .int x2, vU, vU, vU, vU]) (S := []) (z := (zS I J tg)) rfl c1 ?_
    refine Runs.sN 3 (c' := (13, [.ref 93, .int x1, .int x2, vU, vU, vU, vU], [.int x2, .ref 109], (zS I J tg))) rfl ?_
    obtain ⟨c3, h⟩ := h
    refine Runs.to (c' := (14, [.ref 93, .int x1, .int x2, vU, vU, vU, vU], [.int (I 109 ((x2).toNatClampNeg))], (zS I J tg))) (Runs.ild rfl (show (109 : Nat) < 114 by decide) rfl c3) ?_
    refine Runs.sN 5 (c' := (21, [.ref 93, .int x1, .int x2, vU, vU, vU, vU], [.int (x2 + 1), .ref 109, .int (I 109 ((x2).toNatClampNeg))], (zS I J tg))) rfl ?_
    obtain ⟨c4, h⟩ := h
    refine Runs.to (c' := (22, [.ref 93, .int x1, .int x2, vU, vU, vU, vU], [.int (I 109 ((x2 + 1).toNatClampNeg)), .int (I 109 ((x2).toNatClampNeg))], (zS I J tg))) (Runs.ild rfl (show (109 : Nat) < 114 by decide) rfl c4) ?_
    by_cases c5 : (I 109 ((x2).toNatClampNeg)) ≤ (I 109 ((x2 + 1).toNatClampNeg))
    · rw [if_pos c5] at h
      refine Runs.brT (P := (I 109 ((x2).toNatClampNeg)) ≤ (I 109 ((x2 + 1).toNatClampNeg))) (a := 31) (b := 25) (L := [.ref 93, .int x1, .int x2, vU, vU, vU, vU]) (S := []) (z := (zS I J tg)) rfl c5 ?_
      refine Runs.sN 1 (c' := (32, [.ref 93, .int x1, .int x2, vU, vU, vU, vU], [.int x2], (zS I J tg))) rfl ?_
      by_cases c6 : 0 ≤ x2
      · rw [if_pos c6] at h
        refine Runs.brT (P := 0 ≤ x2) (a := 37) (b := 35) (L := [.ref 93, .int x1, .int x2, vU, vU, vU, vU]) (S := []) (z := (zS I J tg)) rfl c6 ?_
        refine Runs.sN 4 (c' := (41, [.ref 93, .int x1, .int x2, .int (x1 - 1), vU, vU, vU], [], (zS I J tg))) rfl ?_
        exact h
      · rw [if_neg c6] at h
        refine Runs.brF (P := 0 ≤ x2) (a := 37) (b := 35) (L := [.ref 93, .int x1, .int x2, vU, vU, vU, vU]) (S := []) (z := (zS I J tg)) rfl c6 ?_
        refine Runs.sN 1 (c' := (36, [.ref 93, .int x1, .int x2, vU, vU, vU, vU], [.int 0], (zS I J tg))) rfl ?_
        subst h
        exact Runs.rt rfl
    · rw [if_neg c5] at h
      refine Runs.brF (P := (I 109 ((x2).toNatClampNeg)) ≤ (I 109 ((x2 + 1).toNatClampNeg))) (a := 31) (b := 25) (L := [.ref 93, .int x1, .int x2, vU, vU, vU, vU]) (S := []) (z := (zS I J tg)) rfl c5 ?_
      refine Runs.sN 2 (c' := (4, [.ref 93, .int x1, .int (x2 + (-1)), vU, vU, vU, vU], [], (zS I J tg))) rfl ?_
      exact h
theorem sg_277_41 {L d : Nat} {xs : Nat → Int32} (I : Nat → Nat → Int32) (J : Nat → Nat → Int64) (tg : Option Nat) (x1 : Int32) (x2 : Int32) (x3 : Int32) {r : Option Value × SS} (h : (¬ (x3 < 0 ∨ 8 ≤ (x3).toNatClampNeg) ∧ ¬ (x2 < 0 ∨ 8 ≤ (x2).toNatClampNeg) ∧ (if (I 109 ((x2).toNatClampNeg)) ≤ (I 109 ((x3).toNatClampNeg)) then (¬ (x2 < 0 ∨ 8 ≤ (x2).toNatClampNeg) ∧ ¬ (x3 < 0 ∨ 8 ≤ (x3).toNatClampNeg) ∧ ¬ (x2 < 0 ∨ 8 ≤ (x2).toNatClampNeg) ∧ ¬ (x3 < 0 ∨ 8 ≤ (x3).toNatClampNeg) ∧ Runs (GW L xs) d 277 (100, [.ref 93, .int x1, .int x2, .int x3, .int (I 109 ((x2).toNatClampNeg)), .int (x2 + 1), .int (x1 - 1)], [], (zS (up2 (up2 I 109 ((x2).toNatClampNeg) (I 109 ((x3).toNatClampNeg))) 109 ((x3).toNatClampNeg) (I 109 ((x2).toNatClampNeg))) J tg)) r) else (Runs (GW L xs) d 277 (41, [.ref 93, .int x1, .int x2, .int (x3 + (-1)), vU, vU, vU], [], (zS I J tg)) r)))) : Runs (GW L xs) d 277 (41, [.ref 93, .int x1, .int x2, .int x3, vU, vU, vU], [], (zS I J tg)) r := by
  refine Runs.sN 3 (c' := (46, [.ref 93, .int x1, .int x2, .int x3, vU, vU, vU], [.int x3, .ref 109], (zS I J tg))) rfl ?_
  obtain ⟨c1, h⟩ := h
  refine Runs.to (c' := (47, [.ref 93, .int x1, .int x2, .int x3, vU, vU, vU], [.int (I 109 ((x3).toNatClampNeg))], (zS I J tg))) (Runs.ild rfl (show (109 : Nat) < 114 by decide) rfl c1) ?_
  refine Runs.sN 3 (c' := (52, [.ref 93, .int x1, .int x2, .int x3, vU, vU, vU], [.int x2, .ref 109, .int (I 109 ((x3).toNatClampNeg))], (zS I J tg))) rfl ?_
  obtain ⟨c2, h⟩ := h
  refine Runs.to (c' := (53, [.ref 93, .int x1, .int x2, .int x3, vU, vU, vU], [.int (I 109 ((x2).toNatClampNeg)), .int (I 109 ((x3).toNatClampNeg))], (zS I J tg))) (Runs.ild rfl (show (109 : Nat) < 114 by decide) rfl c2) ?_
  by_cases c3 : (I 109 ((x2).toNatClampNeg)) ≤ (I 109 ((x3).toNatClampNeg))
  · rw [if_pos c3] at h
    refine Runs.brT (P := (I 109 ((x2).toNatClampNeg)) ≤ (I 109 ((x3).toNatClampNeg))) (a := 62) (b := 56) (L := [.ref 93, .int x1, .int x2, .int x3, vU, vU, vU]) (S := []) (z := (zS I J tg)) rfl c3 ?_
    refine Runs.sN 3 (c' := (67, [.ref 93, .int x1, .int x2, .int x3, vU, vU, vU], [.int x2, .ref 109], (zS I J tg))) rfl ?_
    obtain ⟨c4, h⟩ := h
    refine Runs.to (c' := (68, [.ref 93, .int x1, .int x2, .int x3, vU, vU, vU], [.int (I 109 ((x2).toNatClampNeg))], (zS I J tg))) (Runs.ild rfl (show (109 : Nat) < 114 by decide) rfl c4) ?_
    refine Runs.sN 7 (c' := (80, [.ref 93, .int x1, .int x2, .int x3, .int (I 109 ((x2).toNatClampNeg)), vU, vU], [.int x3, .ref 109, .int x2, .ref 109], (zS I J tg))) rfl ?_
    obtain ⟨c5, h⟩ := h
    refine Runs.to (c' := (81, [.ref 93, .int x1, .int x2, .int x3, .int (I 109 ((x2).toNatClampNeg)), vU, vU], [.int (I 109 ((x3).toNatClampNeg)), .int x2, .ref 109], (zS I J tg))) (Runs.ild rfl (show (109 : Nat) < 114 by decide) rfl c5) ?_
    obtain ⟨c6, h⟩ := h
    refine Runs.to (c' := (82, [.ref 93, .int x1, .int x2, .int x3, .int (I 109 ((x2).toNatClampNeg)), vU, vU], [], (zS (up2 I 109 ((x2).toNatClampNeg) (I 109 ((x3).toNatClampNeg))) J tg))) (Runs.ist rfl (show (109 : Nat) < 114 by decide) rfl c6) ?_
    refine Runs.sN 4 (c' := (89, [.ref 93, .int x1, .int x2, .int x3, .int (I 109 ((x2).toNatClampNeg)), vU, vU], [.int (I 109 ((x2).toNatClampNeg)), .int x3, .ref 109], (zS (up2 I 109 ((x2).toNatClampNeg) (I 109 ((x3).toNatClampNeg))) J tg))) rfl ?_
    obtain ⟨c7, h⟩ := h
    refine Runs.to (c' := (90, [.ref 93, .int x1, .int x2, .int x3, .int (I 109 ((x2).toNatClampNeg)), vU, vU], [], (zS (up2 (up2 I 109 ((x2).toNatClampNeg) (I 109 ((x3).toNatClampNeg))) 109 ((x3).toNatClampNeg) (I 109 ((x2).toNatClampNeg))) J tg))) (Runs.ist rfl (show (109 : Nat) < 114 by decide) rfl c7) ?_
    refine Runs.sN 8 (c' := (100, [.ref 93, .int x1, .int x2, .int x3, .int (I 109 ((x2).toNatClampNeg)), .int (x2 + 1), .int (x1 - 1)], [], (zS (up2 (up2 I 109 ((x2).toNatClampNeg) (I 109 ((x3).toNatClampNeg))) 109 ((x3).toNatClampNeg) (I 109 ((x2).toNatClampNeg))) J tg))) rfl ?_
    exact h
  · rw [if_neg c3] at h
    refine Runs.brF (P := (I 109 ((x2).toNatClampNeg)) ≤ (I 109 ((x3).toNatClampNeg))) (a := 62) (b := 56) (L := [.ref 93, .int x1, .int x2, .int x3, vU, vU, vU]) (S := []) (z := (zS I J tg)) rfl c3 ?_
    refine Runs.sN 2 (c' := (41, [.ref 93, .int x1, .int x2, .int (x3 + (-1)), vU, vU, vU], [], (zS I J tg))) rfl ?_
    exact h
theorem sg_277_100 {L d : Nat} {xs : Nat → Int32} (I : Nat → Nat → Int32) (J : Nat → Nat → Int64) (tg : Option Nat) (x1 : Int32) (x2 : Int32) (x3 : Int32) (x4 : Int32) (x5 : Int32) (x6 : Int32) {r : Option Value × SS} (h : ((if x6 ≤ x5 then (r = (some (.int 1), (zS I J tg))) else (¬ (x5 < 0 ∨ 8 ≤ (x5).toNatClampNeg) ∧ ¬ (x6 < 0 ∨ 8 ≤ (x6).toNatClampNeg) ∧ ¬ (x5 < 0 ∨ 8 ≤ (x5).toNatClampNeg) ∧ ¬ (x6 < 0 ∨ 8 ≤ (x6).toNatClampNeg) ∧ Runs (GW L xs) d 277 (100, [.ref 93, .int x1, .int x2, .int x3, .int (I 109 ((x5).toNatClampNeg)), .int (x5 + 1), .int (x6 + (-1))], [], (zS (up2 (up2 I 109 ((x5).toNatClampNeg) (I 109 ((x6).toNatClampNeg))) 109 ((x6).toNatClampNeg) (I 109 ((x5).toNatClampNeg))) J tg)) r)))) : Runs (GW L xs) d 277 (100, [.ref 93, .int x1, .int x2, .int x3, .int x4, .int x5, .int x6], [], (zS I J tg)) r := by
  refine Runs.sN 2 (c' := (104, [.ref 93, .int x1, .int x2, .int x3, .int x4, .int x5, .int x6], [.int x6, .int x5], (zS I J tg))) rfl ?_
  by_cases c1 : x6 ≤ x5
  · rw [if_pos c1] at h
    refine Runs.brT (P := x6 ≤ x5) (a := 148) (b := 107) (L := [.ref 93, .int x1, .int x2, .int x3, .int x4, .int x5, .int x6]) (S := []) (z := (zS I J tg)) rfl c1 ?_
    refine Runs.sN 1 (c' := (149, [.ref 93, .int x1, .int x2, .int x3, .int x4, .int x5, .int x6], [.int 1], (zS I J tg))) rfl ?_
    subst h
    exact Runs.rt rfl
  · rw [if_neg c1] at h
    refine Runs.brF (P := x6 ≤ x5) (a := 148) (b := 107) (L := [.ref 93, .int x1, .int x2, .int x3, .int x4, .int x5, .int x6]) (S := []) (z := (zS I J tg)) rfl c1 ?_
    refine Runs.sN 3 (c' := (113, [.ref 93, .int x1, .int x2, .int x3, .int x4, .int x5, .int x6], [.int x5, .ref 109], (zS I J tg))) rfl ?_
    obtain ⟨c2, h⟩ := h
    refine Runs.to (c' := (114, [.ref 93, .int x1, .int x2, .int x3, .int x4, .int x5, .int x6], [.int (I 109 ((x5).toNatClampNeg))], (zS I J tg))) (Runs.ild rfl (show (109 : Nat) < 114 by decide) rfl c2) ?_
    refine Runs.sN 7 (c' := (128, [.ref 93, .int x1, .int x2, .int x3, .int (I 109 ((x5).toNatClampNeg)), .int x5, .int x6], [.int x6, .ref 109, .int x5, .ref 109], (zS I J tg))) rfl ?_
    obtain ⟨c3, h⟩ := h
    refine Runs.to (c' := (129, [.ref 93, .int x1, .int x2, .int x3, .int (I 109 ((x5).toNatClampNeg)), .int x5, .int x6], [.int (I 109 ((x6).toNatClampNeg)), .int x5, .ref 109], (zS I J tg))) (Runs.ild rfl (show (109 : Nat) < 114 by decide) rfl c3) ?_
    obtain ⟨c4, h⟩ := h
    refine Runs.to (c' := (130, [.ref 93, .int x1, .int x2, .int x3, .int (I 109 ((x5).toNatClampNeg)), .int x5, .int x6], [], (zS (up2 I 109 ((x5).toNatClampNeg) (I 109 ((x6).toNatClampNeg))) J tg))) (Runs.ist rfl (show (109 : Nat) < 114 by decide) rfl c4) ?_
    refine Runs.sN 4 (c' := (138, [.ref 93, .int x1, .int x2, .int x3, .int (I 109 ((x5).toNatClampNeg)), .int x5, .int x6], [.int (I 109 ((x5).toNatClampNeg)), .int x6, .ref 109], (zS (up2 I 109 ((x5).toNatClampNeg) (I 109 ((x6).toNatClampNeg))) J tg))) rfl ?_
    obtain ⟨c5, h⟩ := h
    refine Runs.to (c' := (139, [.ref 93, .int x1, .int x2, .int x3, .int (I 109 ((x5).toNatClampNeg)), .int x5, .int x6], [], (zS (up2 (up2 I 109 ((x5).toNatClampNeg) (I 109 ((x6).toNatClampNeg))) 109 ((x6).toNatClampNeg) (I 109 ((x5).toNatClampNeg))) J tg))) (Runs.ist rfl (show (109 : Nat) < 114 by decide) rfl c5) ?_
    refine Runs.sN 3 (c' := (100, [.ref 93, .int x1, .int x2, .int x3, .int (I 109 ((x5).toNatClampNeg)), .int (x5 + 1), .int (x6 + (-1))], [], (zS (up2 (up2 I 109 ((x5).toNatClampNeg) (I 109 ((x6).toNatClampNeg))) 109 ((x6).toNatClampNeg) (I 109 ((x5).toNatClampNeg))) J tg))) rfl ?_
    exact h
