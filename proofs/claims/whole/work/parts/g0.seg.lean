/-! The loop of the law, piece by piece. -/
theorem sg_302_18 {L d : Nat} {xs : Nat → Int32} (I : Nat → Nat → Int32) (J : Nat → Nat → Int64) (tg : Option Nat) (x3 : Int32) {r : Option Value × SS} (h : ((if ((nI L) - 6) < x3 then (r = (some (.int 1), (zS I J tg))) else (¬ (x3 < 0 ∨ L ≤ (x3).toNatClampNeg) ∧ (if Int32.toInt ((xs (x3).toNatClampNeg) &&& 63) < 0 ∨ 45 < Int32.toInt ((xs (x3).toNatClampNeg) &&& 63) then (Runs (GW L xs) (d + 1) 302 (1912, [.retAddr 0, .ref 0, .ref 93, .int x3], [], (zS I J tg)) r) else (if ((xs (x3).toNatClampNeg) &&& 63) = 0 then (Runs (GW L xs) (d + 1) 302 (232, [.retAddr 0, .ref 0, .ref 93, .int x3], [], (zS I J tg)) r) else (if ((xs (x3).toNatClampNeg) &&& 63) = 1 then (Runs (GW L xs) (d + 1) 302 (271, [.retAddr 0, .ref 0, .ref 93, .int x3], [], (zS I J tg)) r) else (if ((xs (x3).toNatClampNeg) &&& 63) = 2 then (Runs (GW L xs) (d + 1) 302 (324, [.retAddr 0, .ref 0, .ref 93, .int x3], [], (zS I J tg)) r) else (if ((xs (x3).toNatClampNeg) &&& 63) = 3 then (Runs (GW L xs) (d + 1) 302 (347, [.retAddr 0, .ref 0, .ref 93, .int x3], [], (zS I J tg)) r) else (if ((xs (x3).toNatClampNeg) &&& 63) = 4 then (Runs (GW L xs) (d + 1) 302 (380, [.retAddr 0, .ref 0, .ref 93, .int x3], [], (zS I J tg)) r) else (if ((xs (x3).toNatClampNeg) &&& 63) = 5 then (Runs (GW L xs) (d + 1) 302 (439, [.retAddr 0, .ref 0, .ref 93, .int x3], [], (zS I J tg)) r) else (if ((xs (x3).toNatClampNeg) &&& 63) = 6 then (Runs (GW L xs) (d + 1) 302 (492, [.retAddr 0, .ref 0, .ref 93, .int x3], [], (zS I J tg)) r) else (if ((xs (x3).toNatClampNeg) &&& 63) = 7 then (Runs (GW L xs) (d + 1) 302 (525, [.retAddr 0, .ref 0, .ref 93, .int x3], [], (zS I J tg)) r) else (if ((xs (x3).toNatClampNeg) &&& 63) = 8 then (Runs (GW L xs) (d + 1) 302 (568, [.retAddr 0, .ref 0, .ref 93, .int x3], [], (zS I J tg)) r) else (if ((xs (x3).toNatClampNeg) &&& 63) = 9 then (Runs (GW L xs) (d + 1) 302 (611, [.retAddr 0, .ref 0, .ref 93, .int x3], [], (zS I J tg)) r) else (if ((xs (x3).toNatClampNeg) &&& 63) = 10 then (Runs (GW L xs) (d + 1) 302 (664, [.retAddr 0, .ref 0, .ref 93, .int x3], [], (zS I J tg)) r) else (if ((xs (x3).toNatClampNeg) &&& 63) = 11 then (Runs (GW L xs) (d + 1) 302 (727, [.retAddr 0, .ref 0, .ref 93, .int x3], [], (zS I J tg)) r) else (if ((xs (x3).toNatClampNeg) &&& 63) = 12 then (Runs (GW L xs) (d + 1) 302 (750, [.retAddr 0, .ref 0, .ref 93, .int x3], [], (zS I J tg)) r) else (if ((xs (x3).toNatClampNeg) &&& 63) = 13 then (Runs (GW L xs) (d + 1) 302 (763, [.retAddr 0, .ref 0, .ref 93, .int x3], [], (zS I J tg)) r) else (if ((xs (x3).toNatClampNeg) &&& 63) = 14 then (Runs (GW L xs) (d + 1) 302 (786, [.retAddr 0, .ref 0, .ref 93, .int x3], [], (zS I J tg)) r) else (if ((xs (x3).toNatClampNeg) &&& 63) = 15 then (Runs (GW L xs) (d + 1) 302 (809, [.retAddr 0, .ref 0, .ref 93, .int x3], [], (zS I J tg)) r) else (if ((xs (x3).toNatClampNeg) &&& 63) = 16 then (Runs (GW L xs) (d + 1) 302 (852, [.retAddr 0, .ref 0, .ref 93, .int x3], [], (zS I J tg)) r) else (if ((xs (x3).toNatClampNeg) &&& 63) = 17 then (Runs (GW L xs) (d + 1) 302 (885, [.retAddr 0, .ref 0, .ref 93, .int x3], [], (zS I J tg)) r) else (if ((xs (x3).toNatClampNeg) &&& 63) = 18 then (Runs (GW L xs) (d + 1) 302 (928, [.retAddr 0, .ref 0, .ref 93, .int x3], [], (zS I J tg)) r) else (if ((xs (x3).toNatClampNeg) &&& 63) = 19 then (Runs (GW L xs) (d + 1) 302 (971, [.retAddr 0, .ref 0, .ref 93, .int x3], [], (zS I J tg)) r) else (if ((xs (x3).toNatClampNeg) &&& 63) = 20 then (Runs (GW L xs) (d + 1) 302 (1014, [.retAddr 0, .ref 0, .ref 93, .int x3], [], (zS I J tg)) r) else (if ((xs (x3).toNatClampNeg) &&& 63) = 21 then (Runs (GW L xs) (d + 1) 302 (1057, [.retAddr 0, .ref 0, .ref 93, .int x3], [], (zS I J tg)) r) else (if ((xs (x3).toNatClampNeg) &&& 63) = 22 then (Runs (GW L xs) (d + 1) 302 (1100, [.retAddr 0, .ref 0, .ref 93, .int x3], [], (zS I J tg)) r) else (if ((xs (x3).toNatClampNeg) &&& 63) = 23 then (Runs (GW L xs) (d + 1) 302 (1133, [.retAddr 0, .ref 0, .ref 93, .int x3], [], (zS I J tg)) r) else (if ((xs (x3).toNatClampNeg) &&& 63) = 24 then (Runs (GW L xs) (d + 1) 302 (1166, [.retAddr 0, .ref 0, .ref 93, .int x3], [], (zS I J tg)) r) else (if ((xs (x3).toNatClampNeg) &&& 63) = 25 then (Runs (GW L xs) (d + 1) 302 (1189, [.retAddr 0, .ref 0, .ref 93, .int x3], [], (zS I J tg)) r) else (if ((xs (x3).toNatClampNeg) &&& 63) = 26 then (Runs (GW L xs) (d + 1) 302 (1212, [.retAddr 0, .ref 0, .ref 93, .int x3], [], (zS I J tg)) r) else (if ((xs (x3).toNatClampNeg) &&& 63) = 27 then (Runs (GW L xs) (d + 1) 302 (1245, [.retAddr 0, .ref 0, .ref 93, .int x3], [], (zS I J tg)) r) else (if ((xs (x3).toNatClampNeg) &&& 63) = 28 then (Runs (GW L xs) (d + 1) 302 (1268, [.retAddr 0, .ref 0, .ref 93, .int x3], [], (zS I J tg)) r) else (if ((xs (x3).toNatClampNeg) &&& 63) = 29 then (Runs (GW L xs) (d + 1) 302 (1281, [.retAddr 0, .ref 0, .ref 93, .int x3], [], (zS I J tg)) r) else (if ((xs (x3).toNatClampNeg) &&& 63) = 30 then (Runs (GW L xs) (d + 1) 302 (1324, [.retAddr 0, .ref 0, .ref 93, .int x3], [], (zS I J tg)) r) else (if ((xs (x3).toNatClampNeg) &&& 63) = 31 then (Runs (GW L xs) (d + 1) 302 (1357, [.retAddr 0, .ref 0, .ref 93, .int x3], [], (zS I J tg)) r) else (if ((xs (x3).toNatClampNeg) &&& 63) = 32 then (Runs (GW L xs) (d + 1) 302 (1410, [.retAddr 0, .ref 0, .ref 93, .int x3], [], (zS I J tg)) r) else (if ((xs (x3).toNatClampNeg) &&& 63) = 33 then (Runs (GW L xs) (d + 1) 302 (1443, [.retAddr 0, .ref 0, .ref 93, .int x3], [], (zS I J tg)) r) else (if ((xs (x3).toNatClampNeg) &&& 63) = 34 then (Runs (GW L xs) (d + 1) 302 (1466, [.retAddr 0, .ref 0, .ref 93, .int x3], [], (zS I J tg)) r) else (if ((xs (x3).toNatClampNeg) &&& 63) = 35 then (Runs (GW L xs) (d + 1) 302 (1509, [.retAddr 0, .ref 0, .ref 93, .int x3], [], (zS I J tg)) r) else (if ((xs (x3).toNatClampNeg) &&& 63) = 36 then (Runs (GW L xs) (d + 1) 302 (1562, [.retAddr 0, .ref 0, .ref 93, .int x3], [], (zS I J tg)) r) else (if ((xs (x3).toNatClampNeg) &&& 63) = 37 then (Runs (GW L xs) (d + 1) 302 (1605, [.retAddr 0, .ref 0, .ref 93, .int x3], [], (zS I J tg)) r) else (if ((xs (x3).toNatClampNeg) &&& 63) = 38 then (Runs (GW L xs) (d + 1) 302 (1628, [.retAddr 0, .ref 0, .ref 93, .int x3], [], (zS I J tg)) r) else (if ((xs (x3).toNatClampNeg) &&& 63) = 39 then (Runs (GW L xs) (d + 1) 302 (1681, [.retAddr 0, .ref 0, .ref 93, .int x3], [], (zS I J tg)) r) else (if ((xs (x3).toNatClampNeg) &&& 63) = 40 then (Runs (GW L xs) (d + 1) 302 (1724, [.retAddr 0, .ref 0, .ref 93, .int x3], [], (zS I J tg)) r) else (if ((xs (x3).toNatClampNeg) &&& 63) = 41 then (Runs (GW L xs) (d + 1) 302 (1767, [.retAddr 0, .ref 0, .ref 93, .int x3], [], (zS I J tg)) r) else (if ((xs (x3).toNatClampNeg) &&& 63) = 42 then (Runs (GW L xs) (d + 1) 302 (1810, [.retAddr 0, .ref 0, .ref 93, .int x3], [], (zS I J tg)) r) else (if ((xs (x3).toNatClampNeg) &&& 63) = 43 then (Runs (GW L xs) (d + 1) 302 (1863, [.retAddr 0, .ref 0, .ref 93, .int x3], [], (zS I J tg)) r) else (if ((xs (x3).toNatClampNeg) &&& 63) = 44 then (Runs (GW L xs) (d + 1) 302 (1876, [.retAddr 0, .ref 0, .ref 93, .int x3], [], (zS I J tg)) r) else (if ((xs (x3).toNatClampNeg) &&& 63) = 45 then (Runs (GW L xs) (d + 1) 302 (1889, [.retAddr 0, .ref 0, .ref 93, .int x3], [], (zS I J tg)) r) else False))))))))))))))))))))))))))))))))))))))))))))))))))) : Runs (GW L xs) (d + 1) 302 (18, [.retAddr 0, .ref 0, .ref 93, .int x3], [], (zS I J tg)) r := by
  refine Runs.sN 5 (c' := (24, [.retAddr 0, .ref 0, .ref 93, .int x3], [.int ((nI L) - 6), .int x3], (zS I J tg))) rfl ?_
  by_cases c1 : ((nI L) - 6) < x3
  · rw [if_pos c1] at h
    refine Runs.brT (P := ((nI L) - 6) < x3) (a := 1918) (b := 27) (L := [.retAddr 0, .ref 0, .ref 93, .int x3]) (S := []) (z := (zS I J tg)) rfl c1 ?_
    refine Runs.sN 1 (c' := (1919, [.retAddr 0, .ref 0, .ref 93, .int x3], [.int 1], (zS I J tg))) rfl ?_
    subst h
    exact Runs.rt rfl
  · rw [if_neg c1] at h
    refine Runs.brF (P := ((nI L) - 6) < x3) (a := 1918) (b := 27) (L := [.retAddr 0, .ref 0, .ref 93, .int x3]) (S := []) (z := (zS I J tg)) rfl c1 ?_
    refine Runs.sN 2 (c' := (29, [.retAddr 0, .ref 0, .ref 93, .int x3], [.int x3, .retAddr 0], (zS I J tg))) rfl ?_
    obtain ⟨c2, h⟩ := h
    refine Runs.to (c' := (30, [.retAddr 0, .ref 0, .ref 93, .int x3], [.int (xs (x3).toNatClampNeg)], (zS I J tg))) (Runs.sld rfl (show (0 : Nat) < 2 by decide) c2) ?_
    refine Runs.sN 2 (c' := (33, [.retAddr 0, .ref 0, .ref 93, .int x3], [.int ((xs (x3).toNatClampNeg) &&& 63)], (zS I J tg))) rfl ?_
    by_cases c3 : Int32.toInt ((xs (x3).toNatClampNeg) &&& 63) < 0 ∨ 45 < Int32.toInt ((xs (x3).toNatClampNeg) &&& 63)
    · rw [if_pos c3] at h
      refine Runs.to (c' := (1912, [.retAddr 0, .ref 0, .ref 93, .int x3], [], (zS I J tg))) (Runs.swd rfl c3) ?_
      exact h
    · rw [if_neg c3] at h
      by_cases c4 : ((xs (x3).toNatClampNeg) &&& 63) = 0
      · rw [if_pos c4] at h
        refine Runs.to (c' := (232, [.retAddr 0, .ref 0, .ref 93, .int x3], [], (zS I J tg))) (Runs.swj rfl c4 rfl) ?_
        exact h
      rw [if_neg c4] at h
      by_cases c5 : ((xs (x3).toNatClampNeg) &&& 63) = 1
      · rw [if_pos c5] at h
        refine Runs.to (c' := (271, [.retAddr 0, .ref 0, .ref 93, .int x3], [], (zS I J tg))) (Runs.swj rfl c5 rfl) ?_
        exact h
      rw [if_neg c5] at h
      by_cases c6 : ((xs (x3).toNatClampNeg) &&& 63) = 2
      · rw [if_pos c6] at h
        refine Runs.to (c' := (324, [.retAddr 0, .ref 0, .ref 93, .int x3], [], (zS I J tg))) (Runs.swj rfl c6 rfl) ?_
        exact h
      rw [if_neg c6] at h
      by_cases c7 : ((xs (x3).toNatClampNeg) &&& 63) = 3
      · rw [if_pos c7] at h
        refine Runs.to (c' := (347, [.retAddr 0, .ref 0, .ref 93, .int x3], [], (zS I J tg))) (Runs.swj rfl c7 rfl) ?_
        exact h
      rw [if_neg c7] at h
      by_cases c8 : ((xs (x3).toNatClampNeg) &&& 63) = 4
      · rw [if_pos c8] at h
        refine Runs.to (c' := (380, [.retAddr 0, .ref 0, .ref 93, .int x3], [], (zS I J tg))) (Runs.swj rfl c8 rfl) ?_
        exact h
      rw [if_neg c8] at h
      by_cases c9 : ((xs (x3).toNatClampNeg) &&& 63) = 5
      · rw [if_pos c9] at h
        refine Runs.to (c' := (439, [.retAddr 0, .ref 0, .ref 93, .int x3], [], (zS I J tg))) (Runs.swj rfl c9 rfl) ?_
        exact h
      rw [if_neg c9] at h
      by_cases c10 : ((xs (x3).toNatClampNeg) &&& 63) = 6
      · rw [if_pos c10] at h
        refine Runs.to (c' := (492, [.retAddr 0, .ref 0, .ref 93, .int x3], [], (zS I J tg))) (Runs.swj rfl c10 rfl) ?_
        exact h
      rw [if_neg c10] at h
      by_cases c11 : ((xs (x3).toNatClampNeg) &&& 63) = 7
      · rw [if_pos c11] at h
        refine Runs.to (c' := (525, [.retAddr 0, .ref 0, .ref 93, .int x3], [], (zS I J tg))) (Runs.swj rfl c11 rfl) ?_
        exact h
      rw [if_neg c11] at h
      by_cases c12 : ((xs (x3).toNatClampNeg) &&& 63) = 8
      · rw [if_pos c12] at h
        refine Runs.to (c' := (568, [.retAddr 0, .ref 0, .ref 93, .int x3], [], (zS I J tg))) (Runs.swj rfl c12 rfl) ?_
        exact h
      rw [if_neg c12] at h
      by_cases c13 : ((xs (x3).toNatClampNeg) &&& 63) = 9
      · rw [if_pos c13] at h
        refine Runs.to (c' := (611, [.retAddr 0, .ref 0, .ref 93, .int x3], [], (zS I J tg))) (Runs.swj rfl c13 rfl) ?_
        exact h
      rw [if_neg c13] at h
      by_cases c14 : ((xs (x3).toNatClampNeg) &&& 63) = 10
      · rw [if_pos c14] at h
        refine Runs.to (c' := (664, [.retAddr 0, .ref 0, .ref 93, .int x3], [], (zS I J tg))) (Runs.swj rfl c14 rfl) ?_
        exact h
      rw [if_neg c14] at h
      by_cases c15 : ((xs (x3).toNatClampNeg) &&& 63) = 11
      · rw [if_pos c15] at h
        refine Runs.to (c' := (727, [.retAddr 0, .ref 0, .ref 93, .int x3], [], (zS I J tg))) (Runs.swj rfl c15 rfl) ?_
        exact h
      rw [if_neg c15] at h
      by_cases c16 : ((xs (x3).toNatClampNeg) &&& 63) = 12
      · rw [if_pos c16] at h
        refine Runs.to (c' := (750, [.retAddr 0, .ref 0, .ref 93, .int x3], [], (zS I J tg))) (Runs.swj rfl c16 rfl) ?_
        exact h
      rw [if_neg c16] at h
      by_cases c17 : ((xs (x3).toNatClampNeg) &&& 63) = 13
      · rw [if_pos c17] at h
        refine Runs.to (c' := (763, [.retAddr 0, .ref 0, .ref 93, .int x3], [], (zS I J tg))) (Runs.swj rfl c17 rfl) ?_
        exact h
      rw [if_neg c17] at h
      by_cases c18 : ((xs (x3).toNatClampNeg) &&& 63) = 14
      · rw [if_pos c18] at h
        refine Runs.to (c' := (786, [.retAddr 0, .ref 0, .ref 93, .int x3], [], (zS I J tg))) (Runs.swj rfl c18 rfl) ?_
        exact h
      rw [if_neg c18] at h
      by_cases c19 : ((xs (x3).toNatClampNeg) &&& 63) = 15
      · rw [if_pos c19] at h
        refine Runs.to (c' := (809, [.retAddr 0, .ref 0, .ref 93, .int x3], [], (zS I J tg))) (Runs.swj rfl c19 rfl) ?_
        exact h
      rw [if_neg c19] at h
      by_cases c20 : ((xs (x3).toNatClampNeg) &&& 63) = 16
      · rw [if_pos c20] at h
        refine Runs.to (c' := (852, [.retAddr 0, .ref 0, .ref 93, .int x3], [], (zS I J tg))) (Runs.swj rfl c20 rfl) ?_
        exact h
      rw [if_neg c20] at h
      by_cases c21 : ((xs (x3).toNatClampNeg) &&& 63) = 17
      · rw [if_pos c21] at h
        refine Runs.to (c' := (885, [.retAddr 0, .ref 0, .ref 93, .int x3], [], (zS I J tg))) (Runs.swj rfl c21 rfl) ?_
        exact h
      rw [if_neg c21] at h
      by_cases c22 : ((xs (x3).toNatClampNeg) &&& 63) = 18
      · rw [if_pos c22] at h
        refine Runs.to (c' := (928, [.retAddr 0, .ref 0, .ref 93, .int x3], [], (zS I J tg))) (Runs.swj rfl c22 rfl) ?_
        exact h
      rw [if_neg c22] at h
      by_cases c23 : ((xs (x3).toNatClampNeg) &&& 63) = 19
      · rw [if_pos c23] at h
        refine Runs.to (c' := (971, [.retAddr 0, .ref 0, .ref 93, .int x3], [], (zS I J tg))) (Runs.swj rfl c23 rfl) ?_
        exact h
      rw [if_neg c23] at h
      by_cases c24 : ((xs (x3).toNatClampNeg) &&& 63) = 20
      · rw [if_pos c24] at h
        refine Runs.to (c' := (1014, [.retAddr 0, .ref 0, .ref 93, .int x3], [], (zS I J tg))) (Runs.swj rfl c24 rfl) ?_
        exact h
      rw [if_neg c24] at h
      by_cases c25 : ((xs (x3).toNatClampNeg) &&& 63) = 21
      · rw [if_pos c25] at h
        refine Runs.to (c' := (1057, [.retAddr 0, .ref 0, .ref 93, .int x3], [], (zS I J tg))) (Runs.swj rfl c25 rfl) ?_
        exact h
      rw [if_neg c25] at h
      by_cases c26 : ((xs (x3).toNatClampNeg) &&& 63) = 22
      · rw [if_pos c26] at h
        refine Runs.to (c' := (1100, [.retAddr 0, .ref 0, .ref 93, .int x3], [], (zS I J tg))) (Runs.swj rfl c26 rfl) ?_
        exact h
      rw [if_neg c26] at h
      by_cases c27 : ((xs (x3).toNatClampNeg) &&& 63) = 23
      · rw [if_pos c27] at h
        refine Runs.to (c' := (1133, [.retAddr 0, .ref 0, .ref 93, .int x3], [], (zS I J tg))) (Runs.swj rfl c27 rfl) ?_
        exact h
      rw [if_neg c27] at h
      by_cases c28 : ((xs (x3).toNatClampNeg) &&& 63) = 24
      · rw [if_pos c28] at h
        refine Runs.to (c' := (1166, [.retAddr 0, .ref 0, .ref 93, .int x3], [], (zS I J tg))) (Runs.swj rfl c28 rfl) ?_
        exact h
      rw [if_neg c28] at h
      by_cases c29 : ((xs (x3).toNatClampNeg) &&& 63) = 25
      · rw [if_pos c29] at h
        refine Runs.to (c' := (1189, [.retAddr 0, .ref 0, .ref 93, .int x3], [], (zS I J tg))) (Runs.swj rfl c29 rfl) ?_
        exact h
      rw [if_neg c29] at h
      by_cases c30 : ((xs (x3).toNatClampNeg) &&& 63) = 26
      · rw [if_pos c30] at h
        refine Runs.to (c' := (1212, [.retAddr 0, .ref 0, .ref 93, .int x3], [], (zS I J tg))) (Runs.swj rfl c30 rfl) ?_
        exact h
      rw [if_neg c30] at h
      by_cases c31 : ((xs (x3).toNatClampNeg) &&& 63) = 27
      · rw [if_pos c31] at h
        refine Runs.to (c' := (1245, [.retAddr 0, .ref 0, .ref 93, .int x3], [], (zS I J tg))) (Runs.swj rfl c31 rfl) ?_
        exact h
      rw [if_neg c31] at h
      by_cases c32 : ((xs (x3).toNatClampNeg) &&& 63) = 28
      · rw [if_pos c32] at h
        refine Runs.to (c' := (1268, [.retAddr 0, .ref 0, .ref 93, .int x3], [], (zS I J tg))) (Runs.swj rfl c32 rfl) ?_
        exact h
      rw [if_neg c32] at h
      by_cases c33 : ((xs (x3).toNatClampNeg) &&& 63) = 29
      · rw [if_pos c33] at h
        refine Runs.to (c' := (1281, [.retAddr 0, .ref 0, .ref 93, .int x3], [], (zS I J tg))) (Runs.swj rfl c33 rfl) ?_
        exact h
      rw [if_neg c33] at h
      by_cases c34 : ((xs (x3).toNatClampNeg) &&& 63) = 30
      · rw [if_pos c34] at h
        refine Runs.to (c' := (1324, [.retAddr 0, .ref 0, .ref 93, .int x3], [], (zS I J tg))) (Runs.swj rfl c34 rfl) ?_
        exact h
      rw [if_neg c34] at h
      by_cases c35 : ((xs (x3).toNatClampNeg) &&& 63) = 31
      · rw [if_pos c35] at h
        refine Runs.to (c' := (1357, [.retAddr 0, .ref 0, .ref 93, .int x3], [], (zS I J tg))) (Runs.swj rfl c35 rfl) ?_
        exact h
      rw [if_neg c35] at h
      by_cases c36 : ((xs (x3).toNatClampNeg) &&& 63) = 32
      · rw [if_pos c36] at h
        refine Runs.to (c' := (1410, [.retAddr 0, .ref 0, .ref 93, .int x3], [], (zS I J tg))) (Runs.swj rfl c36 rfl) ?_
        exact h
      rw [if_neg c36] at h
      by_cases c37 : ((xs (x3).toNatClampNeg) &&& 63) = 33
      · rw [if_pos c37] at h
        refine Runs.to (c' := (1443, [.retAddr 0, .ref 0, .ref 93, .int x3], [], (zS I J tg))) (Runs.swj rfl c37 rfl) ?_
        exact h
      rw [if_neg c37] at h
      by_cases c38 : ((xs (x3).toNatClampNeg) &&& 63) = 34
      · rw [if_pos c38] at h
        refine Runs.to (c' := (1466, [.retAddr 0, .ref 0, .ref 93, .int x3], [], (zS I J tg))) (Runs.swj rfl c38 rfl) ?_
        exact h
      rw [if_neg c38] at h
      by_cases c39 : ((xs (x3).toNatClampNeg) &&& 63) = 35
      · rw [if_pos c39] at h
        refine Runs.to (c' := (1509, [.retAddr 0, .ref 0, .ref 93, .int x3], [], (zS I J tg))) (Runs.swj rfl c39 rfl) ?_
        exact h
      rw [if_neg c39] at h
      by_cases c40 : ((xs (x3).toNatClampNeg) &&& 63) = 36
      · rw [if_pos c40] at h
        refine Runs.to (c' := (1562, [.retAddr 0, .ref 0, .ref 93, .int x3], [], (zS I J tg))) (Runs.swj rfl c40 rfl) ?_
        exact h
      rw [if_neg c40] at h
      by_cases c41 : ((xs (x3).toNatClampNeg) &&& 63) = 37
      · rw [if_pos c41] at h
        refine Runs.to (c' := (1605, [.retAddr 0, .ref 0, .ref 93, .int x3], [], (zS I J tg))) (Runs.swj rfl c41 rfl) ?_
        exact h
      rw [if_neg c41] at h
      by_cases c42 : ((xs (x3).toNatClampNeg) &&& 63) = 38
      · rw [if_pos c42] at h
        refine Runs.to (c' := (1628, [.retAddr 0, .ref 0, .ref 93, .int x3], [], (zS I J tg))) (Runs.swj rfl c42 rfl) ?_
        exact h
      rw [if_neg c42] at h
      by_cases c43 : ((xs (x3).toNatClampNeg) &&& 63) = 39
      · rw [if_pos c43] at h
        refine Runs.to (c' := (1681, [.retAddr 0, .ref 0, .ref 93, .int x3], [], (zS I J tg))) (Runs.swj rfl c43 rfl) ?_
        exact h
      rw [if_neg c43] at h
      by_cases c44 : ((xs (x3).toNatClampNeg) &&& 63) = 40
      · rw [if_pos c44] at h
        refine Runs.to (c' := (1724, [.retAddr 0, .ref 0, .ref 93, .int x3], [], (zS I J tg))) (Runs.swj rfl c44 rfl) ?_
        exact h
      rw [if_neg c44] at h
      by_cases c45 : ((xs (x3).toNatClampNeg) &&& 63) = 41
      · rw [if_pos c45] at h
        refine Runs.to (c' := (1767, [.retAddr 0, .ref 0, .ref 93, .int x3], [], (zS I J tg))) (Runs.swj rfl c45 rfl) ?_
        exact h
      rw [if_neg c45] at h
      by_cases c46 : ((xs (x3).toNatClampNeg) &&& 63) = 42
      · rw [if_pos c46] at h
        refine Runs.to (c' := (1810, [.retAddr 0, .ref 0, .ref 93, .int x3], [], (zS I J tg))) (Runs.swj rfl c46 rfl) ?_
        exact h
      rw [if_neg c46] at h
      by_cases c47 : ((xs (x3).toNatClampNeg) &&& 63) = 43
      · rw [if_pos c47] at h
        refine Runs.to (c' := (1863, [.retAddr 0, .ref 0, .ref 93, .int x3], [], (zS I J tg))) (Runs.swj rfl c47 rfl) ?_
        exact h
      rw [if_neg c47] at h
      by_cases c48 : ((xs (x3).toNatClampNeg) &&& 63) = 44
      · rw [if_pos c48] at h
        refine Runs.to (c' := (1876, [.retAddr 0, .ref 0, .ref 93, .int x3], [], (zS I J tg))) (Runs.swj rfl c48 rfl) ?_
        exact h
      rw [if_neg c48] at h
      by_cases c49 : ((xs (x3).toNatClampNeg) &&& 63) = 45
      · rw [if_pos c49] at h
        refine Runs.to (c' := (1889, [.retAddr 0, .ref 0, .ref 93, .int x3], [], (zS I J tg))) (Runs.swj rfl c49 rfl) ?_
        exact h
      rw [if_neg c49] at h
      exact h.elim
theorem sg_302_232 {L d : Nat} {xs : Nat → Int32} (I : Nat → Nat → Int32) (J : Nat → Nat → Int64) (tg : Option Nat) (x3 : Int32) {r : Option Value × SS} (h : (¬ ((x3 + 1) < 0 ∨ L ≤ (x3 + 1).toNatClampNeg) ∧ (if (xs (x3 + 1).toNatClampNeg) = 0 then (∃ (v1 : Int32) (I2 : Nat → Nat → Int32), Runs (GW L xs) d 116 (0, [.ref 0, .int 0], [], (zS I J tg)) ((some (.int v1)), (zS I2 J tg)) ∧ ¬ ((x3 + 1) < 0 ∨ L ≤ (x3 + 1).toNatClampNeg) ∧ (if (xs (x3 + 1).toNatClampNeg) = 0 then (∃ (v3 : Int32) (I4 : Nat → Nat → Int32) (J5 : Nat → Nat → Int64), Runs (GW L xs) d 186 (0, [.ref 93, .int 0, vU, vU, vU], [], (zS I2 J tg)) ((some (.int v3)), (zS I4 J5 tg)) ∧ (if v1 = v3 then (Runs (GW L xs) (d + 1) 302 (1912, [.retAddr 0, .ref 0, .ref 93, .int x3], [], (zS I4 J5 tg)) r) else (r = (some (.int 0), (zS I4 J5 tg))))) else (∃ (v6 : Int32) (I7 : Nat → Nat → Int32) (J8 : Nat → Nat → Int64), Runs (GW L xs) d 186 (0, [.ref 93, .int 1, vU, vU, vU], [], (zS I2 J tg)) ((some (.int v6)), (zS I7 J8 tg)) ∧ (if v1 = v6 then (Runs (GW L xs) (d + 1) 302 (1912, [.retAddr 0, .ref 0, .ref 93, .int x3], [], (zS I7 J8 tg)) r) else (r = (some (.int 0), (zS I7 J8 tg))))))) else (∃ (v9 : Int32) (I10 : Nat → Nat → Int32), Runs (GW L xs) d 116 (0, [.ref 0, .int 1], [], (zS I J tg)) ((some (.int v9)), (zS I10 J tg)) ∧ ¬ ((x3 + 1) < 0 ∨ L ≤ (x3 + 1).toNatClampNeg) ∧ (if (xs (x3 + 1).toNatClampNeg) = 0 then (∃ (v11 : Int32) (I12 : Nat → Nat → Int32) (J13 : Nat → Nat → Int64), Runs (GW L xs) d 186 (0, [.ref 93, .int 0, vU, vU, vU], [], (zS I10 J tg)) ((some (.int v11)), (zS I12 J13 tg)) ∧ (if v9 = v11 then (Runs (GW L xs) (d + 1) 302 (1912, [.retAddr 0, .ref 0, .ref 93, .int x3], [], (zS I12 J13 tg)) r) else (r = (some (.int 0), (zS I12 J13 tg))))) else (∃ (v14 : Int32) (I15 : Nat → Nat → Int32) (J16 : Nat → Nat → Int64), Runs (GW L xs) d 186 (0, [.ref 93, .int 1, vU, vU, vU], [], (zS I10 J tg)) ((some (.int v14)), (zS I15 J16 tg)) ∧ (if v9 = v14 then (Runs (GW L xs) (d + 1) 302 (1912, [.retAddr 0, .ref 0, .ref 93, .int x3], [], (zS I15 J16 tg)) r) else (r = (some (.int 0), (zS I15 J16 tg)))))))))) : Runs (GW L xs) (d + 1) 302 (232, [.retAddr 0, .ref 0, .ref 93, .int x3], [], (zS I J tg)) r := by
  refine Runs.sN 5 (c' := (237, [.retAddr 0, .ref 0, .ref 93, .int x3], [.int (x3 + 1), .retAddr 0, .ref 0], (zS I J tg))) rfl ?_
  obtain ⟨c17, h⟩ := h
  refine Runs.to (c' := (238, [.retAddr 0, .ref 0, .ref 93, .int x3], [.int (xs (x3 + 1).toNatClampNeg), .ref 0], (zS I J tg))) (Runs.sld rfl (show (0 : Nat) < 2 by decide) c17) ?_
  by_cases c18 : (xs (x3 + 1).toNatClampNeg) = 0
  · rw [if_pos c18] at h
    refine Runs.brT (P := (xs (x3 + 1).toNatClampNeg) = 0) (a := 245) (b := 241) (L := [.retAddr 0, .ref 0, .ref 93, .int x3]) (S := [.ref 0]) (z := (zS I J tg)) rfl c18 ?_
    refine Runs.sN 1 (c' := (246, [.retAddr 0, .ref 0, .ref 93, .int x3], [.int 0, .ref 0], (zS I J tg))) rfl ?_
    obtain ⟨v1, I2, c19, h⟩ := h
    refine Runs.cl (cm := 116) (as := [.ref 0, .int 0]) (rest := []) (r1 := ((some (.int v1)), (zS I2 J tg))) rfl (Nat.le_of_ble_eq_true rfl) c19 ?_
    refine Runs.as (c' := (249, [.retAddr 0, .ref 0, .ref 93, .int x3], [.int v1], (zS I2 J tg))) rfl ?_
    refine Runs.sN 5 (c' := (254, [.retAddr 0, .ref 0, .ref 93, .int x3], [.int (x3 + 1), .retAddr 0, .ref 93, .int v1], (zS I2 J tg))) rfl ?_
    obtain ⟨c20, h⟩ := h
    refine Runs.to (c' := (255, [.retAddr 0, .ref 0, .ref 93, .int x3], [.int (xs (x3 + 1).toNatClampNeg), .ref 93, .int v1], (zS I2 J tg))) (Runs.sld rfl (show (0 : Nat) < 2 by decide) c20) ?_
    by_cases c21 : (xs (x3 + 1).toNatClampNeg) = 0
    · rw [if_pos c21] at h
      refine Runs.brT (P := (xs (x3 + 1).toNatClampNeg) = 0) (a := 262) (b := 258) (L := [.retAddr 0, .ref 0, .ref 93, .int x3]) (S := [.ref 93, .int v1]) (z := (zS I2 J tg)) rfl c21 ?_
      refine Runs.sN 1 (c' := (263, [.retAddr 0, .ref 0, .ref 93, .int x3], [.int 0, .ref 93, .int v1], (zS I2 J tg))) rfl ?_
      obtain ⟨v3, I4, J5, c22, h⟩ := h
      refine Runs.cl (cm := 186) (as := [.ref 93, .int 0]) (rest := [.int v1]) (r1 := ((some (.int v3)), (zS I4 J5 tg))) rfl (Nat.le_of_ble_eq_true rfl) c22 ?_
      refine Runs.as (c' := (266, [.retAddr 0, .ref 0, .ref 93, .int x3], [.int v3, .int v1], (zS I4 J5 tg))) rfl ?_
      by_cases c23 : v1 = v3
      · rw [if_pos c23] at h
        refine Runs.brT (P := v1 = v3) (a := 1912) (b := 269) (L := [.retAddr 0, .ref 0, .ref 93, .int x3]) (S := []) (z := (zS I4 J5 tg)) rfl c23 ?_
        exact h
      · rw [if_neg c23] at h
        refine Runs.brF (P := v1 = v3) (a := 1912) (b := 269) (L := [.retAddr 0, .ref 0, .ref 93, .int x3]) (S := []) (z := (zS I4 J5 tg)) rfl c23 ?_
        refine Runs.sN 1 (c' := (270, [.retAddr 0, .ref 0, .ref 93, .int x3], [.int 0], (zS I4 J5 tg))) rfl ?_
        subst h
        exact Runs.rt rfl
    · rw [if_neg c21] at h
      refine Runs.brF (P := (xs (x3 + 1).toNatClampNeg) = 0) (a := 262) (b := 258) (L := [.retAddr 0, .ref 0, .ref 93, .int x3]) (S := [.ref 93, .int v1]) (z := (zS I2 J tg)) rfl c21 ?_
      refine Runs.sN 2 (c' := (263, [.retAddr 0, .ref 0, .ref 93, .int x3], [.int 1, .ref 93, .int v1], (zS I2 J tg))) rfl ?_
      obtain ⟨v6, I7, J8, c24, h⟩ := h
      refine Runs.cl (cm := 186) (as := [.ref 93, .int 1]) (rest := [.int v1]) (r1 := ((some (.int v6)), (zS I7 J8 tg))) rfl (Nat.le_of_ble_eq_true rfl) c24 ?_
      refine Runs.as (c' := (266, [.retAddr 0, .ref 0, .ref 93, .int x3], [.int v6, .int v1], (zS I7 J8 tg))) rfl ?_
      by_cases c25 : v1 = v6
      · rw [if_pos c25] at h
        refine Runs.brT (P := v1 = v6) (a := 1912) (b := 269) (L := [.retAddr 0, .ref 0, .ref 93, .int x3]) (S := []) (z := (zS I7 J8 tg)) rfl c25 ?_
        exact h
      · rw [if_neg c25] at h
        refine Runs.brF (P := v1 = v6) (a := 1912) (b := 269) (L := [.retAddr 0, .ref 0, .ref 93, .int x3]) (S := []) (z := (zS I7 J8 tg)) rfl c25 ?_
        refine Runs.sN 1 (c' := (270, [.retAddr 0, .ref 0, .ref 93, .int x3], [.int 0], (zS I7 J8 tg))) rfl ?_
        subst h
        exact Runs.rt rfl
  · rw [if_neg c18] at h
    refine Runs.brF (P := (xs (x3 + 1).toNatClampNeg) = 0) (a := 245) (b := 241) (L := [.retAddr 0, .ref 0, .ref 93, .int x3]) (S := [.ref 0]) (z := (zS I J tg)) rfl c18 ?_
    refine Runs.sN 2 (c' := (246, [.retAddr 0, .ref 0, .ref 93, .int x3], [.int 1, .ref 0], (zS I J tg))) rfl ?_
    obtain ⟨v9, I10, c26, h⟩ := h
    refine Runs.cl (cm := 116) (as := [.ref 0, .int 1]) (rest := []) (r1 := ((some (.int v9)), (zS I10 J tg))) rfl (Nat.le_of_ble_eq_true rfl) c26 ?_
    refine Runs.as (c' := (249, [.retAddr 0, .ref 0, .ref 93, .int x3], [.int v9], (zS I10 J tg))) rfl ?_
    refine Runs.sN 5 (c' := (254, [.retAddr 0, .ref 0, .ref 93, .int x3], [.int (x3 + 1), .retAddr 0, .ref 93, .int v9], (zS I10 J tg))) rfl ?_
    obtain ⟨c27, h⟩ := h
    refine Runs.to (c' := (255, [.retAddr 0, .ref 0, .ref 93, .int x3], [.int (xs (x3 + 1).toNatClampNeg), .ref 93, .int v9], (zS I10 J tg))) (Runs.sld rfl (show (0 : Nat) < 2 by decide) c27) ?_
    by_cases c28 : (xs (x3 + 1).toNatClampNeg) = 0
    · rw [if_pos c28] at h
      refine Runs.brT (P := (xs (x3 + 1).toNatClampNeg) = 0) (a := 262) (b := 258) (L := [.retAddr 0, .ref 0, .ref 93, .int x3]) (S := [.ref 93, .int v9]) (z := (zS I10 J tg)) rfl c28 ?_
      refine Runs.sN 1 (c' := (263, [.retAddr 0, .ref 0, .ref 93, .int x3], [.int 0, .ref 93, .int v9], (zS I10 J tg))) rfl ?_
      obtain ⟨v11, I12, J13, c29, h⟩ := h
      refine Runs.cl (cm := 186) (as := [.ref 93, .int 0]) (rest := [.int v9]) (r1 := ((some (.int v11)), (zS I12 J13 tg))) rfl (Nat.le_of_ble_eq_true rfl) c29 ?_
      refine Runs.as (c' := (266, [.retAddr 0, .ref 0, .ref 93, .int x3], [.int v11, .int v9], (zS I12 J13 tg))) rfl ?_
      by_cases c30 : v9 = v11
      · rw [if_pos c30] at h
        refine Runs.brT (P := v9 = v11) (a := 1912) (b := 269) (L := [.retAddr 0, .ref 0, .ref 93, .int x3]) (S := []) (z := (zS I12 J13 tg)) rfl c30 ?_
        exact h
      · rw [if_neg c30] at h
        refine Runs.brF (P := v9 = v11) (a := 1912) (b := 269) (L := [.retAddr 0, .ref 0, .ref 93, .int x3]) (S := []) (z := (zS I12 J13 tg)) rfl c30 ?_
        refine Runs.sN 1 (c' := (270, [.retAddr 0, .ref 0, .ref 93, .int x3], [.int 0], (zS I12 J13 tg))) rfl ?_
        subst h
        exact Runs.rt rfl
    · rw [if_neg c28] at h
      refine Runs.brF (P := (xs (x3 + 1).toNatClampNeg) = 0) (a := 262) (b := 258) (L := [.retAddr 0, .ref 0, .ref 93, .int x3]) (S := [.ref 93, .int v9]) (z := (zS I10 J tg)) rfl c28 ?_
      refine Runs.sN 2 (c' := (263, [.retAddr 0, .ref 0, .ref 93, .int x3], [.int 1, .ref 93, .int v9], (zS I10 J tg))) rfl ?_
      obtain ⟨v14, I15, J16, c31, h⟩ := h
      refine Runs.cl (cm := 186) (as := [.ref 93, .int 1]) (rest := [.int v9]) (r1 := ((some (.int v14)), (zS I15 J16 tg))) rfl (Nat.le_of_ble_eq_true rfl) c31 ?_
      refine Runs.as (c' := (266, [.retAddr 0, .ref 0, .ref 93, .int x3], [.int v14, .int v9], (zS I15 J16 tg))) rfl ?_
      by_cases c32 : v9 = v14
      · rw [if_pos c32] at h
        refine Runs.brT (P := v9 = v14) (a := 1912) (b := 269) (L := [.retAddr 0, .ref 0, .ref 93, .int x3]) (S := []) (z := (zS I15 J16 tg)) rfl c32 ?_
        exact h
      · rw [if_neg c32] at h
        refine Runs.brF (P := v9 = v14) (a := 1912) (b := 269) (L := [.retAddr 0, .ref 0, .ref 93, .int x3]) (S := []) (z := (zS I15 J16 tg)) rfl c32 ?_
        refine Runs.sN 1 (c' := (270, [.retAddr 0, .ref 0, .ref 93, .int x3], [.int 0], (zS I15 J16 tg))) rfl ?_
        subst h
        exact Runs.rt rfl
theorem sg_302_271 {L d : Nat} {xs : Nat → Int32} (I : Nat → Nat → Int32) (J : Nat → Nat → Int64) (tg : Option Nat) (x3 : Int32) {r : Option Value × SS} (h : (¬ ((x3 + 1) < 0 ∨ L ≤ (x3 + 1).toNatClampNeg) ∧ ¬ ((x3 + 2) < 0 ∨ L ≤ (x3 + 2).toNatClampNeg) ∧ ¬ ((x3 + 3) < 0 ∨ L ≤ (x3 + 3).toNatClampNeg) ∧ ¬ ((x3 + 4) < 0 ∨ L ≤ (x3 + 4).toNatClampNeg) ∧ ∃ (v1 : Int32) (I2 : Nat → Nat → Int32), Runs (GW L xs) d 117 (0, [.ref 0, .int (xs (x3 + 1).toNatClampNeg), .int (xs (x3 + 2).toNatClampNeg), .int (xs (x3 + 3).toNatClampNeg), .int (xs (x3 + 4).toNatClampNeg), vU, vU], [], (zS I J tg)) ((some (.int v1)), (zS I2 J tg)) ∧ ¬ ((x3 + 1) < 0 ∨ L ≤ (x3 + 1).toNatClampNeg) ∧ ¬ ((x3 + 2) < 0 ∨ L ≤ (x3 + 2).toNatClampNeg) ∧ ¬ ((x3 + 3) < 0 ∨ L ≤ (x3 + 3).toNatClampNeg) ∧ ¬ ((x3 + 4) < 0 ∨ L ≤ (x3 + 4).toNatClampNeg) ∧ ∃ (v3 : Int32) (I4 : Nat → Nat → Int32) (J5 : Nat → Nat → Int64), Runs (GW L xs) d 190 (0, [.ref 93, .int (xs (x3 + 1).toNatClampNeg), .int (xs (x3 + 2).toNatClampNeg), .int (xs (x3 + 3).toNatClampNeg), .int (xs (x3 + 4).toNatClampNeg)], [], (zS I2 J tg)) ((some (.int v3)), (zS I4 J5 tg)) ∧ (if v1 = v3 then (Runs (GW L xs) (d + 1) 302 (1912, [.retAddr 0, .ref 0, .ref 93, .int x3], [], (zS I4 J5 tg)) r) else (r = (some (.int 0), (zS I4 J5 tg)))))) : Runs (GW L xs) (d + 1) 302 (271, [.retAddr 0, .ref 0, .ref 93, .int x3], [], (zS I J tg)) r := by
  refine Runs.sN 5 (c' := (276, [.retAddr 0, .ref 0, .ref 93, .int x3], [.int (x3 + 1), .retAddr 0, .ref 0], (zS I J tg))) rfl ?_
  obtain ⟨c6, h⟩ := h
  refine Runs.to (c' := (277, [.retAddr 0, .ref 0, .ref 93, .int x3], [.int (xs (x3 + 1).toNatClampNeg), .ref 0], (zS I J tg))) (Runs.sld rfl (show (0 : Nat) < 2 by decide) c6) ?_
  refine Runs.sN 4 (c' := (281, [.retAddr 0, .ref 0, .ref 93, .int x3], [.int (x3 + 2), .retAddr 0, .int (xs (x3 + 1).toNatClampNeg), .ref 0], (zS I J tg))) rfl ?_
  obtain ⟨c7, h⟩ := h
  refine Runs.to (c' := (282, [.retAddr 0, .ref 0, .ref 93, .int x3], [.int (xs (x3 + 2).toNatClampNeg), .int (xs (x3 + 1).toNatClampNeg), .ref 0], (zS I J tg))) (Runs.sld rfl (show (0 : Nat) < 2 by decide) c7) ?_
  refine Runs.sN 4 (c' := (286, [.retAddr 0, .ref 0, .ref 93, .int x3], [.int (x3 + 3), .retAddr 0, .int (xs (x3 + 2).toNatClampNeg), .int (xs (x3 + 1).toNatClampNeg), .ref 0], (zS I J tg))) rfl ?_
  obtain ⟨c8, h⟩ := h
  refine Runs.to (c' := (287, [.retAddr 0, .ref 0, .ref 93, .int x3], [.int (xs (x3 + 3).toNatClampNeg), .int (xs (x3 + 2).toNatClampNeg), .int (xs (x3 + 1).toNatClampNeg), .ref 0], (zS I J tg))) (Runs.sld rfl (show (0 : Nat) < 2 by decide) c8) ?_
  refine Runs.sN 4 (c' := (291, [.retAddr 0, .ref 0, .ref 93, .int x3], [.int (x3 + 4), .retAddr 0, .int (xs (x3 + 3).toNatClampNeg), .int (xs (x3 + 2).toNatClampNeg), .int (xs (x3 + 1).toNatClampNeg), .ref 0], (zS I J tg))) rfl ?_
  obtain ⟨c9, h⟩ := h
  refine Runs.to (c' := (292, [.retAddr 0, .ref 0, .ref 93, .int x3], [.int (xs (x3 + 4).toNatClampNeg), .int (xs (x3 + 3).toNatClampNeg), .int (xs (x3 + 2).toNatClampNeg), .int (xs (x3 + 1).toNatClampNeg), .ref 0], (zS I J tg))) (Runs.sld rfl (show (0 : Nat) < 2 by decide) c9) ?_
  obtain ⟨v1, I2, c10, h⟩ := h
  refine Runs.cl (cm := 117) (as := [.ref 0, .int (xs (x3 + 1).toNatClampNeg), .int (xs (x3 + 2).toNatClampNeg), .int (xs (x3 + 3).toNatClampNeg), .int (xs (x3 + 4).toNatClampNeg)]) (rest := []) (r1 := ((some (.int v1)), (zS I2 J tg))) rfl (Nat.le_of_ble_eq_true rfl) c10 ?_
  refine Runs.as (c' := (295, [.retAddr 0, .ref 0, .ref 93, .int x3], [.int v1], (zS I2 J tg))) rfl ?_
  refine Runs.sN 5 (c' := (300, [.retAddr 0, .ref 0, .ref 93, .int x3], [.int (x3 + 1), .retAddr 0, .ref 93, .int v1], (zS I2 J tg))) rfl ?_
  obtain ⟨c11, h⟩ := h
  refine Runs.to (c' := (301, [.retAddr 0, .ref 0, .ref 93, .int x3], [.int (xs (x3 + 1).toNatClampNeg), .ref 93, .int v1], (zS I2 J tg))) (Runs.sld rfl (show (0 : Nat) < 2 by decide) c11) ?_
  refine Runs.sN 4 (c' := (305, [.retAddr 0, .ref 0, .ref 93, .int x3], [.int (x3 + 2), .retAddr 0, .int (xs (x3 + 1).toNatClampNeg), .ref 93, .int v1], (zS I2 J tg))) rfl ?_
  obtain ⟨c12, h⟩ := h
  refine Runs.to (c' := (306, [.retAddr 0, .ref 0, .ref 93, .int x3], [.int (xs (x3 + 2).toNatClampNeg), .int (xs (x3 + 1).toNatClampNeg), .ref 93, .int v1], (zS I2 J tg))) (Runs.sld rfl (show (0 : Nat) < 2 by decide) c12) ?_
  refine Runs.sN 4 (c' := (310, [.retAddr 0, .ref 0, .ref 93, .int x3], [.int (x3 + 3), .retAddr 0, .int (xs (x3 + 2).toNatClampNeg), .int (xs (x3 + 1).toNatClampNeg), .ref 93, .int v1], (zS I2 J tg))) rfl ?_
  obtain ⟨c13, h⟩ := h
  refine Runs.to (c' := (311, [.retAddr 0, .ref 0, .ref 93, .int x3], [.int (xs (x3 + 3).toNatClampNeg), .int (xs (x3 + 2).toNatClampNeg), .int (xs (x3 + 1).toNatClampNeg), .ref 93, .int v1], (zS I2 J tg))) (Runs.sld rfl (show (0 : Nat) < 2 by decide) c13) ?_
  refine Runs.sN 4 (c' := (315, [.retAddr 0, .ref 0, .ref 93, .int x3], [.int (x3 + 4), .retAddr 0, .int (xs (x3 + 3).toNatClampNeg), .int (xs (x3 + 2).toNatClampNeg), .int (xs (x3 + 1).toNatClampNeg), .ref 93, .int v1], (zS I2 J tg))) rfl ?_
  obtain ⟨c14, h⟩ := h
  refine Runs.to (c' := (316, [.retAddr 0, .ref 0, .ref 93, .int x3], [.int (xs (x3 + 4).toNatClampNeg), .int (xs (x3 + 3).toNatClampNeg), .int (xs (x3 + 2).toNatClampNeg), .int (xs (x3 + 1).toNatClampNeg), .ref 93, .int v1], (zS I2 J tg))) (Runs.sld rfl (show (0 : Nat) < 2 by decide) c14) ?_
  obtain ⟨v3, I4, J5, c15, h⟩ := h
  refine Runs.cl (cm := 190) (as := [.ref 93, .int (xs (x3 + 1).toNatClampNeg), .int (xs (x3 + 2).toNatClampNeg), .int (xs (x3 + 3).toNatClampNeg), .int (xs (x3 + 4).toNatClampNeg)]) (rest := [.int v1]) (r1 := ((some (.int v3)), (zS I4 J5 tg))) rfl (Nat.le_of_ble_eq_true rfl) c15 ?_
  refine Runs.as (c' := (319, [.retAddr 0, .ref 0, .ref 93, .int x3], [.int v3, .int v1], (zS I4 J5 tg))) rfl ?_
  by_cases c16 : v1 = v3
  · rw [if_pos c16] at h
    refine Runs.brT (P := v1 = v3) (a := 1912) (b := 322) (L := [.retAddr 0, .ref 0, .ref 93, .int x3]) (S := []) (z := (zS I4 J5 tg)) rfl c16 ?_
    exact h
  · rw [if_neg c16] at h
    refine Runs.brF (P := v1 = v3) (a := 1912) (b := 322) (L := [.retAddr 0, .ref 0, .ref 93, .int x3]) (S := []) (z := (zS I4 J5 tg)) rfl c16 ?_
    refine Runs.sN 1 (c' := (323, [.retAddr 0, .ref 0, .ref 93, .int x3], [.int 0], (zS I4 J5 tg))) rfl ?_
    subst h
    exact Runs.rt rfl
theorem sg_302_324 {L d : Nat} {xs : Nat → Int32} (I : Nat → Nat → Int32) (J : Nat → Nat → Int64) (tg : Option Nat) (x3 : Int32) {r : Option Value × SS} (h : (¬ ((x3 + 1) < 0 ∨ L ≤ (x3 + 1).toNatClampNeg) ∧ ∃ (v1 : Int32) (I2 : Nat → Nat → Int32), Runs (GW L xs) d 118 (0, [.ref 0, .int (xs (x3 + 1).toNatClampNeg), vU], [], (zS I J tg)) ((some (.int v1)), (zS I2 J tg)) ∧ ¬ ((x3 + 1) < 0 ∨ L ≤ (x3 + 1).toNatClampNeg) ∧ ∃ (v3 : Int32) (I4 : Nat → Nat → Int32) (J5 : Nat → Nat → Int64), Runs (GW L xs) d 191 (0, [.ref 93, .int (xs (x3 + 1).toNatClampNeg), vU], [], (zS I2 J tg)) ((some (.int v3)), (zS I4 J5 tg)) ∧ (if v1 = v3 then (Runs (GW L xs) (d + 1) 302 (1912, [.retAddr 0, .ref 0, .ref 93, .int x3], [], (zS I4 J5 tg)) r) else (r = (some (.int 0), (zS I4 J5 tg)))))) : Runs (GW L xs) (d + 1) 302 (324, [.retAddr 0, .ref 0, .ref 93, .int x3], [], (zS I J tg)) r := by
  refine Runs.sN 5 (c' := (329, [.retAddr 0, .ref 0, .ref 93, .int x3], [.int (x3 + 1), .retAddr 0, .ref 0], (zS I J tg))) rfl ?_
  obtain ⟨c6, h⟩ := h
  refine Runs.to (c' := (330, [.retAddr 0, .ref 0, .ref 93, .int x3], [.int (xs (x3 + 1).toNatClampNeg), .ref 0], (zS I J tg))) (Runs.sld rfl (show (0 : Nat) < 2 by decide) c6) ?_
  obtain ⟨v1, I2, c7, h⟩ := h
  refine Runs.cl (cm := 118) (as := [.ref 0, .int (xs (x3 + 1).toNatClampNeg)]) (rest := []) (r1 := ((some (.int v1)), (zS I2 J tg))) rfl (Nat.le_of_ble_eq_true rfl) c7 ?_
  refine Runs.as (c' := (333, [.retAddr 0, .ref 0, .ref 93, .int x3], [.int v1], (zS I2 J tg))) rfl ?_
  refine Runs.sN 5 (c' := (338, [.retAddr 0, .ref 0, .ref 93, .int x3], [.int (x3 + 1), .retAddr 0, .ref 93, .int v1], (zS I2 J tg))) rfl ?_
  obtain ⟨c8, h⟩ := h
  refine Runs.to (c' := (339, [.retAddr 0, .ref 0, .ref 93, .int x3], [.int (xs (x3 + 1).toNatClampNeg), .ref 93, .int v1], (zS I2 J tg))) (Runs.sld rfl (show (0 : Nat) < 2 by decide) c8) ?_
  obtain ⟨v3, I4, J5, c9, h⟩ := h
  refine Runs.cl (cm := 191) (as := [.ref 93, .int (xs (x3 + 1).toNatClampNeg)]) (rest := [.int v1]) (r1 := ((some (.int v3)), (zS I4 J5 tg))) rfl (Nat.le_of_ble_eq_true rfl) c9 ?_
  refine Runs.as (c' := (342, [.retAddr 0, .ref 0, .ref 93, .int x3], [.int v3, .int v1], (zS I4 J5 tg))) rfl ?_
  by_cases c10 : v1 = v3
  · rw [if_pos c10] at h
    refine Runs.brT (P := v1 = v3) (a := 1912) (b := 345) (L := [.retAddr 0, .ref 0, .ref 93, .int x3]) (S := []) (z := (zS I4 J5 tg)) rfl c10 ?_
    exact h
  · rw [if_neg c10] at h
    refine Runs.brF (P := v1 = v3) (a := 1912) (b := 345) (L := [.retAddr 0, .ref 0, .ref 93, .int x3]) (S := []) (z := (zS I4 J5 tg)) rfl c10 ?_
    refine Runs.sN 1 (c' := (346, [.retAddr 0, .ref 0, .ref 93, .int x3], [.int 0], (zS I4 J5 tg))) rfl ?_
    subst h
    exact Runs.rt rfl
theorem sg_302_347 {L d : Nat} {xs : Nat → Int32} (I : Nat → Nat → Int32) (J : Nat → Nat → Int64) (tg : Option Nat) (x3 : Int32) {r : Option Value × SS} (h : (¬ ((x3 + 1) < 0 ∨ L ≤ (x3 + 1).toNatClampNeg) ∧ ¬ ((x3 + 2) < 0 ∨ L ≤ (x3 + 2).toNatClampNeg) ∧ ∃ (v1 : Int32) (I2 : Nat → Nat → Int32), Runs (GW L xs) d 119 (0, [.ref 0, .int (xs (x3 + 1).toNatClampNeg), .int (xs (x3 + 2).toNatClampNeg)], [], (zS I J tg)) ((some (.int v1)), (zS I2 J tg)) ∧ ¬ ((x3 + 1) < 0 ∨ L ≤ (x3 + 1).toNatClampNeg) ∧ ¬ ((x3 + 2) < 0 ∨ L ≤ (x3 + 2).toNatClampNeg) ∧ ∃ (v3 : Int32) (I4 : Nat → Nat → Int32) (J5 : Nat → Nat → Int64), Runs (GW L xs) d 192 (0, [.ref 93, .int (xs (x3 + 1).toNatClampNeg), .int (xs (x3 + 2).toNatClampNeg)], [], (zS I2 J tg)) ((some (.int v3)), (zS I4 J5 tg)) ∧ (if v1 = v3 then (Runs (GW L xs) (d + 1) 302 (1912, [.retAddr 0, .ref 0, .ref 93, .int x3], [], (zS I4 J5 tg)) r) else (r = (some (.int 0), (zS I4 J5 tg)))))) : Runs (GW L xs) (d + 1) 302 (347, [.retAddr 0, .ref 0, .ref 93, .int x3], [], (zS I J tg)) r := by
  refine Runs.sN 5 (c' := (352, [.retAddr 0, .ref 0, .ref 93, .int x3], [.int (x3 + 1), .retAddr 0, .ref 0], (zS I J tg))) rfl ?_
  obtain ⟨c6, h⟩ := h
  refine Runs.to (c' := (353, [.retAddr 0, .ref 0, .ref 93, .int x3], [.int (xs (x3 + 1).toNatClampNeg), .ref 0], (zS I J tg))) (Runs.sld rfl (show (0 : Nat) < 2 by decide) c6) ?_
  refine Runs.sN 4 (c' := (357, [.retAddr 0, .ref 0, .ref 93, .int x3], [.int (x3 + 2), .retAddr 0, .int (xs (x3 + 1).toNatClampNeg), .ref 0], (zS I J tg))) rfl ?_
  obtain ⟨c7, h⟩ := h
  refine Runs.to (c' := (358, [.retAddr 0, .ref 0, .ref 93, .int x3], [.int (xs (x3 + 2).toNatClampNeg), .int (xs (x3 + 1).toNatClampNeg), .ref 0], (zS I J tg))) (Runs.sld rfl (show (0 : Nat) < 2 by decide) c7) ?_
  obtain ⟨v1, I2, c8, h⟩ := h
  refine Runs.cl (cm := 119) (as := [.ref 0, .int (xs (x3 + 1).toNatClampNeg), .int (xs (x3 + 2).toNatClampNeg)]) (rest := []) (r1 := ((some (.int v1)), (zS I2 J tg))) rfl (Nat.le_of_ble_eq_true rfl) c8 ?_
  refine Runs.as (c' := (361, [.retAddr 0, .ref 0, .ref 93, .int x3], [.int v1], (zS I2 J tg))) rfl ?_
  refine Runs.sN 5 (c' := (366, [.retAddr 0, .ref 0, .ref 93, .int x3], [.int (x3 + 1), .retAddr 0, .ref 93, .int v1], (zS I2 J tg))) rfl ?_
  obtain ⟨c9, h⟩ := h
  refine Runs.to (c' := (367, [.retAddr 0, .ref 0, .ref 93, .int x3], [.int (xs (x3 + 1).toNatClampNeg), .ref 93, .int v1], (zS I2 J tg))) (Runs.sld rfl (show (0 : Nat) < 2 by decide) c9) ?_
  refine Runs.sN 4 (c' := (371, [.retAddr 0, .ref 0, .ref 93, .int x3], [.int (x3 + 2), .retAddr 0, .int (xs (x3 + 1).toNatClampNeg), .ref 93, .int v1], (zS I2 J tg))) rfl ?_
  obtain ⟨c10, h⟩ := h
  refine Runs.to (c' := (372, [.retAddr 0, .ref 0, .ref 93, .int x3], [.int (xs (x3 + 2).toNatClampNeg), .int (xs (x3 + 1).toNatClampNeg), .ref 93, .int v1], (zS I2 J tg))) (Runs.sld rfl (show (0 : Nat) < 2 by decide) c10) ?_
  obtain ⟨v3, I4, J5, c11, h⟩ := h
  refine Runs.cl (cm := 192) (as := [.ref 93, .int (xs (x3 + 1).toNatClampNeg), .int (xs (x3 + 2).toNatClampNeg)]) (rest := [.int v1]) (r1 := ((some (.int v3)), (zS I4 J5 tg))) rfl (Nat.le_of_ble_eq_true rfl) c11 ?_
  refine Runs.as (c' := (375, [.retAddr 0, .ref 0, .ref 93, .int x3], [.int v3, .int v1], (zS I4 J5 tg))) rfl ?_
  by_cases c12 : v1 = v3
  · rw [if_pos c12] at h
    refine Runs.brT (P := v1 = v3) (a := 1912) (b := 378) (L := [.retAddr 0, .ref 0, .ref 93, .int x3]) (S := []) (z := (zS I4 J5 tg)) rfl c12 ?_
    exact h
  · rw [if_neg c12] at h
    refine Runs.brF (P := v1 = v3) (a := 1912) (b := 378) (L := [.retAddr 0, .ref 0, .ref 93, .int x3]) (S := []) (z := (zS I4 J5 tg)) rfl c12 ?_
    refine Runs.sN 1 (c' := (379, [.retAddr 0, .ref 0, .ref 93, .int x3], [.int 0], (zS I4 J5 tg))) rfl ?_
    subst h
    exact Runs.rt rfl
theorem sg_302_380 {L d : Nat} {xs : Nat → Int32} (I : Nat → Nat → Int32) (J : Nat → Nat → Int64) (tg : Option Nat) (x3 : Int32) {r : Option Value × SS} (h : (¬ ((x3 + 1) < 0 ∨ L ≤ (x3 + 1).toNatClampNeg) ∧ ¬ ((x3 + 2) < 0 ∨ L ≤ (x3 + 2).toNatClampNeg) ∧ ¬ ((x3 + 3) < 0 ∨ L ≤ (x3 + 3).toNatClampNeg) ∧ (if (xs (x3 + 3).toNatClampNeg) = 0 then (∃ (v1 : Int32) (I2 : Nat → Nat → Int32), Runs (GW L xs) d 120 (0, [.ref 0, .int (xs (x3 + 1).toNatClampNeg), .int (xs (x3 + 2).toNatClampNeg), .int 0], [], (zS I J tg)) ((some (.int v1)), (zS I2 J tg)) ∧ ¬ ((x3 + 1) < 0 ∨ L ≤ (x3 + 1).toNatClampNeg) ∧ ¬ ((x3 + 2) < 0 ∨ L ≤ (x3 + 2).toNatClampNeg) ∧ ¬ ((x3 + 3) < 0 ∨ L ≤ (x3 + 3).toNatClampNeg) ∧ (if (xs (x3 + 3).toNatClampNeg) = 0 then (∃ (v3 : Int32) (I4 : Nat → Nat → Int32) (J5 : Nat → Nat → Int64), Runs (GW L xs) d 193 (0, [.ref 93, .int (xs (x3 + 1).toNatClampNeg), .int (xs (x3 + 2).toNatClampNeg), .int 0], [], (zS I2 J tg)) ((some (.int v3)), (zS I4 J5 tg)) ∧ (if v1 = v3 then (Runs (GW L xs) (d + 1) 302 (1912, [.retAddr 0, .ref 0, .ref 93, .int x3], [], (zS I4 J5 tg)) r) else (r = (some (.int 0), (zS I4 J5 tg))))) else (∃ (v6 : Int32) (I7 : Nat → Nat → Int32) (J8 : Nat → Nat → Int64), Runs (GW L xs) d 193 (0, [.ref 93, .int (xs (x3 + 1).toNatClampNeg), .int (xs (x3 + 2).toNatClampNeg), .int 1], [], (zS I2 J tg)) ((some (.int v6)), (zS I7 J8 tg)) ∧ (if v1 = v6 then (Runs (GW L xs) (d + 1) 302 (1912, [.retAddr 0, .ref 0, .ref 93, .int x3], [], (zS I7 J8 tg)) r) else (r = (some (.int 0), (zS I7 J8 tg))))))) else (∃ (v9 : Int32) (I10 : Nat → Nat → Int32), Runs (GW L xs) d 120 (0, [.ref 0, .int (xs (x3 + 1).toNatClampNeg), .int (xs (x3 + 2).toNatClampNeg), .int 1], [], (zS I J tg)) ((some (.int v9)), (zS I10 J tg)) ∧ ¬ ((x3 + 1) < 0 ∨ L ≤ (x3 + 1).toNatClampNeg) ∧ ¬ ((x3 + 2) < 0 ∨ L ≤ (x3 + 2).toNatClampNeg) ∧ ¬ ((x3 + 3) < 0 ∨ L ≤ (x3 + 3).toNatClampNeg) ∧ (if (xs (x3 + 3).toNatClampNeg) = 0 then (∃ (v11 : Int32) (I12 : Nat → Nat → Int32) (J13 : Nat → Nat → Int64), Runs (GW L xs) d 193 (0, [.ref 93, .int (xs (x3 + 1).toNatClampNeg), .int (xs (x3 + 2).toNatClampNeg), .int 0], [], (zS I10 J tg)) ((some (.int v11)), (zS I12 J13 tg)) ∧ (if v9 = v11 then (Runs (GW L xs) (d + 1) 302 (1912, [.retAddr 0, .ref 0, .ref 93, .int x3], [], (zS I12 J13 tg)) r) else (r = (some (.int 0), (zS I12 J13 tg))))) else (∃ (v14 : Int32) (I15 : Nat → Nat → Int32) (J16 : Nat → Nat → Int64), Runs (GW L xs) d 193 (0, [.ref 93, .int (xs (x3 + 1).toNatClampNeg), .int (xs (x3 + 2).toNatClampNeg), .int 1], [], (zS I10 J tg)) ((some (.int v14)), (zS I15 J16 tg)) ∧ (if v9 = v14 then (Runs (GW L xs) (d + 1) 302 (1912, [.retAddr 0, .ref 0, .ref 93, .int x3], [], (zS I15 J16 tg)) r) else (r = (some (.int 0), (zS I15 J16 tg)))))))))) : Runs (GW L xs) (d + 1) 302 (380, [.retAddr 0, .ref 0, .ref 93, .int x3], [], (zS I J tg)) r := by
  refine Runs.sN 5 (c' := (385, [.retAddr 0, .ref 0, .ref 93, .int x3], [.int (x3 + 1), .retAddr 0, .ref 0], (zS I J tg))) rfl ?_
  obtain ⟨c17, h⟩ := h
  refine Runs.to (c' := (386, [.retAddr 0, .ref 0, .ref 93, .int x3], [.int (xs (x3 + 1).toNatClampNeg), .ref 0], (zS I J tg))) (Runs.sld rfl (show (0 : Nat) < 2 by decide) c17) ?_
  refine Runs.sN 4 (c' := (390, [.retAddr 0, .ref 0, .ref 93, .int x3], [.int (x3 + 2), .retAddr 0, .int (xs (x3 + 1).toNatClampNeg), .ref 0], (zS I J tg))) rfl ?_
  obtain ⟨c18, h⟩ := h
  refine Runs.to (c' := (391, [.retAddr 0, .ref 0, .ref 93, .int x3], [.int (xs (x3 + 2).toNatClampNeg), .int (xs (x3 + 1).toNatClampNeg), .ref 0], (zS I J tg))) (Runs.sld rfl (show (0 : Nat) < 2 by decide) c18) ?_
  refine Runs.sN 4 (c' := (395, [.retAddr 0, .ref 0, .ref 93, .int x3], [.int (x3 + 3), .retAddr 0, .int (xs (x3 + 2).toNatClampNeg), .int (xs (x3 + 1).toNatClampNeg), .ref 0], (zS I J tg))) rfl ?_
  obtain ⟨c19, h⟩ := h
  refine Runs.to (c' := (396, [.retAddr 0, .ref 0, .ref 93, .int x3], [.int (xs (x3 + 3).toNatClampNeg), .int (xs (x3 + 2).toNatClampNeg), .int (xs (x3 + 1).toNatClampNeg), .ref 0], (zS I J tg))) (Runs.sld rfl (show (0 : Nat) < 2 by decide) c19) ?_
  by_cases c20 : (xs (x3 + 3).toNatClampNeg) = 0
  · rw [if_pos c20] at h
    refine Runs.brT (P := (xs (x3 + 3).toNatClampNeg) = 0) (a := 403) (b := 399) (L := [.retAddr 0, .ref 0, .ref 93, .int x3]) (S := [.int (xs (x3 + 2).toNatClampNeg), .int (xs (x3 + 1).toNatClampNeg), .ref 0]) (z := (zS I J tg)) rfl c20 ?_
    refine Runs.sN 1 (c' := (404, [.retAddr 0, .ref 0, .ref 93, .int x3], [.int 0, .int (xs (x3 + 2).toNatClampNeg), .int (xs (x3 + 1).toNatClampNeg), .ref 0], (zS I J tg))) rfl ?_
    obtain ⟨v1, I2, c21, h⟩ := h
    refine Runs.cl (cm := 120) (as := [.ref 0, .int (xs (x3 + 1).toNatClampNeg), .int (xs (x3 + 2).toNatClampNeg), .int 0]) (rest := []) (r1 := ((some (.int v1)), (zS I2 J tg))) rfl (Nat.le_of_ble_eq_true rfl) c21 ?_
    refine Runs.as (c' := (407, [.retAddr 0, .ref 0, .ref 93, .int x3], [.int v1], (zS I2 J tg))) rfl ?_
    refine Runs.sN 5 (c' := (412, [.retAddr 0, .ref 0, .ref 93, .int x3], [.int (x3 + 1), .retAddr 0, .ref 93, .int v1], (zS I2 J tg))) rfl ?_
    obtain ⟨c22, h⟩ := h
    refine Runs.to (c' := (413, [.retAddr 0, .ref 0, .ref 93, .int x3], [.int (xs (x3 + 1).toNatClampNeg), .ref 93, .int v1], (zS I2 J tg))) (Runs.sld rfl (show (0 : Nat) < 2 by decide) c22) ?_
    refine Runs.sN 4 (c' := (417, [.retAddr 0, .ref 0, .ref 93, .int x3], [.int (x3 + 2), .retAddr 0, .int (xs (x3 + 1).toNatClampNeg), .ref 93, .int v1], (zS I2 J tg))) rfl ?_
    obtain ⟨c23, h⟩ := h
    refine Runs.to (c' := (418, [.retAddr 0, .ref 0, .ref 93, .int x3], [.int (xs (x3 + 2).toNatClampNeg), .int (xs (x3 + 1).toNatClampNeg), .ref 93, .int v1], (zS I2 J tg))) (Runs.sld rfl (show (0 : Nat) < 2 by decide) c23) ?_
    refine Runs.sN 4 (c' := (422, [.retAddr 0, .ref 0, .ref 93, .int x3], [.int (x3 + 3), .retAddr 0, .int (xs (x3 + 2).toNatClampNeg), .int (xs (x3 + 1).toNatClampNeg), .ref 93, .int v1], (zS I2 J tg))) rfl ?_
    obtain ⟨c24, h⟩ := h
    refine Runs.to (c' := (423, [.retAddr 0, .ref 0, .ref 93, .int x3], [.int (xs (x3 + 3).toNatClampNeg), .int (xs (x3 + 2).toNatClampNeg), .int (xs (x3 + 1).toNatClampNeg), .ref 93, .int v1], (zS I2 J tg))) (Runs.sld rfl (show (0 : Nat) < 2 by decide) c24) ?_
    by_cases c25 : (xs (x3 + 3).toNatClampNeg) = 0
    · rw [if_pos c25] at h
      refine Runs.brT (P := (xs (x3 + 3).toNatClampNeg) = 0) (a := 430) (b := 426) (L := [.retAddr 0, .ref 0, .ref 93, .int x3]) (S := [.int (xs (x3 + 2).toNatClampNeg), .int (xs (x3 + 1).toNatClampNeg), .ref 93, .int v1]) (z := (zS I2 J tg)) rfl c25 ?_
      refine Runs.sN 1 (c' := (431, [.retAddr 0, .ref 0, .ref 93, .int x3], [.int 0, .int (xs (x3 + 2).toNatClampNeg), .int (xs (x3 + 1).toNatClampNeg), .ref 93, .int v1], (zS I2 J tg))) rfl ?_
      obtain ⟨v3, I4, J5, c26, h⟩ := h
      refine Runs.cl (cm := 193) (as := [.ref 93, .int (xs (x3 + 1).toNatClampNeg), .int (xs (x3 + 2).toNatClampNeg), .int 0]) (rest := [.int v1]) (r1 := ((some (.int v3)), (zS I4 J5 tg))) rfl (Nat.le_of_ble_eq_true rfl) c26 ?_
      refine Runs.as (c' := (434, [.retAddr 0, .ref 0, .ref 93, .int x3], [.int v3, .int v1], (zS I4 J5 tg))) rfl ?_
      by_cases c27 : v1 = v3
      · rw [if_pos c27] at h
        refine Runs.brT (P := v1 = v3) (a := 1912) (b := 437) (L := [.retAddr 0, .ref 0, .ref 93, .int x3]) (S := []) (z := (zS I4 J5 tg)) rfl c27 ?_
        exact h
      · rw [if_neg c27] at h
        refine Runs.brF (P := v1 = v3) (a := 1912) (b := 437) (L := [.retAddr 0, .ref 0, .ref 93, .int x3]) (S := []) (z := (zS I4 J5 tg)) rfl c27 ?_
        refine Runs.sN 1 (c' := (438, [.retAddr 0, .ref 0, .ref 93, .int x3], [.int 0], (zS I4 J5 tg))) rfl ?_
        subst h
        exact Runs.rt rfl
    · rw [if_neg c25] at h
      refine Runs.brF (P := (xs (x3 + 3).toNatClampNeg) = 0) (a := 430) (b := 426) (L := [.retAddr 0, .ref 0, .ref 93, .int x3]) (S := [.int (xs (x3 + 2).toNatClampNeg), .int (xs (x3 + 1).toNatClampNeg), .ref 93, .int v1]) (z := (zS I2 J tg)) rfl c25 ?_
      refine Runs.sN 2 (c' := (431, [.retAddr 0, .ref 0, .ref 93, .int x3], [.int 1, .int (xs (x3 + 2).toNatClampNeg), .int (xs (x3 + 1).toNatClampNeg), .ref 93, .int v1], (zS I2 J tg))) rfl ?_
      obtain ⟨v6, I7, J8, c28, h⟩ := h
      refine Runs.cl (cm := 193) (as := [.ref 93, .int (xs (x3 + 1).toNatClampNeg), .int (xs (x3 + 2).toNatClampNeg), .int 1]) (rest := [.int v1]) (r1 := ((some (.int v6)), (zS I7 J8 tg))) rfl (Nat.le_of_ble_eq_true rfl) c28 ?_
      refine Runs.as (c' := (434, [.retAddr 0, .ref 0, .ref 93, .int x3], [.int v6, .int v1], (zS I7 J8 tg))) rfl ?_
      by_cases c29 : v1 = v6
      · rw [if_pos c29] at h
        refine Runs.brT (P := v1 = v6) (a := 1912) (b := 437) (L := [.retAddr 0, .ref 0, .ref 93, .int x3]) (S := []) (z := (zS I7 J8 tg)) rfl c29 ?_
        exact h
      · rw [if_neg c29] at h
        refine Runs.brF (P := v1 = v6) (a := 1912) (b := 437) (L := [.retAddr 0, .ref 0, .ref 93, .int x3]) (S := []) (z := (zS I7 J8 tg)) rfl c29 ?_
        refine Runs.sN 1 (c' := (438, [.retAddr 0, .ref 0, .ref 93, .int x3], [.int 0], (zS I7 J8 tg))) rfl ?_
        subst h
        exact Runs.rt rfl
  · rw [if_neg c20] at h
    refine Runs.brF (P := (xs (x3 + 3).toNatClampNeg) = 0) (a := 403) (b := 399) (L := [.retAddr 0, .ref 0, .ref 93, .int x3]) (S := [.int (xs (x3 + 2).toNatClampNeg), .int (xs (x3 + 1).toNatClampNeg), .ref 0]) (z := (zS I J tg)) rfl c20 ?_
    refine Runs.sN 2 (c' := (404, [.retAddr 0, .ref 0, .ref 93, .int x3], [.int 1, .int (xs (x3 + 2).toNatClampNeg), .int (xs (x3 + 1).toNatClampNeg), .ref 0], (zS I J tg))) rfl ?_
    obtain ⟨v9, I10, c30, h⟩ := h
    refine Runs.cl (cm := 120) (as := [.ref 0, .int (xs (x3 + 1).toNatClampNeg), .int (xs (x3 + 2).toNatClampNeg), .int 1]) (rest := []) (r1 := ((some (.int v9)), (zS I10 J tg))) rfl (Nat.le_of_ble_eq_true rfl) c30 ?_
    refine Runs.as (c' := (407, [.retAddr 0, .ref 0, .ref 93, .int x3], [.int v9], (zS I10 J tg))) rfl ?_
    refine Runs.sN 5 (c' := (412, [.retAddr 0, .ref 0, .ref 93, .int x3], [.int (x3 + 1), .retAddr 0, .ref 93, .int v9], (zS I10 J tg))) rfl ?_
    obtain ⟨c31, h⟩ := h
    refine Runs.to (c' := (413, [.retAddr 0, .ref 0, .ref 93, .int x3], [.int (xs (x3 + 1).toNatClampNeg), .ref 93, .int v9], (zS I10 J tg))) (Runs.sld rfl (show (0 : Nat) < 2 by decide) c31) ?_
    refine Runs.sN 4 (c' := (417, [.retAddr 0, .ref 0, .ref 93, .int x3], [.int (x3 + 2), .retAddr 0, .int (xs (x3 + 1).toNatClampNeg), .ref 93, .int v9], (zS I10 J tg))) rfl ?_
    obtain ⟨c32, h⟩ := h
    refine Runs.to (c' := (418, [.retAddr 0, .ref 0, .ref 93, .int x3], [.int (xs (x3 + 2).toNatClampNeg), .int (xs (x3 + 1).toNatClampNeg), .ref 93, .int v9], (zS I10 J tg))) (Runs.sld rfl (show (0 : Nat) < 2 by decide) c32) ?_
    refine Runs.sN 4 (c' := (422, [.retAddr 0, .ref 0, .ref 93, .int x3], [.int (x3 + 3), .retAddr 0, .int (xs (x3 + 2).toNatClampNeg), .int (xs (x3 + 1).toNatClampNeg), .ref 93, .int v9], (zS I10 J tg))) rfl ?_
    obtain ⟨c33, h⟩ := h
    refine Runs.to (c' := (423, [.retAddr 0, .ref 0, .ref 93, .int x3], [.int (xs (x3 + 3).toNatClampNeg), .int (xs (x3 + 2).toNatClampNeg), .int (xs (x3 + 1).toNatClampNeg), .ref 93, .int v9], (zS I10 J tg))) (Runs.sld rfl (show (0 : Nat) < 2 by decide) c33) ?_
    by_cases c34 : (xs (x3 + 3).toNatClampNeg) = 0
    · rw [if_pos c34] at h
      refine Runs.brT (P := (xs (x3 + 3).toNatClampNeg) = 0) (a := 430) (b := 426) (L := [.retAddr 0, .ref 0, .ref 93, .int x3]) (S := [.int (xs (x3 + 2).toNatClampNeg), .int (xs (x3 + 1).toNatClampNeg), .ref 93, .int v9]) (z := (zS I10 J tg)) rfl c34 ?_
      refine Runs.sN 1 (c' := (431, [.retAddr 0, .ref 0, .ref 93, .int x3], [.int 0, .int (xs (x3 + 2).toNatClampNeg), .int (xs (x3 + 1).toNatClampNeg), .ref 93, .int v9], (zS I10 J tg))) rfl ?_
      obtain ⟨v11, I12, J13, c35, h⟩ := h
      refine Runs.cl (cm := 193) (as := [.ref 93, .int (xs (x3 + 1).toNatClampNeg), .int (xs (x3 + 2).toNatClampNeg), .int 0]) (rest := [.int v9]) (r1 := ((some (.int v11)), (zS I12 J13 tg))) rfl (Nat.le_of_ble_eq_true rfl) c35 ?_
      refine Runs.as (c' := (434, [.retAddr 0, .ref 0, .ref 93, .int x3], [.int v11, .int v9], (zS I12 J13 tg))) rfl ?_
      by_cases c36 : v9 = v11
      · rw [if_pos c36] at h
        refine Runs.brT (P := v9 = v11) (a := 1912) (b := 437) (L := [.retAddr 0, .ref 0, .ref 93, .int x3]) (S := []) (z := (zS I12 J13 tg)) rfl c36 ?_
        exact h
      · rw [if_neg c36] at h
        refine Runs.brF (P := v9 = v11) (a := 1912) (b := 437) (L := [.retAddr 0, .ref 0, .ref 93, .int x3]) (S := []) (z := (zS I12 J13 tg)) rfl c36 ?_
        refine Runs.sN 1 (c' := (438, [.retAddr 0, .ref 0, .ref 93, .int x3], [.int 0], (zS I12 J13 tg))) rfl ?_
        subst h
        exact Runs.rt rfl
    · rw [if_neg c34] at h
      refine Runs.brF (P := (xs (x3 + 3).toNatClampNeg) = 0) (a := 430) (b := 426) (L := [.retAddr 0, .ref 0, .ref 93, .int x3]) (S := [.int (xs (x3 + 2).toNatClampNeg), .int (xs (x3 + 1).toNatClampNeg), .ref 93, .int v9]) (z := (zS I10 J tg)) rfl c34 ?_
      refine Runs.sN 2 (c' := (431, [.retAddr 0, .ref 0, .ref 93, .int x3], [.int 1, .int (xs (x3 + 2).toNatClampNeg), .int (xs (x3 + 1).toNatClampNeg), .ref 93, .int v9], (zS I10 J tg))) rfl ?_
      obtain ⟨v14, I15, J16, c37, h⟩ := h
      refine Runs.cl (cm := 193) (as := [.ref 93, .int (xs (x3 + 1).toNatClampNeg), .int (xs (x3 + 2).toNatClampNeg), .int 1]) (rest := [.int v9]) (r1 := ((some (.int v14)), (zS I15 J16 tg))) rfl (Nat.le_of_ble_eq_true rfl) c37 ?_
      refine Runs.as (c' := (434, [.retAddr 0, .ref 0, .ref 93, .int x3], [.int v14, .int v9], (zS I15 J16 tg))) rfl ?_
      by_cases c38 : v9 = v14
      · rw [if_pos c38] at h
        refine Runs.brT (P := v9 = v14) (a := 1912) (b := 437) (L := [.retAddr 0, .ref 0, .ref 93, .int x3]) (S := []) (z := (zS I15 J16 tg)) rfl c38 ?_
        exact h
      · rw [if_neg c38] at h
        refine Runs.brF (P := v9 = v14) (a := 1912) (b := 437) (L := [.retAddr 0, .ref 0, .ref 93, .int x3]) (S := []) (z := (zS I15 J16 tg)) rfl c38 ?_
        refine Runs.sN 1 (c' := (438, [.retAddr 0, .ref 0, .ref 93, .int x3], [.int 0], (zS I15 J16 tg))) rfl ?_
        subst h
        exact Runs.rt rfl
theorem sg_302_439 {L d : Nat} {xs : Nat → Int32} (I : Nat → Nat → Int32) (J : Nat → Nat → Int64) (tg : Option Nat) (x3 : Int32) {r : Option Value × SS} (h : (¬ ((x3 + 1) < 0 ∨ L ≤ (x3 + 1).toNatClampNeg) ∧ ¬ ((x3 + 2) < 0 ∨ L ≤ (x3 + 2).toNatClampNeg) ∧ ¬ ((x3 + 3) < 0 ∨ L ≤ (x3 + 3).toNatClampNeg) ∧ ¬ ((x3 + 4) < 0 ∨ L ≤ (x3 + 4).toNatClampNeg) ∧ ∃ (v1 : Int32) (I2 : Nat → Nat → Int32), Runs (GW L xs) d 121 (0, [.ref 0, .int (xs (x3 + 1).toNatClampNeg), .int (xs (x3 + 2).toNatClampNeg), .int (xs (x3 + 3).toNatClampNeg), .int (xs (x3 + 4).toNatClampNeg)], [], (zS I J tg)) ((some (.int v1)), (zS I2 J tg)) ∧ ¬ ((x3 + 1) < 0 ∨ L ≤ (x3 + 1).toNatClampNeg) ∧ ¬ ((x3 + 2) < 0 ∨ L ≤ (x3 + 2).toNatClampNeg) ∧ ¬ ((x3 + 3) < 0 ∨ L ≤ (x3 + 3).toNatClampNeg) ∧ ¬ ((x3 + 4) < 0 ∨ L ≤ (x3 + 4).toNatClampNeg) ∧ ∃ (v3 : Int32) (I4 : Nat → Nat → Int32) (J5 : Nat → Nat → Int64), Runs (GW L xs) d 195 (0, [.ref 93, .int (xs (x3 + 1).toNatClampNeg), .int (xs (x3 + 2).toNatClampNeg), .int (xs (x3 + 3).toNatClampNeg), .int (xs (x3 + 4).toNatClampNeg)], [], (zS I2 J tg)) ((some (.int v3)), (zS I4 J5 tg)) ∧ (if v1 = v3 then (Runs (GW L xs) (d + 1) 302 (1912, [.retAddr 0, .ref 0, .ref 93, .int x3], [], (zS I4 J5 tg)) r) else (r = (some (.int 0), (zS I4 J5 tg)))))) : Runs (GW L xs) (d + 1) 302 (439, [.retAddr 0, .ref 0, .ref 93, .int x3], [], (zS I J tg)) r := by
  refine Runs.sN 5 (c' := (444, [.retAddr 0, .ref 0, .ref 93, .int x3], [.int (x3 + 1), .retAddr 0, .ref 0], (zS I J tg))) rfl ?_
  obtain ⟨c6, h⟩ := h
  refine Runs.to (c' := (445, [.retAddr 0, .ref 0, .ref 93, .int x3], [.int (xs (x3 + 1).toNatClampNeg), .ref 0], (zS I J tg))) (Runs.sld rfl (show (0 : Nat) < 2 by decide) c6) ?_
  refine Runs.sN 4 (c' := (449, [.retAddr 0, .ref 0, .ref 93, .int x3], [.int (x3 + 2), .retAddr 0, .int (xs (x3 + 1).toNatClampNeg), .ref 0], (zS I J tg))) rfl ?_
  obtain ⟨c7, h⟩ := h
  refine Runs.to (c' := (450, [.retAddr 0, .ref 0, .ref 93, .int x3], [.int (xs (x3 + 2).toNatClampNeg), .int (xs (x3 + 1).toNatClampNeg), .ref 0], (zS I J tg))) (Runs.sld rfl (show (0 : Nat) < 2 by decide) c7) ?_
  refine Runs.sN 4 (c' := (454, [.retAddr 0, .ref 0, .ref 93, .int x3], [.int (x3 + 3), .retAddr 0, .int (xs (x3 + 2).toNatClampNeg), .int (xs (x3 + 1).toNatClampNeg), .ref 0], (zS I J tg))) rfl ?_
  obtain ⟨c8, h⟩ := h
  refine Runs.to (c' := (455, [.retAddr 0, .ref 0, .ref 93, .int x3], [.int (xs (x3 + 3).toNatClampNeg), .int (xs (x3 + 2).toNatClampNeg), .int (xs (x3 + 1).toNatClampNeg), .ref 0], (zS I J tg))) (Runs.sld rfl (show (0 : Nat) < 2 by decide) c8) ?_
  refine Runs.sN 4 (c' := (459, [.retAddr 0, .ref 0, .ref 93, .int x3], [.int (x3 + 4), .retAddr 0, .int (xs (x3 + 3).toNatClampNeg), .int (xs (x3 + 2).toNatClampNeg), .int (xs (x3 + 1).toNatClampNeg), .ref 0], (zS I J tg))) rfl ?_
  obtain ⟨c9, h⟩ := h
  refine Runs.to (c' := (460, [.retAddr 0, .ref 0, .ref 93, .int x3], [.int (xs (x3 + 4).toNatClampNeg), .int (xs (x3 + 3).toNatClampNeg), .int (xs (x3 + 2).toNatClampNeg), .int (xs (x3 + 1).toNatClampNeg), .ref 0], (zS I J tg))) (Runs.sld rfl (show (0 : Nat) < 2 by decide) c9) ?_
  obtain ⟨v1, I2, c10, h⟩ := h
  refine Runs.cl (cm := 121) (as := [.ref 0, .int (xs (x3 + 1).toNatClampNeg), .int (xs (x3 + 2).toNatClampNeg), .int (xs (x3 + 3).toNatClampNeg), .int (xs (x3 + 4).toNatClampNeg)]) (rest := []) (r1 := ((some (.int v1)), (zS I2 J tg))) rfl (Nat.le_of_ble_eq_true rfl) c10 ?_
  refine Runs.as (c' := (463, [.retAddr 0, .ref 0, .ref 93, .int x3], [.int v1], (zS I2 J tg))) rfl ?_
  refine Runs.sN 5 (c' := (468, [.retAddr 0, .ref 0, .ref 93, .int x3], [.int (x3 + 1), .retAddr 0, .ref 93, .int v1], (zS I2 J tg))) rfl ?_
  obtain ⟨c11, h⟩ := h
  refine Runs.to (c' := (469, [.retAddr 0, .ref 0, .ref 93, .int x3], [.int (xs (x3 + 1).toNatClampNeg), .ref 93, .int v1], (zS I2 J tg))) (Runs.sld rfl (show (0 : Nat) < 2 by decide) c11) ?_
  refine Runs.sN 4 (c' := (473, [.retAddr 0, .ref 0, .ref 93, .int x3], [.int (x3 + 2), .retAddr 0, .int (xs (x3 + 1).toNatClampNeg), .ref 93, .int v1], (zS I2 J tg))) rfl ?_
  obtain ⟨c12, h⟩ := h
  refine Runs.to (c' := (474, [.retAddr 0, .ref 0, .ref 93, .int x3], [.int (xs (x3 + 2).toNatClampNeg), .int (xs (x3 + 1).toNatClampNeg), .ref 93, .int v1], (zS I2 J tg))) (Runs.sld rfl (show (0 : Nat) < 2 by decide) c12) ?_
  refine Runs.sN 4 (c' := (478, [.retAddr 0, .ref 0, .ref 93, .int x3], [.int (x3 + 3), .retAddr 0, .int (xs (x3 + 2).toNatClampNeg), .int (xs (x3 + 1).toNatClampNeg), .ref 93, .int v1], (zS I2 J tg))) rfl ?_
  obtain ⟨c13, h⟩ := h
  refine Runs.to (c' := (479, [.retAddr 0, .ref 0, .ref 93, .int x3], [.int (xs (x3 + 3).toNatClampNeg), .int (xs (x3 + 2).toNatClampNeg), .int (xs (x3 + 1).toNatClampNeg), .ref 93, .int v1], (zS I2 J tg))) (Runs.sld rfl (show (0 : Nat) < 2 by decide) c13) ?_
  refine Runs.sN 4 (c' := (483, [.retAddr 0, .ref 0, .ref 93, .int x3], [.int (x3 + 4), .retAddr 0, .int (xs (x3 + 3).toNatClampNeg), .int (xs (x3 + 2).toNatClampNeg), .int (xs (x3 + 1).toNatClampNeg), .ref 93, .int v1], (zS I2 J tg))) rfl ?_
  obtain ⟨c14, h⟩ := h
  refine Runs.to (c' := (484, [.retAddr 0, .ref 0, .ref 93, .int x3], [.int (xs (x3 + 4).toNatClampNeg), .int (xs (x3 + 3).toNatClampNeg), .int (xs (x3 + 2).toNatClampNeg), .int (xs (x3 + 1).toNatClampNeg), .ref 93, .int v1], (zS I2 J tg))) (Runs.sld rfl (show (0 : Nat) < 2 by decide) c14) ?_
  obtain ⟨v3, I4, J5, c15, h⟩ := h
  refine Runs.cl (cm := 195) (as := [.ref 93, .int (xs (x3 + 1).toNatClampNeg), .int (xs (x3 + 2).toNatClampNeg), .int (xs (x3 + 3).toNatClampNeg), .int (xs (x3 + 4).toNatClampNeg)]) (rest := [.int v1]) (r1 := ((some (.int v3)), (zS I4 J5 tg))) rfl (Nat.le_of_ble_eq_true rfl) c15 ?_
  refine Runs.as (c' := (487, [.retAddr 0, .ref 0, .ref 93, .int x3], [.int v3, .int v1], (zS I4 J5 tg))) rfl ?_
  by_cases c16 : v1 = v3
  · rw [if_pos c16] at h
    refine Runs.brT (P := v1 = v3) (a := 1912) (b := 490) (L := [.retAddr 0, .ref 0, .ref 93, .int x3]) (S := []) (z := (zS I4 J5 tg)) rfl c16 ?_
    exact h
  · rw [if_neg c16] at h
    refine Runs.brF (P := v1 = v3) (a := 1912) (b := 490) (L := [.retAddr 0, .ref 0, .ref 93, .int x3]) (S := []) (z := (zS I4 J5 tg)) rfl c16 ?_
    refine Runs.sN 1 (c' := (491, [.retAddr 0, .ref 0, .ref 93, .int x3], [.int 0], (zS I4 J5 tg))) rfl ?_
    subst h
    exact Runs.rt rfl
theorem sg_302_492 {L d : Nat} {xs : Nat → Int32} (I : Nat → Nat → Int32) (J : Nat → Nat → Int64) (tg : Option Nat) (x3 : Int32) {r : Option Value × SS} (h : (¬ ((x3 + 1) < 0 ∨ L ≤ (x3 + 1).toNatClampNeg) ∧ ¬ ((x3 + 2) < 0 ∨ L ≤ (x3 + 2).toNatClampNeg) ∧ ∃ (v1 : Int32) (I2 : Nat → Nat → Int32), Runs (GW L xs) d 122 (0, [.ref 0, .int (xs (x3 + 1).toNatClampNeg), .int (xs (x3 + 2).toNatClampNeg)], [], (zS I J tg)) ((some (.int v1)), (zS I2 J tg)) ∧ ¬ ((x3 + 1) < 0 ∨ L ≤ (x3 + 1).toNatClampNeg) ∧ ¬ ((x3 + 2) < 0 ∨ L ≤ (x3 + 2).toNatClampNeg) ∧ ∃ (v3 : Int32) (I4 : Nat → Nat → Int32) (J5 : Nat → Nat → Int64), Runs (GW L xs) d 198 (0, [.ref 93, .int (xs (x3 + 1).toNatClampNeg), .int (xs (x3 + 2).toNatClampNeg)], [], (zS I2 J tg)) ((some (.int v3)), (zS I4 J5 tg)) ∧ (if v1 = v3 then (Runs (GW L xs) (d + 1) 302 (1912, [.retAddr 0, .ref 0, .ref 93, .int x3], [], (zS I4 J5 tg)) r) else (r = (some (.int 0), (zS I4 J5 tg)))))) : Runs (GW L xs) (d + 1) 302 (492, [.retAddr 0, .ref 0, .ref 93, .int x3], [], (zS I J tg)) r := by
  refine Runs.sN 5 (c' := (497, [.retAddr 0, .ref 0, .ref 93, .int x3], [.int (x3 + 1), .retAddr 0, .ref 0], (zS I J tg))) rfl ?_
  obtain ⟨c6, h⟩ := h
  refine Runs.to (c' := (498, [.retAddr 0, .ref 0, .ref 93, .int x3], [.int (xs (x3 + 1).toNatClampNeg), .ref 0], (zS I J tg))) (Runs.sld rfl (show (0 : Nat) < 2 by decide) c6) ?_
  refine Runs.sN 4 (c' := (502, [.retAddr 0, .ref 0, .ref 93, .int x3], [.int (x3 + 2), .retAddr 0, .int (xs (x3 + 1).toNatClampNeg), .ref 0], (zS I J tg))) rfl ?_
  obtain ⟨c7, h⟩ := h
  refine Runs.to (c' := (503, [.retAddr 0, .ref 0, .ref 93, .int x3], [.int (xs (x3 + 2).toNatClampNeg), .int (xs (x3 + 1).toNatClampNeg), .ref 0], (zS I J tg))) (Runs.sld rfl (show (0 : Nat) < 2 by decide) c7) ?_
  obtain ⟨v1, I2, c8, h⟩ := h
  refine Runs.cl (cm := 122) (as := [.ref 0, .int (xs (x3 + 1).toNatClampNeg), .int (xs (x3 + 2).toNatClampNeg)]) (rest := []) (r1 := ((some (.int v1)), (zS I2 J tg))) rfl (Nat.le_of_ble_eq_true rfl) c8 ?_
  refine Runs.as (c' := (506, [.retAddr 0, .ref 0, .ref 93, .int x3], [.int v1], (zS I2 J tg))) rfl ?_
  refine Runs.sN 5 (c' := (511, [.retAddr 0, .ref 0, .ref 93, .int x3], [.int (x3 + 1), .retAddr 0, .ref 93, .int v1], (zS I2 J tg))) rfl ?_
  obtain ⟨c9, h⟩ := h
  refine Runs.to (c' := (512, [.retAddr 0, .ref 0, .ref 93, .int x3], [.int (xs (x3 + 1).toNatClampNeg), .ref 93, .int v1], (zS I2 J tg))) (Runs.sld rfl (show (0 : Nat) < 2 by decide) c9) ?_
  refine Runs.sN 4 (c' := (516, [.retAddr 0, .ref 0, .ref 93, .int x3], [.int (x3 + 2), .retAddr 0, .int (xs (x3 + 1).toNatClampNeg), .ref 93, .int v1], (zS I2 J tg))) rfl ?_
  obtain ⟨c10, h⟩ := h
  refine Runs.to (c' := (517, [.retAddr 0, .ref 0, .ref 93, .int x3], [.int (xs (x3 + 2).toNatClampNeg), .int (xs (x3 + 1).toNatClampNeg), .ref 93, .int v1], (zS I2 J tg))) (Runs.sld rfl (show (0 : Nat) < 2 by decide) c10) ?_
  obtain ⟨v3, I4, J5, c11, h⟩ := h
  refine Runs.cl (cm := 198) (as := [.ref 93, .int (xs (x3 + 1).toNatClampNeg), .int (xs (x3 + 2).toNatClampNeg)]) (rest := [.int v1]) (r1 := ((some (.int v3)), (zS I4 J5 tg))) rfl (Nat.le_of_ble_eq_true rfl) c11 ?_
  refine Runs.as (c' := (520, [.retAddr 0, .ref 0, .ref 93, .int x3], [.int v3, .int v1], (zS I4 J5 tg))) rfl ?_
  by_cases c12 : v1 = v3
  · rw [if_pos c12] at h
    refine Runs.brT (P := v1 = v3) (a := 1912) (b := 523) (L := [.retAddr 0, .ref 0, .ref 93, .int x3]) (S := []) (z := (zS I4 J5 tg)) rfl c12 ?_
    exact h
  · rw [if_neg c12] at h
    refine Runs.brF (P := v1 = v3) (a := 1912) (b := 523) (L := [.retAddr 0, .ref 0, .ref 93, .int x3]) (S := []) (z := (zS I4 J5 tg)) rfl c12 ?_
    refine Runs.sN 1 (c' := (524, [.retAddr 0, .ref 0, .ref 93, .int x3], [.int 0], (zS I4 J5 tg))) rfl ?_
    subst h
    exact Runs.rt rfl
theorem sg_302_525 {L d : Nat} {xs : Nat → Int32} (I : Nat → Nat → Int32) (J : Nat → Nat → Int64) (tg : Option Nat) (x3 : Int32) {r : Option Value × SS} (h : (¬ ((x3 + 1) < 0 ∨ L ≤ (x3 + 1).toNatClampNeg) ∧ ¬ ((x3 + 2) < 0 ∨ L ≤ (x3 + 2).toNatClampNeg) ∧ ¬ ((x3 + 3) < 0 ∨ L ≤ (x3 + 3).toNatClampNeg) ∧ ∃ (v1 : Int32) (I2 : Nat → Nat → Int32), Runs (GW L xs) d 123 (0, [.ref 0, .int (xs (x3 + 1).toNatClampNeg), .int (xs (x3 + 2).toNatClampNeg), .int (xs (x3 + 3).toNatClampNeg)], [], (zS I J tg)) ((some (.int v1)), (zS I2 J tg)) ∧ ¬ ((x3 + 1) < 0 ∨ L ≤ (x3 + 1).toNatClampNeg) ∧ ¬ ((x3 + 2) < 0 ∨ L ≤ (x3 + 2).toNatClampNeg) ∧ ¬ ((x3 + 3) < 0 ∨ L ≤ (x3 + 3).toNatClampNeg) ∧ ∃ (v3 : Int32) (I4 : Nat → Nat → Int32) (J5 : Nat → Nat → Int64), Runs (GW L xs) d 200 (0, [.ref 93, .int (xs (x3 + 1).toNatClampNeg), .int (xs (x3 + 2).toNatClampNeg), .int (xs (x3 + 3).toNatClampNeg)], [], (zS I2 J tg)) ((some (.int v3)), (zS I4 J5 tg)) ∧ (if v1 = v3 then (Runs (GW L xs) (d + 1) 302 (1912, [.retAddr 0, .ref 0, .ref 93, .int x3], [], (zS I4 J5 tg)) r) else (r = (some (.int 0), (zS I4 J5 tg)))))) : Runs (GW L xs) (d + 1) 302 (525, [.retAddr 0, .ref 0, .ref 93, .int x3], [], (zS I J tg)) r := by
  refine Runs.sN 5 (c' := (530, [.retAddr 0, .ref 0, .ref 93, .int x3], [.int (x3 + 1), .retAddr 0, .ref 0], (zS I J tg))) rfl ?_
  obtain ⟨c6, h⟩ := h
  refine Runs.to (c' := (531, [.retAddr 0, .ref 0, .ref 93, .int x3], [.int (xs (x3 + 1).toNatClampNeg), .ref 0], (zS I J tg))) (Runs.sld rfl (show (0 : Nat) < 2 by decide) c6) ?_
  refine Runs.sN 4 (c' := (535, [.retAddr 0, .ref 0, .ref 93, .int x3], [.int (x3 + 2), .retAddr 0, .int (xs (x3 + 1).toNatClampNeg), .ref 0], (zS I J tg))) rfl ?_
  obtain ⟨c7, h⟩ := h
  refine Runs.to (c' := (536, [.retAddr 0, .ref 0, .ref 93, .int x3], [.int (xs (x3 + 2).toNatClampNeg), .int (xs (x3 + 1).toNatClampNeg), .ref 0], (zS I J tg))) (Runs.sld rfl (show (0 : Nat) < 2 by decide) c7) ?_
  refine Runs.sN 4 (c' := (540, [.retAddr 0, .ref 0, .ref 93, .int x3], [.int (x3 + 3), .retAddr 0, .int (xs (x3 + 2).toNatClampNeg), .int (xs (x3 + 1).toNatClampNeg), .ref 0], (zS I J tg))) rfl ?_
  obtain ⟨c8, h⟩ := h
  refine Runs.to (c' := (541, [.retAddr 0, .ref 0, .ref 93, .int x3], [.int (xs (x3 + 3).toNatClampNeg), .int (xs (x3 + 2).toNatClampNeg), .int (xs (x3 + 1).toNatClampNeg), .ref 0], (zS I J tg))) (Runs.sld rfl (show (0 : Nat) < 2 by decide) c8) ?_
  obtain ⟨v1, I2, c9, h⟩ := h
  refine Runs.cl (cm := 123) (as := [.ref 0, .int (xs (x3 + 1).toNatClampNeg), .int (xs (x3 + 2).toNatClampNeg), .int (xs (x3 + 3).toNatClampNeg)]) (rest := []) (r1 := ((some (.int v1)), (zS I2 J tg))) rfl (Nat.le_of_ble_eq_true rfl) c9 ?_
  refine Runs.as (c' := (544, [.retAddr 0, .ref 0, .ref 93, .int x3], [.int v1], (zS I2 J tg))) rfl ?_
  refine Runs.sN 5 (c' := (549, [.retAddr 0, .ref 0, .ref 93, .int x3], [.int (x3 + 1), .retAddr 0, .ref 93, .int v1], (zS I2 J tg))) rfl ?_
  obtain ⟨c10, h⟩ := h
  refine Runs.to (c' := (550, [.retAddr 0, .ref 0, .ref 93, .int x3], [.int (xs (x3 + 1).toNatClampNeg), .ref 93, .int v1], (zS I2 J tg))) (Runs.sld rfl (show (0 : Nat) < 2 by decide) c10) ?_
  refine Runs.sN 4 (c' := (554, [.retAddr 0, .ref 0, .ref 93, .int x3], [.int (x3 + 2), .retAddr 0, .int (xs (x3 + 1).toNatClampNeg), .ref 93, .int v1], (zS I2 J tg))) rfl ?_
  obtain ⟨c11, h⟩ := h
  refine Runs.to (c' := (555, [.retAddr 0, .ref 0, .ref 93, .int x3], [.int (xs (x3 + 2).toNatClampNeg), .int (xs (x3 + 1).toNatClampNeg), .ref 93, .int v1], (zS I2 J tg))) (Runs.sld rfl (show (0 : Nat) < 2 by decide) c11) ?_
  refine Runs.sN 4 (c' := (559, [.retAddr 0, .ref 0, .ref 93, .int x3], [.int (x3 + 3), .retAddr 0, .int (xs (x3 + 2).toNatClampNeg), .int (xs (x3 + 1).toNatClampNeg), .ref 93, .int v1], (zS I2 J tg))) rfl ?_
  obtain ⟨c12, h⟩ := h
  refine Runs.to (c' := (560, [.retAddr 0, .ref 0, .ref 93, .int x3], [.int (xs (x3 + 3).toNatClampNeg), .int (xs (x3 + 2).toNatClampNeg), .int (xs (x3 + 1).toNatClampNeg), .ref 93, .int v1], (zS I2 J tg))) (Runs.sld rfl (show (0 : Nat) < 2 by decide) c12) ?_
  obtain ⟨v3, I4, J5, c13, h⟩ := h
  refine Runs.cl (cm := 200) (as := [.ref 93, .int (xs (x3 + 1).toNatClampNeg), .int (xs (x3 + 2).toNatClampNeg), .int (xs (x3 + 3).toNatClampNeg)]) (rest := [.int v1]) (r1 := ((some (.int v3)), (zS I4 J5 tg))) rfl (Nat.le_of_ble_eq_true rfl) c13 ?_
  refine Runs.as (c' := (563, [.retAddr 0, .ref 0, .ref 93, .int x3], [.int v3, .int v1], (zS I4 J5 tg))) rfl ?_
  by_cases c14 : v1 = v3
  · rw [if_pos c14] at h
    refine Runs.brT (P := v1 = v3) (a := 1912) (b := 566) (L := [.retAddr 0, .ref 0, .ref 93, .int x3]) (S := []) (z := (zS I4 J5 tg)) rfl c14 ?_
    exact h
  · rw [if_neg c14] at h
    refine Runs.brF (P := v1 = v3) (a := 1912) (b := 566) (L := [.retAddr 0, .ref 0, .ref 93, .int x3]) (S := []) (z := (zS I4 J5 tg)) rfl c14 ?_
    refine Runs.sN 1 (c' := (567, [.retAddr 0, .ref 0, .ref 93, .int x3], [.int 0], (zS I4 J5 tg))) rfl ?_
    subst h
    exact Runs.rt rfl
theorem sg_302_568 {L d : Nat} {xs : Nat → Int32} (I : Nat → Nat → Int32) (J : Nat → Nat → Int64) (tg : Option Nat) (x3 : Int32) {r : Option Value × SS} (h : (¬ ((x3 + 1) < 0 ∨ L ≤ (x3 + 1).toNatClampNeg) ∧ ¬ ((x3 + 2) < 0 ∨ L ≤ (x3 + 2).toNatClampNeg) ∧ ¬ ((x3 + 3) < 0 ∨ L ≤ (x3 + 3).toNatClampNeg) ∧ ∃ (v1 : Int32) (I2 : Nat → Nat → Int32), Runs (GW L xs) d 124 (0, [.ref 0, .int (xs (x3 + 1).toNatClampNeg), .int (xs (x3 + 2).toNatClampNeg), .int (xs (x3 + 3).toNatClampNeg)], [], (zS I J tg)) ((some (.int v1)), (zS I2 J tg)) ∧ ¬ ((x3 + 1) < 0 ∨ L ≤ (x3 + 1).toNatClampNeg) ∧ ¬ ((x3 + 2) < 0 ∨ L ≤ (x3 + 2).toNatClampNeg) ∧ ¬ ((x3 + 3) < 0 ∨ L ≤ (x3 + 3).toNatClampNeg) ∧ ∃ (v3 : Int32) (I4 : Nat → Nat → Int32) (J5 : Nat → Nat → Int64), Runs (GW L xs) d 201 (0, [.ref 93, .int (xs (x3 + 1).toNatClampNeg), .int (xs (x3 + 2).toNatClampNeg), .int (xs (x3 + 3).toNatClampNeg)], [], (zS I2 J tg)) ((some (.int v3)), (zS I4 J5 tg)) ∧ (if v1 = v3 then (Runs (GW L xs) (d + 1) 302 (1912, [.retAddr 0, .ref 0, .ref 93, .int x3], [], (zS I4 J5 tg)) r) else (r = (some (.int 0), (zS I4 J5 tg)))))) : Runs (GW L xs) (d + 1) 302 (568, [.retAddr 0, .ref 0, .ref 93, .int x3], [], (zS I J tg)) r := by
  refine Runs.sN 5 (c' := (573, [.retAddr 0, .ref 0, .ref 93, .int x3], [.int (x3 + 1), .retAddr 0, .ref 0], (zS I J tg))) rfl ?_
  obtain ⟨c6, h⟩ := h
  refine Runs.to (c' := (574, [.retAddr 0, .ref 0, .ref 93, .int x3], [.int (xs (x3 + 1).toNatClampNeg), .ref 0], (zS I J tg))) (Runs.sld rfl (show (0 : Nat) < 2 by decide) c6) ?_
  refine Runs.sN 4 (c' := (578, [.retAddr 0, .ref 0, .ref 93, .int x3], [.int (x3 + 2), .retAddr 0, .int (xs (x3 + 1).toNatClampNeg), .ref 0], (zS I J tg))) rfl ?_
  obtain ⟨c7, h⟩ := h
  refine Runs.to (c' := (579, [.retAddr 0, .ref 0, .ref 93, .int x3], [.int (xs (x3 + 2).toNatClampNeg), .int (xs (x3 + 1).toNatClampNeg), .ref 0], (zS I J tg))) (Runs.sld rfl (show (0 : Nat) < 2 by decide) c7) ?_
  refine Runs.sN 4 (c' := (583, [.retAddr 0, .ref 0, .ref 93, .int x3], [.int (x3 + 3), .retAddr 0, .int (xs (x3 + 2).toNatClampNeg), .int (xs (x3 + 1).toNatClampNeg), .ref 0], (zS I J tg))) rfl ?_
  obtain ⟨c8, h⟩ := h
  refine Runs.to (c' := (584, [.retAddr 0, .ref 0, .ref 93, .int x3], [.int (xs (x3 + 3).toNatClampNeg), .int (xs (x3 + 2).toNatClampNeg), .int (xs (x3 + 1).toNatClampNeg), .ref 0], (zS I J tg))) (Runs.sld rfl (show (0 : Nat) < 2 by decide) c8) ?_
  obtain ⟨v1, I2, c9, h⟩ := h
  refine Runs.cl (cm := 124) (as := [.ref 0, .int (xs (x3 + 1).toNatClampNeg), .int (xs (x3 + 2).toNatClampNeg), .int (xs (x3 + 3).toNatClampNeg)]) (rest := []) (r1 := ((some (.int v1)), (zS I2 J tg))) rfl (Nat.le_of_ble_eq_true rfl) c9 ?_
  refine Runs.as (c' := (587, [.retAddr 0, .ref 0, .ref 93, .int x3], [.int v1], (zS I2 J tg))) rfl ?_
  refine Runs.sN 5 (c' := (592, [.retAddr 0, .ref 0, .ref 93, .int x3], [.int (x3 + 1), .retAddr 0, .ref 93, .int v1], (zS I2 J tg))) rfl ?_
  obtain ⟨c10, h⟩ := h
  refine Runs.to (c' := (593, [.retAddr 0, .ref 0, .ref 93, .int x3], [.int (xs (x3 + 1).toNatClampNeg), .ref 93, .int v1], (zS I2 J tg))) (Runs.sld rfl (show (0 : Nat) < 2 by decide) c10) ?_
  refine Runs.sN 4 (c' := (597, [.retAddr 0, .ref 0, .ref 93, .int x3], [.int (x3 + 2), .retAddr 0, .int (xs (x3 + 1).toNatClampNeg), .ref 93, .int v1], (zS I2 J tg))) rfl ?_
  obtain ⟨c11, h⟩ := h
  refine Runs.to (c' := (598, [.retAddr 0, .ref 0, .ref 93, .int x3], [.int (xs (x3 + 2).toNatClampNeg), .int (xs (x3 + 1).toNatClampNeg), .ref 93, .int v1], (zS I2 J tg))) (Runs.sld rfl (show (0 : Nat) < 2 by decide) c11) ?_
  refine Runs.sN 4 (c' := (602, [.retAddr 0, .ref 0, .ref 93, .int x3], [.int (x3 + 3), .retAddr 0, .int (xs (x3 + 2).toNatClampNeg), .int (xs (x3 + 1).toNatClampNeg), .ref 93, .int v1], (zS I2 J tg))) rfl ?_
  obtain ⟨c12, h⟩ := h
  refine Runs.to (c' := (603, [.retAddr 0, .ref 0, .ref 93, .int x3], [.int (xs (x3 + 3).toNatClampNeg), .int (xs (x3 + 2).toNatClampNeg), .int (xs (x3 + 1).toNatClampNeg), .ref 93, .int v1], (zS I2 J tg))) (Runs.sld rfl (show (0 : Nat) < 2 by decide) c12) ?_
  obtain ⟨v3, I4, J5, c13, h⟩ := h
  refine Runs.cl (cm := 201) (as := [.ref 93, .int (xs (x3 + 1).toNatClampNeg), .int (xs (x3 + 2).toNatClampNeg), .int (xs (x3 + 3).toNatClampNeg)]) (rest := [.int v1]) (r1 := ((some (.int v3)), (zS I4 J5 tg))) rfl (Nat.le_of_ble_eq_true rfl) c13 ?_
  refine Runs.as (c' := (606, [.retAddr 0, .ref 0, .ref 93, .int x3], [.int v3, .int v1], (zS I4 J5 tg))) rfl ?_
  by_cases c14 : v1 = v3
  · rw [if_pos c14] at h
    refine Runs.brT (P := v1 = v3) (a := 1912) (b := 609) (L := [.retAddr 0, .ref 0, .ref 93, .int x3]) (S := []) (z := (zS I4 J5 tg)) rfl c14 ?_
    exact h
  · rw [if_neg c14] at h
    refine Runs.brF (P := v1 = v3) (a := 1912) (b := 609) (L := [.retAddr 0, .ref 0, .ref 93, .int x3]) (S := []) (z := (zS I4 J5 tg)) rfl c14 ?_
    refine Runs.sN 1 (c' := (610, [.retAddr 0, .ref 0, .ref 93, .int x3], [.int 0], (zS I4 J5 tg))) rfl ?_
    subst h
    exact Runs.rt rfl
theorem sg_302_611 {L d : Nat} {xs : Nat → Int32} (I : Nat → Nat → Int32) (J : Nat → Nat → Int64) (tg : Option Nat) (x3 : Int32) {r : Option Value × SS} (h : (¬ ((x3 + 1) < 0 ∨ L ≤ (x3 + 1).toNatClampNeg) ∧ ¬ ((x3 + 2) < 0 ∨ L ≤ (x3 + 2).toNatClampNeg) ∧ ¬ ((x3 + 3) < 0 ∨ L ≤ (x3 + 3).toNatClampNeg) ∧ ¬ ((x3 + 4) < 0 ∨ L ≤ (x3 + 4).toNatClampNeg) ∧ ∃ (v1 : Int32) (I2 : Nat → Nat → Int32), Runs (GW L xs) d 125 (0, [.ref 0, .int (xs (x3 + 1).toNatClampNeg), .int (xs (x3 + 2).toNatClampNeg), .int (xs (x3 + 3).toNatClampNeg), .int (xs (x3 + 4).toNatClampNeg)], [], (zS I J tg)) ((some (.int v1)), (zS I2 J tg)) ∧ ¬ ((x3 + 1) < 0 ∨ L ≤ (x3 + 1).toNatClampNeg) ∧ ¬ ((x3 + 2) < 0 ∨ L ≤ (x3 + 2).toNatClampNeg) ∧ ¬ ((x3 + 3) < 0 ∨ L ≤ (x3 + 3).toNatClampNeg) ∧ ¬ ((x3 + 4) < 0 ∨ L ≤ (x3 + 4).toNatClampNeg) ∧ ∃ (v3 : Int32) (I4 : Nat → Nat → Int32) (J5 : Nat → Nat → Int64), Runs (GW L xs) d 202 (0, [.ref 93, .int (xs (x3 + 1).toNatClampNeg), .int (xs (x3 + 2).toNatClampNeg), .int (xs (x3 + 3).toNatClampNeg), .int (xs (x3 + 4).toNatClampNeg)], [], (zS I2 J tg)) ((some (.int v3)), (zS I4 J5 tg)) ∧ (if v1 = v3 then (Runs (GW L xs) (d + 1) 302 (1912, [.retAddr 0, .ref 0, .ref 93, .int x3], [], (zS I4 J5 tg)) r) else (r = (some (.int 0), (zS I4 J5 tg)))))) : Runs (GW L xs) (d + 1) 302 (611, [.retAddr 0, .ref 0, .ref 93, .int x3], [], (zS I J tg)) r := by
  refine Runs.sN 5 (c' := (616, [.retAddr 0, .ref 0, .ref 93, .int x3], [.int (x3 + 1), .retAddr 0, .ref 0], (zS I J tg))) rfl ?_
  obtain ⟨c6, h⟩ := h
  refine Runs.to (c' := (617, [.retAddr 0, .ref 0, .ref 93, .int x3], [.int (xs (x3 + 1).toNatClampNeg), .ref 0], (zS I J tg))) (Runs.sld rfl (show (0 : Nat) < 2 by decide) c6) ?_
  refine Runs.sN 4 (c' := (621, [.retAddr 0, .ref 0, .ref 93, .int x3], [.int (x3 + 2), .retAddr 0, .int (xs (x3 + 1).toNatClampNeg), .ref 0], (zS I J tg))) rfl ?_
  obtain ⟨c7, h⟩ := h
  refine Runs.to (c' := (622, [.retAddr 0, .ref 0, .ref 93, .int x3], [.int (xs (x3 + 2).toNatClampNeg), .int (xs (x3 + 1).toNatClampNeg), .ref 0], (zS I J tg))) (Runs.sld rfl (show (0 : Nat) < 2 by decide) c7) ?_
  refine Runs.sN 4 (c' := (626, [.retAddr 0, .ref 0, .ref 93, .int x3], [.int (x3 + 3), .retAddr 0, .int (xs (x3 + 2).toNatClampNeg), .int (xs (x3 + 1).toNatClampNeg), .ref 0], (zS I J tg))) rfl ?_
  obtain ⟨c8, h⟩ := h
  refine Runs.to (c' := (627, [.retAddr 0, .ref 0, .ref 93, .int x3], [.int (xs (x3 + 3).toNatClampNeg), .int (xs (x3 + 2).toNatClampNeg), .int (xs (x3 + 1).toNatClampNeg), .ref 0], (zS I J tg))) (Runs.sld rfl (show (0 : Nat) < 2 by decide) c8) ?_
  refine Runs.sN 4 (c' := (631, [.retAddr 0, .ref 0, .ref 93, .int x3], [.int (x3 + 4), .retAddr 0, .int (xs (x3 + 3).toNatClampNeg), .int (xs (x3 + 2).toNatClampNeg), .int (xs (x3 + 1).toNatClampNeg), .ref 0], (zS I J tg))) rfl ?_
  obtain ⟨c9, h⟩ := h
  refine Runs.to (c' := (632, [.retAddr 0, .ref 0, .ref 93, .int x3], [.int (xs (x3 + 4).toNatClampNeg), .int (xs (x3 + 3).toNatClampNeg), .int (xs (x3 + 2).toNatClampNeg), .int (xs (x3 + 1).toNatClampNeg), .ref 0], (zS I J tg))) (Runs.sld rfl (show (0 : Nat) < 2 by decide) c9) ?_
  obtain ⟨v1, I2, c10, h⟩ := h
  refine Runs.cl (cm := 125) (as := [.ref 0, .int (xs (x3 + 1).toNatClampNeg), .int (xs (x3 + 2).toNatClampNeg), .int (xs (x3 + 3).toNatClampNeg), .int (xs (x3 + 4).toNatClampNeg)]) (rest := []) (r1 := ((some (.int v1)), (zS I2 J tg))) rfl (Nat.le_of_ble_eq_true rfl) c10 ?_
  refine Runs.as (c' := (635, [.retAddr 0, .ref 0, .ref 93, .int x3], [.int v1], (zS I2 J tg))) rfl ?_
  refine Runs.sN 5 (c' := (640, [.retAddr 0, .ref 0, .ref 93, .int x3], [.int (x3 + 1), .retAddr 0, .ref 93, .int v1], (zS I2 J tg))) rfl ?_
  obtain ⟨c11, h⟩ := h
  refine Runs.to (c' := (641, [.retAddr 0, .ref 0, .ref 93, .int x3], [.int (xs (x3 + 1).toNatClampNeg), .ref 93, .int v1], (zS I2 J tg))) (Runs.sld rfl (show (0 : Nat) < 2 by decide) c11) ?_
  refine Runs.sN 4 (c' := (645, [.retAddr 0, .ref 0, .ref 93, .int x3], [.int (x3 + 2), .retAddr 0, .int (xs (x3 + 1).toNatClampNeg), .ref 93, .int v1], (zS I2 J tg))) rfl ?_
  obtain ⟨c12, h⟩ := h
  refine Runs.to (c' := (646, [.retAddr 0, .ref 0, .ref 93, .int x3], [.int (xs (x3 + 2).toNatClampNeg), .int (xs (x3 + 1).toNatClampNeg), .ref 93, .int v1], (zS I2 J tg))) (Runs.sld rfl (show (0 : Nat) < 2 by decide) c12) ?_
  refine Runs.sN 4 (c' := (650, [.retAddr 0, .ref 0, .ref 93, .int x3], [.int (x3 + 3), .retAddr 0, .int (xs (x3 + 2).toNatClampNeg), .int (xs (x3 + 1).toNatClampNeg), .ref 93, .int v1], (zS I2 J tg))) rfl ?_
  obtain ⟨c13, h⟩ := h
  refine Runs.to (c' := (651, [.retAddr 0, .ref 0, .ref 93, .int x3], [.int (xs (x3 + 3).toNatClampNeg), .int (xs (x3 + 2).toNatClampNeg), .int (xs (x3 + 1).toNatClampNeg), .ref 93, .int v1], (zS I2 J tg))) (Runs.sld rfl (show (0 : Nat) < 2 by decide) c13) ?_
  refine Runs.sN 4 (c' := (655, [.retAddr 0, .ref 0, .ref 93, .int x3], [.int (x3 + 4), .retAddr 0, .int (xs (x3 + 3).toNatClampNeg), .int (xs (x3 + 2).toNatClampNeg), .int (xs (x3 + 1).toNatClampNeg), .ref 93, .int v1], (zS I2 J tg))) rfl ?_
  obtain ⟨c14, h⟩ := h
  refine Runs.to (c' := (656, [.retAddr 0, .ref 0, .ref 93, .int x3], [.int (xs (x3 + 4).toNatClampNeg), .int (xs (x3 + 3).toNatClampNeg), .int (xs (x3 + 2).toNatClampNeg), .int (xs (x3 + 1).toNatClampNeg), .ref 93, .int v1], (zS I2 J tg))) (Runs.sld rfl (show (0 : Nat) < 2 by decide) c14) ?_
  obtain ⟨v3, I4, J5, c15, h⟩ := h
  refine Runs.cl (cm := 202) (as := [.ref 93, .int (xs (x3 + 1).toNatClampNeg), .int (xs (x3 + 2).toNatClampNeg), .int (xs (x3 + 3).toNatClampNeg), .int (xs (x3 + 4).toNatClampNeg)]) (rest := [.int v1]) (r1 := ((some (.int v3)), (zS I4 J5 tg))) rfl (Nat.le_of_ble_eq_true rfl) c15 ?_
  refine Runs.as (c' := (659, [.retAddr 0, .ref 0, .ref 93, .int x3], [.int v3, .int v1], (zS I4 J5 tg))) rfl ?_
  by_cases c16 : v1 = v3
  · rw [if_pos c16] at h
    refine Runs.brT (P := v1 = v3) (a := 1912) (b := 662) (L := [.retAddr 0, .ref 0, .ref 93, .int x3]) (S := []) (z := (zS I4 J5 tg)) rfl c16 ?_
    exact h
  · rw [if_neg c16] at h
    refine Runs.brF (P := v1 = v3) (a := 1912) (b := 662) (L := [.retAddr 0, .ref 0, .ref 93, .int x3]) (S := []) (z := (zS I4 J5 tg)) rfl c16 ?_
    refine Runs.sN 1 (c' := (663, [.retAddr 0, .ref 0, .ref 93, .int x3], [.int 0], (zS I4 J5 tg))) rfl ?_
    subst h
    exact Runs.rt rfl
theorem sg_302_664 {L d : Nat} {xs : Nat → Int32} (I : Nat → Nat → Int32) (J : Nat → Nat → Int64) (tg : Option Nat) (x3 : Int32) {r : Option Value × SS} (h : (¬ ((x3 + 1) < 0 ∨ L ≤ (x3 + 1).toNatClampNeg) ∧ ¬ ((x3 + 2) < 0 ∨ L ≤ (x3 + 2).toNatClampNeg) ∧ ¬ ((x3 + 3) < 0 ∨ L ≤ (x3 + 3).toNatClampNeg) ∧ ¬ ((x3 + 4) < 0 ∨ L ≤ (x3 + 4).toNatClampNeg) ∧ ¬ ((x3 + 5) < 0 ∨ L ≤ (x3 + 5).toNatClampNeg) ∧ ∃ (v1 : Int32) (I2 : Nat → Nat → Int32), Runs (GW L xs) d 126 (0, [.ref 0, .int (xs (x3 + 1).toNatClampNeg), .int (xs (x3 + 2).toNatClampNeg), .int (xs (x3 + 3).toNatClampNeg), .int (xs (x3 + 4).toNatClampNeg), .int (xs (x3 + 5).toNatClampNeg)], [], (zS I J tg)) ((some (.int v1)), (zS I2 J tg)) ∧ ¬ ((x3 + 1) < 0 ∨ L ≤ (x3 + 1).toNatClampNeg) ∧ ¬ ((x3 + 2) < 0 ∨ L ≤ (x3 + 2).toNatClampNeg) ∧ ¬ ((x3 + 3) < 0 ∨ L ≤ (x3 + 3).toNatClampNeg) ∧ ¬ ((x3 + 4) < 0 ∨ L ≤ (x3 + 4).toNatClampNeg) ∧ ¬ ((x3 + 5) < 0 ∨ L ≤ (x3 + 5).toNatClampNeg) ∧ ∃ (v3 : Int32) (I4 : Nat → Nat → Int32) (J5 : Nat → Nat → Int64), Runs (GW L xs) d 208 (0, [.ref 93, .int (xs (x3 + 1).toNatClampNeg), .int (xs (x3 + 2).toNatClampNeg), .int (xs (x3 + 3).toNatClampNeg), .int (xs (x3 + 4).toNatClampNeg), .int (xs (x3 + 5).toNatClampNeg)], [], (zS I2 J tg)) ((some (.int v3)), (zS I4 J5 tg)) ∧ (if v1 = v3 then (Runs (GW L xs) (d + 1) 302 (1912, [.retAddr 0, .ref 0, .ref 93, .int x3], [], (zS I4 J5 tg)) r) else (r = (some (.int 0), (zS I4 J5 tg)))))) : Runs (GW L xs) (d + 1) 302 (664, [.retAddr 0, .ref 0, .ref 93, .int x3], [], (zS I J tg)) r := by
  refine Runs.sN 5 (c' := (669, [.retAddr 0, .ref 0, .ref 93, .int x3], [.int (x3 + 1), .retAddr 0, .ref 0], (zS I J tg))) rfl ?_
  obtain ⟨c6, h⟩ := h
  refine Runs.to (c' := (670, [.retAddr 0, .ref 0, .ref 93, .int x3], [.int (xs (x3 + 1).toNatClampNeg), .ref 0], (zS I J tg))) (Runs.sld rfl (show (0 : Nat) < 2 by decide) c6) ?_
  refine Runs.sN 4 (c' := (674, [.retAddr 0, .ref 0, .ref 93, .int x3], [.int (x3 + 2), .retAddr 0, .int (xs (x3 + 1).toNatClampNeg), .ref 0], (zS I J tg))) rfl ?_
  obtain ⟨c7, h⟩ := h
  refine Runs.to (c' := (675, [.retAddr 0, .ref 0, .ref 93, .int x3], [.int (xs (x3 + 2).toNatClampNeg), .int (xs (x3 + 1).toNatClampNeg), .ref 0], (zS I J tg))) (Runs.sld rfl (show (0 : Nat) < 2 by decide) c7) ?_
  refine Runs.sN 4 (c' := (679, [.retAddr 0, .ref 0, .ref 93, .int x3], [.int (x3 + 3), .retAddr 0, .int (xs (x3 + 2).toNatClampNeg), .int (xs (x3 + 1).toNatClampNeg), .ref 0], (zS I J tg))) rfl ?_
  obtain ⟨c8, h⟩ := h
  refine Runs.to (c' := (680, [.retAddr 0, .ref 0, .ref 93, .int x3], [.int (xs (x3 + 3).toNatClampNeg), .int (xs (x3 + 2).toNatClampNeg), .int (xs (x3 + 1).toNatClampNeg), .ref 0], (zS I J tg))) (Runs.sld rfl (show (0 : Nat) < 2 by decide) c8) ?_
  refine Runs.sN 4 (c' := (684, [.retAddr 0, .ref 0, .ref 93, .int x3], [.int (x3 + 4), .retAddr 0, .int (xs (x3 + 3).toNatClampNeg), .int (xs (x3 + 2).toNatClampNeg), .int (xs (x3 + 1).toNatClampNeg), .ref 0], (zS I J tg))) rfl ?_
  obtain ⟨c9, h⟩ := h
  refine Runs.to (c' := (685, [.retAddr 0, .ref 0, .ref 93, .int x3], [.int (xs (x3 + 4).toNatClampNeg), .int (xs (x3 + 3).toNatClampNeg), .int (xs (x3 + 2).toNatClampNeg), .int (xs (x3 + 1).toNatClampNeg), .ref 0], (zS I J tg))) (Runs.sld rfl (show (0 : Nat) < 2 by decide) c9) ?_
  refine Runs.sN 4 (c' := (689, [.retAddr 0, .ref 0, .ref 93, .int x3], [.int (x3 + 5), .retAddr 0, .int (xs (x3 + 4).toNatClampNeg), .int (xs (x3 + 3).toNatClampNeg), .int (xs (x3 + 2).toNatClampNeg), .int (xs (x3 + 1).toNatClampNeg), .ref 0], (zS I J tg))) rfl ?_
  obtain ⟨c10, h⟩ := h
  refine Runs.to (c' := (690, [.retAddr 0, .ref 0, .ref 93, .int x3], [.int (xs (x3 + 5).toNatClampNeg), .int (xs (x3 + 4).toNatClampNeg), .int (xs (x3 + 3).toNatClampNeg), .int (xs (x3 + 2).toNatClampNeg), .int (xs (x3 + 1).toNatClampNeg), .ref 0], (zS I J tg))) (Runs.sld rfl (show (0 : Nat) < 2 by decide) c10) ?_
  obtain ⟨v1, I2, c11, h⟩ := h
  refine Runs.cl (cm := 126) (as := [.ref 0, .int (xs (x3 + 1).toNatClampNeg), .int (xs (x3 + 2).toNatClampNeg), .int (xs (x3 + 3).toNatClampNeg), .int (xs (x3 + 4).toNatClampNeg), .int (xs (x3 + 5).toNatClampNeg)]) (rest := []) (r1 := ((some (.int v1)), (zS I2 J tg))) rfl (Nat.le_of_ble_eq_true rfl) c11 ?_
  refine Runs.as (c' := (693, [.retAddr 0, .ref 0, .ref 93, .int x3], [.int v1], (zS I2 J tg))) rfl ?_
  refine Runs.sN 5 (c' := (698, [.retAddr 0, .ref 0, .ref 93, .int x3], [.int (x3 + 1), .retAddr 0, .ref 93, .int v1], (zS I2 J tg))) rfl ?_
  obtain ⟨c12, h⟩ := h
  refine Runs.to (c' := (699, [.retAddr 0, .ref 0, .ref 93, .int x3], [.int (xs (x3 + 1).toNatClampNeg), .ref 93, .int v1], (zS I2 J tg))) (Runs.sld rfl (show (0 : Nat) < 2 by decide) c12) ?_
  refine Runs.sN 4 (c' := (703, [.retAddr 0, .ref 0, .ref 93, .int x3], [.int (x3 + 2), .retAddr 0, .int (xs (x3 + 1).toNatClampNeg), .ref 93, .int v1], (zS I2 J tg))) rfl ?_
  obtain ⟨c13, h⟩ := h
  refine Runs.to (c' := (704, [.retAddr 0, .ref 0, .ref 93, .int x3], [.int (xs (x3 + 2).toNatClampNeg), .int (xs (x3 + 1).toNatClampNeg), .ref 93, .int v1], (zS I2 J tg))) (Runs.sld rfl (show (0 : Nat) < 2 by decide) c13) ?_
  refine Runs.sN 4 (c' := (708, [.retAddr 0, .ref 0, .ref 93, .int x3], [.int (x3 + 3), .retAddr 0, .int (xs (x3 + 2).toNatClampNeg), .int (xs (x3 + 1).toNatClampNeg), .ref 93, .int v1], (zS I2 J tg))) rfl ?_
  obtain ⟨c14, h⟩ := h
  refine Runs.to (c' := (709, [.retAddr 0, .ref 0, .ref 93, .int x3], [.int (xs (x3 + 3).toNatClampNeg), .int (xs (x3 + 2).toNatClampNeg), .int (xs (x3 + 1).toNatClampNeg), .ref 93, .int v1], (zS I2 J tg))) (Runs.sld rfl (show (0 : Nat) < 2 by decide) c14) ?_
  refine Runs.sN 4 (c' := (713, [.retAddr 0, .ref 0, .ref 93, .int x3], [.int (x3 + 4), .retAddr 0, .int (xs (x3 + 3).toNatClampNeg), .int (xs (x3 + 2).toNatClampNeg), .int (xs (x3 + 1).toNatClampNeg), .ref 93, .int v1], (zS I2 J tg))) rfl ?_
  obtain ⟨c15, h⟩ := h
  refine Runs.to (c' := (714, [.retAddr 0, .ref 0, .ref 93, .int x3], [.int (xs (x3 + 4).toNatClampNeg), .int (xs (x3 + 3).toNatClampNeg), .int (xs (x3 + 2).toNatClampNeg), .int (xs (x3 + 1).toNatClampNeg), .ref 93, .int v1], (zS I2 J tg))) (Runs.sld rfl (show (0 : Nat) < 2 by decide) c15) ?_
  refine Runs.sN 4 (c' := (718, [.retAddr 0, .ref 0, .ref 93, .int x3], [.int (x3 + 5), .retAddr 0, .int (xs (x3 + 4).toNatClampNeg), .int (xs (x3 + 3).toNatClampNeg), .int (xs (x3 + 2).toNatClampNeg), .int (xs (x3 + 1).toNatClampNeg), .ref 93, .int v1], (zS I2 J tg))) rfl ?_
  obtain ⟨c16, h⟩ := h
  refine Runs.to (c' := (719, [.retAddr 0, .ref 0, .ref 93, .int x3], [.int (xs (x3 + 5).toNatClampNeg), .int (xs (x3 + 4).toNatClampNeg), .int (xs (x3 + 3).toNatClampNeg), .int (xs (x3 + 2).toNatClampNeg), .int (xs (x3 + 1).toNatClampNeg), .ref 93, .int v1], (zS I2 J tg))) (Runs.sld rfl (show (0 : Nat) < 2 by decide) c16) ?_
  obtain ⟨v3, I4, J5, c17, h⟩ := h
  refine Runs.cl (cm := 208) (as := [.ref 93, .int (xs (x3 + 1).toNatClampNeg), .int (xs (x3 + 2).toNatClampNeg), .int (xs (x3 + 3).toNatClampNeg), .int (xs (x3 + 4).toNatClampNeg), .int (xs (x3 + 5).toNatClampNeg)]) (rest := [.int v1]) (r1 := ((some (.int v3)), (zS I4 J5 tg))) rfl (Nat.le_of_ble_eq_true rfl) c17 ?_
  refine Runs.as (c' := (722, [.retAddr 0, .ref 0, .ref 93, .int x3], [.int v3, .int v1], (zS I4 J5 tg))) rfl ?_
  by_cases c18 : v1 = v3
  · rw [if_pos c18] at h
    refine Runs.brT (P := v1 = v3) (a := 1912) (b := 725) (L := [.retAddr 0, .ref 0, .ref 93, .int x3]) (S := []) (z := (zS I4 J5 tg)) rfl c18 ?_
    exact h
  · rw [if_neg c18] at h
    refine Runs.brF (P := v1 = v3) (a := 1912) (b := 725) (L := [.retAddr 0, .ref 0, .ref 93, .int x3]) (S := []) (z := (zS I4 J5 tg)) rfl c18 ?_
    refine Runs.sN 1 (c' := (726, [.retAddr 0, .ref 0, .ref 93, .int x3], [.int 0], (zS I4 J5 tg))) rfl ?_
    subst h
    exact Runs.rt rfl
theorem sg_302_727 {L d : Nat} {xs : Nat → Int32} (I : Nat → Nat → Int32) (J : Nat → Nat → Int64) (tg : Option Nat) (x3 : Int32) {r : Option Value × SS} (h : (¬ ((x3 + 1) < 0 ∨ L ≤ (x3 + 1).toNatClampNeg) ∧ ∃ (v1 : Int32) (I2 : Nat → Nat → Int32), Runs (GW L xs) d 127 (0, [.ref 0, .int (xs (x3 + 1).toNatClampNeg)], [], (zS I J tg)) ((some (.int v1)), (zS I2 J tg)) ∧ ¬ ((x3 + 1) < 0 ∨ L ≤ (x3 + 1).toNatClampNeg) ∧ ∃ (v3 : Int32) (I4 : Nat → Nat → Int32) (J5 : Nat → Nat → Int64), Runs (GW L xs) d 209 (0, [.ref 93, .int (xs (x3 + 1).toNatClampNeg)], [], (zS I2 J tg)) ((some (.int v3)), (zS I4 J5 tg)) ∧ (if v1 = v3 then (Runs (GW L xs) (d + 1) 302 (1912, [.retAddr 0, .ref 0, .ref 93, .int x3], [], (zS I4 J5 tg)) r) else (r = (some (.int 0), (zS I4 J5 tg)))))) : Runs (GW L xs) (d + 1) 302 (727, [.retAddr 0, .ref 0, .ref 93, .int x3], [], (zS I J tg)) r := by
  refine Runs.sN 5 (c' := (732, [.retAddr 0, .ref 0, .ref 93, .int x3], [.int (x3 + 1), .retAddr 0, .ref 0], (zS I J tg))) rfl ?_
  obtain ⟨c6, h⟩ := h
  refine Runs.to (c' := (733, [.retAddr 0, .ref 0, .ref 93, .int x3], [.int (xs (x3 + 1).toNatClampNeg), .ref 0], (zS I J tg))) (Runs.sld rfl (show (0 : Nat) < 2 by decide) c6) ?_
  obtain ⟨v1, I2, c7, h⟩ := h
  refine Runs.cl (cm := 127) (as := [.ref 0, .int (xs (x3 + 1).toNatClampNeg)]) (rest := []) (r1 := ((some (.int v1)), (zS I2 J tg))) rfl (Nat.le_of_ble_eq_true rfl) c7 ?_
  refine Runs.as (c' := (736, [.retAddr 0, .ref 0, .ref 93, .int x3], [.int v1], (zS I2 J tg))) rfl ?_
  refine Runs.sN 5 (c' := (741, [.retAddr 0, .ref 0, .ref 93, .int x3], [.int (x3 + 1), .retAddr 0, .ref 93, .int v1], (zS I2 J tg))) rfl ?_
  obtain ⟨c8, h⟩ := h
  refine Runs.to (c' := (742, [.retAddr 0, .ref 0, .ref 93, .int x3], [.int (xs (x3 + 1).toNatClampNeg), .ref 93, .int v1], (zS I2 J tg))) (Runs.sld rfl (show (0 : Nat) < 2 by decide) c8) ?_
  obtain ⟨v3, I4, J5, c9, h⟩ := h
  refine Runs.cl (cm := 209) (as := [.ref 93, .int (xs (x3 + 1).toNatClampNeg)]) (rest := [.int v1]) (r1 := ((some (.int v3)), (zS I4 J5 tg))) rfl (Nat.le_of_ble_eq_true rfl) c9 ?_
  refine Runs.as (c' := (745, [.retAddr 0, .ref 0, .ref 93, .int x3], [.int v3, .int v1], (zS I4 J5 tg))) rfl ?_
  by_cases c10 : v1 = v3
  · rw [if_pos c10] at h
    refine Runs.brT (P := v1 = v3) (a := 1912) (b := 748) (L := [.retAddr 0, .ref 0, .ref 93, .int x3]) (S := []) (z := (zS I4 J5 tg)) rfl c10 ?_
    exact h
  · rw [if_neg c10] at h
    refine Runs.brF (P := v1 = v3) (a := 1912) (b := 748) (L := [.retAddr 0, .ref 0, .ref 93, .int x3]) (S := []) (z := (zS I4 J5 tg)) rfl c10 ?_
    refine Runs.sN 1 (c' := (749, [.retAddr 0, .ref 0, .ref 93, .int x3], [.int 0], (zS I4 J5 tg))) rfl ?_
    subst h
    exact Runs.rt rfl
theorem sg_302_750 {L d : Nat} {xs : Nat → Int32} (I : Nat → Nat → Int32) (J : Nat → Nat → Int64) (tg : Option Nat) (x3 : Int32) {r : Option Value × SS} (h : (∃ (v1 : Int32) (I2 : Nat → Nat → Int32) (tg3 : Option Nat), Runs (GW L xs) d 128 (0, [.ref 0], [], (zS I J tg)) ((some (.int v1)), (zS I2 J tg3)) ∧ ∃ (v4 : Int32) (I5 : Nat → Nat → Int32) (J6 : Nat → Nat → Int64), Runs (GW L xs) d 233 (0, [.ref 93], [], (zS I2 J tg3)) ((some (.int v4)), (zS I5 J6 tg3)) ∧ (if v1 = v4 then (Runs (GW L xs) (d + 1) 302 (1912, [.retAddr 0, .ref 0, .ref 93, .int x3], [], (zS I5 J6 tg3)) r) else (r = (some (.int 0), (zS I5 J6 tg3)))))) : Runs (GW L xs) (d + 1) 302 (750, [.retAddr 0, .ref 0, .ref 93, .int x3], [], (zS I J tg)) r := by
  refine Runs.sN 1 (c' := (751, [.retAddr 0, .ref 0, .ref 93, .int x3], [.ref 0], (zS I J tg))) rfl ?_
  obtain ⟨v1, I2, tg3, c7, h⟩ := h
  refine Runs.cl (cm := 128) (as := [.ref 0]) (rest := []) (r1 := ((some (.int v1)), (zS I2 J tg3))) rfl (Nat.le_of_ble_eq_true rfl) c7 ?_
  refine Runs.as (c' := (754, [.retAddr 0, .ref 0, .ref 93, .int x3], [.int v1], (zS I2 J tg3))) rfl ?_
  refine Runs.sN 1 (c' := (755, [.retAddr 0, .ref 0, .ref 93, .int x3], [.ref 93, .int v1], (zS I2 J tg3))) rfl ?_
  obtain ⟨v4, I5, J6, c8, h⟩ := h
  refine Runs.cl (cm := 233) (as := [.ref 93]) (rest := [.int v1]) (r1 := ((some (.int v4)), (zS I5 J6 tg3))) rfl (Nat.le_of_ble_eq_true rfl) c8 ?_
  refine Runs.as (c' := (758, [.retAddr 0, .ref 0, .ref 93, .int x3], [.int v4, .int v1], (zS I5 J6 tg3))) rfl ?_
  by_cases c9 : v1 = v4
  · rw [if_pos c9] at h
    refine Runs.brT (P := v1 = v4) (a := 1912) (b := 761) (L := [.retAddr 0, .ref 0, .ref 93, .int x3]) (S := []) (z := (zS I5 J6 tg3)) rfl c9 ?_
    exact h
  · rw [if_neg c9] at h
    refine Runs.brF (P := v1 = v4) (a := 1912) (b := 761) (L := [.retAddr 0, .ref 0, .ref 93, .int x3]) (S := []) (z := (zS I5 J6 tg3)) rfl c9 ?_
    refine Runs.sN 1 (c' := (762, [.retAddr 0, .ref 0, .ref 93, .int x3], [.int 0], (zS I5 J6 tg3))) rfl ?_
    subst h
    exact Runs.rt rfl
theorem sg_302_763 {L d : Nat} {xs : Nat → Int32} (I : Nat → Nat → Int32) (J : Nat → Nat → Int64) (tg : Option Nat) (x3 : Int32) {r : Option Value × SS} (h : (¬ ((x3 + 1) < 0 ∨ L ≤ (x3 + 1).toNatClampNeg) ∧ ∃ (v1 : Int32) (I2 : Nat → Nat → Int32), Runs (GW L xs) d 129 (0, [.ref 0, .int (xs (x3 + 1).toNatClampNeg)], [], (zS I J tg)) ((some (.int v1)), (zS I2 J tg)) ∧ ¬ ((x3 + 1) < 0 ∨ L ≤ (x3 + 1).toNatClampNeg) ∧ ∃ (v3 : Int32) (I4 : Nat → Nat → Int32) (J5 : Nat → Nat → Int64), Runs (GW L xs) d 234 (0, [.ref 93, .int (xs (x3 + 1).toNatClampNeg)], [], (zS I2 J tg)) ((some (.int v3)), (zS I4 J5 tg)) ∧ (if v1 = v3 then (Runs (GW L xs) (d + 1) 302 (1912, [.retAddr 0, .ref 0, .ref 93, .int x3], [], (zS I4 J5 tg)) r) else (r = (some (.int 0), (zS I4 J5 tg)))))) : Runs (GW L xs) (d + 1) 302 (763, [.retAddr 0, .ref 0, .ref 93, .int x3], [], (zS I J tg)) r := by
  refine Runs.sN 5 (c' := (768, [.retAddr 0, .ref 0, .ref 93, .int x3], [.int (x3 + 1), .retAddr 0, .ref 0], (zS I J tg))) rfl ?_
  obtain ⟨c6, h⟩ := h
  refine Runs.to (c' := (769, [.retAddr 0, .ref 0, .ref 93, .int x3], [.int (xs (x3 + 1).toNatClampNeg), .ref 0], (zS I J tg))) (Runs.sld rfl (show (0 : Nat) < 2 by decide) c6) ?_
  obtain ⟨v1, I2, c7, h⟩ := h
  refine Runs.cl (cm := 129) (as := [.ref 0, .int (xs (x3 + 1).toNatClampNeg)]) (rest := []) (r1 := ((some (.int v1)), (zS I2 J tg))) rfl (Nat.le_of_ble_eq_true rfl) c7 ?_
  refine Runs.as (c' := (772, [.retAddr 0, .ref 0, .ref 93, .int x3], [.int v1], (zS I2 J tg))) rfl ?_
  refine Runs.sN 5 (c' := (777, [.retAddr 0, .ref 0, .ref 93, .int x3], [.int (x3 + 1), .retAddr 0, .ref 93, .int v1], (zS I2 J tg))) rfl ?_
  obtain ⟨c8, h⟩ := h
  refine Runs.to (c' := (778, [.retAddr 0, .ref 0, .ref 93, .int x3], [.int (xs (x3 + 1).toNatClampNeg), .ref 93, .int v1], (zS I2 J tg))) (Runs.sld rfl (show (0 : Nat) < 2 by decide) c8) ?_
  obtain ⟨v3, I4, J5, c9, h⟩ := h
  refine Runs.cl (cm := 234) (as := [.ref 93, .int (xs (x3 + 1).toNatClampNeg)]) (rest := [.int v1]) (r1 := ((some (.int v3)), (zS I4 J5 tg))) rfl (Nat.le_of_ble_eq_true rfl) c9 ?_
  refine Runs.as (c' := (781, [.retAddr 0, .ref 0, .ref 93, .int x3], [.int v3, .int v1], (zS I4 J5 tg))) rfl ?_
  by_cases c10 : v1 = v3
  · rw [if_pos c10] at h
    refine Runs.brT (P := v1 = v3) (a := 1912) (b := 784) (L := [.retAddr 0, .ref 0, .ref 93, .int x3]) (S := []) (z := (zS I4 J5 tg)) rfl c10 ?_
    exact h
  · rw [if_neg c10] at h
    refine Runs.brF (P := v1 = v3) (a := 1912) (b := 784) (L := [.retAddr 0, .ref 0, .ref 93, .int x3]) (S := []) (z := (zS I4 J5 tg)) rfl c10 ?_
    refine Runs.sN 1 (c' := (785, [.retAddr 0, .ref 0, .ref 93, .int x3], [.int 0], (zS I4 J5 tg))) rfl ?_
    subst h
    exact Runs.rt rfl
theorem sg_302_786 {L d : Nat} {xs : Nat → Int32} (I : Nat → Nat → Int32) (J : Nat → Nat → Int64) (tg : Option Nat) (x3 : Int32) {r : Option Value × SS} (h : (¬ ((x3 + 1) < 0 ∨ L ≤ (x3 + 1).toNatClampNeg) ∧ ∃ (v1 : Int32) (I2 : Nat → Nat → Int32), Runs (GW L xs) d 130 (0, [.ref 0, .int (xs (x3 + 1).toNatClampNeg)], [], (zS I J tg)) ((some (.int v1)), (zS I2 J tg)) ∧ ¬ ((x3 + 1) < 0 ∨ L ≤ (x3 + 1).toNatClampNeg) ∧ ∃ (v3 : Int32) (I4 : Nat → Nat → Int32) (J5 : Nat → Nat → Int64), Runs (GW L xs) d 235 (0, [.ref 93, .int (xs (x3 + 1).toNatClampNeg)], [], (zS I2 J tg)) ((some (.int v3)), (zS I4 J5 tg)) ∧ (if v1 = v3 then (Runs (GW L xs) (d + 1) 302 (1912, [.retAddr 0, .ref 0, .ref 93, .int x3], [], (zS I4 J5 tg)) r) else (r = (some (.int 0), (zS I4 J5 tg)))))) : Runs (GW L xs) (d + 1) 302 (786, [.retAddr 0, .ref 0, .ref 93, .int x3], [], (zS I J tg)) r := by
  refine Runs.sN 5 (c' := (791, [.retAddr 0, .ref 0, .ref 93, .int x3], [.int (x3 + 1), .retAddr 0, .ref 0], (zS I J tg))) rfl ?_
  obtain ⟨c6, h⟩ := h
  refine Runs.to (c' := (792, [.retAddr 0, .ref 0, .ref 93, .int x3], [.int (xs (x3 + 1).toNatClampNeg), .ref 0], (zS I J tg))) (Runs.sld rfl (show (0 : Nat) < 2 by decide) c6) ?_
  obtain ⟨v1, I2, c7, h⟩ := h
  refine Runs.cl (cm := 130) (as := [.ref 0, .int (xs (x3 + 1).toNatClampNeg)]) (rest := []) (r1 := ((some (.int v1)), (zS I2 J tg))) rfl (Nat.le_of_ble_eq_true rfl) c7 ?_
  refine Runs.as (c' := (795, [.retAddr 0, .ref 0, .ref 93, .int x3], [.int v1], (zS I2 J tg))) rfl ?_
  refine Runs.sN 5 (c' := (800, [.retAddr 0, .ref 0, .ref 93, .int x3], [.int (x3 + 1), .retAddr 0, .ref 93, .int v1], (zS I2 J tg))) rfl ?_
  obtain ⟨c8, h⟩ := h
  refine Runs.to (c' := (801, [.retAddr 0, .ref 0, .ref 93, .int x3], [.int (xs (x3 + 1).toNatClampNeg), .ref 93, .int v1], (zS I2 J tg))) (Runs.sld rfl (show (0 : Nat) < 2 by decide) c8) ?_
  obtain ⟨v3, I4, J5, c9, h⟩ := h
  refine Runs.cl (cm := 235) (as := [.ref 93, .int (xs (x3 + 1).toNatClampNeg)]) (rest := [.int v1]) (r1 := ((some (.int v3)), (zS I4 J5 tg))) rfl (Nat.le_of_ble_eq_true rfl) c9 ?_
  refine Runs.as (c' := (804, [.retAddr 0, .ref 0, .ref 93, .int x3], [.int v3, .int v1], (zS I4 J5 tg))) rfl ?_
  by_cases c10 : v1 = v3
  · rw [if_pos c10] at h
    refine Runs.brT (P := v1 = v3) (a := 1912) (b := 807) (L := [.retAddr 0, .ref 0, .ref 93, .int x3]) (S := []) (z := (zS I4 J5 tg)) rfl c10 ?_
    exact h
  · rw [if_neg c10] at h
    refine Runs.brF (P := v1 = v3) (a := 1912) (b := 807) (L := [.retAddr 0, .ref 0, .ref 93, .int x3]) (S := []) (z := (zS I4 J5 tg)) rfl c10 ?_
    refine Runs.sN 1 (c' := (808, [.retAddr 0, .ref 0, .ref 93, .int x3], [.int 0], (zS I4 J5 tg))) rfl ?_
    subst h
    exact Runs.rt rfl
theorem sg_302_809 {L d : Nat} {xs : Nat → Int32} (I : Nat → Nat → Int32) (J : Nat → Nat → Int64) (tg : Option Nat) (x3 : Int32) {r : Option Value × SS} (h : (¬ ((x3 + 1) < 0 ∨ L ≤ (x3 + 1).toNatClampNeg) ∧ ¬ ((x3 + 2) < 0 ∨ L ≤ (x3 + 2).toNatClampNeg) ∧ ¬ ((x3 + 3) < 0 ∨ L ≤ (x3 + 3).toNatClampNeg) ∧ ∃ (v1 : Int32) (I2 : Nat → Nat → Int32), Runs (GW L xs) d 131 (0, [.ref 0, .int (xs (x3 + 1).toNatClampNeg), .int (xs (x3 + 2).toNatClampNeg), .int (xs (x3 + 3).toNatClampNeg)], [], (zS I J tg)) ((some (.int v1)), (zS I2 J tg)) ∧ ¬ ((x3 + 1) < 0 ∨ L ≤ (x3 + 1).toNatClampNeg) ∧ ¬ ((x3 + 2) < 0 ∨ L ≤ (x3 + 2).toNatClampNeg) ∧ ¬ ((x3 + 3) < 0 ∨ L ≤ (x3 + 3).toNatClampNeg) ∧ ∃ (v3 : Int32) (I4 : Nat → Nat → Int32) (J5 : Nat → Nat → Int64), Runs (GW L xs) d 206 (0, [.ref 93, .int (xs (x3 + 1).toNatClampNeg), .int (xs (x3 + 2).toNatClampNeg), .int (xs (x3 + 3).toNatClampNeg)], [], (zS I2 J tg)) ((some (.int v3)), (zS I4 J5 tg)) ∧ (if v1 = v3 then (Runs (GW L xs) (d + 1) 302 (1912, [.retAddr 0, .ref 0, .ref 93, .int x3], [], (zS I4 J5 tg)) r) else (r = (some (.int 0), (zS I4 J5 tg)))))) : Runs (GW L xs) (d + 1) 302 (809, [.retAddr 0, .ref 0, .ref 93, .int x3], [], (zS I J tg)) r := by
  refine Runs.sN 5 (c' := (814, [.retAddr 0, .ref 0, .ref 93, .int x3], [.int (x3 + 1), .retAddr 0, .ref 0], (zS I J tg))) rfl ?_
  obtain ⟨c6, h⟩ := h
  refine Runs.to (c' := (815, [.retAddr 0, .ref 0, .ref 93, .int x3], [.int (xs (x3 + 1).toNatClampNeg), .ref 0], (zS I J tg))) (Runs.sld rfl (show (0 : Nat) < 2 by decide) c6) ?_
  refine Runs.sN 4 (c' := (819, [.retAddr 0, .ref 0, .ref 93, .int x3], [.int (x3 + 2), .retAddr 0, .int (xs (x3 + 1).toNatClampNeg), .ref 0], (zS I J tg))) rfl ?_
  obtain ⟨c7, h⟩ := h
  refine Runs.to (c' := (820, [.retAddr 0, .ref 0, .ref 93, .int x3], [.int (xs (x3 + 2).toNatClampNeg), .int (xs (x3 + 1).toNatClampNeg), .ref 0], (zS I J tg))) (Runs.sld rfl (show (0 : Nat) < 2 by decide) c7) ?_
  refine Runs.sN 4 (c' := (824, [.retAddr 0, .ref 0, .ref 93, .int x3], [.int (x3 + 3), .retAddr 0, .int (xs (x3 + 2).toNatClampNeg), .int (xs (x3 + 1).toNatClampNeg), .ref 0], (zS I J tg))) rfl ?_
  obtain ⟨c8, h⟩ := h
  refine Runs.to (c' := (825, [.retAddr 0, .ref 0, .ref 93, .int x3], [.int (xs (x3 + 3).toNatClampNeg), .int (xs (x3 + 2).toNatClampNeg), .int (xs (x3 + 1).toNatClampNeg), .ref 0], (zS I J tg))) (Runs.sld rfl (show (0 : Nat) < 2 by decide) c8) ?_
  obtain ⟨v1, I2, c9, h⟩ := h
  refine Runs.cl (cm := 131) (as := [.ref 0, .int (xs (x3 + 1).toNatClampNeg), .int (xs (x3 + 2).toNatClampNeg), .int (xs (x3 + 3).toNatClampNeg)]) (rest := []) (r1 := ((some (.int v1)), (zS I2 J tg))) rfl (Nat.le_of_ble_eq_true rfl) c9 ?_
  refine Runs.as (c' := (828, [.retAddr 0, .ref 0, .ref 93, .int x3], [.int v1], (zS I2 J tg))) rfl ?_
  refine Runs.sN 5 (c' := (833, [.retAddr 0, .ref 0, .ref 93, .int x3], [.int (x3 + 1), .retAddr 0, .ref 93, .int v1], (zS I2 J tg))) rfl ?_
  obtain ⟨c10, h⟩ := h
  refine Runs.to (c' := (834, [.retAddr 0, .ref 0, .ref 93, .int x3], [.int (xs (x3 + 1).toNatClampNeg), .ref 93, .int v1], (zS I2 J tg))) (Runs.sld rfl (show (0 : Nat) < 2 by decide) c10) ?_
  refine Runs.sN 4 (c' := (838, [.retAddr 0, .ref 0, .ref 93, .int x3], [.int (x3 + 2), .retAddr 0, .int (xs (x3 + 1).toNatClampNeg), .ref 93, .int v1], (zS I2 J tg))) rfl ?_
  obtain ⟨c11, h⟩ := h
  refine Runs.to (c' := (839, [.retAddr 0, .ref 0, .ref 93, .int x3], [.int (xs (x3 + 2).toNatClampNeg), .int (xs (x3 + 1).toNatClampNeg), .ref 93, .int v1], (zS I2 J tg))) (Runs.sld rfl (show (0 : Nat) < 2 by decide) c11) ?_
  refine Runs.sN 4 (c' := (843, [.retAddr 0, .ref 0, .ref 93, .int x3], [.int (x3 + 3), .retAddr 0, .int (xs (x3 + 2).toNatClampNeg), .int (xs (x3 + 1).toNatClampNeg), .ref 93, .int v1], (zS I2 J tg))) rfl ?_
  obtain ⟨c12, h⟩ := h
  refine Runs.to (c' := (844, [.retAddr 0, .ref 0, .ref 93, .int x3], [.int (xs (x3 + 3).toNatClampNeg), .int (xs (x3 + 2).toNatClampNeg), .int (xs (x3 + 1).toNatClampNeg), .ref 93, .int v1], (zS I2 J tg))) (Runs.sld rfl (show (0 : Nat) < 2 by decide) c12) ?_
  obtain ⟨v3, I4, J5, c13, h⟩ := h
  refine Runs.cl (cm := 206) (as := [.ref 93, .int (xs (x3 + 1).toNatClampNeg), .int (xs (x3 + 2).toNatClampNeg), .int (xs (x3 + 3).toNatClampNeg)]) (rest := [.int v1]) (r1 := ((some (.int v3)), (zS I4 J5 tg))) rfl (Nat.le_of_ble_eq_true rfl) c13 ?_
  refine Runs.as (c' := (847, [.retAddr 0, .ref 0, .ref 93, .int x3], [.int v3, .int v1], (zS I4 J5 tg))) rfl ?_
  by_cases c14 : v1 = v3
  · rw [if_pos c14] at h
    refine Runs.brT (P := v1 = v3) (a := 1912) (b := 850) (L := [.retAddr 0, .ref 0, .ref 93, .int x3]) (S := []) (z := (zS I4 J5 tg)) rfl c14 ?_
    exact h
  · rw [if_neg c14] at h
    refine Runs.brF (P := v1 = v3) (a := 1912) (b := 850) (L := [.retAddr 0, .ref 0, .ref 93, .int x3]) (S := []) (z := (zS I4 J5 tg)) rfl c14 ?_
    refine Runs.sN 1 (c' := (851, [.retAddr 0, .ref 0, .ref 93, .int x3], [.int 0], (zS I4 J5 tg))) rfl ?_
    subst h
    exact Runs.rt rfl
theorem sg_302_852 {L d : Nat} {xs : Nat → Int32} (I : Nat → Nat → Int32) (J : Nat → Nat → Int64) (tg : Option Nat) (x3 : Int32) {r : Option Value × SS} (h : (¬ ((x3 + 1) < 0 ∨ L ≤ (x3 + 1).toNatClampNeg) ∧ ¬ ((x3 + 2) < 0 ∨ L ≤ (x3 + 2).toNatClampNeg) ∧ ∃ (v1 : Int32) (I2 : Nat → Nat → Int32), Runs (GW L xs) d 132 (0, [.ref 0, .int (xs (x3 + 1).toNatClampNeg), .int (xs (x3 + 2).toNatClampNeg)], [], (zS I J tg)) ((some (.int v1)), (zS I2 J tg)) ∧ ¬ ((x3 + 1) < 0 ∨ L ≤ (x3 + 1).toNatClampNeg) ∧ ¬ ((x3 + 2) < 0 ∨ L ≤ (x3 + 2).toNatClampNeg) ∧ ∃ (v3 : Int32) (I4 : Nat → Nat → Int32) (J5 : Nat → Nat → Int64), Runs (GW L xs) d 244 (0, [.ref 93, .int (xs (x3 + 1).toNatClampNeg), .int (xs (x3 + 2).toNatClampNeg)], [], (zS I2 J tg)) ((some (.int v3)), (zS I4 J5 tg)) ∧ (if v1 = v3 then (Runs (GW L xs) (d + 1) 302 (1912, [.retAddr 0, .ref 0, .ref 93, .int x3], [], (zS I4 J5 tg)) r) else (r = (some (.int 0), (zS I4 J5 tg)))))) : Runs (GW L xs) (d + 1) 302 (852, [.retAddr 0, .ref 0, .ref 93, .int x3], [], (zS I J tg)) r := by
  refine Runs.sN 5 (c' := (857, [.retAddr 0, .ref 0, .ref 93, .int x3], [.int (x3 + 1), .retAddr 0, .ref 0], (zS I J tg))) rfl ?_
  obtain ⟨c6, h⟩ := h
  refine Runs.to (c' := (858, [.retAddr 0, .ref 0, .ref 93, .int x3], [.int (xs (x3 + 1).toNatClampNeg), .ref 0], (zS I J tg))) (Runs.sld rfl (show (0 : Nat) < 2 by decide) c6) ?_
  refine Runs.sN 4 (c' := (862, [.retAddr 0, .ref 0, .ref 93, .int x3], [.int (x3 + 2), .retAddr 0, .int (xs (x3 + 1).toNatClampNeg), .ref 0], (zS I J tg))) rfl ?_
  obtain ⟨c7, h⟩ := h
  refine Runs.to (c' := (863, [.retAddr 0, .ref 0, .ref 93, .int x3], [.int (xs (x3 + 2).toNatClampNeg), .int (xs (x3 + 1).toNatClampNeg), .ref 0], (zS I J tg))) (Runs.sld rfl (show (0 : Nat) < 2 by decide) c7) ?_
  obtain ⟨v1, I2, c8, h⟩ := h
  refine Runs.cl (cm := 132) (as := [.ref 0, .int (xs (x3 + 1).toNatClampNeg), .int (xs (x3 + 2).toNatClampNeg)]) (rest := []) (r1 := ((some (.int v1)), (zS I2 J tg))) rfl (Nat.le_of_ble_eq_true rfl) c8 ?_
  refine Runs.as (c' := (866, [.retAddr 0, .ref 0, .ref 93, .int x3], [.int v1], (zS I2 J tg))) rfl ?_
  refine Runs.sN 5 (c' := (871, [.retAddr 0, .ref 0, .ref 93, .int x3], [.int (x3 + 1), .retAddr 0, .ref 93, .int v1], (zS I2 J tg))) rfl ?_
  obtain ⟨c9, h⟩ := h
  refine Runs.to (c' := (872, [.retAddr 0, .ref 0, .ref 93, .int x3], [.int (xs (x3 + 1).toNatClampNeg), .ref 93, .int v1], (zS I2 J tg))) (Runs.sld rfl (show (0 : Nat) < 2 by decide) c9) ?_
  refine Runs.sN 4 (c' := (876, [.retAddr 0, .ref 0, .ref 93, .int x3], [.int (x3 + 2), .retAddr 0, .int (xs (x3 + 1).toNatClampNeg), .ref 93, .int v1], (zS I2 J tg))) rfl ?_
  obtain ⟨c10, h⟩ := h
  refine Runs.to (c' := (877, [.retAddr 0, .ref 0, .ref 93, .int x3], [.int (xs (x3 + 2).toNatClampNeg), .int (xs (x3 + 1).toNatClampNeg), .ref 93, .int v1], (zS I2 J tg))) (Runs.sld rfl (show (0 : Nat) < 2 by decide) c10) ?_
  obtain ⟨v3, I4, J5, c11, h⟩ := h
  refine Runs.cl (cm := 244) (as := [.ref 93, .int (xs (x3 + 1).toNatClampNeg), .int (xs (x3 + 2).toNatClampNeg)]) (rest := [.int v1]) (r1 := ((some (.int v3)), (zS I4 J5 tg))) rfl (Nat.le_of_ble_eq_true rfl) c11 ?_
  refine Runs.as (c' := (880, [.retAddr 0, .ref 0, .ref 93, .int x3], [.int v3, .int v1], (zS I4 J5 tg))) rfl ?_
  by_cases c12 : v1 = v3
  · rw [if_pos c12] at h
    refine Runs.brT (P := v1 = v3) (a := 1912) (b := 883) (L := [.retAddr 0, .ref 0, .ref 93, .int x3]) (S := []) (z := (zS I4 J5 tg)) rfl c12 ?_
    exact h
  · rw [if_neg c12] at h
    refine Runs.brF (P := v1 = v3) (a := 1912) (b := 883) (L := [.retAddr 0, .ref 0, .ref 93, .int x3]) (S := []) (z := (zS I4 J5 tg)) rfl c12 ?_
    refine Runs.sN 1 (c' := (884, [.retAddr 0, .ref 0, .ref 93, .int x3], [.int 0], (zS I4 J5 tg))) rfl ?_
    subst h
    exact Runs.rt rfl
theorem sg_302_885 {L d : Nat} {xs : Nat → Int32} (I : Nat → Nat → Int32) (J : Nat → Nat → Int64) (tg : Option Nat) (x3 : Int32) {r : Option Value × SS} (h : (¬ ((x3 + 1) < 0 ∨ L ≤ (x3 + 1).toNatClampNeg) ∧ ¬ ((x3 + 2) < 0 ∨ L ≤ (x3 + 2).toNatClampNeg) ∧ ¬ ((x3 + 3) < 0 ∨ L ≤ (x3 + 3).toNatClampNeg) ∧ ∃ (v1 : Int32) (I2 : Nat → Nat → Int32), Runs (GW L xs) d 133 (0, [.ref 0, .int (xs (x3 + 1).toNatClampNeg), .int (xs (x3 + 2).toNatClampNeg), .int (xs (x3 + 3).toNatClampNeg)], [], (zS I J tg)) ((some (.int v1)), (zS I2 J tg)) ∧ ¬ ((x3 + 1) < 0 ∨ L ≤ (x3 + 1).toNatClampNeg) ∧ ¬ ((x3 + 2) < 0 ∨ L ≤ (x3 + 2).toNatClampNeg) ∧ ¬ ((x3 + 3) < 0 ∨ L ≤ (x3 + 3).toNatClampNeg) ∧ ∃ (v3 : Int32) (I4 : Nat → Nat → Int32) (J5 : Nat → Nat → Int64), Runs (GW L xs) d 250 (0, [.ref 93, .int (xs (x3 + 1).toNatClampNeg), .int (xs (x3 + 2).toNatClampNeg), .int (xs (x3 + 3).toNatClampNeg)], [], (zS I2 J tg)) ((some (.int v3)), (zS I4 J5 tg)) ∧ (if v1 = v3 then (Runs (GW L xs) (d + 1) 302 (1912, [.retAddr 0, .ref 0, .ref 93, .int x3], [], (zS I4 J5 tg)) r) else (r = (some (.int 0), (zS I4 J5 tg)))))) : Runs (GW L xs) (d + 1) 302 (885, [.retAddr 0, .ref 0, .ref 93, .int x3], [], (zS I J tg)) r := by
  refine Runs.sN 5 (c' := (890, [.retAddr 0, .ref 0, .ref 93, .int x3], [.int (x3 + 1), .retAddr 0, .ref 0], (zS I J tg))) rfl ?_
  obtain ⟨c6, h⟩ := h
  refine Runs.to (c' := (891, [.retAddr 0, .ref 0, .ref 93, .int x3], [.int (xs (x3 + 1).toNatClampNeg), .ref 0], (zS I J tg))) (Runs.sld rfl (show (0 : Nat) < 2 by decide) c6) ?_
  refine Runs.sN 4 (c' := (895, [.retAddr 0, .ref 0, .ref 93, .int x3], [.int (x3 + 2), .retAddr 0, .int (xs (x3 + 1).toNatClampNeg), .ref 0], (zS I J tg))) rfl ?_
  obtain ⟨c7, h⟩ := h
  refine Runs.to (c' := (896, [.retAddr 0, .ref 0, .ref 93, .int x3], [.int (xs (x3 + 2).toNatClampNeg), .int (xs (x3 + 1).toNatClampNeg), .ref 0], (zS I J tg))) (Runs.sld rfl (show (0 : Nat) < 2 by decide) c7) ?_
  refine Runs.sN 4 (c' := (900, [.retAddr 0, .ref 0, .ref 93, .int x3], [.int (x3 + 3), .retAddr 0, .int (xs (x3 + 2).toNatClampNeg), .int (xs (x3 + 1).toNatClampNeg), .ref 0], (zS I J tg))) rfl ?_
  obtain ⟨c8, h⟩ := h
  refine Runs.to (c' := (901, [.retAddr 0, .ref 0, .ref 93, .int x3], [.int (xs (x3 + 3).toNatClampNeg), .int (xs (x3 + 2).toNatClampNeg), .int (xs (x3 + 1).toNatClampNeg), .ref 0], (zS I J tg))) (Runs.sld rfl (show (0 : Nat) < 2 by decide) c8) ?_
  obtain ⟨v1, I2, c9, h⟩ := h
  refine Runs.cl (cm := 133) (as := [.ref 0, .int (xs (x3 + 1).toNatClampNeg), .int (xs (x3 + 2).toNatClampNeg), .int (xs (x3 + 3).toNatClampNeg)]) (rest := []) (r1 := ((some (.int v1)), (zS I2 J tg))) rfl (Nat.le_of_ble_eq_true rfl) c9 ?_
  refine Runs.as (c' := (904, [.retAddr 0, .ref 0, .ref 93, .int x3], [.int v1], (zS I2 J tg))) rfl ?_
  refine Runs.sN 5 (c' := (909, [.retAddr 0, .ref 0, .ref 93, .int x3], [.int (x3 + 1), .retAddr 0, .ref 93, .int v1], (zS I2 J tg))) rfl ?_
  obtain ⟨c10, h⟩ := h
  refine Runs.to (c' := (910, [.retAddr 0, .ref 0, .ref 93, .int x3], [.int (xs (x3 + 1).toNatClampNeg), .ref 93, .int v1], (zS I2 J tg))) (Runs.sld rfl (show (0 : Nat) < 2 by decide) c10) ?_
  refine Runs.sN 4 (c' := (914, [.retAddr 0, .ref 0, .ref 93, .int x3], [.int (x3 + 2), .retAddr 0, .int (xs (x3 + 1).toNatClampNeg), .ref 93, .int v1], (zS I2 J tg))) rfl ?_
  obtain ⟨c11, h⟩ := h
  refine Runs.to (c' := (915, [.retAddr 0, .ref 0, .ref 93, .int x3], [.int (xs (x3 + 2).toNatClampNeg), .int (xs (x3 + 1).toNatClampNeg), .ref 93, .int v1], (zS I2 J tg))) (Runs.sld rfl (show (0 : Nat) < 2 by decide) c11) ?_
  refine Runs.sN 4 (c' := (919, [.retAddr 0, .ref 0, .ref 93, .int x3], [.int (x3 + 3), .retAddr 0, .int (xs (x3 + 2).toNatClampNeg), .int (xs (x3 + 1).toNatClampNeg), .ref 93, .int v1], (zS I2 J tg))) rfl ?_
  obtain ⟨c12, h⟩ := h
  refine Runs.to (c' := (920, [.retAddr 0, .ref 0, .ref 93, .int x3], [.int (xs (x3 + 3).toNatClampNeg), .int (xs (x3 + 2).toNatClampNeg), .int (xs (x3 + 1).toNatClampNeg), .ref 93, .int v1], (zS I2 J tg))) (Runs.sld rfl (show (0 : Nat) < 2 by decide) c12) ?_
  obtain ⟨v3, I4, J5, c13, h⟩ := h
  refine Runs.cl (cm := 250) (as := [.ref 93, .int (xs (x3 + 1).toNatClampNeg), .int (xs (x3 + 2).toNatClampNeg), .int (xs (x3 + 3).toNatClampNeg)]) (rest := [.int v1]) (r1 := ((some (.int v3)), (zS I4 J5 tg))) rfl (Nat.le_of_ble_eq_true rfl) c13 ?_
  refine Runs.as (c' := (923, [.retAddr 0, .ref 0, .ref 93, .int x3], [.int v3, .int v1], (zS I4 J5 tg))) rfl ?_
  by_cases c14 : v1 = v3
  · rw [if_pos c14] at h
    refine Runs.brT (P := v1 = v3) (a := 1912) (b := 926) (L := [.retAddr 0, .ref 0, .ref 93, .int x3]) (S := []) (z := (zS I4 J5 tg)) rfl c14 ?_
    exact h
  · rw [if_neg c14] at h
    refine Runs.brF (P := v1 = v3) (a := 1912) (b := 926) (L := [.retAddr 0, .ref 0, .ref 93, .int x3]) (S := []) (z := (zS I4 J5 tg)) rfl c14 ?_
    refine Runs.sN 1 (c' := (927, [.retAddr 0, .ref 0, .ref 93, .int x3], [.int 0], (zS I4 J5 tg))) rfl ?_
    subst h
    exact Runs.rt rfl
theorem sg_302_928 {L d : Nat} {xs : Nat → Int32} (I : Nat → Nat → Int32) (J : Nat → Nat → Int64) (tg : Option Nat) (x3 : Int32) {r : Option Value × SS} (h : (¬ ((x3 + 1) < 0 ∨ L ≤ (x3 + 1).toNatClampNeg) ∧ ¬ ((x3 + 2) < 0 ∨ L ≤ (x3 + 2).toNatClampNeg) ∧ ¬ ((x3 + 3) < 0 ∨ L ≤ (x3 + 3).toNatClampNeg) ∧ ∃ (v1 : Int32) (I2 : Nat → Nat → Int32), Runs (GW L xs) d 134 (0, [.ref 0, .int (xs (x3 + 1).toNatClampNeg), .int (xs (x3 + 2).toNatClampNeg), .int (xs (x3 + 3).toNatClampNeg)], [], (zS I J tg)) ((some (.int v1)), (zS I2 J tg)) ∧ ¬ ((x3 + 1) < 0 ∨ L ≤ (x3 + 1).toNatClampNeg) ∧ ¬ ((x3 + 2) < 0 ∨ L ≤ (x3 + 2).toNatClampNeg) ∧ ¬ ((x3 + 3) < 0 ∨ L ≤ (x3 + 3).toNatClampNeg) ∧ ∃ (v3 : Int32) (I4 : Nat → Nat → Int32) (J5 : Nat → Nat → Int64), Runs (GW L xs) d 251 (0, [.ref 93, .int (xs (x3 + 1).toNatClampNeg), .int (xs (x3 + 2).toNatClampNeg), .int (xs (x3 + 3).toNatClampNeg)], [], (zS I2 J tg)) ((some (.int v3)), (zS I4 J5 tg)) ∧ (if v1 = v3 then (Runs (GW L xs) (d + 1) 302 (1912, [.retAddr 0, .ref 0, .ref 93, .int x3], [], (zS I4 J5 tg)) r) else (r = (some (.int 0), (zS I4 J5 tg)))))) : Runs (GW L xs) (d + 1) 302 (928, [.retAddr 0, .ref 0, .ref 93, .int x3], [], (zS I J tg)) r := by
  refine Runs.sN 5 (c' := (933, [.retAddr 0, .ref 0, .ref 93, .int x3], [.int (x3 + 1), .retAddr 0, .ref 0], (zS I J tg))) rfl ?_
  obtain ⟨c6, h⟩ := h
  refine Runs.to (c' := (934, [.retAddr 0, .ref 0, .ref 93, .int x3], [.int (xs (x3 + 1).toNatClampNeg), .ref 0], (zS I J tg))) (Runs.sld rfl (show (0 : Nat) < 2 by decide) c6) ?_
  refine Runs.sN 4 (c' := (938, [.retAddr 0, .ref 0, .ref 93, .int x3], [.int (x3 + 2), .retAddr 0, .int (xs (x3 + 1).toNatClampNeg), .ref 0], (zS I J tg))) rfl ?_
  obtain ⟨c7, h⟩ := h
  refine Runs.to (c' := (939, [.retAddr 0, .ref 0, .ref 93, .int x3], [.int (xs (x3 + 2).toNatClampNeg), .int (xs (x3 + 1).toNatClampNeg), .ref 0], (zS I J tg))) (Runs.sld rfl (show (0 : Nat) < 2 by decide) c7) ?_
  refine Runs.sN 4 (c' := (943, [.retAddr 0, .ref 0, .ref 93, .int x3], [.int (x3 + 3), .retAddr 0, .int (xs (x3 + 2).toNatClampNeg), .int (xs (x3 + 1).toNatClampNeg), .ref 0], (zS I J tg))) rfl ?_
  obtain ⟨c8, h⟩ := h
  refine Runs.to (c' := (944, [.retAddr 0, .ref 0, .ref 93, .int x3], [.int (xs (x3 + 3).toNatClampNeg), .int (xs (x3 + 2).toNatClampNeg), .int (xs (x3 + 1).toNatClampNeg), .ref 0], (zS I J tg))) (Runs.sld rfl (show (0 : Nat) < 2 by decide) c8) ?_
  obtain ⟨v1, I2, c9, h⟩ := h
  refine Runs.cl (cm := 134) (as := [.ref 0, .int (xs (x3 + 1).toNatClampNeg), .int (xs (x3 + 2).toNatClampNeg), .int (xs (x3 + 3).toNatClampNeg)]) (rest := []) (r1 := ((some (.int v1)), (zS I2 J tg))) rfl (Nat.le_of_ble_eq_true rfl) c9 ?_
  refine Runs.as (c' := (947, [.retAddr 0, .ref 0, .ref 93, .int x3], [.int v1], (zS I2 J tg))) rfl ?_
  refine Runs.sN 5 (c' := (952, [.retAddr 0, .ref 0, .ref 93, .int x3], [.int (x3 + 1), .retAddr 0, .ref 93, .int v1], (zS I2 J tg))) rfl ?_
  obtain ⟨c10, h⟩ := h
  refine Runs.to (c' := (953, [.retAddr 0, .ref 0, .ref 93, .int x3], [.int (xs (x3 + 1).toNatClampNeg), .ref 93, .int v1], (zS I2 J tg))) (Runs.sld rfl (show (0 : Nat) < 2 by decide) c10) ?_
  refine Runs.sN 4 (c' := (957, [.retAddr 0, .ref 0, .ref 93, .int x3], [.int (x3 + 2), .retAddr 0, .int (xs (x3 + 1).toNatClampNeg), .ref 93, .int v1], (zS I2 J tg))) rfl ?_
  obtain ⟨c11, h⟩ := h
  refine Runs.to (c' := (958, [.retAddr 0, .ref 0, .ref 93, .int x3], [.int (xs (x3 + 2).toNatClampNeg), .int (xs (x3 + 1).toNatClampNeg), .ref 93, .int v1], (zS I2 J tg))) (Runs.sld rfl (show (0 : Nat) < 2 by decide) c11) ?_
  refine Runs.sN 4 (c' := (962, [.retAddr 0, .ref 0, .ref 93, .int x3], [.int (x3 + 3), .retAddr 0, .int (xs (x3 + 2).toNatClampNeg), .int (xs (x3 + 1).toNatClampNeg), .ref 93, .int v1], (zS I2 J tg))) rfl ?_
  obtain ⟨c12, h⟩ := h
  refine Runs.to (c' := (963, [.retAddr 0, .ref 0, .ref 93, .int x3], [.int (xs (x3 + 3).toNatClampNeg), .int (xs (x3 + 2).toNatClampNeg), .int (xs (x3 + 1).toNatClampNeg), .ref 93, .int v1], (zS I2 J tg))) (Runs.sld rfl (show (0 : Nat) < 2 by decide) c12) ?_
  obtain ⟨v3, I4, J5, c13, h⟩ := h
  refine Runs.cl (cm := 251) (as := [.ref 93, .int (xs (x3 + 1).toNatClampNeg), .int (xs (x3 + 2).toNatClampNeg), .int (xs (x3 + 3).toNatClampNeg)]) (rest := [.int v1]) (r1 := ((some (.int v3)), (zS I4 J5 tg))) rfl (Nat.le_of_ble_eq_true rfl) c13 ?_
  refine Runs.as (c' := (966, [.retAddr 0, .ref 0, .ref 93, .int x3], [.int v3, .int v1], (zS I4 J5 tg))) rfl ?_
  by_cases c14 : v1 = v3
  · rw [if_pos c14] at h
    refine Runs.brT (P := v1 = v3) (a := 1912) (b := 969) (L := [.retAddr 0, .ref 0, .ref 93, .int x3]) (S := []) (z := (zS I4 J5 tg)) rfl c14 ?_
    exact h
  · rw [if_neg c14] at h
    refine Runs.brF (P := v1 = v3) (a := 1912) (b := 969) (L := [.retAddr 0, .ref 0, .ref 93, .int x3]) (S := []) (z := (zS I4 J5 tg)) rfl c14 ?_
    refine Runs.sN 1 (c' := (970, [.retAddr 0, .ref 0, .ref 93, .int x3], [.int 0], (zS I4 J5 tg))) rfl ?_
    subst h
    exact Runs.rt rfl
theorem sg_302_971 {L d : Nat} {xs : Nat → Int32} (I : Nat → Nat → Int32) (J : Nat → Nat → Int64) (tg : Option Nat) (x3 : Int32) {r : Option Value × SS} (h : (¬ ((x3 + 1) < 0 ∨ L ≤ (x3 + 1).toNatClampNeg) ∧ ¬ ((x3 + 2) < 0 ∨ L ≤ (x3 + 2).toNatClampNeg) ∧ ¬ ((x3 + 3) < 0 ∨ L ≤ (x3 + 3).toNatClampNeg) ∧ ∃ (v1 : Int32) (I2 : Nat → Nat → Int32), Runs (GW L xs) d 135 (0, [.ref 0, .int (xs (x3 + 1).toNatClampNeg), .int (xs (x3 + 2).toNatClampNeg), .int (xs (x3 + 3).toNatClampNeg)], [], (zS I J tg)) ((some (.int v1)), (zS I2 J tg)) ∧ ¬ ((x3 + 1) < 0 ∨ L ≤ (x3 + 1).toNatClampNeg) ∧ ¬ ((x3 + 2) < 0 ∨ L ≤ (x3 + 2).toNatClampNeg) ∧ ¬ ((x3 + 3) < 0 ∨ L ≤ (x3 + 3).toNatClampNeg) ∧ ∃ (v3 : Int32) (I4 : Nat → Nat → Int32) (J5 : Nat → Nat → Int64), Runs (GW L xs) d 255 (0, [.ref 93, .int (xs (x3 + 1).toNatClampNeg), .int (xs (x3 + 2).toNatClampNeg), .int (xs (x3 + 3).toNatClampNeg)], [], (zS I2 J tg)) ((some (.int v3)), (zS I4 J5 tg)) ∧ (if v1 = v3 then (Runs (GW L xs) (d + 1) 302 (1912, [.retAddr 0, .ref 0, .ref 93, .int x3], [], (zS I4 J5 tg)) r) else (r = (some (.int 0), (zS I4 J5 tg)))))) : Runs (GW L xs) (d + 1) 302 (971, [.retAddr 0, .ref 0, .ref 93, .int x3], [], (zS I J tg)) r := by
  refine Runs.sN 5 (c' := (976, [.retAddr 0, .ref 0, .ref 93, .int x3], [.int (x3 + 1), .retAddr 0, .ref 0], (zS I J tg))) rfl ?_
  obtain ⟨c6, h⟩ := h
  refine Runs.to (c' := (977, [.retAddr 0, .ref 0, .ref 93, .int x3], [.int (xs (x3 + 1).toNatClampNeg), .ref 0], (zS I J tg))) (Runs.sld rfl (show (0 : Nat) < 2 by decide) c6) ?_
  refine Runs.sN 4 (c' := (981, [.retAddr 0, .ref 0, .ref 93, .int x3], [.int (x3 + 2), .retAddr 0, .int (xs (x3 + 1).toNatClampNeg), .ref 0], (zS I J tg))) rfl ?_
  obtain ⟨c7, h⟩ := h
  refine Runs.to (c' := (982, [.retAddr 0, .ref 0, .ref 93, .int x3], [.int (xs (x3 + 2).toNatClampNeg), .int (xs (x3 + 1).toNatClampNeg), .ref 0], (zS I J tg))) (Runs.sld rfl (show (0 : Nat) < 2 by decide) c7) ?_
  refine Runs.sN 4 (c' := (986, [.retAddr 0, .ref 0, .ref 93, .int x3], [.int (x3 + 3), .retAddr 0, .int (xs (x3 + 2).toNatClampNeg), .int (xs (x3 + 1).toNatClampNeg), .ref 0], (zS I J tg))) rfl ?_
  obtain ⟨c8, h⟩ := h
  refine Runs.to (c' := (987, [.retAddr 0, .ref 0, .ref 93, .int x3], [.int (xs (x3 + 3).toNatClampNeg), .int (xs (x3 + 2).toNatClampNeg), .int (xs (x3 + 1).toNatClampNeg), .ref 0], (zS I J tg))) (Runs.sld rfl (show (0 : Nat) < 2 by decide) c8) ?_
  obtain ⟨v1, I2, c9, h⟩ := h
  refine Runs.cl (cm := 135) (as := [.ref 0, .int (xs (x3 + 1).toNatClampNeg), .int (xs (x3 + 2).toNatClampNeg), .int (xs (x3 + 3).toNatClampNeg)]) (rest := []) (r1 := ((some (.int v1)), (zS I2 J tg))) rfl (Nat.le_of_ble_eq_true rfl) c9 ?_
  refine Runs.as (c' := (990, [.retAddr 0, .ref 0, .ref 93, .int x3], [.int v1], (zS I2 J tg))) rfl ?_
  refine Runs.sN 5 (c' := (995, [.retAddr 0, .ref 0, .ref 93, .int x3], [.int (x3 + 1), .retAddr 0, .ref 93, .int v1], (zS I2 J tg))) rfl ?_
  obtain ⟨c10, h⟩ := h
  refine Runs.to (c' := (996, [.retAddr 0, .ref 0, .ref 93, .int x3], [.int (xs (x3 + 1).toNatClampNeg), .ref 93, .int v1], (zS I2 J tg))) (Runs.sld rfl (show (0 : Nat) < 2 by decide) c10) ?_
  refine Runs.sN 4 (c' := (1000, [.retAddr 0, .ref 0, .ref 93, .int x3], [.int (x3 + 2), .retAddr 0, .int (xs (x3 + 1).toNatClampNeg), .ref 93, .int v1], (zS I2 J tg))) rfl ?_
  obtain ⟨c11, h⟩ := h
  refine Runs.to (c' := (1001, [.retAddr 0, .ref 0, .ref 93, .int x3], [.int (xs (x3 + 2).toNatClampNeg), .int (xs (x3 + 1).toNatClampNeg), .ref 93, .int v1], (zS I2 J tg))) (Runs.sld rfl (show (0 : Nat) < 2 by decide) c11) ?_
  refine Runs.sN 4 (c' := (1005, [.retAddr 0, .ref 0, .ref 93, .int x3], [.int (x3 + 3), .retAddr 0, .int (xs (x3 + 2).toNatClampNeg), .int (xs (x3 + 1).toNatClampNeg), .ref 93, .int v1], (zS I2 J tg))) rfl ?_
  obtain ⟨c12, h⟩ := h
  refine Runs.to (c' := (1006, [.retAddr 0, .ref 0, .ref 93, .int x3], [.int (xs (x3 + 3).toNatClampNeg), .int (xs (x3 + 2).toNatClampNeg), .int (xs (x3 + 1).toNatClampNeg), .ref 93, .int v1], (zS I2 J tg))) (Runs.sld rfl (show (0 : Nat) < 2 by decide) c12) ?_
  obtain ⟨v3, I4, J5, c13, h⟩ := h
  refine Runs.cl (cm := 255) (as := [.ref 93, .int (xs (x3 + 1).toNatClampNeg), .int (xs (x3 + 2).toNatClampNeg), .int (xs (x3 + 3).toNatClampNeg)]) (rest := [.int v1]) (r1 := ((some (.int v3)), (zS I4 J5 tg))) rfl (Nat.le_of_ble_eq_true rfl) c13 ?_
  refine Runs.as (c' := (1009, [.retAddr 0, .ref 0, .ref 93, .int x3], [.int v3, .int v1], (zS I4 J5 tg))) rfl ?_
  by_cases c14 : v1 = v3
  · rw [if_pos c14] at h
    refine Runs.brT (P := v1 = v3) (a := 1912) (b := 1012) (L := [.retAddr 0, .ref 0, .ref 93, .int x3]) (S := []) (z := (zS I4 J5 tg)) rfl c14 ?_
    exact h
  · rw [if_neg c14] at h
    refine Runs.brF (P := v1 = v3) (a := 1912) (b := 1012) (L := [.retAddr 0, .ref 0, .ref 93, .int x3]) (S := []) (z := (zS I4 J5 tg)) rfl c14 ?_
    refine Runs.sN 1 (c' := (1013, [.retAddr 0, .ref 0, .ref 93, .int x3], [.int 0], (zS I4 J5 tg))) rfl ?_
    subst h
    exact Runs.rt rfl
theorem sg_302_1014 {L d : Nat} {xs : Nat → Int32} (I : Nat → Nat → Int32) (J : Nat → Nat → Int64) (tg : Option Nat) (x3 : Int32) {r : Option Value × SS} (h : (¬ ((x3 + 1) < 0 ∨ L ≤ (x3 + 1).toNatClampNeg) ∧ ¬ ((x3 + 2) < 0 ∨ L ≤ (x3 + 2).toNatClampNeg) ∧ ¬ ((x3 + 3) < 0 ∨ L ≤ (x3 + 3).toNatClampNeg) ∧ ∃ (v1 : Int32) (I2 : Nat → Nat → Int32), Runs (GW L xs) d 136 (0, [.ref 0, .int (xs (x3 + 1).toNatClampNeg), .int (xs (x3 + 2).toNatClampNeg), .int (xs (x3 + 3).toNatClampNeg), vU], [], (zS I J tg)) ((some (.int v1)), (zS I2 J tg)) ∧ ¬ ((x3 + 1) < 0 ∨ L ≤ (x3 + 1).toNatClampNeg) ∧ ¬ ((x3 + 2) < 0 ∨ L ≤ (x3 + 2).toNatClampNeg) ∧ ¬ ((x3 + 3) < 0 ∨ L ≤ (x3 + 3).toNatClampNeg) ∧ ∃ (v3 : Int32) (I4 : Nat → Nat → Int32) (J5 : Nat → Nat → Int64), Runs (GW L xs) d 256 (0, [.ref 93, .int (xs (x3 + 1).toNatClampNeg), .int (xs (x3 + 2).toNatClampNeg), .int (xs (x3 + 3).toNatClampNeg), vU, vU], [], (zS I2 J tg)) ((some (.int v3)), (zS I4 J5 tg)) ∧ (if v1 = v3 then (Runs (GW L xs) (d + 1) 302 (1912, [.retAddr 0, .ref 0, .ref 93, .int x3], [], (zS I4 J5 tg)) r) else (r = (some (.int 0), (zS I4 J5 tg)))))) : Runs (GW L xs) (d + 1) 302 (1014, [.retAddr 0, .ref 0, .ref 93, .int x3], [], (zS I J tg)) r := by
  refine Runs.sN 5 (c' := (1019, [.retAddr 0, .ref 0, .ref 93, .int x3], [.int (x3 + 1), .retAddr 0, .ref 0], (zS I J tg))) rfl ?_
  obtain ⟨c6, h⟩ := h
  refine Runs.to (c' := (1020, [.retAddr 0, .ref 0, .ref 93, .int x3], [.int (xs (x3 + 1).toNatClampNeg), .ref 0], (zS I J tg))) (Runs.sld rfl (show (0 : Nat) < 2 by decide) c6) ?_
  refine Runs.sN 4 (c' := (1024, [.retAddr 0, .ref 0, .ref 93, .int x3], [.int (x3 + 2), .retAddr 0, .int (xs (x3 + 1).toNatClampNeg), .ref 0], (zS I J tg))) rfl ?_
  obtain ⟨c7, h⟩ := h
  refine Runs.to (c' := (1025, [.retAddr 0, .ref 0, .ref 93, .int x3], [.int (xs (x3 + 2).toNatClampNeg), .int (xs (x3 + 1).toNatClampNeg), .ref 0], (zS I J tg))) (Runs.sld rfl (show (0 : Nat) < 2 by decide) c7) ?_
  refine Runs.sN 4 (c' := (1029, [.retAddr 0, .ref 0, .ref 93, .int x3], [.int (x3 + 3), .retAddr 0, .int (xs (x3 + 2).toNatClampNeg), .int (xs (x3 + 1).toNatClampNeg), .ref 0], (zS I J tg))) rfl ?_
  obtain ⟨c8, h⟩ := h
  refine Runs.to (c' := (1030, [.retAddr 0, .ref 0, .ref 93, .int x3], [.int (xs (x3 + 3).toNatClampNeg), .int (xs (x3 + 2).toNatClampNeg), .int (xs (x3 + 1).toNatClampNeg), .ref 0], (zS I J tg))) (Runs.sld rfl (show (0 : Nat) < 2 by decide) c8) ?_
  obtain ⟨v1, I2, c9, h⟩ := h
  refine Runs.cl (cm := 136) (as := [.ref 0, .int (xs (x3 + 1).toNatClampNeg), .int (xs (x3 + 2).toNatClampNeg), .int (xs (x3 + 3).toNatClampNeg)]) (rest := []) (r1 := ((some (.int v1)), (zS I2 J tg))) rfl (Nat.le_of_ble_eq_true rfl) c9 ?_
  refine Runs.as (c' := (1033, [.retAddr 0, .ref 0, .ref 93, .int x3], [.int v1], (zS I2 J tg))) rfl ?_
  refine Runs.sN 5 (c' := (1038, [.retAddr 0, .ref 0, .ref 93, .int x3], [.int (x3 + 1), .retAddr 0, .ref 93, .int v1], (zS I2 J tg))) rfl ?_
  obtain ⟨c10, h⟩ := h
  refine Runs.to (c' := (1039, [.retAddr 0, .ref 0, .ref 93, .int x3], [.int (xs (x3 + 1).toNatClampNeg), .ref 93, .int v1], (zS I2 J tg))) (Runs.sld rfl (show (0 : Nat) < 2 by decide) c10) ?_
  refine Runs.sN 4 (c' := (1043, [.retAddr 0, .ref 0, .ref 93, .int x3], [.int (x3 + 2), .retAddr 0, .int (xs (x3 + 1).toNatClampNeg), .ref 93, .int v1], (zS I2 J tg))) rfl ?_
  obtain ⟨c11, h⟩ := h
  refine Runs.to (c' := (1044, [.retAddr 0, .ref 0, .ref 93, .int x3], [.int (xs (x3 + 2).toNatClampNeg), .int (xs (x3 + 1).toNatClampNeg), .ref 93, .int v1], (zS I2 J tg))) (Runs.sld rfl (show (0 : Nat) < 2 by decide) c11) ?_
  refine Runs.sN 4 (c' := (1048, [.retAddr 0, .ref 0, .ref 93, .int x3], [.int (x3 + 3), .retAddr 0, .int (xs (x3 + 2).toNatClampNeg), .int (xs (x3 + 1).toNatClampNeg), .ref 93, .int v1], (zS I2 J tg))) rfl ?_
  obtain ⟨c12, h⟩ := h
  refine Runs.to (c' := (1049, [.retAddr 0, .ref 0, .ref 93, .int x3], [.int (xs (x3 + 3).toNatClampNeg), .int (xs (x3 + 2).toNatClampNeg), .int (xs (x3 + 1).toNatClampNeg), .ref 93, .int v1], (zS I2 J tg))) (Runs.sld rfl (show (0 : Nat) < 2 by decide) c12) ?_
  obtain ⟨v3, I4, J5, c13, h⟩ := h
  refine Runs.cl (cm := 256) (as := [.ref 93, .int (xs (x3 + 1).toNatClampNeg), .int (xs (x3 + 2).toNatClampNeg), .int (xs (x3 + 3).toNatClampNeg)]) (rest := [.int v1]) (r1 := ((some (.int v3)), (zS I4 J5 tg))) rfl (Nat.le_of_ble_eq_true rfl) c13 ?_
  refine Runs.as (c' := (1052, [.retAddr 0, .ref 0, .ref 93, .int x3], [.int v3, .int v1], (zS I4 J5 tg))) rfl ?_
  by_cases c14 : v1 = v3
  · rw [if_pos c14] at h
    refine Runs.brT (P := v1 = v3) (a := 1912) (b := 1055) (L := [.retAddr 0, .ref 0, .ref 93, .int x3]) (S := []) (z := (zS I4 J5 tg)) rfl c14 ?_
    exact h
  · rw [if_neg c14] at h
    refine Runs.brF (P := v1 = v3) (a := 1912) (b := 1055) (L := [.retAddr 0, .ref 0, .ref 93, .int x3]) (S := []) (z := (zS I4 J5 tg)) rfl c14 ?_
    refine Runs.sN 1 (c' := (1056, [.retAddr 0, .ref 0, .ref 93, .int x3], [.int 0], (zS I4 J5 tg))) rfl ?_
    subst h
    exact Runs.rt rfl
theorem sg_302_1057 {L d : Nat} {xs : Nat → Int32} (I : Nat → Nat → Int32) (J : Nat → Nat → Int64) (tg : Option Nat) (x3 : Int32) {r : Option Value × SS} (h : (¬ ((x3 + 1) < 0 ∨ L ≤ (x3 + 1).toNatClampNeg) ∧ ¬ ((x3 + 2) < 0 ∨ L ≤ (x3 + 2).toNatClampNeg) ∧ ¬ ((x3 + 3) < 0 ∨ L ≤ (x3 + 3).toNatClampNeg) ∧ ∃ (v1 : Int32) (I2 : Nat → Nat → Int32), Runs (GW L xs) d 137 (0, [.ref 0, .int (xs (x3 + 1).toNatClampNeg), .int (xs (x3 + 2).toNatClampNeg), .int (xs (x3 + 3).toNatClampNeg)], [], (zS I J tg)) ((some (.int v1)), (zS I2 J tg)) ∧ ¬ ((x3 + 1) < 0 ∨ L ≤ (x3 + 1).toNatClampNeg) ∧ ¬ ((x3 + 2) < 0 ∨ L ≤ (x3 + 2).toNatClampNeg) ∧ ¬ ((x3 + 3) < 0 ∨ L ≤ (x3 + 3).toNatClampNeg) ∧ ∃ (v3 : Int32) (I4 : Nat → Nat → Int32) (J5 : Nat → Nat → Int64), Runs (GW L xs) d 259 (0, [.ref 93, .int (xs (x3 + 1).toNatClampNeg), .int (xs (x3 + 2).toNatClampNeg), .int (xs (x3 + 3).toNatClampNeg), vU, vU, vU, vU, vU], [], (zS I2 J tg)) ((some (.int v3)), (zS I4 J5 tg)) ∧ (if v1 = v3 then (Runs (GW L xs) (d + 1) 302 (1912, [.retAddr 0, .ref 0, .ref 93, .int x3], [], (zS I4 J5 tg)) r) else (r = (some (.int 0), (zS I4 J5 tg)))))) : Runs (GW L xs) (d + 1) 302 (1057, [.retAddr 0, .ref 0, .ref 93, .int x3], [], (zS I J tg)) r := by
  refine Runs.sN 5 (c' := (1062, [.retAddr 0, .ref 0, .ref 93, .int x3], [.int (x3 + 1), .retAddr 0, .ref 0], (zS I J tg))) rfl ?_
  obtain ⟨c6, h⟩ := h
  refine Runs.to (c' := (1063, [.retAddr 0, .ref 0, .ref 93, .int x3], [.int (xs (x3 + 1).toNatClampNeg), .ref 0], (zS I J tg))) (Runs.sld rfl (show (0 : Nat) < 2 by decide) c6) ?_
  refine Runs.sN 4 (c' := (1067, [.retAddr 0, .ref 0, .ref 93, .int x3], [.int (x3 + 2), .retAddr 0, .int (xs (x3 + 1).toNatClampNeg), .ref 0], (zS I J tg))) rfl ?_
  obtain ⟨c7, h⟩ := h
  refine Runs.to (c' := (1068, [.retAddr 0, .ref 0, .ref 93, .int x3], [.int (xs (x3 + 2).toNatClampNeg), .int (xs (x3 + 1).toNatClampNeg), .ref 0], (zS I J tg))) (Runs.sld rfl (show (0 : Nat) < 2 by decide) c7) ?_
  refine Runs.sN 4 (c' := (1072, [.retAddr 0, .ref 0, .ref 93, .int x3], [.int (x3 + 3), .retAddr 0, .int (xs (x3 + 2).toNatClampNeg), .int (xs (x3 + 1).toNatClampNeg), .ref 0], (zS I J tg))) rfl ?_
  obtain ⟨c8, h⟩ := h
  refine Runs.to (c' := (1073, [.retAddr 0, .ref 0, .ref 93, .int x3], [.int (xs (x3 + 3).toNatClampNeg), .int (xs (x3 + 2).toNatClampNeg), .int (xs (x3 + 1).toNatClampNeg), .ref 0], (zS I J tg))) (Runs.sld rfl (show (0 : Nat) < 2 by decide) c8) ?_
  obtain ⟨v1, I2, c9, h⟩ := h
  refine Runs.cl (cm := 137) (as := [.ref 0, .int (xs (x3 + 1).toNatClampNeg), .int (xs (x3 + 2).toNatClampNeg), .int (xs (x3 + 3).toNatClampNeg)]) (rest := []) (r1 := ((some (.int v1)), (zS I2 J tg))) rfl (Nat.le_of_ble_eq_true rfl) c9 ?_
  refine Runs.as (c' := (1076, [.retAddr 0, .ref 0, .ref 93, .int x3], [.int v1], (zS I2 J tg))) rfl ?_
  refine Runs.sN 5 (c' := (1081, [.retAddr 0, .ref 0, .ref 93, .int x3], [.int (x3 + 1), .retAddr 0, .ref 93, .int v1], (zS I2 J tg))) rfl ?_
  obtain ⟨c10, h⟩ := h
  refine Runs.to (c' := (1082, [.retAddr 0, .ref 0, .ref 93, .int x3], [.int (xs (x3 + 1).toNatClampNeg), .ref 93, .int v1], (zS I2 J tg))) (Runs.sld rfl (show (0 : Nat) < 2 by decide) c10) ?_
  refine Runs.sN 4 (c' := (1086, [.retAddr 0, .ref 0, .ref 93, .int x3], [.int (x3 + 2), .retAddr 0, .int (xs (x3 + 1).toNatClampNeg), .ref 93, .int v1], (zS I2 J tg))) rfl ?_
  obtain ⟨c11, h⟩ := h
  refine Runs.to (c' := (1087, [.retAddr 0, .ref 0, .ref 93, .int x3], [.int (xs (x3 + 2).toNatClampNeg), .int (xs (x3 + 1).toNatClampNeg), .ref 93, .int v1], (zS I2 J tg))) (Runs.sld rfl (show (0 : Nat) < 2 by decide) c11) ?_
  refine Runs.sN 4 (c' := (1091, [.retAddr 0, .ref 0, .ref 93, .int x3], [.int (x3 + 3), .retAddr 0, .int (xs (x3 + 2).toNatClampNeg), .int (xs (x3 + 1).toNatClampNeg), .ref 93, .int v1], (zS I2 J tg))) rfl ?_
  obtain ⟨c12, h⟩ := h
  refine Runs.to (c' := (1092, [.retAddr 0, .ref 0, .ref 93, .int x3], [.int (xs (x3 + 3).toNatClampNeg), .int (xs (x3 + 2).toNatClampNeg), .int (xs (x3 + 1).toNatClampNeg), .ref 93, .int v1], (zS I2 J tg))) (Runs.sld rfl (show (0 : Nat) < 2 by decide) c12) ?_
  obtain ⟨v3, I4, J5, c13, h⟩ := h
  refine Runs.cl (cm := 259) (as := [.ref 93, .int (xs (x3 + 1).toNatClampNeg), .int (xs (x3 + 2).toNatClampNeg), .int (xs (x3 + 3).toNatClampNeg)]) (rest := [.int v1]) (r1 := ((some (.int v3)), (zS I4 J5 tg))) rfl (Nat.le_of_ble_eq_true rfl) c13 ?_
  refine Runs.as (c' := (1095, [.retAddr 0, .ref 0, .ref 93, .int x3], [.int v3, .int v1], (zS I4 J5 tg))) rfl ?_
  by_cases c14 : v1 = v3
  · rw [if_pos c14] at h
    refine Runs.brT (P := v1 = v3) (a := 1912) (b := 1098) (L := [.retAddr 0, .ref 0, .ref 93, .int x3]) (S := []) (z := (zS I4 J5 tg)) rfl c14 ?_
    exact h
  · rw [if_neg c14] at h
    refine Runs.brF (P := v1 = v3) (a := 1912) (b := 1098) (L := [.retAddr 0, .ref 0, .ref 93, .int x3]) (S := []) (z := (zS I4 J5 tg)) rfl c14 ?_
    refine Runs.sN 1 (c' := (1099, [.retAddr 0, .ref 0, .ref 93, .int x3], [.int 0], (zS I4 J5 tg))) rfl ?_
    subst h
    exact Runs.rt rfl
theorem sg_302_1100 {L d : Nat} {xs : Nat → Int32} (I : Nat → Nat → Int32) (J : Nat → Nat → Int64) (tg : Option Nat) (x3 : Int32) {r : Option Value × SS} (h : (¬ ((x3 + 1) < 0 ∨ L ≤ (x3 + 1).toNatClampNeg) ∧ ¬ ((x3 + 2) < 0 ∨ L ≤ (x3 + 2).toNatClampNeg) ∧ ∃ (v1 : Int32) (I2 : Nat → Nat → Int32), Runs (GW L xs) d 138 (0, [.ref 0, .int (xs (x3 + 1).toNatClampNeg), .int (xs (x3 + 2).toNatClampNeg)], [], (zS I J tg)) ((some (.int v1)), (zS I2 J tg)) ∧ ¬ ((x3 + 1) < 0 ∨ L ≤ (x3 + 1).toNatClampNeg) ∧ ¬ ((x3 + 2) < 0 ∨ L ≤ (x3 + 2).toNatClampNeg) ∧ ∃ (v3 : Int32) (I4 : Nat → Nat → Int32) (J5 : Nat → Nat → Int64), Runs (GW L xs) d 261 (0, [.ref 93, .int (xs (x3 + 1).toNatClampNeg), .int (xs (x3 + 2).toNatClampNeg), vU, vU, vU, vU, vU, vU], [], (zS I2 J tg)) ((some (.int v3)), (zS I4 J5 tg)) ∧ (if v1 = v3 then (Runs (GW L xs) (d + 1) 302 (1912, [.retAddr 0, .ref 0, .ref 93, .int x3], [], (zS I4 J5 tg)) r) else (r = (some (.int 0), (zS I4 J5 tg)))))) : Runs (GW L xs) (d + 1) 302 (1100, [.retAddr 0, .ref 0, .ref 93, .int x3], [], (zS I J tg)) r := by
  refine Runs.sN 5 (c' := (1105, [.retAddr 0, .ref 0, .ref 93, .int x3], [.int (x3 + 1), .retAddr 0, .ref 0], (zS I J tg))) rfl ?_
  obtain ⟨c6, h⟩ := h
  refine Runs.to (c' := (1106, [.retAddr 0, .ref 0, .ref 93, .int x3], [.int (xs (x3 + 1).toNatClampNeg), .ref 0], (zS I J tg))) (Runs.sld rfl (show (0 : Nat) < 2 by decide) c6) ?_
  refine Runs.sN 4 (c' := (1110, [.retAddr 0, .ref 0, .ref 93, .int x3], [.int (x3 + 2), .retAddr 0, .int (xs (x3 + 1).toNatClampNeg), .ref 0], (zS I J tg))) rfl ?_
  obtain ⟨c7, h⟩ := h
  refine Runs.to (c' := (1111, [.retAddr 0, .ref 0, .ref 93, .int x3], [.int (xs (x3 + 2).toNatClampNeg), .int (xs (x3 + 1).toNatClampNeg), .ref 0], (zS I J tg))) (Runs.sld rfl (show (0 : Nat) < 2 by decide) c7) ?_
  obtain ⟨v1, I2, c8, h⟩ := h
  refine Runs.cl (cm := 138) (as := [.ref 0, .int (xs (x3 + 1).toNatClampNeg), .int (xs (x3 + 2).toNatClampNeg)]) (rest := []) (r1 := ((some (.int v1)), (zS I2 J tg))) rfl (Nat.le_of_ble_eq_true rfl) c8 ?_
  refine Runs.as (c' := (1114, [.retAddr 0, .ref 0, .ref 93, .int x3], [.int v1], (zS I2 J tg))) rfl ?_
  refine Runs.sN 5 (c' := (1119, [.retAddr 0, .ref 0, .ref 93, .int x3], [.int (x3 + 1), .retAddr 0, .ref 93, .int v1], (zS I2 J tg))) rfl ?_
  obtain ⟨c9, h⟩ := h
  refine Runs.to (c' := (1120, [.retAddr 0, .ref 0, .ref 93, .int x3], [.int (xs (x3 + 1).toNatClampNeg), .ref 93, .int v1], (zS I2 J tg))) (Runs.sld rfl (show (0 : Nat) < 2 by decide) c9) ?_
  refine Runs.sN 4 (c' := (1124, [.retAddr 0, .ref 0, .ref 93, .int x3], [.int (x3 + 2), .retAddr 0, .int (xs (x3 + 1).toNatClampNeg), .ref 93, .int v1], (zS I2 J tg))) rfl ?_
  obtain ⟨c10, h⟩ := h
  refine Runs.to (c' := (1125, [.retAddr 0, .ref 0, .ref 93, .int x3], [.int (xs (x3 + 2).toNatClampNeg), .int (xs (x3 + 1).toNatClampNeg), .ref 93, .int v1], (zS I2 J tg))) (Runs.sld rfl (show (0 : Nat) < 2 by decide) c10) ?_
  obtain ⟨v3, I4, J5, c11, h⟩ := h
  refine Runs.cl (cm := 261) (as := [.ref 93, .int (xs (x3 + 1).toNatClampNeg), .int (xs (x3 + 2).toNatClampNeg)]) (rest := [.int v1]) (r1 := ((some (.int v3)), (zS I4 J5 tg))) rfl (Nat.le_of_ble_eq_true rfl) c11 ?_
  refine Runs.as (c' := (1128, [.retAddr 0, .ref 0, .ref 93, .int x3], [.int v3, .int v1], (zS I4 J5 tg))) rfl ?_
  by_cases c12 : v1 = v3
  · rw [if_pos c12] at h
    refine Runs.brT (P := v1 = v3) (a := 1912) (b := 1131) (L := [.retAddr 0, .ref 0, .ref 93, .int x3]) (S := []) (z := (zS I4 J5 tg)) rfl c12 ?_
    exact h
  · rw [if_neg c12] at h
    refine Runs.brF (P := v1 = v3) (a := 1912) (b := 1131) (L := [.retAddr 0, .ref 0, .ref 93, .int x3]) (S := []) (z := (zS I4 J5 tg)) rfl c12 ?_
    refine Runs.sN 1 (c' := (1132, [.retAddr 0, .ref 0, .ref 93, .int x3], [.int 0], (zS I4 J5 tg))) rfl ?_
    subst h
    exact Runs.rt rfl
theorem sg_302_1133 {L d : Nat} {xs : Nat → Int32} (I : Nat → Nat → Int32) (J : Nat → Nat → Int64) (tg : Option Nat) (x3 : Int32) {r : Option Value × SS} (h : (¬ ((x3 + 1) < 0 ∨ L ≤ (x3 + 1).toNatClampNeg) ∧ ¬ ((x3 + 2) < 0 ∨ L ≤ (x3 + 2).toNatClampNeg) ∧ ∃ (v1 : Int32) (I2 : Nat → Nat → Int32), Runs (GW L xs) d 139 (0, [.ref 0, .int (xs (x3 + 1).toNatClampNeg), .int (xs (x3 + 2).toNatClampNeg), vU], [], (zS I J tg)) ((some (.int v1)), (zS I2 J tg)) ∧ ¬ ((x3 + 1) < 0 ∨ L ≤ (x3 + 1).toNatClampNeg) ∧ ¬ ((x3 + 2) < 0 ∨ L ≤ (x3 + 2).toNatClampNeg) ∧ ∃ (v3 : Int32) (I4 : Nat → Nat → Int32) (J5 : Nat → Nat → Int64), Runs (GW L xs) d 262 (0, [.ref 93, .int (xs (x3 + 1).toNatClampNeg), .int (xs (x3 + 2).toNatClampNeg), vU], [], (zS I2 J tg)) ((some (.int v3)), (zS I4 J5 tg)) ∧ (if v1 = v3 then (Runs (GW L xs) (d + 1) 302 (1912, [.retAddr 0, .ref 0, .ref 93, .int x3], [], (zS I4 J5 tg)) r) else (r = (some (.int 0), (zS I4 J5 tg)))))) : Runs (GW L xs) (d + 1) 302 (1133, [.retAddr 0, .ref 0, .ref 93, .int x3], [], (zS I J tg)) r := by
  refine Runs.sN 5 (c' := (1138, [.retAddr 0, .ref 0, .ref 93, .int x3], [.int (x3 + 1), .retAddr 0, .ref 0], (zS I J tg))) rfl ?_
  obtain ⟨c6, h⟩ := h
  refine Runs.to (c' := (1139, [.retAddr 0, .ref 0, .ref 93, .int x3], [.int (xs (x3 + 1).toNatClampNeg), .ref 0], (zS I J tg))) (Runs.sld rfl (show (0 : Nat) < 2 by decide) c6) ?_
  refine Runs.sN 4 (c' := (1143, [.retAddr 0, .ref 0, .ref 93, .int x3], [.int (x3 + 2), .retAddr 0, .int (xs (x3 + 1).toNatClampNeg), .ref 0], (zS I J tg))) rfl ?_
  obtain ⟨c7, h⟩ := h
  refine Runs.to (c' := (1144, [.retAddr 0, .ref 0, .ref 93, .int x3], [.int (xs (x3 + 2).toNatClampNeg), .int (xs (x3 + 1).toNatClampNeg), .ref 0], (zS I J tg))) (Runs.sld rfl (show (0 : Nat) < 2 by decide) c7) ?_
  obtain ⟨v1, I2, c8, h⟩ := h
  refine Runs.cl (cm := 139) (as := [.ref 0, .int (xs (x3 + 1).toNatClampNeg), .int (xs (x3 + 2).toNatClampNeg)]) (rest := []) (r1 := ((some (.int v1)), (zS I2 J tg))) rfl (Nat.le_of_ble_eq_true rfl) c8 ?_
  refine Runs.as (c' := (1147, [.retAddr 0, .ref 0, .ref 93, .int x3], [.int v1], (zS I2 J tg))) rfl ?_
  refine Runs.sN 5 (c' := (1152, [.retAddr 0, .ref 0, .ref 93, .int x3], [.int (x3 + 1), .retAddr 0, .ref 93, .int v1], (zS I2 J tg))) rfl ?_
  obtain ⟨c9, h⟩ := h
  refine Runs.to (c' := (1153, [.retAddr 0, .ref 0, .ref 93, .int x3], [.int (xs (x3 + 1).toNatClampNeg), .ref 93, .int v1], (zS I2 J tg))) (Runs.sld rfl (show (0 : Nat) < 2 by decide) c9) ?_
  refine Runs.sN 4 (c' := (1157, [.retAddr 0, .ref 0, .ref 93, .int x3], [.int (x3 + 2), .retAddr 0, .int (xs (x3 + 1).toNatClampNeg), .ref 93, .int v1], (zS I2 J tg))) rfl ?_
  obtain ⟨c10, h⟩ := h
  refine Runs.to (c' := (1158, [.retAddr 0, .ref 0, .ref 93, .int x3], [.int (xs (x3 + 2).toNatClampNeg), .int (xs (x3 + 1).toNatClampNeg), .ref 93, .int v1], (zS I2 J tg))) (Runs.sld rfl (show (0 : Nat) < 2 by decide) c10) ?_
  obtain ⟨v3, I4, J5, c11, h⟩ := h
  refine Runs.cl (cm := 262) (as := [.ref 93, .int (xs (x3 + 1).toNatClampNeg), .int (xs (x3 + 2).toNatClampNeg)]) (rest := [.int v1]) (r1 := ((some (.int v3)), (zS I4 J5 tg))) rfl (Nat.le_of_ble_eq_true rfl) c11 ?_
  refine Runs.as (c' := (1161, [.retAddr 0, .ref 0, .ref 93, .int x3], [.int v3, .int v1], (zS I4 J5 tg))) rfl ?_
  by_cases c12 : v1 = v3
  · rw [if_pos c12] at h
    refine Runs.brT (P := v1 = v3) (a := 1912) (b := 1164) (L := [.retAddr 0, .ref 0, .ref 93, .int x3]) (S := []) (z := (zS I4 J5 tg)) rfl c12 ?_
    exact h
  · rw [if_neg c12] at h
    refine Runs.brF (P := v1 = v3) (a := 1912) (b := 1164) (L := [.retAddr 0, .ref 0, .ref 93, .int x3]) (S := []) (z := (zS I4 J5 tg)) rfl c12 ?_
    refine Runs.sN 1 (c' := (1165, [.retAddr 0, .ref 0, .ref 93, .int x3], [.int 0], (zS I4 J5 tg))) rfl ?_
    subst h
    exact Runs.rt rfl
theorem sg_302_1166 {L d : Nat} {xs : Nat → Int32} (I : Nat → Nat → Int32) (J : Nat → Nat → Int64) (tg : Option Nat) (x3 : Int32) {r : Option Value × SS} (h : (¬ ((x3 + 1) < 0 ∨ L ≤ (x3 + 1).toNatClampNeg) ∧ ∃ (v1 : Int32) (I2 : Nat → Nat → Int32), Runs (GW L xs) d 140 (0, [.ref 0, .int (xs (x3 + 1).toNatClampNeg)], [], (zS I J tg)) ((some (.int v1)), (zS I2 J tg)) ∧ ¬ ((x3 + 1) < 0 ∨ L ≤ (x3 + 1).toNatClampNeg) ∧ ∃ (v3 : Int32) (I4 : Nat → Nat → Int32) (J5 : Nat → Nat → Int64), Runs (GW L xs) d 267 (0, [.ref 93, .int (xs (x3 + 1).toNatClampNeg)], [], (zS I2 J tg)) ((some (.int v3)), (zS I4 J5 tg)) ∧ (if v1 = v3 then (Runs (GW L xs) (d + 1) 302 (1912, [.retAddr 0, .ref 0, .ref 93, .int x3], [], (zS I4 J5 tg)) r) else (r = (some (.int 0), (zS I4 J5 tg)))))) : Runs (GW L xs) (d + 1) 302 (1166, [.retAddr 0, .ref 0, .ref 93, .int x3], [], (zS I J tg)) r := by
  refine Runs.sN 5 (c' := (1171, [.retAddr 0, .ref 0, .ref 93, .int x3], [.int (x3 + 1), .retAddr 0, .ref 0], (zS I J tg))) rfl ?_
  obtain ⟨c6, h⟩ := h
  refine Runs.to (c' := (1172, [.retAddr 0, .ref 0, .ref 93, .int x3], [.int (xs (x3 + 1).toNatClampNeg), .ref 0], (zS I J tg))) (Runs.sld rfl (show (0 : Nat) < 2 by decide) c6) ?_
  obtain ⟨v1, I2, c7, h⟩ := h
  refine Runs.cl (cm := 140) (as := [.ref 0, .int (xs (x3 + 1).toNatClampNeg)]) (rest := []) (r1 := ((some (.int v1)), (zS I2 J tg))) rfl (Nat.le_of_ble_eq_true rfl) c7 ?_
  refine Runs.as (c' := (1175, [.retAddr 0, .ref 0, .ref 93, .int x3], [.int v1], (zS I2 J tg))) rfl ?_
  refine Runs.sN 5 (c' := (1180, [.retAddr 0, .ref 0, .ref 93, .int x3], [.int (x3 + 1), .retAddr 0, .ref 93, .int v1], (zS I2 J tg))) rfl ?_
  obtain ⟨c8, h⟩ := h
  refine Runs.to (c' := (1181, [.retAddr 0, .ref 0, .ref 93, .int x3], [.int (xs (x3 + 1).toNatClampNeg), .ref 93, .int v1], (zS I2 J tg))) (Runs.sld rfl (show (0 : Nat) < 2 by decide) c8) ?_
  obtain ⟨v3, I4, J5, c9, h⟩ := h
  refine Runs.cl (cm := 267) (as := [.ref 93, .int (xs (x3 + 1).toNatClampNeg)]) (rest := [.int v1]) (r1 := ((some (.int v3)), (zS I4 J5 tg))) rfl (Nat.le_of_ble_eq_true rfl) c9 ?_
  refine Runs.as (c' := (1184, [.retAddr 0, .ref 0, .ref 93, .int x3], [.int v3, .int v1], (zS I4 J5 tg))) rfl ?_
  by_cases c10 : v1 = v3
  · rw [if_pos c10] at h
    refine Runs.brT (P := v1 = v3) (a := 1912) (b := 1187) (L := [.retAddr 0, .ref 0, .ref 93, .int x3]) (S := []) (z := (zS I4 J5 tg)) rfl c10 ?_
    exact h
  · rw [if_neg c10] at h
    refine Runs.brF (P := v1 = v3) (a := 1912) (b := 1187) (L := [.retAddr 0, .ref 0, .ref 93, .int x3]) (S := []) (z := (zS I4 J5 tg)) rfl c10 ?_
    refine Runs.sN 1 (c' := (1188, [.retAddr 0, .ref 0, .ref 93, .int x3], [.int 0], (zS I4 J5 tg))) rfl ?_
    subst h
    exact Runs.rt rfl
theorem sg_302_1189 {L d : Nat} {xs : Nat → Int32} (I : Nat → Nat → Int32) (J : Nat → Nat → Int64) (tg : Option Nat) (x3 : Int32) {r : Option Value × SS} (h : (¬ ((x3 + 1) < 0 ∨ L ≤ (x3 + 1).toNatClampNeg) ∧ ∃ (v1 : Int32) (I2 : Nat → Nat → Int32), Runs (GW L xs) d 141 (0, [.ref 0, .int (xs (x3 + 1).toNatClampNeg)], [], (zS I J tg)) ((some (.int v1)), (zS I2 J tg)) ∧ ¬ ((x3 + 1) < 0 ∨ L ≤ (x3 + 1).toNatClampNeg) ∧ ∃ (v3 : Int32) (I4 : Nat → Nat → Int32) (J5 : Nat → Nat → Int64), Runs (GW L xs) d 268 (0, [.ref 93, .int (xs (x3 + 1).toNatClampNeg), vU], [], (zS I2 J tg)) ((some (.int v3)), (zS I4 J5 tg)) ∧ (if v1 = v3 then (Runs (GW L xs) (d + 1) 302 (1912, [.retAddr 0, .ref 0, .ref 93, .int x3], [], (zS I4 J5 tg)) r) else (r = (some (.int 0), (zS I4 J5 tg)))))) : Runs (GW L xs) (d + 1) 302 (1189, [.retAddr 0, .ref 0, .ref 93, .int x3], [], (zS I J tg)) r := by
  refine Runs.sN 5 (c' := (1194, [.retAddr 0, .ref 0, .ref 93, .int x3], [.int (x3 + 1), .retAddr 0, .ref 0], (zS I J tg))) rfl ?_
  obtain ⟨c6, h⟩ := h
  refine Runs.to (c' := (1195, [.retAddr 0, .ref 0, .ref 93, .int x3], [.int (xs (x3 + 1).toNatClampNeg), .ref 0], (zS I J tg))) (Runs.sld rfl (show (0 : Nat) < 2 by decide) c6) ?_
  obtain ⟨v1, I2, c7, h⟩ := h
  refine Runs.cl (cm := 141) (as := [.ref 0, .int (xs (x3 + 1).toNatClampNeg)]) (rest := []) (r1 := ((some (.int v1)), (zS I2 J tg))) rfl (Nat.le_of_ble_eq_true rfl) c7 ?_
  refine Runs.as (c' := (1198, [.retAddr 0, .ref 0, .ref 93, .int x3], [.int v1], (zS I2 J tg))) rfl ?_
  refine Runs.sN 5 (c' := (1203, [.retAddr 0, .ref 0, .ref 93, .int x3], [.int (x3 + 1), .retAddr 0, .ref 93, .int v1], (zS I2 J tg))) rfl ?_
  obtain ⟨c8, h⟩ := h
  refine Runs.to (c' := (1204, [.retAddr 0, .ref 0, .ref 93, .int x3], [.int (xs (x3 + 1).toNatClampNeg), .ref 93, .int v1], (zS I2 J tg))) (Runs.sld rfl (show (0 : Nat) < 2 by decide) c8) ?_
  obtain ⟨v3, I4, J5, c9, h⟩ := h
  refine Runs.cl (cm := 268) (as := [.ref 93, .int (xs (x3 + 1).toNatClampNeg)]) (rest := [.int v1]) (r1 := ((some (.int v3)), (zS I4 J5 tg))) rfl (Nat.le_of_ble_eq_true rfl) c9 ?_
  refine Runs.as (c' := (1207, [.retAddr 0, .ref 0, .ref 93, .int x3], [.int v3, .int v1], (zS I4 J5 tg))) rfl ?_
  by_cases c10 : v1 = v3
  · rw [if_pos c10] at h
    refine Runs.brT (P := v1 = v3) (a := 1912) (b := 1210) (L := [.retAddr 0, .ref 0, .ref 93, .int x3]) (S := []) (z := (zS I4 J5 tg)) rfl c10 ?_
    exact h
  · rw [if_neg c10] at h
    refine Runs.brF (P := v1 = v3) (a := 1912) (b := 1210) (L := [.retAddr 0, .ref 0, .ref 93, .int x3]) (S := []) (z := (zS I4 J5 tg)) rfl c10 ?_
    refine Runs.sN 1 (c' := (1211, [.retAddr 0, .ref 0, .ref 93, .int x3], [.int 0], (zS I4 J5 tg))) rfl ?_
    subst h
    exact Runs.rt rfl
theorem sg_302_1212 {L d : Nat} {xs : Nat → Int32} (I : Nat → Nat → Int32) (J : Nat → Nat → Int64) (tg : Option Nat) (x3 : Int32) {r : Option Value × SS} (h : (¬ ((x3 + 1) < 0 ∨ L ≤ (x3 + 1).toNatClampNeg) ∧ ¬ ((x3 + 2) < 0 ∨ L ≤ (x3 + 2).toNatClampNeg) ∧ ∃ (v1 : Int32) (I2 : Nat → Nat → Int32), Runs (GW L xs) d 142 (0, [.ref 0, .int (xs (x3 + 1).toNatClampNeg), .int (xs (x3 + 2).toNatClampNeg)], [], (zS I J tg)) ((some (.int v1)), (zS I2 J tg)) ∧ ¬ ((x3 + 1) < 0 ∨ L ≤ (x3 + 1).toNatClampNeg) ∧ ¬ ((x3 + 2) < 0 ∨ L ≤ (x3 + 2).toNatClampNeg) ∧ ∃ (v3 : Int32) (I4 : Nat → Nat → Int32) (J5 : Nat → Nat → Int64), Runs (GW L xs) d 269 (0, [.ref 93, .int (xs (x3 + 1).toNatClampNeg), .int (xs (x3 + 2).toNatClampNeg)], [], (zS I2 J tg)) ((some (.int v3)), (zS I4 J5 tg)) ∧ (if v1 = v3 then (Runs (GW L xs) (d + 1) 302 (1912, [.retAddr 0, .ref 0, .ref 93, .int x3], [], (zS I4 J5 tg)) r) else (r = (some (.int 0), (zS I4 J5 tg)))))) : Runs (GW L xs) (d + 1) 302 (1212, [.retAddr 0, .ref 0, .ref 93, .int x3], [], (zS I J tg)) r := by
  refine Runs.sN 5 (c' := (1217, [.retAddr 0, .ref 0, .ref 93, .int x3], [.int (x3 + 1), .retAddr 0, .ref 0], (zS I J tg))) rfl ?_
  obtain ⟨c6, h⟩ := h
  refine Runs.to (c' := (1218, [.retAddr 0, .ref 0, .ref 93, .int x3], [.int (xs (x3 + 1).toNatClampNeg), .ref 0], (zS I J tg))) (Runs.sld rfl (show (0 : Nat) < 2 by decide) c6) ?_
  refine Runs.sN 4 (c' := (1222, [.retAddr 0, .ref 0, .ref 93, .int x3], [.int (x3 + 2), .retAddr 0, .int (xs (x3 + 1).toNatClampNeg), .ref 0], (zS I J tg))) rfl ?_
  obtain ⟨c7, h⟩ := h
  refine Runs.to (c' := (1223, [.retAddr 0, .ref 0, .ref 93, .int x3], [.int (xs (x3 + 2).toNatClampNeg), .int (xs (x3 + 1).toNatClampNeg), .ref 0], (zS I J tg))) (Runs.sld rfl (show (0 : Nat) < 2 by decide) c7) ?_
  obtain ⟨v1, I2, c8, h⟩ := h
  refine Runs.cl (cm := 142) (as := [.ref 0, .int (xs (x3 + 1).toNatClampNeg), .int (xs (x3 + 2).toNatClampNeg)]) (rest := []) (r1 := ((some (.int v1)), (zS I2 J tg))) rfl (Nat.le_of_ble_eq_true rfl) c8 ?_
  refine Runs.as (c' := (1226, [.retAddr 0, .ref 0, .ref 93, .int x3], [.int v1], (zS I2 J tg))) rfl ?_
  refine Runs.sN 5 (c' := (1231, [.retAddr 0, .ref 0, .ref 93, .int x3], [.int (x3 + 1), .retAddr 0, .ref 93, .int v1], (zS I2 J tg))) rfl ?_
  obtain ⟨c9, h⟩ := h
  refine Runs.to (c' := (1232, [.retAddr 0, .ref 0, .ref 93, .int x3], [.int (xs (x3 + 1).toNatClampNeg), .ref 93, .int v1], (zS I2 J tg))) (Runs.sld rfl (show (0 : Nat) < 2 by decide) c9) ?_
  refine Runs.sN 4 (c' := (1236, [.retAddr 0, .ref 0, .ref 93, .int x3], [.int (x3 + 2), .retAddr 0, .int (xs (x3 + 1).toNatClampNeg), .ref 93, .int v1], (zS I2 J tg))) rfl ?_
  obtain ⟨c10, h⟩ := h
  refine Runs.to (c' := (1237, [.retAddr 0, .ref 0, .ref 93, .int x3], [.int (xs (x3 + 2).toNatClampNeg), .int (xs (x3 + 1).toNatClampNeg), .ref 93, .int v1], (zS I2 J tg))) (Runs.sld rfl (show (0 : Nat) < 2 by decide) c10) ?_
  obtain ⟨v3, I4, J5, c11, h⟩ := h
  refine Runs.cl (cm := 269) (as := [.ref 93, .int (xs (x3 + 1).toNatClampNeg), .int (xs (x3 + 2).toNatClampNeg)]) (rest := [.int v1]) (r1 := ((some (.int v3)), (zS I4 J5 tg))) rfl (Nat.le_of_ble_eq_true rfl) c11 ?_
  refine Runs.as (c' := (1240, [.retAddr 0, .ref 0, .ref 93, .int x3], [.int v3, .int v1], (zS I4 J5 tg))) rfl ?_
  by_cases c12 : v1 = v3
  · rw [if_pos c12] at h
    refine Runs.brT (P := v1 = v3) (a := 1912) (b := 1243) (L := [.retAddr 0, .ref 0, .ref 93, .int x3]) (S := []) (z := (zS I4 J5 tg)) rfl c12 ?_
    exact h
  · rw [if_neg c12] at h
    refine Runs.brF (P := v1 = v3) (a := 1912) (b := 1243) (L := [.retAddr 0, .ref 0, .ref 93, .int x3]) (S := []) (z := (zS I4 J5 tg)) rfl c12 ?_
    refine Runs.sN 1 (c' := (1244, [.retAddr 0, .ref 0, .ref 93, .int x3], [.int 0], (zS I4 J5 tg))) rfl ?_
    subst h
    exact Runs.rt rfl
theorem sg_302_1245 {L d : Nat} {xs : Nat → Int32} (I : Nat → Nat → Int32) (J : Nat → Nat → Int64) (tg : Option Nat) (x3 : Int32) {r : Option Value × SS} (h : (¬ ((x3 + 1) < 0 ∨ L ≤ (x3 + 1).toNatClampNeg) ∧ ∃ (v1 : Int32) (I2 : Nat → Nat → Int32), Runs (GW L xs) d 143 (0, [.ref 0, .int (xs (x3 + 1).toNatClampNeg)], [], (zS I J tg)) ((some (.int v1)), (zS I2 J tg)) ∧ ¬ ((x3 + 1) < 0 ∨ L ≤ (x3 + 1).toNatClampNeg) ∧ ∃ (v3 : Int32) (I4 : Nat → Nat → Int32) (J5 : Nat → Nat → Int64), Runs (GW L xs) d 270 (0, [.ref 93, .int (xs (x3 + 1).toNatClampNeg)], [], (zS I2 J tg)) ((some (.int v3)), (zS I4 J5 tg)) ∧ (if v1 = v3 then (Runs (GW L xs) (d + 1) 302 (1912, [.retAddr 0, .ref 0, .ref 93, .int x3], [], (zS I4 J5 tg)) r) else (r = (some (.int 0), (zS I4 J5 tg)))))) : Runs (GW L xs) (d + 1) 302 (1245, [.retAddr 0, .ref 0, .ref 93, .int x3], [], (zS I J tg)) r := by
  refine Runs.sN 5 (c' := (1250, [.retAddr 0, .ref 0, .ref 93, .int x3], [.int (x3 + 1), .retAddr 0, .ref 0], (zS I J tg))) rfl ?_
  obtain ⟨c6, h⟩ := h
  refine Runs.to (c' := (1251, [.retAddr 0, .ref 0, .ref 93, .int x3], [.int (xs (x3 + 1).toNatClampNeg), .ref 0], (zS I J tg))) (Runs.sld rfl (show (0 : Nat) < 2 by decide) c6) ?_
  obtain ⟨v1, I2, c7, h⟩ := h
  refine Runs.cl (cm := 143) (as := [.ref 0, .int (xs (x3 + 1).toNatClampNeg)]) (rest := []) (r1 := ((some (.int v1)), (zS I2 J tg))) rfl (Nat.le_of_ble_eq_true rfl) c7 ?_
  refine Runs.as (c' := (1254, [.retAddr 0, .ref 0, .ref 93, .int x3], [.int v1], (zS I2 J tg))) rfl ?_
  refine Runs.sN 5 (c' := (1259, [.retAddr 0, .ref 0, .ref 93, .int x3], [.int (x3 + 1), .retAddr 0, .ref 93, .int v1], (zS I2 J tg))) rfl ?_
  obtain ⟨c8, h⟩ := h
  refine Runs.to (c' := (1260, [.retAddr 0, .ref 0, .ref 93, .int x3], [.int (xs (x3 + 1).toNatClampNeg), .ref 93, .int v1], (zS I2 J tg))) (Runs.sld rfl (show (0 : Nat) < 2 by decide) c8) ?_
  obtain ⟨v3, I4, J5, c9, h⟩ := h
  refine Runs.cl (cm := 270) (as := [.ref 93, .int (xs (x3 + 1).toNatClampNeg)]) (rest := [.int v1]) (r1 := ((some (.int v3)), (zS I4 J5 tg))) rfl (Nat.le_of_ble_eq_true rfl) c9 ?_
  refine Runs.as (c' := (1263, [.retAddr 0, .ref 0, .ref 93, .int x3], [.int v3, .int v1], (zS I4 J5 tg))) rfl ?_
  by_cases c10 : v1 = v3
  · rw [if_pos c10] at h
    refine Runs.brT (P := v1 = v3) (a := 1912) (b := 1266) (L := [.retAddr 0, .ref 0, .ref 93, .int x3]) (S := []) (z := (zS I4 J5 tg)) rfl c10 ?_
    exact h
  · rw [if_neg c10] at h
    refine Runs.brF (P := v1 = v3) (a := 1912) (b := 1266) (L := [.retAddr 0, .ref 0, .ref 93, .int x3]) (S := []) (z := (zS I4 J5 tg)) rfl c10 ?_
    refine Runs.sN 1 (c' := (1267, [.retAddr 0, .ref 0, .ref 93, .int x3], [.int 0], (zS I4 J5 tg))) rfl ?_
    subst h
    exact Runs.rt rfl
theorem sg_302_1268 {L d : Nat} {xs : Nat → Int32} (I : Nat → Nat → Int32) (J : Nat → Nat → Int64) (tg : Option Nat) (x3 : Int32) {r : Option Value × SS} (h : (∃ (v1 : Int32) (I2 : Nat → Nat → Int32), Runs (GW L xs) d 144 (0, [.ref 0, vU], [], (zS I J tg)) ((some (.int v1)), (zS I2 J tg)) ∧ ∃ (v3 : Int32) (I4 : Nat → Nat → Int32) (J5 : Nat → Nat → Int64), Runs (GW L xs) d 271 (0, [.ref 93, vU], [], (zS I2 J tg)) ((some (.int v3)), (zS I4 J5 tg)) ∧ (if v1 = v3 then (Runs (GW L xs) (d + 1) 302 (1912, [.retAddr 0, .ref 0, .ref 93, .int x3], [], (zS I4 J5 tg)) r) else (r = (some (.int 0), (zS I4 J5 tg)))))) : Runs (GW L xs) (d + 1) 302 (1268, [.retAddr 0, .ref 0, .ref 93, .int x3], [], (zS I J tg)) r := by
  refine Runs.sN 1 (c' := (1269, [.retAddr 0, .ref 0, .ref 93, .int x3], [.ref 0], (zS I J tg))) rfl ?_
  obtain ⟨v1, I2, c6, h⟩ := h
  refine Runs.cl (cm := 144) (as := [.ref 0]) (rest := []) (r1 := ((some (.int v1)), (zS I2 J tg))) rfl (Nat.le_of_ble_eq_true rfl) c6 ?_
  refine Runs.as (c' := (1272, [.retAddr 0, .ref 0, .ref 93, .int x3], [.int v1], (zS I2 J tg))) rfl ?_
  refine Runs.sN 1 (c' := (1273, [.retAddr 0, .ref 0, .ref 93, .int x3], [.ref 93, .int v1], (zS I2 J tg))) rfl ?_
  obtain ⟨v3, I4, J5, c7, h⟩ := h
  refine Runs.cl (cm := 271) (as := [.ref 93]) (rest := [.int v1]) (r1 := ((some (.int v3)), (zS I4 J5 tg))) rfl (Nat.le_of_ble_eq_true rfl) c7 ?_
  refine Runs.as (c' := (1276, [.retAddr 0, .ref 0, .ref 93, .int x3], [.int v3, .int v1], (zS I4 J5 tg))) rfl ?_
  by_cases c8 : v1 = v3
  · rw [if_pos c8] at h
    refine Runs.brT (P := v1 = v3) (a := 1912) (b := 1279) (L := [.retAddr 0, .ref 0, .ref 93, .int x3]) (S := []) (z := (zS I4 J5 tg)) rfl c8 ?_
    exact h
  · rw [if_neg c8] at h
    refine Runs.brF (P := v1 = v3) (a := 1912) (b := 1279) (L := [.retAddr 0, .ref 0, .ref 93, .int x3]) (S := []) (z := (zS I4 J5 tg)) rfl c8 ?_
    refine Runs.sN 1 (c' := (1280, [.retAddr 0, .ref 0, .ref 93, .int x3], [.int 0], (zS I4 J5 tg))) rfl ?_
    subst h
    exact Runs.rt rfl
theorem sg_302_1281 {L d : Nat} {xs : Nat → Int32} (I : Nat → Nat → Int32) (J : Nat → Nat → Int64) (tg : Option Nat) (x3 : Int32) {r : Option Value × SS} (h : (¬ ((x3 + 1) < 0 ∨ L ≤ (x3 + 1).toNatClampNeg) ∧ ¬ ((x3 + 2) < 0 ∨ L ≤ (x3 + 2).toNatClampNeg) ∧ ¬ ((x3 + 3) < 0 ∨ L ≤ (x3 + 3).toNatClampNeg) ∧ ∃ (v1 : Int32) (I2 : Nat → Nat → Int32), Runs (GW L xs) d 145 (0, [.ref 0, .int (xs (x3 + 1).toNatClampNeg), .int (xs (x3 + 2).toNatClampNeg), .int (xs (x3 + 3).toNatClampNeg)], [], (zS I J tg)) ((some (.int v1)), (zS I2 J tg)) ∧ ¬ ((x3 + 1) < 0 ∨ L ≤ (x3 + 1).toNatClampNeg) ∧ ¬ ((x3 + 2) < 0 ∨ L ≤ (x3 + 2).toNatClampNeg) ∧ ¬ ((x3 + 3) < 0 ∨ L ≤ (x3 + 3).toNatClampNeg) ∧ ∃ (v3 : Int32) (I4 : Nat → Nat → Int32) (J5 : Nat → Nat → Int64), Runs (GW L xs) d 275 (0, [.ref 93, .int (xs (x3 + 1).toNatClampNeg), .int (xs (x3 + 2).toNatClampNeg), .int (xs (x3 + 3).toNatClampNeg)], [], (zS I2 J tg)) ((some (.int v3)), (zS I4 J5 tg)) ∧ (if v1 = v3 then (Runs (GW L xs) (d + 1) 302 (1912, [.retAddr 0, .ref 0, .ref 93, .int x3], [], (zS I4 J5 tg)) r) else (r = (some (.int 0), (zS I4 J5 tg)))))) : Runs (GW L xs) (d + 1) 302 (1281, [.retAddr 0, .ref 0, .ref 93, .int x3], [], (zS I J tg)) r := by
  refine Runs.sN 5 (c' := (1286, [.retAddr 0, .ref 0, .ref 93, .int x3], [.int (x3 + 1), .retAddr 0, .ref 0], (zS I J tg))) rfl ?_
  obtain ⟨c6, h⟩ := h
  refine Runs.to (c' := (1287, [.retAddr 0, .ref 0, .ref 93, .int x3], [.int (xs (x3 + 1).toNatClampNeg), .ref 0], (zS I J tg))) (Runs.sld rfl (show (0 : Nat) < 2 by decide) c6) ?_
  refine Runs.sN 4 (c' := (1291, [.retAddr 0, .ref 0, .ref 93, .int x3], [.int (x3 + 2), .retAddr 0, .int (xs (x3 + 1).toNatClampNeg), .ref 0], (zS I J tg))) rfl ?_
  obtain ⟨c7, h⟩ := h
  refine Runs.to (c' := (1292, [.retAddr 0, .ref 0, .ref 93, .int x3], [.int (xs (x3 + 2).toNatClampNeg), .int (xs (x3 + 1).toNatClampNeg), .ref 0], (zS I J tg))) (Runs.sld rfl (show (0 : Nat) < 2 by decide) c7) ?_
  refine Runs.sN 4 (c' := (1296, [.retAddr 0, .ref 0, .ref 93, .int x3], [.int (x3 + 3), .retAddr 0, .int (xs (x3 + 2).toNatClampNeg), .int (xs (x3 + 1).toNatClampNeg), .ref 0], (zS I J tg))) rfl ?_
  obtain ⟨c8, h⟩ := h
  refine Runs.to (c' := (1297, [.retAddr 0, .ref 0, .ref 93, .int x3], [.int (xs (x3 + 3).toNatClampNeg), .int (xs (x3 + 2).toNatClampNeg), .int (xs (x3 + 1).toNatClampNeg), .ref 0], (zS I J tg))) (Runs.sld rfl (show (0 : Nat) < 2 by decide) c8) ?_
  obtain ⟨v1, I2, c9, h⟩ := h
  refine Runs.cl (cm := 145) (as := [.ref 0, .int (xs (x3 + 1).toNatClampNeg), .int (xs (x3 + 2).toNatClampNeg), .int (xs (x3 + 3).toNatClampNeg)]) (rest := []) (r1 := ((some (.int v1)), (zS I2 J tg))) rfl (Nat.le_of_ble_eq_true rfl) c9 ?_
  refine Runs.as (c' := (1300, [.retAddr 0, .ref 0, .ref 93, .int x3], [.int v1], (zS I2 J tg))) rfl ?_
  refine Runs.sN 5 (c' := (1305, [.retAddr 0, .ref 0, .ref 93, .int x3], [.int (x3 + 1), .retAddr 0, .ref 93, .int v1], (zS I2 J tg))) rfl ?_
  obtain ⟨c10, h⟩ := h
  refine Runs.to (c' := (1306, [.retAddr 0, .ref 0, .ref 93, .int x3], [.int (xs (x3 + 1).toNatClampNeg), .ref 93, .int v1], (zS I2 J tg))) (Runs.sld rfl (show (0 : Nat) < 2 by decide) c10) ?_
  refine Runs.sN 4 (c' := (1310, [.retAddr 0, .ref 0, .ref 93, .int x3], [.int (x3 + 2), .retAddr 0, .int (xs (x3 + 1).toNatClampNeg), .ref 93, .int v1], (zS I2 J tg))) rfl ?_
  obtain ⟨c11, h⟩ := h
  refine Runs.to (c' := (1311, [.retAddr 0, .ref 0, .ref 93, .int x3], [.int (xs (x3 + 2).toNatClampNeg), .int (xs (x3 + 1).toNatClampNeg), .ref 93, .int v1], (zS I2 J tg))) (Runs.sld rfl (show (0 : Nat) < 2 by decide) c11) ?_
  refine Runs.sN 4 (c' := (1315, [.retAddr 0, .ref 0, .ref 93, .int x3], [.int (x3 + 3), .retAddr 0, .int (xs (x3 + 2).toNatClampNeg), .int (xs (x3 + 1).toNatClampNeg), .ref 93, .int v1], (zS I2 J tg))) rfl ?_
  obtain ⟨c12, h⟩ := h
  refine Runs.to (c' := (1316, [.retAddr 0, .ref 0, .ref 93, .int x3], [.int (xs (x3 + 3).toNatClampNeg), .int (xs (x3 + 2).toNatClampNeg), .int (xs (x3 + 1).toNatClampNeg), .ref 93, .int v1], (zS I2 J tg))) (Runs.sld rfl (show (0 : Nat) < 2 by decide) c12) ?_
  obtain ⟨v3, I4, J5, c13, h⟩ := h
  refine Runs.cl (cm := 275) (as := [.ref 93, .int (xs (x3 + 1).toNatClampNeg), .int (xs (x3 + 2).toNatClampNeg), .int (xs (x3 + 3).toNatClampNeg)]) (rest := [.int v1]) (r1 := ((some (.int v3)), (zS I4 J5 tg))) rfl (Nat.le_of_ble_eq_true rfl) c13 ?_
  refine Runs.as (c' := (1319, [.retAddr 0, .ref 0, .ref 93, .int x3], [.int v3, .int v1], (zS I4 J5 tg))) rfl ?_
  by_cases c14 : v1 = v3
  · rw [if_pos c14] at h
    refine Runs.brT (P := v1 = v3) (a := 1912) (b := 1322) (L := [.retAddr 0, .ref 0, .ref 93, .int x3]) (S := []) (z := (zS I4 J5 tg)) rfl c14 ?_
    exact h
  · rw [if_neg c14] at h
    refine Runs.brF (P := v1 = v3) (a := 1912) (b := 1322) (L := [.retAddr 0, .ref 0, .ref 93, .int x3]) (S := []) (z := (zS I4 J5 tg)) rfl c14 ?_
    refine Runs.sN 1 (c' := (1323, [.retAddr 0, .ref 0, .ref 93, .int x3], [.int 0], (zS I4 J5 tg))) rfl ?_
    subst h
    exact Runs.rt rfl
theorem sg_302_1324 {L d : Nat} {xs : Nat → Int32} (I : Nat → Nat → Int32) (J : Nat → Nat → Int64) (tg : Option Nat) (x3 : Int32) {r : Option Value × SS} (h : (¬ ((x3 + 1) < 0 ∨ L ≤ (x3 + 1).toNatClampNeg) ∧ ¬ ((x3 + 2) < 0 ∨ L ≤ (x3 + 2).toNatClampNeg) ∧ ∃ (v1 : Int32) (I2 : Nat → Nat → Int32), Runs (GW L xs) d 146 (0, [.ref 0, .int (xs (x3 + 1).toNatClampNeg), .int (xs (x3 + 2).toNatClampNeg)], [], (zS I J tg)) ((some (.int v1)), (zS I2 J tg)) ∧ ¬ ((x3 + 1) < 0 ∨ L ≤ (x3 + 1).toNatClampNeg) ∧ ¬ ((x3 + 2) < 0 ∨ L ≤ (x3 + 2).toNatClampNeg) ∧ ∃ (v3 : Int32) (I4 : Nat → Nat → Int32) (J5 : Nat → Nat → Int64), Runs (GW L xs) d 278 (0, [.ref 93, .int (xs (x3 + 1).toNatClampNeg), .int (xs (x3 + 2).toNatClampNeg), vU, vU, vU, vU], [], (zS I2 J tg)) ((some (.int v3)), (zS I4 J5 tg)) ∧ (if v1 = v3 then (Runs (GW L xs) (d + 1) 302 (1912, [.retAddr 0, .ref 0, .ref 93, .int x3], [], (zS I4 J5 tg)) r) else (r = (some (.int 0), (zS I4 J5 tg)))))) : Runs (GW L xs) (d + 1) 302 (1324, [.retAddr 0, .ref 0, .ref 93, .int x3], [], (zS I J tg)) r := by
  refine Runs.sN 5 (c' := (1329, [.retAddr 0, .ref 0, .ref 93, .int x3], [.int (x3 + 1), .retAddr 0, .ref 0], (zS I J tg))) rfl ?_
  obtain ⟨c6, h⟩ := h
  refine Runs.to (c' := (1330, [.retAddr 0, .ref 0, .ref 93, .int x3], [.int (xs (x3 + 1).toNatClampNeg), .ref 0], (zS I J tg))) (Runs.sld rfl (show (0 : Nat) < 2 by decide) c6) ?_
  refine Runs.sN 4 (c' := (1334, [.retAddr 0, .ref 0, .ref 93, .int x3], [.int (x3 + 2), .retAddr 0, .int (xs (x3 + 1).toNatClampNeg), .ref 0], (zS I J tg))) rfl ?_
  obtain ⟨c7, h⟩ := h
  refine Runs.to (c' := (1335, [.retAddr 0, .ref 0, .ref 93, .int x3], [.int (xs (x3 + 2).toNatClampNeg), .int (xs (x3 + 1).toNatClampNeg), .ref 0], (zS I J tg))) (Runs.sld rfl (show (0 : Nat) < 2 by decide) c7) ?_
  obtain ⟨v1, I2, c8, h⟩ := h
  refine Runs.cl (cm := 146) (as := [.ref 0, .int (xs (x3 + 1).toNatClampNeg), .int (xs (x3 + 2).toNatClampNeg)]) (rest := []) (r1 := ((some (.int v1)), (zS I2 J tg))) rfl (Nat.le_of_ble_eq_true rfl) c8 ?_
  refine Runs.as (c' := (1338, [.retAddr 0, .ref 0, .ref 93, .int x3], [.int v1], (zS I2 J tg))) rfl ?_
  refine Runs.sN 5 (c' := (1343, [.retAddr 0, .ref 0, .ref 93, .int x3], [.int (x3 + 1), .retAddr 0, .ref 93, .int v1], (zS I2 J tg))) rfl ?_
  obtain ⟨c9, h⟩ := h
  refine Runs.to (c' := (1344, [.retAddr 0, .ref 0, .ref 93, .int x3], [.int (xs (x3 + 1).toNatClampNeg), .ref 93, .int v1], (zS I2 J tg))) (Runs.sld rfl (show (0 : Nat) < 2 by decide) c9) ?_
  refine Runs.sN 4 (c' := (1348, [.retAddr 0, .ref 0, .ref 93, .int x3], [.int (x3 + 2), .retAddr 0, .int (xs (x3 + 1).toNatClampNeg), .ref 93, .int v1], (zS I2 J tg))) rfl ?_
  obtain ⟨c10, h⟩ := h
  refine Runs.to (c' := (1349, [.retAddr 0, .ref 0, .ref 93, .int x3], [.int (xs (x3 + 2).toNatClampNeg), .int (xs (x3 + 1).toNatClampNeg), .ref 93, .int v1], (zS I2 J tg))) (Runs.sld rfl (show (0 : Nat) < 2 by decide) c10) ?_
  obtain ⟨v3, I4, J5, c11, h⟩ := h
  refine Runs.cl (cm := 278) (as := [.ref 93, .int (xs (x3 + 1).toNatClampNeg), .int (xs (x3 + 2).toNatClampNeg)]) (rest := [.int v1]) (r1 := ((some (.int v3)), (zS I4 J5 tg))) rfl (Nat.le_of_ble_eq_true rfl) c11 ?_
  refine Runs.as (c' := (1352, [.retAddr 0, .ref 0, .ref 93, .int x3], [.int v3, .int v1], (zS I4 J5 tg))) rfl ?_
  by_cases c12 : v1 = v3
  · rw [if_pos c12] at h
    refine Runs.brT (P := v1 = v3) (a := 1912) (b := 1355) (L := [.retAddr 0, .ref 0, .ref 93, .int x3]) (S := []) (z := (zS I4 J5 tg)) rfl c12 ?_
    exact h
  · rw [if_neg c12] at h
    refine Runs.brF (P := v1 = v3) (a := 1912) (b := 1355) (L := [.retAddr 0, .ref 0, .ref 93, .int x3]) (S := []) (z := (zS I4 J5 tg)) rfl c12 ?_
    refine Runs.sN 1 (c' := (1356, [.retAddr 0, .ref 0, .ref 93, .int x3], [.int 0], (zS I4 J5 tg))) rfl ?_
    subst h
    exact Runs.rt rfl
theorem sg_302_1357 {L d : Nat} {xs : Nat → Int32} (I : Nat → Nat → Int32) (J : Nat → Nat → Int64) (tg : Option Nat) (x3 : Int32) {r : Option Value × SS} (h : (¬ ((x3 + 1) < 0 ∨ L ≤ (x3 + 1).toNatClampNeg) ∧ ¬ ((x3 + 2) < 0 ∨ L ≤ (x3 + 2).toNatClampNeg) ∧ ¬ ((x3 + 3) < 0 ∨ L ≤ (x3 + 3).toNatClampNeg) ∧ ¬ ((x3 + 4) < 0 ∨ L ≤ (x3 + 4).toNatClampNeg) ∧ ∃ (v1 : Int32) (I2 : Nat → Nat → Int32), Runs (GW L xs) d 147 (0, [.ref 0, .int (xs (x3 + 1).toNatClampNeg), .int (xs (x3 + 2).toNatClampNeg), .int (xs (x3 + 3).toNatClampNeg), .int (xs (x3 + 4).toNatClampNeg)], [], (zS I J tg)) ((some (.int v1)), (zS I2 J tg)) ∧ ¬ ((x3 + 1) < 0 ∨ L ≤ (x3 + 1).toNatClampNeg) ∧ ¬ ((x3 + 2) < 0 ∨ L ≤ (x3 + 2).toNatClampNeg) ∧ ¬ ((x3 + 3) < 0 ∨ L ≤ (x3 + 3).toNatClampNeg) ∧ ¬ ((x3 + 4) < 0 ∨ L ≤ (x3 + 4).toNatClampNeg) ∧ ∃ (v3 : Int32) (I4 : Nat → Nat → Int32) (J5 : Nat → Nat → Int64), Runs (GW L xs) d 279 (0, [.ref 93, .int (xs (x3 + 1).toNatClampNeg), .int (xs (x3 + 2).toNatClampNeg), .int (xs (x3 + 3).toNatClampNeg), .int (xs (x3 + 4).toNatClampNeg), vU, vU, vU, vU], [], (zS I2 J tg)) ((some (.int v3)), (zS I4 J5 tg)) ∧ (if v1 = v3 then (Runs (GW L xs) (d + 1) 302 (1912, [.retAddr 0, .ref 0, .ref 93, .int x3], [], (zS I4 J5 tg)) r) else (r = (some (.int 0), (zS I4 J5 tg)))))) : Runs (GW L xs) (d + 1) 302 (1357, [.retAddr 0, .ref 0, .ref 93, .int x3], [], (zS I J tg)) r := by
  refine Runs.sN 5 (c' := (1362, [.retAddr 0, .ref 0, .ref 93, .int x3], [.int (x3 + 1), .retAddr 0, .ref 0], (zS I J tg))) rfl ?_
  obtain ⟨c6, h⟩ := h
  refine Runs.to (c' := (1363, [.retAddr 0, .ref 0, .ref 93, .int x3], [.int (xs (x3 + 1).toNatClampNeg), .ref 0], (zS I J tg))) (Runs.sld rfl (show (0 : Nat) < 2 by decide) c6) ?_
  refine Runs.sN 4 (c' := (1367, [.retAddr 0, .ref 0, .ref 93, .int x3], [.int (x3 + 2), .retAddr 0, .int (xs (x3 + 1).toNatClampNeg), .ref 0], (zS I J tg))) rfl ?_
  obtain ⟨c7, h⟩ := h
  refine Runs.to (c' := (1368, [.retAddr 0, .ref 0, .ref 93, .int x3], [.int (xs (x3 + 2).toNatClampNeg), .int (xs (x3 + 1).toNatClampNeg), .ref 0], (zS I J tg))) (Runs.sld rfl (show (0 : Nat) < 2 by decide) c7) ?_
  refine Runs.sN 4 (c' := (1372, [.retAddr 0, .ref 0, .ref 93, .int x3], [.int (x3 + 3), .retAddr 0, .int (xs (x3 + 2).toNatClampNeg), .int (xs (x3 + 1).toNatClampNeg), .ref 0], (zS I J tg))) rfl ?_
  obtain ⟨c8, h⟩ := h
  refine Runs.to (c' := (1373, [.retAddr 0, .ref 0, .ref 93, .int x3], [.int (xs (x3 + 3).toNatClampNeg), .int (xs (x3 + 2).toNatClampNeg), .int (xs (x3 + 1).toNatClampNeg), .ref 0], (zS I J tg))) (Runs.sld rfl (show (0 : Nat) < 2 by decide) c8) ?_
  refine Runs.sN 4 (c' := (1377, [.retAddr 0, .ref 0, .ref 93, .int x3], [.int (x3 + 4), .retAddr 0, .int (xs (x3 + 3).toNatClampNeg), .int (xs (x3 + 2).toNatClampNeg), .int (xs (x3 + 1).toNatClampNeg), .ref 0], (zS I J tg))) rfl ?_
  obtain ⟨c9, h⟩ := h
  refine Runs.to (c' := (1378, [.retAddr 0, .ref 0, .ref 93, .int x3], [.int (xs (x3 + 4).toNatClampNeg), .int (xs (x3 + 3).toNatClampNeg), .int (xs (x3 + 2).toNatClampNeg), .int (xs (x3 + 1).toNatClampNeg), .ref 0], (zS I J tg))) (Runs.sld rfl (show (0 : Nat) < 2 by decide) c9) ?_
  obtain ⟨v1, I2, c10, h⟩ := h
  refine Runs.cl (cm := 147) (as := [.ref 0, .int (xs (x3 + 1).toNatClampNeg), .int (xs (x3 + 2).toNatClampNeg), .int (xs (x3 + 3).toNatClampNeg), .int (xs (x3 + 4).toNatClampNeg)]) (rest := []) (r1 := ((some (.int v1)), (zS I2 J tg))) rfl (Nat.le_of_ble_eq_true rfl) c10 ?_
  refine Runs.as (c' := (1381, [.retAddr 0, .ref 0, .ref 93, .int x3], [.int v1], (zS I2 J tg))) rfl ?_
  refine Runs.sN 5 (c' := (1386, [.retAddr 0, .ref 0, .ref 93, .int x3], [.int (x3 + 1), .retAddr 0, .ref 93, .int v1], (zS I2 J tg))) rfl ?_
  obtain ⟨c11, h⟩ := h
  refine Runs.to (c' := (1387, [.retAddr 0, .ref 0, .ref 93, .int x3], [.int (xs (x3 + 1).toNatClampNeg), .ref 93, .int v1], (zS I2 J tg))) (Runs.sld rfl (show (0 : Nat) < 2 by decide) c11) ?_
  refine Runs.sN 4 (c' := (1391, [.retAddr 0, .ref 0, .ref 93, .int x3], [.int (x3 + 2), .retAddr 0, .int (xs (x3 + 1).toNatClampNeg), .ref 93, .int v1], (zS I2 J tg))) rfl ?_
  obtain ⟨c12, h⟩ := h
  refine Runs.to (c' := (1392, [.retAddr 0, .ref 0, .ref 93, .int x3], [.int (xs (x3 + 2).toNatClampNeg), .int (xs (x3 + 1).toNatClampNeg), .ref 93, .int v1], (zS I2 J tg))) (Runs.sld rfl (show (0 : Nat) < 2 by decide) c12) ?_
  refine Runs.sN 4 (c' := (1396, [.retAddr 0, .ref 0, .ref 93, .int x3], [.int (x3 + 3), .retAddr 0, .int (xs (x3 + 2).toNatClampNeg), .int (xs (x3 + 1).toNatClampNeg), .ref 93, .int v1], (zS I2 J tg))) rfl ?_
  obtain ⟨c13, h⟩ := h
  refine Runs.to (c' := (1397, [.retAddr 0, .ref 0, .ref 93, .int x3], [.int (xs (x3 + 3).toNatClampNeg), .int (xs (x3 + 2).toNatClampNeg), .int (xs (x3 + 1).toNatClampNeg), .ref 93, .int v1], (zS I2 J tg))) (Runs.sld rfl (show (0 : Nat) < 2 by decide) c13) ?_
  refine Runs.sN 4 (c' := (1401, [.retAddr 0, .ref 0, .ref 93, .int x3], [.int (x3 + 4), .retAddr 0, .int (xs (x3 + 3).toNatClampNeg), .int (xs (x3 + 2).toNatClampNeg), .int (xs (x3 + 1).toNatClampNeg), .ref 93, .int v1], (zS I2 J tg))) rfl ?_
  obtain ⟨c14, h⟩ := h
  refine Runs.to (c' := (1402, [.retAddr 0, .ref 0, .ref 93, .int x3], [.int (xs (x3 + 4).toNatClampNeg), .int (xs (x3 + 3).toNatClampNeg), .int (xs (x3 + 2).toNatClampNeg), .int (xs (x3 + 1).toNatClampNeg), .ref 93, .int v1], (zS I2 J tg))) (Runs.sld rfl (show (0 : Nat) < 2 by decide) c14) ?_
  obtain ⟨v3, I4, J5, c15, h⟩ := h
  refine Runs.cl (cm := 279) (as := [.ref 93, .int (xs (x3 + 1).toNatClampNeg), .int (xs (x3 + 2).toNatClampNeg), .int (xs (x3 + 3).toNatClampNeg), .int (xs (x3 + 4).toNatClampNeg)]) (rest := [.int v1]) (r1 := ((some (.int v3)), (zS I4 J5 tg))) rfl (Nat.le_of_ble_eq_true rfl) c15 ?_
  refine Runs.as (c' := (1405, [.retAddr 0, .ref 0, .ref 93, .int x3], [.int v3, .int v1], (zS I4 J5 tg))) rfl ?_
  by_cases c16 : v1 = v3
  · rw [if_pos c16] at h
    refine Runs.brT (P := v1 = v3) (a := 1912) (b := 1408) (L := [.retAddr 0, .ref 0, .ref 93, .int x3]) (S := []) (z := (zS I4 J5 tg)) rfl c16 ?_
    exact h
  · rw [if_neg c16] at h
    refine Runs.brF (P := v1 = v3) (a := 1912) (b := 1408) (L := [.retAddr 0, .ref 0, .ref 93, .int x3]) (S := []) (z := (zS I4 J5 tg)) rfl c16 ?_
    refine Runs.sN 1 (c' := (1409, [.retAddr 0, .ref 0, .ref 93, .int x3], [.int 0], (zS I4 J5 tg))) rfl ?_
    subst h
    exact Runs.rt rfl
theorem sg_302_1410 {L d : Nat} {xs : Nat → Int32} (I : Nat → Nat → Int32) (J : Nat → Nat → Int64) (tg : Option Nat) (x3 : Int32) {r : Option Value × SS} (h : (¬ ((x3 + 1) < 0 ∨ L ≤ (x3 + 1).toNatClampNeg) ∧ ¬ ((x3 + 2) < 0 ∨ L ≤ (x3 + 2).toNatClampNeg) ∧ ∃ (v1 : Int32) (I2 : Nat → Nat → Int32), Runs (GW L xs) d 148 (0, [.ref 0, .int (xs (x3 + 1).toNatClampNeg), .int (xs (x3 + 2).toNatClampNeg), vU], [], (zS I J tg)) ((some (.int v1)), (zS I2 J tg)) ∧ ¬ ((x3 + 1) < 0 ∨ L ≤ (x3 + 1).toNatClampNeg) ∧ ¬ ((x3 + 2) < 0 ∨ L ≤ (x3 + 2).toNatClampNeg) ∧ ∃ (v3 : Int32) (I4 : Nat → Nat → Int32) (J5 : Nat → Nat → Int64), Runs (GW L xs) d 282 (0, [.ref 93, .int (xs (x3 + 1).toNatClampNeg), .int (xs (x3 + 2).toNatClampNeg)], [], (zS I2 J tg)) ((some (.int v3)), (zS I4 J5 tg)) ∧ (if v1 = v3 then (Runs (GW L xs) (d + 1) 302 (1912, [.retAddr 0, .ref 0, .ref 93, .int x3], [], (zS I4 J5 tg)) r) else (r = (some (.int 0), (zS I4 J5 tg)))))) : Runs (GW L xs) (d + 1) 302 (1410, [.retAddr 0, .ref 0, .ref 93, .int x3], [], (zS I J tg)) r := by
  refine Runs.sN 5 (c' := (1415, [.retAddr 0, .ref 0, .ref 93, .int x3], [.int (x3 + 1), .retAddr 0, .ref 0], (zS I J tg))) rfl ?_
  obtain ⟨c6, h⟩ := h
  refine Runs.to (c' := (1416, [.retAddr 0, .ref 0, .ref 93, .int x3], [.int (xs (x3 + 1).toNatClampNeg), .ref 0], (zS I J tg))) (Runs.sld rfl (show (0 : Nat) < 2 by decide) c6) ?_
  refine Runs.sN 4 (c' := (1420, [.retAddr 0, .ref 0, .ref 93, .int x3], [.int (x3 + 2), .retAddr 0, .int (xs (x3 + 1).toNatClampNeg), .ref 0], (zS I J tg))) rfl ?_
  obtain ⟨c7, h⟩ := h
  refine Runs.to (c' := (1421, [.retAddr 0, .ref 0, .ref 93, .int x3], [.int (xs (x3 + 2).toNatClampNeg), .int (xs (x3 + 1).toNatClampNeg), .ref 0], (zS I J tg))) (Runs.sld rfl (show (0 : Nat) < 2 by decide) c7) ?_
  obtain ⟨v1, I2, c8, h⟩ := h
  refine Runs.cl (cm := 148) (as := [.ref 0, .int (xs (x3 + 1).toNatClampNeg), .int (xs (x3 + 2).toNatClampNeg)]) (rest := []) (r1 := ((some (.int v1)), (zS I2 J tg))) rfl (Nat.le_of_ble_eq_true rfl) c8 ?_
  refine Runs.as (c' := (1424, [.retAddr 0, .ref 0, .ref 93, .int x3], [.int v1], (zS I2 J tg))) rfl ?_
  refine Runs.sN 5 (c' := (1429, [.retAddr 0, .ref 0, .ref 93, .int x3], [.int (x3 + 1), .retAddr 0, .ref 93, .int v1], (zS I2 J tg))) rfl ?_
  obtain ⟨c9, h⟩ := h
  refine Runs.to (c' := (1430, [.retAddr 0, .ref 0, .ref 93, .int x3], [.int (xs (x3 + 1).toNatClampNeg), .ref 93, .int v1], (zS I2 J tg))) (Runs.sld rfl (show (0 : Nat) < 2 by decide) c9) ?_
  refine Runs.sN 4 (c' := (1434, [.retAddr 0, .ref 0, .ref 93, .int x3], [.int (x3 + 2), .retAddr 0, .int (xs (x3 + 1).toNatClampNeg), .ref 93, .int v1], (zS I2 J tg))) rfl ?_
  obtain ⟨c10, h⟩ := h
  refine Runs.to (c' := (1435, [.retAddr 0, .ref 0, .ref 93, .int x3], [.int (xs (x3 + 2).toNatClampNeg), .int (xs (x3 + 1).toNatClampNeg), .ref 93, .int v1], (zS I2 J tg))) (Runs.sld rfl (show (0 : Nat) < 2 by decide) c10) ?_
  obtain ⟨v3, I4, J5, c11, h⟩ := h
  refine Runs.cl (cm := 282) (as := [.ref 93, .int (xs (x3 + 1).toNatClampNeg), .int (xs (x3 + 2).toNatClampNeg)]) (rest := [.int v1]) (r1 := ((some (.int v3)), (zS I4 J5 tg))) rfl (Nat.le_of_ble_eq_true rfl) c11 ?_
  refine Runs.as (c' := (1438, [.retAddr 0, .ref 0, .ref 93, .int x3], [.int v3, .int v1], (zS I4 J5 tg))) rfl ?_
  by_cases c12 : v1 = v3
  · rw [if_pos c12] at h
    refine Runs.brT (P := v1 = v3) (a := 1912) (b := 1441) (L := [.retAddr 0, .ref 0, .ref 93, .int x3]) (S := []) (z := (zS I4 J5 tg)) rfl c12 ?_
    exact h
  · rw [if_neg c12] at h
    refine Runs.brF (P := v1 = v3) (a := 1912) (b := 1441) (L := [.retAddr 0, .ref 0, .ref 93, .int x3]) (S := []) (z := (zS I4 J5 tg)) rfl c12 ?_
    refine Runs.sN 1 (c' := (1442, [.retAddr 0, .ref 0, .ref 93, .int x3], [.int 0], (zS I4 J5 tg))) rfl ?_
    subst h
    exact Runs.rt rfl
theorem sg_302_1443 {L d : Nat} {xs : Nat → Int32} (I : Nat → Nat → Int32) (J : Nat → Nat → Int64) (tg : Option Nat) (x3 : Int32) {r : Option Value × SS} (h : (¬ ((x3 + 1) < 0 ∨ L ≤ (x3 + 1).toNatClampNeg) ∧ ∃ (v1 : Int32) (I2 : Nat → Nat → Int32), Runs (GW L xs) d 149 (0, [.ref 0, .int (xs (x3 + 1).toNatClampNeg), vU], [], (zS I J tg)) ((some (.int v1)), (zS I2 J tg)) ∧ ¬ ((x3 + 1) < 0 ∨ L ≤ (x3 + 1).toNatClampNeg) ∧ ∃ (v3 : Int32) (I4 : Nat → Nat → Int32) (J5 : Nat → Nat → Int64), Runs (GW L xs) d 283 (0, [.ref 93, .int (xs (x3 + 1).toNatClampNeg), vU], [], (zS I2 J tg)) ((some (.int v3)), (zS I4 J5 tg)) ∧ (if v1 = v3 then (Runs (GW L xs) (d + 1) 302 (1912, [.retAddr 0, .ref 0, .ref 93, .int x3], [], (zS I4 J5 tg)) r) else (r = (some (.int 0), (zS I4 J5 tg)))))) : Runs (GW L xs) (d + 1) 302 (1443, [.retAddr 0, .ref 0, .ref 93, .int x3], [], (zS I J tg)) r := by
  refine Runs.sN 5 (c' := (1448, [.retAddr 0, .ref 0, .ref 93, .int x3], [.int (x3 + 1), .retAddr 0, .ref 0], (zS I J tg))) rfl ?_
  obtain ⟨c6, h⟩ := h
  refine Runs.to (c' := (1449, [.retAddr 0, .ref 0, .ref 93, .int x3], [.int (xs (x3 + 1).toNatClampNeg), .ref 0], (zS I J tg))) (Runs.sld rfl (show (0 : Nat) < 2 by decide) c6) ?_
  obtain ⟨v1, I2, c7, h⟩ := h
  refine Runs.cl (cm := 149) (as := [.ref 0, .int (xs (x3 + 1).toNatClampNeg)]) (rest := []) (r1 := ((some (.int v1)), (zS I2 J tg))) rfl (Nat.le_of_ble_eq_true rfl) c7 ?_
  refine Runs.as (c' := (1452, [.retAddr 0, .ref 0, .ref 93, .int x3], [.int v1], (zS I2 J tg))) rfl ?_
  refine Runs.sN 5 (c' := (1457, [.retAddr 0, .ref 0, .ref 93, .int x3], [.int (x3 + 1), .retAddr 0, .ref 93, .int v1], (zS I2 J tg))) rfl ?_
  obtain ⟨c8, h⟩ := h
  refine Runs.to (c' := (1458, [.retAddr 0, .ref 0, .ref 93, .int x3], [.int (xs (x3 + 1).toNatClampNeg), .ref 93, .int v1], (zS I2 J tg))) (Runs.sld rfl (show (0 : Nat) < 2 by decide) c8) ?_
  obtain ⟨v3, I4, J5, c9, h⟩ := h
  refine Runs.cl (cm := 283) (as := [.ref 93, .int (xs (x3 + 1).toNatClampNeg)]) (rest := [.int v1]) (r1 := ((some (.int v3)), (zS I4 J5 tg))) rfl (Nat.le_of_ble_eq_true rfl) c9 ?_
  refine Runs.as (c' := (1461, [.retAddr 0, .ref 0, .ref 93, .int x3], [.int v3, .int v1], (zS I4 J5 tg))) rfl ?_
  by_cases c10 : v1 = v3
  · rw [if_pos c10] at h
    refine Runs.brT (P := v1 = v3) (a := 1912) (b := 1464) (L := [.retAddr 0, .ref 0, .ref 93, .int x3]) (S := []) (z := (zS I4 J5 tg)) rfl c10 ?_
    exact h
  · rw [if_neg c10] at h
    refine Runs.brF (P := v1 = v3) (a := 1912) (b := 1464) (L := [.retAddr 0, .ref 0, .ref 93, .int x3]) (S := []) (z := (zS I4 J5 tg)) rfl c10 ?_
    refine Runs.sN 1 (c' := (1465, [.retAddr 0, .ref 0, .ref 93, .int x3], [.int 0], (zS I4 J5 tg))) rfl ?_
    subst h
    exact Runs.rt rfl
theorem sg_302_1466 {L d : Nat} {xs : Nat → Int32} (I : Nat → Nat → Int32) (J : Nat → Nat → Int64) (tg : Option Nat) (x3 : Int32) {r : Option Value × SS} (h : (¬ ((x3 + 1) < 0 ∨ L ≤ (x3 + 1).toNatClampNeg) ∧ ¬ ((x3 + 2) < 0 ∨ L ≤ (x3 + 2).toNatClampNeg) ∧ ¬ ((x3 + 3) < 0 ∨ L ≤ (x3 + 3).toNatClampNeg) ∧ ∃ (v1 : Int32) (I2 : Nat → Nat → Int32), Runs (GW L xs) d 150 (0, [.ref 0, .int (xs (x3 + 1).toNatClampNeg), .int (xs (x3 + 2).toNatClampNeg), .int (xs (x3 + 3).toNatClampNeg), vU, vU], [], (zS I J tg)) ((some (.int v1)), (zS I2 J tg)) ∧ ¬ ((x3 + 1) < 0 ∨ L ≤ (x3 + 1).toNatClampNeg) ∧ ¬ ((x3 + 2) < 0 ∨ L ≤ (x3 + 2).toNatClampNeg) ∧ ¬ ((x3 + 3) < 0 ∨ L ≤ (x3 + 3).toNatClampNeg) ∧ ∃ (v3 : Int32) (I4 : Nat → Nat → Int32) (J5 : Nat → Nat → Int64), Runs (GW L xs) d 284 (0, [.ref 93, .int (xs (x3 + 1).toNatClampNeg), .int (xs (x3 + 2).toNatClampNeg), .int (xs (x3 + 3).toNatClampNeg), vU, vU], [], (zS I2 J tg)) ((some (.int v3)), (zS I4 J5 tg)) ∧ (if v1 = v3 then (Runs (GW L xs) (d + 1) 302 (1912, [.retAddr 0, .ref 0, .ref 93, .int x3], [], (zS I4 J5 tg)) r) else (r = (some (.int 0), (zS I4 J5 tg)))))) : Runs (GW L xs) (d + 1) 302 (1466, [.retAddr 0, .ref 0, .ref 93, .int x3], [], (zS I J tg)) r := by
  refine Runs.sN 5 (c' := (1471, [.retAddr 0, .ref 0, .ref 93, .int x3], [.int (x3 + 1), .retAddr 0, .ref 0], (zS I J tg))) rfl ?_
  obtain ⟨c6, h⟩ := h
  refine Runs.to (c' := (1472, [.retAddr 0, .ref 0, .ref 93, .int x3], [.int (xs (x3 + 1).toNatClampNeg), .ref 0], (zS I J tg))) (Runs.sld rfl (show (0 : Nat) < 2 by decide) c6) ?_
  refine Runs.sN 4 (c' := (1476, [.retAddr 0, .ref 0, .ref 93, .int x3], [.int (x3 + 2), .retAddr 0, .int (xs (x3 + 1).toNatClampNeg), .ref 0], (zS I J tg))) rfl ?_
  obtain ⟨c7, h⟩ := h
  refine Runs.to (c' := (1477, [.retAddr 0, .ref 0, .ref 93, .int x3], [.int (xs (x3 + 2).toNatClampNeg), .int (xs (x3 + 1).toNatClampNeg), .ref 0], (zS I J tg))) (Runs.sld rfl (show (0 : Nat) < 2 by decide) c7) ?_
  refine Runs.sN 4 (c' := (1481, [.retAddr 0, .ref 0, .ref 93, .int x3], [.int (x3 + 3), .retAddr 0, .int (xs (x3 + 2).toNatClampNeg), .int (xs (x3 + 1).toNatClampNeg), .ref 0], (zS I J tg))) rfl ?_
  obtain ⟨c8, h⟩ := h
  refine Runs.to (c' := (1482, [.retAddr 0, .ref 0, .ref 93, .int x3], [.int (xs (x3 + 3).toNatClampNeg), .int (xs (x3 + 2).toNatClampNeg), .int (xs (x3 + 1).toNatClampNeg), .ref 0], (zS I J tg))) (Runs.sld rfl (show (0 : Nat) < 2 by decide) c8) ?_
  obtain ⟨v1, I2, c9, h⟩ := h
  refine Runs.cl (cm := 150) (as := [.ref 0, .int (xs (x3 + 1).toNatClampNeg), .int (xs (x3 + 2).toNatClampNeg), .int (xs (x3 + 3).toNatClampNeg)]) (rest := []) (r1 := ((some (.int v1)), (zS I2 J tg))) rfl (Nat.le_of_ble_eq_true rfl) c9 ?_
  refine Runs.as (c' := (1485, [.retAddr 0, .ref 0, .ref 93, .int x3], [.int v1], (zS I2 J tg))) rfl ?_
  refine Runs.sN 5 (c' := (1490, [.retAddr 0, .ref 0, .ref 93, .int x3], [.int (x3 + 1), .retAddr 0, .ref 93, .int v1], (zS I2 J tg))) rfl ?_
  obtain ⟨c10, h⟩ := h
  refine Runs.to (c' := (1491, [.retAddr 0, .ref 0, .ref 93, .int x3], [.int (xs (x3 + 1).toNatClampNeg), .ref 93, .int v1], (zS I2 J tg))) (Runs.sld rfl (show (0 : Nat) < 2 by decide) c10) ?_
  refine Runs.sN 4 (c' := (1495, [.retAddr 0, .ref 0, .ref 93, .int x3], [.int (x3 + 2), .retAddr 0, .int (xs (x3 + 1).toNatClampNeg), .ref 93, .int v1], (zS I2 J tg))) rfl ?_
  obtain ⟨c11, h⟩ := h
  refine Runs.to (c' := (1496, [.retAddr 0, .ref 0, .ref 93, .int x3], [.int (xs (x3 + 2).toNatClampNeg), .int (xs (x3 + 1).toNatClampNeg), .ref 93, .int v1], (zS I2 J tg))) (Runs.sld rfl (show (0 : Nat) < 2 by decide) c11) ?_
  refine Runs.sN 4 (c' := (1500, [.retAddr 0, .ref 0, .ref 93, .int x3], [.int (x3 + 3), .retAddr 0, .int (xs (x3 + 2).toNatClampNeg), .int (xs (x3 + 1).toNatClampNeg), .ref 93, .int v1], (zS I2 J tg))) rfl ?_
  obtain ⟨c12, h⟩ := h
  refine Runs.to (c' := (1501, [.retAddr 0, .ref 0, .ref 93, .int x3], [.int (xs (x3 + 3).toNatClampNeg), .int (xs (x3 + 2).toNatClampNeg), .int (xs (x3 + 1).toNatClampNeg), .ref 93, .int v1], (zS I2 J tg))) (Runs.sld rfl (show (0 : Nat) < 2 by decide) c12) ?_
  obtain ⟨v3, I4, J5, c13, h⟩ := h
  refine Runs.cl (cm := 284) (as := [.ref 93, .int (xs (x3 + 1).toNatClampNeg), .int (xs (x3 + 2).toNatClampNeg), .int (xs (x3 + 3).toNatClampNeg)]) (rest := [.int v1]) (r1 := ((some (.int v3)), (zS I4 J5 tg))) rfl (Nat.le_of_ble_eq_true rfl) c13 ?_
  refine Runs.as (c' := (1504, [.retAddr 0, .ref 0, .ref 93, .int x3], [.int v3, .int v1], (zS I4 J5 tg))) rfl ?_
  by_cases c14 : v1 = v3
  · rw [if_pos c14] at h
    refine Runs.brT (P := v1 = v3) (a := 1912) (b := 1507) (L := [.retAddr 0, .ref 0, .ref 93, .int x3]) (S := []) (z := (zS I4 J5 tg)) rfl c14 ?_
    exact h
  · rw [if_neg c14] at h
    refine Runs.brF (P := v1 = v3) (a := 1912) (b := 1507) (L := [.retAddr 0, .ref 0, .ref 93, .int x3]) (S := []) (z := (zS I4 J5 tg)) rfl c14 ?_
    refine Runs.sN 1 (c' := (1508, [.retAddr 0, .ref 0, .ref 93, .int x3], [.int 0], (zS I4 J5 tg))) rfl ?_
    subst h
    exact Runs.rt rfl
theorem sg_302_1509 {L d : Nat} {xs : Nat → Int32} (I : Nat → Nat → Int32) (J : Nat → Nat → Int64) (tg : Option Nat) (x3 : Int32) {r : Option Value × SS} (h : (¬ ((x3 + 1) < 0 ∨ L ≤ (x3 + 1).toNatClampNeg) ∧ ¬ ((x3 + 2) < 0 ∨ L ≤ (x3 + 2).toNatClampNeg) ∧ ¬ ((x3 + 3) < 0 ∨ L ≤ (x3 + 3).toNatClampNeg) ∧ ¬ ((x3 + 4) < 0 ∨ L ≤ (x3 + 4).toNatClampNeg) ∧ ∃ (v1 : Int32) (I2 : Nat → Nat → Int32), Runs (GW L xs) d 151 (0, [.ref 0, .int (xs (x3 + 1).toNatClampNeg), .int (xs (x3 + 2).toNatClampNeg), .int (xs (x3 + 3).toNatClampNeg), .int (xs (x3 + 4).toNatClampNeg)], [], (zS I J tg)) ((some (.int v1)), (zS I2 J tg)) ∧ ¬ ((x3 + 1) < 0 ∨ L ≤ (x3 + 1).toNatClampNeg) ∧ ¬ ((x3 + 2) < 0 ∨ L ≤ (x3 + 2).toNatClampNeg) ∧ ¬ ((x3 + 3) < 0 ∨ L ≤ (x3 + 3).toNatClampNeg) ∧ ¬ ((x3 + 4) < 0 ∨ L ≤ (x3 + 4).toNatClampNeg) ∧ ∃ (v3 : Int32) (I4 : Nat → Nat → Int32) (J5 : Nat → Nat → Int64), Runs (GW L xs) d 286 (0, [.ref 93, .int (xs (x3 + 1).toNatClampNeg), .int (xs (x3 + 2).toNatClampNeg), .int (xs (x3 + 3).toNatClampNeg), .int (xs (x3 + 4).toNatClampNeg), vU], [], (zS I2 J tg)) ((some (.int v3)), (zS I4 J5 tg)) ∧ (if v1 = v3 then (Runs (GW L xs) (d + 1) 302 (1912, [.retAddr 0, .ref 0, .ref 93, .int x3], [], (zS I4 J5 tg)) r) else (r = (some (.int 0), (zS I4 J5 tg)))))) : Runs (GW L xs) (d + 1) 302 (1509, [.retAddr 0, .ref 0, .ref 93, .int x3], [], (zS I J tg)) r := by
  refine Runs.sN 5 (c' := (1514, [.retAddr 0, .ref 0, .ref 93, .int x3], [.int (x3 + 1), .retAddr 0, .ref 0], (zS I J tg))) rfl ?_
  obtain ⟨c6, h⟩ := h
  refine Runs.to (c' := (1515, [.retAddr 0, .ref 0, .ref 93, .int x3], [.int (xs (x3 + 1).toNatClampNeg), .ref 0], (zS I J tg))) (Runs.sld rfl (show (0 : Nat) < 2 by decide) c6) ?_
  refine Runs.sN 4 (c' := (1519, [.retAddr 0, .ref 0, .ref 93, .int x3], [.int (x3 + 2), .retAddr 0, .int (xs (x3 + 1).toNatClampNeg), .ref 0], (zS I J tg))) rfl ?_
  obtain ⟨c7, h⟩ := h
  refine Runs.to (c' := (1520, [.retAddr 0, .ref 0, .ref 93, .int x3], [.int (xs (x3 + 2).toNatClampNeg), .int (xs (x3 + 1).toNatClampNeg), .ref 0], (zS I J tg))) (Runs.sld rfl (show (0 : Nat) < 2 by decide) c7) ?_
  refine Runs.sN 4 (c' := (1524, [.retAddr 0, .ref 0, .ref 93, .int x3], [.int (x3 + 3), .retAddr 0, .int (xs (x3 + 2).toNatClampNeg), .int (xs (x3 + 1).toNatClampNeg), .ref 0], (zS I J tg))) rfl ?_
  obtain ⟨c8, h⟩ := h
  refine Runs.to (c' := (1525, [.retAddr 0, .ref 0, .ref 93, .int x3], [.int (xs (x3 + 3).toNatClampNeg), .int (xs (x3 + 2).toNatClampNeg), .int (xs (x3 + 1).toNatClampNeg), .ref 0], (zS I J tg))) (Runs.sld rfl (show (0 : Nat) < 2 by decide) c8) ?_
  refine Runs.sN 4 (c' := (1529, [.retAddr 0, .ref 0, .ref 93, .int x3], [.int (x3 + 4), .retAddr 0, .int (xs (x3 + 3).toNatClampNeg), .int (xs (x3 + 2).toNatClampNeg), .int (xs (x3 + 1).toNatClampNeg), .ref 0], (zS I J tg))) rfl ?_
  obtain ⟨c9, h⟩ := h
  refine Runs.to (c' := (1530, [.retAddr 0, .ref 0, .ref 93, .int x3], [.int (xs (x3 + 4).toNatClampNeg), .int (xs (x3 + 3).toNatClampNeg), .int (xs (x3 + 2).toNatClampNeg), .int (xs (x3 + 1).toNatClampNeg), .ref 0], (zS I J tg))) (Runs.sld rfl (show (0 : Nat) < 2 by decide) c9) ?_
  obtain ⟨v1, I2, c10, h⟩ := h
  refine Runs.cl (cm := 151) (as := [.ref 0, .int (xs (x3 + 1).toNatClampNeg), .int (xs (x3 + 2).toNatClampNeg), .int (xs (x3 + 3).toNatClampNeg), .int (xs (x3 + 4).toNatClampNeg)]) (rest := []) (r1 := ((some (.int v1)), (zS I2 J tg))) rfl (Nat.le_of_ble_eq_true rfl) c10 ?_
  refine Runs.as (c' := (1533, [.retAddr 0, .ref 0, .ref 93, .int x3], [.int v1], (zS I2 J tg))) rfl ?_
  refine Runs.sN 5 (c' := (1538, [.retAddr 0, .ref 0, .ref 93, .int x3], [.int (x3 + 1), .retAddr 0, .ref 93, .int v1], (zS I2 J tg))) rfl ?_
  obtain ⟨c11, h⟩ := h
  refine Runs.to (c' := (1539, [.retAddr 0, .ref 0, .ref 93, .int x3], [.int (xs (x3 + 1).toNatClampNeg), .ref 93, .int v1], (zS I2 J tg))) (Runs.sld rfl (show (0 : Nat) < 2 by decide) c11) ?_
  refine Runs.sN 4 (c' := (1543, [.retAddr 0, .ref 0, .ref 93, .int x3], [.int (x3 + 2), .retAddr 0, .int (xs (x3 + 1).toNatClampNeg), .ref 93, .int v1], (zS I2 J tg))) rfl ?_
  obtain ⟨c12, h⟩ := h
  refine Runs.to (c' := (1544, [.retAddr 0, .ref 0, .ref 93, .int x3], [.int (xs (x3 + 2).toNatClampNeg), .int (xs (x3 + 1).toNatClampNeg), .ref 93, .int v1], (zS I2 J tg))) (Runs.sld rfl (show (0 : Nat) < 2 by decide) c12) ?_
  refine Runs.sN 4 (c' := (1548, [.retAddr 0, .ref 0, .ref 93, .int x3], [.int (x3 + 3), .retAddr 0, .int (xs (x3 + 2).toNatClampNeg), .int (xs (x3 + 1).toNatClampNeg), .ref 93, .int v1], (zS I2 J tg))) rfl ?_
  obtain ⟨c13, h⟩ := h
  refine Runs.to (c' := (1549, [.retAddr 0, .ref 0, .ref 93, .int x3], [.int (xs (x3 + 3).toNatClampNeg), .int (xs (x3 + 2).toNatClampNeg), .int (xs (x3 + 1).toNatClampNeg), .ref 93, .int v1], (zS I2 J tg))) (Runs.sld rfl (show (0 : Nat) < 2 by decide) c13) ?_
  refine Runs.sN 4 (c' := (1553, [.retAddr 0, .ref 0, .ref 93, .int x3], [.int (x3 + 4), .retAddr 0, .int (xs (x3 + 3).toNatClampNeg), .int (xs (x3 + 2).toNatClampNeg), .int (xs (x3 + 1).toNatClampNeg), .ref 93, .int v1], (zS I2 J tg))) rfl ?_
  obtain ⟨c14, h⟩ := h
  refine Runs.to (c' := (1554, [.retAddr 0, .ref 0, .ref 93, .int x3], [.int (xs (x3 + 4).toNatClampNeg), .int (xs (x3 + 3).toNatClampNeg), .int (xs (x3 + 2).toNatClampNeg), .int (xs (x3 + 1).toNatClampNeg), .ref 93, .int v1], (zS I2 J tg))) (Runs.sld rfl (show (0 : Nat) < 2 by decide) c14) ?_
  obtain ⟨v3, I4, J5, c15, h⟩ := h
  refine Runs.cl (cm := 286) (as := [.ref 93, .int (xs (x3 + 1).toNatClampNeg), .int (xs (x3 + 2).toNatClampNeg), .int (xs (x3 + 3).toNatClampNeg), .int (xs (x3 + 4).toNatClampNeg)]) (rest := [.int v1]) (r1 := ((some (.int v3)), (zS I4 J5 tg))) rfl (Nat.le_of_ble_eq_true rfl) c15 ?_
  refine Runs.as (c' := (1557, [.retAddr 0, .ref 0, .ref 93, .int x3], [.int v3, .int v1], (zS I4 J5 tg))) rfl ?_
  by_cases c16 : v1 = v3
  · rw [if_pos c16] at h
    refine Runs.brT (P := v1 = v3) (a := 1912) (b := 1560) (L := [.retAddr 0, .ref 0, .ref 93, .int x3]) (S := []) (z := (zS I4 J5 tg)) rfl c16 ?_
    exact h
  · rw [if_neg c16] at h
    refine Runs.brF (P := v1 = v3) (a := 1912) (b := 1560) (L := [.retAddr 0, .ref 0, .ref 93, .int x3]) (S := []) (z := (zS I4 J5 tg)) rfl c16 ?_
    refine Runs.sN 1 (c' := (1561, [.retAddr 0, .ref 0, .ref 93, .int x3], [.int 0], (zS I4 J5 tg))) rfl ?_
    subst h
    exact Runs.rt rfl
theorem sg_302_1562 {L d : Nat} {xs : Nat → Int32} (I : Nat → Nat → Int32) (J : Nat → Nat → Int64) (tg : Option Nat) (x3 : Int32) {r : Option Value × SS} (h : (¬ ((x3 + 1) < 0 ∨ L ≤ (x3 + 1).toNatClampNeg) ∧ ¬ ((x3 + 2) < 0 ∨ L ≤ (x3 + 2).toNatClampNeg) ∧ ¬ ((x3 + 3) < 0 ∨ L ≤ (x3 + 3).toNatClampNeg) ∧ ∃ (v1 : Int32) (I2 : Nat → Nat → Int32), Runs (GW L xs) d 152 (0, [.ref 0, .int (xs (x3 + 1).toNatClampNeg), .int (xs (x3 + 2).toNatClampNeg), .int (xs (x3 + 3).toNatClampNeg), vU, vU, vU], [], (zS I J tg)) ((some (.int v1)), (zS I2 J tg)) ∧ ¬ ((x3 + 1) < 0 ∨ L ≤ (x3 + 1).toNatClampNeg) ∧ ¬ ((x3 + 2) < 0 ∨ L ≤ (x3 + 2).toNatClampNeg) ∧ ¬ ((x3 + 3) < 0 ∨ L ≤ (x3 + 3).toNatClampNeg) ∧ ∃ (v3 : Int32) (I4 : Nat → Nat → Int32) (J5 : Nat → Nat → Int64), Runs (GW L xs) d 287 (0, [.ref 93, .int (xs (x3 + 1).toNatClampNeg), .int (xs (x3 + 2).toNatClampNeg), .int (xs (x3 + 3).toNatClampNeg), vU, vU, vU, vU], [], (zS I2 J tg)) ((some (.int v3)), (zS I4 J5 tg)) ∧ (if v1 = v3 then (Runs (GW L xs) (d + 1) 302 (1912, [.retAddr 0, .ref 0, .ref 93, .int x3], [], (zS I4 J5 tg)) r) else (r = (some (.int 0), (zS I4 J5 tg)))))) : Runs (GW L xs) (d + 1) 302 (1562, [.retAddr 0, .ref 0, .ref 93, .int x3], [], (zS I J tg)) r := by
  refine Runs.sN 5 (c' := (1567, [.retAddr 0, .ref 0, .ref 93, .int x3], [.int (x3 + 1), .retAddr 0, .ref 0], (zS I J tg))) rfl ?_
  obtain ⟨c6, h⟩ := h
  refine Runs.to (c' := (1568, [.retAddr 0, .ref 0, .ref 93, .int x3], [.int (xs (x3 + 1).toNatClampNeg), .ref 0], (zS I J tg))) (Runs.sld rfl (show (0 : Nat) < 2 by decide) c6) ?_
  refine Runs.sN 4 (c' := (1572, [.retAddr 0, .ref 0, .ref 93, .int x3], [.int (x3 + 2), .retAddr 0, .int (xs (x3 + 1).toNatClampNeg), .ref 0], (zS I J tg))) rfl ?_
  obtain ⟨c7, h⟩ := h
  refine Runs.to (c' := (1573, [.retAddr 0, .ref 0, .ref 93, .int x3], [.int (xs (x3 + 2).toNatClampNeg), .int (xs (x3 + 1).toNatClampNeg), .ref 0], (zS I J tg))) (Runs.sld rfl (show (0 : Nat) < 2 by decide) c7) ?_
  refine Runs.sN 4 (c' := (1577, [.retAddr 0, .ref 0, .ref 93, .int x3], [.int (x3 + 3), .retAddr 0, .int (xs (x3 + 2).toNatClampNeg), .int (xs (x3 + 1).toNatClampNeg), .ref 0], (zS I J tg))) rfl ?_
  obtain ⟨c8, h⟩ := h
  refine Runs.to (c' := (1578, [.retAddr 0, .ref 0, .ref 93, .int x3], [.int (xs (x3 + 3).toNatClampNeg), .int (xs (x3 + 2).toNatClampNeg), .int (xs (x3 + 1).toNatClampNeg), .ref 0], (zS I J tg))) (Runs.sld rfl (show (0 : Nat) < 2 by decide) c8) ?_
  obtain ⟨v1, I2, c9, h⟩ := h
  refine Runs.cl (cm := 152) (as := [.ref 0, .int (xs (x3 + 1).toNatClampNeg), .int (xs (x3 + 2).toNatClampNeg), .int (xs (x3 + 3).toNatClampNeg)]) (rest := []) (r1 := ((some (.int v1)), (zS I2 J tg))) rfl (Nat.le_of_ble_eq_true rfl) c9 ?_
  refine Runs.as (c' := (1581, [.retAddr 0, .ref 0, .ref 93, .int x3], [.int v1], (zS I2 J tg))) rfl ?_
  refine Runs.sN 5 (c' := (1586, [.retAddr 0, .ref 0, .ref 93, .int x3], [.int (x3 + 1), .retAddr 0, .ref 93, .int v1], (zS I2 J tg))) rfl ?_
  obtain ⟨c10, h⟩ := h
  refine Runs.to (c' := (1587, [.retAddr 0, .ref 0, .ref 93, .int x3], [.int (xs (x3 + 1).toNatClampNeg), .ref 93, .int v1], (zS I2 J tg))) (Runs.sld rfl (show (0 : Nat) < 2 by decide) c10) ?_
  refine Runs.sN 4 (c' := (1591, [.retAddr 0, .ref 0, .ref 93, .int x3], [.int (x3 + 2), .retAddr 0, .int (xs (x3 + 1).toNatClampNeg), .ref 93, .int v1], (zS I2 J tg))) rfl ?_
  obtain ⟨c11, h⟩ := h
  refine Runs.to (c' := (1592, [.retAddr 0, .ref 0, .ref 93, .int x3], [.int (xs (x3 + 2).toNatClampNeg), .int (xs (x3 + 1).toNatClampNeg), .ref 93, .int v1], (zS I2 J tg))) (Runs.sld rfl (show (0 : Nat) < 2 by decide) c11) ?_
  refine Runs.sN 4 (c' := (1596, [.retAddr 0, .ref 0, .ref 93, .int x3], [.int (x3 + 3), .retAddr 0, .int (xs (x3 + 2).toNatClampNeg), .int (xs (x3 + 1).toNatClampNeg), .ref 93, .int v1], (zS I2 J tg))) rfl ?_
  obtain ⟨c12, h⟩ := h
  refine Runs.to (c' := (1597, [.retAddr 0, .ref 0, .ref 93, .int x3], [.int (xs (x3 + 3).toNatClampNeg), .int (xs (x3 + 2).toNatClampNeg), .int (xs (x3 + 1).toNatClampNeg), .ref 93, .int v1], (zS I2 J tg))) (Runs.sld rfl (show (0 : Nat) < 2 by decide) c12) ?_
  obtain ⟨v3, I4, J5, c13, h⟩ := h
  refine Runs.cl (cm := 287) (as := [.ref 93, .int (xs (x3 + 1).toNatClampNeg), .int (xs (x3 + 2).toNatClampNeg), .int (xs (x3 + 3).toNatClampNeg)]) (rest := [.int v1]) (r1 := ((some (.int v3)), (zS I4 J5 tg))) rfl (Nat.le_of_ble_eq_true rfl) c13 ?_
  refine Runs.as (c' := (1600, [.retAddr 0, .ref 0, .ref 93, .int x3], [.int v3, .int v1], (zS I4 J5 tg))) rfl ?_
  by_cases c14 : v1 = v3
  · rw [if_pos c14] at h
    refine Runs.brT (P := v1 = v3) (a := 1912) (b := 1603) (L := [.retAddr 0, .ref 0, .ref 93, .int x3]) (S := []) (z := (zS I4 J5 tg)) rfl c14 ?_
    exact h
  · rw [if_neg c14] at h
    refine Runs.brF (P := v1 = v3) (a := 1912) (b := 1603) (L := [.retAddr 0, .ref 0, .ref 93, .int x3]) (S := []) (z := (zS I4 J5 tg)) rfl c14 ?_
    refine Runs.sN 1 (c' := (1604, [.retAddr 0, .ref 0, .ref 93, .int x3], [.int 0], (zS I4 J5 tg))) rfl ?_
    subst h
    exact Runs.rt rfl
theorem sg_302_1605 {L d : Nat} {xs : Nat → Int32} (I : Nat → Nat → Int32) (J : Nat → Nat → Int64) (tg : Option Nat) (x3 : Int32) {r : Option Value × SS} (h : (¬ ((x3 + 1) < 0 ∨ L ≤ (x3 + 1).toNatClampNeg) ∧ ∃ (v1 : Int32) (I2 : Nat → Nat → Int32), Runs (GW L xs) d 153 (0, [.ref 0, .int (xs (x3 + 1).toNatClampNeg)], [], (zS I J tg)) ((some (.int v1)), (zS I2 J tg)) ∧ ¬ ((x3 + 1) < 0 ∨ L ≤ (x3 + 1).toNatClampNeg) ∧ ∃ (v3 : Int32) (I4 : Nat → Nat → Int32) (J5 : Nat → Nat → Int64), Runs (GW L xs) d 288 (0, [.ref 93, .int (xs (x3 + 1).toNatClampNeg)], [], (zS I2 J tg)) ((some (.int v3)), (zS I4 J5 tg)) ∧ (if v1 = v3 then (Runs (GW L xs) (d + 1) 302 (1912, [.retAddr 0, .ref 0, .ref 93, .int x3], [], (zS I4 J5 tg)) r) else (r = (some (.int 0), (zS I4 J5 tg)))))) : Runs (GW L xs) (d + 1) 302 (1605, [.retAddr 0, .ref 0, .ref 93, .int x3], [], (zS I J tg)) r := by
  refine Runs.sN 5 (c' := (1610, [.retAddr 0, .ref 0, .ref 93, .int x3], [.int (x3 + 1), .retAddr 0, .ref 0], (zS I J tg))) rfl ?_
  obtain ⟨c6, h⟩ := h
  refine Runs.to (c' := (1611, [.retAddr 0, .ref 0, .ref 93, .int x3], [.int (xs (x3 + 1).toNatClampNeg), .ref 0], (zS I J tg))) (Runs.sld rfl (show (0 : Nat) < 2 by decide) c6) ?_
  obtain ⟨v1, I2, c7, h⟩ := h
  refine Runs.cl (cm := 153) (as := [.ref 0, .int (xs (x3 + 1).toNatClampNeg)]) (rest := []) (r1 := ((some (.int v1)), (zS I2 J tg))) rfl (Nat.le_of_ble_eq_true rfl) c7 ?_
  refine Runs.as (c' := (1614, [.retAddr 0, .ref 0, .ref 93, .int x3], [.int v1], (zS I2 J tg))) rfl ?_
  refine Runs.sN 5 (c' := (1619, [.retAddr 0, .ref 0, .ref 93, .int x3], [.int (x3 + 1), .retAddr 0, .ref 93, .int v1], (zS I2 J tg))) rfl ?_
  obtain ⟨c8, h⟩ := h
  refine Runs.to (c' := (1620, [.retAddr 0, .ref 0, .ref 93, .int x3], [.int (xs (x3 + 1).toNatClampNeg), .ref 93, .int v1], (zS I2 J tg))) (Runs.sld rfl (show (0 : Nat) < 2 by decide) c8) ?_
  obtain ⟨v3, I4, J5, c9, h⟩ := h
  refine Runs.cl (cm := 288) (as := [.ref 93, .int (xs (x3 + 1).toNatClampNeg)]) (rest := [.int v1]) (r1 := ((some (.int v3)), (zS I4 J5 tg))) rfl (Nat.le_of_ble_eq_true rfl) c9 ?_
  refine Runs.as (c' := (1623, [.retAddr 0, .ref 0, .ref 93, .int x3], [.int v3, .int v1], (zS I4 J5 tg))) rfl ?_
  by_cases c10 : v1 = v3
  · rw [if_pos c10] at h
    refine Runs.brT (P := v1 = v3) (a := 1912) (b := 1626) (L := [.retAddr 0, .ref 0, .ref 93, .int x3]) (S := []) (z := (zS I4 J5 tg)) rfl c10 ?_
    exact h
  · rw [if_neg c10] at h
    refine Runs.brF (P := v1 = v3) (a := 1912) (b := 1626) (L := [.retAddr 0, .ref 0, .ref 93, .int x3]) (S := []) (z := (zS I4 J5 tg)) rfl c10 ?_
    refine Runs.sN 1 (c' := (1627, [.retAddr 0, .ref 0, .ref 93, .int x3], [.int 0], (zS I4 J5 tg))) rfl ?_
    subst h
    exact Runs.rt rfl
theorem sg_302_1628 {L d : Nat} {xs : Nat → Int32} (I : Nat → Nat → Int32) (J : Nat → Nat → Int64) (tg : Option Nat) (x3 : Int32) {r : Option Value × SS} (h : (¬ ((x3 + 1) < 0 ∨ L ≤ (x3 + 1).toNatClampNeg) ∧ ¬ ((x3 + 2) < 0 ∨ L ≤ (x3 + 2).toNatClampNeg) ∧ ¬ ((x3 + 3) < 0 ∨ L ≤ (x3 + 3).toNatClampNeg) ∧ ¬ ((x3 + 4) < 0 ∨ L ≤ (x3 + 4).toNatClampNeg) ∧ ∃ (v1 : Int32) (I2 : Nat → Nat → Int32), Runs (GW L xs) d 154 (0, [.ref 0, .int (xs (x3 + 1).toNatClampNeg), .int (xs (x3 + 2).toNatClampNeg), .int (xs (x3 + 3).toNatClampNeg), .int (xs (x3 + 4).toNatClampNeg), vU], [], (zS I J tg)) ((some (.int v1)), (zS I2 J tg)) ∧ ¬ ((x3 + 1) < 0 ∨ L ≤ (x3 + 1).toNatClampNeg) ∧ ¬ ((x3 + 2) < 0 ∨ L ≤ (x3 + 2).toNatClampNeg) ∧ ¬ ((x3 + 3) < 0 ∨ L ≤ (x3 + 3).toNatClampNeg) ∧ ¬ ((x3 + 4) < 0 ∨ L ≤ (x3 + 4).toNatClampNeg) ∧ ∃ (v3 : Int32) (I4 : Nat → Nat → Int32) (J5 : Nat → Nat → Int64), Runs (GW L xs) d 289 (0, [.ref 93, .int (xs (x3 + 1).toNatClampNeg), .int (xs (x3 + 2).toNatClampNeg), .int (xs (x3 + 3).toNatClampNeg), .int (xs (x3 + 4).toNatClampNeg), vU], [], (zS I2 J tg)) ((some (.int v3)), (zS I4 J5 tg)) ∧ (if v1 = v3 then (Runs (GW L xs) (d + 1) 302 (1912, [.retAddr 0, .ref 0, .ref 93, .int x3], [], (zS I4 J5 tg)) r) else (r = (some (.int 0), (zS I4 J5 tg)))))) : Runs (GW L xs) (d + 1) 302 (1628, [.retAddr 0, .ref 0, .ref 93, .int x3], [], (zS I J tg)) r := by
  refine Runs.sN 5 (c' := (1633, [.retAddr 0, .ref 0, .ref 93, .int x3], [.int (x3 + 1), .retAddr 0, .ref 0], (zS I J tg))) rfl ?_
  obtain ⟨c6, h⟩ := h
  refine Runs.to (c' := (1634, [.retAddr 0, .ref 0, .ref 93, .int x3], [.int (xs (x3 + 1).toNatClampNeg), .ref 0], (zS I J tg))) (Runs.sld rfl (show (0 : Nat) < 2 by decide) c6) ?_
  refine Runs.sN 4 (c' := (1638, [.retAddr 0, .ref 0, .ref 93, .int x3], [.int (x3 + 2), .retAddr 0, .int (xs (x3 + 1).toNatClampNeg), .ref 0], (zS I J tg))) rfl ?_
  obtain ⟨c7, h⟩ := h
  refine Runs.to (c' := (1639, [.retAddr 0, .ref 0, .ref 93, .int x3], [.int (xs (x3 + 2).toNatClampNeg), .int (xs (x3 + 1).toNatClampNeg), .ref 0], (zS I J tg))) (Runs.sld rfl (show (0 : Nat) < 2 by decide) c7) ?_
  refine Runs.sN 4 (c' := (1643, [.retAddr 0, .ref 0, .ref 93, .int x3], [.int (x3 + 3), .retAddr 0, .int (xs (x3 + 2).toNatClampNeg), .int (xs (x3 + 1).toNatClampNeg), .ref 0], (zS I J tg))) rfl ?_
  obtain ⟨c8, h⟩ := h
  refine Runs.to (c' := (1644, [.retAddr 0, .ref 0, .ref 93, .int x3], [.int (xs (x3 + 3).toNatClampNeg), .int (xs (x3 + 2).toNatClampNeg), .int (xs (x3 + 1).toNatClampNeg), .ref 0], (zS I J tg))) (Runs.sld rfl (show (0 : Nat) < 2 by decide) c8) ?_
  refine Runs.sN 4 (c' := (1648, [.retAddr 0, .ref 0, .ref 93, .int x3], [.int (x3 + 4), .retAddr 0, .int (xs (x3 + 3).toNatClampNeg), .int (xs (x3 + 2).toNatClampNeg), .int (xs (x3 + 1).toNatClampNeg), .ref 0], (zS I J tg))) rfl ?_
  obtain ⟨c9, h⟩ := h
  refine Runs.to (c' := (1649, [.retAddr 0, .ref 0, .ref 93, .int x3], [.int (xs (x3 + 4).toNatClampNeg), .int (xs (x3 + 3).toNatClampNeg), .int (xs (x3 + 2).toNatClampNeg), .int (xs (x3 + 1).toNatClampNeg), .ref 0], (zS I J tg))) (Runs.sld rfl (show (0 : Nat) < 2 by decide) c9) ?_
  obtain ⟨v1, I2, c10, h⟩ := h
  refine Runs.cl (cm := 154) (as := [.ref 0, .int (xs (x3 + 1).toNatClampNeg), .int (xs (x3 + 2).toNatClampNeg), .int (xs (x3 + 3).toNatClampNeg), .int (xs (x3 + 4).toNatClampNeg)]) (rest := []) (r1 := ((some (.int v1)), (zS I2 J tg))) rfl (Nat.le_of_ble_eq_true rfl) c10 ?_
  refine Runs.as (c' := (1652, [.retAddr 0, .ref 0, .ref 93, .int x3], [.int v1], (zS I2 J tg))) rfl ?_
  refine Runs.sN 5 (c' := (1657, [.retAddr 0, .ref 0, .ref 93, .int x3], [.int (x3 + 1), .retAddr 0, .ref 93, .int v1], (zS I2 J tg))) rfl ?_
  obtain ⟨c11, h⟩ := h
  refine Runs.to (c' := (1658, [.retAddr 0, .ref 0, .ref 93, .int x3], [.int (xs (x3 + 1).toNatClampNeg), .ref 93, .int v1], (zS I2 J tg))) (Runs.sld rfl (show (0 : Nat) < 2 by decide) c11) ?_
  refine Runs.sN 4 (c' := (1662, [.retAddr 0, .ref 0, .ref 93, .int x3], [.int (x3 + 2), .retAddr 0, .int (xs (x3 + 1).toNatClampNeg), .ref 93, .int v1], (zS I2 J tg))) rfl ?_
  obtain ⟨c12, h⟩ := h
  refine Runs.to (c' := (1663, [.retAddr 0, .ref 0, .ref 93, .int x3], [.int (xs (x3 + 2).toNatClampNeg), .int (xs (x3 + 1).toNatClampNeg), .ref 93, .int v1], (zS I2 J tg))) (Runs.sld rfl (show (0 : Nat) < 2 by decide) c12) ?_
  refine Runs.sN 4 (c' := (1667, [.retAddr 0, .ref 0, .ref 93, .int x3], [.int (x3 + 3), .retAddr 0, .int (xs (x3 + 2).toNatClampNeg), .int (xs (x3 + 1).toNatClampNeg), .ref 93, .int v1], (zS I2 J tg))) rfl ?_
  obtain ⟨c13, h⟩ := h
  refine Runs.to (c' := (1668, [.retAddr 0, .ref 0, .ref 93, .int x3], [.int (xs (x3 + 3).toNatClampNeg), .int (xs (x3 + 2).toNatClampNeg), .int (xs (x3 + 1).toNatClampNeg), .ref 93, .int v1], (zS I2 J tg))) (Runs.sld rfl (show (0 : Nat) < 2 by decide) c13) ?_
  refine Runs.sN 4 (c' := (1672, [.retAddr 0, .ref 0, .ref 93, .int x3], [.int (x3 + 4), .retAddr 0, .int (xs (x3 + 3).toNatClampNeg), .int (xs (x3 + 2).toNatClampNeg), .int (xs (x3 + 1).toNatClampNeg), .ref 93, .int v1], (zS I2 J tg))) rfl ?_
  obtain ⟨c14, h⟩ := h
  refine Runs.to (c' := (1673, [.retAddr 0, .ref 0, .ref 93, .int x3], [.int (xs (x3 + 4).toNatClampNeg), .int (xs (x3 + 3).toNatClampNeg), .int (xs (x3 + 2).toNatClampNeg), .int (xs (x3 + 1).toNatClampNeg), .ref 93, .int v1], (zS I2 J tg))) (Runs.sld rfl (show (0 : Nat) < 2 by decide) c14) ?_
  obtain ⟨v3, I4, J5, c15, h⟩ := h
  refine Runs.cl (cm := 289) (as := [.ref 93, .int (xs (x3 + 1).toNatClampNeg), .int (xs (x3 + 2).toNatClampNeg), .int (xs (x3 + 3).toNatClampNeg), .int (xs (x3 + 4).toNatClampNeg)]) (rest := [.int v1]) (r1 := ((some (.int v3)), (zS I4 J5 tg))) rfl (Nat.le_of_ble_eq_true rfl) c15 ?_
  refine Runs.as (c' := (1676, [.retAddr 0, .ref 0, .ref 93, .int x3], [.int v3, .int v1], (zS I4 J5 tg))) rfl ?_
  by_cases c16 : v1 = v3
  · rw [if_pos c16] at h
    refine Runs.brT (P := v1 = v3) (a := 1912) (b := 1679) (L := [.retAddr 0, .ref 0, .ref 93, .int x3]) (S := []) (z := (zS I4 J5 tg)) rfl c16 ?_
    exact h
  · rw [if_neg c16] at h
    refine Runs.brF (P := v1 = v3) (a := 1912) (b := 1679) (L := [.retAddr 0, .ref 0, .ref 93, .int x3]) (S := []) (z := (zS I4 J5 tg)) rfl c16 ?_
    refine Runs.sN 1 (c' := (1680, [.retAddr 0, .ref 0, .ref 93, .int x3], [.int 0], (zS I4 J5 tg))) rfl ?_
    subst h
    exact Runs.rt rfl
theorem sg_302_1681 {L d : Nat} {xs : Nat → Int32} (I : Nat → Nat → Int32) (J : Nat → Nat → Int64) (tg : Option Nat) (x3 : Int32) {r : Option Value × SS} (h : (¬ ((x3 + 1) < 0 ∨ L ≤ (x3 + 1).toNatClampNeg) ∧ ¬ ((x3 + 2) < 0 ∨ L ≤ (x3 + 2).toNatClampNeg) ∧ ¬ ((x3 + 3) < 0 ∨ L ≤ (x3 + 3).toNatClampNeg) ∧ ∃ (v1 : Int32) (I2 : Nat → Nat → Int32), Runs (GW L xs) d 155 (0, [.ref 0, .int (xs (x3 + 1).toNatClampNeg), .int (xs (x3 + 2).toNatClampNeg), .int (xs (x3 + 3).toNatClampNeg)], [], (zS I J tg)) ((some (.int v1)), (zS I2 J tg)) ∧ ¬ ((x3 + 1) < 0 ∨ L ≤ (x3 + 1).toNatClampNeg) ∧ ¬ ((x3 + 2) < 0 ∨ L ≤ (x3 + 2).toNatClampNeg) ∧ ¬ ((x3 + 3) < 0 ∨ L ≤ (x3 + 3).toNatClampNeg) ∧ ∃ (v3 : Int32) (I4 : Nat → Nat → Int32) (J5 : Nat → Nat → Int64), Runs (GW L xs) d 292 (0, [.ref 93, .int (xs (x3 + 1).toNatClampNeg), .int (xs (x3 + 2).toNatClampNeg), .int (xs (x3 + 3).toNatClampNeg), vU, vU], [], (zS I2 J tg)) ((some (.int v3)), (zS I4 J5 tg)) ∧ (if v1 = v3 then (Runs (GW L xs) (d + 1) 302 (1912, [.retAddr 0, .ref 0, .ref 93, .int x3], [], (zS I4 J5 tg)) r) else (r = (some (.int 0), (zS I4 J5 tg)))))) : Runs (GW L xs) (d + 1) 302 (1681, [.retAddr 0, .ref 0, .ref 93, .int x3], [], (zS I J tg)) r := by
  refine Runs.sN 5 (c' := (1686, [.retAddr 0, .ref 0, .ref 93, .int x3], [.int (x3 + 1), .retAddr 0, .ref 0], (zS I J tg))) rfl ?_
  obtain ⟨c6, h⟩ := h
  refine Runs.to (c' := (1687, [.retAddr 0, .ref 0, .ref 93, .int x3], [.int (xs (x3 + 1).toNatClampNeg), .ref 0], (zS I J tg))) (Runs.sld rfl (show (0 : Nat) < 2 by decide) c6) ?_
  refine Runs.sN 4 (c' := (1691, [.retAddr 0, .ref 0, .ref 93, .int x3], [.int (x3 + 2), .retAddr 0, .int (xs (x3 + 1).toNatClampNeg), .ref 0], (zS I J tg))) rfl ?_
  obtain ⟨c7, h⟩ := h
  refine Runs.to (c' := (1692, [.retAddr 0, .ref 0, .ref 93, .int x3], [.int (xs (x3 + 2).toNatClampNeg), .int (xs (x3 + 1).toNatClampNeg), .ref 0], (zS I J tg))) (Runs.sld rfl (show (0 : Nat) < 2 by decide) c7) ?_
  refine Runs.sN 4 (c' := (1696, [.retAddr 0, .ref 0, .ref 93, .int x3], [.int (x3 + 3), .retAddr 0, .int (xs (x3 + 2).toNatClampNeg), .int (xs (x3 + 1).toNatClampNeg), .ref 0], (zS I J tg))) rfl ?_
  obtain ⟨c8, h⟩ := h
  refine Runs.to (c' := (1697, [.retAddr 0, .ref 0, .ref 93, .int x3], [.int (xs (x3 + 3).toNatClampNeg), .int (xs (x3 + 2).toNatClampNeg), .int (xs (x3 + 1).toNatClampNeg), .ref 0], (zS I J tg))) (Runs.sld rfl (show (0 : Nat) < 2 by decide) c8) ?_
  obtain ⟨v1, I2, c9, h⟩ := h
  refine Runs.cl (cm := 155) (as := [.ref 0, .int (xs (x3 + 1).toNatClampNeg), .int (xs (x3 + 2).toNatClampNeg), .int (xs (x3 + 3).toNatClampNeg)]) (rest := []) (r1 := ((some (.int v1)), (zS I2 J tg))) rfl (Nat.le_of_ble_eq_true rfl) c9 ?_
  refine Runs.as (c' := (1700, [.retAddr 0, .ref 0, .ref 93, .int x3], [.int v1], (zS I2 J tg))) rfl ?_
  refine Runs.sN 5 (c' := (1705, [.retAddr 0, .ref 0, .ref 93, .int x3], [.int (x3 + 1), .retAddr 0, .ref 93, .int v1], (zS I2 J tg))) rfl ?_
  obtain ⟨c10, h⟩ := h
  refine Runs.to (c' := (1706, [.retAddr 0, .ref 0, .ref 93, .int x3], [.int (xs (x3 + 1).toNatClampNeg), .ref 93, .int v1], (zS I2 J tg))) (Runs.sld rfl (show (0 : Nat) < 2 by decide) c10) ?_
  refine Runs.sN 4 (c' := (1710, [.retAddr 0, .ref 0, .ref 93, .int x3], [.int (x3 + 2), .retAddr 0, .int (xs (x3 + 1).toNatClampNeg), .ref 93, .int v1], (zS I2 J tg))) rfl ?_
  obtain ⟨c11, h⟩ := h
  refine Runs.to (c' := (1711, [.retAddr 0, .ref 0, .ref 93, .int x3], [.int (xs (x3 + 2).toNatClampNeg), .int (xs (x3 + 1).toNatClampNeg), .ref 93, .int v1], (zS I2 J tg))) (Runs.sld rfl (show (0 : Nat) < 2 by decide) c11) ?_
  refine Runs.sN 4 (c' := (1715, [.retAddr 0, .ref 0, .ref 93, .int x3], [.int (x3 + 3), .retAddr 0, .int (xs (x3 + 2).toNatClampNeg), .int (xs (x3 + 1).toNatClampNeg), .ref 93, .int v1], (zS I2 J tg))) rfl ?_
  obtain ⟨c12, h⟩ := h
  refine Runs.to (c' := (1716, [.retAddr 0, .ref 0, .ref 93, .int x3], [.int (xs (x3 + 3).toNatClampNeg), .int (xs (x3 + 2).toNatClampNeg), .int (xs (x3 + 1).toNatClampNeg), .ref 93, .int v1], (zS I2 J tg))) (Runs.sld rfl (show (0 : Nat) < 2 by decide) c12) ?_
  obtain ⟨v3, I4, J5, c13, h⟩ := h
  refine Runs.cl (cm := 292) (as := [.ref 93, .int (xs (x3 + 1).toNatClampNeg), .int (xs (x3 + 2).toNatClampNeg), .int (xs (x3 + 3).toNatClampNeg)]) (rest := [.int v1]) (r1 := ((some (.int v3)), (zS I4 J5 tg))) rfl (Nat.le_of_ble_eq_true rfl) c13 ?_
  refine Runs.as (c' := (1719, [.retAddr 0, .ref 0, .ref 93, .int x3], [.int v3, .int v1], (zS I4 J5 tg))) rfl ?_
  by_cases c14 : v1 = v3
  · rw [if_pos c14] at h
    refine Runs.brT (P := v1 = v3) (a := 1912) (b := 1722) (L := [.retAddr 0, .ref 0, .ref 93, .int x3]) (S := []) (z := (zS I4 J5 tg)) rfl c14 ?_
    exact h
  · rw [if_neg c14] at h
    refine Runs.brF (P := v1 = v3) (a := 1912) (b := 1722) (L := [.retAddr 0, .ref 0, .ref 93, .int x3]) (S := []) (z := (zS I4 J5 tg)) rfl c14 ?_
    refine Runs.sN 1 (c' := (1723, [.retAddr 0, .ref 0, .ref 93, .int x3], [.int 0], (zS I4 J5 tg))) rfl ?_
    subst h
    exact Runs.rt rfl
theorem sg_302_1724 {L d : Nat} {xs : Nat → Int32} (I : Nat → Nat → Int32) (J : Nat → Nat → Int64) (tg : Option Nat) (x3 : Int32) {r : Option Value × SS} (h : (¬ ((x3 + 1) < 0 ∨ L ≤ (x3 + 1).toNatClampNeg) ∧ ¬ ((x3 + 2) < 0 ∨ L ≤ (x3 + 2).toNatClampNeg) ∧ ¬ ((x3 + 3) < 0 ∨ L ≤ (x3 + 3).toNatClampNeg) ∧ ∃ (v1 : Int32) (I2 : Nat → Nat → Int32), Runs (GW L xs) d 156 (0, [.ref 0, .int (xs (x3 + 1).toNatClampNeg), .int (xs (x3 + 2).toNatClampNeg), .int (xs (x3 + 3).toNatClampNeg)], [], (zS I J tg)) ((some (.int v1)), (zS I2 J tg)) ∧ ¬ ((x3 + 1) < 0 ∨ L ≤ (x3 + 1).toNatClampNeg) ∧ ¬ ((x3 + 2) < 0 ∨ L ≤ (x3 + 2).toNatClampNeg) ∧ ¬ ((x3 + 3) < 0 ∨ L ≤ (x3 + 3).toNatClampNeg) ∧ ∃ (v3 : Int32) (I4 : Nat → Nat → Int32) (J5 : Nat → Nat → Int64), Runs (GW L xs) d 293 (0, [.ref 93, .int (xs (x3 + 1).toNatClampNeg), .int (xs (x3 + 2).toNatClampNeg), .int (xs (x3 + 3).toNatClampNeg), vU, vU, vU], [], (zS I2 J tg)) ((some (.int v3)), (zS I4 J5 tg)) ∧ (if v1 = v3 then (Runs (GW L xs) (d + 1) 302 (1912, [.retAddr 0, .ref 0, .ref 93, .int x3], [], (zS I4 J5 tg)) r) else (r = (some (.int 0), (zS I4 J5 tg)))))) : Runs (GW L xs) (d + 1) 302 (1724, [.retAddr 0, .ref 0, .ref 93, .int x3], [], (zS I J tg)) r := by
  refine Runs.sN 5 (c' := (1729, [.retAddr 0, .ref 0, .ref 93, .int x3], [.int (x3 + 1), .retAddr 0, .ref 0], (zS I J tg))) rfl ?_
  obtain ⟨c6, h⟩ := h
  refine Runs.to (c' := (1730, [.retAddr 0, .ref 0, .ref 93, .int x3], [.int (xs (x3 + 1).toNatClampNeg), .ref 0], (zS I J tg))) (Runs.sld rfl (show (0 : Nat) < 2 by decide) c6) ?_
  refine Runs.sN 4 (c' := (1734, [.retAddr 0, .ref 0, .ref 93, .int x3], [.int (x3 + 2), .retAddr 0, .int (xs (x3 + 1).toNatClampNeg), .ref 0], (zS I J tg))) rfl ?_
  obtain ⟨c7, h⟩ := h
  refine Runs.to (c' := (1735, [.retAddr 0, .ref 0, .ref 93, .int x3], [.int (xs (x3 + 2).toNatClampNeg), .int (xs (x3 + 1).toNatClampNeg), .ref 0], (zS I J tg))) (Runs.sld rfl (show (0 : Nat) < 2 by decide) c7) ?_
  refine Runs.sN 4 (c' := (1739, [.retAddr 0, .ref 0, .ref 93, .int x3], [.int (x3 + 3), .retAddr 0, .int (xs (x3 + 2).toNatClampNeg), .int (xs (x3 + 1).toNatClampNeg), .ref 0], (zS I J tg))) rfl ?_
  obtain ⟨c8, h⟩ := h
  refine Runs.to (c' := (1740, [.retAddr 0, .ref 0, .ref 93, .int x3], [.int (xs (x3 + 3).toNatClampNeg), .int (xs (x3 + 2).toNatClampNeg), .int (xs (x3 + 1).toNatClampNeg), .ref 0], (zS I J tg))) (Runs.sld rfl (show (0 : Nat) < 2 by decide) c8) ?_
  obtain ⟨v1, I2, c9, h⟩ := h
  refine Runs.cl (cm := 156) (as := [.ref 0, .int (xs (x3 + 1).toNatClampNeg), .int (xs (x3 + 2).toNatClampNeg), .int (xs (x3 + 3).toNatClampNeg)]) (rest := []) (r1 := ((some (.int v1)), (zS I2 J tg))) rfl (Nat.le_of_ble_eq_true rfl) c9 ?_
  refine Runs.as (c' := (1743, [.retAddr 0, .ref 0, .ref 93, .int x3], [.int v1], (zS I2 J tg))) rfl ?_
  refine Runs.sN 5 (c' := (1748, [.retAddr 0, .ref 0, .ref 93, .int x3], [.int (x3 + 1), .retAddr 0, .ref 93, .int v1], (zS I2 J tg))) rfl ?_
  obtain ⟨c10, h⟩ := h
  refine Runs.to (c' := (1749, [.retAddr 0, .ref 0, .ref 93, .int x3], [.int (xs (x3 + 1).toNatClampNeg), .ref 93, .int v1], (zS I2 J tg))) (Runs.sld rfl (show (0 : Nat) < 2 by decide) c10) ?_
  refine Runs.sN 4 (c' := (1753, [.retAddr 0, .ref 0, .ref 93, .int x3], [.int (x3 + 2), .retAddr 0, .int (xs (x3 + 1).toNatClampNeg), .ref 93, .int v1], (zS I2 J tg))) rfl ?_
  obtain ⟨c11, h⟩ := h
  refine Runs.to (c' := (1754, [.retAddr 0, .ref 0, .ref 93, .int x3], [.int (xs (x3 + 2).toNatClampNeg), .int (xs (x3 + 1).toNatClampNeg), .ref 93, .int v1], (zS I2 J tg))) (Runs.sld rfl (show (0 : Nat) < 2 by decide) c11) ?_
  refine Runs.sN 4 (c' := (1758, [.retAddr 0, .ref 0, .ref 93, .int x3], [.int (x3 + 3), .retAddr 0, .int (xs (x3 + 2).toNatClampNeg), .int (xs (x3 + 1).toNatClampNeg), .ref 93, .int v1], (zS I2 J tg))) rfl ?_
  obtain ⟨c12, h⟩ := h
  refine Runs.to (c' := (1759, [.retAddr 0, .ref 0, .ref 93, .int x3], [.int (xs (x3 + 3).toNatClampNeg), .int (xs (x3 + 2).toNatClampNeg), .int (xs (x3 + 1).toNatClampNeg), .ref 93, .int v1], (zS I2 J tg))) (Runs.sld rfl (show (0 : Nat) < 2 by decide) c12) ?_
  obtain ⟨v3, I4, J5, c13, h⟩ := h
  refine Runs.cl (cm := 293) (as := [.ref 93, .int (xs (x3 + 1).toNatClampNeg), .int (xs (x3 + 2).toNatClampNeg), .int (xs (x3 + 3).toNatClampNeg)]) (rest := [.int v1]) (r1 := ((some (.int v3)), (zS I4 J5 tg))) rfl (Nat.le_of_ble_eq_true rfl) c13 ?_
  refine Runs.as (c' := (1762, [.retAddr 0, .ref 0, .ref 93, .int x3], [.int v3, .int v1], (zS I4 J5 tg))) rfl ?_
  by_cases c14 : v1 = v3
  · rw [if_pos c14] at h
    refine Runs.brT (P := v1 = v3) (a := 1912) (b := 1765) (L := [.retAddr 0, .ref 0, .ref 93, .int x3]) (S := []) (z := (zS I4 J5 tg)) rfl c14 ?_
    exact h
  · rw [if_neg c14] at h
    refine Runs.brF (P := v1 = v3) (a := 1912) (b := 1765) (L := [.retAddr 0, .ref 0, .ref 93, .int x3]) (S := []) (z := (zS I4 J5 tg)) rfl c14 ?_
    refine Runs.sN 1 (c' := (1766, [.retAddr 0, .ref 0, .ref 93, .int x3], [.int 0], (zS I4 J5 tg))) rfl ?_
    subst h
    exact Runs.rt rfl
theorem sg_302_1767 {L d : Nat} {xs : Nat → Int32} (I : Nat → Nat → Int32) (J : Nat → Nat → Int64) (tg : Option Nat) (x3 : Int32) {r : Option Value × SS} (h : (¬ ((x3 + 1) < 0 ∨ L ≤ (x3 + 1).toNatClampNeg) ∧ ¬ ((x3 + 2) < 0 ∨ L ≤ (x3 + 2).toNatClampNeg) ∧ ¬ ((x3 + 3) < 0 ∨ L ≤ (x3 + 3).toNatClampNeg) ∧ ∃ (v1 : Int32) (I2 : Nat → Nat → Int32), Runs (GW L xs) d 157 (0, [.ref 0, .int (xs (x3 + 1).toNatClampNeg), .int (xs (x3 + 2).toNatClampNeg), .int (xs (x3 + 3).toNatClampNeg)], [], (zS I J tg)) ((some (.int v1)), (zS I2 J tg)) ∧ ¬ ((x3 + 1) < 0 ∨ L ≤ (x3 + 1).toNatClampNeg) ∧ ¬ ((x3 + 2) < 0 ∨ L ≤ (x3 + 2).toNatClampNeg) ∧ ¬ ((x3 + 3) < 0 ∨ L ≤ (x3 + 3).toNatClampNeg) ∧ ∃ (v3 : Int32) (I4 : Nat → Nat → Int32) (J5 : Nat → Nat → Int64), Runs (GW L xs) d 294 (0, [.ref 93, .int (xs (x3 + 1).toNatClampNeg), .int (xs (x3 + 2).toNatClampNeg), .int (xs (x3 + 3).toNatClampNeg), vU, vU, vU, vU, vU, vU, vU], [], (zS I2 J tg)) ((some (.int v3)), (zS I4 J5 tg)) ∧ (if v1 = v3 then (Runs (GW L xs) (d + 1) 302 (1912, [.retAddr 0, .ref 0, .ref 93, .int x3], [], (zS I4 J5 tg)) r) else (r = (some (.int 0), (zS I4 J5 tg)))))) : Runs (GW L xs) (d + 1) 302 (1767, [.retAddr 0, .ref 0, .ref 93, .int x3], [], (zS I J tg)) r := by
  refine Runs.sN 5 (c' := (1772, [.retAddr 0, .ref 0, .ref 93, .int x3], [.int (x3 + 1), .retAddr 0, .ref 0], (zS I J tg))) rfl ?_
  obtain ⟨c6, h⟩ := h
  refine Runs.to (c' := (1773, [.retAddr 0, .ref 0, .ref 93, .int x3], [.int (xs (x3 + 1).toNatClampNeg), .ref 0], (zS I J tg))) (Runs.sld rfl (show (0 : Nat) < 2 by decide) c6) ?_
  refine Runs.sN 4 (c' := (1777, [.retAddr 0, .ref 0, .ref 93, .int x3], [.int (x3 + 2), .retAddr 0, .int (xs (x3 + 1).toNatClampNeg), .ref 0], (zS I J tg))) rfl ?_
  obtain ⟨c7, h⟩ := h
  refine Runs.to (c' := (1778, [.retAddr 0, .ref 0, .ref 93, .int x3], [.int (xs (x3 + 2).toNatClampNeg), .int (xs (x3 + 1).toNatClampNeg), .ref 0], (zS I J tg))) (Runs.sld rfl (show (0 : Nat) < 2 by decide) c7) ?_
  refine Runs.sN 4 (c' := (1782, [.retAddr 0, .ref 0, .ref 93, .int x3], [.int (x3 + 3), .retAddr 0, .int (xs (x3 + 2).toNatClampNeg), .int (xs (x3 + 1).toNatClampNeg), .ref 0], (zS I J tg))) rfl ?_
  obtain ⟨c8, h⟩ := h
  refine Runs.to (c' := (1783, [.retAddr 0, .ref 0, .ref 93, .int x3], [.int (xs (x3 + 3).toNatClampNeg), .int (xs (x3 + 2).toNatClampNeg), .int (xs (x3 + 1).toNatClampNeg), .ref 0], (zS I J tg))) (Runs.sld rfl (show (0 : Nat) < 2 by decide) c8) ?_
  obtain ⟨v1, I2, c9, h⟩ := h
  refine Runs.cl (cm := 157) (as := [.ref 0, .int (xs (x3 + 1).toNatClampNeg), .int (xs (x3 + 2).toNatClampNeg), .int (xs (x3 + 3).toNatClampNeg)]) (rest := []) (r1 := ((some (.int v1)), (zS I2 J tg))) rfl (Nat.le_of_ble_eq_true rfl) c9 ?_
  refine Runs.as (c' := (1786, [.retAddr 0, .ref 0, .ref 93, .int x3], [.int v1], (zS I2 J tg))) rfl ?_
  refine Runs.sN 5 (c' := (1791, [.retAddr 0, .ref 0, .ref 93, .int x3], [.int (x3 + 1), .retAddr 0, .ref 93, .int v1], (zS I2 J tg))) rfl ?_
  obtain ⟨c10, h⟩ := h
  refine Runs.to (c' := (1792, [.retAddr 0, .ref 0, .ref 93, .int x3], [.int (xs (x3 + 1).toNatClampNeg), .ref 93, .int v1], (zS I2 J tg))) (Runs.sld rfl (show (0 : Nat) < 2 by decide) c10) ?_
  refine Runs.sN 4 (c' := (1796, [.retAddr 0, .ref 0, .ref 93, .int x3], [.int (x3 + 2), .retAddr 0, .int (xs (x3 + 1).toNatClampNeg), .ref 93, .int v1], (zS I2 J tg))) rfl ?_
  obtain ⟨c11, h⟩ := h
  refine Runs.to (c' := (1797, [.retAddr 0, .ref 0, .ref 93, .int x3], [.int (xs (x3 + 2).toNatClampNeg), .int (xs (x3 + 1).toNatClampNeg), .ref 93, .int v1], (zS I2 J tg))) (Runs.sld rfl (show (0 : Nat) < 2 by decide) c11) ?_
  refine Runs.sN 4 (c' := (1801, [.retAddr 0, .ref 0, .ref 93, .int x3], [.int (x3 + 3), .retAddr 0, .int (xs (x3 + 2).toNatClampNeg), .int (xs (x3 + 1).toNatClampNeg), .ref 93, .int v1], (zS I2 J tg))) rfl ?_
  obtain ⟨c12, h⟩ := h
  refine Runs.to (c' := (1802, [.retAddr 0, .ref 0, .ref 93, .int x3], [.int (xs (x3 + 3).toNatClampNeg), .int (xs (x3 + 2).toNatClampNeg), .int (xs (x3 + 1).toNatClampNeg), .ref 93, .int v1], (zS I2 J tg))) (Runs.sld rfl (show (0 : Nat) < 2 by decide) c12) ?_
  obtain ⟨v3, I4, J5, c13, h⟩ := h
  refine Runs.cl (cm := 294) (as := [.ref 93, .int (xs (x3 + 1).toNatClampNeg), .int (xs (x3 + 2).toNatClampNeg), .int (xs (x3 + 3).toNatClampNeg)]) (rest := [.int v1]) (r1 := ((some (.int v3)), (zS I4 J5 tg))) rfl (Nat.le_of_ble_eq_true rfl) c13 ?_
  refine Runs.as (c' := (1805, [.retAddr 0, .ref 0, .ref 93, .int x3], [.int v3, .int v1], (zS I4 J5 tg))) rfl ?_
  by_cases c14 : v1 = v3
  · rw [if_pos c14] at h
    refine Runs.brT (P := v1 = v3) (a := 1912) (b := 1808) (L := [.retAddr 0, .ref 0, .ref 93, .int x3]) (S := []) (z := (zS I4 J5 tg)) rfl c14 ?_
    exact h
  · rw [if_neg c14] at h
    refine Runs.brF (P := v1 = v3) (a := 1912) (b := 1808) (L := [.retAddr 0, .ref 0, .ref 93, .int x3]) (S := []) (z := (zS I4 J5 tg)) rfl c14 ?_
    refine Runs.sN 1 (c' := (1809, [.retAddr 0, .ref 0, .ref 93, .int x3], [.int 0], (zS I4 J5 tg))) rfl ?_
    subst h
    exact Runs.rt rfl
theorem sg_302_1810 {L d : Nat} {xs : Nat → Int32} (I : Nat → Nat → Int32) (J : Nat → Nat → Int64) (tg : Option Nat) (x3 : Int32) {r : Option Value × SS} (h : (¬ ((x3 + 1) < 0 ∨ L ≤ (x3 + 1).toNatClampNeg) ∧ ¬ ((x3 + 2) < 0 ∨ L ≤ (x3 + 2).toNatClampNeg) ∧ ¬ ((x3 + 3) < 0 ∨ L ≤ (x3 + 3).toNatClampNeg) ∧ ¬ ((x3 + 4) < 0 ∨ L ≤ (x3 + 4).toNatClampNeg) ∧ ∃ (v1 : Int32) (I2 : Nat → Nat → Int32), Runs (GW L xs) d 158 (0, [.ref 0, .int (xs (x3 + 1).toNatClampNeg), .int (xs (x3 + 2).toNatClampNeg), .int (xs (x3 + 3).toNatClampNeg), .int (xs (x3 + 4).toNatClampNeg)], [], (zS I J tg)) ((some (.int v1)), (zS I2 J tg)) ∧ ¬ ((x3 + 1) < 0 ∨ L ≤ (x3 + 1).toNatClampNeg) ∧ ¬ ((x3 + 2) < 0 ∨ L ≤ (x3 + 2).toNatClampNeg) ∧ ¬ ((x3 + 3) < 0 ∨ L ≤ (x3 + 3).toNatClampNeg) ∧ ¬ ((x3 + 4) < 0 ∨ L ≤ (x3 + 4).toNatClampNeg) ∧ ∃ (v3 : Int32) (I4 : Nat → Nat → Int32) (J5 : Nat → Nat → Int64), Runs (GW L xs) d 296 (0, [.ref 93, .int (xs (x3 + 1).toNatClampNeg), .int (xs (x3 + 2).toNatClampNeg), .int (xs (x3 + 3).toNatClampNeg), .int (xs (x3 + 4).toNatClampNeg), vU, vU, vU, vU], [], (zS I2 J tg)) ((some (.int v3)), (zS I4 J5 tg)) ∧ (if v1 = v3 then (Runs (GW L xs) (d + 1) 302 (1912, [.retAddr 0, .ref 0, .ref 93, .int x3], [], (zS I4 J5 tg)) r) else (r = (some (.int 0), (zS I4 J5 tg)))))) : Runs (GW L xs) (d + 1) 302 (1810, [.retAddr 0, .ref 0, .ref 93, .int x3], [], (zS I J tg)) r := by
  refine Runs.sN 5 (c' := (1815, [.retAddr 0, .ref 0, .ref 93, .int x3], [.int (x3 + 1), .retAddr 0, .ref 0], (zS I J tg))) rfl ?_
  obtain ⟨c6, h⟩ := h
  refine Runs.to (c' := (1816, [.retAddr 0, .ref 0, .ref 93, .int x3], [.int (xs (x3 + 1).toNatClampNeg), .ref 0], (zS I J tg))) (Runs.sld rfl (show (0 : Nat) < 2 by decide) c6) ?_
  refine Runs.sN 4 (c' := (1820, [.retAddr 0, .ref 0, .ref 93, .int x3], [.int (x3 + 2), .retAddr 0, .int (xs (x3 + 1).toNatClampNeg), .ref 0], (zS I J tg))) rfl ?_
  obtain ⟨c7, h⟩ := h
  refine Runs.to (c' := (1821, [.retAddr 0, .ref 0, .ref 93, .int x3], [.int (xs (x3 + 2).toNatClampNeg), .int (xs (x3 + 1).toNatClampNeg), .ref 0], (zS I J tg))) (Runs.sld rfl (show (0 : Nat) < 2 by decide) c7) ?_
  refine Runs.sN 4 (c' := (1825, [.retAddr 0, .ref 0, .ref 93, .int x3], [.int (x3 + 3), .retAddr 0, .int (xs (x3 + 2).toNatClampNeg), .int (xs (x3 + 1).toNatClampNeg), .ref 0], (zS I J tg))) rfl ?_
  obtain ⟨c8, h⟩ := h
  refine Runs.to (c' := (1826, [.retAddr 0, .ref 0, .ref 93, .int x3], [.int (xs (x3 + 3).toNatClampNeg), .int (xs (x3 + 2).toNatClampNeg), .int (xs (x3 + 1).toNatClampNeg), .ref 0], (zS I J tg))) (Runs.sld rfl (show (0 : Nat) < 2 by decide) c8) ?_
  refine Runs.sN 4 (c' := (1830, [.retAddr 0, .ref 0, .ref 93, .int x3], [.int (x3 + 4), .retAddr 0, .int (xs (x3 + 3).toNatClampNeg), .int (xs (x3 + 2).toNatClampNeg), .int (xs (x3 + 1).toNatClampNeg), .ref 0], (zS I J tg))) rfl ?_
  obtain ⟨c9, h⟩ := h
  refine Runs.to (c' := (1831, [.retAddr 0, .ref 0, .ref 93, .int x3], [.int (xs (x3 + 4).toNatClampNeg), .int (xs (x3 + 3).toNatClampNeg), .int (xs (x3 + 2).toNatClampNeg), .int (xs (x3 + 1).toNatClampNeg), .ref 0], (zS I J tg))) (Runs.sld rfl (show (0 : Nat) < 2 by decide) c9) ?_
  obtain ⟨v1, I2, c10, h⟩ := h
  refine Runs.cl (cm := 158) (as := [.ref 0, .int (xs (x3 + 1).toNatClampNeg), .int (xs (x3 + 2).toNatClampNeg), .int (xs (x3 + 3).toNatClampNeg), .int (xs (x3 + 4).toNatClampNeg)]) (rest := []) (r1 := ((some (.int v1)), (zS I2 J tg))) rfl (Nat.le_of_ble_eq_true rfl) c10 ?_
  refine Runs.as (c' := (1834, [.retAddr 0, .ref 0, .ref 93, .int x3], [.int v1], (zS I2 J tg))) rfl ?_
  refine Runs.sN 5 (c' := (1839, [.retAddr 0, .ref 0, .ref 93, .int x3], [.int (x3 + 1), .retAddr 0, .ref 93, .int v1], (zS I2 J tg))) rfl ?_
  obtain ⟨c11, h⟩ := h
  refine Runs.to (c' := (1840, [.retAddr 0, .ref 0, .ref 93, .int x3], [.int (xs (x3 + 1).toNatClampNeg), .ref 93, .int v1], (zS I2 J tg))) (Runs.sld rfl (show (0 : Nat) < 2 by decide) c11) ?_
  refine Runs.sN 4 (c' := (1844, [.retAddr 0, .ref 0, .ref 93, .int x3], [.int (x3 + 2), .retAddr 0, .int (xs (x3 + 1).toNatClampNeg), .ref 93, .int v1], (zS I2 J tg))) rfl ?_
  obtain ⟨c12, h⟩ := h
  refine Runs.to (c' := (1845, [.retAddr 0, .ref 0, .ref 93, .int x3], [.int (xs (x3 + 2).toNatClampNeg), .int (xs (x3 + 1).toNatClampNeg), .ref 93, .int v1], (zS I2 J tg))) (Runs.sld rfl (show (0 : Nat) < 2 by decide) c12) ?_
  refine Runs.sN 4 (c' := (1849, [.retAddr 0, .ref 0, .ref 93, .int x3], [.int (x3 + 3), .retAddr 0, .int (xs (x3 + 2).toNatClampNeg), .int (xs (x3 + 1).toNatClampNeg), .ref 93, .int v1], (zS I2 J tg))) rfl ?_
  obtain ⟨c13, h⟩ := h
  refine Runs.to (c' := (1850, [.retAddr 0, .ref 0, .ref 93, .int x3], [.int (xs (x3 + 3).toNatClampNeg), .int (xs (x3 + 2).toNatClampNeg), .int (xs (x3 + 1).toNatClampNeg), .ref 93, .int v1], (zS I2 J tg))) (Runs.sld rfl (show (0 : Nat) < 2 by decide) c13) ?_
  refine Runs.sN 4 (c' := (1854, [.retAddr 0, .ref 0, .ref 93, .int x3], [.int (x3 + 4), .retAddr 0, .int (xs (x3 + 3).toNatClampNeg), .int (xs (x3 + 2).toNatClampNeg), .int (xs (x3 + 1).toNatClampNeg), .ref 93, .int v1], (zS I2 J tg))) rfl ?_
  obtain ⟨c14, h⟩ := h
  refine Runs.to (c' := (1855, [.retAddr 0, .ref 0, .ref 93, .int x3], [.int (xs (x3 + 4).toNatClampNeg), .int (xs (x3 + 3).toNatClampNeg), .int (xs (x3 + 2).toNatClampNeg), .int (xs (x3 + 1).toNatClampNeg), .ref 93, .int v1], (zS I2 J tg))) (Runs.sld rfl (show (0 : Nat) < 2 by decide) c14) ?_
  obtain ⟨v3, I4, J5, c15, h⟩ := h
  refine Runs.cl (cm := 296) (as := [.ref 93, .int (xs (x3 + 1).toNatClampNeg), .int (xs (x3 + 2).toNatClampNeg), .int (xs (x3 + 3).toNatClampNeg), .int (xs (x3 + 4).toNatClampNeg)]) (rest := [.int v1]) (r1 := ((some (.int v3)), (zS I4 J5 tg))) rfl (Nat.le_of_ble_eq_true rfl) c15 ?_
  refine Runs.as (c' := (1858, [.retAddr 0, .ref 0, .ref 93, .int x3], [.int v3, .int v1], (zS I4 J5 tg))) rfl ?_
  by_cases c16 : v1 = v3
  · rw [if_pos c16] at h
    refine Runs.brT (P := v1 = v3) (a := 1912) (b := 1861) (L := [.retAddr 0, .ref 0, .ref 93, .int x3]) (S := []) (z := (zS I4 J5 tg)) rfl c16 ?_
    exact h
  · rw [if_neg c16] at h
    refine Runs.brF (P := v1 = v3) (a := 1912) (b := 1861) (L := [.retAddr 0, .ref 0, .ref 93, .int x3]) (S := []) (z := (zS I4 J5 tg)) rfl c16 ?_
    refine Runs.sN 1 (c' := (1862, [.retAddr 0, .ref 0, .ref 93, .int x3], [.int 0], (zS I4 J5 tg))) rfl ?_
    subst h
    exact Runs.rt rfl
theorem sg_302_1863 {L d : Nat} {xs : Nat → Int32} (I : Nat → Nat → Int32) (J : Nat → Nat → Int64) (tg : Option Nat) (x3 : Int32) {r : Option Value × SS} (h : (∃ (v1 : Int32) (I2 : Nat → Nat → Int32), Runs (GW L xs) d 159 (0, [.ref 0], [], (zS I J tg)) ((some (.int v1)), (zS I2 J tg)) ∧ ∃ (v3 : Int32) (I4 : Nat → Nat → Int32) (J5 : Nat → Nat → Int64), Runs (GW L xs) d 297 (0, [.ref 93], [], (zS I2 J tg)) ((some (.int v3)), (zS I4 J5 tg)) ∧ (if v1 = v3 then (Runs (GW L xs) (d + 1) 302 (1912, [.retAddr 0, .ref 0, .ref 93, .int x3], [], (zS I4 J5 tg)) r) else (r = (some (.int 0), (zS I4 J5 tg)))))) : Runs (GW L xs) (d + 1) 302 (1863, [.retAddr 0, .ref 0, .ref 93, .int x3], [], (zS I J tg)) r := by
  refine Runs.sN 1 (c' := (1864, [.retAddr 0, .ref 0, .ref 93, .int x3], [.ref 0], (zS I J tg))) rfl ?_
  obtain ⟨v1, I2, c6, h⟩ := h
  refine Runs.cl (cm := 159) (as := [.ref 0]) (rest := []) (r1 := ((some (.int v1)), (zS I2 J tg))) rfl (Nat.le_of_ble_eq_true rfl) c6 ?_
  refine Runs.as (c' := (1867, [.retAddr 0, .ref 0, .ref 93, .int x3], [.int v1], (zS I2 J tg))) rfl ?_
  refine Runs.sN 1 (c' := (1868, [.retAddr 0, .ref 0, .ref 93, .int x3], [.ref 93, .int v1], (zS I2 J tg))) rfl ?_
  obtain ⟨v3, I4, J5, c7, h⟩ := h
  refine Runs.cl (cm := 297) (as := [.ref 93]) (rest := [.int v1]) (r1 := ((some (.int v3)), (zS I4 J5 tg))) rfl (Nat.le_of_ble_eq_true rfl) c7 ?_
  refine Runs.as (c' := (1871, [.retAddr 0, .ref 0, .ref 93, .int x3], [.int v3, .int v1], (zS I4 J5 tg))) rfl ?_
  by_cases c8 : v1 = v3
  · rw [if_pos c8] at h
    refine Runs.brT (P := v1 = v3) (a := 1912) (b := 1874) (L := [.retAddr 0, .ref 0, .ref 93, .int x3]) (S := []) (z := (zS I4 J5 tg)) rfl c8 ?_
    exact h
  · rw [if_neg c8] at h
    refine Runs.brF (P := v1 = v3) (a := 1912) (b := 1874) (L := [.retAddr 0, .ref 0, .ref 93, .int x3]) (S := []) (z := (zS I4 J5 tg)) rfl c8 ?_
    refine Runs.sN 1 (c' := (1875, [.retAddr 0, .ref 0, .ref 93, .int x3], [.int 0], (zS I4 J5 tg))) rfl ?_
    subst h
    exact Runs.rt rfl
theorem sg_302_1876 {L d : Nat} {xs : Nat → Int32} (I : Nat → Nat → Int32) (J : Nat → Nat → Int64) (tg : Option Nat) (x3 : Int32) {r : Option Value × SS} (h : (∃ (v1 : Int32) (I2 : Nat → Nat → Int32), Runs (GW L xs) d 160 (0, [.ref 0], [], (zS I J tg)) ((some (.int v1)), (zS I2 J tg)) ∧ ∃ (v3 : Int32) (I4 : Nat → Nat → Int32) (J5 : Nat → Nat → Int64), Runs (GW L xs) d 298 (0, [.ref 93], [], (zS I2 J tg)) ((some (.int v3)), (zS I4 J5 tg)) ∧ (if v1 = v3 then (Runs (GW L xs) (d + 1) 302 (1912, [.retAddr 0, .ref 0, .ref 93, .int x3], [], (zS I4 J5 tg)) r) else (r = (some (.int 0), (zS I4 J5 tg)))))) : Runs (GW L xs) (d + 1) 302 (1876, [.retAddr 0, .ref 0, .ref 93, .int x3], [], (zS I J tg)) r := by
  refine Runs.sN 1 (c' := (1877, [.retAddr 0, .ref 0, .ref 93, .int x3], [.ref 0], (zS I J tg))) rfl ?_
  obtain ⟨v1, I2, c6, h⟩ := h
  refine Runs.cl (cm := 160) (as := [.ref 0]) (rest := []) (r1 := ((some (.int v1)), (zS I2 J tg))) rfl (Nat.le_of_ble_eq_true rfl) c6 ?_
  refine Runs.as (c' := (1880, [.retAddr 0, .ref 0, .ref 93, .int x3], [.int v1], (zS I2 J tg))) rfl ?_
  refine Runs.sN 1 (c' := (1881, [.retAddr 0, .ref 0, .ref 93, .int x3], [.ref 93, .int v1], (zS I2 J tg))) rfl ?_
  obtain ⟨v3, I4, J5, c7, h⟩ := h
  refine Runs.cl (cm := 298) (as := [.ref 93]) (rest := [.int v1]) (r1 := ((some (.int v3)), (zS I4 J5 tg))) rfl (Nat.le_of_ble_eq_true rfl) c7 ?_
  refine Runs.as (c' := (1884, [.retAddr 0, .ref 0, .ref 93, .int x3], [.int v3, .int v1], (zS I4 J5 tg))) rfl ?_
  by_cases c8 : v1 = v3
  · rw [if_pos c8] at h
    refine Runs.brT (P := v1 = v3) (a := 1912) (b := 1887) (L := [.retAddr 0, .ref 0, .ref 93, .int x3]) (S := []) (z := (zS I4 J5 tg)) rfl c8 ?_
    exact h
  · rw [if_neg c8] at h
    refine Runs.brF (P := v1 = v3) (a := 1912) (b := 1887) (L := [.retAddr 0, .ref 0, .ref 93, .int x3]) (S := []) (z := (zS I4 J5 tg)) rfl c8 ?_
    refine Runs.sN 1 (c' := (1888, [.retAddr 0, .ref 0, .ref 93, .int x3], [.int 0], (zS I4 J5 tg))) rfl ?_
    subst h
    exact Runs.rt rfl
theorem sg_302_1889 {L d : Nat} {xs : Nat → Int32} (I : Nat → Nat → Int32) (J : Nat → Nat → Int64) (tg : Option Nat) (x3 : Int32) {r : Option Value × SS} (h : (¬ ((x3 + 1) < 0 ∨ L ≤ (x3 + 1).toNatClampNeg) ∧ ∃ (v1 : Int32) (I2 : Nat → Nat → Int32), Runs (GW L xs) d 161 (0, [.ref 0, .int (xs (x3 + 1).toNatClampNeg)], [], (zS I J tg)) ((some (.int v1)), (zS I2 J tg)) ∧ ¬ ((x3 + 1) < 0 ∨ L ≤ (x3 + 1).toNatClampNeg) ∧ ∃ (v3 : Int32) (I4 : Nat → Nat → Int32) (J5 : Nat → Nat → Int64), Runs (GW L xs) d 299 (0, [.ref 93, .int (xs (x3 + 1).toNatClampNeg)], [], (zS I2 J tg)) ((some (.int v3)), (zS I4 J5 tg)) ∧ (if v1 = v3 then (Runs (GW L xs) (d + 1) 302 (1912, [.retAddr 0, .ref 0, .ref 93, .int x3], [], (zS I4 J5 tg)) r) else (r = (some (.int 0), (zS I4 J5 tg)))))) : Runs (GW L xs) (d + 1) 302 (1889, [.retAddr 0, .ref 0, .ref 93, .int x3], [], (zS I J tg)) r := by
  refine Runs.sN 5 (c' := (1894, [.retAddr 0, .ref 0, .ref 93, .int x3], [.int (x3 + 1), .retAddr 0, .ref 0], (zS I J tg))) rfl ?_
  obtain ⟨c6, h⟩ := h
  refine Runs.to (c' := (1895, [.retAddr 0, .ref 0, .ref 93, .int x3], [.int (xs (x3 + 1).toNatClampNeg), .ref 0], (zS I J tg))) (Runs.sld rfl (show (0 : Nat) < 2 by decide) c6) ?_
  obtain ⟨v1, I2, c7, h⟩ := h
  refine Runs.cl (cm := 161) (as := [.ref 0, .int (xs (x3 + 1).toNatClampNeg)]) (rest := []) (r1 := ((some (.int v1)), (zS I2 J tg))) rfl (Nat.le_of_ble_eq_true rfl) c7 ?_
  refine Runs.as (c' := (1898, [.retAddr 0, .ref 0, .ref 93, .int x3], [.int v1], (zS I2 J tg))) rfl ?_
  refine Runs.sN 5 (c' := (1903, [.retAddr 0, .ref 0, .ref 93, .int x3], [.int (x3 + 1), .retAddr 0, .ref 93, .int v1], (zS I2 J tg))) rfl ?_
  obtain ⟨c8, h⟩ := h
  refine Runs.to (c' := (1904, [.retAddr 0, .ref 0, .ref 93, .int x3], [.int (xs (x3 + 1).toNatClampNeg), .ref 93, .int v1], (zS I2 J tg))) (Runs.sld rfl (show (0 : Nat) < 2 by decide) c8) ?_
  obtain ⟨v3, I4, J5, c9, h⟩ := h
  refine Runs.cl (cm := 299) (as := [.ref 93, .int (xs (x3 + 1).toNatClampNeg)]) (rest := [.int v1]) (r1 := ((some (.int v3)), (zS I4 J5 tg))) rfl (Nat.le_of_ble_eq_true rfl) c9 ?_
  refine Runs.as (c' := (1907, [.retAddr 0, .ref 0, .ref 93, .int x3], [.int v3, .int v1], (zS I4 J5 tg))) rfl ?_
  by_cases c10 : v1 = v3
  · rw [if_pos c10] at h
    refine Runs.brT (P := v1 = v3) (a := 1912) (b := 1910) (L := [.retAddr 0, .ref 0, .ref 93, .int x3]) (S := []) (z := (zS I4 J5 tg)) rfl c10 ?_
    exact h
  · rw [if_neg c10] at h
    refine Runs.brF (P := v1 = v3) (a := 1912) (b := 1910) (L := [.retAddr 0, .ref 0, .ref 93, .int x3]) (S := []) (z := (zS I4 J5 tg)) rfl c10 ?_
    refine Runs.sN 1 (c' := (1911, [.retAddr 0, .ref 0, .ref 93, .int x3], [.int 0], (zS I4 J5 tg))) rfl ?_
    subst h
    exact Runs.rt rfl
theorem sg_302_1912 {L d : Nat} {xs : Nat → Int32} (I : Nat → Nat → Int32) (J : Nat → Nat → Int64) (tg : Option Nat) (x3 : Int32) {r : Option Value × SS} (h : (Runs (GW L xs) (d + 1) 302 (18, [.retAddr 0, .ref 0, .ref 93, .int (x3 + 6)], [], (zS I J tg)) r)) : Runs (GW L xs) (d + 1) 302 (1912, [.retAddr 0, .ref 0, .ref 93, .int x3], [], (zS I J tg)) r := by
  refine Runs.sN 2 (c' := (18, [.retAddr 0, .ref 0, .ref 93, .int (x3 + 6)], [], (zS I J tg))) rfl ?_
  exact h
