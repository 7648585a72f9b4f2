-- X10_groupOf 
theorem sg_112 {L d : Nat} {xs : Nat → Int32} (I : Nat → Nat → Int32) (J : Nat → Nat → Int64) (tg : Option Nat) (a1 : Int32) {r : Option Value × SS} (h : ((if a1 = (-1) then (r = (some (.int 0), (zS I J tg))) else (¬ (a1 < 0 ∨ 12 ≤ (a1).toNatClampNeg) ∧ r = (some (.int (I 11 ((a1).toNatClampNeg))), (zS I J tg)))))) : Runs (GW L xs) d 112 (0, [.ref 7, .int a1], [], (zS I J tg)) r := by
  refine Runs.sN 2 (c' := (2, [.ref 7, .int a1], [.int (-1), .int a1], (zS I J tg))) rfl ?_
  by_cases c1 : a1 = (-1)
  · rw [if_pos c1] at h
    refine Runs.brT (P := a1 = (-1)) (a := 5) (b := 9) (L := [.ref 7, .int a1]) (S := []) (z := (zS I J tg)) rfl c1 ?_
    refine Runs.sN 2 (c' := (15, [.ref 7, .int a1], [.int 0], (zS I J tg))) rfl ?_
    subst h
    exact Runs.rt rfl
  · rw [if_neg c1] at h
    refine Runs.brF (P := a1 = (-1)) (a := 5) (b := 9) (L := [.ref 7, .int a1]) (S := []) (z := (zS I J tg)) rfl c1 ?_
    refine Runs.sN 3 (c' := (14, [.ref 7, .int a1], [.int a1, .ref 11], (zS I J tg))) rfl ?_
    obtain ⟨c2, h⟩ := h
    refine Runs.to (c' := (15, [.ref 7, .int a1], [.int (I 11 ((a1).toNatClampNeg))], (zS I J tg))) (Runs.ild rfl (show (11 : Nat) < 114 by decide) rfl c2) ?_
    subst h
    exact Runs.rt rfl
-- X10_pick c77
theorem sg_113c77 {L d : Nat} {xs : Nat → Int32} (I : Nat → Nat → Int32) (J : Nat → Nat → Int64) (tg : Option Nat) (a1 : Int32) (a2 : Int32) (a3 : Int32) {r : Option Value × SS} (h : (Runs (GW L xs) d 113 (9, [.ref 7, .ref 77, .int a1, .int a2, .int a3, .int (-1), .int 0, .int 0, vU], [], (zS I J tg)) r)) : Runs (GW L xs) d 113 (0, [.ref 7, .ref 77, .int a1, .int a2, .int a3, vU, vU, vU, vU], [], (zS I J tg)) r := by
  refine Runs.sN 6 (c' := (9, [.ref 7, .ref 77, .int a1, .int a2, .int a3, .int (-1), .int 0, .int 0, vU], [], (zS I J tg))) rfl ?_
  exact h
theorem sg_113c77_9 {L d : Nat} {xs : Nat → Int32} (I : Nat → Nat → Int32) (J : Nat → Nat → Int64) (tg : Option Nat) (x2 : Int32) (x3 : Int32) (x4 : Int32) (x5 : Int32) (x6 : Int32) (x7 : Int32) {r : Option Value × SS} (h : ((if 12 ≤ x7 then ((if x6 ≤ (I 7 0) then (r = (some (.int x5), (zS I J tg))) else (r = (some (.int (-1)), (zS I J tg))))) else ((if ((x3 >>> (x7 &&& 31)) &&& 1) = 0 then (Runs (GW L xs) d 113 (9, [.ref 7, .ref 77, .int x2, .int x3, .int x4, .int x5, .int x6, .int (x7 + 1), vU], [], (zS I J tg)) r) else (¬ ((x2 + x7) < 0 ∨ 12 ≤ (x2 + x7).toNatClampNeg) ∧ (if ((x4 >>> (x7 &&& 31)) &&& 1) = 0 then ((if x5 = (-1) then (Runs (GW L xs) d 113 (9, [.ref 7, .ref 77, .int x2, .int x3, .int x4, .int x7, .int ((I 77 ((x2 + x7).toNatClampNeg)) - 0), .int (x7 + 1), vU], [], (zS I J tg)) r) else ((if x6 ≤ ((I 77 ((x2 + x7).toNatClampNeg)) - 0) then (Runs (GW L xs) d 113 (9, [.ref 7, .ref 77, .int x2, .int x3, .int x4, .int x5, .int x6, .int (x7 + 1), vU], [], (zS I J tg)) r) else (Runs (GW L xs) d 113 (9, [.ref 7, .ref 77, .int x2, .int x3, .int x4, .int x7, .int ((I 77 ((x2 + x7).toNatClampNeg)) - 0), .int (x7 + 1), vU], [], (zS I J tg)) r))))) else ((if x5 = (-1) then (Runs (GW L xs) d 113 (9, [.ref 7, .ref 77, .int x2, .int x3, .int x4, .int x7, .int ((I 77 ((x2 + x7).toNatClampNeg)) - (I 7 1)), .int (x7 + 1), vU], [], (zS I J tg)) r) else ((if x6 ≤ ((I 77 ((x2 + x7).toNatClampNeg)) - (I 7 1)) then (Runs (GW L xs) d 113 (9, [.ref 7, .ref 77, .int x2, .int x3, .int x4, .int x5, .int x6, .int (x7 + 1), vU], [], (zS I J tg)) r) else (Runs (GW L xs) d 113 (9, [.ref 7, .ref 77, .int x2, .int x3, .int x4, .int x7, .int ((I 77 ((x2 + x7).toNatClampNeg)) - (I 7 1)), .int (x7 + 1), vU], [], (zS I J tg)) r)))))))))))) : Runs (GW L xs) d 113 (9, [.ref 7, .ref 77, .int x2, .int x3, .int x4, .int x5, .int x6, .int x7, vU], [], (zS I J tg)) r := by
  refine Runs.sN 2 (c' := (13, [.ref 7, .ref 77, .int x2, .int x3, .int x4, .int x5, .int x6, .int x7, vU], [.int 12, .int x7], (zS I J tg))) rfl ?_
  by_cases c1 : 12 ≤ x7
  · rw [if_pos c1] at h
    refine Runs.brT (P := 12 ≤ x7) (a := 82) (b := 16) (L := [.ref 7, .ref 77, .int x2, .int x3, .int x4, .int x5, .int x6, .int x7, vU]) (S := []) (z := (zS I J tg)) rfl c1 ?_
    refine Runs.sN 3 (c' := (88, [.ref 7, .ref 77, .int x2, .int x3, .int x4, .int x5, .int x6, .int x7, vU], [.int (I 7 0), .int x6], (zS I J tg))) rfl ?_
    by_cases c2 : x6 ≤ (I 7 0)
    · rw [if_pos c2] at h
      refine Runs.brT (P := x6 ≤ (I 7 0)) (a := 95) (b := 91) (L := [.ref 7, .ref 77, .int x2, .int x3, .int x4, .int x5, .int x6, .int x7, vU]) (S := []) (z := (zS I J tg)) rfl c2 ?_
      refine Runs.sN 1 (c' := (97, [.ref 7, .ref 77, .int x2, .int x3, .int x4, .int x5, .int x6, .int x7, vU], [.int x5], (zS I J tg))) rfl ?_
      subst h
      exact Runs.rt rfl
    · rw [if_neg c2] at h
      refine Runs.brF (P := x6 ≤ (I 7 0)) (a := 95) (b := 91) (L := [.ref 7, .ref 77, .int x2, .int x3, .int x4, .int x5, .int x6, .int x7, vU]) (S := []) (z := (zS I J tg)) rfl c2 ?_
      refine Runs.sN 2 (c' := (97, [.ref 7, .ref 77, .int x2, .int x3, .int x4, .int x5, .int x6, .int x7, vU], [.int (-1)], (zS I J tg))) rfl ?_
      subst h
      exact Runs.rt rfl
  · rw [if_neg c1] at h
    refine Runs.brF (P := 12 ≤ x7) (a := 82) (b := 16) (L := [.ref 7, .ref 77, .int x2, .int x3, .int x4, .int x5, .int x6, .int x7, vU]) (S := []) (z := (zS I J tg)) rfl c1 ?_
    refine Runs.sN 5 (c' := (22, [.ref 7, .ref 77, .int x2, .int x3, .int x4, .int x5, .int x6, .int x7, vU], [.int ((x3 >>> (x7 &&& 31)) &&& 1)], (zS I J tg))) rfl ?_
    by_cases c3 : ((x3 >>> (x7 &&& 31)) &&& 1) = 0
    · rw [if_pos c3] at h
      refine Runs.brT (P := ((x3 >>> (x7 &&& 31)) &&& 1) = 0) (a := 25) (b := 28) (L := [.ref 7, .ref 77, .int x2, .int x3, .int x4, .int x5, .int x6, .int x7, vU]) (S := []) (z := (zS I J tg)) rfl c3 ?_
      refine Runs.sN 3 (c' := (9, [.ref 7, .ref 77, .int x2, .int x3, .int x4, .int x5, .int x6, .int (x7 + 1), vU], [], (zS I J tg))) rfl ?_
      exact h
    · rw [if_neg c3] at h
      refine Runs.brF (P := ((x3 >>> (x7 &&& 31)) &&& 1) = 0) (a := 25) (b := 28) (L := [.ref 7, .ref 77, .int x2, .int x3, .int x4, .int x5, .int x6, .int x7, vU]) (S := []) (z := (zS I J tg)) rfl c3 ?_
      refine Runs.sN 4 (c' := (33, [.ref 7, .ref 77, .int x2, .int x3, .int x4, .int x5, .int x6, .int x7, vU], [.int (x2 + x7), .ref 77], (zS I J tg))) rfl ?_
      obtain ⟨c4, h⟩ := h
      refine Runs.to (c' := (34, [.ref 7, .ref 77, .int x2, .int x3, .int x4, .int x5, .int x6, .int x7, vU], [.int (I 77 ((x2 + x7).toNatClampNeg))], (zS I J tg))) (Runs.ild rfl (show (77 : Nat) < 114 by decide) rfl c4) ?_
      refine Runs.sN 5 (c' := (41, [.ref 7, .ref 77, .int x2, .int x3, .int x4, .int x5, .int x6, .int x7, vU], [.int ((x4 >>> (x7 &&& 31)) &&& 1), .int (I 77 ((x2 + x7).toNatClampNeg))], (zS I J tg))) rfl ?_
      by_cases c5 : ((x4 >>> (x7 &&& 31)) &&& 1) = 0
      · rw [if_pos c5] at h
        refine Runs.brT (P := ((x4 >>> (x7 &&& 31)) &&& 1) = 0) (a := 44) (b := 48) (L := [.ref 7, .ref 77, .int x2, .int x3, .int x4, .int x5, .int x6, .int x7, vU]) (S := [.int (I 77 ((x2 + x7).toNatClampNeg))]) (z := (zS I J tg)) rfl c5 ?_
        refine Runs.sN 6 (c' := (58, [.ref 7, .ref 77, .int x2, .int x3, .int x4, .int x5, .int x6, .int x7, .int ((I 77 ((x2 + x7).toNatClampNeg)) - 0)], [.int (-1), .int x5], (zS I J tg))) rfl ?_
        by_cases c6 : x5 = (-1)
        · rw [if_pos c6] at h
          refine Runs.brT (P := x5 = (-1)) (a := 68) (b := 61) (L := [.ref 7, .ref 77, .int x2, .int x3, .int x4, .int x5, .int x6, .int x7, .int ((I 77 ((x2 + x7).toNatClampNeg)) - 0)]) (S := []) (z := (zS I J tg)) rfl c6 ?_
          refine Runs.sN 6 (c' := (9, [.ref 7, .ref 77, .int x2, .int x3, .int x4, .int x7, .int ((I 77 ((x2 + x7).toNatClampNeg)) - 0), .int (x7 + 1), .int ((I 77 ((x2 + x7).toNatClampNeg)) - 0)], [], (zS I J tg))) rfl ?_
          exact Runs.weak (L := [.ref 7, .ref 77, .int x2, .int x3, .int x4, .int x7, .int ((I 77 ((x2 + x7).toNatClampNeg)) - 0), .int (x7 + 1), vU]) (Lle.k (Lle.k (Lle.k (Lle.k (Lle.k (Lle.k (Lle.k (Lle.k (Lle.u Lle.n))))))))) h
        · rw [if_neg c6] at h
          refine Runs.brF (P := x5 = (-1)) (a := 68) (b := 61) (L := [.ref 7, .ref 77, .int x2, .int x3, .int x4, .int x5, .int x6, .int x7, .int ((I 77 ((x2 + x7).toNatClampNeg)) - 0)]) (S := []) (z := (zS I J tg)) rfl c6 ?_
          refine Runs.sN 2 (c' := (65, [.ref 7, .ref 77, .int x2, .int x3, .int x4, .int x5, .int x6, .int x7, .int ((I 77 ((x2 + x7).toNatClampNeg)) - 0)], [.int x6, .int ((I 77 ((x2 + x7).toNatClampNeg)) - 0)], (zS I J tg))) rfl ?_
          by_cases c7 : x6 ≤ ((I 77 ((x2 + x7).toNatClampNeg)) - 0)
          · rw [if_pos c7] at h
            refine Runs.brT (P := x6 ≤ ((I 77 ((x2 + x7).toNatClampNeg)) - 0)) (a := 76) (b := 68) (L := [.ref 7, .ref 77, .int x2, .int x3, .int x4, .int x5, .int x6, .int x7, .int ((I 77 ((x2 + x7).toNatClampNeg)) - 0)]) (S := []) (z := (zS I J tg)) rfl c7 ?_
            refine Runs.sN 2 (c' := (9, [.ref 7, .ref 77, .int x2, .int x3, .int x4, .int x5, .int x6, .int (x7 + 1), .int ((I 77 ((x2 + x7).toNatClampNeg)) - 0)], [], (zS I J tg))) rfl ?_
            exact Runs.weak (L := [.ref 7, .ref 77, .int x2, .int x3, .int x4, .int x5, .int x6, .int (x7 + 1), vU]) (Lle.k (Lle.k (Lle.k (Lle.k (Lle.k (Lle.k (Lle.k (Lle.k (Lle.u Lle.n))))))))) h
          · rw [if_neg c7] at h
            refine Runs.brF (P := x6 ≤ ((I 77 ((x2 + x7).toNatClampNeg)) - 0)) (a := 76) (b := 68) (L := [.ref 7, .ref 77, .int x2, .int x3, .int x4, .int x5, .int x6, .int x7, .int ((I 77 ((x2 + x7).toNatClampNeg)) - 0)]) (S := []) (z := (zS I J tg)) rfl c7 ?_
            refine Runs.sN 6 (c' := (9, [.ref 7, .ref 77, .int x2, .int x3, .int x4, .int x7, .int ((I 77 ((x2 + x7).toNatClampNeg)) - 0), .int (x7 + 1), .int ((I 77 ((x2 + x7).toNatClampNeg)) - 0)], [], (zS I J tg))) rfl ?_
            exact Runs.weak (L := [.ref 7, .ref 77, .int x2, .int x3, .int x4, .int x7, .int ((I 77 ((x2 + x7).toNatClampNeg)) - 0), .int (x7 + 1), vU]) (Lle.k (Lle.k (Lle.k (Lle.k (Lle.k (Lle.k (Lle.k (Lle.k (Lle.u Lle.n))))))))) h
      · rw [if_neg c5] at h
        refine Runs.brF (P := ((x4 >>> (x7 &&& 31)) &&& 1) = 0) (a := 44) (b := 48) (L := [.ref 7, .ref 77, .int x2, .int x3, .int x4, .int x5, .int x6, .int x7, vU]) (S := [.int (I 77 ((x2 + x7).toNatClampNeg))]) (z := (zS I J tg)) rfl c5 ?_
        refine Runs.sN 6 (c' := (58, [.ref 7, .ref 77, .int x2, .int x3, .int x4, .int x5, .int x6, .int x7, .int ((I 77 ((x2 + x7).toNatClampNeg)) - (I 7 1))], [.int (-1), .int x5], (zS I J tg))) rfl ?_
        by_cases c8 : x5 = (-1)
        · rw [if_pos c8] at h
          refine Runs.brT (P := x5 = (-1)) (a := 68) (b := 61) (L := [.ref 7, .ref 77, .int x2, .int x3, .int x4, .int x5, .int x6, .int x7, .int ((I 77 ((x2 + x7).toNatClampNeg)) - (I 7 1))]) (S := []) (z := (zS I J tg)) rfl c8 ?_
          refine Runs.sN 6 (c' := (9, [.ref 7, .ref 77, .int x2, .int x3, .int x4, .int x7, .int ((I 77 ((x2 + x7).toNatClampNeg)) - (I 7 1)), .int (x7 + 1), .int ((I 77 ((x2 + x7).toNatClampNeg)) - (I 7 1))], [], (zS I J tg))) rfl ?_
          exact Runs.weak (L := [.ref 7, .ref 77, .int x2, .int x3, .int x4, .int x7, .int ((I 77 ((x2 + x7).toNatClampNeg)) - (I 7 1)), .int (x7 + 1), vU]) (Lle.k (Lle.k (Lle.k (Lle.k (Lle.k (Lle.k (Lle.k (Lle.k (Lle.u Lle.n))))))))) h
        · rw [if_neg c8] at h
          refine Runs.brF (P := x5 = (-1)) (a := 68) (b := 61) (L := [.ref 7, .ref 77, .int x2, .int x3, .int x4, .int x5, .int x6, .int x7, .int ((I 77 ((x2 + x7).toNatClampNeg)) - (I 7 1))]) (S := []) (z := (zS I J tg)) rfl c8 ?_
          refine Runs.sN 2 (c' := (65, [.ref 7, .ref 77, .int x2, .int x3, .int x4, .int x5, .int x6, .int x7, .int ((I 77 ((x2 + x7).toNatClampNeg)) - (I 7 1))], [.int x6, .int ((I 77 ((x2 + x7).toNatClampNeg)) - (I 7 1))], (zS I J tg))) rfl ?_
          by_cases c9 : x6 ≤ ((I 77 ((x2 + x7).toNatClampNeg)) - (I 7 1))
          · rw [if_pos c9] at h
            refine Runs.brT (P := x6 ≤ ((I 77 ((x2 + x7).toNatClampNeg)) - (I 7 1))) (a := 76) (b := 68) (L := [.ref 7, .ref 77, .int x2, .int x3, .int x4, .int x5, .int x6, .int x7, .int ((I 77 ((x2 + x7).toNatClampNeg)) - (I 7 1))]) (S := []) (z := (zS I J tg)) rfl c9 ?_
            refine Runs.sN 2 (c' := (9, [.ref 7, .ref 77, .int x2, .int x3, .int x4, .int x5, .int x6, .int (x7 + 1), .int ((I 77 ((x2 + x7).toNatClampNeg)) - (I 7 1))], [], (zS I J tg))) rfl ?_
            exact Runs.weak (L := [.ref 7, .ref 77, .int x2, .int x3, .int x4, .int x5, .int x6, .int (x7 + 1), vU]) (Lle.k (Lle.k (Lle.k (Lle.k (Lle.k (Lle.k (Lle.k (Lle.k (Lle.u Lle.n))))))))) h
          · rw [if_neg c9] at h
            refine Runs.brF (P := x6 ≤ ((I 77 ((x2 + x7).toNatClampNeg)) - (I 7 1))) (a := 76) (b := 68) (L := [.ref 7, .ref 77, .int x2, .int x3, .int x4, .int x5, .int x6, .int x7, .int ((I 77 ((x2 + x7).toNatClampNeg)) - (I 7 1))]) (S := []) (z := (zS I J tg)) rfl c9 ?_
            refine Runs.sN 6 (c' := (9, [.ref 7, .ref 77, .int x2, .int x3, .int x4, .int x7, .int ((I 77 ((x2 + x7).toNatClampNeg)) - (I 7 1)), .int (x7 + 1), .int ((I 77 ((x2 + x7).toNatClampNeg)) - (I 7 1))], [], (zS I J tg))) rfl ?_
            exact Runs.weak (L := [.ref 7, .ref 77, .int x2, .int x3, .int x4, .int x7, .int ((I 77 ((x2 + x7).toNatClampNeg)) - (I 7 1)), .int (x7 + 1), vU]) (Lle.k (Lle.k (Lle.k (Lle.k (Lle.k (Lle.k (Lle.k (Lle.k (Lle.u Lle.n))))))))) h
-- X10_pick c87
theorem sg_113c87 {L d : Nat} {xs : Nat → Int32} (I : Nat → Nat → Int32) (J : Nat → Nat → Int64) (tg : Option Nat) (a1 : Int32) (a2 : Int32) (a3 : Int32) {r : Option Value × SS} (h : (Runs (GW L xs) d 113 (9, [.ref 7, .ref 87, .int a1, .int a2, .int a3, .int (-1), .int 0, .int 0, vU], [], (zS I J tg)) r)) : Runs (GW L xs) d 113 (0, [.ref 7, .ref 87, .int a1, .int a2, .int a3, vU, vU, vU, vU], [], (zS I J tg)) r := by
  refine Runs.sN 6 (c' := (9, [.ref 7, .ref 87, .int a1, .int a2, .int a3, .int (-1), .int 0, .int 0, vU], [], (zS I J tg))) rfl ?_
  exact h
theorem sg_113c87_9 {L d : Nat} {xs : Nat → Int32} (I : Nat → Nat → Int32) (J : Nat → Nat → Int64) (tg : Option Nat) (x2 : Int32) (x3 : Int32) (x4 : Int32) (x5 : Int32) (x6 : Int32) (x7 : Int32) {r : Option Value × SS} (h : ((if 12 ≤ x7 then ((if x6 ≤ (I 7 0) then (r = (some (.int x5), (zS I J tg))) else (r = (some (.int (-1)), (zS I J tg))))) else ((if ((x3 >>> (x7 &&& 31)) &&& 1) = 0 then (Runs (GW L xs) d 113 (9, [.ref 7, .ref 87, .int x2, .int x3, .int x4, .int x5, .int x6, .int (x7 + 1), vU], [], (zS I J tg)) r) else (¬ ((x2 + x7) < 0 ∨ 96 ≤ (x2 + x7).toNatClampNeg) ∧ (if ((x4 >>> (x7 &&& 31)) &&& 1) = 0 then ((if x5 = (-1) then (Runs (GW L xs) d 113 (9, [.ref 7, .ref 87, .int x2, .int x3, .int x4, .int x7, .int ((I 87 ((x2 + x7).toNatClampNeg)) - 0), .int (x7 + 1), vU], [], (zS I J tg)) r) else ((if x6 ≤ ((I 87 ((x2 + x7).toNatClampNeg)) - 0) then (Runs (GW L xs) d 113 (9, [.ref 7, .ref 87, .int x2, .int x3, .int x4, .int x5, .int x6, .int (x7 + 1), vU], [], (zS I J tg)) r) else (Runs (GW L xs) d 113 (9, [.ref 7, .ref 87, .int x2, .int x3, .int x4, .int x7, .int ((I 87 ((x2 + x7).toNatClampNeg)) - 0), .int (x7 + 1), vU], [], (zS I J tg)) r))))) else ((if x5 = (-1) then (Runs (GW L xs) d 113 (9, [.ref 7, .ref 87, .int x2, .int x3, .int x4, .int x7, .int ((I 87 ((x2 + x7).toNatClampNeg)) - (I 7 1)), .int (x7 + 1), vU], [], (zS I J tg)) r) else ((if x6 ≤ ((I 87 ((x2 + x7).toNatClampNeg)) - (I 7 1)) then (Runs (GW L xs) d 113 (9, [.ref 7, .ref 87, .int x2, .int x3, .int x4, .int x5, .int x6, .int (x7 + 1), vU], [], (zS I J tg)) r) else (Runs (GW L xs) d 113 (9, [.ref 7, .ref 87, .int x2, .int x3, .int x4, .int x7, .int ((I 87 ((x2 + x7).toNatClampNeg)) - (I 7 1)), .int (x7 + 1), vU], [], (zS I J tg)) r)))))))))))) : Runs (GW L xs) d 113 (9, [.ref 7, .ref 87, .int x2, .int x3, .int x4, .int x5, .int x6, .int x7, vU], [], (zS I J tg)) r := by
  refine Runs.sN 2 (c' := (13, [.ref 7, .ref 87, .int x2, .int x3, .int x4, .int x5, .int x6, .int x7, vU], [.int 12, .int x7], (zS I J tg))) rfl ?_
  by_cases c1 : 12 ≤ x7
  · rw [if_pos c1] at h
    refine Runs.brT (P := 12 ≤ x7) (a := 82) (b := 16) (L := [.ref 7, .ref 87, .int x2, .int x3, .int x4, .int x5, .int x6, .int x7, vU]) (S := []) (z := (zS I J tg)) rfl c1 ?_
    refine Runs.sN 3 (c' := (88, [.ref 7, .ref 87, .int x2, .int x3, .int x4, .int x5, .int x6, .int x7, vU], [.int (I 7 0), .int x6], (zS I J tg))) rfl ?_
    by_cases c2 : x6 ≤ (I 7 0)
    · rw [if_pos c2] at h
      refine Runs.brT (P := x6 ≤ (I 7 0)) (a := 95) (b := 91) (L := [.ref 7, .ref 87, .int x2, .int x3, .int x4, .int x5, .int x6, .int x7, vU]) (S := []) (z := (zS I J tg)) rfl c2 ?_
      refine Runs.sN 1 (c' := (97, [.ref 7, .ref 87, .int x2, .int x3, .int x4, .int x5, .int x6, .int x7, vU], [.int x5], (zS I J tg))) rfl ?_
      subst h
      exact Runs.rt rfl
    · rw [if_neg c2] at h
      refine Runs.brF (P := x6 ≤ (I 7 0)) (a := 95) (b := 91) (L := [.ref 7, .ref 87, .int x2, .int x3, .int x4, .int x5, .int x6, .int x7, vU]) (S := []) (z := (zS I J tg)) rfl c2 ?_
      refine Runs.sN 2 (c' := (97, [.ref 7, .ref 87, .int x2, .int x3, .int x4, .int x5, .int x6, .int x7, vU], [.int (-1)], (zS I J tg))) rfl ?_
      subst h
      exact Runs.rt rfl
  · rw [if_neg c1] at h
    refine Runs.brF (P := 12 ≤ x7) (a := 82) (b := 16) (L := [.ref 7, .ref 87, .int x2, .int x3, .int x4, .int x5, .int x6, .int x7, vU]) (S := []) (z := (zS I J tg)) rfl c1 ?_
    refine Runs.sN 5 (c' := (22, [.ref 7, .ref 87, .int x2, .int x3, .int x4, .int x5, .int x6, .int x7, vU], [.int ((x3 >>> (x7 &&& 31)) &&& 1)], (zS I J tg))) rfl ?_
    by_cases c3 : ((x3 >>> (x7 &&& 31)) &&& 1) = 0
    · rw [if_pos c3] at h
      refine Runs.brT (P := ((x3 >>> (x7 &&& 31)) &&& 1) = 0) (a := 25) (b := 28) (L := [.ref 7, .ref 87, .int x2, .int x3, .int x4, .int x5, .int x6, .int x7, vU]) (S := []) (z := (zS I J tg)) rfl c3 ?_
      refine Runs.sN 3 (c' := (9, [.ref 7, .ref 87, .int x2, .int x3, .int x4, .int x5, .int x6, .int (x7 + 1), vU], [], (zS I J tg))) rfl ?_
      exact h
    · rw [if_neg c3] at h
      refine Runs.brF (P := ((x3 >>> (x7 &&& 31)) &&& 1) = 0) (a := 25) (b := 28) (L := [.ref 7, .ref 87, .int x2, .int x3, .int x4, .int x5, .int x6, .int x7, vU]) (S := []) (z := (zS I J tg)) rfl c3 ?_
      refine Runs.sN 4 (c' := (33, [.ref 7, .ref 87, .int x2, .int x3, .int x4, .int x5, .int x6, .int x7, vU], [.int (x2 + x7), .ref 87], (zS I J tg))) rfl ?_
      obtain ⟨c4, h⟩ := h
      refine Runs.to (c' := (34, [.ref 7, .ref 87, .int x2, .int x3, .int x4, .int x5, .int x6, .int x7, vU], [.int (I 87 ((x2 + x7).toNatClampNeg))], (zS I J tg))) (Runs.ild rfl (show (87 : Nat) < 114 by decide) rfl c4) ?_
      refine Runs.sN 5 (c' := (41, [.ref 7, .ref 87, .int x2, .int x3, .int x4, .int x5, .int x6, .int x7, vU], [.int ((x4 >>> (x7 &&& 31)) &&& 1), .int (I 87 ((x2 + x7).toNatClampNeg))], (zS I J tg))) rfl ?_
      by_cases c5 : ((x4 >>> (x7 &&& 31)) &&& 1) = 0
      · rw [if_pos c5] at h
        refine Runs.brT (P := ((x4 >>> (x7 &&& 31)) &&& 1) = 0) (a := 44) (b := 48) (L := [.ref 7, .ref 87, .int x2, .int x3, .int x4, .int x5, .int x6, .int x7, vU]) (S := [.int (I 87 ((x2 + x7).toNatClampNeg))]) (z := (zS I J tg)) rfl c5 ?_
        refine Runs.sN 6 (c' := (58, [.ref 7, .ref 87, .int x2, .int x3, .int x4, .int x5, .int x6, .int x7, .int ((I 87 ((x2 + x7).toNatClampNeg)) - 0)], [.int (-1), .int x5], (zS I J tg))) rfl ?_
        by_cases c6 : x5 = (-1)
        · rw [if_pos c6] at h
          refine Runs.brT (P := x5 = (-1)) (a := 68) (b := 61) (L := [.ref 7, .ref 87, .int x2, .int x3, .int x4, .int x5, .int x6, .int x7, .int ((I 87 ((x2 + x7).toNatClampNeg)) - 0)]) (S := []) (z := (zS I J tg)) rfl c6 ?_
          refine Runs.sN 6 (c' := (9, [.ref 7, .ref 87, .int x2, .int x3, .int x4, .int x7, .int ((I 87 ((x2 + x7).toNatClampNeg)) - 0), .int (x7 + 1), .int ((I 87 ((x2 + x7).toNatClampNeg)) - 0)], [], (zS I J tg))) rfl ?_
          exact Runs.weak (L := [.ref 7, .ref 87, .int x2, .int x3, .int x4, .int x7, .int ((I 87 ((x2 + x7).toNatClampNeg)) - 0), .int (x7 + 1), vU]) (Lle.k (Lle.k (Lle.k (Lle.k (Lle.k (Lle.k (Lle.k (Lle.k (Lle.u Lle.n))))))))) h
        · rw [if_neg c6] at h
          refine Runs.brF (P := x5 = (-1)) (a := 68) (b := 61) (L := [.ref 7, .ref 87, .int x2, .int x3, .int x4, .int x5, .int x6, .int x7, .int ((I 87 ((x2 + x7).toNatClampNeg)) - 0)]) (S := []) (z := (zS I J tg)) rfl c6 ?_
          refine Runs.sN 2 (c' := (65, [.ref 7, .ref 87, .int x2, .int x3, .int x4, .int x5, .int x6, .int x7, .int ((I 87 ((x2 + x7).toNatClampNeg)) - 0)], [.int x6, .int ((I 87 ((x2 + x7).toNatClampNeg)) - 0)], (zS I J tg))) rfl ?_
          by_cases c7 : x6 ≤ ((I 87 ((x2 + x7).toNatClampNeg)) - 0)
          · rw [if_pos c7] at h
            refine Runs.brT (P := x6 ≤ ((I 87 ((x2 + x7).toNatClampNeg)) - 0)) (a := 76) (b := 68) (L := [.ref 7, .ref 87, .int x2, .int x3, .int x4, .int x5, .int x6, .int x7, .int ((I 87 ((x2 + x7).toNatClampNeg)) - 0)]) (S := []) (z := (zS I J tg)) rfl c7 ?_
            refine Runs.sN 2 (c' := (9, [.ref 7, .ref 87, .int x2, .int x3, .int x4, .int x5, .int x6, .int (x7 + 1), .int ((I 87 ((x2 + x7).toNatClampNeg)) - 0)], [], (zS I J tg))) rfl ?_
            exact Runs.weak (L := [.ref 7, .ref 87, .int x2, .int x3, .int x4, .int x5, .int x6, .int (x7 + 1), vU]) (Lle.k (Lle.k (Lle.k (Lle.k (Lle.k (Lle.k (Lle.k (Lle.k (Lle.u Lle.n))))))))) h
          · rw [if_neg c7] at h
            refine Runs.brF (P := x6 ≤ ((I 87 ((x2 + x7).toNatClampNeg)) - 0)) (a := 76) (b := 68) (L := [.ref 7, .ref 87, .int x2, .int x3, .int x4, .int x5, .int x6, .int x7, .int ((I 87 ((x2 + x7).toNatClampNeg)) - 0)]) (S := []) (z := (zS I J tg)) rfl c7 ?_
            refine Runs.sN 6 (c' := (9, [.ref 7, .ref 87, .int x2, .int x3, .int x4, .int x7, .int ((I 87 ((x2 + x7).toNatClampNeg)) - 0), .int (x7 + 1), .int ((I 87 ((x2 + x7).toNatClampNeg)) - 0)], [], (zS I J tg))) rfl ?_
            exact Runs.weak (L := [.ref 7, .ref 87, .int x2, .int x3, .int x4, .int x7, .int ((I 87 ((x2 + x7).toNatClampNeg)) - 0), .int (x7 + 1), vU]) (Lle.k (Lle.k (Lle.k (Lle.k (Lle.k (Lle.k (Lle.k (Lle.k (Lle.u Lle.n))))))))) h
      · rw [if_neg c5] at h
        refine Runs.brF (P := ((x4 >>> (x7 &&& 31)) &&& 1) = 0) (a := 44) (b := 48) (L := [.ref 7, .ref 87, .int x2, .int x3, .int x4, .int x5, .int x6, .int x7, vU]) (S := [.int (I 87 ((x2 + x7).toNatClampNeg))]) (z := (zS I J tg)) rfl c5 ?_
        refine Runs.sN 6 (c' := (58, [.ref 7, .ref 87, .int x2, .int x3, .int x4, .int x5, .int x6, .int x7, .int ((I 87 ((x2 + x7).toNatClampNeg)) - (I 7 1))], [.int (-1), .int x5], (zS I J tg))) rfl ?_
        by_cases c8 : x5 = (-1)
        · rw [if_pos c8] at h
          refine Runs.brT (P := x5 = (-1)) (a := 68) (b := 61) (L := [.ref 7, .ref 87, .int x2, .int x3, .int x4, .int x5, .int x6, .int x7, .int ((I 87 ((x2 + x7).toNatClampNeg)) - (I 7 1))]) (S := []) (z := (zS I J tg)) rfl c8 ?_
          refine Runs.sN 6 (c' := (9, [.ref 7, .ref 87, .int x2, .int x3, .int x4, .int x7, .int ((I 87 ((x2 + x7).toNatClampNeg)) - (I 7 1)), .int (x7 + 1), .int ((I 87 ((x2 + x7).toNatClampNeg)) - (I 7 1))], [], (zS I J tg))) rfl ?_
          exact Runs.weak (L := [.ref 7, .ref 87, .int x2, .int x3, .int x4, .int x7, .int ((I 87 ((x2 + x7).toNatClampNeg)) - (I 7 1)), .int (x7 + 1), vU]) (Lle.k (Lle.k (Lle.k (Lle.k (Lle.k (Lle.k (Lle.k (Lle.k (Lle.u Lle.n))))))))) h
        · rw [if_neg c8] at h
          refine Runs.brF (P := x5 = (-1)) (a := 68) (b := 61) (L := [.ref 7, .ref 87, .int x2, .int x3, .int x4, .int x5, .int x6, .int x7, .int ((I 87 ((x2 + x7).toNatClampNeg)) - (I 7 1))]) (S := []) (z := (zS I J tg)) rfl c8 ?_
          refine Runs.sN 2 (c' := (65, [.ref 7, .ref 87, .int x2, .int x3, .int x4, .int x5, .int x6, .int x7, .int ((I 87 ((x2 + x7).toNatClampNeg)) - (I 7 1))], [.int x6, .int ((I 87 ((x2 + x7).toNatClampNeg)) - (I 7 1))], (zS I J tg))) rfl ?_
          by_cases c9 : x6 ≤ ((I 87 ((x2 + x7).toNatClampNeg)) - (I 7 1))
          · rw [if_pos c9] at h
            refine Runs.brT (P := x6 ≤ ((I 87 ((x2 + x7).toNatClampNeg)) - (I 7 1))) (a := 76) (b := 68) (L := [.ref 7, .ref 87, .int x2, .int x3, .int x4, .int x5, .int x6, .int x7, .int ((I 87 ((x2 + x7).toNatClampNeg)) - (I 7 1))]) (S := []) (z := (zS I J tg)) rfl c9 ?_
            refine Runs.sN 2 (c' := (9, [.ref 7, .ref 87, .int x2, .int x3, .int x4, .int x5, .int x6, .int (x7 + 1), .int ((I 87 ((x2 + x7).toNatClampNeg)) - (I 7 1))], [], (zS I J tg))) rfl ?_
            exact Runs.weak (L := [.ref 7, .ref 87, .int x2, .int x3, .int x4, .int x5, .int x6, .int (x7 + 1), vU]) (Lle.k (Lle.k (Lle.k (Lle.k (Lle.k (Lle.k (Lle.k (Lle.k (Lle.u Lle.n))))))))) h
          · rw [if_neg c9] at h
            refine Runs.brF (P := x6 ≤ ((I 87 ((x2 + x7).toNatClampNeg)) - (I 7 1))) (a := 76) (b := 68) (L := [.ref 7, .ref 87, .int x2, .int x3, .int x4, .int x5, .int x6, .int x7, .int ((I 87 ((x2 + x7).toNatClampNeg)) - (I 7 1))]) (S := []) (z := (zS I J tg)) rfl c9 ?_
            refine Runs.sN 6 (c' := (9, [.ref 7, .ref 87, .int x2, .int x3, .int x4, .int x7, .int ((I 87 ((x2 + x7).toNatClampNeg)) - (I 7 1)), .int (x7 + 1), .int ((I 87 ((x2 + x7).toNatClampNeg)) - (I 7 1))], [], (zS I J tg))) rfl ?_
            exact Runs.weak (L := [.ref 7, .ref 87, .int x2, .int x3, .int x4, .int x7, .int ((I 87 ((x2 + x7).toNatClampNeg)) - (I 7 1)), .int (x7 + 1), vU]) (Lle.k (Lle.k (Lle.k (Lle.k (Lle.k (Lle.k (Lle.k (Lle.k (Lle.u Lle.n))))))))) h
-- X10_copyFrom i
theorem sg_114i {L d : Nat} {xs : Nat → Int32} (I : Nat → Nat → Int32) (J : Nat → Nat → Int64) (tg : Option Nat) {r : Option Value × SS} (h : (∃ (I11 : Nat → Nat → Int32), Runs (GW L xs) d 174 (0, [.ref 8, .ref 30], [], (zS (up2 (up2 (up2 (up2 (up2 (up2 I 29 0 (I 7 0)) 29 1 (I 7 1)) 29 2 (I 7 2)) 29 3 (I 7 3)) 29 4 (I 7 4)) 29 5 (I 7 5)) J tg)) (none, (zS I11 J tg)) ∧ ∃ (I12 : Nat → Nat → Int32), Runs (GW L xs) d 174 (0, [.ref 9, .ref 31], [], (zS I11 J tg)) (none, (zS I12 J tg)) ∧ ∃ (I13 : Nat → Nat → Int32), Runs (GW L xs) d 174 (0, [.ref 10, .ref 32], [], (zS I12 J tg)) (none, (zS I13 J tg)) ∧ ∃ (I14 : Nat → Nat → Int32), Runs (GW L xs) d 174 (0, [.ref 11, .ref 33], [], (zS I13 J tg)) (none, (zS I14 J tg)) ∧ ∃ (I15 : Nat → Nat → Int32), Runs (GW L xs) d 174 (0, [.ref 12, .ref 34], [], (zS I14 J tg)) (none, (zS I15 J tg)) ∧ ∃ (I16 : Nat → Nat → Int32), Runs (GW L xs) d 174 (0, [.ref 13, .ref 35], [], (zS I15 J tg)) (none, (zS I16 J tg)) ∧ ∃ (I17 : Nat → Nat → Int32), Runs (GW L xs) d 174 (0, [.ref 14, .ref 36], [], (zS I16 J tg)) (none, (zS I17 J tg)) ∧ ∃ (I18 : Nat → Nat → Int32), Runs (GW L xs) d 174 (0, [.ref 15, .ref 37], [], (zS I17 J tg)) (none, (zS I18 J tg)) ∧ ∃ (I19 : Nat → Nat → Int32), Runs (GW L xs) d 174 (0, [.ref 16, .ref 38], [], (zS I18 J tg)) (none, (zS I19 J tg)) ∧ ∃ (I20 : Nat → Nat → Int32), Runs (GW L xs) d 174 (0, [.ref 17, .ref 39], [], (zS I19 J tg)) (none, (zS I20 J tg)) ∧ r = (none, (zS I20 J tg)))) : Runs (GW L xs) (d + 1) 114 (0, [.ref 29, .ref 7], [], (zS I J tg)) r := by
  refine Runs.sN 28 (c' := (56, [.ref 29, .ref 7], [.ref 30, .ref 8], (zS (up2 (up2 (up2 (up2 (up2 (up2 I 29 0 (I 7 0)) 29 1 (I 7 1)) 29 2 (I 7 2)) 29 3 (I 7 3)) 29 4 (I 7 4)) 29 5 (I 7 5)) J tg))) rfl ?_
  obtain ⟨I11, c21, h⟩ := h
  refine Runs.cl (cm := 174) (as := [.ref 8, .ref 30]) (rest := []) (r1 := (none, (zS I11 J tg))) rfl (Nat.le_of_ble_eq_true rfl) c21 ?_
  refine Runs.as (c' := (59, [.ref 29, .ref 7], [], (zS I11 J tg))) rfl ?_
  refine Runs.sN 4 (c' := (67, [.ref 29, .ref 7], [.ref 31, .ref 9], (zS I11 J tg))) rfl ?_
  obtain ⟨I12, c22, h⟩ := h
  refine Runs.cl (cm := 174) (as := [.ref 9, .ref 31]) (rest := []) (r1 := (none, (zS I12 J tg))) rfl (Nat.le_of_ble_eq_true rfl) c22 ?_
  refine Runs.as (c' := (70, [.ref 29, .ref 7], [], (zS I12 J tg))) rfl ?_
  refine Runs.sN 4 (c' := (78, [.ref 29, .ref 7], [.ref 32, .ref 10], (zS I12 J tg))) rfl ?_
  obtain ⟨I13, c23, h⟩ := h
  refine Runs.cl (cm := 174) (as := [.ref 10, .ref 32]) (rest := []) (r1 := (none, (zS I13 J tg))) rfl (Nat.le_of_ble_eq_true rfl) c23 ?_
  refine Runs.as (c' := (81, [.ref 29, .ref 7], [], (zS I13 J tg))) rfl ?_
  refine Runs.sN 4 (c' := (89, [.ref 29, .ref 7], [.ref 33, .ref 11], (zS I13 J tg))) rfl ?_
  obtain ⟨I14, c24, h⟩ := h
  refine Runs.cl (cm := 174) (as := [.ref 11, .ref 33]) (rest := []) (r1 := (none, (zS I14 J tg))) rfl (Nat.le_of_ble_eq_true rfl) c24 ?_
  refine Runs.as (c' := (92, [.ref 29, .ref 7], [], (zS I14 J tg))) rfl ?_
  refine Runs.sN 4 (c' := (100, [.ref 29, .ref 7], [.ref 34, .ref 12], (zS I14 J tg))) rfl ?_
  obtain ⟨I15, c25, h⟩ := h
  refine Runs.cl (cm := 174) (as := [.ref 12, .ref 34]) (rest := []) (r1 := (none, (zS I15 J tg))) rfl (Nat.le_of_ble_eq_true rfl) c25 ?_
  refine Runs.as (c' := (103, [.ref 29, .ref 7], [], (zS I15 J tg))) rfl ?_
  refine Runs.sN 4 (c' := (111, [.ref 29, .ref 7], [.ref 35, .ref 13], (zS I15 J tg))) rfl ?_
  obtain ⟨I16, c26, h⟩ := h
  refine Runs.cl (cm := 174) (as := [.ref 13, .ref 35]) (rest := []) (r1 := (none, (zS I16 J tg))) rfl (Nat.le_of_ble_eq_true rfl) c26 ?_
  refine Runs.as (c' := (114, [.ref 29, .ref 7], [], (zS I16 J tg))) rfl ?_
  refine Runs.sN 4 (c' := (122, [.ref 29, .ref 7], [.ref 36, .ref 14], (zS I16 J tg))) rfl ?_
  obtain ⟨I17, c27, h⟩ := h
  refine Runs.cl (cm := 174) (as := [.ref 14, .ref 36]) (rest := []) (r1 := (none, (zS I17 J tg))) rfl (Nat.le_of_ble_eq_true rfl) c27 ?_
  refine Runs.as (c' := (125, [.ref 29, .ref 7], [], (zS I17 J tg))) rfl ?_
  refine Runs.sN 4 (c' := (133, [.ref 29, .ref 7], [.ref 37, .ref 15], (zS I17 J tg))) rfl ?_
  obtain ⟨I18, c28, h⟩ := h
  refine Runs.cl (cm := 174) (as := [.ref 15, .ref 37]) (rest := []) (r1 := (none, (zS I18 J tg))) rfl (Nat.le_of_ble_eq_true rfl) c28 ?_
  refine Runs.as (c' := (136, [.ref 29, .ref 7], [], (zS I18 J tg))) rfl ?_
  refine Runs.sN 4 (c' := (144, [.ref 29, .ref 7], [.ref 38, .ref 16], (zS I18 J tg))) rfl ?_
  obtain ⟨I19, c29, h⟩ := h
  refine Runs.cl (cm := 174) (as := [.ref 16, .ref 38]) (rest := []) (r1 := (none, (zS I19 J tg))) rfl (Nat.le_of_ble_eq_true rfl) c29 ?_
  refine Runs.as (c' := (147, [.ref 29, .ref 7], [], (zS I19 J tg))) rfl ?_
  refine Runs.sN 4 (c' := (155, [.ref 29, .ref 7], [.ref 39, .ref 17], (zS I19 J tg))) rfl ?_
  obtain ⟨I20, c30, h⟩ := h
  refine Runs.cl (cm := 174) (as := [.ref 17, .ref 39]) (rest := []) (r1 := (none, (zS I20 J tg))) rfl (Nat.le_of_ble_eq_true rfl) c30 ?_
  refine Runs.as (c' := (158, [.ref 29, .ref 7], [], (zS I20 J tg))) rfl ?_
  subst h
  exact Runs.rt rfl
-- X10_copyFrom b
theorem sg_114b {L d : Nat} {xs : Nat → Int32} (I : Nat → Nat → Int32) (J : Nat → Nat → Int64) (tg : Option Nat) {r : Option Value × SS} (h : (∃ (I11 : Nat → Nat → Int32), Runs (GW L xs) d 174 (0, [.ref 30, .ref 8], [], (zS (up2 (up2 (up2 (up2 (up2 (up2 I 7 0 (I 29 0)) 7 1 (I 29 1)) 7 2 (I 29 2)) 7 3 (I 29 3)) 7 4 (I 29 4)) 7 5 (I 29 5)) J tg)) (none, (zS I11 J tg)) ∧ ∃ (I12 : Nat → Nat → Int32), Runs (GW L xs) d 174 (0, [.ref 31, .ref 9], [], (zS I11 J tg)) (none, (zS I12 J tg)) ∧ ∃ (I13 : Nat → Nat → Int32), Runs (GW L xs) d 174 (0, [.ref 32, .ref 10], [], (zS I12 J tg)) (none, (zS I13 J tg)) ∧ ∃ (I14 : Nat → Nat → Int32), Runs (GW L xs) d 174 (0, [.ref 33, .ref 11], [], (zS I13 J tg)) (none, (zS I14 J tg)) ∧ ∃ (I15 : Nat → Nat → Int32), Runs (GW L xs) d 174 (0, [.ref 34, .ref 12], [], (zS I14 J tg)) (none, (zS I15 J tg)) ∧ ∃ (I16 : Nat → Nat → Int32), Runs (GW L xs) d 174 (0, [.ref 35, .ref 13], [], (zS I15 J tg)) (none, (zS I16 J tg)) ∧ ∃ (I17 : Nat → Nat → Int32), Runs (GW L xs) d 174 (0, [.ref 36, .ref 14], [], (zS I16 J tg)) (none, (zS I17 J tg)) ∧ ∃ (I18 : Nat → Nat → Int32), Runs (GW L xs) d 174 (0, [.ref 37, .ref 15], [], (zS I17 J tg)) (none, (zS I18 J tg)) ∧ ∃ (I19 : Nat → Nat → Int32), Runs (GW L xs) d 174 (0, [.ref 38, .ref 16], [], (zS I18 J tg)) (none, (zS I19 J tg)) ∧ ∃ (I20 : Nat → Nat → Int32), Runs (GW L xs) d 174 (0, [.ref 39, .ref 17], [], (zS I19 J tg)) (none, (zS I20 J tg)) ∧ r = (none, (zS I20 J tg)))) : Runs (GW L xs) (d + 1) 114 (0, [.ref 7, .ref 29], [], (zS I J tg)) r := by
  refine Runs.sN 28 (c' := (56, [.ref 7, .ref 29], [.ref 8, .ref 30], (zS (up2 (up2 (up2 (up2 (up2 (up2 I 7 0 (I 29 0)) 7 1 (I 29 1)) 7 2 (I 29 2)) 7 3 (I 29 3)) 7 4 (I 29 4)) 7 5 (I 29 5)) J tg))) rfl ?_
  obtain ⟨I11, c21, h⟩ := h
  refine Runs.cl (cm := 174) (as := [.ref 30, .ref 8]) (rest := []) (r1 := (none, (zS I11 J tg))) rfl (Nat.le_of_ble_eq_true rfl) c21 ?_
  refine Runs.as (c' := (59, [.ref 7, .ref 29], [], (zS I11 J tg))) rfl ?_
  refine Runs.sN 4 (c' := (67, [.ref 7, .ref 29], [.ref 9, .ref 31], (zS I11 J tg))) rfl ?_
  obtain ⟨I12, c22, h⟩ := h
  refine Runs.cl (cm := 174) (as := [.ref 31, .ref 9]) (rest := []) (r1 := (none, (zS I12 J tg))) rfl (Nat.le_of_ble_eq_true rfl) c22 ?_
  refine Runs.as (c' := (70, [.ref 7, .ref 29], [], (zS I12 J tg))) rfl ?_
  refine Runs.sN 4 (c' := (78, [.ref 7, .ref 29], [.ref 10, .ref 32], (zS I12 J tg))) rfl ?_
  obtain ⟨I13, c23, h⟩ := h
  refine Runs.cl (cm := 174) (as := [.ref 32, .ref 10]) (rest := []) (r1 := (none, (zS I13 J tg))) rfl (Nat.le_of_ble_eq_true rfl) c23 ?_
  refine Runs.as (c' := (81, [.ref 7, .ref 29], [], (zS I13 J tg))) rfl ?_
  refine Runs.sN 4 (c' := (89, [.ref 7, .ref 29], [.ref 11, .ref 33], (zS I13 J tg))) rfl ?_
  obtain ⟨I14, c24, h⟩ := h
  refine Runs.cl (cm := 174) (as := [.ref 33, .ref 11]) (rest := []) (r1 := (none, (zS I14 J tg))) rfl (Nat.le_of_ble_eq_true rfl) c24 ?_
  refine Runs.as (c' := (92, [.ref 7, .ref 29], [], (zS I14 J tg))) rfl ?_
  refine Runs.sN 4 (c' := (100, [.ref 7, .ref 29], [.ref 12, .ref 34], (zS I14 J tg))) rfl ?_
  obtain ⟨I15, c25, h⟩ := h
  refine Runs.cl (cm := 174) (as := [.ref 34, .ref 12]) (rest := []) (r1 := (none, (zS I15 J tg))) rfl (Nat.le_of_ble_eq_true rfl) c25 ?_
  refine Runs.as (c' := (103, [.ref 7, .ref 29], [], (zS I15 J tg))) rfl ?_
  refine Runs.sN 4 (c' := (111, [.ref 7, .ref 29], [.ref 13, .ref 35], (zS I15 J tg))) rfl ?_
  obtain ⟨I16, c26, h⟩ := h
  refine Runs.cl (cm := 174) (as := [.ref 35, .ref 13]) (rest := []) (r1 := (none, (zS I16 J tg))) rfl (Nat.le_of_ble_eq_true rfl) c26 ?_
  refine Runs.as (c' := (114, [.ref 7, .ref 29], [], (zS I16 J tg))) rfl ?_
  refine Runs.sN 4 (c' := (122, [.ref 7, .ref 29], [.ref 14, .ref 36], (zS I16 J tg))) rfl ?_
  obtain ⟨I17, c27, h⟩ := h
  refine Runs.cl (cm := 174) (as := [.ref 36, .ref 14]) (rest := []) (r1 := (none, (zS I17 J tg))) rfl (Nat.le_of_ble_eq_true rfl) c27 ?_
  refine Runs.as (c' := (125, [.ref 7, .ref 29], [], (zS I17 J tg))) rfl ?_
  refine Runs.sN 4 (c' := (133, [.ref 7, .ref 29], [.ref 15, .ref 37], (zS I17 J tg))) rfl ?_
  obtain ⟨I18, c28, h⟩ := h
  refine Runs.cl (cm := 174) (as := [.ref 37, .ref 15]) (rest := []) (r1 := (none, (zS I18 J tg))) rfl (Nat.le_of_ble_eq_true rfl) c28 ?_
  refine Runs.as (c' := (136, [.ref 7, .ref 29], [], (zS I18 J tg))) rfl ?_
  refine Runs.sN 4 (c' := (144, [.ref 7, .ref 29], [.ref 16, .ref 38], (zS I18 J tg))) rfl ?_
  obtain ⟨I19, c29, h⟩ := h
  refine Runs.cl (cm := 174) (as := [.ref 38, .ref 16]) (rest := []) (r1 := (none, (zS I19 J tg))) rfl (Nat.le_of_ble_eq_true rfl) c29 ?_
  refine Runs.as (c' := (147, [.ref 7, .ref 29], [], (zS I19 J tg))) rfl ?_
  refine Runs.sN 4 (c' := (155, [.ref 7, .ref 29], [.ref 17, .ref 39], (zS I19 J tg))) rfl ?_
  obtain ⟨I20, c30, h⟩ := h
  refine Runs.cl (cm := 174) (as := [.ref 39, .ref 17]) (rest := []) (r1 := (none, (zS I20 J tg))) rfl (Nat.le_of_ble_eq_true rfl) c30 ?_
  refine Runs.as (c' := (158, [.ref 7, .ref 29], [], (zS I20 J tg))) rfl ?_
  subst h
  exact Runs.rt rfl
-- X11_look 
theorem sg_116 {L d : Nat} {xs : Nat → Int32} (I : Nat → Nat → Int32) (J : Nat → Nat → Int64) (tg : Option Nat) (a1 : Int32) {r : Option Value × SS} (h : ((if a1 = 0 then ((if (I 1 0) < 12 then (r = (some (.int (((I 1 0) + 1) - 1)), (zS (up2 I 1 0 ((I 1 0) + 1)) J tg))) else (r = (some (.int (-1)), (zS I J tg))))) else ((if (I 1 1) < 12 then (r = (some (.int ((12 + ((I 1 1) + 1)) - 1)), (zS (up2 I 1 1 ((I 1 1) + 1)) J tg))) else (r = (some (.int (-1)), (zS I J tg)))))))) : Runs (GW L xs) d 116 (0, [.ref 0, .int a1], [], (zS I J tg)) r := by
  refine Runs.sN 1 (c' := (1, [.ref 0, .int a1], [.int a1], (zS I J tg))) rfl ?_
  by_cases c1 : a1 = 0
  · rw [if_pos c1] at h
    refine Runs.brT (P := a1 = 0) (a := 44) (b := 4) (L := [.ref 0, .int a1]) (S := []) (z := (zS I J tg)) rfl c1 ?_
    refine Runs.sN 4 (c' := (53, [.ref 0, .int a1], [.int 12, .int (I 1 0)], (zS I J tg))) rfl ?_
    by_cases c2 : (I 1 0) < 12
    · rw [if_pos c2] at h
      refine Runs.brT (P := (I 1 0) < 12) (a := 58) (b := 56) (L := [.ref 0, .int a1]) (S := []) (z := (zS I J tg)) rfl c2 ?_
      refine Runs.sN 12 (c' := (80, [.ref 0, .int a1], [.int (((I 1 0) + 1) - 1)], (zS (up2 I 1 0 ((I 1 0) + 1)) J tg))) rfl ?_
      subst h
      exact Runs.rt rfl
    · rw [if_neg c2] at h
      refine Runs.brF (P := (I 1 0) < 12) (a := 58) (b := 56) (L := [.ref 0, .int a1]) (S := []) (z := (zS I J tg)) rfl c2 ?_
      refine Runs.sN 1 (c' := (57, [.ref 0, .int a1], [.int (-1)], (zS I J tg))) rfl ?_
      subst h
      exact Runs.rt rfl
  · rw [if_neg c1] at h
    refine Runs.brF (P := a1 = 0) (a := 44) (b := 4) (L := [.ref 0, .int a1]) (S := []) (z := (zS I J tg)) rfl c1 ?_
    refine Runs.sN 4 (c' := (13, [.ref 0, .int a1], [.int 12, .int (I 1 1)], (zS I J tg))) rfl ?_
    by_cases c3 : (I 1 1) < 12
    · rw [if_pos c3] at h
      refine Runs.brT (P := (I 1 1) < 12) (a := 18) (b := 16) (L := [.ref 0, .int a1]) (S := []) (z := (zS I J tg)) rfl c3 ?_
      refine Runs.sN 14 (c' := (43, [.ref 0, .int a1], [.int ((12 + ((I 1 1) + 1)) - 1)], (zS (up2 I 1 1 ((I 1 1) + 1)) J tg))) rfl ?_
      subst h
      exact Runs.rt rfl
    · rw [if_neg c3] at h
      refine Runs.brF (P := (I 1 1) < 12) (a := 18) (b := 16) (L := [.ref 0, .int a1]) (S := []) (z := (zS I J tg)) rfl c3 ?_
      refine Runs.sN 1 (c' := (17, [.ref 0, .int a1], [.int (-1)], (zS I J tg))) rfl ?_
      subst h
      exact Runs.rt rfl
-- X11_part 
theorem sg_117 {L d : Nat} {xs : Nat → Int32} (I : Nat → Nat → Int32) (J : Nat → Nat → Int64) (tg : Option Nat) (a1 : Int32) (a2 : Int32) (a3 : Int32) (a4 : Int32) {r : Option Value × SS} (h : (∃ (v10 : Int32) (I11 : Nat → Nat → Int32), Runs (GW L xs) d 46 (0, [.ref 1, .int a1], [], (zS I J tg)) ((some (.int v10)), (zS I11 J tg)) ∧ (if v10 = 0 then (r = (some (.int (-1)), (zS I11 J tg))) else (∃ (v12 : Int32) (I13 : Nat → Nat → Int32), Runs (GW L xs) d 167 (0, [.int a2, .int a3, .int a4], [], (zS I11 J tg)) ((some (.int v12)), (zS I13 J tg)) ∧ (if v12 = 0 then (r = (some (.int (-1)), (zS I13 J tg))) else (∃ (v14 : Int32) (I15 : Nat → Nat → Int32), Runs (GW L xs) d 169 (0, [.int a2, .int a3, .int a4], [], (zS I13 J tg)) ((some (.int v14)), (zS I15 J tg)) ∧ ¬ (a1 < 0 ∨ 24 ≤ (a1).toNatClampNeg) ∧ (if 6 ≤ (I15 3 ((a1).toNatClampNeg)) then (r = (some (.int (-1)), (zS I15 J tg))) else (∃ (v16 : Int32) (I17 : Nat → Nat → Int32), Runs (GW L xs) d 173 (0, [.ref 2, .int (a1 * 6), .int (I15 3 ((a1).toNatClampNeg)), .int v14, vU], [], (zS I15 J tg)) ((some (.int v16)), (zS I17 J tg)) ∧ (if v16 = 0 then (¬ (((a1 * 6) + (I15 3 ((a1).toNatClampNeg))) < 0 ∨ 144 ≤ ((a1 * 6) + (I15 3 ((a1).toNatClampNeg))).toNatClampNeg) ∧ ¬ (a1 < 0 ∨ 24 ≤ (a1).toNatClampNeg) ∧ ∃ (I18 : Nat → Nat → Int32), Runs (GW L xs) d 61 (0, [.ref 70, .int a1, vU], [], (zS (up2 (up2 I17 2 (((a1 * 6) + (I15 3 ((a1).toNatClampNeg))).toNatClampNeg) v14) 3 ((a1).toNatClampNeg) ((I15 3 ((a1).toNatClampNeg)) + 1)) J tg)) (none, (zS I18 J tg)) ∧ r = (some (.int ((I15 3 ((a1).toNatClampNeg)) + 1)), (zS I18 J tg))) else (r = (some (.int (-1)), (zS I17 J tg)))))))))))) : Runs (GW L xs) (d + 1) 117 (0, [.ref 0, .int a1, .int a2, .int a3, .int a4, vU, vU], [], (zS I J tg)) r := by
  refine Runs.sN 3 (c' := (5, [.ref 0, .int a1, .int a2, .int a3, .int a4, vU, vU], [.int a1, .ref 1], (zS I J tg))) rfl ?_
  obtain ⟨v10, I11, c19, h⟩ := h
  refine Runs.cl (cm := 46) (as := [.ref 1, .int a1]) (rest := []) (r1 := ((some (.int v10)), (zS I11 J tg))) rfl (Nat.le_of_ble_eq_true rfl) c19 ?_
  refine Runs.as (c' := (8, [.ref 0, .int a1, .int a2, .int a3, .int a4, vU, vU], [.int v10], (zS I11 J tg))) rfl ?_
  by_cases c20 : v10 = 0
  · rw [if_pos c20] at h
    refine Runs.brT (P := v10 = 0) (a := 21) (b := 11) (L := [.ref 0, .int a1, .int a2, .int a3, .int a4, vU, vU]) (S := []) (z := (zS I11 J tg)) rfl c20 ?_
    refine Runs.sN 1 (c' := (22, [.ref 0, .int a1, .int a2, .int a3, .int a4, vU, vU], [.int (-1)], (zS I11 J tg))) rfl ?_
    subst h
    exact Runs.rt rfl
  · rw [if_neg c20] at h
    refine Runs.brF (P := v10 = 0) (a := 21) (b := 11) (L := [.ref 0, .int a1, .int a2, .int a3, .int a4, vU, vU]) (S := []) (z := (zS I11 J tg)) rfl c20 ?_
    refine Runs.sN 3 (c' := (15, [.ref 0, .int a1, .int a2, .int a3, .int a4, vU, vU], [.int a4, .int a3, .int a2], (zS I11 J tg))) rfl ?_
    obtain ⟨v12, I13, c21, h⟩ := h
    refine Runs.cl (cm := 167) (as := [.int a2, .int a3, .int a4]) (rest := []) (r1 := ((some (.int v12)), (zS I13 J tg))) rfl (Nat.le_of_ble_eq_true rfl) c21 ?_
    refine Runs.as (c' := (18, [.ref 0, .int a1, .int a2, .int a3, .int a4, vU, vU], [.int v12], (zS I13 J tg))) rfl ?_
    by_cases c22 : v12 = 0
    · rw [if_pos c22] at h
      refine Runs.brT (P := v12 = 0) (a := 21) (b := 23) (L := [.ref 0, .int a1, .int a2, .int a3, .int a4, vU, vU]) (S := []) (z := (zS I13 J tg)) rfl c22 ?_
      refine Runs.sN 1 (c' := (22, [.ref 0, .int a1, .int a2, .int a3, .int a4, vU, vU], [.int (-1)], (zS I13 J tg))) rfl ?_
      subst h
      exact Runs.rt rfl
    · rw [if_neg c22] at h
      refine Runs.brF (P := v12 = 0) (a := 21) (b := 23) (L := [.ref 0, .int a1, .int a2, .int a3, .int a4, vU, vU]) (S := []) (z := (zS I13 J tg)) rfl c22 ?_
      refine Runs.sN 3 (c' := (27, [.ref 0, .int a1, .int a2, .int a3, .int a4, vU, vU], [.int a4, .int a3, .int a2], (zS I13 J tg))) rfl ?_
      obtain ⟨v14, I15, c23, h⟩ := h
      refine Runs.cl (cm := 169) (as := [.int a2, .int a3, .int a4]) (rest := []) (r1 := ((some (.int v14)), (zS I15 J tg))) rfl (Nat.le_of_ble_eq_true rfl) c23 ?_
      refine Runs.as (c' := (30, [.ref 0, .int a1, .int a2, .int a3, .int a4, vU, vU], [.int v14], (zS I15 J tg))) rfl ?_
      refine Runs.sN 5 (c' := (40, [.ref 0, .int a1, .int a2, .int a3, .int a4, .int v14, vU], [.int a1, .ref 3], (zS I15 J tg))) rfl ?_
      obtain ⟨c24, h⟩ := h
      refine Runs.to (c' := (41, [.ref 0, .int a1, .int a2, .int a3, .int a4, .int v14, vU], [.int (I15 3 ((a1).toNatClampNeg))], (zS I15 J tg))) (Runs.ild rfl (show (3 : Nat) < 114 by decide) rfl c24) ?_
      refine Runs.sN 3 (c' := (47, [.ref 0, .int a1, .int a2, .int a3, .int a4, .int v14, .int (I15 3 ((a1).toNatClampNeg))], [.int 6, .int (I15 3 ((a1).toNatClampNeg))], (zS I15 J tg))) rfl ?_
      by_cases c25 : 6 ≤ (I15 3 ((a1).toNatClampNeg))
      · rw [if_pos c25] at h
        refine Runs.brT (P := 6 ≤ (I15 3 ((a1).toNatClampNeg))) (a := 71) (b := 50) (L := [.ref 0, .int a1, .int a2, .int a3, .int a4, .int v14, .int (I15 3 ((a1).toNatClampNeg))]) (S := []) (z := (zS I15 J tg)) rfl c25 ?_
        refine Runs.sN 1 (c' := (72, [.ref 0, .int a1, .int a2, .int a3, .int a4, .int v14, .int (I15 3 ((a1).toNatClampNeg))], [.int (-1)], (zS I15 J tg))) rfl ?_
        subst h
        exact Runs.rt rfl
      · rw [if_neg c25] at h
        refine Runs.brF (P := 6 ≤ (I15 3 ((a1).toNatClampNeg))) (a := 71) (b := 50) (L := [.ref 0, .int a1, .int a2, .int a3, .int a4, .int v14, .int (I15 3 ((a1).toNatClampNeg))]) (S := []) (z := (zS I15 J tg)) rfl c25 ?_
        refine Runs.sN 8 (c' := (65, [.ref 0, .int a1, .int a2, .int a3, .int a4, .int v14, .int (I15 3 ((a1).toNatClampNeg))], [.int v14, .int (I15 3 ((a1).toNatClampNeg)), .int (a1 * 6), .ref 2], (zS I15 J tg))) rfl ?_
        obtain ⟨v16, I17, c26, h⟩ := h
        refine Runs.cl (cm := 173) (as := [.ref 2, .int (a1 * 6), .int (I15 3 ((a1).toNatClampNeg)), .int v14]) (rest := []) (r1 := ((some (.int v16)), (zS I17 J tg))) rfl (Nat.le_of_ble_eq_true rfl) c26 ?_
        refine Runs.as (c' := (68, [.ref 0, .int a1, .int a2, .int a3, .int a4, .int v14, .int (I15 3 ((a1).toNatClampNeg))], [.int v16], (zS I17 J tg))) rfl ?_
        by_cases c27 : v16 = 0
        · rw [if_pos c27] at h
          refine Runs.brT (P := v16 = 0) (a := 73) (b := 71) (L := [.ref 0, .int a1, .int a2, .int a3, .int a4, .int v14, .int (I15 3 ((a1).toNatClampNeg))]) (S := []) (z := (zS I17 J tg)) rfl c27 ?_
          refine Runs.sN 9 (c' := (89, [.ref 0, .int a1, .int a2, .int a3, .int a4, .int v14, .int (I15 3 ((a1).toNatClampNeg))], [.int v14, .int ((a1 * 6) + (I15 3 ((a1).toNatClampNeg))), .ref 2], (zS I17 J tg))) rfl ?_
          obtain ⟨c28, h⟩ := h
          refine Runs.to (c' := (90, [.ref 0, .int a1, .int a2, .int a3, .int a4, .int v14, .int (I15 3 ((a1).toNatClampNeg))], [], (zS (up2 I17 2 (((a1 * 6) + (I15 3 ((a1).toNatClampNeg))).toNatClampNeg) v14) J tg))) (Runs.ist rfl (show (2 : Nat) < 114 by decide) rfl c28) ?_
          refine Runs.sN 7 (c' := (102, [.ref 0, .int a1, .int a2, .int a3, .int a4, .int v14, .int (I15 3 ((a1).toNatClampNeg))], [.int ((I15 3 ((a1).toNatClampNeg)) + 1), .int a1, .ref 3], (zS (up2 I17 2 (((a1 * 6) + (I15 3 ((a1).toNatClampNeg))).toNatClampNeg) v14) J tg))) rfl ?_
          obtain ⟨c29, h⟩ := h
          refine Runs.to (c' := (103, [.ref 0, .int a1, .int a2, .int a3, .int a4, .int v14, .int (I15 3 ((a1).toNatClampNeg))], [], (zS (up2 (up2 I17 2 (((a1 * 6) + (I15 3 ((a1).toNatClampNeg))).toNatClampNeg) v14) 3 ((a1).toNatClampNeg) ((I15 3 ((a1).toNatClampNeg)) + 1)) J tg))) (Runs.ist rfl (show (3 : Nat) < 114 by decide) rfl c29) ?_
          refine Runs.sN 3 (c' := (108, [.ref 0, .int a1, .int a2, .int a3, .int a4, .int v14, .int (I15 3 ((a1).toNatClampNeg))], [.int a1, .ref 70], (zS (up2 (up2 I17 2 (((a1 * 6) + (I15 3 ((a1).toNatClampNeg))).toNatClampNeg) v14) 3 ((a1).toNatClampNeg) ((I15 3 ((a1).toNatClampNeg)) + 1)) J tg))) rfl ?_
          obtain ⟨I18, c30, h⟩ := h
          refine Runs.cl (cm := 61) (as := [.ref 70, .int a1]) (rest := []) (r1 := (none, (zS I18 J tg))) rfl (Nat.le_of_ble_eq_true rfl) c30 ?_
          refine Runs.as (c' := (111, [.ref 0, .int a1, .int a2, .int a3, .int a4, .int v14, .int (I15 3 ((a1).toNatClampNeg))], [], (zS I18 J tg))) rfl ?_
          refine Runs.sN 3 (c' := (115, [.ref 0, .int a1, .int a2, .int a3, .int a4, .int v14, .int (I15 3 ((a1).toNatClampNeg))], [.int ((I15 3 ((a1).toNatClampNeg)) + 1)], (zS I18 J tg))) rfl ?_
          subst h
          exact Runs.rt rfl
        · rw [if_neg c27] at h
          refine Runs.brF (P := v16 = 0) (a := 73) (b := 71) (L := [.ref 0, .int a1, .int a2, .int a3, .int a4, .int v14, .int (I15 3 ((a1).toNatClampNeg))]) (S := []) (z := (zS I17 J tg)) rfl c27 ?_
          refine Runs.sN 1 (c' := (72, [.ref 0, .int a1, .int a2, .int a3, .int a4, .int v14, .int (I15 3 ((a1).toNatClampNeg))], [.int (-1)], (zS I17 J tg))) rfl ?_
          subst h
          exact Runs.rt rfl
-- X11_clear 
theorem sg_118 {L d : Nat} {xs : Nat → Int32} (I : Nat → Nat → Int32) (J : Nat → Nat → Int64) (tg : Option Nat) (a1 : Int32) {r : Option Value × SS} (h : (∃ (v4 : Int32) (I5 : Nat → Nat → Int32), Runs (GW L xs) d 46 (0, [.ref 1, .int a1], [], (zS I J tg)) ((some (.int v4)), (zS I5 J tg)) ∧ (if v4 = 0 then (r = (some (.int (-1)), (zS I5 J tg))) else (¬ (a1 < 0 ∨ 24 ≤ (a1).toNatClampNeg) ∧ ¬ (a1 < 0 ∨ 24 ≤ (a1).toNatClampNeg) ∧ ∃ (I6 : Nat → Nat → Int32), Runs (GW L xs) d 61 (0, [.ref 70, .int a1, vU], [], (zS (up2 I5 3 ((a1).toNatClampNeg) 0) J tg)) (none, (zS I6 J tg)) ∧ r = (some (.int (I5 3 ((a1).toNatClampNeg))), (zS I6 J tg)))))) : Runs (GW L xs) (d + 1) 118 (0, [.ref 0, .int a1, vU], [], (zS I J tg)) r := by
  refine Runs.sN 3 (c' := (5, [.ref 0, .int a1, vU], [.int a1, .ref 1], (zS I J tg))) rfl ?_
  obtain ⟨v4, I5, c7, h⟩ := h
  refine Runs.cl (cm := 46) (as := [.ref 1, .int a1]) (rest := []) (r1 := ((some (.int v4)), (zS I5 J tg))) rfl (Nat.le_of_ble_eq_true rfl) c7 ?_
  refine Runs.as (c' := (8, [.ref 0, .int a1, vU], [.int v4], (zS I5 J tg))) rfl ?_
  by_cases c8 : v4 = 0
  · rw [if_pos c8] at h
    refine Runs.brT (P := v4 = 0) (a := 11) (b := 13) (L := [.ref 0, .int a1, vU]) (S := []) (z := (zS I5 J tg)) rfl c8 ?_
    refine Runs.sN 1 (c' := (12, [.ref 0, .int a1, vU], [.int (-1)], (zS I5 J tg))) rfl ?_
    subst h
    exact Runs.rt rfl
  · rw [if_neg c8] at h
    refine Runs.brF (P := v4 = 0) (a := 11) (b := 13) (L := [.ref 0, .int a1, vU]) (S := []) (z := (zS I5 J tg)) rfl c8 ?_
    refine Runs.sN 4 (c' := (21, [.ref 0, .int a1, vU], [.int a1, .ref 3], (zS I5 J tg))) rfl ?_
    obtain ⟨c9, h⟩ := h
    refine Runs.to (c' := (22, [.ref 0, .int a1, vU], [.int (I5 3 ((a1).toNatClampNeg))], (zS I5 J tg))) (Runs.ild rfl (show (3 : Nat) < 114 by decide) rfl c9) ?_
    refine Runs.sN 6 (c' := (32, [.ref 0, .int a1, .int (I5 3 ((a1).toNatClampNeg))], [.int 0, .int a1, .ref 3], (zS I5 J tg))) rfl ?_
    obtain ⟨c10, h⟩ := h
    refine Runs.to (c' := (33, [.ref 0, .int a1, .int (I5 3 ((a1).toNatClampNeg))], [], (zS (up2 I5 3 ((a1).toNatClampNeg) 0) J tg))) (Runs.ist rfl (show (3 : Nat) < 114 by decide) rfl c10) ?_
    refine Runs.sN 3 (c' := (38, [.ref 0, .int a1, .int (I5 3 ((a1).toNatClampNeg))], [.int a1, .ref 70], (zS (up2 I5 3 ((a1).toNatClampNeg) 0) J tg))) rfl ?_
    obtain ⟨I6, c11, h⟩ := h
    refine Runs.cl (cm := 61) (as := [.ref 70, .int a1]) (rest := []) (r1 := (none, (zS I6 J tg))) rfl (Nat.le_of_ble_eq_true rfl) c11 ?_
    refine Runs.as (c' := (41, [.ref 0, .int a1, .int (I5 3 ((a1).toNatClampNeg))], [], (zS I6 J tg))) rfl ?_
    refine Runs.sN 1 (c' := (42, [.ref 0, .int a1, .int (I5 3 ((a1).toNatClampNeg))], [.int (I5 3 ((a1).toNatClampNeg))], (zS I6 J tg))) rfl ?_
    subst h
    exact Runs.rt rfl
-- X11_colour 
theorem sg_119 {L d : Nat} {xs : Nat → Int32} (I : Nat → Nat → Int32) (J : Nat → Nat → Int64) (tg : Option Nat) (a1 : Int32) (a2 : Int32) {r : Option Value × SS} (h : (∃ (v6 : Int32) (I7 : Nat → Nat → Int32), Runs (GW L xs) d 46 (0, [.ref 1, .int a1], [], (zS I J tg)) ((some (.int v6)), (zS I7 J tg)) ∧ (if v6 = 0 then (r = (some (.int 0), (zS I7 J tg))) else (∃ (v8 : Int32) (I9 : Nat → Nat → Int32), Runs (GW L xs) d 164 (0, [.int a2, .int 0, .int 3], [], (zS I7 J tg)) ((some (.int v8)), (zS I9 J tg)) ∧ (if v8 = 0 then (r = (some (.int 0), (zS I9 J tg))) else (¬ (a1 < 0 ∨ 24 ≤ (a1).toNatClampNeg) ∧ ∃ (I10 : Nat → Nat → Int32), Runs (GW L xs) d 61 (0, [.ref 70, .int a1, vU], [], (zS (up2 I9 4 ((a1).toNatClampNeg) a2) J tg)) (none, (zS I10 J tg)) ∧ r = (some (.int 1), (zS I10 J tg)))))))) : Runs (GW L xs) (d + 1) 119 (0, [.ref 0, .int a1, .int a2], [], (zS I J tg)) r := by
  refine Runs.sN 3 (c' := (5, [.ref 0, .int a1, .int a2], [.int a1, .ref 1], (zS I J tg))) rfl ?_
  obtain ⟨v6, I7, c11, h⟩ := h
  refine Runs.cl (cm := 46) (as := [.ref 1, .int a1]) (rest := []) (r1 := ((some (.int v6)), (zS I7 J tg))) rfl (Nat.le_of_ble_eq_true rfl) c11 ?_
  refine Runs.as (c' := (8, [.ref 0, .int a1, .int a2], [.int v6], (zS I7 J tg))) rfl ?_
  by_cases c12 : v6 = 0
  · rw [if_pos c12] at h
    refine Runs.brT (P := v6 = 0) (a := 20) (b := 11) (L := [.ref 0, .int a1, .int a2]) (S := []) (z := (zS I7 J tg)) rfl c12 ?_
    refine Runs.sN 1 (c' := (21, [.ref 0, .int a1, .int a2], [.int 0], (zS I7 J tg))) rfl ?_
    subst h
    exact Runs.rt rfl
  · rw [if_neg c12] at h
    refine Runs.brF (P := v6 = 0) (a := 20) (b := 11) (L := [.ref 0, .int a1, .int a2]) (S := []) (z := (zS I7 J tg)) rfl c12 ?_
    refine Runs.sN 3 (c' := (14, [.ref 0, .int a1, .int a2], [.int 3, .int 0, .int a2], (zS I7 J tg))) rfl ?_
    obtain ⟨v8, I9, c13, h⟩ := h
    refine Runs.cl (cm := 164) (as := [.int a2, .int 0, .int 3]) (rest := []) (r1 := ((some (.int v8)), (zS I9 J tg))) rfl (Nat.le_of_ble_eq_true rfl) c13 ?_
    refine Runs.as (c' := (17, [.ref 0, .int a1, .int a2], [.int v8], (zS I9 J tg))) rfl ?_
    by_cases c14 : v8 = 0
    · rw [if_pos c14] at h
      refine Runs.brT (P := v8 = 0) (a := 20) (b := 22) (L := [.ref 0, .int a1, .int a2]) (S := []) (z := (zS I9 J tg)) rfl c14 ?_
      refine Runs.sN 1 (c' := (21, [.ref 0, .int a1, .int a2], [.int 0], (zS I9 J tg))) rfl ?_
      subst h
      exact Runs.rt rfl
    · rw [if_neg c14] at h
      refine Runs.brF (P := v8 = 0) (a := 20) (b := 22) (L := [.ref 0, .int a1, .int a2]) (S := []) (z := (zS I9 J tg)) rfl c14 ?_
      refine Runs.sN 5 (c' := (31, [.ref 0, .int a1, .int a2], [.int a2, .int a1, .ref 4], (zS I9 J tg))) rfl ?_
      obtain ⟨c15, h⟩ := h
      refine Runs.to (c' := (32, [.ref 0, .int a1, .int a2], [], (zS (up2 I9 4 ((a1).toNatClampNeg) a2) J tg))) (Runs.ist rfl (show (4 : Nat) < 114 by decide) rfl c15) ?_
      refine Runs.sN 3 (c' := (37, [.ref 0, .int a1, .int a2], [.int a1, .ref 70], (zS (up2 I9 4 ((a1).toNatClampNeg) a2) J tg))) rfl ?_
      obtain ⟨I10, c16, h⟩ := h
      refine Runs.cl (cm := 61) (as := [.ref 70, .int a1]) (rest := []) (r1 := (none, (zS I10 J tg))) rfl (Nat.le_of_ble_eq_true rfl) c16 ?_
      refine Runs.as (c' := (40, [.ref 0, .int a1, .int a2], [], (zS I10 J tg))) rfl ?_
      refine Runs.sN 1 (c' := (41, [.ref 0, .int a1, .int a2], [.int 1], (zS I10 J tg))) rfl ?_
      subst h
      exact Runs.rt rfl
-- X11_means 
theorem sg_120 {L d : Nat} {xs : Nat → Int32} (I : Nat → Nat → Int32) (J : Nat → Nat → Int64) (tg : Option Nat) (a1 : Int32) (a2 : Int32) (a3 : Int32) {r : Option Value × SS} (h : (∃ (v5 : Int32) (I6 : Nat → Nat → Int32), Runs (GW L xs) d 44 (0, [.ref 1, .int a1], [], (zS I J tg)) ((some (.int v5)), (zS I6 J tg)) ∧ (if v5 = 0 then (r = (some (.int 0), (zS I6 J tg))) else ((if a2 = (-1) then ((if a2 = (-1) then (¬ (a1 < 0 ∨ 12 ≤ (a1).toNatClampNeg) ∧ (if a3 = 0 then (¬ (a1 < 0 ∨ 12 ≤ (a1).toNatClampNeg) ∧ ((0 : Int32) = 0 ∨ (0 : Int32) = 1) ∧ r = (some (.int 1), (zS (up2 (up2 I6 5 ((a1).toNatClampNeg) (-1)) 6 ((a1).toNatClampNeg) 0) J tg))) else ((if a2 = (-1) then (¬ (a1 < 0 ∨ 12 ≤ (a1).toNatClampNeg) ∧ ((0 : Int32) = 0 ∨ (0 : Int32) = 1) ∧ r = (some (.int 1), (zS (up2 (up2 I6 5 ((a1).toNatClampNeg) (-1)) 6 ((a1).toNatClampNeg) 0) J tg))) else (¬ (a1 < 0 ∨ 12 ≤ (a1).toNatClampNeg) ∧ ((1 : Int32) = 0 ∨ (1 : Int32) = 1) ∧ r = (some (.int 1), (zS (up2 (up2 I6 5 ((a1).toNatClampNeg) (-1)) 6 ((a1).toNatClampNeg) 1) J tg))))))) else (¬ (a1 < 0 ∨ 12 ≤ (a1).toNatClampNeg) ∧ (if a3 = 0 then (¬ (a1 < 0 ∨ 12 ≤ (a1).toNatClampNeg) ∧ ((0 : Int32) = 0 ∨ (0 : Int32) = 1) ∧ r = (some (.int 1), (zS (up2 (up2 I6 5 ((a1).toNatClampNeg) (a2 - 12)) 6 ((a1).toNatClampNeg) 0) J tg))) else ((if a2 = (-1) then (¬ (a1 < 0 ∨ 12 ≤ (a1).toNatClampNeg) ∧ ((0 : Int32) = 0 ∨ (0 : Int32) = 1) ∧ r = (some (.int 1), (zS (up2 (up2 I6 5 ((a1).toNatClampNeg) (a2 - 12)) 6 ((a1).toNatClampNeg) 0) J tg))) else (¬ (a1 < 0 ∨ 12 ≤ (a1).toNatClampNeg) ∧ ((1 : Int32) = 0 ∨ (1 : Int32) = 1) ∧ r = (some (.int 1), (zS (up2 (up2 I6 5 ((a1).toNatClampNeg) (a2 - 12)) 6 ((a1).toNatClampNeg) 1) J tg))))))))) else (∃ (v7 : Int32) (I8 : Nat → Nat → Int32), Runs (GW L xs) d 45 (0, [.ref 1, .int a2], [], (zS I6 J tg)) ((some (.int v7)), (zS I8 J tg)) ∧ (if v7 = 0 then (r = (some (.int 0), (zS I8 J tg))) else ((if a2 = (-1) then (¬ (a1 < 0 ∨ 12 ≤ (a1).toNatClampNeg) ∧ (if a3 = 0 then (¬ (a1 < 0 ∨ 12 ≤ (a1).toNatClampNeg) ∧ ((0 : Int32) = 0 ∨ (0 : Int32) = 1) ∧ r = (some (.int 1), (zS (up2 (up2 I8 5 ((a1).toNatClampNeg) (-1)) 6 ((a1).toNatClampNeg) 0) J tg))) else ((if a2 = (-1) then (¬ (a1 < 0 ∨ 12 ≤ (a1).toNatClampNeg) ∧ ((0 : Int32) = 0 ∨ (0 : Int32) = 1) ∧ r = (some (.int 1), (zS (up2 (up2 I8 5 ((a1).toNatClampNeg) (-1)) 6 ((a1).toNatClampNeg) 0) J tg))) else (¬ (a1 < 0 ∨ 12 ≤ (a1).toNatClampNeg) ∧ ((1 : Int32) = 0 ∨ (1 : Int32) = 1) ∧ r = (some (.int 1), (zS (up2 (up2 I8 5 ((a1).toNatClampNeg) (-1)) 6 ((a1).toNatClampNeg) 1) J tg))))))) else (¬ (a1 < 0 ∨ 12 ≤ (a1).toNatClampNeg) ∧ (if a3 = 0 then (¬ (a1 < 0 ∨ 12 ≤ (a1).toNatClampNeg) ∧ ((0 : Int32) = 0 ∨ (0 : Int32) = 1) ∧ r = (some (.int 1), (zS (up2 (up2 I8 5 ((a1).toNatClampNeg) (a2 - 12)) 6 ((a1).toNatClampNeg) 0) J tg))) else ((if a2 = (-1) then (¬ (a1 < 0 ∨ 12 ≤ (a1).toNatClampNeg) ∧ ((0 : Int32) = 0 ∨ (0 : Int32) = 1) ∧ r = (some (.int 1), (zS (up2 (up2 I8 5 ((a1).toNatClampNeg) (a2 - 12)) 6 ((a1).toNatClampNeg) 0) J tg))) else (¬ (a1 < 0 ∨ 12 ≤ (a1).toNatClampNeg) ∧ ((1 : Int32) = 0 ∨ (1 : Int32) = 1) ∧ r = (some (.int 1), (zS (up2 (up2 I8 5 ((a1).toNatClampNeg) (a2 - 12)) 6 ((a1).toNatClampNeg) 1) J tg)))))))))))))))) : Runs (GW L xs) (d + 1) 120 (0, [.ref 0, .int a1, .int a2, .int a3], [], (zS I J tg)) r := by
  refine Runs.sN 3 (c' := (5, [.ref 0, .int a1, .int a2, .int a3], [.int a1, .ref 1], (zS I J tg))) rfl ?_
  obtain ⟨v5, I6, c9, h⟩ := h
  refine Runs.cl (cm := 44) (as := [.ref 1, .int a1]) (rest := []) (r1 := ((some (.int v5)), (zS I6 J tg))) rfl (Nat.le_of_ble_eq_true rfl) c9 ?_
  refine Runs.as (c' := (8, [.ref 0, .int a1, .int a2, .int a3], [.int v5], (zS I6 J tg))) rfl ?_
  by_cases c10 : v5 = 0
  · rw [if_pos c10] at h
    refine Runs.brT (P := v5 = 0) (a := 27) (b := 11) (L := [.ref 0, .int a1, .int a2, .int a3]) (S := []) (z := (zS I6 J tg)) rfl c10 ?_
    refine Runs.sN 1 (c' := (28, [.ref 0, .int a1, .int a2, .int a3], [.int 0], (zS I6 J tg))) rfl ?_
    subst h
    exact Runs.rt rfl
  · rw [if_neg c10] at h
    refine Runs.brF (P := v5 = 0) (a := 27) (b := 11) (L := [.ref 0, .int a1, .int a2, .int a3]) (S := []) (z := (zS I6 J tg)) rfl c10 ?_
    refine Runs.sN 2 (c' := (13, [.ref 0, .int a1, .int a2, .int a3], [.int (-1), .int a2], (zS I6 J tg))) rfl ?_
    by_cases c11 : a2 = (-1)
    · rw [if_pos c11] at h
      refine Runs.brT (P := a2 = (-1)) (a := 29) (b := 16) (L := [.ref 0, .int a1, .int a2, .int a3]) (S := []) (z := (zS I6 J tg)) rfl c11 ?_
      refine Runs.sN 6 (c' := (39, [.ref 0, .int a1, .int a2, .int a3], [.int (-1), .int a2, .int a1, .ref 5], (zS I6 J tg))) rfl ?_
      by_cases c12 : a2 = (-1)
      · rw [if_pos c12] at h
        refine Runs.brT (P := a2 = (-1)) (a := 42) (b := 46) (L := [.ref 0, .int a1, .int a2, .int a3]) (S := [.int a1, .ref 5]) (z := (zS I6 J tg)) rfl c12 ?_
        refine Runs.sN 2 (c' := (50, [.ref 0, .int a1, .int a2, .int a3], [.int (-1), .int a1, .ref 5], (zS I6 J tg))) rfl ?_
        obtain ⟨c13, h⟩ := h
        refine Runs.to (c' := (51, [.ref 0, .int a1, .int a2, .int a3], [], (zS (up2 I6 5 ((a1).toNatClampNeg) (-1)) J tg))) (Runs.ist rfl (show (5 : Nat) < 114 by decide) rfl c13) ?_
        refine Runs.sN 5 (c' := (60, [.ref 0, .int a1, .int a2, .int a3], [.int a3, .int a1, .ref 6], (zS (up2 I6 5 ((a1).toNatClampNeg) (-1)) J tg))) rfl ?_
        by_cases c14 : a3 = 0
        · rw [if_pos c14] at h
          refine Runs.brT (P := a3 = 0) (a := 72) (b := 63) (L := [.ref 0, .int a1, .int a2, .int a3]) (S := [.int a1, .ref 6]) (z := (zS (up2 I6 5 ((a1).toNatClampNeg) (-1)) J tg)) rfl c14 ?_
          refine Runs.sN 1 (c' := (73, [.ref 0, .int a1, .int a2, .int a3], [.int 0, .int a1, .ref 6], (zS (up2 I6 5 ((a1).toNatClampNeg) (-1)) J tg))) rfl ?_
          obtain ⟨c15, h⟩ := h
          obtain ⟨c16, h⟩ := h
          refine Runs.to (c' := (74, [.ref 0, .int a1, .int a2, .int a3], [], (zS (up2 (up2 I6 5 ((a1).toNatClampNeg) (-1)) 6 ((a1).toNatClampNeg) 0) J tg))) (Runs.zst rfl (show (6 : Nat) < 114 by decide) rfl c15 c16) ?_
          refine Runs.sN 1 (c' := (75, [.ref 0, .int a1, .int a2, .int a3], [.int 1], (zS (up2 (up2 I6 5 ((a1).toNatClampNeg) (-1)) 6 ((a1).toNatClampNeg) 0) J tg))) rfl ?_
          subst h
          exact Runs.rt rfl
        · rw [if_neg c14] at h
          refine Runs.brF (P := a3 = 0) (a := 72) (b := 63) (L := [.ref 0, .int a1, .int a2, .int a3]) (S := [.int a1, .ref 6]) (z := (zS (up2 I6 5 ((a1).toNatClampNeg) (-1)) J tg)) rfl c14 ?_
          refine Runs.sN 2 (c' := (65, [.ref 0, .int a1, .int a2, .int a3], [.int (-1), .int a2, .int a1, .ref 6], (zS (up2 I6 5 ((a1).toNatClampNeg) (-1)) J tg))) rfl ?_
          by_cases c17 : a2 = (-1)
          · rw [if_pos c17] at h
            refine Runs.brT (P := a2 = (-1)) (a := 72) (b := 68) (L := [.ref 0, .int a1, .int a2, .int a3]) (S := [.int a1, .ref 6]) (z := (zS (up2 I6 5 ((a1).toNatClampNeg) (-1)) J tg)) rfl c17 ?_
            refine Runs.sN 1 (c' := (73, [.ref 0, .int a1, .int a2, .int a3], [.int 0, .int a1, .ref 6], (zS (up2 I6 5 ((a1).toNatClampNeg) (-1)) J tg))) rfl ?_
            obtain ⟨c18, h⟩ := h
            obtain ⟨c19, h⟩ := h
            refine Runs.to (c' := (74, [.ref 0, .int a1, .int a2, .int a3], [], (zS (up2 (up2 I6 5 ((a1).toNatClampNeg) (-1)) 6 ((a1).toNatClampNeg) 0) J tg))) (Runs.zst rfl (show (6 : Nat) < 114 by decide) rfl c18 c19) ?_
            refine Runs.sN 1 (c' := (75, [.ref 0, .int a1, .int a2, .int a3], [.int 1], (zS (up2 (up2 I6 5 ((a1).toNatClampNeg) (-1)) 6 ((a1).toNatClampNeg) 0) J tg))) rfl ?_
            subst h
            exact Runs.rt rfl
          · rw [if_neg c17] at h
            refine Runs.brF (P := a2 = (-1)) (a := 72) (b := 68) (L := [.ref 0, .int a1, .int a2, .int a3]) (S := [.int a1, .ref 6]) (z := (zS (up2 I6 5 ((a1).toNatClampNeg) (-1)) J tg)) rfl c17 ?_
            refine Runs.sN 2 (c' := (73, [.ref 0, .int a1, .int a2, .int a3], [.int 1, .int a1, .ref 6], (zS (up2 I6 5 ((a1).toNatClampNeg) (-1)) J tg))) rfl ?_
            obtain ⟨c20, h⟩ := h
            obtain ⟨c21, h⟩ := h
            refine Runs.to (c' := (74, [.ref 0, .int a1, .int a2, .int a3], [], (zS (up2 (up2 I6 5 ((a1).toNatClampNeg) (-1)) 6 ((a1).toNatClampNeg) 1) J tg))) (Runs.zst rfl (show (6 : Nat) < 114 by decide) rfl c20 c21) ?_
            refine Runs.sN 1 (c' := (75, [.ref 0, .int a1, .int a2, .int a3], [.int 1], (zS (up2 (up2 I6 5 ((a1).toNatClampNeg) (-1)) 6 ((a1).toNatClampNeg) 1) J tg))) rfl ?_
            subst h
            exact Runs.rt rfl
      · rw [if_neg c12] at h
        refine Runs.brF (P := a2 = (-1)) (a := 42) (b := 46) (L := [.ref 0, .int a1, .int a2, .int a3]) (S := [.int a1, .ref 5]) (z := (zS I6 J tg)) rfl c12 ?_
        refine Runs.sN 3 (c' := (50, [.ref 0, .int a1, .int a2, .int a3], [.int (a2 - 12), .int a1, .ref 5], (zS I6 J tg))) rfl ?_
        obtain ⟨c22, h⟩ := h
        refine Runs.to (c' := (51, [.ref 0, .int a1, .int a2, .int a3], [], (zS (up2 I6 5 ((a1).toNatClampNeg) (a2 - 12)) J tg))) (Runs.ist rfl (show (5 : Nat) < 114 by decide) rfl c22) ?_
        refine Runs.sN 5 (c' := (60, [.ref 0, .int a1, .int a2, .int a3], [.int a3, .int a1, .ref 6], (zS (up2 I6 5 ((a1).toNatClampNeg) (a2 - 12)) J tg))) rfl ?_
        by_cases c23 : a3 = 0
        · rw [if_pos c23] at h
          refine Runs.brT (P := a3 = 0) (a := 72) (b := 63) (L := [.ref 0, .int a1, .int a2, .int a3]) (S := [.int a1, .ref 6]) (z := (zS (up2 I6 5 ((a1).toNatClampNeg) (a2 - 12)) J tg)) rfl c23 ?_
          refine Runs.sN 1 (c' := (73, [.ref 0, .int a1, .int a2, .int a3], [.int 0, .int a1, .ref 6], (zS (up2 I6 5 ((a1).toNatClampNeg) (a2 - 12)) J tg))) rfl ?_
          obtain ⟨c24, h⟩ := h
          obtain ⟨c25, h⟩ := h
          refine Runs.to (c' := (74, [.ref 0, .int a1, .int a2, .int a3], [], (zS (up2 (up2 I6 5 ((a1).toNatClampNeg) (a2 - 12)) 6 ((a1).toNatClampNeg) 0) J tg))) (Runs.zst rfl (show (6 : Nat) < 114 by decide) rfl c24 c25) ?_
          refine Runs.sN 1 (c' := (75, [.ref 0, .int a1, .int a2, .int a3], [.int 1], (zS (up2 (up2 I6 5 ((a1).toNatClampNeg) (a2 - 12)) 6 ((a1).toNatClampNeg) 0) J tg))) rfl ?_
          subst h
          exact Runs.rt rfl
        · rw [if_neg c23] at h
          refine Runs.brF (P := a3 = 0) (a := 72) (b := 63) (L := [.ref 0, .int a1, .int a2, .int a3]) (S := [.int a1, .ref 6]) (z := (zS (up2 I6 5 ((a1).toNatClampNeg) (a2 - 12)) J tg)) rfl c23 ?_
          refine Runs.sN 2 (c' := (65, [.ref 0, .int a1, .int a2, .int a3], [.int (-1), .int a2, .int a1, .ref 6], (zS (up2 I6 5 ((a1).toNatClampNeg) (a2 - 12)) J tg))) rfl ?_
          by_cases c26 : a2 = (-1)
          · rw [if_pos c26] at h
            refine Runs.brT (P := a2 = (-1)) (a := 72) (b := 68) (L := [.ref 0, .int a1, .int a2, .int a3]) (S := [.int a1, .ref 6]) (z := (zS (up2 I6 5 ((a1).toNatClampNeg) (a2 - 12)) J tg)) rfl c26 ?_
            refine Runs.sN 1 (c' := (73, [.ref 0, .int a1, .int a2, .int a3], [.int 0, .int a1, .ref 6], (zS (up2 I6 5 ((a1).toNatClampNeg) (a2 - 12)) J tg))) rfl ?_
            obtain ⟨c27, h⟩ := h
            obtain ⟨c28, h⟩ := h
            refine Runs.to (c' := (74, [.ref 0, .int a1, .int a2, .int a3], [], (zS (up2 (up2 I6 5 ((a1).toNatClampNeg) (a2 - 12)) 6 ((a1).toNatClampNeg) 0) J tg))) (Runs.zst rfl (show (6 : Nat) < 114 by decide) rfl c27 c28) ?_
            refine Runs.sN 1 (c' := (75, [.ref 0, .int a1, .int a2, .int a3], [.int 1], (zS (up2 (up2 I6 5 ((a1).toNatClampNeg) (a2 - 12)) 6 ((a1).toNatClampNeg) 0) J tg))) rfl ?_
            subst h
            exact Runs.rt rfl
          · rw [if_neg c26] at h
            refine Runs.brF (P := a2 = (-1)) (a := 72) (b := 68) (L := [.ref 0, .int a1, .int a2, .int a3]) (S := [.int a1, .ref 6]) (z := (zS (up2 I6 5 ((a1).toNatClampNeg) (a2 - 12)) J tg)) rfl c26 ?_
            refine Runs.sN 2 (c' := (73, [.ref 0, .int a1, .int a2, .int a3], [.int 1, .int a1, .ref 6], (zS (up2 I6 5 ((a1).toNatClampNeg) (a2 - 12)) J tg))) rfl ?_
            obtain ⟨c29, h⟩ := h
            obtain ⟨c30, h⟩ := h
            refine Runs.to (c' := (74, [.ref 0, .int a1, .int a2, .int a3], [], (zS (up2 (up2 I6 5 ((a1).toNatClampNeg) (a2 - 12)) 6 ((a1).toNatClampNeg) 1) J tg))) (Runs.zst rfl (show (6 : Nat) < 114 by decide) rfl c29 c30) ?_
            refine Runs.sN 1 (c' := (75, [.ref 0, .int a1, .int a2, .int a3], [.int 1], (zS (up2 (up2 I6 5 ((a1).toNatClampNeg) (a2 - 12)) 6 ((a1).toNatClampNeg) 1) J tg))) rfl ?_
            subst h
            exact Runs.rt rfl
    · rw [if_neg c11] at h
      refine Runs.brF (P := a2 = (-1)) (a := 29) (b := 16) (L := [.ref 0, .int a1, .int a2, .int a3]) (S := []) (z := (zS I6 J tg)) rfl c11 ?_
      refine Runs.sN 3 (c' := (21, [.ref 0, .int a1, .int a2, .int a3], [.int a2, .ref 1], (zS I6 J tg))) rfl ?_
      obtain ⟨v7, I8, c31, h⟩ := h
      refine Runs.cl (cm := 45) (as := [.ref 1, .int a2]) (rest := []) (r1 := ((some (.int v7)), (zS I8 J tg))) rfl (Nat.le_of_ble_eq_true rfl) c31 ?_
      refine Runs.as (c' := (24, [.ref 0, .int a1, .int a2, .int a3], [.int v7], (zS I8 J tg))) rfl ?_
      by_cases c32 : v7 = 0
      · rw [if_pos c32] at h
        refine Runs.brT (P := v7 = 0) (a := 27) (b := 29) (L := [.ref 0, .int a1, .int a2, .int a3]) (S := []) (z := (zS I8 J tg)) rfl c32 ?_
        refine Runs.sN 1 (c' := (28, [.ref 0, .int a1, .int a2, .int a3], [.int 0], (zS I8 J tg))) rfl ?_
        subst h
        exact Runs.rt rfl
      · rw [if_neg c32] at h
        refine Runs.brF (P := v7 = 0) (a := 27) (b := 29) (L := [.ref 0, .int a1, .int a2, .int a3]) (S := []) (z := (zS I8 J tg)) rfl c32 ?_
        refine Runs.sN 6 (c' := (39, [.ref 0, .int a1, .int a2, .int a3], [.int (-1), .int a2, .int a1, .ref 5], (zS I8 J tg))) rfl ?_
        by_cases c33 : a2 = (-1)
        · rw [if_pos c33] at h
          refine Runs.brT (P := a2 = (-1)) (a := 42) (b := 46) (L := [.ref 0, .int a1, .int a2, .int a3]) (S := [.int a1, .ref 5]) (z := (zS I8 J tg)) rfl c33 ?_
          refine Runs.sN 2 (c' := (50, [.ref 0, .int a1, .int a2, .int a3], [.int (-1), .int a1, .ref 5], (zS I8 J tg))) rfl ?_
          obtain ⟨c34, h⟩ := h
          refine Runs.to (c' := (51, [.ref 0, .int a1, .int a2, .int a3], [], (zS (up2 I8 5 ((a1).toNatClampNeg) (-1)) J tg))) (Runs.ist rfl (show (5 : Nat) < 114 by decide) rfl c34) ?_
          refine Runs.sN 5 (c' := (60, [.ref 0, .int a1, .int a2, .int a3], [.int a3, .int a1, .ref 6], (zS (up2 I8 5 ((a1).toNatClampNeg) (-1)) J tg))) rfl ?_
          by_cases c35 : a3 = 0
          · rw [if_pos c35] at h
            refine Runs.brT (P := a3 = 0) (a := 72) (b := 63) (L := [.ref 0, .int a1, .int a2, .int a3]) (S := [.int a1, .ref 6]) (z := (zS (up2 I8 5 ((a1).toNatClampNeg) (-1)) J tg)) rfl c35 ?_
            refine Runs.sN 1 (c' := (73, [.ref 0, .int a1, .int a2, .int a3], [.int 0, .int a1, .ref 6], (zS (up2 I8 5 ((a1).toNatClampNeg) (-1)) J tg))) rfl ?_
            obtain ⟨c36, h⟩ := h
            obtain ⟨c37, h⟩ := h
            refine Runs.to (c' := (74, [.ref 0, .int a1, .int a2, .int a3], [], (zS (up2 (up2 I8 5 ((a1).toNatClampNeg) (-1)) 6 ((a1).toNatClampNeg) 0) J tg))) (Runs.zst rfl (show (6 : Nat) < 114 by decide) rfl c36 c37) ?_
            refine Runs.sN 1 (c' := (75, [.ref 0, .int a1, .int a2, .int a3], [.int 1], (zS (up2 (up2 I8 5 ((a1).toNatClampNeg) (-1)) 6 ((a1).toNatClampNeg) 0) J tg))) rfl ?_
            subst h
            exact Runs.rt rfl
          · rw [if_neg c35] at h
            refine Runs.brF (P := a3 = 0) (a := 72) (b := 63) (L := [.ref 0, .int a1, .int a2, .int a3]) (S := [.int a1, .ref 6]) (z := (zS (up2 I8 5 ((a1).toNatClampNeg) (-1)) J tg)) rfl c35 ?_
            refine Runs.sN 2 (c' := (65, [.ref 0, .int a1, .int a2, .int a3], [.int (-1), .int a2, .int a1, .ref 6], (zS (up2 I8 5 ((a1).toNatClampNeg) (-1)) J tg))) rfl ?_
            by_cases c38 : a2 = (-1)
            · rw [if_pos c38] at h
              refine Runs.brT (P := a2 = (-1)) (a := 72) (b := 68) (L := [.ref 0, .int a1, .int a2, .int a3]) (S := [.int a1, .ref 6]) (z := (zS (up2 I8 5 ((a1).toNatClampNeg) (-1)) J tg)) rfl c38 ?_
              refine Runs.sN 1 (c' := (73, [.ref 0, .int a1, .int a2, .int a3], [.int 0, .int a1, .ref 6], (zS (up2 I8 5 ((a1).toNatClampNeg) (-1)) J tg))) rfl ?_
              obtain ⟨c39, h⟩ := h
              obtain ⟨c40, h⟩ := h
              refine Runs.to (c' := (74, [.ref 0, .int a1, .int a2, .int a3], [], (zS (up2 (up2 I8 5 ((a1).toNatClampNeg) (-1)) 6 ((a1).toNatClampNeg) 0) J tg))) (Runs.zst rfl (show (6 : Nat) < 114 by decide) rfl c39 c40) ?_
              refine Runs.sN 1 (c' := (75, [.ref 0, .int a1, .int a2, .int a3], [.int 1], (zS (up2 (up2 I8 5 ((a1).toNatClampNeg) (-1)) 6 ((a1).toNatClampNeg) 0) J tg))) rfl ?_
              subst h
              exact Runs.rt rfl
            · rw [if_neg c38] at h
              refine Runs.brF (P := a2 = (-1)) (a := 72) (b := 68) (L := [.ref 0, .int a1, .int a2, .int a3]) (S := [.int a1, .ref 6]) (z := (zS (up2 I8 5 ((a1).toNatClampNeg) (-1)) J tg)) rfl c38 ?_
              refine Runs.sN 2 (c' := (73, [.ref 0, .int a1, .int a2, .int a3], [.int 1, .int a1, .ref 6], (zS (up2 I8 5 ((a1).toNatClampNeg) (-1)) J tg))) rfl ?_
              obtain ⟨c41, h⟩ := h
              obtain ⟨c42, h⟩ := h
              refine Runs.to (c' := (74, [.ref 0, .int a1, .int a2, .int a3], [], (zS (up2 (up2 I8 5 ((a1).toNatClampNeg) (-1)) 6 ((a1).toNatClampNeg) 1) J tg))) (Runs.zst rfl (show (6 : Nat) < 114 by decide) rfl c41 c42) ?_
              refine Runs.sN 1 (c' := (75, [.ref 0, .int a1, .int a2, .int a3], [.int 1], (zS (up2 (up2 I8 5 ((a1).toNatClampNeg) (-1)) 6 ((a1).toNatClampNeg) 1) J tg))) rfl ?_
              subst h
              exact Runs.rt rfl
        · rw [if_neg c33] at h
          refine Runs.brF (P := a2 = (-1)) (a := 42) (b := 46) (L := [.ref 0, .int a1, .int a2, .int a3]) (S := [.int a1, .ref 5]) (z := (zS I8 J tg)) rfl c33 ?_
          refine Runs.sN 3 (c' := (50, [.ref 0, .int a1, .int a2, .int a3], [.int (a2 - 12), .int a1, .ref 5], (zS I8 J tg))) rfl ?_
          obtain ⟨c43, h⟩ := h
          refine Runs.to (c' := (51, [.ref 0, .int a1, .int a2, .int a3], [], (zS (up2 I8 5 ((a1).toNatClampNeg) (a2 - 12)) J tg))) (Runs.ist rfl (show (5 : Nat) < 114 by decide) rfl c43) ?_
          refine Runs.sN 5 (c' := (60, [.ref 0, .int a1, .int a2, .int a3], [.int a3, .int a1, .ref 6], (zS (up2 I8 5 ((a1).toNatClampNeg) (a2 - 12)) J tg))) rfl ?_
          by_cases c44 : a3 = 0
          · rw [if_pos c44] at h
            refine Runs.brT (P := a3 = 0) (a := 72) (b := 63) (L := [.ref 0, .int a1, .int a2, .int a3]) (S := [.int a1, .ref 6]) (z := (zS (up2 I8 5 ((a1).toNatClampNeg) (a2 - 12)) J tg)) rfl c44 ?_
            refine Runs.sN 1 (c' := (73, [.ref 0, .int a1, .int a2, .int a3], [.int 0, .int a1, .ref 6], (zS (up2 I8 5 ((a1).toNatClampNeg) (a2 - 12)) J tg))) rfl ?_
            obtain ⟨c45, h⟩ := h
            obtain ⟨c46, h⟩ := h
            refine Runs.to (c' := (74, [.ref 0, .int a1, .int a2, .int a3], [], (zS (up2 (up2 I8 5 ((a1).toNatClampNeg) (a2 - 12)) 6 ((a1).toNatClampNeg) 0) J tg))) (Runs.zst rfl (show (6 : Nat) < 114 by decide) rfl c45 c46) ?_
            refine Runs.sN 1 (c' := (75, [.ref 0, .int a1, .int a2, .int a3], [.int 1], (zS (up2 (up2 I8 5 ((a1).toNatClampNeg) (a2 - 12)) 6 ((a1).toNatClampNeg) 0) J tg))) rfl ?_
            subst h
            exact Runs.rt rfl
          · rw [if_neg c44] at h
            refine Runs.brF (P := a3 = 0) (a := 72) (b := 63) (L := [.ref 0, .int a1, .int a2, .int a3]) (S := [.int a1, .ref 6]) (z := (zS (up2 I8 5 ((a1).toNatClampNeg) (a2 - 12)) J tg)) rfl c44 ?_
            refine Runs.sN 2 (c' := (65, [.ref 0, .int a1, .int a2, .int a3], [.int (-1), .int a2, .int a1, .ref 6], (zS (up2 I8 5 ((a1).toNatClampNeg) (a2 - 12)) J tg))) rfl ?_
            by_cases c47 : a2 = (-1)
            · rw [if_pos c47] at h
              refine Runs.brT (P := a2 = (-1)) (a := 72) (b := 68) (L := [.ref 0, .int a1, .int a2, .int a3]) (S := [.int a1, .ref 6]) (z := (zS (up2 I8 5 ((a1).toNatClampNeg) (a2 - 12)) J tg)) rfl c47 ?_
              refine Runs.sN 1 (c' := (73, [.ref 0, .int a1, .int a2, .int a3], [.int 0, .int a1, .ref 6], (zS (up2 I8 5 ((a1).toNatClampNeg) (a2 - 12)) J tg))) rfl ?_
              obtain ⟨c48, h⟩ := h
              obtain ⟨c49, h⟩ := h
              refine Runs.to (c' := (74, [.ref 0, .int a1, .int a2, .int a3], [], (zS (up2 (up2 I8 5 ((a1).toNatClampNeg) (a2 - 12)) 6 ((a1).toNatClampNeg) 0) J tg))) (Runs.zst rfl (show (6 : Nat) < 114 by decide) rfl c48 c49) ?_
              refine Runs.sN 1 (c' := (75, [.ref 0, .int a1, .int a2, .int a3], [.int 1], (zS (up2 (up2 I8 5 ((a1).toNatClampNeg) (a2 - 12)) 6 ((a1).toNatClampNeg) 0) J tg))) rfl ?_
              subst h
              exact Runs.rt rfl
            · rw [if_neg c47] at h
              refine Runs.brF (P := a2 = (-1)) (a := 72) (b := 68) (L := [.ref 0, .int a1, .int a2, .int a3]) (S := [.int a1, .ref 6]) (z := (zS (up2 I8 5 ((a1).toNatClampNeg) (a2 - 12)) J tg)) rfl c47 ?_
              refine Runs.sN 2 (c' := (73, [.ref 0, .int a1, .int a2, .int a3], [.int 1, .int a1, .ref 6], (zS (up2 I8 5 ((a1).toNatClampNeg) (a2 - 12)) J tg))) rfl ?_
              obtain ⟨c50, h⟩ := h
              obtain ⟨c51, h⟩ := h
              refine Runs.to (c' := (74, [.ref 0, .int a1, .int a2, .int a3], [], (zS (up2 (up2 I8 5 ((a1).toNatClampNeg) (a2 - 12)) 6 ((a1).toNatClampNeg) 1) J tg))) (Runs.zst rfl (show (6 : Nat) < 114 by decide) rfl c50 c51) ?_
              refine Runs.sN 1 (c' := (75, [.ref 0, .int a1, .int a2, .int a3], [.int 1], (zS (up2 (up2 I8 5 ((a1).toNatClampNeg) (a2 - 12)) 6 ((a1).toNatClampNeg) 1) J tg))) rfl ?_
              subst h
              exact Runs.rt rfl
-- X11_weights 
theorem sg_121 {L d : Nat} {xs : Nat → Int32} (I : Nat → Nat → Int32) (J : Nat → Nat → Int64) (tg : Option Nat) (a1 : Int32) (a2 : Int32) (a3 : Int32) (a4 : Int32) {r : Option Value × SS} (h : (∃ (v10 : Int32) (I11 : Nat → Nat → Int32), Runs (GW L xs) d 164 (0, [.int a1, .int 0, .int 99], [], (zS I J tg)) ((some (.int v10)), (zS I11 J tg)) ∧ (if v10 = 0 then (r = (some (.int 0), (zS I11 J tg))) else (∃ (v12 : Int32) (I13 : Nat → Nat → Int32), Runs (GW L xs) d 164 (0, [.int a2, .int 0, .int 99], [], (zS I11 J tg)) ((some (.int v12)), (zS I13 J tg)) ∧ (if v12 = 0 then (r = (some (.int 0), (zS I13 J tg))) else (∃ (v14 : Int32) (I15 : Nat → Nat → Int32), Runs (GW L xs) d 164 (0, [.int a3, .int 0, .int 99], [], (zS I13 J tg)) ((some (.int v14)), (zS I15 J tg)) ∧ (if v14 = 0 then (r = (some (.int 0), (zS I15 J tg))) else (∃ (v16 : Int32) (I17 : Nat → Nat → Int32), Runs (GW L xs) d 164 (0, [.int a4, .int 0, .int 99], [], (zS I15 J tg)) ((some (.int v16)), (zS I17 J tg)) ∧ (if v16 = 0 then (r = (some (.int 0), (zS I17 J tg))) else (∃ (I18 : Nat → Nat → Int32), Runs (GW L xs) d 60 (0, [.ref 70], [], (zS (up2 (up2 (up2 (up2 I17 1 2 a1) 1 3 a2) 1 4 a3) 1 5 a4) J tg)) (none, (zS I18 J tg)) ∧ r = (some (.int 1), (zS I18 J tg)))))))))))) : Runs (GW L xs) (d + 1) 121 (0, [.ref 0, .int a1, .int a2, .int a3, .int a4], [], (zS I J tg)) r := by
  refine Runs.sN 3 (c' := (4, [.ref 0, .int a1, .int a2, .int a3, .int a4], [.int 99, .int 0, .int a1], (zS I J tg))) rfl ?_
  obtain ⟨v10, I11, c19, h⟩ := h
  refine Runs.cl (cm := 164) (as := [.int a1, .int 0, .int 99]) (rest := []) (r1 := ((some (.int v10)), (zS I11 J tg))) rfl (Nat.le_of_ble_eq_true rfl) c19 ?_
  refine Runs.as (c' := (7, [.ref 0, .int a1, .int a2, .int a3, .int a4], [.int v10], (zS I11 J tg))) rfl ?_
  by_cases c20 : v10 = 0
  · rw [if_pos c20] at h
    refine Runs.brT (P := v10 = 0) (a := 41) (b := 10) (L := [.ref 0, .int a1, .int a2, .int a3, .int a4]) (S := []) (z := (zS I11 J tg)) rfl c20 ?_
    refine Runs.sN 1 (c' := (42, [.ref 0, .int a1, .int a2, .int a3, .int a4], [.int 0], (zS I11 J tg))) rfl ?_
    subst h
    exact Runs.rt rfl
  · rw [if_neg c20] at h
    refine Runs.brF (P := v10 = 0) (a := 41) (b := 10) (L := [.ref 0, .int a1, .int a2, .int a3, .int a4]) (S := []) (z := (zS I11 J tg)) rfl c20 ?_
    refine Runs.sN 3 (c' := (14, [.ref 0, .int a1, .int a2, .int a3, .int a4], [.int 99, .int 0, .int a2], (zS I11 J tg))) rfl ?_
    obtain ⟨v12, I13, c21, h⟩ := h
    refine Runs.cl (cm := 164) (as := [.int a2, .int 0, .int 99]) (rest := []) (r1 := ((some (.int v12)), (zS I13 J tg))) rfl (Nat.le_of_ble_eq_true rfl) c21 ?_
    refine Runs.as (c' := (17, [.ref 0, .int a1, .int a2, .int a3, .int a4], [.int v12], (zS I13 J tg))) rfl ?_
    by_cases c22 : v12 = 0
    · rw [if_pos c22] at h
      refine Runs.brT (P := v12 = 0) (a := 41) (b := 20) (L := [.ref 0, .int a1, .int a2, .int a3, .int a4]) (S := []) (z := (zS I13 J tg)) rfl c22 ?_
      refine Runs.sN 1 (c' := (42, [.ref 0, .int a1, .int a2, .int a3, .int a4], [.int 0], (zS I13 J tg))) rfl ?_
      subst h
      exact Runs.rt rfl
    · rw [if_neg c22] at h
      refine Runs.brF (P := v12 = 0) (a := 41) (b := 20) (L := [.ref 0, .int a1, .int a2, .int a3, .int a4]) (S := []) (z := (zS I13 J tg)) rfl c22 ?_
      refine Runs.sN 3 (c' := (24, [.ref 0, .int a1, .int a2, .int a3, .int a4], [.int 99, .int 0, .int a3], (zS I13 J tg))) rfl ?_
      obtain ⟨v14, I15, c23, h⟩ := h
      refine Runs.cl (cm := 164) (as := [.int a3, .int 0, .int 99]) (rest := []) (r1 := ((some (.int v14)), (zS I15 J tg))) rfl (Nat.le_of_ble_eq_true rfl) c23 ?_
      refine Runs.as (c' := (27, [.ref 0, .int a1, .int a2, .int a3, .int a4], [.int v14], (zS I15 J tg))) rfl ?_
      by_cases c24 : v14 = 0
      · rw [if_pos c24] at h
        refine Runs.brT (P := v14 = 0) (a := 41) (b := 30) (L := [.ref 0, .int a1, .int a2, .int a3, .int a4]) (S := []) (z := (zS I15 J tg)) rfl c24 ?_
        refine Runs.sN 1 (c' := (42, [.ref 0, .int a1, .int a2, .int a3, .int a4], [.int 0], (zS I15 J tg))) rfl ?_
        subst h
        exact Runs.rt rfl
      · rw [if_neg c24] at h
        refine Runs.brF (P := v14 = 0) (a := 41) (b := 30) (L := [.ref 0, .int a1, .int a2, .int a3, .int a4]) (S := []) (z := (zS I15 J tg)) rfl c24 ?_
        refine Runs.sN 3 (c' := (35, [.ref 0, .int a1, .int a2, .int a3, .int a4], [.int 99, .int 0, .int a4], (zS I15 J tg))) rfl ?_
        obtain ⟨v16, I17, c25, h⟩ := h
        refine Runs.cl (cm := 164) (as := [.int a4, .int 0, .int 99]) (rest := []) (r1 := ((some (.int v16)), (zS I17 J tg))) rfl (Nat.le_of_ble_eq_true rfl) c25 ?_
        refine Runs.as (c' := (38, [.ref 0, .int a1, .int a2, .int a3, .int a4], [.int v16], (zS I17 J tg))) rfl ?_
        by_cases c26 : v16 = 0
        · rw [if_pos c26] at h
          refine Runs.brT (P := v16 = 0) (a := 41) (b := 43) (L := [.ref 0, .int a1, .int a2, .int a3, .int a4]) (S := []) (z := (zS I17 J tg)) rfl c26 ?_
          refine Runs.sN 1 (c' := (42, [.ref 0, .int a1, .int a2, .int a3, .int a4], [.int 0], (zS I17 J tg))) rfl ?_
          subst h
          exact Runs.rt rfl
        · rw [if_neg c26] at h
          refine Runs.brF (P := v16 = 0) (a := 41) (b := 43) (L := [.ref 0, .int a1, .int a2, .int a3, .int a4]) (S := []) (z := (zS I17 J tg)) rfl c26 ?_
          refine Runs.sN 18 (c' := (80, [.ref 0, .int a1, .int a2, .int a3, .int a4], [.ref 70], (zS (up2 (up2 (up2 (up2 I17 1 2 a1) 1 3 a2) 1 4 a3) 1 5 a4) J tg))) rfl ?_
          obtain ⟨I18, c27, h⟩ := h
          refine Runs.cl (cm := 60) (as := [.ref 70]) (rest := []) (r1 := (none, (zS I18 J tg))) rfl (Nat.le_of_ble_eq_true rfl) c27 ?_
          refine Runs.as (c' := (83, [.ref 0, .int a1, .int a2, .int a3, .int a4], [], (zS I18 J tg))) rfl ?_
          refine Runs.sN 1 (c' := (84, [.ref 0, .int a1, .int a2, .int a3, .int a4], [.int 1], (zS I18 J tg))) rfl ?_
          subst h
          exact Runs.rt rfl
-- X11_far 
theorem sg_122 {L d : Nat} {xs : Nat → Int32} (I : Nat → Nat → Int32) (J : Nat → Nat → Int64) (tg : Option Nat) (a1 : Int32) (a2 : Int32) {r : Option Value × SS} (h : (∃ (v7 : Int32) (I8 : Nat → Nat → Int32), Runs (GW L xs) d 46 (0, [.ref 1, .int a1], [], (zS I J tg)) ((some (.int v7)), (zS I8 J tg)) ∧ (if v7 = 0 then (r = (some (.int (-1)), (zS I8 J tg))) else (∃ (v9 : Int32) (I10 : Nat → Nat → Int32), Runs (GW L xs) d 46 (0, [.ref 1, .int a2], [], (zS I8 J tg)) ((some (.int v9)), (zS I10 J tg)) ∧ (if v9 = 0 then (r = (some (.int (-1)), (zS I10 J tg))) else (∃ (v11 : Int32) (I12 : Nat → Nat → Int32), Runs (GW L xs) d 62 (0, [.ref 70, .int a1, .int a2, vU], [], (zS I10 J tg)) ((some (.int v11)), (zS I12 J tg)) ∧ r = (some (.int v11), (zS I12 J tg)))))))) : Runs (GW L xs) (d + 1) 122 (0, [.ref 0, .int a1, .int a2], [], (zS I J tg)) r := by
  refine Runs.sN 3 (c' := (5, [.ref 0, .int a1, .int a2], [.int a1, .ref 1], (zS I J tg))) rfl ?_
  obtain ⟨v7, I8, c13, h⟩ := h
  refine Runs.cl (cm := 46) (as := [.ref 1, .int a1]) (rest := []) (r1 := ((some (.int v7)), (zS I8 J tg))) rfl (Nat.le_of_ble_eq_true rfl) c13 ?_
  refine Runs.as (c' := (8, [.ref 0, .int a1, .int a2], [.int v7], (zS I8 J tg))) rfl ?_
  by_cases c14 : v7 = 0
  · rw [if_pos c14] at h
    refine Runs.brT (P := v7 = 0) (a := 22) (b := 11) (L := [.ref 0, .int a1, .int a2]) (S := []) (z := (zS I8 J tg)) rfl c14 ?_
    refine Runs.sN 1 (c' := (23, [.ref 0, .int a1, .int a2], [.int (-1)], (zS I8 J tg))) rfl ?_
    subst h
    exact Runs.rt rfl
  · rw [if_neg c14] at h
    refine Runs.brF (P := v7 = 0) (a := 22) (b := 11) (L := [.ref 0, .int a1, .int a2]) (S := []) (z := (zS I8 J tg)) rfl c14 ?_
    refine Runs.sN 3 (c' := (16, [.ref 0, .int a1, .int a2], [.int a2, .ref 1], (zS I8 J tg))) rfl ?_
    obtain ⟨v9, I10, c15, h⟩ := h
    refine Runs.cl (cm := 46) (as := [.ref 1, .int a2]) (rest := []) (r1 := ((some (.int v9)), (zS I10 J tg))) rfl (Nat.le_of_ble_eq_true rfl) c15 ?_
    refine Runs.as (c' := (19, [.ref 0, .int a1, .int a2], [.int v9], (zS I10 J tg))) rfl ?_
    by_cases c16 : v9 = 0
    · rw [if_pos c16] at h
      refine Runs.brT (P := v9 = 0) (a := 22) (b := 24) (L := [.ref 0, .int a1, .int a2]) (S := []) (z := (zS I10 J tg)) rfl c16 ?_
      refine Runs.sN 1 (c' := (23, [.ref 0, .int a1, .int a2], [.int (-1)], (zS I10 J tg))) rfl ?_
      subst h
      exact Runs.rt rfl
    · rw [if_neg c16] at h
      refine Runs.brF (P := v9 = 0) (a := 22) (b := 24) (L := [.ref 0, .int a1, .int a2]) (S := []) (z := (zS I10 J tg)) rfl c16 ?_
      refine Runs.sN 4 (c' := (30, [.ref 0, .int a1, .int a2], [.int a2, .int a1, .ref 70], (zS I10 J tg))) rfl ?_
      obtain ⟨v11, I12, c17, h⟩ := h
      refine Runs.cl (cm := 62) (as := [.ref 70, .int a1, .int a2]) (rest := []) (r1 := ((some (.int v11)), (zS I12 J tg))) rfl (Nat.le_of_ble_eq_true rfl) c17 ?_
      refine Runs.as (c' := (33, [.ref 0, .int a1, .int a2], [.int v11], (zS I12 J tg))) rfl ?_
      subst h
      exact Runs.rt rfl
-- X11_land 
theorem sg_123 {L d : Nat} {xs : Nat → Int32} (I : Nat → Nat → Int32) (J : Nat → Nat → Int64) (tg : Option Nat) (a1 : Int32) (a2 : Int32) (a3 : Int32) {r : Option Value × SS} (h : (∃ (v7 : Int32) (I8 : Nat → Nat → Int32), Runs (GW L xs) d 165 (0, [.int a1], [], (zS I J tg)) ((some (.int v7)), (zS I8 J tg)) ∧ (if v7 = 0 then (r = (some (.int 0), (zS I8 J tg))) else (∃ (v9 : Int32) (I10 : Nat → Nat → Int32), Runs (GW L xs) d 164 (0, [.int a2, .int 0, .int 99], [], (zS I8 J tg)) ((some (.int v9)), (zS I10 J tg)) ∧ (if v9 = 0 then (r = (some (.int 0), (zS I10 J tg))) else (¬ (a1 < 0 ∨ 6 ≤ (a1).toNatClampNeg) ∧ ∃ (v11 : Int32) (I12 : Nat → Nat → Int32), Runs (GW L xs) d 48 (0, [.ref 1], [], (zS (up2 I10 8 ((a1).toNatClampNeg) a2) J tg)) ((some (.int v11)), (zS I12 J tg)) ∧ ¬ (a1 < 0 ∨ 6 ≤ (a1).toNatClampNeg) ∧ r = (some (.int 1), (zS (up2 I12 9 ((a1).toNatClampNeg) (a3 &&& v11)) J tg)))))))) : Runs (GW L xs) (d + 1) 123 (0, [.ref 0, .int a1, .int a2, .int a3], [], (zS I J tg)) r := by
  refine Runs.sN 1 (c' := (1, [.ref 0, .int a1, .int a2, .int a3], [.int a1], (zS I J tg))) rfl ?_
  obtain ⟨v7, I8, c13, h⟩ := h
  refine Runs.cl (cm := 165) (as := [.int a1]) (rest := []) (r1 := ((some (.int v7)), (zS I8 J tg))) rfl (Nat.le_of_ble_eq_true rfl) c13 ?_
  refine Runs.as (c' := (4, [.ref 0, .int a1, .int a2, .int a3], [.int v7], (zS I8 J tg))) rfl ?_
  by_cases c14 : v7 = 0
  · rw [if_pos c14] at h
    refine Runs.brT (P := v7 = 0) (a := 17) (b := 7) (L := [.ref 0, .int a1, .int a2, .int a3]) (S := []) (z := (zS I8 J tg)) rfl c14 ?_
    refine Runs.sN 1 (c' := (18, [.ref 0, .int a1, .int a2, .int a3], [.int 0], (zS I8 J tg))) rfl ?_
    subst h
    exact Runs.rt rfl
  · rw [if_neg c14] at h
    refine Runs.brF (P := v7 = 0) (a := 17) (b := 7) (L := [.ref 0, .int a1, .int a2, .int a3]) (S := []) (z := (zS I8 J tg)) rfl c14 ?_
    refine Runs.sN 3 (c' := (11, [.ref 0, .int a1, .int a2, .int a3], [.int 99, .int 0, .int a2], (zS I8 J tg))) rfl ?_
    obtain ⟨v9, I10, c15, h⟩ := h
    refine Runs.cl (cm := 164) (as := [.int a2, .int 0, .int 99]) (rest := []) (r1 := ((some (.int v9)), (zS I10 J tg))) rfl (Nat.le_of_ble_eq_true rfl) c15 ?_
    refine Runs.as (c' := (14, [.ref 0, .int a1, .int a2, .int a3], [.int v9], (zS I10 J tg))) rfl ?_
    by_cases c16 : v9 = 0
    · rw [if_pos c16] at h
      refine Runs.brT (P := v9 = 0) (a := 17) (b := 19) (L := [.ref 0, .int a1, .int a2, .int a3]) (S := []) (z := (zS I10 J tg)) rfl c16 ?_
      refine Runs.sN 1 (c' := (18, [.ref 0, .int a1, .int a2, .int a3], [.int 0], (zS I10 J tg))) rfl ?_
      subst h
      exact Runs.rt rfl
    · rw [if_neg c16] at h
      refine Runs.brF (P := v9 = 0) (a := 17) (b := 19) (L := [.ref 0, .int a1, .int a2, .int a3]) (S := []) (z := (zS I10 J tg)) rfl c16 ?_
      refine Runs.sN 5 (c' := (28, [.ref 0, .int a1, .int a2, .int a3], [.int a2, .int a1, .ref 8], (zS I10 J tg))) rfl ?_
      obtain ⟨c17, h⟩ := h
      refine Runs.to (c' := (29, [.ref 0, .int a1, .int a2, .int a3], [], (zS (up2 I10 8 ((a1).toNatClampNeg) a2) J tg))) (Runs.ist rfl (show (8 : Nat) < 114 by decide) rfl c17) ?_
      refine Runs.sN 7 (c' := (42, [.ref 0, .int a1, .int a2, .int a3], [.ref 1, .int a3, .int a1, .ref 9], (zS (up2 I10 8 ((a1).toNatClampNeg) a2) J tg))) rfl ?_
      obtain ⟨v11, I12, c18, h⟩ := h
      refine Runs.cl (cm := 48) (as := [.ref 1]) (rest := [.int a3, .int a1, .ref 9]) (r1 := ((some (.int v11)), (zS I12 J tg))) rfl (Nat.le_of_ble_eq_true rfl) c18 ?_
      refine Runs.as (c' := (45, [.ref 0, .int a1, .int a2, .int a3], [.int v11, .int a3, .int a1, .ref 9], (zS I12 J tg))) rfl ?_
      refine Runs.sN 1 (c' := (46, [.ref 0, .int a1, .int a2, .int a3], [.int (a3 &&& v11), .int a1, .ref 9], (zS I12 J tg))) rfl ?_
      obtain ⟨c19, h⟩ := h
      refine Runs.to (c' := (47, [.ref 0, .int a1, .int a2, .int a3], [], (zS (up2 I12 9 ((a1).toNatClampNeg) (a3 &&& v11)) J tg))) (Runs.ist rfl (show (9 : Nat) < 114 by decide) rfl c19) ?_
      refine Runs.sN 1 (c' := (48, [.ref 0, .int a1, .int a2, .int a3], [.int 1], (zS (up2 I12 9 ((a1).toNatClampNeg) (a3 &&& v11)) J tg))) rfl ?_
      subst h
      exact Runs.rt rfl
-- X11_lean 
theorem sg_124 {L d : Nat} {xs : Nat → Int32} (I : Nat → Nat → Int32) (J : Nat → Nat → Int64) (tg : Option Nat) (a1 : Int32) (a2 : Int32) (a3 : Int32) {r : Option Value × SS} (h : (∃ (v7 : Int32) (I8 : Nat → Nat → Int32), Runs (GW L xs) d 166 (0, [.int a1], [], (zS I J tg)) ((some (.int v7)), (zS I8 J tg)) ∧ (if v7 = 0 then (r = (some (.int 0), (zS I8 J tg))) else (∃ (v9 : Int32) (I10 : Nat → Nat → Int32), Runs (GW L xs) d 45 (0, [.ref 1, .int a2], [], (zS I8 J tg)) ((some (.int v9)), (zS I10 J tg)) ∧ (if v9 = 0 then (r = (some (.int 0), (zS I10 J tg))) else (∃ (v11 : Int32) (I12 : Nat → Nat → Int32), Runs (GW L xs) d 164 (0, [.int a3, .int 0, .int 99], [], (zS I10 J tg)) ((some (.int v11)), (zS I12 J tg)) ∧ (if v11 = 0 then (r = (some (.int 0), (zS I12 J tg))) else (¬ ((((a1 * 12) + a2) - 12) < 0 ∨ 72 ≤ (((a1 * 12) + a2) - 12).toNatClampNeg) ∧ r = (some (.int 1), (zS (up2 I12 10 ((((a1 * 12) + a2) - 12).toNatClampNeg) a3) J tg)))))))))) : Runs (GW L xs) (d + 1) 124 (0, [.ref 0, .int a1, .int a2, .int a3], [], (zS I J tg)) r := by
  refine Runs.sN 1 (c' := (1, [.ref 0, .int a1, .int a2, .int a3], [.int a1], (zS I J tg))) rfl ?_
  obtain ⟨v7, I8, c13, h⟩ := h
  refine Runs.cl (cm := 166) (as := [.int a1]) (rest := []) (r1 := ((some (.int v7)), (zS I8 J tg))) rfl (Nat.le_of_ble_eq_true rfl) c13 ?_
  refine Runs.as (c' := (4, [.ref 0, .int a1, .int a2, .int a3], [.int v7], (zS I8 J tg))) rfl ?_
  by_cases c14 : v7 = 0
  · rw [if_pos c14] at h
    refine Runs.brT (P := v7 = 0) (a := 28) (b := 7) (L := [.ref 0, .int a1, .int a2, .int a3]) (S := []) (z := (zS I8 J tg)) rfl c14 ?_
    refine Runs.sN 1 (c' := (29, [.ref 0, .int a1, .int a2, .int a3], [.int 0], (zS I8 J tg))) rfl ?_
    subst h
    exact Runs.rt rfl
  · rw [if_neg c14] at h
    refine Runs.brF (P := v7 = 0) (a := 28) (b := 7) (L := [.ref 0, .int a1, .int a2, .int a3]) (S := []) (z := (zS I8 J tg)) rfl c14 ?_
    refine Runs.sN 3 (c' := (12, [.ref 0, .int a1, .int a2, .int a3], [.int a2, .ref 1], (zS I8 J tg))) rfl ?_
    obtain ⟨v9, I10, c15, h⟩ := h
    refine Runs.cl (cm := 45) (as := [.ref 1, .int a2]) (rest := []) (r1 := ((some (.int v9)), (zS I10 J tg))) rfl (Nat.le_of_ble_eq_true rfl) c15 ?_
    refine Runs.as (c' := (15, [.ref 0, .int a1, .int a2, .int a3], [.int v9], (zS I10 J tg))) rfl ?_
    by_cases c16 : v9 = 0
    · rw [if_pos c16] at h
      refine Runs.brT (P := v9 = 0) (a := 28) (b := 18) (L := [.ref 0, .int a1, .int a2, .int a3]) (S := []) (z := (zS I10 J tg)) rfl c16 ?_
      refine Runs.sN 1 (c' := (29, [.ref 0, .int a1, .int a2, .int a3], [.int 0], (zS I10 J tg))) rfl ?_
      subst h
      exact Runs.rt rfl
    · rw [if_neg c16] at h
      refine Runs.brF (P := v9 = 0) (a := 28) (b := 18) (L := [.ref 0, .int a1, .int a2, .int a3]) (S := []) (z := (zS I10 J tg)) rfl c16 ?_
      refine Runs.sN 3 (c' := (22, [.ref 0, .int a1, .int a2, .int a3], [.int 99, .int 0, .int a3], (zS I10 J tg))) rfl ?_
      obtain ⟨v11, I12, c17, h⟩ := h
      refine Runs.cl (cm := 164) (as := [.int a3, .int 0, .int 99]) (rest := []) (r1 := ((some (.int v11)), (zS I12 J tg))) rfl (Nat.le_of_ble_eq_true rfl) c17 ?_
      refine Runs.as (c' := (25, [.ref 0, .int a1, .int a2, .int a3], [.int v11], (zS I12 J tg))) rfl ?_
      by_cases c18 : v11 = 0
      · rw [if_pos c18] at h
        refine Runs.brT (P := v11 = 0) (a := 28) (b := 30) (L := [.ref 0, .int a1, .int a2, .int a3]) (S := []) (z := (zS I12 J tg)) rfl c18 ?_
        refine Runs.sN 1 (c' := (29, [.ref 0, .int a1, .int a2, .int a3], [.int 0], (zS I12 J tg))) rfl ?_
        subst h
        exact Runs.rt rfl
      · rw [if_neg c18] at h
        refine Runs.brF (P := v11 = 0) (a := 28) (b := 30) (L := [.ref 0, .int a1, .int a2, .int a3]) (S := []) (z := (zS I12 J tg)) rfl c18 ?_
        refine Runs.sN 11 (c' := (47, [.ref 0, .int a1, .int a2, .int a3], [.int a3, .int (((a1 * 12) + a2) - 12), .ref 10], (zS I12 J tg))) rfl ?_
        obtain ⟨c19, h⟩ := h
        refine Runs.to (c' := (48, [.ref 0, .int a1, .int a2, .int a3], [], (zS (up2 I12 10 ((((a1 * 12) + a2) - 12).toNatClampNeg) a3) J tg))) (Runs.ist rfl (show (10 : Nat) < 114 by decide) rfl c19) ?_
        refine Runs.sN 1 (c' := (49, [.ref 0, .int a1, .int a2, .int a3], [.int 1], (zS (up2 I12 10 ((((a1 * 12) + a2) - 12).toNatClampNeg) a3) J tg))) rfl ?_
        subst h
        exact Runs.rt rfl
-- X11_rules 
theorem sg_125 {L d : Nat} {xs : Nat → Int32} (I : Nat → Nat → Int32) (J : Nat → Nat → Int64) (tg : Option Nat) (a1 : Int32) (a2 : Int32) (a3 : Int32) (a4 : Int32) {r : Option Value × SS} (h : (∃ (v9 : Int32) (I10 : Nat → Nat → Int32), Runs (GW L xs) d 164 (0, [.int a1, .int 0, .int 999], [], (zS I J tg)) ((some (.int v9)), (zS I10 J tg)) ∧ (if v9 = 0 then (r = (some (.int 0), (zS I10 J tg))) else (∃ (v11 : Int32) (I12 : Nat → Nat → Int32), Runs (GW L xs) d 164 (0, [.int a2, .int 0, .int 99], [], (zS I10 J tg)) ((some (.int v11)), (zS I12 J tg)) ∧ (if v11 = 0 then (r = (some (.int 0), (zS I12 J tg))) else (∃ (v13 : Int32) (I14 : Nat → Nat → Int32), Runs (GW L xs) d 164 (0, [.int a3, .int 1, .int 1000], [], (zS I12 J tg)) ((some (.int v13)), (zS I14 J tg)) ∧ (if v13 = 0 then (r = (some (.int 0), (zS I14 J tg))) else (∃ (v15 : Int32) (I16 : Nat → Nat → Int32), Runs (GW L xs) d 164 (0, [.int a4, .int 0, .int 1000], [], (zS I14 J tg)) ((some (.int v15)), (zS I16 J tg)) ∧ (if v15 = 0 then (r = (some (.int 0), (zS I16 J tg))) else (r = (some (.int 1), (zS (up2 (up2 (up2 (up2 I16 7 0 a1) 7 1 a2) 7 2 a3) 7 3 a4) J tg)))))))))))) : Runs (GW L xs) (d + 1) 125 (0, [.ref 0, .int a1, .int a2, .int a3, .int a4], [], (zS I J tg)) r := by
  refine Runs.sN 3 (c' := (5, [.ref 0, .int a1, .int a2, .int a3, .int a4], [.int 999, .int 0, .int a1], (zS I J tg))) rfl ?_
  obtain ⟨v9, I10, c17, h⟩ := h
  refine Runs.cl (cm := 164) (as := [.int a1, .int 0, .int 999]) (rest := []) (r1 := ((some (.int v9)), (zS I10 J tg))) rfl (Nat.le_of_ble_eq_true rfl) c17 ?_
  refine Runs.as (c' := (8, [.ref 0, .int a1, .int a2, .int a3, .int a4], [.int v9], (zS I10 J tg))) rfl ?_
  by_cases c18 : v9 = 0
  · rw [if_pos c18] at h
    refine Runs.brT (P := v9 = 0) (a := 44) (b := 11) (L := [.ref 0, .int a1, .int a2, .int a3, .int a4]) (S := []) (z := (zS I10 J tg)) rfl c18 ?_
    refine Runs.sN 1 (c' := (45, [.ref 0, .int a1, .int a2, .int a3, .int a4], [.int 0], (zS I10 J tg))) rfl ?_
    subst h
    exact Runs.rt rfl
  · rw [if_neg c18] at h
    refine Runs.brF (P := v9 = 0) (a := 44) (b := 11) (L := [.ref 0, .int a1, .int a2, .int a3, .int a4]) (S := []) (z := (zS I10 J tg)) rfl c18 ?_
    refine Runs.sN 3 (c' := (15, [.ref 0, .int a1, .int a2, .int a3, .int a4], [.int 99, .int 0, .int a2], (zS I10 J tg))) rfl ?_
    obtain ⟨v11, I12, c19, h⟩ := h
    refine Runs.cl (cm := 164) (as := [.int a2, .int 0, .int 99]) (rest := []) (r1 := ((some (.int v11)), (zS I12 J tg))) rfl (Nat.le_of_ble_eq_true rfl) c19 ?_
    refine Runs.as (c' := (18, [.ref 0, .int a1, .int a2, .int a3, .int a4], [.int v11], (zS I12 J tg))) rfl ?_
    by_cases c20 : v11 = 0
    · rw [if_pos c20] at h
      refine Runs.brT (P := v11 = 0) (a := 44) (b := 21) (L := [.ref 0, .int a1, .int a2, .int a3, .int a4]) (S := []) (z := (zS I12 J tg)) rfl c20 ?_
      refine Runs.sN 1 (c' := (45, [.ref 0, .int a1, .int a2, .int a3, .int a4], [.int 0], (zS I12 J tg))) rfl ?_
      subst h
      exact Runs.rt rfl
    · rw [if_neg c20] at h
      refine Runs.brF (P := v11 = 0) (a := 44) (b := 21) (L := [.ref 0, .int a1, .int a2, .int a3, .int a4]) (S := []) (z := (zS I12 J tg)) rfl c20 ?_
      refine Runs.sN 3 (c' := (26, [.ref 0, .int a1, .int a2, .int a3, .int a4], [.int 1000, .int 1, .int a3], (zS I12 J tg))) rfl ?_
      obtain ⟨v13, I14, c21, h⟩ := h
      refine Runs.cl (cm := 164) (as := [.int a3, .int 1, .int 1000]) (rest := []) (r1 := ((some (.int v13)), (zS I14 J tg))) rfl (Nat.le_of_ble_eq_true rfl) c21 ?_
      refine Runs.as (c' := (29, [.ref 0, .int a1, .int a2, .int a3, .int a4], [.int v13], (zS I14 J tg))) rfl ?_
      by_cases c22 : v13 = 0
      · rw [if_pos c22] at h
        refine Runs.brT (P := v13 = 0) (a := 44) (b := 32) (L := [.ref 0, .int a1, .int a2, .int a3, .int a4]) (S := []) (z := (zS I14 J tg)) rfl c22 ?_
        refine Runs.sN 1 (c' := (45, [.ref 0, .int a1, .int a2, .int a3, .int a4], [.int 0], (zS I14 J tg))) rfl ?_
        subst h
        exact Runs.rt rfl
      · rw [if_neg c22] at h
        refine Runs.brF (P := v13 = 0) (a := 44) (b := 32) (L := [.ref 0, .int a1, .int a2, .int a3, .int a4]) (S := []) (z := (zS I14 J tg)) rfl c22 ?_
        refine Runs.sN 3 (c' := (38, [.ref 0, .int a1, .int a2, .int a3, .int a4], [.int 1000, .int 0, .int a4], (zS I14 J tg))) rfl ?_
        obtain ⟨v15, I16, c23, h⟩ := h
        refine Runs.cl (cm := 164) (as := [.int a4, .int 0, .int 1000]) (rest := []) (r1 := ((some (.int v15)), (zS I16 J tg))) rfl (Nat.le_of_ble_eq_true rfl) c23 ?_
        refine Runs.as (c' := (41, [.ref 0, .int a1, .int a2, .int a3, .int a4], [.int v15], (zS I16 J tg))) rfl ?_
        by_cases c24 : v15 = 0
        · rw [if_pos c24] at h
          refine Runs.brT (P := v15 = 0) (a := 44) (b := 46) (L := [.ref 0, .int a1, .int a2, .int a3, .int a4]) (S := []) (z := (zS I16 J tg)) rfl c24 ?_
          refine Runs.sN 1 (c' := (45, [.ref 0, .int a1, .int a2, .int a3, .int a4], [.int 0], (zS I16 J tg))) rfl ?_
          subst h
          exact Runs.rt rfl
        · rw [if_neg c24] at h
          refine Runs.brF (P := v15 = 0) (a := 44) (b := 46) (L := [.ref 0, .int a1, .int a2, .int a3, .int a4]) (S := []) (z := (zS I16 J tg)) rfl c24 ?_
          refine Runs.sN 17 (c' := (80, [.ref 0, .int a1, .int a2, .int a3, .int a4], [.int 1], (zS (up2 (up2 (up2 (up2 I16 7 0 a1) 7 1 a2) 7 2 a3) 7 3 a4) J tg))) rfl ?_
          subst h
          exact Runs.rt rfl
-- X11_feed 
theorem sg_126 {L d : Nat} {xs : Nat → Int32} (I : Nat → Nat → Int32) (J : Nat → Nat → Int64) (tg : Option Nat) (a1 : Int32) (a2 : Int32) (a3 : Int32) (a4 : Int32) (a5 : Int32) {r : Option Value × SS} (h : ((if ((I 67 2) + 20) ≤ 300 then (∃ (I6 : Nat → Nat → Int32), Runs (GW L xs) d 69 (0, [.ref 67, .int a1, vU], [], (zS I J tg)) (none, (zS I6 J tg)) ∧ ∃ (I7 : Nat → Nat → Int32), Runs (GW L xs) d 69 (0, [.ref 67, .int a2, vU], [], (zS I6 J tg)) (none, (zS I7 J tg)) ∧ ∃ (I8 : Nat → Nat → Int32), Runs (GW L xs) d 69 (0, [.ref 67, .int a3, vU], [], (zS I7 J tg)) (none, (zS I8 J tg)) ∧ ∃ (I9 : Nat → Nat → Int32), Runs (GW L xs) d 69 (0, [.ref 67, .int a4, vU], [], (zS I8 J tg)) (none, (zS I9 J tg)) ∧ ∃ (I10 : Nat → Nat → Int32), Runs (GW L xs) d 69 (0, [.ref 67, .int a5, vU], [], (zS I9 J tg)) (none, (zS I10 J tg)) ∧ r = (some (.int (I10 67 2)), (zS I10 J tg))) else (r = (some (.int (-1)), (zS I J tg)))))) : Runs (GW L xs) (d + 1) 126 (0, [.ref 0, .int a1, .int a2, .int a3, .int a4, .int a5], [], (zS I J tg)) r := by
  refine Runs.sN 6 (c' := (13, [.ref 0, .int a1, .int a2, .int a3, .int a4, .int a5], [.int 300, .int ((I 67 2) + 20)], (zS I J tg))) rfl ?_
  by_cases c11 : ((I 67 2) + 20) ≤ 300
  · rw [if_pos c11] at h
    refine Runs.brT (P := ((I 67 2) + 20) ≤ 300) (a := 18) (b := 16) (L := [.ref 0, .int a1, .int a2, .int a3, .int a4, .int a5]) (S := []) (z := (zS I J tg)) rfl c11 ?_
    refine Runs.sN 3 (c' := (23, [.ref 0, .int a1, .int a2, .int a3, .int a4, .int a5], [.int a1, .ref 67], (zS I J tg))) rfl ?_
    obtain ⟨I6, c12, h⟩ := h
    refine Runs.cl (cm := 69) (as := [.ref 67, .int a1]) (rest := []) (r1 := (none, (zS I6 J tg))) rfl (Nat.le_of_ble_eq_true rfl) c12 ?_
    refine Runs.as (c' := (26, [.ref 0, .int a1, .int a2, .int a3, .int a4, .int a5], [], (zS I6 J tg))) rfl ?_
    refine Runs.sN 3 (c' := (31, [.ref 0, .int a1, .int a2, .int a3, .int a4, .int a5], [.int a2, .ref 67], (zS I6 J tg))) rfl ?_
    obtain ⟨I7, c13, h⟩ := h
    refine Runs.cl (cm := 69) (as := [.ref 67, .int a2]) (rest := []) (r1 := (none, (zS I7 J tg))) rfl (Nat.le_of_ble_eq_true rfl) c13 ?_
    refine Runs.as (c' := (34, [.ref 0, .int a1, .int a2, .int a3, .int a4, .int a5], [], (zS I7 J tg))) rfl ?_
    refine Runs.sN 3 (c' := (39, [.ref 0, .int a1, .int a2, .int a3, .int a4, .int a5], [.int a3, .ref 67], (zS I7 J tg))) rfl ?_
    obtain ⟨I8, c14, h⟩ := h
    refine Runs.cl (cm := 69) (as := [.ref 67, .int a3]) (rest := []) (r1 := (none, (zS I8 J tg))) rfl (Nat.le_of_ble_eq_true rfl) c14 ?_
    refine Runs.as (c' := (42, [.ref 0, .int a1, .int a2, .int a3, .int a4, .int a5], [], (zS I8 J tg))) rfl ?_
    refine Runs.sN 3 (c' := (48, [.ref 0, .int a1, .int a2, .int a3, .int a4, .int a5], [.int a4, .ref 67], (zS I8 J tg))) rfl ?_
    obtain ⟨I9, c15, h⟩ := h
    refine Runs.cl (cm := 69) (as := [.ref 67, .int a4]) (rest := []) (r1 := (none, (zS I9 J tg))) rfl (Nat.le_of_ble_eq_true rfl) c15 ?_
    refine Runs.as (c' := (51, [.ref 0, .int a1, .int a2, .int a3, .int a4, .int a5], [], (zS I9 J tg))) rfl ?_
    refine Runs.sN 3 (c' := (57, [.ref 0, .int a1, .int a2, .int a3, .int a4, .int a5], [.int a5, .ref 67], (zS I9 J tg))) rfl ?_
    obtain ⟨I10, c16, h⟩ := h
    refine Runs.cl (cm := 69) (as := [.ref 67, .int a5]) (rest := []) (r1 := (none, (zS I10 J tg))) rfl (Nat.le_of_ble_eq_true rfl) c16 ?_
    refine Runs.as (c' := (60, [.ref 0, .int a1, .int a2, .int a3, .int a4, .int a5], [], (zS I10 J tg))) rfl ?_
    refine Runs.sN 3 (c' := (67, [.ref 0, .int a1, .int a2, .int a3, .int a4, .int a5], [.int (I10 67 2)], (zS I10 J tg))) rfl ?_
    subst h
    exact Runs.rt rfl
  · rw [if_neg c11] at h
    refine Runs.brF (P := ((I 67 2) + 20) ≤ 300) (a := 18) (b := 16) (L := [.ref 0, .int a1, .int a2, .int a3, .int a4, .int a5]) (S := []) (z := (zS I J tg)) rfl c11 ?_
    refine Runs.sN 1 (c' := (17, [.ref 0, .int a1, .int a2, .int a3, .int a4, .int a5], [.int (-1)], (zS I J tg))) rfl ?_
    subst h
    exact Runs.rt rfl
-- X11_end 
theorem sg_127 {L d : Nat} {xs : Nat → Int32} (I : Nat → Nat → Int32) (J : Nat → Nat → Int64) (tg : Option Nat) (a1 : Int32) {r : Option Value × SS} (h : (∃ (v3 : Int32) (I4 : Nat → Nat → Int32), Runs (GW L xs) d 164 (0, [.int a1, .int 0, .int (I 67 2)], [], (zS I J tg)) ((some (.int v3)), (zS I4 J tg)) ∧ (if v3 = 0 then (r = (some (.int (-1)), (zS I4 J tg))) else (r = (some (.int a1), (zS (up2 I4 67 2 a1) J tg)))))) : Runs (GW L xs) (d + 1) 127 (0, [.ref 0, .int a1], [], (zS I J tg)) r := by
  refine Runs.sN 5 (c' := (9, [.ref 0, .int a1], [.int (I 67 2), .int 0, .int a1], (zS I J tg))) rfl ?_
  obtain ⟨v3, I4, c5, h⟩ := h
  refine Runs.cl (cm := 164) (as := [.int a1, .int 0, .int (I 67 2)]) (rest := []) (r1 := ((some (.int v3)), (zS I4 J tg))) rfl (Nat.le_of_ble_eq_true rfl) c5 ?_
  refine Runs.as (c' := (12, [.ref 0, .int a1], [.int v3], (zS I4 J tg))) rfl ?_
  by_cases c6 : v3 = 0
  · rw [if_pos c6] at h
    refine Runs.brT (P := v3 = 0) (a := 15) (b := 17) (L := [.ref 0, .int a1]) (S := []) (z := (zS I4 J tg)) rfl c6 ?_
    refine Runs.sN 1 (c' := (16, [.ref 0, .int a1], [.int (-1)], (zS I4 J tg))) rfl ?_
    subst h
    exact Runs.rt rfl
  · rw [if_neg c6] at h
    refine Runs.brF (P := v3 = 0) (a := 15) (b := 17) (L := [.ref 0, .int a1]) (S := []) (z := (zS I4 J tg)) rfl c6 ?_
    refine Runs.sN 5 (c' := (26, [.ref 0, .int a1], [.int a1], (zS (up2 I4 67 2 a1) J tg))) rfl ?_
    subst h
    exact Runs.rt rfl
-- X11_fault 
theorem sg_129 {L d : Nat} {xs : Nat → Int32} (I : Nat → Nat → Int32) (J : Nat → Nat → Int64) (tg : Option Nat) (a1 : Int32) {r : Option Value × SS} (h : ((if (I 67 3) = 0 then (r = (some (.int (-1)), (zS I J tg))) else ((if a1 = 0 then (r = (some (.int (I 67 4)), (zS I J tg))) else ((if a1 = 1 then (r = (some (.int (I 67 5)), (zS I J tg))) else (r = (some (.int (-1)), (zS I J tg)))))))))) : Runs (GW L xs) d 129 (0, [.ref 0, .int a1], [], (zS I J tg)) r := by
  refine Runs.sN 3 (c' := (7, [.ref 0, .int a1], [.int (I 67 3)], (zS I J tg))) rfl ?_
  by_cases c1 : (I 67 3) = 0
  · rw [if_pos c1] at h
    refine Runs.brT (P := (I 67 3) = 0) (a := 10) (b := 12) (L := [.ref 0, .int a1]) (S := []) (z := (zS I J tg)) rfl c1 ?_
    refine Runs.sN 1 (c' := (11, [.ref 0, .int a1], [.int (-1)], (zS I J tg))) rfl ?_
    subst h
    exact Runs.rt rfl
  · rw [if_neg c1] at h
    refine Runs.brF (P := (I 67 3) = 0) (a := 10) (b := 12) (L := [.ref 0, .int a1]) (S := []) (z := (zS I J tg)) rfl c1 ?_
    refine Runs.sN 1 (c' := (13, [.ref 0, .int a1], [.int a1], (zS I J tg))) rfl ?_
    by_cases c2 : a1 = 0
    · rw [if_pos c2] at h
      refine Runs.brT (P := a1 = 0) (a := 16) (b := 24) (L := [.ref 0, .int a1]) (S := []) (z := (zS I J tg)) rfl c2 ?_
      refine Runs.sN 3 (c' := (23, [.ref 0, .int a1], [.int (I 67 4)], (zS I J tg))) rfl ?_
      subst h
      exact Runs.rt rfl
    · rw [if_neg c2] at h
      refine Runs.brF (P := a1 = 0) (a := 16) (b := 24) (L := [.ref 0, .int a1]) (S := []) (z := (zS I J tg)) rfl c2 ?_
      refine Runs.sN 2 (c' := (26, [.ref 0, .int a1], [.int 1, .int a1], (zS I J tg))) rfl ?_
      by_cases c3 : a1 = 1
      · rw [if_pos c3] at h
        refine Runs.brT (P := a1 = 1) (a := 29) (b := 39) (L := [.ref 0, .int a1]) (S := []) (z := (zS I J tg)) rfl c3 ?_
        refine Runs.sN 4 (c' := (40, [.ref 0, .int a1], [.int (I 67 5)], (zS I J tg))) rfl ?_
        subst h
        exact Runs.rt rfl
      · rw [if_neg c3] at h
        refine Runs.brF (P := a1 = 1) (a := 29) (b := 39) (L := [.ref 0, .int a1]) (S := []) (z := (zS I J tg)) rfl c3 ?_
        refine Runs.sN 1 (c' := (40, [.ref 0, .int a1], [.int (-1)], (zS I J tg))) rfl ?_
        subst h
        exact Runs.rt rfl
