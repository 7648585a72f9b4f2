-- X12_takenOf 
theorem sg_204 {L d : Nat} {xs : Nat → Int32} (I : Nat → Nat → Int32) (J : Nat → Nat → Int64) (tg : Option Nat) (a1 : Int32) (a2 : Int32) (a3 : Int32) {r : Option Value × SS} (h : (Runs (GW L xs) d 204 (9, [.ref 93, .int a1, .int a2, .int a3, .int (-1), .int 0, .int 0, vU, vU], [], (zS I J tg)) r)) : Runs (GW L xs) d 204 (0, [.ref 93, .int a1, .int a2, .int a3, vU, vU, vU, vU, vU], [], (zS I J tg)) r := by
  refine Runs.sN 6 (c' := (9, [.ref 93, .int a1, .int a2, .int a3, .int (-1), .int 0, .int 0, vU, vU], [], (zS I J tg))) rfl ?_
  exact h
theorem sg_204_9 {L d : Nat} {xs : Nat → Int32} (I : Nat → Nat → Int32) (J : Nat → Nat → Int64) (tg : Option Nat) (x1 : Int32) (x2 : Int32) (x3 : Int32) (x4 : Int32) (x5 : Int32) (x6 : Int32) {r : Option Value × SS} (h : ((if (I 94 2) ≤ x6 then ((if x4 < 0 then (r = (some (.int (-1)), (zS I J tg))) else ((if x5 ≤ (I 94 12) then (r = (some (.int (12 + x4)), (zS I J tg))) else (r = (some (.int (-1)), (zS I J tg))))))) else ((if ((x1 >>> (x6 &&& 31)) &&& 1) = 0 then (Runs (GW L xs) d 204 (9, [.ref 93, .int x1, .int x2, .int x3, .int x4, .int x5, .int (x6 + 1), vU, vU], [], (zS I J tg)) r) else (¬ ((780 + x6) < 0 ∨ 1200 ≤ (780 + x6).toNatClampNeg) ∧ ¬ (x6 < 0 ∨ 12 ≤ (x6).toNatClampNeg) ∧ (if (I 94 ((780 + x6).toNatClampNeg)) ≤ 0 then ((if x4 < 0 then (Runs (GW L xs) d 204 (9, [.ref 93, .int x1, .int x2, .int x3, .int x6, .int ((I 99 ((x6).toNatClampNeg)) - 0), .int (x6 + 1), vU, vU], [], (zS I J tg)) r) else ((if ((I 99 ((x6).toNatClampNeg)) - 0) < x5 then (Runs (GW L xs) d 204 (9, [.ref 93, .int x1, .int x2, .int x3, .int x6, .int ((I 99 ((x6).toNatClampNeg)) - 0), .int (x6 + 1), vU, vU], [], (zS I J tg)) r) else (Runs (GW L xs) d 204 (9, [.ref 93, .int x1, .int x2, .int x3, .int x4, .int x5, .int (x6 + 1), vU, vU], [], (zS I J tg)) r))))) else ((if (I 94 ((780 + x6).toNatClampNeg)) = x2 then ((if x4 < 0 then (Runs (GW L xs) d 204 (9, [.ref 93, .int x1, .int x2, .int x3, .int x6, .int ((I 99 ((x6).toNatClampNeg)) - (I 94 13)), .int (x6 + 1), vU, vU], [], (zS I J tg)) r) else ((if ((I 99 ((x6).toNatClampNeg)) - (I 94 13)) < x5 then (Runs (GW L xs) d 204 (9, [.ref 93, .int x1, .int x2, .int x3, .int x6, .int ((I 99 ((x6).toNatClampNeg)) - (I 94 13)), .int (x6 + 1), vU, vU], [], (zS I J tg)) r) else (Runs (GW L xs) d 204 (9, [.ref 93, .int x1, .int x2, .int x3, .int x4, .int x5, .int (x6 + 1), vU, vU], [], (zS I J tg)) r))))) else ((if (I 94 ((780 + x6).toNatClampNeg)) = x3 then ((if x4 < 0 then (Runs (GW L xs) d 204 (9, [.ref 93, .int x1, .int x2, .int x3, .int x6, .int ((I 99 ((x6).toNatClampNeg)) - (I 94 13)), .int (x6 + 1), vU, vU], [], (zS I J tg)) r) else ((if ((I 99 ((x6).toNatClampNeg)) - (I 94 13)) < x5 then (Runs (GW L xs) d 204 (9, [.ref 93, .int x1, .int x2, .int x3, .int x6, .int ((I 99 ((x6).toNatClampNeg)) - (I 94 13)), .int (x6 + 1), vU, vU], [], (zS I J tg)) r) else (Runs (GW L xs) d 204 (9, [.ref 93, .int x1, .int x2, .int x3, .int x4, .int x5, .int (x6 + 1), vU, vU], [], (zS I J tg)) r))))) else ((if x4 < 0 then (Runs (GW L xs) d 204 (9, [.ref 93, .int x1, .int x2, .int x3, .int x6, .int ((I 99 ((x6).toNatClampNeg)) - 0), .int (x6 + 1), vU, vU], [], (zS I J tg)) r) else ((if ((I 99 ((x6).toNatClampNeg)) - 0) < x5 then (Runs (GW L xs) d 204 (9, [.ref 93, .int x1, .int x2, .int x3, .int x6, .int ((I 99 ((x6).toNatClampNeg)) - 0), .int (x6 + 1), vU, vU], [], (zS I J tg)) r) else (Runs (GW L xs) d 204 (9, [.ref 93, .int x1, .int x2, .int x3, .int x4, .int x5, .int (x6 + 1), vU, vU], [], (zS I J tg)) r)))))))))))))))) : Runs (GW L xs) d 204 (9, [.ref 93, .int x1, .int x2, .int x3, .int x4, .int x5, .int x6, vU, vU], [], (zS I J tg)) r := by
  refine Runs.sN 5 (c' := (17, [.ref 93, .int x1, .int x2, .int x3, .int x4, .int x5, .int x6, vU, vU], [.int (I 94 2), .int x6], (zS I J tg))) rfl ?_
  by_cases c1 : (I 94 2) ≤ x6
  · rw [if_pos c1] at h
    refine Runs.brT (P := (I 94 2) ≤ x6) (a := 112) (b := 20) (L := [.ref 93, .int x1, .int x2, .int x3, .int x4, .int x5, .int x6, vU, vU]) (S := []) (z := (zS I J tg)) rfl c1 ?_
    refine Runs.sN 1 (c' := (114, [.ref 93, .int x1, .int x2, .int x3, .int x4, .int x5, .int x6, vU, vU], [.int x4], (zS I J tg))) rfl ?_
    by_cases c2 : x4 < 0
    · rw [if_pos c2] at h
      refine Runs.brT (P := x4 < 0) (a := 129) (b := 117) (L := [.ref 93, .int x1, .int x2, .int x3, .int x4, .int x5, .int x6, vU, vU]) (S := []) (z := (zS I J tg)) rfl c2 ?_
      refine Runs.sN 2 (c' := (138, [.ref 93, .int x1, .int x2, .int x3, .int x4, .int x5, .int x6, vU, vU], [.int (-1)], (zS I J tg))) rfl ?_
      subst h
      exact Runs.rt rfl
    · rw [if_neg c2] at h
      refine Runs.brF (P := x4 < 0) (a := 129) (b := 117) (L := [.ref 93, .int x1, .int x2, .int x3, .int x4, .int x5, .int x6, vU, vU]) (S := []) (z := (zS I J tg)) rfl c2 ?_
      refine Runs.sN 5 (c' := (126, [.ref 93, .int x1, .int x2, .int x3, .int x4, .int x5, .int x6, vU, vU], [.int (I 94 12), .int x5], (zS I J tg))) rfl ?_
      by_cases c3 : x5 ≤ (I 94 12)
      · rw [if_pos c3] at h
        refine Runs.brT (P := x5 ≤ (I 94 12)) (a := 133) (b := 129) (L := [.ref 93, .int x1, .int x2, .int x3, .int x4, .int x5, .int x6, vU, vU]) (S := []) (z := (zS I J tg)) rfl c3 ?_
        refine Runs.sN 3 (c' := (138, [.ref 93, .int x1, .int x2, .int x3, .int x4, .int x5, .int x6, vU, vU], [.int (12 + x4)], (zS I J tg))) rfl ?_
        subst h
        exact Runs.rt rfl
      · rw [if_neg c3] at h
        refine Runs.brF (P := x5 ≤ (I 94 12)) (a := 133) (b := 129) (L := [.ref 93, .int x1, .int x2, .int x3, .int x4, .int x5, .int x6, vU, vU]) (S := []) (z := (zS I J tg)) rfl c3 ?_
        refine Runs.sN 2 (c' := (138, [.ref 93, .int x1, .int x2, .int x3, .int x4, .int x5, .int x6, vU, vU], [.int (-1)], (zS I J tg))) rfl ?_
        subst h
        exact Runs.rt rfl
  · rw [if_neg c1] at h
    refine Runs.brF (P := (I 94 2) ≤ x6) (a := 112) (b := 20) (L := [.ref 93, .int x1, .int x2, .int x3, .int x4, .int x5, .int x6, vU, vU]) (S := []) (z := (zS I J tg)) rfl c1 ?_
    refine Runs.sN 5 (c' := (26, [.ref 93, .int x1, .int x2, .int x3, .int x4, .int x5, .int x6, vU, vU], [.int ((x1 >>> (x6 &&& 31)) &&& 1)], (zS I J tg))) rfl ?_
    by_cases c4 : ((x1 >>> (x6 &&& 31)) &&& 1) = 0
    · rw [if_pos c4] at h
      refine Runs.brT (P := ((x1 >>> (x6 &&& 31)) &&& 1) = 0) (a := 29) (b := 32) (L := [.ref 93, .int x1, .int x2, .int x3, .int x4, .int x5, .int x6, vU, vU]) (S := []) (z := (zS I J tg)) rfl c4 ?_
      refine Runs.sN 3 (c' := (9, [.ref 93, .int x1, .int x2, .int x3, .int x4, .int x5, .int (x6 + 1), vU, vU], [], (zS I J tg))) rfl ?_
      exact h
    · rw [if_neg c4] at h
      refine Runs.brF (P := ((x1 >>> (x6 &&& 31)) &&& 1) = 0) (a := 29) (b := 32) (L := [.ref 93, .int x1, .int x2, .int x3, .int x4, .int x5, .int x6, vU, vU]) (S := []) (z := (zS I J tg)) rfl c4 ?_
      refine Runs.sN 5 (c' := (42, [.ref 93, .int x1, .int x2, .int x3, .int x4, .int x5, .int x6, vU, vU], [.int (780 + x6), .ref 94], (zS I J tg))) rfl ?_
      obtain ⟨c5, h⟩ := h
      refine Runs.to (c' := (43, [.ref 93, .int x1, .int x2, .int x3, .int x4, .int x5, .int x6, vU, vU], [.int (I 94 ((780 + x6).toNatClampNeg))], (zS I J tg))) (Runs.ild rfl (show (94 : Nat) < 114 by decide) rfl c5) ?_
      refine Runs.sN 4 (c' := (51, [.ref 93, .int x1, .int x2, .int x3, .int x4, .int x5, .int x6, .int (I 94 ((780 + x6).toNatClampNeg)), vU], [.int x6, .ref 99], (zS I J tg))) rfl ?_
      obtain ⟨c6, h⟩ := h
      refine Runs.to (c' := (52, [.ref 93, .int x1, .int x2, .int x3, .int x4, .int x5, .int x6, .int (I 94 ((780 + x6).toNatClampNeg)), vU], [.int (I 99 ((x6).toNatClampNeg))], (zS I J tg))) (Runs.ild rfl (show (99 : Nat) < 114 by decide) rfl c6) ?_
      refine Runs.sN 1 (c' := (54, [.ref 93, .int x1, .int x2, .int x3, .int x4, .int x5, .int x6, .int (I 94 ((780 + x6).toNatClampNeg)), vU], [.int (I 94 ((780 + x6).toNatClampNeg)), .int (I 99 ((x6).toNatClampNeg))], (zS I J tg))) rfl ?_
      by_cases c7 : (I 94 ((780 + x6).toNatClampNeg)) ≤ 0
      · rw [if_pos c7] at h
        refine Runs.brT (P := (I 94 ((780 + x6).toNatClampNeg)) ≤ 0) (a := 79) (b := 57) (L := [.ref 93, .int x1, .int x2, .int x3, .int x4, .int x5, .int x6, .int (I 94 ((780 + x6).toNatClampNeg)), vU]) (S := [.int (I 99 ((x6).toNatClampNeg))]) (z := (zS I J tg)) rfl c7 ?_
        refine Runs.sN 4 (c' := (85, [.ref 93, .int x1, .int x2, .int x3, .int x4, .int x5, .int x6, .int (I 94 ((780 + x6).toNatClampNeg)), .int ((I 99 ((x6).toNatClampNeg)) - 0)], [.int x4], (zS I J tg))) rfl ?_
        by_cases c8 : x4 < 0
        · rw [if_pos c8] at h
          refine Runs.brT (P := x4 < 0) (a := 98) (b := 88) (L := [.ref 93, .int x1, .int x2, .int x3, .int x4, .int x5, .int x6, .int (I 94 ((780 + x6).toNatClampNeg)), .int ((I 99 ((x6).toNatClampNeg)) - 0)]) (S := []) (z := (zS I J tg)) rfl c8 ?_
          refine Runs.sN 6 (c' := (9, [.ref 93, .int x1, .int x2, .int x3, .int x6, .int ((I 99 ((x6).toNatClampNeg)) - 0), .int (x6 + 1), .int (I 94 ((780 + x6).toNatClampNeg)), .int ((I 99 ((x6).toNatClampNeg)) - 0)], [], (zS I J tg))) rfl ?_
          exact Runs.weak (L := [.ref 93, .int x1, .int x2, .int x3, .int x6, .int ((I 99 ((x6).toNatClampNeg)) - 0), .int (x6 + 1), vU, vU]) (Lle.k (Lle.k (Lle.k (Lle.k (Lle.k (Lle.k (Lle.k (Lle.u (Lle.u Lle.n))))))))) h
        · rw [if_neg c8] at h
          refine Runs.brF (P := x4 < 0) (a := 98) (b := 88) (L := [.ref 93, .int x1, .int x2, .int x3, .int x4, .int x5, .int x6, .int (I 94 ((780 + x6).toNatClampNeg)), .int ((I 99 ((x6).toNatClampNeg)) - 0)]) (S := []) (z := (zS I J tg)) rfl c8 ?_
          refine Runs.sN 2 (c' := (92, [.ref 93, .int x1, .int x2, .int x3, .int x4, .int x5, .int x6, .int (I 94 ((780 + x6).toNatClampNeg)), .int ((I 99 ((x6).toNatClampNeg)) - 0)], [.int x5, .int ((I 99 ((x6).toNatClampNeg)) - 0)], (zS I J tg))) rfl ?_
          by_cases c9 : ((I 99 ((x6).toNatClampNeg)) - 0) < x5
          · rw [if_pos c9] at h
            refine Runs.brT (P := ((I 99 ((x6).toNatClampNeg)) - 0) < x5) (a := 98) (b := 95) (L := [.ref 93, .int x1, .int x2, .int x3, .int x4, .int x5, .int x6, .int (I 94 ((780 + x6).toNatClampNeg)), .int ((I 99 ((x6).toNatClampNeg)) - 0)]) (S := []) (z := (zS I J tg)) rfl c9 ?_
            refine Runs.sN 6 (c' := (9, [.ref 93, .int x1, .int x2, .int x3, .int x6, .int ((I 99 ((x6).toNatClampNeg)) - 0), .int (x6 + 1), .int (I 94 ((780 + x6).toNatClampNeg)), .int ((I 99 ((x6).toNatClampNeg)) - 0)], [], (zS I J tg))) rfl ?_
            exact Runs.weak (L := [.ref 93, .int x1, .int x2, .int x3, .int x6, .int ((I 99 ((x6).toNatClampNeg)) - 0), .int (x6 + 1), vU, vU]) (Lle.k (Lle.k (Lle.k (Lle.k (Lle.k (Lle.k (Lle.k (Lle.u (Lle.u Lle.n))))))))) h
          · rw [if_neg c9] at h
            refine Runs.brF (P := ((I 99 ((x6).toNatClampNeg)) - 0) < x5) (a := 98) (b := 95) (L := [.ref 93, .int x1, .int x2, .int x3, .int x4, .int x5, .int x6, .int (I 94 ((780 + x6).toNatClampNeg)), .int ((I 99 ((x6).toNatClampNeg)) - 0)]) (S := []) (z := (zS I J tg)) rfl c9 ?_
            refine Runs.sN 3 (c' := (9, [.ref 93, .int x1, .int x2, .int x3, .int x4, .int x5, .int (x6 + 1), .int (I 94 ((780 + x6).toNatClampNeg)), .int ((I 99 ((x6).toNatClampNeg)) - 0)], [], (zS I J tg))) rfl ?_
            exact Runs.weak (L := [.ref 93, .int x1, .int x2, .int x3, .int x4, .int x5, .int (x6 + 1), vU, vU]) (Lle.k (Lle.k (Lle.k (Lle.k (Lle.k (Lle.k (Lle.k (Lle.u (Lle.u Lle.n))))))))) h
      · rw [if_neg c7] at h
        refine Runs.brF (P := (I 94 ((780 + x6).toNatClampNeg)) ≤ 0) (a := 79) (b := 57) (L := [.ref 93, .int x1, .int x2, .int x3, .int x4, .int x5, .int x6, .int (I 94 ((780 + x6).toNatClampNeg)), vU]) (S := [.int (I 99 ((x6).toNatClampNeg))]) (z := (zS I J tg)) rfl c7 ?_
        refine Runs.sN 2 (c' := (60, [.ref 93, .int x1, .int x2, .int x3, .int x4, .int x5, .int x6, .int (I 94 ((780 + x6).toNatClampNeg)), vU], [.int x2, .int (I 94 ((780 + x6).toNatClampNeg)), .int (I 99 ((x6).toNatClampNeg))], (zS I J tg))) rfl ?_
        by_cases c10 : (I 94 ((780 + x6).toNatClampNeg)) = x2
        · rw [if_pos c10] at h
          refine Runs.brT (P := (I 94 ((780 + x6).toNatClampNeg)) = x2) (a := 69) (b := 63) (L := [.ref 93, .int x1, .int x2, .int x3, .int x4, .int x5, .int x6, .int (I 94 ((780 + x6).toNatClampNeg)), vU]) (S := [.int (I 99 ((x6).toNatClampNeg))]) (z := (zS I J tg)) rfl c10 ?_
          refine Runs.sN 8 (c' := (85, [.ref 93, .int x1, .int x2, .int x3, .int x4, .int x5, .int x6, .int (I 94 ((780 + x6).toNatClampNeg)), .int ((I 99 ((x6).toNatClampNeg)) - (I 94 13))], [.int x4], (zS I J tg))) rfl ?_
          by_cases c11 : x4 < 0
          · rw [if_pos c11] at h
            refine Runs.brT (P := x4 < 0) (a := 98) (b := 88) (L := [.ref 93, .int x1, .int x2, .int x3, .int x4, .int x5, .int x6, .int (I 94 ((780 + x6).toNatClampNeg)), .int ((I 99 ((x6).toNatClampNeg)) - (I 94 13))]) (S := []) (z := (zS I J tg)) rfl c11 ?_
            refine Runs.sN 6 (c' := (9, [.ref 93, .int x1, .int x2, .int x3, .int x6, .int ((I 99 ((x6).toNatClampNeg)) - (I 94 13)), .int (x6 + 1), .int (I 94 ((780 + x6).toNatClampNeg)), .int ((I 99 ((x6).toNatClampNeg)) - (I 94 13))], [], (zS I J tg))) rfl ?_
            exact Runs.weak (L := [.ref 93, .int x1, .int x2, .int x3, .int x6, .int ((I 99 ((x6).toNatClampNeg)) - (I 94 13)), .int (x6 + 1), vU, vU]) (Lle.k (Lle.k (Lle.k (Lle.k (Lle.k (Lle.k (Lle.k (Lle.u (Lle.u Lle.n))))))))) h
          · rw [if_neg c11] at h
            refine Runs.brF (P := x4 < 0) (a := 98) (b := 88) (L := [.ref 93, .int x1, .int x2, .int x3, .int x4, .int x5, .int x6, .int (I 94 ((780 + x6).toNatClampNeg)), .int ((I 99 ((x6).toNatClampNeg)) - (I 94 13))]) (S := []) (z := (zS I J tg)) rfl c11 ?_
            refine Runs.sN 2 (c' := (92, [.ref 93, .int x1, .int x2, .int x3, .int x4, .int x5, .int x6, .int (I 94 ((780 + x6).toNatClampNeg)), .int ((I 99 ((x6).toNatClampNeg)) - (I 94 13))], [.int x5, .int ((I 99 ((x6).toNatClampNeg)) - (I 94 13))], (zS I J tg))) rfl ?_
            by_cases c12 : ((I 99 ((x6).toNatClampNeg)) - (I 94 13)) < x5
            · rw [if_pos c12] at h
              refine Runs.brT (P := ((I 99 ((x6).toNatClampNeg)) - (I 94 13)) < x5) (a := 98) (b := 95) (L := [.ref 93, .int x1, .int x2, .int x3, .int x4, .int x5, .int x6, .int (I 94 ((780 + x6).toNatClampNeg)), .int ((I 99 ((x6).toNatClampNeg)) - (I 94 13))]) (S := []) (z := (zS I J tg)) rfl c12 ?_
              refine Runs.sN 6 (c' := (9, [.ref 93, .int x1, .int x2, .int x3, .int x6, .int ((I 99 ((x6).toNatClampNeg)) - (I 94 13)), .int (x6 + 1), .int (I 94 ((780 + x6).toNatClampNeg)), .int ((I 99 ((x6).toNatClampNeg)) - (I 94 13))], [], (zS I J tg))) rfl ?_
              exact Runs.weak (L := [.ref 93, .int x1, .int x2, .int x3, .int x6, .int ((I 99 ((x6).toNatClampNeg)) - (I 94 13)), .int (x6 + 1), vU, vU]) (Lle.k (Lle.k (Lle.k (Lle.k (Lle.k (Lle.k (Lle.k (Lle.u (Lle.u Lle.n))))))))) h
            · rw [if_neg c12] at h
              refine Runs.brF (P := ((I 99 ((x6).toNatClampNeg)) - (I 94 13)) < x5) (a := 98) (b := 95) (L := [.ref 93, .int x1, .int x2, .int x3, .int x4, .int x5, .int x6, .int (I 94 ((780 + x6).toNatClampNeg)), .int ((I 99 ((x6).toNatClampNeg)) - (I 94 13))]) (S := []) (z := (zS I J tg)) rfl c12 ?_
              refine Runs.sN 3 (c' := (9, [.ref 93, .int x1, .int x2, .int x3, .int x4, .int x5, .int (x6 + 1), .int (I 94 ((780 + x6).toNatClampNeg)), .int ((I 99 ((x6).toNatClampNeg)) - (I 94 13))], [], (zS I J tg))) rfl ?_
              exact Runs.weak (L := [.ref 93, .int x1, .int x2, .int x3, .int x4, .int x5, .int (x6 + 1), vU, vU]) (Lle.k (Lle.k (Lle.k (Lle.k (Lle.k (Lle.k (Lle.k (Lle.u (Lle.u Lle.n))))))))) h
        · rw [if_neg c10] at h
          refine Runs.brF (P := (I 94 ((780 + x6).toNatClampNeg)) = x2) (a := 69) (b := 63) (L := [.ref 93, .int x1, .int x2, .int x3, .int x4, .int x5, .int x6, .int (I 94 ((780 + x6).toNatClampNeg)), vU]) (S := [.int (I 99 ((x6).toNatClampNeg))]) (z := (zS I J tg)) rfl c10 ?_
          refine Runs.sN 2 (c' := (66, [.ref 93, .int x1, .int x2, .int x3, .int x4, .int x5, .int x6, .int (I 94 ((780 + x6).toNatClampNeg)), vU], [.int x3, .int (I 94 ((780 + x6).toNatClampNeg)), .int (I 99 ((x6).toNatClampNeg))], (zS I J tg))) rfl ?_
          by_cases c13 : (I 94 ((780 + x6).toNatClampNeg)) = x3
          · rw [if_pos c13] at h
            refine Runs.brT (P := (I 94 ((780 + x6).toNatClampNeg)) = x3) (a := 69) (b := 79) (L := [.ref 93, .int x1, .int x2, .int x3, .int x4, .int x5, .int x6, .int (I 94 ((780 + x6).toNatClampNeg)), vU]) (S := [.int (I 99 ((x6).toNatClampNeg))]) (z := (zS I J tg)) rfl c13 ?_
            refine Runs.sN 8 (c' := (85, [.ref 93, .int x1, .int x2, .int x3, .int x4, .int x5, .int x6, .int (I 94 ((780 + x6).toNatClampNeg)), .int ((I 99 ((x6).toNatClampNeg)) - (I 94 13))], [.int x4], (zS I J tg))) rfl ?_
            by_cases c14 : x4 < 0
            · rw [if_pos c14] at h
              refine Runs.brT (P := x4 < 0) (a := 98) (b := 88) (L := [.ref 93, .int x1, .int x2, .int x3, .int x4, .int x5, .int x6, .int (I 94 ((780 + x6).toNatClampNeg)), .int ((I 99 ((x6).toNatClampNeg)) - (I 94 13))]) (S := []) (z := (zS I J tg)) rfl c14 ?_
              refine Runs.sN 6 (c' := (9, [.ref 93, .int x1, .int x2, .int x3, .int x6, .int ((I 99 ((x6).toNatClampNeg)) - (I 94 13)), .int (x6 + 1), .int (I 94 ((780 + x6).toNatClampNeg)), .int ((I 99 ((x6).toNatClampNeg)) - (I 94 13))], [], (zS I J tg))) rfl ?_
              exact Runs.weak (L := [.ref 93, .int x1, .int x2, .int x3, .int x6, .int ((I 99 ((x6).toNatClampNeg)) - (I 94 13)), .int (x6 + 1), vU, vU]) (Lle.k (Lle.k (Lle.k (Lle.k (Lle.k (Lle.k (Lle.k (Lle.u (Lle.u Lle.n))))))))) h
            · rw [if_neg c14] at h
              refine Runs.brF (P := x4 < 0) (a := 98) (b := 88) (L := [.ref 93, .int x1, .int x2, .int x3, .int x4, .int x5, .int x6, .int (I 94 ((780 + x6).toNatClampNeg)), .int ((I 99 ((x6).toNatClampNeg)) - (I 94 13))]) (S := []) (z := (zS I J tg)) rfl c14 ?_
              refine Runs.sN 2 (c' := (92, [.ref 93, .int x1, .int x2, .int x3, .int x4, .int x5, .int x6, .int (I 94 ((780 + x6).toNatClampNeg)), .int ((I 99 ((x6).toNatClampNeg)) - (I 94 13))], [.int x5, .int ((I 99 ((x6).toNatClampNeg)) - (I 94 13))], (zS I J tg))) rfl ?_
              by_cases c15 : ((I 99 ((x6).toNatClampNeg)) - (I 94 13)) < x5
              · rw [if_pos c15] at h
                refine Runs.brT (P := ((I 99 ((x6).toNatClampNeg)) - (I 94 13)) < x5) (a := 98) (b := 95) (L := [.ref 93, .int x1, .int x2, .int x3, .int x4, .int x5, .int x6, .int (I 94 ((780 + x6).toNatClampNeg)), .int ((I 99 ((x6).toNatClampNeg)) - (I 94 13))]) (S := []) (z := (zS I J tg)) rfl c15 ?_
                refine Runs.sN 6 (c' := (9, [.ref 93, .int x1, .int x2, .int x3, .int x6, .int ((I 99 ((x6).toNatClampNeg)) - (I 94 13)), .int (x6 + 1), .int (I 94 ((780 + x6).toNatClampNeg)), .int ((I 99 ((x6).toNatClampNeg)) - (I 94 13))], [], (zS I J tg))) rfl ?_
                exact Runs.weak (L := [.ref 93, .int x1, .int x2, .int x3, .int x6, .int ((I 99 ((x6).toNatClampNeg)) - (I 94 13)), .int (x6 + 1), vU, vU]) (Lle.k (Lle.k (Lle.k (Lle.k (Lle.k (Lle.k (Lle.k (Lle.u (Lle.u Lle.n))))))))) h
              · rw [if_neg c15] at h
                refine Runs.brF (P := ((I 99 ((x6).toNatClampNeg)) - (I 94 13)) < x5) (a := 98) (b := 95) (L := [.ref 93, .int x1, .int x2, .int x3, .int x4, .int x5, .int x6, .int (I 94 ((780 + x6).toNatClampNeg)), .int ((I 99 ((x6).toNatClampNeg)) - (I 94 13))]) (S := []) (z := (zS I J tg)) rfl c15 ?_
                refine Runs.sN 3 (c' := (9, [.ref 93, .int x1, .int x2, .int x3, .int x4, .int x5, .int (x6 + 1), .int (I 94 ((780 + x6).toNatClampNeg)), .int ((I 99 ((x6).toNatClampNeg)) - (I 94 13))], [], (zS I J tg))) rfl ?_
                exact Runs.weak (L := [.ref 93, .int x1, .int x2, .int x3, .int x4, .int x5, .int (x6 + 1), vU, vU]) (Lle.k (Lle.k (Lle.k (Lle.k (Lle.k (Lle.k (Lle.k (Lle.u (Lle.u Lle.n))))))))) h
          · rw [if_neg c13] at h
            refine Runs.brF (P := (I 94 ((780 + x6).toNatClampNeg)) = x3) (a := 69) (b := 79) (L := [.ref 93, .int x1, .int x2, .int x3, .int x4, .int x5, .int x6, .int (I 94 ((780 + x6).toNatClampNeg)), vU]) (S := [.int (I 99 ((x6).toNatClampNeg))]) (z := (zS I J tg)) rfl c13 ?_
            refine Runs.sN 4 (c' := (85, [.ref 93, .int x1, .int x2, .int x3, .int x4, .int x5, .int x6, .int (I 94 ((780 + x6).toNatClampNeg)), .int ((I 99 ((x6).toNatClampNeg)) - 0)], [.int x4], (zS I J tg))) rfl ?_
            by_cases c16 : x4 < 0
            · rw [if_pos c16] at h
              refine Runs.brT (P := x4 < 0) (a := 98) (b := 88) (L := [.ref 93, .int x1, .int x2, .int x3, .int x4, .int x5, .int x6, .int (I 94 ((780 + x6).toNatClampNeg)), .int ((I 99 ((x6).toNatClampNeg)) - 0)]) (S := []) (z := (zS I J tg)) rfl c16 ?_
              refine Runs.sN 6 (c' := (9, [.ref 93, .int x1, .int x2, .int x3, .int x6, .int ((I 99 ((x6).toNatClampNeg)) - 0), .int (x6 + 1), .int (I 94 ((780 + x6).toNatClampNeg)), .int ((I 99 ((x6).toNatClampNeg)) - 0)], [], (zS I J tg))) rfl ?_
              exact Runs.weak (L := [.ref 93, .int x1, .int x2, .int x3, .int x6, .int ((I 99 ((x6).toNatClampNeg)) - 0), .int (x6 + 1), vU, vU]) (Lle.k (Lle.k (Lle.k (Lle.k (Lle.k (Lle.k (Lle.k (Lle.u (Lle.u Lle.n))))))))) h
            · rw [if_neg c16] at h
              refine Runs.brF (P := x4 < 0) (a := 98) (b := 88) (L := [.ref 93, .int x1, .int x2, .int x3, .int x4, .int x5, .int x6, .int (I 94 ((780 + x6).toNatClampNeg)), .int ((I 99 ((x6).toNatClampNeg)) - 0)]) (S := []) (z := (zS I J tg)) rfl c16 ?_
              refine Runs.sN 2 (c' := (92, [.ref 93, .int x1, .int x2, .int x3, .int x4, .int x5, .int x6, .int (I 94 ((780 + x6).toNatClampNeg)), .int ((I 99 ((x6).toNatClampNeg)) - 0)], [.int x5, .int ((I 99 ((x6).toNatClampNeg)) - 0)], (zS I J tg))) rfl ?_
              by_cases c17 : ((I 99 ((x6).toNatClampNeg)) - 0) < x5
              · rw [if_pos c17] at h
                refine Runs.brT (P := ((I 99 ((x6).toNatClampNeg)) - 0) < x5) (a := 98) (b := 95) (L := [.ref 93, .int x1, .int x2, .int x3, .int x4, .int x5, .int x6, .int (I 94 ((780 + x6).toNatClampNeg)), .int ((I 99 ((x6).toNatClampNeg)) - 0)]) (S := []) (z := (zS I J tg)) rfl c17 ?_
                refine Runs.sN 6 (c' := (9, [.ref 93, .int x1, .int x2, .int x3, .int x6, .int ((I 99 ((x6).toNatClampNeg)) - 0), .int (x6 + 1), .int (I 94 ((780 + x6).toNatClampNeg)), .int ((I 99 ((x6).toNatClampNeg)) - 0)], [], (zS I J tg))) rfl ?_
                exact Runs.weak (L := [.ref 93, .int x1, .int x2, .int x3, .int x6, .int ((I 99 ((x6).toNatClampNeg)) - 0), .int (x6 + 1), vU, vU]) (Lle.k (Lle.k (Lle.k (Lle.k (Lle.k (Lle.k (Lle.k (Lle.u (Lle.u Lle.n))))))))) h
              · rw [if_neg c17] at h
                refine Runs.brF (P := ((I 99 ((x6).toNatClampNeg)) - 0) < x5) (a := 98) (b := 95) (L := [.ref 93, .int x1, .int x2, .int x3, .int x4, .int x5, .int x6, .int (I 94 ((780 + x6).toNatClampNeg)), .int ((I 99 ((x6).toNatClampNeg)) - 0)]) (S := []) (z := (zS I J tg)) rfl c17 ?_
                refine Runs.sN 3 (c' := (9, [.ref 93, .int x1, .int x2, .int x3, .int x4, .int x5, .int (x6 + 1), .int (I 94 ((780 + x6).toNatClampNeg)), .int ((I 99 ((x6).toNatClampNeg)) - 0)], [], (zS I J tg))) rfl ?_
                exact Runs.weak (L := [.ref 93, .int x1, .int x2, .int x3, .int x4, .int x5, .int (x6 + 1), vU, vU]) (Lle.k (Lle.k (Lle.k (Lle.k (Lle.k (Lle.k (Lle.k (Lle.u (Lle.u Lle.n))))))))) h
-- X12_takenIn 
theorem sg_205 {L d : Nat} {xs : Nat → Int32} (I : Nat → Nat → Int32) (J : Nat → Nat → Int64) (tg : Option Nat) (a1 : Int32) (a2 : Int32) (a3 : Int32) {r : Option Value × SS} (h : (∃ (I8 : Nat → Nat → Int32) (J9 : Nat → Nat → Int64) (tg10 : Option Nat), Runs (GW L xs) d 203 (0, [.ref 93, .int a1, .int a3, vU], [], (zS I J tg)) (none, (zS I8 J9 tg10)) ∧ ¬ ((690 + a2) < 0 ∨ 1200 ≤ (690 + a2).toNatClampNeg) ∧ ∃ (v11 : Int32) (I12 : Nat → Nat → Int32) (J13 : Nat → Nat → Int64) (tg14 : Option Nat), Runs (GW L xs) d 204 (0, [.ref 93, .int (I8 94 ((690 + a2).toNatClampNeg)), .int 0, .int 0, vU, vU, vU, vU, vU], [], (zS I8 J9 tg10)) ((some (.int v11)), (zS I12 J13 tg14)) ∧ r = (some (.int v11), (zS I12 J13 tg14)))) : Runs (GW L xs) (d + 1) 205 (0, [.ref 93, .int a1, .int a2, .int a3], [], (zS I J tg)) r := by
  refine Runs.sN 3 (c' := (3, [.ref 93, .int a1, .int a2, .int a3], [.int a3, .int a1, .ref 93], (zS I J tg))) rfl ?_
  obtain ⟨I8, J9, tg10, c15, h⟩ := h
  refine Runs.cl (cm := 203) (as := [.ref 93, .int a1, .int a3]) (rest := []) (r1 := (none, (zS I8 J9 tg10))) rfl (Nat.le_of_ble_eq_true rfl) c15 ?_
  refine Runs.as (c' := (6, [.ref 93, .int a1, .int a2, .int a3], [], (zS I8 J9 tg10))) rfl ?_
  refine Runs.sN 6 (c' := (16, [.ref 93, .int a1, .int a2, .int a3], [.int (690 + a2), .ref 94, .ref 93], (zS I8 J9 tg10))) rfl ?_
  obtain ⟨c16, h⟩ := h
  refine Runs.to (c' := (17, [.ref 93, .int a1, .int a2, .int a3], [.int (I8 94 ((690 + a2).toNatClampNeg)), .ref 93], (zS I8 J9 tg10))) (Runs.ild rfl (show (94 : Nat) < 114 by decide) rfl c16) ?_
  refine Runs.sN 2 (c' := (19, [.ref 93, .int a1, .int a2, .int a3], [.int 0, .int 0, .int (I8 94 ((690 + a2).toNatClampNeg)), .ref 93], (zS I8 J9 tg10))) rfl ?_
  obtain ⟨v11, I12, J13, tg14, c17, h⟩ := h
  refine Runs.cl (cm := 204) (as := [.ref 93, .int (I8 94 ((690 + a2).toNatClampNeg)), .int 0, .int 0]) (rest := []) (r1 := ((some (.int v11)), (zS I12 J13 tg14))) rfl (Nat.le_of_ble_eq_true rfl) c17 ?_
  refine Runs.as (c' := (22, [.ref 93, .int a1, .int a2, .int a3], [.int v11], (zS I12 J13 tg14))) rfl ?_
  subst h
  exact Runs.rt rfl
-- X12_taken 
theorem sg_206 {L d : Nat} {xs : Nat → Int32} (I : Nat → Nat → Int32) (J : Nat → Nat → Int64) (tg : Option Nat) (a1 : Int32) (a2 : Int32) (a3 : Int32) {r : Option Value × SS} (h : (∃ (v17 : Int32) (I18 : Nat → Nat → Int32) (J19 : Nat → Nat → Int64) (tg20 : Option Nat), Runs (GW L xs) d 179 (0, [.ref 93, .int a1], [], (zS I J tg)) ((some (.int v17)), (zS I18 J19 tg20)) ∧ (if v17 = 0 then (r = (some (.int (-1)), (zS I18 J19 tg20))) else (∃ (v21 : Int32) (I22 : Nat → Nat → Int32) (J23 : Nat → Nat → Int64) (tg24 : Option Nat), Runs (GW L xs) d 182 (0, [.int a2], [], (zS I18 J19 tg20)) ((some (.int v21)), (zS I22 J23 tg24)) ∧ (if v21 = 0 then (r = (some (.int (-1)), (zS I22 J23 tg24))) else (∃ (v25 : Int32) (I26 : Nat → Nat → Int32) (J27 : Nat → Nat → Int64) (tg28 : Option Nat), Runs (GW L xs) d 182 (0, [.int a3], [], (zS I22 J23 tg24)) ((some (.int v25)), (zS I26 J27 tg28)) ∧ (if v25 = 0 then (r = (some (.int (-1)), (zS I26 J27 tg28))) else (∃ (v29 : Int32) (I30 : Nat → Nat → Int32) (J31 : Nat → Nat → Int64) (tg32 : Option Nat), Runs (GW L xs) d 205 (0, [.ref 93, .int a1, .int a2, .int a3], [], (zS I26 J27 tg28)) ((some (.int v29)), (zS I30 J31 tg32)) ∧ r = (some (.int v29), (zS I30 J31 tg32)))))))))) : Runs (GW L xs) (d + 1) 206 (0, [.ref 93, .int a1, .int a2, .int a3], [], (zS I J tg)) r := by
  refine Runs.sN 2 (c' := (2, [.ref 93, .int a1, .int a2, .int a3], [.int a1, .ref 93], (zS I J tg))) rfl ?_
  obtain ⟨v17, I18, J19, tg20, c33, h⟩ := h
  refine Runs.cl (cm := 179) (as := [.ref 93, .int a1]) (rest := []) (r1 := ((some (.int v17)), (zS I18 J19 tg20))) rfl (Nat.le_of_ble_eq_true rfl) c33 ?_
  refine Runs.as (c' := (5, [.ref 93, .int a1, .int a2, .int a3], [.int v17], (zS I18 J19 tg20))) rfl ?_
  by_cases c34 : v17 = 0
  · rw [if_pos c34] at h
    refine Runs.brT (P := v17 = 0) (a := 32) (b := 8) (L := [.ref 93, .int a1, .int a2, .int a3]) (S := []) (z := (zS I18 J19 tg20)) rfl c34 ?_
    refine Runs.sN 1 (c' := (33, [.ref 93, .int a1, .int a2, .int a3], [.int (-1)], (zS I18 J19 tg20))) rfl ?_
    subst h
    exact Runs.rt rfl
  · rw [if_neg c34] at h
    refine Runs.brF (P := v17 = 0) (a := 32) (b := 8) (L := [.ref 93, .int a1, .int a2, .int a3]) (S := []) (z := (zS I18 J19 tg20)) rfl c34 ?_
    refine Runs.sN 1 (c' := (9, [.ref 93, .int a1, .int a2, .int a3], [.int a2], (zS I18 J19 tg20))) rfl ?_
    obtain ⟨v21, I22, J23, tg24, c35, h⟩ := h
    refine Runs.cl (cm := 182) (as := [.int a2]) (rest := []) (r1 := ((some (.int v21)), (zS I22 J23 tg24))) rfl (Nat.le_of_ble_eq_true rfl) c35 ?_
    refine Runs.as (c' := (12, [.ref 93, .int a1, .int a2, .int a3], [.int v21], (zS I22 J23 tg24))) rfl ?_
    by_cases c36 : v21 = 0
    · rw [if_pos c36] at h
      refine Runs.brT (P := v21 = 0) (a := 32) (b := 15) (L := [.ref 93, .int a1, .int a2, .int a3]) (S := []) (z := (zS I22 J23 tg24)) rfl c36 ?_
      refine Runs.sN 1 (c' := (33, [.ref 93, .int a1, .int a2, .int a3], [.int (-1)], (zS I22 J23 tg24))) rfl ?_
      subst h
      exact Runs.rt rfl
    · rw [if_neg c36] at h
      refine Runs.brF (P := v21 = 0) (a := 32) (b := 15) (L := [.ref 93, .int a1, .int a2, .int a3]) (S := []) (z := (zS I22 J23 tg24)) rfl c36 ?_
      refine Runs.sN 1 (c' := (16, [.ref 93, .int a1, .int a2, .int a3], [.int a3], (zS I22 J23 tg24))) rfl ?_
      obtain ⟨v25, I26, J27, tg28, c37, h⟩ := h
      refine Runs.cl (cm := 182) (as := [.int a3]) (rest := []) (r1 := ((some (.int v25)), (zS I26 J27 tg28))) rfl (Nat.le_of_ble_eq_true rfl) c37 ?_
      refine Runs.as (c' := (19, [.ref 93, .int a1, .int a2, .int a3], [.int v25], (zS I26 J27 tg28))) rfl ?_
      by_cases c38 : v25 = 0
      · rw [if_pos c38] at h
        refine Runs.brT (P := v25 = 0) (a := 32) (b := 22) (L := [.ref 93, .int a1, .int a2, .int a3]) (S := []) (z := (zS I26 J27 tg28)) rfl c38 ?_
        refine Runs.sN 1 (c' := (33, [.ref 93, .int a1, .int a2, .int a3], [.int (-1)], (zS I26 J27 tg28))) rfl ?_
        subst h
        exact Runs.rt rfl
      · rw [if_neg c38] at h
        refine Runs.brF (P := v25 = 0) (a := 32) (b := 22) (L := [.ref 93, .int a1, .int a2, .int a3]) (S := []) (z := (zS I26 J27 tg28)) rfl c38 ?_
        refine Runs.sN 4 (c' := (26, [.ref 93, .int a1, .int a2, .int a3], [.int a3, .int a2, .int a1, .ref 93], (zS I26 J27 tg28))) rfl ?_
        obtain ⟨v29, I30, J31, tg32, c39, h⟩ := h
        refine Runs.cl (cm := 205) (as := [.ref 93, .int a1, .int a2, .int a3]) (rest := []) (r1 := ((some (.int v29)), (zS I30 J31 tg32))) rfl (Nat.le_of_ble_eq_true rfl) c39 ?_
        refine Runs.as (c' := (29, [.ref 93, .int a1, .int a2, .int a3], [.int v29], (zS I30 J31 tg32))) rfl ?_
        refine Runs.sN 1 (c' := (33, [.ref 93, .int a1, .int a2, .int a3], [.int v29], (zS I30 J31 tg32))) rfl ?_
        subst h
        exact Runs.rt rfl
-- X12_four 
theorem sg_207 {L d : Nat} {xs : Nat → Int32} (I : Nat → Nat → Int32) (J : Nat → Nat → Int64) (tg : Option Nat) (a1 : Int32) {r : Option Value × SS} (h : (Runs (GW L xs) d 207 (3, [.ref 93, .int a1, .int 24], [], (zS I J tg)) r)) : Runs (GW L xs) d 207 (0, [.ref 93, .int a1, vU], [], (zS I J tg)) r := by
  refine Runs.sN 2 (c' := (3, [.ref 93, .int a1, .int 24], [], (zS I J tg))) rfl ?_
  exact h
theorem sg_207_3 {L d : Nat} {xs : Nat → Int32} (I : Nat → Nat → Int32) (J : Nat → Nat → Int64) (tg : Option Nat) (x1 : Int32) (x2 : Int32) {r : Option Value × SS} (h : ((if x2 < 0 then (r = (none, (zS I J tg))) else (¬ ((I 93 7) < 0 ∨ 300 ≤ (I 93 7).toNatClampNeg) ∧ Runs (GW L xs) d 207 (3, [.ref 93, .int x1, .int (x2 + (-8))], [], (zS (up2 (up2 I 100 ((I 93 7).toNatClampNeg) ((x1 >>> (x2 &&& 31)) &&& 255)) 93 7 ((I 93 7) + 1)) J tg)) r)))) : Runs (GW L xs) d 207 (3, [.ref 93, .int x1, .int x2], [], (zS I J tg)) r := by
  refine Runs.sN 1 (c' := (4, [.ref 93, .int x1, .int x2], [.int x2], (zS I J tg))) rfl ?_
  by_cases c1 : x2 < 0
  · rw [if_pos c1] at h
    refine Runs.brT (P := x2 < 0) (a := 39) (b := 7) (L := [.ref 93, .int x1, .int x2]) (S := []) (z := (zS I J tg)) rfl c1 ?_
    subst h
    exact Runs.rt rfl
  · rw [if_neg c1] at h
    refine Runs.brF (P := x2 < 0) (a := 39) (b := 7) (L := [.ref 93, .int x1, .int x2]) (S := []) (z := (zS I J tg)) rfl c1 ?_
    refine Runs.sN 9 (c' := (22, [.ref 93, .int x1, .int x2], [.int ((x1 >>> (x2 &&& 31)) &&& 255), .int (I 93 7), .ref 100], (zS I J tg))) rfl ?_
    obtain ⟨c2, h⟩ := h
    refine Runs.to (c' := (23, [.ref 93, .int x1, .int x2], [], (zS (up2 I 100 ((I 93 7).toNatClampNeg) ((x1 >>> (x2 &&& 31)) &&& 255)) J tg))) (Runs.ist rfl (show (100 : Nat) < 114 by decide) rfl c2) ?_
    refine Runs.sN 8 (c' := (3, [.ref 93, .int x1, .int (x2 + (-8))], [], (zS (up2 (up2 I 100 ((I 93 7).toNatClampNeg) ((x1 >>> (x2 &&& 31)) &&& 255)) 93 7 ((I 93 7) + 1)) J tg))) rfl ?_
    exact h
-- X12_feed 
theorem sg_208 {L d : Nat} {xs : Nat → Int32} (I : Nat → Nat → Int32) (J : Nat → Nat → Int64) (tg : Option Nat) (a1 : Int32) (a2 : Int32) (a3 : Int32) (a4 : Int32) (a5 : Int32) {r : Option Value × SS} (h : ((if ((I 93 7) + 20) ≤ 300 then (∃ (I16 : Nat → Nat → Int32) (J17 : Nat → Nat → Int64) (tg18 : Option Nat), Runs (GW L xs) d 207 (0, [.ref 93, .int a1, vU], [], (zS I J tg)) (none, (zS I16 J17 tg18)) ∧ ∃ (I19 : Nat → Nat → Int32) (J20 : Nat → Nat → Int64) (tg21 : Option Nat), Runs (GW L xs) d 207 (0, [.ref 93, .int a2, vU], [], (zS I16 J17 tg18)) (none, (zS I19 J20 tg21)) ∧ ∃ (I22 : Nat → Nat → Int32) (J23 : Nat → Nat → Int64) (tg24 : Option Nat), Runs (GW L xs) d 207 (0, [.ref 93, .int a3, vU], [], (zS I19 J20 tg21)) (none, (zS I22 J23 tg24)) ∧ ∃ (I25 : Nat → Nat → Int32) (J26 : Nat → Nat → Int64) (tg27 : Option Nat), Runs (GW L xs) d 207 (0, [.ref 93, .int a4, vU], [], (zS I22 J23 tg24)) (none, (zS I25 J26 tg27)) ∧ ∃ (I28 : Nat → Nat → Int32) (J29 : Nat → Nat → Int64) (tg30 : Option Nat), Runs (GW L xs) d 207 (0, [.ref 93, .int a5, vU], [], (zS I25 J26 tg27)) (none, (zS I28 J29 tg30)) ∧ r = (some (.int (I28 93 7)), (zS I28 J29 tg30))) else (r = (some (.int (-1)), (zS I J tg)))))) : Runs (GW L xs) (d + 1) 208 (0, [.ref 93, .int a1, .int a2, .int a3, .int a4, .int a5], [], (zS I J tg)) r := by
  refine Runs.sN 5 (c' := (10, [.ref 93, .int a1, .int a2, .int a3, .int a4, .int a5], [.int 300, .int ((I 93 7) + 20)], (zS I J tg))) rfl ?_
  by_cases c31 : ((I 93 7) + 20) ≤ 300
  · rw [if_pos c31] at h
    refine Runs.brT (P := ((I 93 7) + 20) ≤ 300) (a := 15) (b := 13) (L := [.ref 93, .int a1, .int a2, .int a3, .int a4, .int a5]) (S := []) (z := (zS I J tg)) rfl c31 ?_
    refine Runs.sN 2 (c' := (17, [.ref 93, .int a1, .int a2, .int a3, .int a4, .int a5], [.int a1, .ref 93], (zS I J tg))) rfl ?_
    obtain ⟨I16, J17, tg18, c32, h⟩ := h
    refine Runs.cl (cm := 207) (as := [.ref 93, .int a1]) (rest := []) (r1 := (none, (zS I16 J17 tg18))) rfl (Nat.le_of_ble_eq_true rfl) c32 ?_
    refine Runs.as (c' := (20, [.ref 93, .int a1, .int a2, .int a3, .int a4, .int a5], [], (zS I16 J17 tg18))) rfl ?_
    refine Runs.sN 2 (c' := (22, [.ref 93, .int a1, .int a2, .int a3, .int a4, .int a5], [.int a2, .ref 93], (zS I16 J17 tg18))) rfl ?_
    obtain ⟨I19, J20, tg21, c33, h⟩ := h
    refine Runs.cl (cm := 207) (as := [.ref 93, .int a2]) (rest := []) (r1 := (none, (zS I19 J20 tg21))) rfl (Nat.le_of_ble_eq_true rfl) c33 ?_
    refine Runs.as (c' := (25, [.ref 93, .int a1, .int a2, .int a3, .int a4, .int a5], [], (zS I19 J20 tg21))) rfl ?_
    refine Runs.sN 2 (c' := (27, [.ref 93, .int a1, .int a2, .int a3, .int a4, .int a5], [.int a3, .ref 93], (zS I19 J20 tg21))) rfl ?_
    obtain ⟨I22, J23, tg24, c34, h⟩ := h
    refine Runs.cl (cm := 207) (as := [.ref 93, .int a3]) (rest := []) (r1 := (none, (zS I22 J23 tg24))) rfl (Nat.le_of_ble_eq_true rfl) c34 ?_
    refine Runs.as (c' := (30, [.ref 93, .int a1, .int a2, .int a3, .int a4, .int a5], [], (zS I22 J23 tg24))) rfl ?_
    refine Runs.sN 2 (c' := (33, [.ref 93, .int a1, .int a2, .int a3, .int a4, .int a5], [.int a4, .ref 93], (zS I22 J23 tg24))) rfl ?_
    obtain ⟨I25, J26, tg27, c35, h⟩ := h
    refine Runs.cl (cm := 207) (as := [.ref 93, .int a4]) (rest := []) (r1 := (none, (zS I25 J26 tg27))) rfl (Nat.le_of_ble_eq_true rfl) c35 ?_
    refine Runs.as (c' := (36, [.ref 93, .int a1, .int a2, .int a3, .int a4, .int a5], [], (zS I25 J26 tg27))) rfl ?_
    refine Runs.sN 2 (c' := (39, [.ref 93, .int a1, .int a2, .int a3, .int a4, .int a5], [.int a5, .ref 93], (zS I25 J26 tg27))) rfl ?_
    obtain ⟨I28, J29, tg30, c36, h⟩ := h
    refine Runs.cl (cm := 207) (as := [.ref 93, .int a5]) (rest := []) (r1 := (none, (zS I28 J29 tg30))) rfl (Nat.le_of_ble_eq_true rfl) c36 ?_
    refine Runs.as (c' := (42, [.ref 93, .int a1, .int a2, .int a3, .int a4, .int a5], [], (zS I28 J29 tg30))) rfl ?_
    refine Runs.sN 2 (c' := (46, [.ref 93, .int a1, .int a2, .int a3, .int a4, .int a5], [.int (I28 93 7)], (zS I28 J29 tg30))) rfl ?_
    subst h
    exact Runs.rt rfl
  · rw [if_neg c31] at h
    refine Runs.brF (P := ((I 93 7) + 20) ≤ 300) (a := 15) (b := 13) (L := [.ref 93, .int a1, .int a2, .int a3, .int a4, .int a5]) (S := []) (z := (zS I J tg)) rfl c31 ?_
    refine Runs.sN 1 (c' := (14, [.ref 93, .int a1, .int a2, .int a3, .int a4, .int a5], [.int (-1)], (zS I J tg))) rfl ?_
    subst h
    exact Runs.rt rfl
-- X12_end 
theorem sg_209 {L d : Nat} {xs : Nat → Int32} (I : Nat → Nat → Int32) (J : Nat → Nat → Int64) (tg : Option Nat) (a1 : Int32) {r : Option Value × SS} (h : (∃ (v5 : Int32) (I6 : Nat → Nat → Int32) (J7 : Nat → Nat → Int64) (tg8 : Option Nat), Runs (GW L xs) d 177 (0, [.int a1, .int 0, .int (I 93 7)], [], (zS I J tg)) ((some (.int v5)), (zS I6 J7 tg8)) ∧ (if v5 = 0 then (r = (some (.int (-1)), (zS I6 J7 tg8))) else (r = (some (.int a1), (zS (up2 I6 93 7 a1) J7 tg8)))))) : Runs (GW L xs) (d + 1) 209 (0, [.ref 93, .int a1], [], (zS I J tg)) r := by
  refine Runs.sN 4 (c' := (6, [.ref 93, .int a1], [.int (I 93 7), .int 0, .int a1], (zS I J tg))) rfl ?_
  obtain ⟨v5, I6, J7, tg8, c9, h⟩ := h
  refine Runs.cl (cm := 177) (as := [.int a1, .int 0, .int (I 93 7)]) (rest := []) (r1 := ((some (.int v5)), (zS I6 J7 tg8))) rfl (Nat.le_of_ble_eq_true rfl) c9 ?_
  refine Runs.as (c' := (9, [.ref 93, .int a1], [.int v5], (zS I6 J7 tg8))) rfl ?_
  by_cases c10 : v5 = 0
  · rw [if_pos c10] at h
    refine Runs.brT (P := v5 = 0) (a := 12) (b := 14) (L := [.ref 93, .int a1]) (S := []) (z := (zS I6 J7 tg8)) rfl c10 ?_
    refine Runs.sN 1 (c' := (13, [.ref 93, .int a1], [.int (-1)], (zS I6 J7 tg8))) rfl ?_
    subst h
    exact Runs.rt rfl
  · rw [if_neg c10] at h
    refine Runs.brF (P := v5 = 0) (a := 12) (b := 14) (L := [.ref 93, .int a1]) (S := []) (z := (zS I6 J7 tg8)) rfl c10 ?_
    refine Runs.sN 4 (c' := (20, [.ref 93, .int a1], [.int a1], (zS (up2 I6 93 7 a1) J7 tg8))) rfl ?_
    subst h
    exact Runs.rt rfl
-- X12_byteAt 
theorem sg_210 {L d : Nat} {xs : Nat → Int32} (I : Nat → Nat → Int32) (J : Nat → Nat → Int64) (tg : Option Nat) (a1 : Int32) {r : Option Value × SS} (h : ((if (I 93 7) ≤ a1 then (r = (some (.int (-1)), (zS I J tg))) else (¬ (a1 < 0 ∨ 300 ≤ (a1).toNatClampNeg) ∧ r = (some (.int (I 100 ((a1).toNatClampNeg))), (zS I J tg)))))) : Runs (GW L xs) d 210 (0, [.ref 93, .int a1], [], (zS I J tg)) r := by
  refine Runs.sN 3 (c' := (5, [.ref 93, .int a1], [.int (I 93 7), .int a1], (zS I J tg))) rfl ?_
  by_cases c1 : (I 93 7) ≤ a1
  · rw [if_pos c1] at h
    refine Runs.brT (P := (I 93 7) ≤ a1) (a := 17) (b := 8) (L := [.ref 93, .int a1]) (S := []) (z := (zS I J tg)) rfl c1 ?_
    refine Runs.sN 1 (c' := (18, [.ref 93, .int a1], [.int (-1)], (zS I J tg))) rfl ?_
    subst h
    exact Runs.rt rfl
  · rw [if_neg c1] at h
    refine Runs.brF (P := (I 93 7) ≤ a1) (a := 17) (b := 8) (L := [.ref 93, .int a1]) (S := []) (z := (zS I J tg)) rfl c1 ?_
    refine Runs.sN 3 (c' := (13, [.ref 93, .int a1], [.int a1, .ref 100], (zS I J tg))) rfl ?_
    obtain ⟨c2, h⟩ := h
    refine Runs.to (c' := (14, [.ref 93, .int a1], [.int (I 100 ((a1).toNatClampNeg))], (zS I J tg))) (Runs.ild rfl (show (100 : Nat) < 114 by decide) rfl c2) ?_
    refine Runs.sN 1 (c' := (18, [.ref 93, .int a1], [.int (I 100 ((a1).toNatClampNeg))], (zS I J tg))) rfl ?_
    subst h
    exact Runs.rt rfl
-- X12_isLetter 
theorem sg_211 {L d : Nat} {xs : Nat → Int32} (I : Nat → Nat → Int32) (J : Nat → Nat → Int64) (tg : Option Nat) (a1 : Int32) {r : Option Value × SS} (h : (∃ (v9 : Int32) (I10 : Nat → Nat → Int32) (J11 : Nat → Nat → Int64) (tg12 : Option Nat), Runs (GW L xs) d 177 (0, [.int a1, .int 97, .int 122], [], (zS I J tg)) ((some (.int v9)), (zS I10 J11 tg12)) ∧ (if v9 = 0 then (∃ (v13 : Int32) (I14 : Nat → Nat → Int32) (J15 : Nat → Nat → Int64) (tg16 : Option Nat), Runs (GW L xs) d 177 (0, [.int a1, .int 65, .int 90], [], (zS I10 J11 tg12)) ((some (.int v13)), (zS I14 J15 tg16)) ∧ (if v13 = 0 then (r = (some (.int 0), (zS I14 J15 tg16))) else (r = (some (.int 1), (zS I14 J15 tg16))))) else (r = (some (.int 1), (zS I10 J11 tg12)))))) : Runs (GW L xs) (d + 1) 211 (0, [.int a1], [], (zS I J tg)) r := by
  refine Runs.sN 3 (c' := (5, [.int a1], [.int 122, .int 97, .int a1], (zS I J tg))) rfl ?_
  obtain ⟨v9, I10, J11, tg12, c17, h⟩ := h
  refine Runs.cl (cm := 177) (as := [.int a1, .int 97, .int 122]) (rest := []) (r1 := ((some (.int v9)), (zS I10 J11 tg12))) rfl (Nat.le_of_ble_eq_true rfl) c17 ?_
  refine Runs.as (c' := (8, [.int a1], [.int v9], (zS I10 J11 tg12))) rfl ?_
  by_cases c18 : v9 = 0
  · rw [if_pos c18] at h
    refine Runs.brT (P := v9 = 0) (a := 11) (b := 22) (L := [.int a1]) (S := []) (z := (zS I10 J11 tg12)) rfl c18 ?_
    refine Runs.sN 3 (c' := (16, [.int a1], [.int 90, .int 65, .int a1], (zS I10 J11 tg12))) rfl ?_
    obtain ⟨v13, I14, J15, tg16, c19, h⟩ := h
    refine Runs.cl (cm := 177) (as := [.int a1, .int 65, .int 90]) (rest := []) (r1 := ((some (.int v13)), (zS I14 J15 tg16))) rfl (Nat.le_of_ble_eq_true rfl) c19 ?_
    refine Runs.as (c' := (19, [.int a1], [.int v13], (zS I14 J15 tg16))) rfl ?_
    by_cases c20 : v13 = 0
    · rw [if_pos c20] at h
      refine Runs.brT (P := v13 = 0) (a := 26) (b := 22) (L := [.int a1]) (S := []) (z := (zS I14 J15 tg16)) rfl c20 ?_
      refine Runs.sN 1 (c' := (27, [.int a1], [.int 0], (zS I14 J15 tg16))) rfl ?_
      subst h
      exact Runs.rt rfl
    · rw [if_neg c20] at h
      refine Runs.brF (P := v13 = 0) (a := 26) (b := 22) (L := [.int a1]) (S := []) (z := (zS I14 J15 tg16)) rfl c20 ?_
      refine Runs.sN 2 (c' := (27, [.int a1], [.int 1], (zS I14 J15 tg16))) rfl ?_
      subst h
      exact Runs.rt rfl
  · rw [if_neg c18] at h
    refine Runs.brF (P := v9 = 0) (a := 11) (b := 22) (L := [.int a1]) (S := []) (z := (zS I10 J11 tg12)) rfl c18 ?_
    refine Runs.sN 2 (c' := (27, [.int a1], [.int 1], (zS I10 J11 tg12))) rfl ?_
    subst h
    exact Runs.rt rfl
-- X12_isDigit 
theorem sg_212 {L d : Nat} {xs : Nat → Int32} (I : Nat → Nat → Int32) (J : Nat → Nat → Int64) (tg : Option Nat) (a1 : Int32) {r : Option Value × SS} (h : (∃ (v5 : Int32) (I6 : Nat → Nat → Int32) (J7 : Nat → Nat → Int64) (tg8 : Option Nat), Runs (GW L xs) d 177 (0, [.int a1, .int 48, .int 57], [], (zS I J tg)) ((some (.int v5)), (zS I6 J7 tg8)) ∧ (v5 = 0 ∨ v5 = 1) ∧ r = (some (.int v5), (zS I6 J7 tg8)))) : Runs (GW L xs) (d + 1) 212 (0, [.int a1], [], (zS I J tg)) r := by
  refine Runs.sN 3 (c' := (5, [.int a1], [.int 57, .int 48, .int a1], (zS I J tg))) rfl ?_
  obtain ⟨v5, I6, J7, tg8, c9, h⟩ := h
  refine Runs.cl (cm := 177) (as := [.int a1, .int 48, .int 57]) (rest := []) (r1 := ((some (.int v5)), (zS I6 J7 tg8))) rfl (Nat.le_of_ble_eq_true rfl) c9 ?_
  refine Runs.as (c' := (8, [.int a1], [.int v5], (zS I6 J7 tg8))) rfl ?_
  obtain ⟨h0, h⟩ := h
  subst h
  exact Runs.zrt rfl rfl h0
-- X12_nextToken 
theorem sg_213 {L d : Nat} {xs : Nat → Int32} (I : Nat → Nat → Int32) (J : Nat → Nat → Int64) (tg : Option Nat) {r : Option Value × SS} (h : (∃ (v197 : Int32) (I198 : Nat → Nat → Int32) (J199 : Nat → Nat → Int64) (tg200 : Option Nat), Runs (GW L xs) d 210 (0, [.ref 93, .int (I 93 13)], [], (zS I J tg)) ((some (.int v197)), (zS I198 J199 tg200)) ∧ (if v197 = 32 then (Runs (GW L xs) (d + 1) 213 (26, [.ref 93, vU, vU], [], (zS I198 J199 tg200)) r) else (∃ (v201 : Int32) (I202 : Nat → Nat → Int32) (J203 : Nat → Nat → Int64) (tg204 : Option Nat), Runs (GW L xs) d 210 (0, [.ref 93, .int (I198 93 13)], [], (zS I198 J199 tg200)) ((some (.int v201)), (zS I202 J203 tg204)) ∧ (if v201 = 10 then (Runs (GW L xs) (d + 1) 213 (26, [.ref 93, vU, vU], [], (zS I202 J203 tg204)) r) else (∃ (v205 : Int32) (I206 : Nat → Nat → Int32) (J207 : Nat → Nat → Int64) (tg208 : Option Nat), Runs (GW L xs) d 210 (0, [.ref 93, .int (I202 93 13)], [], (zS (up2 I202 93 14 (I202 93 13)) J203 tg204)) ((some (.int v205)), (zS I206 J207 tg208)) ∧ (if 0 ≤ v205 then (∃ (v209 : Int32) (I210 : Nat → Nat → Int32) (J211 : Nat → Nat → Int64) (tg212 : Option Nat), Runs (GW L xs) d 212 (0, [.int v205], [], (zS I206 J207 tg208)) ((some (.int v209)), (zS I210 J211 tg212)) ∧ (if v209 = 0 then (∃ (v213 : Int32) (I214 : Nat → Nat → Int32) (J215 : Nat → Nat → Int64) (tg216 : Option Nat), Runs (GW L xs) d 211 (0, [.int v205], [], (zS I210 J211 tg212)) ((some (.int v213)), (zS I214 J215 tg216)) ∧ (if v213 = 0 then ((if v205 = 60 then (Runs (GW L xs) (d + 1) 213 (315, [.ref 93, .int v205, vU], [], (zS (up2 I214 93 13 ((I214 93 13) + 1)) J215 tg216)) r) else ((if v205 = 62 then (Runs (GW L xs) (d + 1) 213 (315, [.ref 93, .int v205, vU], [], (zS (up2 I214 93 13 ((I214 93 13) + 1)) J215 tg216)) r) else ((if v205 = 61 then (Runs (GW L xs) (d + 1) 213 (315, [.ref 93, .int v205, vU], [], (zS (up2 I214 93 13 ((I214 93 13) + 1)) J215 tg216)) r) else ((if v205 = 35 then (Runs (GW L xs) (d + 1) 213 (315, [.ref 93, .int v205, vU], [], (zS (up2 I214 93 13 ((I214 93 13) + 1)) J215 tg216)) r) else ((if v205 = 43 then (Runs (GW L xs) (d + 1) 213 (315, [.ref 93, .int v205, vU], [], (zS (up2 I214 93 13 ((I214 93 13) + 1)) J215 tg216)) r) else ((if v205 = 45 then (Runs (GW L xs) (d + 1) 213 (315, [.ref 93, .int v205, vU], [], (zS (up2 I214 93 13 ((I214 93 13) + 1)) J215 tg216)) r) else ((if v205 = 42 then (Runs (GW L xs) (d + 1) 213 (315, [.ref 93, .int v205, vU], [], (zS (up2 I214 93 13 ((I214 93 13) + 1)) J215 tg216)) r) else ((if v205 = 40 then (Runs (GW L xs) (d + 1) 213 (315, [.ref 93, .int v205, vU], [], (zS (up2 I214 93 13 ((I214 93 13) + 1)) J215 tg216)) r) else ((if v205 = 41 then (Runs (GW L xs) (d + 1) 213 (315, [.ref 93, .int v205, vU], [], (zS (up2 I214 93 13 ((I214 93 13) + 1)) J215 tg216)) r) else ((if v205 = 59 then (Runs (GW L xs) (d + 1) 213 (315, [.ref 93, .int v205, vU], [], (zS (up2 I214 93 13 ((I214 93 13) + 1)) J215 tg216)) r) else (Runs (GW L xs) (d + 1) 213 (320, [.ref 93, .int v205, vU], [.int 0], (zS (up2 I214 93 13 ((I214 93 13) + 1)) J215 tg216)) r))))))))))))))))))))) else (Runs (GW L xs) (d + 1) 213 (161, [.ref 93, .int v205, vU], [], (zS (up2 I214 93 15 2) (up2 J215 93 17 0) tg216)) r))) else (Runs (GW L xs) (d + 1) 213 (85, [.ref 93, .int v205, vU], [], (zS (up2 (up2 I210 93 15 1) 93 16 0) J211 tg212)) r))) else (r = (none, (zS (up2 I206 93 15 0) J207 tg208)))))))))) : Runs (GW L xs) (d + 1) 213 (0, [.ref 93, vU, vU], [], (zS I J tg)) r := by
  refine Runs.sN 3 (c' := (5, [.ref 93, vU, vU], [.int (I 93 13), .ref 93], (zS I J tg))) rfl ?_
  obtain ⟨v197, I198, J199, tg200, c217, h⟩ := h
  refine Runs.cl (cm := 210) (as := [.ref 93, .int (I 93 13)]) (rest := []) (r1 := ((some (.int v197)), (zS I198 J199 tg200))) rfl (Nat.le_of_ble_eq_true rfl) c217 ?_
  refine Runs.as (c' := (8, [.ref 93, vU, vU], [.int v197], (zS I198 J199 tg200))) rfl ?_
  refine Runs.sN 1 (c' := (10, [.ref 93, vU, vU], [.int 32, .int v197], (zS I198 J199 tg200))) rfl ?_
  by_cases c218 : v197 = 32
  · rw [if_pos c218] at h
    refine Runs.brT (P := v197 = 32) (a := 26) (b := 13) (L := [.ref 93, vU, vU]) (S := []) (z := (zS I198 J199 tg200)) rfl c218 ?_
    exact h
  · rw [if_neg c218] at h
    refine Runs.brF (P := v197 = 32) (a := 26) (b := 13) (L := [.ref 93, vU, vU]) (S := []) (z := (zS I198 J199 tg200)) rfl c218 ?_
    refine Runs.sN 3 (c' := (18, [.ref 93, vU, vU], [.int (I198 93 13), .ref 93], (zS I198 J199 tg200))) rfl ?_
    obtain ⟨v201, I202, J203, tg204, c219, h⟩ := h
    refine Runs.cl (cm := 210) (as := [.ref 93, .int (I198 93 13)]) (rest := []) (r1 := ((some (.int v201)), (zS I202 J203 tg204))) rfl (Nat.le_of_ble_eq_true rfl) c219 ?_
    refine Runs.as (c' := (21, [.ref 93, vU, vU], [.int v201], (zS I202 J203 tg204))) rfl ?_
    refine Runs.sN 1 (c' := (23, [.ref 93, vU, vU], [.int 10, .int v201], (zS I202 J203 tg204))) rfl ?_
    by_cases c220 : v201 = 10
    · rw [if_pos c220] at h
      refine Runs.brT (P := v201 = 10) (a := 26) (b := 39) (L := [.ref 93, vU, vU]) (S := []) (z := (zS I202 J203 tg204)) rfl c220 ?_
      exact h
    · rw [if_neg c220] at h
      refine Runs.brF (P := v201 = 10) (a := 26) (b := 39) (L := [.ref 93, vU, vU]) (S := []) (z := (zS I202 J203 tg204)) rfl c220 ?_
      refine Runs.sN 7 (c' := (52, [.ref 93, vU, vU], [.int (I202 93 13), .ref 93], (zS (up2 I202 93 14 (I202 93 13)) J203 tg204))) rfl ?_
      obtain ⟨v205, I206, J207, tg208, c221, h⟩ := h
      refine Runs.cl (cm := 210) (as := [.ref 93, .int (I202 93 13)]) (rest := []) (r1 := ((some (.int v205)), (zS I206 J207 tg208))) rfl (Nat.le_of_ble_eq_true rfl) c221 ?_
      refine Runs.as (c' := (55, [.ref 93, vU, vU], [.int v205], (zS I206 J207 tg208))) rfl ?_
      refine Runs.sN 2 (c' := (57, [.ref 93, .int v205, vU], [.int v205], (zS I206 J207 tg208))) rfl ?_
      by_cases c222 : 0 ≤ v205
      · rw [if_pos c222] at h
        refine Runs.brT (P := 0 ≤ v205) (a := 68) (b := 60) (L := [.ref 93, .int v205, vU]) (S := []) (z := (zS I206 J207 tg208)) rfl c222 ?_
        refine Runs.sN 1 (c' := (69, [.ref 93, .int v205, vU], [.int v205], (zS I206 J207 tg208))) rfl ?_
        obtain ⟨v209, I210, J211, tg212, c223, h⟩ := h
        refine Runs.cl (cm := 212) (as := [.int v205]) (rest := []) (r1 := ((some (.int v209)), (zS I210 J211 tg212))) rfl (Nat.le_of_ble_eq_true rfl) c223 ?_
        refine Runs.as (c' := (72, [.ref 93, .int v205, vU], [.int v209], (zS I210 J211 tg212))) rfl ?_
        by_cases c224 : v209 = 0
        · rw [if_pos c224] at h
          refine Runs.brT (P := v209 = 0) (a := 144) (b := 75) (L := [.ref 93, .int v205, vU]) (S := []) (z := (zS I210 J211 tg212)) rfl c224 ?_
          refine Runs.sN 1 (c' := (145, [.ref 93, .int v205, vU], [.int v205], (zS I210 J211 tg212))) rfl ?_
          obtain ⟨v213, I214, J215, tg216, c225, h⟩ := h
          refine Runs.cl (cm := 211) (as := [.int v205]) (rest := []) (r1 := ((some (.int v213)), (zS I214 J215 tg216))) rfl (Nat.le_of_ble_eq_true rfl) c225 ?_
          refine Runs.as (c' := (148, [.ref 93, .int v205, vU], [.int v213], (zS I214 J215 tg216))) rfl ?_
          by_cases c226 : v213 = 0
          · rw [if_pos c226] at h
            refine Runs.brT (P := v213 = 0) (a := 245) (b := 151) (L := [.ref 93, .int v205, vU]) (S := []) (z := (zS I214 J215 tg216)) rfl c226 ?_
            refine Runs.sN 8 (c' := (258, [.ref 93, .int v205, vU], [.int 60, .int v205], (zS (up2 I214 93 13 ((I214 93 13) + 1)) J215 tg216))) rfl ?_
            by_cases c227 : v205 = 60
            · rw [if_pos c227] at h
              refine Runs.brT (P := v205 = 60) (a := 315) (b := 261) (L := [.ref 93, .int v205, vU]) (S := []) (z := (zS (up2 I214 93 13 ((I214 93 13) + 1)) J215 tg216)) rfl c227 ?_
              exact h
            · rw [if_neg c227] at h
              refine Runs.brF (P := v205 = 60) (a := 315) (b := 261) (L := [.ref 93, .int v205, vU]) (S := []) (z := (zS (up2 I214 93 13 ((I214 93 13) + 1)) J215 tg216)) rfl c227 ?_
              refine Runs.sN 2 (c' := (264, [.ref 93, .int v205, vU], [.int 62, .int v205], (zS (up2 I214 93 13 ((I214 93 13) + 1)) J215 tg216))) rfl ?_
              by_cases c228 : v205 = 62
              · rw [if_pos c228] at h
                refine Runs.brT (P := v205 = 62) (a := 315) (b := 267) (L := [.ref 93, .int v205, vU]) (S := []) (z := (zS (up2 I214 93 13 ((I214 93 13) + 1)) J215 tg216)) rfl c228 ?_
                exact h
              · rw [if_neg c228] at h
                refine Runs.brF (P := v205 = 62) (a := 315) (b := 267) (L := [.ref 93, .int v205, vU]) (S := []) (z := (zS (up2 I214 93 13 ((I214 93 13) + 1)) J215 tg216)) rfl c228 ?_
                refine Runs.sN 2 (c' := (270, [.ref 93, .int v205, vU], [.int 61, .int v205], (zS (up2 I214 93 13 ((I214 93 13) + 1)) J215 tg216))) rfl ?_
                by_cases c229 : v205 = 61
                · rw [if_pos c229] at h
                  refine Runs.brT (P := v205 = 61) (a := 315) (b := 273) (L := [.ref 93, .int v205, vU]) (S := []) (z := (zS (up2 I214 93 13 ((I214 93 13) + 1)) J215 tg216)) rfl c229 ?_
                  exact h
                · rw [if_neg c229] at h
                  refine Runs.brF (P := v205 = 61) (a := 315) (b := 273) (L := [.ref 93, .int v205, vU]) (S := []) (z := (zS (up2 I214 93 13 ((I214 93 13) + 1)) J215 tg216)) rfl c229 ?_
                  refine Runs.sN 2 (c' := (276, [.ref 93, .int v205, vU], [.int 35, .int v205], (zS (up2 I214 93 13 ((I214 93 13) + 1)) J215 tg216))) rfl ?_
                  by_cases c230 : v205 = 35
                  · rw [if_pos c230] at h
                    refine Runs.brT (P := v205 = 35) (a := 315) (b := 279) (L := [.ref 93, .int v205, vU]) (S := []) (z := (zS (up2 I214 93 13 ((I214 93 13) + 1)) J215 tg216)) rfl c230 ?_
                    exact h
                  · rw [if_neg c230] at h
                    refine Runs.brF (P := v205 = 35) (a := 315) (b := 279) (L := [.ref 93, .int v205, vU]) (S := []) (z := (zS (up2 I214 93 13 ((I214 93 13) + 1)) J215 tg216)) rfl c230 ?_
                    refine Runs.sN 2 (c' := (282, [.ref 93, .int v205, vU], [.int 43, .int v205], (zS (up2 I214 93 13 ((I214 93 13) + 1)) J215 tg216))) rfl ?_
                    by_cases c231 : v205 = 43
                    · rw [if_pos c231] at h
                      refine Runs.brT (P := v205 = 43) (a := 315) (b := 285) (L := [.ref 93, .int v205, vU]) (S := []) (z := (zS (up2 I214 93 13 ((I214 93 13) + 1)) J215 tg216)) rfl c231 ?_
                      exact h
                    · rw [if_neg c231] at h
                      refine Runs.brF (P := v205 = 43) (a := 315) (b := 285) (L := [.ref 93, .int v205, vU]) (S := []) (z := (zS (up2 I214 93 13 ((I214 93 13) + 1)) J215 tg216)) rfl c231 ?_
                      refine Runs.sN 2 (c' := (288, [.ref 93, .int v205, vU], [.int 45, .int v205], (zS (up2 I214 93 13 ((I214 93 13) + 1)) J215 tg216))) rfl ?_
                      by_cases c232 : v205 = 45
                      · rw [if_pos c232] at h
                        refine Runs.brT (P := v205 = 45) (a := 315) (b := 291) (L := [.ref 93, .int v205, vU]) (S := []) (z := (zS (up2 I214 93 13 ((I214 93 13) + 1)) J215 tg216)) rfl c232 ?_
                        exact h
                      · rw [if_neg c232] at h
                        refine Runs.brF (P := v205 = 45) (a := 315) (b := 291) (L := [.ref 93, .int v205, vU]) (S := []) (z := (zS (up2 I214 93 13 ((I214 93 13) + 1)) J215 tg216)) rfl c232 ?_
                        refine Runs.sN 2 (c' := (294, [.ref 93, .int v205, vU], [.int 42, .int v205], (zS (up2 I214 93 13 ((I214 93 13) + 1)) J215 tg216))) rfl ?_
                        by_cases c233 : v205 = 42
                        · rw [if_pos c233] at h
                          refine Runs.brT (P := v205 = 42) (a := 315) (b := 297) (L := [.ref 93, .int v205, vU]) (S := []) (z := (zS (up2 I214 93 13 ((I214 93 13) + 1)) J215 tg216)) rfl c233 ?_
                          exact h
                        · rw [if_neg c233] at h
                          refine Runs.brF (P := v205 = 42) (a := 315) (b := 297) (L := [.ref 93, .int v205, vU]) (S := []) (z := (zS (up2 I214 93 13 ((I214 93 13) + 1)) J215 tg216)) rfl c233 ?_
                          refine Runs.sN 2 (c' := (300, [.ref 93, .int v205, vU], [.int 40, .int v205], (zS (up2 I214 93 13 ((I214 93 13) + 1)) J215 tg216))) rfl ?_
                          by_cases c234 : v205 = 40
                          · rw [if_pos c234] at h
                            refine Runs.brT (P := v205 = 40) (a := 315) (b := 303) (L := [.ref 93, .int v205, vU]) (S := []) (z := (zS (up2 I214 93 13 ((I214 93 13) + 1)) J215 tg216)) rfl c234 ?_
                            exact h
                          · rw [if_neg c234] at h
                            refine Runs.brF (P := v205 = 40) (a := 315) (b := 303) (L := [.ref 93, .int v205, vU]) (S := []) (z := (zS (up2 I214 93 13 ((I214 93 13) + 1)) J215 tg216)) rfl c234 ?_
                            refine Runs.sN 2 (c' := (306, [.ref 93, .int v205, vU], [.int 41, .int v205], (zS (up2 I214 93 13 ((I214 93 13) + 1)) J215 tg216))) rfl ?_
                            by_cases c235 : v205 = 41
                            · rw [if_pos c235] at h
                              refine Runs.brT (P := v205 = 41) (a := 315) (b := 309) (L := [.ref 93, .int v205, vU]) (S := []) (z := (zS (up2 I214 93 13 ((I214 93 13) + 1)) J215 tg216)) rfl c235 ?_
                              exact h
                            · rw [if_neg c235] at h
                              refine Runs.brF (P := v205 = 41) (a := 315) (b := 309) (L := [.ref 93, .int v205, vU]) (S := []) (z := (zS (up2 I214 93 13 ((I214 93 13) + 1)) J215 tg216)) rfl c235 ?_
                              refine Runs.sN 2 (c' := (312, [.ref 93, .int v205, vU], [.int 59, .int v205], (zS (up2 I214 93 13 ((I214 93 13) + 1)) J215 tg216))) rfl ?_
                              by_cases c236 : v205 = 59
                              · rw [if_pos c236] at h
                                refine Runs.brT (P := v205 = 59) (a := 315) (b := 319) (L := [.ref 93, .int v205, vU]) (S := []) (z := (zS (up2 I214 93 13 ((I214 93 13) + 1)) J215 tg216)) rfl c236 ?_
                                exact h
                              · rw [if_neg c236] at h
                                refine Runs.brF (P := v205 = 59) (a := 315) (b := 319) (L := [.ref 93, .int v205, vU]) (S := []) (z := (zS (up2 I214 93 13 ((I214 93 13) + 1)) J215 tg216)) rfl c236 ?_
                                refine Runs.sN 1 (c' := (320, [.ref 93, .int v205, vU], [.int 0], (zS (up2 I214 93 13 ((I214 93 13) + 1)) J215 tg216))) rfl ?_
                                exact h
          · rw [if_neg c226] at h
            refine Runs.brF (P := v213 = 0) (a := 245) (b := 151) (L := [.ref 93, .int v205, vU]) (S := []) (z := (zS I214 J215 tg216)) rfl c226 ?_
            refine Runs.sN 6 (c' := (161, [.ref 93, .int v205, vU], [], (zS (up2 I214 93 15 2) (up2 J215 93 17 0) tg216))) rfl ?_
            exact h
        · rw [if_neg c224] at h
          refine Runs.brF (P := v209 = 0) (a := 144) (b := 75) (L := [.ref 93, .int v205, vU]) (S := []) (z := (zS I210 J211 tg212)) rfl c224 ?_
          refine Runs.sN 6 (c' := (85, [.ref 93, .int v205, vU], [], (zS (up2 (up2 I210 93 15 1) 93 16 0) J211 tg212))) rfl ?_
          exact h
      · rw [if_neg c222] at h
        refine Runs.brF (P := 0 ≤ v205) (a := 68) (b := 60) (L := [.ref 93, .int v205, vU]) (S := []) (z := (zS I206 J207 tg208)) rfl c222 ?_
        refine Runs.sN 4 (c' := (384, [.ref 93, .int v205, vU], [], (zS (up2 I206 93 15 0) J207 tg208))) rfl ?_
        subst h
        exact Runs.rt rfl
theorem sg_213_0 {L d : Nat} {xs : Nat → Int32} (I : Nat → Nat → Int32) (J : Nat → Nat → Int64) (tg : Option Nat) {r : Option Value × SS} (h : (∃ (v1 : Int32) (I2 : Nat → Nat → Int32) (J3 : Nat → Nat → Int64) (tg4 : Option Nat), Runs (GW L xs) d 210 (0, [.ref 93, .int (I 93 13)], [], (zS I J tg)) ((some (.int v1)), (zS I2 J3 tg4)) ∧ (if v1 = 32 then (Runs (GW L xs) (d + 1) 213 (26, [.ref 93, vU, vU], [], (zS I2 J3 tg4)) r) else (∃ (v5 : Int32) (I6 : Nat → Nat → Int32) (J7 : Nat → Nat → Int64) (tg8 : Option Nat), Runs (GW L xs) d 210 (0, [.ref 93, .int (I2 93 13)], [], (zS I2 J3 tg4)) ((some (.int v5)), (zS I6 J7 tg8)) ∧ (if v5 = 10 then (Runs (GW L xs) (d + 1) 213 (26, [.ref 93, vU, vU], [], (zS I6 J7 tg8)) r) else (∃ (v9 : Int32) (I10 : Nat → Nat → Int32) (J11 : Nat → Nat → Int64) (tg12 : Option Nat), Runs (GW L xs) d 210 (0, [.ref 93, .int (I6 93 13)], [], (zS (up2 I6 93 14 (I6 93 13)) J7 tg8)) ((some (.int v9)), (zS I10 J11 tg12)) ∧ (if 0 ≤ v9 then (∃ (v13 : Int32) (I14 : Nat → Nat → Int32) (J15 : Nat → Nat → Int64) (tg16 : Option Nat), Runs (GW L xs) d 212 (0, [.int v9], [], (zS I10 J11 tg12)) ((some (.int v13)), (zS I14 J15 tg16)) ∧ (if v13 = 0 then (∃ (v17 : Int32) (I18 : Nat → Nat → Int32) (J19 : Nat → Nat → Int64) (tg20 : Option Nat), Runs (GW L xs) d 211 (0, [.int v9], [], (zS I14 J15 tg16)) ((some (.int v17)), (zS I18 J19 tg20)) ∧ (if v17 = 0 then ((if v9 = 60 then (Runs (GW L xs) (d + 1) 213 (315, [.ref 93, .int v9, vU], [], (zS (up2 I18 93 13 ((I18 93 13) + 1)) J19 tg20)) r) else ((if v9 = 62 then (Runs (GW L xs) (d + 1) 213 (315, [.ref 93, .int v9, vU], [], (zS (up2 I18 93 13 ((I18 93 13) + 1)) J19 tg20)) r) else ((if v9 = 61 then (Runs (GW L xs) (d + 1) 213 (315, [.ref 93, .int v9, vU], [], (zS (up2 I18 93 13 ((I18 93 13) + 1)) J19 tg20)) r) else ((if v9 = 35 then (Runs (GW L xs) (d + 1) 213 (315, [.ref 93, .int v9, vU], [], (zS (up2 I18 93 13 ((I18 93 13) + 1)) J19 tg20)) r) else ((if v9 = 43 then (Runs (GW L xs) (d + 1) 213 (315, [.ref 93, .int v9, vU], [], (zS (up2 I18 93 13 ((I18 93 13) + 1)) J19 tg20)) r) else ((if v9 = 45 then (Runs (GW L xs) (d + 1) 213 (315, [.ref 93, .int v9, vU], [], (zS (up2 I18 93 13 ((I18 93 13) + 1)) J19 tg20)) r) else ((if v9 = 42 then (Runs (GW L xs) (d + 1) 213 (315, [.ref 93, .int v9, vU], [], (zS (up2 I18 93 13 ((I18 93 13) + 1)) J19 tg20)) r) else ((if v9 = 40 then (Runs (GW L xs) (d + 1) 213 (315, [.ref 93, .int v9, vU], [], (zS (up2 I18 93 13 ((I18 93 13) + 1)) J19 tg20)) r) else ((if v9 = 41 then (Runs (GW L xs) (d + 1) 213 (315, [.ref 93, .int v9, vU], [], (zS (up2 I18 93 13 ((I18 93 13) + 1)) J19 tg20)) r) else ((if v9 = 59 then (Runs (GW L xs) (d + 1) 213 (315, [.ref 93, .int v9, vU], [], (zS (up2 I18 93 13 ((I18 93 13) + 1)) J19 tg20)) r) else (Runs (GW L xs) (d + 1) 213 (320, [.ref 93, .int v9, vU], [.int 0], (zS (up2 I18 93 13 ((I18 93 13) + 1)) J19 tg20)) r))))))))))))))))))))) else (Runs (GW L xs) (d + 1) 213 (161, [.ref 93, .int v9, vU], [], (zS (up2 I18 93 15 2) (up2 J19 93 17 0) tg20)) r))) else (Runs (GW L xs) (d + 1) 213 (85, [.ref 93, .int v9, vU], [], (zS (up2 (up2 I14 93 15 1) 93 16 0) J15 tg16)) r))) else (r = (none, (zS (up2 I10 93 15 0) J11 tg12)))))))))) : Runs (GW L xs) (d + 1) 213 (0, [.ref 93, vU, vU], [], (zS I J tg)) r := by
  refine Runs.sN 3 (c' := (5, [.ref 93, vU, vU], [.int (I 93 13), .ref 93], (zS I J tg))) rfl ?_
  obtain ⟨v1, I2, J3, tg4, c21, h⟩ := h
  refine Runs.cl (cm := 210) (as := [.ref 93, .int (I 93 13)]) (rest := []) (r1 := ((some (.int v1)), (zS I2 J3 tg4))) rfl (Nat.le_of_ble_eq_true rfl) c21 ?_
  refine Runs.as (c' := (8, [.ref 93, vU, vU], [.int v1], (zS I2 J3 tg4))) rfl ?_
  refine Runs.sN 1 (c' := (10, [.ref 93, vU, vU], [.int 32, .int v1], (zS I2 J3 tg4))) rfl ?_
  by_cases c22 : v1 = 32
  · rw [if_pos c22] at h
    refine Runs.brT (P := v1 = 32) (a := 26) (b := 13) (L := [.ref 93, vU, vU]) (S := []) (z := (zS I2 J3 tg4)) rfl c22 ?_
    exact h
  · rw [if_neg c22] at h
    refine Runs.brF (P := v1 = 32) (a := 26) (b := 13) (L := [.ref 93, vU, vU]) (S := []) (z := (zS I2 J3 tg4)) rfl c22 ?_
    refine Runs.sN 3 (c' := (18, [.ref 93, vU, vU], [.int (I2 93 13), .ref 93], (zS I2 J3 tg4))) rfl ?_
    obtain ⟨v5, I6, J7, tg8, c23, h⟩ := h
    refine Runs.cl (cm := 210) (as := [.ref 93, .int (I2 93 13)]) (rest := []) (r1 := ((some (.int v5)), (zS I6 J7 tg8))) rfl (Nat.le_of_ble_eq_true rfl) c23 ?_
    refine Runs.as (c' := (21, [.ref 93, vU, vU], [.int v5], (zS I6 J7 tg8))) rfl ?_
    refine Runs.sN 1 (c' := (23, [.ref 93, vU, vU], [.int 10, .int v5], (zS I6 J7 tg8))) rfl ?_
    by_cases c24 : v5 = 10
    · rw [if_pos c24] at h
      refine Runs.brT (P := v5 = 10) (a := 26) (b := 39) (L := [.ref 93, vU, vU]) (S := []) (z := (zS I6 J7 tg8)) rfl c24 ?_
      exact h
    · rw [if_neg c24] at h
      refine Runs.brF (P := v5 = 10) (a := 26) (b := 39) (L := [.ref 93, vU, vU]) (S := []) (z := (zS I6 J7 tg8)) rfl c24 ?_
      refine Runs.sN 7 (c' := (52, [.ref 93, vU, vU], [.int (I6 93 13), .ref 93], (zS (up2 I6 93 14 (I6 93 13)) J7 tg8))) rfl ?_
      obtain ⟨v9, I10, J11, tg12, c25, h⟩ := h
      refine Runs.cl (cm := 210) (as := [.ref 93, .int (I6 93 13)]) (rest := []) (r1 := ((some (.int v9)), (zS I10 J11 tg12))) rfl (Nat.le_of_ble_eq_true rfl) c25 ?_
      refine Runs.as (c' := (55, [.ref 93, vU, vU], [.int v9], (zS I10 J11 tg12))) rfl ?_
      refine Runs.sN 2 (c' := (57, [.ref 93, .int v9, vU], [.int v9], (zS I10 J11 tg12))) rfl ?_
      by_cases c26 : 0 ≤ v9
      · rw [if_pos c26] at h
        refine Runs.brT (P := 0 ≤ v9) (a := 68) (b := 60) (L := [.ref 93, .int v9, vU]) (S := []) (z := (zS I10 J11 tg12)) rfl c26 ?_
        refine Runs.sN 1 (c' := (69, [.ref 93, .int v9, vU], [.int v9], (zS I10 J11 tg12))) rfl ?_
        obtain ⟨v13, I14, J15, tg16, c27, h⟩ := h
        refine Runs.cl (cm := 212) (as := [.int v9]) (rest := []) (r1 := ((some (.int v13)), (zS I14 J15 tg16))) rfl (Nat.le_of_ble_eq_true rfl) c27 ?_
        refine Runs.as (c' := (72, [.ref 93, .int v9, vU], [.int v13], (zS I14 J15 tg16))) rfl ?_
        by_cases c28 : v13 = 0
        · rw [if_pos c28] at h
          refine Runs.brT (P := v13 = 0) (a := 144) (b := 75) (L := [.ref 93, .int v9, vU]) (S := []) (z := (zS I14 J15 tg16)) rfl c28 ?_
          refine Runs.sN 1 (c' := (145, [.ref 93, .int v9, vU], [.int v9], (zS I14 J15 tg16))) rfl ?_
          obtain ⟨v17, I18, J19, tg20, c29, h⟩ := h
          refine Runs.cl (cm := 211) (as := [.int v9]) (rest := []) (r1 := ((some (.int v17)), (zS I18 J19 tg20))) rfl (Nat.le_of_ble_eq_true rfl) c29 ?_
          refine Runs.as (c' := (148, [.ref 93, .int v9, vU], [.int v17], (zS I18 J19 tg20))) rfl ?_
          by_cases c30 : v17 = 0
          · rw [if_pos c30] at h
            refine Runs.brT (P := v17 = 0) (a := 245) (b := 151) (L := [.ref 93, .int v9, vU]) (S := []) (z := (zS I18 J19 tg20)) rfl c30 ?_
            refine Runs.sN 8 (c' := (258, [.ref 93, .int v9, vU], [.int 60, .int v9], (zS (up2 I18 93 13 ((I18 93 13) + 1)) J19 tg20))) rfl ?_
            by_cases c31 : v9 = 60
            · rw [if_pos c31] at h
              refine Runs.brT (P := v9 = 60) (a := 315) (b := 261) (L := [.ref 93, .int v9, vU]) (S := []) (z := (zS (up2 I18 93 13 ((I18 93 13) + 1)) J19 tg20)) rfl c31 ?_
              exact h
            · rw [if_neg c31] at h
              refine Runs.brF (P := v9 = 60) (a := 315) (b := 261) (L := [.ref 93, .int v9, vU]) (S := []) (z := (zS (up2 I18 93 13 ((I18 93 13) + 1)) J19 tg20)) rfl c31 ?_
              refine Runs.sN 2 (c' := (264, [.ref 93, .int v9, vU], [.int 62, .int v9], (zS (up2 I18 93 13 ((I18 93 13) + 1)) J19 tg20))) rfl ?_
              by_cases c32 : v9 = 62
              · rw [if_pos c32] at h
                refine Runs.brT (P := v9 = 62) (a := 315) (b := 267) (L := [.ref 93, .int v9, vU]) (S := []) (z := (zS (up2 I18 93 13 ((I18 93 13) + 1)) J19 tg20)) rfl c32 ?_
                exact h
              · rw [if_neg c32] at h
                refine Runs.brF (P := v9 = 62) (a := 315) (b := 267) (L := [.ref 93, .int v9, vU]) (S := []) (z := (zS (up2 I18 93 13 ((I18 93 13) + 1)) J19 tg20)) rfl c32 ?_
                refine Runs.sN 2 (c' := (270, [.ref 93, .int v9, vU], [.int 61, .int v9], (zS (up2 I18 93 13 ((I18 93 13) + 1)) J19 tg20))) rfl ?_
                by_cases c33 : v9 = 61
                · rw [if_pos c33] at h
                  refine Runs.brT (P := v9 = 61) (a := 315) (b := 273) (L := [.ref 93, .int v9, vU]) (S := []) (z := (zS (up2 I18 93 13 ((I18 93 13) + 1)) J19 tg20)) rfl c33 ?_
                  exact h
                · rw [if_neg c33] at h
                  refine Runs.brF (P := v9 = 61) (a := 315) (b := 273) (L := [.ref 93, .int v9, vU]) (S := []) (z := (zS (up2 I18 93 13 ((I18 93 13) + 1)) J19 tg20)) rfl c33 ?_
                  refine Runs.sN 2 (c' := (276, [.ref 93, .int v9, vU], [.int 35, .int v9], (zS (up2 I18 93 13 ((I18 93 13) + 1)) J19 tg20))) rfl ?_
                  by_cases c34 : v9 = 35
                  · rw [if_pos c34] at h
                    refine Runs.brT (P := v9 = 35) (a := 315) (b := 279) (L := [.ref 93, .int v9, vU]) (S := []) (z := (zS (up2 I18 93 13 ((I18 93 13) + 1)) J19 tg20)) rfl c34 ?_
                    exact h
                  · rw [if_neg c34] at h
                    refine Runs.brF (P := v9 = 35) (a := 315) (b := 279) (L := [.ref 93, .int v9, vU]) (S := []) (z := (zS (up2 I18 93 13 ((I18 93 13) + 1)) J19 tg20)) rfl c34 ?_
                    refine Runs.sN 2 (c' := (282, [.ref 93, .int v9, vU], [.int 43, .int v9], (zS (up2 I18 93 13 ((I18 93 13) + 1)) J19 tg20))) rfl ?_
                    by_cases c35 : v9 = 43
                    · rw [if_pos c35] at h
                      refine Runs.brT (P := v9 = 43) (a := 315) (b := 285) (L := [.ref 93, .int v9, vU]) (S := []) (z := (zS (up2 I18 93 13 ((I18 93 13) + 1)) J19 tg20)) rfl c35 ?_
                      exact h
                    · rw [if_neg c35] at h
                      refine Runs.brF (P := v9 = 43) (a := 315) (b := 285) (L := [.ref 93, .int v9, vU]) (S := []) (z := (zS (up2 I18 93 13 ((I18 93 13) + 1)) J19 tg20)) rfl c35 ?_
                      refine Runs.sN 2 (c' := (288, [.ref 93, .int v9, vU], [.int 45, .int v9], (zS (up2 I18 93 13 ((I18 93 13) + 1)) J19 tg20))) rfl ?_
                      by_cases c36 : v9 = 45
                      · rw [if_pos c36] at h
                        refine Runs.brT (P := v9 = 45) (a := 315) (b := 291) (L := [.ref 93, .int v9, vU]) (S := []) (z := (zS (up2 I18 93 13 ((I18 93 13) + 1)) J19 tg20)) rfl c36 ?_
                        exact h
                      · rw [if_neg c36] at h
                        refine Runs.brF (P := v9 = 45) (a := 315) (b := 291) (L := [.ref 93, .int v9, vU]) (S := []) (z := (zS (up2 I18 93 13 ((I18 93 13) + 1)) J19 tg20)) rfl c36 ?_
                        refine Runs.sN 2 (c' := (294, [.ref 93, .int v9, vU], [.int 42, .int v9], (zS (up2 I18 93 13 ((I18 93 13) + 1)) J19 tg20))) rfl ?_
                        by_cases c37 : v9 = 42
                        · rw [if_pos c37] at h
                          refine Runs.brT (P := v9 = 42) (a := 315) (b := 297) (L := [.ref 93, .int v9, vU]) (S := []) (z := (zS (up2 I18 93 13 ((I18 93 13) + 1)) J19 tg20)) rfl c37 ?_
                          exact h
                        · rw [if_neg c37] at h
                          refine Runs.brF (P := v9 = 42) (a := 315) (b := 297) (L := [.ref 93, .int v9, vU]) (S := []) (z := (zS (up2 I18 93 13 ((I18 93 13) + 1)) J19 tg20)) rfl c37 ?_
                          refine Runs.sN 2 (c' := (300, [.ref 93, .int v9, vU], [.int 40, .int v9], (zS (up2 I18 93 13 ((I18 93 13) + 1)) J19 tg20))) rfl ?_
                          by_cases c38 : v9 = 40
                          · rw [if_pos c38] at h
                            refine Runs.brT (P := v9 = 40) (a := 315) (b := 303) (L := [.ref 93, .int v9, vU]) (S := []) (z := (zS (up2 I18 93 13 ((I18 93 13) + 1)) J19 tg20)) rfl c38 ?_
                            exact h
                          · rw [if_neg c38] at h
                            refine Runs.brF (P := v9 = 40) (a := 315) (b := 303) (L := [.ref 93, .int v9, vU]) (S := []) (z := (zS (up2 I18 93 13 ((I18 93 13) + 1)) J19 tg20)) rfl c38 ?_
                            refine Runs.sN 2 (c' := (306, [.ref 93, .int v9, vU], [.int 41, .int v9], (zS (up2 I18 93 13 ((I18 93 13) + 1)) J19 tg20))) rfl ?_
                            by_cases c39 : v9 = 41
                            · rw [if_pos c39] at h
                              refine Runs.brT (P := v9 = 41) (a := 315) (b := 309) (L := [.ref 93, .int v9, vU]) (S := []) (z := (zS (up2 I18 93 13 ((I18 93 13) + 1)) J19 tg20)) rfl c39 ?_
                              exact h
                            · rw [if_neg c39] at h
                              refine Runs.brF (P := v9 = 41) (a := 315) (b := 309) (L := [.ref 93, .int v9, vU]) (S := []) (z := (zS (up2 I18 93 13 ((I18 93 13) + 1)) J19 tg20)) rfl c39 ?_
                              refine Runs.sN 2 (c' := (312, [.ref 93, .int v9, vU], [.int 59, .int v9], (zS (up2 I18 93 13 ((I18 93 13) + 1)) J19 tg20))) rfl ?_
                              by_cases c40 : v9 = 59
                              · rw [if_pos c40] at h
                                refine Runs.brT (P := v9 = 59) (a := 315) (b := 319) (L := [.ref 93, .int v9, vU]) (S := []) (z := (zS (up2 I18 93 13 ((I18 93 13) + 1)) J19 tg20)) rfl c40 ?_
                                exact h
                              · rw [if_neg c40] at h
                                refine Runs.brF (P := v9 = 59) (a := 315) (b := 319) (L := [.ref 93, .int v9, vU]) (S := []) (z := (zS (up2 I18 93 13 ((I18 93 13) + 1)) J19 tg20)) rfl c40 ?_
                                refine Runs.sN 1 (c' := (320, [.ref 93, .int v9, vU], [.int 0], (zS (up2 I18 93 13 ((I18 93 13) + 1)) J19 tg20))) rfl ?_
                                exact h
          · rw [if_neg c30] at h
            refine Runs.brF (P := v17 = 0) (a := 245) (b := 151) (L := [.ref 93, .int v9, vU]) (S := []) (z := (zS I18 J19 tg20)) rfl c30 ?_
            refine Runs.sN 6 (c' := (161, [.ref 93, .int v9, vU], [], (zS (up2 I18 93 15 2) (up2 J19 93 17 0) tg20))) rfl ?_
            exact h
        · rw [if_neg c28] at h
          refine Runs.brF (P := v13 = 0) (a := 144) (b := 75) (L := [.ref 93, .int v9, vU]) (S := []) (z := (zS I14 J15 tg16)) rfl c28 ?_
          refine Runs.sN 6 (c' := (85, [.ref 93, .int v9, vU], [], (zS (up2 (up2 I14 93 15 1) 93 16 0) J15 tg16))) rfl ?_
          exact h
      · rw [if_neg c26] at h
        refine Runs.brF (P := 0 ≤ v9) (a := 68) (b := 60) (L := [.ref 93, .int v9, vU]) (S := []) (z := (zS I10 J11 tg12)) rfl c26 ?_
        refine Runs.sN 4 (c' := (384, [.ref 93, .int v9, vU], [], (zS (up2 I10 93 15 0) J11 tg12))) rfl ?_
        subst h
        exact Runs.rt rfl
theorem sg_213_26 {L d : Nat} {xs : Nat → Int32} (I : Nat → Nat → Int32) (J : Nat → Nat → Int64) (tg : Option Nat) {r : Option Value × SS} (h : (Runs (GW L xs) (d + 1) 213 (0, [.ref 93, vU, vU], [], (zS (up2 I 93 13 ((I 93 13) + 1)) J tg)) r)) : Runs (GW L xs) (d + 1) 213 (26, [.ref 93, vU, vU], [], (zS I J tg)) r := by
  refine Runs.sN 7 (c' := (0, [.ref 93, vU, vU], [], (zS (up2 I 93 13 ((I 93 13) + 1)) J tg))) rfl ?_
  exact h
theorem sg_213_85 {L d : Nat} {xs : Nat → Int32} (I : Nat → Nat → Int32) (J : Nat → Nat → Int64) (tg : Option Nat) (x1 : Int32) {r : Option Value × SS} (h : (∃ (v1 : Int32) (I2 : Nat → Nat → Int32) (J3 : Nat → Nat → Int64) (tg4 : Option Nat), Runs (GW L xs) d 210 (0, [.ref 93, .int (I 93 13)], [], (zS I J tg)) ((some (.int v1)), (zS I2 J3 tg4)) ∧ ∃ (v5 : Int32) (I6 : Nat → Nat → Int32) (J7 : Nat → Nat → Int64) (tg8 : Option Nat), Runs (GW L xs) d 212 (0, [.int v1], [], (zS I2 J3 tg4)) ((some (.int v5)), (zS I6 J7 tg8)) ∧ (if v5 = 0 then (r = (none, (zS I6 J7 tg8))) else ((if 100000 ≤ (I6 93 16) then (Runs (GW L xs) (d + 1) 213 (131, [.ref 93, .int x1, vU], [], (zS I6 J7 tg8)) r) else (∃ (v9 : Int32) (I10 : Nat → Nat → Int32) (J11 : Nat → Nat → Int64) (tg12 : Option Nat), Runs (GW L xs) d 210 (0, [.ref 93, .int (I6 93 13)], [], (zS I6 J7 tg8)) ((some (.int v9)), (zS I10 J11 tg12)) ∧ Runs (GW L xs) (d + 1) 213 (131, [.ref 93, .int x1, vU], [], (zS (up2 I10 93 16 (((10 * (I6 93 16)) + v9) - 48)) J11 tg12)) r)))))) : Runs (GW L xs) (d + 1) 213 (85, [.ref 93, .int x1, vU], [], (zS I J tg)) r := by
  refine Runs.sN 3 (c' := (90, [.ref 93, .int x1, vU], [.int (I 93 13), .ref 93], (zS I J tg))) rfl ?_
  obtain ⟨v1, I2, J3, tg4, c13, h⟩ := h
  refine Runs.cl (cm := 210) (as := [.ref 93, .int (I 93 13)]) (rest := []) (r1 := ((some (.int v1)), (zS I2 J3 tg4))) rfl (Nat.le_of_ble_eq_true rfl) c13 ?_
  refine Runs.as (c' := (93, [.ref 93, .int x1, vU], [.int v1], (zS I2 J3 tg4))) rfl ?_
  obtain ⟨v5, I6, J7, tg8, c14, h⟩ := h
  refine Runs.cl (cm := 212) (as := [.int v1]) (rest := []) (r1 := ((some (.int v5)), (zS I6 J7 tg8))) rfl (Nat.le_of_ble_eq_true rfl) c14 ?_
  refine Runs.as (c' := (96, [.ref 93, .int x1, vU], [.int v5], (zS I6 J7 tg8))) rfl ?_
  by_cases c15 : v5 = 0
  · rw [if_pos c15] at h
    refine Runs.brT (P := v5 = 0) (a := 384) (b := 99) (L := [.ref 93, .int x1, vU]) (S := []) (z := (zS I6 J7 tg8)) rfl c15 ?_
    subst h
    exact Runs.rt rfl
  · rw [if_neg c15] at h
    refine Runs.brF (P := v5 = 0) (a := 384) (b := 99) (L := [.ref 93, .int x1, vU]) (S := []) (z := (zS I6 J7 tg8)) rfl c15 ?_
    refine Runs.sN 3 (c' := (105, [.ref 93, .int x1, vU], [.int 100000, .int (I6 93 16)], (zS I6 J7 tg8))) rfl ?_
    by_cases c16 : 100000 ≤ (I6 93 16)
    · rw [if_pos c16] at h
      refine Runs.brT (P := 100000 ≤ (I6 93 16)) (a := 131) (b := 108) (L := [.ref 93, .int x1, vU]) (S := []) (z := (zS I6 J7 tg8)) rfl c16 ?_
      exact h
    · rw [if_neg c16] at h
      refine Runs.brF (P := 100000 ≤ (I6 93 16)) (a := 131) (b := 108) (L := [.ref 93, .int x1, vU]) (S := []) (z := (zS I6 J7 tg8)) rfl c16 ?_
      refine Runs.sN 8 (c' := (121, [.ref 93, .int x1, vU], [.int (I6 93 13), .ref 93, .int (10 * (I6 93 16)), .ref 93], (zS I6 J7 tg8))) rfl ?_
      obtain ⟨v9, I10, J11, tg12, c17, h⟩ := h
      refine Runs.cl (cm := 210) (as := [.ref 93, .int (I6 93 13)]) (rest := [.int (10 * (I6 93 16)), .ref 93]) (r1 := ((some (.int v9)), (zS I10 J11 tg12))) rfl (Nat.le_of_ble_eq_true rfl) c17 ?_
      refine Runs.as (c' := (124, [.ref 93, .int x1, vU], [.int v9, .int (10 * (I6 93 16)), .ref 93], (zS I10 J11 tg12))) rfl ?_
      refine Runs.sN 4 (c' := (131, [.ref 93, .int x1, vU], [], (zS (up2 I10 93 16 (((10 * (I6 93 16)) + v9) - 48)) J11 tg12))) rfl ?_
      exact h
theorem sg_213_131 {L d : Nat} {xs : Nat → Int32} (I : Nat → Nat → Int32) (J : Nat → Nat → Int64) (tg : Option Nat) (x1 : Int32) {r : Option Value × SS} (h : (Runs (GW L xs) (d + 1) 213 (85, [.ref 93, .int x1, vU], [], (zS (up2 I 93 13 ((I 93 13) + 1)) J tg)) r)) : Runs (GW L xs) (d + 1) 213 (131, [.ref 93, .int x1, vU], [], (zS I J tg)) r := by
  refine Runs.sN 7 (c' := (85, [.ref 93, .int x1, vU], [], (zS (up2 I 93 13 ((I 93 13) + 1)) J tg))) rfl ?_
  exact h
theorem sg_213_161 {L d : Nat} {xs : Nat → Int32} (I : Nat → Nat → Int32) (J : Nat → Nat → Int64) (tg : Option Nat) (x1 : Int32) {r : Option Value × SS} (h : (∃ (v1 : Int32) (I2 : Nat → Nat → Int32) (J3 : Nat → Nat → Int64) (tg4 : Option Nat), Runs (GW L xs) d 210 (0, [.ref 93, .int (I 93 13)], [], (zS I J tg)) ((some (.int v1)), (zS I2 J3 tg4)) ∧ ∃ (v5 : Int32) (I6 : Nat → Nat → Int32) (J7 : Nat → Nat → Int64) (tg8 : Option Nat), Runs (GW L xs) d 211 (0, [.int v1], [], (zS I2 J3 tg4)) ((some (.int v5)), (zS I6 J7 tg8)) ∧ (if v5 = 0 then ((if ((I6 93 13) - (I6 93 14)) ≤ 7 then (r = (none, (zS I6 J7 tg8))) else (r = (none, (zS I6 (up2 J7 93 17 0) tg8))))) else ((if 7 ≤ ((I6 93 13) - (I6 93 14)) then (Runs (GW L xs) (d + 1) 213 (210, [.ref 93, .int x1, vU], [], (zS I6 J7 tg8)) r) else (∃ (v9 : Int32) (I10 : Nat → Nat → Int32) (J11 : Nat → Nat → Int64) (tg12 : Option Nat), Runs (GW L xs) d 210 (0, [.ref 93, .int (I6 93 13)], [], (zS I6 J7 tg8)) ((some (.int v9)), (zS I10 J11 tg12)) ∧ Runs (GW L xs) (d + 1) 213 (210, [.ref 93, .int x1, vU], [], (zS I10 (up2 J11 93 17 (((J7 93 17) <<< (Int32.toInt64 8 &&& 63)) ||| (Int32.toInt64 v9))) tg12)) r)))))) : Runs (GW L xs) (d + 1) 213 (161, [.ref 93, .int x1, vU], [], (zS I J tg)) r := by
  refine Runs.sN 3 (c' := (166, [.ref 93, .int x1, vU], [.int (I 93 13), .ref 93], (zS I J tg))) rfl ?_
  obtain ⟨v1, I2, J3, tg4, c13, h⟩ := h
  refine Runs.cl (cm := 210) (as := [.ref 93, .int (I 93 13)]) (rest := []) (r1 := ((some (.int v1)), (zS I2 J3 tg4))) rfl (Nat.le_of_ble_eq_true rfl) c13 ?_
  refine Runs.as (c' := (169, [.ref 93, .int x1, vU], [.int v1], (zS I2 J3 tg4))) rfl ?_
  obtain ⟨v5, I6, J7, tg8, c14, h⟩ := h
  refine Runs.cl (cm := 211) (as := [.int v1]) (rest := []) (r1 := ((some (.int v5)), (zS I6 J7 tg8))) rfl (Nat.le_of_ble_eq_true rfl) c14 ?_
  refine Runs.as (c' := (172, [.ref 93, .int x1, vU], [.int v5], (zS I6 J7 tg8))) rfl ?_
  by_cases c15 : v5 = 0
  · rw [if_pos c15] at h
    refine Runs.brT (P := v5 = 0) (a := 223) (b := 175) (L := [.ref 93, .int x1, vU]) (S := []) (z := (zS I6 J7 tg8)) rfl c15 ?_
    refine Runs.sN 6 (c' := (234, [.ref 93, .int x1, vU], [.int 7, .int ((I6 93 13) - (I6 93 14))], (zS I6 J7 tg8))) rfl ?_
    by_cases c16 : ((I6 93 13) - (I6 93 14)) ≤ 7
    · rw [if_pos c16] at h
      refine Runs.brT (P := ((I6 93 13) - (I6 93 14)) ≤ 7) (a := 384) (b := 237) (L := [.ref 93, .int x1, vU]) (S := []) (z := (zS I6 J7 tg8)) rfl c16 ?_
      subst h
      exact Runs.rt rfl
    · rw [if_neg c16] at h
      refine Runs.brF (P := ((I6 93 13) - (I6 93 14)) ≤ 7) (a := 384) (b := 237) (L := [.ref 93, .int x1, vU]) (S := []) (z := (zS I6 J7 tg8)) rfl c16 ?_
      refine Runs.sN 4 (c' := (384, [.ref 93, .int x1, vU], [], (zS I6 (up2 J7 93 17 0) tg8))) rfl ?_
      subst h
      exact Runs.rt rfl
  · rw [if_neg c15] at h
    refine Runs.brF (P := v5 = 0) (a := 223) (b := 175) (L := [.ref 93, .int x1, vU]) (S := []) (z := (zS I6 J7 tg8)) rfl c15 ?_
    refine Runs.sN 6 (c' := (186, [.ref 93, .int x1, vU], [.int 7, .int ((I6 93 13) - (I6 93 14))], (zS I6 J7 tg8))) rfl ?_
    by_cases c17 : 7 ≤ ((I6 93 13) - (I6 93 14))
    · rw [if_pos c17] at h
      refine Runs.brT (P := 7 ≤ ((I6 93 13) - (I6 93 14))) (a := 210) (b := 189) (L := [.ref 93, .int x1, vU]) (S := []) (z := (zS I6 J7 tg8)) rfl c17 ?_
      exact h
    · rw [if_neg c17] at h
      refine Runs.brF (P := 7 ≤ ((I6 93 13) - (I6 93 14))) (a := 210) (b := 189) (L := [.ref 93, .int x1, vU]) (S := []) (z := (zS I6 J7 tg8)) rfl c17 ?_
      refine Runs.sN 8 (c' := (202, [.ref 93, .int x1, vU], [.int (I6 93 13), .ref 93, .long ((J7 93 17) <<< (Int32.toInt64 8 &&& 63)), .ref 93], (zS I6 J7 tg8))) rfl ?_
      obtain ⟨v9, I10, J11, tg12, c18, h⟩ := h
      refine Runs.cl (cm := 210) (as := [.ref 93, .int (I6 93 13)]) (rest := [.long ((J7 93 17) <<< (Int32.toInt64 8 &&& 63)), .ref 93]) (r1 := ((some (.int v9)), (zS I10 J11 tg12))) rfl (Nat.le_of_ble_eq_true rfl) c18 ?_
      refine Runs.as (c' := (205, [.ref 93, .int x1, vU], [.int v9, .long ((J7 93 17) <<< (Int32.toInt64 8 &&& 63)), .ref 93], (zS I10 J11 tg12))) rfl ?_
      refine Runs.sN 3 (c' := (210, [.ref 93, .int x1, vU], [], (zS I10 (up2 J11 93 17 (((J7 93 17) <<< (Int32.toInt64 8 &&& 63)) ||| (Int32.toInt64 v9))) tg12))) rfl ?_
      exact h
theorem sg_213_210 {L d : Nat} {xs : Nat → Int32} (I : Nat → Nat → Int32) (J : Nat → Nat → Int64) (tg : Option Nat) (x1 : Int32) {r : Option Value × SS} (h : (Runs (GW L xs) (d + 1) 213 (161, [.ref 93, .int x1, vU], [], (zS (up2 I 93 13 ((I 93 13) + 1)) J tg)) r)) : Runs (GW L xs) (d + 1) 213 (210, [.ref 93, .int x1, vU], [], (zS I J tg)) r := by
  refine Runs.sN 7 (c' := (161, [.ref 93, .int x1, vU], [], (zS (up2 I 93 13 ((I 93 13) + 1)) J tg))) rfl ?_
  exact h
theorem sg_213_315 {L d : Nat} {xs : Nat → Int32} (I : Nat → Nat → Int32) (J : Nat → Nat → Int64) (tg : Option Nat) (x1 : Int32) {r : Option Value × SS} (h : (Runs (GW L xs) (d + 1) 213 (320, [.ref 93, .int x1, vU], [.int 1], (zS I J tg)) r)) : Runs (GW L xs) (d + 1) 213 (315, [.ref 93, .int x1, vU], [], (zS I J tg)) r := by
  refine Runs.sN 2 (c' := (320, [.ref 93, .int x1, vU], [.int 1], (zS I J tg))) rfl ?_
  exact h
theorem sg_213_320 {L d : Nat} {xs : Nat → Int32} (I : Nat → Nat → Int32) (J : Nat → Nat → Int64) (tg : Option Nat) (x1 : Int32) (y0 : Int32) {r : Option Value × SS} (h : ((if y0 = 0 then (Runs (GW L xs) (d + 1) 213 (331, [.ref 93, .int x1, .int y0], [.int 3, .ref 93], (zS I J tg)) r) else (Runs (GW L xs) (d + 1) 213 (331, [.ref 93, .int x1, .int y0], [.int x1, .ref 93], (zS I J tg)) r)))) : Runs (GW L xs) (d + 1) 213 (320, [.ref 93, .int x1, vU], [.int y0], (zS I J tg)) r := by
  refine Runs.sN 3 (c' := (323, [.ref 93, .int x1, .int y0], [.int y0, .ref 93], (zS I J tg))) rfl ?_
  by_cases c1 : y0 = 0
  · rw [if_pos c1] at h
    refine Runs.brT (P := y0 = 0) (a := 330) (b := 326) (L := [.ref 93, .int x1, .int y0]) (S := [.ref 93]) (z := (zS I J tg)) rfl c1 ?_
    refine Runs.sN 1 (c' := (331, [.ref 93, .int x1, .int y0], [.int 3, .ref 93], (zS I J tg))) rfl ?_
    exact h
  · rw [if_neg c1] at h
    refine Runs.brF (P := y0 = 0) (a := 330) (b := 326) (L := [.ref 93, .int x1, .int y0]) (S := [.ref 93]) (z := (zS I J tg)) rfl c1 ?_
    refine Runs.sN 2 (c' := (331, [.ref 93, .int x1, .int y0], [.int x1, .ref 93], (zS I J tg))) rfl ?_
    exact h
theorem sg_213_331 {L d : Nat} {xs : Nat → Int32} (I : Nat → Nat → Int32) (J : Nat → Nat → Int64) (tg : Option Nat) (x1 : Int32) (x2 : Int32) (y1 : Int32) {r : Option Value × SS} (h : ((if x1 = 60 then (Runs (GW L xs) (d + 1) 213 (346, [.ref 93, .int x1, .int x2], [], (zS (up2 I 93 15 y1) J tg)) r) else ((if x1 = 62 then (Runs (GW L xs) (d + 1) 213 (346, [.ref 93, .int x1, .int x2], [], (zS (up2 I 93 15 y1) J tg)) r) else (r = (none, (zS (up2 I 93 15 y1) J tg)))))))) : Runs (GW L xs) (d + 1) 213 (331, [.ref 93, .int x1, .int x2], [.int y1, .ref 93], (zS I J tg)) r := by
  refine Runs.sN 3 (c' := (337, [.ref 93, .int x1, .int x2], [.int 60, .int x1], (zS (up2 I 93 15 y1) J tg))) rfl ?_
  by_cases c1 : x1 = 60
  · rw [if_pos c1] at h
    refine Runs.brT (P := x1 = 60) (a := 346) (b := 340) (L := [.ref 93, .int x1, .int x2]) (S := []) (z := (zS (up2 I 93 15 y1) J tg)) rfl c1 ?_
    exact h
  · rw [if_neg c1] at h
    refine Runs.brF (P := x1 = 60) (a := 346) (b := 340) (L := [.ref 93, .int x1, .int x2]) (S := []) (z := (zS (up2 I 93 15 y1) J tg)) rfl c1 ?_
    refine Runs.sN 2 (c' := (343, [.ref 93, .int x1, .int x2], [.int 62, .int x1], (zS (up2 I 93 15 y1) J tg))) rfl ?_
    by_cases c2 : x1 = 62
    · rw [if_pos c2] at h
      refine Runs.brT (P := x1 = 62) (a := 346) (b := 384) (L := [.ref 93, .int x1, .int x2]) (S := []) (z := (zS (up2 I 93 15 y1) J tg)) rfl c2 ?_
      exact h
    · rw [if_neg c2] at h
      refine Runs.brF (P := x1 = 62) (a := 346) (b := 384) (L := [.ref 93, .int x1, .int x2]) (S := []) (z := (zS (up2 I 93 15 y1) J tg)) rfl c2 ?_
      subst h
      exact Runs.rt rfl
theorem sg_213_346 {L d : Nat} {xs : Nat → Int32} (I : Nat → Nat → Int32) (J : Nat → Nat → Int64) (tg : Option Nat) (x1 : Int32) (x2 : Int32) {r : Option Value × SS} (h : (∃ (v1 : Int32) (I2 : Nat → Nat → Int32) (J3 : Nat → Nat → Int64) (tg4 : Option Nat), Runs (GW L xs) d 210 (0, [.ref 93, .int (I 93 13)], [], (zS I J tg)) ((some (.int v1)), (zS I2 J3 tg4)) ∧ (if v1 = 61 then ((if x1 = 60 then (r = (none, (zS (up2 (up2 I2 93 13 ((I2 93 13) + 1)) 93 15 4) J3 tg4))) else (r = (none, (zS (up2 (up2 I2 93 13 ((I2 93 13) + 1)) 93 15 5) J3 tg4))))) else (r = (none, (zS I2 J3 tg4)))))) : Runs (GW L xs) (d + 1) 213 (346, [.ref 93, .int x1, .int x2], [], (zS I J tg)) r := by
  refine Runs.sN 3 (c' := (351, [.ref 93, .int x1, .int x2], [.int (I 93 13), .ref 93], (zS I J tg))) rfl ?_
  obtain ⟨v1, I2, J3, tg4, c5, h⟩ := h
  refine Runs.cl (cm := 210) (as := [.ref 93, .int (I 93 13)]) (rest := []) (r1 := ((some (.int v1)), (zS I2 J3 tg4))) rfl (Nat.le_of_ble_eq_true rfl) c5 ?_
  refine Runs.as (c' := (354, [.ref 93, .int x1, .int x2], [.int v1], (zS I2 J3 tg4))) rfl ?_
  refine Runs.sN 1 (c' := (356, [.ref 93, .int x1, .int x2], [.int 61, .int v1], (zS I2 J3 tg4))) rfl ?_
  by_cases c6 : v1 = 61
  · rw [if_pos c6] at h
    refine Runs.brT (P := v1 = 61) (a := 359) (b := 384) (L := [.ref 93, .int x1, .int x2]) (S := []) (z := (zS I2 J3 tg4)) rfl c6 ?_
    refine Runs.sN 9 (c' := (373, [.ref 93, .int x1, .int x2], [.int 60, .int x1, .ref 93], (zS (up2 I2 93 13 ((I2 93 13) + 1)) J3 tg4))) rfl ?_
    by_cases c7 : x1 = 60
    · rw [if_pos c7] at h
      refine Runs.brT (P := x1 = 60) (a := 376) (b := 380) (L := [.ref 93, .int x1, .int x2]) (S := [.ref 93]) (z := (zS (up2 I2 93 13 ((I2 93 13) + 1)) J3 tg4)) rfl c7 ?_
      refine Runs.sN 3 (c' := (384, [.ref 93, .int x1, .int x2], [], (zS (up2 (up2 I2 93 13 ((I2 93 13) + 1)) 93 15 4) J3 tg4))) rfl ?_
      subst h
      exact Runs.rt rfl
    · rw [if_neg c7] at h
      refine Runs.brF (P := x1 = 60) (a := 376) (b := 380) (L := [.ref 93, .int x1, .int x2]) (S := [.ref 93]) (z := (zS (up2 I2 93 13 ((I2 93 13) + 1)) J3 tg4)) rfl c7 ?_
      refine Runs.sN 2 (c' := (384, [.ref 93, .int x1, .int x2], [], (zS (up2 (up2 I2 93 13 ((I2 93 13) + 1)) 93 15 5) J3 tg4))) rfl ?_
      subst h
      exact Runs.rt rfl
  · rw [if_neg c6] at h
    refine Runs.brF (P := v1 = 61) (a := 359) (b := 384) (L := [.ref 93, .int x1, .int x2]) (S := []) (z := (zS I2 J3 tg4)) rfl c6 ?_
    subst h
    exact Runs.rt rfl
-- X12_w3 
theorem sg_214 {L d : Nat} {xs : Nat → Int32} (I : Nat → Nat → Int32) (J : Nat → Nat → Int64) (tg : Option Nat) (a1 : Int32) (a2 : Int32) (a3 : Int32) {r : Option Value × SS} (h : (r = (some (.long (((((Int32.toInt64 a1) <<< (Int32.toInt64 8 &&& 63)) ||| (Int32.toInt64 a2)) <<< (Int32.toInt64 8 &&& 63)) ||| (Int32.toInt64 a3))), (zS I J tg)))) : Runs (GW L xs) d 214 (0, [.int a1, .int a2, .int a3], [], (zS I J tg)) r := by
  refine Runs.sN 12 (c' := (14, [.int a1, .int a2, .int a3], [.long (((((Int32.toInt64 a1) <<< (Int32.toInt64 8 &&& 63)) ||| (Int32.toInt64 a2)) <<< (Int32.toInt64 8 &&& 63)) ||| (Int32.toInt64 a3))], (zS I J tg))) rfl ?_
  subst h
  exact Runs.rt rfl
-- X12_w5 
theorem sg_215 {L d : Nat} {xs : Nat → Int32} (I : Nat → Nat → Int32) (J : Nat → Nat → Int64) (tg : Option Nat) (a1 : Int32) (a2 : Int32) (a3 : Int32) (a4 : Int32) (a5 : Int32) {r : Option Value × SS} (h : (∃ (v5 : Int64) (I6 : Nat → Nat → Int32) (J7 : Nat → Nat → Int64) (tg8 : Option Nat), Runs (GW L xs) d 214 (0, [.int a1, .int a2, .int a3], [], (zS I J tg)) ((some (.long v5)), (zS I6 J7 tg8)) ∧ r = (some (.long ((((v5 <<< (Int32.toInt64 8 &&& 63)) ||| (Int32.toInt64 a4)) <<< (Int32.toInt64 8 &&& 63)) ||| (Int32.toInt64 a5))), (zS I6 J7 tg8)))) : Runs (GW L xs) (d + 1) 215 (0, [.int a1, .int a2, .int a3, .int a4, .int a5], [], (zS I J tg)) r := by
  refine Runs.sN 3 (c' := (3, [.int a1, .int a2, .int a3, .int a4, .int a5], [.int a3, .int a2, .int a1], (zS I J tg))) rfl ?_
  obtain ⟨v5, I6, J7, tg8, c9, h⟩ := h
  refine Runs.cl (cm := 214) (as := [.int a1, .int a2, .int a3]) (rest := []) (r1 := ((some (.long v5)), (zS I6 J7 tg8))) rfl (Nat.le_of_ble_eq_true rfl) c9 ?_
  refine Runs.as (c' := (6, [.int a1, .int a2, .int a3, .int a4, .int a5], [.long v5], (zS I6 J7 tg8))) rfl ?_
  refine Runs.sN 10 (c' := (19, [.int a1, .int a2, .int a3, .int a4, .int a5], [.long ((((v5 <<< (Int32.toInt64 8 &&& 63)) ||| (Int32.toInt64 a4)) <<< (Int32.toInt64 8 &&& 63)) ||| (Int32.toInt64 a5))], (zS I6 J7 tg8))) rfl ?_
  subst h
  exact Runs.rt rfl
-- X12_w4 
theorem sg_216 {L d : Nat} {xs : Nat → Int32} (I : Nat → Nat → Int32) (J : Nat → Nat → Int64) (tg : Option Nat) (a1 : Int32) (a2 : Int32) (a3 : Int32) (a4 : Int32) {r : Option Value × SS} (h : (∃ (v5 : Int64) (I6 : Nat → Nat → Int32) (J7 : Nat → Nat → Int64) (tg8 : Option Nat), Runs (GW L xs) d 214 (0, [.int a1, .int a2, .int a3], [], (zS I J tg)) ((some (.long v5)), (zS I6 J7 tg8)) ∧ r = (some (.long ((v5 <<< (Int32.toInt64 8 &&& 63)) ||| (Int32.toInt64 a4))), (zS I6 J7 tg8)))) : Runs (GW L xs) (d + 1) 216 (0, [.int a1, .int a2, .int a3, .int a4], [], (zS I J tg)) r := by
  refine Runs.sN 3 (c' := (3, [.int a1, .int a2, .int a3, .int a4], [.int a3, .int a2, .int a1], (zS I J tg))) rfl ?_
  obtain ⟨v5, I6, J7, tg8, c9, h⟩ := h
  refine Runs.cl (cm := 214) (as := [.int a1, .int a2, .int a3]) (rest := []) (r1 := ((some (.long v5)), (zS I6 J7 tg8))) rfl (Nat.le_of_ble_eq_true rfl) c9 ?_
  refine Runs.as (c' := (6, [.int a1, .int a2, .int a3, .int a4], [.long v5], (zS I6 J7 tg8))) rfl ?_
  refine Runs.sN 5 (c' := (12, [.int a1, .int a2, .int a3, .int a4], [.long ((v5 <<< (Int32.toInt64 8 &&& 63)) ||| (Int32.toInt64 a4))], (zS I6 J7 tg8))) rfl ?_
  subst h
  exact Runs.rt rfl
-- X12_w6 
theorem sg_217 {L d : Nat} {xs : Nat → Int32} (I : Nat → Nat → Int32) (J : Nat → Nat → Int64) (tg : Option Nat) (a1 : Int32) (a2 : Int32) (a3 : Int32) (a4 : Int32) (a5 : Int32) (a6 : Int32) {r : Option Value × SS} (h : (∃ (v5 : Int64) (I6 : Nat → Nat → Int32) (J7 : Nat → Nat → Int64) (tg8 : Option Nat), Runs (GW L xs) d 215 (0, [.int a1, .int a2, .int a3, .int a4, .int a5], [], (zS I J tg)) ((some (.long v5)), (zS I6 J7 tg8)) ∧ r = (some (.long ((v5 <<< (Int32.toInt64 8 &&& 63)) ||| (Int32.toInt64 a6))), (zS I6 J7 tg8)))) : Runs (GW L xs) (d + 1) 217 (0, [.int a1, .int a2, .int a3, .int a4, .int a5, .int a6], [], (zS I J tg)) r := by
  refine Runs.sN 5 (c' := (6, [.int a1, .int a2, .int a3, .int a4, .int a5, .int a6], [.int a5, .int a4, .int a3, .int a2, .int a1], (zS I J tg))) rfl ?_
  obtain ⟨v5, I6, J7, tg8, c9, h⟩ := h
  refine Runs.cl (cm := 215) (as := [.int a1, .int a2, .int a3, .int a4, .int a5]) (rest := []) (r1 := ((some (.long v5)), (zS I6 J7 tg8))) rfl (Nat.le_of_ble_eq_true rfl) c9 ?_
  refine Runs.as (c' := (9, [.int a1, .int a2, .int a3, .int a4, .int a5, .int a6], [.long v5], (zS I6 J7 tg8))) rfl ?_
  refine Runs.sN 5 (c' := (16, [.int a1, .int a2, .int a3, .int a4, .int a5, .int a6], [.long ((v5 <<< (Int32.toInt64 8 &&& 63)) ||| (Int32.toInt64 a6))], (zS I6 J7 tg8))) rfl ?_
  subst h
  exact Runs.rt rfl
-- X12_isWord 
theorem sg_218 {L d : Nat} {xs : Nat → Int32} (I : Nat → Nat → Int32) (J : Nat → Nat → Int64) (tg : Option Nat) (a1 : Int64) {r : Option Value × SS} (h : ((if (I 93 15) = 2 then ((if (lg_cmp (J 93 17) a1) = 0 then (r = (some (.int 1), (zS I J tg))) else (r = (some (.int 0), (zS I J tg))))) else (r = (some (.int 0), (zS I J tg)))))) : Runs (GW L xs) d 218 (0, [.ref 93, .long a1, vU], [], (zS I J tg)) r := by
  refine Runs.sN 3 (c' := (5, [.ref 93, .long a1, vU], [.int 2, .int (I 93 15)], (zS I J tg))) rfl ?_
  by_cases c1 : (I 93 15) = 2
  · rw [if_pos c1] at h
    refine Runs.brT (P := (I 93 15) = 2) (a := 8) (b := 21) (L := [.ref 93, .long a1, vU]) (S := []) (z := (zS I J tg)) rfl c1 ?_
    refine Runs.sN 4 (c' := (14, [.ref 93, .long a1, vU], [.int (lg_cmp (J 93 17) a1)], (zS I J tg))) rfl ?_
    by_cases c2 : (lg_cmp (J 93 17) a1) = 0
    · rw [if_pos c2] at h
      refine Runs.brT (P := (lg_cmp (J 93 17) a1) = 0) (a := 17) (b := 21) (L := [.ref 93, .long a1, vU]) (S := []) (z := (zS I J tg)) rfl c2 ?_
      refine Runs.sN 2 (c' := (22, [.ref 93, .long a1, vU], [.int 1], (zS I J tg))) rfl ?_
      subst h
      exact Runs.rt rfl
    · rw [if_neg c2] at h
      refine Runs.brF (P := (lg_cmp (J 93 17) a1) = 0) (a := 17) (b := 21) (L := [.ref 93, .long a1, vU]) (S := []) (z := (zS I J tg)) rfl c2 ?_
      refine Runs.sN 1 (c' := (22, [.ref 93, .long a1, vU], [.int 0], (zS I J tg))) rfl ?_
      subst h
      exact Runs.rt rfl
  · rw [if_neg c1] at h
    refine Runs.brF (P := (I 93 15) = 2) (a := 8) (b := 21) (L := [.ref 93, .long a1, vU]) (S := []) (z := (zS I J tg)) rfl c1 ?_
    refine Runs.sN 1 (c' := (22, [.ref 93, .long a1, vU], [.int 0], (zS I J tg))) rfl ?_
    subst h
    exact Runs.rt rfl
-- X12_emit 
theorem sg_219 {L d : Nat} {xs : Nat → Int32} (I : Nat → Nat → Int32) (J : Nat → Nat → Int64) (tg : Option Nat) (a1 : Int32) (a2 : Int32) {r : Option Value × SS} (h : (¬ ((((I 93 18) + 50) + (2 * (I 93 20))) < 0 ∨ 3200 ≤ (((I 93 18) + 50) + (2 * (I 93 20))).toNatClampNeg) ∧ ¬ (((((I 93 18) + 50) + (2 * (I 93 20))) + 1) < 0 ∨ 3200 ≤ ((((I 93 18) + 50) + (2 * (I 93 20))) + 1).toNatClampNeg) ∧ r = (none, (zS (up2 (up2 (up2 I 96 ((((I 93 18) + 50) + (2 * (I 93 20))).toNatClampNeg) a1) 96 (((((I 93 18) + 50) + (2 * (I 93 20))) + 1).toNatClampNeg) a2) 93 20 ((I 93 20) + 1)) J tg)))) : Runs (GW L xs) d 219 (0, [.ref 93, .int a1, .int a2], [], (zS I J tg)) r := by
  refine Runs.sN 12 (c' := (19, [.ref 93, .int a1, .int a2], [.int a1, .int (((I 93 18) + 50) + (2 * (I 93 20))), .ref 96], (zS I J tg))) rfl ?_
  obtain ⟨c1, h⟩ := h
  refine Runs.to (c' := (20, [.ref 93, .int a1, .int a2], [], (zS (up2 I 96 ((((I 93 18) + 50) + (2 * (I 93 20))).toNatClampNeg) a1) J tg))) (Runs.ist rfl (show (96 : Nat) < 114 by decide) rfl c1) ?_
  refine Runs.sN 14 (c' := (41, [.ref 93, .int a1, .int a2], [.int a2, .int ((((I 93 18) + 50) + (2 * (I 93 20))) + 1), .ref 96], (zS (up2 I 96 ((((I 93 18) + 50) + (2 * (I 93 20))).toNatClampNeg) a1) J tg))) rfl ?_
  obtain ⟨c2, h⟩ := h
  refine Runs.to (c' := (42, [.ref 93, .int a1, .int a2], [], (zS (up2 (up2 I 96 ((((I 93 18) + 50) + (2 * (I 93 20))).toNatClampNeg) a1) 96 (((((I 93 18) + 50) + (2 * (I 93 20))) + 1).toNatClampNeg) a2) J tg))) (Runs.ist rfl (show (96 : Nat) < 114 by decide) rfl c2) ?_
  refine Runs.sN 6 (c' := (52, [.ref 93, .int a1, .int a2], [], (zS (up2 (up2 (up2 I 96 ((((I 93 18) + 50) + (2 * (I 93 20))).toNatClampNeg) a1) 96 (((((I 93 18) + 50) + (2 * (I 93 20))) + 1).toNatClampNeg) a2) 93 20 ((I 93 20) + 1)) J tg))) rfl ?_
  subst h
  exact Runs.rt rfl
