-- X12_takenOf 
theorem sg_204 {L d : Nat} {xs : Nat → Int32} (I : Nat → Nat → Int32) (J : Nat → Nat → Int64) (tg : Option Nat) (a1 : Int32) (a2 : Int32) (a3 : Int32) {r : Option Value × SS} (h : (Runs (GW L xs) d 204 (9, [.ref 93, .int a1, .int a2, .int a3, .int (-1), .int 0, .int 0, vU, vU], [], (zS I J tg)) r)) : Runs (GW L xs) d 204 (0, [.ref 93, .int a1, .int a2, .int a3, vU, vU, vU, vU, vU], [], (zS I J tg)) r := by
  refine Runs.sN 6 (c' := (9, [.ref 93, .int a1, .int a2, .int a3, .int (-1), .int 0, .int 0, vU, vU], [], (zS I J tg))) rfl ?_
  exact h
theorem sg_204_9 {L d : Nat} {xs : Nat → Int32} (I : Nat → Nat → Int32) (J : Nat → Nat → Int64) (tg : Option Nat) (x1 : Int32) (x2 : Int32) (x3 : Int32) (x4 : Int32) (x5 : Int32) (x6 : Int32) {r : Option Value × SS} (h : ((if (I 94 2) ≤ x6 then ((if x4 < 0 then (r = (some (.int (-1)), (zS I J tg))) else ((if x5 ≤ (I 94 12) then (r = (some (.int (12 + x4)), (zS I J tg))) else (r = (some (.int (-1)), (zS I J tg))))))) else ((if ((x1 >>> (x6 &&& 31)) &&& 1) = 0 then (Runs (GW L xs) d 204 (9, [.ref 93, .int x1, .int x2, .int x3, .int x4, .int x5, .int (x6 + 1), vU, vU], [], (zS I J tg)) r) else (¬ ((780 + x6) < 0 ∨ 1200 ≤ (780 + x6).toNatClampNeg) ∧ ¬ (x6 < 0 ∨ 12 ≤ (x6).toNatClampNeg) ∧ (if (I 94 ((780 + x6).toNatClampNeg)) ≤ 0 then ((if x4 < 0 then (Runs (GW L xs) d 204 (9, [.ref 93, .int x1, .int x2, .int x3, .int x6, .int ((I 99 ((x6).toNatClampNeg)) - 0), .int (x6 + 1), vU, vU], [], (zS I J tg)) r) else ((if ((I 99 ((x6).toNatClampNeg)) - 0) < x5 then (Runs (GW L xs) d 204 (9, [.ref 93, .int x1, .int x2, .int x3, .int x6, .int ((I 99 ((x6).toNatClampNeg)) - 0), .int (x6 + 1), vU, vU], [], (zS I J tg)) r) else (Runs (GW L xs) d 204 (9, [.ref 93, .int x1, .int x2, .int x3, .int x4, .int x5, .int (x6 + 1), vU, vU], [], (zS I J tg)) r))))) else ((if (I 94 ((780 + x6).toNatClampNeg)) = x2 then ((if x4 < 0 then (Runs (GW L xs) d 204 (9, [.ref 93, .int x1, .int x2, .int x3, .int x6, .int ((I 99 ((x6).toNatClampNeg)) - (I 94 13)), .int (x6 + 1), vU, vU], [], (zS I J tg)) r) else ((if ((I 99 ((x6).toNatClampNeg)) - (I 94 13)) < x5 then (Runs (GW L xs) d 204 (9, [.ref 93, .int x1, .int x2, .int x3, .int x6, .int ((I 99 ((x6).toNatClampNeg)) - (I 94 13)), .int (x6 + 1), vU, vU], [], (zS I J tg)) r) else (Runs (GW L xs) d 204 (9, [.ref 93, .int x1, .int x2, .int x3, .int x4, .int x5, .int (x6 + 1), vU, vU], [], (zS I J tg)) r))))) else ((if (I 94 ((780 + x6).toNatClampNeg)) = x3 then ((if x4 < 0 then (Runs (GW L xs) d 204 (9, [.ref 93, .int x1, .int x2, .int x3, .int x6, .int ((I 99 ((x6).toNatClampNeg)) - (I 94 13)), .int (x6 + 1), vU, vU], [], (zS I J tg)) r) else ((if ((I 99 ((x6).toNatClampNeg)) - (I 94 13)) < x5 then (Runs (GW L xs) d 204 (9, [.ref 93, .int x1, .int x2, .int x3, .int x6, .int ((I 99 ((x6).toNatClampNeg)) - (I 94 13)), .int (x6 + 1), vU, vU], [], (zS I J tg)) r) else (Runs (GW L xs) d 204 (9, [.ref 93, .int x1, .int x2, .int x3, .int x4, .int x5, .int (x6 + 1), vU, vU], [], (zS I J tg)) r))))) else ((if x4 < 0 then (Runs (GW L xs) d 204 (9, [.ref 93, .int x1, .int x2, .int x3, .int x6, .int ((I 99 ((x6).toNatClampNeg)) - 0), .int (x6 + 1), vU, vU], [], (zS I J tg)) r) else ((if ((I 99 ((x6).toNatClampNeg)) - 0) < x5 then (Runs (GW L xs) d 204 (9, [.ref 93, .int x1, .int x2, .int x3, .int x6, .int ((I 99 ((x6).toNatClampNeg)) - 0), .int (x6 + 1), vU, vU], [], (zS I J tg)) r) else (Runs (GW L xs) d 204 (9, [.ref 93, .int x1, .int x2, .int x3, .int x4, .int x5, .int (x6 + 1), vU, vU], [], (zS I J tg)) r)))))))))))))))) : Runs (GW L xs) d 204 (9, [.ref 93, .int x1, .int x2, .int x3, .int x4, .int x5, .int x6, vU, vU], [], (zS I J tg)) r := by
  refine Runs.sN 5 (c' := (17, [.ref 93, .int x1, .int x2, .int x3, .int x4, .int x5, .int x6, vU, vU], [.int (I 94 2), .int x6], (zS I J tg))) rfl ?_
  by_cases c1 : (I 94 2) ≤ x6
  · rw [if_pos c1] at h
    refine Runs.brT (P := (I 94 2) ≤ x6) (a := 112) (b := 20) (L := [.ref 93, .int x1, .int x2, .int x3, .int x4, .int x5, .int x6, vU, vU]) (S := []) (z := (zS I J tg)) rfl c1 ?_
    refine Runs.sN 1 (c' := (114, [.ref 93, .int x1, .int x2, .int x3, .int x4, .int x5, .int x6, vU, vU], [.int x4], (zS I J tg))) rfl ?_
    by_cases c2 : x4 < 0
    · rw [if_pos c2] at h
      refine Runs.brT (P := x4 < 0) (a := 129) (b := 117) (L := [.ref 93, .int x1, .int x2, .int x3, .int x4, .int x5, .int x6, vU, vU]) (S := []) (z := (zS I J tg)) rfl c2 ?_
      refine Runs.sN 2 (c' := (138, [.ref 93, .int x1, .int x2, .int x3, .int x4, .int x5, .int x6, vU, vU], [.int (-1)], (zS I J tg))) rfl ?_
      subst h
      exact Runs.rt rfl
    · rw [if_neg c2] at h
      refine Runs.brF (P := x4 < 0) (a := 129) (b := 117) (L := [.ref 93, .int x1, .int x2, .int x3, .int x4, .int x5, .int x6, vU, vU]) (S := []) (z := (zS I J tg)) rfl c2 ?_
      refine Runs.sN 5 (c' := (126, [.ref 93, .int x1, .int x2, .int x3, .int x4, .int x5, .int x6, vU, vU], [.int (I 94 12), .int x5], (zS I J tg))) rfl ?_
      by_cases c3 : x5 ≤ (I 94 12)
      · rw [if_pos c3] at h
        refine Runs.brT (P := x5 ≤ (I 94 12)) (a := 133) (b := 129) (L := [.ref 93, .int x1, .int x2, .int x3, .int x4, .int x5, .int x6, vU, vU]) (S := []) (z := (zS I J tg)) rfl c3 ?_
        refine Runs.sN 3 (c' := (138, [.ref 93, .int x1, .int x2, .int x3, .int x4, .int x5, .int x6, vU, vU], [.int (12 + x4)], (zS I J tg))) rfl ?_
        subst h
        exact Runs.rt rfl
      · rw [if_neg c3] at h
        refine Runs.brF (P := x5 ≤ (I 94 12)) (a := 133) (b := 129) (L := [.ref 93, .int x1, .int x2, .int x3, .int x4, .int x5, .int x6, vU, vU]) (S := []) (z := (zS I J tg)) rfl c3 ?_
        refine Runs.sN 2 (c' := (138, [.ref 93, .int x1, .int x2, .int x3, .int x4, .int x5, .int x6, vU, vU], [.int (-1)], (zS I J tg))) rfl ?_
        subst h
        exact Runs.rt rfl
  · rw [if_neg c1] at h
    refine Runs.brF (P := (I 94 2) ≤ x6) (a := 112) (b := 20) (L := [.ref 93, .int x1, .int x2, .int x3, .int x4, .int x5, .int x6, vU, vU]) (S := []) (z := (zS I J tg)) rfl c1 ?_
    refine Runs.sN 5 (c' := (26, [.ref 93, .int x1, .int x2, .int x3, .int x4, .int x5, .int x6, vU, vU], [.int ((x1 >>> (x6 &&& 31)) &&& 1)], (zS I J tg))) rfl ?_
    by_cases c4 : ((x1 >>> (x6 &&& 31)) &&& 1) = 0
    · rw [if_pos c4] at h
      refine Runs.brT (P := ((x1 >>> (x6 &&& 31)) &&& 1) = 0) (a := 29) (b := 32) (L := [.ref 93, .int x1, .int x2, .int x3, .int x4, .int x5, .int x6, vU, vU]) (S := []) (z := (zS I J tg)) rfl c4 ?_
      refine Runs.sN 3 (c' := (9, [.ref 93, .int x1, .int x2, .int x3, .int x4, .int x5, .int (x6 + 1), vU, vU], [], (zS I J tg))) rfl ?_
      exact h
    · rw [if_neg c4] at h
      refine Runs.brF (P := ((x1 >>> (x6 &&& 31)) &&& 1) = 0) (a := 29) (b := 32) (L := [.ref 93, .int x1, .int x2, .int x3, .int x4, .int x5, .int x6, vU, vU]) (S := []) (z := (zS I J tg)) rfl c4 ?_
      refine Runs.sN 5 (c' := (42, [.ref 93, .int x1, .int x2, .int x3, .int x4, .int x5, .int x6, vU, vU], [.int (780 + x6), .ref 94], (zS I J tg))) rfl ?_
      obtain ⟨c5, h⟩ := h
      refine Runs.to (c' := (43, [.ref 93, .int x1, .int x2, .int x3, .int x4, .int x5, .int x6, vU, vU], [.int (I 94 ((780 + x6).toNatClampNeg))], (zS I J tg))) (Runs.ild rfl (show (94 : Nat) < 114 by decide) rfl c5) ?_
      refine Runs.sN 4 (c' := (51, [.ref 93, .int x1, .int x2, .int x3, .int x4, .int x5, .int x6, .int (I 94 ((780 + x6).toNatClampNeg)), vU], [.int x6, .ref 99], (zS I J tg))) rfl ?_
      obtain ⟨c6, h⟩ := h
      refine Runs.to (c' := (52, [.ref 93, .int x1, .int x2, .int x3, .int x4, .int x5, .int x6, .int (I 94 ((780 + x6).toNatClampNeg)), vU], [.int (I 99 ((x6).toNatClampNeg))], (zS I J tg))) (Runs.ild rfl (show (99 : Nat) < 114 by decide) rfl c6) ?_
      refine Runs.sN 1 (c' := (54, [.ref 93, .int x1, .int x2, .int x3, .int x4, .int x5, .int x6, .int (I 94 ((780 + x6).toNatClampNeg)), vU], [.int (I 94 ((780 + x6).toNatClampNeg)), .int (I 99 ((x6).toNatClampNeg))], (zS I J tg))) rfl ?_
      by_cases c7 : (I 94 ((780 + x6).toNatClampNeg)) ≤ 0
      · rw [if_pos c7] at h
        refine Runs.brT (P := (I 94 ((780 + x6).toNatClampNeg)) ≤ 0) (a := 79) (b := 57) (L := [.ref 93, .int x1, .int x2, .int x3, .int x4, .int x5, .int x6, .int (I 94 ((780 + x6).toNatClampNeg)), vU]) (S := [.int (I 99 ((x6).toNatClampNeg))]) (z := (zS I J tg)) rfl c7 ?_
        refine Runs.sN 4 (c' := (85, [.ref 93, .int x1, .int x2, .int x3, .int x4, .int x5, .int x6, .int (I 94 ((780 + x6).toNatClampNeg)), .int ((I 99 ((x6).toNatClampNeg)) - 0)], [.int x4], (zS I J tg))) rfl ?_
        by_cases c8 : x4 < 0
        · rw [if_pos c8] at h
          refine Runs.brT (P := x4 < 0) (a := 98) (b := 88) (L := [.ref 93, .int x1, .int x2, .int x3, .int x4, .int x5, .int x6, .int (I 94 ((780 + x6).toNatClampNeg)), .int ((I 99 ((x6).toNatClampNeg)) - 0)]) (S := []) (z := (zS I J tg)) rfl c8 ?_
          refine Runs.sN 6 (c' := (9, [.ref 93, .int x1, .int x2, .int x3, .int x6, .int ((I 99 ((x6).toNatClampNeg)) - 0), .int (x6 + 1), .int (I 94 ((780 + x6).toNatClampNeg)), .int ((I 99 ((x6).toNatClampNeg)) - 0)], [], (zS I J tg))) rfl ?_
          exact Runs.weak (L := [.ref 93, .int x1, .int x2, .int x3, .int x6, .int ((I 99 ((x6).toNatClampNeg)) - 0), .int (x6 + 1), vU, vU]) (Lle.k (Lle.k (Lle.k (Lle.k (Lle.k (Lle.k (Lle.k (Lle.u (Lle.u Lle.n))))))))) h
        · rw [if_neg c8] at h
          refine Runs.brF (P := x4 < 0) (a := 98) (b := 88) (L := [.ref 93, .int x1, .int x2, .int x3, .int x4, .int x5, .int x6, .int (I 94 ((780 + x6).toNatClampNeg)), .int ((I 99 ((x6).toNatClampNeg)) - 0)]) (S := []) (z := (zS I J tg)) rfl c8 ?_
          refine Runs.sN 2 (c' := (92, [.ref 93, .int x1, .int x2, .int x3, .int x4, .int x5, .int x6, .int (I 94 ((780 + x6).toNatClampNeg)), .int ((I 99 ((x6).toNatClampNeg)) - 0)], [.int x5, .int ((I 99 ((x6).toNatClampNeg)) - 0)], (zS I J tg))) rfl ?_
          by_cases c9 : ((I 99 ((x6).toNatClampNeg)) - 0) < x5
          · rw [if_pos c9] at h
            refine Runs.brT (P := ((I 99 ((x6).toNatClampNeg)) - 0) < x5) (a := 98) (b := 95) (L := [.ref 93, .int x1, .int x2, .int x3, .int x4, .int x5, .int x6, .int (I 94 ((780 + x6).toNatClampNeg)), .int ((I 99 ((x6).toNatClampNeg)) - 0)]) (S := []) (z := (zS I J tg)) rfl c9 ?_
            refine Runs.sN 6 (c' := (9, [.ref 93, .int x1, .int x2, .int x3, .int x6, .int ((I 99 ((x6).toNatClampNeg)) - 0), .int (x6 + 1), .int (I 94 ((780 + x6).toNatClampNeg)), .int ((I 99 ((x6).toNatClampNeg)) - 0)], [], (zS I J tg))) rfl ?_
            exact Runs.weak (L := [.ref 93, .int x1, .int x2, .int x3, .int x6, .int ((I 99 ((x6).toNatClampNeg)) - 0), .int (x6 + 1), vU, vU]) (Lle.k (Lle.k (Lle.k (Lle.k (Lle.k (Lle.k (Lle.k (Lle.u (Lle.u Lle.n))))))))) h
          · rw [if_neg c9] at h
            refine Runs.brF (P := ((I 99 ((x6).toNatClampNeg)) - 0) < x5) (a := 98) (b := 95) (L := [.ref 93, .int x1, .int x2, .int x3, .int x4, .int x5, .int x6, .int (I 94 ((780 + x6).toNatClampNeg)), .int ((I 99 ((x6).toNatClampNeg)) - 0)]) (S := []) (z := (zS I J tg)) rfl c9 ?_
            refine Runs.sN 3 (c' := (9, [.ref 93, .int x1, .int x2, .int x3, .int x4, .int x5, .int (x6 + 1), .int (I 94 ((780 + x6).toNatClampNeg)), .int ((I 99 ((x6).toNatClampNeg)) - 0)], [], (zS I J tg))) rfl ?_
            exact Runs.weak (L := [.ref 93, .int x1, .int x2, .int x3, .int x4, .int x5, .int (x6 + 1), vU, vU]) (Lle.k (Lle.k (Lle.k (Lle.k (Lle.k (Lle.k (Lle.k (Lle.u (Lle.u Lle.n))))))))) h
      · rw [if_neg c7] at h
        refine Runs.brF (P := (I 94 ((780 + x6).toNatClampNeg)) ≤ 0) (a := 79) (b := 57) (L := [.ref 93, .int x1, .int x2, .int x3, .int x4, .int x5, .int x6, .int (I 94 ((780 + x6).toNatClampNeg)), vU]) (S := [.int (I 99 ((x6).toNatClampNeg))]) (z := (zS I J tg)) rfl c7 ?_
        refine Runs.sN 2 (c' := (60, [.ref 93, .int x1, .int x2, .int x3, .int x4, .int x5, .int x6, .int (I 94 ((780 + x6).toNatClampNeg)), vU], [.int x2, .int (I 94 ((780 + x6).toNatClampNeg)), .int (I 99 ((x6).toNatClampNeg))], (zS I J tg))) rfl ?_
        by_cases c10 : (I 94 ((780 + x6).toNatClampNeg)) = x2
        · rw [if_pos c10] at h
          refine Runs.brT (P := (I 94 ((780 + x6).toNatClampNeg)) = x2) (a := 69) (b := 63) (L := [.ref 93, .int x1, .int x2, .int x3, .int x4, .int x5, .int x6, .int (I 94 ((780 + x6).toNatClampNeg)), vU]) (S := [.int (I 99 ((x6).toNatClampNeg))]) (z := (zS I J tg)) rfl c10 ?_
          refine Runs.sN 8 (c' := (85, [.ref 93, .int x1, .int x2, .int x3, .int x4, .int x5, .int x6, .int (I 94 ((780 + x6).toNatClampNeg)), .int ((I 99 ((x6).toNatClampNeg)) - (I 94 13))], [.int x4], (zS I J tg))) rfl ?_
          by_cases c11 : x4 < 0
          · rw [if_pos c11] at h
            refine Runs.brT (P := x4 < 0) (a := 98) (b := 88) (L := [.ref 93, .int x1, .int x2, .int x3, .int x4, .int x5, .int x6, .int (I 94 ((780 + x6).toNatClampNeg)), .int ((I 99 ((x6).toNatClampNeg)) - (I 94 13))]) (S := []) (z := (zS I J tg)) rfl c11 ?_
            refine Runs.sN 6 (c' := (9, [.ref 93, .int x1, .int x2, .int x3, .int x6, .int ((I 99 ((x6).toNatClampNeg)) - (I 94 13)), .int (x6 + 1), .int (I 94 ((780 + x6).toNatClampNeg)), .int ((I 99 ((x6).toNatClampNeg)) - (I 94 13))], [], (zS I J tg))) rfl ?_
            exact Runs.weak (L := [.ref 93, .int x1, .int x2, .int x3, .int x6, .int ((I 99 ((x6).toNatClampNeg)) - (I 94 13)), .int (x6 + 1), vU, vU]) (Lle.k (Lle.k (Lle.k (Lle.k (Lle.k (Lle.k (Lle.k (Lle.u (Lle.u Lle.n))))))))) h
          · rw [if_neg c11] at h
            refine Runs.brF (P := x4 < 0) (a := 98) (b := 88) (L := [.ref 93, .int x1, .int x2, .int x3, .int x4, .int x5, .int x6, .int (I 94 ((780 + x6).toNatClampNeg)), .int ((I 99 ((x6).toNatClampNeg)) - (I 94 13))]) (S := []) (z := (zS I J tg)) rfl c11 ?_
            refine Runs.sN 2 (c' := (92, [.ref 93, .int x1, .int x2, .int x3, .int x4, .int x5, .int x6, .int (I 94 ((780 + x6).toNatClampNeg)), .int ((I 99 ((x6).toNatClampNeg)) - (I 94 13))], [.int x5, .int ((I 99 ((x6).toNatClampNeg)) - (I 94 13))], (zS I J tg))) rfl ?_
            by_cases c12 : ((I 99 ((x6).toNatClampNeg)) - (I 94 13)) < x5
            · rw [if_pos c12] at h
              refine Runs.brT (P := ((I 99 ((x6).toNatClampNeg)) - (I 94 13)) < x5) (a := 98) (b := 95) (L := [.ref 93, .int x1, .int x2, .int x3, .int x4, .int x5, .int x6, .int (I 94 ((780 + x6).toNatClampNeg)), .int ((I 99 ((x6).toNatClampNeg)) - (I 94 13))]) (S := []) (z := (zS I J tg)) rfl c12 ?_
              refine Runs.sN 6 (c' := (9, [.ref 93, .int x1, .int x2, .int x3, .int x6, .int ((I 99 ((x6).toNatClampNeg)) - (I 94 13)), .int (x6 + 1), .int (I 94 ((780 + x6).toNatClampNeg)), .int ((I 99 ((x6).toNatClampNeg)) - (I 94 13))], [], (zS I J tg))) rfl ?_
              exact Runs.weak (L := [.ref 93, .int x1, .int x2, .int x3, .int x6, .int ((I 99 ((x6).toNatClampNeg)) - (I 94 13)), .int (x6 + 1), vU, vU]) (Lle.k (Lle.k (Lle.k (Lle.k (Lle.k (Lle.k (Lle.k (Lle.u (Lle.u Lle.n))))))))) h
            · rw [if_neg c12] at h
              refine Runs.brF (P := ((I 99 ((x6).toNatClampNeg)) - (I 94 13)) < x5) (a := 98) (b := 95) (L := [.ref 93, .int x1, .int x2, .int x3, .int x4, .int x5, .int x6, .int (I 94 ((780 + x6).toNatClampNeg)), .int ((I 99 ((x6).toNatClampNeg)) - (I 94 13))]) (S := []) (z := (zS I J tg)) rfl c12 ?_
              refine Runs.sN 3 (c' := (9, [.ref 93, .int x1, .int x2, .int x3, .int x4, .int x5, .int (x6 + 1), .int (I 94 ((780 + x6).toNatClampNeg)), .int ((I 99 ((x6).toNatClampNeg)) - (I 94 13))], [], (zS I J tg))) rfl ?_
              exact Runs.weak (L := [.ref 93, .int x1, .int x2, .int x3, .int x4, .int x5, .int (x6 + 1), vU, vU]) (Lle.k (Lle.k (Lle.k (Lle.k (Lle.k (Lle.k (Lle.k (Lle.u (Lle.u Lle.n))))))))) h
        · rw [if_neg c10] at h
          refine Runs.brF (P := (I 94 ((780 + x6).toNatClampNeg)) = x2) (a := 69) (b := 63) (L := [.ref 93, .int x1, .int x2, .int x3, .int x4, .int x5, .int x6, .int (I 94 ((780 + x6).toNatClampNeg)), vU]) (S := [.int (I 99 ((x6).toNatClampNeg))]) (z := (zS I J tg)) rfl c10 ?_
          refine Runs.sN 2 (c' := (66, [.ref 93, .int x1, .int x2, .int x3, .int x4, .int x5, .int x6, .int (I 94 ((780 + x6).toNatClampNeg)), vU], [.int x3, .int (I 94 ((780 + x6).toNatClampNeg)), .int (I 99 ((x6).toNatClampNeg))], (zS I J tg))) rfl ?_
          by_cases c13 : (I 94 ((780 + x6).toNatClampNeg)) = x3
          · rw [if_pos c13] at h
            refine Runs.brT (P := (I 94 ((780 + x6).toNatClampNeg)) = x3) (a := 69) (b := 79) (L := [.ref 93, .int x1, .int x2, .int x3, .int x4, .int x5, .int x6, .int (I 94 ((780 + x6).toNatClampNeg)), vU]) (S := [.int (I 99 ((x6).toNatClampNeg))]) (z := (zS I J tg)) rfl c13 ?_
            refine Runs.sN 8 (c' := (85, [.ref 93, .int x1, .int x2, .int x3, .int x4, .int x5, .int x6, .int (I 94 ((780 + x6).toNatClampNeg)), .int ((I 99 ((x6).toNatClampNeg)) - (I 94 13))], [.int x4], (zS I J tg))) rfl ?_
            by_cases c14 : x4 < 0
            · rw [if_pos c14] at h
              refine Runs.brT (P := x4 < 0) (a := 98) (b := 88) (L := [.ref 93, .int x1, .int x2, .int x3, .int x4, .int x5, .int x6, .int (I 94 ((780 + x6).toNatClampNeg)), .int ((I 99 ((x6).toNatClampNeg)) - (I 94 13))]) (S := []) (z := (zS I J tg)) rfl c14 ?_
              refine Runs.sN 6 (c' := (9, [.ref 93, .int x1, .int x2, .int x3, .int x6, .int ((I 99 ((x6).toNatClampNeg)) - (I 94 13)), .int (x6 + 1), .int (I 94 ((780 + x6).toNatClampNeg)), .int ((I 99 ((x6).toNatClampNeg)) - (I 94 13))], [], (zS I J tg))) rfl ?_
              exact Runs.weak (L := [.ref 93, .int x1, .int x2, .int x3, .int x6, .int ((I 99 ((x6).toNatClampNeg)) - (I 94 13)), .int (x6 + 1), vU, vU]) (Lle.k (Lle.k (Lle.k (Lle.k (Lle.k (Lle.k (Lle.k (Lle.u (Lle.u Lle.n))))))))) h
            · rw [if_neg c14] at h
              refine Runs.brF (P := x4 < 0) (a := 98) (b := 88) (L := [.ref 93, .int x1, .int x2, .int x3, .int x4, .int x5, .int x6, .int (I 94 ((780 + x6).toNatClampNeg)), .int ((I 99 ((x6).toNatClampNeg)) - (I 94 13))]) (S := []) (z := (zS I J tg)) rfl c14 ?_
              refine Runs.sN 2 (c' := (92, [.ref 93, .int x1, .int x2, .int x3, .int x4, .int x5, .int x6, .int (I 94 ((780 + x6).toNatClampNeg)), .int ((I 99 ((x6).toNatClampNeg)) - (I 94 13))], [.int x5, .int ((I 99 ((x6).toNatClampNeg)) - (I 94 13))], (zS I J tg))) rfl ?_
              by_cases c15 : ((I 99 ((x6).toNatClampNeg)) - (I 94 13)) < x5
              · rw [if_pos c15] at h
                refine Runs.brT (P := ((I 99 ((x6).toNatClampNeg)) - (I 94 13)) < x5) (a := 98) (b := 95) (L := [.ref 93, .int x1, .int x2, .int x3, .int x4, .int x5, .int x6, .int (I 94 ((780 + x6).toNatClampNeg)), .int ((I 99 ((x6).toNatClampNeg)) - (I 94 13))]) (S := []) (z := (zS I J tg)) rfl c15 ?_
                refine Runs.sN 6 (c' := (9, [.ref 93, .int x1, .int x2, .int x3, .int x6, .int ((I 99 ((x6).toNatClampNeg)) - (I 94 13)), .int (x6 + 1), .int (I 94 ((780 + x6).toNatClampNeg)), .int ((I 99 ((x6).toNatClampNeg)) - (I 94 13))], [], (zS I J tg))) rfl ?_
                exact Runs.weak (L := [.ref 93, .int x1, .int x2, .int x3, .int x6, .int ((I 99 ((x6).toNatClampNeg)) - (I 94 13)), .int (x6 + 1), vU, vU]) (Lle.k (Lle.k (Lle.k (Lle.k (Lle.k (Lle.k (Lle.k (Lle.u (Lle.u Lle.n))))))))) h
              · rw [if_neg c15] at h
                refine Runs.brF (P := ((I 99 ((x6).toNatClampNeg)) - (I 94 13)) < x5) (a := 98) (b := 95) (L := [.ref 93, .int x1, .int x2, .int x3, .int x4, .int x5, .int x6, .int (I 94 ((780 + x6).toNatClampNeg)), .int ((I 99 ((x6).toNatClampNeg)) - (I 94 13))]) (S := []) (z := (zS I J tg)) rfl c15 ?_
                refine Runs.sN 3 (c' := (9, [.ref 93, .int x1, .int x2, .int x3, .int x4, .int x5, .int (x6 + 1), .int (I 94 ((780 + x6).toNatClampNeg)), .int ((I 99 ((x6).toNatClampNeg)) - (I 94 13))], [], (zS I J tg))) rfl ?_
                exact Runs.weak (L := [.ref 93, .int x1, .int x2, .int x3, .int x4, .int x5, .int (x6 + 1), vU, vU]) (Lle.k (Lle.k (Lle.k (Lle.k (Lle.k (Lle.k (Lle.k (Lle.u (Lle.u Lle.n))))))))) h
          · rw [if_neg c13] at h
            refine Runs.brF (P := (I 94 ((780 + x6).toNatClampNeg)) = x3) (a := 69) (b := 79) (L := [.ref 93, .int x1, .int x2, .int x3, .int x4, .int x5, .int x6, .int (I 94 ((780 + x6).toNatClampNeg)), vU]) (S := [.int (I 99 ((x6).toNatClampNeg))]) (z := (zS I J tg)) rfl c13 ?_
            refine Runs.sN 4 (c' := (85, [.ref 93, .int x1, .int x2, .int x3, .int x4, .int x5, .int x6, .int (I 94 ((780 + x6).toNatClampNeg)), .int ((I 99 ((x6).toNatClampNeg)) - 0)], [.int x4], (zS I J tg))) rfl ?_
            by_cases c16 : x4 < 0
            · rw [if_pos c16] at h
              refine Runs.brT (P := x4 < 0) (a := 98) (b := 88) (L := [.ref 93, .int x1, .int x2, .int x3, .int x4, .int x5, .int x6, .int (I 94 ((780 + x6).toNatClampNeg)), .int ((I 99 ((x6).toNatClampNeg)) - 0)]) (S := []) (z := (zS I J tg)) rfl c16 ?_
              refine Runs.sN 6 (c' := (9, [.ref 93, .int x1, .int x2, .int x3, .int x6, .int ((I 99 ((x6).toNatClampNeg)) - 0), .int (x6 + 1), .int (I 94 ((780 + x6).toNatClampNeg)), .int ((I 99 ((x6).toNatClampNeg)) - 0)], [], (zS I J tg))) rfl ?_
              exact Runs.weak (L := [.ref 93, .int x1, .int x2, .int x3, .int x6, .int ((I 99 ((x6).toNatClampNeg)) - 0), .int (x6 + 1), vU, vU]) (Lle.k (Lle.k (Lle.k (Lle.k (Lle.k (Lle.k (Lle.k (Lle.u (Lle.u Lle.n))))))))) h
            · rw [if_neg c16] at h
              refine Runs.brF (P := x4 < 0) (a := 98) (b := 88) (L := [.ref 93, .int x1, .int x2, .int x3, .int x4, .int x5, .int x6, .int (I 94 ((780 + x6).toNatClampNeg)), .int ((I 99 ((x6).toNatClampNeg)) - 0)]) (S := []) (z := (zS I J tg)) rfl c16 ?_
              refine Runs.sN 2 (c' := (92, [.ref 93, .int x1, .int x2, .int x3, .int x4, .int x5, .int x6, .int (I 94 ((780 + x6).toNatClampNeg)), .int ((I 99 ((x6).toNatClampNeg)) - 0)], [.int x5, .int ((I 99 ((x6).toNatClampNeg)) - 0)], (zS I J tg))) rfl ?_
              by_cases c17 : ((I 99 ((x6).toNatClampNeg)) - 0) < x5
              · rw [if_pos c17] at h
                refine Runs.brT (P := ((I 99 ((x6).toNatClampNeg)) - 0) < x5) (a := 98) (b := 95) (L := [.ref 93, .int x1, .int x2, .int x3, .int x4, .int x5, .int x6, .int (I 94 ((780 + x6).toNatClampNeg)), .int ((I 99 ((x6).toNatClampNeg)) - 0)]) (S := []) (z := (zS I J tg)) rfl c17 ?_
                refine Runs.sN 6 (c' := (9, [.ref 93, .int x1, .int x2, .int x3, .int x6, .int ((I 99 ((x6).toNatClampNeg)) - 0), .int (x6 + 1), .int (I 94 ((780 + x6).toNatClampNeg)), .int ((I 99 ((x6).toNatClampNeg)) - 0)], [], (zS I J tg))) rfl ?_
                exact Runs.weak (L := [.ref 93, .int x1, .int x2, .int x3, .int x6, .int ((I 99 ((x6).toNatClampNeg)) - 0), .int (x6 + 1), vU, vU]) (Lle.k (Lle.k (Lle.k (Lle.k (Lle.k (Lle.k (Lle.k (Lle.u (Lle.u Lle.n))))))))) h
              · rw [if_neg c17] at h
                refine Runs.brF (P := ((I 99 ((x6).toNatClampNeg)) - 0) < x5) (a := 98) (b := 95) (L := [.ref 93, .int x1, .int x2, .int x3, .int x4, .int x5, .int x6, .int (I 94 ((780 + x6).toNatClampNeg)), .int ((I 99 ((x6).toNatClampNeg)) - 0)]) (S := []) (z := (zS I J tg)) rfl c17 ?_
                refine Runs.sN 3 (c' := (9, [.ref 93, .int x1, .int x2, .int x3, .int x4, .int x5, .int (x6 + 1), .int (I 94 ((780 + x6).toNatClampNeg)), .int ((I 99 ((x6).toNatClampNeg)) - 0)], [], (zS I J tg))) rfl ?_
                exact Runs.weak (L := [.ref 93, .int x1, .int x2, .int x3, .int x4, .int x5, .int (x6 + 1), vU, vU]) (Lle.k (Lle.k (Lle.k (Lle.k (Lle.k (Lle.k (Lle.k (Lle.u (Lle.u Lle.n))))))))) h
-- X12_takenIn 
theorem sg_205 {L d : Nat} {xs : Nat → Int32} (I : Nat → Nat → Int32) (J : Nat → Nat → Int64) (tg : Option Nat) (a1 : Int32) (a2 : Int32) (a3 : Int32) {r : Option Value × SS} (h : (∃ (I6 : Nat → Nat → Int32) (J7 : Nat → Nat → Int64), Runs (GW L xs) d 203 (0, [.ref 93, .int a1, .int a3, vU], [], (zS I J tg)) (none, (zS I6 J7 tg)) ∧ ¬ ((690 + a2) < 0 ∨ 1200 ≤ (690 + a2).toNatClampNeg) ∧ ∃ (v8 : Int32) (I9 : Nat → Nat → Int32) (J10 : Nat → Nat → Int64), Runs (GW L xs) d 204 (0, [.ref 93, .int (I6 94 ((690 + a2).toNatClampNeg)), .int 0, .int 0, vU, vU, vU, vU, vU], [], (zS I6 J7 tg)) ((some (.int v8)), (zS I9 J10 tg)) ∧ r = (some (.int v8), (zS I9 J10 tg)))) : Runs (GW L xs) (d + 1) 205 (0, [.ref 93, .int a1, .int a2, .int a3], [], (zS I J tg)) r := by
  refine Runs.sN 3 (c' := (3, [.ref 93, .int a1, .int a2, .int a3], [.int a3, .int a1, .ref 93], (zS I J tg))) rfl ?_
  obtain ⟨I6, J7, c11, h⟩ := h
  refine Runs.cl (cm := 203) (as := [.ref 93, .int a1, .int a3]) (rest := []) (r1 := (none, (zS I6 J7 tg))) rfl (Nat.le_of_ble_eq_true rfl) c11 ?_
  refine Runs.as (c' := (6, [.ref 93, .int a1, .int a2, .int a3], [], (zS I6 J7 tg))) rfl ?_
  refine Runs.sN 6 (c' := (16, [.ref 93, .int a1, .int a2, .int a3], [.int (690 + a2), .ref 94, .ref 93], (zS I6 J7 tg))) rfl ?_
  obtain ⟨c12, h⟩ := h
  refine Runs.to (c' := (17, [.ref 93, .int a1, .int a2, .int a3], [.int (I6 94 ((690 + a2).toNatClampNeg)), .ref 93], (zS I6 J7 tg))) (Runs.ild rfl (show (94 : Nat) < 114 by decide) rfl c12) ?_
  refine Runs.sN 2 (c' := (19, [.ref 93, .int a1, .int a2, .int a3], [.int 0, .int 0, .int (I6 94 ((690 + a2).toNatClampNeg)), .ref 93], (zS I6 J7 tg))) rfl ?_
  obtain ⟨v8, I9, J10, c13, h⟩ := h
  refine Runs.cl (cm := 204) (as := [.ref 93, .int (I6 94 ((690 + a2).toNatClampNeg)), .int 0, .int 0]) (rest := []) (r1 := ((some (.int v8)), (zS I9 J10 tg))) rfl (Nat.le_of_ble_eq_true rfl) c13 ?_
  refine Runs.as (c' := (22, [.ref 93, .int a1, .int a2, .int a3], [.int v8], (zS I9 J10 tg))) rfl ?_
  subst h
  exact Runs.rt rfl
-- X12_taken 
theorem sg_206 {L d : Nat} {xs : Nat → Int32} (I : Nat → Nat → Int32) (J : Nat → Nat → Int64) (tg : Option Nat) (a1 : Int32) (a2 : Int32) (a3 : Int32) {r : Option Value × SS} (h : (∃ (v13 : Int32) (I14 : Nat → Nat → Int32) (J15 : Nat → Nat → Int64), Runs (GW L xs) d 179 (0, [.ref 93, .int a1], [], (zS I J tg)) ((some (.int v13)), (zS I14 J15 tg)) ∧ (if v13 = 0 then (r = (some (.int (-1)), (zS I14 J15 tg))) else (∃ (v16 : Int32) (I17 : Nat → Nat → Int32) (J18 : Nat → Nat → Int64), Runs (GW L xs) d 182 (0, [.int a2], [], (zS I14 J15 tg)) ((some (.int v16)), (zS I17 J18 tg)) ∧ (if v16 = 0 then (r = (some (.int (-1)), (zS I17 J18 tg))) else (∃ (v19 : Int32) (I20 : Nat → Nat → Int32) (J21 : Nat → Nat → Int64), Runs (GW L xs) d 182 (0, [.int a3], [], (zS I17 J18 tg)) ((some (.int v19)), (zS I20 J21 tg)) ∧ (if v19 = 0 then (r = (some (.int (-1)), (zS I20 J21 tg))) else (∃ (v22 : Int32) (I23 : Nat → Nat → Int32) (J24 : Nat → Nat → Int64), Runs (GW L xs) d 205 (0, [.ref 93, .int a1, .int a2, .int a3], [], (zS I20 J21 tg)) ((some (.int v22)), (zS I23 J24 tg)) ∧ r = (some (.int v22), (zS I23 J24 tg)))))))))) : Runs (GW L xs) (d + 1) 206 (0, [.ref 93, .int a1, .int a2, .int a3], [], (zS I J tg)) r := by
  refine Runs.sN 2 (c' := (2, [.ref 93, .int a1, .int a2, .int a3], [.int a1, .ref 93], (zS I J tg))) rfl ?_
  obtain ⟨v13, I14, J15, c25, h⟩ := h
  refine Runs.cl (cm := 179) (as := [.ref 93, .int a1]) (rest := []) (r1 := ((some (.int v13)), (zS I14 J15 tg))) rfl (Nat.le_of_ble_eq_true rfl) c25 ?_
  refine Runs.as (c' := (5, [.ref 93, .int a1, .int a2, .int a3], [.int v13], (zS I14 J15 tg))) rfl ?_
  by_cases c26 : v13 = 0
  · rw [if_pos c26] at h
    refine Runs.brT (P := v13 = 0) (a := 32) (b := 8) (L := [.ref 93, .int a1, .int a2, .int a3]) (S := []) (z := (zS I14 J15 tg)) rfl c26 ?_
    refine Runs.sN 1 (c' := (33, [.ref 93, .int a1, .int a2, .int a3], [.int (-1)], (zS I14 J15 tg))) rfl ?_
    subst h
    exact Runs.rt rfl
  · rw [if_neg c26] at h
    refine Runs.brF (P := v13 = 0) (a := 32) (b := 8) (L := [.ref 93, .int a1, .int a2, .int a3]) (S := []) (z := (zS I14 J15 tg)) rfl c26 ?_
    refine Runs.sN 1 (c' := (9, [.ref 93, .int a1, .int a2, .int a3], [.int a2], (zS I14 J15 tg))) rfl ?_
    obtain ⟨v16, I17, J18, c27, h⟩ := h
    refine Runs.cl (cm := 182) (as := [.int a2]) (rest := []) (r1 := ((some (.int v16)), (zS I17 J18 tg))) rfl (Nat.le_of_ble_eq_true rfl) c27 ?_
    refine Runs.as (c' := (12, [.ref 93, .int a1, .int a2, .int a3], [.int v16], (zS I17 J18 tg))) rfl ?_
    by_cases c28 : v16 = 0
    · rw [if_pos c28] at h
      refine Runs.brT (P := v16 = 0) (a := 32) (b := 15) (L := [.ref 93, .int a1, .int a2, .int a3]) (S := []) (z := (zS I17 J18 tg)) rfl c28 ?_
      refine Runs.sN 1 (c' := (33, [.ref 93, .int a1, .int a2, .int a3], [.int (-1)], (zS I17 J18 tg))) rfl ?_
      subst h
      exact Runs.rt rfl
    · rw [if_neg c28] at h
      refine Runs.brF (P := v16 = 0) (a := 32) (b := 15) (L := [.ref 93, .int a1, .int a2, .int a3]) (S := []) (z := (zS I17 J18 tg)) rfl c28 ?_
      refine Runs.sN 1 (c' := (16, [.ref 93, .int a1, .int a2, .int a3], [.int a3], (zS I17 J18 tg))) rfl ?_
      obtain ⟨v19, I20, J21, c29, h⟩ := h
      refine Runs.cl (cm := 182) (as := [.int a3]) (rest := []) (r1 := ((some (.int v19)), (zS I20 J21 tg))) rfl (Nat.le_of_ble_eq_true rfl) c29 ?_
      refine Runs.as (c' := (19, [.ref 93, .int a1, .int a2, .int a3], [.int v19], (zS I20 J21 tg))) rfl ?_
      by_cases c30 : v19 = 0
      · rw [if_pos c30] at h
        refine Runs.brT (P := v19 = 0) (a := 32) (b := 22) (L := [.ref 93, .int a1, .int a2, .int a3]) (S := []) (z := (zS I20 J21 tg)) rfl c30 ?_
        refine Runs.sN 1 (c' := (33, [.ref 93, .int a1, .int a2, .int a3], [.int (-1)], (zS I20 J21 tg))) rfl ?_
        subst h
        exact Runs.rt rfl
      · rw [if_neg c30] at h
        refine Runs.brF (P := v19 = 0) (a := 32) (b := 22) (L := [.ref 93, .int a1, .int a2, .int a3]) (S := []) (z := (zS I20 J21 tg)) rfl c30 ?_
        refine Runs.sN 4 (c' := (26, [.ref 93, .int a1, .int a2, .int a3], [.int a3, .int a2, .int a1, .ref 93], (zS I20 J21 tg))) rfl ?_
        obtain ⟨v22, I23, J24, c31, h⟩ := h
        refine Runs.cl (cm := 205) (as := [.ref 93, .int a1, .int a2, .int a3]) (rest := []) (r1 := ((some (.int v22)), (zS I23 J24 tg))) rfl (Nat.le_of_ble_eq_true rfl) c31 ?_
        refine Runs.as (c' := (29, [.ref 93, .int a1, .int a2, .int a3], [.int v22], (zS I23 J24 tg))) rfl ?_
        refine Runs.sN 1 (c' := (33, [.ref 93, .int a1, .int a2, .int a3], [.int v22], (zS I23 J24 tg))) rfl ?_
        subst h
        exact Runs.rt rfl
-- X12_four 
theorem sg_207 {L d : Nat} {xs : Nat → Int32} (I : Nat → Nat → Int32) (J : Nat → Nat → Int64) (tg : Option Nat) (a1 : Int32) {r : Option Value × SS} (h : (Runs (GW L xs) d 207 (3, [.ref 93, .int a1, .int 24], [], (zS I J tg)) r)) : Runs (GW L xs) d 207 (0, [.ref 93, .int a1, vU], [], (zS I J tg)) r := by
  refine Runs.sN 2 (c' := (3, [.ref 93, .int a1, .int 24], [], (zS I J tg))) rfl ?_
  exact h
theorem sg_207_3 {L d : Nat} {xs : Nat → Int32} (I : Nat → Nat → Int32) (J : Nat → Nat → Int64) (tg : Option Nat) (x1 : Int32) (x2 : Int32) {r : Option Value × SS} (h : ((if x2 < 0 then (r = (none, (zS I J tg))) else (¬ ((I 93 7) < 0 ∨ 300 ≤ (I 93 7).toNatClampNeg) ∧ Runs (GW L xs) d 207 (3, [.ref 93, .int x1, .int (x2 + (-8))], [], (zS (up2 (up2 I 100 ((I 93 7).toNatClampNeg) ((x1 >>> (x2 &&& 31)) &&& 255)) 93 7 ((I 93 7) + 1)) J tg)) r)))) : Runs (GW L xs) d 207 (3, [.ref 93, .int x1, .int x2], [], (zS I J tg)) r := by
  refine Runs.sN 1 (c' := (4, [.ref 93, .int x1, .int x2], [.int x2], (zS I J tg))) rfl ?_
  by_cases c1 : x2 < 0
  · rw [if_pos c1] at h
    refine Runs.brT (P := x2 < 0) (a := 39) (b := 7) (L := [.ref 93, .int x1, .int x2]) (S := []) (z := (zS I J tg)) rfl c1 ?_
    subst h
    exact Runs.rt rfl
  · rw [if_neg c1] at h
    refine Runs.brF (P := x2 < 0) (a := 39) (b := 7) (L := [.ref 93, .int x1, .int x2]) (S := []) (z := (zS I J tg)) rfl c1 ?_
    refine Runs.sN 9 (c' := (22, [.ref 93, .int x1, .int x2], [.int ((x1 >>> (x2 &&& 31)) &&& 255), .int (I 93 7), .ref 100], (zS I J tg))) rfl ?_
    obtain ⟨c2, h⟩ := h
    refine Runs.to (c' := (23, [.ref 93, .int x1, .int x2], [], (zS (up2 I 100 ((I 93 7).toNatClampNeg) ((x1 >>> (x2 &&& 31)) &&& 255)) J tg))) (Runs.ist rfl (show (100 : Nat) < 114 by decide) rfl c2) ?_
    refine Runs.sN 8 (c' := (3, [.ref 93, .int x1, .int (x2 + (-8))], [], (zS (up2 (up2 I 100 ((I 93 7).toNatClampNeg) ((x1 >>> (x2 &&& 31)) &&& 255)) 93 7 ((I 93 7) + 1)) J tg))) rfl ?_
    exact h
-- X12_feed 
theorem sg_208 {L d : Nat} {xs : Nat → Int32} (I : Nat → Nat → Int32) (J : Nat → Nat → Int64) (tg : Option Nat) (a1 : Int32) (a2 : Int32) (a3 : Int32) (a4 : Int32) (a5 : Int32) {r : Option Value × SS} (h : ((if ((I 93 7) + 20) ≤ 300 then (∃ (I11 : Nat → Nat → Int32) (J12 : Nat → Nat → Int64), Runs (GW L xs) d 207 (0, [.ref 93, .int a1, vU], [], (zS I J tg)) (none, (zS I11 J12 tg)) ∧ ∃ (I13 : Nat → Nat → Int32) (J14 : Nat → Nat → Int64), Runs (GW L xs) d 207 (0, [.ref 93, .int a2, vU], [], (zS I11 J12 tg)) (none, (zS I13 J14 tg)) ∧ ∃ (I15 : Nat → Nat → Int32) (J16 : Nat → Nat → Int64), Runs (GW L xs) d 207 (0, [.ref 93, .int a3, vU], [], (zS I13 J14 tg)) (none, (zS I15 J16 tg)) ∧ ∃ (I17 : Nat → Nat → Int32) (J18 : Nat → Nat → Int64), Runs (GW L xs) d 207 (0, [.ref 93, .int a4, vU], [], (zS I15 J16 tg)) (none, (zS I17 J18 tg)) ∧ ∃ (I19 : Nat → Nat → Int32) (J20 : Nat → Nat → Int64), Runs (GW L xs) d 207 (0, [.ref 93, .int a5, vU], [], (zS I17 J18 tg)) (none, (zS I19 J20 tg)) ∧ r = (some (.int (I19 93 7)), (zS I19 J20 tg))) else (r = (some (.int (-1)), (zS I J tg)))))) : Runs (GW L xs) (d + 1) 208 (0, [.ref 93, .int a1, .int a2, .int a3, .int a4, .int a5], [], (zS I J tg)) r := by
  refine Runs.sN 5 (c' := (10, [.ref 93, .int a1, .int a2, .int a3, .int a4, .int a5], [.int 300, .int ((I 93 7) + 20)], (zS I J tg))) rfl ?_
  by_cases c21 : ((I 93 7) + 20) ≤ 300
  · rw [if_pos c21] at h
    refine Runs.brT (P := ((I 93 7) + 20) ≤ 300) (a := 15) (b := 13) (L := [.ref 93, .int a1, .int a2, .int a3, .int a4, .int a5]) (S := []) (z := (zS I J tg)) rfl c21 ?_
    refine Runs.sN 2 (c' := (17, [.ref 93, .int a1, .int a2, .int a3, .int a4, .int a5], [.int a1, .ref 93], (zS I J tg))) rfl ?_
    obtain ⟨I11, J12, c22, h⟩ := h
    refine Runs.cl (cm := 207) (as := [.ref 93, .int a1]) (rest := []) (r1 := (none, (zS I11 J12 tg))) rfl (Nat.le_of_ble_eq_true rfl) c22 ?_
    refine Runs.as (c' := (20, [.ref 93, .int a1, .int a2, .int a3, .int a4, .int a5], [], (zS I11 J12 tg))) rfl ?_
    refine Runs.sN 2 (c' := (22, [.ref 93, .int a1, .int a2, .int a3, .int a4, .int a5], [.int a2, .ref 93], (zS I11 J12 tg))) rfl ?_
    obtain ⟨I13, J14, c23, h⟩ := h
    refine Runs.cl (cm := 207) (as := [.ref 93, .int a2]) (rest := []) (r1 := (none, (zS I13 J14 tg))) rfl (Nat.le_of_ble_eq_true rfl) c23 ?_
    refine Runs.as (c' := (25, [.ref 93, .int a1, .int a2, .int a3, .int a4, .int a5], [], (zS I13 J14 tg))) rfl ?_
    refine Runs.sN 2 (c' := (27, [.ref 93, .int a1, .int a2, .int a3, .int a4, .int a5], [.int a3, .ref 93], (zS I13 J14 tg))) rfl ?_
    obtain ⟨I15, J16, c24, h⟩ := h
    refine Runs.cl (cm := 207) (as := [.ref 93, .int a3]) (rest := []) (r1 := (none, (zS I15 J16 tg))) rfl (Nat.le_of_ble_eq_true rfl) c24 ?_
    refine Runs.as (c' := (30, [.ref 93, .int a1, .int a2, .int a3, .int a4, .int a5], [], (zS I15 J16 tg))) rfl ?_
    refine Runs.sN 2 (c' := (33, [.ref 93, .int a1, .int a2, .int a3, .int a4, .int a5], [.int a4, .ref 93], (zS I15 J16 tg))) rfl ?_
    obtain ⟨I17, J18, c25, h⟩ := h
    refine Runs.cl (cm := 207) (as := [.ref 93, .int a4]) (rest := []) (r1 := (none, (zS I17 J18 tg))) rfl (Nat.le_of_ble_eq_true rfl) c25 ?_
    refine Runs.as (c' := (36, [.ref 93, .int a1, .int a2, .int a3, .int a4, .int a5], [], (zS I17 J18 tg))) rfl ?_
    refine Runs.sN 2 (c' := (39, [.ref 93, .int a1, .int a2, .int a3, .int a4, .int a5], [.int a5, .ref 93], (zS I17 J18 tg))) rfl ?_
    obtain ⟨I19, J20, c26, h⟩ := h
    refine Runs.cl (cm := 207) (as := [.ref 93, .int a5]) (rest := []) (r1 := (none, (zS I19 J20 tg))) rfl (Nat.le_of_ble_eq_true rfl) c26 ?_
    refine Runs.as (c' := (42, [.ref 93, .int a1, .int a2, .int a3, .int a4, .int a5], [], (zS I19 J20 tg))) rfl ?_
    refine Runs.sN 2 (c' := (46, [.ref 93, .int a1, .int a2, .int a3, .int a4, .int a5], [.int (I19 93 7)], (zS I19 J20 tg))) rfl ?_
    subst h
    exact Runs.rt rfl
  · rw [if_neg c21] at h
    refine Runs.brF (P := ((I 93 7) + 20) ≤ 300) (a := 15) (b := 13) (L := [.ref 93, .int a1, .int a2, .int a3, .int a4, .int a5]) (S := []) (z := (zS I J tg)) rfl c21 ?_
    refine Runs.sN 1 (c' := (14, [.ref 93, .int a1, .int a2, .int a3, .int a4, .int a5], [.int (-1)], (zS I J tg))) rfl ?_
    subst h
    exact Runs.rt rfl
-- X12_end 
theorem sg_209 {L d : Nat} {xs : Nat → Int32} (I : Nat → Nat → Int32) (J : Nat → Nat → Int64) (tg : Option Nat) (a1 : Int32) {r : Option Value × SS} (h : (∃ (v4 : Int32) (I5 : Nat → Nat → Int32) (J6 : Nat → Nat → Int64), Runs (GW L xs) d 177 (0, [.int a1, .int 0, .int (I 93 7)], [], (zS I J tg)) ((some (.int v4)), (zS I5 J6 tg)) ∧ (if v4 = 0 then (r = (some (.int (-1)), (zS I5 J6 tg))) else (r = (some (.int a1), (zS (up2 I5 93 7 a1) J6 tg)))))) : Runs (GW L xs) (d + 1) 209 (0, [.ref 93, .int a1], [], (zS I J tg)) r := by
  refine Runs.sN 4 (c' := (6, [.ref 93, .int a1], [.int (I 93 7), .int 0, .int a1], (zS I J tg))) rfl ?_
  obtain ⟨v4, I5, J6, c7, h⟩ := h
  refine Runs.cl (cm := 177) (as := [.int a1, .int 0, .int (I 93 7)]) (rest := []) (r1 := ((some (.int v4)), (zS I5 J6 tg))) rfl (Nat.le_of_ble_eq_true rfl) c7 ?_
  refine Runs.as (c' := (9, [.ref 93, .int a1], [.int v4], (zS I5 J6 tg))) rfl ?_
  by_cases c8 : v4 = 0
  · rw [if_pos c8] at h
    refine Runs.brT (P := v4 = 0) (a := 12) (b := 14) (L := [.ref 93, .int a1]) (S := []) (z := (zS I5 J6 tg)) rfl c8 ?_
    refine Runs.sN 1 (c' := (13, [.ref 93, .int a1], [.int (-1)], (zS I5 J6 tg))) rfl ?_
    subst h
    exact Runs.rt rfl
  · rw [if_neg c8] at h
    refine Runs.brF (P := v4 = 0) (a := 12) (b := 14) (L := [.ref 93, .int a1]) (S := []) (z := (zS I5 J6 tg)) rfl c8 ?_
    refine Runs.sN 4 (c' := (20, [.ref 93, .int a1], [.int a1], (zS (up2 I5 93 7 a1) J6 tg))) rfl ?_
    subst h
    exact Runs.rt rfl
-- X12_byteAt 
theorem sg_210 {L d : Nat} {xs : Nat → Int32} (I : Nat → Nat → Int32) (J : Nat → Nat → Int64) (tg : Option Nat) (a1 : Int32) {r : Option Value × SS} (h : ((if (I 93 7) ≤ a1 then (r = (some (.int (-1)), (zS I J tg))) else (¬ (a1 < 0 ∨ 300 ≤ (a1).toNatClampNeg) ∧ r = (some (.int (I 100 ((a1).toNatClampNeg))), (zS I J tg)))))) : Runs (GW L xs) d 210 (0, [.ref 93, .int a1], [], (zS I J tg)) r := by
  refine Runs.sN 3 (c' := (5, [.ref 93, .int a1], [.int (I 93 7), .int a1], (zS I J tg))) rfl ?_
  by_cases c1 : (I 93 7) ≤ a1
  · rw [if_pos c1] at h
    refine Runs.brT (P := (I 93 7) ≤ a1) (a := 17) (b := 8) (L := [.ref 93, .int a1]) (S := []) (z := (zS I J tg)) rfl c1 ?_
    refine Runs.sN 1 (c' := (18, [.ref 93, .int a1], [.int (-1)], (zS I J tg))) rfl ?_
    subst h
    exact Runs.rt rfl
  · rw [if_neg c1] at h
    refine Runs.brF (P := (I 93 7) ≤ a1) (a := 17) (b := 8) (L := [.ref 93, .int a1]) (S := []) (z := (zS I J tg)) rfl c1 ?_
    refine Runs.sN 3 (c' := (13, [.ref 93, .int a1], [.int a1, .ref 100], (zS I J tg))) rfl ?_
    obtain ⟨c2, h⟩ := h
    refine Runs.to (c' := (14, [.ref 93, .int a1], [.int (I 100 ((a1).toNatClampNeg))], (zS I J tg))) (Runs.ild rfl (show (100 : Nat) < 114 by decide) rfl c2) ?_
    refine Runs.sN 1 (c' := (18, [.ref 93, .int a1], [.int (I 100 ((a1).toNatClampNeg))], (zS I J tg))) rfl ?_
    subst h
    exact Runs.rt rfl
-- X12_isLetter 
theorem sg_211 {L d : Nat} {xs : Nat → Int32} (I : Nat → Nat → Int32) (J : Nat → Nat → Int64) (tg : Option Nat) (a1 : Int32) {r : Option Value × SS} (h : (∃ (v7 : Int32) (I8 : Nat → Nat → Int32) (J9 : Nat → Nat → Int64), Runs (GW L xs) d 177 (0, [.int a1, .int 97, .int 122], [], (zS I J tg)) ((some (.int v7)), (zS I8 J9 tg)) ∧ (if v7 = 0 then (∃ (v10 : Int32) (I11 : Nat → Nat → Int32) (J12 : Nat → Nat → Int64), Runs (GW L xs) d 177 (0, [.int a1, .int 65, .int 90], [], (zS I8 J9 tg)) ((some (.int v10)), (zS I11 J12 tg)) ∧ (if v10 = 0 then (r = (some (.int 0), (zS I11 J12 tg))) else (r = (some (.int 1), (zS I11 J12 tg))))) else (r = (some (.int 1), (zS I8 J9 tg)))))) : Runs (GW L xs) (d + 1) 211 (0, [.int a1], [], (zS I J tg)) r := by
  refine Runs.sN 3 (c' := (5, [.int a1], [.int 122, .int 97, .int a1], (zS I J tg))) rfl ?_
  obtain ⟨v7, I8, J9, c13, h⟩ := h
  refine Runs.cl (cm := 177) (as := [.int a1, .int 97, .int 122]) (rest := []) (r1 := ((some (.int v7)), (zS I8 J9 tg))) rfl (Nat.le_of_ble_eq_true rfl) c13 ?_
  refine Runs.as (c' := (8, [.int a1], [.int v7], (zS I8 J9 tg))) rfl ?_
  by_cases c14 : v7 = 0
  · rw [if_pos c14] at h
    refine Runs.brT (P := v7 = 0) (a := 11) (b := 22) (L := [.int a1]) (S := []) (z := (zS I8 J9 tg)) rfl c14 ?_
    refine Runs.sN 3 (c' := (16, [.int a1], [.int 90, .int 65, .int a1], (zS I8 J9 tg))) rfl ?_
    obtain ⟨v10, I11, J12, c15, h⟩ := h
    refine Runs.cl (cm := 177) (as := [.int a1, .int 65, .int 90]) (rest := []) (r1 := ((some (.int v10)), (zS I11 J12 tg))) rfl (Nat.le_of_ble_eq_true rfl) c15 ?_
    refine Runs.as (c' := (19, [.int a1], [.int v10], (zS I11 J12 tg))) rfl ?_
    by_cases c16 : v10 = 0
    · rw [if_pos c16] at h
      refine Runs.brT (P := v10 = 0) (a := 26) (b := 22) (L := [.int a1]) (S := []) (z := (zS I11 J12 tg)) rfl c16 ?_
      refine Runs.sN 1 (c' := (27, [.int a1], [.int 0], (zS I11 J12 tg))) rfl ?_
      subst h
      exact Runs.rt rfl
    · rw [if_neg c16] at h
      refine Runs.brF (P := v10 = 0) (a := 26) (b := 22) (L := [.int a1]) (S := []) (z := (zS I11 J12 tg)) rfl c16 ?_
      refine Runs.sN 2 (c' := (27, [.int a1], [.int 1], (zS I11 J12 tg))) rfl ?_
      subst h
      exact Runs.rt rfl
  · rw [if_neg c14] at h
    refine Runs.brF (P := v7 = 0) (a := 11) (b := 22) (L := [.int a1]) (S := []) (z := (zS I8 J9 tg)) rfl c14 ?_
    refine Runs.sN 2 (c' := (27, [.int a1], [.int 1], (zS I8 J9 tg))) rfl ?_
    subst h
    exact Runs.rt rfl
-- X12_isDigit 
theorem sg_212 {L d : Nat} {xs : Nat → Int32} (I : Nat → Nat → Int32) (J : Nat → Nat → Int64) (tg : Option Nat) (a1 : Int32) {r : Option Value × SS} (h : (∃ (v4 : Int32) (I5 : Nat → Nat → Int32) (J6 : Nat → Nat → Int64), Runs (GW L xs) d 177 (0, [.int a1, .int 48, .int 57], [], (zS I J tg)) ((some (.int v4)), (zS I5 J6 tg)) ∧ (v4 = 0 ∨ v4 = 1) ∧ r = (some (.int v4), (zS I5 J6 tg)))) : Runs (GW L xs) (d + 1) 212 (0, [.int a1], [], (zS I J tg)) r := by
  refine Runs.sN 3 (c' := (5, [.int a1], [.int 57, .int 48, .int a1], (zS I J tg))) rfl ?_
  obtain ⟨v4, I5, J6, c7, h⟩ := h
  refine Runs.cl (cm := 177) (as := [.int a1, .int 48, .int 57]) (rest := []) (r1 := ((some (.int v4)), (zS I5 J6 tg))) rfl (Nat.le_of_ble_eq_true rfl) c7 ?_
  refine Runs.as (c' := (8, [.int a1], [.int v4], (zS I5 J6 tg))) rfl ?_
  obtain ⟨h0, h⟩ := h
  subst h
  exact Runs.zrt rfl rfl h0
-- X12_nextToken 
theorem sg_213 {L d : Nat} {xs : Nat → Int32} (I : Nat → Nat → Int32) (J : Nat → Nat → Int64) (tg : Option Nat) {r : Option Value × SS} (h : (∃ (v148 : Int32) (I149 : Nat → Nat → Int32) (J150 : Nat → Nat → Int64), Runs (GW L xs) d 210 (0, [.ref 93, .int (I 93 13)], [], (zS I J tg)) ((some (.int v148)), (zS I149 J150 tg)) ∧ (if v148 = 32 then (Runs (GW L xs) (d + 1) 213 (26, [.ref 93, vU, vU], [], (zS I149 J150 tg)) r) else (∃ (v151 : Int32) (I152 : Nat → Nat → Int32) (J153 : Nat → Nat → Int64), Runs (GW L xs) d 210 (0, [.ref 93, .int (I149 93 13)], [], (zS I149 J150 tg)) ((some (.int v151)), (zS I152 J153 tg)) ∧ (if v151 = 10 then (Runs (GW L xs) (d + 1) 213 (26, [.ref 93, vU, vU], [], (zS I152 J153 tg)) r) else (∃ (v154 : Int32) (I155 : Nat → Nat → Int32) (J156 : Nat → Nat → Int64), Runs (GW L xs) d 210 (0, [.ref 93, .int (I152 93 13)], [], (zS (up2 I152 93 14 (I152 93 13)) J153 tg)) ((some (.int v154)), (zS I155 J156 tg)) ∧ (if 0 ≤ v154 then (∃ (v157 : Int32) (I158 : Nat → Nat → Int32) (J159 : Nat → Nat → Int64), Runs (GW L xs) d 212 (0, [.int v154], [], (zS I155 J156 tg)) ((some (.int v157)), (zS I158 J159 tg)) ∧ (if v157 = 0 then (∃ (v160 : Int32) (I161 : Nat → Nat → Int32) (J162 : Nat → Nat → Int64), Runs (GW L xs) d 211 (0, [.int v154], [], (zS I158 J159 tg)) ((some (.int v160)), (zS I161 J162 tg)) ∧ (if v160 = 0 then ((if v154 = 60 then (Runs (GW L xs) (d + 1) 213 (315, [.ref 93, .int v154, vU], [], (zS (up2 I161 93 13 ((I161 93 13) + 1)) J162 tg)) r) else ((if v154 = 62 then (Runs (GW L xs) (d + 1) 213 (315, [.ref 93, .int v154, vU], [], (zS (up2 I161 93 13 ((I161 93 13) + 1)) J162 tg)) r) else ((if v154 = 61 then (Runs (GW L xs) (d + 1) 213 (315, [.ref 93, .int v154, vU], [], (zS (up2 I161 93 13 ((I161 93 13) + 1)) J162 tg)) r) else ((if v154 = 35 then (Runs (GW L xs) (d + 1) 213 (315, [.ref 93, .int v154, vU], [], (zS (up2 I161 93 13 ((I161 93 13) + 1)) J162 tg)) r) else ((if v154 = 43 then (Runs (GW L xs) (d + 1) 213 (315, [.ref 93, .int v154, vU], [], (zS (up2 I161 93 13 ((I161 93 13) + 1)) J162 tg)) r) else ((if v154 = 45 then (Runs (GW L xs) (d + 1) 213 (315, [.ref 93, .int v154, vU], [], (zS (up2 I161 93 13 ((I161 93 13) + 1)) J162 tg)) r) else ((if v154 = 42 then (Runs (GW L xs) (d + 1) 213 (315, [.ref 93, .int v154, vU], [], (zS (up2 I161 93 13 ((I161 93 13) + 1)) J162 tg)) r) else ((if v154 = 40 then (Runs (GW L xs) (d + 1) 213 (315, [.ref 93, .int v154, vU], [], (zS (up2 I161 93 13 ((I161 93 13) + 1)) J162 tg)) r) else ((if v154 = 41 then (Runs (GW L xs) (d + 1) 213 (315, [.ref 93, .int v154, vU], [], (zS (up2 I161 93 13 ((I161 93 13) + 1)) J162 tg)) r) else ((if v154 = 59 then (Runs (GW L xs) (d + 1) 213 (315, [.ref 93, .int v154, vU], [], (zS (up2 I161 93 13 ((I161 93 13) + 1)) J162 tg)) r) else (Runs (GW L xs) (d + 1) 213 (320, [.ref 93, .int v154, vU], [.int 0], (zS (up2 I161 93 13 ((I161 93 13) + 1)) J162 tg)) r))))))))))))))))))))) else (Runs (GW L xs) (d + 1) 213 (161, [.ref 93, .int v154, vU], [], (zS (up2 I161 93 15 2) (up2 J162 93 17 0) tg)) r))) else (Runs (GW L xs) (d + 1) 213 (85, [.ref 93, .int v154, vU], [], (zS (up2 (up2 I158 93 15 1) 93 16 0) J159 tg)) r))) else (r = (none, (zS (up2 I155 93 15 0) J156 tg)))))))))) : Runs (GW L xs) (d + 1) 213 (0, [.ref 93, vU, vU], [], (zS I J tg)) r := by
  refine Runs.sN 3 (c' := (5, [.ref 93, vU, vU], [.int (I 93 13), .ref 93], (zS I J tg))) rfl ?_
  obtain ⟨v148, I149, J150, c163, h⟩ := h
  refine Runs.cl (cm := 210) (as := [.ref 93, .int (I 93 13)]) (rest := []) (r1 := ((some (.int v148)), (zS I149 J150 tg))) rfl (Nat.le_of_ble_eq_true rfl) c163 ?_
  refine Runs.as (c' := (8, [.ref 93, vU, vU], [.int v148], (zS I149 J150 tg))) rfl ?_
  refine Runs.sN 1 (c' := (10, [.ref 93, vU, vU], [.int 32, .int v148], (zS I149 J150 tg))) rfl ?_
  by_cases c164 : v148 = 32
  · rw [if_pos c164] at h
    refine Runs.brT (P := v148 = 32) (a := 26) (b := 13) (L := [.ref 93, vU, vU]) (S := []) (z := (zS I149 J150 tg)) rfl c164 ?_
    exact h
  · rw [if_neg c164] at h
    refine Runs.brF (P := v148 = 32) (a := 26) (b := 13) (L := [.ref 93, vU, vU]) (S := []) (z := (zS I149 J150 tg)) rfl c164 ?_
    refine Runs.sN 3 (c' := (18, [.ref 93, vU, vU], [.int (I149 93 13), .ref 93], (zS I149 J150 tg))) rfl ?_
    obtain ⟨v151, I152, J153, c165, h⟩ := h
    refine Runs.cl (cm := 210) (as := [.ref 93, .int (I149 93 13)]) (rest := []) (r1 := ((some (.int v151)), (zS I152 J153 tg))) rfl (Nat.le_of_ble_eq_true rfl) c165 ?_
    refine Runs.as (c' := (21, [.ref 93, vU, vU], [.int v151], (zS I152 J153 tg))) rfl ?_
    refine Runs.sN 1 (c' := (23, [.ref 93, vU, vU], [.int 10, .int v151], (zS I152 J153 tg))) rfl ?_
    by_cases c166 : v151 = 10
    · rw [if_pos c166] at h
      refine Runs.brT (P := v151 = 10) (a := 26) (b := 39) (L := [.ref 93, vU, vU]) (S := []) (z := (zS I152 J153 tg)) rfl c166 ?_
      exact h
    · rw [if_neg c166] at h
      refine Runs.brF (P := v151 = 10) (a := 26) (b := 39) (L := [.ref 93, vU, vU]) (S := []) (z := (zS I152 J153 tg)) rfl c166 ?_
      refine Runs.sN 7 (c' := (52, [.ref 93, vU, vU], [.int (I152 93 13), .ref 93], (zS (up2 I152 93 14 (I152 93 13)) J153 tg))) rfl ?_
      obtain ⟨v154, I155, J156, c167, h⟩ := h
      refine Runs.cl (cm := 210) (as := [.ref 93, .int (I152 93 13)]) (rest := []) (r1 := ((some (.int v154)), (zS I155 J156 tg))) rfl (Nat.le_of_ble_eq_true rfl) c167 ?_
      refine Runs.as (c' := (55, [.ref 93, vU, vU], [.int v154], (zS I155 J156 tg))) rfl ?_
      refine Runs.sN 2 (c' := (57, [.ref 93, .int v154, vU], [.int v154], (zS I155 J156 tg))) rfl ?_
      by_cases c168 : 0 ≤ v154
      · rw [if_pos c168] at h
        refine Runs.brT (P := 0 ≤ v154) (a := 68) (b := 60) (L := [.ref 93, .int v154, vU]) (S := []) (z := (zS I155 J156 tg)) rfl c168 ?_
        refine Runs.sN 1 (c' := (69, [.ref 93, .int v154, vU], [.int v154], (zS I155 J156 tg))) rfl ?_
        obtain ⟨v157, I158, J159, c169, h⟩ := h
        refine Runs.cl (cm := 212) (as := [.int v154]) (rest := []) (r1 := ((some (.int v157)), (zS I158 J159 tg))) rfl (Nat.le_of_ble_eq_true rfl) c169 ?_
        refine Runs.as (c' := (72, [.ref 93, .int v154, vU], [.int v157], (zS I158 J159 tg))) rfl ?_
        by_cases c170 : v157 = 0
        · rw [if_pos c170] at h
          refine Runs.brT (P := v157 = 0) (a := 144) (b := 75) (L := [.ref 93, .int v154, vU]) (S := []) (z := (zS I158 J159 tg)) rfl c170 ?_
          refine Runs.sN 1 (c' := (145, [.ref 93, .int v154, vU], [.int v154], (zS I158 J159 tg))) rfl ?_
          obtain ⟨v160, I161, J162, c171, h⟩ := h
          refine Runs.cl (cm := 211) (as := [.int v154]) (rest := []) (r1 := ((some (.int v160)), (zS I161 J162 tg))) rfl (Nat.le_of_ble_eq_true rfl) c171 ?_
          refine Runs.as (c' := (148, [.ref 93, .int v154, vU], [.int v160], (zS I161 J162 tg))) rfl ?_
          by_cases c172 : v160 = 0
          · rw [if_pos c172] at h
            refine Runs.brT (P := v160 = 0) (a := 245) (b := 151) (L := [.ref 93, .int v154, vU]) (S := []) (z := (zS I161 J162 tg)) rfl c172 ?_
            refine Runs.sN 8 (c' := (258, [.ref 93, .int v154, vU], [.int 60, .int v154], (zS (up2 I161 93 13 ((I161 93 13) + 1)) J162 tg))) rfl ?_
            by_cases c173 : v154 = 60
            · rw [if_pos c173] at h
              refine Runs.brT (P := v154 = 60) (a := 315) (b := 261) (L := [.ref 93, .int v154, vU]) (S := []) (z := (zS (up2 I161 93 13 ((I161 93 13) + 1)) J162 tg)) rfl c173 ?_
              exact h
            · rw [if_neg c173] at h
              refine Runs.brF (P := v154 = 60) (a := 315) (b := 261) (L := [.ref 93, .int v154, vU]) (S := []) (z := (zS (up2 I161 93 13 ((I161 93 13) + 1)) J162 tg)) rfl c173 ?_
              refine Runs.sN 2 (c' := (264, [.ref 93, .int v154, vU], [.int 62, .int v154], (zS (up2 I161 93 13 ((I161 93 13) + 1)) J162 tg))) rfl ?_
              by_cases c174 : v154 = 62
              · rw [if_pos c174] at h
                refine Runs.brT (P := v154 = 62) (a := 315) (b := 267) (L := [.ref 93, .int v154, vU]) (S := []) (z := (zS (up2 I161 93 13 ((I161 93 13) + 1)) J162 tg)) rfl c174 ?_
                exact h
              · rw [if_neg c174] at h
                refine Runs.brF (P := v154 = 62) (a := 315) (b := 267) (L := [.ref 93, .int v154, vU]) (S := []) (z := (zS (up2 I161 93 13 ((I161 93 13) + 1)) J162 tg)) rfl c174 ?_
                refine Runs.sN 2 (c' := (270, [.ref 93, .int v154, vU], [.int 61, .int v154], (zS (up2 I161 93 13 ((I161 93 13) + 1)) J162 tg))) rfl ?_
                by_cases c175 : v154 = 61
                · rw [if_pos c175] at h
                  refine Runs.brT (P := v154 = 61) (a := 315) (b := 273) (L := [.ref 93, .int v154, vU]) (S := []) (z := (zS (up2 I161 93 13 ((I161 93 13) + 1)) J162 tg)) rfl c175 ?_
                  exact h
                · rw [if_neg c175] at h
                  refine Runs.brF (P := v154 = 61) (a := 315) (b := 273) (L := [.ref 93, .int v154, vU]) (S := []) (z := (zS (up2 I161 93 13 ((I161 93 13) + 1)) J162 tg)) rfl c175 ?_
                  refine Runs.sN 2 (c' := (276, [.ref 93, .int v154, vU], [.int 35, .int v154], (zS (up2 I161 93 13 ((I161 93 13) + 1)) J162 tg))) rfl ?_
                  by_cases c176 : v154 = 35
                  · rw [if_pos c176] at h
                    refine Runs.brT (P := v154 = 35) (a := 315) (b := 279) (L := [.ref 93, .int v154, vU]) (S := []) (z := (zS (up2 I161 93 13 ((I161 93 13) + 1)) J162 tg)) rfl c176 ?_
                    exact h
                  · rw [if_neg c176] at h
                    refine Runs.brF (P := v154 = 35) (a := 315) (b := 279) (L := [.ref 93, .int v154, vU]) (S := []) (z := (zS (up2 I161 93 13 ((I161 93 13) + 1)) J162 tg)) rfl c176 ?_
                    refine Runs.sN 2 (c' := (282, [.ref 93, .int v154, vU], [.int 43, .int v154], (zS (up2 I161 93 13 ((I161 93 13) + 1)) J162 tg))) rfl ?_
                    by_cases c177 : v154 = 43
                    · rw [if_pos c177] at h
                      refine Runs.brT (P := v154 = 43) (a := 315) (b := 285) (L := [.ref 93, .int v154, vU]) (S := []) (z := (zS (up2 I161 93 13 ((I161 93 13) + 1)) J162 tg)) rfl c177 ?_
                      exact h
                    · rw [if_neg c177] at h
                      refine Runs.brF (P := v154 = 43) (a := 315) (b := 285) (L := [.ref 93, .int v154, vU]) (S := []) (z := (zS (up2 I161 93 13 ((I161 93 13) + 1)) J162 tg)) rfl c177 ?_
                      refine Runs.sN 2 (c' := (288, [.ref 93, .int v154, vU], [.int 45, .int v154], (zS (up2 I161 93 13 ((I161 93 13) + 1)) J162 tg))) rfl ?_
                      by_cases c178 : v154 = 45
                      · rw [if_pos c178] at h
                        refine Runs.brT (P := v154 = 45) (a := 315) (b := 291) (L := [.ref 93, .int v154, vU]) (S := []) (z := (zS (up2 I161 93 13 ((I161 93 13) + 1)) J162 tg)) rfl c178 ?_
                        exact h
                      · rw [if_neg c178] at h
                        refine Runs.brF (P := v154 = 45) (a := 315) (b := 291) (L := [.ref 93, .int v154, vU]) (S := []) (z := (zS (up2 I161 93 13 ((I161 93 13) + 1)) J162 tg)) rfl c178 ?_
                        refine Runs.sN 2 (c' := (294, [.ref 93, .int v154, vU], [.int 42, .int v154], (zS (up2 I161 93 13 ((I161 93 13) + 1)) J162 tg))) rfl ?_
                        by_cases c179 : v154 = 42
                        · rw [if_pos c179] at h
                          refine Runs.brT (P := v154 = 42) (a := 315) (b := 297) (L := [.ref 93, .int v154, vU]) (S := []) (z := (zS (up2 I161 93 13 ((I161 93 13) + 1)) J162 tg)) rfl c179 ?_
                          exact h
                        · rw [if_neg c179] at h
                          refine Runs.brF (P := v154 = 42) (a := 315) (b := 297) (L := [.ref 93, .int v154, vU]) (S := []) (z := (zS (up2 I161 93 13 ((I161 93 13) + 1)) J162 tg)) rfl c179 ?_
                          refine Runs.sN 2 (c' := (300, [.ref 93, .int v154, vU], [.int 40, .int v154], (zS (up2 I161 93 13 ((I161 93 13) + 1)) J162 tg))) rfl ?_
                          by_cases c180 : v154 = 40
                          · rw [if_pos c180] at h
                            refine Runs.brT (P := v154 = 40) (a := 315) (b := 303) (L := [.ref 93, .int v154, vU]) (S := []) (z := (zS (up2 I161 93 13 ((I161 93 13) + 1)) J162 tg)) rfl c180 ?_
                            exact h
                          · rw [if_neg c180] at h
                            refine Runs.brF (P := v154 = 40) (a := 315) (b := 303) (L := [.ref 93, .int v154, vU]) (S := []) (z := (zS (up2 I161 93 13 ((I161 93 13) + 1)) J162 tg)) rfl c180 ?_
                            refine Runs.sN 2 (c' := (306, [.ref 93, .int v154, vU], [.int 41, .int v154], (zS (up2 I161 93 13 ((I161 93 13) + 1)) J162 tg))) rfl ?_
                            by_cases c181 : v154 = 41
                            · rw [if_pos c181] at h
                              refine Runs.brT (P := v154 = 41) (a := 315) (b := 309) (L := [.ref 93, .int v154, vU]) (S := []) (z := (zS (up2 I161 93 13 ((I161 93 13) + 1)) J162 tg)) rfl c181 ?_
                              exact h
                            · rw [if_neg c181] at h
                              refine Runs.brF (P := v154 = 41) (a := 315) (b := 309) (L := [.ref 93, .int v154, vU]) (S := []) (z := (zS (up2 I161 93 13 ((I161 93 13) + 1)) J162 tg)) rfl c181 ?_
                              refine Runs.sN 2 (c' := (312, [.ref 93, .int v154, vU], [.int 59, .int v154], (zS (up2 I161 93 13 ((I161 93 13) + 1)) J162 tg))) rfl ?_
                              by_cases c182 : v154 = 59
                              · rw [if_pos c182] at h
                                refine Runs.brT (P := v154 = 59) (a := 315) (b := 319) (L := [.ref 93, .int v154, vU]) (S := []) (z := (zS (up2 I161 93 13 ((I161 93 13) + 1)) J162 tg)) rfl c182 ?_
                                exact h
                              · rw [if_neg c182] at h
                                refine Runs.brF (P := v154 = 59) (a := 315) (b := 319) (L := [.ref 93, .int v154, vU]) (S := []) (z := (zS (up2 I161 93 13 ((I161 93 13) + 1)) J162 tg)) rfl c182 ?_
                                refine Runs.sN 1 (c' := (320, [.ref 93, .int v154, vU], [.int 0], (zS (up2 I161 93 13 ((I161 93 13) + 1)) J162 tg))) rfl ?_
                                exact h
          · rw [if_neg c172] at h
            refine Runs.brF (P := v160 = 0) (a := 245) (b := 151) (L := [.ref 93, .int v154, vU]) (S := []) (z := (zS I161 J162 tg)) rfl c172 ?_
            refine Runs.sN 6 (c' := (161, [.ref 93, .int v154, vU], [], (zS (up2 I161 93 15 2) (up2 J162 93 17 0) tg))) rfl ?_
            exact h
        · rw [if_neg c170] at h
          refine Runs.brF (P := v157 = 0) (a := 144) (b := 75) (L := [.ref 93, .int v154, vU]) (S := []) (z := (zS I158 J159 tg)) rfl c170 ?_
          refine Runs.sN 6 (c' := (85, [.ref 93, .int v154, vU], [], (zS (up2 (up2 I158 93 15 1) 93 16 0) J159 tg))) rfl ?_
          exact h
      · rw [if_neg c168] at h
        refine Runs.brF (P := 0 ≤ v154) (a := 68) (b := 60) (L := [.ref 93, .int v154, vU]) (S := []) (z := (zS I155 J156 tg)) rfl c168 ?_
        refine Runs.sN 4 (c' := (384, [.ref 93, .int v154, vU], [], (zS (up2 I155 93 15 0) J156 tg))) rfl ?_
        subst h
        exact Runs.rt rfl
theorem sg_213_0 {L d : Nat} {xs : Nat → Int32} (I : Nat → Nat → Int32) (J : Nat → Nat → Int64) (tg : Option Nat) {r : Option Value × SS} (h : (∃ (v1 : Int32) (I2 : Nat → Nat → Int32) (J3 : Nat → Nat → Int64), Runs (GW L xs) d 210 (0, [.ref 93, .int (I 93 13)], [], (zS I J tg)) ((some (.int v1)), (zS I2 J3 tg)) ∧ (if v1 = 32 then (Runs (GW L xs) (d + 1) 213 (26, [.ref 93, vU, vU], [], (zS I2 J3 tg)) r) else (∃ (v4 : Int32) (I5 : Nat → Nat → Int32) (J6 : Nat → Nat → Int64), Runs (GW L xs) d 210 (0, [.ref 93, .int (I2 93 13)], [], (zS I2 J3 tg)) ((some (.int v4)), (zS I5 J6 tg)) ∧ (if v4 = 10 then (Runs (GW L xs) (d + 1) 213 (26, [.ref 93, vU, vU], [], (zS I5 J6 tg)) r) else (∃ (v7 : Int32) (I8 : Nat → Nat → Int32) (J9 : Nat → Nat → Int64), Runs (GW L xs) d 210 (0, [.ref 93, .int (I5 93 13)], [], (zS (up2 I5 93 14 (I5 93 13)) J6 tg)) ((some (.int v7)), (zS I8 J9 tg)) ∧ (if 0 ≤ v7 then (∃ (v10 : Int32) (I11 : Nat → Nat → Int32) (J12 : Nat → Nat → Int64), Runs (GW L xs) d 212 (0, [.int v7], [], (zS I8 J9 tg)) ((some (.int v10)), (zS I11 J12 tg)) ∧ (if v10 = 0 then (∃ (v13 : Int32) (I14 : Nat → Nat → Int32) (J15 : Nat → Nat → Int64), Runs (GW L xs) d 211 (0, [.int v7], [], (zS I11 J12 tg)) ((some (.int v13)), (zS I14 J15 tg)) ∧ (if v13 = 0 then ((if v7 = 60 then (Runs (GW L xs) (d + 1) 213 (315, [.ref 93, .int v7, vU], [], (zS (up2 I14 93 13 ((I14 93 13) + 1)) J15 tg)) r) else ((if v7 = 62 then (Runs (GW L xs) (d + 1) 213 (315, [.ref 93, .int v7, vU], [], (zS (up2 I14 93 13 ((I14 93 13) + 1)) J15 tg)) r) else ((if v7 = 61 then (Runs (GW L xs) (d + 1) 213 (315, [.ref 93, .int v7, vU], [], (zS (up2 I14 93 13 ((I14 93 13) + 1)) J15 tg)) r) else ((if v7 = 35 then (Runs (GW L xs) (d + 1) 213 (315, [.ref 93, .int v7, vU], [], (zS (up2 I14 93 13 ((I14 93 13) + 1)) J15 tg)) r) else ((if v7 = 43 then (Runs (GW L xs) (d + 1) 213 (315, [.ref 93, .int v7, vU], [], (zS (up2 I14 93 13 ((I14 93 13) + 1)) J15 tg)) r) else ((if v7 = 45 then (Runs (GW L xs) (d + 1) 213 (315, [.ref 93, .int v7, vU], [], (zS (up2 I14 93 13 ((I14 93 13) + 1)) J15 tg)) r) else ((if v7 = 42 then (Runs (GW L xs) (d + 1) 213 (315, [.ref 93, .int v7, vU], [], (zS (up2 I14 93 13 ((I14 93 13) + 1)) J15 tg)) r) else ((if v7 = 40 then (Runs (GW L xs) (d + 1) 213 (315, [.ref 93, .int v7, vU], [], (zS (up2 I14 93 13 ((I14 93 13) + 1)) J15 tg)) r) else ((if v7 = 41 then (Runs (GW L xs) (d + 1) 213 (315, [.ref 93, .int v7, vU], [], (zS (up2 I14 93 13 ((I14 93 13) + 1)) J15 tg)) r) else ((if v7 = 59 then (Runs (GW L xs) (d + 1) 213 (315, [.ref 93, .int v7, vU], [], (zS (up2 I14 93 13 ((I14 93 13) + 1)) J15 tg)) r) else (Runs (GW L xs) (d + 1) 213 (320, [.ref 93, .int v7, vU], [.int 0], (zS (up2 I14 93 13 ((I14 93 13) + 1)) J15 tg)) r))))))))))))))))))))) else (Runs (GW L xs) (d + 1) 213 (161, [.ref 93, .int v7, vU], [], (zS (up2 I14 93 15 2) (up2 J15 93 17 0) tg)) r))) else (Runs (GW L xs) (d + 1) 213 (85, [.ref 93, .int v7, vU], [], (zS (up2 (up2 I11 93 15 1) 93 16 0) J12 tg)) r))) else (r = (none, (zS (up2 I8 93 15 0) J9 tg)))))))))) : Runs (GW L xs) (d + 1) 213 (0, [.ref 93, vU, vU], [], (zS I J tg)) r := by
  refine Runs.sN 3 (c' := (5, [.ref 93, vU, vU], [.int (I 93 13), .ref 93], (zS I J tg))) rfl ?_
  obtain ⟨v1, I2, J3, c16, h⟩ := h
  refine Runs.cl (cm := 210) (as := [.ref 93, .int (I 93 13)]) (rest := []) (r1 := ((some (.int v1)), (zS I2 J3 tg))) rfl (Nat.le_of_ble_eq_true rfl) c16 ?_
  refine Runs.as (c' := (8, [.ref 93, vU, vU], [.int v1], (zS I2 J3 tg))) rfl ?_
  refine Runs.sN 1 (c' := (10, [.ref 93, vU, vU], [.int 32, .int v1], (zS I2 J3 tg))) rfl ?_
  by_cases c17 : v1 = 32
  · rw [if_pos c17] at h
    refine Runs.brT (P := v1 = 32) (a := 26) (b := 13) (L := [.ref 93, vU, vU]) (S := []) (z := (zS I2 J3 tg)) rfl c17 ?_
    exact h
  · rw [if_neg c17] at h
    refine Runs.brF (P := v1 = 32) (a := 26) (b := 13) (L := [.ref 93, vU, vU]) (S := []) (z := (zS I2 J3 tg)) rfl c17 ?_
    refine Runs.sN 3 (c' := (18, [.ref 93, vU, vU], [.int (I2 93 13), .ref 93], (zS I2 J3 tg))) rfl ?_
    obtain ⟨v4, I5, J6, c18, h⟩ := h
    refine Runs.cl (cm := 210) (as := [.ref 93, .int (I2 93 13)]) (rest := []) (r1 := ((some (.int v4)), (zS I5 J6 tg))) rfl (Nat.le_of_ble_eq_true rfl) c18 ?_
    refine Runs.as (c' := (21, [.ref 93, vU, vU], [.int v4], (zS I5 J6 tg))) rfl ?_
    refine Runs.sN 1 (c' := (23, [.ref 93, vU, vU], [.int 10, .int v4], (zS I5 J6 tg))) rfl ?_
    by_cases c19 : v4 = 10
    · rw [if_pos c19] at h
      refine Runs.brT (P := v4 = 10) (a := 26) (b := 39) (L := [.ref 93, vU, vU]) (S := []) (z := (zS I5 J6 tg)) rfl c19 ?_
      exact h
    · rw [if_neg c19] at h
      refine Runs.brF (P := v4 = 10) (a := 26) (b := 39) (L := [.ref 93, vU, vU]) (S := []) (z := (zS I5 J6 tg)) rfl c19 ?_
      refine Runs.sN 7 (c' := (52, [.ref 93, vU, vU], [.int (I5 93 13), .ref 93], (zS (up2 I5 93 14 (I5 93 13)) J6 tg))) rfl ?_
      obtain ⟨v7, I8, J9, c20, h⟩ := h
      refine Runs.cl (cm := 210) (as := [.ref 93, .int (I5 93 13)]) (rest := []) (r1 := ((some (.int v7)), (zS I8 J9 tg))) rfl (Nat.le_of_ble_eq_true rfl) c20 ?_
      refine Runs.as (c' := (55, [.ref 93, vU, vU], [.int v7], (zS I8 J9 tg))) rfl ?_
      refine Runs.sN 2 (c' := (57, [.ref 93, .int v7, vU], [.int v7], (zS I8 J9 tg))) rfl ?_
      by_cases c21 : 0 ≤ v7
      · rw [if_pos c21] at h
        refine Runs.brT (P := 0 ≤ v7) (a := 68) (b := 60) (L := [.ref 93, .int v7, vU]) (S := []) (z := (zS I8 J9 tg)) rfl c21 ?_
        refine Runs.sN 1 (c' := (69, [.ref 93, .int v7, vU], [.int v7], (zS I8 J9 tg))) rfl ?_
        obtain ⟨v10, I11, J12, c22, h⟩ := h
        refine Runs.cl (cm := 212) (as := [.int v7]) (rest := []) (r1 := ((some (.int v10)), (zS I11 J12 tg))) rfl (Nat.le_of_ble_eq_true rfl) c22 ?_
        refine Runs.as (c' := (72, [.ref 93, .int v7, vU], [.int v10], (zS I11 J12 tg))) rfl ?_
        by_cases c23 : v10 = 0
        · rw [if_pos c23] at h
          refine Runs.brT (P := v10 = 0) (a := 144) (b := 75) (L := [.ref 93, .int v7, vU]) (S := []) (z := (zS I11 J12 tg)) rfl c23 ?_
          refine Runs.sN 1 (c' := (145, [.ref 93, .int v7, vU], [.int v7], (zS I11 J12 tg))) rfl ?_
          obtain ⟨v13, I14, J15, c24, h⟩ := h
          refine Runs.cl (cm := 211) (as := [.int v7]) (rest := []) (r1 := ((some (.int v13)), (zS I14 J15 tg))) rfl (Nat.le_of_ble_eq_true rfl) c24 ?_
          refine Runs.as (c' := (148, [.ref 93, .int v7, vU], [.int v13], (zS I14 J15 tg))) rfl ?_
          by_cases c25 : v13 = 0
          · rw [if_pos c25] at h
            refine Runs.brT (P := v13 = 0) (a := 245) (b := 151) (L := [.ref 93, .int v7, vU]) (S := []) (z := (zS I14 J15 tg)) rfl c25 ?_
            refine Runs.sN 8 (c' := (258, [.ref 93, .int v7, vU], [.int 60, .int v7], (zS (up2 I14 93 13 ((I14 93 13) + 1)) J15 tg))) rfl ?_
            by_cases c26 : v7 = 60
            · rw [if_pos c26] at h
              refine Runs.brT (P := v7 = 60) (a := 315) (b := 261) (L := [.ref 93, .int v7, vU]) (S := []) (z := (zS (up2 I14 93 13 ((I14 93 13) + 1)) J15 tg)) rfl c26 ?_
              exact h
            · rw [if_neg c26] at h
              refine Runs.brF (P := v7 = 60) (a := 315) (b := 261) (L := [.ref 93, .int v7, vU]) (S := []) (z := (zS (up2 I14 93 13 ((I14 93 13) + 1)) J15 tg)) rfl c26 ?_
              refine Runs.sN 2 (c' := (264, [.ref 93, .int v7, vU], [.int 62, .int v7], (zS (up2 I14 93 13 ((I14 93 13) + 1)) J15 tg))) rfl ?_
              by_cases c27 : v7 = 62
              · rw [if_pos c27] at h
                refine Runs.brT (P := v7 = 62) (a := 315) (b := 267) (L := [.ref 93, .int v7, vU]) (S := []) (z := (zS (up2 I14 93 13 ((I14 93 13) + 1)) J15 tg)) rfl c27 ?_
                exact h
              · rw [if_neg c27] at h
                refine Runs.brF (P := v7 = 62) (a := 315) (b := 267) (L := [.ref 93, .int v7, vU]) (S := []) (z := (zS (up2 I14 93 13 ((I14 93 13) + 1)) J15 tg)) rfl c27 ?_
                refine Runs.sN 2 (c' := (270, [.ref 93, .int v7, vU], [.int 61, .int v7], (zS (up2 I14 93 13 ((I14 93 13) + 1)) J15 tg))) rfl ?_
                by_cases c28 : v7 = 61
                · rw [if_pos c28] at h
                  refine Runs.brT (P := v7 = 61) (a := 315) (b := 273) (L := [.ref 93, .int v7, vU]) (S := []) (z := (zS (up2 I14 93 13 ((I14 93 13) + 1)) J15 tg)) rfl c28 ?_
                  exact h
                · rw [if_neg c28] at h
                  refine Runs.brF (P := v7 = 61) (a := 315) (b := 273) (L := [.ref 93, .int v7, vU]) (S := []) (z := (zS (up2 I14 93 13 ((I14 93 13) + 1)) J15 tg)) rfl c28 ?_
                  refine Runs.sN 2 (c' := (276, [.ref 93, .int v7, vU], [.int 35, .int v7], (zS (up2 I14 93 13 ((I14 93 13) + 1)) J15 tg))) rfl ?_
                  by_cases c29 : v7 = 35
                  · rw [if_pos c29] at h
                    refine Runs.brT (P := v7 = 35) (a := 315) (b := 279) (L := [.ref 93, .int v7, vU]) (S := []) (z := (zS (up2 I14 93 13 ((I14 93 13) + 1)) J15 tg)) rfl c29 ?_
                    exact h
                  · rw [if_neg c29] at h
                    refine Runs.brF (P := v7 = 35) (a := 315) (b := 279) (L := [.ref 93, .int v7, vU]) (S := []) (z := (zS (up2 I14 93 13 ((I14 93 13) + 1)) J15 tg)) rfl c29 ?_
                    refine Runs.sN 2 (c' := (282, [.ref 93, .int v7, vU], [.int 43, .int v7], (zS (up2 I14 93 13 ((I14 93 13) + 1)) J15 tg))) rfl ?_
                    by_cases c30 : v7 = 43
                    · rw [if_pos c30] at h
                      refine Runs.brT (P := v7 = 43) (a := 315) (b := 285) (L := [.ref 93, .int v7, vU]) (S := []) (z := (zS (up2 I14 93 13 ((I14 93 13) + 1)) J15 tg)) rfl c30 ?_
                      exact h
                    · rw [if_neg c30] at h
                      refine Runs.brF (P := v7 = 43) (a := 315) (b := 285) (L := [.ref 93, .int v7, vU]) (S := []) (z := (zS (up2 I14 93 13 ((I14 93 13) + 1)) J15 tg)) rfl c30 ?_
                      refine Runs.sN 2 (c' := (288, [.ref 93, .int v7, vU], [.int 45, .int v7], (zS (up2 I14 93 13 ((I14 93 13) + 1)) J15 tg))) rfl ?_
                      by_cases c31 : v7 = 45
                      · rw [if_pos c31] at h
                        refine Runs.brT (P := v7 = 45) (a := 315) (b := 291) (L := [.ref 93, .int v7, vU]) (S := []) (z := (zS (up2 I14 93 13 ((I14 93 13) + 1)) J15 tg)) rfl c31 ?_
                        exact h
                      · rw [if_neg c31] at h
                        refine Runs.brF (P := v7 = 45) (a := 315) (b := 291) (L := [.ref 93, .int v7, vU]) (S := []) (z := (zS (up2 I14 93 13 ((I14 93 13) + 1)) J15 tg)) rfl c31 ?_
                        refine Runs.sN 2 (c' := (294, [.ref 93, .int v7, vU], [.int 42, .int v7], (zS (up2 I14 93 13 ((I14 93 13) + 1)) J15 tg))) rfl ?_
                        by_cases c32 : v7 = 42
                        · rw [if_pos c32] at h
                          refine Runs.brT (P := v7 = 42) (a := 315) (b := 297) (L := [.ref 93, .int v7, vU]) (S := []) (z := (zS (up2 I14 93 13 ((I14 93 13) + 1)) J15 tg)) rfl c32 ?_
                          exact h
                        · rw [if_neg c32] at h
                          refine Runs.brF (P := v7 = 42) (a := 315) (b := 297) (L := [.ref 93, .int v7, vU]) (S := []) (z := (zS (up2 I14 93 13 ((I14 93 13) + 1)) J15 tg)) rfl c32 ?_
                          refine Runs.sN 2 (c' := (300, [.ref 93, .int v7, vU], [.int 40, .int v7], (zS (up2 I14 93 13 ((I14 93 13) + 1)) J15 tg))) rfl ?_
                          by_cases c33 : v7 = 40
                          · rw [if_pos c33] at h
                            refine Runs.brT (P := v7 = 40) (a := 315) (b := 303) (L := [.ref 93, .int v7, vU]) (S := []) (z := (zS (up2 I14 93 13 ((I14 93 13) + 1)) J15 tg)) rfl c33 ?_
                            exact h
                          · rw [if_neg c33] at h
                            refine Runs.brF (P := v7 = 40) (a := 315) (b := 303) (L := [.ref 93, .int v7, vU]) (S := []) (z := (zS (up2 I14 93 13 ((I14 93 13) + 1)) J15 tg)) rfl c33 ?_
                            refine Runs.sN 2 (c' := (306, [.ref 93, .int v7, vU], [.int 41, .int v7], (zS (up2 I14 93 13 ((I14 93 13) + 1)) J15 tg))) rfl ?_
                            by_cases c34 : v7 = 41
                            · rw [if_pos c34] at h
                              refine Runs.brT (P := v7 = 41) (a := 315) (b := 309) (L := [.ref 93, .int v7, vU]) (S := []) (z := (zS (up2 I14 93 13 ((I14 93 13) + 1)) J15 tg)) rfl c34 ?_
                              exact h
                            · rw [if_neg c34] at h
                              refine Runs.brF (P := v7 = 41) (a := 315) (b := 309) (L := [.ref 93, .int v7, vU]) (S := []) (z := (zS (up2 I14 93 13 ((I14 93 13) + 1)) J15 tg)) rfl c34 ?_
                              refine Runs.sN 2 (c' := (312, [.ref 93, .int v7, vU], [.int 59, .int v7], (zS (up2 I14 93 13 ((I14 93 13) + 1)) J15 tg))) rfl ?_
                              by_cases c35 : v7 = 59
                              · rw [if_pos c35] at h
                                refine Runs.brT (P := v7 = 59) (a := 315) (b := 319) (L := [.ref 93, .int v7, vU]) (S := []) (z := (zS (up2 I14 93 13 ((I14 93 13) + 1)) J15 tg)) rfl c35 ?_
                                exact h
                              · rw [if_neg c35] at h
                                refine Runs.brF (P := v7 = 59) (a := 315) (b := 319) (L := [.ref 93, .int v7, vU]) (S := []) (z := (zS (up2 I14 93 13 ((I14 93 13) + 1)) J15 tg)) rfl c35 ?_
                                refine Runs.sN 1 (c' := (320, [.ref 93, .int v7, vU], [.int 0], (zS (up2 I14 93 13 ((I14 93 13) + 1)) J15 tg))) rfl ?_
                                exact h
          · rw [if_neg c25] at h
            refine Runs.brF (P := v13 = 0) (a := 245) (b := 151) (L := [.ref 93, .int v7, vU]) (S := []) (z := (zS I14 J15 tg)) rfl c25 ?_
            refine Runs.sN 6 (c' := (161, [.ref 93, .int v7, vU], [], (zS (up2 I14 93 15 2) (up2 J15 93 17 0) tg))) rfl ?_
            exact h
        · rw [if_neg c23] at h
          refine Runs.brF (P := v10 = 0) (a := 144) (b := 75) (L := [.ref 93, .int v7, vU]) (S := []) (z := (zS I11 J12 tg)) rfl c23 ?_
          refine Runs.sN 6 (c' := (85, [.ref 93, .int v7, vU], [], (zS (up2 (up2 I11 93 15 1) 93 16 0) J12 tg))) rfl ?_
          exact h
      · rw [if_neg c21] at h
        refine Runs.brF (P := 0 ≤ v7) (a := 68) (b := 60) (L := [.ref 93, .int v7, vU]) (S := []) (z := (zS I8 J9 tg)) rfl c21 ?_
        refine Runs.sN 4 (c' := (384, [.ref 93, .int v7, vU], [], (zS (up2 I8 93 15 0) J9 tg))) rfl ?_
        subst h
        exact Runs.rt rfl
theorem sg_213_26 {L d : Nat} {xs : Nat → Int32} (I : Nat → Nat → Int32) (J : Nat → Nat → Int64) (tg : Option Nat) {r : Option Value × SS} (h : (Runs (GW L xs) (d + 1) 213 (0, [.ref 93, vU, vU], [], (zS (up2 I 93 13 ((I 93 13) + 1)) J tg)) r)) : Runs (GW L xs) (d + 1) 213 (26, [.ref 93, vU, vU], [], (zS I J tg)) r := by
  refine Runs.sN 7 (c' := (0, [.ref 93, vU, vU], [], (zS (up2 I 93 13 ((I 93 13) + 1)) J tg))) rfl ?_
  exact h
theorem sg_213_85 {L d : Nat} {xs : Nat → Int32} (I : Nat → Nat → Int32) (J : Nat → Nat → Int64) (tg : Option Nat) (x1 : Int32) {r : Option Value × SS} (h : (∃ (v1 : Int32) (I2 : Nat → Nat → Int32) (J3 : Nat → Nat → Int64), Runs (GW L xs) d 210 (0, [.ref 93, .int (I 93 13)], [], (zS I J tg)) ((some (.int v1)), (zS I2 J3 tg)) ∧ ∃ (v4 : Int32) (I5 : Nat → Nat → Int32) (J6 : Nat → Nat → Int64), Runs (GW L xs) d 212 (0, [.int v1], [], (zS I2 J3 tg)) ((some (.int v4)), (zS I5 J6 tg)) ∧ (if v4 = 0 then (r = (none, (zS I5 J6 tg))) else ((if 100000 ≤ (I5 93 16) then (Runs (GW L xs) (d + 1) 213 (131, [.ref 93, .int x1, vU], [], (zS I5 J6 tg)) r) else (∃ (v7 : Int32) (I8 : Nat → Nat → Int32) (J9 : Nat → Nat → Int64), Runs (GW L xs) d 210 (0, [.ref 93, .int (I5 93 13)], [], (zS I5 J6 tg)) ((some (.int v7)), (zS I8 J9 tg)) ∧ Runs (GW L xs) (d + 1) 213 (131, [.ref 93, .int x1, vU], [], (zS (up2 I8 93 16 (((10 * (I5 93 16)) + v7) - 48)) J9 tg)) r)))))) : Runs (GW L xs) (d + 1) 213 (85, [.ref 93, .int x1, vU], [], (zS I J tg)) r := by
  refine Runs.sN 3 (c' := (90, [.ref 93, .int x1, vU], [.int (I 93 13), .ref 93], (zS I J tg))) rfl ?_
  obtain ⟨v1, I2, J3, c10, h⟩ := h
  refine Runs.cl (cm := 210) (as := [.ref 93, .int (I 93 13)]) (rest := []) (r1 := ((some (.int v1)), (zS I2 J3 tg))) rfl (Nat.le_of_ble_eq_true rfl) c10 ?_
  refine Runs.as (c' := (93, [.ref 93, .int x1, vU], [.int v1], (zS I2 J3 tg))) rfl ?_
  obtain ⟨v4, I5, J6, c11, h⟩ := h
  refine Runs.cl (cm := 212) (as := [.int v1]) (rest := []) (r1 := ((some (.int v4)), (zS I5 J6 tg))) rfl (Nat.le_of_ble_eq_true rfl) c11 ?_
  refine Runs.as (c' := (96, [.ref 93, .int x1, vU], [.int v4], (zS I5 J6 tg))) rfl ?_
  by_cases c12 : v4 = 0
  · rw [if_pos c12] at h
    refine Runs.brT (P := v4 = 0) (a := 384) (b := 99) (L := [.ref 93, .int x1, vU]) (S := []) (z := (zS I5 J6 tg)) rfl c12 ?_
    subst h
    exact Runs.rt rfl
  · rw [if_neg c12] at h
    refine Runs.brF (P := v4 = 0) (a := 384) (b := 99) (L := [.ref 93, .int x1, vU]) (S := []) (z := (zS I5 J6 tg)) rfl c12 ?_
    refine Runs.sN 3 (c' := (105, [.ref 93, .int x1, vU], [.int 100000, .int (I5 93 16)], (zS I5 J6 tg))) rfl ?_
    by_cases c13 : 100000 ≤ (I5 93 16)
    · rw [if_pos c13] at h
      refine Runs.brT (P := 100000 ≤ (I5 93 16)) (a := 131) (b := 108) (L := [.ref 93, .int x1, vU]) (S := []) (z := (zS I5 J6 tg)) rfl c13 ?_
      exact h
    · rw [if_neg c13] at h
      refine Runs.brF (P := 100000 ≤ (I5 93 16)) (a := 131) (b := 108) (L := [.ref 93, .int x1, vU]) (S := []) (z := (zS I5 J6 tg)) rfl c13 ?_
      refine Runs.sN 8 (c' := (121, [.ref 93, .int x1, vU], [.int (I5 93 13), .ref 93, .int (10 * (I5 93 16)), .ref 93], (zS I5 J6 tg))) rfl ?_
      obtain ⟨v7, I8, J9, c14, h⟩ := h
      refine Runs.cl (cm := 210) (as := [.ref 93, .int (I5 93 13)]) (rest := [.int (10 * (I5 93 16)), .ref 93]) (r1 := ((some (.int v7)), (zS I8 J9 tg))) rfl (Nat.le_of_ble_eq_true rfl) c14 ?_
      refine Runs.as (c' := (124, [.ref 93, .int x1, vU], [.int v7, .int (10 * (I5 93 16)), .ref 93], (zS I8 J9 tg))) rfl ?_
      refine Runs.sN 4 (c' := (131, [.ref 93, .int x1, vU], [], (zS (up2 I8 93 16 (((10 * (I5 93 16)) + v7) - 48)) J9 tg))) rfl ?_
      exact h
theorem sg_213_131 {L d : Nat} {xs : Nat → Int32} (I : Nat → Nat → Int32) (J : Nat → Nat → Int64) (tg : Option Nat) (x1 : Int32) {r : Option Value × SS} (h : (Runs (GW L xs) (d + 1) 213 (85, [.ref 93, .int x1, vU], [], (zS (up2 I 93 13 ((I 93 13) + 1)) J tg)) r)) : Runs (GW L xs) (d + 1) 213 (131, [.ref 93, .int x1, vU], [], (zS I J tg)) r := by
  refine Runs.sN 7 (c' := (85, [.ref 93, .int x1, vU], [], (zS (up2 I 93 13 ((I 93 13) + 1)) J tg))) rfl ?_
  exact h
theorem sg_213_161 {L d : Nat} {xs : Nat → Int32} (I : Nat → Nat → Int32) (J : Nat → Nat → Int64) (tg : Option Nat) (x1 : Int32) {r : Option Value × SS} (h : (∃ (v1 : Int32) (I2 : Nat → Nat → Int32) (J3 : Nat → Nat → Int64), Runs (GW L xs) d 210 (0, [.ref 93, .int (I 93 13)], [], (zS I J tg)) ((some (.int v1)), (zS I2 J3 tg)) ∧ ∃ (v4 : Int32) (I5 : Nat → Nat → Int32) (J6 : Nat → Nat → Int64), Runs (GW L xs) d 211 (0, [.int v1], [], (zS I2 J3 tg)) ((some (.int v4)), (zS I5 J6 tg)) ∧ (if v4 = 0 then ((if ((I5 93 13) - (I5 93 14)) ≤ 7 then (r = (none, (zS I5 J6 tg))) else (r = (none, (zS I5 (up2 J6 93 17 0) tg))))) else ((if 7 ≤ ((I5 93 13) - (I5 93 14)) then (Runs (GW L xs) (d + 1) 213 (210, [.ref 93, .int x1, vU], [], (zS I5 J6 tg)) r) else (∃ (v7 : Int32) (I8 : Nat → Nat → Int32) (J9 : Nat → Nat → Int64), Runs (GW L xs) d 210 (0, [.ref 93, .int (I5 93 13)], [], (zS I5 J6 tg)) ((some (.int v7)), (zS I8 J9 tg)) ∧ Runs (GW L xs) (d + 1) 213 (210, [.ref 93, .int x1, vU], [], (zS I8 (up2 J9 93 17 (((J6 93 17) <<< (Int32.toInt64 8 &&& 63)) ||| (Int32.toInt64 v7))) tg)) r)))))) : Runs (GW L xs) (d + 1) 213 (161, [.ref 93, .int x1, vU], [], (zS I J tg)) r := by
  refine Runs.sN 3 (c' := (166, [.ref 93, .int x1, vU], [.int (I 93 13), .ref 93], (zS I J tg))) rfl ?_
  obtain ⟨v1, I2, J3, c10, h⟩ := h
  refine Runs.cl (cm := 210) (as := [.ref 93, .int (I 93 13)]) (rest := []) (r1 := ((some (.int v1)), (zS I2 J3 tg))) rfl (Nat.le_of_ble_eq_true rfl) c10 ?_
  refine Runs.as (c' := (169, [.ref 93, .int x1, vU], [.int v1], (zS I2 J3 tg))) rfl ?_
  obtain ⟨v4, I5, J6, c11, h⟩ := h
  refine Runs.cl (cm := 211) (as := [.int v1]) (rest := []) (r1 := ((some (.int v4)), (zS I5 J6 tg))) rfl (Nat.le_of_ble_eq_true rfl) c11 ?_
  refine Runs.as (c' := (172, [.ref 93, .int x1, vU], [.int v4], (zS I5 J6 tg))) rfl ?_
  by_cases c12 : v4 = 0
  · rw [if_pos c12] at h
    refine Runs.brT (P := v4 = 0) (a := 223) (b := 175) (L := [.ref 93, .int x1, vU]) (S := []) (z := (zS I5 J6 tg)) rfl c12 ?_
    refine Runs.sN 6 (c' := (234, [.ref 93, .int x1, vU], [.int 7, .int ((I5 93 13) - (I5 93 14))], (zS I5 J6 tg))) rfl ?_
    by_cases c13 : ((I5 93 13) - (I5 93 14)) ≤ 7
    · rw [if_pos c13] at h
      refine Runs.brT (P := ((I5 93 13) - (I5 93 14)) ≤ 7) (a := 384) (b := 237) (L := [.ref 93, .int x1, vU]) (S := []) (z := (zS I5 J6 tg)) rfl c13 ?_
      subst h
      exact Runs.rt rfl
    · rw [if_neg c13] at h
      refine Runs.brF (P := ((I5 93 13) - (I5 93 14)) ≤ 7) (a := 384) (b := 237) (L := [.ref 93, .int x1, vU]) (S := []) (z := (zS I5 J6 tg)) rfl c13 ?_
      refine Runs.sN 4 (c' := (384, [.ref 93, .int x1, vU], [], (zS I5 (up2 J6 93 17 0) tg))) rfl ?_
      subst h
      exact Runs.rt rfl
  · rw [if_neg c12] at h
    refine Runs.brF (P := v4 = 0) (a := 223) (b := 175) (L := [.ref 93, .int x1, vU]) (S := []) (z := (zS I5 J6 tg)) rfl c12 ?_
    refine Runs.sN 6 (c' := (186, [.ref 93, .int x1, vU], [.int 7, .int ((I5 93 13) - (I5 93 14))], (zS I5 J6 tg))) rfl ?_
    by_cases c14 : 7 ≤ ((I5 93 13) - (I5 93 14))
    · rw [if_pos c14] at h
      refine Runs.brT (P := 7 ≤ ((I5 93 13) - (I5 93 14))) (a := 210) (b := 189) (L := [.ref 93, .int x1, vU]) (S := []) (z := (zS I5 J6 tg)) rfl c14 ?_
      exact h
    · rw [if_neg c14] at h
      refine Runs.brF (P := 7 ≤ ((I5 93 13) - (I5 93 14))) (a := 210) (b := 189) (L := [.ref 93, .int x1, vU]) (S := []) (z := (zS I5 J6 tg)) rfl c14 ?_
      refine Runs.sN 8 (c' := (202, [.ref 93, .int x1, vU], [.int (I5 93 13), .ref 93, .long ((J6 93 17) <<< (Int32.toInt64 8 &&& 63)), .ref 93], (zS I5 J6 tg))) rfl ?_
      obtain ⟨v7, I8, J9, c15, h⟩ := h
      refine Runs.cl (cm := 210) (as := [.ref 93, .int (I5 93 13)]) (rest := [.long ((J6 93 17) <<< (Int32.toInt64 8 &&& 63)), .ref 93]) (r1 := ((some (.int v7)), (zS I8 J9 tg))) rfl (Nat.le_of_ble_eq_true rfl) c15 ?_
      refine Runs.as (c' := (205, [.ref 93, .int x1, vU], [.int v7, .long ((J6 93 17) <<< (Int32.toInt64 8 &&& 63)), .ref 93], (zS I8 J9 tg))) rfl ?_
      refine Runs.sN 3 (c' := (210, [.ref 93, .int x1, vU], [], (zS I8 (up2 J9 93 17 (((J6 93 17) <<< (Int32.toInt64 8 &&& 63)) ||| (Int32.toInt64 v7))) tg))) rfl ?_
      exact h
theorem sg_213_210 {L d : Nat} {xs : Nat → Int32} (I : Nat → Nat → Int32) (J : Nat → Nat → Int64) (tg : Option Nat) (x1 : Int32) {r : Option Value × SS} (h : (Runs (GW L xs) (d + 1) 213 (161, [.ref 93, .int x1, vU], [], (zS (up2 I 93 13 ((I 93 13) + 1)) J tg)) r)) : Runs (GW L xs) (d + 1) 213 (210, [.ref 93, .int x1, vU], [], (zS I J tg)) r := by
  refine Runs.sN 7 (c' := (161, [.ref 93, .int x1, vU], [], (zS (up2 I 93 13 ((I 93 13) + 1)) J tg))) rfl ?_
  exact h
theorem sg_213_315 {L d : Nat} {xs : Nat → Int32} (I : Nat → Nat → Int32) (J : Nat → Nat → Int64) (tg : Option Nat) (x1 : Int32) {r : Option Value × SS} (h : (Runs (GW L xs) (d + 1) 213 (320, [.ref 93, .int x1, vU], [.int 1], (zS I J tg)) r)) : Runs (GW L xs) (d + 1) 213 (315, [.ref 93, .int x1, vU], [], (zS I J tg)) r := by
  refine Runs.sN 2 (c' := (320, [.ref 93, .int x1, vU], [.int 1], (zS I J tg))) rfl ?_
  exact h
theorem sg_213_320 {L d : Nat} {xs : Nat → Int32} (I : Nat → Nat → Int32) (J : Nat → Nat → Int64) (tg : Option Nat) (x1 : Int32) (y0 : Int32) {r : Option Value × SS} (h : ((if y0 = 0 then (Runs (GW L xs) (d + 1) 213 (331, [.ref 93, .int x1, .int y0], [.int 3, .ref 93], (zS I J tg)) r) else (Runs (GW L xs) (d + 1) 213 (331, [.ref 93, .int x1, .int y0], [.int x1, .ref 93], (zS I J tg)) r)))) : Runs (GW L xs) (d + 1) 213 (320, [.ref 93, .int x1, vU], [.int y0], (zS I J tg)) r := by
  refine Runs.sN 3 (c' := (323, [.ref 93, .int x1, .int y0], [.int y0, .ref 93], (zS I J tg))) rfl ?_
  by_cases c1 : y0 = 0
  · rw [if_pos c1] at h
    refine Runs.brT (P := y0 = 0) (a := 330) (b := 326) (L := [.ref 93, .int x1, .int y0]) (S := [.ref 93]) (z := (zS I J tg)) rfl c1 ?_
    refine Runs.sN 1 (c' := (331, [.ref 93, .int x1, .int y0], [.int 3, .ref 93], (zS I J tg))) rfl ?_
    exact h
  · rw [if_neg c1] at h
    refine Runs.brF (P := y0 = 0) (a := 330) (b := 326) (L := [.ref 93, .int x1, .int y0]) (S := [.ref 93]) (z := (zS I J tg)) rfl c1 ?_
    refine Runs.sN 2 (c' := (331, [.ref 93, .int x1, .int y0], [.int x1, .ref 93], (zS I J tg))) rfl ?_
    exact h
theorem sg_213_331 {L d : Nat} {xs : Nat → Int32} (I : Nat → Nat → Int32) (J : Nat → Nat → Int64) (tg : Option Nat) (x1 : Int32) (x2 : Int32) (y1 : Int32) {r : Option Value × SS} (h : ((if x1 = 60 then (Runs (GW L xs) (d + 1) 213 (346, [.ref 93, .int x1, .int x2], [], (zS (up2 I 93 15 y1) J tg)) r) else ((if x1 = 62 then (Runs (GW L xs) (d + 1) 213 (346, [.ref 93, .int x1, .int x2], [], (zS (up2 I 93 15 y1) J tg)) r) else (r = (none, (zS (up2 I 93 15 y1) J tg)))))))) : Runs (GW L xs) (d + 1) 213 (331, [.ref 93, .int x1, .int x2], [.int y1, .ref 93], (zS I J tg)) r := by
  refine Runs.sN 3 (c' := (337, [.ref 93, .int x1, .int x2], [.int 60, .int x1], (zS (up2 I 93 15 y1) J tg))) rfl ?_
  by_cases c1 : x1 = 60
  · rw [if_pos c1] at h
    refine Runs.brT (P := x1 = 60) (a := 346) (b := 340) (L := [.ref 93, .int x1, .int x2]) (S := []) (z := (zS (up2 I 93 15 y1) J tg)) rfl c1 ?_
    exact h
  · rw [if_neg c1] at h
    refine Runs.brF (P := x1 = 60) (a := 346) (b := 340) (L := [.ref 93, .int x1, .int x2]) (S := []) (z := (zS (up2 I 93 15 y1) J tg)) rfl c1 ?_
    refine Runs.sN 2 (c' := (343, [.ref 93, .int x1, .int x2], [.int 62, .int x1], (zS (up2 I 93 15 y1) J tg))) rfl ?_
    by_cases c2 : x1 = 62
    · rw [if_pos c2] at h
      refine Runs.brT (P := x1 = 62) (a := 346) (b := 384) (L := [.ref 93, .int x1, .int x2]) (S := []) (z := (zS (up2 I 93 15 y1) J tg)) rfl c2 ?_
      exact h
    · rw [if_neg c2] at h
      refine Runs.brF (P := x1 = 62) (a := 346) (b := 384) (L := [.ref 93, .int x1, .int x2]) (S := []) (z := (zS (up2 I 93 15 y1) J tg)) rfl c2 ?_
      subst h
      exact Runs.rt rfl
theorem sg_213_346 {L d : Nat} {xs : Nat → Int32} (I : Nat → Nat → Int32) (J : Nat → Nat → Int64) (tg : Option Nat) (x1 : Int32) (x2 : Int32) {r : Option Value × SS} (h : (∃ (v1 : Int32) (I2 : Nat → Nat → Int32) (J3 : Nat → Nat → Int64), Runs (GW L xs) d 210 (0, [.ref 93, .int (I 93 13)], [], (zS I J tg)) ((some (.int v1)), (zS I2 J3 tg)) ∧ (if v1 = 61 then ((if x1 = 60 then (r = (none, (zS (up2 (up2 I2 93 13 ((I2 93 13) + 1)) 93 15 4) J3 tg))) else (r = (none, (zS (up2 (up2 I2 93 13 ((I2 93 13) + 1)) 93 15 5) J3 tg))))) else (r = (none, (zS I2 J3 tg)))))) : Runs (GW L xs) (d + 1) 213 (346, [.ref 93, .int x1, .int x2], [], (zS I J tg)) r := by
  refine Runs.sN 3 (c' := (351, [.ref 93, .int x1, .int x2], [.int (I 93 13), .ref 93], (zS I J tg))) rfl ?_
  obtain ⟨v1, I2, J3, c4, h⟩ := h
  refine Runs.cl (cm := 210) (as := [.ref 93, .int (I 93 13)]) (rest := []) (r1 := ((some (.int v1)), (zS I2 J3 tg))) rfl (Nat.le_of_ble_eq_true rfl) c4 ?_
  refine Runs.as (c' := (354, [.ref 93, .int x1, .int x2], [.int v1], (zS I2 J3 tg))) rfl ?_
  refine Runs.sN 1 (c' := (356, [.ref 93, .int x1, .int x2], [.int 61, .int v1], (zS I2 J3 tg))) rfl ?_
  by_cases c5 : v1 = 61
  · rw [if_pos c5] at h
    refine Runs.brT (P := v1 = 61) (a := 359) (b := 384) (L := [.ref 93, .int x1, .int x2]) (S := []) (z := (zS I2 J3 tg)) rfl c5 ?_
    refine Runs.sN 9 (c' := (373, [.ref 93, .int x1, .int x2], [.int 60, .int x1, .ref 93], (zS (up2 I2 93 13 ((I2 93 13) + 1)) J3 tg))) rfl ?_
    by_cases c6 : x1 = 60
    · rw [if_pos c6] at h
      refine Runs.brT (P := x1 = 60) (a := 376) (b := 380) (L := [.ref 93, .int x1, .int x2]) (S := [.ref 93]) (z := (zS (up2 I2 93 13 ((I2 93 13) + 1)) J3 tg)) rfl c6 ?_
      refine Runs.sN 3 (c' := (384, [.ref 93, .int x1, .int x2], [], (zS (up2 (up2 I2 93 13 ((I2 93 13) + 1)) 93 15 4) J3 tg))) rfl ?_
      subst h
      exact Runs.rt rfl
    · rw [if_neg c6] at h
      refine Runs.brF (P := x1 = 60) (a := 376) (b := 380) (L := [.ref 93, .int x1, .int x2]) (S := [.ref 93]) (z := (zS (up2 I2 93 13 ((I2 93 13) + 1)) J3 tg)) rfl c6 ?_
      refine Runs.sN 2 (c' := (384, [.ref 93, .int x1, .int x2], [], (zS (up2 (up2 I2 93 13 ((I2 93 13) + 1)) 93 15 5) J3 tg))) rfl ?_
      subst h
      exact Runs.rt rfl
  · rw [if_neg c5] at h
    refine Runs.brF (P := v1 = 61) (a := 359) (b := 384) (L := [.ref 93, .int x1, .int x2]) (S := []) (z := (zS I2 J3 tg)) rfl c5 ?_
    subst h
    exact Runs.rt rfl
-- X12_w3 
theorem sg_214 {L d : Nat} {xs : Nat → Int32} (I : Nat → Nat → Int32) (J : Nat → Nat → Int64) (tg : Option Nat) (a1 : Int32) (a2 : Int32) (a3 : Int32) {r : Option Value × SS} (h : (r = (some (.long (((((Int32.toInt64 a1) <<< (Int32.toInt64 8 &&& 63)) ||| (Int32.toInt64 a2)) <<< (Int32.toInt64 8 &&& 63)) ||| (Int32.toInt64 a3))), (zS I J tg)))) : Runs (GW L xs) d 214 (0, [.int a1, .int a2, .int a3], [], (zS I J tg)) r := by
  refine Runs.sN 12 (c' := (14, [.int a1, .int a2, .int a3], [.long (((((Int32.toInt64 a1) <<< (Int32.toInt64 8 &&& 63)) ||| (Int32.toInt64 a2)) <<< (Int32.toInt64 8 &&& 63)) ||| (Int32.toInt64 a3))], (zS I J tg))) rfl ?_
  subst h
  exact Runs.rt rfl
-- X12_w5 
theorem sg_215 {L d : Nat} {xs : Nat → Int32} (I : Nat → Nat → Int32) (J : Nat → Nat → Int64) (tg : Option Nat) (a1 : Int32) (a2 : Int32) (a3 : Int32) (a4 : Int32) (a5 : Int32) {r : Option Value × SS} (h : (∃ (v4 : Int64) (I5 : Nat → Nat → Int32) (J6 : Nat → Nat → Int64), Runs (GW L xs) d 214 (0, [.int a1, .int a2, .int a3], [], (zS I J tg)) ((some (.long v4)), (zS I5 J6 tg)) ∧ r = (some (.long ((((v4 <<< (Int32.toInt64 8 &&& 63)) ||| (Int32.toInt64 a4)) <<< (Int32.toInt64 8 &&& 63)) ||| (Int32.toInt64 a5))), (zS I5 J6 tg)))) : Runs (GW L xs) (d + 1) 215 (0, [.int a1, .int a2, .int a3, .int a4, .int a5], [], (zS I J tg)) r := by
  refine Runs.sN 3 (c' := (3, [.int a1, .int a2, .int a3, .int a4, .int a5], [.int a3, .int a2, .int a1], (zS I J tg))) rfl ?_
  obtain ⟨v4, I5, J6, c7, h⟩ := h
  refine Runs.cl (cm := 214) (as := [.int a1, .int a2, .int a3]) (rest := []) (r1 := ((some (.long v4)), (zS I5 J6 tg))) rfl (Nat.le_of_ble_eq_true rfl) c7 ?_
  refine Runs.as (c' := (6, [.int a1, .int a2, .int a3, .int a4, .int a5], [.long v4], (zS I5 J6 tg))) rfl ?_
  refine Runs.sN 10 (c' := (19, [.int a1, .int a2, .int a3, .int a4, .int a5], [.long ((((v4 <<< (Int32.toInt64 8 &&& 63)) ||| (Int32.toInt64 a4)) <<< (Int32.toInt64 8 &&& 63)) ||| (Int32.toInt64 a5))], (zS I5 J6 tg))) rfl ?_
  subst h
  exact Runs.rt rfl
-- X12_w4 
theorem sg_216 {L d : Nat} {xs : Nat → Int32} (I : Nat → Nat → Int32) (J : Nat → Nat → Int64) (tg : Option Nat) (a1 : Int32) (a2 : Int32) (a3 : Int32) (a4 : Int32) {r : Option Value × SS} (h : (∃ (v4 : Int64) (I5 : Nat → Nat → Int32) (J6 : Nat → Nat → Int64), Runs (GW L xs) d 214 (0, [.int a1, .int a2, .int a3], [], (zS I J tg)) ((some (.long v4)), (zS I5 J6 tg)) ∧ r = (some (.long ((v4 <<< (Int32.toInt64 8 &&& 63)) ||| (Int32.toInt64 a4))), (zS I5 J6 tg)))) : Runs (GW L xs) (d + 1) 216 (0, [.int a1, .int a2, .int a3, .int a4], [], (zS I J tg)) r := by
  refine Runs.sN 3 (c' := (3, [.int a1, .int a2, .int a3, .int a4], [.int a3, .int a2, .int a1], (zS I J tg))) rfl ?_
  obtain ⟨v4, I5, J6, c7, h⟩ := h
  refine Runs.cl (cm := 214) (as := [.int a1, .int a2, .int a3]) (rest := []) (r1 := ((some (.long v4)), (zS I5 J6 tg))) rfl (Nat.le_of_ble_eq_true rfl) c7 ?_
  refine Runs.as (c' := (6, [.int a1, .int a2, .int a3, .int a4], [.long v4], (zS I5 J6 tg))) rfl ?_
  refine Runs.sN 5 (c' := (12, [.int a1, .int a2, .int a3, .int a4], [.long ((v4 <<< (Int32.toInt64 8 &&& 63)) ||| (Int32.toInt64 a4))], (zS I5 J6 tg))) rfl ?_
  subst h
  exact Runs.rt rfl
-- X12_w6 
theorem sg_217 {L d : Nat} {xs : Nat → Int32} (I : Nat → Nat → Int32) (J : Nat → Nat → Int64) (tg : Option Nat) (a1 : Int32) (a2 : Int32) (a3 : Int32) (a4 : Int32) (a5 : Int32) (a6 : Int32) {r : Option Value × SS} (h : (∃ (v4 : Int64) (I5 : Nat → Nat → Int32) (J6 : Nat → Nat → Int64), Runs (GW L xs) d 215 (0, [.int a1, .int a2, .int a3, .int a4, .int a5], [], (zS I J tg)) ((some (.long v4)), (zS I5 J6 tg)) ∧ r = (some (.long ((v4 <<< (Int32.toInt64 8 &&& 63)) ||| (Int32.toInt64 a6))), (zS I5 J6 tg)))) : Runs (GW L xs) (d + 1) 217 (0, [.int a1, .int a2, .int a3, .int a4, .int a5, .int a6], [], (zS I J tg)) r := by
  refine Runs.sN 5 (c' := (6, [.int a1, .int a2, .int a3, .int a4, .int a5, .int a6], [.int a5, .int a4, .int a3, .int a2, .int a1], (zS I J tg))) rfl ?_
  obtain ⟨v4, I5, J6, c7, h⟩ := h
  refine Runs.cl (cm := 215) (as := [.int a1, .int a2, .int a3, .int a4, .int a5]) (rest := []) (r1 := ((some (.long v4)), (zS I5 J6 tg))) rfl (Nat.le_of_ble_eq_true rfl) c7 ?_
  refine Runs.as (c' := (9, [.int a1, .int a2, .int a3, .int a4, .int a5, .int a6], [.long v4], (zS I5 J6 tg))) rfl ?_
  refine Runs.sN 5 (c' := (16, [.int a1, .int a2, .int a3, .int a4, .int a5, .int a6], [.long ((v4 <<< (Int32.toInt64 8 &&& 63)) ||| (Int32.toInt64 a6))], (zS I5 J6 tg))) rfl ?_
  subst h
  exact Runs.rt rfl
-- X12_isWord 
theorem sg_218 {L d : Nat} {xs : Nat → Int32} (I : Nat → Nat → Int32) (J : Nat → Nat → Int64) (tg : Option Nat) (a1 : Int64) {r : Option Value × SS} (h : ((if (I 93 15) = 2 then ((if (lg_cmp (J 93 17) a1) = 0 then (r = (some (.int 1), (zS I J tg))) else (r = (some (.int 0), (zS I J tg))))) else (r = (some (.int 0), (zS I J tg)))))) : Runs (GW L xs) d 218 (0, [.ref 93, .long a1, vU], [], (zS I J tg)) r := by
  refine Runs.sN 3 (c' := (5, [.ref 93, .long a1, vU], [.int 2, .int (I 93 15)], (zS I J tg))) rfl ?_
  by_cases c1 : (I 93 15) = 2
  · rw [if_pos c1] at h
    refine Runs.brT (P := (I 93 15) = 2) (a := 8) (b := 21) (L := [.ref 93, .long a1, vU]) (S := []) (z := (zS I J tg)) rfl c1 ?_
    refine Runs.sN 4 (c' := (14, [.ref 93, .long a1, vU], [.int (lg_cmp (J 93 17) a1)], (zS I J tg))) rfl ?_
    by_cases c2 : (lg_cmp (J 93 17) a1) = 0
    · rw [if_pos c2] at h
      refine Runs.brT (P := (lg_cmp (J 93 17) a1) = 0) (a := 17) (b := 21) (L := [.ref 93, .long a1, vU]) (S := []) (z := (zS I J tg)) rfl c2 ?_
      refine Runs.sN 2 (c' := (22, [.ref 93, .long a1, vU], [.int 1], (zS I J tg))) rfl ?_
      subst h
      exact Runs.rt rfl
    · rw [if_neg c2] at h
      refine Runs.brF (P := (lg_cmp (J 93 17) a1) = 0) (a := 17) (b := 21) (L := [.ref 93, .long a1, vU]) (S := []) (z := (zS I J tg)) rfl c2 ?_
      refine Runs.sN 1 (c' := (22, [.ref 93, .long a1, vU], [.int 0], (zS I J tg))) rfl ?_
      subst h
      exact Runs.rt rfl
  · rw [if_neg c1] at h
    refine Runs.brF (P := (I 93 15) = 2) (a := 8) (b := 21) (L := [.ref 93, .long a1, vU]) (S := []) (z := (zS I J tg)) rfl c1 ?_
    refine Runs.sN 1 (c' := (22, [.ref 93, .long a1, vU], [.int 0], (zS I J tg))) rfl ?_
    subst h
    exact Runs.rt rfl
-- X12_emit 
theorem sg_219 {L d : Nat} {xs : Nat → Int32} (I : Nat → Nat → Int32) (J : Nat → Nat → Int64) (tg : Option Nat) (a1 : Int32) (a2 : Int32) {r : Option Value × SS} (h : (¬ ((((I 93 18) + 50) + (2 * (I 93 20))) < 0 ∨ 3200 ≤ (((I 93 18) + 50) + (2 * (I 93 20))).toNatClampNeg) ∧ ¬ (((((I 93 18) + 50) + (2 * (I 93 20))) + 1) < 0 ∨ 3200 ≤ ((((I 93 18) + 50) + (2 * (I 93 20))) + 1).toNatClampNeg) ∧ r = (none, (zS (up2 (up2 (up2 I 96 ((((I 93 18) + 50) + (2 * (I 93 20))).toNatClampNeg) a1) 96 (((((I 93 18) + 50) + (2 * (I 93 20))) + 1).toNatClampNeg) a2) 93 20 ((I 93 20) + 1)) J tg)))) : Runs (GW L xs) d 219 (0, [.ref 93, .int a1, .int a2], [], (zS I J tg)) r := by
  refine Runs.sN 12 (c' := (19, [.ref 93, .int a1, .int a2], [.int a1, .int (((I 93 18) + 50) + (2 * (I 93 20))), .ref 96], (zS I J tg))) rfl ?_
  obtain ⟨c1, h⟩ := h
  refine Runs.to (c' := (20, [.ref 93, .int a1, .int a2], [], (zS (up2 I 96 ((((I 93 18) + 50) + (2 * (I 93 20))).toNatClampNeg) a1) J tg))) (Runs.ist rfl (show (96 : Nat) < 114 by decide) rfl c1) ?_
  refine Runs.sN 14 (c' := (41, [.ref 93, .int a1, .int a2], [.int a2, .int ((((I 93 18) + 50) + (2 * (I 93 20))) + 1), .ref 96], (zS (up2 I 96 ((((I 93 18) + 50) + (2 * (I 93 20))).toNatClampNeg) a1) J tg))) rfl ?_
  obtain ⟨c2, h⟩ := h
  refine Runs.to (c' := (42, [.ref 93, .int a1, .int a2], [], (zS (up2 (up2 I 96 ((((I 93 18) + 50) + (2 * (I 93 20))).toNatClampNeg) a1) 96 (((((I 93 18) + 50) + (2 * (I 93 20))) + 1).toNatClampNeg) a2) J tg))) (Runs.ist rfl (show (96 : Nat) < 114 by decide) rfl c2) ?_
  refine Runs.sN 6 (c' := (52, [.ref 93, .int a1, .int a2], [], (zS (up2 (up2 (up2 I 96 ((((I 93 18) + 50) + (2 * (I 93 20))).toNatClampNeg) a1) 96 (((((I 93 18) + 50) + (2 * (I 93 20))) + 1).toNatClampNeg) a2) 93 20 ((I 93 20) + 1)) J tg))) rfl ?_
  subst h
  exact Runs.rt rfl
