-- X2_openClause g47
theorem sg_23g47 {L d : Nat} {xs : Nat → Int32} (I : Nat → Nat → Int32) (J : Nat → Nat → Int64) (tg : Option Nat) (a1 : Int32) {r : Option Value × SS} (h : ((if 10 ≤ (I 47 4) then (r = (none, (zS I J tg))) else (¬ ((I 47 4) < 0 ∨ 10 ≤ (I 47 4).toNatClampNeg) ∧ (if a1 = 6 then (r = (none, (zS (up2 (up2 I 49 ((I 47 4).toNatClampNeg) a1) 47 6 (I 47 4)) J tg))) else (r = (none, (zS (up2 (up2 I 49 ((I 47 4).toNatClampNeg) a1) 47 6 (I 47 6)) J tg)))))))) : Runs (GW L xs) d 23 (0, [.ref 47, .int a1], [], (zS I J tg)) r := by
  refine Runs.sN 3 (c' := (6, [.ref 47, .int a1], [.int 10, .int (I 47 4)], (zS I J tg))) rfl ?_
  by_cases c1 : 10 ≤ (I 47 4)
  · rw [if_pos c1] at h
    refine Runs.brT (P := 10 ≤ (I 47 4)) (a := 40) (b := 9) (L := [.ref 47, .int a1]) (S := []) (z := (zS I J tg)) rfl c1 ?_
    subst h
    exact Runs.rt rfl
  · rw [if_neg c1] at h
    refine Runs.brF (P := 10 ≤ (I 47 4)) (a := 40) (b := 9) (L := [.ref 47, .int a1]) (S := []) (z := (zS I J tg)) rfl c1 ?_
    refine Runs.sN 5 (c' := (18, [.ref 47, .int a1], [.int a1, .int (I 47 4), .ref 49], (zS I J tg))) rfl ?_
    obtain ⟨c2, h⟩ := h
    refine Runs.to (c' := (19, [.ref 47, .int a1], [], (zS (up2 I 49 ((I 47 4).toNatClampNeg) a1) J tg))) (Runs.ist rfl (show (49 : Nat) < 114 by decide) rfl c2) ?_
    refine Runs.sN 3 (c' := (23, [.ref 47, .int a1], [.int 6, .int a1, .ref 47], (zS (up2 I 49 ((I 47 4).toNatClampNeg) a1) J tg))) rfl ?_
    by_cases c3 : a1 = 6
    · rw [if_pos c3] at h
      refine Runs.brT (P := a1 = 6) (a := 26) (b := 33) (L := [.ref 47, .int a1]) (S := [.ref 47]) (z := (zS (up2 I 49 ((I 47 4).toNatClampNeg) a1) J tg)) rfl c3 ?_
      refine Runs.sN 4 (c' := (40, [.ref 47, .int a1], [], (zS (up2 (up2 I 49 ((I 47 4).toNatClampNeg) a1) 47 6 (I 47 4)) J tg))) rfl ?_
      subst h
      exact Runs.rt rfl
    · rw [if_neg c3] at h
      refine Runs.brF (P := a1 = 6) (a := 26) (b := 33) (L := [.ref 47, .int a1]) (S := [.ref 47]) (z := (zS (up2 I 49 ((I 47 4).toNatClampNeg) a1) J tg)) rfl c3 ?_
      refine Runs.sN 3 (c' := (40, [.ref 47, .int a1], [], (zS (up2 (up2 I 49 ((I 47 4).toNatClampNeg) a1) 47 6 (I 47 6)) J tg))) rfl ?_
      subst h
      exact Runs.rt rfl
-- X2_openClause g51
theorem sg_23g51 {L d : Nat} {xs : Nat → Int32} (I : Nat → Nat → Int32) (J : Nat → Nat → Int64) (tg : Option Nat) (a1 : Int32) {r : Option Value × SS} (h : ((if 10 ≤ (I 51 4) then (r = (none, (zS I J tg))) else (¬ ((I 51 4) < 0 ∨ 10 ≤ (I 51 4).toNatClampNeg) ∧ (if a1 = 6 then (r = (none, (zS (up2 (up2 I 53 ((I 51 4).toNatClampNeg) a1) 51 6 (I 51 4)) J tg))) else (r = (none, (zS (up2 (up2 I 53 ((I 51 4).toNatClampNeg) a1) 51 6 (I 51 6)) J tg)))))))) : Runs (GW L xs) d 23 (0, [.ref 51, .int a1], [], (zS I J tg)) r := by
  refine Runs.sN 3 (c' := (6, [.ref 51, .int a1], [.int 10, .int (I 51 4)], (zS I J tg))) rfl ?_
  by_cases c1 : 10 ≤ (I 51 4)
  · rw [if_pos c1] at h
    refine Runs.brT (P := 10 ≤ (I 51 4)) (a := 40) (b := 9) (L := [.ref 51, .int a1]) (S := []) (z := (zS I J tg)) rfl c1 ?_
    subst h
    exact Runs.rt rfl
  · rw [if_neg c1] at h
    refine Runs.brF (P := 10 ≤ (I 51 4)) (a := 40) (b := 9) (L := [.ref 51, .int a1]) (S := []) (z := (zS I J tg)) rfl c1 ?_
    refine Runs.sN 5 (c' := (18, [.ref 51, .int a1], [.int a1, .int (I 51 4), .ref 53], (zS I J tg))) rfl ?_
    obtain ⟨c2, h⟩ := h
    refine Runs.to (c' := (19, [.ref 51, .int a1], [], (zS (up2 I 53 ((I 51 4).toNatClampNeg) a1) J tg))) (Runs.ist rfl (show (53 : Nat) < 114 by decide) rfl c2) ?_
    refine Runs.sN 3 (c' := (23, [.ref 51, .int a1], [.int 6, .int a1, .ref 51], (zS (up2 I 53 ((I 51 4).toNatClampNeg) a1) J tg))) rfl ?_
    by_cases c3 : a1 = 6
    · rw [if_pos c3] at h
      refine Runs.brT (P := a1 = 6) (a := 26) (b := 33) (L := [.ref 51, .int a1]) (S := [.ref 51]) (z := (zS (up2 I 53 ((I 51 4).toNatClampNeg) a1) J tg)) rfl c3 ?_
      refine Runs.sN 4 (c' := (40, [.ref 51, .int a1], [], (zS (up2 (up2 I 53 ((I 51 4).toNatClampNeg) a1) 51 6 (I 51 4)) J tg))) rfl ?_
      subst h
      exact Runs.rt rfl
    · rw [if_neg c3] at h
      refine Runs.brF (P := a1 = 6) (a := 26) (b := 33) (L := [.ref 51, .int a1]) (S := [.ref 51]) (z := (zS (up2 I 53 ((I 51 4).toNatClampNeg) a1) J tg)) rfl c3 ?_
      refine Runs.sN 3 (c' := (40, [.ref 51, .int a1], [], (zS (up2 (up2 I 53 ((I 51 4).toNatClampNeg) a1) 51 6 (I 51 6)) J tg))) rfl ?_
      subst h
      exact Runs.rt rfl
-- X2_openClause g55
theorem sg_23g55 {L d : Nat} {xs : Nat → Int32} (I : Nat → Nat → Int32) (J : Nat → Nat → Int64) (tg : Option Nat) (a1 : Int32) {r : Option Value × SS} (h : ((if 10 ≤ (I 55 4) then (r = (none, (zS I J tg))) else (¬ ((I 55 4) < 0 ∨ 10 ≤ (I 55 4).toNatClampNeg) ∧ (if a1 = 6 then (r = (none, (zS (up2 (up2 I 57 ((I 55 4).toNatClampNeg) a1) 55 6 (I 55 4)) J tg))) else (r = (none, (zS (up2 (up2 I 57 ((I 55 4).toNatClampNeg) a1) 55 6 (I 55 6)) J tg)))))))) : Runs (GW L xs) d 23 (0, [.ref 55, .int a1], [], (zS I J tg)) r := by
  refine Runs.sN 3 (c' := (6, [.ref 55, .int a1], [.int 10, .int (I 55 4)], (zS I J tg))) rfl ?_
  by_cases c1 : 10 ≤ (I 55 4)
  · rw [if_pos c1] at h
    refine Runs.brT (P := 10 ≤ (I 55 4)) (a := 40) (b := 9) (L := [.ref 55, .int a1]) (S := []) (z := (zS I J tg)) rfl c1 ?_
    subst h
    exact Runs.rt rfl
  · rw [if_neg c1] at h
    refine Runs.brF (P := 10 ≤ (I 55 4)) (a := 40) (b := 9) (L := [.ref 55, .int a1]) (S := []) (z := (zS I J tg)) rfl c1 ?_
    refine Runs.sN 5 (c' := (18, [.ref 55, .int a1], [.int a1, .int (I 55 4), .ref 57], (zS I J tg))) rfl ?_
    obtain ⟨c2, h⟩ := h
    refine Runs.to (c' := (19, [.ref 55, .int a1], [], (zS (up2 I 57 ((I 55 4).toNatClampNeg) a1) J tg))) (Runs.ist rfl (show (57 : Nat) < 114 by decide) rfl c2) ?_
    refine Runs.sN 3 (c' := (23, [.ref 55, .int a1], [.int 6, .int a1, .ref 55], (zS (up2 I 57 ((I 55 4).toNatClampNeg) a1) J tg))) rfl ?_
    by_cases c3 : a1 = 6
    · rw [if_pos c3] at h
      refine Runs.brT (P := a1 = 6) (a := 26) (b := 33) (L := [.ref 55, .int a1]) (S := [.ref 55]) (z := (zS (up2 I 57 ((I 55 4).toNatClampNeg) a1) J tg)) rfl c3 ?_
      refine Runs.sN 4 (c' := (40, [.ref 55, .int a1], [], (zS (up2 (up2 I 57 ((I 55 4).toNatClampNeg) a1) 55 6 (I 55 4)) J tg))) rfl ?_
      subst h
      exact Runs.rt rfl
    · rw [if_neg c3] at h
      refine Runs.brF (P := a1 = 6) (a := 26) (b := 33) (L := [.ref 55, .int a1]) (S := [.ref 55]) (z := (zS (up2 I 57 ((I 55 4).toNatClampNeg) a1) J tg)) rfl c3 ?_
      refine Runs.sN 3 (c' := (40, [.ref 55, .int a1], [], (zS (up2 (up2 I 57 ((I 55 4).toNatClampNeg) a1) 55 6 (I 55 6)) J tg))) rfl ?_
      subst h
      exact Runs.rt rfl
-- X2_openClause g59
theorem sg_23g59 {L d : Nat} {xs : Nat → Int32} (I : Nat → Nat → Int32) (J : Nat → Nat → Int64) (tg : Option Nat) (a1 : Int32) {r : Option Value × SS} (h : ((if 10 ≤ (I 59 4) then (r = (none, (zS I J tg))) else (¬ ((I 59 4) < 0 ∨ 10 ≤ (I 59 4).toNatClampNeg) ∧ (if a1 = 6 then (r = (none, (zS (up2 (up2 I 61 ((I 59 4).toNatClampNeg) a1) 59 6 (I 59 4)) J tg))) else (r = (none, (zS (up2 (up2 I 61 ((I 59 4).toNatClampNeg) a1) 59 6 (I 59 6)) J tg)))))))) : Runs (GW L xs) d 23 (0, [.ref 59, .int a1], [], (zS I J tg)) r := by
  refine Runs.sN 3 (c' := (6, [.ref 59, .int a1], [.int 10, .int (I 59 4)], (zS I J tg))) rfl ?_
  by_cases c1 : 10 ≤ (I 59 4)
  · rw [if_pos c1] at h
    refine Runs.brT (P := 10 ≤ (I 59 4)) (a := 40) (b := 9) (L := [.ref 59, .int a1]) (S := []) (z := (zS I J tg)) rfl c1 ?_
    subst h
    exact Runs.rt rfl
  · rw [if_neg c1] at h
    refine Runs.brF (P := 10 ≤ (I 59 4)) (a := 40) (b := 9) (L := [.ref 59, .int a1]) (S := []) (z := (zS I J tg)) rfl c1 ?_
    refine Runs.sN 5 (c' := (18, [.ref 59, .int a1], [.int a1, .int (I 59 4), .ref 61], (zS I J tg))) rfl ?_
    obtain ⟨c2, h⟩ := h
    refine Runs.to (c' := (19, [.ref 59, .int a1], [], (zS (up2 I 61 ((I 59 4).toNatClampNeg) a1) J tg))) (Runs.ist rfl (show (61 : Nat) < 114 by decide) rfl c2) ?_
    refine Runs.sN 3 (c' := (23, [.ref 59, .int a1], [.int 6, .int a1, .ref 59], (zS (up2 I 61 ((I 59 4).toNatClampNeg) a1) J tg))) rfl ?_
    by_cases c3 : a1 = 6
    · rw [if_pos c3] at h
      refine Runs.brT (P := a1 = 6) (a := 26) (b := 33) (L := [.ref 59, .int a1]) (S := [.ref 59]) (z := (zS (up2 I 61 ((I 59 4).toNatClampNeg) a1) J tg)) rfl c3 ?_
      refine Runs.sN 4 (c' := (40, [.ref 59, .int a1], [], (zS (up2 (up2 I 61 ((I 59 4).toNatClampNeg) a1) 59 6 (I 59 4)) J tg))) rfl ?_
      subst h
      exact Runs.rt rfl
    · rw [if_neg c3] at h
      refine Runs.brF (P := a1 = 6) (a := 26) (b := 33) (L := [.ref 59, .int a1]) (S := [.ref 59]) (z := (zS (up2 I 61 ((I 59 4).toNatClampNeg) a1) J tg)) rfl c3 ?_
      refine Runs.sN 3 (c' := (40, [.ref 59, .int a1], [], (zS (up2 (up2 I 61 ((I 59 4).toNatClampNeg) a1) 59 6 (I 59 6)) J tg))) rfl ?_
      subst h
      exact Runs.rt rfl
-- X2_closeClause g47
theorem sg_24g47 {L d : Nat} {xs : Nat → Int32} (I : Nat → Nat → Int32) (J : Nat → Nat → Int64) (tg : Option Nat) {r : Option Value × SS} (h : ((if 10 ≤ (I 47 4) then (r = (none, (zS I J tg))) else (¬ (((I 47 4) + 1) < 0 ∨ 11 ≤ ((I 47 4) + 1).toNatClampNeg) ∧ r = (none, (zS (up2 (up2 I 47 4 ((I 47 4) + 1)) 50 (((I 47 4) + 1).toNatClampNeg) (I 47 5)) J tg)))))) : Runs (GW L xs) d 24 (0, [.ref 47], [], (zS I J tg)) r := by
  refine Runs.sN 3 (c' := (6, [.ref 47], [.int 10, .int (I 47 4)], (zS I J tg))) rfl ?_
  by_cases c1 : 10 ≤ (I 47 4)
  · rw [if_pos c1] at h
    refine Runs.brT (P := 10 ≤ (I 47 4)) (a := 32) (b := 9) (L := [.ref 47]) (S := []) (z := (zS I J tg)) rfl c1 ?_
    subst h
    exact Runs.rt rfl
  · rw [if_neg c1] at h
    refine Runs.brF (P := 10 ≤ (I 47 4)) (a := 32) (b := 9) (L := [.ref 47]) (S := []) (z := (zS I J tg)) rfl c1 ?_
    refine Runs.sN 12 (c' := (31, [.ref 47], [.int (I 47 5), .int ((I 47 4) + 1), .ref 50], (zS (up2 I 47 4 ((I 47 4) + 1)) J tg))) rfl ?_
    obtain ⟨c2, h⟩ := h
    refine Runs.to (c' := (32, [.ref 47], [], (zS (up2 (up2 I 47 4 ((I 47 4) + 1)) 50 (((I 47 4) + 1).toNatClampNeg) (I 47 5)) J tg))) (Runs.ist rfl (show (50 : Nat) < 114 by decide) rfl c2) ?_
    subst h
    exact Runs.rt rfl
-- X2_closeClause g51
theorem sg_24g51 {L d : Nat} {xs : Nat → Int32} (I : Nat → Nat → Int32) (J : Nat → Nat → Int64) (tg : Option Nat) {r : Option Value × SS} (h : ((if 10 ≤ (I 51 4) then (r = (none, (zS I J tg))) else (¬ (((I 51 4) + 1) < 0 ∨ 11 ≤ ((I 51 4) + 1).toNatClampNeg) ∧ r = (none, (zS (up2 (up2 I 51 4 ((I 51 4) + 1)) 54 (((I 51 4) + 1).toNatClampNeg) (I 51 5)) J tg)))))) : Runs (GW L xs) d 24 (0, [.ref 51], [], (zS I J tg)) r := by
  refine Runs.sN 3 (c' := (6, [.ref 51], [.int 10, .int (I 51 4)], (zS I J tg))) rfl ?_
  by_cases c1 : 10 ≤ (I 51 4)
  · rw [if_pos c1] at h
    refine Runs.brT (P := 10 ≤ (I 51 4)) (a := 32) (b := 9) (L := [.ref 51]) (S := []) (z := (zS I J tg)) rfl c1 ?_
    subst h
    exact Runs.rt rfl
  · rw [if_neg c1] at h
    refine Runs.brF (P := 10 ≤ (I 51 4)) (a := 32) (b := 9) (L := [.ref 51]) (S := []) (z := (zS I J tg)) rfl c1 ?_
    refine Runs.sN 12 (c' := (31, [.ref 51], [.int (I 51 5), .int ((I 51 4) + 1), .ref 54], (zS (up2 I 51 4 ((I 51 4) + 1)) J tg))) rfl ?_
    obtain ⟨c2, h⟩ := h
    refine Runs.to (c' := (32, [.ref 51], [], (zS (up2 (up2 I 51 4 ((I 51 4) + 1)) 54 (((I 51 4) + 1).toNatClampNeg) (I 51 5)) J tg))) (Runs.ist rfl (show (54 : Nat) < 114 by decide) rfl c2) ?_
    subst h
    exact Runs.rt rfl
-- X2_closeClause g55
theorem sg_24g55 {L d : Nat} {xs : Nat → Int32} (I : Nat → Nat → Int32) (J : Nat → Nat → Int64) (tg : Option Nat) {r : Option Value × SS} (h : ((if 10 ≤ (I 55 4) then (r = (none, (zS I J tg))) else (¬ (((I 55 4) + 1) < 0 ∨ 11 ≤ ((I 55 4) + 1).toNatClampNeg) ∧ r = (none, (zS (up2 (up2 I 55 4 ((I 55 4) + 1)) 58 (((I 55 4) + 1).toNatClampNeg) (I 55 5)) J tg)))))) : Runs (GW L xs) d 24 (0, [.ref 55], [], (zS I J tg)) r := by
  refine Runs.sN 3 (c' := (6, [.ref 55], [.int 10, .int (I 55 4)], (zS I J tg))) rfl ?_
  by_cases c1 : 10 ≤ (I 55 4)
  · rw [if_pos c1] at h
    refine Runs.brT (P := 10 ≤ (I 55 4)) (a := 32) (b := 9) (L := [.ref 55]) (S := []) (z := (zS I J tg)) rfl c1 ?_
    subst h
    exact Runs.rt rfl
  · rw [if_neg c1] at h
    refine Runs.brF (P := 10 ≤ (I 55 4)) (a := 32) (b := 9) (L := [.ref 55]) (S := []) (z := (zS I J tg)) rfl c1 ?_
    refine Runs.sN 12 (c' := (31, [.ref 55], [.int (I 55 5), .int ((I 55 4) + 1), .ref 58], (zS (up2 I 55 4 ((I 55 4) + 1)) J tg))) rfl ?_
    obtain ⟨c2, h⟩ := h
    refine Runs.to (c' := (32, [.ref 55], [], (zS (up2 (up2 I 55 4 ((I 55 4) + 1)) 58 (((I 55 4) + 1).toNatClampNeg) (I 55 5)) J tg))) (Runs.ist rfl (show (58 : Nat) < 114 by decide) rfl c2) ?_
    subst h
    exact Runs.rt rfl
-- X2_closeClause g59
theorem sg_24g59 {L d : Nat} {xs : Nat → Int32} (I : Nat → Nat → Int32) (J : Nat → Nat → Int64) (tg : Option Nat) {r : Option Value × SS} (h : ((if 10 ≤ (I 59 4) then (r = (none, (zS I J tg))) else (¬ (((I 59 4) + 1) < 0 ∨ 11 ≤ ((I 59 4) + 1).toNatClampNeg) ∧ r = (none, (zS (up2 (up2 I 59 4 ((I 59 4) + 1)) 62 (((I 59 4) + 1).toNatClampNeg) (I 59 5)) J tg)))))) : Runs (GW L xs) d 24 (0, [.ref 59], [], (zS I J tg)) r := by
  refine Runs.sN 3 (c' := (6, [.ref 59], [.int 10, .int (I 59 4)], (zS I J tg))) rfl ?_
  by_cases c1 : 10 ≤ (I 59 4)
  · rw [if_pos c1] at h
    refine Runs.brT (P := 10 ≤ (I 59 4)) (a := 32) (b := 9) (L := [.ref 59]) (S := []) (z := (zS I J tg)) rfl c1 ?_
    subst h
    exact Runs.rt rfl
  · rw [if_neg c1] at h
    refine Runs.brF (P := 10 ≤ (I 59 4)) (a := 32) (b := 9) (L := [.ref 59]) (S := []) (z := (zS I J tg)) rfl c1 ?_
    refine Runs.sN 12 (c' := (31, [.ref 59], [.int (I 59 5), .int ((I 59 4) + 1), .ref 62], (zS (up2 I 59 4 ((I 59 4) + 1)) J tg))) rfl ?_
    obtain ⟨c2, h⟩ := h
    refine Runs.to (c' := (32, [.ref 59], [], (zS (up2 (up2 I 59 4 ((I 59 4) + 1)) 62 (((I 59 4) + 1).toNatClampNeg) (I 59 5)) J tg))) (Runs.ist rfl (show (62 : Nat) < 114 by decide) rfl c2) ?_
    subst h
    exact Runs.rt rfl
-- X2_emit g47
theorem sg_25g47 {L d : Nat} {xs : Nat → Int32} (I : Nat → Nat → Int32) (J : Nat → Nat → Int64) (tg : Option Nat) (a1 : Int32) {r : Option Value × SS} (h : ((if 300 ≤ (I 47 5) then (r = (none, (zS I J tg))) else (¬ ((I 47 5) < 0 ∨ 300 ≤ (I 47 5).toNatClampNeg) ∧ r = (none, (zS (up2 (up2 I 48 ((I 47 5).toNatClampNeg) a1) 47 5 ((I 47 5) + 1)) J tg)))))) : Runs (GW L xs) d 25 (0, [.ref 47, .int a1], [], (zS I J tg)) r := by
  refine Runs.sN 3 (c' := (7, [.ref 47, .int a1], [.int 300, .int (I 47 5)], (zS I J tg))) rfl ?_
  by_cases c1 : 300 ≤ (I 47 5)
  · rw [if_pos c1] at h
    refine Runs.brT (P := 300 ≤ (I 47 5)) (a := 30) (b := 10) (L := [.ref 47, .int a1]) (S := []) (z := (zS I J tg)) rfl c1 ?_
    subst h
    exact Runs.rt rfl
  · rw [if_neg c1] at h
    refine Runs.brF (P := 300 ≤ (I 47 5)) (a := 30) (b := 10) (L := [.ref 47, .int a1]) (S := []) (z := (zS I J tg)) rfl c1 ?_
    refine Runs.sN 5 (c' := (19, [.ref 47, .int a1], [.int a1, .int (I 47 5), .ref 48], (zS I J tg))) rfl ?_
    obtain ⟨c2, h⟩ := h
    refine Runs.to (c' := (20, [.ref 47, .int a1], [], (zS (up2 I 48 ((I 47 5).toNatClampNeg) a1) J tg))) (Runs.ist rfl (show (48 : Nat) < 114 by decide) rfl c2) ?_
    refine Runs.sN 6 (c' := (30, [.ref 47, .int a1], [], (zS (up2 (up2 I 48 ((I 47 5).toNatClampNeg) a1) 47 5 ((I 47 5) + 1)) J tg))) rfl ?_
    subst h
    exact Runs.rt rfl
-- X2_emit g51
theorem sg_25g51 {L d : Nat} {xs : Nat → Int32} (I : Nat → Nat → Int32) (J : Nat → Nat → Int64) (tg : Option Nat) (a1 : Int32) {r : Option Value × SS} (h : ((if 300 ≤ (I 51 5) then (r = (none, (zS I J tg))) else (¬ ((I 51 5) < 0 ∨ 300 ≤ (I 51 5).toNatClampNeg) ∧ r = (none, (zS (up2 (up2 I 52 ((I 51 5).toNatClampNeg) a1) 51 5 ((I 51 5) + 1)) J tg)))))) : Runs (GW L xs) d 25 (0, [.ref 51, .int a1], [], (zS I J tg)) r := by
  refine Runs.sN 3 (c' := (7, [.ref 51, .int a1], [.int 300, .int (I 51 5)], (zS I J tg))) rfl ?_
  by_cases c1 : 300 ≤ (I 51 5)
  · rw [if_pos c1] at h
    refine Runs.brT (P := 300 ≤ (I 51 5)) (a := 30) (b := 10) (L := [.ref 51, .int a1]) (S := []) (z := (zS I J tg)) rfl c1 ?_
    subst h
    exact Runs.rt rfl
  · rw [if_neg c1] at h
    refine Runs.brF (P := 300 ≤ (I 51 5)) (a := 30) (b := 10) (L := [.ref 51, .int a1]) (S := []) (z := (zS I J tg)) rfl c1 ?_
    refine Runs.sN 5 (c' := (19, [.ref 51, .int a1], [.int a1, .int (I 51 5), .ref 52], (zS I J tg))) rfl ?_
    obtain ⟨c2, h⟩ := h
    refine Runs.to (c' := (20, [.ref 51, .int a1], [], (zS (up2 I 52 ((I 51 5).toNatClampNeg) a1) J tg))) (Runs.ist rfl (show (52 : Nat) < 114 by decide) rfl c2) ?_
    refine Runs.sN 6 (c' := (30, [.ref 51, .int a1], [], (zS (up2 (up2 I 52 ((I 51 5).toNatClampNeg) a1) 51 5 ((I 51 5) + 1)) J tg))) rfl ?_
    subst h
    exact Runs.rt rfl
-- X2_emit g55
theorem sg_25g55 {L d : Nat} {xs : Nat → Int32} (I : Nat → Nat → Int32) (J : Nat → Nat → Int64) (tg : Option Nat) (a1 : Int32) {r : Option Value × SS} (h : ((if 300 ≤ (I 55 5) then (r = (none, (zS I J tg))) else (¬ ((I 55 5) < 0 ∨ 300 ≤ (I 55 5).toNatClampNeg) ∧ r = (none, (zS (up2 (up2 I 56 ((I 55 5).toNatClampNeg) a1) 55 5 ((I 55 5) + 1)) J tg)))))) : Runs (GW L xs) d 25 (0, [.ref 55, .int a1], [], (zS I J tg)) r := by
  refine Runs.sN 3 (c' := (7, [.ref 55, .int a1], [.int 300, .int (I 55 5)], (zS I J tg))) rfl ?_
  by_cases c1 : 300 ≤ (I 55 5)
  · rw [if_pos c1] at h
    refine Runs.brT (P := 300 ≤ (I 55 5)) (a := 30) (b := 10) (L := [.ref 55, .int a1]) (S := []) (z := (zS I J tg)) rfl c1 ?_
    subst h
    exact Runs.rt rfl
  · rw [if_neg c1] at h
    refine Runs.brF (P := 300 ≤ (I 55 5)) (a := 30) (b := 10) (L := [.ref 55, .int a1]) (S := []) (z := (zS I J tg)) rfl c1 ?_
    refine Runs.sN 5 (c' := (19, [.ref 55, .int a1], [.int a1, .int (I 55 5), .ref 56], (zS I J tg))) rfl ?_
    obtain ⟨c2, h⟩ := h
    refine Runs.to (c' := (20, [.ref 55, .int a1], [], (zS (up2 I 56 ((I 55 5).toNatClampNeg) a1) J tg))) (Runs.ist rfl (show (56 : Nat) < 114 by decide) rfl c2) ?_
    refine Runs.sN 6 (c' := (30, [.ref 55, .int a1], [], (zS (up2 (up2 I 56 ((I 55 5).toNatClampNeg) a1) 55 5 ((I 55 5) + 1)) J tg))) rfl ?_
    subst h
    exact Runs.rt rfl
-- X2_emit g59
theorem sg_25g59 {L d : Nat} {xs : Nat → Int32} (I : Nat → Nat → Int32) (J : Nat → Nat → Int64) (tg : Option Nat) (a1 : Int32) {r : Option Value × SS} (h : ((if 300 ≤ (I 59 5) then (r = (none, (zS I J tg))) else (¬ ((I 59 5) < 0 ∨ 300 ≤ (I 59 5).toNatClampNeg) ∧ r = (none, (zS (up2 (up2 I 60 ((I 59 5).toNatClampNeg) a1) 59 5 ((I 59 5) + 1)) J tg)))))) : Runs (GW L xs) d 25 (0, [.ref 59, .int a1], [], (zS I J tg)) r := by
  refine Runs.sN 3 (c' := (7, [.ref 59, .int a1], [.int 300, .int (I 59 5)], (zS I J tg))) rfl ?_
  by_cases c1 : 300 ≤ (I 59 5)
  · rw [if_pos c1] at h
    refine Runs.brT (P := 300 ≤ (I 59 5)) (a := 30) (b := 10) (L := [.ref 59, .int a1]) (S := []) (z := (zS I J tg)) rfl c1 ?_
    subst h
    exact Runs.rt rfl
  · rw [if_neg c1] at h
    refine Runs.brF (P := 300 ≤ (I 59 5)) (a := 30) (b := 10) (L := [.ref 59, .int a1]) (S := []) (z := (zS I J tg)) rfl c1 ?_
    refine Runs.sN 5 (c' := (19, [.ref 59, .int a1], [.int a1, .int (I 59 5), .ref 60], (zS I J tg))) rfl ?_
    obtain ⟨c2, h⟩ := h
    refine Runs.to (c' := (20, [.ref 59, .int a1], [], (zS (up2 I 60 ((I 59 5).toNatClampNeg) a1) J tg))) (Runs.ist rfl (show (60 : Nat) < 114 by decide) rfl c2) ?_
    refine Runs.sN 6 (c' := (30, [.ref 59, .int a1], [], (zS (up2 (up2 I 60 ((I 59 5).toNatClampNeg) a1) 59 5 ((I 59 5) + 1)) J tg))) rfl ?_
    subst h
    exact Runs.rt rfl
-- X2_denies g47
theorem sg_26g47 {L d : Nat} {xs : Nat → Int32} (I : Nat → Nat → Int32) (J : Nat → Nat → Int64) (tg : Option Nat) {r : Option Value × SS} (h : (Runs (GW L xs) (d + 1) 26 (2, [.ref 47, .ref 78, .int 0], [], (zS I J tg)) r)) : Runs (GW L xs) (d + 1) 26 (0, [.ref 47, .ref 78, vU], [], (zS I J tg)) r := by
  refine Runs.sN 2 (c' := (2, [.ref 47, .ref 78, .int 0], [], (zS I J tg))) rfl ?_
  exact h
theorem sg_26g47_2 {L d : Nat} {xs : Nat → Int32} (I : Nat → Nat → Int32) (J : Nat → Nat → Int64) (tg : Option Nat) (x2 : Int32) {r : Option Value × SS} (h : ((if (I 47 4) ≤ x2 then (r = (some (.int 0), (zS I J tg))) else (¬ (x2 < 0 ∨ 10 ≤ (x2).toNatClampNeg) ∧ (if (I 49 ((x2).toNatClampNeg)) = 4 then (∃ (v1 : Int32) (I2 : Nat → Nat → Int32), Runs (GW L xs) d 29 (0, [.ref 47, .int x2, .ref 78, vU, vU, vU, vU, vU], [], (zS I J tg)) ((some (.int v1)), (zS I2 J tg)) ∧ (if v1 = 0 then (Runs (GW L xs) (d + 1) 26 (2, [.ref 47, .ref 78, .int (x2 + 1)], [], (zS I2 J tg)) r) else (r = (some (.int 1), (zS I2 J tg))))) else (Runs (GW L xs) (d + 1) 26 (2, [.ref 47, .ref 78, .int (x2 + 1)], [], (zS I J tg)) r)))))) : Runs (GW L xs) (d + 1) 26 (2, [.ref 47, .ref 78, .int x2], [], (zS I J tg)) r := by
  refine Runs.sN 3 (c' := (7, [.ref 47, .ref 78, .int x2], [.int (I 47 4), .int x2], (zS I J tg))) rfl ?_
  by_cases c3 : (I 47 4) ≤ x2
  · rw [if_pos c3] at h
    refine Runs.brT (P := (I 47 4) ≤ x2) (a := 37) (b := 10) (L := [.ref 47, .ref 78, .int x2]) (S := []) (z := (zS I J tg)) rfl c3 ?_
    refine Runs.sN 1 (c' := (38, [.ref 47, .ref 78, .int x2], [.int 0], (zS I J tg))) rfl ?_
    subst h
    exact Runs.rt rfl
  · rw [if_neg c3] at h
    refine Runs.brF (P := (I 47 4) ≤ x2) (a := 37) (b := 10) (L := [.ref 47, .ref 78, .int x2]) (S := []) (z := (zS I J tg)) rfl c3 ?_
    refine Runs.sN 3 (c' := (15, [.ref 47, .ref 78, .int x2], [.int x2, .ref 49], (zS I J tg))) rfl ?_
    obtain ⟨c4, h⟩ := h
    refine Runs.to (c' := (16, [.ref 47, .ref 78, .int x2], [.int (I 49 ((x2).toNatClampNeg))], (zS I J tg))) (Runs.ild rfl (show (49 : Nat) < 114 by decide) rfl c4) ?_
    refine Runs.sN 1 (c' := (17, [.ref 47, .ref 78, .int x2], [.int 4, .int (I 49 ((x2).toNatClampNeg))], (zS I J tg))) rfl ?_
    by_cases c5 : (I 49 ((x2).toNatClampNeg)) = 4
    · rw [if_pos c5] at h
      refine Runs.brT (P := (I 49 ((x2).toNatClampNeg)) = 4) (a := 20) (b := 31) (L := [.ref 47, .ref 78, .int x2]) (S := []) (z := (zS I J tg)) rfl c5 ?_
      refine Runs.sN 3 (c' := (23, [.ref 47, .ref 78, .int x2], [.ref 78, .int x2, .ref 47], (zS I J tg))) rfl ?_
      obtain ⟨v1, I2, c6, h⟩ := h
      refine Runs.cl (cm := 29) (as := [.ref 47, .int x2, .ref 78]) (rest := []) (r1 := ((some (.int v1)), (zS I2 J tg))) rfl (Nat.le_of_ble_eq_true rfl) c6 ?_
      refine Runs.as (c' := (26, [.ref 47, .ref 78, .int x2], [.int v1], (zS I2 J tg))) rfl ?_
      by_cases c7 : v1 = 0
      · rw [if_pos c7] at h
        refine Runs.brT (P := v1 = 0) (a := 31) (b := 29) (L := [.ref 47, .ref 78, .int x2]) (S := []) (z := (zS I2 J tg)) rfl c7 ?_
        refine Runs.sN 2 (c' := (2, [.ref 47, .ref 78, .int (x2 + 1)], [], (zS I2 J tg))) rfl ?_
        exact h
      · rw [if_neg c7] at h
        refine Runs.brF (P := v1 = 0) (a := 31) (b := 29) (L := [.ref 47, .ref 78, .int x2]) (S := []) (z := (zS I2 J tg)) rfl c7 ?_
        refine Runs.sN 1 (c' := (30, [.ref 47, .ref 78, .int x2], [.int 1], (zS I2 J tg))) rfl ?_
        subst h
        exact Runs.rt rfl
    · rw [if_neg c5] at h
      refine Runs.brF (P := (I 49 ((x2).toNatClampNeg)) = 4) (a := 20) (b := 31) (L := [.ref 47, .ref 78, .int x2]) (S := []) (z := (zS I J tg)) rfl c5 ?_
      refine Runs.sN 2 (c' := (2, [.ref 47, .ref 78, .int (x2 + 1)], [], (zS I J tg))) rfl ?_
      exact h
-- X2_denies g51
theorem sg_26g51 {L d : Nat} {xs : Nat → Int32} (I : Nat → Nat → Int32) (J : Nat → Nat → Int64) (tg : Option Nat) {r : Option Value × SS} (h : (Runs (GW L xs) (d + 1) 26 (2, [.ref 51, .ref 78, .int 0], [], (zS I J tg)) r)) : Runs (GW L xs) (d + 1) 26 (0, [.ref 51, .ref 78, vU], [], (zS I J tg)) r := by
  refine Runs.sN 2 (c' := (2, [.ref 51, .ref 78, .int 0], [], (zS I J tg))) rfl ?_
  exact h
theorem sg_26g51_2 {L d : Nat} {xs : Nat → Int32} (I : Nat → Nat → Int32) (J : Nat → Nat → Int64) (tg : Option Nat) (x2 : Int32) {r : Option Value × SS} (h : ((if (I 51 4) ≤ x2 then (r = (some (.int 0), (zS I J tg))) else (¬ (x2 < 0 ∨ 10 ≤ (x2).toNatClampNeg) ∧ (if (I 53 ((x2).toNatClampNeg)) = 4 then (∃ (v1 : Int32) (I2 : Nat → Nat → Int32), Runs (GW L xs) d 29 (0, [.ref 51, .int x2, .ref 78, vU, vU, vU, vU, vU], [], (zS I J tg)) ((some (.int v1)), (zS I2 J tg)) ∧ (if v1 = 0 then (Runs (GW L xs) (d + 1) 26 (2, [.ref 51, .ref 78, .int (x2 + 1)], [], (zS I2 J tg)) r) else (r = (some (.int 1), (zS I2 J tg))))) else (Runs (GW L xs) (d + 1) 26 (2, [.ref 51, .ref 78, .int (x2 + 1)], [], (zS I J tg)) r)))))) : Runs (GW L xs) (d + 1) 26 (2, [.ref 51, .ref 78, .int x2], [], (zS I J tg)) r := by
  refine Runs.sN 3 (c' := (7, [.ref 51, .ref 78, .int x2], [.int (I 51 4), .int x2], (zS I J tg))) rfl ?_
  by_cases c3 : (I 51 4) ≤ x2
  · rw [if_pos c3] at h
    refine Runs.brT (P := (I 51 4) ≤ x2) (a := 37) (b := 10) (L := [.ref 51, .ref 78, .int x2]) (S := []) (z := (zS I J tg)) rfl c3 ?_
    refine Runs.sN 1 (c' := (38, [.ref 51, .ref 78, .int x2], [.int 0], (zS I J tg))) rfl ?_
    subst h
    exact Runs.rt rfl
  · rw [if_neg c3] at h
    refine Runs.brF (P := (I 51 4) ≤ x2) (a := 37) (b := 10) (L := [.ref 51, .ref 78, .int x2]) (S := []) (z := (zS I J tg)) rfl c3 ?_
    refine Runs.sN 3 (c' := (15, [.ref 51, .ref 78, .int x2], [.int x2, .ref 53], (zS I J tg))) rfl ?_
    obtain ⟨c4, h⟩ := h
    refine Runs.to (c' := (16, [.ref 51, .ref 78, .int x2], [.int (I 53 ((x2).toNatClampNeg))], (zS I J tg))) (Runs.ild rfl (show (53 : Nat) < 114 by decide) rfl c4) ?_
    refine Runs.sN 1 (c' := (17, [.ref 51, .ref 78, .int x2], [.int 4, .int (I 53 ((x2).toNatClampNeg))], (zS I J tg))) rfl ?_
    by_cases c5 : (I 53 ((x2).toNatClampNeg)) = 4
    · rw [if_pos c5] at h
      refine Runs.brT (P := (I 53 ((x2).toNatClampNeg)) = 4) (a := 20) (b := 31) (L := [.ref 51, .ref 78, .int x2]) (S := []) (z := (zS I J tg)) rfl c5 ?_
      refine Runs.sN 3 (c' := (23, [.ref 51, .ref 78, .int x2], [.ref 78, .int x2, .ref 51], (zS I J tg))) rfl ?_
      obtain ⟨v1, I2, c6, h⟩ := h
      refine Runs.cl (cm := 29) (as := [.ref 51, .int x2, .ref 78]) (rest := []) (r1 := ((some (.int v1)), (zS I2 J tg))) rfl (Nat.le_of_ble_eq_true rfl) c6 ?_
      refine Runs.as (c' := (26, [.ref 51, .ref 78, .int x2], [.int v1], (zS I2 J tg))) rfl ?_
      by_cases c7 : v1 = 0
      · rw [if_pos c7] at h
        refine Runs.brT (P := v1 = 0) (a := 31) (b := 29) (L := [.ref 51, .ref 78, .int x2]) (S := []) (z := (zS I2 J tg)) rfl c7 ?_
        refine Runs.sN 2 (c' := (2, [.ref 51, .ref 78, .int (x2 + 1)], [], (zS I2 J tg))) rfl ?_
        exact h
      · rw [if_neg c7] at h
        refine Runs.brF (P := v1 = 0) (a := 31) (b := 29) (L := [.ref 51, .ref 78, .int x2]) (S := []) (z := (zS I2 J tg)) rfl c7 ?_
        refine Runs.sN 1 (c' := (30, [.ref 51, .ref 78, .int x2], [.int 1], (zS I2 J tg))) rfl ?_
        subst h
        exact Runs.rt rfl
    · rw [if_neg c5] at h
      refine Runs.brF (P := (I 53 ((x2).toNatClampNeg)) = 4) (a := 20) (b := 31) (L := [.ref 51, .ref 78, .int x2]) (S := []) (z := (zS I J tg)) rfl c5 ?_
      refine Runs.sN 2 (c' := (2, [.ref 51, .ref 78, .int (x2 + 1)], [], (zS I J tg))) rfl ?_
      exact h
-- X2_denies g55
theorem sg_26g55 {L d : Nat} {xs : Nat → Int32} (I : Nat → Nat → Int32) (J : Nat → Nat → Int64) (tg : Option Nat) {r : Option Value × SS} (h : (Runs (GW L xs) (d + 1) 26 (2, [.ref 55, .ref 78, .int 0], [], (zS I J tg)) r)) : Runs (GW L xs) (d + 1) 26 (0, [.ref 55, .ref 78, vU], [], (zS I J tg)) r := by
  refine Runs.sN 2 (c' := (2, [.ref 55, .ref 78, .int 0], [], (zS I J tg))) rfl ?_
  exact h
theorem sg_26g55_2 {L d : Nat} {xs : Nat → Int32} (I : Nat → Nat → Int32) (J : Nat → Nat → Int64) (tg : Option Nat) (x2 : Int32) {r : Option Value × SS} (h : ((if (I 55 4) ≤ x2 then (r = (some (.int 0), (zS I J tg))) else (¬ (x2 < 0 ∨ 10 ≤ (x2).toNatClampNeg) ∧ (if (I 57 ((x2).toNatClampNeg)) = 4 then (∃ (v1 : Int32) (I2 : Nat → Nat → Int32), Runs (GW L xs) d 29 (0, [.ref 55, .int x2, .ref 78, vU, vU, vU, vU, vU], [], (zS I J tg)) ((some (.int v1)), (zS I2 J tg)) ∧ (if v1 = 0 then (Runs (GW L xs) (d + 1) 26 (2, [.ref 55, .ref 78, .int (x2 + 1)], [], (zS I2 J tg)) r) else (r = (some (.int 1), (zS I2 J tg))))) else (Runs (GW L xs) (d + 1) 26 (2, [.ref 55, .ref 78, .int (x2 + 1)], [], (zS I J tg)) r)))))) : Runs (GW L xs) (d + 1) 26 (2, [.ref 55, .ref 78, .int x2], [], (zS I J tg)) r := by
  refine Runs.sN 3 (c' := (7, [.ref 55, .ref 78, .int x2], [.int (I 55 4), .int x2], (zS I J tg))) rfl ?_
  by_cases c3 : (I 55 4) ≤ x2
  · rw [if_pos c3] at h
    refine Runs.brT (P := (I 55 4) ≤ x2) (a := 37) (b := 10) (L := [.ref 55, .ref 78, .int x2]) (S := []) (z := (zS I J tg)) rfl c3 ?_
    refine Runs.sN 1 (c' := (38, [.ref 55, .ref 78, .int x2], [.int 0], (zS I J tg))) rfl ?_
    subst h
    exact Runs.rt rfl
  · rw [if_neg c3] at h
    refine Runs.brF (P := (I 55 4) ≤ x2) (a := 37) (b := 10) (L := [.ref 55, .ref 78, .int x2]) (S := []) (z := (zS I J tg)) rfl c3 ?_
    refine Runs.sN 3 (c' := (15, [.ref 55, .ref 78, .int x2], [.int x2, .ref 57], (zS I J tg))) rfl ?_
    obtain ⟨c4, h⟩ := h
    refine Runs.to (c' := (16, [.ref 55, .ref 78, .int x2], [.int (I 57 ((x2).toNatClampNeg))], (zS I J tg))) (Runs.ild rfl (show (57 : Nat) < 114 by decide) rfl c4) ?_
    refine Runs.sN 1 (c' := (17, [.ref 55, .ref 78, .int x2], [.int 4, .int (I 57 ((x2).toNatClampNeg))], (zS I J tg))) rfl ?_
    by_cases c5 : (I 57 ((x2).toNatClampNeg)) = 4
    · rw [if_pos c5] at h
      refine Runs.brT (P := (I 57 ((x2).toNatClampNeg)) = 4) (a := 20) (b := 31) (L := [.ref 55, .ref 78, .int x2]) (S := []) (z := (zS I J tg)) rfl c5 ?_
      refine Runs.sN 3 (c' := (23, [.ref 55, .ref 78, .int x2], [.ref 78, .int x2, .ref 55], (zS I J tg))) rfl ?_
      obtain ⟨v1, I2, c6, h⟩ := h
      refine Runs.cl (cm := 29) (as := [.ref 55, .int x2, .ref 78]) (rest := []) (r1 := ((some (.int v1)), (zS I2 J tg))) rfl (Nat.le_of_ble_eq_true rfl) c6 ?_
      refine Runs.as (c' := (26, [.ref 55, .ref 78, .int x2], [.int v1], (zS I2 J tg))) rfl ?_
      by_cases c7 : v1 = 0
      · rw [if_pos c7] at h
        refine Runs.brT (P := v1 = 0) (a := 31) (b := 29) (L := [.ref 55, .ref 78, .int x2]) (S := []) (z := (zS I2 J tg)) rfl c7 ?_
        refine Runs.sN 2 (c' := (2, [.ref 55, .ref 78, .int (x2 + 1)], [], (zS I2 J tg))) rfl ?_
        exact h
      · rw [if_neg c7] at h
        refine Runs.brF (P := v1 = 0) (a := 31) (b := 29) (L := [.ref 55, .ref 78, .int x2]) (S := []) (z := (zS I2 J tg)) rfl c7 ?_
        refine Runs.sN 1 (c' := (30, [.ref 55, .ref 78, .int x2], [.int 1], (zS I2 J tg))) rfl ?_
        subst h
        exact Runs.rt rfl
    · rw [if_neg c5] at h
      refine Runs.brF (P := (I 57 ((x2).toNatClampNeg)) = 4) (a := 20) (b := 31) (L := [.ref 55, .ref 78, .int x2]) (S := []) (z := (zS I J tg)) rfl c5 ?_
      refine Runs.sN 2 (c' := (2, [.ref 55, .ref 78, .int (x2 + 1)], [], (zS I J tg))) rfl ?_
      exact h
-- X2_denies g59
theorem sg_26g59 {L d : Nat} {xs : Nat → Int32} (I : Nat → Nat → Int32) (J : Nat → Nat → Int64) (tg : Option Nat) {r : Option Value × SS} (h : (Runs (GW L xs) (d + 1) 26 (2, [.ref 59, .ref 78, .int 0], [], (zS I J tg)) r)) : Runs (GW L xs) (d + 1) 26 (0, [.ref 59, .ref 78, vU], [], (zS I J tg)) r := by
  refine Runs.sN 2 (c' := (2, [.ref 59, .ref 78, .int 0], [], (zS I J tg))) rfl ?_
  exact h
theorem sg_26g59_2 {L d : Nat} {xs : Nat → Int32} (I : Nat → Nat → Int32) (J : Nat → Nat → Int64) (tg : Option Nat) (x2 : Int32) {r : Option Value × SS} (h : ((if (I 59 4) ≤ x2 then (r = (some (.int 0), (zS I J tg))) else (¬ (x2 < 0 ∨ 10 ≤ (x2).toNatClampNeg) ∧ (if (I 61 ((x2).toNatClampNeg)) = 4 then (∃ (v1 : Int32) (I2 : Nat → Nat → Int32), Runs (GW L xs) d 29 (0, [.ref 59, .int x2, .ref 78, vU, vU, vU, vU, vU], [], (zS I J tg)) ((some (.int v1)), (zS I2 J tg)) ∧ (if v1 = 0 then (Runs (GW L xs) (d + 1) 26 (2, [.ref 59, .ref 78, .int (x2 + 1)], [], (zS I2 J tg)) r) else (r = (some (.int 1), (zS I2 J tg))))) else (Runs (GW L xs) (d + 1) 26 (2, [.ref 59, .ref 78, .int (x2 + 1)], [], (zS I J tg)) r)))))) : Runs (GW L xs) (d + 1) 26 (2, [.ref 59, .ref 78, .int x2], [], (zS I J tg)) r := by
  refine Runs.sN 3 (c' := (7, [.ref 59, .ref 78, .int x2], [.int (I 59 4), .int x2], (zS I J tg))) rfl ?_
  by_cases c3 : (I 59 4) ≤ x2
  · rw [if_pos c3] at h
    refine Runs.brT (P := (I 59 4) ≤ x2) (a := 37) (b := 10) (L := [.ref 59, .ref 78, .int x2]) (S := []) (z := (zS I J tg)) rfl c3 ?_
    refine Runs.sN 1 (c' := (38, [.ref 59, .ref 78, .int x2], [.int 0], (zS I J tg))) rfl ?_
    subst h
    exact Runs.rt rfl
  · rw [if_neg c3] at h
    refine Runs.brF (P := (I 59 4) ≤ x2) (a := 37) (b := 10) (L := [.ref 59, .ref 78, .int x2]) (S := []) (z := (zS I J tg)) rfl c3 ?_
    refine Runs.sN 3 (c' := (15, [.ref 59, .ref 78, .int x2], [.int x2, .ref 61], (zS I J tg))) rfl ?_
    obtain ⟨c4, h⟩ := h
    refine Runs.to (c' := (16, [.ref 59, .ref 78, .int x2], [.int (I 61 ((x2).toNatClampNeg))], (zS I J tg))) (Runs.ild rfl (show (61 : Nat) < 114 by decide) rfl c4) ?_
    refine Runs.sN 1 (c' := (17, [.ref 59, .ref 78, .int x2], [.int 4, .int (I 61 ((x2).toNatClampNeg))], (zS I J tg))) rfl ?_
    by_cases c5 : (I 61 ((x2).toNatClampNeg)) = 4
    · rw [if_pos c5] at h
      refine Runs.brT (P := (I 61 ((x2).toNatClampNeg)) = 4) (a := 20) (b := 31) (L := [.ref 59, .ref 78, .int x2]) (S := []) (z := (zS I J tg)) rfl c5 ?_
      refine Runs.sN 3 (c' := (23, [.ref 59, .ref 78, .int x2], [.ref 78, .int x2, .ref 59], (zS I J tg))) rfl ?_
      obtain ⟨v1, I2, c6, h⟩ := h
      refine Runs.cl (cm := 29) (as := [.ref 59, .int x2, .ref 78]) (rest := []) (r1 := ((some (.int v1)), (zS I2 J tg))) rfl (Nat.le_of_ble_eq_true rfl) c6 ?_
      refine Runs.as (c' := (26, [.ref 59, .ref 78, .int x2], [.int v1], (zS I2 J tg))) rfl ?_
      by_cases c7 : v1 = 0
      · rw [if_pos c7] at h
        refine Runs.brT (P := v1 = 0) (a := 31) (b := 29) (L := [.ref 59, .ref 78, .int x2]) (S := []) (z := (zS I2 J tg)) rfl c7 ?_
        refine Runs.sN 2 (c' := (2, [.ref 59, .ref 78, .int (x2 + 1)], [], (zS I2 J tg))) rfl ?_
        exact h
      · rw [if_neg c7] at h
        refine Runs.brF (P := v1 = 0) (a := 31) (b := 29) (L := [.ref 59, .ref 78, .int x2]) (S := []) (z := (zS I2 J tg)) rfl c7 ?_
        refine Runs.sN 1 (c' := (30, [.ref 59, .ref 78, .int x2], [.int 1], (zS I2 J tg))) rfl ?_
        subst h
        exact Runs.rt rfl
    · rw [if_neg c5] at h
      refine Runs.brF (P := (I 61 ((x2).toNatClampNeg)) = 4) (a := 20) (b := 31) (L := [.ref 59, .ref 78, .int x2]) (S := []) (z := (zS I J tg)) rfl c5 ?_
      refine Runs.sN 2 (c' := (2, [.ref 59, .ref 78, .int (x2 + 1)], [], (zS I J tg))) rfl ?_
      exact h
-- X2_denies g63
theorem sg_26g63 {L d : Nat} {xs : Nat → Int32} (I : Nat → Nat → Int32) (J : Nat → Nat → Int64) (tg : Option Nat) {r : Option Value × SS} (h : (Runs (GW L xs) (d + 1) 26 (2, [.ref 63, .ref 78, .int 0], [], (zS I J tg)) r)) : Runs (GW L xs) (d + 1) 26 (0, [.ref 63, .ref 78, vU], [], (zS I J tg)) r := by
  refine Runs.sN 2 (c' := (2, [.ref 63, .ref 78, .int 0], [], (zS I J tg))) rfl ?_
  exact h
theorem sg_26g63_2 {L d : Nat} {xs : Nat → Int32} (I : Nat → Nat → Int32) (J : Nat → Nat → Int64) (tg : Option Nat) (x2 : Int32) {r : Option Value × SS} (h : ((if (I 63 4) ≤ x2 then (r = (some (.int 0), (zS I J tg))) else (¬ (x2 < 0 ∨ 10 ≤ (x2).toNatClampNeg) ∧ (if (I 65 ((x2).toNatClampNeg)) = 4 then (∃ (v1 : Int32) (I2 : Nat → Nat → Int32), Runs (GW L xs) d 29 (0, [.ref 63, .int x2, .ref 78, vU, vU, vU, vU, vU], [], (zS I J tg)) ((some (.int v1)), (zS I2 J tg)) ∧ (if v1 = 0 then (Runs (GW L xs) (d + 1) 26 (2, [.ref 63, .ref 78, .int (x2 + 1)], [], (zS I2 J tg)) r) else (r = (some (.int 1), (zS I2 J tg))))) else (Runs (GW L xs) (d + 1) 26 (2, [.ref 63, .ref 78, .int (x2 + 1)], [], (zS I J tg)) r)))))) : Runs (GW L xs) (d + 1) 26 (2, [.ref 63, .ref 78, .int x2], [], (zS I J tg)) r := by
  refine Runs.sN 3 (c' := (7, [.ref 63, .ref 78, .int x2], [.int (I 63 4), .int x2], (zS I J tg))) rfl ?_
  by_cases c3 : (I 63 4) ≤ x2
  · rw [if_pos c3] at h
    refine Runs.brT (P := (I 63 4) ≤ x2) (a := 37) (b := 10) (L := [.ref 63, .ref 78, .int x2]) (S := []) (z := (zS I J tg)) rfl c3 ?_
    refine Runs.sN 1 (c' := (38, [.ref 63, .ref 78, .int x2], [.int 0], (zS I J tg))) rfl ?_
    subst h
    exact Runs.rt rfl
  · rw [if_neg c3] at h
    refine Runs.brF (P := (I 63 4) ≤ x2) (a := 37) (b := 10) (L := [.ref 63, .ref 78, .int x2]) (S := []) (z := (zS I J tg)) rfl c3 ?_
    refine Runs.sN 3 (c' := (15, [.ref 63, .ref 78, .int x2], [.int x2, .ref 65], (zS I J tg))) rfl ?_
    obtain ⟨c4, h⟩ := h
    refine Runs.to (c' := (16, [.ref 63, .ref 78, .int x2], [.int (I 65 ((x2).toNatClampNeg))], (zS I J tg))) (Runs.ild rfl (show (65 : Nat) < 114 by decide) rfl c4) ?_
    refine Runs.sN 1 (c' := (17, [.ref 63, .ref 78, .int x2], [.int 4, .int (I 65 ((x2).toNatClampNeg))], (zS I J tg))) rfl ?_
    by_cases c5 : (I 65 ((x2).toNatClampNeg)) = 4
    · rw [if_pos c5] at h
      refine Runs.brT (P := (I 65 ((x2).toNatClampNeg)) = 4) (a := 20) (b := 31) (L := [.ref 63, .ref 78, .int x2]) (S := []) (z := (zS I J tg)) rfl c5 ?_
      refine Runs.sN 3 (c' := (23, [.ref 63, .ref 78, .int x2], [.ref 78, .int x2, .ref 63], (zS I J tg))) rfl ?_
      obtain ⟨v1, I2, c6, h⟩ := h
      refine Runs.cl (cm := 29) (as := [.ref 63, .int x2, .ref 78]) (rest := []) (r1 := ((some (.int v1)), (zS I2 J tg))) rfl (Nat.le_of_ble_eq_true rfl) c6 ?_
      refine Runs.as (c' := (26, [.ref 63, .ref 78, .int x2], [.int v1], (zS I2 J tg))) rfl ?_
      by_cases c7 : v1 = 0
      · rw [if_pos c7] at h
        refine Runs.brT (P := v1 = 0) (a := 31) (b := 29) (L := [.ref 63, .ref 78, .int x2]) (S := []) (z := (zS I2 J tg)) rfl c7 ?_
        refine Runs.sN 2 (c' := (2, [.ref 63, .ref 78, .int (x2 + 1)], [], (zS I2 J tg))) rfl ?_
        exact h
      · rw [if_neg c7] at h
        refine Runs.brF (P := v1 = 0) (a := 31) (b := 29) (L := [.ref 63, .ref 78, .int x2]) (S := []) (z := (zS I2 J tg)) rfl c7 ?_
        refine Runs.sN 1 (c' := (30, [.ref 63, .ref 78, .int x2], [.int 1], (zS I2 J tg))) rfl ?_
        subst h
        exact Runs.rt rfl
    · rw [if_neg c5] at h
      refine Runs.brF (P := (I 65 ((x2).toNatClampNeg)) = 4) (a := 20) (b := 31) (L := [.ref 63, .ref 78, .int x2]) (S := []) (z := (zS I J tg)) rfl c5 ?_
      refine Runs.sN 2 (c' := (2, [.ref 63, .ref 78, .int (x2 + 1)], [], (zS I J tg))) rfl ?_
      exact h
-- X2_admits g47
theorem sg_27g47 {L d : Nat} {xs : Nat → Int32} (I : Nat → Nat → Int32) (J : Nat → Nat → Int64) (tg : Option Nat) {r : Option Value × SS} (h : (Runs (GW L xs) (d + 1) 27 (2, [.ref 47, .ref 78, .int 0], [], (zS I J tg)) r)) : Runs (GW L xs) (d + 1) 27 (0, [.ref 47, .ref 78, vU], [], (zS I J tg)) r := by
  refine Runs.sN 2 (c' := (2, [.ref 47, .ref 78, .int 0], [], (zS I J tg))) rfl ?_
  exact h
theorem sg_27g47_2 {L d : Nat} {xs : Nat → Int32} (I : Nat → Nat → Int32) (J : Nat → Nat → Int64) (tg : Option Nat) (x2 : Int32) {r : Option Value × SS} (h : ((if (I 47 4) ≤ x2 then (r = (some (.int 1), (zS I J tg))) else (¬ (x2 < 0 ∨ 10 ≤ (x2).toNatClampNeg) ∧ (if (I 49 ((x2).toNatClampNeg)) = 5 then (∃ (v1 : Int32) (I2 : Nat → Nat → Int32), Runs (GW L xs) d 29 (0, [.ref 47, .int x2, .ref 78, vU, vU, vU, vU, vU], [], (zS I J tg)) ((some (.int v1)), (zS I2 J tg)) ∧ (if v1 = 0 then (r = (some (.int 0), (zS I2 J tg))) else (Runs (GW L xs) (d + 1) 27 (2, [.ref 47, .ref 78, .int (x2 + 1)], [], (zS I2 J tg)) r))) else (Runs (GW L xs) (d + 1) 27 (2, [.ref 47, .ref 78, .int (x2 + 1)], [], (zS I J tg)) r)))))) : Runs (GW L xs) (d + 1) 27 (2, [.ref 47, .ref 78, .int x2], [], (zS I J tg)) r := by
  refine Runs.sN 3 (c' := (7, [.ref 47, .ref 78, .int x2], [.int (I 47 4), .int x2], (zS I J tg))) rfl ?_
  by_cases c3 : (I 47 4) ≤ x2
  · rw [if_pos c3] at h
    refine Runs.brT (P := (I 47 4) ≤ x2) (a := 37) (b := 10) (L := [.ref 47, .ref 78, .int x2]) (S := []) (z := (zS I J tg)) rfl c3 ?_
    refine Runs.sN 1 (c' := (38, [.ref 47, .ref 78, .int x2], [.int 1], (zS I J tg))) rfl ?_
    subst h
    exact Runs.rt rfl
  · rw [if_neg c3] at h
    refine Runs.brF (P := (I 47 4) ≤ x2) (a := 37) (b := 10) (L := [.ref 47, .ref 78, .int x2]) (S := []) (z := (zS I J tg)) rfl c3 ?_
    refine Runs.sN 3 (c' := (15, [.ref 47, .ref 78, .int x2], [.int x2, .ref 49], (zS I J tg))) rfl ?_
    obtain ⟨c4, h⟩ := h
    refine Runs.to (c' := (16, [.ref 47, .ref 78, .int x2], [.int (I 49 ((x2).toNatClampNeg))], (zS I J tg))) (Runs.ild rfl (show (49 : Nat) < 114 by decide) rfl c4) ?_
    refine Runs.sN 1 (c' := (17, [.ref 47, .ref 78, .int x2], [.int 5, .int (I 49 ((x2).toNatClampNeg))], (zS I J tg))) rfl ?_
    by_cases c5 : (I 49 ((x2).toNatClampNeg)) = 5
    · rw [if_pos c5] at h
      refine Runs.brT (P := (I 49 ((x2).toNatClampNeg)) = 5) (a := 20) (b := 31) (L := [.ref 47, .ref 78, .int x2]) (S := []) (z := (zS I J tg)) rfl c5 ?_
      refine Runs.sN 3 (c' := (23, [.ref 47, .ref 78, .int x2], [.ref 78, .int x2, .ref 47], (zS I J tg))) rfl ?_
      obtain ⟨v1, I2, c6, h⟩ := h
      refine Runs.cl (cm := 29) (as := [.ref 47, .int x2, .ref 78]) (rest := []) (r1 := ((some (.int v1)), (zS I2 J tg))) rfl (Nat.le_of_ble_eq_true rfl) c6 ?_
      refine Runs.as (c' := (26, [.ref 47, .ref 78, .int x2], [.int v1], (zS I2 J tg))) rfl ?_
      by_cases c7 : v1 = 0
      · rw [if_pos c7] at h
        refine Runs.brT (P := v1 = 0) (a := 29) (b := 31) (L := [.ref 47, .ref 78, .int x2]) (S := []) (z := (zS I2 J tg)) rfl c7 ?_
        refine Runs.sN 1 (c' := (30, [.ref 47, .ref 78, .int x2], [.int 0], (zS I2 J tg))) rfl ?_
        subst h
        exact Runs.rt rfl
      · rw [if_neg c7] at h
        refine Runs.brF (P := v1 = 0) (a := 29) (b := 31) (L := [.ref 47, .ref 78, .int x2]) (S := []) (z := (zS I2 J tg)) rfl c7 ?_
        refine Runs.sN 2 (c' := (2, [.ref 47, .ref 78, .int (x2 + 1)], [], (zS I2 J tg))) rfl ?_
        exact h
    · rw [if_neg c5] at h
      refine Runs.brF (P := (I 49 ((x2).toNatClampNeg)) = 5) (a := 20) (b := 31) (L := [.ref 47, .ref 78, .int x2]) (S := []) (z := (zS I J tg)) rfl c5 ?_
      refine Runs.sN 2 (c' := (2, [.ref 47, .ref 78, .int (x2 + 1)], [], (zS I J tg))) rfl ?_
      exact h
-- X2_admits g51
theorem sg_27g51 {L d : Nat} {xs : Nat → Int32} (I : Nat → Nat → Int32) (J : Nat → Nat → Int64) (tg : Option Nat) {r : Option Value × SS} (h : (Runs (GW L xs) (d + 1) 27 (2, [.ref 51, .ref 78, .int 0], [], (zS I J tg)) r)) : Runs (GW L xs) (d + 1) 27 (0, [.ref 51, .ref 78, vU], [], (zS I J tg)) r := by
  refine Runs.sN 2 (c' := (2, [.ref 51, .ref 78, .int 0], [], (zS I J tg))) rfl ?_
  exact h
theorem sg_27g51_2 {L d : Nat} {xs : Nat → Int32} (I : Nat → Nat → Int32) (J : Nat → Nat → Int64) (tg : Option Nat) (x2 : Int32) {r : Option Value × SS} (h : ((if (I 51 4) ≤ x2 then (r = (some (.int 1), (zS I J tg))) else (¬ (x2 < 0 ∨ 10 ≤ (x2).toNatClampNeg) ∧ (if (I 53 ((x2).toNatClampNeg)) = 5 then (∃ (v1 : Int32) (I2 : Nat → Nat → Int32), Runs (GW L xs) d 29 (0, [.ref 51, .int x2, .ref 78, vU, vU, vU, vU, vU], [], (zS I J tg)) ((some (.int v1)), (zS I2 J tg)) ∧ (if v1 = 0 then (r = (some (.int 0), (zS I2 J tg))) else (Runs (GW L xs) (d + 1) 27 (2, [.ref 51, .ref 78, .int (x2 + 1)], [], (zS I2 J tg)) r))) else (Runs (GW L xs) (d + 1) 27 (2, [.ref 51, .ref 78, .int (x2 + 1)], [], (zS I J tg)) r)))))) : Runs (GW L xs) (d + 1) 27 (2, [.ref 51, .ref 78, .int x2], [], (zS I J tg)) r := by
  refine Runs.sN 3 (c' := (7, [.ref 51, .ref 78, .int x2], [.int (I 51 4), .int x2], (zS I J tg))) rfl ?_
  by_cases c3 : (I 51 4) ≤ x2
  · rw [if_pos c3] at h
    refine Runs.brT (P := (I 51 4) ≤ x2) (a := 37) (b := 10) (L := [.ref 51, .ref 78, .int x2]) (S := []) (z := (zS I J tg)) rfl c3 ?_
    refine Runs.sN 1 (c' := (38, [.ref 51, .ref 78, .int x2], [.int 1], (zS I J tg))) rfl ?_
    subst h
    exact Runs.rt rfl
  · rw [if_neg c3] at h
    refine Runs.brF (P := (I 51 4) ≤ x2) (a := 37) (b := 10) (L := [.ref 51, .ref 78, .int x2]) (S := []) (z := (zS I J tg)) rfl c3 ?_
    refine Runs.sN 3 (c' := (15, [.ref 51, .ref 78, .int x2], [.int x2, .ref 53], (zS I J tg))) rfl ?_
    obtain ⟨c4, h⟩ := h
    refine Runs.to (c' := (16, [.ref 51, .ref 78, .int x2], [.int (I 53 ((x2).toNatClampNeg))], (zS I J tg))) (Runs.ild rfl (show (53 : Nat) < 114 by decide) rfl c4) ?_
    refine Runs.sN 1 (c' := (17, [.ref 51, .ref 78, .int x2], [.int 5, .int (I 53 ((x2).toNatClampNeg))], (zS I J tg))) rfl ?_
    by_cases c5 : (I 53 ((x2).toNatClampNeg)) = 5
    · rw [if_pos c5] at h
      refine Runs.brT (P := (I 53 ((x2).toNatClampNeg)) = 5) (a := 20) (b := 31) (L := [.ref 51, .ref 78, .int x2]) (S := []) (z := (zS I J tg)) rfl c5 ?_
      refine Runs.sN 3 (c' := (23, [.ref 51, .ref 78, .int x2], [.ref 78, .int x2, .ref 51], (zS I J tg))) rfl ?_
      obtain ⟨v1, I2, c6, h⟩ := h
      refine Runs.cl (cm := 29) (as := [.ref 51, .int x2, .ref 78]) (rest := []) (r1 := ((some (.int v1)), (zS I2 J tg))) rfl (Nat.le_of_ble_eq_true rfl) c6 ?_
      refine Runs.as (c' := (26, [.ref 51, .ref 78, .int x2], [.int v1], (zS I2 J tg))) rfl ?_
      by_cases c7 : v1 = 0
      · rw [if_pos c7] at h
        refine Runs.brT (P := v1 = 0) (a := 29) (b := 31) (L := [.ref 51, .ref 78, .int x2]) (S := []) (z := (zS I2 J tg)) rfl c7 ?_
        refine Runs.sN 1 (c' := (30, [.ref 51, .ref 78, .int x2], [.int 0], (zS I2 J tg))) rfl ?_
        subst h
        exact Runs.rt rfl
      · rw [if_neg c7] at h
        refine Runs.brF (P := v1 = 0) (a := 29) (b := 31) (L := [.ref 51, .ref 78, .int x2]) (S := []) (z := (zS I2 J tg)) rfl c7 ?_
        refine Runs.sN 2 (c' := (2, [.ref 51, .ref 78, .int (x2 + 1)], [], (zS I2 J tg))) rfl ?_
        exact h
    · rw [if_neg c5] at h
      refine Runs.brF (P := (I 53 ((x2).toNatClampNeg)) = 5) (a := 20) (b := 31) (L := [.ref 51, .ref 78, .int x2]) (S := []) (z := (zS I J tg)) rfl c5 ?_
      refine Runs.sN 2 (c' := (2, [.ref 51, .ref 78, .int (x2 + 1)], [], (zS I J tg))) rfl ?_
      exact h
-- X2_admits g55
theorem sg_27g55 {L d : Nat} {xs : Nat → Int32} (I : Nat → Nat → Int32) (J : Nat → Nat → Int64) (tg : Option Nat) {r : Option Value × SS} (h : (Runs (GW L xs) (d + 1) 27 (2, [.ref 55, .ref 78, .int 0], [], (zS I J tg)) r)) : Runs (GW L xs) (d + 1) 27 (0, [.ref 55, .ref 78, vU], [], (zS I J tg)) r := by
  refine Runs.sN 2 (c' := (2, [.ref 55, .ref 78, .int 0], [], (zS I J tg))) rfl ?_
  exact h
theorem sg_27g55_2 {L d : Nat} {xs : Nat → Int32} (I : Nat → Nat → Int32) (J : Nat → Nat → Int64) (tg : Option Nat) (x2 : Int32) {r : Option Value × SS} (h : ((if (I 55 4) ≤ x2 then (r = (some (.int 1), (zS I J tg))) else (¬ (x2 < 0 ∨ 10 ≤ (x2).toNatClampNeg) ∧ (if (I 57 ((x2).toNatClampNeg)) = 5 then (∃ (v1 : Int32) (I2 : Nat → Nat → Int32), Runs (GW L xs) d 29 (0, [.ref 55, .int x2, .ref 78, vU, vU, vU, vU, vU], [], (zS I J tg)) ((some (.int v1)), (zS I2 J tg)) ∧ (if v1 = 0 then (r = (some (.int 0), (zS I2 J tg))) else (Runs (GW L xs) (d + 1) 27 (2, [.ref 55, .ref 78, .int (x2 + 1)], [], (zS I2 J tg)) r))) else (Runs (GW L xs) (d + 1) 27 (2, [.ref 55, .ref 78, .int (x2 + 1)], [], (zS I J tg)) r)))))) : Runs (GW L xs) (d + 1) 27 (2, [.ref 55, .ref 78, .int x2], [], (zS I J tg)) r := by
  refine Runs.sN 3 (c' := (7, [.ref 55, .ref 78, .int x2], [.int (I 55 4), .int x2], (zS I J tg))) rfl ?_
  by_cases c3 : (I 55 4) ≤ x2
  · rw [if_pos c3] at h
    refine Runs.brT (P := (I 55 4) ≤ x2) (a := 37) (b := 10) (L := [.ref 55, .ref 78, .int x2]) (S := []) (z := (zS I J tg)) rfl c3 ?_
    refine Runs.sN 1 (c' := (38, [.ref 55, .ref 78, .int x2], [.int 1], (zS I J tg))) rfl ?_
    subst h
    exact Runs.rt rfl
  · rw [if_neg c3] at h
    refine Runs.brF (P := (I 55 4) ≤ x2) (a := 37) (b := 10) (L := [.ref 55, .ref 78, .int x2]) (S := []) (z := (zS I J tg)) rfl c3 ?_
    refine Runs.sN 3 (c' := (15, [.ref 55, .ref 78, .int x2], [.int x2, .ref 57], (zS I J tg))) rfl ?_
    obtain ⟨c4, h⟩ := h
    refine Runs.to (c' := (16, [.ref 55, .ref 78, .int x2], [.int (I 57 ((x2).toNatClampNeg))], (zS I J tg))) (Runs.ild rfl (show (57 : Nat) < 114 by decide) rfl c4) ?_
    refine Runs.sN 1 (c' := (17, [.ref 55, .ref 78, .int x2], [.int 5, .int (I 57 ((x2).toNatClampNeg))], (zS I J tg))) rfl ?_
    by_cases c5 : (I 57 ((x2).toNatClampNeg)) = 5
    · rw [if_pos c5] at h
      refine Runs.brT (P := (I 57 ((x2).toNatClampNeg)) = 5) (a := 20) (b := 31) (L := [.ref 55, .ref 78, .int x2]) (S := []) (z := (zS I J tg)) rfl c5 ?_
      refine Runs.sN 3 (c' := (23, [.ref 55, .ref 78, .int x2], [.ref 78, .int x2, .ref 55], (zS I J tg))) rfl ?_
      obtain ⟨v1, I2, c6, h⟩ := h
      refine Runs.cl (cm := 29) (as := [.ref 55, .int x2, .ref 78]) (rest := []) (r1 := ((some (.int v1)), (zS I2 J tg))) rfl (Nat.le_of_ble_eq_true rfl) c6 ?_
      refine Runs.as (c' := (26, [.ref 55, .ref 78, .int x2], [.int v1], (zS I2 J tg))) rfl ?_
      by_cases c7 : v1 = 0
      · rw [if_pos c7] at h
        refine Runs.brT (P := v1 = 0) (a := 29) (b := 31) (L := [.ref 55, .ref 78, .int x2]) (S := []) (z := (zS I2 J tg)) rfl c7 ?_
        refine Runs.sN 1 (c' := (30, [.ref 55, .ref 78, .int x2], [.int 0], (zS I2 J tg))) rfl ?_
        subst h
        exact Runs.rt rfl
      · rw [if_neg c7] at h
        refine Runs.brF (P := v1 = 0) (a := 29) (b := 31) (L := [.ref 55, .ref 78, .int x2]) (S := []) (z := (zS I2 J tg)) rfl c7 ?_
        refine Runs.sN 2 (c' := (2, [.ref 55, .ref 78, .int (x2 + 1)], [], (zS I2 J tg))) rfl ?_
        exact h
    · rw [if_neg c5] at h
      refine Runs.brF (P := (I 57 ((x2).toNatClampNeg)) = 5) (a := 20) (b := 31) (L := [.ref 55, .ref 78, .int x2]) (S := []) (z := (zS I J tg)) rfl c5 ?_
      refine Runs.sN 2 (c' := (2, [.ref 55, .ref 78, .int (x2 + 1)], [], (zS I J tg))) rfl ?_
      exact h
-- X2_admits g59
theorem sg_27g59 {L d : Nat} {xs : Nat → Int32} (I : Nat → Nat → Int32) (J : Nat → Nat → Int64) (tg : Option Nat) {r : Option Value × SS} (h : (Runs (GW L xs) (d + 1) 27 (2, [.ref 59, .ref 78, .int 0], [], (zS I J tg)) r)) : Runs (GW L xs) (d + 1) 27 (0, [.ref 59, .ref 78, vU], [], (zS I J tg)) r := by
  refine Runs.sN 2 (c' := (2, [.ref 59, .ref 78, .int 0], [], (zS I J tg))) rfl ?_
  exact h
theorem sg_27g59_2 {L d : Nat} {xs : Nat → Int32} (I : Nat → Nat → Int32) (J : Nat → Nat → Int64) (tg : Option Nat) (x2 : Int32) {r : Option Value × SS} (h : ((if (I 59 4) ≤ x2 then (r = (some (.int 1), (zS I J tg))) else (¬ (x2 < 0 ∨ 10 ≤ (x2).toNatClampNeg) ∧ (if (I 61 ((x2).toNatClampNeg)) = 5 then (∃ (v1 : Int32) (I2 : Nat → Nat → Int32), Runs (GW L xs) d 29 (0, [.ref 59, .int x2, .ref 78, vU, vU, vU, vU, vU], [], (zS I J tg)) ((some (.int v1)), (zS I2 J tg)) ∧ (if v1 = 0 then (r = (some (.int 0), (zS I2 J tg))) else (Runs (GW L xs) (d + 1) 27 (2, [.ref 59, .ref 78, .int (x2 + 1)], [], (zS I2 J tg)) r))) else (Runs (GW L xs) (d + 1) 27 (2, [.ref 59, .ref 78, .int (x2 + 1)], [], (zS I J tg)) r)))))) : Runs (GW L xs) (d + 1) 27 (2, [.ref 59, .ref 78, .int x2], [], (zS I J tg)) r := by
  refine Runs.sN 3 (c' := (7, [.ref 59, .ref 78, .int x2], [.int (I 59 4), .int x2], (zS I J tg))) rfl ?_
  by_cases c3 : (I 59 4) ≤ x2
  · rw [if_pos c3] at h
    refine Runs.brT (P := (I 59 4) ≤ x2) (a := 37) (b := 10) (L := [.ref 59, .ref 78, .int x2]) (S := []) (z := (zS I J tg)) rfl c3 ?_
    refine Runs.sN 1 (c' := (38, [.ref 59, .ref 78, .int x2], [.int 1], (zS I J tg))) rfl ?_
    subst h
    exact Runs.rt rfl
  · rw [if_neg c3] at h
    refine Runs.brF (P := (I 59 4) ≤ x2) (a := 37) (b := 10) (L := [.ref 59, .ref 78, .int x2]) (S := []) (z := (zS I J tg)) rfl c3 ?_
    refine Runs.sN 3 (c' := (15, [.ref 59, .ref 78, .int x2], [.int x2, .ref 61], (zS I J tg))) rfl ?_
    obtain ⟨c4, h⟩ := h
    refine Runs.to (c' := (16, [.ref 59, .ref 78, .int x2], [.int (I 61 ((x2).toNatClampNeg))], (zS I J tg))) (Runs.ild rfl (show (61 : Nat) < 114 by decide) rfl c4) ?_
    refine Runs.sN 1 (c' := (17, [.ref 59, .ref 78, .int x2], [.int 5, .int (I 61 ((x2).toNatClampNeg))], (zS I J tg))) rfl ?_
    by_cases c5 : (I 61 ((x2).toNatClampNeg)) = 5
    · rw [if_pos c5] at h
      refine Runs.brT (P := (I 61 ((x2).toNatClampNeg)) = 5) (a := 20) (b := 31) (L := [.ref 59, .ref 78, .int x2]) (S := []) (z := (zS I J tg)) rfl c5 ?_
      refine Runs.sN 3 (c' := (23, [.ref 59, .ref 78, .int x2], [.ref 78, .int x2, .ref 59], (zS I J tg))) rfl ?_
      obtain ⟨v1, I2, c6, h⟩ := h
      refine Runs.cl (cm := 29) (as := [.ref 59, .int x2, .ref 78]) (rest := []) (r1 := ((some (.int v1)), (zS I2 J tg))) rfl (Nat.le_of_ble_eq_true rfl) c6 ?_
      refine Runs.as (c' := (26, [.ref 59, .ref 78, .int x2], [.int v1], (zS I2 J tg))) rfl ?_
      by_cases c7 : v1 = 0
      · rw [if_pos c7] at h
        refine Runs.brT (P := v1 = 0) (a := 29) (b := 31) (L := [.ref 59, .ref 78, .int x2]) (S := []) (z := (zS I2 J tg)) rfl c7 ?_
        refine Runs.sN 1 (c' := (30, [.ref 59, .ref 78, .int x2], [.int 0], (zS I2 J tg))) rfl ?_
        subst h
        exact Runs.rt rfl
      · rw [if_neg c7] at h
        refine Runs.brF (P := v1 = 0) (a := 29) (b := 31) (L := [.ref 59, .ref 78, .int x2]) (S := []) (z := (zS I2 J tg)) rfl c7 ?_
        refine Runs.sN 2 (c' := (2, [.ref 59, .ref 78, .int (x2 + 1)], [], (zS I2 J tg))) rfl ?_
        exact h
    · rw [if_neg c5] at h
      refine Runs.brF (P := (I 61 ((x2).toNatClampNeg)) = 5) (a := 20) (b := 31) (L := [.ref 59, .ref 78, .int x2]) (S := []) (z := (zS I J tg)) rfl c5 ?_
      refine Runs.sN 2 (c' := (2, [.ref 59, .ref 78, .int (x2 + 1)], [], (zS I J tg))) rfl ?_
      exact h
-- X2_admits g63
theorem sg_27g63 {L d : Nat} {xs : Nat → Int32} (I : Nat → Nat → Int32) (J : Nat → Nat → Int64) (tg : Option Nat) {r : Option Value × SS} (h : (Runs (GW L xs) (d + 1) 27 (2, [.ref 63, .ref 78, .int 0], [], (zS I J tg)) r)) : Runs (GW L xs) (d + 1) 27 (0, [.ref 63, .ref 78, vU], [], (zS I J tg)) r := by
  refine Runs.sN 2 (c' := (2, [.ref 63, .ref 78, .int 0], [], (zS I J tg))) rfl ?_
  exact h
theorem sg_27g63_2 {L d : Nat} {xs : Nat → Int32} (I : Nat → Nat → Int32) (J : Nat → Nat → Int64) (tg : Option Nat) (x2 : Int32) {r : Option Value × SS} (h : ((if (I 63 4) ≤ x2 then (r = (some (.int 1), (zS I J tg))) else (¬ (x2 < 0 ∨ 10 ≤ (x2).toNatClampNeg) ∧ (if (I 65 ((x2).toNatClampNeg)) = 5 then (∃ (v1 : Int32) (I2 : Nat → Nat → Int32), Runs (GW L xs) d 29 (0, [.ref 63, .int x2, .ref 78, vU, vU, vU, vU, vU], [], (zS I J tg)) ((some (.int v1)), (zS I2 J tg)) ∧ (if v1 = 0 then (r = (some (.int 0), (zS I2 J tg))) else (Runs (GW L xs) (d + 1) 27 (2, [.ref 63, .ref 78, .int (x2 + 1)], [], (zS I2 J tg)) r))) else (Runs (GW L xs) (d + 1) 27 (2, [.ref 63, .ref 78, .int (x2 + 1)], [], (zS I J tg)) r)))))) : Runs (GW L xs) (d + 1) 27 (2, [.ref 63, .ref 78, .int x2], [], (zS I J tg)) r := by
  refine Runs.sN 3 (c' := (7, [.ref 63, .ref 78, .int x2], [.int (I 63 4), .int x2], (zS I J tg))) rfl ?_
  by_cases c3 : (I 63 4) ≤ x2
  · rw [if_pos c3] at h
    refine Runs.brT (P := (I 63 4) ≤ x2) (a := 37) (b := 10) (L := [.ref 63, .ref 78, .int x2]) (S := []) (z := (zS I J tg)) rfl c3 ?_
    refine Runs.sN 1 (c' := (38, [.ref 63, .ref 78, .int x2], [.int 1], (zS I J tg))) rfl ?_
    subst h
    exact Runs.rt rfl
  · rw [if_neg c3] at h
    refine Runs.brF (P := (I 63 4) ≤ x2) (a := 37) (b := 10) (L := [.ref 63, .ref 78, .int x2]) (S := []) (z := (zS I J tg)) rfl c3 ?_
    refine Runs.sN 3 (c' := (15, [.ref 63, .ref 78, .int x2], [.int x2, .ref 65], (zS I J tg))) rfl ?_
    obtain ⟨c4, h⟩ := h
    refine Runs.to (c' := (16, [.ref 63, .ref 78, .int x2], [.int (I 65 ((x2).toNatClampNeg))], (zS I J tg))) (Runs.ild rfl (show (65 : Nat) < 114 by decide) rfl c4) ?_
    refine Runs.sN 1 (c' := (17, [.ref 63, .ref 78, .int x2], [.int 5, .int (I 65 ((x2).toNatClampNeg))], (zS I J tg))) rfl ?_
    by_cases c5 : (I 65 ((x2).toNatClampNeg)) = 5
    · rw [if_pos c5] at h
      refine Runs.brT (P := (I 65 ((x2).toNatClampNeg)) = 5) (a := 20) (b := 31) (L := [.ref 63, .ref 78, .int x2]) (S := []) (z := (zS I J tg)) rfl c5 ?_
      refine Runs.sN 3 (c' := (23, [.ref 63, .ref 78, .int x2], [.ref 78, .int x2, .ref 63], (zS I J tg))) rfl ?_
      obtain ⟨v1, I2, c6, h⟩ := h
      refine Runs.cl (cm := 29) (as := [.ref 63, .int x2, .ref 78]) (rest := []) (r1 := ((some (.int v1)), (zS I2 J tg))) rfl (Nat.le_of_ble_eq_true rfl) c6 ?_
      refine Runs.as (c' := (26, [.ref 63, .ref 78, .int x2], [.int v1], (zS I2 J tg))) rfl ?_
      by_cases c7 : v1 = 0
      · rw [if_pos c7] at h
        refine Runs.brT (P := v1 = 0) (a := 29) (b := 31) (L := [.ref 63, .ref 78, .int x2]) (S := []) (z := (zS I2 J tg)) rfl c7 ?_
        refine Runs.sN 1 (c' := (30, [.ref 63, .ref 78, .int x2], [.int 0], (zS I2 J tg))) rfl ?_
        subst h
        exact Runs.rt rfl
      · rw [if_neg c7] at h
        refine Runs.brF (P := v1 = 0) (a := 29) (b := 31) (L := [.ref 63, .ref 78, .int x2]) (S := []) (z := (zS I2 J tg)) rfl c7 ?_
        refine Runs.sN 2 (c' := (2, [.ref 63, .ref 78, .int (x2 + 1)], [], (zS I2 J tg))) rfl ?_
        exact h
    · rw [if_neg c5] at h
      refine Runs.brF (P := (I 65 ((x2).toNatClampNeg)) = 5) (a := 20) (b := 31) (L := [.ref 63, .ref 78, .int x2]) (S := []) (z := (zS I J tg)) rfl c5 ?_
      refine Runs.sN 2 (c' := (2, [.ref 63, .ref 78, .int (x2 + 1)], [], (zS I J tg))) rfl ?_
      exact h
-- X2_hasHarm g47
theorem sg_28g47 {L d : Nat} {xs : Nat → Int32} (I : Nat → Nat → Int32) (J : Nat → Nat → Int64) (tg : Option Nat) {r : Option Value × SS} (h : ((if (I 47 6) = (-1) then (r = (some (.int 0), (zS I J tg))) else (r = (some (.int 1), (zS I J tg)))))) : Runs (GW L xs) d 28 (0, [.ref 47], [], (zS I J tg)) r := by
  refine Runs.sN 3 (c' := (5, [.ref 47], [.int (-1), .int (I 47 6)], (zS I J tg))) rfl ?_
  by_cases c1 : (I 47 6) = (-1)
  · rw [if_pos c1] at h
    refine Runs.brT (P := (I 47 6) = (-1)) (a := 12) (b := 8) (L := [.ref 47]) (S := []) (z := (zS I J tg)) rfl c1 ?_
    refine Runs.sN 1 (c' := (13, [.ref 47], [.int 0], (zS I J tg))) rfl ?_
    subst h
    exact Runs.rt rfl
  · rw [if_neg c1] at h
    refine Runs.brF (P := (I 47 6) = (-1)) (a := 12) (b := 8) (L := [.ref 47]) (S := []) (z := (zS I J tg)) rfl c1 ?_
    refine Runs.sN 2 (c' := (13, [.ref 47], [.int 1], (zS I J tg))) rfl ?_
    subst h
    exact Runs.rt rfl
-- X2_hasHarm g51
theorem sg_28g51 {L d : Nat} {xs : Nat → Int32} (I : Nat → Nat → Int32) (J : Nat → Nat → Int64) (tg : Option Nat) {r : Option Value × SS} (h : ((if (I 51 6) = (-1) then (r = (some (.int 0), (zS I J tg))) else (r = (some (.int 1), (zS I J tg)))))) : Runs (GW L xs) d 28 (0, [.ref 51], [], (zS I J tg)) r := by
  refine Runs.sN 3 (c' := (5, [.ref 51], [.int (-1), .int (I 51 6)], (zS I J tg))) rfl ?_
  by_cases c1 : (I 51 6) = (-1)
  · rw [if_pos c1] at h
    refine Runs.brT (P := (I 51 6) = (-1)) (a := 12) (b := 8) (L := [.ref 51]) (S := []) (z := (zS I J tg)) rfl c1 ?_
    refine Runs.sN 1 (c' := (13, [.ref 51], [.int 0], (zS I J tg))) rfl ?_
    subst h
    exact Runs.rt rfl
  · rw [if_neg c1] at h
    refine Runs.brF (P := (I 51 6) = (-1)) (a := 12) (b := 8) (L := [.ref 51]) (S := []) (z := (zS I J tg)) rfl c1 ?_
    refine Runs.sN 2 (c' := (13, [.ref 51], [.int 1], (zS I J tg))) rfl ?_
    subst h
    exact Runs.rt rfl
-- X2_hasHarm g55
theorem sg_28g55 {L d : Nat} {xs : Nat → Int32} (I : Nat → Nat → Int32) (J : Nat → Nat → Int64) (tg : Option Nat) {r : Option Value × SS} (h : ((if (I 55 6) = (-1) then (r = (some (.int 0), (zS I J tg))) else (r = (some (.int 1), (zS I J tg)))))) : Runs (GW L xs) d 28 (0, [.ref 55], [], (zS I J tg)) r := by
  refine Runs.sN 3 (c' := (5, [.ref 55], [.int (-1), .int (I 55 6)], (zS I J tg))) rfl ?_
  by_cases c1 : (I 55 6) = (-1)
  · rw [if_pos c1] at h
    refine Runs.brT (P := (I 55 6) = (-1)) (a := 12) (b := 8) (L := [.ref 55]) (S := []) (z := (zS I J tg)) rfl c1 ?_
    refine Runs.sN 1 (c' := (13, [.ref 55], [.int 0], (zS I J tg))) rfl ?_
    subst h
    exact Runs.rt rfl
  · rw [if_neg c1] at h
    refine Runs.brF (P := (I 55 6) = (-1)) (a := 12) (b := 8) (L := [.ref 55]) (S := []) (z := (zS I J tg)) rfl c1 ?_
    refine Runs.sN 2 (c' := (13, [.ref 55], [.int 1], (zS I J tg))) rfl ?_
    subst h
    exact Runs.rt rfl
-- X2_hasHarm g59
theorem sg_28g59 {L d : Nat} {xs : Nat → Int32} (I : Nat → Nat → Int32) (J : Nat → Nat → Int64) (tg : Option Nat) {r : Option Value × SS} (h : ((if (I 59 6) = (-1) then (r = (some (.int 0), (zS I J tg))) else (r = (some (.int 1), (zS I J tg)))))) : Runs (GW L xs) d 28 (0, [.ref 59], [], (zS I J tg)) r := by
  refine Runs.sN 3 (c' := (5, [.ref 59], [.int (-1), .int (I 59 6)], (zS I J tg))) rfl ?_
  by_cases c1 : (I 59 6) = (-1)
  · rw [if_pos c1] at h
    refine Runs.brT (P := (I 59 6) = (-1)) (a := 12) (b := 8) (L := [.ref 59]) (S := []) (z := (zS I J tg)) rfl c1 ?_
    refine Runs.sN 1 (c' := (13, [.ref 59], [.int 0], (zS I J tg))) rfl ?_
    subst h
    exact Runs.rt rfl
  · rw [if_neg c1] at h
    refine Runs.brF (P := (I 59 6) = (-1)) (a := 12) (b := 8) (L := [.ref 59]) (S := []) (z := (zS I J tg)) rfl c1 ?_
    refine Runs.sN 2 (c' := (13, [.ref 59], [.int 1], (zS I J tg))) rfl ?_
    subst h
    exact Runs.rt rfl
-- X2_hasHarm g63
theorem sg_28g63 {L d : Nat} {xs : Nat → Int32} (I : Nat → Nat → Int32) (J : Nat → Nat → Int64) (tg : Option Nat) {r : Option Value × SS} (h : ((if (I 63 6) = (-1) then (r = (some (.int 0), (zS I J tg))) else (r = (some (.int 1), (zS I J tg)))))) : Runs (GW L xs) d 28 (0, [.ref 63], [], (zS I J tg)) r := by
  refine Runs.sN 3 (c' := (5, [.ref 63], [.int (-1), .int (I 63 6)], (zS I J tg))) rfl ?_
  by_cases c1 : (I 63 6) = (-1)
  · rw [if_pos c1] at h
    refine Runs.brT (P := (I 63 6) = (-1)) (a := 12) (b := 8) (L := [.ref 63]) (S := []) (z := (zS I J tg)) rfl c1 ?_
    refine Runs.sN 1 (c' := (13, [.ref 63], [.int 0], (zS I J tg))) rfl ?_
    subst h
    exact Runs.rt rfl
  · rw [if_neg c1] at h
    refine Runs.brF (P := (I 63 6) = (-1)) (a := 12) (b := 8) (L := [.ref 63]) (S := []) (z := (zS I J tg)) rfl c1 ?_
    refine Runs.sN 2 (c' := (13, [.ref 63], [.int 1], (zS I J tg))) rfl ?_
    subst h
    exact Runs.rt rfl
-- X2_run g47
theorem sg_29g47 {L d : Nat} {xs : Nat → Int32} (I : Nat → Nat → Int32) (J : Nat → Nat → Int64) (tg : Option Nat) (a1 : Int32) {r : Option Value × SS} (h : (¬ (a1 < 0 ∨ 11 ≤ (a1).toNatClampNeg) ∧ Runs (GW L xs) (d + 1) 29 (10, [.ref 47, .int a1, .ref 78, .int 0, .int (I 50 ((a1).toNatClampNeg)), vU, vU, vU], [], (zS I J tg)) r)) : Runs (GW L xs) (d + 1) 29 (0, [.ref 47, .int a1, .ref 78, vU, vU, vU, vU, vU], [], (zS I J tg)) r := by
  refine Runs.sN 5 (c' := (7, [.ref 47, .int a1, .ref 78, .int 0, vU, vU, vU, vU], [.int a1, .ref 50], (zS I J tg))) rfl ?_
  obtain ⟨c5, h⟩ := h
  refine Runs.to (c' := (8, [.ref 47, .int a1, .ref 78, .int 0, vU, vU, vU, vU], [.int (I 50 ((a1).toNatClampNeg))], (zS I J tg))) (Runs.ild rfl (show (50 : Nat) < 114 by decide) rfl c5) ?_
  refine Runs.sN 1 (c' := (10, [.ref 47, .int a1, .ref 78, .int 0, .int (I 50 ((a1).toNatClampNeg)), vU, vU, vU], [], (zS I J tg))) rfl ?_
  exact h
theorem sg_29g47_10 {L d : Nat} {xs : Nat → Int32} (I : Nat → Nat → Int32) (J : Nat → Nat → Int64) (tg : Option Nat) (x1 : Int32) (x3 : Int32) (x4 : Int32) {r : Option Value × SS} (h : (¬ ((x1 + 1) < 0 ∨ 11 ≤ (x1 + 1).toNatClampNeg) ∧ (if (I 50 ((x1 + 1).toNatClampNeg)) ≤ x4 then (r = (some (.int (I 45 0)), (zS I J tg))) else (¬ (x4 < 0 ∨ 300 ≤ (x4).toNatClampNeg) ∧ (if 20000 ≤ (I 48 ((x4).toNatClampNeg)) then ((if (I 48 ((x4).toNatClampNeg)) = 20021 then ((if x3 ≤ 0 then ((if x3 ≤ 1 then (Runs (GW L xs) (d + 1) 29 (10, [.ref 47, .int x1, .ref 78, .int x3, .int (x4 + 1), vU, vU, vU], [], (zS I J tg)) r) else (¬ (((x3 + (-1)) - 1) < 0 ∨ 300 ≤ ((x3 + (-1)) - 1).toNatClampNeg) ∧ ¬ ((x3 + (-1)) < 0 ∨ 300 ≤ (x3 + (-1)).toNatClampNeg) ∧ ∃ (v1 : Int64) (I2 : Nat → Nat → Int32), Runs (GW L xs) d 30 (0, [.int ((I 48 ((x4).toNatClampNeg)) - 20000), .long (Int32.toInt64 (I 45 (((x3 + (-1)) - 1).toNatClampNeg))), vU, .long (Int32.toInt64 (I 45 ((x3 + (-1)).toNatClampNeg))), vU], [], (zS I J tg)) ((some (.long v1)), (zS I2 J tg)) ∧ ¬ (((x3 + (-1)) - 1) < 0 ∨ 300 ≤ ((x3 + (-1)) - 1).toNatClampNeg) ∧ Runs (GW L xs) (d + 1) 29 (10, [.ref 47, .int x1, .ref 78, .int (x3 + (-1)), .int (x4 + 1), vU, vU, vU], [], (zS (up2 I2 45 (((x3 + (-1)) - 1).toNatClampNeg) (Int64.toInt32 (if (if v1 < 1000000 then v1 else 1000000) < (-1000000) then (-1000000) else (if v1 < 1000000 then v1 else 1000000)))) J tg)) r))) else (¬ ((x3 - 1) < 0 ∨ 300 ≤ (x3 - 1).toNatClampNeg) ∧ ¬ ((x3 - 1) < 0 ∨ 300 ≤ (x3 - 1).toNatClampNeg) ∧ Runs (GW L xs) (d + 1) 29 (10, [.ref 47, .int x1, .ref 78, .int x3, .int (x4 + 1), vU, vU, vU], [], (zS (up2 I 45 ((x3 - 1).toNatClampNeg) (-(I 45 ((x3 - 1).toNatClampNeg)))) J tg)) r))) else ((if x3 ≤ 1 then (Runs (GW L xs) (d + 1) 29 (10, [.ref 47, .int x1, .ref 78, .int x3, .int (x4 + 1), vU, vU, vU], [], (zS I J tg)) r) else (¬ (((x3 + (-1)) - 1) < 0 ∨ 300 ≤ ((x3 + (-1)) - 1).toNatClampNeg) ∧ ¬ ((x3 + (-1)) < 0 ∨ 300 ≤ (x3 + (-1)).toNatClampNeg) ∧ ∃ (v3 : Int64) (I4 : Nat → Nat → Int32), Runs (GW L xs) d 30 (0, [.int ((I 48 ((x4).toNatClampNeg)) - 20000), .long (Int32.toInt64 (I 45 (((x3 + (-1)) - 1).toNatClampNeg))), vU, .long (Int32.toInt64 (I 45 ((x3 + (-1)).toNatClampNeg))), vU], [], (zS I J tg)) ((some (.long v3)), (zS I4 J tg)) ∧ ¬ (((x3 + (-1)) - 1) < 0 ∨ 300 ≤ ((x3 + (-1)) - 1).toNatClampNeg) ∧ Runs (GW L xs) (d + 1) 29 (10, [.ref 47, .int x1, .ref 78, .int (x3 + (-1)), .int (x4 + 1), vU, vU, vU], [], (zS (up2 I4 45 (((x3 + (-1)) - 1).toNatClampNeg) (Int64.toInt32 (if (if v3 < 1000000 then v3 else 1000000) < (-1000000) then (-1000000) else (if v3 < 1000000 then v3 else 1000000)))) J tg)) r))))) else ((if 10000 ≤ (I 48 ((x4).toNatClampNeg)) then (¬ (((I 48 ((x4).toNatClampNeg)) - 10000) < 0 ∨ 12 ≤ ((I 48 ((x4).toNatClampNeg)) - 10000).toNatClampNeg) ∧ ¬ (x3 < 0 ∨ 300 ≤ (x3).toNatClampNeg) ∧ Runs (GW L xs) (d + 1) 29 (10, [.ref 47, .int x1, .ref 78, .int (x3 + 1), .int (x4 + 1), vU, vU, vU], [], (zS (up2 I 45 ((x3).toNatClampNeg) (I 78 (((I 48 ((x4).toNatClampNeg)) - 10000).toNatClampNeg))) J tg)) r) else (¬ (x3 < 0 ∨ 300 ≤ (x3).toNatClampNeg) ∧ Runs (GW L xs) (d + 1) 29 (10, [.ref 47, .int x1, .ref 78, .int (x3 + 1), .int (x4 + 1), vU, vU, vU], [], (zS (up2 I 45 ((x3).toNatClampNeg) (I 48 ((x4).toNatClampNeg))) J tg)) r)))))))) : Runs (GW L xs) (d + 1) 29 (10, [.ref 47, .int x1, .ref 78, .int x3, .int x4, vU, vU, vU], [], (zS I J tg)) r := by
  refine Runs.sN 6 (c' := (19, [.ref 47, .int x1, .ref 78, .int x3, .int x4, vU, vU, vU], [.int (x1 + 1), .ref 50, .int x4], (zS I J tg))) rfl ?_
  obtain ⟨c5, h⟩ := h
  refine Runs.to (c' := (20, [.ref 47, .int x1, .ref 78, .int x3, .int x4, vU, vU, vU], [.int (I 50 ((x1 + 1).toNatClampNeg)), .int x4], (zS I J tg))) (Runs.ild rfl (show (50 : Nat) < 114 by decide) rfl c5) ?_
  by_cases c6 : (I 50 ((x1 + 1).toNatClampNeg)) ≤ x4
  · rw [if_pos c6] at h
    refine Runs.brT (P := (I 50 ((x1 + 1).toNatClampNeg)) ≤ x4) (a := 169) (b := 23) (L := [.ref 47, .int x1, .ref 78, .int x3, .int x4, vU, vU, vU]) (S := []) (z := (zS I J tg)) rfl c6 ?_
    refine Runs.sN 4 (c' := (175, [.ref 47, .int x1, .ref 78, .int x3, .int x4, vU, vU, vU], [.int (I 45 0)], (zS I J tg))) rfl ?_
    subst h
    exact Runs.rt rfl
  · rw [if_neg c6] at h
    refine Runs.brF (P := (I 50 ((x1 + 1).toNatClampNeg)) ≤ x4) (a := 169) (b := 23) (L := [.ref 47, .int x1, .ref 78, .int x3, .int x4, vU, vU, vU]) (S := []) (z := (zS I J tg)) rfl c6 ?_
    refine Runs.sN 3 (c' := (29, [.ref 47, .int x1, .ref 78, .int x3, .int x4, vU, vU, vU], [.int x4, .ref 48], (zS I J tg))) rfl ?_
    obtain ⟨c7, h⟩ := h
    refine Runs.to (c' := (30, [.ref 47, .int x1, .ref 78, .int x3, .int x4, vU, vU, vU], [.int (I 48 ((x4).toNatClampNeg))], (zS I J tg))) (Runs.ild rfl (show (48 : Nat) < 114 by decide) rfl c7) ?_
    refine Runs.sN 3 (c' := (37, [.ref 47, .int x1, .ref 78, .int x3, .int x4, .int (I 48 ((x4).toNatClampNeg)), vU, vU], [.int 20000, .int (I 48 ((x4).toNatClampNeg))], (zS I J tg))) rfl ?_
    by_cases c8 : 20000 ≤ (I 48 ((x4).toNatClampNeg))
    · rw [if_pos c8] at h
      refine Runs.brT (P := 20000 ≤ (I 48 ((x4).toNatClampNeg))) (a := 73) (b := 40) (L := [.ref 47, .int x1, .ref 78, .int x3, .int x4, .int (I 48 ((x4).toNatClampNeg)), vU, vU]) (S := []) (z := (zS I J tg)) rfl c8 ?_
      refine Runs.sN 2 (c' := (78, [.ref 47, .int x1, .ref 78, .int x3, .int x4, .int (I 48 ((x4).toNatClampNeg)), vU, vU], [.int 20021, .int (I 48 ((x4).toNatClampNeg))], (zS I J tg))) rfl ?_
      by_cases c9 : (I 48 ((x4).toNatClampNeg)) = 20021
      · rw [if_pos c9] at h
        refine Runs.brT (P := (I 48 ((x4).toNatClampNeg)) = 20021) (a := 81) (b := 105) (L := [.ref 47, .int x1, .ref 78, .int x3, .int x4, .int (I 48 ((x4).toNatClampNeg)), vU, vU]) (S := []) (z := (zS I J tg)) rfl c9 ?_
        refine Runs.sN 1 (c' := (82, [.ref 47, .int x1, .ref 78, .int x3, .int x4, .int (I 48 ((x4).toNatClampNeg)), vU, vU], [.int x3], (zS I J tg))) rfl ?_
        by_cases c10 : x3 ≤ 0
        · rw [if_pos c10] at h
          refine Runs.brT (P := x3 ≤ 0) (a := 105) (b := 85) (L := [.ref 47, .int x1, .ref 78, .int x3, .int x4, .int (I 48 ((x4).toNatClampNeg)), vU, vU]) (S := []) (z := (zS I J tg)) rfl c10 ?_
          refine Runs.sN 2 (c' := (107, [.ref 47, .int x1, .ref 78, .int x3, .int x4, .int (I 48 ((x4).toNatClampNeg)), vU, vU], [.int 1, .int x3], (zS I J tg))) rfl ?_
          by_cases c11 : x3 ≤ 1
          · rw [if_pos c11] at h
            refine Runs.brT (P := x3 ≤ 1) (a := 163) (b := 110) (L := [.ref 47, .int x1, .ref 78, .int x3, .int x4, .int (I 48 ((x4).toNatClampNeg)), vU, vU]) (S := []) (z := (zS I J tg)) rfl c11 ?_
            refine Runs.sN 2 (c' := (10, [.ref 47, .int x1, .ref 78, .int x3, .int (x4 + 1), .int (I 48 ((x4).toNatClampNeg)), vU, vU], [], (zS I J tg))) rfl ?_
            exact Runs.weak (L := [.ref 47, .int x1, .ref 78, .int x3, .int (x4 + 1), vU, vU, vU]) (Lle.k (Lle.k (Lle.k (Lle.k (Lle.k (Lle.u (Lle.k (Lle.k Lle.n)))))))) h
          · rw [if_neg c11] at h
            refine Runs.brF (P := x3 ≤ 1) (a := 163) (b := 110) (L := [.ref 47, .int x1, .ref 78, .int x3, .int x4, .int (I 48 ((x4).toNatClampNeg)), vU, vU]) (S := []) (z := (zS I J tg)) rfl c11 ?_
            refine Runs.sN 9 (c' := (126, [.ref 47, .int x1, .ref 78, .int (x3 + (-1)), .int x4, .int (I 48 ((x4).toNatClampNeg)), vU, vU], [.int ((x3 + (-1)) - 1), .ref 45, .int ((I 48 ((x4).toNatClampNeg)) - 20000)], (zS I J tg))) rfl ?_
            obtain ⟨c12, h⟩ := h
            refine Runs.to (c' := (127, [.ref 47, .int x1, .ref 78, .int (x3 + (-1)), .int x4, .int (I 48 ((x4).toNatClampNeg)), vU, vU], [.int (I 45 (((x3 + (-1)) - 1).toNatClampNeg)), .int ((I 48 ((x4).toNatClampNeg)) - 20000)], (zS I J tg))) (Runs.ild rfl (show (45 : Nat) < 114 by decide) rfl c12) ?_
            refine Runs.sN 4 (c' := (133, [.ref 47, .int x1, .ref 78, .int (x3 + (-1)), .int x4, .int (I 48 ((x4).toNatClampNeg)), vU, vU], [.int (x3 + (-1)), .ref 45, .long (Int32.toInt64 (I 45 (((x3 + (-1)) - 1).toNatClampNeg))), .int ((I 48 ((x4).toNatClampNeg)) - 20000)], (zS I J tg))) rfl ?_
            obtain ⟨c13, h⟩ := h
            refine Runs.to (c' := (134, [.ref 47, .int x1, .ref 78, .int (x3 + (-1)), .int x4, .int (I 48 ((x4).toNatClampNeg)), vU, vU], [.int (I 45 ((x3 + (-1)).toNatClampNeg)), .long (Int32.toInt64 (I 45 (((x3 + (-1)) - 1).toNatClampNeg))), .int ((I 48 ((x4).toNatClampNeg)) - 20000)], (zS I J tg))) (Runs.ild rfl (show (45 : Nat) < 114 by decide) rfl c13) ?_
            refine Runs.sN 1 (c' := (135, [.ref 47, .int x1, .ref 78, .int (x3 + (-1)), .int x4, .int (I 48 ((x4).toNatClampNeg)), vU, vU], [.long (Int32.toInt64 (I 45 ((x3 + (-1)).toNatClampNeg))), .long (Int32.toInt64 (I 45 (((x3 + (-1)) - 1).toNatClampNeg))), .int ((I 48 ((x4).toNatClampNeg)) - 20000)], (zS I J tg))) rfl ?_
            obtain ⟨v1, I2, c14, h⟩ := h
            refine Runs.cl (cm := 30) (as := [.int ((I 48 ((x4).toNatClampNeg)) - 20000), .long (Int32.toInt64 (I 45 (((x3 + (-1)) - 1).toNatClampNeg))), .long (Int32.toInt64 (I 45 ((x3 + (-1)).toNatClampNeg)))]) (rest := []) (r1 := ((some (.long v1)), (zS I2 J tg))) rfl (Nat.le_of_ble_eq_true rfl) c14 ?_
            refine Runs.as (c' := (138, [.ref 47, .int x1, .ref 78, .int (x3 + (-1)), .int x4, .int (I 48 ((x4).toNatClampNeg)), vU, vU], [.long v1], (zS I2 J tg))) rfl ?_
            refine Runs.sN 12 (c' := (162, [.ref 47, .int x1, .ref 78, .int (x3 + (-1)), .int x4, .int (I 48 ((x4).toNatClampNeg)), .long v1, vU], [.int (Int64.toInt32 (if (if v1 < 1000000 then v1 else 1000000) < (-1000000) then (-1000000) else (if v1 < 1000000 then v1 else 1000000))), .int ((x3 + (-1)) - 1), .ref 45], (zS I2 J tg))) rfl ?_
            obtain ⟨c15, h⟩ := h
            refine Runs.to (c' := (163, [.ref 47, .int x1, .ref 78, .int (x3 + (-1)), .int x4, .int (I 48 ((x4).toNatClampNeg)), .long v1, vU], [], (zS (up2 I2 45 (((x3 + (-1)) - 1).toNatClampNeg) (Int64.toInt32 (if (if v1 < 1000000 then v1 else 1000000) < (-1000000) then (-1000000) else (if v1 < 1000000 then v1 else 1000000)))) J tg))) (Runs.ist rfl (show (45 : Nat) < 114 by decide) rfl c15) ?_
            refine Runs.sN 2 (c' := (10, [.ref 47, .int x1, .ref 78, .int (x3 + (-1)), .int (x4 + 1), .int (I 48 ((x4).toNatClampNeg)), .long v1, vU], [], (zS (up2 I2 45 (((x3 + (-1)) - 1).toNatClampNeg) (Int64.toInt32 (if (if v1 < 1000000 then v1 else 1000000) < (-1000000) then (-1000000) else (if v1 < 1000000 then v1 else 1000000)))) J tg))) rfl ?_
            exact Runs.weak (L := [.ref 47, .int x1, .ref 78, .int (x3 + (-1)), .int (x4 + 1), vU, vU, vU]) (Lle.k (Lle.k (Lle.k (Lle.k (Lle.k (Lle.u (Lle.u (Lle.k Lle.n)))))))) h
        · rw [if_neg c10] at h
          refine Runs.brF (P := x3 ≤ 0) (a := 105) (b := 85) (L := [.ref 47, .int x1, .ref 78, .int x3, .int x4, .int (I 48 ((x4).toNatClampNeg)), vU, vU]) (S := []) (z := (zS I J tg)) rfl c10 ?_
          refine Runs.sN 10 (c' := (99, [.ref 47, .int x1, .ref 78, .int x3, .int x4, .int (I 48 ((x4).toNatClampNeg)), vU, vU], [.int (x3 - 1), .ref 45, .int (x3 - 1), .ref 45], (zS I J tg))) rfl ?_
          obtain ⟨c16, h⟩ := h
          refine Runs.to (c' := (100, [.ref 47, .int x1, .ref 78, .int x3, .int x4, .int (I 48 ((x4).toNatClampNeg)), vU, vU], [.int (I 45 ((x3 - 1).toNatClampNeg)), .int (x3 - 1), .ref 45], (zS I J tg))) (Runs.ild rfl (show (45 : Nat) < 114 by decide) rfl c16) ?_
          refine Runs.sN 1 (c' := (101, [.ref 47, .int x1, .ref 78, .int x3, .int x4, .int (I 48 ((x4).toNatClampNeg)), vU, vU], [.int (-(I 45 ((x3 - 1).toNatClampNeg))), .int (x3 - 1), .ref 45], (zS I J tg))) rfl ?_
          obtain ⟨c17, h⟩ := h
          refine Runs.to (c' := (102, [.ref 47, .int x1, .ref 78, .int x3, .int x4, .int (I 48 ((x4).toNatClampNeg)), vU, vU], [], (zS (up2 I 45 ((x3 - 1).toNatClampNeg) (-(I 45 ((x3 - 1).toNatClampNeg)))) J tg))) (Runs.ist rfl (show (45 : Nat) < 114 by decide) rfl c17) ?_
          refine Runs.sN 3 (c' := (10, [.ref 47, .int x1, .ref 78, .int x3, .int (x4 + 1), .int (I 48 ((x4).toNatClampNeg)), vU, vU], [], (zS (up2 I 45 ((x3 - 1).toNatClampNeg) (-(I 45 ((x3 - 1).toNatClampNeg)))) J tg))) rfl ?_
          exact Runs.weak (L := [.ref 47, .int x1, .ref 78, .int x3, .int (x4 + 1), vU, vU, vU]) (Lle.k (Lle.k (Lle.k (Lle.k (Lle.k (Lle.u (Lle.k (Lle.k Lle.n)))))))) h
      · rw [if_neg c9] at h
        refine Runs.brF (P := (I 48 ((x4).toNatClampNeg)) = 20021) (a := 81) (b := 105) (L := [.ref 47, .int x1, .ref 78, .int x3, .int x4, .int (I 48 ((x4).toNatClampNeg)), vU, vU]) (S := []) (z := (zS I J tg)) rfl c9 ?_
        refine Runs.sN 2 (c' := (107, [.ref 47, .int x1, .ref 78, .int x3, .int x4, .int (I 48 ((x4).toNatClampNeg)), vU, vU], [.int 1, .int x3], (zS I J tg))) rfl ?_
        by_cases c18 : x3 ≤ 1
        · rw [if_pos c18] at h
          refine Runs.brT (P := x3 ≤ 1) (a := 163) (b := 110) (L := [.ref 47, .int x1, .ref 78, .int x3, .int x4, .int (I 48 ((x4).toNatClampNeg)), vU, vU]) (S := []) (z := (zS I J tg)) rfl c18 ?_
          refine Runs.sN 2 (c' := (10, [.ref 47, .int x1, .ref 78, .int x3, .int (x4 + 1), .int (I 48 ((x4).toNatClampNeg)), vU, vU], [], (zS I J tg))) rfl ?_
          exact Runs.weak (L := [.ref 47, .int x1, .ref 78, .int x3, .int (x4 + 1), vU, vU, vU]) (Lle.k (Lle.k (Lle.k (Lle.k (Lle.k (Lle.u (Lle.k (Lle.k Lle.n)))))))) h
        · rw [if_neg c18] at h
          refine Runs.brF (P := x3 ≤ 1) (a := 163) (b := 110) (L := [.ref 47, .int x1, .ref 78, .int x3, .int x4, .int (I 48 ((x4).toNatClampNeg)), vU, vU]) (S := []) (z := (zS I J tg)) rfl c18 ?_
          refine Runs.sN 9 (c' := (126, [.ref 47, .int x1, .ref 78, .int (x3 + (-1)), .int x4, .int (I 48 ((x4).toNatClampNeg)), vU, vU], [.int ((x3 + (-1)) - 1), .ref 45, .int ((I 48 ((x4).toNatClampNeg)) - 20000)], (zS I J tg))) rfl ?_
          obtain ⟨c19, h⟩ := h
          refine Runs.to (c' := (127, [.ref 47, .int x1, .ref 78, .int (x3 + (-1)), .int x4, .int (I 48 ((x4).toNatClampNeg)), vU, vU], [.int (I 45 (((x3 + (-1)) - 1).toNatClampNeg)), .int ((I 48 ((x4).toNatClampNeg)) - 20000)], (zS I J tg))) (Runs.ild rfl (show (45 : Nat) < 114 by decide) rfl c19) ?_
          refine Runs.sN 4 (c' := (133, [.ref 47, .int x1, .ref 78, .int (x3 + (-1)), .int x4, .int (I 48 ((x4).toNatClampNeg)), vU, vU], [.int (x3 + (-1)), .ref 45, .long (Int32.toInt64 (I 45 (((x3 + (-1)) - 1).toNatClampNeg))), .int ((I 48 ((x4).toNatClampNeg)) - 20000)], (zS I J tg))) rfl ?_
          obtain ⟨c20, h⟩ := h
          refine Runs.to (c' := (134, [.ref 47, .int x1, .ref 78, .int (x3 + (-1)), .int x4, .int (I 48 ((x4).toNatClampNeg)), vU, vU], [.int (I 45 ((x3 + (-1)).toNatClampNeg)), .long (Int32.toInt64 (I 45 (((x3 + (-1)) - 1).toNatClampNeg))), .int ((I 48 ((x4).toNatClampNeg)) - 20000)], (zS I J tg))) (Runs.ild rfl (show (45 : Nat) < 114 by decide) rfl c20) ?_
          refine Runs.sN 1 (c' := (135, [.ref 47, .int x1, .ref 78, .int (x3 + (-1)), .int x4, .int (I 48 ((x4).toNatClampNeg)), vU, vU], [.long (Int32.toInt64 (I 45 ((x3 + (-1)).toNatClampNeg))), .long (Int32.toInt64 (I 45 (((x3 + (-1)) - 1).toNatClampNeg))), .int ((I 48 ((x4).toNatClampNeg)) - 20000)], (zS I J tg))) rfl ?_
          obtain ⟨v3, I4, c21, h⟩ := h
          refine Runs.cl (cm := 30) (as := [.int ((I 48 ((x4).toNatClampNeg)) - 20000), .long (Int32.toInt64 (I 45 (((x3 + (-1)) - 1).toNatClampNeg))), .long (Int32.toInt64 (I 45 ((x3 + (-1)).toNatClampNeg)))]) (rest := []) (r1 := ((some (.long v3)), (zS I4 J tg))) rfl (Nat.le_of_ble_eq_true rfl) c21 ?_
          refine Runs.as (c' := (138, [.ref 47, .int x1, .ref 78, .int (x3 + (-1)), .int x4, .int (I 48 ((x4).toNatClampNeg)), vU, vU], [.long v3], (zS I4 J tg))) rfl ?_
          refine Runs.sN 12 (c' := (162, [.ref 47, .int x1, .ref 78, .int (x3 + (-1)), .int x4, .int (I 48 ((x4).toNatClampNeg)), .long v3, vU], [.int (Int64.toInt32 (if (if v3 < 1000000 then v3 else 1000000) < (-1000000) then (-1000000) else (if v3 < 1000000 then v3 else 1000000))), .int ((x3 + (-1)) - 1), .ref 45], (zS I4 J tg))) rfl ?_
          obtain ⟨c22, h⟩ := h
          refine Runs.to (c' := (163, [.ref 47, .int x1, .ref 78, .int (x3 + (-1)), .int x4, .int (I 48 ((x4).toNatClampNeg)), .long v3, vU], [], (zS (up2 I4 45 (((x3 + (-1)) - 1).toNatClampNeg) (Int64.toInt32 (if (if v3 < 1000000 then v3 else 1000000) < (-1000000) then (-1000000) else (if v3 < 1000000 then v3 else 1000000)))) J tg))) (Runs.ist rfl (show (45 : Nat) < 114 by decide) rfl c22) ?_
          refine Runs.sN 2 (c' := (10, [.ref 47, .int x1, .ref 78, .int (x3 + (-1)), .int (x4 + 1), .int (I 48 ((x4).toNatClampNeg)), .long v3, vU], [], (zS (up2 I4 45 (((x3 + (-1)) - 1).toNatClampNeg) (Int64.toInt32 (if (if v3 < 1000000 then v3 else 1000000) < (-1000000) then (-1000000) else (if v3 < 1000000 then v3 else 1000000)))) J tg))) rfl ?_
          exact Runs.weak (L := [.ref 47, .int x1, .ref 78, .int (x3 + (-1)), .int (x4 + 1), vU, vU, vU]) (Lle.k (Lle.k (Lle.k (Lle.k (Lle.k (Lle.u (Lle.u (Lle.k Lle.n)))))))) h
    · rw [if_neg c8] at h
      refine Runs.brF (P := 20000 ≤ (I 48 ((x4).toNatClampNeg))) (a := 73) (b := 40) (L := [.ref 47, .int x1, .ref 78, .int x3, .int x4, .int (I 48 ((x4).toNatClampNeg)), vU, vU]) (S := []) (z := (zS I J tg)) rfl c8 ?_
      refine Runs.sN 5 (c' := (50, [.ref 47, .int x1, .ref 78, .int x3, .int x4, .int (I 48 ((x4).toNatClampNeg)), vU, vU], [.int 10000, .int (I 48 ((x4).toNatClampNeg)), .int x3, .ref 45], (zS I J tg))) rfl ?_
      by_cases c23 : 10000 ≤ (I 48 ((x4).toNatClampNeg))
      · rw [if_pos c23] at h
        refine Runs.brT (P := 10000 ≤ (I 48 ((x4).toNatClampNeg))) (a := 58) (b := 53) (L := [.ref 47, .int x1, .ref 78, .int x3, .int x4, .int (I 48 ((x4).toNatClampNeg)), vU, vU]) (S := [.int x3, .ref 45]) (z := (zS I J tg)) rfl c23 ?_
        refine Runs.sN 4 (c' := (65, [.ref 47, .int x1, .ref 78, .int x3, .int x4, .int (I 48 ((x4).toNatClampNeg)), vU, vU], [.int ((I 48 ((x4).toNatClampNeg)) - 10000), .ref 78, .int x3, .ref 45], (zS I J tg))) rfl ?_
        obtain ⟨c24, h⟩ := h
        refine Runs.to (c' := (66, [.ref 47, .int x1, .ref 78, .int x3, .int x4, .int (I 48 ((x4).toNatClampNeg)), vU, vU], [.int (I 78 (((I 48 ((x4).toNatClampNeg)) - 10000).toNatClampNeg)), .int x3, .ref 45], (zS I J tg))) (Runs.ild rfl (show (78 : Nat) < 114 by decide) rfl c24) ?_
        obtain ⟨c25, h⟩ := h
        refine Runs.to (c' := (67, [.ref 47, .int x1, .ref 78, .int x3, .int x4, .int (I 48 ((x4).toNatClampNeg)), vU, vU], [], (zS (up2 I 45 ((x3).toNatClampNeg) (I 78 (((I 48 ((x4).toNatClampNeg)) - 10000).toNatClampNeg))) J tg))) (Runs.ist rfl (show (45 : Nat) < 114 by decide) rfl c25) ?_
        refine Runs.sN 4 (c' := (10, [.ref 47, .int x1, .ref 78, .int (x3 + 1), .int (x4 + 1), .int (I 48 ((x4).toNatClampNeg)), vU, vU], [], (zS (up2 I 45 ((x3).toNatClampNeg) (I 78 (((I 48 ((x4).toNatClampNeg)) - 10000).toNatClampNeg))) J tg))) rfl ?_
        exact Runs.weak (L := [.ref 47, .int x1, .ref 78, .int (x3 + 1), .int (x4 + 1), vU, vU, vU]) (Lle.k (Lle.k (Lle.k (Lle.k (Lle.k (Lle.u (Lle.k (Lle.k Lle.n)))))))) h
      · rw [if_neg c23] at h
        refine Runs.brF (P := 10000 ≤ (I 48 ((x4).toNatClampNeg))) (a := 58) (b := 53) (L := [.ref 47, .int x1, .ref 78, .int x3, .int x4, .int (I 48 ((x4).toNatClampNeg)), vU, vU]) (S := [.int x3, .ref 45]) (z := (zS I J tg)) rfl c23 ?_
        refine Runs.sN 2 (c' := (66, [.ref 47, .int x1, .ref 78, .int x3, .int x4, .int (I 48 ((x4).toNatClampNeg)), vU, vU], [.int (I 48 ((x4).toNatClampNeg)), .int x3, .ref 45], (zS I J tg))) rfl ?_
        obtain ⟨c26, h⟩ := h
        refine Runs.to (c' := (67, [.ref 47, .int x1, .ref 78, .int x3, .int x4, .int (I 48 ((x4).toNatClampNeg)), vU, vU], [], (zS (up2 I 45 ((x3).toNatClampNeg) (I 48 ((x4).toNatClampNeg))) J tg))) (Runs.ist rfl (show (45 : Nat) < 114 by decide) rfl c26) ?_
        refine Runs.sN 4 (c' := (10, [.ref 47, .int x1, .ref 78, .int (x3 + 1), .int (x4 + 1), .int (I 48 ((x4).toNatClampNeg)), vU, vU], [], (zS (up2 I 45 ((x3).toNatClampNeg) (I 48 ((x4).toNatClampNeg))) J tg))) rfl ?_
        exact Runs.weak (L := [.ref 47, .int x1, .ref 78, .int (x3 + 1), .int (x4 + 1), vU, vU, vU]) (Lle.k (Lle.k (Lle.k (Lle.k (Lle.k (Lle.u (Lle.k (Lle.k Lle.n)))))))) h
-- X2_run g51
theorem sg_29g51 {L d : Nat} {xs : Nat → Int32} (I : Nat → Nat → Int32) (J : Nat → Nat → Int64) (tg : Option Nat) (a1 : Int32) {r : Option Value × SS} (h : (¬ (a1 < 0 ∨ 11 ≤ (a1).toNatClampNeg) ∧ Runs (GW L xs) (d + 1) 29 (10, [.ref 51, .int a1, .ref 78, .int 0, .int (I 54 ((a1).toNatClampNeg)), vU, vU, vU], [], (zS I J tg)) r)) : Runs (GW L xs) (d + 1) 29 (0, [.ref 51, .int a1, .ref 78, vU, vU, vU, vU, vU], [], (zS I J tg)) r := by
  refine Runs.sN 5 (c' := (7, [.ref 51, .int a1, .ref 78, .int 0, vU, vU, vU, vU], [.int a1, .ref 54], (zS I J tg))) rfl ?_
  obtain ⟨c5, h⟩ := h
  refine Runs.to (c' := (8, [.ref 51, .int a1, .ref 78, .int 0, vU, vU, vU, vU], [.int (I 54 ((a1).toNatClampNeg))], (zS I J tg))) (Runs.ild rfl (show (54 : Nat) < 114 by decide) rfl c5) ?_
  refine Runs.sN 1 (c' := (10, [.ref 51, .int a1, .ref 78, .int 0, .int (I 54 ((a1).toNatClampNeg)), vU, vU, vU], [], (zS I J tg))) rfl ?_
  exact h
theorem sg_29g51_10 {L d : Nat} {xs : Nat → Int32} (I : Nat → Nat → Int32) (J : Nat → Nat → Int64) (tg : Option Nat) (x1 : Int32) (x3 : Int32) (x4 : Int32) {r : Option Value × SS} (h : (¬ ((x1 + 1) < 0 ∨ 11 ≤ (x1 + 1).toNatClampNeg) ∧ (if (I 54 ((x1 + 1).toNatClampNeg)) ≤ x4 then (r = (some (.int (I 45 0)), (zS I J tg))) else (¬ (x4 < 0 ∨ 300 ≤ (x4).toNatClampNeg) ∧ (if 20000 ≤ (I 52 ((x4).toNatClampNeg)) then ((if (I 52 ((x4).toNatClampNeg)) = 20021 then ((if x3 ≤ 0 then ((if x3 ≤ 1 then (Runs (GW L xs) (d + 1) 29 (10, [.ref 51, .int x1, .ref 78, .int x3, .int (x4 + 1), vU, vU, vU], [], (zS I J tg)) r) else (¬ (((x3 + (-1)) - 1) < 0 ∨ 300 ≤ ((x3 + (-1)) - 1).toNatClampNeg) ∧ ¬ ((x3 + (-1)) < 0 ∨ 300 ≤ (x3 + (-1)).toNatClampNeg) ∧ ∃ (v1 : Int64) (I2 : Nat → Nat → Int32), Runs (GW L xs) d 30 (0, [.int ((I 52 ((x4).toNatClampNeg)) - 20000), .long (Int32.toInt64 (I 45 (((x3 + (-1)) - 1).toNatClampNeg))), vU, .long (Int32.toInt64 (I 45 ((x3 + (-1)).toNatClampNeg))), vU], [], (zS I J tg)) ((some (.long v1)), (zS I2 J tg)) ∧ ¬ (((x3 + (-1)) - 1) < 0 ∨ 300 ≤ ((x3 + (-1)) - 1).toNatClampNeg) ∧ Runs (GW L xs) (d + 1) 29 (10, [.ref 51, .int x1, .ref 78, .int (x3 + (-1)), .int (x4 + 1), vU, vU, vU], [], (zS (up2 I2 45 (((x3 + (-1)) - 1).toNatClampNeg) (Int64.toInt32 (if (if v1 < 1000000 then v1 else 1000000) < (-1000000) then (-1000000) else (if v1 < 1000000 then v1 else 1000000)))) J tg)) r))) else (¬ ((x3 - 1) < 0 ∨ 300 ≤ (x3 - 1).toNatClampNeg) ∧ ¬ ((x3 - 1) < 0 ∨ 300 ≤ (x3 - 1).toNatClampNeg) ∧ Runs (GW L xs) (d + 1) 29 (10, [.ref 51, .int x1, .ref 78, .int x3, .int (x4 + 1), vU, vU, vU], [], (zS (up2 I 45 ((x3 - 1).toNatClampNeg) (-(I 45 ((x3 - 1).toNatClampNeg)))) J tg)) r))) else ((if x3 ≤ 1 then (Runs (GW L xs) (d + 1) 29 (10, [.ref 51, .int x1, .ref 78, .int x3, .int (x4 + 1), vU, vU, vU], [], (zS I J tg)) r) else (¬ (((x3 + (-1)) - 1) < 0 ∨ 300 ≤ ((x3 + (-1)) - 1).toNatClampNeg) ∧ ¬ ((x3 + (-1)) < 0 ∨ 300 ≤ (x3 + (-1)).toNatClampNeg) ∧ ∃ (v3 : Int64) (I4 : Nat → Nat → Int32), Runs (GW L xs) d 30 (0, [.int ((I 52 ((x4).toNatClampNeg)) - 20000), .long (Int32.toInt64 (I 45 (((x3 + (-1)) - 1).toNatClampNeg))), vU, .long (Int32.toInt64 (I 45 ((x3 + (-1)).toNatClampNeg))), vU], [], (zS I J tg)) ((some (.long v3)), (zS I4 J tg)) ∧ ¬ (((x3 + (-1)) - 1) < 0 ∨ 300 ≤ ((x3 + (-1)) - 1).toNatClampNeg) ∧ Runs (GW L xs) (d + 1) 29 (10, [.ref 51, .int x1, .ref 78, .int (x3 + (-1)), .int (x4 + 1), vU, vU, vU], [], (zS (up2 I4 45 (((x3 + (-1)) - 1).toNatClampNeg) (Int64.toInt32 (if (if v3 < 1000000 then v3 else 1000000) < (-1000000) then (-1000000) else (if v3 < 1000000 then v3 else 1000000)))) J tg)) r))))) else ((if 10000 ≤ (I 52 ((x4).toNatClampNeg)) then (¬ (((I 52 ((x4).toNatClampNeg)) - 10000) < 0 ∨ 12 ≤ ((I 52 ((x4).toNatClampNeg)) - 10000).toNatClampNeg) ∧ ¬ (x3 < 0 ∨ 300 ≤ (x3).toNatClampNeg) ∧ Runs (GW L xs) (d + 1) 29 (10, [.ref 51, .int x1, .ref 78, .int (x3 + 1), .int (x4 + 1), vU, vU, vU], [], (zS (up2 I 45 ((x3).toNatClampNeg) (I 78 (((I 52 ((x4).toNatClampNeg)) - 10000).toNatClampNeg))) J tg)) r) else (¬ (x3 < 0 ∨ 300 ≤ (x3).toNatClampNeg) ∧ Runs (GW L xs) (d + 1) 29 (10, [.ref 51, .int x1, .ref 78, .int (x3 + 1), .int (x4 + 1), vU, vU, vU], [], (zS (up2 I 45 ((x3).toNatClampNeg) (I 52 ((x4).toNatClampNeg))) J tg)) r)))))))) : Runs (GW L xs) (d + 1) 29 (10, [.ref 51, .int x1, .ref 78, .int x3, .int x4, vU, vU, vU], [], (zS I J tg)) r := by
  refine Runs.sN 6 (c' := (19, [.ref 51, .int x1, .ref 78, .int x3, .int x4, vU, vU, vU], [.int (x1 + 1), .ref 54, .int x4], (zS I J tg))) rfl ?_
  obtain ⟨c5, h⟩ := h
  refine Runs.to (c' := (20, [.ref 51, .int x1, .ref 78, .int x3, .int x4, vU, vU, vU], [.int (I 54 ((x1 + 1).toNatClampNeg)), .int x4], (zS I J tg))) (Runs.ild rfl (show (54 : Nat) < 114 by decide) rfl c5) ?_
  by_cases c6 : (I 54 ((x1 + 1).toNatClampNeg)) ≤ x4
  · rw [if_pos c6] at h
    refine Runs.brT (P := (I 54 ((x1 + 1).toNatClampNeg)) ≤ x4) (a := 169) (b := 23) (L := [.ref 51, .int x1, .ref 78, .int x3, .int x4, vU, vU, vU]) (S := []) (z := (zS I J tg)) rfl c6 ?_
    refine Runs.sN 4 (c' := (175, [.ref 51, .int x1, .ref 78, .int x3, .int x4, vU, vU, vU], [.int (I 45 0)], (zS I J tg))) rfl ?_
    subst h
    exact Runs.rt rfl
  · rw [if_neg c6] at h
    refine Runs.brF (P := (I 54 ((x1 + 1).toNatClampNeg)) ≤ x4) (a := 169) (b := 23) (L := [.ref 51, .int x1, .ref 78, .int x3, .int x4, vU, vU, vU]) (S := []) (z := (zS I J tg)) rfl c6 ?_
    refine Runs.sN 3 (c' := (29, [.ref 51, .int x1, .ref 78, .int x3, .int x4, vU, vU, vU], [.int x4, .ref 52], (zS I J tg))) rfl ?_
    obtain ⟨c7, h⟩ := h
    refine Runs.to (c' := (30, [.ref 51, .int x1, .ref 78, .int x3, .int x4, vU, vU, vU], [.int (I 52 ((x4).toNatClampNeg))], (zS I J tg))) (Runs.ild rfl (show (52 : Nat) < 114 by decide) rfl c7) ?_
    refine Runs.sN 3 (c' := (37, [.ref 51, .int x1, .ref 78, .int x3, .int x4, .int (I 52 ((x4).toNatClampNeg)), vU, vU], [.int 20000, .int (I 52 ((x4).toNatClampNeg))], (zS I J tg))) rfl ?_
    by_cases c8 : 20000 ≤ (I 52 ((x4).toNatClampNeg))
    · rw [if_pos c8] at h
      refine Runs.brT (P := 20000 ≤ (I 52 ((x4).toNatClampNeg))) (a := 73) (b := 40) (L := [.ref 51, .int x1, .ref 78, .int x3, .int x4, .int (I 52 ((x4).toNatClampNeg)), vU, vU]) (S := []) (z := (zS I J tg)) rfl c8 ?_
      refine Runs.sN 2 (c' := (78, [.ref 51, .int x1, .ref 78, .int x3, .int x4, .int (I 52 ((x4).toNatClampNeg)), vU, vU], [.int 20021, .int (I 52 ((x4).toNatClampNeg))], (zS I J tg))) rfl ?_
      by_cases c9 : (I 52 ((x4).toNatClampNeg)) = 20021
      · rw [if_pos c9] at h
        refine Runs.brT (P := (I 52 ((x4).toNatClampNeg)) = 20021) (a := 81) (b := 105) (L := [.ref 51, .int x1, .ref 78, .int x3, .int x4, .int (I 52 ((x4).toNatClampNeg)), vU, vU]) (S := []) (z := (zS I J tg)) rfl c9 ?_
        refine Runs.sN 1 (c' := (82, [.ref 51, .int x1, .ref 78, .int x3, .int x4, .int (I 52 ((x4).toNatClampNeg)), vU, vU], [.int x3], (zS I J tg))) rfl ?_
        by_cases c10 : x3 ≤ 0
        · rw [if_pos c10] at h
          refine Runs.brT (P := x3 ≤ 0) (a := 105) (b := 85) (L := [.ref 51, .int x1, .ref 78, .int x3, .int x4, .int (I 52 ((x4).toNatClampNeg)), vU, vU]) (S := []) (z := (zS I J tg)) rfl c10 ?_
          refine Runs.sN 2 (c' := (107, [.ref 51, .int x1, .ref 78, .int x3, .int x4, .int (I 52 ((x4).toNatClampNeg)), vU, vU], [.int 1, .int x3], (zS I J tg))) rfl ?_
          by_cases c11 : x3 ≤ 1
          · rw [if_pos c11] at h
            refine Runs.brT (P := x3 ≤ 1) (a := 163) (b := 110) (L := [.ref 51, .int x1, .ref 78, .int x3, .int x4, .int (I 52 ((x4).toNatClampNeg)), vU, vU]) (S := []) (z := (zS I J tg)) rfl c11 ?_
            refine Runs.sN 2 (c' := (10, [.ref 51, .int x1, .ref 78, .int x3, .int (x4 + 1), .int (I 52 ((x4).toNatClampNeg)), vU, vU], [], (zS I J tg))) rfl ?_
            exact Runs.weak (L := [.ref 51, .int x1, .ref 78, .int x3, .int (x4 + 1), vU, vU, vU]) (Lle.k (Lle.k (Lle.k (Lle.k (Lle.k (Lle.u (Lle.k (Lle.k Lle.n)))))))) h
          · rw [if_neg c11] at h
            refine Runs.brF (P := x3 ≤ 1) (a := 163) (b := 110) (L := [.ref 51, .int x1, .ref 78, .int x3, .int x4, .int (I 52 ((x4).toNatClampNeg)), vU, vU]) (S := []) (z := (zS I J tg)) rfl c11 ?_
            refine Runs.sN 9 (c' := (126, [.ref 51, .int x1, .ref 78, .int (x3 + (-1)), .int x4, .int (I 52 ((x4).toNatClampNeg)), vU, vU], [.int ((x3 + (-1)) - 1), .ref 45, .int ((I 52 ((x4).toNatClampNeg)) - 20000)], (zS I J tg))) rfl ?_
            obtain ⟨c12, h⟩ := h
            refine Runs.to (c' := (127, [.ref 51, .int x1, .ref 78, .int (x3 + (-1)), .int x4, .int (I 52 ((x4).toNatClampNeg)), vU, vU], [.int (I 45 (((x3 + (-1)) - 1).toNatClampNeg)), .int ((I 52 ((x4).toNatClampNeg)) - 20000)], (zS I J tg))) (Runs.ild rfl (show (45 : Nat) < 114 by decide) rfl c12) ?_
            refine Runs.sN 4 (c' := (133, [.ref 51, .int x1, .ref 78, .int (x3 + (-1)), .int x4, .int (I 52 ((x4).toNatClampNeg)), vU, vU], [.int (x3 + (-1)), .ref 45, .long (Int32.toInt64 (I 45 (((x3 + (-1)) - 1).toNatClampNeg))), .int ((I 52 ((x4).toNatClampNeg)) - 20000)], (zS I J tg))) rfl ?_
            obtain ⟨c13, h⟩ := h
            refine Runs.to (c' := (134, [.ref 51, .int x1, .ref 78, .int (x3 + (-1)), .int x4, .int (I 52 ((x4).toNatClampNeg)), vU, vU], [.int (I 45 ((x3 + (-1)).toNatClampNeg)), .long (Int32.toInt64 (I 45 (((x3 + (-1)) - 1).toNatClampNeg))), .int ((I 52 ((x4).toNatClampNeg)) - 20000)], (zS I J tg))) (Runs.ild rfl (show (45 : Nat) < 114 by decide) rfl c13) ?_
            refine Runs.sN 1 (c' := (135, [.ref 51, .int x1, .ref 78, .int (x3 + (-1)), .int x4, .int (I 52 ((x4).toNatClampNeg)), vU, vU], [.long (Int32.toInt64 (I 45 ((x3 + (-1)).toNatClampNeg))), .long (Int32.toInt64 (I 45 (((x3 + (-1)) - 1).toNatClampNeg))), .int ((I 52 ((x4).toNatClampNeg)) - 20000)], (zS I J tg))) rfl ?_
            obtain ⟨v1, I2, c14, h⟩ := h
            refine Runs.cl (cm := 30) (as := [.int ((I 52 ((x4).toNatClampNeg)) - 20000), .long (Int32.toInt64 (I 45 (((x3 + (-1)) - 1).toNatClampNeg))), .long (Int32.toInt64 (I 45 ((x3 + (-1)).toNatClampNeg)))]) (rest := []) (r1 := ((some (.long v1)), (zS I2 J tg))) rfl (Nat.le_of_ble_eq_true rfl) c14 ?_
            refine Runs.as (c' := (138, [.ref 51, .int x1, .ref 78, .int (x3 + (-1)), .int x4, .int (I 52 ((x4).toNatClampNeg)), vU, vU], [.long v1], (zS I2 J tg))) rfl ?_
            refine Runs.sN 12 (c' := (162, [.ref 51, .int x1, .ref 78, .int (x3 + (-1)), .int x4, .int (I 52 ((x4).toNatClampNeg)), .long v1, vU], [.int (Int64.toInt32 (if (if v1 < 1000000 then v1 else 1000000) < (-1000000) then (-1000000) else (if v1 < 1000000 then v1 else 1000000))), .int ((x3 + (-1)) - 1), .ref 45], (zS I2 J tg))) rfl ?_
            obtain ⟨c15, h⟩ := h
            refine Runs.to (c' := (163, [.ref 51, .int x1, .ref 78, .int (x3 + (-1)), .int x4, .int (I 52 ((x4).toNatClampNeg)), .long v1, vU], [], (zS (up2 I2 45 (((x3 + (-1)) - 1).toNatClampNeg) (Int64.toInt32 (if (if v1 < 1000000 then v1 else 1000000) < (-1000000) then (-1000000) else (if v1 < 1000000 then v1 else 1000000)))) J tg))) (Runs.ist rfl (show (45 : Nat) < 114 by decide) rfl c15) ?_
            refine Runs.sN 2 (c' := (10, [.ref 51, .int x1, .ref 78, .int (x3 + (-1)), .int (x4 + 1), .int (I 52 ((x4).toNatClampNeg)), .long v1, vU], [], (zS (up2 I2 45 (((x3 + (-1)) - 1).toNatClampNeg) (Int64.toInt32 (if (if v1 < 1000000 then v1 else 1000000) < (-1000000) then (-1000000) else (if v1 < 1000000 then v1 else 1000000)))) J tg))) rfl ?_
            exact Runs.weak (L := [.ref 51, .int x1, .ref 78, .int (x3 + (-1)), .int (x4 + 1), vU, vU, vU]) (Lle.k (Lle.k (Lle.k (Lle.k (Lle.k (Lle.u (Lle.u (Lle.k Lle.n)))))))) h
        · rw [if_neg c10] at h
          refine Runs.brF (P := x3 ≤ 0) (a := 105) (b := 85) (L := [.ref 51, .int x1, .ref 78, .int x3, .int x4, .int (I 52 ((x4).toNatClampNeg)), vU, vU]) (S := []) (z := (zS I J tg)) rfl c10 ?_
          refine Runs.sN 10 (c' := (99, [.ref 51, .int x1, .ref 78, .int x3, .int x4, .int (I 52 ((x4).toNatClampNeg)), vU, vU], [.int (x3 - 1), .ref 45, .int (x3 - 1), .ref 45], (zS I J tg))) rfl ?_
          obtain ⟨c16, h⟩ := h
          refine Runs.to (c' := (100, [.ref 51, .int x1, .ref 78, .int x3, .int x4, .int (I 52 ((x4).toNatClampNeg)), vU, vU], [.int (I 45 ((x3 - 1).toNatClampNeg)), .int (x3 - 1), .ref 45], (zS I J tg))) (Runs.ild rfl (show (45 : Nat) < 114 by decide) rfl c16) ?_
          refine Runs.sN 1 (c' := (101, [.ref 51, .int x1, .ref 78, .int x3, .int x4, .int (I 52 ((x4).toNatClampNeg)), vU, vU], [.int (-(I 45 ((x3 - 1).toNatClampNeg))), .int (x3 - 1), .ref 45], (zS I J tg))) rfl ?_
          obtain ⟨c17, h⟩ := h
          refine Runs.to (c' := (102, [.ref 51, .int x1, .ref 78, .int x3, .int x4, .int (I 52 ((x4).toNatClampNeg)), vU, vU], [], (zS (up2 I 45 ((x3 - 1).toNatClampNeg) (-(I 45 ((x3 - 1).toNatClampNeg)))) J tg))) (Runs.ist rfl (show (45 : Nat) < 114 by decide) rfl c17) ?_
          refine Runs.sN 3 (c' := (10, [.ref 51, .int x1, .ref 78, .int x3, .int (x4 + 1), .int (I 52 ((x4).toNatClampNeg)), vU, vU], [], (zS (up2 I 45 ((x3 - 1).toNatClampNeg) (-(I 45 ((x3 - 1).toNatClampNeg)))) J tg))) rfl ?_
          exact Runs.weak (L := [.ref 51, .int x1, .ref 78, .int x3, .int (x4 + 1), vU, vU, vU]) (Lle.k (Lle.k (Lle.k (Lle.k (Lle.k (Lle.u (Lle.k (Lle.k Lle.n)))))))) h
      · rw [if_neg c9] at h
        refine Runs.brF (P := (I 52 ((x4).toNatClampNeg)) = 20021) (a := 81) (b := 105) (L := [.ref 51, .int x1, .ref 78, .int x3, .int x4, .int (I 52 ((x4).toNatClampNeg)), vU, vU]) (S := []) (z := (zS I J tg)) rfl c9 ?_
        refine Runs.sN 2 (c' := (107, [.ref 51, .int x1, .ref 78, .int x3, .int x4, .int (I 52 ((x4).toNatClampNeg)), vU, vU], [.int 1, .int x3], (zS I J tg))) rfl ?_
        by_cases c18 : x3 ≤ 1
        · rw [if_pos c18] at h
          refine Runs.brT (P := x3 ≤ 1) (a := 163) (b := 110) (L := [.ref 51, .int x1, .ref 78, .int x3, .int x4, .int (I 52 ((x4).toNatClampNeg)), vU, vU]) (S := []) (z := (zS I J tg)) rfl c18 ?_
          refine Runs.sN 2 (c' := (10, [.ref 51, .int x1, .ref 78, .int x3, .int (x4 + 1), .int (I 52 ((x4).toNatClampNeg)), vU, vU], [], (zS I J tg))) rfl ?_
          exact Runs.weak (L := [.ref 51, .int x1, .ref 78, .int x3, .int (x4 + 1), vU, vU, vU]) (Lle.k (Lle.k (Lle.k (Lle.k (Lle.k (Lle.u (Lle.k (Lle.k Lle.n)))))))) h
        · rw [if_neg c18] at h
          refine Runs.brF (P := x3 ≤ 1) (a := 163) (b := 110) (L := [.ref 51, .int x1, .ref 78, .int x3, .int x4, .int (I 52 ((x4).toNatClampNeg)), vU, vU]) (S := []) (z := (zS I J tg)) rfl c18 ?_
          refine Runs.sN 9 (c' := (126, [.ref 51, .int x1, .ref 78, .int (x3 + (-1)), .int x4, .int (I 52 ((x4).toNatClampNeg)), vU, vU], [.int ((x3 + (-1)) - 1), .ref 45, .int ((I 52 ((x4).toNatClampNeg)) - 20000)], (zS I J tg))) rfl ?_
          obtain ⟨c19, h⟩ := h
          refine Runs.to (c' := (127, [.ref 51, .int x1, .ref 78, .int (x3 + (-1)), .int x4, .int (I 52 ((x4).toNatClampNeg)), vU, vU], [.int (I 45 (((x3 + (-1)) - 1).toNatClampNeg)), .int ((I 52 ((x4).toNatClampNeg)) - 20000)], (zS I J tg))) (Runs.ild rfl (show (45 : Nat) < 114 by decide) rfl c19) ?_
          refine Runs.sN 4 (c' := (133, [.ref 51, .int x1, .ref 78, .int (x3 + (-1)), .int x4, .int (I 52 ((x4).toNatClampNeg)), vU, vU], [.int (x3 + (-1)), .ref 45, .long (Int32.toInt64 (I 45 (((x3 + (-1)) - 1).toNatClampNeg))), .int ((I 52 ((x4).toNatClampNeg)) - 20000)], (zS I J tg))) rfl ?_
          obtain ⟨c20, h⟩ := h
          refine Runs.to (c' := (134, [.ref 51, .int x1, .ref 78, .int (x3 + (-1)), .int x4, .int (I 52 ((x4).toNatClampNeg)), vU, vU], [.int (I 45 ((x3 + (-1)).toNatClampNeg)), .long (Int32.toInt64 (I 45 (((x3 + (-1)) - 1).toNatClampNeg))), .int ((I 52 ((x4).toNatClampNeg)) - 20000)], (zS I J tg))) (Runs.ild rfl (show (45 : Nat) < 114 by decide) rfl c20) ?_
          refine Runs.sN 1 (c' := (135, [.ref 51, .int x1, .ref 78, .int (x3 + (-1)), .int x4, .int (I 52 ((x4).toNatClampNeg)), vU, vU], [.long (Int32.toInt64 (I 45 ((x3 + (-1)).toNatClampNeg))), .long (Int32.toInt64 (I 45 (((x3 + (-1)) - 1).toNatClampNeg))), .int ((I 52 ((x4).toNatClampNeg)) - 20000)], (zS I J tg))) rfl ?_
          obtain ⟨v3, I4, c21, h⟩ := h
          refine Runs.cl (cm := 30) (as := [.int ((I 52 ((x4).toNatClampNeg)) - 20000), .long (Int32.toInt64 (I 45 (((x3 + (-1)) - 1).toNatClampNeg))), .long (Int32.toInt64 (I 45 ((x3 + (-1)).toNatClampNeg)))]) (rest := []) (r1 := ((some (.long v3)), (zS I4 J tg))) rfl (Nat.le_of_ble_eq_true rfl) c21 ?_
          refine Runs.as (c' := (138, [.ref 51, .int x1, .ref 78, .int (x3 + (-1)), .int x4, .int (I 52 ((x4).toNatClampNeg)), vU, vU], [.long v3], (zS I4 J tg))) rfl ?_
          refine Runs.sN 12 (c' := (162, [.ref 51, .int x1, .ref 78, .int (x3 + (-1)), .int x4, .int (I 52 ((x4).toNatClampNeg)), .long v3, vU], [.int (Int64.toInt32 (if (if v3 < 1000000 then v3 else 1000000) < (-1000000) then (-1000000) else (if v3 < 1000000 then v3 else 1000000))), .int ((x3 + (-1)) - 1), .ref 45], (zS I4 J tg))) rfl ?_
          obtain ⟨c22, h⟩ := h
          refine Runs.to (c' := (163, [.ref 51, .int x1, .ref 78, .int (x3 + (-1)), .int x4, .int (I 52 ((x4).toNatClampNeg)), .long v3, vU], [], (zS (up2 I4 45 (((x3 + (-1)) - 1).toNatClampNeg) (Int64.toInt32 (if (if v3 < 1000000 then v3 else 1000000) < (-1000000) then (-1000000) else (if v3 < 1000000 then v3 else 1000000)))) J tg))) (Runs.ist rfl (show (45 : Nat) < 114 by decide) rfl c22) ?_
          refine Runs.sN 2 (c' := (10, [.ref 51, .int x1, .ref 78, .int (x3 + (-1)), .int (x4 + 1), .int (I 52 ((x4).toNatClampNeg)), .long v3, vU], [], (zS (up2 I4 45 (((x3 + (-1)) - 1).toNatClampNeg) (Int64.toInt32 (if (if v3 < 1000000 then v3 else 1000000) < (-1000000) then (-1000000) else (if v3 < 1000000 then v3 else 1000000)))) J tg))) rfl ?_
          exact Runs.weak (L := [.ref 51, .int x1, .ref 78, .int (x3 + (-1)), .int (x4 + 1), vU, vU, vU]) (Lle.k (Lle.k (Lle.k (Lle.k (Lle.k (Lle.u (Lle.u (Lle.k Lle.n)))))))) h
    · rw [if_neg c8] at h
      refine Runs.brF (P := 20000 ≤ (I 52 ((x4).toNatClampNeg))) (a := 73) (b := 40) (L := [.ref 51, .int x1, .ref 78, .int x3, .int x4, .int (I 52 ((x4).toNatClampNeg)), vU, vU]) (S := []) (z := (zS I J tg)) rfl c8 ?_
      refine Runs.sN 5 (c' := (50, [.ref 51, .int x1, .ref 78, .int x3, .int x4, .int (I 52 ((x4).toNatClampNeg)), vU, vU], [.int 10000, .int (I 52 ((x4).toNatClampNeg)), .int x3, .ref 45], (zS I J tg))) rfl ?_
      by_cases c23 : 10000 ≤ (I 52 ((x4).toNatClampNeg))
      · rw [if_pos c23] at h
        refine Runs.brT (P := 10000 ≤ (I 52 ((x4).toNatClampNeg))) (a := 58) (b := 53) (L := [.ref 51, .int x1, .ref 78, .int x3, .int x4, .int (I 52 ((x4).toNatClampNeg)), vU, vU]) (S := [.int x3, .ref 45]) (z := (zS I J tg)) rfl c23 ?_
        refine Runs.sN 4 (c' := (65, [.ref 51, .int x1, .ref 78, .int x3, .int x4, .int (I 52 ((x4).toNatClampNeg)), vU, vU], [.int ((I 52 ((x4).toNatClampNeg)) - 10000), .ref 78, .int x3, .ref 45], (zS I J tg))) rfl ?_
        obtain ⟨c24, h⟩ := h
        refine Runs.to (c' := (66, [.ref 51, .int x1, .ref 78, .int x3, .int x4, .int (I 52 ((x4).toNatClampNeg)), vU, vU], [.int (I 78 (((I 52 ((x4).toNatClampNeg)) - 10000).toNatClampNeg)), .int x3, .ref 45], (zS I J tg))) (Runs.ild rfl (show (78 : Nat) < 114 by decide) rfl c24) ?_
        obtain ⟨c25, h⟩ := h
        refine Runs.to (c' := (67, [.ref 51, .int x1, .ref 78, .int x3, .int x4, .int (I 52 ((x4).toNatClampNeg)), vU, vU], [], (zS (up2 I 45 ((x3).toNatClampNeg) (I 78 (((I 52 ((x4).toNatClampNeg)) - 10000).toNatClampNeg))) J tg))) (Runs.ist rfl (show (45 : Nat) < 114 by decide) rfl c25) ?_
        refine Runs.sN 4 (c' := (10, [.ref 51, .int x1, .ref 78, .int (x3 + 1), .int (x4 + 1), .int (I 52 ((x4).toNatClampNeg)), vU, vU], [], (zS (up2 I 45 ((x3).toNatClampNeg) (I 78 (((I 52 ((x4).toNatClampNeg)) - 10000).toNatClampNeg))) J tg))) rfl ?_
        exact Runs.weak (L := [.ref 51, .int x1, .ref 78, .int (x3 + 1), .int (x4 + 1), vU, vU, vU]) (Lle.k (Lle.k (Lle.k (Lle.k (Lle.k (Lle.u (Lle.k (Lle.k Lle.n)))))))) h
      · rw [if_neg c23] at h
        refine Runs.brF (P := 10000 ≤ (I 52 ((x4).toNatClampNeg))) (a := 58) (b := 53) (L := [.ref 51, .int x1, .ref 78, .int x3, .int x4, .int (I 52 ((x4).toNatClampNeg)), vU, vU]) (S := [.int x3, .ref 45]) (z := (zS I J tg)) rfl c23 ?_
        refine Runs.sN 2 (c' := (66, [.ref 51, .int x1, .ref 78, .int x3, .int x4, .int (I 52 ((x4).toNatClampNeg)), vU, vU], [.int (I 52 ((x4).toNatClampNeg)), .int x3, .ref 45], (zS I J tg))) rfl ?_
        obtain ⟨c26, h⟩ := h
        refine Runs.to (c' := (67, [.ref 51, .int x1, .ref 78, .int x3, .int x4, .int (I 52 ((x4).toNatClampNeg)), vU, vU], [], (zS (up2 I 45 ((x3).toNatClampNeg) (I 52 ((x4).toNatClampNeg))) J tg))) (Runs.ist rfl (show (45 : Nat) < 114 by decide) rfl c26) ?_
        refine Runs.sN 4 (c' := (10, [.ref 51, .int x1, .ref 78, .int (x3 + 1), .int (x4 + 1), .int (I 52 ((x4).toNatClampNeg)), vU, vU], [], (zS (up2 I 45 ((x3).toNatClampNeg) (I 52 ((x4).toNatClampNeg))) J tg))) rfl ?_
        exact Runs.weak (L := [.ref 51, .int x1, .ref 78, .int (x3 + 1), .int (x4 + 1), vU, vU, vU]) (Lle.k (Lle.k (Lle.k (Lle.k (Lle.k (Lle.u (Lle.k (Lle.k Lle.n)))))))) h
