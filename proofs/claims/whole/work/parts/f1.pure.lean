/-! The reader of texts: its stack and its codes. -/
def SkF {α : Type} (f : α → Int) (A : Nat → Int) : List α → Prop
  | [] => True
  | x :: l => A l.length = f x ∧ SkF f A l
theorem SkF.up {α : Type} {f : α → Int} {A B : Nat → Int} : ∀ {l : List α}, SkF f A l → (∀ k, k < l.length → B k = A k) → SkF f B l
  | [], _, _ => trivial
  | x :: l, h, e => ⟨by rw [e l.length (by rw [List.length_cons]; omega)]; exact h.1, SkF.up h.2 fun k hk => e k (by rw [List.length_cons]; omega)⟩
def cc (o : Int) : Int := if o = 40 then 18 else enc o 0 - 20000
def en1 (x : Int × Int) : Int := enc x.1 x.2
def wsO (l : List Int) : Prop := ∀ o ∈ l, (3 ≤ o ∧ o ≤ 5) ∨ (10 ≤ o ∧ o ≤ 15) ∨ o = 21 ∨ o = 22 ∨ o = 40
theorem cc_rg {o : Int} (h : (3 ≤ o ∧ o ≤ 5) ∨ (10 ≤ o ∧ o ≤ 15) ∨ o = 21 ∨ o = 22 ∨ o = 40) : (o = 40 ∧ cc o = 18 ∧ rkO o = 0) ∨ (o = 22 ∧ cc o = 7 ∧ rkO o = 1) ∨ (o = 21 ∧ cc o = 8 ∧ rkO o = 2) ∨ (10 ≤ o ∧ o ≤ 15 ∧ cc o = o - 1 ∧ rkO o = 3) ∨ (3 ≤ o ∧ o ≤ 4 ∧ cc o = o + 12 ∧ rkO o = 4) ∨ (o = 5 ∧ cc o = 17 ∧ rkO o = 5) := by
  unfold cc enc rkO
  (repeat' split) <;> omega
theorem op_cc {k : Int} (h : 7 ≤ k ∧ k ≤ 17) : cc (opT k) = k ∧ ((3 ≤ opT k ∧ opT k ≤ 5) ∨ (10 ≤ opT k ∧ opT k ≤ 15) ∨ opT k = 21 ∨ opT k = 22) := by
  unfold cc enc opT
  (repeat' split) <;> omega
abbrev WTS (V : Nat → Nat → Int) (ws : List Int) : Prop := V 67 9 = (ws.length : Nat) ∧ SkF cc (V 69) ws
abbrev CDC (V : Nat → Nat → Int) (C : Nat) (cs : Cd) : Prop := V C 5 = (cs.length : Nat) ∧ SkF en1 (V (C + 1)) cs
theorem WTS.up {V W : Nat → Nat → Int} {l : List Int} (h : WTS V l) (e : W 67 9 = V 67 9) (e2 : W 69 = V 69) : WTS W l := ⟨e.trans h.1, by rw [e2]; exact h.2⟩
theorem CDC.up {V W : Nat → Nat → Int} {C : Nat} {l : Cd} (h : CDC V C l) (e : W C 5 = V C 5) (e2 : W (C + 1) = V (C + 1)) : CDC W C l := ⟨e.trans h.1, by rw [e2]; exact h.2⟩
section LC
variable {L d : Nat} {xs : Nat → Int32} {V : Nat → Nat → Int} {J : Nat → Nat → Int64} {tg : Option Nat} {C : Nat}
/-- emit -/
theorem k_25 (hC : isG C) {cs : Cd} {x : Int × Int} {a : Int} (ha : a = en1 x) (h : CDC V C cs) (hl : cs.length < 300) : ∃ W : Nat → Nat → Int, (∀ c, c ≠ C → c ≠ C + 1 → W c = V c) ∧ (∀ p, p ≠ 5 → W C p = V C p) ∧ CDC W C (x :: cs) ∧ Runs (GW L xs) (d) 25 (0, [.ref C, (Value.int (Int32.ofInt (a)))], [], zS (eV (V)) J tg) (none, zS (eV (W)) J tg) := by
  obtain ⟨h5, hS⟩ := h
  refine ⟨up2 (up2 V (C + 1) cs.length a) C 5 (cs.length + 1 : Int), fun c h1 h2 => by rw [w_ne _ _ _ _ h1, w_ne _ _ _ _ h2], fun p hp => by rw [w_at, if_neg hp, w_ne _ _ _ _ (by omega)], ⟨by rw [w_eq, List.length_cons]; omega, ?_, ?_⟩, ?_⟩
  · rw [w_ne _ _ _ _ (by omega), w_eq]; exact ha
  · refine hS.up fun k hk => ?_
    rw [w_ne _ _ _ _ (by omega), w_at, if_neg (by omega)]
  · refine sgc_25 _ _ _ _ hC ?_
    simp (disch := omega) only [h5, eV_at, eV_up, o_lit2, o_add, o_sub, o_mul, o_neg, o_div, o_nat, ix_t, o_lt, o_le, o_eq, o_bi0, o_bi1, o_bib, em_t, o_neg1, o_shl, o_tb, o_tb0, o_tt, o_and, o_xor, o_or, o_max, o_min, an_tb, and_true, true_and, not_true, not_false, if_true, if_false, tn_add, tn_mul, Int.reduceToNat, tn_cast, md_x]
    rw [if_neg (by omega)] <;> first | rfl | trivial
/-- await -/
theorem k_87 {ws : List Int} {o a : Int} (ha : a = cc o) (h : WTS V ws) (hl : ws.length < 300) : ∃ W : Nat → Nat → Int, (∀ c, c ≠ 67 → c ≠ 69 → W c = V c) ∧ (∀ p, p ≠ 9 → W 67 p = V 67 p) ∧ WTS W (o :: ws) ∧ Runs (GW L xs) (d) 87 (0, [.ref 67, (Value.int (Int32.ofInt (a)))], [], zS (eV (V)) J tg) (none, zS (eV (W)) J tg) := by
  obtain ⟨h9, hS⟩ := h
  refine ⟨up2 (up2 V 69 ws.length a) 67 9 (ws.length + 1 : Int), fun c h1 h2 => by rw [w_ne _ _ _ _ h1, w_ne _ _ _ _ h2], fun p hp => by rw [w_at, if_neg hp, w_ne _ _ _ _ (by decide)], ⟨by rw [w_eq, List.length_cons]; omega, ?_, ?_⟩, ?_⟩
  · rw [w_ne _ _ _ _ (by decide), w_eq]; exact ha
  · refine hS.up fun k hk => ?_
    rw [w_ne _ _ _ _ (by decide), w_at, if_neg (by omega)]
  · apply sg_87
    simp (disch := omega) only [h9, eV_at, eV_up, o_lit2, o_add, o_sub, o_mul, o_neg, o_div, o_nat, ix_t, o_lt, o_le, o_eq, o_bi0, o_bi1, o_bib, em_t, o_neg1, o_shl, o_tb, o_tb0, o_tt, o_and, o_xor, o_or, o_max, o_min, an_tb, and_true, true_and, not_true, not_false, if_true, if_false, tn_add, tn_mul, Int.reduceToNat, tn_cast, md_x]
    rw [if_neg (by omega)] <;> first | rfl | trivial
/-- rank -/
theorem k_89 {o a : Int} (ho : (3 ≤ o ∧ o ≤ 5) ∨ (10 ≤ o ∧ o ≤ 15) ∨ o = 21 ∨ o = 22 ∨ o = 40) (ha : a = cc o) : Runs (GW L xs) (d) 89 (0, [(Value.int (Int32.ofInt (a)))], [], zS (eV (V)) J tg) (some (Value.int (Int32.ofInt (rkO o))), zS (eV (V)) J tg) := by
  have h := cc_rg ho
  rw [← ha] at h
  generalize rkO o = q at *
  apply sg_89
  simp (disch := omega) only [eV_at, eV_up, o_lit2, o_add, o_sub, o_mul, o_neg, o_div, o_nat, ix_t, o_lt, o_le, o_eq, o_bi0, o_bi1, o_bib, em_t, o_neg1, o_shl, o_tb, o_tb0, o_tt, o_and, o_xor, o_or, o_max, o_min, an_tb, and_true, true_and, not_true, not_false, if_true, if_false, tn_add, tn_mul, Int.reduceToNat, tn_cast, md_x]
  by_cases c1 : a = 18
  · rw [if_pos c1]; exact leafI (by omega)
  rw [if_neg c1]
  by_cases c2 : a = 7
  · rw [if_pos c2]; exact leafI (by omega)
  rw [if_neg c2]
  by_cases c3 : a = 8
  · rw [if_pos c3]; exact leafI (by omega)
  rw [if_neg c3]
  by_cases c4 : 14 < a
  · rw [if_pos c4]
    by_cases c5 : a = 17
    · rw [if_pos c5]; exact leafI (by omega)
    · rw [if_neg c5]; exact leafI (by omega)
  · rw [if_neg c4]; exact leafI (by omega)
/-- release -/
theorem k_88 (hC : isG C) {l : Int} (hl : 1 ≤ l ∧ l ≤ 10) : ∀ (ws : List Int) (V : Nat → Nat → Int) (cs : Cd), WTS V ws → CDC V C cs → wsO ws → ws.length + cs.length ≤ 300 → ∃ W : Nat → Nat → Int, (∀ c, c ≠ C → c ≠ C + 1 → c ≠ 67 → W c = V c) ∧ (∀ p, p ≠ 9 → W 67 p = V 67 p) ∧ (∀ p, p ≠ 5 → W C p = V C p) ∧ WTS W (rl l ws cs).1 ∧ CDC W C (rl l ws cs).2 ∧ Runs (GW L xs) (d + 1) 88 (0, [.ref 67, (Value.int (Int32.ofInt (l)))], [], zS (eV V) J (some C)) (none, zS (eV W) J (some C))
  | [], V, cs, hW, hD, _, _ => by
    refine ⟨V, fun _ _ _ _ => rfl, fun _ _ => rfl, fun _ _ => rfl, hW, hD, ?_⟩
    have h9 : V 67 9 = 0 := hW.1
    refine sgc_88 _ _ none _ hC ?_
    refine ite_p ?_ rfl
    rw [eV_at, h9]; decide
  | o :: ws, V, cs, hW, hD, ho, h1 => by
    rw [List.length_cons] at h1
    have h9 : V 67 9 = (ws.length : Int) + 1 := by rw [hW.1, List.length_cons]; omega
    have h69 : V 69 ws.length = cc o := hW.2.1
    have ho1 := ho o (List.mem_cons_self ..)
    have hcr := cc_rg ho1
    have k89 := k_89 (L := L) (xs := xs) (V := V) (J := J) (tg := some C) (d := d) ho1 rfl
    by_cases c : l ≤ rkO o
    · have e1 : rl l (o :: ws) cs = rl l ws ((o, 0) :: cs) := by
        unfold rl; rw [relP]; exact if_pos (decide_eq_true c)
      have hen : 20000 + cc o = en1 (o, 0) := by
        unfold cc en1
        rw [if_neg (by omega)]
        show 20000 + (enc o 0 - 20000) = enc o 0
        omega
      obtain ⟨U, u1, u2, u3, hu⟩ := k_25 (L := L) (xs := xs) (J := J) (tg := some C) (d := d) hC hen hD (by omega)
      have hWU : WTS (up2 U 67 9 (ws.length : Int)) ws := ⟨by rw [w_eq], by rw [w_ne _ _ _ _ (by decide), u1 69 (by omega) (by omega)]; exact hW.2.2⟩
      have hDU : CDC (up2 U 67 9 (ws.length : Int)) C ((o, 0) :: cs) := u3.up (by rw [w_ne _ _ _ _ (by omega)]) (by rw [w_ne _ _ _ _ (by omega)])
      obtain ⟨W, w1, w2, w3, w4, w5, hw⟩ := k_88 hC hl ws _ _ hWU hDU (fun x hx => ho x (List.mem_cons_of_mem _ hx)) (by rw [List.length_cons]; omega)
      rw [e1]
      refine ⟨W, fun c q1 q2 q3 => by rw [w1 c q1 q2 q3, w_ne _ _ _ _ q3, u1 c q1 q2], fun p hp => by rw [w2 p hp, w_at, if_neg hp, u1 67 (by omega) (by omega)], fun p hp => by rw [w3 p hp, w_ne _ _ _ _ (by omega), u2 p hp], w4, w5, ?_⟩
      have hU9 : U 67 9 = (ws.length : Int) + 1 := by rw [u1 67 (by omega) (by omega)]; exact h9
      refine sgc_88 _ _ none _ hC ?_
      generalize rkO o = q at *
      generalize cc o = z at *
      simp (disch := omega) only [h9, h69, Int.add_sub_cancel, eV_at, eV_up, o_lit2, o_add, o_sub, o_mul, o_neg, o_div, o_nat, ix_t, o_lt, o_le, o_eq, o_bi0, o_bi1, o_bib, em_t, o_neg1, o_shl, o_tb, o_tb0, o_tt, o_and, o_xor, o_or, o_max, o_min, an_tb, and_true, true_and, not_true, not_false, if_true, if_false, tn_add, tn_mul, Int.reduceToNat, tn_cast, md_x]
      rw [if_neg (by omega)]
      refine ⟨_, _, k89, ?_⟩
      simp (disch := omega) only [h9, h69, Int.add_sub_cancel, eV_at, eV_up, o_lit2, o_add, o_sub, o_mul, o_neg, o_div, o_nat, ix_t, o_lt, o_le, o_eq, o_bi0, o_bi1, o_bib, em_t, o_neg1, o_shl, o_tb, o_tb0, o_tt, o_and, o_xor, o_or, o_max, o_min, an_tb, and_true, true_and, not_true, not_false, if_true, if_false, tn_add, tn_mul, Int.reduceToNat, tn_cast, md_x]
      rw [if_neg (by omega)]
      refine ⟨_, hu, ?_⟩
      simp (disch := omega) only [hU9, Int.add_sub_cancel, eV_at, eV_up, o_lit2, o_add, o_sub, o_mul, o_neg, o_div, o_nat, ix_t, o_lt, o_le, o_eq, o_bi0, o_bi1, o_bib, em_t, o_neg1, o_shl, o_tb, o_tb0, o_tt, o_and, o_xor, o_or, o_max, o_min, an_tb, and_true, true_and, not_true, not_false, if_true, if_false, tn_add, tn_mul, Int.reduceToNat, tn_cast, md_x]
      exact hw
    · have e1 : rl l (o :: ws) cs = (o :: ws, cs) := by
        unfold rl; rw [relP]; exact if_neg (fun z => c (of_decide_eq_true z))
      rw [e1]
      refine ⟨V, fun _ _ _ _ => rfl, fun _ _ => rfl, fun _ _ => rfl, hW, hD, ?_⟩
      refine sgc_88 _ _ none _ hC ?_
      generalize rkO o = q at *
      generalize cc o = z at *
      simp (disch := omega) only [h9, h69, Int.add_sub_cancel, eV_at, eV_up, o_lit2, o_add, o_sub, o_mul, o_neg, o_div, o_nat, ix_t, o_lt, o_le, o_eq, o_bi0, o_bi1, o_bib, em_t, o_neg1, o_shl, o_tb, o_tb0, o_tt, o_and, o_xor, o_or, o_max, o_min, an_tb, and_true, true_and, not_true, not_false, if_true, if_false, tn_add, tn_mul, Int.reduceToNat, tn_cast, md_x]
      rw [if_neg (by omega)]
      refine ⟨_, _, k89, ?_⟩
      simp (disch := omega) only [eV_at, eV_up, o_lit2, o_add, o_sub, o_mul, o_neg, o_div, o_nat, ix_t, o_lt, o_le, o_eq, o_bi0, o_bi1, o_bib, em_t, o_neg1, o_shl, o_tb, o_tb0, o_tt, o_and, o_xor, o_or, o_max, o_min, an_tb, and_true, true_and, not_true, not_false, if_true, if_false, tn_add, tn_mul, Int.reduceToNat, tn_cast, md_x]
      rw [if_pos (by omega)] <;> first | rfl | trivial
/-- awaitRightSide -/
theorem k_86 (hC : isG C) {k : Int} (hk : 7 ≤ k ∧ k ≤ 17) (h12 : V 67 12 = k) {ws : List Int} {cs : Cd} (hW : WTS V ws) (hD : CDC V C cs) (ho : wsO ws) (h1 : ws.length + cs.length < 300) : ∃ W : Nat → Nat → Int, (∀ c, c ≠ C → c ≠ C + 1 → c ≠ 67 → c ≠ 69 → W c = V c) ∧ (∀ p, p ≠ 9 → W 67 p = V 67 p) ∧ (∀ p, p ≠ 5 → W C p = V C p) ∧ WTS W (opT k :: (rl (rkO (opT k)) ws cs).1) ∧ CDC W C (rl (rkO (opT k)) ws cs).2 ∧ Runs (GW L xs) (d + 2) 86 (0, [.ref 67], [], zS (eV V) J (some C)) (none, zS (eV W) J (some C)) := by
  obtain ⟨o1, o2⟩ := op_cc hk
  have hcr := cc_rg (o := opT k) (by omega)
  have k89 := k_89 (L := L) (xs := xs) (V := V) (J := J) (tg := some C) (d := d + 1) (o := opT k) (a := k) (by omega) o1.symm
  obtain ⟨U, u1, u2, u3, u4, u5, hu⟩ := k_88 (L := L) (xs := xs) (J := J) (d := d) hC (l := rkO (opT k)) (by omega) ws V cs hW hD ho (by omega)
  obtain ⟨l1, l2⟩ := relP_len (P := fun o => decide (rkO (opT k) ≤ rkO o)) ws cs
  obtain ⟨W, w1, w2, w3, hw⟩ := k_87 (L := L) (xs := xs) (J := J) (tg := some C) (d := d + 1) (V := U) (o := opT k) (a := k) o1.symm u4 (by unfold rl; omega)
  have hU12 : U 67 12 = k := by rw [u2 12 (by decide)]; exact h12
  refine ⟨W, fun c q1 q2 q3 q4 => by rw [w1 c q3 q4, u1 c q1 q2 q3], fun p hp => by rw [w2 p hp, u2 p hp], fun p hp => by rw [w1 C (by omega) (by omega), u3 p hp], w3, u5.up (by rw [w1 C (by omega) (by omega)]) (by rw [w1 (C + 1) (by omega) (by omega)]), ?_⟩
  apply sg_86
  rw [eV_at, h12]
  refine ⟨_, _, k89, _, hu, _, ?_, rfl⟩
  rw [eV_at, hU12]
  exact hw
end LC
