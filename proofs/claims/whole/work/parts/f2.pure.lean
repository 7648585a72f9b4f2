/-! The reader of texts, TOKEN by TOKEN. -/
def CCl (V : Nat → Nat → Int) (C : Nat) : List (Int × Cd) → Prop
  | [] => V (C + 3) 0 = 0
  | c :: l => (V (C + 2) l.length = c.1 ∧ V (C + 3) (l.length + 1) = ((fl (c :: l)).length : Nat)) ∧ CCl V C l
theorem CCl.up {V W : Nat → Nat → Int} {C : Nat} : ∀ {l : List (Int × Cd)}, CCl V C l → (∀ k, k < l.length → W (C + 2) k = V (C + 2) k) → (∀ k, k ≤ l.length → W (C + 3) k = V (C + 3) k) → CCl W C l
  | [], h, _, e => (e 0 (Nat.le_refl _)).trans h
  | c :: l, h, e1, e2 => by
    rw [List.length_cons] at e1 e2
    refine ⟨?_, CCl.up h.2 (fun k hk => e1 k (by omega)) (fun k hk => e2 k (by omega))⟩
    rw [e1 _ (by omega), e2 _ (by omega)]
    exact h.1
def CSQ (V : Nat → Nat → Int) (C : Nat) (st sd : Int) (ws : List Int) (br mi : Nat) (cu : Cd) (cl : List (Int × Cd)) (kd hc : Int) : Prop := V 67 7 = st ∧ V 67 8 = sd ∧ WTS V ws ∧ V 67 10 = br ∧ V 67 11 = mi ∧ CDC V C (cu ++ fl cl) ∧ V C 4 = (cl.length : Nat) ∧ V C 6 = hc ∧ CCl V C cl ∧ (st ≠ 0 → V (C + 2) cl.length = kd)
def CSs (V : Nat → Nat → Int) (C : Nat) (s : PMt) : Prop := CSQ V C s.2.1 s.2.2.1 s.2.2.2.1 s.2.2.2.2.1 s.2.2.2.2.2.1 s.2.2.2.2.2.2.1 s.2.2.2.2.2.2.2.1 s.2.2.2.2.2.2.2.2.1 s.2.2.2.2.2.2.2.2.2
def FRC (C : Nat) (V W : Nat → Nat → Int) : Prop := (∀ c, c ≠ C → c ≠ C + 1 → c ≠ C + 2 → c ≠ C + 3 → c ≠ 67 → c ≠ 69 → W c = V c) ∧ (∀ x, ¬ (7 ≤ x ∧ x ≤ 11) → W 67 x = V 67 x) ∧ W (C + 3) 0 = V (C + 3) 0
theorem FRC.rf {C : Nat} {V : Nat → Nat → Int} : FRC C V V := ⟨fun _ _ _ _ _ _ _ => rfl, fun _ _ => rfl, rfl⟩
theorem FRC.tr {C : Nat} {U V W : Nat → Nat → Int} (h : FRC C U V) (k : FRC C V W) : FRC C U W := ⟨fun c h1 h2 h3 h4 h5 h6 => (k.1 c h1 h2 h3 h4 h5 h6).trans (h.1 c h1 h2 h3 h4 h5 h6), fun x hx => (k.2.1 x hx).trans (h.2.1 x hx), k.2.2.trans h.2.2⟩
section LC
variable {L d : Nat} {xs : Nat → Int32} {V : Nat → Nat → Int} {J : Nat → Nat → Int64} {tg : Option Nat} {C : Nat}
theorem k_82m (hC : isG C) : ∀ (n : Nat) (V : Nat → Nat → Int) (cs : Cd), V 67 11 = n → CDC V C cs → n + cs.length ≤ 300 → ∃ W : Nat → Nat → Int, (∀ c, c ≠ C → c ≠ C + 1 → c ≠ 67 → W c = V c) ∧ (∀ p, p ≠ 7 → p ≠ 11 → W 67 p = V 67 p) ∧ (∀ p, p ≠ 5 → W C p = V C p) ∧ W 67 7 = 3 ∧ W 67 11 = 0 ∧ CDC W C (List.replicate n (2, 0) ++ cs) ∧ Runs (GW L xs) (d + 1) 82 (84, [.ref 67], [], zS (eV V) J (some C)) (some (Value.int (Int32.ofInt (0))), zS (eV W) J (some C))
  | 0, V, cs, h11, hD, _ => by
    refine ⟨up2 V 67 7 3, fun c _ _ h => by rw [w_ne _ _ _ _ h], fun p h _ => by rw [w_at, if_neg h], fun p _ => by rw [w_ne _ _ _ _ (by omega)], w_eq _ _ _ _, by rw [w_at, if_neg (by decide)]; exact h11, hD.up (by rw [w_ne _ _ _ _ (by omega)]) (by rw [w_ne _ _ _ _ (by omega)]), ?_⟩
    have h11 : V 67 11 = 0 := h11
    refine sgc_82_84 _ _ none hC (ite_p (by rw [eV_at, h11]; decide) ?_)
    rw [show up2 (eV V) 67 7 (3 : Int32) = eV (up2 V 67 7 3) from eV_up V 67 7 3]
    rfl
  | n + 1, V, cs, h11, hD, hl => by
    obtain ⟨U, u1, u2, u3, hu⟩ := k_25 (L := L) (xs := xs) (J := J) (tg := some C) (d := d) hC (x := (2, 0)) (a := 20021) rfl hD (by omega)
    have hU11 : U 67 11 = (n : Int) + 1 := by rw [u1 67 (by omega) (by omega), h11]; omega
    obtain ⟨W, w1, w2, w3, w4, w5, w6, hw⟩ := k_82m hC n (up2 U 67 11 (n : Int)) ((2, 0) :: cs) (w_eq _ _ _ _) (u3.up (by rw [w_ne _ _ _ _ (by omega)]) (by rw [w_ne _ _ _ _ (by omega)])) (by rw [List.length_cons]; omega)
    rw [rep_c] at w6
    refine ⟨W, fun c q1 q2 q3 => by rw [w1 c q1 q2 q3, w_ne _ _ _ _ q3, u1 c q1 q2], fun p q1 q2 => by rw [w2 p q1 q2, w_at, if_neg q2, u1 67 (by omega) (by omega)], fun p hp => by rw [w3 p hp, w_ne _ _ _ _ (by omega), u2 p hp], w4, w5, w6, ?_⟩
    have h11' : V 67 11 = (n : Int) + 1 := by rw [h11]; omega
    refine sgc_82_84 _ _ none hC ?_
    simp (disch := omega) only [h11', eV_at, eV_up, o_lit2, o_add, o_sub, o_mul, o_neg, o_div, o_nat, ix_t, o_lt, o_le, o_eq, o_bi0, o_bi1, o_bib, em_t, o_neg1, o_shl, o_tb, o_tb0, o_tt, o_and, o_xor, o_or, o_max, o_min, an_tb, and_true, true_and, not_true, not_false, if_true, if_false, tn_add, tn_mul, Int.reduceToNat, tn_cast, md_x]
    rw [if_neg (by omega)]
    refine ⟨_, hu, ?_⟩
    simp (disch := omega) only [hU11, Int.add_sub_cancel, eV_at, eV_up, o_lit2, o_add, o_sub, o_mul, o_neg, o_div, o_nat, ix_t, o_lt, o_le, o_eq, o_bi0, o_bi1, o_bib, em_t, o_neg1, o_shl, o_tb, o_tb0, o_tt, o_and, o_xor, o_or, o_max, o_min, an_tb, and_true, true_and, not_true, not_false, if_true, if_false, tn_add, tn_mul, Int.reduceToNat, tn_cast, md_x]
    exact hw
/-- a value, then the minuses before it -/
theorem k_82v (hC : isG C) {st sd : Int} {ws : List Int} {br mi : Nat} {cu : Cd} {cl : List (Int × Cd)} {kd hc a : Int} {x : Int × Int} (ha : a = en1 x) (h : CSQ V C st sd ws br mi cu cl kd hc) (hst : st ≠ 0) (hl : (cu ++ fl cl).length + mi < 300) : ∃ W : Nat → Nat → Int, FRC C V W ∧ CSQ W C 3 sd ws br 0 (List.replicate mi (2, 0) ++ x :: cu) cl kd hc ∧ ∃ (I1 : Nat → Nat → Int32), Runs (GW L xs) d 25 (0, [.ref C, (Value.int (Int32.ofInt (a)))], [], zS (eV V) J (some C)) (none, zS I1 J (some C)) ∧ Runs (GW L xs) (d + 1) 82 (84, [.ref 67], [], zS I1 J (some C)) (some (Value.int (Int32.ofInt (0))), zS (eV W) J (some C)) := by
  obtain ⟨h7, h8, hW, h10, h11, hD, h4, h6, hL, hk⟩ := h
  obtain ⟨U, u1, u2, u3, hu⟩ := k_25 (L := L) (xs := xs) (J := J) (tg := some C) (d := d) hC ha hD (by omega)
  have u67 : U 67 = V 67 := u1 67 (by omega) (by omega)
  obtain ⟨W, w1, w2, w3, w4, w5, w6, hw⟩ := k_82m (L := L) (xs := xs) (J := J) (d := d) hC mi U (x :: (cu ++ fl cl)) (by rw [u67]; exact h11) u3 (by rw [List.length_cons]; omega)
  have ecs : List.replicate mi ((2 : Int), (0 : Int)) ++ x :: (cu ++ fl cl) = (List.replicate mi (2, 0) ++ x :: cu) ++ fl cl := by rw [List.append_assoc, List.cons_append]
  rw [ecs] at w6
  refine ⟨W, ⟨fun c q1 q2 q3 q4 q5 q6 => by rw [w1 c q1 q2 q5, u1 c q1 q2], fun y hy => by rw [w2 y (by omega) (by omega), u67], by rw [w1 (C + 3) (by omega) (by omega) (by omega), u1 (C + 3) (by omega) (by omega)]⟩, ⟨w4, by rw [w2 8 (by decide) (by decide), u67]; exact h8, hW.up (by rw [w2 9 (by decide) (by decide), u67]) (by rw [w1 69 (by omega) (by omega) (by decide), u1 69 (by omega) (by omega)]), by rw [w2 10 (by decide) (by decide), u67]; exact h10, w5, w6, by rw [w3 4 (by decide), u2 4 (by decide)]; exact h4, by rw [w3 6 (by decide), u2 6 (by decide)]; exact h6, hL.up (fun k _ => by rw [w1 (C + 2) (by omega) (by omega) (by omega), u1 (C + 2) (by omega) (by omega)]) (fun k _ => by rw [w1 (C + 3) (by omega) (by omega) (by omega), u1 (C + 3) (by omega) (by omega)]), fun _ => by rw [w1 (C + 2) (by omega) (by omega) (by omega), u1 (C + 2) (by omega) (by omega)]; exact hk hst⟩, _, hu, hw⟩
/-- startOne -/
theorem k_82 (hC : isG C) {st sd : Int} {ws : List Int} {br mi : Nat} {cu : Cd} {cl : List (Int × Cd)} {kd hc k v : Int} {T : Nat} {q : PMt × Int} (hq : sOne k v T sd ws br mi cu cl kd hc = q) (h : CSQ V C st sd ws br mi cu cl kd hc) (hst : st ≠ 0) (hsd : 0 ≤ sd ∧ sd ≤ 2) (hk : 0 ≤ k ∧ k ≤ 20) (h12 : V 67 12 = k) (h13 : k = 2 ∨ k = 3 → V 67 13 = v) (hv : k = 2 ∨ k = 3 → 0 ≤ v ∧ v ≤ 10000) (hbm : br + mi ≤ 8) (hl : (cu ++ fl cl).length + mi < 300) : ∃ W : Nat → Nat → Int, FRC C V W ∧ (q.2 = 0 → CSs W C q.1) ∧ Runs (GW L xs) (d + 1) 82 (0, [.ref 67], [], zS (eV V) J (some C)) (some (Value.int (Int32.ofInt (q.2))), zS (eV W) J (some C)) := by
  have h0 := h
  obtain ⟨h7, h8, hW, h10, h11, hD, h4, h6, hL, hkd⟩ := h
  unfold sOne at hq
  by_cases c2 : k = 2
  · have h13 := h13 (Or.inl c2)
    have hv := hv (Or.inl c2)
    rw [if_pos c2] at hq
    by_cases c9 : 9999 < v
    · rw [if_pos c9] at hq
      subst hq
      refine ⟨V, FRC.rf, fun e => absurd e (by decide), sgc_82 _ _ none hC ?_⟩
      simp (disch := omega) only [h12, h13, eV_at, eV_up, o_lit2, o_add, o_sub, o_mul, o_neg, o_div, o_nat, ix_t, o_lt, o_le, o_eq, o_bi0, o_bi1, o_bib, em_t, o_neg1, o_shl, o_tb, o_tb0, o_tt, o_and, o_xor, o_or, o_max, o_min, an_tb, and_true, true_and, not_true, not_false, if_true, if_false, tn_add, tn_mul, Int.reduceToNat, tn_cast, md_x]
      rw [if_pos c2, if_neg (by omega)] <;> first | rfl | trivial
    · rw [if_neg c9] at hq
      subst hq
      obtain ⟨W, w1, w2, I1, r1, r2⟩ := k_82v (L := L) (xs := xs) (J := J) (d := d) hC (x := (0, v)) (a := v) rfl h0 hst hl
      refine ⟨W, w1, fun _ => w2, sgc_82 _ _ none hC ?_⟩
      simp (disch := omega) only [h12, h13, eV_at, eV_up, o_lit2, o_add, o_sub, o_mul, o_neg, o_div, o_nat, ix_t, o_lt, o_le, o_eq, o_bi0, o_bi1, o_bib, em_t, o_neg1, o_shl, o_tb, o_tb0, o_tt, o_and, o_xor, o_or, o_max, o_min, an_tb, and_true, true_and, not_true, not_false, if_true, if_false, tn_add, tn_mul, Int.reduceToNat, tn_cast, md_x]
      rw [if_pos c2, if_pos (by omega)]
      exact ⟨_, r1, r2⟩
  · rw [if_neg c2] at hq
    by_cases c3 : k = 3
    · have h13 := h13 (Or.inr c3)
      have hv := hv (Or.inr c3)
      rw [if_pos c3] at hq
      by_cases c8 : 8 ≤ v ∧ sd ≠ 2
      · rw [if_pos c8] at hq
        subst hq
        refine ⟨V, FRC.rf, fun e => absurd e (by decide), sgc_82 _ _ none hC ?_⟩
        simp (disch := omega) only [h12, h13, h8, eV_at, eV_up, o_lit2, o_add, o_sub, o_mul, o_neg, o_div, o_nat, ix_t, o_lt, o_le, o_eq, o_bi0, o_bi1, o_bib, em_t, o_neg1, o_shl, o_tb, o_tb0, o_tt, o_and, o_xor, o_or, o_max, o_min, an_tb, and_true, true_and, not_true, not_false, if_true, if_false, tn_add, tn_mul, Int.reduceToNat, tn_cast, md_x]
        rw [if_neg c2, if_pos c3, if_neg (by omega), if_neg c8.2] <;> first | rfl | trivial
      · rw [if_neg c8] at hq
        subst hq
        obtain ⟨W, w1, w2, I1, r1, r2⟩ := k_82v (L := L) (xs := xs) (J := J) (d := d) hC (x := (1, v)) (a := 10000 + v) rfl h0 hst hl
        refine ⟨W, w1, fun _ => w2, sgc_82 _ _ none hC ?_⟩
        simp (disch := omega) only [h12, h13, h8, eV_at, eV_up, o_lit2, o_add, o_sub, o_mul, o_neg, o_div, o_nat, ix_t, o_lt, o_le, o_eq, o_bi0, o_bi1, o_bib, em_t, o_neg1, o_shl, o_tb, o_tb0, o_tt, o_and, o_xor, o_or, o_max, o_min, an_tb, and_true, true_and, not_true, not_false, if_true, if_false, tn_add, tn_mul, Int.reduceToNat, tn_cast, md_x]
        rw [if_neg c2, if_pos c3]
        by_cases c7 : v < 8
        · rw [if_pos c7]; exact ⟨_, r1, r2⟩
        · rw [if_neg c7, if_pos (by omega)]; exact ⟨_, r1, r2⟩
    · rw [if_neg c3] at hq
      have go : ∀ r, Runs (GW L xs) d 83 (0, [.ref 67], [], zS (eV V) J (some C)) r → ∀ v W, r = (some (Value.int (Int32.ofInt (v))), zS (eV W) J (some C)) → Runs (GW L xs) (d + 1) 82 (0, [.ref 67], [], zS (eV V) J (some C)) (some (Value.int (Int32.ofInt (v))), zS (eV W) J (some C)) := fun r hr v W e => by
        refine sgc_82 _ _ none hC ?_
        simp (disch := omega) only [h12, eV_at, eV_up, o_lit2, o_add, o_sub, o_mul, o_neg, o_div, o_nat, ix_t, o_lt, o_le, o_eq, o_bi0, o_bi1, o_bib, em_t, o_neg1, o_shl, o_tb, o_tb0, o_tt, o_and, o_xor, o_or, o_max, o_min, an_tb, and_true, true_and, not_true, not_false, if_true, if_false, tn_add, tn_mul, Int.reduceToNat, tn_cast, md_x]
        rw [if_neg c2, if_neg c3]
        rw [e] at hr
        exact ⟨_, _, hr, rfl⟩
      by_cases c16 : k = 16
      · rw [if_neg (fun z => z c16)] at hq
        by_cases c8 : 8 ≤ br + mi
        · rw [if_pos c8] at hq
          subst hq
          refine ⟨V, FRC.rf, fun e => absurd e (by decide), go _ ?_ _ _ rfl⟩
          apply sg_83
          simp (disch := omega) only [h12, h10, h11, eV_at, eV_up, o_lit2, o_add, o_sub, o_mul, o_neg, o_div, o_nat, ix_t, o_lt, o_le, o_eq, o_bi0, o_bi1, o_bib, em_t, o_neg1, o_shl, o_tb, o_tb0, o_tt, o_and, o_xor, o_or, o_max, o_min, an_tb, and_true, true_and, not_true, not_false, if_true, if_false, tn_add, tn_mul, Int.reduceToNat, tn_cast, md_x]
          rw [if_pos c16, if_neg (by omega)] <;> first | rfl | trivial
        · rw [if_neg c8] at hq
          subst hq
          refine ⟨up2 (up2 V 67 11 ((mi : Int) + 1)) 67 7 2, ⟨fun c _ _ _ _ h _ => by rw [w_ne _ _ _ _ h, w_ne _ _ _ _ h], fun x hx => by rw [w_at, if_neg (by omega), w_at, if_neg (by omega)], by rw [w_ne _ _ _ _ (by omega), w_ne _ _ _ _ (by omega)]⟩, fun _ => ⟨w_eq _ _ _ _, by rw [w_at, if_neg (by decide), w_at, if_neg (by decide)]; exact h8, hW.up (by rw [w_at, if_neg (by decide), w_at, if_neg (by decide)]) (by rw [w_ne _ _ _ _ (by decide), w_ne _ _ _ _ (by decide)]), by rw [w_at, if_neg (by decide), w_at, if_neg (by decide)]; exact h10, by rw [w_at, if_neg (by decide), w_eq]; show (mi : Int) + 1 = ((mi + 1 : Nat) : Int); omega, hD.up (by rw [w_ne _ _ _ _ (by omega), w_ne _ _ _ _ (by omega)]) (by rw [w_ne _ _ _ _ (by omega), w_ne _ _ _ _ (by omega)]), by rw [w_ne _ _ _ _ (by omega), w_ne _ _ _ _ (by omega)]; exact h4, by rw [w_ne _ _ _ _ (by omega), w_ne _ _ _ _ (by omega)]; exact h6, hL.up (fun k _ => by rw [w_ne _ _ _ _ (by omega), w_ne _ _ _ _ (by omega)]) (fun k _ => by rw [w_ne _ _ _ _ (by omega), w_ne _ _ _ _ (by omega)]), fun _ => by rw [w_ne _ _ _ _ (by omega), w_ne _ _ _ _ (by omega)]; exact hkd hst⟩, go _ ?_ _ _ rfl⟩
          apply sg_83
          simp (disch := omega) only [h12, h10, h11, eV_at, eV_up, o_lit2, o_add, o_sub, o_mul, o_neg, o_div, o_nat, ix_t, o_lt, o_le, o_eq, o_bi0, o_bi1, o_bib, em_t, o_neg1, o_shl, o_tb, o_tb0, o_tt, o_and, o_xor, o_or, o_max, o_min, an_tb, and_true, true_and, not_true, not_false, if_true, if_false, tn_add, tn_mul, Int.reduceToNat, tn_cast, md_x]
          rw [if_pos c16, if_pos (by omega)] <;> first | rfl | trivial
      · rw [if_pos c16] at hq
        subst hq
        refine ⟨V, FRC.rf, fun e => absurd e (by decide), go _ ?_ _ _ rfl⟩
        apply sg_83
        simp (disch := omega) only [h12, eV_at, eV_up, o_lit2, o_add, o_sub, o_mul, o_neg, o_div, o_nat, ix_t, o_lt, o_le, o_eq, o_bi0, o_bi1, o_bib, em_t, o_neg1, o_shl, o_tb, o_tb0, o_tt, o_and, o_xor, o_or, o_max, o_min, an_tb, and_true, true_and, not_true, not_false, if_true, if_false, tn_add, tn_mul, Int.reduceToNat, tn_cast, md_x]
        rw [if_neg c16] <;> first | rfl | trivial
/-- startAsk -/
theorem k_81 (hC : isG C) {st sd : Int} {ws : List Int} {br mi : Nat} {cu : Cd} {cl : List (Int × Cd)} {kd hc k v : Int} {T : Nat} {q : PMt × Int} (hq : sAsk k v T sd ws br mi cu cl kd hc = q) (h : CSQ V C st sd ws br mi cu cl kd hc) (hst : st = 1) (hk : 0 ≤ k ∧ k ≤ 20) (h12 : V 67 12 = k) (h13 : k = 2 ∨ k = 3 → V 67 13 = v) (hv : k = 2 ∨ k = 3 → 0 ≤ v ∧ v ≤ 10000) (hbm : br + mi ≤ 8) (hl : (cu ++ fl cl).length + mi < 300) (hw : ws.length < 300) : ∃ W : Nat → Nat → Int, FRC C V W ∧ (q.2 = 0 → CSs W C q.1) ∧ Runs (GW L xs) (d + 2) 81 (0, [.ref 67], [], zS (eV V) J (some C)) (some (Value.int (Int32.ofInt (q.2))), zS (eV W) J (some C)) := by
  obtain ⟨h7, h8, hW, h10, h11, hD, h4, h6, hL, hkd⟩ := h
  unfold sAsk at hq
  by_cases c18 : k = 18
  · rw [if_neg (fun z => z c18)] at hq
    by_cases c8 : 8 ≤ br + mi
    · rw [if_pos c8] at hq
      subst hq
      refine ⟨V, FRC.rf, fun e => absurd e (by decide), ?_⟩
      apply sg_81
      simp (disch := omega) only [h12, h10, h11, eV_at, eV_up, o_lit2, o_add, o_sub, o_mul, o_neg, o_div, o_nat, ix_t, o_lt, o_le, o_eq, o_bi0, o_bi1, o_bib, em_t, o_neg1, o_shl, o_tb, o_tb0, o_tt, o_and, o_xor, o_or, o_max, o_min, an_tb, and_true, true_and, not_true, not_false, if_true, if_false, tn_add, tn_mul, Int.reduceToNat, tn_cast, md_x]
      rw [if_pos c18, if_neg (by omega)] <;> first | rfl | trivial
    · rw [if_neg c8] at hq
      subst hq
      have hW1 : WTS (up2 V 67 10 ((br : Int) + 1)) ws := hW.up (by rw [w_at, if_neg (by decide)]) (by rw [w_ne _ _ _ _ (by decide)])
      obtain ⟨W, w1, w2, w3, hw'⟩ := k_87 (L := L) (xs := xs) (J := J) (tg := some C) (d := d + 1) (o := 40) (a := 18) rfl hW1 hw
      have wc : ∀ c, c ≠ 67 → c ≠ 69 → W c = V c := fun c q1 q2 => by rw [w1 c q1 q2, w_ne _ _ _ _ q1]
      refine ⟨W, ⟨fun c _ _ _ _ q1 q2 => wc c q1 q2, fun x hx => by rw [w2 x (by omega), w_at, if_neg (by omega)], by rw [wc _ (by omega) (by omega)]⟩, fun _ => ⟨by rw [w2 7 (by decide), w_at, if_neg (by decide), h7, hst], by rw [w2 8 (by decide), w_at, if_neg (by decide)]; exact h8, w3, by rw [w2 10 (by decide), w_eq]; show (br : Int) + 1 = ((br + 1 : Nat) : Int); omega, by rw [w2 11 (by decide), w_at, if_neg (by decide)]; exact h11, hD.up (by rw [wc C (by omega) (by omega)]) (wc _ (by omega) (by omega)), by rw [wc C (by omega) (by omega)]; exact h4, by rw [wc C (by omega) (by omega)]; exact h6, hL.up (fun k _ => by rw [wc _ (by omega) (by omega)]) (fun k _ => by rw [wc _ (by omega) (by omega)]), fun _ => by rw [wc _ (by omega) (by omega)]; exact hkd (by omega)⟩, ?_⟩
      apply sg_81
      simp (disch := omega) only [h12, h10, h11, eV_at, eV_up, o_lit2, o_add, o_sub, o_mul, o_neg, o_div, o_nat, ix_t, o_lt, o_le, o_eq, o_bi0, o_bi1, o_bib, em_t, o_neg1, o_shl, o_tb, o_tb0, o_tt, o_and, o_xor, o_or, o_max, o_min, an_tb, and_true, true_and, not_true, not_false, if_true, if_false, tn_add, tn_mul, Int.reduceToNat, tn_cast, md_x]
      rw [if_pos c18, if_pos (by omega)]
      exact ⟨_, hw', rfl⟩
  · rw [if_pos c18] at hq
    have hV1 : CSQ (up2 V 67 8 0) C st 0 ws br mi cu cl kd hc := ⟨by rw [w_at, if_neg (by decide)]; exact h7, w_eq _ _ _ _, hW.up (by rw [w_at, if_neg (by decide)]) (by rw [w_ne _ _ _ _ (by decide)]), by rw [w_at, if_neg (by decide)]; exact h10, by rw [w_at, if_neg (by decide)]; exact h11, hD.up (by rw [w_ne _ _ _ _ (by omega)]) (by rw [w_ne _ _ _ _ (by omega)]), by rw [w_ne _ _ _ _ (by omega)]; exact h4, by rw [w_ne _ _ _ _ (by omega)]; exact h6, hL.up (fun k _ => by rw [w_ne _ _ _ _ (by omega)]) (fun k _ => by rw [w_ne _ _ _ _ (by omega)]), fun z => by rw [w_ne _ _ _ _ (by omega)]; exact hkd z⟩
    obtain ⟨W, w1, w2, hr⟩ := k_82 (L := L) (xs := xs) (J := J) (d := d) hC hq hV1 (by omega) (by decide) hk (by rw [w_at, if_neg (by decide)]; exact h12) (fun z => by rw [w_at, if_neg (by decide)]; exact h13 z) hv hbm hl
    refine ⟨W, FRC.tr ⟨fun c _ _ _ _ z _ => by rw [w_ne _ _ _ _ z], fun x hx => by rw [w_at, if_neg (by omega)], by rw [w_ne _ _ _ _ (by omega)]⟩ w1, w2, ?_⟩
    apply sg_81
    simp (disch := omega) only [h12, eV_at, eV_up, o_lit2, o_add, o_sub, o_mul, o_neg, o_div, o_nat, ix_t, o_lt, o_le, o_eq, o_bi0, o_bi1, o_bib, em_t, o_neg1, o_shl, o_tb, o_tb0, o_tt, o_and, o_xor, o_or, o_max, o_min, an_tb, and_true, true_and, not_true, not_false, if_true, if_false, tn_add, tn_mul, Int.reduceToNat, tn_cast, md_x]
    rw [if_neg c18]
    exact ⟨_, _, hr, rfl⟩
/-- followAsk -/
theorem k_85 (hC : isG C) {st sd : Int} {ws : List Int} {br mi : Nat} {cu : Cd} {cl : List (Int × Cd)} {kd hc k : Int} {T : Nat} {q : PMt × Int} (hq : fAsk k T sd ws br mi cu cl kd hc = q) (h : CSQ V C st sd ws br mi cu cl kd hc) (hst : st ≠ 0) (hk : 0 ≤ k ∧ k ≤ 20) (h12 : V 67 12 = k) (hbm : br + mi ≤ 8) (hbr : brC ws = br) (ho : wsO ws) (hl : ws.length + (cu ++ fl cl).length < 300) (hcl : cl.length < 10) : ∃ W : Nat → Nat → Int, FRC C V W ∧ (q.2 = 0 → CSs W C q.1) ∧ Runs (GW L xs) (d + 3) 85 (0, [.ref 67], [], zS (eV V) J (some C)) (some (Value.int (Int32.ofInt (q.2))), zS (eV W) J (some C)) := by
  obtain ⟨h7, h8, hW, h10, h11, hD, h4, h6, hL, hkd⟩ := h
  unfold fAsk at hq
  by_cases c78 : k = 7 ∨ k = 8
  · rw [if_pos c78] at hq
    subst hq
    obtain ⟨W, w1, w2, w3, w4, w5, hw⟩ := k_86 (L := L) (xs := xs) (J := J) (d := d) hC (k := k) (by omega) h12 hW hD ho hl
    have e : rl (rkO (opT k)) ws (cu ++ fl cl) = ((rl (rkO (opT k)) ws cu).1, (rl (rkO (opT k)) ws cu).2 ++ fl cl) := relP_ap ws cu
    rw [e] at w4 w5
    refine ⟨up2 W 67 7 1, ⟨fun c q1 q2 _ _ q3 q4 => by rw [w_ne _ _ _ _ q3, w1 c q1 q2 q3 q4], fun x hx => by rw [w_at, if_neg (by omega), w2 x (by omega)], by rw [w_ne _ _ _ _ (by omega), w1 (C + 3) (by omega) (by omega) (by omega) (by omega)]⟩, fun _ => ⟨w_eq _ _ _ _, by rw [w_at, if_neg (by decide), w2 8 (by decide)]; exact h8, w4.up (by rw [w_at, if_neg (by decide)]) (by rw [w_ne _ _ _ _ (by decide)]), by rw [w_at, if_neg (by decide), w2 10 (by decide)]; exact h10, by rw [w_at, if_neg (by decide), w2 11 (by decide)]; exact h11, w5.up (by rw [w_ne _ _ _ _ (by omega)]) (by rw [w_ne _ _ _ _ (by omega)]), by rw [w_ne _ _ _ _ (by omega), w3 4 (by decide)]; exact h4, by rw [w_ne _ _ _ _ (by omega), w3 6 (by decide)]; exact h6, hL.up (fun k _ => by rw [w_ne _ _ _ _ (by omega), w1 (C + 2) (by omega) (by omega) (by omega) (by omega)]) (fun k _ => by rw [w_ne _ _ _ _ (by omega), w1 (C + 3) (by omega) (by omega) (by omega) (by omega)]), fun _ => by rw [w_ne _ _ _ _ (by omega), w1 (C + 2) (by omega) (by omega) (by omega) (by omega)]; exact hkd hst⟩, ?_⟩
    refine sgc_85 _ _ none hC ?_
    simp (disch := omega) only [h12, eV_at, eV_up, o_lit2, o_add, o_sub, o_mul, o_neg, o_div, o_nat, ix_t, o_lt, o_le, o_eq, o_bi0, o_bi1, o_bib, em_t, o_neg1, o_shl, o_tb, o_tb0, o_tt, o_and, o_xor, o_or, o_max, o_min, an_tb, and_true, true_and, not_true, not_false, if_true, if_false, tn_add, tn_mul, Int.reduceToNat, tn_cast, md_x]
    rcases c78 with e | e
    · rw [if_pos e]
      refine ⟨_, hw, ?_⟩
      rw [eV_up]
    · rw [if_neg (by omega), if_pos e]
      refine ⟨_, hw, ?_⟩
      rw [eV_up]
  · rw [if_neg c78] at hq
    obtain ⟨U, u1, u2, u3, u4, u5, hu⟩ := k_88 (L := L) (xs := xs) (J := J) (d := d + 1) hC (l := 1) (by decide) ws V (cu ++ fl cl) hW hD ho (by omega)
    have e : rl 1 ws (cu ++ fl cl) = ((rl 1 ws cu).1, (rl 1 ws cu).2 ++ fl cl) := relP_ap ws cu
    rw [e] at u4 u5
    by_cases c19 : k = 19 ∧ 0 < br
    · rw [if_pos c19] at hq
      subst hq
      have hbr1 : brC (rl 1 ws cu).1 = brC ws := br_rw (by decide) ws cu
      have hU10 : U 67 10 = br := by rw [u2 10 (by decide)]; exact h10
      obtain ⟨o, l, hz⟩ : ∃ o l, (rl 1 ws cu).1 = o :: l := by
        cases hz : (rl 1 ws cu).1 with
        | nil => rw [hz] at hbr1; have : brC [] = 0 := rfl; omega
        | cons o l => exact ⟨o, l, rfl⟩
      rw [hz] at u4 ⊢
      have hU9 : U 67 9 = (l.length : Int) + 1 := by rw [u4.1, List.length_cons]; omega
      have hlen : l.length < 300 := by
        obtain ⟨l1, l2⟩ := relP_len (P := fun o => decide ((1 : Int) ≤ rkO o)) ws cu
        have : (rl 1 ws cu).1.length ≤ ws.length := l2
        rw [hz, List.length_cons] at this
        omega
      refine ⟨up2 (up2 (up2 U 67 9 (l.length : Int)) 67 10 ((br : Int) - 1)) 67 7 4, ⟨fun c q1 q2 _ _ q3 q4 => by rw [w_ne _ _ _ _ q3, w_ne _ _ _ _ q3, w_ne _ _ _ _ q3, u1 c q1 q2 q3], fun x hx => by rw [w_at, if_neg (by omega), w_at, if_neg (by omega), w_at, if_neg (by omega), u2 x (by omega)], by rw [w_ne _ _ _ _ (by omega), w_ne _ _ _ _ (by omega), w_ne _ _ _ _ (by omega), u1 (C + 3) (by omega) (by omega) (by omega)]⟩, fun _ => ⟨w_eq _ _ _ _, by rw [w_at, if_neg (by decide), w_at, if_neg (by decide), w_at, if_neg (by decide), u2 8 (by decide)]; exact h8, ⟨by rw [w_at, if_neg (by decide), w_at, if_neg (by decide), w_eq]; rfl, by rw [w_ne _ _ _ _ (by decide), w_ne _ _ _ _ (by decide), w_ne _ _ _ _ (by decide)]; exact u4.2.2⟩, by rw [w_at, if_neg (by decide), w_eq]; show (br : Int) - 1 = ((br - 1 : Nat) : Int); omega, by rw [w_at, if_neg (by decide), w_at, if_neg (by decide), w_at, if_neg (by decide), u2 11 (by decide)]; exact h11, u5.up (by rw [w_ne _ _ _ _ (by omega), w_ne _ _ _ _ (by omega), w_ne _ _ _ _ (by omega)]) (by rw [w_ne _ _ _ _ (by omega), w_ne _ _ _ _ (by omega), w_ne _ _ _ _ (by omega)]), by rw [w_ne _ _ _ _ (by omega), w_ne _ _ _ _ (by omega), w_ne _ _ _ _ (by omega), u3 4 (by decide)]; exact h4, by rw [w_ne _ _ _ _ (by omega), w_ne _ _ _ _ (by omega), w_ne _ _ _ _ (by omega), u3 6 (by decide)]; exact h6, hL.up (fun k _ => by rw [w_ne _ _ _ _ (by omega), w_ne _ _ _ _ (by omega), w_ne _ _ _ _ (by omega), u1 (C + 2) (by omega) (by omega) (by omega)]) (fun k _ => by rw [w_ne _ _ _ _ (by omega), w_ne _ _ _ _ (by omega), w_ne _ _ _ _ (by omega), u1 (C + 3) (by omega) (by omega) (by omega)]), fun _ => by rw [w_ne _ _ _ _ (by omega), w_ne _ _ _ _ (by omega), w_ne _ _ _ _ (by omega), u1 (C + 2) (by omega) (by omega) (by omega)]; exact hkd hst⟩, ?_⟩
      refine sgc_85 _ _ none hC ?_
      simp (disch := omega) only [h12, h10, eV_at, eV_up, o_lit2, o_add, o_sub, o_mul, o_neg, o_div, o_nat, ix_t, o_lt, o_le, o_eq, o_bi0, o_bi1, o_bib, em_t, o_neg1, o_shl, o_tb, o_tb0, o_tt, o_and, o_xor, o_or, o_max, o_min, an_tb, and_true, true_and, not_true, not_false, if_true, if_false, tn_add, tn_mul, Int.reduceToNat, tn_cast, md_x]
      rw [if_neg (by omega), if_neg (by omega), if_pos c19.1, if_neg (by omega)]
      refine ⟨_, hu, ?_⟩
      simp (disch := omega) only [hU9, hU10, w_ne2, w_eq, Int.add_sub_cancel, eV_at, eV_up, o_lit2, o_add, o_sub, o_mul, o_neg, o_div, o_nat, ix_t, o_lt, o_le, o_eq, o_bi0, o_bi1, o_bib, em_t, o_neg1, o_shl, o_tb, o_tb0, o_tt, o_and, o_xor, o_or, o_max, o_min, an_tb, and_true, true_and, not_true, not_false, if_true, if_false, tn_add, tn_mul, Int.reduceToNat, tn_cast, md_x]
    · rw [if_neg c19] at hq
      by_cases c20 : k = 20 ∧ br = 0
      · rw [if_pos c20] at hq
        subst hq
        have hU4 : U C 4 = (cl.length : Nat) := by rw [u3 4 (by decide)]; exact h4
        have hU5 := u5.1
        have hlen : ((rl 1 ws cu).2 ++ fl cl).length ≤ 300 := by
          obtain ⟨l1, l2⟩ := relP_len (P := fun o => decide ((1 : Int) ≤ rkO o)) ws cu
          have : (rl 1 ws cu).1.length + (rl 1 ws cu).2.length = ws.length + cu.length := l1
          rw [List.length_append] at hl ⊢
          omega
        obtain ⟨n, hn⟩ : ∃ n, n = cl.length := ⟨_, rfl⟩
        obtain ⟨m, hm⟩ : ∃ m, m = ((rl 1 ws cu).2 ++ fl cl).length := ⟨_, rfl⟩
        obtain ⟨X, hX⟩ : ∃ X, X = up2 (up2 (up2 U C 4 ((n : Int) + 1)) (C + 3) (n + 1) (m : Int)) 67 7 0 := ⟨_, rfl⟩
        rw [← hn] at hU4 hcl
        rw [← hm] at hU5 hlen
        have xc : ∀ c, c ≠ C → c ≠ C + 3 → c ≠ 67 → X c = U c := fun c q1 q2 q3 => by rw [hX, w_ne _ _ _ _ q3, w_ne _ _ _ _ q2, w_ne _ _ _ _ q1]
        have x67 : ∀ p, p ≠ 7 → X 67 p = U 67 p := fun p hp => by rw [hX, w_at, if_neg hp, w_ne _ _ _ _ (by omega), w_ne _ _ _ _ (by omega)]
        have xC : ∀ p, X C p = if p = 4 then (n : Int) + 1 else U C p := fun p => by rw [hX, w_ne _ _ _ _ (by omega), w_ne _ _ _ _ (by omega), w_at]
        have x3 : ∀ p, X (C + 3) p = if p = n + 1 then (m : Int) else U (C + 3) p := fun p => by rw [hX, w_ne _ _ _ _ (by omega), w_at, w_ne _ _ _ _ (by omega)]
        have u23 : ∀ c, c = C + 2 ∨ c = C + 3 → U c = V c := fun c hc => u1 c (by omega) (by omega) (by omega)
        refine ⟨X, ⟨fun c q1 q2 q3 q4 q5 q6 => by rw [xc c q1 q4 q5, u1 c q1 q2 q5], fun x hx => by rw [x67 x (by omega), u2 x (by omega)], by rw [x3, if_neg (by omega), u23 _ (Or.inr rfl)]⟩, fun _ => ⟨by rw [hX, w_eq], by rw [x67 8 (by decide), u2 8 (by decide)]; exact h8, u4.up (x67 9 (by decide)) (xc 69 (by omega) (by omega) (by decide)), by rw [x67 10 (by decide), u2 10 (by decide)]; exact h10, by rw [x67 11 (by decide), u2 11 (by decide)]; exact h11, u5.up (by rw [xC, if_neg (by decide)]) (xc _ (by omega) (by omega) (by omega)), by rw [xC, if_pos rfl]; show (n : Int) + 1 = ((cl.length + 1 : Nat) : Int); omega, by rw [xC, if_neg (by decide), u3 6 (by decide)]; exact h6, ⟨⟨?_, ?_⟩, ?_⟩, fun z => absurd rfl z⟩, ?_⟩
        · rw [xc _ (by omega) (by omega) (by omega), u23 _ (Or.inl rfl)]; exact hkd hst
        · rw [x3, if_pos (by omega), hm]; rfl
        · exact hL.up (fun k _ => by rw [xc _ (by omega) (by omega) (by omega), u23 _ (Or.inl rfl)]) (fun k hk => by rw [x3, if_neg (by omega), u23 _ (Or.inr rfl)])
        · refine sgc_85 _ _ none hC ?_
          simp (disch := omega) only [h12, h10, eV_at, eV_up, o_lit2, o_add, o_sub, o_mul, o_neg, o_div, o_nat, ix_t, o_lt, o_le, o_eq, o_bi0, o_bi1, o_bib, em_t, o_neg1, o_shl, o_tb, o_tb0, o_tt, o_and, o_xor, o_or, o_max, o_min, an_tb, and_true, true_and, not_true, not_false, if_true, if_false, tn_add, tn_mul, Int.reduceToNat, tn_cast, md_x]
          rw [if_neg (by omega), if_neg (by omega), if_neg (by omega), if_pos c20.1, if_pos (by omega)]
          refine ⟨_, hu, _, sgc_24 _ _ _ hC (r := (none, zS (eV (up2 (up2 U C 4 ((n : Int) + 1)) (C + 3) (n + 1) (m : Int))) J (some C))) ?_, ?_⟩
          · simp (disch := omega) only [hU4, hU5, eV_at, eV_up, o_lit2, o_add, o_sub, o_mul, o_neg, o_div, o_nat, ix_t, o_lt, o_le, o_eq, o_bi0, o_bi1, o_bib, em_t, o_neg1, o_shl, o_tb, o_tb0, o_tt, o_and, o_xor, o_or, o_max, o_min, an_tb, and_true, true_and, not_true, not_false, if_true, if_false, tn_add, tn_mul, Int.reduceToNat, tn_cast, md_x]
            rw [if_neg (by omega)] <;> first | rfl | trivial
          · rw [eV_up, ← hX]
      · rw [if_neg c20] at hq
        subst hq
        refine ⟨V, FRC.rf, fun z => absurd z (by decide), sgc_85 _ _ none hC ?_⟩
        simp (disch := omega) only [h12, h10, eV_at, eV_up, o_lit2, o_add, o_sub, o_mul, o_neg, o_div, o_nat, ix_t, o_lt, o_le, o_eq, o_bi0, o_bi1, o_bib, em_t, o_neg1, o_shl, o_tb, o_tb0, o_tt, o_and, o_xor, o_or, o_max, o_min, an_tb, and_true, true_and, not_true, not_false, if_true, if_false, tn_add, tn_mul, Int.reduceToNat, tn_cast, md_x]
        rw [if_neg (by omega), if_neg (by omega)]
        by_cases z : k = 19
        · rw [if_pos z, if_pos (by omega), if_neg (by omega)] <;> first | rfl | trivial
        · rw [if_neg z]
          by_cases z2 : k = 20
          · rw [if_pos z2, if_neg (by omega)] <;> first | rfl | trivial
          · rw [if_neg z2] <;> first | rfl | trivial
/-- followOne -/
theorem k_84 (hC : isG C) {st sd : Int} {ws : List Int} {br mi : Nat} {cu : Cd} {cl : List (Int × Cd)} {kd hc k : Int} {T : Nat} {q : PMt × Int} (hq : fOne k T sd ws br mi cu cl kd hc = q) (h : CSQ V C st sd ws br mi cu cl kd hc) (hst : st ≠ 0) (hsd : 0 ≤ sd ∧ sd ≤ 2) (hk : 0 ≤ k ∧ k ≤ 20) (h12 : V 67 12 = k) (hbm : br + mi ≤ 8) (hbr : brC ws = br) (ho : wsO ws) (hl : ws.length + (cu ++ fl cl).length < 300) (hcl : cl.length < 10) : ∃ W : Nat → Nat → Int, FRC C V W ∧ (q.2 = 0 → CSs W C q.1) ∧ Runs (GW L xs) (d + 4) 84 (0, [.ref 67], [], zS (eV V) J (some C)) (some (Value.int (Int32.ofInt (q.2))), zS (eV W) J (some C)) := by
  have h0 := h
  obtain ⟨h7, h8, hW, h10, h11, hD, h4, h6, hL, hkd⟩ := h
  unfold fOne at hq
  by_cases c15 : 15 ≤ k ∧ k ≤ 17
  · rw [if_pos c15] at hq
    subst hq
    obtain ⟨W, w1, w2, w3, w4, w5, hw⟩ := k_86 (L := L) (xs := xs) (J := J) (d := d + 1) hC (k := k) (by omega) h12 hW hD ho hl
    have e : rl (rkO (opT k)) ws (cu ++ fl cl) = ((rl (rkO (opT k)) ws cu).1, (rl (rkO (opT k)) ws cu).2 ++ fl cl) := relP_ap ws cu
    rw [e] at w4 w5
    refine ⟨up2 W 67 7 2, ⟨fun c q1 q2 _ _ q3 q4 => by rw [w_ne _ _ _ _ q3, w1 c q1 q2 q3 q4], fun x hx => by rw [w_at, if_neg (by omega), w2 x (by omega)], by rw [w_ne _ _ _ _ (by omega), w1 (C + 3) (by omega) (by omega) (by omega) (by omega)]⟩, fun _ => ⟨w_eq _ _ _ _, by rw [w_at, if_neg (by decide), w2 8 (by decide)]; exact h8, w4.up (by rw [w_at, if_neg (by decide)]) (by rw [w_ne _ _ _ _ (by decide)]), by rw [w_at, if_neg (by decide), w2 10 (by decide)]; exact h10, by rw [w_at, if_neg (by decide), w2 11 (by decide)]; exact h11, w5.up (by rw [w_ne _ _ _ _ (by omega)]) (by rw [w_ne _ _ _ _ (by omega)]), by rw [w_ne _ _ _ _ (by omega), w3 4 (by decide)]; exact h4, by rw [w_ne _ _ _ _ (by omega), w3 6 (by decide)]; exact h6, hL.up (fun k _ => by rw [w_ne _ _ _ _ (by omega), w1 (C + 2) (by omega) (by omega) (by omega) (by omega)]) (fun k _ => by rw [w_ne _ _ _ _ (by omega), w1 (C + 3) (by omega) (by omega) (by omega) (by omega)]), fun _ => by rw [w_ne _ _ _ _ (by omega), w1 (C + 2) (by omega) (by omega) (by omega) (by omega)]; exact hkd hst⟩, ?_⟩
    apply sg_84
    simp (disch := omega) only [h12, h8, eV_at, eV_up, o_lit2, o_add, o_sub, o_mul, o_neg, o_div, o_nat, ix_t, o_lt, o_le, o_eq, o_bi0, o_bi1, o_bib, em_t, o_neg1, o_shl, o_tb, o_tb0, o_tt, o_and, o_xor, o_or, o_max, o_min, an_tb, and_true, true_and, not_true, not_false, if_true, if_false, tn_add, tn_mul, Int.reduceToNat, tn_cast, md_x]
    rw [if_neg (by omega), if_neg (by omega)]
    refine ⟨_, hw, ?_⟩
    rw [eV_up]
  · rw [if_neg c15] at hq
    by_cases c0 : sd = 0
    · rw [if_pos c0] at hq
      by_cases c9 : 9 ≤ k ∧ k ≤ 14
      · rw [if_pos c9] at hq
        subst hq
        have hro : rkO (opT k) = 3 := by
          obtain ⟨o1, o2⟩ := op_cc (k := k) (by omega)
          have := cc_rg (o := opT k) (by omega)
          omega
        obtain ⟨W, w1, w2, w3, w4, w5, hw⟩ := k_86 (L := L) (xs := xs) (J := J) (d := d + 1) hC (k := k) (by omega) h12 hW hD ho hl
        have e : rl 3 ws (cu ++ fl cl) = ((rl 3 ws cu).1, (rl 3 ws cu).2 ++ fl cl) := relP_ap ws cu
        rw [hro, e] at w4 w5
        refine ⟨up2 (up2 W 67 8 1) 67 7 2, ⟨fun c q1 q2 _ _ q3 q4 => by rw [w_ne _ _ _ _ q3, w_ne _ _ _ _ q3, w1 c q1 q2 q3 q4], fun x hx => by rw [w_at, if_neg (by omega), w_at, if_neg (by omega), w2 x (by omega)], by rw [w_ne _ _ _ _ (by omega), w_ne _ _ _ _ (by omega), w1 (C + 3) (by omega) (by omega) (by omega) (by omega)]⟩, fun _ => ⟨w_eq _ _ _ _, by rw [w_at, if_neg (by decide), w_eq], w4.up (by rw [w_at, if_neg (by decide), w_at, if_neg (by decide)]) (by rw [w_ne _ _ _ _ (by decide), w_ne _ _ _ _ (by decide)]), by rw [w_at, if_neg (by decide), w_at, if_neg (by decide), w2 10 (by decide)]; exact h10, by rw [w_at, if_neg (by decide), w_at, if_neg (by decide), w2 11 (by decide)]; exact h11, w5.up (by rw [w_ne _ _ _ _ (by omega), w_ne _ _ _ _ (by omega)]) (by rw [w_ne _ _ _ _ (by omega), w_ne _ _ _ _ (by omega)]), by rw [w_ne _ _ _ _ (by omega), w_ne _ _ _ _ (by omega), w3 4 (by decide)]; exact h4, by rw [w_ne _ _ _ _ (by omega), w_ne _ _ _ _ (by omega), w3 6 (by decide)]; exact h6, hL.up (fun k _ => by rw [w_ne _ _ _ _ (by omega), w_ne _ _ _ _ (by omega), w1 (C + 2) (by omega) (by omega) (by omega) (by omega)]) (fun k _ => by rw [w_ne _ _ _ _ (by omega), w_ne _ _ _ _ (by omega), w1 (C + 3) (by omega) (by omega) (by omega) (by omega)]), fun _ => by rw [w_ne _ _ _ _ (by omega), w_ne _ _ _ _ (by omega), w1 (C + 2) (by omega) (by omega) (by omega) (by omega)]; exact hkd hst⟩, ?_⟩
        apply sg_84
        simp (disch := omega) only [h12, h8, eV_at, eV_up, o_lit2, o_add, o_sub, o_mul, o_neg, o_div, o_nat, ix_t, o_lt, o_le, o_eq, o_bi0, o_bi1, o_bib, em_t, o_neg1, o_shl, o_tb, o_tb0, o_tt, o_and, o_xor, o_or, o_max, o_min, an_tb, and_true, true_and, not_true, not_false, if_true, if_false, tn_add, tn_mul, Int.reduceToNat, tn_cast, md_x]
        rw [if_pos (by omega), if_pos c0, if_neg (by omega), if_pos (by omega)]
        refine ⟨_, hw, ?_⟩
        rw [eV_up, eV_up]
      · rw [if_neg c9] at hq
        subst hq
        refine ⟨V, FRC.rf, fun z => absurd z (by decide), ?_⟩
        apply sg_84
        simp (disch := omega) only [h12, h8, eV_at, eV_up, o_lit2, o_add, o_sub, o_mul, o_neg, o_div, o_nat, ix_t, o_lt, o_le, o_eq, o_bi0, o_bi1, o_bib, em_t, o_neg1, o_shl, o_tb, o_tb0, o_tt, o_and, o_xor, o_or, o_max, o_min, an_tb, and_true, true_and, not_true, not_false, if_true, if_false, tn_add, tn_mul, Int.reduceToNat, tn_cast, md_x]
        by_cases z : k < 15
        · rw [if_pos z, if_pos c0, if_pos (by omega)] <;> first | rfl | trivial
        · rw [if_neg z, if_pos (by omega), if_pos c0, if_neg (by omega), if_neg (by omega)] <;> first | rfl | trivial
    · rw [if_neg c0] at hq
      by_cases c1 : sd = 1 ∨ k = 20
      · rw [if_pos c1] at hq
        obtain ⟨W, w1, w2, hr⟩ := k_85 (L := L) (xs := xs) (J := J) (d := d) hC hq h0 hst hk h12 hbm hbr ho hl hcl
        refine ⟨W, w1, w2, ?_⟩
        apply sg_84
        simp (disch := omega) only [h12, h8, eV_at, eV_up, o_lit2, o_add, o_sub, o_mul, o_neg, o_div, o_nat, ix_t, o_lt, o_le, o_eq, o_bi0, o_bi1, o_bib, em_t, o_neg1, o_shl, o_tb, o_tb0, o_tt, o_and, o_xor, o_or, o_max, o_min, an_tb, and_true, true_and, not_true, not_false, if_true, if_false, tn_add, tn_mul, Int.reduceToNat, tn_cast, md_x]
        by_cases z : k < 15
        · rw [if_pos z, if_neg c0, if_pos (by omega)]
          exact ⟨_, _, hr, rfl⟩
        · rw [if_neg z, if_pos (by omega), if_neg c0]
          by_cases z2 : sd = 1
          · rw [if_pos z2]; exact ⟨_, _, hr, rfl⟩
          · rw [if_neg z2, if_pos (by omega)]; exact ⟨_, _, hr, rfl⟩
      · rw [if_neg c1] at hq
        subst hq
        refine ⟨V, FRC.rf, fun z => absurd z (by decide), ?_⟩
        apply sg_84
        simp (disch := omega) only [h12, h8, eV_at, eV_up, o_lit2, o_add, o_sub, o_mul, o_neg, o_div, o_nat, ix_t, o_lt, o_le, o_eq, o_bi0, o_bi1, o_bib, em_t, o_neg1, o_shl, o_tb, o_tb0, o_tt, o_and, o_xor, o_or, o_max, o_min, an_tb, and_true, true_and, not_true, not_false, if_true, if_false, tn_add, tn_mul, Int.reduceToNat, tn_cast, md_x]
        by_cases z : k < 15
        · rw [if_pos z, if_neg c0, if_neg (by omega), if_neg (by omega)] <;> first | rfl | trivial
        · rw [if_neg z, if_pos (by omega), if_neg c0, if_neg (by omega), if_neg (by omega)] <;> first | rfl | trivial
/-- startClause -/
theorem k_80 (hC : isG C) {st sd : Int} {ws : List Int} {br mi : Nat} {cu : Cd} {cl : List (Int × Cd)} {kd hc k : Int} {T : Nat} {q : PMt × Int} (hq : sCl k T sd ws br mi cu cl kd hc = q) (h : CSQ V C st sd ws br mi cu cl kd hc) (hst : st = 0) (hk : 0 ≤ k ∧ k ≤ 20) (h12 : V 67 12 = k) (hcl : cl.length ≤ 10) (hhc : -1 ≤ hc ∧ hc ≤ 10) : ∃ W : Nat → Nat → Int, FRC C V W ∧ (q.2 = 0 → CSs W C q.1) ∧ Runs (GW L xs) (d + 1) 80 (0, [.ref 67], [], zS (eV V) J (some C)) (some (Value.int (Int32.ofInt (q.2))), zS (eV W) J (some C)) := by
  have h0 := h
  obtain ⟨h7, h8, hW, h10, h11, hD, h4, h6, hL, hkd⟩ := h
  unfold sCl at hq
  by_cases c0 : k = 0
  · rw [if_pos c0] at hq
    subst hq
    rw [hst] at h0
    refine ⟨V, FRC.rf, fun _ => h0, sgc_80 _ _ none hC ?_⟩
    simp (disch := omega) only [h12, eV_at, eV_up, o_lit2, o_add, o_sub, o_mul, o_neg, o_div, o_nat, ix_t, o_lt, o_le, o_eq, o_bi0, o_bi1, o_bib, em_t, o_neg1, o_shl, o_tb, o_tb0, o_tt, o_and, o_xor, o_or, o_max, o_min, an_tb, and_true, true_and, not_true, not_false, if_true, if_false, tn_add, tn_mul, Int.reduceToNat, tn_cast, md_x]
    rw [if_pos c0] <;> first | rfl | trivial
  · rw [if_neg c0] at hq
    by_cases c46 : 4 ≤ k ∧ k ≤ 6
    · rw [if_neg (fun z => z c46)] at hq
      have go36 : ∀ r, Runs (GW L xs) (d + 1) 80 (36, [.ref 67], [], zS (eV V) J (some C)) r → Runs (GW L xs) (d + 1) 80 (0, [.ref 67], [], zS (eV V) J (some C)) r := fun r hr => by
        refine sgc_80 _ _ none hC ?_
        simp (disch := omega) only [h12, eV_at, eV_up, o_lit2, o_add, o_sub, o_mul, o_neg, o_div, o_nat, ix_t, o_lt, o_le, o_eq, o_bi0, o_bi1, o_bib, em_t, o_neg1, o_shl, o_tb, o_tb0, o_tt, o_and, o_xor, o_or, o_max, o_min, an_tb, and_true, true_and, not_true, not_false, if_true, if_false, tn_add, tn_mul, Int.reduceToNat, tn_cast, md_x]
        rw [if_neg c0]
        by_cases z4 : k = 4
        · rw [if_pos z4]; exact hr
        · rw [if_neg z4]
          by_cases z5 : k = 5
          · rw [if_pos z5]; exact hr
          · rw [if_neg z5, if_pos (by omega)]; exact hr
      by_cases c6 : k = 6 ∧ hc ≠ -1
      · rw [if_pos c6] at hq
        subst hq
        refine ⟨V, FRC.rf, fun z => absurd z (by decide), go36 _ (sgc_80_36 _ _ none hC ?_)⟩
        simp (disch := omega) only [h12, eV_at, eV_up, o_lit2, o_add, o_sub, o_mul, o_neg, o_div, o_nat, ix_t, o_lt, o_le, o_eq, o_bi0, o_bi1, o_bib, em_t, o_neg1, o_shl, o_tb, o_tb0, o_tt, o_and, o_xor, o_or, o_max, o_min, an_tb, and_true, true_and, not_true, not_false, if_true, if_false, tn_add, tn_mul, Int.reduceToNat, tn_cast, md_x]
        rw [if_pos c6.1]
        refine ⟨Int32.ofInt 1, _, sgc_28 _ _ _ hC (r := (some (.int (Int32.ofInt 1)), zS (eV V) J (some C))) ?_, ?_⟩
        · simp (disch := omega) only [h6, eV_at, eV_up, o_lit2, o_add, o_sub, o_mul, o_neg, o_div, o_nat, ix_t, o_lt, o_le, o_eq, o_bi0, o_bi1, o_bib, em_t, o_neg1, o_shl, o_tb, o_tb0, o_tt, o_and, o_xor, o_or, o_max, o_min, an_tb, and_true, true_and, not_true, not_false, if_true, if_false, tn_add, tn_mul, Int.reduceToNat, tn_cast, md_x]
          rw [if_neg c6.2] <;> first | rfl | trivial
        · exact ite_n (by decide) rfl
      · rw [if_neg c6] at hq
        have go57 : ∀ r, Runs (GW L xs) (d + 1) 80 (57, [.ref 67], [], zS (eV V) J (some C)) r → Runs (GW L xs) (d + 1) 80 (0, [.ref 67], [], zS (eV V) J (some C)) r := fun r hr => by
          refine go36 _ (sgc_80_36 _ _ none hC ?_)
          simp (disch := omega) only [h12, eV_at, eV_up, o_lit2, o_add, o_sub, o_mul, o_neg, o_div, o_nat, ix_t, o_lt, o_le, o_eq, o_bi0, o_bi1, o_bib, em_t, o_neg1, o_shl, o_tb, o_tb0, o_tt, o_and, o_xor, o_or, o_max, o_min, an_tb, and_true, true_and, not_true, not_false, if_true, if_false, tn_add, tn_mul, Int.reduceToNat, tn_cast, md_x]
          by_cases z6 : k = 6
          · rw [if_pos z6]
            refine ⟨Int32.ofInt 0, _, sgc_28 _ _ _ hC (r := (some (.int (Int32.ofInt 0)), zS (eV V) J (some C))) ?_, ?_⟩
            · simp (disch := omega) only [h6, eV_at, eV_up, o_lit2, o_add, o_sub, o_mul, o_neg, o_div, o_nat, ix_t, o_lt, o_le, o_eq, o_bi0, o_bi1, o_bib, em_t, o_neg1, o_shl, o_tb, o_tb0, o_tt, o_and, o_xor, o_or, o_max, o_min, an_tb, and_true, true_and, not_true, not_false, if_true, if_false, tn_add, tn_mul, Int.reduceToNat, tn_cast, md_x]
              rw [if_pos (by omega)] <;> first | rfl | trivial
            · exact ite_p rfl hr
          · rw [if_neg z6]; exact hr
        by_cases c10 : 10 ≤ cl.length
        · rw [if_pos c10] at hq
          subst hq
          refine ⟨V, FRC.rf, fun z => absurd z (by decide), go57 _ (sgc_80_57 _ _ none hC ?_)⟩
          refine ⟨Int32.ofInt 1, _, sgc_22 _ _ _ hC (r := (some (.int (Int32.ofInt 1)), zS (eV V) J (some C))) ?_, ?_⟩
          · simp (disch := omega) only [h4, eV_at, eV_up, o_lit2, o_add, o_sub, o_mul, o_neg, o_div, o_nat, ix_t, o_lt, o_le, o_eq, o_bi0, o_bi1, o_bib, em_t, o_neg1, o_shl, o_tb, o_tb0, o_tt, o_and, o_xor, o_or, o_max, o_min, an_tb, and_true, true_and, not_true, not_false, if_true, if_false, tn_add, tn_mul, Int.reduceToNat, tn_cast, md_x]
            rw [if_neg (by omega)] <;> first | rfl | trivial
          · exact ite_n (by decide) rfl
        · rw [if_neg c10] at hq
          obtain ⟨hc', hhc'⟩ : ∃ hc' : Int, hc' = if k = 6 then (cl.length : Int) else hc := ⟨_, rfl⟩
          have hhc2 : (k = 6 ∧ hc' = (cl.length : Int)) ∨ (k ≠ 6 ∧ hc' = hc) := by
            by_cases z : k = 6
            · exact Or.inl ⟨z, by rw [hhc', if_pos z]⟩
            · exact Or.inr ⟨z, by rw [hhc', if_neg z]⟩
          obtain ⟨n, hn⟩ : ∃ n, n = cl.length := ⟨_, rfl⟩
          rw [← hn] at h4 hhc2 c10
          obtain ⟨X, hX⟩ : ∃ X, X = up2 (up2 V (C + 2) n k) C 6 hc' := ⟨_, rfl⟩
          have xc : ∀ c, c ≠ C → c ≠ C + 2 → X c = V c := fun c q1 q2 => by rw [hX, w_ne _ _ _ _ q1, w_ne _ _ _ _ q2]
          have xC : ∀ p, X C p = if p = 6 then hc' else V C p := fun p => by rw [hX, w_at, w_ne _ _ _ _ (by omega)]
          have x2 : ∀ p, X (C + 2) p = if p = n then k else V (C + 2) p := fun p => by rw [hX, w_ne _ _ _ _ (by omega), w_at]
          have k23 : Runs (GW L xs) d 23 (0, [.ref C, (Value.int (Int32.ofInt (k)))], [], zS (eV V) J (some C)) (none, zS (eV X) J (some C)) := by
            refine sgc_23 _ _ _ _ hC ?_
            simp (disch := omega) only [h4, h6, eV_at, eV_up, o_lit2, o_add, o_sub, o_mul, o_neg, o_div, o_nat, ix_t, o_lt, o_le, o_eq, o_bi0, o_bi1, o_bib, em_t, o_neg1, o_shl, o_tb, o_tb0, o_tt, o_and, o_xor, o_or, o_max, o_min, an_tb, and_true, true_and, not_true, not_false, if_true, if_false, tn_add, tn_mul, Int.reduceToNat, tn_cast, md_x]
            rw [if_neg (by omega)]
            rcases hhc2 with ⟨z1, z2⟩ | ⟨z1, z2⟩
            · rw [if_pos z1, hX, z2] <;> first | rfl | trivial
            · rw [if_neg z1, hX, z2] <;> first | rfl | trivial
          have k22 : Runs (GW L xs) d 22 (0, [.ref C], [], zS (eV V) J (some C)) (some (.int (Int32.ofInt 0)), zS (eV V) J (some C)) := by
            refine sgc_22 _ _ _ hC ?_
            simp (disch := omega) only [h4, eV_at, eV_up, o_lit2, o_add, o_sub, o_mul, o_neg, o_div, o_nat, ix_t, o_lt, o_le, o_eq, o_bi0, o_bi1, o_bib, em_t, o_neg1, o_shl, o_tb, o_tb0, o_tt, o_and, o_xor, o_or, o_max, o_min, an_tb, and_true, true_and, not_true, not_false, if_true, if_false, tn_add, tn_mul, Int.reduceToNat, tn_cast, md_x]
            rw [if_pos (by omega)] <;> first | rfl | trivial
          have hX12 : X 67 12 = k := by rw [xc 67 (by omega) (by omega)]; exact h12
          have hXw : WTS X ws := hW.up (by rw [xc 67 (by omega) (by omega)]) (xc 69 (by omega) (by omega))
          have hXd : CDC X C (cu ++ fl cl) := hD.up (by rw [xC, if_neg (by decide)]) (xc _ (by omega) (by omega))
          have hXl : CCl X C cl := hL.up (fun j hj => by rw [x2, if_neg (by omega)]) (fun j hj => by rw [xc _ (by omega) (by omega)])
          have hX2 : X (C + 2) cl.length = k := by rw [x2, if_pos hn.symm]
          by_cases z6 : k = 6
          · rw [if_pos z6] at hq
            subst hq
            refine ⟨up2 (up2 (up2 X 67 7 1) 67 8 2) 67 7 2, ⟨fun c q1 q2 q3 q4 q5 q6 => by rw [w_ne _ _ _ _ q5, w_ne _ _ _ _ q5, w_ne _ _ _ _ q5, xc c q1 q3], fun x hx => by rw [w_at, if_neg (by omega), w_at, if_neg (by omega), w_at, if_neg (by omega), xc 67 (by omega) (by omega)], by rw [w_ne _ _ _ _ (by omega), w_ne _ _ _ _ (by omega), w_ne _ _ _ _ (by omega), xc _ (by omega) (by omega)]⟩, fun _ => ⟨w_eq _ _ _ _, by rw [w_at, if_neg (by decide), w_eq], hXw.up (by rw [w_at, if_neg (by decide), w_at, if_neg (by decide), w_at, if_neg (by decide)]) (by rw [w_ne _ _ _ _ (by decide), w_ne _ _ _ _ (by decide), w_ne _ _ _ _ (by decide)]), by rw [w_at, if_neg (by decide), w_at, if_neg (by decide), w_at, if_neg (by decide), xc 67 (by omega) (by omega)]; exact h10, by rw [w_at, if_neg (by decide), w_at, if_neg (by decide), w_at, if_neg (by decide), xc 67 (by omega) (by omega)]; exact h11, hXd.up (by rw [w_ne _ _ _ _ (by omega), w_ne _ _ _ _ (by omega), w_ne _ _ _ _ (by omega)]) (by rw [w_ne _ _ _ _ (by omega), w_ne _ _ _ _ (by omega), w_ne _ _ _ _ (by omega)]), by rw [w_ne _ _ _ _ (by omega), w_ne _ _ _ _ (by omega), w_ne _ _ _ _ (by omega), xC, if_neg (by decide), h4]; show (n : Int) = ((cl.length : Nat) : Int); omega, by rw [w_ne _ _ _ _ (by omega), w_ne _ _ _ _ (by omega), w_ne _ _ _ _ (by omega), xC, if_pos rfl]; show hc' = ((cl.length : Nat) : Int); omega, hXl.up (fun j _ => by rw [w_ne _ _ _ _ (by omega), w_ne _ _ _ _ (by omega), w_ne _ _ _ _ (by omega)]) (fun j _ => by rw [w_ne _ _ _ _ (by omega), w_ne _ _ _ _ (by omega), w_ne _ _ _ _ (by omega)]), fun _ => by rw [w_ne _ _ _ _ (by omega), w_ne _ _ _ _ (by omega), w_ne _ _ _ _ (by omega)]; show X (C + 2) cl.length = 6; rw [hX2, z6]⟩, go57 _ (sgc_80_57 _ _ none hC ⟨_, _, k22, ite_p rfl ⟨_, by rw [eV_at, h12]; exact k23, ite_p (by rw [eV_at, hX12, z6]; rfl) ?_⟩⟩)⟩
            simp (disch := omega) only [eV_at, eV_up, o_lit2, o_add, o_sub, o_mul, o_neg, o_div, o_nat, ix_t, o_lt, o_le, o_eq, o_bi0, o_bi1, o_bib, em_t, o_neg1, o_shl, o_tb, o_tb0, o_tt, o_and, o_xor, o_or, o_max, o_min, an_tb, and_true, true_and, not_true, not_false, if_true, if_false, tn_add, tn_mul, Int.reduceToNat, tn_cast, md_x]
          · rw [if_neg z6] at hq
            subst hq
            refine ⟨up2 X 67 7 1, ⟨fun c q1 q2 q3 q4 q5 q6 => by rw [w_ne _ _ _ _ q5, xc c q1 q3], fun x hx => by rw [w_at, if_neg (by omega), xc 67 (by omega) (by omega)], by rw [w_ne _ _ _ _ (by omega), xc _ (by omega) (by omega)]⟩, fun _ => ⟨w_eq _ _ _ _, by rw [w_at, if_neg (by decide), xc 67 (by omega) (by omega)]; exact h8, hXw.up (by rw [w_at, if_neg (by decide)]) (by rw [w_ne _ _ _ _ (by decide)]), by rw [w_at, if_neg (by decide), xc 67 (by omega) (by omega)]; exact h10, by rw [w_at, if_neg (by decide), xc 67 (by omega) (by omega)]; exact h11, hXd.up (by rw [w_ne _ _ _ _ (by omega)]) (by rw [w_ne _ _ _ _ (by omega)]), by rw [w_ne _ _ _ _ (by omega), xC, if_neg (by decide), h4]; show (n : Int) = ((cl.length : Nat) : Int); omega, by rw [w_ne _ _ _ _ (by omega), xC, if_pos rfl]; show hc' = hc; omega, hXl.up (fun j _ => by rw [w_ne _ _ _ _ (by omega)]) (fun j _ => by rw [w_ne _ _ _ _ (by omega)]), fun _ => by rw [w_ne _ _ _ _ (by omega)]; show X (C + 2) cl.length = k; exact hX2⟩, go57 _ (sgc_80_57 _ _ none hC ⟨_, _, k22, ite_p rfl ⟨_, by rw [eV_at, h12]; exact k23, ite_n ?_ ?_⟩⟩)⟩
            · rw [eV_at, hX12]
              intro z
              have z : Int32.ofInt k = Int32.ofInt 6 := z
              rw [o_eq (by omega) (by omega)] at z
              exact z6 z
            · simp (disch := omega) only [eV_at, eV_up, o_lit2, o_add, o_sub, o_mul, o_neg, o_div, o_nat, ix_t, o_lt, o_le, o_eq, o_bi0, o_bi1, o_bib, em_t, o_neg1, o_shl, o_tb, o_tb0, o_tt, o_and, o_xor, o_or, o_max, o_min, an_tb, and_true, true_and, not_true, not_false, if_true, if_false, tn_add, tn_mul, Int.reduceToNat, tn_cast, md_x]
    · rw [if_pos c46] at hq
      subst hq
      refine ⟨V, FRC.rf, fun z => absurd z (by decide), sgc_80 _ _ none hC ?_⟩
      simp (disch := omega) only [h12, eV_at, eV_up, o_lit2, o_add, o_sub, o_mul, o_neg, o_div, o_nat, ix_t, o_lt, o_le, o_eq, o_bi0, o_bi1, o_bib, em_t, o_neg1, o_shl, o_tb, o_tb0, o_tt, o_and, o_xor, o_or, o_max, o_min, an_tb, and_true, true_and, not_true, not_false, if_true, if_false, tn_add, tn_mul, Int.reduceToNat, tn_cast, md_x]
      rw [if_neg c0, if_neg (by omega), if_neg (by omega), if_neg (by omega)] <;> first | rfl | trivial
end LC
