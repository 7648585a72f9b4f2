/-! scan. -/
section LX
variable {L d : Nat} {xs : Nat → Int32} {V : Nat → Nat → Int} {J : Nat → Nat → Int64} {tg : Option Nat} {b : Nat → Int} {N : Nat}
/-- scanSign -/
theorem k_78 (hT : TPE V b N) {f : Nat} (hf : f < N) (h14 : V 67 14 = f) : ∃ W : Nat → Nat → Int, (∀ c, c ≠ 67 → W c = V c) ∧ (∀ p, p ≠ 12 → p ≠ 15 → W 67 p = V 67 p) ∧ W 67 12 = (if dbl b N f then sgn (b f) + 1 else sgn (b f)) ∧ W 67 15 = (if dbl b N f then (f : Int) + 2 else (f : Int) + 1) ∧ Runs (GW L xs) (d + 1) 78 (0, [.ref 67, vU], [], zS (eV (V)) J tg) (none, zS (eV (W)) J tg) := by
  obtain ⟨t2, t3, t4⟩ := id hT
  obtain ⟨b1, b2, b3⟩ := t4 f hf
  obtain ⟨g1, g2, g3, g4⟩ := sgn_rg (b f)
  have e68 : ∀ (z : Int), (up2 V 67 15 z) 68 f = sby (b f) := fun z => by rw [w_ne _ _ _ _ (by decide)]; exact b1
  have k9 := fun z => k_79 (L := L) (xs := xs) (J := J) (tg := tg) (d := d) (V := up2 V 67 15 z) (a := b f) (by omega)
  have n15 : (up2 V 67 15 ((f : Int) + 1)) 67 15 = (f : Int) + 1 := w_eq _ _ _ _
  by_cases c1 : f + 1 < N
  · obtain ⟨b1', b2', b3'⟩ := t4 (f + 1) c1
    obtain ⟨s1, s2, s3, s4⟩ := sby_rg ⟨b2', b3'⟩
    have ef : (f : Int) + 1 = ((f + 1 : Nat) : Int) := by omega
    have e1 : V 68 (f + 1) = sby (b (f + 1)) := b1'
    by_cases c2 : b (f + 1) = 61
    · have hsb : sby (b (f + 1)) = 61 := by rw [s3 (by omega)]; exact c2
      by_cases c3 : b f = 60 ∨ b f = 62
      · have hd : dbl b N f := ⟨c3, c1, c2⟩
        rw [if_pos hd, if_pos hd]
        refine ⟨up2 (up2 (up2 (up2 V 67 15 ((f : Int) + 1)) 67 12 (sgn (b f))) 67 12 (sgn (b f) + 1)) 67 15 ((f : Int) + 1 + 1), fun c hc => by rw [w_ne _ _ _ _ hc, w_ne _ _ _ _ hc, w_ne _ _ _ _ hc, w_ne _ _ _ _ hc], fun p h1 h2 => by rw [w_at, if_neg h2, w_at, if_neg h1, w_at, if_neg h1, w_at, if_neg h2], by rw [w_at, if_neg (by decide), w_eq], by rw [w_eq]; omega, ?_⟩
        apply sg_78
        simp (disch := omega) only [t2, h14, eV_at, eV_up, o_lit2, o_add, o_sub, o_mul, o_neg, o_div, o_nat, ix_t, o_lt, o_le, o_eq, o_bi0, o_bi1, o_bib, em_t, o_neg1, o_shl, o_tb, o_tb0, o_tt, o_and, o_xor, o_or, o_max, o_min, an_tb, and_true, true_and, not_true, not_false, if_true, if_false, tn_add, tn_mul, Int.reduceToNat, tn_cast, md_x]
        rw [if_neg (by omega), e1, if_pos hsb, b1]
        refine ⟨_, _, k9 _, ?_⟩
        simp (disch := omega) only [n15, eV_at, eV_up, o_lit2, o_add, o_sub, o_mul, o_neg, o_div, o_nat, ix_t, o_lt, o_le, o_eq, o_bi0, o_bi1, o_bib, em_t, o_neg1, o_shl, o_tb, o_tb0, o_tt, o_and, o_xor, o_or, o_max, o_min, an_tb, and_true, true_and, not_true, not_false, if_true, if_false, tn_add, tn_mul, Int.reduceToNat, tn_cast, md_x]
        rw [if_neg (by omega)]
        rcases c3 with c3 | c3
        · have h9 := g3.mpr c3
          rw [h9]
          rw [if_pos (by omega), if_pos (by omega)]
          rfl
        · have h9 := g4.mpr c3
          rw [h9]
          rw [if_neg (by omega), if_pos (by omega), if_neg (by omega)]
          rfl
      · have hd : ¬ dbl b N f := fun h => c3 h.1
        rw [if_neg hd, if_neg hd]
        refine ⟨up2 (up2 V 67 15 ((f : Int) + 1)) 67 12 (sgn (b f)), fun c hc => by rw [w_ne _ _ _ _ hc, w_ne _ _ _ _ hc], fun p h1 h2 => by rw [w_at, if_neg h1, w_at, if_neg h2], w_eq _ _ _ _, by rw [w_at, if_neg (by decide), w_eq], ?_⟩
        apply sg_78
        simp (disch := omega) only [t2, h14, eV_at, eV_up, o_lit2, o_add, o_sub, o_mul, o_neg, o_div, o_nat, ix_t, o_lt, o_le, o_eq, o_bi0, o_bi1, o_bib, em_t, o_neg1, o_shl, o_tb, o_tb0, o_tt, o_and, o_xor, o_or, o_max, o_min, an_tb, and_true, true_and, not_true, not_false, if_true, if_false, tn_add, tn_mul, Int.reduceToNat, tn_cast, md_x]
        rw [if_neg (by omega), e1, if_pos hsb, b1]
        refine ⟨_, _, k9 _, ?_⟩
        simp (disch := omega) only [eV_at, eV_up, o_lit2, o_add, o_sub, o_mul, o_neg, o_div, o_nat, ix_t, o_lt, o_le, o_eq, o_bi0, o_bi1, o_bib, em_t, o_neg1, o_shl, o_tb, o_tb0, o_tt, o_and, o_xor, o_or, o_max, o_min, an_tb, and_true, true_and, not_true, not_false, if_true, if_false, tn_add, tn_mul, Int.reduceToNat, tn_cast, md_x]
        rw [if_neg (by omega), if_neg (by omega), if_neg (by omega)] <;> first | rfl | trivial
    · have hsb : ¬ sby (b (f + 1)) = 61 := fun h => c2 (by
        by_cases q : b (f + 1) < 128
        · rw [← s3 q]; exact h
        · have := s4 (by omega); omega)
      have hd : ¬ dbl b N f := fun h => c2 h.2.2
      rw [if_neg hd, if_neg hd]
      refine ⟨up2 (up2 V 67 15 ((f : Int) + 1)) 67 12 (sgn (b f)), fun c hc => by rw [w_ne _ _ _ _ hc, w_ne _ _ _ _ hc], fun p h1 h2 => by rw [w_at, if_neg h1, w_at, if_neg h2], w_eq _ _ _ _, by rw [w_at, if_neg (by decide), w_eq], ?_⟩
      apply sg_78
      simp (disch := omega) only [t2, h14, eV_at, eV_up, o_lit2, o_add, o_sub, o_mul, o_neg, o_div, o_nat, ix_t, o_lt, o_le, o_eq, o_bi0, o_bi1, o_bib, em_t, o_neg1, o_shl, o_tb, o_tb0, o_tt, o_and, o_xor, o_or, o_max, o_min, an_tb, and_true, true_and, not_true, not_false, if_true, if_false, tn_add, tn_mul, Int.reduceToNat, tn_cast, md_x]
      rw [if_neg (by omega), e1, if_neg hsb, b1]
      refine ⟨_, _, k9 _, ?_⟩
      simp (disch := omega) only [eV_at, eV_up, o_lit2, o_add, o_sub, o_mul, o_neg, o_div, o_nat, ix_t, o_lt, o_le, o_eq, o_bi0, o_bi1, o_bib, em_t, o_neg1, o_shl, o_tb, o_tb0, o_tt, o_and, o_xor, o_or, o_max, o_min, an_tb, and_true, true_and, not_true, not_false, if_true, if_false, tn_add, tn_mul, Int.reduceToNat, tn_cast, md_x]
  · have hd : ¬ dbl b N f := fun h => c1 h.2.1
    rw [if_neg hd, if_neg hd]
    refine ⟨up2 (up2 V 67 15 ((f : Int) + 1)) 67 12 (sgn (b f)), fun c hc => by rw [w_ne _ _ _ _ hc, w_ne _ _ _ _ hc], fun p h1 h2 => by rw [w_at, if_neg h1, w_at, if_neg h2], w_eq _ _ _ _, by rw [w_at, if_neg (by decide), w_eq], ?_⟩
    apply sg_78
    simp (disch := omega) only [t2, h14, b1, eV_at, eV_up, o_lit2, o_add, o_sub, o_mul, o_neg, o_div, o_nat, ix_t, o_lt, o_le, o_eq, o_bi0, o_bi1, o_bib, em_t, o_neg1, o_shl, o_tb, o_tb0, o_tt, o_and, o_xor, o_or, o_max, o_min, an_tb, and_true, true_and, not_true, not_false, if_true, if_false, tn_add, tn_mul, Int.reduceToNat, tn_cast, md_x]
    rw [if_pos (by omega)]
    refine ⟨_, _, k9 _, ?_⟩
    simp (disch := omega) only [eV_at, eV_up, o_lit2, o_add, o_sub, o_mul, o_neg, o_div, o_nat, ix_t, o_lt, o_le, o_eq, o_bi0, o_bi1, o_bib, em_t, o_neg1, o_shl, o_tb, o_tb0, o_tt, o_and, o_xor, o_or, o_max, o_min, an_tb, and_true, true_and, not_true, not_false, if_true, if_false, tn_add, tn_mul, Int.reduceToNat, tn_cast, md_x]
/-- scan -/
theorem k_72 (hT : TPE V b N) {p f : Nat} (hp : p ≤ N) (hf : f = en isW b N p) (h15 : V 67 15 = p) : ∃ W : Nat → Nat → Int, (∀ c, c ≠ 67 → W c = V c) ∧ (∀ x, ¬ (12 ≤ x ∧ x ≤ 15) → W 67 x = V 67 x) ∧ W 67 14 = f ∧ W 67 12 = lxK b N f ∧ W 67 15 = (lxT b N f : Nat) ∧ (f < N → isD (b f) = true ∨ isL (b f) = true → W 67 13 = lxV b N f) ∧ Runs (GW L xs) (d + 2) 72 (0, [.ref 67, vU], [], zS (eV (V)) J tg) (none, zS (eV (W)) J tg) := by
  obtain ⟨t2, t3, t4⟩ := id hT
  obtain ⟨e1, e2, e3, e4⟩ := en_ch (f := isW) (b := b) hp
  rw [← hf] at e1 e2 e3 e4
  have hWs : ∀ i, i < N → (isW (b i) = true ↔ V 68 i = 32 ∨ V 68 i = 10) := fun i hi => by
    obtain ⟨b1, b2, b3⟩ := t4 i hi
    unfold isW
    rw [decide_eq_true_iff, b1]
    unfold sby
    split <;> omega
  have h68 : ∀ i, i < N → -128 ≤ V 68 i ∧ V 68 i ≤ 127 := fun i hi => by
    obtain ⟨b1, b2, b3⟩ := t4 i hi
    have := sby_rg ⟨b2, b3⟩
    omega
  have u2 : ∀ z, (up2 V 67 14 z) 67 2 = (N : Int) := fun z => by rw [w_at, if_neg (by decide)]; exact t2
  have u68 : ∀ z, (up2 V 67 14 z) 68 = V 68 := fun z => w_ne _ _ _ _ (by decide)
  have u14 : ∀ z, (up2 V 67 14 z) 67 14 = z := fun z => w_eq _ _ _ _
  have uu : ∀ (z w : Int), up2 (up2 V 67 14 z) 67 14 w = up2 V 67 14 w := fun z w => by
    funext c x
    by_cases c1 : c = 67
    · subst c1
      rw [w_at, w_at, w_at]
      split <;> rfl
    · rw [w_ne _ _ _ _ c1, w_ne _ _ _ _ c1, w_ne _ _ _ _ c1]
  have skip : ∀ r, Runs (GW L xs) (d + 2) 72 (13, [.ref 67, (Value.int (Int32.ofInt (f)))], [], zS (eV (up2 V 67 14 f)) J tg) r → Runs (GW L xs) (d + 2) 72 (0, [.ref 67, vU], [], zS (eV V) J tg) r := by
    obtain ⟨_, -, hr⟩ := loopN (g := GW L xs) (d := d + 2) (mid := 72) (σ := Unit) (fun i _ => (13, [.ref 67, (Value.int (Int32.ofInt (i)))], [], zS (eV (up2 V 67 14 i)) J tg)) (fun i _ => p ≤ i) f (by
      intro i _ hi i0
      refine ⟨(), by omega, fun r hr => ?_⟩
      have hw := (hWs i (by omega)).mp (e3 i i0 hi)
      have h8 := h68 i (by omega)
      apply sg_72_13
      simp (disch := omega) only [u2, u68, uu, eV_at, eV_up, o_lit2, o_add, o_sub, o_mul, o_neg, o_div, o_nat, ix_t, o_lt, o_le, o_eq, o_bi0, o_bi1, o_bib, em_t, o_neg1, o_shl, o_tb, o_tb0, o_tt, o_and, o_xor, o_or, o_max, o_min, an_tb, and_true, true_and, not_true, not_false, if_true, if_false, tn_add, tn_mul, Int.reduceToNat, tn_cast, md_x]
      rw [if_neg (by omega)]
      by_cases c : V 68 i = 32
      · rw [if_pos c]; exact hr
      · rw [if_neg c, if_pos (by omega)]; exact hr) (f - p) p () (by omega) (Nat.le_refl _)
    intro r h
    apply sg_72
    simp (disch := omega) only [h15, eV_at, eV_up, o_lit2, o_add, o_sub, o_mul, o_neg, o_div, o_nat, ix_t, o_lt, o_le, o_eq, o_bi0, o_bi1, o_bib, em_t, o_neg1, o_shl, o_tb, o_tb0, o_tt, o_and, o_xor, o_or, o_max, o_min, an_tb, and_true, true_and, not_true, not_false, if_true, if_false, tn_add, tn_mul, Int.reduceToNat, tn_cast, md_x]
    exact hr _ h
  have v14 : (up2 (up2 V 67 14 f) 67 15 f) 67 14 = f := by rw [w_at, if_neg (by decide), w_eq]
  have v15 : (up2 (up2 V 67 14 f) 67 15 f) 67 15 = f := w_eq _ _ _ _
  have vc : ∀ c, c ≠ 67 → (up2 (up2 V 67 14 f) 67 15 f) c = V c := fun c hc => by rw [w_ne _ _ _ _ hc, w_ne _ _ _ _ hc]
  have vx : ∀ x, x ≠ 14 → x ≠ 15 → (up2 (up2 V 67 14 f) 67 15 f) 67 x = V 67 x := fun x h1 h2 => by rw [w_at, if_neg h2, w_at, if_neg h1]
  have hTU : TPE (up2 (up2 V 67 14 f) 67 15 f) b N := ⟨by rw [vx 2 (by decide) (by decide)]; exact t2, t3, fun k hk => by rw [vc 68 (by decide)]; exact t4 k hk⟩
  by_cases cN : N ≤ f
  · refine ⟨up2 (up2 (up2 V 67 14 f) 67 15 f) 67 12 0, fun c hc => by rw [w_ne _ _ _ _ hc]; exact vc c hc, fun x hx => by rw [w_at, if_neg (by omega)]; exact vx x (by omega) (by omega), by rw [w_at, if_neg (by decide)]; exact v14, by rw [w_eq]; unfold lxK; rw [if_pos cN], by rw [w_at, if_neg (by decide), v15]; unfold lxT; rw [if_pos cN], fun h => by omega, skip _ ?_⟩
    apply sg_72_13
    simp (disch := omega) only [u2, u14, eV_at, eV_up, o_lit2, o_add, o_sub, o_mul, o_neg, o_div, o_nat, ix_t, o_lt, o_le, o_eq, o_bi0, o_bi1, o_bib, em_t, o_neg1, o_shl, o_tb, o_tb0, o_tt, o_and, o_xor, o_or, o_max, o_min, an_tb, and_true, true_and, not_true, not_false, if_true, if_false, tn_add, tn_mul, Int.reduceToNat, tn_cast, md_x]
    rw [if_pos (by omega), if_neg (by omega)] <;> first | rfl | trivial
  · obtain ⟨b1, b2, b3⟩ := t4 f (by omega)
    have hnw : ¬ (V 68 f = 32 ∨ V 68 f = 10) := fun h => e4 ⟨by omega, (hWs f (by omega)).mpr h⟩
    have h8 := h68 f (by omega)
    have e68 : V 68 f = sby (b f) := b1
    have k3 := k_73 (L := L) (xs := xs) (J := J) (tg := tg) (d := d + 1) (V := up2 (up2 V 67 14 f) 67 15 f) (a := b f) (by omega)
    have k4 := k_74 (L := L) (xs := xs) (J := J) (tg := tg) (d := d + 1) (V := up2 (up2 V 67 14 f) 67 15 f) (a := b f) (by omega)
    have v68 : (up2 (up2 V 67 14 f) 67 15 f) 68 f = sby (b f) := by rw [vc 68 (by decide)]; exact e68
    have pre : ∀ r, (∃ (v8 : Int32) (I9 : Nat → Nat → Int32), Runs (GW L xs) (d + 1) 73 (0, [(Value.int (Int32.ofInt (sby (b f))))], [], zS (eV (up2 (up2 V 67 14 f) 67 15 f)) J tg) (some (.int v8), zS I9 J tg) ∧ (if v8 = 0 then (¬ ((I9 67 14) < 0 ∨ 300 ≤ (I9 67 14).toNatClampNeg) ∧ ∃ (v10 : Int32) (I11 : Nat → Nat → Int32), Runs (GW L xs) (d + 1) 74 (0, [.int (I9 68 ((I9 67 14).toNatClampNeg))], [], zS I9 J tg) (some (.int v10), zS I11 J tg) ∧ (if v10 = 0 then (∃ (I12 : Nat → Nat → Int32), Runs (GW L xs) (d + 1) 78 (0, [.ref 67, vU], [], zS I11 J tg) (none, zS I12 J tg) ∧ r = (none, zS I12 J tg)) else (∃ (I13 : Nat → Nat → Int32), Runs (GW L xs) (d + 1) 76 (0, [.ref 67, vU], [], zS I11 J tg) (none, zS I13 J tg) ∧ r = (none, zS I13 J tg)))) else (∃ (I14 : Nat → Nat → Int32), Runs (GW L xs) (d + 1) 75 (0, [.ref 67, vU], [], zS I9 J tg) (none, zS I14 J tg) ∧ r = (none, zS I14 J tg)))) → Runs (GW L xs) (d + 2) 72 (0, [.ref 67, vU], [], zS (eV V) J tg) r := fun r ⟨v8, I9, q1, q2⟩ => by
      refine skip _ ?_
      apply sg_72_13
      rw [e68] at h8 hnw
      simp (disch := omega) only [u2, u14, u68, e68, eV_at, eV_up, o_lit2, o_add, o_sub, o_mul, o_neg, o_div, o_nat, ix_t, o_lt, o_le, o_eq, o_bi0, o_bi1, o_bib, em_t, o_neg1, o_shl, o_tb, o_tb0, o_tt, o_and, o_xor, o_or, o_max, o_min, an_tb, and_true, true_and, not_true, not_false, if_true, if_false, tn_add, tn_mul, Int.reduceToNat, tn_cast, md_x]
      rw [if_neg (by omega), if_neg (by omega), if_neg (by omega), if_pos (by omega)]
      exact ⟨_, _, q1, q2⟩
    by_cases cD : isD (b f) = true
    · obtain ⟨W, w1, w2, w3, w4, w5, w6⟩ := k_75 (L := L) (xs := xs) (J := J) (tg := tg) (d := d) hTU (by omega : f ≤ N) v14 v15
      refine ⟨W, fun c hc => by rw [w1 c hc]; exact vc c hc, fun x hx => by rw [w2 x (by omega) (by omega) (by omega)]; exact vx x (by omega) (by omega), by rw [w2 14 (by decide) (by decide) (by decide)]; exact v14, by rw [w3]; unfold lxK; rw [if_neg cN, if_pos cD], by rw [w5]; unfold lxT; rw [if_neg cN, if_pos cD], fun _ _ => by rw [w4]; unfold lxV; rw [if_pos cD], pre _ ⟨_, _, k3, ?_⟩⟩
      rw [if_neg (b0_f cD)]
      exact ⟨_, w6, rfl⟩
    · by_cases cL : isL (b f) = true
      · obtain ⟨W, w1, w2, w3, w4, w5, w6⟩ := k_76 (L := L) (xs := xs) (J := J) (tg := tg) (d := d) hTU (by omega : f ≤ N) v14 v15
        refine ⟨W, fun c hc => by rw [w1 c hc]; exact vc c hc, fun x hx => by rw [w2 x (by omega) (by omega) (by omega)]; exact vx x (by omega) (by omega), by rw [w2 14 (by decide) (by decide) (by decide)]; exact v14, by rw [w3]; unfold lxK; rw [if_neg cN, if_neg cD, if_pos cL], by rw [w5]; unfold lxT; rw [if_neg cN, if_neg cD, if_pos cL], fun _ _ => by rw [w4]; unfold lxV; rw [if_neg cD], pre _ ⟨_, _, k3, ?_⟩⟩
        rw [if_pos (b0_t cD)]
        simp (disch := omega) only [v14, v68, eV_at, eV_up, o_lit2, o_add, o_sub, o_mul, o_neg, o_div, o_nat, ix_t, o_lt, o_le, o_eq, o_bi0, o_bi1, o_bib, em_t, o_neg1, o_shl, o_tb, o_tb0, o_tt, o_and, o_xor, o_or, o_max, o_min, an_tb, and_true, true_and, not_true, not_false, if_true, if_false, tn_add, tn_mul, Int.reduceToNat, tn_cast, md_x]
        refine ⟨_, _, k4, ?_⟩
        rw [if_neg (b0o_f cL)]
        exact ⟨_, w6, rfl⟩
      · obtain ⟨W, w1, w2, w3, w5, w6⟩ := k_78 (L := L) (xs := xs) (J := J) (tg := tg) (d := d) hTU (by omega : f < N) v14
        refine ⟨W, fun c hc => by rw [w1 c hc]; exact vc c hc, fun x hx => by rw [w2 x (by omega) (by omega)]; exact vx x (by omega) (by omega), by rw [w2 14 (by decide) (by decide)]; exact v14, by rw [w3]; unfold lxK; rw [if_neg cN, if_neg cD, if_neg cL], by rw [w5]; unfold lxT; rw [if_neg cN, if_neg cD, if_neg cL]; split <;> rfl, fun _ h => by rcases h with h | h; exact absurd h cD; exact absurd h cL, pre _ ⟨_, _, k3, ?_⟩⟩
        rw [if_pos (b0_t cD)]
        simp (disch := omega) only [v14, v68, eV_at, eV_up, o_lit2, o_add, o_sub, o_mul, o_neg, o_div, o_nat, ix_t, o_lt, o_le, o_eq, o_bi0, o_bi1, o_bib, em_t, o_neg1, o_shl, o_tb, o_tb0, o_tt, o_and, o_xor, o_or, o_max, o_min, an_tb, and_true, true_and, not_true, not_false, if_true, if_false, tn_add, tn_mul, Int.reduceToNat, tn_cast, md_x]
        refine ⟨_, _, k4, ?_⟩
        rw [if_pos (b0o_t cL)]
        exact ⟨_, w6, rfl⟩
end LX
