/-! The reference's stacks. -/
def FRR (K : Nat) (V W : Nat → Nat → Int) : Prop := (∀ c, c ≠ 93 → c ≠ 96 → c ≠ 101 → c ≠ 102 → W c = V c) ∧ (∀ x, x ≤ 9 ∨ x = 11 ∨ x = 12 ∨ x = 18 ∨ x = 21 → W 93 x = V 93 x) ∧ ∀ x, x < 800 * K + 50 → W 96 x = V 96 x
theorem FRR.rf {K : Nat} {V : Nat → Nat → Int} : FRR K V V := ⟨fun _ _ _ _ _ => rfl, fun _ _ => rfl, fun _ _ => rfl⟩
theorem FRR.tr {K : Nat} {U V W : Nat → Nat → Int} (h : FRR K U V) (k : FRR K V W) : FRR K U W := ⟨fun c h1 h2 h3 h4 => (k.1 c h1 h2 h3 h4).trans (h.1 c h1 h2 h3 h4), fun x hx => (k.2.1 x hx).trans (h.2.1 x hx), fun x hx => (k.2.2 x hx).trans (h.2.2 x hx)⟩
abbrev CDS (V : Nat → Nat → Int) (K : Nat) (cs : Cd) : Prop := V 93 18 = (800 * K : Nat) ∧ V 93 20 = (cs.length : Nat) ∧ Sk2 (V 96) (800 * K + 50) cs
abbrev PLS (V : Nat → Nat → Int) (l : List Int) : Prop := V 93 23 = (l.length : Nat) ∧ Stk (V 102) l
abbrev WLS (V : Nat → Nat → Int) (l : List Int) : Prop := V 93 10 = (l.length : Nat) ∧ Stk (V 101) l
abbrev TKS (V : Nat → Nat → Int) (J : Nat → Nat → Int64) (b : Nat → Int) (N p : Nat) : Prop := TPR V b N ∧ TK V J b N (en isW b N p)
theorem CDS.up {V W : Nat → Nat → Int} {K : Nat} {cs : Cd} (h : CDS V K cs) (e18 : W 93 18 = V 93 18) (e20 : W 93 20 = V 93 20) (e96 : ∀ x, W 96 x = V 96 x) : CDS W K cs := ⟨e18.trans h.1, e20.trans h.2.1, h.2.2.up fun k _ _ => e96 k⟩
theorem PLS.up {V W : Nat → Nat → Int} {l : List Int} (h : PLS V l) (e : W 93 23 = V 93 23) (e2 : W 102 = V 102) : PLS W l := ⟨e.trans h.1, by rw [e2]; exact h.2⟩
theorem WLS.up {V W : Nat → Nat → Int} {l : List Int} (h : WLS V l) (e : W 93 10 = V 93 10) (e2 : W 101 = V 101) : WLS W l := ⟨e.trans h.1, by rw [e2]; exact h.2⟩
theorem TKS.up {V W : Nat → Nat → Int} {J : Nat → Nat → Int64} {b : Nat → Int} {N p : Nat} (h : TKS V J b N p) (e7 : W 93 7 = V 93 7) (e : ∀ x, 13 ≤ x → x ≤ 16 → W 93 x = V 93 x) (e2 : W 100 = V 100) : TKS W J b N p := by
  obtain ⟨⟨a1, a2, a3⟩, k1, k2, k3, k4, k5⟩ := h
  refine ⟨⟨e7.trans a1, a2, fun k hk => by rw [e2]; exact a3 k hk⟩, (e 13 (by omega) (by omega)).trans k1, (e 14 (by omega) (by omega)).trans k2, (e 15 (by omega) (by omega)).trans k3, fun h1 h2 => (e 16 (by omega) (by omega)).trans (k4 h1 h2), k5⟩
theorem lxT_le {b : Nat → Int} {N f : Nat} (h : f ≤ N) : lxT b N f ≤ N ∧ f ≤ lxT b N f ∧ (f < N → f < lxT b N f) := by
  obtain ⟨a1, a2, a3, a4⟩ := en_ch (f := isD) (b := b) h
  obtain ⟨c1, c2, c3, c4⟩ := en_ch (f := isL) (b := b) h
  have x1 : isD (b f) = true → f < N → f < en isD b N f := fun q w => by
    rcases Nat.lt_or_ge f (en isD b N f) with y | y
    · exact y
    · have e : en isD b N f = f := by omega
      rw [e] at a4
      exact absurd ⟨w, q⟩ a4
  have x2 : isL (b f) = true → f < N → f < en isL b N f := fun q w => by
    rcases Nat.lt_or_ge f (en isL b N f) with y | y
    · exact y
    · have e : en isL b N f = f := by omega
      rw [e] at c4
      exact absurd ⟨w, q⟩ c4
  unfold lxT
  by_cases cN : N ≤ f
  · rw [if_pos cN]; omega
  · rw [if_neg cN]
    by_cases cD : isD (b f) = true
    · rw [if_pos cD]; have := x1 cD; omega
    · rw [if_neg cD]
      by_cases cL : isL (b f) = true
      · rw [if_pos cL]; have := x2 cL; omega
      · rw [if_neg cL]
        by_cases cB : dbl b N f
        · rw [if_pos cB]; have := cB.2.1; omega
        · rw [if_neg cB]; omega
theorem nm_lx {b : Nat → Int} {N f : Nat} (hf : f < N) (hD : isD (b f) = true) : 0 ≤ nmr b f (en isD b N f - f) ∧ nmr b f (en isD b N f - f) ≤ 1000000 ∧ (nmr b f (en isD b N f - f) ≤ 9999 ↔ lxV b N f ≤ 9999) ∧ (nmr b f (en isD b N f - f) ≤ 9999 → nmr b f (en isD b N f - f) = lxV b N f) := by
  obtain ⟨a1, a2, a3, a4⟩ := en_ch (f := isD) (b := b) (Nat.le_of_lt hf)
  obtain ⟨c1, c2, c3, c4⟩ := nmr_ch (b := b) (p := f) (en isD b N f - f) (fun i h1 h2 => a3 i h1 (by omega))
  have e : lxV b N f = mn4 (numv b f (en isD b N f - f)) := by unfold lxV; rw [if_pos hD]
  rw [e]
  unfold mn4
  omega
section LR
variable {L d : Nat} {xs : Nat → Int32} {V : Nat → Nat → Int} {J : Nat → Nat → Int64} {tg : Option Nat} {b : Nat → Int} {N K : Nat}
/-- the next TOKEN -/
theorem m_213T {p : Nat} (h : TKS V J b N p) (hp : p ≤ N) : ∃ (W : Nat → Nat → Int) (J2 : Nat → Nat → Int64), (∀ c, c ≠ 93 → W c = V c) ∧ (∀ x, ¬ (13 ≤ x ∧ x ≤ 16) → W 93 x = V 93 x) ∧ TKS W J2 b N (lxT b N (en isW b N p)) ∧ Runs (GW L xs) (d + 2) 213 (0, [.ref 93, vU, vU], [], zS (eV (V)) (J) tg) (none, zS (eV (W)) (J2) tg) := by
  obtain ⟨hT, k1, k2, k3, k4, k5⟩ := h
  obtain ⟨e1, e2, e3, e4⟩ := en_ch (f := isW) (b := b) hp
  obtain ⟨W, J2, w1, w2, w3, w4, w5, w6, w7, hr⟩ := m_213 (L := L) (xs := xs) (J := J) (tg := tg) (d := d) hT (lxT_le e2).1 rfl k1
  exact ⟨W, J2, w1, w2, ⟨⟨by rw [w2 7 (by omega)]; exact hT.1, hT.2.1, fun k hk => by rw [w1 100 (by decide)]; exact hT.2.2 k hk⟩, w3, w4, w5, w6, w7⟩, hr⟩
/-- emit -/
theorem m_219 {cs : Cd} {o v : Int} (hC : CDS V K cs) (hK : K < 4) (hl : cs.length < 300) : ∃ W : Nat → Nat → Int, (∀ c, c ≠ 93 → c ≠ 96 → W c = V c) ∧ (∀ x, x ≠ 20 → W 93 x = V 93 x) ∧ (∀ x, x < 800 * K + 50 → W 96 x = V 96 x) ∧ CDS W K ((o, v) :: cs) ∧ Runs (GW L xs) (d) 219 (0, [.ref 93, (Value.int (Int32.ofInt (o))), (Value.int (Int32.ofInt (v)))], [], zS (eV (V)) (J) tg) (none, zS (eV (W)) (J) tg) := by
  obtain ⟨h18, h20, hS⟩ := hC
  generalize hn : cs.length = n at *
  refine ⟨up2 (up2 (up2 V 96 (800 * K + 50 + 2 * n) o) 96 (800 * K + 50 + 2 * n + 1) v) 93 20 (n + 1 : Int), fun c h1 h2 => by rw [w_ne _ _ _ _ h1, w_ne _ _ _ _ h2, w_ne _ _ _ _ h2], fun x hx => by rw [w_at, if_neg hx, w_ne _ _ _ _ (by decide), w_ne _ _ _ _ (by decide)], fun x hx => by rw [w_ne _ _ _ _ (by decide), w_at, if_neg (by omega), w_at, if_neg (by omega)], ⟨by rw [w_at, if_neg (by decide), w_ne _ _ _ _ (by decide), w_ne _ _ _ _ (by decide)]; exact h18, by rw [w_eq, List.length_cons, hn]; omega, ⟨?_, ?_⟩, ?_⟩, ?_⟩
  · rw [w_ne _ _ _ _ (by decide), w_at, if_neg (by omega), w_at, if_pos (by omega)]
  · rw [w_ne _ _ _ _ (by decide), w_at, if_pos (by omega)]
  · refine hS.up fun k h1 h2 => ?_
    rw [w_ne _ _ _ _ (by decide), w_at, if_neg (by omega), w_at, if_neg (by omega)]
  · apply sg_219
    simp (disch := omega) only [h18, h20, eV_at, eV_up, o_lit2, o_add, o_sub, o_mul, o_neg, o_div, o_nat, ix_t, o_lt, o_le, o_eq, o_bi0, o_bi1, o_bib, em_t, o_neg1, o_shl, o_tb, o_tb0, o_tt, o_and, o_xor, o_or, o_max, o_min, an_tb, and_true, true_and, not_true, not_false, if_true, if_false, tn_add, tn_mul, Int.reduceToNat, tn_cast, md_x]
/-- push -/
theorem m_221 {l : List Int} {o : Int} (hP : PLS V l) (hl : l.length < 160) : ∃ W : Nat → Nat → Int, (∀ c, c ≠ 93 → c ≠ 102 → W c = V c) ∧ (∀ x, x ≠ 23 → W 93 x = V 93 x) ∧ PLS W (o :: l) ∧ Runs (GW L xs) (d) 221 (0, [.ref 93, (Value.int (Int32.ofInt (o)))], [], zS (eV (V)) (J) tg) (none, zS (eV (W)) (J) tg) := by
  obtain ⟨h23, hS⟩ := hP
  refine ⟨up2 (up2 V 102 l.length o) 93 23 (l.length + 1 : Int), fun c h1 h2 => by rw [w_ne _ _ _ _ h1, w_ne _ _ _ _ h2], fun x hx => by rw [w_at, if_neg hx, w_ne _ _ _ _ (by decide)], ⟨by rw [w_eq, List.length_cons]; omega, ?_, ?_⟩, ?_⟩
  · rw [w_ne _ _ _ _ (by decide), w_eq]
  · refine hS.up fun k hk => ?_
    rw [w_ne _ _ _ _ (by decide), w_at, if_neg (by omega)]
  · apply sg_221
    simp (disch := omega) only [h23, eV_at, eV_up, o_lit2, o_add, o_sub, o_mul, o_neg, o_div, o_nat, ix_t, o_lt, o_le, o_eq, o_bi0, o_bi1, o_bib, em_t, o_neg1, o_shl, o_tb, o_tb0, o_tt, o_and, o_xor, o_or, o_max, o_min, an_tb, and_true, true_and, not_true, not_false, if_true, if_false, tn_add, tn_mul, Int.reduceToNat, tn_cast, md_x]
/-- settle -/
theorem m_222 {a : Int} (ha : 0 ≤ a ∧ a ≤ 10) (hK : K < 4) : ∀ (l : List Int) (V : Nat → Nat → Int) (cs : Cd), PLS V l → CDS V K cs → (∀ o ∈ l, 0 ≤ o ∧ o ≤ 40) → l.length + cs.length ≤ 300 → l.length ≤ 160 → ∃ W : Nat → Nat → Int, (∀ c, c ≠ 93 → c ≠ 96 → W c = V c) ∧ (∀ x, x ≠ 20 → x ≠ 23 → W 93 x = V 93 x) ∧ (∀ x, x < 800 * K + 50 → W 96 x = V 96 x) ∧ PLS W (relP (fun o => decide (a ≤ o)) l cs).1 ∧ CDS W K (relP (fun o => decide (a ≤ o)) l cs).2 ∧ Runs (GW L xs) (d + 1) 222 (0, [.ref 93, (Value.int (Int32.ofInt (a)))], [], zS (eV (V)) (J) tg) (none, zS (eV (W)) (J) tg)
  | [], V, cs, hP, hC, _, _, _ => by
    refine ⟨V, fun _ _ _ => rfl, fun _ _ _ => rfl, fun _ _ => rfl, hP, hC, ?_⟩
    have h23 : V 93 23 = 0 := hP.1
    apply sg_222
    refine ite_p ?_ rfl
    rw [eV_at, h23]; decide
  | o :: l, V, cs, hP, hC, ho, h1, h2 => by
    rw [List.length_cons] at h1 h2
    have h23 : V 93 23 = (l.length : Int) + 1 := by rw [hP.1, List.length_cons]; omega
    have h102 : V 102 l.length = o := hP.2.1
    have ho1 := ho o (List.mem_cons_self ..)
    by_cases c : a ≤ o
    · have c' : decide (a ≤ o) = true := by rw [decide_eq_true_iff]; exact c
      have e1 : relP (fun o => decide (a ≤ o)) (o :: l) cs = relP (fun o => decide (a ≤ o)) l ((o, 0) :: cs) := by rw [relP]; exact if_pos c'
      obtain ⟨U, u1, u2, u3, u4, hu⟩ := m_219 (L := L) (xs := xs) (J := J) (tg := tg) (d := d) (V := up2 V 93 23 (l.length : Int)) (K := K) (cs := cs) (o := o) (v := 0) (hC.up (by rw [w_at, if_neg (by decide)]) (by rw [w_at, if_neg (by decide)]) (fun x => by rw [w_ne _ _ _ _ (by decide)])) hK (by omega)
      have hPU : PLS U l := ⟨by rw [u2 23 (by decide), w_eq], by rw [u1 102 (by decide) (by decide), w_ne _ _ _ _ (by decide)]; exact hP.2.2⟩
      obtain ⟨W, w1, w2, w3, w4, w5, hw⟩ := m_222 ha hK l U ((o, 0) :: cs) hPU u4 (fun x hx => ho x (List.mem_cons_of_mem _ hx)) (by rw [List.length_cons]; omega) (by omega)
      rw [e1]
      refine ⟨W, fun c q1 q2 => by rw [w1 c q1 q2, u1 c q1 q2, w_ne _ _ _ _ q1], fun x q1 q2 => by rw [w2 x q1 q2, u2 x q1, w_at, if_neg q2], fun x q => by rw [w3 x q, u3 x q, w_ne _ _ _ _ (by decide)], w4, w5, ?_⟩
      apply sg_222
      simp (disch := omega) only [h23, h102, Int.add_sub_cancel, eV_at, eV_up, o_lit2, o_add, o_sub, o_mul, o_neg, o_div, o_nat, ix_t, o_lt, o_le, o_eq, o_bi0, o_bi1, o_bib, em_t, o_neg1, o_shl, o_tb, o_tb0, o_tt, o_and, o_xor, o_or, o_max, o_min, an_tb, and_true, true_and, not_true, not_false, if_true, if_false, tn_add, tn_mul, Int.reduceToNat, tn_cast, md_x]
      rw [if_neg (by omega), if_neg (by omega)]
      exact ⟨_, _, hu, hw⟩
    · have c' : ¬ decide (a ≤ o) = true := by rw [decide_eq_true_iff]; exact c
      have e1 : relP (fun o => decide (a ≤ o)) (o :: l) cs = (o :: l, cs) := by rw [relP]; exact if_neg c'
      rw [e1]
      refine ⟨V, fun _ _ _ => rfl, fun _ _ _ => rfl, fun _ _ => rfl, hP, hC, ?_⟩
      apply sg_222
      simp (disch := omega) only [h23, h102, Int.add_sub_cancel, eV_at, eV_up, o_lit2, o_add, o_sub, o_mul, o_neg, o_div, o_nat, ix_t, o_lt, o_le, o_eq, o_bi0, o_bi1, o_bib, em_t, o_neg1, o_shl, o_tb, o_tb0, o_tt, o_and, o_xor, o_or, o_max, o_min, an_tb, and_true, true_and, not_true, not_false, if_true, if_false, tn_add, tn_mul, Int.reduceToNat, tn_cast, md_x]
      rw [if_neg (by omega), if_pos (by omega)] <;> first | rfl | trivial
/-- settleAsks -/
theorem m_228 {a : Int} (ha : a = 0 ∨ a = 1) (hK : K < 4) : ∀ (l : List Int) (V : Nat → Nat → Int) (cs : Cd), WLS V l → CDS V K cs → (∀ o ∈ l, 0 ≤ o ∧ o ≤ 40) → l.length + cs.length ≤ 300 → l.length ≤ 160 → ∃ W : Nat → Nat → Int, (∀ c, c ≠ 93 → c ≠ 96 → W c = V c) ∧ (∀ x, x ≠ 20 → x ≠ 10 → W 93 x = V 93 x) ∧ (∀ x, x < 800 * K + 50 → W 96 x = V 96 x) ∧ WLS W (relP (fun o => decide (o = 21 ∨ (a = 1 ∧ o = 22))) l cs).1 ∧ CDS W K (relP (fun o => decide (o = 21 ∨ (a = 1 ∧ o = 22))) l cs).2 ∧ Runs (GW L xs) (d + 1) 228 (0, [.ref 93, (Value.int (Int32.ofInt (a)))], [], zS (eV (V)) (J) tg) (none, zS (eV (W)) (J) tg)
  | [], V, cs, hP, hC, _, _, _ => by
    refine ⟨V, fun _ _ _ => rfl, fun _ _ _ => rfl, fun _ _ => rfl, hP, hC, ?_⟩
    have h23 : V 93 10 = 0 := hP.1
    apply sg_228
    refine ite_p ?_ rfl
    rw [eV_at, h23]; decide
  | o :: l, V, cs, hP, hC, ho, h1, h2 => by
    rw [List.length_cons] at h1 h2
    have h23 : V 93 10 = (l.length : Int) + 1 := by rw [hP.1, List.length_cons]; omega
    have h102 : V 101 l.length = o := hP.2.1
    have ho1 := ho o (List.mem_cons_self ..)
    by_cases c : o = 21 ∨ (a = 1 ∧ o = 22)
    · have c' : decide (o = 21 ∨ (a = 1 ∧ o = 22)) = true := by rw [decide_eq_true_iff]; exact c
      have e1 : relP (fun o => decide (o = 21 ∨ (a = 1 ∧ o = 22))) (o :: l) cs = relP (fun o => decide (o = 21 ∨ (a = 1 ∧ o = 22))) l ((o, 0) :: cs) := by rw [relP]; exact if_pos c'
      obtain ⟨U, u1, u2, u3, u4, hu⟩ := m_219 (L := L) (xs := xs) (J := J) (tg := tg) (d := d) (V := up2 V 93 10 (l.length : Int)) (K := K) (cs := cs) (o := o) (v := 0) (hC.up (by rw [w_at, if_neg (by decide)]) (by rw [w_at, if_neg (by decide)]) (fun x => by rw [w_ne _ _ _ _ (by decide)])) hK (by omega)
      have hPU : WLS U l := ⟨by rw [u2 10 (by decide), w_eq], by rw [u1 101 (by decide) (by decide), w_ne _ _ _ _ (by decide)]; exact hP.2.2⟩
      obtain ⟨W, w1, w2, w3, w4, w5, hw⟩ := m_228 ha hK l U ((o, 0) :: cs) hPU u4 (fun x hx => ho x (List.mem_cons_of_mem _ hx)) (by rw [List.length_cons]; omega) (by omega)
      rw [e1]
      refine ⟨W, fun c q1 q2 => by rw [w1 c q1 q2, u1 c q1 q2, w_ne _ _ _ _ q1], fun x q1 q2 => by rw [w2 x q1 q2, u2 x q1, w_at, if_neg q2], fun x q => by rw [w3 x q, u3 x q, w_ne _ _ _ _ (by decide)], w4, w5, ?_⟩
      apply sg_228
      simp (disch := omega) only [h23, h102, Int.add_sub_cancel, eV_at, eV_up, o_lit2, o_add, o_sub, o_mul, o_neg, o_div, o_nat, ix_t, o_lt, o_le, o_eq, o_bi0, o_bi1, o_bib, em_t, o_neg1, o_shl, o_tb, o_tb0, o_tt, o_and, o_xor, o_or, o_max, o_min, an_tb, and_true, true_and, not_true, not_false, if_true, if_false, tn_add, tn_mul, Int.reduceToNat, tn_cast, md_x]
      rw [if_neg (by omega)]
      by_cases q : o = 21
      · rw [if_pos q]
        exact ⟨_, _, hu, hw⟩
      · rw [if_neg q, if_neg (by omega), if_pos (by omega)]
        exact ⟨_, _, hu, hw⟩
    · have c' : ¬ decide (o = 21 ∨ (a = 1 ∧ o = 22)) = true := by rw [decide_eq_true_iff]; exact c
      have e1 : relP (fun o => decide (o = 21 ∨ (a = 1 ∧ o = 22))) (o :: l) cs = (o :: l, cs) := by rw [relP]; exact if_neg c'
      rw [e1]
      refine ⟨V, fun _ _ _ => rfl, fun _ _ _ => rfl, fun _ _ => rfl, hP, hC, ?_⟩
      apply sg_228
      simp (disch := omega) only [h23, h102, Int.add_sub_cancel, eV_at, eV_up, o_lit2, o_add, o_sub, o_mul, o_neg, o_div, o_nat, ix_t, o_lt, o_le, o_eq, o_bi0, o_bi1, o_bib, em_t, o_neg1, o_shl, o_tb, o_tb0, o_tt, o_and, o_xor, o_or, o_max, o_min, an_tb, and_true, true_and, not_true, not_false, if_true, if_false, tn_add, tn_mul, Int.reduceToNat, tn_cast, md_x]
      rw [if_neg (by omega), if_neg (by omega)]
      by_cases q : a = 0
      · rw [if_pos q] <;> first | rfl | trivial
      · rw [if_neg q, if_neg (by omega)] <;> first | rfl | trivial
theorem rep_c {α : Type} (x : α) (l : List α) : ∀ n, List.replicate n x ++ x :: l = List.replicate (n + 1) x ++ l
  | 0 => rfl
  | n + 1 => by
    show x :: (List.replicate n x ++ x :: l) = x :: (List.replicate (n + 1) x ++ l)
    rw [rep_c x l n]
/-- minuses -/
theorem m_223p (hK : K < 4) {ar : List Int} (har : ∀ o ∈ ar, 3 ≤ o ∧ o ≤ 5) {op : Nat} (hop : op ≤ 100) : ∀ (n : Nat) (V : Nat → Nat → Int) (cs : Cd), PLS V (List.replicate n 2 ++ ar) → CDS V K cs → V 93 24 = (op : Int) + n → n + cs.length ≤ 300 → n + ar.length ≤ 160 → ∃ W : Nat → Nat → Int, (∀ c, c ≠ 93 → c ≠ 96 → W c = V c) ∧ (∀ x, x ≠ 20 → x ≠ 23 → x ≠ 24 → W 93 x = V 93 x) ∧ (∀ x, x < 800 * K + 50 → W 96 x = V 96 x) ∧ PLS W ar ∧ CDS W K (List.replicate n (2, 0) ++ cs) ∧ W 93 24 = (op : Int) ∧ Runs (GW L xs) (d + 1) 223 (115, [.ref 93, vU], [], zS (eV V) J tg) (some (Value.int (Int32.ofInt (0))), zS (eV W) J tg)
  | 0, V, cs, hP, hC, h24, h1, h2 => by
    have hP : PLS V ar := hP
    refine ⟨V, fun _ _ _ => rfl, fun _ _ _ _ => rfl, fun _ _ => rfl, hP, hC, by rw [h24]; omega, ?_⟩
    apply sg_223_115
    cases ar with
    | nil =>
      have h23 : V 93 23 = 0 := hP.1
      refine ite_p ?_ rfl
      rw [eV_at, h23]; decide
    | cons o l =>
      rw [List.length_cons] at h2
      have h23 : V 93 23 = (l.length : Int) + 1 := by rw [hP.1, List.length_cons]; omega
      have h102 : V 102 l.length = o := hP.2.1
      have ho := har o (List.mem_cons_self ..)
      simp (disch := omega) only [h23, h102, Int.add_sub_cancel, eV_at, eV_up, o_lit2, o_add, o_sub, o_mul, o_neg, o_div, o_nat, ix_t, o_lt, o_le, o_eq, o_bi0, o_bi1, o_bib, em_t, o_neg1, o_shl, o_tb, o_tb0, o_tt, o_and, o_xor, o_or, o_max, o_min, an_tb, and_true, true_and, not_true, not_false, if_true, if_false, tn_add, tn_mul, Int.reduceToNat, tn_cast, md_x]
      rw [if_neg (by omega), if_neg (by omega)] <;> first | rfl | trivial
  | n + 1, V, cs, hP, hC, h24, h1, h2 => by
    have hP : PLS V (2 :: (List.replicate n 2 ++ ar)) := hP
    have hlen : (List.replicate n (2 : Int) ++ ar).length = n + ar.length := by rw [List.length_append, List.length_replicate]
    have h23 : V 93 23 = ((n + ar.length : Nat) : Int) + 1 := by rw [hP.1, List.length_cons, hlen]; omega
    have h102 : V 102 (n + ar.length) = 2 := by have := hP.2.1; rw [hlen] at this; exact this
    generalize hm : n + ar.length = m at *
    obtain ⟨U, u1, u2, u3, u4, hu⟩ := m_219 (L := L) (xs := xs) (J := J) (tg := tg) (d := d) (V := up2 (up2 V 93 23 (m : Int)) 93 24 ((op : Int) + n)) (K := K) (cs := cs) (o := 2) (v := 0) (hC.up (by rw [w_at, if_neg (by decide), w_at, if_neg (by decide)]) (by rw [w_at, if_neg (by decide), w_at, if_neg (by decide)]) (fun x => by rw [w_ne _ _ _ _ (by decide), w_ne _ _ _ _ (by decide)])) hK (by omega)
    have hPU : PLS U (List.replicate n 2 ++ ar) := ⟨by rw [u2 23 (by decide), w_at, if_neg (by decide), w_eq, hlen], by rw [u1 102 (by decide) (by decide), w_ne _ _ _ _ (by decide), w_ne _ _ _ _ (by decide)]; exact hP.2.2⟩
    obtain ⟨W, w1, w2, w3, w4, w5, w6, hw⟩ := m_223p hK har hop n U ((2, 0) :: cs) hPU u4 (by rw [u2 24 (by decide), w_eq]) (by rw [List.length_cons]; omega) (by omega)
    refine ⟨W, fun c q1 q2 => by rw [w1 c q1 q2, u1 c q1 q2, w_ne _ _ _ _ q1, w_ne _ _ _ _ q1], fun x q1 q2 q3 => by rw [w2 x q1 q2 q3, u2 x q1, w_at, if_neg q3, w_at, if_neg q2], fun x q => by rw [w3 x q, u3 x q, w_ne _ _ _ _ (by decide), w_ne _ _ _ _ (by decide)], w4, by rw [rep_c] at w5; exact w5, w6, ?_⟩
    have h24' : V 93 24 = ((op : Int) + n) + 1 := by rw [h24]; omega
    apply sg_223_115
    simp (disch := omega) only [h23, h24', h102, Int.add_sub_cancel, eV_at, eV_up, o_lit2, o_add, o_sub, o_mul, o_neg, o_div, o_nat, ix_t, o_lt, o_le, o_eq, o_bi0, o_bi1, o_bib, em_t, o_neg1, o_shl, o_tb, o_tb0, o_tt, o_and, o_xor, o_or, o_max, o_min, an_tb, and_true, true_and, not_true, not_false, if_true, if_false, tn_add, tn_mul, Int.reduceToNat, tn_cast, md_x]
    rw [if_neg (by omega)]
    exact ⟨_, _, hu, hw⟩
/-- goesOn -/
theorem m_224 {p : Nat} (h : TKS V J b N p) : Runs (GW L xs) (d) 224 (0, [.ref 93], [], zS (eV (V)) (J) tg) (some (Value.int (Int32.ofInt (bi (15 ≤ lxK b N (en isW b N p) ∧ lxK b N (en isW b N p) ≤ 17)))), zS (eV (V)) (J) tg) := by
  obtain ⟨hT, k1, k2, k3, k4, k5⟩ := h
  have hr := rK_rg (b := b) (N := N) (f := en isW b N p) (fun k hk => (hT.2.2 k hk).2)
  have hc := rk_lx (b := b) (N := N) (f := en isW b N p)
  have hw := wfd_rg (b := b) (f := en isW b N p) (t := en isL b N (en isW b N p)) 17 0
  have hw := (wtk_k (v := wfd b (en isW b N p) (en isL b N (en isW b N p)) 17 0) (by omega)).2.2.2
  generalize wtk (wfd b (en isW b N p) (en isL b N (en isW b N p)) 17 0) = w at *
  generalize en isW b N p = f at *
  generalize hk : lxK b N f = k at *
  generalize rK b N f = q at *
  apply sg_224
  simp (disch := omega) only [k3, eV_at, eV_up, o_lit2, o_add, o_sub, o_mul, o_neg, o_div, o_nat, ix_t, o_lt, o_le, o_eq, o_bi0, o_bi1, o_bib, em_t, o_neg1, o_shl, o_tb, o_tb0, o_tt, o_and, o_xor, o_or, o_max, o_min, an_tb, and_true, true_and, not_true, not_false, if_true, if_false, tn_add, tn_mul, Int.reduceToNat, tn_cast, md_x]
  by_cases c : 15 ≤ k ∧ k ≤ 17
  · rw [← bi_t c]
    by_cases c1 : q = 43
    · rw [if_pos c1] <;> first | rfl | trivial
    · rw [if_neg c1]
      by_cases c2 : q = 45
      · rw [if_pos c2] <;> first | rfl | trivial
      · rw [if_neg c2, if_pos (by omega)] <;> first | rfl | trivial
  · rw [← bi_f c, if_neg (by omega), if_neg (by omega), if_neg (by omega)] <;> first | rfl | trivial
/-- compareOf -/
theorem m_226 {p : Nat} (h : TKS V J b N p) : Runs (GW L xs) (d) 226 (0, [.ref 93], [], zS (eV (V)) (J) tg) (some (Value.int (Int32.ofInt (if 9 ≤ lxK b N (en isW b N p) ∧ lxK b N (en isW b N p) ≤ 14 then lxK b N (en isW b N p) + 1 else -1))), zS (eV (V)) (J) tg) := by
  obtain ⟨hT, k1, k2, k3, k4, k5⟩ := h
  have hr := rK_rg (b := b) (N := N) (f := en isW b N p) (fun k hk => (hT.2.2 k hk).2)
  have hc := rk_lx (b := b) (N := N) (f := en isW b N p)
  have hw := wfd_rg (b := b) (f := en isW b N p) (t := en isL b N (en isW b N p)) 17 0
  have hw := (wtk_k (v := wfd b (en isW b N p) (en isL b N (en isW b N p)) 17 0) (by omega)).2.2.2
  generalize wtk (wfd b (en isW b N p) (en isL b N (en isW b N p)) 17 0) = w at *
  generalize en isW b N p = f at *
  generalize hk : lxK b N f = k at *
  generalize rK b N f = q at *
  apply sg_226
  simp (disch := omega) only [k3, eV_at, eV_up, o_lit2, o_add, o_sub, o_mul, o_neg, o_div, o_nat, ix_t, o_lt, o_le, o_eq, o_bi0, o_bi1, o_bib, em_t, o_neg1, o_shl, o_tb, o_tb0, o_tt, o_and, o_xor, o_or, o_max, o_min, an_tb, and_true, true_and, not_true, not_false, if_true, if_false, tn_add, tn_mul, Int.reduceToNat, tn_cast, md_x]
  by_cases c1 : q = 60
  · rw [if_pos c1, if_pos (by omega)]; exact leafI (by omega)
  rw [if_neg c1]
  by_cases c2 : q = 4
  · rw [if_pos c2, if_pos (by omega)]; exact leafI (by omega)
  rw [if_neg c2]
  by_cases c3 : q = 62
  · rw [if_pos c3, if_pos (by omega)]; exact leafI (by omega)
  rw [if_neg c3]
  by_cases c4 : q = 5
  · rw [if_pos c4, if_pos (by omega)]; exact leafI (by omega)
  rw [if_neg c4]
  by_cases c5 : q = 61
  · rw [if_pos c5, if_pos (by omega)]; exact leafI (by omega)
  rw [if_neg c5]
  by_cases c6 : q = 35
  · rw [if_pos c6, if_pos (by omega)]; exact leafI (by omega)
  rw [if_neg c6, if_neg (by omega)] <;> first | rfl | trivial
end LR
