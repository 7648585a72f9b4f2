/-! barredSlot. -/
section CB
variable {L d : Nat} {xs : Nat → Int32} {B V : Nat → Nat → Int} {J : Nat → Nat → Int64} {tg : Option Nat}
/-- how far advance came -/
def wit (B : Nat → Nat → Int) (dd : Int) (f f' : Nat) : Prop := f' = f ∨ ∃ p, p < pr (mN B) f' ∧ dd ≤ vv (mN B) (gN B) f' p
def adv (B : Nat → Nat → Int) (dd : Int) (s P f f' : Nat) : Prop := f ≤ f' ∧ f' ≤ 6 ∧ wit B dd f f' ∧ ∀ k p, s + k ≤ 6 → anc (mN B) s k p = P → dd ≤ vv (mN B) (gN B) (s + k) p → s + k ≤ f'
theorem k_19 (hI : INV B) {dd : Int} (hdd : 1 ≤ dd ∧ dd ≤ 999) : ∀ n {s P f : Nat} {V : Nat → Nat → Int}, s + n = 6 → Qy B V → (∀ t, t < s → mN B t ≠ 0 → V 84 t = B 20 (t * 4 + pd (mN B) s P t)) → dd ≤ vv (mN B) (gN B) s P → P < pr (mN B) s → V 83 5 = f → f ≤ 6 → ∃ W f', Qy B W ∧ (∀ t, t < s → W 84 t = V 84 t) ∧ W 83 5 = (f' : Nat) ∧ adv B dd s P f f' ∧ Runs (GW L xs) (d + 5 + n) 19 (0, [.ref 83, (Value.int (Int32.ofInt (s))), (Value.int (Int32.ofInt (dd))), vU], [], zS (eV (V)) J tg) (none, zS (eV (W)) J tg)
  | 0, s, P, f, V, e, q, h84, hv, hP, h5, hf => by
    have : s = 6 := by omega
    subst this
    have em : max (f : Int) 6 = ((6 : Nat) : Int) := by omega
    refine ⟨up2 V 83 5 6, 6, q.cl fun c _ q2 => w_ne _ _ _ _ (by omega), fun t _ => by rw [w_nc _ _ _ _ (by decide)], w_eq _ _ _ _, ⟨hf, by omega, Or.inr ⟨P, hP, hv⟩, fun k p h _ _ => h⟩, ?_⟩
    apply sg_19
    rw [if_neg (by decide)]
    simp (disch := omega) only [h5, em, eV_at, eV_up, o_lit2, o_add, o_sub, o_mul, o_neg, o_div, o_nat, ix_t, o_lt, o_le, o_eq, o_bi0, o_bi1, o_bib, em_t, o_neg1, o_shl, o_tb, o_tb0, o_tt, o_and, o_xor, o_or, o_max, o_min, an_tb, and_true, true_and, not_true, not_false, if_true, if_false, tn_add, tn_mul, Int.reduceToNat, tn_cast, md_x]
    rw [show max (f : Int) ((6 : Nat) : Int) = 6 by omega]
  | n + 1, s, P, f, V, e, q, h84, hv, hP, h5, hf => by
    have hG := gN_rg hI.1
    have hm := mN_le hI.1
    have hms := hm s
    have e21 : V 21 s = (mN B s : Nat) := by rw [q.1 21 (by omega)]; exact mN_eq hI.1 s
    have hvs : ∀ p, vv (mN B) (gN B) (s + 1) p = if mN B s = 0 then vv (mN B) (gN B) s p else min (nbk (mN B) (gN B) s p s) (vv (mN B) (gN B) s (p / mN B s)) := fun p => rfl
    obtain ⟨f1, hf1⟩ : ∃ f1 : Nat, max f s = f1 := ⟨_, rfl⟩
    have em : max (f : Int) (s : Int) = (f1 : Nat) := by omega
    have qA : Qy B (up2 V 83 5 f1) := q.cl fun c _ q2 => w_ne _ _ _ _ (by omega)
    have hw1 : wit B dd f f1 := by
      by_cases c : s ≤ f
      · left; omega
      · right; have : f1 = s := by omega
        rw [this]; exact ⟨P, hP, hv⟩
    have hpr : pr (mN B) (s + 1) = pr (mN B) s * mm (mN B) s := rfl
    by_cases g : mN B s = 0
    · have hM : mm (mN B) s = 1 := if_pos g
      have hvP := hvs P
      rw [if_pos g] at hvP
      rw [hM, Nat.mul_one] at hpr
      obtain ⟨W, f', w1, w2, w3, ⟨w4, w5, w6, w7⟩, w8⟩ := k_19 hI hdd n (s := s + 1) (P := P) (f := f1) (V := up2 V 83 5 f1) (by omega) qA (fun t ht hmt => by
        by_cases et : t = s
        · subst et; exact absurd g hmt
        · rw [w_nc _ _ _ _ (by decide), pd_lt (by omega), hM, Nat.div_one]; exact h84 t (by omega) hmt) (by rw [hvP]; exact hv) (by rw [hpr]; exact hP) (w_eq _ _ _ _) (by omega)
      refine ⟨W, f', w1, fun t ht => by rw [w2 t (by omega), w_nc _ _ _ _ (by decide)], w3, ⟨by omega, w5, ?_, fun k p h1 h2 h3 => ?_⟩, ?_⟩
      · rcases w6 with w6 | w6
        · rw [w6]; exact hw1
        · exact Or.inr w6
      · cases k with
        | zero => omega
        | succ k =>
          rw [anc_s, hM, Nat.div_one] at h2
          have := w7 k p (by omega) h2 (by rw [show s + 1 + k = s + (k + 1) by omega]; exact h3)
          omega
      · apply sg_19
        rw [g] at e21
        simp (disch := omega) only [e21, h5, em, eV_at, eV_up, o_lit2, o_add, o_sub, o_mul, o_neg, o_div, o_nat, ix_t, o_lt, o_le, o_eq, o_bi0, o_bi1, o_bib, em_t, o_neg1, o_shl, o_tb, o_tb0, o_tt, o_and, o_xor, o_or, o_max, o_min, an_tb, and_true, true_and, not_true, not_false, if_true, if_false, tn_add, tn_mul, Int.reduceToNat, tn_cast, md_x]
        rw [if_pos (by omega)]
        exact ⟨_, w8, rfl⟩
    · have hM : mm (mN B) s = mN B s := if_neg g
      rw [hM] at hpr
      obtain ⟨r, ⟨W, f', w1, w2, w3, w4, hre⟩, hr⟩ := loopE (g := GW L xs) (d := d + 5 + (n + 1)) (mid := 19) (σ := (Nat → Nat → Int) × Nat) (fun j σ => (42, [.ref 83, (Value.int (Int32.ofInt (s))), (Value.int (Int32.ofInt (dd))), (Value.int (Int32.ofInt (j)))], [], zS (eV σ.1) J tg)) (fun j σ => Qy B σ.1 ∧ (∀ t, t < s → σ.1 84 t = V 84 t) ∧ σ.1 83 5 = (σ.2 : Nat) ∧ (f1 ≤ σ.2 ∧ σ.2 ≤ 6) ∧ wit B dd f σ.2 ∧ ∀ j' k p, j' < j → s + 1 + k ≤ 6 → anc (mN B) (s + 1) k p = P * mN B s + j' → dd ≤ vv (mN B) (gN B) (s + 1 + k) p → s + 1 + k ≤ σ.2) (fun r => ∃ W f', Qy B W ∧ (∀ t, t < s → W 84 t = V 84 t) ∧ W 83 5 = (f' : Nat) ∧ adv B dd s P f f' ∧ r = (none, zS (eV W) J tg)) (mN B s) (by
        intro j ⟨W, f2⟩ hj ⟨qW, i2, i3, i4, i5, i6⟩
        dsimp only at qW i2 i3 i4 i5 i6 ⊢
        have e21 : W 21 s = (mN B s : Nat) := by rw [qW.1 21 (by omega)]; exact mN_eq hI.1 s
        by_cases c6 : f2 = 6
        · right
          refine ⟨_, ⟨W, f2, qW, i2, i3, ⟨by omega, by omega, i5, fun k p h _ _ => by omega⟩, rfl⟩, ?_⟩
          apply sg_19_42
          simp (disch := omega) only [e21, i3, eV_at, eV_up, o_lit2, o_add, o_sub, o_mul, o_neg, o_div, o_nat, ix_t, o_lt, o_le, o_eq, o_bi0, o_bi1, o_bib, em_t, o_neg1, o_shl, o_tb, o_tb0, o_tt, o_and, o_xor, o_or, o_max, o_min, an_tb, and_true, true_and, not_true, not_false, if_true, if_false, tn_add, tn_mul, Int.reduceToNat, tn_cast, md_x]
          rw [if_neg (by omega), if_pos (by omega)] <;> first | rfl | trivial
        · left
          obtain ⟨d1, d2⟩ := dv_m (p := P) hj
          have pdl : ∀ t, t < s → pd (mN B) (s + 1) (P * mN B s + j) t = pd (mN B) s P t := fun t ht => by rw [pd_lt ht, hM, d1]
          have pde : pd (mN B) (s + 1) (P * mN B s + j) s = j := by rw [pd_eq, hM, d2]
          have hA : ∀ c, c ≠ 84 → (up2 W 84 s (B 20 (s * 4 + j))) c = W c := fun c hc => w_ne _ _ _ _ hc
          have qA : Qy B (up2 W 84 s (B 20 (s * 4 + j))) := qW.cl fun c _ q2 => hA c (by omega)
          obtain ⟨X, x1, x2, x3⟩ := k_17 (L := L) (xs := xs) (J := J) (tg := tg) (d := d + 1 + n) hI qA (s := s) (P := P * mN B s + j) (by omega) (fun t ht hmt => by
            rw [w_at]
            by_cases et : t = s
            · rw [if_pos et, et, pde]
            · rw [if_neg et, i2 t (by omega), pdl t (by omega)]; exact h84 t (by omega) (hmt (by omega)))
          have qX : Qy B X := qA.ca (fun c _ q2 => x1 c (by omega)) x2
          have hnb := nbk_rg (m := mN B) hG s (P * mN B s + j) s
          have hvP := hvs (P * mN B s + j)
          rw [if_neg g, d1] at hvP
          have h835 : X 83 5 = (f2 : Nat) := by rw [x1 83 (by omega), hA 83 (by decide)]; exact i3
          have h84X : ∀ t, t < s → X 84 t = V 84 t := fun t ht => by rw [x1 84 (by omega), w_at, if_neg (by omega)]; exact i2 t ht
          have e20 : W 20 (s * 4 + j) = B 20 (s * 4 + j) := by rw [qW.1 20 (by omega)]
          have dep : d + 1 + n + 4 = d + 5 + n := by omega
          rw [dep] at x3
          by_cases c1 : nbk (mN B) (gN B) s (P * mN B s + j) s < dd
          · refine ⟨(X, f2), ⟨qX, h84X, h835, i4, i5, fun j' k p h1 h2 h3 h4 => ?_⟩, fun r hr => ?_⟩
            · by_cases ej : j' = j
              · subst ej
                have := vv_anc (m := mN B) (G := gN B) (s := s + 1) (k := k) (p := p)
                rw [h3] at this
                omega
              · exact i6 j' k p (by omega) h2 h3 h4
            · apply sg_19_42
              simp (disch := omega) only [e21, e20, i3, eV_at, eV_up, o_lit2, o_add, o_sub, o_mul, o_neg, o_div, o_nat, ix_t, o_lt, o_le, o_eq, o_bi0, o_bi1, o_bib, em_t, o_neg1, o_shl, o_tb, o_tb0, o_tt, o_and, o_xor, o_or, o_max, o_min, an_tb, and_true, true_and, not_true, not_false, if_true, if_false, tn_add, tn_mul, Int.reduceToNat, tn_cast, md_x]
              rw [if_neg (by omega), if_neg (by omega)]
              refine ⟨_, _, x3, ?_⟩
              simp (disch := omega) only [eV_at, eV_up, o_lit2, o_add, o_sub, o_mul, o_neg, o_div, o_nat, ix_t, o_lt, o_le, o_eq, o_bi0, o_bi1, o_bib, em_t, o_neg1, o_shl, o_tb, o_tb0, o_tt, o_and, o_xor, o_or, o_max, o_min, an_tb, and_true, true_and, not_true, not_false, if_true, if_false, tn_add, tn_mul, Int.reduceToNat, tn_cast, md_x]
              rw [if_pos c1]
              exact hr
          · obtain ⟨Y, f3, y1, y2, y3, ⟨y4, y5, y6, y7⟩, y8⟩ := k_19 hI hdd n (s := s + 1) (P := P * mN B s + j) (f := f2) (V := X) (by omega) qX (fun t ht hmt => by
              by_cases et : t = s
              · rw [et, pde, x1 84 (by omega), w_eq]
              · rw [pdl t (by omega), h84X t (by omega)]; exact h84 t (by omega) hmt) (by omega) (by
                rw [hpr]
                have h1 : (P + 1) * mN B s ≤ pr (mN B) s * mN B s := Nat.mul_le_mul_right _ hP
                rw [Nat.succ_mul] at h1
                omega) h835 (by omega)
            refine ⟨(Y, f3), ⟨y1, fun t ht => by dsimp only; rw [y2 t (by omega)]; exact h84X t ht, y3, by dsimp only; omega, ?_, fun j' k p h1 h2 h3 h4 => ?_⟩, fun r hr => ?_⟩
            · rcases y6 with y6 | y6
              · dsimp only; rw [y6]; exact i5
              · exact Or.inr y6
            · by_cases ej : j' = j
              · subst ej; exact y7 k p h2 h3 h4
              · have := i6 j' k p (by omega) h2 h3 h4
                dsimp only; omega
            · apply sg_19_42
              simp (disch := omega) only [e21, e20, i3, eV_at, eV_up, o_lit2, o_add, o_sub, o_mul, o_neg, o_div, o_nat, ix_t, o_lt, o_le, o_eq, o_bi0, o_bi1, o_bib, em_t, o_neg1, o_shl, o_tb, o_tb0, o_tt, o_and, o_xor, o_or, o_max, o_min, an_tb, and_true, true_and, not_true, not_false, if_true, if_false, tn_add, tn_mul, Int.reduceToNat, tn_cast, md_x]
              rw [if_neg (by omega), if_neg (by omega)]
              refine ⟨_, _, x3, ?_⟩
              simp (disch := omega) only [eV_at, eV_up, o_lit2, o_add, o_sub, o_mul, o_neg, o_div, o_nat, ix_t, o_lt, o_le, o_eq, o_bi0, o_bi1, o_bib, em_t, o_neg1, o_shl, o_tb, o_tb0, o_tt, o_and, o_xor, o_or, o_max, o_min, an_tb, and_true, true_and, not_true, not_false, if_true, if_false, tn_add, tn_mul, Int.reduceToNat, tn_cast, md_x]
              rw [if_neg c1]
              exact ⟨_, y8, hr⟩) (by
        intro ⟨W, f2⟩ ⟨qW, i2, i3, i4, i5, i6⟩
        dsimp only at qW i2 i3 i4 i5 i6 ⊢
        have e21 : W 21 s = (mN B s : Nat) := by rw [qW.1 21 (by omega)]; exact mN_eq hI.1 s
        refine ⟨_, ⟨W, f2, qW, i2, i3, ⟨by omega, by omega, i5, fun k p h1 h2 h3 => ?_⟩, rfl⟩, ?_⟩
        · cases k with
          | zero => omega
          | succ k =>
            rw [anc_s, hM] at h2
            have hmp : 0 < mN B s := by omega
            have := i6 (anc (mN B) (s + 1) k p % mN B s) k p (Nat.mod_lt _ hmp) (by omega) (by rw [← h2, Nat.mul_comm]; exact (Nat.div_add_mod _ _).symm) (by rw [show s + 1 + k = s + (k + 1) by omega]; exact h3)
            omega
        · apply sg_19_42
          simp (disch := omega) only [e21, eV_at, eV_up, o_lit2, o_add, o_sub, o_mul, o_neg, o_div, o_nat, ix_t, o_lt, o_le, o_eq, o_bi0, o_bi1, o_bib, em_t, o_neg1, o_shl, o_tb, o_tb0, o_tt, o_and, o_xor, o_or, o_max, o_min, an_tb, and_true, true_and, not_true, not_false, if_true, if_false, tn_add, tn_mul, Int.reduceToNat, tn_cast, md_x]
          rw [if_pos (by omega)] <;> first | rfl | trivial) (mN B s) 0 (up2 V 83 5 f1, f1) (by omega) ⟨qA, fun t _ => by dsimp only; rw [w_nc _ _ _ _ (by decide)], by dsimp only; exact w_eq _ _ _ _, by dsimp only; omega, hw1, fun j' k p h => by omega⟩
      subst hre
      refine ⟨W, f', w1, w2, w3, w4, ?_⟩
      apply sg_19
      simp (disch := omega) only [e21, h5, em, eV_at, eV_up, o_lit2, o_add, o_sub, o_mul, o_neg, o_div, o_nat, ix_t, o_lt, o_le, o_eq, o_bi0, o_bi1, o_bib, em_t, o_neg1, o_shl, o_tb, o_tb0, o_tt, o_and, o_xor, o_or, o_max, o_min, an_tb, and_true, true_and, not_true, not_false, if_true, if_false, tn_add, tn_mul, Int.reduceToNat, tn_cast, md_x]
      rw [if_pos (by omega), if_neg (by omega)]
      exact hr
/-- barredSlot -/
theorem k_18 (hI : INV B) (q : Qy B V) {dd : Int} (hdd : 1 ≤ dd ∧ dd ≤ 999) : ∃ W f, Qy B W ∧ f ≤ 6 ∧ (∃ p, p < pr (mN B) f ∧ dd ≤ vv (mN B) (gN B) f p) ∧ (∀ x p, x ≤ 6 → p < pr (mN B) x → dd ≤ vv (mN B) (gN B) x p → x ≤ f) ∧ Runs (GW L xs) (d + 12) 18 (0, [.ref 83, (Value.int (Int32.ofInt (dd)))], [], zS (eV (V)) J tg) (some (Value.int (Int32.ofInt (if f < 6 then (f : Int) else -1))), zS (eV (W)) J tg) := by
  have hm := mN_le hI.1
  have qA : Qy B (up2 V 83 5 (0 : Nat)) := q.cl fun c _ q2 => w_ne _ _ _ _ (by omega)
  obtain ⟨W, f, w1, w2, w3, ⟨w4, w5, w6, w7⟩, w8⟩ := k_19 (L := L) (xs := xs) (J := J) (tg := tg) (d := d) hI hdd 6 (s := 0) (P := 0) (f := 0) (V := up2 V 83 5 (0 : Nat)) (by omega) qA (fun t ht => by omega) (by show dd ≤ (1000000 : Int); omega) Nat.one_pos (w_eq _ _ _ _) (by omega)
  refine ⟨W, f, w1, w5, ?_, fun x p h1 h2 h3 => ?_, ?_⟩
  · rcases w6 with w6 | w6
    · rw [w6]; exact ⟨0, Nat.one_pos, by show dd ≤ (1000000 : Int); omega⟩
    · exact w6
  · have h0 : anc (mN B) 0 x p < pr (mN B) 0 := anc_lt hm (by rw [Nat.zero_add]; exact h2)
    have h0' : anc (mN B) 0 x p < 1 := h0
    have := w7 x p (by omega) (by omega) (by rw [Nat.zero_add]; exact h3)
    omega
  · apply sg_18
    refine ⟨_, by rw [show (up2 (eV V) 83 5 0) = eV (up2 V 83 5 (0 : Nat)) from eV_up V 83 5 (0 : Nat)]; exact w8, ?_⟩
    simp (disch := omega) only [w3, eV_at, eV_up, o_lit2, o_add, o_sub, o_mul, o_neg, o_div, o_nat, ix_t, o_lt, o_le, o_eq, o_bi0, o_bi1, o_bib, em_t, o_neg1, o_shl, o_tb, o_tb0, o_tt, o_and, o_xor, o_or, o_max, o_min, an_tb, and_true, true_and, not_true, not_false, if_true, if_false, tn_add, tn_mul, Int.reduceToNat, tn_cast, md_x]
    by_cases c : f < 6
    · rw [if_pos c, if_pos (by omega)]
    · rw [if_neg c, if_neg (by omega)]
end CB
