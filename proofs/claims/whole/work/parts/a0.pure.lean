/-! mended: one change after the other. -/
section MD
variable {L d : Nat} {xs : Nat → Int32} {B V : Nat → Nat → Int} {J : Nat → Nat → Int64} {tg : Option Nat}
/-- one change in the class -/
theorem k_10s (hI : INV B) {dr ot k c : Nat} {dd : Int} (hd : dr < 12) (hot : ot < 12) (hdd : 1 ≤ dd ∧ dd ≤ 999) (hk : (k : Int) < B 3 dr) (hc : c < 14) {W : Nat → Nat → Int} (qW : Qy B W) (h7 : W 79 7 = dr) : (¬ mFd B dr ot dd k c ∧ ∃ X, (Qy B X ∧ X 79 7 = dr) ∧ Rch (GW L xs) (d + 5) 10 (25, [.ref 79, (Value.int (Int32.ofInt (dr))), (Value.int (Int32.ofInt (ot))), (Value.int (Int32.ofInt (dd))), (Value.int (Int32.ofInt (k))), (Value.int (Int32.ofInt (c))), vU], [], zS (eV W) J tg) (25, [.ref 79, (Value.int (Int32.ofInt (dr))), (Value.int (Int32.ofInt (ot))), (Value.int (Int32.ofInt (dd))), (Value.int (Int32.ofInt (k))), (Value.int (Int32.ofInt ((c + 1 : Nat)))), vU], [], zS (eV X) J tg)) ∨ (mFd B dr ot dd k c ∧ ∃ X, Qy B X ∧ (X 82 0 = k ∧ X 82 1 = mty c ∧ X 82 2 = mvl c ∧ X 82 3 = mfr B dr ot k c) ∧ Runs (GW L xs) (d + 5) 10 (25, [.ref 79, (Value.int (Int32.ofInt (dr))), (Value.int (Int32.ofInt (ot))), (Value.int (Int32.ofInt (dd))), (Value.int (Int32.ofInt (k))), (Value.int (Int32.ofInt (c))), vU], [], zS (eV W) J tg) (some (Value.int (Int32.ofInt (1))), zS (eV X) J tg)) := by
  obtain ⟨A, a1, a2, a3, a4⟩ := k_11 (L := L) (xs := xs) (J := J) (tg := tg) (d := d + 3) hI qW hd h7 hk hc
  have qA : Qy B A := qW.cl fun x _ q2 => a1 x (by omega) (by omega)
  have hA7 : A 79 7 = dr := by rw [a1 79 (by decide) (by decide)]; exact h7
  rcases a4 with ⟨b1, b2, b3⟩ | ⟨b1, b3⟩
  · have hok := mls_ok hI.1 dr k c
    obtain ⟨X, x1, x2, x3, x4⟩ := k_12 (L := L) (xs := xs) (J := J) (tg := tg) (d := d) hI qA (ot := ot) (dd := dd) hd hA7 hot (by omega) hok b2
    have x3 : X 82 3 = mfr B dr ot k c := x3
    have x4 : Runs (GW L xs) (d + 4) 12 (0, [.ref 79, (Value.int (Int32.ofInt ((mls B dr k c).length))), (Value.int (Int32.ofInt (ot))), (Value.int (Int32.ofInt (dd)))], [], zS (eV (A)) J tg) (some (Value.int (Int32.ofInt (bi (dd ≤ mfr B dr ot k c ∧ ¬ smG B 5 0 (fct B dr (mls B dr k c).length (lf (mls B dr k c))) = true)))), zS (eV (X)) J tg) := x4
    have qX : Qy B X := qA.cl fun x q1 q2 => x1 x q1 (by omega) (by omega)
    have hl6 := hok.1
    by_cases g : dd ≤ mfr B dr ot k c ∧ ¬ smG B 5 0 (fct B dr (mls B dr k c).length (lf (mls B dr k c))) = true
    · refine Or.inr ⟨⟨b1, g⟩, up2 X 82 0 k, qX.cl fun x _ q2 => w_ne _ _ _ _ (by omega), ⟨w_eq _ _ _ _, by rw [w_at, if_neg (by decide), x2 1 (by decide)]; exact a2, by rw [w_at, if_neg (by decide), x2 2 (by decide)]; exact a3, by rw [w_at, if_neg (by decide)]; exact x3⟩, ?_⟩
      apply sg_10_25
      simp (disch := omega) only [eV_at, eV_up, o_lit2, o_add, o_sub, o_mul, o_neg, o_div, o_nat, ix_t, o_lt, o_le, o_eq, o_bi0, o_bi1, o_bib, em_t, o_neg1, o_shl, o_tb, o_tb0, o_tt, o_and, o_xor, o_or, o_max, o_min, an_tb, and_true, true_and, not_true, not_false, if_true, if_false, tn_add, tn_mul, Int.reduceToNat, tn_cast, md_x]
      rw [if_neg (by omega)]
      refine ⟨_, _, b3, ?_⟩
      simp (disch := omega) only [eV_at, eV_up, o_lit2, o_add, o_sub, o_mul, o_neg, o_div, o_nat, ix_t, o_lt, o_le, o_eq, o_bi0, o_bi1, o_bib, em_t, o_neg1, o_shl, o_tb, o_tb0, o_tt, o_and, o_xor, o_or, o_max, o_min, an_tb, and_true, true_and, not_true, not_false, if_true, if_false, tn_add, tn_mul, Int.reduceToNat, tn_cast, md_x]
      rw [if_neg (by omega)]
      refine ⟨_, _, x4, ?_⟩
      rw [if_neg (b0o_f g), eV_up]
    · refine Or.inl ⟨fun h => g h.2, X, ⟨qX, by rw [x1 79 (by decide) (by decide) (by decide)]; exact hA7⟩, fun r hr => ?_⟩
      apply sg_10_25
      simp (disch := omega) only [eV_at, eV_up, o_lit2, o_add, o_sub, o_mul, o_neg, o_div, o_nat, ix_t, o_lt, o_le, o_eq, o_bi0, o_bi1, o_bib, em_t, o_neg1, o_shl, o_tb, o_tb0, o_tt, o_and, o_xor, o_or, o_max, o_min, an_tb, and_true, true_and, not_true, not_false, if_true, if_false, tn_add, tn_mul, Int.reduceToNat, tn_cast, md_x]
      rw [if_neg (by omega)]
      refine ⟨_, _, b3, ?_⟩
      simp (disch := omega) only [eV_at, eV_up, o_lit2, o_add, o_sub, o_mul, o_neg, o_div, o_nat, ix_t, o_lt, o_le, o_eq, o_bi0, o_bi1, o_bib, em_t, o_neg1, o_shl, o_tb, o_tb0, o_tt, o_and, o_xor, o_or, o_max, o_min, an_tb, and_true, true_and, not_true, not_false, if_true, if_false, tn_add, tn_mul, Int.reduceToNat, tn_cast, md_x]
      rw [if_neg (by omega)]
      refine ⟨_, _, x4, ?_⟩
      rw [if_pos (b0o_t g)]
      exact hr
  · refine Or.inl ⟨fun h => b1 h.1, A, ⟨qA, hA7⟩, fun r hr => ?_⟩
    apply sg_10_25
    simp (disch := omega) only [eV_at, eV_up, o_lit2, o_add, o_sub, o_mul, o_neg, o_div, o_nat, ix_t, o_lt, o_le, o_eq, o_bi0, o_bi1, o_bib, em_t, o_neg1, o_shl, o_tb, o_tb0, o_tt, o_and, o_xor, o_or, o_max, o_min, an_tb, and_true, true_and, not_true, not_false, if_true, if_false, tn_add, tn_mul, Int.reduceToNat, tn_cast, md_x]
    rw [if_neg (by omega)]
    refine ⟨_, _, b3, ?_⟩
    simp (disch := omega) only [eV_at, eV_up, o_lit2, o_add, o_sub, o_mul, o_neg, o_div, o_nat, ix_t, o_lt, o_le, o_eq, o_bi0, o_bi1, o_bib, em_t, o_neg1, o_shl, o_tb, o_tb0, o_tt, o_and, o_xor, o_or, o_max, o_min, an_tb, and_true, true_and, not_true, not_false, if_true, if_false, tn_add, tn_mul, Int.reduceToNat, tn_cast, md_x]
    exact hr
/-- where the class stands ahead of change i -/
def h10 (dr ot : Nat) (dd : Int) (J : Nat → Nat → Int64) (tg : Option Nat) (i : Nat) (W : Nat → Nat → Int) : Cfg := if i % 14 = 0 then (8, [.ref 79, (Value.int (Int32.ofInt (dr))), (Value.int (Int32.ofInt (ot))), (Value.int (Int32.ofInt (dd))), (Value.int (Int32.ofInt ((i / 14 : Nat)))), vU, vU], [], zS (eV W) J tg) else (25, [.ref 79, (Value.int (Int32.ofInt (dr))), (Value.int (Int32.ofInt (ot))), (Value.int (Int32.ofInt (dd))), (Value.int (Int32.ofInt ((i / 14 : Nat)))), (Value.int (Int32.ofInt ((i % 14 : Nat)))), vU], [], zS (eV W) J tg)
theorem k_10h (hI : INV B) {dr ot : Nat} {dd : Int} (hd : dr < 12) {i : Nat} (hi : (i / 14 : Nat) < B 3 dr) {W : Nat → Nat → Int} (qW : Qy B W) : Rch (GW L xs) (d + 5) 10 (h10 dr ot dd J tg i W) (25, [.ref 79, (Value.int (Int32.ofInt (dr))), (Value.int (Int32.ofInt (ot))), (Value.int (Int32.ofInt (dd))), (Value.int (Int32.ofInt ((i / 14 : Nat)))), (Value.int (Int32.ofInt ((i % 14 : Nat)))), vU], [], zS (eV W) J tg) := by
  intro r hr
  have r3 : 0 ≤ B 3 dr ∧ B 3 dr ≤ 6 := hI.1 3 dr (by decide) (by decide)
  unfold h10
  by_cases c : i % 14 = 0
  · rw [if_pos c]
    rw [c] at hr
    apply sg_10_8
    have e3 : W 3 dr = B 3 dr := by rw [qW.1 3 (by omega)]
    simp (disch := omega) only [e3, eV_at, eV_up, o_lit2, o_add, o_sub, o_mul, o_neg, o_div, o_nat, ix_t, o_lt, o_le, o_eq, o_bi0, o_bi1, o_bib, em_t, o_neg1, o_shl, o_tb, o_tb0, o_tt, o_and, o_xor, o_or, o_max, o_min, an_tb, and_true, true_and, not_true, not_false, if_true, if_false, tn_add, tn_mul, Int.reduceToNat, tn_cast, md_x]
    rw [if_neg (by omega)]
    exact hr
  · rw [if_neg c]; exact hr
theorem k_10n {dr ot : Nat} {dd : Int} {i : Nat} {W : Nat → Nat → Int} : Rch (GW L xs) (d + 5) 10 (25, [.ref 79, (Value.int (Int32.ofInt (dr))), (Value.int (Int32.ofInt (ot))), (Value.int (Int32.ofInt (dd))), (Value.int (Int32.ofInt ((i / 14 : Nat)))), (Value.int (Int32.ofInt ((i % 14 + 1 : Nat)))), vU], [], zS (eV W) J tg) (h10 dr ot dd J tg (i + 1) W) := by
  intro r hr
  unfold h10 at hr
  by_cases c : (i + 1) % 14 = 0
  · rw [if_pos c] at hr
    have e1 : i % 14 + 1 = 14 := by omega
    have e2 : (i + 1) / 14 = i / 14 + 1 := by omega
    rw [e2] at hr
    rw [e1]
    apply sg_10_25
    rw [if_pos (by decide)]
    simp (disch := omega) only [eV_at, eV_up, o_lit2, o_add, o_sub, o_mul, o_neg, o_div, o_nat, ix_t, o_lt, o_le, o_eq, o_bi0, o_bi1, o_bib, em_t, o_neg1, o_shl, o_tb, o_tb0, o_tt, o_and, o_xor, o_or, o_max, o_min, an_tb, and_true, true_and, not_true, not_false, if_true, if_false, tn_add, tn_mul, Int.reduceToNat, tn_cast, md_x]
    exact hr
  · rw [if_neg c] at hr
    have e1 : (i + 1) % 14 = i % 14 + 1 := by omega
    have e2 : (i + 1) / 14 = i / 14 := by omega
    rw [e1, e2] at hr
    exact hr
theorem k_10 (hI : INV B) (q : Qy B V) {dr ot : Nat} {dd : Int} (hd : dr < 12) (hot : ot < 12) (hdd : 1 ≤ dd ∧ dd ≤ 999) : (∀ N, N ≤ 14 * (B 3 dr).toNat → (∀ j, j < N → ¬ mFd B dr ot dd (j / 14) (j % 14)) → ∃ X, (Qy B X ∧ X 79 7 = dr) ∧ Rch (GW L xs) (d + 5) 10 (0, [.ref 79, (Value.int (Int32.ofInt (dr))), (Value.int (Int32.ofInt (ot))), (Value.int (Int32.ofInt (dd))), vU, vU, vU], [], zS (eV V) J tg) (h10 dr ot dd J tg N X)) := by
  intro N hN hno
  have r3 : 0 ≤ B 3 dr ∧ B 3 dr ≤ 6 := hI.1 3 dr (by decide) (by decide)
  obtain ⟨X, hX, hr⟩ := loopN (g := GW L xs) (d := d + 5) (mid := 10) (σ := Nat → Nat → Int) (fun i W => h10 dr ot dd J tg i W) (fun i W => Qy B W ∧ W 79 7 = dr) N (by
    intro i W hi ⟨qW, h7⟩
    rcases k_10s (L := L) (xs := xs) (J := J) (tg := tg) (d := d) hI (dr := dr) (ot := ot) (k := i / 14) (c := i % 14) hd hot hdd (by omega) (by omega) qW h7 with ⟨g, X, hX, hr⟩ | ⟨g, -⟩
    · exact ⟨X, hX, ((k_10h hI hd (by omega) qW).tr hr).tr k_10n⟩
    · exact absurd g (hno i hi)) N 0 (up2 V 79 7 dr) (by omega) ⟨q.cl fun x _ q2 => w_ne _ _ _ _ (by omega), w_eq _ _ _ _⟩
  refine ⟨X, hX, fun r h => ?_⟩
  apply sg_10
  rw [eV_up]
  exact hr r h
/-- isMended -/
theorem m_295 (hI : INV B) (q : Qy B V) {dr ot k c : Nat} {dd : Int} (hd : (dr : Int) < B 1 0) (hot : (ot : Int) < B 1 0) (hdd : 1 ≤ dd ∧ dd ≤ 999) (hk : (k : Int) < B 3 dr) (hc : c < 14) : ∃ W J2, Qy B W ∧ (mFd B dr ot dd k c → W 93 39 = mfr B dr ot k c) ∧ ((mFd B dr ot dd k c ∧ Runs (GW L xs) (d + 6) 295 (0, [.ref 93, (Value.int (Int32.ofInt (dr))), (Value.int (Int32.ofInt (ot))), (Value.int (Int32.ofInt (k))), (Value.int (Int32.ofInt (mby (lkc B dr k) c))), (Value.int (Int32.ofInt (dd))), vU], [], zS (eV (V)) (J) tg) (some (Value.int (Int32.ofInt (1))), zS (eV (W)) (J2) tg)) ∨ (¬ mFd B dr ot dd k c ∧ Runs (GW L xs) (d + 6) 295 (0, [.ref 93, (Value.int (Int32.ofInt (dr))), (Value.int (Int32.ofInt (ot))), (Value.int (Int32.ofInt (k))), (Value.int (Int32.ofInt (mby (lkc B dr k) c))), (Value.int (Int32.ofInt (dd))), vU], [], zS (eV (V)) (J) tg) (some (Value.int (Int32.ofInt (0))), zS (eV (W)) (J2) tg))) := by
  have rD : 0 ≤ B 1 0 ∧ B 1 0 ≤ 12 := hI.1 1 0 (by decide) (by decide)
  have r3 : 0 ≤ B 3 dr ∧ B 3 dr ≤ 6 := hI.1 3 dr (by decide) (by decide)
  obtain ⟨n, hn⟩ : ∃ n : Nat, B 3 dr = n := ⟨(B 3 dr).toNat, by omega⟩
  have hkr := lkc_rg hI.1 dr k
  have hbr : -1 ≤ mby (lkc B dr k) c ∧ mby (lkc B dr k) c < 180 ∧ (mby (lkc B dr k) c < 0 ↔ c = 13) := by
    by_cases h : c < 13
    · have := mby_rg hkr h; omega
    · unfold mby; rw [if_neg (by omega), if_neg h]; omega
  have h184 : ∀ (W : Nat → Nat → Int) (J : Nat → Nat → Int64), Qy B W → (Runs (GW L xs) (d + 5) 184 (0, [.ref 93, (Value.int (Int32.ofInt (dr))), .int 0], [], zS (eV (W)) J tg) (some (Value.int (Int32.ofInt (n))), zS (eV (W)) J tg)) ∧ ∀ i, i < n → Runs (GW L xs) (d + 5) 184 (0, [.ref 93, (Value.int (Int32.ofInt (dr))), (Value.int (Int32.ofInt ((4 + i : Nat))))], [], zS (eV (W)) J tg) (some (Value.int (Int32.ofInt (lkc B dr i))), zS (eV (W)) J tg) := fun W J qW => by
    obtain ⟨⟨-, -, c0, -, -, c4⟩, -, -⟩ := LKm_of hI qW hd
    have k0 := k_184 (L := L) (xs := xs) (J := J) (tg := tg) (d := d + 5) (V := W) (l := dr) (w := 0) (by omega)
    rw [c0, hn, tn_cast] at k0
    refine ⟨k0, fun i hi => ?_⟩
    have k1 := k_184 (L := L) (xs := xs) (J := J) (tg := tg) (d := d + 5) (V := W) (l := dr) (w := 4 + i) (by omega)
    rw [(c4 i (by omega)).1] at k1
    exact k1
  have k188 : c < 13 → Runs (GW L xs) (d + 5) 188 (0, [.ref 93, (Value.int (Int32.ofInt (dr))), (Value.int (Int32.ofInt (mby (lkc B dr k) c))), vU], [], zS (eV (V)) J tg) (some (Value.int (Int32.ofInt (bi (inL (lkc B dr) (mby (lkc B dr k) c) n = true)))), zS (eV (V)) J tg) := fun _ => by
    obtain ⟨⟨-, -, c0, -, -, c4⟩, -, -⟩ := LKm_of hI q hd
    rw [hn, tn_cast] at c0 c4
    have k1 := k_188 (L := L) (xs := xs) (J := J) (tg := tg) (d := d + 4) (V := V) (l := dr) (n := n) (v := mby (lkc B dr k) c) (by omega) c0 (by omega) (by omega) (fun i hi => by rw [(c4 i hi).1]; have := lkc_rg hI.1 dr i; omega)
    rw [inL_cg (g := lkc B dr) (fun i hi => (c4 i hi).1)] at k1
    exact k1
  have elg : mlg B dr k c ↔ (c = 13 ∨ ¬ inL (lkc B dr) (mby (lkc B dr k) c) n = true) := by unfold mlg; rw [hn, tn_cast]
  have els : mls B dr k c = mL (lkc B dr) k (mby (lkc B dr k) c) n := by unfold mls; rw [hn, tn_cast]
  have hok := mls_ok hI.1 dr k c
  by_cases lg : mlg B dr k c
  · obtain ⟨A, a1, a2, a3, a4⟩ := m_257 (L := L) (xs := xs) (J := J) (tg := tg) (d := d + 4) hI q hd
    have qA : Qy B A := q.tf ⟨fun c _ q2 _ _ => a1 c q2, a2⟩
    obtain ⟨X, ⟨qX, hLX⟩, hrX⟩ := loopN (g := GW L xs) (d := d + 6) (mid := 295) (σ := Nat → Nat → Int) (fun i X => (25, [.ref 93, (Value.int (Int32.ofInt (dr))), (Value.int (Int32.ofInt (ot))), (Value.int (Int32.ofInt (k))), (Value.int (Int32.ofInt (mby (lkc B dr k) c))), (Value.int (Int32.ofInt (dd))), (Value.int (Int32.ofInt (i)))], [], zS (eV X) J tg)) (fun i X => Qy B X ∧ LKm B X 24 dr (mL (lkc B dr) k (mby (lkc B dr k) c) i).length (lf (mL (lkc B dr) k (mby (lkc B dr k) c) i))) n (by
      intro i X hi ⟨qX, hLX⟩
      obtain ⟨x0, x1⟩ := h184 X J qX
      have x1 := x1 i hi
      have hlen := mL_le (p := lkc B dr) (k := k) (b := mby (lkc B dr k) c) i
      have hs := mL_s (p := lkc B dr) (k := k) (b := mby (lkc B dr k) c) (i := i)
      have rk := lkc_rg hI.1 dr i
      generalize mL (lkc B dr) k (mby (lkc B dr k) c) i = ls at hLX hlen hs
      by_cases e : i = k
      · rw [if_pos e] at hs
        by_cases g : 0 ≤ mby (lkc B dr k) c
        · rw [if_pos g] at hs
          obtain ⟨Y, y1, y2, y3, y4⟩ := m_189 (L := L) (xs := xs) (J := J) (tg := tg) (d := d + 5) hLX (by omega) (v := mby (lkc B dr k) c) (by omega)
          rw [hs]
          refine ⟨Y, ⟨qX.tf ⟨fun c _ q2 _ _ => y1 c q2, y2⟩, y3⟩, fun r hr => ?_⟩
          apply sg_295_25
          refine ⟨_, _, _, x0, ?_⟩
          simp (disch := omega) only [eV_at, eV_up, o_lit2, o_add, o_sub, o_mul, o_neg, o_div, o_nat, ix_t, o_lt, o_le, o_eq, o_bi0, o_bi1, o_bib, em_t, o_neg1, o_shl, o_tb, o_tb0, o_tt, o_and, o_xor, o_or, o_max, o_min, an_tb, and_true, true_and, not_true, not_false, if_true, if_false, tn_add, tn_mul, Int.reduceToNat, tn_cast, md_x]
          rw [if_neg (by omega), if_pos (by omega), if_neg (by omega)]
          exact ⟨_, _, y4, hr⟩
        · rw [if_neg g] at hs
          rw [hs]
          refine ⟨X, ⟨qX, hLX⟩, fun r hr => ?_⟩
          apply sg_295_25
          refine ⟨_, _, _, x0, ?_⟩
          simp (disch := omega) only [eV_at, eV_up, o_lit2, o_add, o_sub, o_mul, o_neg, o_div, o_nat, ix_t, o_lt, o_le, o_eq, o_bi0, o_bi1, o_bib, em_t, o_neg1, o_shl, o_tb, o_tb0, o_tt, o_and, o_xor, o_or, o_max, o_min, an_tb, and_true, true_and, not_true, not_false, if_true, if_false, tn_add, tn_mul, Int.reduceToNat, tn_cast, md_x]
          rw [if_neg (by omega), if_pos (by omega), if_pos (by omega)]
          exact hr
      · rw [if_neg e] at hs
        obtain ⟨Y, y1, y2, y3, y4⟩ := m_189 (L := L) (xs := xs) (J := J) (tg := tg) (d := d + 5) hLX (by omega) (v := lkc B dr i) rk
        rw [hs]
        refine ⟨Y, ⟨qX.tf ⟨fun c _ q2 _ _ => y1 c q2, y2⟩, y3⟩, fun r hr => ?_⟩
        apply sg_295_25
        refine ⟨_, _, _, x0, ?_⟩
        simp (disch := omega) only [eV_at, eV_up, o_lit2, o_add, o_sub, o_mul, o_neg, o_div, o_nat, ix_t, o_lt, o_le, o_eq, o_bi0, o_bi1, o_bib, em_t, o_neg1, o_shl, o_tb, o_tb0, o_tt, o_and, o_xor, o_or, o_max, o_min, an_tb, and_true, true_and, not_true, not_false, if_true, if_false, tn_add, tn_mul, Int.reduceToNat, tn_cast, md_x]
        rw [if_neg (by omega), if_neg (by omega)]
        exact ⟨_, _, _, x1, _, _, y4, hr⟩) n 0 A (by omega) ⟨qA, a3⟩
    rw [← els] at hLX
    have x0 := (h184 X J qX).1
    have hIX := hI.q qX
    have e1 : X 1 = B 1 := qX.1 1 (by omega)
    obtain ⟨Y, y1, y2⟩ := k_197 (L := L) (xs := xs) (J := J) (tg := tg) (d := d + 2) (V := X) (a := 24) (b := ot) (okW_of hIX.1 hIX.2.1.1) hLX.1 (okL_of hIX.1 hIX.2.1.2.1 (l := ot) (by left; rw [e1]; omega))
    rw [FARg_p hIX.1 hIX.2.1.1, FARp_fr e1 (qX.1 2 (by omega)) (qX.1 3 (by omega)) (qX.1 4 (by omega))] at y2
    have y2 : Runs (GW L xs) (d + 5) 197 (0, [.ref 93, (Value.int (Int32.ofInt (24))), (Value.int (Int32.ofInt (ot))), vU, vU, vU, vU, vU, vU, vU], [], zS (eV (X)) J tg) (some (Value.int (Int32.ofInt (mfr B dr ot k c))), zS (eV (Y)) J tg) := y2
    have hfr : -1188 ≤ mfr B dr ot k c ∧ mfr B dr ot k c ≤ 1287 := FARp_rg hI.1 hok.1 _ _ _
    have fY : MF X Y := fun c q1 _ _ => y1 c (by omega) (by omega)
    have qZ : Qy B (up2 Y 93 39 (mfr B dr ot k c)) := by
      have qY := qX.mf fY
      exact ⟨fun c h => by rw [w_ne _ _ _ _ (by omega)]; exact qY.1 c h, fun p h => by rw [w_ne _ _ _ _ (by omega)]; exact qY.2.1 p h, fun p h => by rw [w_at, if_neg (by omega)]; exact qY.2.2.1 p h, qY.2.2.2.up (w_ne _ _ _ _ (by omega)) (w_ne _ _ _ _ (by omega)) (w_ne _ _ _ _ (by omega)) (w_ne _ _ _ _ (by omega)) (w_ne _ _ _ _ (by omega)) (w_ne _ _ _ _ (by omega))⟩
    have hLZ : LKm B (up2 Y 93 39 (mfr B dr ot k c)) 24 dr (mls B dr k c).length (lf (mls B dr k c)) := hLX.fr (by rw [w_ne _ _ _ _ (by decide), y1 94 (by decide) (by decide)])
    have pre : ∀ r, Runs (GW L xs) (d + 6) 295 (25, [.ref 93, (Value.int (Int32.ofInt (dr))), (Value.int (Int32.ofInt (ot))), (Value.int (Int32.ofInt (k))), (Value.int (Int32.ofInt (mby (lkc B dr k) c))), (Value.int (Int32.ofInt (dd))), (Value.int (Int32.ofInt (n)))], [], zS (eV X) J tg) r → Runs (GW L xs) (d + 6) 295 (0, [.ref 93, (Value.int (Int32.ofInt (dr))), (Value.int (Int32.ofInt (ot))), (Value.int (Int32.ofInt (k))), (Value.int (Int32.ofInt (mby (lkc B dr k) c))), (Value.int (Int32.ofInt (dd))), vU], [], zS (eV V) J tg) r := fun r hr => by
      apply sg_295
      simp (disch := omega) only [eV_at, eV_up, o_lit2, o_add, o_sub, o_mul, o_neg, o_div, o_nat, ix_t, o_lt, o_le, o_eq, o_bi0, o_bi1, o_bib, em_t, o_neg1, o_shl, o_tb, o_tb0, o_tt, o_and, o_xor, o_or, o_max, o_min, an_tb, and_true, true_and, not_true, not_false, if_true, if_false, tn_add, tn_mul, Int.reduceToNat, tn_cast, md_x]
      by_cases g : mby (lkc B dr k) c < 0
      · rw [if_pos g]
        exact ⟨_, _, a4, hrX _ hr⟩
      · rw [if_neg g]
        refine ⟨_, _, _, k188 (by omega), ?_⟩
        rw [if_pos (b0o_t ((elg.mp lg).resolve_left (by omega)))]
        exact ⟨_, _, a4, hrX _ hr⟩
    by_cases g : dd ≤ mfr B dr ot k c
    · obtain ⟨E, J2, z1, z2⟩ := m_243 (L := L) (xs := xs) (J := J) (tg := tg) (d := d + 1) hI qZ hLZ
      refine ⟨E, J2, qZ.mf fun c _ q2 q3 => z1 c q2 q3, fun _ => by rw [z1 93 (by decide) (by decide), w_eq], ?_⟩
      by_cases g2 : ¬ smG B 5 0 (fct B dr (mls B dr k c).length (lf (mls B dr k c))) = true
      · refine Or.inl ⟨⟨lg, g, g2⟩, pre _ ?_⟩
        apply sg_295_25
        refine ⟨_, _, _, x0, ?_⟩
        simp (disch := omega) only [eV_at, eV_up, o_lit2, o_add, o_sub, o_mul, o_neg, o_div, o_nat, ix_t, o_lt, o_le, o_eq, o_bi0, o_bi1, o_bib, em_t, o_neg1, o_shl, o_tb, o_tb0, o_tt, o_and, o_xor, o_or, o_max, o_min, an_tb, and_true, true_and, not_true, not_false, if_true, if_false, tn_add, tn_mul, Int.reduceToNat, tn_cast, md_x]
        rw [if_pos (by omega)]
        refine ⟨_, _, _, y2, ?_⟩
        simp (disch := omega) only [eV_at, eV_up, o_lit2, o_add, o_sub, o_mul, o_neg, o_div, o_nat, ix_t, o_lt, o_le, o_eq, o_bi0, o_bi1, o_bib, em_t, o_neg1, o_shl, o_tb, o_tb0, o_tt, o_and, o_xor, o_or, o_max, o_min, an_tb, and_true, true_and, not_true, not_false, if_true, if_false, tn_add, tn_mul, Int.reduceToNat, tn_cast, md_x]
        rw [if_neg (by omega)]
        refine ⟨_, _, _, z2, ?_⟩
        rw [if_neg (b0o_f g2)]
      · refine Or.inr ⟨fun h => g2 h.2.2, pre _ ?_⟩
        apply sg_295_25
        refine ⟨_, _, _, x0, ?_⟩
        simp (disch := omega) only [eV_at, eV_up, o_lit2, o_add, o_sub, o_mul, o_neg, o_div, o_nat, ix_t, o_lt, o_le, o_eq, o_bi0, o_bi1, o_bib, em_t, o_neg1, o_shl, o_tb, o_tb0, o_tt, o_and, o_xor, o_or, o_max, o_min, an_tb, and_true, true_and, not_true, not_false, if_true, if_false, tn_add, tn_mul, Int.reduceToNat, tn_cast, md_x]
        rw [if_pos (by omega)]
        refine ⟨_, _, _, y2, ?_⟩
        simp (disch := omega) only [eV_at, eV_up, o_lit2, o_add, o_sub, o_mul, o_neg, o_div, o_nat, ix_t, o_lt, o_le, o_eq, o_bi0, o_bi1, o_bib, em_t, o_neg1, o_shl, o_tb, o_tb0, o_tt, o_and, o_xor, o_or, o_max, o_min, an_tb, and_true, true_and, not_true, not_false, if_true, if_false, tn_add, tn_mul, Int.reduceToNat, tn_cast, md_x]
        rw [if_neg (by omega)]
        refine ⟨_, _, _, z2, ?_⟩
        rw [if_pos (b0o_t g2)]
    · refine ⟨_, J, qZ, fun h => absurd h.2.1 g, Or.inr ⟨fun h => g h.2.1, pre _ ?_⟩⟩
      apply sg_295_25
      refine ⟨_, _, _, x0, ?_⟩
      simp (disch := omega) only [eV_at, eV_up, o_lit2, o_add, o_sub, o_mul, o_neg, o_div, o_nat, ix_t, o_lt, o_le, o_eq, o_bi0, o_bi1, o_bib, em_t, o_neg1, o_shl, o_tb, o_tb0, o_tt, o_and, o_xor, o_or, o_max, o_min, an_tb, and_true, true_and, not_true, not_false, if_true, if_false, tn_add, tn_mul, Int.reduceToNat, tn_cast, md_x]
      rw [if_pos (by omega)]
      refine ⟨_, _, _, y2, ?_⟩
      simp (disch := omega) only [eV_at, eV_up, o_lit2, o_add, o_sub, o_mul, o_neg, o_div, o_nat, ix_t, o_lt, o_le, o_eq, o_bi0, o_bi1, o_bib, em_t, o_neg1, o_shl, o_tb, o_tb0, o_tt, o_and, o_xor, o_or, o_max, o_min, an_tb, and_true, true_and, not_true, not_false, if_true, if_false, tn_add, tn_mul, Int.reduceToNat, tn_cast, md_x]
      rw [if_pos (by omega)] <;> first | rfl | trivial
  · have hnl : c ≠ 13 ∧ inL (lkc B dr) (mby (lkc B dr k) c) n = true := by
      rw [elg] at lg
      refine ⟨fun h => lg (Or.inl h), ?_⟩
      cases h : inL (lkc B dr) (mby (lkc B dr k) c) n
      · exact absurd (Or.inr (by rw [h]; decide)) lg
      · rfl
    refine ⟨V, J, q, fun h => absurd h.1 lg, Or.inr ⟨fun h => lg h.1, ?_⟩⟩
    apply sg_295
    simp (disch := omega) only [eV_at, eV_up, o_lit2, o_add, o_sub, o_mul, o_neg, o_div, o_nat, ix_t, o_lt, o_le, o_eq, o_bi0, o_bi1, o_bib, em_t, o_neg1, o_shl, o_tb, o_tb0, o_tt, o_and, o_xor, o_or, o_max, o_min, an_tb, and_true, true_and, not_true, not_false, if_true, if_false, tn_add, tn_mul, Int.reduceToNat, tn_cast, md_x]
    rw [if_neg (by omega)]
    refine ⟨_, _, _, k188 (by omega), ?_⟩
    rw [if_neg (b0o_f hnl.2)]
end MD
