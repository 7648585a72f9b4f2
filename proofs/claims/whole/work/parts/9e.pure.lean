/-! What a DRAWING is TAKEN for, out of scores. -/
def pk (f : Nat → Int) (s : Nat) : Nat → Int × Int
  | 0 => (-1, 0)
  | t + 1 => if s.testBit t then (if (pk f s t).1 = -1 ∨ f t < (pk f s t).2 then ((t : Int), f t) else pk f s t) else pk f s t
def tk (lim : Int) (f : Nat → Int) (s n : Nat) : Int := if (pk f s n).2 ≤ lim then (pk f s n).1 else -1
theorem pk_rg {f : Nat → Int} {s : Nat} : ∀ {n : Nat}, (∀ t, t < n → s.testBit t = true → -9000 ≤ f t ∧ f t ≤ 9000) → (-1 ≤ (pk f s n).1 ∧ (pk f s n).1 < n) ∧ -9000 ≤ (pk f s n).2 ∧ (pk f s n).2 ≤ 9000
  | 0, _ => by simp [pk]
  | n + 1, h => by
    have ih := @pk_rg f s n (fun t ht => h t (by omega))
    unfold pk
    split
    · rename_i hb
      have := h n (by omega) hb
      split
      · dsimp only; omega
      · omega
    · omega
theorem pk_cg {f g : Nat → Int} {s : Nat} : ∀ {n : Nat}, (∀ t, t < n → s.testBit t = true → f t = g t) → pk f s n = pk g s n
  | 0, _ => rfl
  | n + 1, h => by
    have ih := @pk_cg f g s n (fun t ht => h t (by omega))
    unfold pk
    rw [ih]
    split
    · rename_i hb; rw [h n (by omega) hb]
    · rfl
theorem tk_cg {lim : Int} {f g : Nat → Int} {s n : Nat} (h : ∀ t, t < n → s.testBit t = true → f t = g t) : tk lim f s n = tk lim g s n := by unfold tk; rw [pk_cg h]
theorem pk_ext {f : Nat → Int} {s m : Nat} (h : s < 2 ^ m) : ∀ k, pk f s (m + k) = pk f s m
  | 0 => rfl
  | k + 1 => by
    have : pk f s (m + (k + 1)) = if s.testBit (m + k) then (if (pk f s (m + k)).1 = -1 ∨ f (m + k) < (pk f s (m + k)).2 then (((m + k : Nat) : Int), f (m + k)) else pk f s (m + k)) else pk f s (m + k) := rfl
    rw [this, tb_hi h (by omega), pk_ext h k]; simp
theorem tk_ext {lim : Int} {f : Nat → Int} {s m n : Nat} (h : s < 2 ^ m) (hn : m ≤ n) : tk lim f s n = tk lim f s m := by
  unfold tk; rw [show n = m + (n - m) by omega, pk_ext h]
theorem pk_s {f : Nat → Int} {s t : Nat} : pk f s (t + 1) = if s.testBit t then (if (pk f s t).1 = -1 ∨ f t < (pk f s t).2 then ((t : Int), f t) else pk f s t) else pk f s t := rfl
theorem k_113_77 {L d : Nat} {xs : Nat → Int32} {V : Nat → Nat → Int} {J : Nat → Nat → Int64} {tg : Option Nat} (hR : RNG V) {fr s h : Nat} {g : Nat → Int} (hfr : fr + 12 ≤ 12) (hs : s < 4096) (hh : h < 4096) (hg : ∀ t, t < 12 → s.testBit t = true → V 77 (fr + t) = g t ∧ -5000 ≤ g t ∧ g t ≤ 5000) : Runs (GW L xs) (d) 113 (0, [.ref 7, .ref 77, (Value.int (Int32.ofInt (fr))), (Value.int (Int32.ofInt (s))), (Value.int (Int32.ofInt (h))), vU, vU, vU, vU], [], zS (eV (V)) J tg) (some (Value.int (Int32.ofInt (tk (V 7 0) (fun t => g t - (if h.testBit t then V 7 1 else 0)) s 12))), zS (eV (V)) J tg) := by
  have rl : 0 ≤ V 7 0 ∧ V 7 0 ≤ 999 := hR 7 0 (by decide) (by decide)
  have rh : 0 ≤ V 7 1 ∧ V 7 1 ≤ 99 := hR 7 1 (by decide) (by decide)
  generalize hf : (fun t => g t - (if h.testBit t then V 7 1 else 0)) = f
  have hf1 : ∀ t, h.testBit t = true → f t = g t - V 7 1 := fun t q => by rw [← hf]; simp [q]
  have hf0 : ∀ t, h.testBit t = false → f t = g t - 0 := fun t q => by rw [← hf]; simp [q]
  have hb : ∀ n, n ≤ 12 → ∀ t, t < n → s.testBit t = true → -9000 ≤ f t ∧ f t ≤ 9000 := fun n hn t ht hb => by
    have := hg t (by omega) hb
    cases q : h.testBit t
    · rw [hf0 t q]; omega
    · rw [hf1 t q]; omega
  obtain ⟨_, _, hr⟩ := loopN (g := GW L xs) (d := d) (mid := 113) (σ := Unit) (fun t _ => (9, [.ref 7, .ref 77, (Value.int (Int32.ofInt (fr))), (Value.int (Int32.ofInt (s))), (Value.int (Int32.ofInt (h))), (Value.int (Int32.ofInt ((pk f s t).1))), (Value.int (Int32.ofInt ((pk f s t).2))), (Value.int (Int32.ofInt (t))), vU], [], zS (eV V) J tg)) (fun _ _ => True) 12 (by
    intro t _ ht _
    have hp := pk_rg (hb t (by omega))
    refine ⟨(), trivial, fun r hr => ?_⟩
    rw [pk_s] at hr
    apply sg_113c77_9
    cases qs : s.testBit t
    · rw [qs] at hr
      simp (disch := omega) only [eV_at, eV_up, o_lit2, o_add, o_sub, o_mul, o_neg, o_div, o_nat, ix_t, o_lt, o_le, o_eq, o_bi0, o_bi1, o_bib, em_t, o_neg1, o_shl, o_tb, o_tb0, o_tt, o_and, o_xor, o_or, o_max, o_min, an_tb, and_true, true_and, not_true, not_false, if_true, if_false, tn_add, tn_mul, Int.reduceToNat, tn_cast, md_x]
      rw [if_neg (by omega), if_pos qs]
      exact hr
    · rw [qs] at hr
      obtain ⟨v1, v2⟩ := hg t ht qs
      have hft := hb 12 (by omega) t ht qs
      simp (disch := omega) only [v1, eV_at, eV_up, o_lit2, o_add, o_sub, o_mul, o_neg, o_div, o_nat, ix_t, o_lt, o_le, o_eq, o_bi0, o_bi1, o_bib, em_t, o_neg1, o_shl, o_tb, o_tb0, o_tt, o_and, o_xor, o_or, o_max, o_min, an_tb, and_true, true_and, not_true, not_false, if_true, if_false, tn_add, tn_mul, Int.reduceToNat, tn_cast, md_x]
      rw [if_neg (by omega), if_neg (by rw [qs]; simp)]
      cases qh : h.testBit t
      · rw [hf0 t qh] at hr hft
        simp only [if_true]
        by_cases c1 : (pk f s t).1 = -1
        · rw [if_pos c1]
          simp only [c1, true_or, if_true] at hr
          exact hr
        · rw [if_neg c1]
          by_cases c2 : (pk f s t).2 ≤ g t - 0
          · rw [if_pos c2]
            rw [if_pos rfl, if_neg (by omega)] at hr
            exact hr
          · rw [if_neg c2]
            rw [if_pos rfl, if_pos (by omega)] at hr
            exact hr
      · rw [hf1 t qh] at hr hft
        simp only [Bool.true_eq_false, if_false]
        by_cases c1 : (pk f s t).1 = -1
        · rw [if_pos c1]
          simp only [c1, true_or, if_true] at hr
          exact hr
        · rw [if_neg c1]
          by_cases c2 : (pk f s t).2 ≤ g t - V 7 1
          · rw [if_pos c2]
            rw [if_pos rfl, if_neg (by omega)] at hr
            exact hr
          · rw [if_neg c2]
            rw [if_pos rfl, if_pos (by omega)] at hr
            exact hr) 12 0 () (by omega) trivial
  have hp := pk_rg (hb 12 (by omega))
  refine sg_113c77 _ _ _ _ _ _ (hr _ ?_)
  apply sg_113c77_9
  simp (disch := omega) only [eV_at, eV_up, o_lit2, o_add, o_sub, o_mul, o_neg, o_div, o_nat, ix_t, o_lt, o_le, o_eq, o_bi0, o_bi1, o_bib, em_t, o_neg1, o_shl, o_tb, o_tb0, o_tt, o_and, o_xor, o_or, o_max, o_min, an_tb, and_true, true_and, not_true, not_false, if_true, if_false, tn_add, tn_mul, Int.reduceToNat, tn_cast, md_x]
  rw [if_pos (by omega)]
  unfold tk
  split <;> rfl
theorem k_113_87 {L d : Nat} {xs : Nat → Int32} {V : Nat → Nat → Int} {J : Nat → Nat → Int64} {tg : Option Nat} (hR : RNG V) {fr s h : Nat} {g : Nat → Int} (hfr : fr + 12 ≤ 96) (hs : s < 4096) (hh : h < 4096) (hg : ∀ t, t < 12 → s.testBit t = true → V 87 (fr + t) = g t ∧ -5000 ≤ g t ∧ g t ≤ 5000) : Runs (GW L xs) (d) 113 (0, [.ref 7, .ref 87, (Value.int (Int32.ofInt (fr))), (Value.int (Int32.ofInt (s))), (Value.int (Int32.ofInt (h))), vU, vU, vU, vU], [], zS (eV (V)) J tg) (some (Value.int (Int32.ofInt (tk (V 7 0) (fun t => g t - (if h.testBit t then V 7 1 else 0)) s 12))), zS (eV (V)) J tg) := by
  have rl : 0 ≤ V 7 0 ∧ V 7 0 ≤ 999 := hR 7 0 (by decide) (by decide)
  have rh : 0 ≤ V 7 1 ∧ V 7 1 ≤ 99 := hR 7 1 (by decide) (by decide)
  generalize hf : (fun t => g t - (if h.testBit t then V 7 1 else 0)) = f
  have hf1 : ∀ t, h.testBit t = true → f t = g t - V 7 1 := fun t q => by rw [← hf]; simp [q]
  have hf0 : ∀ t, h.testBit t = false → f t = g t - 0 := fun t q => by rw [← hf]; simp [q]
  have hb : ∀ n, n ≤ 12 → ∀ t, t < n → s.testBit t = true → -9000 ≤ f t ∧ f t ≤ 9000 := fun n hn t ht hb => by
    have := hg t (by omega) hb
    cases q : h.testBit t
    · rw [hf0 t q]; omega
    · rw [hf1 t q]; omega
  obtain ⟨_, _, hr⟩ := loopN (g := GW L xs) (d := d) (mid := 113) (σ := Unit) (fun t _ => (9, [.ref 7, .ref 87, (Value.int (Int32.ofInt (fr))), (Value.int (Int32.ofInt (s))), (Value.int (Int32.ofInt (h))), (Value.int (Int32.ofInt ((pk f s t).1))), (Value.int (Int32.ofInt ((pk f s t).2))), (Value.int (Int32.ofInt (t))), vU], [], zS (eV V) J tg)) (fun _ _ => True) 12 (by
    intro t _ ht _
    have hp := pk_rg (hb t (by omega))
    refine ⟨(), trivial, fun r hr => ?_⟩
    rw [pk_s] at hr
    apply sg_113c87_9
    cases qs : s.testBit t
    · rw [qs] at hr
      simp (disch := omega) only [eV_at, eV_up, o_lit2, o_add, o_sub, o_mul, o_neg, o_div, o_nat, ix_t, o_lt, o_le, o_eq, o_bi0, o_bi1, o_bib, em_t, o_neg1, o_shl, o_tb, o_tb0, o_tt, o_and, o_xor, o_or, o_max, o_min, an_tb, and_true, true_and, not_true, not_false, if_true, if_false, tn_add, tn_mul, Int.reduceToNat, tn_cast, md_x]
      rw [if_neg (by omega), if_pos qs]
      exact hr
    · rw [qs] at hr
      obtain ⟨v1, v2⟩ := hg t ht qs
      have hft := hb 12 (by omega) t ht qs
      simp (disch := omega) only [v1, eV_at, eV_up, o_lit2, o_add, o_sub, o_mul, o_neg, o_div, o_nat, ix_t, o_lt, o_le, o_eq, o_bi0, o_bi1, o_bib, em_t, o_neg1, o_shl, o_tb, o_tb0, o_tt, o_and, o_xor, o_or, o_max, o_min, an_tb, and_true, true_and, not_true, not_false, if_true, if_false, tn_add, tn_mul, Int.reduceToNat, tn_cast, md_x]
      rw [if_neg (by omega), if_neg (by rw [qs]; simp)]
      cases qh : h.testBit t
      · rw [hf0 t qh] at hr hft
        simp only [if_true]
        by_cases c1 : (pk f s t).1 = -1
        · rw [if_pos c1]
          simp only [c1, true_or, if_true] at hr
          exact hr
        · rw [if_neg c1]
          by_cases c2 : (pk f s t).2 ≤ g t - 0
          · rw [if_pos c2]
            rw [if_pos rfl, if_neg (by omega)] at hr
            exact hr
          · rw [if_neg c2]
            rw [if_pos rfl, if_pos (by omega)] at hr
            exact hr
      · rw [hf1 t qh] at hr hft
        simp only [Bool.true_eq_false, if_false]
        by_cases c1 : (pk f s t).1 = -1
        · rw [if_pos c1]
          simp only [c1, true_or, if_true] at hr
          exact hr
        · rw [if_neg c1]
          by_cases c2 : (pk f s t).2 ≤ g t - V 7 1
          · rw [if_pos c2]
            rw [if_pos rfl, if_neg (by omega)] at hr
            exact hr
          · rw [if_neg c2]
            rw [if_pos rfl, if_pos (by omega)] at hr
            exact hr) 12 0 () (by omega) trivial
  have hp := pk_rg (hb 12 (by omega))
  refine sg_113c87 _ _ _ _ _ _ (hr _ ?_)
  apply sg_113c87_9
  simp (disch := omega) only [eV_at, eV_up, o_lit2, o_add, o_sub, o_mul, o_neg, o_div, o_nat, ix_t, o_lt, o_le, o_eq, o_bi0, o_bi1, o_bib, em_t, o_neg1, o_shl, o_tb, o_tb0, o_tt, o_and, o_xor, o_or, o_max, o_min, an_tb, and_true, true_and, not_true, not_false, if_true, if_false, tn_add, tn_mul, Int.reduceToNat, tn_cast, md_x]
  rw [if_pos (by omega)]
  unfold tk
  split <;> rfl
