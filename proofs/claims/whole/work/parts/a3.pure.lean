/-! seekChoice, barredSlot. -/
section CC
variable {L d : Nat} {xs : Nat → Int32} {B V : Nat → Nat → Int} {J : Nat → Nat → Int64} {tg : Option Nat}
def mN (B : Nat → Nat → Int) (s : Nat) : Nat := (B 21 s).toNat
def gN (B : Nat → Nat → Int) (t j u k : Nat) : Int := FAR B (B 20 (t * 4 + j)).toNat (B 20 (u * 4 + k)).toNat
theorem mN_le (hR : RNG B) (s : Nat) : mN B s ≤ 4 := by
  have : 0 ≤ B 21 s ∧ B 21 s ≤ 4 := hR 21 s (by decide) (by decide)
  unfold mN; omega
theorem mN_eq (hR : RNG B) (s : Nat) : B 21 s = (mN B s : Nat) := by
  have : 0 ≤ B 21 s ∧ B 21 s ≤ 4 := hR 21 s (by decide) (by decide)
  unfold mN; omega
theorem gN_rg (hR : RNG B) (a b c e : Nat) : 0 ≤ gN B a b c e ∧ gN B a b c e ≤ 2000 := ⟨FAR_nn hR _ _, by have := FAR_rg hR (B 20 (a * 4 + b)).toNat (B 20 (c * 4 + e)).toNat; unfold gN; omega⟩
theorem of_rg (hR : RNG B) (x : Nat) : 0 ≤ B 20 x ∧ B 20 x ≤ 11 := hR 20 x (by decide) (by decide)
theorem Qy.ca {W : Nat → Nat → Int} (q : Qy B V) (f : ∀ c, c ≠ 45 → ¬ (71 ≤ c ∧ c ≤ 92) → W c = V c) (h : CA W) : Qy B W := ⟨fun c h => by rw [f c (by omega) (by omega)]; exact q.1 c h, fun p h => by rw [f 94 (by omega) (by omega)]; exact q.2.1 p h, fun p h => by rw [f 93 (by omega) (by omega)]; exact q.2.2.1 p h, h⟩
theorem k_17 (hI : INV B) (q : Qy B V) {s P : Nat} (hs : s < 6) (h84 : ∀ t, t ≤ s → (t < s → mN B t ≠ 0) → V 84 t = B 20 (t * 4 + pd (mN B) (s + 1) P t)) : ∃ W, (∀ c, ¬ (71 ≤ c ∧ c ≤ 74) → W c = V c) ∧ CA W ∧ Runs (GW L xs) (d + 4) 17 (0, [.ref 83, (Value.int (Int32.ofInt (s))), vU, vU], [], zS (eV (V)) J tg) (some (Value.int (Int32.ofInt (nbk (mN B) (gN B) s P s))), zS (eV (W)) J tg) := by
  have hG := gN_rg hI.1
  obtain ⟨W, ⟨i1, i2⟩, hr⟩ := loopN (g := GW L xs) (d := d + 4) (mid := 17) (σ := Nat → Nat → Int) (fun t W => (5, [.ref 83, (Value.int (Int32.ofInt (s))), (Value.int (Int32.ofInt (nbk (mN B) (gN B) s P t))), (Value.int (Int32.ofInt (t)))], [], zS (eV W) J tg)) (fun t W => (∀ c, ¬ (71 ≤ c ∧ c ≤ 74) → W c = V c) ∧ CA W) s (by
    intro t W ht ⟨i1, i2⟩
    have qW : Qy B W := q.ca (fun c _ q2 => i1 c (by omega)) i2
    have hRW : RNG W := hI.1.fr fun c hc => qW.1 c (by omega)
    have e21 : W 21 t = (mN B t : Nat) := by rw [qW.1 21 (by omega)]; exact mN_eq hI.1 t
    have hle := mN_le hI.1 t
    have hn := nbk_rg (m := mN B) hG s P t
    have hs1 : nbk (mN B) (gN B) s P (t + 1) = if mN B t = 0 then nbk (mN B) (gN B) s P t else min (gN B t (pd (mN B) (s + 1) P t) s (pd (mN B) (s + 1) P s)) (nbk (mN B) (gN B) s P t) := rfl
    by_cases e : mN B t = 0
    · rw [if_pos e] at hs1
      rw [hs1]
      refine ⟨W, ⟨i1, i2⟩, fun r hr => ?_⟩
      apply sg_17_5
      simp (disch := omega) only [e21, eV_at, eV_up, o_lit2, o_add, o_sub, o_mul, o_neg, o_div, o_nat, ix_t, o_lt, o_le, o_eq, o_bi0, o_bi1, o_bib, em_t, o_neg1, o_shl, o_tb, o_tb0, o_tt, o_and, o_xor, o_or, o_max, o_min, an_tb, and_true, true_and, not_true, not_false, if_true, if_false, tn_add, tn_mul, Int.reduceToNat, tn_cast, md_x]
      rw [if_neg (by omega), if_pos (by omega)]
      exact hr
    · rw [if_neg e] at hs1
      rw [hs1]
      have a1 := of_rg hI.1 (t * 4 + pd (mN B) (s + 1) P t)
      have a2 := of_rg hI.1 (s * 4 + pd (mN B) (s + 1) P s)
      have b1 : W 84 t = ((B 20 (t * 4 + pd (mN B) (s + 1) P t)).toNat : Nat) := by rw [i1 84 (by omega), h84 t (by omega) (fun _ => e)]; omega
      have b2 : W 84 s = ((B 20 (s * 4 + pd (mN B) (s + 1) P s)).toNat : Nat) := by rw [i1 84 (by omega), h84 s (by omega) (fun h => by omega)]; omega
      obtain ⟨X, x1, x2, x3⟩ := k_62 (L := L) (xs := xs) (J := J) (tg := tg) (d := d) hRW i2 (a := (B 20 (t * 4 + pd (mN B) (s + 1) P t)).toNat) (b := (B 20 (s * 4 + pd (mN B) (s + 1) P s)).toNat) (by omega) (by omega)
      rw [FAR_fr (qW.1 1 (by omega)) (qW.1 2 (by omega)) (qW.1 3 (by omega)) (qW.1 4 (by omega))] at x3
      have x3 : Runs (GW L xs) (d + 3) 62 (0, [.ref 70, (Value.int (Int32.ofInt ((B 20 (t * 4 + pd (mN B) (s + 1) P t)).toNat))), (Value.int (Int32.ofInt ((B 20 (s * 4 + pd (mN B) (s + 1) P s)).toNat))), vU], [], zS (eV (W)) J tg) (some (Value.int (Int32.ofInt (gN B t (pd (mN B) (s + 1) P t) s (pd (mN B) (s + 1) P s)))), zS (eV (X)) J tg) := x3
      have hg := hG t (pd (mN B) (s + 1) P t) s (pd (mN B) (s + 1) P s)
      refine ⟨X, ⟨fun c q1 => by rw [x1 c (by omega) (by omega) (by omega) (by omega)]; exact i1 c q1, x2⟩, fun r hr => ?_⟩
      apply sg_17_5
      simp (disch := omega) only [e21, b1, b2, eV_at, eV_up, o_lit2, o_add, o_sub, o_mul, o_neg, o_div, o_nat, ix_t, o_lt, o_le, o_eq, o_bi0, o_bi1, o_bib, em_t, o_neg1, o_shl, o_tb, o_tb0, o_tt, o_and, o_xor, o_or, o_max, o_min, an_tb, and_true, true_and, not_true, not_false, if_true, if_false, tn_add, tn_mul, Int.reduceToNat, tn_cast, md_x]
      rw [if_neg (by omega), if_neg (by omega)]
      refine ⟨_, _, x3, ?_⟩
      simp (disch := omega) only [eV_at, eV_up, o_lit2, o_add, o_sub, o_mul, o_neg, o_div, o_nat, ix_t, o_lt, o_le, o_eq, o_bi0, o_bi1, o_bib, em_t, o_neg1, o_shl, o_tb, o_tb0, o_tt, o_and, o_xor, o_or, o_max, o_min, an_tb, and_true, true_and, not_true, not_false, if_true, if_false, tn_add, tn_mul, Int.reduceToNat, tn_cast, md_x]
      exact hr) s 0 V (by omega) ⟨fun _ _ => rfl, q.2.2.2⟩
  refine ⟨W, i1, i2, ?_⟩
  apply sg_17
  refine hr _ ?_
  apply sg_17_5
  simp (disch := omega) only [eV_at, eV_up, o_lit2, o_add, o_sub, o_mul, o_neg, o_div, o_nat, ix_t, o_lt, o_le, o_eq, o_bi0, o_bi1, o_bib, em_t, o_neg1, o_shl, o_tb, o_tb0, o_tt, o_and, o_xor, o_or, o_max, o_min, an_tb, and_true, true_and, not_true, not_false, if_true, if_false, tn_add, tn_mul, Int.reduceToNat, tn_cast, md_x]
  rw [if_pos (by omega)] <;> first | rfl | trivial
def BR (B W : Nat → Nat → Int) (y : Int × Nat) : Prop := y.1 ≠ -1 → ∀ t, t < 6 → mN B t ≠ 0 → W 85 t = B 20 (t * 4 + pd (mN B) 6 y.2 t)
theorem wd_s (m : Nat → Nat) {n s : Nat} (h : s + (n + 1) = 6) : wd m (n + 1) = mm m s * wd m n := by
  have hs : 5 - n = s := by omega
  show mm m (5 - n) * wd m n = _
  rw [hs]
theorem k_16 (hI : INV B) : ∀ n {s P : Nat} {V : Nat → Nat → Int} {x : Int × Nat}, s + n = 6 → Qy B V → (∀ t, t < s → mN B t ≠ 0 → V 84 t = B 20 (t * 4 + pd (mN B) s P t)) → V 83 4 = x.1 → (-1 ≤ x.1 ∧ x.1 < vv (mN B) (gN B) s P) → BR B V x → ∃ W, Qy B W ∧ (∀ t, t < s → W 84 t = V 84 t) ∧ W 83 4 = (rf (mN B) (gN B) 6 (P * wd (mN B) n) (wd (mN B) n) x).1 ∧ BR B W (rf (mN B) (gN B) 6 (P * wd (mN B) n) (wd (mN B) n) x) ∧ Runs (GW L xs) (d + 5 + n) 16 (0, [.ref 83, (Value.int (Int32.ofInt (s))), (Value.int (Int32.ofInt (vv (mN B) (gN B) s P))), vU, vU], [], zS (eV (V)) J tg) (none, zS (eV (W)) J tg)
  | 0, s, P, V, x, e, q, h84, h4, hx, hb => by
    have : s = 6 := by omega
    subst this
    have hG := gN_rg hI.1
    have er : rf (mN B) (gN B) 6 (P * wd (mN B) 0) (wd (mN B) 0) x = (vv (mN B) (gN B) 6 P, P) := by
      show rf (mN B) (gN B) 6 (P * 1) (0 + 1) x = _
      rw [rf_s, Nat.mul_one, Nat.add_zero]
      show (if x.1 < _ then _ else _) = _
      rw [if_pos hx.2]
    rw [er]
    have k := k_174 (L := L) (xs := xs) (J := J) (tg := tg) (d := d + 4) (V := up2 V 83 4 (vv (mN B) (gN B) 6 P)) (c1 := 84) (c2 := 85) (n := 6) (by decide) (by decide) rfl rfl (by decide)
    refine ⟨cpV (up2 V 83 4 (vv (mN B) (gN B) 6 P)) 84 85 6, q.cl fun c _ q2 => ?_, fun t _ => ?_, ?_, fun _ t ht hm => ?_, ?_⟩
    · rw [cpV_ne (by omega), w_ne _ _ _ _ (by omega)]
    · rw [cpV_ne (by decide), w_nc _ _ _ _ (by decide)]
    · rw [cpV_ne (by decide), w_eq]
    · rw [cpV_at, if_pos ht, w_nc _ _ _ _ (by decide)]
      exact h84 t ht hm
    · apply sg_16
      rw [if_neg (by decide)]
      rw [eV_up]
      exact ⟨_, k, rfl⟩
  | n + 1, s, P, V, x, e, q, h84, h4, hx, hb => by
    have hG := gN_rg hI.1
    have hm := mN_le hI.1
    have hms := hm s
    have hv := vv_rg (m := mN B) hG s P
    have e21 : V 21 s = (mN B s : Nat) := by rw [q.1 21 (by omega)]; exact mN_eq hI.1 s
    have hw := wd_s (mN B) e
    have hvs : ∀ p, vv (mN B) (gN B) (s + 1) p = if mN B s = 0 then vv (mN B) (gN B) s p else min (nbk (mN B) (gN B) s p s) (vv (mN B) (gN B) s (p / mN B s)) := fun p => rfl
    by_cases g : mN B s = 0
    · have hM : mm (mN B) s = 1 := if_pos g
      have hvP := hvs P
      rw [if_pos g] at hvP
      rw [hM, Nat.one_mul] at hw
      obtain ⟨W, w1, w2, w3, w4, w5⟩ := k_16 hI n (s := s + 1) (P := P) (V := V) (x := x) (by omega) q (fun t ht hmt => by
        by_cases et : t = s
        · subst et; exact absurd g hmt
        · rw [pd_lt (by omega), hM, Nat.div_one]; exact h84 t (by omega) hmt) h4 (by rw [hvP]; exact hx) hb
      rw [hvP] at w5
      rw [hw]
      refine ⟨W, w1, fun t ht => w2 t (by omega), w3, w4, ?_⟩
      apply sg_16
      rw [g] at e21
      simp (disch := omega) only [e21, eV_at, eV_up, o_lit2, o_add, o_sub, o_mul, o_neg, o_div, o_nat, ix_t, o_lt, o_le, o_eq, o_bi0, o_bi1, o_bib, em_t, o_neg1, o_shl, o_tb, o_tb0, o_tt, o_and, o_xor, o_or, o_max, o_min, an_tb, and_true, true_and, not_true, not_false, if_true, if_false, tn_add, tn_mul, Int.reduceToNat, tn_cast, md_x]
      rw [if_pos (by omega)]
      exact ⟨_, w5, rfl⟩
    · have hM : mm (mN B) s = mN B s := if_neg g
      rw [hM] at hw
      rw [hw]
      obtain ⟨W, ⟨i1, i2, i3, i4⟩, hr⟩ := loopN (g := GW L xs) (d := d + 5 + (n + 1)) (mid := 16) (σ := Nat → Nat → Int) (fun j W => (46, [.ref 83, (Value.int (Int32.ofInt (s))), (Value.int (Int32.ofInt (vv (mN B) (gN B) s P))), (Value.int (Int32.ofInt (j))), vU], [], zS (eV W) J tg)) (fun j W => Qy B W ∧ (∀ t, t < s → W 84 t = V 84 t) ∧ W 83 4 = (rf (mN B) (gN B) 6 (P * (mN B s * wd (mN B) n)) (j * wd (mN B) n) x).1 ∧ BR B W (rf (mN B) (gN B) 6 (P * (mN B s * wd (mN B) n)) (j * wd (mN B) n) x)) (mN B s) (by
        intro j W hj ⟨qW, i2, i3, i4⟩
        have e21 : W 21 s = (mN B s : Nat) := by rw [qW.1 21 (by omega)]; exact mN_eq hI.1 s
        have hy := rf_rg (m := mN B) (S := 6) (a := P * (mN B s * wd (mN B) n)) hG (x := x) (by omega) (j * wd (mN B) n)
        have hys : rf (mN B) (gN B) 6 (P * (mN B s * wd (mN B) n)) ((j + 1) * wd (mN B) n) x = rf (mN B) (gN B) 6 ((P * mN B s + j) * wd (mN B) n) (wd (mN B) n) (rf (mN B) (gN B) 6 (P * (mN B s * wd (mN B) n)) (j * wd (mN B) n) x) := by
          rw [Nat.succ_mul, rf_add, ← Nat.mul_assoc, Nat.add_mul]
        rw [hys]
        generalize rf (mN B) (gN B) 6 (P * (mN B s * wd (mN B) n)) (j * wd (mN B) n) x = y at i3 i4 hy
        obtain ⟨d1, d2⟩ := dv_m (p := P) hj
        have pdl : ∀ t, t < s → pd (mN B) (s + 1) (P * mN B s + j) t = pd (mN B) s P t := fun t ht => by rw [pd_lt ht, hM, d1]
        have pde : pd (mN B) (s + 1) (P * mN B s + j) s = j := by rw [pd_eq, hM, d2]
        have hA : ∀ c, c ≠ 84 → (up2 W 84 s (B 20 (s * 4 + j))) c = W c := fun c hc => w_ne _ _ _ _ hc
        have qA : Qy B (up2 W 84 s (B 20 (s * 4 + j))) := qW.cl fun c _ q2 => hA c (by omega)
        obtain ⟨X, x1, x2, x3⟩ := k_17 (L := L) (xs := xs) (J := J) (tg := tg) (d := d + 1 + n) hI qA (s := s) (P := P * mN B s + j) (by omega) (fun t ht hmt => by
          rw [w_at]
          by_cases et : t = s
          · rw [if_pos et, et, pde]
          · rw [if_neg et, i2 t (by omega), pdl t (by omega)]; exact h84 t (by omega) (hmt (by omega)))
        have qX : Qy B X := qA.ca (fun c _ q2 => x1 c (by omega)) x2
        have hnb := nbk_rg (m := mN B) hG s (P * mN B s + j) s
        have hvP := hvs (P * mN B s + j)
        rw [if_neg g, d1] at hvP
        have hvr := vv_rg (m := mN B) hG (s + 1) (P * mN B s + j)
        have h834 : X 83 4 = y.1 := by rw [x1 83 (by omega), hA 83 (by decide)]; exact i3
        have h84X : ∀ t, t < s → X 84 t = V 84 t := fun t ht => by rw [x1 84 (by omega), w_at, if_neg (by omega)]; exact i2 t ht
        have hbX : BR B X y := fun h t ht hmt => by rw [x1 85 (by omega), hA 85 (by decide)]; exact i4 h t ht hmt
        have e20 : W 20 (s * 4 + j) = B 20 (s * 4 + j) := by rw [qW.1 20 (by omega)]
        have dep : d + 1 + n + 4 = d + 5 + n := by omega
        rw [dep] at x3
        by_cases c1 : vv (mN B) (gN B) (s + 1) (P * mN B s + j) ≤ y.1
        · rw [rf_skip _ (fun i hi => Int.le_trans (vv_blk hm n (s + 1) _ i (by omega) hi) c1)]
          refine ⟨X, ⟨qX, h84X, h834, hbX⟩, fun r hr => ?_⟩
          apply sg_16_46
          simp (disch := omega) only [e21, e20, eV_at, eV_up, o_lit2, o_add, o_sub, o_mul, o_neg, o_div, o_nat, ix_t, o_lt, o_le, o_eq, o_bi0, o_bi1, o_bib, em_t, o_neg1, o_shl, o_tb, o_tb0, o_tt, o_and, o_xor, o_or, o_max, o_min, an_tb, and_true, true_and, not_true, not_false, if_true, if_false, tn_add, tn_mul, Int.reduceToNat, tn_cast, md_x]
          rw [if_neg (by omega)]
          refine ⟨_, _, x3, ?_⟩

          simp (disch := omega) only [h834, ← hvP, eV_at, eV_up, o_lit2, o_add, o_sub, o_mul, o_neg, o_div, o_nat, ix_t, o_lt, o_le, o_eq, o_bi0, o_bi1, o_bib, em_t, o_neg1, o_shl, o_tb, o_tb0, o_tt, o_and, o_xor, o_or, o_max, o_min, an_tb, and_true, true_and, not_true, not_false, if_true, if_false, tn_add, tn_mul, Int.reduceToNat, tn_cast, md_x]
          rw [if_pos c1]
          exact hr
        · obtain ⟨Y, y1, y2, y3, y4, y5⟩ := k_16 hI n (s := s + 1) (P := P * mN B s + j) (V := X) (x := y) (by omega) qX (fun t ht hmt => by
            by_cases et : t = s
            · rw [et, pde, x1 84 (by omega), w_eq]
            · rw [pdl t (by omega), h84X t (by omega)]; exact h84 t (by omega) hmt) h834 (by omega) hbX
          refine ⟨Y, ⟨y1, fun t ht => by rw [y2 t (by omega)]; exact h84X t ht, y3, y4⟩, fun r hr => ?_⟩
          apply sg_16_46
          simp (disch := omega) only [e21, e20, eV_at, eV_up, o_lit2, o_add, o_sub, o_mul, o_neg, o_div, o_nat, ix_t, o_lt, o_le, o_eq, o_bi0, o_bi1, o_bib, em_t, o_neg1, o_shl, o_tb, o_tb0, o_tt, o_and, o_xor, o_or, o_max, o_min, an_tb, and_true, true_and, not_true, not_false, if_true, if_false, tn_add, tn_mul, Int.reduceToNat, tn_cast, md_x]
          rw [if_neg (by omega)]
          refine ⟨_, _, x3, ?_⟩
          simp (disch := omega) only [h834, ← hvP, eV_at, eV_up, o_lit2, o_add, o_sub, o_mul, o_neg, o_div, o_nat, ix_t, o_lt, o_le, o_eq, o_bi0, o_bi1, o_bib, em_t, o_neg1, o_shl, o_tb, o_tb0, o_tt, o_and, o_xor, o_or, o_max, o_min, an_tb, and_true, true_and, not_true, not_false, if_true, if_false, tn_add, tn_mul, Int.reduceToNat, tn_cast, md_x]
          rw [if_neg c1]
          exact ⟨_, y5, hr⟩) (mN B s) 0 V (by omega) ⟨q, fun _ _ => rfl, by rw [Nat.zero_mul]; exact h4, by rw [Nat.zero_mul]; exact hb⟩
      refine ⟨W, i1, i2, i3, i4, ?_⟩
      have e21W : W 21 s = (mN B s : Nat) := by rw [i1.1 21 (by omega)]; exact mN_eq hI.1 s
      apply sg_16
      simp (disch := omega) only [e21, eV_at, eV_up, o_lit2, o_add, o_sub, o_mul, o_neg, o_div, o_nat, ix_t, o_lt, o_le, o_eq, o_bi0, o_bi1, o_bib, em_t, o_neg1, o_shl, o_tb, o_tb0, o_tt, o_and, o_xor, o_or, o_max, o_min, an_tb, and_true, true_and, not_true, not_false, if_true, if_false, tn_add, tn_mul, Int.reduceToNat, tn_cast, md_x]
      rw [if_pos (by omega), if_neg (by omega)]
      refine hr _ ?_
      apply sg_16_46
      simp (disch := omega) only [e21W, eV_at, eV_up, o_lit2, o_add, o_sub, o_mul, o_neg, o_div, o_nat, ix_t, o_lt, o_le, o_eq, o_bi0, o_bi1, o_bib, em_t, o_neg1, o_shl, o_tb, o_tb0, o_tt, o_and, o_xor, o_or, o_max, o_min, an_tb, and_true, true_and, not_true, not_false, if_true, if_false, tn_add, tn_mul, Int.reduceToNat, tn_cast, md_x]
      rw [if_pos (by omega)] <;> first | rfl | trivial
/-- seekChoice -/
theorem k_15 (hI : INV B) (q : Qy B V) : ∃ W, Qy B W ∧ W 83 4 = (rf (mN B) (gN B) 6 0 (pr (mN B) 6) (-1, 0)).1 ∧ BR B W (rf (mN B) (gN B) 6 0 (pr (mN B) 6) (-1, 0)) ∧ Runs (GW L xs) (d + 12) 15 (0, [.ref 83], [], zS (eV (V)) J tg) (none, zS (eV (W)) J tg) := by
  have qA : Qy B (up2 V 83 4 (-1)) := q.cl fun c _ q2 => w_ne _ _ _ _ (by omega)
  obtain ⟨W, w1, w2, w3, w4, w5⟩ := k_16 (L := L) (xs := xs) (J := J) (tg := tg) (d := d) hI 6 (s := 0) (P := 0) (V := up2 V 83 4 (-1)) (x := (-1, 0)) (by omega) qA (fun t ht => by omega) (w_eq _ _ _ _) ⟨by decide, by show (-1 : Int) < 1000000; omega⟩ (fun h => absurd rfl h)
  rw [Nat.zero_mul, wd_pr] at w3 w4
  exact ⟨W, w1, w3, w4, sg_15 _ _ _ ⟨_, by rw [o_neg1, eV_up]; exact w5, rfl⟩⟩
end CC
