/-! choose in the reference. -/
section CS
variable {L d : Nat} {xs : Nat → Int32} {B V : Nat → Nat → Int} {J : Nat → Nat → Int64} {tg : Option Nat}
theorem of_lt (hI : INV B) {s k : Nat} (hs : s < 6) (hk : k < mN B s) : (B 20 (s * 4 + k)).toNat < (B 1 0).toNat ∧ B 20 (s * 4 + k) = ((B 20 (s * 4 + k)).toNat : Nat) := by
  have h := ((hI.2.1.2.2.2.2.2.2.2.2.1 s hs).2 k (by show (k : Int) < B 21 s; rw [mN_eq hI.1 s]; omega)).2
  have h : B 20 (s * 4 + k) < B 1 0 := h
  have r := of_rg hI.1 (s * 4 + k)
  omega
/-- all FARs between DRAWINGS -/
theorem m_266a (hI : INV B) (q : Qy B V) {x1 : Int32} : ∃ W, CF V W ∧ (∀ c, c ≠ 97 → c ≠ 98 → c ≠ 108 → W c = V c) ∧ (∀ i j, i < (B 1 0).toNat → j < (B 1 0).toNat → W 108 (12 * i + j) = FAR B i j) ∧ Rch (GW L xs) (d + 4) 266 (2, [.ref 93, .int x1, (Value.int (Int32.ofInt (0))), vU, vU, vU], [], zS (eV V) J tg) (55, [.ref 93, .int x1, .int 0, vU, vU, vU], [], zS (eV W) J tg) := by
  have rD : 0 ≤ B 1 0 ∧ B 1 0 ≤ 12 := hI.1 1 0 (by decide) (by decide)
  obtain ⟨D, hD⟩ : ∃ D : Nat, B 1 0 = D := ⟨(B 1 0).toNat, by omega⟩
  rw [hD, tn_cast]
  have cf : ∀ W : Nat → Nat → Int, (∀ c, c ≠ 97 → c ≠ 98 → c ≠ 108 → W c = V c) → CF V W := fun W f => ⟨fun c _ q2 q3 q4 => f c q2 q3 (by omega), fun p _ => by rw [f 93 (by decide) (by decide) (by decide)]⟩
  have h941 : ∀ W : Nat → Nat → Int, (∀ c, c ≠ 97 → c ≠ 98 → c ≠ 108 → W c = V c) → W 94 1 = D := fun W f => by
    have qW := q.cf (cf W f)
    have : W 94 1 = W 1 0 := (hI.q qW).2.1.1.1
    rw [this, qW.1 1 (by omega), hD]
  obtain ⟨W, ⟨i1, i2⟩, hr⟩ := loopN (g := GW L xs) (d := d + 4) (mid := 266) (σ := Nat → Nat → Int) (fun i W => (2, [.ref 93, .int x1, (Value.int (Int32.ofInt (i))), vU, vU, vU], [], zS (eV W) J tg)) (fun i W => (∀ c, c ≠ 97 → c ≠ 98 → c ≠ 108 → W c = V c) ∧ ∀ i' j, i' < i → j < D → W 108 (12 * i' + j) = FAR B i' j) D (by
    intro i W hi ⟨i1, i2⟩
    obtain ⟨X, ⟨x1', x2, x3⟩, hrX⟩ := loopN (g := GW L xs) (d := d + 4) (mid := 266) (σ := Nat → Nat → Int) (fun j W => (14, [.ref 93, .int x1, (Value.int (Int32.ofInt (i))), (Value.int (Int32.ofInt (j))), vU, vU], [], zS (eV W) J tg)) (fun j W => (∀ c, c ≠ 97 → c ≠ 98 → c ≠ 108 → W c = V c) ∧ (∀ i' j, i' < i → j < D → W 108 (12 * i' + j) = FAR B i' j) ∧ ∀ j', j' < j → W 108 (12 * i + j') = FAR B i j') D (by
      intro j W hj ⟨i1, i2, i3⟩
      have qW := q.cf (cf W i1)
      have hIW := hI.q qW
      have e1 : W 1 = B 1 := qW.1 1 (by omega)
      obtain ⟨X, y1, y2⟩ := m_197 (L := L) (xs := xs) (J := J) (tg := tg) (d := d) hIW.1 hIW.2.1.1 hIW.2.1.2.1 (a := i) (b := j) (by left; rw [e1]; omega) (by left; rw [e1]; omega)
      rw [FAR_fr e1 (qW.1 2 (by omega)) (qW.1 3 (by omega)) (qW.1 4 (by omega))] at y2
      have h1 := h941 W i1
      refine ⟨up2 X 108 (12 * i + j) (FAR B i j), ⟨fun c q1 q2 q3 => by rw [w_ne _ _ _ _ q3, y1 c q1 q2]; exact i1 c q1 q2 q3, fun i' j' h1 h2 => by rw [w_at, if_neg (by omega), y1 108 (by decide) (by decide)]; exact i2 i' j' h1 h2, fun j' h1 => ?_⟩, fun r hr => ?_⟩
      · rw [w_at]
        by_cases e : j' = j
        · rw [if_pos (by omega), e]
        · rw [if_neg (by omega), y1 108 (by decide) (by decide)]; exact i3 j' (by omega)
      · apply sg_266_14
        simp (disch := omega) only [h1, eV_at, eV_up, o_lit2, o_add, o_sub, o_mul, o_neg, o_div, o_nat, ix_t, o_lt, o_le, o_eq, o_bi0, o_bi1, o_bib, em_t, o_neg1, o_shl, o_tb, o_tb0, o_tt, o_and, o_xor, o_or, o_max, o_min, an_tb, and_true, true_and, not_true, not_false, if_true, if_false, tn_add, tn_mul, Int.reduceToNat, tn_cast, md_x]
        rw [if_neg (by omega)]
        refine ⟨_, _, _, y2, ?_⟩
        simp (disch := omega) only [eV_at, eV_up, o_lit2, o_add, o_sub, o_mul, o_neg, o_div, o_nat, ix_t, o_lt, o_le, o_eq, o_bi0, o_bi1, o_bib, em_t, o_neg1, o_shl, o_tb, o_tb0, o_tt, o_and, o_xor, o_or, o_max, o_min, an_tb, and_true, true_and, not_true, not_false, if_true, if_false, tn_add, tn_mul, Int.reduceToNat, tn_cast, md_x]
        exact hr) D 0 W (by omega) ⟨i1, i2, fun j' h => by omega⟩
    have h1 := h941 W i1
    have h2 := h941 X x1'
    refine ⟨X, ⟨x1', fun i' j h1 h2 => ?_⟩, fun r hr => ?_⟩
    · by_cases e : i' = i
      · subst e; exact x3 j h2
      · exact x2 i' j (by omega) h2
    · apply sg_266_2
      simp (disch := omega) only [h1, eV_at, eV_up, o_lit2, o_add, o_sub, o_mul, o_neg, o_div, o_nat, ix_t, o_lt, o_le, o_eq, o_bi0, o_bi1, o_bib, em_t, o_neg1, o_shl, o_tb, o_tb0, o_tt, o_and, o_xor, o_or, o_max, o_min, an_tb, and_true, true_and, not_true, not_false, if_true, if_false, tn_add, tn_mul, Int.reduceToNat, tn_cast, md_x]
      rw [if_neg (by omega)]
      refine hrX _ ?_
      apply sg_266_14
      simp (disch := omega) only [h2, eV_at, eV_up, o_lit2, o_add, o_sub, o_mul, o_neg, o_div, o_nat, ix_t, o_lt, o_le, o_eq, o_bi0, o_bi1, o_bib, em_t, o_neg1, o_shl, o_tb, o_tb0, o_tt, o_and, o_xor, o_or, o_max, o_min, an_tb, and_true, true_and, not_true, not_false, if_true, if_false, tn_add, tn_mul, Int.reduceToNat, tn_cast, md_x]
      rw [if_pos (by omega)]
      exact hr) D 0 V (by omega) ⟨fun _ _ _ _ => rfl, fun i' j h => by omega⟩
  have h1 := h941 W i1
  refine ⟨W, cf W i1, i1, fun i j hi hj => i2 i j hi hj, fun r h => hr _ ?_⟩
  apply sg_266_2
  simp (disch := omega) only [h1, eV_at, eV_up, o_lit2, o_add, o_sub, o_mul, o_neg, o_div, o_nat, ix_t, o_lt, o_le, o_eq, o_bi0, o_bi1, o_bib, em_t, o_neg1, o_shl, o_tb, o_tb0, o_tt, o_and, o_xor, o_or, o_max, o_min, an_tb, and_true, true_and, not_true, not_false, if_true, if_false, tn_add, tn_mul, Int.reduceToNat, tn_cast, md_x]
  rw [if_pos (by omega)]
  exact h
/-- no slot chosen yet -/
theorem m_266z {x1 : Int32} : ∃ W, CF V W ∧ (∀ c, c ≠ 93 → c ≠ 106 → W c = V c) ∧ (∀ t, t < 6 → W 106 t = 0) ∧ W 93 32 = -1 ∧ Rch (GW L xs) (d + 4) 266 (55, [.ref 93, .int x1, .int 0, vU, vU, vU], [], zS (eV V) J tg) (81, [.ref 93, .int x1, .int 1, vU, vU, vU], [], zS (eV W) J tg) := by
  obtain ⟨W, ⟨i1, i2⟩, hr⟩ := loopN (g := GW L xs) (d := d + 4) (mid := 266) (σ := Nat → Nat → Int) (fun t W => (55, [.ref 93, .int x1, (Value.int (Int32.ofInt (t))), vU, vU, vU], [], zS (eV W) J tg)) (fun t W => (∀ c, c ≠ 106 → W c = V c) ∧ ∀ t', t' < t → W 106 t' = 0) 6 (by
    intro t W ht ⟨i1, i2⟩
    refine ⟨up2 W 106 t 0, ⟨fun c q => by rw [w_ne _ _ _ _ q]; exact i1 c q, fun t' h => ?_⟩, fun r hr => ?_⟩
    · rw [w_at]
      split
      · rfl
      · exact i2 t' (by omega)
    · apply sg_266_55
      simp (disch := omega) only [eV_at, eV_up, o_lit2, o_add, o_sub, o_mul, o_neg, o_div, o_nat, ix_t, o_lt, o_le, o_eq, o_bi0, o_bi1, o_bib, em_t, o_neg1, o_shl, o_tb, o_tb0, o_tt, o_and, o_xor, o_or, o_max, o_min, an_tb, and_true, true_and, not_true, not_false, if_true, if_false, tn_add, tn_mul, Int.reduceToNat, tn_cast, md_x]
      rw [if_neg (by omega)]
      exact hr) 6 0 V (by omega) ⟨fun _ _ => rfl, fun t h => by omega⟩
  refine ⟨up2 W 93 32 (-1), ⟨fun c q1 _ _ q4 => by rw [w_ne _ _ _ _ q1]; exact i1 c (by omega), fun p hp => by rw [w_at, if_neg hp, i1 93 (by decide)]⟩, fun c q1 q2 => by rw [w_ne _ _ _ _ q1]; exact i1 c q2, fun t ht => by rw [w_nc _ _ _ _ (by decide)]; exact i2 t ht, w_eq _ _ _ _, fun r h => hr _ ?_⟩
  apply sg_266_55
  rw [if_pos (by decide)]
  rw [o_neg1, eV_up]
  exact h
/-- the least of the pairs of one choice -/
theorem m_266v (hI : INV B) (q : Qy B V) {last i : Nat} (hl : last ≤ 5) {x2 : Int32} (h108 : ∀ a b, a < (B 1 0).toNat → b < (B 1 0).toNat → V 108 (12 * a + b) = FAR B a b) (h106 : ∀ t, t < last + 1 → V 106 t = pd (mN B) (last + 1) i t) : Rch (GW L xs) (d + 4) 266 (91, [.ref 93, (Value.int (Int32.ofInt (last))), .int x2, .int 1000000, .int 0, vU], [], zS (eV V) J tg) (91, [.ref 93, (Value.int (Int32.ofInt (last))), .int x2, (Value.int (Int32.ofInt (vv (mN B) (gN B) (last + 1) i))), (Value.int (Int32.ofInt ((last + 1 : Nat)))), vU], [], zS (eV V) J tg) := by
  have rD : 0 ≤ B 1 0 ∧ B 1 0 ≤ 12 := hI.1 1 0 (by decide) (by decide)
  have hG := gN_rg hI.1
  have hm := mN_le hI.1
  have hg : ∀ a b, 0 ≤ (fun s t => gN B s (pd (mN B) (last + 1) i s) t (pd (mN B) (last + 1) i t)) a b ∧ (fun s t => gN B s (pd (mN B) (last + 1) i s) t (pd (mN B) (last + 1) i t)) a b ≤ 2000 := fun a b => hG _ _ _ _
  obtain ⟨_, _, hr⟩ := loopN (g := GW L xs) (d := d + 4) (mid := 266) (σ := Unit) (fun s _ => (91, [.ref 93, (Value.int (Int32.ofInt (last))), .int x2, (Value.int (Int32.ofInt (rvo (mN B) (fun s t => gN B s (pd (mN B) (last + 1) i s) t (pd (mN B) (last + 1) i t)) (last + 1) s))), (Value.int (Int32.ofInt (s))), vU], [], zS (eV V) J tg)) (fun _ _ => True) (last + 1) (by
    intro s _ hs _
    obtain ⟨e1, -⟩ := slot_m hI q (s := s) (by omega)
    have hms := hm s
    have hrv := rvo_rg (m := mN B) (S := last + 1) (n := s) (by omega) hg
    have hs1 : rvo (mN B) (fun s t => gN B s (pd (mN B) (last + 1) i s) t (pd (mN B) (last + 1) i t)) (last + 1) (s + 1) = if mN B s = 0 then rvo (mN B) (fun s t => gN B s (pd (mN B) (last + 1) i s) t (pd (mN B) (last + 1) i t)) (last + 1) s else rvi (mN B) (fun s t => gN B s (pd (mN B) (last + 1) i s) t (pd (mN B) (last + 1) i t)) s (rvo (mN B) (fun s t => gN B s (pd (mN B) (last + 1) i s) t (pd (mN B) (last + 1) i t)) (last + 1) s) (last + 1 - (s + 1)) := rfl
    rw [hs1]
    generalize rvo (mN B) (fun s t => gN B s (pd (mN B) (last + 1) i s) t (pd (mN B) (last + 1) i t)) (last + 1) s = v at hrv ⊢
    refine ⟨(), trivial, fun r hr => ?_⟩
    apply sg_266_91
    simp (disch := omega) only [eV_at, eV_up, o_lit2, o_add, o_sub, o_mul, o_neg, o_div, o_nat, ix_t, o_lt, o_le, o_eq, o_bi0, o_bi1, o_bib, em_t, o_neg1, o_shl, o_tb, o_tb0, o_tt, o_and, o_xor, o_or, o_max, o_min, an_tb, and_true, true_and, not_true, not_false, if_true, if_false, tn_add, tn_mul, Int.reduceToNat, tn_cast, md_x]
    rw [if_neg (by omega)]
    by_cases g : mN B s = 0
    · rw [if_pos g] at hr
      rw [g] at e1
      apply sg_266_103
      simp (disch := omega) only [e1, eV_at, eV_up, o_lit2, o_add, o_sub, o_mul, o_neg, o_div, o_nat, ix_t, o_lt, o_le, o_eq, o_bi0, o_bi1, o_bib, em_t, o_neg1, o_shl, o_tb, o_tb0, o_tt, o_and, o_xor, o_or, o_max, o_min, an_tb, and_true, true_and, not_true, not_false, if_true, if_false, tn_add, tn_mul, Int.reduceToNat, tn_cast, md_x]
      by_cases c : last < s + 1
      · rw [if_pos (by omega)]; exact hr
      · rw [if_neg (by omega), if_pos (by omega)]; exact hr
    · rw [if_neg g] at hr
      have hds := pd_dg hm (s := last + 1) (p := i) (t := s) (by omega)
      have hds : pd (mN B) (last + 1) i s < mN B s := by unfold mm at hds; rw [if_neg g] at hds; exact hds
      have k1 := m_264 (L := L) (xs := xs) (J := J) (tg := tg) (d := d + 3) hI q (s := s) (by omega) (h106 s (by omega)) hds
      obtain ⟨o1, o1'⟩ := of_lt hI (s := s) (by omega) hds
      obtain ⟨_, _, hri⟩ := loopN (g := GW L xs) (d := d + 4) (mid := 266) (σ := Unit) (fun k _ => (103, [.ref 93, (Value.int (Int32.ofInt (last))), .int x2, (Value.int (Int32.ofInt (rvi (mN B) (fun s t => gN B s (pd (mN B) (last + 1) i s) t (pd (mN B) (last + 1) i t)) s v k))), (Value.int (Int32.ofInt (s))), (Value.int (Int32.ofInt ((s + 1 + k : Nat))))], [], zS (eV V) J tg)) (fun _ _ => True) (last + 1 - (s + 1)) (by
        intro k _ hk _
        obtain ⟨e2, -⟩ := slot_m hI q (s := s + 1 + k) (by omega)
        have hmt := hm (s + 1 + k)
        have hrr := rvi_rg (m := mN B) (s := s) (acc := v) hg hrv k
        have hk1 : rvi (mN B) (fun s t => gN B s (pd (mN B) (last + 1) i s) t (pd (mN B) (last + 1) i t)) s v (k + 1) = if mN B (s + 1 + k) = 0 then rvi (mN B) (fun s t => gN B s (pd (mN B) (last + 1) i s) t (pd (mN B) (last + 1) i t)) s v k else min (rvi (mN B) (fun s t => gN B s (pd (mN B) (last + 1) i s) t (pd (mN B) (last + 1) i t)) s v k) (gN B s (pd (mN B) (last + 1) i s) (s + 1 + k) (pd (mN B) (last + 1) i (s + 1 + k))) := rfl
        rw [hk1]
        generalize rvi (mN B) (fun s t => gN B s (pd (mN B) (last + 1) i s) t (pd (mN B) (last + 1) i t)) s v k = w at hrr ⊢
        refine ⟨(), trivial, fun r hr => ?_⟩
        apply sg_266_103
        by_cases g2 : mN B (s + 1 + k) = 0
        · rw [if_pos g2] at hr
          rw [g2] at e2
          simp (disch := omega) only [e1, e2, eV_at, eV_up, o_lit2, o_add, o_sub, o_mul, o_neg, o_div, o_nat, ix_t, o_lt, o_le, o_eq, o_bi0, o_bi1, o_bib, em_t, o_neg1, o_shl, o_tb, o_tb0, o_tt, o_and, o_xor, o_or, o_max, o_min, an_tb, and_true, true_and, not_true, not_false, if_true, if_false, tn_add, tn_mul, Int.reduceToNat, tn_cast, md_x]
          rw [if_neg (by omega), if_neg (by omega), if_pos (by omega)]
          exact hr
        · rw [if_neg g2] at hr
          have hdt := pd_dg hm (s := last + 1) (p := i) (t := s + 1 + k) (by omega)
          have hdt : pd (mN B) (last + 1) i (s + 1 + k) < mN B (s + 1 + k) := by unfold mm at hdt; rw [if_neg g2] at hdt; exact hdt
          have k2 := m_264 (L := L) (xs := xs) (J := J) (tg := tg) (d := d + 3) hI q (s := s + 1 + k) (by omega) (h106 (s + 1 + k) (by omega)) hdt
          obtain ⟨o2, o2'⟩ := of_lt hI (s := s + 1 + k) (by omega) hdt
          have hfar := h108 _ _ o1 o2
          have hfar : V 108 (12 * (B 20 (s * 4 + pd (mN B) (last + 1) i s)).toNat + (B 20 ((s + 1 + k) * 4 + pd (mN B) (last + 1) i (s + 1 + k))).toNat) = gN B s (pd (mN B) (last + 1) i s) (s + 1 + k) (pd (mN B) (last + 1) i (s + 1 + k)) := hfar
          have hgv := hG s (pd (mN B) (last + 1) i s) (s + 1 + k) (pd (mN B) (last + 1) i (s + 1 + k))
          rw [o1'] at k1
          rw [o2'] at k2
          generalize gN B s (pd (mN B) (last + 1) i s) (s + 1 + k) (pd (mN B) (last + 1) i (s + 1 + k)) = gv at hfar hgv hr
          generalize (B 20 (s * 4 + pd (mN B) (last + 1) i s)).toNat = a at o1 k1 hfar
          generalize (B 20 ((s + 1 + k) * 4 + pd (mN B) (last + 1) i (s + 1 + k))).toNat = b at o2 k2 hfar
          simp (disch := omega) only [e1, e2, eV_at, eV_up, o_lit2, o_add, o_sub, o_mul, o_neg, o_div, o_nat, ix_t, o_lt, o_le, o_eq, o_bi0, o_bi1, o_bib, em_t, o_neg1, o_shl, o_tb, o_tb0, o_tt, o_and, o_xor, o_or, o_max, o_min, an_tb, and_true, true_and, not_true, not_false, if_true, if_false, tn_add, tn_mul, Int.reduceToNat, tn_cast, md_x]
          rw [if_neg (by omega), if_neg (by omega), if_neg (by omega)]
          refine ⟨_, _, _, k1, _, _, _, k2, ?_⟩
          simp (disch := omega) only [hfar, eV_at, eV_up, o_lit2, o_add, o_sub, o_mul, o_neg, o_div, o_nat, ix_t, o_lt, o_le, o_eq, o_bi0, o_bi1, o_bib, em_t, o_neg1, o_shl, o_tb, o_tb0, o_tt, o_and, o_xor, o_or, o_max, o_min, an_tb, and_true, true_and, not_true, not_false, if_true, if_false, tn_add, tn_mul, Int.reduceToNat, tn_cast, md_x]
          by_cases c : w ≤ gv
          · rw [if_pos c]
            rw [Int.min_eq_left c] at hr
            exact hr
          · rw [if_neg c]
            rw [Int.min_eq_right (by omega)] at hr
            refine ⟨_, _, _, k1, _, _, _, k2, ?_⟩
            simp (disch := omega) only [hfar, eV_at, eV_up, o_lit2, o_add, o_sub, o_mul, o_neg, o_div, o_nat, ix_t, o_lt, o_le, o_eq, o_bi0, o_bi1, o_bib, em_t, o_neg1, o_shl, o_tb, o_tb0, o_tt, o_and, o_xor, o_or, o_max, o_min, an_tb, and_true, true_and, not_true, not_false, if_true, if_false, tn_add, tn_mul, Int.reduceToNat, tn_cast, md_x]
            exact hr) (last + 1 - (s + 1)) 0 () (by omega) trivial
      refine hri _ ?_
      apply sg_266_103
      rw [show s + 1 + (last + 1 - (s + 1)) = last + 1 by omega]
      simp (disch := omega) only [eV_at, eV_up, o_lit2, o_add, o_sub, o_mul, o_neg, o_div, o_nat, ix_t, o_lt, o_le, o_eq, o_bi0, o_bi1, o_bib, em_t, o_neg1, o_shl, o_tb, o_tb0, o_tt, o_and, o_xor, o_or, o_max, o_min, an_tb, and_true, true_and, not_true, not_false, if_true, if_false, tn_add, tn_mul, Int.reduceToNat, tn_cast, md_x]
      rw [if_pos (by omega)]
      exact hr) (last + 1) 0 () (by omega) trivial
  rw [rvo_vv] at hr
  exact hr
def CC (B W : Nat → Nat → Int) (S : Nat) (y : Int × Nat) : Prop := y.1 ≠ -1 → ∀ t, t < S → mN B t ≠ 0 → W 107 t = B 20 (t * 4 + pd (mN B) S y.2 t)
/-- choose -/
theorem m_266 (hI : INV B) (q : Qy B V) {last : Nat} (hl : last ≤ 5) : ∃ W, CF V W ∧ W 93 32 = (rf (mN B) (gN B) (last + 1) 0 (pr (mN B) (last + 1)) (-1, 0)).1 ∧ CC B W (last + 1) (rf (mN B) (gN B) (last + 1) 0 (pr (mN B) (last + 1)) (-1, 0)) ∧ Runs (GW L xs) (d + 4) 266 (0, [.ref 93, (Value.int (Int32.ofInt (last))), vU, vU, vU, vU], [], zS (eV (V)) J tg) (none, zS (eV (W)) J tg) := by
  have hG := gN_rg hI.1
  have hm := mN_le hI.1
  obtain ⟨A, a1, a2, a3, a4⟩ := m_266a (L := L) (xs := xs) (J := J) (tg := tg) (d := d) hI q (x1 := Int32.ofInt last)
  obtain ⟨Z, z1, z2, z3, z4, z5⟩ := m_266z (L := L) (xs := xs) (J := J) (tg := tg) (d := d) (V := A) (x1 := Int32.ofInt last)
  have hpos := pr_pos hm (last + 1)
  obtain ⟨W, ⟨i1, i2, i3, i4, i5, i6⟩, hr⟩ := loopN (g := GW L xs) (d := d + 4) (mid := 266) (σ := Nat → Nat → Int) (fun i W => (81, [.ref 93, (Value.int (Int32.ofInt (last))), (Value.int (Int32.ofInt (bi (i < pr (mN B) (last + 1))))), vU, vU, vU], [], zS (eV W) J tg)) (fun i W => CF V W ∧ (∀ a b, a < (B 1 0).toNat → b < (B 1 0).toNat → W 108 (12 * a + b) = FAR B a b) ∧ (i < pr (mN B) (last + 1) → ∀ t, t < last + 1 → W 106 t = pd (mN B) (last + 1) i t) ∧ (∀ t, last + 1 ≤ t → t < 6 → W 106 t = 0) ∧ W 93 32 = (rf (mN B) (gN B) (last + 1) 0 i (-1, 0)).1 ∧ CC B W (last + 1) (rf (mN B) (gN B) (last + 1) 0 i (-1, 0))) (pr (mN B) (last + 1)) (by
    intro i W hi ⟨i1, i2, i3, i4, i5, i6⟩
    have qW := q.cf i1
    have i3 := i3 hi
    have hv := m_266v (L := L) (xs := xs) (J := J) (tg := tg) (d := d) hI qW (last := last) (i := i) hl (x2 := Int32.ofInt (bi (i < pr (mN B) (last + 1)))) i2 i3
    have hvr := vv_rg (m := mN B) hG (last + 1) i
    have hyr := rf_rg (m := mN B) (S := last + 1) (a := 0) hG (x := (-1, 0)) (by decide) i
    have hs := rf_s (m := mN B) (G := gN B) (S := last + 1) (a := 0) (n := i) (x := (-1, 0))
    rw [Nat.zero_add] at hs
    generalize rf (mN B) (gN B) (last + 1) 0 i (-1, 0) = y at i5 i6 hyr hs
    -- the next choice, behind any state that is like W
    have nx : ∀ X : Nat → Nat → Int, CF W X → X 106 = W 106 → X 108 = W 108 → ∃ Y, CF W Y ∧ (∀ c, c ≠ 106 → Y c = X c) ∧ (i + 1 < pr (mN B) (last + 1) → ∀ t, t < last + 1 → Y 106 t = pd (mN B) (last + 1) (i + 1) t) ∧ (∀ t, last + 1 ≤ t → t < 6 → Y 106 t = 0) ∧ Runs (GW L xs) (d + 3) 265 (0, [.ref 93, (Value.int (Int32.ofInt (last))), vU], [], zS (eV (X)) J tg) (some (Value.int (Int32.ofInt (bi (i + 1 < pr (mN B) (last + 1))))), zS (eV (Y)) J tg) := by
      intro X fX e106 e108
      obtain ⟨Y, y1, y2, y3, y4⟩ := m_265 (L := L) (xs := xs) (J := J) (tg := tg) (d := d + 3) hI (last + 1) (p := i) (V := X) (x1 := Int32.ofInt last) (by omega) (qW.cf fX) hi (fun t ht => by rw [e106]; exact i3 t ht)
      have ex : ((last + 1 : Nat) : Int) - 1 = (last : Int) := by omega
      rw [ex] at y4
      refine ⟨Y, fX.tr y1, y2, ?_, fun t h1 h2 => by rw [y3 t h1, e106]; exact i4 t h1 h2, ?_⟩
      · rcases y4 with ⟨b1, b2, b3⟩ | ⟨b1, b2, b3⟩
        · exact fun _ => b2
        · exact fun h => by omega
      · apply sg_265
        rcases y4 with ⟨b1, b2, b3⟩ | ⟨b1, b2, b3⟩
        · rw [show bi (i + 1 < pr (mN B) (last + 1)) = 1 from (bi_t b1).symm]; exact b3
        · rw [show bi (i + 1 < pr (mN B) (last + 1)) = 0 from (bi_f (by omega)).symm]; exact b3
    have enter : ∀ r, Runs (GW L xs) (d + 4) 266 (91, [.ref 93, (Value.int (Int32.ofInt (last))), (Value.int (Int32.ofInt (bi (i < pr (mN B) (last + 1))))), (Value.int (Int32.ofInt (vv (mN B) (gN B) (last + 1) i))), (Value.int (Int32.ofInt ((last + 1 : Nat)))), vU], [], zS (eV W) J tg) r → Runs (GW L xs) (d + 4) 266 (81, [.ref 93, (Value.int (Int32.ofInt (last))), (Value.int (Int32.ofInt (bi (i < pr (mN B) (last + 1))))), vU, vU, vU], [], zS (eV W) J tg) r := fun r hr => by
      apply sg_266_81
      rw [if_neg (b0_f hi)]
      exact hv _ hr
    generalize vv (mN B) (gN B) (last + 1) i = v at hvr hs enter
    by_cases c : y.1 < v
    · rw [if_pos c] at hs
      rw [hs]
      -- the DRAWINGS that are chosen are written down
      have f93 : CF W (up2 W 93 32 v) := CF.rf.u (by omega)
      obtain ⟨X, ⟨x1, x2, x3, x4⟩, hrX⟩ := loopN (g := GW L xs) (d := d + 4) (mid := 266) (σ := Nat → Nat → Int) (fun t X => (212, [.ref 93, (Value.int (Int32.ofInt (last))), (Value.int (Int32.ofInt (bi (i < pr (mN B) (last + 1))))), (Value.int (Int32.ofInt (v))), (Value.int (Int32.ofInt (t))), vU], [], zS (eV X) J tg)) (fun t X => CF W X ∧ (∀ c, c ≠ 93 → c ≠ 107 → X c = W c) ∧ X 93 32 = v ∧ ∀ t', t' < t → t' < last + 1 → mN B t' ≠ 0 → X 107 t' = B 20 (t' * 4 + pd (mN B) (last + 1) i t')) 6 (by
        intro t X ht ⟨x1, x2, x3, x4⟩
        have qX := qW.cf x1
        obtain ⟨e1, -⟩ := slot_m hI qX (s := t) ht
        have hmt := hm t
        by_cases g : mN B t = 0
        · rw [g] at e1
          refine ⟨up2 X 107 t (-1), ⟨x1.u (by omega), fun c q1 q2 => by rw [w_ne _ _ _ _ q2]; exact x2 c q1 q2, by rw [w_nc _ _ _ _ (by decide)]; exact x3, fun t' h1 h2 h3 => ?_⟩, fun r hr => ?_⟩
          · by_cases et : t' = t
            · subst et; exact absurd g h3
            · rw [w_at, if_neg et]; exact x4 t' (by omega) h2 h3
          · apply sg_266_212
            simp (disch := omega) only [e1, eV_at, eV_up, o_lit2, o_add, o_sub, o_mul, o_neg, o_div, o_nat, ix_t, o_lt, o_le, o_eq, o_bi0, o_bi1, o_bib, em_t, o_neg1, o_shl, o_tb, o_tb0, o_tt, o_and, o_xor, o_or, o_max, o_min, an_tb, and_true, true_and, not_true, not_false, if_true, if_false, tn_add, tn_mul, Int.reduceToNat, tn_cast, md_x]
            rw [if_neg (by omega), if_pos (by omega)]
            exact hr
        · have e106 : X 106 = W 106 := x2 106 (by decide) (by decide)
          have hj : ∃ j : Nat, X 106 t = j ∧ j < mN B t ∧ (t < last + 1 → j = pd (mN B) (last + 1) i t) := by
            by_cases hlt : t < last + 1
            · have hdt := pd_dg hm (s := last + 1) (p := i) (t := t) hlt
              unfold mm at hdt
              rw [if_neg g] at hdt
              exact ⟨_, by rw [e106]; exact i3 t hlt, hdt, fun _ => rfl⟩
            · exact ⟨0, by rw [e106]; exact i4 t (by omega) ht, by omega, fun h => absurd h hlt⟩
          obtain ⟨j, j1, j2, j3⟩ := hj
          have k1 := m_264 (L := L) (xs := xs) (J := J) (tg := tg) (d := d + 3) hI qX (s := t) ht j1 j2
          refine ⟨up2 X 107 t (B 20 (t * 4 + j)), ⟨x1.u (by omega), fun c q1 q2 => by rw [w_ne _ _ _ _ q2]; exact x2 c q1 q2, by rw [w_nc _ _ _ _ (by decide)]; exact x3, fun t' h1 h2 h3 => ?_⟩, fun r hr => ?_⟩
          · by_cases et : t' = t
            · subst et; rw [w_eq, j3 h2]
            · rw [w_at, if_neg et]; exact x4 t' (by omega) h2 h3
          · apply sg_266_212
            simp (disch := omega) only [e1, eV_at, eV_up, o_lit2, o_add, o_sub, o_mul, o_neg, o_div, o_nat, ix_t, o_lt, o_le, o_eq, o_bi0, o_bi1, o_bib, em_t, o_neg1, o_shl, o_tb, o_tb0, o_tt, o_and, o_xor, o_or, o_max, o_min, an_tb, and_true, true_and, not_true, not_false, if_true, if_false, tn_add, tn_mul, Int.reduceToNat, tn_cast, md_x]
            rw [if_neg (by omega), if_neg (by omega)]
            refine ⟨_, _, _, k1, ?_⟩
            simp (disch := omega) only [eV_at, eV_up, o_lit2, o_add, o_sub, o_mul, o_neg, o_div, o_nat, ix_t, o_lt, o_le, o_eq, o_bi0, o_bi1, o_bib, em_t, o_neg1, o_shl, o_tb, o_tb0, o_tt, o_and, o_xor, o_or, o_max, o_min, an_tb, and_true, true_and, not_true, not_false, if_true, if_false, tn_add, tn_mul, Int.reduceToNat, tn_cast, md_x]
            exact hr) 6 0 (up2 W 93 32 v) (by omega) ⟨f93, fun c q1 _ => w_ne _ _ _ _ q1, w_eq _ _ _ _, fun t' h => by omega⟩
      obtain ⟨Y, y1, y2, y3, y4, y5⟩ := nx X x1 (x2 106 (by decide) (by decide)) (x2 108 (by decide) (by decide))
      refine ⟨Y, ⟨i1.tr y1, fun a b h1 h2 => by rw [y2 108 (by decide), x2 108 (by decide) (by decide)]; exact i2 a b h1 h2, y3, y4, by rw [y2 93 (by decide)]; exact x3, fun _ t h1 h2 => by rw [y2 107 (by decide)]; exact x4 t (by omega) h1 h2⟩, fun r hr => enter _ ?_⟩
      apply sg_266_91
      simp (disch := omega) only [i5, eV_at, eV_up, o_lit2, o_add, o_sub, o_mul, o_neg, o_div, o_nat, ix_t, o_lt, o_le, o_eq, o_bi0, o_bi1, o_bib, em_t, o_neg1, o_shl, o_tb, o_tb0, o_tt, o_and, o_xor, o_or, o_max, o_min, an_tb, and_true, true_and, not_true, not_false, if_true, if_false, tn_add, tn_mul, Int.reduceToNat, tn_cast, md_x]
      rw [if_pos (by omega), if_neg (by omega)]
      refine hrX _ ?_
      apply sg_266_212
      rw [if_pos (by decide)]
      exact ⟨_, _, _, y5, hr⟩
    · rw [if_neg c] at hs
      rw [hs]
      obtain ⟨Y, y1, y2, y3, y4, y5⟩ := nx W CF.rf rfl rfl
      refine ⟨Y, ⟨i1.tr y1, fun a b h1 h2 => by rw [y2 108 (by decide)]; exact i2 a b h1 h2, y3, y4, by rw [y2 93 (by decide)]; exact i5, fun h t h1 h2 => by rw [y2 107 (by decide)]; exact i6 h t h1 h2⟩, fun r hr => enter _ ?_⟩
      apply sg_266_91
      simp (disch := omega) only [i5, eV_at, eV_up, o_lit2, o_add, o_sub, o_mul, o_neg, o_div, o_nat, ix_t, o_lt, o_le, o_eq, o_bi0, o_bi1, o_bib, em_t, o_neg1, o_shl, o_tb, o_tb0, o_tt, o_and, o_xor, o_or, o_max, o_min, an_tb, and_true, true_and, not_true, not_false, if_true, if_false, tn_add, tn_mul, Int.reduceToNat, tn_cast, md_x]
      rw [if_pos (by omega), if_pos (by omega)]
      exact ⟨_, _, _, y5, hr⟩) (pr (mN B) (last + 1)) 0 Z (by omega) ⟨a1.tr z1, fun a b h1 h2 => by rw [z2 108 (by decide) (by decide)]; exact a3 a b h1 h2, fun _ t ht => by rw [z3 t (by omega), pd_0]; rfl, fun t _ ht => z3 t ht, z4, fun h => absurd rfl h⟩
  refine ⟨W, i1, i5, i6, ?_⟩
  apply sg_266
  refine a4 _ (z5 _ ?_)
  have e1 : bi (0 < pr (mN B) (last + 1)) = 1 := (bi_t hpos).symm
  rw [e1] at hr
  refine hr _ ?_
  apply sg_266_81
  rw [if_pos (b0_t (by omega))]
end CS
