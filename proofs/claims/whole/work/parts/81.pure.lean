/-! FAR in the reference. -/
theorem k_184 {L d : Nat} {xs : Nat → Int32} {V : Nat → Nat → Int} {J : Nat → Nat → Int64} {tg : Option Nat} {l w : Nat} (h : 20 + 22 * l + w < 1200) : Runs (GW L xs) (d) 184 (0, [.ref 93, (Value.int (Int32.ofInt (l))), (Value.int (Int32.ofInt (w)))], [], zS (eV (V)) J tg) (some (Value.int (Int32.ofInt (V 94 (20 + 22 * l + w)))), zS (eV (V)) J tg) := by
  refine sg_184 _ _ _ _ _ ?_
  simp (disch := omega) only [eV_at, eV_up, o_lit2, o_add, o_sub, o_mul, o_neg, o_div, o_nat, ix_t, o_lt, o_le, o_eq, o_bi0, o_bi1, o_bib, em_t, o_neg1, o_shl, o_tb, o_tb0, o_tt, o_and, o_xor, o_or, o_max, o_min, an_tb, and_true, true_and, not_true, not_false, if_true, if_false, tn_add, tn_mul, Int.reduceToNat, tn_cast, md_x]
theorem k_178 {L d : Nat} {xs : Nat → Int32} {V : Nat → Nat → Int} {J : Nat → Nat → Int64} {tg : Option Nat} {a : Int} (h : -1000 ≤ a ∧ a ≤ 1000) : Runs (GW L xs) (d) 178 (0, [(Value.int (Int32.ofInt (a)))], [], zS (eV (V)) J tg) (some (Value.int (Int32.ofInt (max a (-a)))), zS (eV (V)) J tg) := by
  refine sg_178 _ _ _ _ ?_
  simp (disch := omega) only [eV_at, eV_up, o_lit2, o_add, o_sub, o_mul, o_neg, o_div, o_nat, ix_t, o_lt, o_le, o_eq, o_bi0, o_bi1, o_bib, em_t, o_neg1, o_shl, o_tb, o_tb0, o_tt, o_and, o_xor, o_or, o_max, o_min, an_tb, and_true, true_and, not_true, not_false, if_true, if_false, tn_add, tn_mul, Int.reduceToNat, tn_cast, md_x]
  split
  · exact leafI (by omega)
  · exact leafI (by omega)
theorem k_185 {L d : Nat} {xs : Nat → Int32} {V : Nat → Nat → Int} {J : Nat → Nat → Int64} {tg : Option Nat} {s : Nat} (h : s < 4096) : Runs (GW L xs) (d) 185 (0, [(Value.int (Int32.ofInt (s))), vU, vU], [], zS (eV (V)) J tg) (some (Value.int (Int32.ofInt (pcn s 12))), zS (eV (V)) J tg) := by
  obtain ⟨_, _, hr⟩ := loopN (g := GW L xs) (d := d) (mid := 185) (σ := Unit) (fun i _ => (4, [(Value.int (Int32.ofInt (s))), (Value.int (Int32.ofInt (pcn s i))), (Value.int (Int32.ofInt (i)))], [], zS (eV V) J tg)) (fun _ _ => True) 12 (by
    intro i _ hi _
    refine ⟨(), trivial, fun r hr => sg_185_4 _ _ _ _ _ _ ?_⟩
    have e : ((pcn s (i + 1) : Nat) : Int) = pcn s i + (if s.testBit i = true then 1 else 0) := by
      show ((pcn s i + (if s.testBit i then 1 else 0) : Nat) : Int) = _
      cases s.testBit i <;> simp
    rw [e] at hr
    simp (disch := omega) only [eV_at, eV_up, o_lit2, o_add, o_sub, o_mul, o_neg, o_div, o_nat, ix_t, o_lt, o_le, o_eq, o_bi0, o_bi1, o_bib, em_t, o_neg1, o_shl, o_tb, o_tb0, o_tt, o_and, o_xor, o_or, o_max, o_min, an_tb, and_true, true_and, not_true, not_false, if_true, if_false, tn_add, tn_mul, Int.reduceToNat, tn_cast, md_x]
    rw [if_neg (by omega)]
    exact hr) 12 0 () (by omega) trivial
  refine sg_185 _ _ _ _ (hr _ (sg_185_4 _ _ _ _ _ _ ?_))
  simp (disch := omega) only [eV_at, eV_up, o_lit2, o_add, o_sub, o_mul, o_neg, o_div, o_nat, ix_t, o_lt, o_le, o_eq, o_bi0, o_bi1, o_bib, em_t, o_neg1, o_shl, o_tb, o_tb0, o_tt, o_and, o_xor, o_or, o_max, o_min, an_tb, and_true, true_and, not_true, not_false, if_true, if_false, tn_add, tn_mul, Int.reduceToNat, tn_cast, md_x]
  rw [if_pos (by omega)] <;> trivial
theorem k_196 {L d : Nat} {xs : Nat → Int32} {V : Nat → Nat → Int} {J : Nat → Nat → Int64} {tg : Option Nat} {p q : Int} (hp : 0 ≤ p ∧ p < 180) (hq : 0 ≤ q ∧ q < 180) : Runs (GW L xs) (d + 1) 196 (0, [.ref 93, (Value.int (Int32.ofInt (p))), (Value.int (Int32.ofInt (q))), vU, vU], [], zS (eV (V)) J tg) (some (Value.int (Int32.ofInt (cst (V 94 8) (V 94 9) p q))), zS (eV (V)) J tg) := by
  refine sg_196 _ _ _ _ _ ?_
  simp (disch := omega) only [eV_at, eV_up, o_lit2, o_add, o_sub, o_mul, o_neg, o_div, o_nat, ix_t, o_lt, o_le, o_eq, o_bi0, o_bi1, o_bib, em_t, o_neg1, o_shl, o_tb, o_tb0, o_tt, o_and, o_xor, o_or, o_max, o_min, an_tb, and_true, true_and, not_true, not_false, if_true, if_false, tn_add, tn_mul, Int.reduceToNat, tn_cast, md_x]
  refine ⟨_, _, _, k_178 (by omega), _, _, _, k_178 (by omega), ?_⟩
  simp (disch := omega) only [eV_at, eV_up, o_lit2, o_add, o_sub, o_mul, o_neg, o_div, o_nat, ix_t, o_lt, o_le, o_eq, o_bi0, o_bi1, o_bib, em_t, o_neg1, o_shl, o_tb, o_tb0, o_tt, o_and, o_xor, o_or, o_max, o_min, an_tb, and_true, true_and, not_true, not_false, if_true, if_false, tn_add, tn_mul, Int.reduceToNat, tn_cast, md_x]
  unfold cst
  have hz : ∀ a b, gapZ a b = max (max (a % 3 - b % 3) (-(a % 3 - b % 3))) (max (a / 3 - b / 3) (-(a / 3 - b / 3))) := fun a b => by unfold gapZ; omega
  rw [hz]
  split
  · rw [Int.max_eq_right (by assumption)]; split <;> rfl
  · rw [Int.max_eq_left (by omega)]; split <;> rfl
theorem SN_rg {ok : Nat → Nat → Bool} {c : Nat → Nat → Int} {dr : Int} {m : Nat} (hd : 0 ≤ dr ∧ dr ≤ 99) (hc : ∀ i j, 0 ≤ c i j) : ∀ i s, 0 ≤ SN ok c dr m i s ∧ SN ok c dr m i s ≤ 1000000 + 99 * i
  | 0, s => by unfold SN; split <;> omega
  | i + 1, s => by
    have h0 : SN ok c dr m (i + 1) s = sst s (ok i) (c i) (SN ok c dr m i) m (SN ok c dr m i s + dr) := rfl
    have h1 := SN_rg (ok := ok) (m := m) hd hc i s
    have h2 : sst s (ok i) (c i) (SN ok c dr m i) m (SN ok c dr m i s + dr) ≤ SN ok c dr m i s + dr := (le_sst.mp (Int.le_refl _)).1
    have h3 : 0 ≤ sst s (ok i) (c i) (SN ok c dr m i) m (SN ok c dr m i s + dr) := by
      rw [le_sst]
      refine ⟨by omega, fun j _ _ _ => ?_⟩
      have := SN_rg (ok := ok) (m := m) hd hc i (s ^^^ 2 ^ j)
      have := hc i j
      omega
    rw [h0]; omega
theorem sst_rg {s : Nat} {ok : Nat → Bool} {c r : Nat → Int} (hc : ∀ j, 0 ≤ c j) (hr : ∀ j, 0 ≤ r j) {m : Nat} {acc : Int} (ha : 0 ≤ acc) : 0 ≤ sst s ok c r m acc ∧ sst s ok c r m acc ≤ acc := ⟨le_sst.mpr ⟨ha, fun j _ _ _ => by have := hc j; have := hr (s ^^^ 2 ^ j); omega⟩, (le_sst.mp (Int.le_refl _)).1⟩
theorem sst_t {s : Nat} {ok : Nat → Bool} {c r : Nat → Int} {j : Nat} {acc : Int} (h : (s.testBit j && ok j) = true) : sst s ok c r (j + 1) acc = min (sst s ok c r j acc) (r (s ^^^ 2 ^ j) + c j) := if_pos h
theorem sst_f {s : Nat} {ok : Nat → Bool} {c r : Nat → Int} {j : Nat} {acc : Int} (h : ¬ (s.testBit j && ok j) = true) : sst s ok c r (j + 1) acc = sst s ok c r j acc := if_neg h
/-- what farOf needs of the reference's numbers -/
def okL (V : Nat → Nat → Int) (l n : Nat) (p : Nat → Int) (cp : Int) : Prop := l < 25 ∧ n ≤ 6 ∧ V 94 (20 + 22 * l + 0) = n ∧ V 94 (20 + 22 * l + 1) = cp ∧ (0 ≤ cp ∧ cp ≤ 3) ∧ ∀ i, i < n → V 94 (20 + 22 * l + (4 + i)) = p i ∧ 0 ≤ p i ∧ p i < 180
def okW (V : Nat → Nat → Int) : Prop := (0 ≤ V 94 8 ∧ V 94 8 ≤ 99) ∧ (0 ≤ V 94 9 ∧ V 94 9 ≤ 99) ∧ (0 ≤ V 94 10 ∧ V 94 10 ≤ 99) ∧ (0 ≤ V 94 11 ∧ V 94 11 ≤ 99)
theorem cst_rg {mv tn p q : Int} (h1 : 0 ≤ mv ∧ mv ≤ 99) (h2 : 0 ≤ tn ∧ tn ≤ 99) : 0 ≤ cst mv tn p q ∧ cst mv tn p q ≤ 297 := by
  have := mul_rg h1 (gapZ_rg (P := p / 4 % 9) (Q := q / 4 % 9) (by omega) (by omega))
  unfold cst
  split <;> omega
section FM
variable {L d : Nat} {xs : Nat → Int32} {J : Nat → Nat → Int64} {tg : Option Nat} {V : Nat → Nat → Int} {a b n m : Nat} {p q : Nat → Int} {cp cq : Int}
theorem k_197j {W : Nat → Nat → Int} (hW : okW W) (hb : okL W b m q cq) {i s : Nat} {x1 : Int} {F : Nat → Int} (hp : 0 ≤ p i ∧ p i < 180) (hs : s < 2 ^ m) (hF : ∀ t, t < 2 ^ m → W 97 t = F t) (hFb : ∀ t, 0 ≤ F t ∧ F t ≤ 1100000) {acc : Int} (hacc : 0 ≤ acc ∧ acc ≤ 1100000) (h98 : W 98 s = acc) : ∃ X, (∀ c, c ≠ 98 → X c = W c) ∧ (∀ x, x ≠ s → X 98 x = W 98 x) ∧ X 98 s = sst s (okF p q i) (csF (W 94 8) (W 94 9) p q i) F m acc ∧ Rch (GW L xs) (d + 2) 197 (103, [.ref 93, (Value.int (Int32.ofInt (x1))), (Value.int (Int32.ofInt (b))), (Value.int (Int32.ofInt (m))), (Value.int (Int32.ofInt (i))), (Value.int (Int32.ofInt (p i))), (Value.int (Int32.ofInt (s))), (Value.int (Int32.ofInt (0))), vU, vU], [], zS (eV W) J tg) (103, [.ref 93, (Value.int (Int32.ofInt (x1))), (Value.int (Int32.ofInt (b))), (Value.int (Int32.ofInt (m))), (Value.int (Int32.ofInt (i))), (Value.int (Int32.ofInt (p i))), (Value.int (Int32.ofInt (s))), (Value.int (Int32.ofInt (m))), vU, vU], [], zS (eV X) J tg) := by
  obtain ⟨b1, b2, b3, b4, b5, b6⟩ := hb
  have h64 := p2_64 b2
  obtain ⟨X, ⟨i1, i2, i3⟩, hr⟩ := loopN (g := GW L xs) (d := d + 2) (mid := 197) (σ := Nat → Nat → Int) (fun j X => (103, [.ref 93, (Value.int (Int32.ofInt (x1))), (Value.int (Int32.ofInt (b))), (Value.int (Int32.ofInt (m))), (Value.int (Int32.ofInt (i))), (Value.int (Int32.ofInt (p i))), (Value.int (Int32.ofInt (s))), (Value.int (Int32.ofInt (j))), vU, vU], [], zS (eV X) J tg)) (fun j X => (∀ c, c ≠ 98 → X c = W c) ∧ (∀ x, x ≠ s → X 98 x = W 98 x) ∧ X 98 s = sst s (okF p q i) (csF (W 94 8) (W 94 9) p q i) F j acc) m (by
    intro j X hj ⟨i1, i2, i3⟩
    have e94 : X 94 = W 94 := i1 94 (by decide)
    have e97 : X 97 = W 97 := i1 97 (by decide)
    obtain ⟨b7, b8, b9⟩ := b6 j hj
    have hx := x_lt hs hj
    have hc := cst_rg (p := p i) (q := q j) hW.1 hW.2.1
    have hFx := hFb (s ^^^ 2 ^ j)
    have hF' := hF _ hx
    have hsr := sst_rg (s := s) (ok := okF p q i) (c := csF (W 94 8) (W 94 9) p q i) (r := F) (m := j) (acc := acc) (fun j => (cst_rg hW.1 hW.2.1).1) (fun j => (hFb j).1) hacc.1
    have k1 := k_184 (L := L) (xs := xs) (J := J) (tg := tg) (d := d + 1) (V := X) (l := b) (w := 4 + j) (by omega)
    rw [e94, b7] at k1
    have k2 := k_196 (L := L) (xs := xs) (J := J) (tg := tg) (d := d) (V := X) hp ⟨b8, b9⟩
    rw [e94] at k2
    by_cases ht : s.testBit j = true
    · by_cases ho : p i / 36 = q j / 36
      · by_cases hm : sst s (okF p q i) (csF (W 94 8) (W 94 9) p q i) F j acc ≤ F (s ^^^ 2 ^ j) + cst (W 94 8) (W 94 9) (p i) (q j)
        · refine ⟨X, ⟨i1, i2, ?_⟩, fun r hr => sg_197_103 _ _ _ _ _ _ _ _ _ _ ?_⟩
          · rw [i3, sst_t (by simp [ht, okF, ho])]; exact (Int.min_eq_left hm).symm
          · simp (disch := omega) only [eV_at, eV_up, o_lit2, o_add, o_sub, o_mul, o_neg, o_div, o_nat, ix_t, o_lt, o_le, o_eq, o_bi0, o_bi1, o_bib, em_t, o_neg1, o_shl, o_tb, o_tb0, o_tt, o_and, o_xor, o_or, o_max, o_min, an_tb, and_true, true_and, not_true, not_false, if_true, if_false, tn_add, tn_mul, Int.reduceToNat, tn_cast, md_x]
            rw [if_neg (by omega)]
            refine ⟨_, _, _, k1, ?_⟩
            simp (disch := omega) only [e97, hF', i3, eV_at, eV_up, o_lit2, o_add, o_sub, o_mul, o_neg, o_div, o_nat, ix_t, o_lt, o_le, o_eq, o_bi0, o_bi1, o_bib, em_t, o_neg1, o_shl, o_tb, o_tb0, o_tt, o_and, o_xor, o_or, o_max, o_min, an_tb, and_true, true_and, not_true, not_false, if_true, if_false, tn_add, tn_mul, Int.reduceToNat, tn_cast, md_x]
            rw [if_neg (by rw [ht]; simp), if_pos ho]
            refine ⟨_, _, _, k2, ?_⟩
            simp (disch := omega) only [e97, hF', i3, eV_at, eV_up, o_lit2, o_add, o_sub, o_mul, o_neg, o_div, o_nat, ix_t, o_lt, o_le, o_eq, o_bi0, o_bi1, o_bib, em_t, o_neg1, o_shl, o_tb, o_tb0, o_tt, o_and, o_xor, o_or, o_max, o_min, an_tb, and_true, true_and, not_true, not_false, if_true, if_false, tn_add, tn_mul, Int.reduceToNat, tn_cast, md_x]
            rw [if_pos hm]
            exact hr
        · refine ⟨up2 X 98 s (F (s ^^^ 2 ^ j) + cst (W 94 8) (W 94 9) (p i) (q j)), ⟨fun c q => by rw [w_ne _ _ _ _ q]; exact i1 c q, fun x q => by rw [w_at, if_neg q]; exact i2 x q, ?_⟩, fun r hr => sg_197_103 _ _ _ _ _ _ _ _ _ _ ?_⟩
          · rw [w_eq, sst_t (by simp [ht, okF, ho])]; exact (Int.min_eq_right (Int.le_of_lt (Int.not_le.mp hm))).symm
          · simp (disch := omega) only [eV_at, eV_up, o_lit2, o_add, o_sub, o_mul, o_neg, o_div, o_nat, ix_t, o_lt, o_le, o_eq, o_bi0, o_bi1, o_bib, em_t, o_neg1, o_shl, o_tb, o_tb0, o_tt, o_and, o_xor, o_or, o_max, o_min, an_tb, and_true, true_and, not_true, not_false, if_true, if_false, tn_add, tn_mul, Int.reduceToNat, tn_cast, md_x]
            rw [if_neg (by omega)]
            refine ⟨_, _, _, k1, ?_⟩
            simp (disch := omega) only [e97, hF', i3, eV_at, eV_up, o_lit2, o_add, o_sub, o_mul, o_neg, o_div, o_nat, ix_t, o_lt, o_le, o_eq, o_bi0, o_bi1, o_bib, em_t, o_neg1, o_shl, o_tb, o_tb0, o_tt, o_and, o_xor, o_or, o_max, o_min, an_tb, and_true, true_and, not_true, not_false, if_true, if_false, tn_add, tn_mul, Int.reduceToNat, tn_cast, md_x]
            rw [if_neg (by rw [ht]; simp), if_pos ho]
            refine ⟨_, _, _, k2, ?_⟩
            simp (disch := omega) only [e97, hF', i3, eV_at, eV_up, o_lit2, o_add, o_sub, o_mul, o_neg, o_div, o_nat, ix_t, o_lt, o_le, o_eq, o_bi0, o_bi1, o_bib, em_t, o_neg1, o_shl, o_tb, o_tb0, o_tt, o_and, o_xor, o_or, o_max, o_min, an_tb, and_true, true_and, not_true, not_false, if_true, if_false, tn_add, tn_mul, Int.reduceToNat, tn_cast, md_x]
            rw [if_neg hm]
            exact hr
      · refine ⟨X, ⟨i1, i2, ?_⟩, fun r hr => sg_197_103 _ _ _ _ _ _ _ _ _ _ ?_⟩
        · rw [i3, sst_f (by simp [okF, ho])]
        · simp (disch := omega) only [eV_at, eV_up, o_lit2, o_add, o_sub, o_mul, o_neg, o_div, o_nat, ix_t, o_lt, o_le, o_eq, o_bi0, o_bi1, o_bib, em_t, o_neg1, o_shl, o_tb, o_tb0, o_tt, o_and, o_xor, o_or, o_max, o_min, an_tb, and_true, true_and, not_true, not_false, if_true, if_false, tn_add, tn_mul, Int.reduceToNat, tn_cast, md_x]
          rw [if_neg (by omega)]
          refine ⟨_, _, _, k1, ?_⟩
          simp (disch := omega) only [eV_at, eV_up, o_lit2, o_add, o_sub, o_mul, o_neg, o_div, o_nat, ix_t, o_lt, o_le, o_eq, o_bi0, o_bi1, o_bib, em_t, o_neg1, o_shl, o_tb, o_tb0, o_tt, o_and, o_xor, o_or, o_max, o_min, an_tb, and_true, true_and, not_true, not_false, if_true, if_false, tn_add, tn_mul, Int.reduceToNat, tn_cast, md_x]
          rw [if_neg (by rw [ht]; simp), if_neg ho]
          exact hr
    · refine ⟨X, ⟨i1, i2, ?_⟩, fun r hr => sg_197_103 _ _ _ _ _ _ _ _ _ _ ?_⟩
      · rw [i3, sst_f (by simp [ht])]
      · simp (disch := omega) only [eV_at, eV_up, o_lit2, o_add, o_sub, o_mul, o_neg, o_div, o_nat, ix_t, o_lt, o_le, o_eq, o_bi0, o_bi1, o_bib, em_t, o_neg1, o_shl, o_tb, o_tb0, o_tt, o_and, o_xor, o_or, o_max, o_min, an_tb, and_true, true_and, not_true, not_false, if_true, if_false, tn_add, tn_mul, Int.reduceToNat, tn_cast, md_x]
        rw [if_neg (by omega)]
        refine ⟨_, _, _, k1, ?_⟩
        simp (disch := omega) only [eV_at, eV_up, o_lit2, o_add, o_sub, o_mul, o_neg, o_div, o_nat, ix_t, o_lt, o_le, o_eq, o_bi0, o_bi1, o_bib, em_t, o_neg1, o_shl, o_tb, o_tb0, o_tt, o_and, o_xor, o_or, o_max, o_min, an_tb, and_true, true_and, not_true, not_false, if_true, if_false, tn_add, tn_mul, Int.reduceToNat, tn_cast, md_x]
        rw [if_pos (Bool.eq_false_iff.mpr ht)]
        exact hr) m 0 W (by omega) ⟨fun _ _ => rfl, fun _ _ => rfl, h98⟩
  exact ⟨X, i1, i2, i3, hr⟩
theorem k_197s {W : Nat → Nat → Int} (hW : okW W) (hb : okL W b m q cq) {i : Nat} {x1 : Int} (hp : 0 ≤ p i ∧ p i < 180) (hi6 : i < 6) (hF : ∀ t, t < 2 ^ m → W 97 t = SN (okF p q) (csF (W 94 8) (W 94 9) p q) (W 94 10) m i t) : ∃ X, (∀ c, c ≠ 98 → X c = W c) ∧ (∀ t, t < 2 ^ m → X 98 t = SN (okF p q) (csF (W 94 8) (W 94 9) p q) (W 94 10) m (i + 1) t) ∧ Rch (GW L xs) (d + 2) 197 (70, [.ref 93, (Value.int (Int32.ofInt (x1))), (Value.int (Int32.ofInt (b))), (Value.int (Int32.ofInt (m))), (Value.int (Int32.ofInt (i))), (Value.int (Int32.ofInt (p i))), (Value.int (Int32.ofInt (0))), vU, vU, vU], [], zS (eV W) J tg) (70, [.ref 93, (Value.int (Int32.ofInt (x1))), (Value.int (Int32.ofInt (b))), (Value.int (Int32.ofInt (m))), (Value.int (Int32.ofInt (i))), (Value.int (Int32.ofInt (p i))), (Value.int (Int32.ofInt ((2 ^ m : Nat)))), vU, vU, vU], [], zS (eV X) J tg) := by
  have hm6 : m ≤ 6 := hb.2.1
  have h64 := p2_64 hm6
  have hsn := SN_rg (ok := okF p q) (c := csF (W 94 8) (W 94 9) p q) (m := m) hW.2.2.1 (fun i j => (cst_rg hW.1 hW.2.1).1) i
  have hdr := hW.2.2.1
  obtain ⟨X, ⟨i1, i2⟩, hr⟩ := loopN (g := GW L xs) (d := d + 2) (mid := 197) (σ := Nat → Nat → Int) (fun s X => (70, [.ref 93, (Value.int (Int32.ofInt (x1))), (Value.int (Int32.ofInt (b))), (Value.int (Int32.ofInt (m))), (Value.int (Int32.ofInt (i))), (Value.int (Int32.ofInt (p i))), (Value.int (Int32.ofInt (s))), vU, vU, vU], [], zS (eV X) J tg)) (fun s X => (∀ c, c ≠ 98 → X c = W c) ∧ ∀ t, t < s → X 98 t = SN (okF p q) (csF (W 94 8) (W 94 9) p q) (W 94 10) m (i + 1) t) (2 ^ m) (by
    intro s X hs ⟨i1, i2⟩
    have e94 : X 94 = W 94 := i1 94 (by decide)
    have e97 : X 97 = W 97 := i1 97 (by decide)
    have hs0 := hsn s
    have hY : ∀ c, c ≠ 98 → up2 X 98 s (SN (okF p q) (csF (W 94 8) (W 94 9) p q) (W 94 10) m i s + W 94 10) c = W c := fun c h => by rw [w_ne _ _ _ _ h]; exact i1 c h
    have y94 := hY 94 (by decide)
    have y97 := hY 97 (by decide)
    obtain ⟨Y, j1, j2, j3, j4⟩ := k_197j (L := L) (xs := xs) (J := J) (tg := tg) (d := d) (W := up2 X 98 s (SN (okF p q) (csF (W 94 8) (W 94 9) p q) (W 94 10) m i s + W 94 10)) (b := b) (m := m) (q := q) (cq := cq) (by unfold okW; rw [y94]; exact hW) (by unfold okL; rw [y94]; exact hb) (i := i) (s := s) (x1 := x1) (F := SN (okF p q) (csF (W 94 8) (W 94 9) p q) (W 94 10) m i) hp hs (fun t ht => by rw [y97]; exact hF t ht) (fun t => by have := hsn t; omega) (acc := SN (okF p q) (csF (W 94 8) (W 94 9) p q) (W 94 10) m i s + W 94 10) (by omega) (w_eq _ _ _ _)
    rw [y94] at j3
    refine ⟨Y, ⟨fun c h => by rw [j1 c h]; exact hY c h, fun t ht => ?_⟩, fun r hr => sg_197_70 _ _ _ _ _ _ _ _ _ ?_⟩
    · by_cases e : t = s
      · subst e; exact j3
      · rw [j2 t e, w_at, if_neg e]; exact i2 t (by omega)
    · have hF' := hF s hs
      simp (disch := omega) only [e94, e97, hF', eV_at, eV_up, o_lit2, o_add, o_sub, o_mul, o_neg, o_div, o_nat, ix_t, o_lt, o_le, o_eq, o_bi0, o_bi1, o_bib, em_t, o_neg1, o_shl, o_tb, o_tb0, o_tt, o_and, o_xor, o_or, o_max, o_min, an_tb, and_true, true_and, not_true, not_false, if_true, if_false, tn_add, tn_mul, Int.reduceToNat, tn_cast, md_x]
      rw [if_neg (by omega)]
      refine j4 r (sg_197_103 _ _ _ _ _ _ _ _ _ _ ?_)
      simp (disch := omega) only [eV_at, eV_up, o_lit2, o_add, o_sub, o_mul, o_neg, o_div, o_nat, ix_t, o_lt, o_le, o_eq, o_bi0, o_bi1, o_bib, em_t, o_neg1, o_shl, o_tb, o_tb0, o_tt, o_and, o_xor, o_or, o_max, o_min, an_tb, and_true, true_and, not_true, not_false, if_true, if_false, tn_add, tn_mul, Int.reduceToNat, tn_cast, md_x]
      rw [if_pos (by omega)]
      exact hr) (2 ^ m) 0 W (by omega) ⟨fun _ _ => rfl, fun t h => by omega⟩
  exact ⟨X, i1, i2, hr⟩
theorem k_197c {W : Nat → Nat → Int} (hm : m ≤ 6) {x1 x2 x4 x5 : Int32} : ∃ X, (∀ c, c ≠ 97 → X c = W c) ∧ (∀ t, t < 2 ^ m → X 97 t = W 98 t) ∧ Rch (GW L xs) (d + 2) 197 (205, [.ref 93, .int x1, .int x2, (Value.int (Int32.ofInt (m))), .int x4, .int x5, (Value.int (Int32.ofInt (0))), vU, vU, vU], [], zS (eV W) J tg) (205, [.ref 93, .int x1, .int x2, (Value.int (Int32.ofInt (m))), .int x4, .int x5, (Value.int (Int32.ofInt ((2 ^ m : Nat)))), vU, vU, vU], [], zS (eV X) J tg) := by
  have h64 := p2_64 hm
  obtain ⟨X, ⟨i1, i2⟩, hr⟩ := loopN (g := GW L xs) (d := d + 2) (mid := 197) (σ := Nat → Nat → Int) (fun s X => (205, [.ref 93, .int x1, .int x2, (Value.int (Int32.ofInt (m))), .int x4, .int x5, (Value.int (Int32.ofInt (s))), vU, vU, vU], [], zS (eV X) J tg)) (fun s X => (∀ c, c ≠ 97 → X c = W c) ∧ ∀ t, t < s → X 97 t = W 98 t) (2 ^ m) (by
    intro s X hs ⟨i1, i2⟩
    have e98 : X 98 = W 98 := i1 98 (by decide)
    refine ⟨up2 X 97 s (W 98 s), ⟨fun c h => by rw [w_ne _ _ _ _ h]; exact i1 c h, fun t ht => ?_⟩, fun r hr => sg_197_205 _ _ _ _ _ _ _ _ _ ?_⟩
    · rw [w_at]
      by_cases e : t = s
      · subst e; rw [if_pos rfl]
      · rw [if_neg e]; exact i2 t (by omega)
    · simp (disch := omega) only [e98, eV_at, eV_up, o_lit2, o_add, o_sub, o_mul, o_neg, o_div, o_nat, ix_t, o_lt, o_le, o_eq, o_bi0, o_bi1, o_bib, em_t, o_neg1, o_shl, o_tb, o_tb0, o_tt, o_and, o_xor, o_or, o_max, o_min, an_tb, and_true, true_and, not_true, not_false, if_true, if_false, tn_add, tn_mul, Int.reduceToNat, tn_cast, md_x]
      rw [if_neg (by omega)]
      exact hr) (2 ^ m) 0 W (by omega) ⟨fun _ _ => rfl, fun t h => by omega⟩
  exact ⟨X, i1, i2, hr⟩
end FM
/-- the least of some -/
def bst (f : Nat → Int) : Nat → Int
  | 0 => 1000000
  | s + 1 => min (bst f s) (f s)
theorem le_bst {f : Nat → Int} {x : Int} : ∀ {N : Nat}, x ≤ bst f N ↔ x ≤ 1000000 ∧ ∀ s, s < N → x ≤ f s
  | 0 => by simp [bst]
  | N + 1 => by
    have ih := @le_bst f x N
    show x ≤ min (bst f N) (f N) ↔ _
    rw [Int.le_min, ih]
    constructor
    · rintro ⟨⟨h1, h2⟩, h3⟩
      refine ⟨h1, fun s hs => ?_⟩
      by_cases e : s = N
      · subst e; exact h3
      · exact h2 s (by omega)
    · rintro ⟨h1, h2⟩
      exact ⟨⟨h1, fun s hs => h2 s (by omega)⟩, h2 N (by omega)⟩
theorem tb_hi {s m k : Nat} (h : s < 2 ^ m) (hk : m ≤ k) : s.testBit k = false := Nat.testBit_lt_two_pow (Nat.lt_of_lt_of_le h (Nat.pow_le_pow_right (by omega) hk))
theorem pcn_ext {s m : Nat} (h : s < 2 ^ m) : ∀ k, pcn s (m + k) = pcn s m
  | 0 => rfl
  | k + 1 => by
    show pcn s (m + k) + (if s.testBit (m + k) then 1 else 0) = _
    rw [tb_hi h (by omega), pcn_ext h k]; simp
theorem GN_nn {g : Nat → Nat → Int} {m : Nat} : ∀ i T, 0 ≤ GN g m i T
  | 0, _ => Int.le_refl _
  | i + 1, T => Int.le_trans (GN_nn i T) gst_acc
theorem SN_min {ok : Nat → Nat → Bool} {c : Nat → Nat → Int} {dr : Int} {m n : Nat} (hd : 0 ≤ dr ∧ dr ≤ 99) (hm : m ≤ 6) (hn : n ≤ 6) : bst (fun s => SN ok c dr m n s + dr * (m - pcn s 12)) (2 ^ m) = dr * (n + m) - GN (gpr dr ok c) m n (2 ^ m - 1) := by
  have e0 : dr * ((n : Int) + m) = dr * n + dr * m := by rw [Int.mul_add]
  have e1 : ∀ s, s < 2 ^ m → dr * ((m : Int) - pcn s 12) = dr * m - dr * pcn s m := fun s hs => by
    rw [show 12 = m + (12 - m) by omega, pcn_ext hs, Int.mul_sub]
  have hG : 0 ≤ GN (gpr dr ok c) m n (2 ^ m - 1) := GN_nn n _
  apply Int.le_antisymm
  · obtain ⟨s, h1, h2, h3⟩ := @SN_at ok c dr m hd.1 hd.2 hm n (2 ^ m - 1)
    have hs : s < 2 ^ m := Nat.lt_pow_two_of_testBit s (fun i hi => by
      cases hb : s.testBit i with
      | false => rfl
      | true => have := h2 i hb; omega)
    have := (@le_bst (fun s => SN ok c dr m n s + dr * (m - pcn s 12)) _ (2 ^ m)).mp (Int.le_refl _)
    have := this.2 s hs
    have := e1 s hs
    omega
  · rw [le_bst]
    have h6 := mul_rg hd (b := (n : Int) + m) (n := 12) (by omega)
    refine ⟨by omega, fun s hs => ?_⟩
    have := @SN_lo ok c dr m hd.1 hd.2 hm n (2 ^ m - 1) s (fun j hj => tb_full (by
      refine Nat.lt_of_not_le fun hle => ?_
      rw [tb_hi hs hle] at hj; exact Bool.noConfusion hj))
    have := e1 s hs
    omega
