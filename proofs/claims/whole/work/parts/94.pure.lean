/-! The tape is fed. -/
theorem o_an (z : Int) (m : Nat) : Int32.ofInt z &&& Int32.ofInt (m : Int) = Int32.ofInt (((z % 4294967296).toNat &&& m : Nat) : Int) := by
  rw [← o_and]
  congr 1
  show Int32.ofBitVec (BitVec.ofInt 32 z) = Int32.ofBitVec (BitVec.ofInt 32 _)
  congr 1
  apply BitVec.eq_of_toInt_eq
  rw [BitVec.toInt_ofInt, BitVec.toInt_ofInt, show ((z % 4294967296).toNat : Int) = z % 4294967296 by omega]
  exact (Int.emod_bmod z (2 ^ 32)).symm
theorem o_255 (z : Int) : Int32.ofInt z &&& Int32.ofInt 255 = Int32.ofInt (z % 256) := by
  have := o_an z 255
  rw [show (255 : Nat) = 2 ^ 8 - 1 from rfl, Nat.and_two_pow_sub_one_eq_mod] at this
  refine Eq.trans this ?_
  congr 1
  omega
theorem o_b8 (y : Int) : (Int32.toInt8 (Int32.ofInt y)).toInt32 = Int32.ofInt (sby (y % 256)) := by
  have h1 : Int32.toInt8 (Int32.ofInt y) = Int8.ofInt y := by
    apply Int8.toInt_inj.mp
    rw [Int32.toInt_toInt8, Int32.toInt_ofInt, Int8.toInt_ofInt]
    show Int.bmod (Int.bmod y 4294967296) 256 = Int.bmod y 256
    rw [Int.bmod_bmod_of_dvd (by decide)]
  rw [h1]
  apply Int32.toInt_inj.mp
  rw [Int8.toInt_toInt32, Int8.toInt_ofInt]
  show Int.bmod y 256 = _
  have e : Int.bmod y 256 = sby (y % 256) := by
    rw [Int.bmod_def]; unfold sby
    split <;> split <;> omega
  rw [e, o_int]
  unfold sby
  split <;> omega
theorem sby_id (b : Int) (h : 0 ≤ b ∧ b < 256) : sby (sby b % 256) = sby b := by
  unfold sby
  split <;> split <;> omega
def byt (z : Int) (i : Nat) : Int := z / 2 ^ (24 - 8 * i) % 256
theorem k_69 {L d : Nat} {xs : Nat → Int32} {V : Nat → Nat → Int} {J : Nat → Nat → Int64} {tg : Option Nat} {z : Int} (hz : (-2147483648 ≤ z ∧ z < 2147483648)) {n : Nat} (hn : V 67 2 = n) (hn4 : n + 4 ≤ 300) : ∃ U, (∀ c, c ≠ 67 → c ≠ 68 → U c = V c) ∧ (∀ p, p ≠ 2 → U 67 p = V 67 p) ∧ U 67 2 = ((n + 4 : Nat) : Int) ∧ (∀ k, k < n ∨ n + 4 ≤ k → U 68 k = V 68 k) ∧ (∀ i, i < 4 → U 68 (n + i) = sby (byt z i)) ∧ Runs (GW L xs) (d) 69 (0, [.ref 67, (Value.int (Int32.ofInt (z))), vU], [], zS (eV (V)) J tg) (none, zS (eV (U)) J tg) := by
  obtain ⟨U, ⟨i1, i2, i3, i4, i5⟩, hr⟩ := loopN (g := GW L xs) (d := d) (mid := 69) (σ := Nat → Nat → Int) (fun i U => (3, [.ref 67, (Value.int (Int32.ofInt (z))), (Value.int (Int32.ofInt (24 - 8 * (i : Int))))], [], zS (eV U) J tg)) (fun i U => (∀ c, c ≠ 67 → c ≠ 68 → U c = V c) ∧ (∀ p, p ≠ 2 → U 67 p = V 67 p) ∧ U 67 2 = ((n + i : Nat) : Int) ∧ (∀ k, k < n ∨ n + i ≤ k → U 68 k = V 68 k) ∧ (∀ j, j < i → U 68 (n + j) = sby (byt z j))) 4 (by
    intro i U hi ⟨i1, i2, i3, i4, i5⟩
    refine ⟨up2 (up2 U 68 (n + i) (sby (byt z i))) 67 2 (n + (i + 1) : Nat), ⟨fun c q1 q2 => by rw [w_ne _ _ _ _ q1, w_ne _ _ _ _ q2]; exact i1 c q1 q2, fun p q => by rw [w_at, if_neg q, w_ne _ _ _ _ (by decide)]; exact i2 p q, w_eq _ _ _ _, fun k q => by rw [w_ne _ _ _ _ (by decide), w_at, if_neg (by omega)]; exact i4 k (by omega), fun j hj => ?_⟩, fun r hr => ?_⟩
    · rw [w_ne _ _ _ _ (by decide), w_at]
      by_cases q : j = i
      · subst q; rw [if_pos rfl]
      · rw [if_neg (by omega)]; exact i5 j (by omega)
    · apply sg_69_3
      have es : (24 - 8 * (i : Int)) = ((24 - 8 * i : Nat) : Int) := by omega
      have e2 : 24 - 8 * ((i + 1 : Nat) : Int) = ((24 - 8 * i : Nat) : Int) + -8 := by omega
      rw [e2] at hr
      rw [es]
      have hb : 0 ≤ z / 2 ^ (24 - 8 * i) % 256 ∧ z / 2 ^ (24 - 8 * i) % 256 < 256 := by omega
      simp (disch := omega) only [i3, o_shr, o_b8, eV_at, eV_up, o_lit2, o_add, o_sub, o_mul, o_neg, o_div, o_nat, ix_t, o_lt, o_le, o_eq, o_bi0, o_bi1, o_bib, em_t, o_neg1, o_shl, o_tb, o_tb0, o_tt, o_and, o_xor, o_or, o_max, o_min, an_tb, and_true, true_and, not_true, not_false, if_true, if_false, tn_add, tn_mul, Int.reduceToNat, tn_cast, md_x]
      rw [if_neg (by omega), if_neg (by omega), sby_id _ hb]
      exact hr) 4 0 V (by omega) ⟨fun _ _ _ => rfl, fun _ _ => rfl, by rw [hn]; rfl, fun _ _ => rfl, fun j hj => by omega⟩
  refine ⟨U, i1, i2, i3, i4, i5, sg_69 _ _ _ _ (hr _ ?_)⟩
  apply sg_69_3
  simp (disch := omega) only [eV_at, eV_up, o_lit2, o_add, o_sub, o_mul, o_neg, o_div, o_nat, ix_t, o_lt, o_le, o_eq, o_bi0, o_bi1, o_bib, em_t, o_neg1, o_shl, o_tb, o_tb0, o_tt, o_and, o_xor, o_or, o_max, o_min, an_tb, and_true, true_and, not_true, not_false, if_true, if_false, tn_add, tn_mul, Int.reduceToNat, tn_cast, md_x]
  rw [if_pos (by omega)] <;> trivial
theorem k_207 {L d : Nat} {xs : Nat → Int32} {V : Nat → Nat → Int} {J : Nat → Nat → Int64} {tg : Option Nat} {z : Int} (hz : (-2147483648 ≤ z ∧ z < 2147483648)) {n : Nat} (hn : V 93 7 = n) (hn4 : n + 4 ≤ 300) : ∃ U, (∀ c, c ≠ 93 → c ≠ 100 → U c = V c) ∧ (∀ p, p ≠ 7 → U 93 p = V 93 p) ∧ U 93 7 = ((n + 4 : Nat) : Int) ∧ (∀ k, k < n ∨ n + 4 ≤ k → U 100 k = V 100 k) ∧ (∀ i, i < 4 → U 100 (n + i) = byt z i) ∧ Runs (GW L xs) (d) 207 (0, [.ref 93, (Value.int (Int32.ofInt (z))), vU], [], zS (eV (V)) J tg) (none, zS (eV (U)) J tg) := by
  obtain ⟨U, ⟨i1, i2, i3, i4, i5⟩, hr⟩ := loopN (g := GW L xs) (d := d) (mid := 207) (σ := Nat → Nat → Int) (fun i U => (3, [.ref 93, (Value.int (Int32.ofInt (z))), (Value.int (Int32.ofInt (24 - 8 * (i : Int))))], [], zS (eV U) J tg)) (fun i U => (∀ c, c ≠ 93 → c ≠ 100 → U c = V c) ∧ (∀ p, p ≠ 7 → U 93 p = V 93 p) ∧ U 93 7 = ((n + i : Nat) : Int) ∧ (∀ k, k < n ∨ n + i ≤ k → U 100 k = V 100 k) ∧ (∀ j, j < i → U 100 (n + j) = byt z j)) 4 (by
    intro i U hi ⟨i1, i2, i3, i4, i5⟩
    refine ⟨up2 (up2 U 100 (n + i) (byt z i)) 93 7 (n + (i + 1) : Nat), ⟨fun c q1 q2 => by rw [w_ne _ _ _ _ q1, w_ne _ _ _ _ q2]; exact i1 c q1 q2, fun p q => by rw [w_at, if_neg q, w_ne _ _ _ _ (by decide)]; exact i2 p q, w_eq _ _ _ _, fun k q => by rw [w_ne _ _ _ _ (by decide), w_at, if_neg (by omega)]; exact i4 k (by omega), fun j hj => ?_⟩, fun r hr => ?_⟩
    · rw [w_ne _ _ _ _ (by decide), w_at]
      by_cases q : j = i
      · subst q; rw [if_pos rfl]
      · rw [if_neg (by omega)]; exact i5 j (by omega)
    · apply sg_207_3
      have es : (24 - 8 * (i : Int)) = ((24 - 8 * i : Nat) : Int) := by omega
      have e2 : 24 - 8 * ((i + 1 : Nat) : Int) = ((24 - 8 * i : Nat) : Int) + -8 := by omega
      rw [e2] at hr
      rw [es]
      simp (disch := omega) only [i3, o_shr, o_255, eV_at, eV_up, o_lit2, o_add, o_sub, o_mul, o_neg, o_div, o_nat, ix_t, o_lt, o_le, o_eq, o_bi0, o_bi1, o_bib, em_t, o_neg1, o_shl, o_tb, o_tb0, o_tt, o_and, o_xor, o_or, o_max, o_min, an_tb, and_true, true_and, not_true, not_false, if_true, if_false, tn_add, tn_mul, Int.reduceToNat, tn_cast, md_x]
      rw [if_neg (by omega)]
      exact hr) 4 0 V (by omega) ⟨fun _ _ _ => rfl, fun _ _ => rfl, by rw [hn]; rfl, fun _ _ => rfl, fun j hj => by omega⟩
  refine ⟨U, i1, i2, i3, i4, i5, sg_207 _ _ _ _ (hr _ ?_)⟩
  apply sg_207_3
  simp (disch := omega) only [eV_at, eV_up, o_lit2, o_add, o_sub, o_mul, o_neg, o_div, o_nat, ix_t, o_lt, o_le, o_eq, o_bi0, o_bi1, o_bib, em_t, o_neg1, o_shl, o_tb, o_tb0, o_tt, o_and, o_xor, o_or, o_max, o_min, an_tb, and_true, true_and, not_true, not_false, if_true, if_false, tn_add, tn_mul, Int.reduceToNat, tn_cast, md_x]
  rw [if_pos (by omega)] <;> trivial
def byt5 (a b c e g : Int) (k : Nat) : Int := if k < 4 then byt a k else if k < 8 then byt b (k - 4) else if k < 12 then byt c (k - 8) else if k < 16 then byt e (k - 12) else byt g (k - 16)
theorem k_69x {L d : Nat} {xs : Nat → Int32} {V : Nat → Nat → Int} {J : Nat → Nat → Int64} {tg : Option Nat} {a b c e g : Int} (ha : (-2147483648 ≤ a ∧ a < 2147483648)) (hb : (-2147483648 ≤ b ∧ b < 2147483648)) (hc : (-2147483648 ≤ c ∧ c < 2147483648)) (he : (-2147483648 ≤ e ∧ e < 2147483648)) (hg : (-2147483648 ≤ g ∧ g < 2147483648)) {n : Nat} (hn : V 67 2 = n) (hn4 : n + 20 ≤ 300) : ∃ A B C D U, (∀ c, c ≠ 67 → c ≠ 68 → U c = V c) ∧ (∀ p, p ≠ 2 → U 67 p = V 67 p) ∧ U 67 2 = ((n + 20 : Nat) : Int) ∧ (∀ k, k < n → U 68 k = V 68 k) ∧ (∀ k, k < 20 → U 68 (n + k) = sby (byt5 a b c e g k)) ∧ Runs (GW L xs) (d) 69 (0, [.ref 67, (Value.int (Int32.ofInt (a))), vU], [], zS (eV (V)) J tg) (none, zS (eV (A)) J tg) ∧ Runs (GW L xs) (d) 69 (0, [.ref 67, (Value.int (Int32.ofInt (b))), vU], [], zS (eV (A)) J tg) (none, zS (eV (B)) J tg) ∧ Runs (GW L xs) (d) 69 (0, [.ref 67, (Value.int (Int32.ofInt (c))), vU], [], zS (eV (B)) J tg) (none, zS (eV (C)) J tg) ∧ Runs (GW L xs) (d) 69 (0, [.ref 67, (Value.int (Int32.ofInt (e))), vU], [], zS (eV (C)) J tg) (none, zS (eV (D)) J tg) ∧ Runs (GW L xs) (d) 69 (0, [.ref 67, (Value.int (Int32.ofInt (g))), vU], [], zS (eV (D)) J tg) (none, zS (eV (U)) J tg) := by
  obtain ⟨A, a1, a2, a3, a4, a5, a6⟩ := k_69 (L := L) (xs := xs) (J := J) (tg := tg) (d := d) ha hn (by omega)
  obtain ⟨B, b1, b2, b3, b4, b5, b6⟩ := k_69 (L := L) (xs := xs) (J := J) (tg := tg) (d := d) hb a3 (by omega)
  obtain ⟨C, c1, c2, c3, c4, c5, c6⟩ := k_69 (L := L) (xs := xs) (J := J) (tg := tg) (d := d) hc b3 (by omega)
  obtain ⟨D, d1, d2, d3, d4, d5, d6⟩ := k_69 (L := L) (xs := xs) (J := J) (tg := tg) (d := d) he c3 (by omega)
  obtain ⟨E, e1, e2, e3, e4, e5, e6⟩ := k_69 (L := L) (xs := xs) (J := J) (tg := tg) (d := d) hg d3 (by omega)
  refine ⟨A, B, C, D, E, fun x q1 q2 => by rw [e1 x q1 q2, d1 x q1 q2, c1 x q1 q2, b1 x q1 q2, a1 x q1 q2], fun p q => by rw [e2 p q, d2 p q, c2 p q, b2 p q, a2 p q], e3, ?_, ?_, a6, b6, c6, d6, e6⟩
  · clear a1 a2 a3 a5 a6 b1 b2 b3 b5 b6 c1 c2 c3 c5 c6 d1 d2 d3 d5 d6 e1 e2 e3 e5 e6 ha hb hc he hg hn
    intro k hk
    rw [e4 k (by omega), d4 k (by omega), c4 k (by omega), b4 k (by omega), a4 k (by omega)]
  · clear a1 a2 a3 a6 b1 b2 b3 b6 c1 c2 c3 c6 d1 d2 d3 d6 e1 e2 e3 e6 ha hb hc he hg hn
    intro k hk
    unfold byt5
    by_cases k1 : k < 4
    · rw [if_pos k1, e4 _ (by omega), d4 _ (by omega), c4 _ (by omega), b4 _ (by omega), a5 k k1]
    · rw [if_neg k1]
      by_cases k2 : k < 8
      · rw [if_pos k2, e4 _ (by omega), d4 _ (by omega), c4 _ (by omega), show n + k = n + 4 + (k - 4) by omega, b5 (k - 4) (by omega)]
      · rw [if_neg k2]
        by_cases k3 : k < 12
        · rw [if_pos k3, e4 _ (by omega), d4 _ (by omega), show n + k = n + 4 + 4 + (k - 8) by omega, c5 (k - 8) (by omega)]
        · rw [if_neg k3]
          by_cases k4 : k < 16
          · rw [if_pos k4, e4 _ (by omega), show n + k = n + 4 + 4 + 4 + (k - 12) by omega, d5 (k - 12) (by omega)]
          · rw [if_neg k4, show n + k = n + 4 + 4 + 4 + 4 + (k - 16) by omega, e5 (k - 16) (by omega)]
theorem k_207x {L d : Nat} {xs : Nat → Int32} {V : Nat → Nat → Int} {J : Nat → Nat → Int64} {tg : Option Nat} {a b c e g : Int} (ha : (-2147483648 ≤ a ∧ a < 2147483648)) (hb : (-2147483648 ≤ b ∧ b < 2147483648)) (hc : (-2147483648 ≤ c ∧ c < 2147483648)) (he : (-2147483648 ≤ e ∧ e < 2147483648)) (hg : (-2147483648 ≤ g ∧ g < 2147483648)) {n : Nat} (hn : V 93 7 = n) (hn4 : n + 20 ≤ 300) : ∃ A B C D U, (∀ c, c ≠ 93 → c ≠ 100 → U c = V c) ∧ (∀ p, p ≠ 7 → U 93 p = V 93 p) ∧ U 93 7 = ((n + 20 : Nat) : Int) ∧ (∀ k, k < n → U 100 k = V 100 k) ∧ (∀ k, k < 20 → U 100 (n + k) = (byt5 a b c e g k)) ∧ Runs (GW L xs) (d) 207 (0, [.ref 93, (Value.int (Int32.ofInt (a))), vU], [], zS (eV (V)) J tg) (none, zS (eV (A)) J tg) ∧ Runs (GW L xs) (d) 207 (0, [.ref 93, (Value.int (Int32.ofInt (b))), vU], [], zS (eV (A)) J tg) (none, zS (eV (B)) J tg) ∧ Runs (GW L xs) (d) 207 (0, [.ref 93, (Value.int (Int32.ofInt (c))), vU], [], zS (eV (B)) J tg) (none, zS (eV (C)) J tg) ∧ Runs (GW L xs) (d) 207 (0, [.ref 93, (Value.int (Int32.ofInt (e))), vU], [], zS (eV (C)) J tg) (none, zS (eV (D)) J tg) ∧ Runs (GW L xs) (d) 207 (0, [.ref 93, (Value.int (Int32.ofInt (g))), vU], [], zS (eV (D)) J tg) (none, zS (eV (U)) J tg) := by
  obtain ⟨A, a1, a2, a3, a4, a5, a6⟩ := k_207 (L := L) (xs := xs) (J := J) (tg := tg) (d := d) ha hn (by omega)
  obtain ⟨B, b1, b2, b3, b4, b5, b6⟩ := k_207 (L := L) (xs := xs) (J := J) (tg := tg) (d := d) hb a3 (by omega)
  obtain ⟨C, c1, c2, c3, c4, c5, c6⟩ := k_207 (L := L) (xs := xs) (J := J) (tg := tg) (d := d) hc b3 (by omega)
  obtain ⟨D, d1, d2, d3, d4, d5, d6⟩ := k_207 (L := L) (xs := xs) (J := J) (tg := tg) (d := d) he c3 (by omega)
  obtain ⟨E, e1, e2, e3, e4, e5, e6⟩ := k_207 (L := L) (xs := xs) (J := J) (tg := tg) (d := d) hg d3 (by omega)
  refine ⟨A, B, C, D, E, fun x q1 q2 => by rw [e1 x q1 q2, d1 x q1 q2, c1 x q1 q2, b1 x q1 q2, a1 x q1 q2], fun p q => by rw [e2 p q, d2 p q, c2 p q, b2 p q, a2 p q], e3, ?_, ?_, a6, b6, c6, d6, e6⟩
  · clear a1 a2 a3 a5 a6 b1 b2 b3 b5 b6 c1 c2 c3 c5 c6 d1 d2 d3 d5 d6 e1 e2 e3 e5 e6 ha hb hc he hg hn
    intro k hk
    rw [e4 k (by omega), d4 k (by omega), c4 k (by omega), b4 k (by omega), a4 k (by omega)]
  · clear a1 a2 a3 a6 b1 b2 b3 b6 c1 c2 c3 c6 d1 d2 d3 d6 e1 e2 e3 e6 ha hb hc he hg hn
    intro k hk
    unfold byt5
    by_cases k1 : k < 4
    · rw [if_pos k1, e4 _ (by omega), d4 _ (by omega), c4 _ (by omega), b4 _ (by omega), a5 k k1]
    · rw [if_neg k1]
      by_cases k2 : k < 8
      · rw [if_pos k2, e4 _ (by omega), d4 _ (by omega), c4 _ (by omega), show n + k = n + 4 + (k - 4) by omega, b5 (k - 4) (by omega)]
      · rw [if_neg k2]
        by_cases k3 : k < 12
        · rw [if_pos k3, e4 _ (by omega), d4 _ (by omega), show n + k = n + 4 + 4 + (k - 8) by omega, c5 (k - 8) (by omega)]
        · rw [if_neg k3]
          by_cases k4 : k < 16
          · rw [if_pos k4, e4 _ (by omega), show n + k = n + 4 + 4 + 4 + (k - 12) by omega, d5 (k - 12) (by omega)]
          · rw [if_neg k4, show n + k = n + 4 + 4 + 4 + 4 + (k - 16) by omega, e5 (k - 16) (by omega)]
theorem c_feed {L : Nat} {xs : Nat → Int32} {V : Nat → Nat → Int} {J : Nat → Nat → Int64} {tg : Option Nat} (h : INV V) {a b c e g : Int} (ha : (-2147483648 ≤ a ∧ a < 2147483648)) (hb : (-2147483648 ≤ b ∧ b < 2147483648)) (hc : (-2147483648 ≤ c ∧ c < 2147483648)) (he : (-2147483648 ≤ e ∧ e < 2147483648)) (hg : (-2147483648 ≤ g ∧ g < 2147483648)) : ∃ (v : Int) (U W : Nat → Nat → Int) (J1 : Nat → Nat → Int64), Runs (GW L xs) 40 126 (0, [.ref 0, (Value.int (Int32.ofInt (a))), (Value.int (Int32.ofInt (b))), (Value.int (Int32.ofInt (c))), (Value.int (Int32.ofInt (e))), (Value.int (Int32.ofInt (g)))], [], zS (eV V) J tg) (some (Value.int (Int32.ofInt v)), zS (eV U) J tg) ∧ Runs (GW L xs) 40 208 (0, [.ref 93, (Value.int (Int32.ofInt (a))), (Value.int (Int32.ofInt (b))), (Value.int (Int32.ofInt (c))), (Value.int (Int32.ofInt (e))), (Value.int (Int32.ofInt (g)))], [], zS (eV U) J tg) (some (Value.int (Int32.ofInt v)), zS (eV W) J1 tg) ∧ INV W := by
  have h0 := h
  obtain ⟨hR, ⟨hA, hB, hC, hD, hE, hF, hH⟩, h2, h3, h4, h5⟩ := h
  have rD : 0 ≤ V 1 0 ∧ V 1 0 ≤ 12 := hR 1 0 (by decide) (by decide)
  have rT : 0 ≤ V 1 1 ∧ V 1 1 ≤ 12 := hR 1 1 (by decide) (by decide)
  obtain ⟨t1, t2, t3, t4⟩ := id h4
  obtain ⟨n, hn⟩ : ∃ n : Nat, V 67 2 = n := ⟨(V 67 2).toNat, by omega⟩
  have hm : V 93 7 = n := by rw [t2, hn]
  by_cases g1 : n + 20 ≤ 300
  · obtain ⟨A, B, C, D, E, e1, e2, e3, e4, e5, a6, b6, c6, d6, e6⟩ := k_69x (L := L) (xs := xs) (J := J) (tg := tg) (d := 39) ha hb hc he hg hn g1
    have hmE : E 93 7 = n := by rw [e1 93 (by decide) (by decide)]; exact hm
    obtain ⟨P, Q, R, S, T, u1, u2, u3, u4, u5, p6, q6, r6, s6, u6⟩ := k_207x (L := L) (xs := xs) (J := J) (tg := tg) (d := 39) ha hb hc he hg hmE g1
    refine ⟨(n + 20 : Nat), E, T, J, ?_, ?_, ?_⟩
    · apply sg_126
      simp (disch := omega) only [hn, w_eq, w_nc, w_ne2, eV_at, eV_up, o_lit2, o_add, o_sub, o_mul, o_neg, o_div, o_nat, ix_t, o_lt, o_le, o_eq, o_bi0, o_bi1, o_bib, em_t, o_neg1, o_shl, o_tb, o_tb0, o_tt, o_and, o_xor, o_or, o_max, o_min, an_tb, and_true, true_and, not_true, not_false, if_true, if_false, tn_add, tn_mul, Int.reduceToNat, tn_cast, md_x]
      rw [if_pos (by omega)]
      refine ⟨_, a6, _, b6, _, c6, _, d6, _, e6, ?_⟩
      rw [eV_at, e3]
    · apply sg_208
      simp (disch := omega) only [hmE, w_eq, w_nc, w_ne2, eV_at, eV_up, o_lit2, o_add, o_sub, o_mul, o_neg, o_div, o_nat, ix_t, o_lt, o_le, o_eq, o_bi0, o_bi1, o_bib, em_t, o_neg1, o_shl, o_tb, o_tb0, o_tt, o_and, o_xor, o_or, o_max, o_min, an_tb, and_true, true_and, not_true, not_false, if_true, if_false, tn_add, tn_mul, Int.reduceToNat, tn_cast, md_x]
      rw [if_pos (by omega)]
      refine ⟨_, _, p6, _, _, q6, _, _, r6, _, _, s6, _, _, u6, ?_⟩
      rw [eV_at, u3]
    · clear a6 b6 c6 d6 e6 p6 q6 r6 s6 u6
      have f : ∀ x, x ≠ 67 ∧ x ≠ 68 ∧ x ≠ 93 ∧ x ≠ 100 → T x = V x := fun x q => by rw [u1 x q.2.2.1 q.2.2.2, e1 x q.1 q.2.1]
      have f94 : ∀ p : Nat, 0 ≤ p → T 94 p = V 94 p := fun p _ => by rw [f 94 (by omega)]
      have f67 : T 67 = E 67 := u1 67 (by decide) (by decide)
      have f68 : T 68 = E 68 := u1 68 (by decide) (by decide)
      have f67' : ∀ p, p ≠ 2 → T 67 p = V 67 p := fun p q => by rw [f67, e2 p q]
      have f93 : ∀ p, p ≠ 7 → T 93 p = V 93 p := fun p q => by rw [u2 p q, e1 93 (by decide) (by decide)]
      refine ⟨hR.fr fun x q => f x (by omega), ⟨(hA.up (fun p _ => by rw [f 1 (by omega)]) (fun p q => f94 p (by omega))), (hB.up hR (by rw [f 1 (by omega)]) (by rw [f 1 (by omega)]) (f 2 (by omega)) (f 3 (by omega)) (f 4 (by omega)) (fun l w _ _ => f94 _ (by omega))), (hC.up hR (by rw [f 1 (by omega)]) (f 5 (by omega)) (f 6 (by omega)) (f 12 (by omega)) (fun l w _ _ => f94 _ (by omega)) (fun k _ => f94 _ (by omega))), (hD.up (by rw [f 1 (by omega)]) (by rw [f 1 (by omega)]) (f 3 (by omega)) (f 4 (by omega)) (f 5 (by omega)) (f 6 (by omega)) (f 12 (by omega))), (hE.up (by rw [f 1 (by omega)]) (f 7 (by omega)) (f 8 (by omega)) (f 9 (by omega)) (f 10 (by omega)) (f 11 (by omega)) (fun p _ => f94 _ (by omega))), (hF.up hR (by rw [f 1 (by omega)]) (by rw [f 1 (by omega)]) (by rw [f 7 (by omega)]) (fun x _ _ => f x (by omega)) (fun p _ => f94 _ (by omega))), (hH.up hR (by rw [f 1 (by omega)]) (fun x _ _ => f x (by omega)) (fun p _ => f94 _ (by omega)))⟩, (h2.fr fun x _ => f x (by omega)), (h3.up (f 1 (by omega)) (f 2 (by omega)) (f 3 (by omega)) (f 4 (by omega)) (f 71 (by omega)) (f 81 (by omega))), ?_, (h5.fr hR fun x _ => f x (by omega))⟩
      refine ⟨by rw [f67, e3]; omega, by rw [f67, e3, u3], fun k hk => ?_, by rw [f67' 3 (by decide), f67' 4 (by decide), f67' 5 (by decide), f93 11 (by decide), f93 12 (by decide)]; exact t4⟩
      rw [f67, e3] at hk
      rw [f68]
      by_cases k0 : k < n
      · rw [e4 k k0, u4 k k0, e1 100 (by decide) (by decide)]
        exact t3 k (by omega)
      · obtain ⟨i, rfl⟩ : ∃ i, k = n + i := ⟨k - n, by omega⟩
        rw [e5 i (by omega), u5 i (by omega)]
        refine ⟨rfl, ?_⟩
        unfold byt5 byt
        repeat' split
        all_goals omega
  · refine ⟨-1, V, V, J, ?_, ?_, h0⟩
    · apply sg_126
      simp (disch := omega) only [hn, w_eq, w_nc, w_ne2, eV_at, eV_up, o_lit2, o_add, o_sub, o_mul, o_neg, o_div, o_nat, ix_t, o_lt, o_le, o_eq, o_bi0, o_bi1, o_bib, em_t, o_neg1, o_shl, o_tb, o_tb0, o_tt, o_and, o_xor, o_or, o_max, o_min, an_tb, and_true, true_and, not_true, not_false, if_true, if_false, tn_add, tn_mul, Int.reduceToNat, tn_cast, md_x]
      rw [if_neg (by omega)] <;> trivial
    · apply sg_208
      simp (disch := omega) only [hm, w_eq, w_nc, w_ne2, eV_at, eV_up, o_lit2, o_add, o_sub, o_mul, o_neg, o_div, o_nat, ix_t, o_lt, o_le, o_eq, o_bi0, o_bi1, o_bib, em_t, o_neg1, o_shl, o_tb, o_tb0, o_tt, o_and, o_xor, o_or, o_max, o_min, an_tb, and_true, true_and, not_true, not_false, if_true, if_false, tn_add, tn_mul, Int.reduceToNat, tn_cast, md_x]
      rw [if_neg (by omega)] <;> trivial
