/-! gather and what is asked of it, in the class. -/
theorem o_or0 (a : Nat) : Int32.ofInt (a : Int) ||| Int32.ofInt 0 = Int32.ofInt (a : Int) := by
  have := o_or a 0
  rw [Nat.or_zero] at this; exact this
theorem o_sh1 {a : Nat} (h : a < 2147483648) : Int32.ofInt (a : Int) >>> (Int32.ofInt 1 &&& Int32.ofInt 31) = Int32.ofInt ((a / 2 : Nat) : Int) := by
  have := o_shr (a := (a : Int)) (k := 1) (by omega) (by omega)
  rw [show ((a / 2 : Nat) : Int) = (a : Int) / 2 ^ 1 by omega]; exact this
theorem o_shb {b t : Nat} (hb : b ≤ 1) (ht : t < 31) : Int32.ofInt (b : Int) <<< (Int32.ofInt (t : Int) &&& Int32.ofInt 31) = Int32.ofInt ((b * 2 ^ t : Nat) : Int) := by
  have : b = 0 ∨ b = 1 := by omega
  rcases this with rfl | rfl
  · rw [Nat.zero_mul, o_k31 (by omega)]
    apply Int32.toBitVec_inj.mp
    rw [Int32.toBitVec_shiftLeft]
    show (0#32 <<< _) = 0#32
    exact BitVec.zero_shiftLeft _
  · rw [Nat.one_mul]; exact o_shl (by omega)
theorem o_anx {a b : Nat} (ha : a < 4096) : Int32.ofInt (a : Int) &&& (Int32.ofInt (b : Int) ^^^ Int32.ofInt (-1)) = Int32.ofInt ((a &&& (4095 ^^^ b) : Nat) : Int) := by
  rw [o_bv, o_bv, o_bv]
  apply Int32.toBitVec_inj.mp
  show BitVec.ofNat 32 a &&& (BitVec.ofNat 32 b ^^^ BitVec.allOnes 32) = BitVec.ofNat 32 (a &&& (4095 ^^^ b))
  apply BitVec.eq_of_getLsbD_eq
  intro i hi
  rw [BitVec.getLsbD_and, BitVec.getLsbD_xor, BitVec.getLsbD_ofNat, BitVec.getLsbD_ofNat, BitVec.getLsbD_ofNat, BitVec.getLsbD_allOnes, Nat.testBit_and, Nat.testBit_xor]
  rw [decide_eq_true hi]
  by_cases c : i < 12
  · have h : Nat.testBit 4095 i = true := tb_full (m := 12) c
    rw [h]
    cases a.testBit i <;> cases b.testBit i <;> rfl
  · have h : a.testBit i = false := tb_hi (m := 12) ha (by omega)
    rw [h]; simp
def brk (br : Nat) (c : Nat → Bool) : Nat → Nat
  | 0 => br
  | t + 1 => if c t then brk br c t ||| 2 ^ t else brk br c t
theorem brk_lt {br T : Nat} {c : Nat → Bool} (h : br < 2 ^ T) : ∀ n, n ≤ T → brk br c n < 2 ^ T
  | 0, _ => h
  | n + 1, hn => by
    have ih := brk_lt (c := c) h n (by omega)
    have h2 : 2 ^ n < 2 ^ T := Nat.pow_lt_pow_right (by omega) (by omega)
    unfold brk
    split
    · exact Nat.or_lt_two_pow ih h2
    · exact ih
theorem brk_tb {br : Nat} {c : Nat → Bool} : ∀ n t, (brk br c n).testBit t = (br.testBit t || (decide (t < n) && c t))
  | 0, t => by simp [brk]
  | n + 1, t => by
    have ih := brk_tb (br := br) (c := c) n t
    have hs : brk br c (n + 1) = if c n then brk br c n ||| 2 ^ n else brk br c n := rfl
    rw [hs]
    by_cases e : t = n
    · subst e
      cases q : c t
      · rw [if_neg (by decide), ih, q]; simp
      · rw [if_pos rfl, Nat.testBit_or, ih, Nat.testBit_two_pow]; simp
    · have : decide (t < n + 1) = decide (t < n) := decide_eq_decide.mpr ⟨fun h => by omega, fun h => by omega⟩
      rw [this]
      cases q : c n
      · rw [if_neg (by decide)]; exact ih
      · rw [if_pos rfl, Nat.testBit_or, ih, Nat.testBit_two_pow, decide_eq_false (show ¬ n = t from fun h => e h.symm), Bool.or_false]
def mndB (B : Nat → Nat → Int) (ld day : Int) (s : Nat) : Nat → Bool
  | 0 => true
  | k + 1 => mndB B ld day s k && (!(decide (B 13 k = ld) && decide (B 17 k ≤ day)) || decide (tk (B 7 0) (scr B (B 15 k).toNat (B 14 k).toNat) s 12 = B 16 k))
section MI
variable {L d : Nat} {xs : Nat → Int32} {B V : Nat → Nat → Int} {J : Nat → Nat → Int64} {tg : Option Nat}
/-- heed -/
theorem k_52 (hI : INV B) (q : Qy B V) {T : Nat} {took : Int} {P : Bool} {nd br : Nat} {sc : Nat → Int} (hT : B 1 1 = T) (ht : -1 ≤ took ∧ took < T) (h3 : V 92 3 = bi (P = true)) (h4 : V 92 4 = nd) (h5 : V 92 5 = br) (hnd : nd < 2 ^ T) (hbr : br < 2 ^ T) (hsc : ∀ t, -5000 ≤ sc t ∧ sc t ≤ 5000) (h77 : ∀ t, t < T → V 77 t = sc t) : ∃ (W : Nat → Nat → Int) (P' : Bool) (nd' br' : Nat), (∀ c, c ≠ 92 → W c = V c) ∧ W 92 3 = bi (P' = true) ∧ W 92 4 = nd' ∧ W 92 5 = br' ∧ nd' < 2 ^ T ∧ br' < 2 ^ T ∧ (∀ s, s < 2 ^ T → (inM P' nd' br' s ↔ inM P nd br s ∧ tk (B 7 0) sc s 12 = took)) ∧ Runs (GW L xs) (d + 2) 52 (0, [.ref 92, (Value.int (Int32.ofInt (took))), vU], [], zS (eV (V)) J tg) (none, zS (eV (W)) J tg) := by
  have rT : 0 ≤ B 1 1 ∧ B 1 1 ≤ 12 := hI.1 1 1 (by decide) (by decide)
  have h2T : 2 ^ T ≤ 4096 := p2_12 (by omega)
  have e70 : ∀ W : Nat → Nat → Int, (∀ c, c ≠ 92 → W c = V c) → W 7 0 = B 7 0 ∧ W 1 1 = T ∧ ∀ t, t < T → W 77 t = sc t := fun W f => ⟨by rw [f 7 (by decide), q.1 7 (by omega)], by rw [f 1 (by decide), q.1 1 (by omega)]; exact hT, fun t h => by rw [f 77 (by decide)]; exact h77 t h⟩
  have r70 : 0 ≤ B 7 0 ∧ B 7 0 ≤ 999 := hI.1 7 0 (by decide) (by decide)
  by_cases c : took = -1
  · subst c
    obtain ⟨W, ⟨i1, i2, i3, i4⟩, hr⟩ := loopN (g := GW L xs) (d := d + 2) (mid := 52) (σ := Nat → Nat → Int) (fun t W => (7, [.ref 92, (Value.int (Int32.ofInt (-1))), (Value.int (Int32.ofInt (t)))], [], zS (eV W) J tg)) (fun t W => (∀ c, c ≠ 92 → W c = V c) ∧ W 92 3 = bi (P = true) ∧ W 92 4 = nd ∧ W 92 5 = (brk br (fun t => decide (sc t ≤ B 7 0)) t : Nat)) T (by
      intro t W ht' ⟨i1, i2, i3, i4⟩
      obtain ⟨g1, g2, g3⟩ := e70 W i1
      have g3 := g3 t ht'
      have hst := hsc t
      have hs : brk br (fun t => decide (sc t ≤ B 7 0)) (t + 1) = if decide (sc t ≤ B 7 0) then brk br (fun t => decide (sc t ≤ B 7 0)) t ||| 2 ^ t else brk br (fun t => decide (sc t ≤ B 7 0)) t := rfl
      rw [hs]
      generalize brk br (fun t => decide (sc t ≤ B 7 0)) t = b at i4
      by_cases c1 : B 7 0 < sc t
      · rw [decide_eq_false (show ¬ sc t ≤ B 7 0 by omega), if_neg (by decide)]
        refine ⟨up2 W 92 5 b, ⟨fun c hc => by rw [w_ne _ _ _ _ hc]; exact i1 c hc, by rw [w_at, if_neg (by decide)]; exact i2, by rw [w_at, if_neg (by decide)]; exact i3, w_eq _ _ _ _⟩, fun r hr => ?_⟩
        apply sg_52_7
        simp (disch := omega) only [g1, g2, g3, i4, o_or0, eV_at, eV_up, o_lit2, o_add, o_sub, o_mul, o_neg, o_div, o_nat, ix_t, o_lt, o_le, o_eq, o_bi0, o_bi1, o_bib, em_t, o_neg1, o_shl, o_tb, o_tb0, o_tt, o_and, o_xor, o_or, o_max, o_min, an_tb, and_true, true_and, not_true, not_false, if_true, if_false, tn_add, tn_mul, Int.reduceToNat, tn_cast, md_x]
        rw [if_neg (by omega), if_pos c1]
        exact hr
      · rw [decide_eq_true (show sc t ≤ B 7 0 by omega), if_pos rfl]
        refine ⟨up2 W 92 5 (b ||| 2 ^ t : Nat), ⟨fun c hc => by rw [w_ne _ _ _ _ hc]; exact i1 c hc, by rw [w_at, if_neg (by decide)]; exact i2, by rw [w_at, if_neg (by decide)]; exact i3, w_eq _ _ _ _⟩, fun r hr => ?_⟩
        apply sg_52_7
        simp (disch := omega) only [g1, g2, g3, i4, o_or0, eV_at, eV_up, o_lit2, o_add, o_sub, o_mul, o_neg, o_div, o_nat, ix_t, o_lt, o_le, o_eq, o_bi0, o_bi1, o_bib, em_t, o_neg1, o_shl, o_tb, o_tb0, o_tt, o_and, o_xor, o_or, o_max, o_min, an_tb, and_true, true_and, not_true, not_false, if_true, if_false, tn_add, tn_mul, Int.reduceToNat, tn_cast, md_x]
        rw [if_neg (by omega), if_neg c1]
        exact hr) T 0 V (by omega) ⟨fun _ _ => rfl, h3, h4, h5⟩
    refine ⟨W, P, nd, brk br (fun t => decide (sc t ≤ B 7 0)) T, i1, i2, i3, i4, hnd, brk_lt hbr T (Nat.le_refl _), fun s hs => ?_, ?_⟩
    · rw [tk_none]
      unfold inM
      constructor
      · rintro ⟨a1, a2, a3⟩
        refine ⟨⟨a1, a2, fun t hb => a3 t (by rw [brk_tb, hb]; rfl)⟩, fun u hu hb => ?_⟩
        have hu : u < T := Nat.lt_of_not_le fun hle => by rw [tb_hi hs hle] at hb; exact absurd hb (by decide)
        refine Int.lt_of_not_ge fun hle => ?_
        have := a3 u (by rw [brk_tb, decide_eq_true hu, decide_eq_true (show sc u ≤ B 7 0 from hle)]; simp)
        rw [hb] at this; exact absurd this (by decide)
      · rintro ⟨⟨a1, a2, a3⟩, a4⟩
        refine ⟨a1, a2, fun t hb => ?_⟩
        rw [brk_tb] at hb
        cases q : s.testBit t
        · rfl
        · exfalso
          have ht' : t < T := Nat.lt_of_not_le fun hle => by rw [tb_hi hs hle] at q; exact absurd q (by decide)
          have := a4 t (by omega) q
          rw [decide_eq_false (show ¬ sc t ≤ B 7 0 by omega), Bool.and_false, Bool.or_false] at hb
          rw [a3 t hb] at q; exact absurd q (by decide)
    · obtain ⟨g1, g2, g3⟩ := e70 W i1
      apply sg_52
      rw [if_pos (by decide)]
      refine hr _ ?_
      apply sg_52_7
      simp (disch := omega) only [g2, eV_at, eV_up, o_lit2, o_add, o_sub, o_mul, o_neg, o_div, o_nat, ix_t, o_lt, o_le, o_eq, o_bi0, o_bi1, o_bib, em_t, o_neg1, o_shl, o_tb, o_tb0, o_tt, o_and, o_xor, o_or, o_max, o_min, an_tb, and_true, true_and, not_true, not_false, if_true, if_false, tn_add, tn_mul, Int.reduceToNat, tn_cast, md_x]
      rw [if_pos (by omega)] <;> first | rfl | trivial
  · obtain ⟨t0, rfl⟩ : ∃ t : Nat, took = t := ⟨took.toNat, by omega⟩
    have ht0 : t0 < T := by omega
    have hp0 : 2 ^ t0 < 2 ^ T := Nat.pow_lt_pow_right (by omega) ht0
    have hs0 := hsc t0
    have v77 := h77 t0 ht0
    have e7V : V 7 0 = B 7 0 := by rw [q.1 7 (by omega)]
    -- whether it may be
    obtain ⟨P', hP'⟩ : ∃ P' : Bool, P' = (P && decide (sc t0 ≤ B 7 0)) := ⟨_, rfl⟩
    have pre : ∀ r, Runs (GW L xs) (d + 2) 52 (109, [.ref 92, (Value.int (Int32.ofInt (t0))), (Value.int (Int32.ofInt (0)))], [], zS (eV (up2 (up2 V 92 4 (nd ||| 2 ^ t0 : Nat)) 92 3 (bi (P' = true)))) J tg) r → Runs (GW L xs) (d + 2) 52 (0, [.ref 92, (Value.int (Int32.ofInt (t0))), vU], [], zS (eV V) J tg) r := fun r hr => by
      apply sg_52
      simp (disch := omega) only [h4, v77, e7V, eV_at, eV_up, o_lit2, o_add, o_sub, o_mul, o_neg, o_div, o_nat, ix_t, o_lt, o_le, o_eq, o_bi0, o_bi1, o_bib, em_t, o_neg1, o_shl, o_tb, o_tb0, o_tt, o_and, o_xor, o_or, o_max, o_min, an_tb, and_true, true_and, not_true, not_false, if_true, if_false, tn_add, tn_mul, Int.reduceToNat, tn_cast, md_x]
      rw [if_neg c, h3]
      by_cases p : P = true
      · rw [if_neg (b0o_f p)]
        by_cases c2 : B 7 0 < sc t0
        · rw [if_pos c2]
          have : bi (P' = true) = 0 := (bi_f (by rw [hP', p, decide_eq_false (show ¬ sc t0 ≤ B 7 0 by omega)]; decide)).symm
          rw [this] at hr
          exact hr
        · rw [if_neg c2]
          have : bi (P' = true) = 1 := (bi_t (by rw [hP', p, decide_eq_true (show sc t0 ≤ B 7 0 by omega)]; decide)).symm
          rw [this] at hr
          exact hr
      · rw [if_pos (b0o_t p)]
        have : bi (P' = true) = 0 := (bi_f (by rw [hP']; intro h; rw [Bool.and_eq_true] at h; exact p h.1)).symm
        rw [this] at hr
        exact hr
    obtain ⟨W, ⟨i1, i2, i3, i4⟩, hr⟩ := loopN (g := GW L xs) (d := d + 2) (mid := 52) (σ := Nat → Nat → Int) (fun t W => (109, [.ref 92, (Value.int (Int32.ofInt (t0))), (Value.int (Int32.ofInt (t)))], [], zS (eV W) J tg)) (fun t W => (∀ c, c ≠ 92 → W c = V c) ∧ W 92 3 = bi (P' = true) ∧ W 92 4 = (nd ||| 2 ^ t0 : Nat) ∧ W 92 5 = (brk br (fun t => decide (t ≠ t0 ∧ tk (B 7 0) sc (2 ^ t0 ||| 2 ^ t) 12 ≠ t0)) t : Nat)) T (by
      intro t W ht' ⟨i1, i2, i3, i4⟩
      obtain ⟨g1, g2, g3⟩ := e70 W i1
      have qW : Qy B W := q.cl fun c _ q2 => i1 c (by omega)
      have hs : brk br (fun t => decide (t ≠ t0 ∧ tk (B 7 0) sc (2 ^ t0 ||| 2 ^ t) 12 ≠ t0)) (t + 1) = if decide (t ≠ t0 ∧ tk (B 7 0) sc (2 ^ t0 ||| 2 ^ t) 12 ≠ t0) then brk br (fun t => decide (t ≠ t0 ∧ tk (B 7 0) sc (2 ^ t0 ||| 2 ^ t) 12 ≠ t0)) t ||| 2 ^ t else brk br (fun t => decide (t ≠ t0 ∧ tk (B 7 0) sc (2 ^ t0 ||| 2 ^ t) 12 ≠ t0)) t := rfl
      rw [hs]
      generalize brk br (fun t => decide (t ≠ t0 ∧ tk (B 7 0) sc (2 ^ t0 ||| 2 ^ t) 12 ≠ t0)) t = b at i4 ⊢
      by_cases c1 : t = t0
      · rw [decide_eq_false (fun h => h.1 c1), if_neg (by decide)]
        refine ⟨W, ⟨i1, i2, i3, i4⟩, fun r hr => ?_⟩
        apply sg_52_109
        simp (disch := omega) only [g2, eV_at, eV_up, o_lit2, o_add, o_sub, o_mul, o_neg, o_div, o_nat, ix_t, o_lt, o_le, o_eq, o_bi0, o_bi1, o_bib, em_t, o_neg1, o_shl, o_tb, o_tb0, o_tt, o_and, o_xor, o_or, o_max, o_min, an_tb, and_true, true_and, not_true, not_false, if_true, if_false, tn_add, tn_mul, Int.reduceToNat, tn_cast, md_x]
        rw [if_neg (by omega), if_pos (by omega)]
        exact hr
      · have hp : 2 ^ t < 2 ^ T := Nat.pow_lt_pow_right (by omega) ht'
        have hor : 2 ^ t0 ||| 2 ^ t < 2 ^ T := Nat.or_lt_two_pow hp0 hp
        have k1 := k_100 (L := L) (xs := xs) (J := J) (tg := tg) (d := d) (hI.1.fr fun c hc => qW.1 c (by omega)) (s := 2 ^ t0 ||| 2 ^ t) (g := sc) (by omega) (fun u _ hb => g3 u (Nat.lt_of_not_le fun hle => by rw [tb_hi hor hle] at hb; exact absurd hb (by decide))) hsc
        rw [g1] at k1
        have htk := tk_rg (lim := B 7 0) (f := sc) (s := 2 ^ t0 ||| 2 ^ t) (n := 12) (by omega) (fun t => by have := hsc t; omega)
        by_cases c2 : tk (B 7 0) sc (2 ^ t0 ||| 2 ^ t) 12 = t0
        · rw [decide_eq_false (fun h => h.2 c2), if_neg (by decide)]
          refine ⟨W, ⟨i1, i2, i3, i4⟩, fun r hr => ?_⟩
          apply sg_52_109
          simp (disch := omega) only [g2, eV_at, eV_up, o_lit2, o_add, o_sub, o_mul, o_neg, o_div, o_nat, ix_t, o_lt, o_le, o_eq, o_bi0, o_bi1, o_bib, em_t, o_neg1, o_shl, o_tb, o_tb0, o_tt, o_and, o_xor, o_or, o_max, o_min, an_tb, and_true, true_and, not_true, not_false, if_true, if_false, tn_add, tn_mul, Int.reduceToNat, tn_cast, md_x]
          rw [if_neg (by omega), if_neg (by omega)]
          refine ⟨_, _, k1, ?_⟩
          simp (disch := omega) only [eV_at, eV_up, o_lit2, o_add, o_sub, o_mul, o_neg, o_div, o_nat, ix_t, o_lt, o_le, o_eq, o_bi0, o_bi1, o_bib, em_t, o_neg1, o_shl, o_tb, o_tb0, o_tt, o_and, o_xor, o_or, o_max, o_min, an_tb, and_true, true_and, not_true, not_false, if_true, if_false, tn_add, tn_mul, Int.reduceToNat, tn_cast, md_x]
          rw [if_pos c2]
          exact hr
        · rw [decide_eq_true ⟨c1, c2⟩, if_pos rfl]
          refine ⟨up2 W 92 5 (b ||| 2 ^ t : Nat), ⟨fun c hc => by rw [w_ne _ _ _ _ hc]; exact i1 c hc, by rw [w_at, if_neg (by decide)]; exact i2, by rw [w_at, if_neg (by decide)]; exact i3, w_eq _ _ _ _⟩, fun r hr => ?_⟩
          apply sg_52_109
          simp (disch := omega) only [g2, eV_at, eV_up, o_lit2, o_add, o_sub, o_mul, o_neg, o_div, o_nat, ix_t, o_lt, o_le, o_eq, o_bi0, o_bi1, o_bib, em_t, o_neg1, o_shl, o_tb, o_tb0, o_tt, o_and, o_xor, o_or, o_max, o_min, an_tb, and_true, true_and, not_true, not_false, if_true, if_false, tn_add, tn_mul, Int.reduceToNat, tn_cast, md_x]
          rw [if_neg (by omega), if_neg (by omega)]
          refine ⟨_, _, k1, ?_⟩
          simp (disch := omega) only [i4, eV_at, eV_up, o_lit2, o_add, o_sub, o_mul, o_neg, o_div, o_nat, ix_t, o_lt, o_le, o_eq, o_bi0, o_bi1, o_bib, em_t, o_neg1, o_shl, o_tb, o_tb0, o_tt, o_and, o_xor, o_or, o_max, o_min, an_tb, and_true, true_and, not_true, not_false, if_true, if_false, tn_add, tn_mul, Int.reduceToNat, tn_cast, md_x]
          rw [if_neg c2]
          exact hr) T 0 (up2 (up2 V 92 4 (nd ||| 2 ^ t0 : Nat)) 92 3 (bi (P' = true))) (by omega) ⟨fun c hc => by rw [w_ne _ _ _ _ hc, w_ne _ _ _ _ hc], w_eq _ _ _ _, by rw [w_at, if_neg (by decide), w_eq], by rw [w_at, if_neg (by decide), w_at, if_neg (by decide)]; exact h5⟩
    refine ⟨W, P', nd ||| 2 ^ t0, _, i1, i2, i3, i4, Nat.or_lt_two_pow hnd hp0, brk_lt hbr T (Nat.le_refl _), fun s hs => ?_, pre _ (hr _ ?_)⟩
    · have two : ∀ u, u < T → u ≠ t0 → (tk (B 7 0) sc (2 ^ t0 ||| 2 ^ u) 12 = t0 ↔ sc t0 ≤ B 7 0 ∧ btr sc t0 u) := fun u hu hne => by
        rw [tk_some]
        have hb : ∀ v, (2 ^ t0 ||| 2 ^ u).testBit v = (decide (t0 = v) || decide (u = v)) := fun v => by rw [Nat.testBit_or, Nat.testBit_two_pow, Nat.testBit_two_pow]
        constructor
        · rintro ⟨-, -, a3, a4⟩
          exact ⟨a3, a4 u (by omega) (by rw [hb]; simp)⟩
        · rintro ⟨a3, a4⟩
          refine ⟨by omega, by rw [hb]; simp, a3, fun v _ hv => ?_⟩
          rw [hb, Bool.or_eq_true, decide_eq_true_eq, decide_eq_true_eq] at hv
          rcases hv with rfl | rfl
          · exact ⟨fun h => by omega, fun h => by omega⟩
          · exact a4
      rw [tk_some]
      unfold inM
      rw [hP']
      constructor
      · rintro ⟨a1, a2, a3⟩
        rw [Bool.and_eq_true, decide_eq_true_eq] at a1
        refine ⟨⟨a1.1, fun t h => a2 t (by rw [Nat.testBit_or, h]; rfl), fun t h => a3 t (by rw [brk_tb, h]; rfl)⟩, by omega, a2 t0 (by rw [Nat.testBit_or, Nat.testBit_two_pow]; simp), a1.2, fun u _ hb => ?_⟩
        by_cases e : u = t0
        · subst e; exact ⟨fun h => by omega, fun h => by omega⟩
        · have hu : u < T := Nat.lt_of_not_le fun hle => by rw [tb_hi hs hle] at hb; exact absurd hb (by decide)
          by_cases hh : tk (B 7 0) sc (2 ^ t0 ||| 2 ^ u) 12 = t0
          · exact ((two u hu e).mp hh).2
          · have := a3 u (by rw [brk_tb, decide_eq_true hu, decide_eq_true ⟨e, hh⟩]; simp)
            rw [hb] at this; exact absurd this (by decide)
      · rintro ⟨⟨a1, a2, a3⟩, -, b2, b3, b4⟩
        refine ⟨by rw [a1, decide_eq_true b3]; rfl, fun t h => ?_, fun t h => ?_⟩
        · rw [Nat.testBit_or, Nat.testBit_two_pow, Bool.or_eq_true, decide_eq_true_eq] at h
          rcases h with h | h
          · exact a2 t h
          · rw [← h]; exact b2
        · rw [brk_tb] at h
          cases qb : s.testBit t
          · rfl
          · exfalso
            have ht' : t < T := Nat.lt_of_not_le fun hle => by rw [tb_hi hs hle] at qb; exact absurd qb (by decide)
            have : ¬ (t ≠ t0 ∧ tk (B 7 0) sc (2 ^ t0 ||| 2 ^ t) 12 ≠ t0) := fun hh => hh.2 ((two t ht' hh.1).mpr ⟨b3, b4 t (by omega) qb⟩)
            rw [decide_eq_false this, Bool.and_false, Bool.or_false] at h
            rw [a3 t h] at qb; exact absurd qb (by decide)
    · obtain ⟨g1, g2, g3⟩ := e70 W i1
      apply sg_52_109
      simp (disch := omega) only [g2, eV_at, eV_up, o_lit2, o_add, o_sub, o_mul, o_neg, o_div, o_nat, ix_t, o_lt, o_le, o_eq, o_bi0, o_bi1, o_bib, em_t, o_neg1, o_shl, o_tb, o_tb0, o_tt, o_and, o_xor, o_or, o_max, o_min, an_tb, and_true, true_and, not_true, not_false, if_true, if_false, tn_add, tn_mul, Int.reduceToNat, tn_cast, md_x]
      rw [if_pos (by omega)] <;> first | rfl | trivial
/-- what gather leaves -/
def MD (B V : Nat → Nat → Int) (ld day : Int) (T : Nat) (P : Bool) (nd br : Nat) : Prop := V 92 3 = bi (P = true) ∧ V 92 4 = nd ∧ V 92 5 = br ∧ nd < 2 ^ T ∧ br < 2 ^ T ∧ (P = true → ∀ t, nd.testBit t = true → br.testBit t = false) ∧ ∀ s, s < 2 ^ T → (mndB B ld day s (B 7 5).toNat = true ↔ inM P nd br s)
theorem k_51 (hI : INV B) (q : Qy B V) {T : Nat} {ld day : Int} (hT : B 1 1 = T) (hld : 0 ≤ ld ∧ ld ≤ 5) (hday : 0 ≤ day ∧ day ≤ 999) : ∃ W P nd br, Qy B W ∧ MD B W ld day T P nd br ∧ Runs (GW L xs) (d + 5) 51 (0, [.ref 92, (Value.int (Int32.ofInt (ld))), (Value.int (Int32.ofInt (day))), vU], [], zS (eV (V)) J tg) (none, zS (eV (W)) J tg) := by
  have rT : 0 ≤ B 1 1 ∧ B 1 1 ≤ 12 := hI.1 1 1 (by decide) (by decide)
  have rA : 0 ≤ B 7 5 ∧ B 7 5 ≤ 60 := hI.1 7 5 (by decide) (by decide)
  obtain ⟨A, hA⟩ : ∃ A : Nat, B 7 5 = A := ⟨(B 7 5).toNat, by omega⟩
  have hpos := Nat.pow_pos (a := 2) (n := T) (by omega)
  have h2T : 2 ^ T ≤ 4096 := p2_12 (by omega)
  obtain ⟨⟨W, P, nd, br⟩, ⟨qW, i3, i4, i5, i6, i7, i8⟩, hr⟩ := loopN (g := GW L xs) (d := d + 5) (mid := 51) (σ := (Nat → Nat → Int) × Bool × Nat × Nat) (fun k σ => (17, [.ref 92, (Value.int (Int32.ofInt (ld))), (Value.int (Int32.ofInt (day))), (Value.int (Int32.ofInt (k)))], [], zS (eV σ.1) J tg)) (fun k σ => Qy B σ.1 ∧ σ.1 92 3 = bi (σ.2.1 = true) ∧ σ.1 92 4 = (σ.2.2.1 : Nat) ∧ σ.1 92 5 = (σ.2.2.2 : Nat) ∧ σ.2.2.1 < 2 ^ T ∧ σ.2.2.2 < 2 ^ T ∧ ∀ s, s < 2 ^ T → (mndB B ld day s k = true ↔ inM σ.2.1 σ.2.2.1 σ.2.2.2 s)) A (by
    intro k ⟨W, P, nd, br⟩ hk ⟨qW, i3, i4, i5, i6, i7, i8⟩
    dsimp only at qW i3 i4 i5 i6 i7 i8 ⊢
    have e75 : W 7 5 = A := by rw [qW.1 7 (by omega)]; exact hA
    have c13 : W 13 k = B 13 k := by rw [qW.1 13 (by omega)]
    have c17 : W 17 k = B 17 k := by rw [qW.1 17 (by omega)]
    have r13 : 0 ≤ B 13 k ∧ B 13 k ≤ 5 := hI.1 13 k (by decide) (by decide)
    have r14 : 0 ≤ B 14 k ∧ B 14 k ≤ 5 := hI.1 14 k (by decide) (by decide)
    have r15 : 0 ≤ B 15 k ∧ B 15 k ≤ 11 := hI.1 15 k (by decide) (by decide)
    have r16 : -1 ≤ B 16 k ∧ B 16 k ≤ 11 := hI.1 16 k (by decide) (by decide)
    have r17 : 0 ≤ B 17 k ∧ B 17 k ≤ 999 := hI.1 17 k (by decide) (by decide)
    have hs : ∀ s, mndB B ld day s (k + 1) = (mndB B ld day s k && (!(decide (B 13 k = ld) && decide (B 17 k ≤ day)) || decide (tk (B 7 0) (scr B (B 15 k).toNat (B 14 k).toNat) s 12 = B 16 k))) := fun s => rfl
    by_cases c1 : B 13 k = ld
    · by_cases c2 : B 17 k ≤ day
      · obtain ⟨dr, hdr⟩ : ∃ n : Nat, B 15 k = n := ⟨(B 15 k).toNat, by omega⟩
        obtain ⟨st, hst⟩ : ∃ n : Nat, B 14 k = n := ⟨(B 14 k).toNat, by omega⟩
        have c15 : W 15 k = dr := by rw [qW.1 15 (by omega)]; exact hdr
        have c14 : W 14 k = st := by rw [qW.1 14 (by omega)]; exact hst
        have hRW : RNG W := hI.1.fr fun c hc => qW.1 c (by omega)
        obtain ⟨X, a1, a2, a3, a4, a5, a6, a7⟩ := k_92 (L := L) (xs := xs) (J := J) (tg := tg) (d := d) hRW qW.2.2.2 (dr := dr) (st := st) (by omega) (by omega)
        have qX : Qy B X := qW.ca (fun c _ q2 => a1 c (by omega) (by omega)) a5
        have eS : ∀ t, scr W dr st t = scr B dr st t := fun t => by
          unfold scr
          rw [FAR_fr (qW.1 1 (by omega)) (qW.1 2 (by omega)) (qW.1 3 (by omega)) (qW.1 4 (by omega)), qW.1 10 (by omega)]
        have e92 : X 92 = W 92 := a1 92 (by omega) (by omega)
        have hlt : B 16 k < T := by
          have := (hI.2.1.2.2.2.2.2.1 k (by show (k : Int) < B 7 5; omega)).2.2
          have this : B 16 k < B 1 1 := this
          omega
        obtain ⟨Y, P', nd', br', y1, y2, y3, y4, y5, y6, y7, y8⟩ := k_52 (L := L) (xs := xs) (J := J) (tg := tg) (d := d + 2) hI qX (T := T) (took := B 16 k) (P := P) (nd := nd) (br := br) (sc := scr B dr st) hT (by omega) (by rw [e92]; exact i3) (by rw [e92]; exact i4) (by rw [e92]; exact i5) i6 i7 (scr_rg hI.1 dr st) (fun t ht => by rw [a6 t (by rw [qW.1 1 (by omega)]; omega), eS])
        have c16 : X 16 k = B 16 k := by rw [qX.1 16 (by omega)]
        refine ⟨(Y, P', nd', br'), ⟨qX.cl fun c _ q2 => y1 c (by omega), y2, y3, y4, y5, y6, fun s hs' => ?_⟩, fun r hr => ?_⟩
        · dsimp only
          rw [y7 s hs', ← i8 s hs', hs s, decide_eq_true c1, decide_eq_true c2, hdr, hst, tn_cast, tn_cast, Bool.and_eq_true]
          simp
        · apply sg_51_17
          simp (disch := omega) only [e75, c13, c17, c15, c14, eV_at, eV_up, o_lit2, o_add, o_sub, o_mul, o_neg, o_div, o_nat, ix_t, o_lt, o_le, o_eq, o_bi0, o_bi1, o_bib, em_t, o_neg1, o_shl, o_tb, o_tb0, o_tt, o_and, o_xor, o_or, o_max, o_min, an_tb, and_true, true_and, not_true, not_false, if_true, if_false, tn_add, tn_mul, Int.reduceToNat, tn_cast, md_x]
          rw [if_neg (by omega), if_pos c1, if_neg (by omega)]
          refine ⟨_, a7, ?_⟩
          simp (disch := omega) only [c16, eV_at, eV_up, o_lit2, o_add, o_sub, o_mul, o_neg, o_div, o_nat, ix_t, o_lt, o_le, o_eq, o_bi0, o_bi1, o_bib, em_t, o_neg1, o_shl, o_tb, o_tb0, o_tt, o_and, o_xor, o_or, o_max, o_min, an_tb, and_true, true_and, not_true, not_false, if_true, if_false, tn_add, tn_mul, Int.reduceToNat, tn_cast, md_x]
          exact ⟨_, y8, hr⟩
      · refine ⟨(W, P, nd, br), ⟨qW, i3, i4, i5, i6, i7, fun s hs' => ?_⟩, fun r hr => ?_⟩
        · dsimp only
          rw [hs s, decide_eq_false c2, Bool.and_false]
          simpa using i8 s hs'
        · apply sg_51_17
          simp (disch := omega) only [e75, c13, c17, eV_at, eV_up, o_lit2, o_add, o_sub, o_mul, o_neg, o_div, o_nat, ix_t, o_lt, o_le, o_eq, o_bi0, o_bi1, o_bib, em_t, o_neg1, o_shl, o_tb, o_tb0, o_tt, o_and, o_xor, o_or, o_max, o_min, an_tb, and_true, true_and, not_true, not_false, if_true, if_false, tn_add, tn_mul, Int.reduceToNat, tn_cast, md_x]
          rw [if_neg (by omega), if_pos c1, if_pos (by omega)]
          exact hr
    · refine ⟨(W, P, nd, br), ⟨qW, i3, i4, i5, i6, i7, fun s hs' => ?_⟩, fun r hr => ?_⟩
      · dsimp only
        rw [hs s, decide_eq_false c1, Bool.false_and]
        simpa using i8 s hs'
      · apply sg_51_17
        simp (disch := omega) only [e75, c13, eV_at, eV_up, o_lit2, o_add, o_sub, o_mul, o_neg, o_div, o_nat, ix_t, o_lt, o_le, o_eq, o_bi0, o_bi1, o_bib, em_t, o_neg1, o_shl, o_tb, o_tb0, o_tt, o_and, o_xor, o_or, o_max, o_min, an_tb, and_true, true_and, not_true, not_false, if_true, if_false, tn_add, tn_mul, Int.reduceToNat, tn_cast, md_x]
        rw [if_neg (by omega), if_neg c1]
        exact hr) A 0 (up2 (up2 (up2 V 92 3 1) 92 4 0) 92 5 0, true, 0, 0) (by omega) ⟨q.cl fun c _ q2 => by dsimp only; rw [w_ne _ _ _ _ (by omega), w_ne _ _ _ _ (by omega), w_ne _ _ _ _ (by omega)], by dsimp only; rw [w_at, if_neg (by decide), w_at, if_neg (by decide), w_eq]; exact bi_t rfl, by dsimp only; rw [w_at, if_neg (by decide), w_eq]; rfl, by dsimp only; rw [w_eq]; rfl, hpos, hpos, fun s _ => ⟨fun _ => ⟨rfl, fun t h => by simp at h, fun t h => by simp at h⟩, fun _ => rfl⟩⟩
  dsimp only at qW i3 i4 i5 i6 i7 i8 hr
  have e75 : W 7 5 = A := by rw [qW.1 7 (by omega)]; exact hA
  have hdis : (nd &&& br = 0) ↔ ∀ t, nd.testBit t = true → br.testBit t = false := by
    constructor
    · intro h t ht
      have : (nd &&& br).testBit t = false := by rw [h, Nat.zero_testBit]
      rw [Nat.testBit_and, ht, Bool.true_and] at this; exact this
    · intro h
      apply Nat.eq_of_testBit_eq
      intro t
      rw [Nat.testBit_and, Nat.zero_testBit]
      cases qb : nd.testBit t
      · rfl
      · rw [h t qb]; rfl
  have hand : nd &&& br < 4096 := Nat.lt_of_le_of_lt Nat.and_le_left (by omega)
  obtain ⟨P', hP'⟩ : ∃ P' : Bool, P' = (P && decide (nd &&& br = 0)) := ⟨_, rfl⟩
  refine ⟨up2 W 92 3 (bi (P' = true)), P', nd, br, qW.cl fun c _ q2 => w_ne _ _ _ _ (by omega), ⟨w_eq _ _ _ _, by rw [w_at, if_neg (by decide)]; exact i4, by rw [w_at, if_neg (by decide)]; exact i5, i6, i7, fun h => ?_, fun s hs => ?_⟩, ?_⟩
  · rw [hP', Bool.and_eq_true, decide_eq_true_eq] at h
    exact hdis.mp h.2
  · rw [hA, tn_cast, i8 s hs, hP']
    unfold inM
    rw [Bool.and_eq_true, decide_eq_true_eq, hdis]
    refine ⟨fun h => ⟨⟨h.1, fun t ht => ?_⟩, h.2⟩, fun h => ⟨h.1.1, h.2⟩⟩
    cases qb : br.testBit t
    · rfl
    · have h1 := h.2.1 t ht
      rw [h.2.2 t qb] at h1; exact absurd h1 (by decide)
  · apply sg_51
    simp (disch := omega) only [eV_at, eV_up, o_lit2, o_add, o_sub, o_mul, o_neg, o_div, o_nat, ix_t, o_lt, o_le, o_eq, o_bi0, o_bi1, o_bib, em_t, o_neg1, o_shl, o_tb, o_tb0, o_tt, o_and, o_xor, o_or, o_max, o_min, an_tb, and_true, true_and, not_true, not_false, if_true, if_false, tn_add, tn_mul, Int.reduceToNat, tn_cast, md_x]
    refine hr _ ?_
    apply sg_51_17
    simp (disch := omega) only [e75, i4, i5, eV_at, eV_up, o_lit2, o_add, o_sub, o_mul, o_neg, o_div, o_nat, ix_t, o_lt, o_le, o_eq, o_bi0, o_bi1, o_bib, em_t, o_neg1, o_shl, o_tb, o_tb0, o_tt, o_and, o_xor, o_or, o_max, o_min, an_tb, and_true, true_and, not_true, not_false, if_true, if_false, tn_add, tn_mul, Int.reduceToNat, tn_cast, md_x]
    rw [if_pos (by omega), i3]
    by_cases p : P = true
    · rw [if_neg (b0o_f p)]
      by_cases z : nd &&& br = 0
      · have : bi (P' = true) = 1 := (bi_t (by rw [hP', p, decide_eq_true z]; rfl)).symm
        rw [if_pos (by omega), this]
      · have : bi (P' = true) = 0 := (bi_f (by rw [hP', p, decide_eq_false z]; decide)).symm
        rw [if_neg (by omega), this]
    · have : bi (P' = true) = 0 := (bi_f (by rw [hP']; intro h; rw [Bool.and_eq_true] at h; exact p h.1)).symm
      rw [if_pos (b0o_t p), this]
end MI
