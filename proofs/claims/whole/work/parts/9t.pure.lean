/-! Readings by all LANDS; says, right, harm, odds. -/
section RD
variable {L d : Nat} {xs : Nat → Int32} {B V : Nat → Nat → Int} {J : Nat → Nat → Int64} {tg : Option Nat}
theorem smG_cg (hI : INV B) {kd so : Int} (h6 : kd ≠ 6) {N M : Nat → Int} (e : ∀ v, v < 8 → N v = M v) : smG B kd so N = smG B kd so M := by
  have r : -1 ≤ B 18 1 ∧ B 18 1 ≤ 3 := hI.1 18 1 (by decide) (by decide)
  unfold smG
  by_cases g : B 18 1 = -1
  · rw [if_pos g, if_pos g]
  · rw [if_neg g, if_neg g]
    obtain ⟨k, hk⟩ : ∃ k : Nat, B 18 1 = k := ⟨(B 18 1).toNat, by omega⟩
    have hG : GRk B k := hI.gk (Qy.rf hI.2.2.2.1) (by omega) hk
    rw [hk, tn_cast]
    unfold smB
    have := hG.1
    refine anyB_cg fun i hi => ?_
    by_cases c : B (47 + 4 * k + 2) i = kd
    · rw [evC_cg8 hG (by omega) (by rw [c]; exact h6) e]
    · rw [decide_eq_false c, Bool.false_and, Bool.false_and]
theorem hmG_cg (hI : INV B) {N M : Nat → Int} (e : ∀ v, v < 12 → N v = M v) : hmG B N = hmG B M := by
  have r : -1 ≤ B 18 1 ∧ B 18 1 ≤ 3 := hI.1 18 1 (by decide) (by decide)
  unfold hmG
  by_cases g : B 18 1 = -1
  · rw [if_pos g, if_pos g]
  · rw [if_neg g, if_neg g]
    obtain ⟨k, hk⟩ : ∃ k : Nat, B 18 1 = k := ⟨(B 18 1).toNat, by omega⟩
    have hG : GRk B k := hI.gk (Qy.rf hI.2.2.2.1) (by omega) hk
    rw [hk, tn_cast]
    by_cases c : B (47 + 4 * k) 6 = -1
    · rw [if_pos c, if_pos c]
    · rw [if_neg c, if_neg c, evC_cg hG (by rcases hG.2.2.2.2 with h | h <;> omega) e]
theorem hmG_rg (hI : INV B) {N : Nat → Int} (hN : N12 N) : 0 ≤ hmG B N ∧ hmG B N ≤ 1000000 := by
  have r : -1 ≤ B 18 1 ∧ B 18 1 ≤ 3 := hI.1 18 1 (by decide) (by decide)
  unfold hmG
  by_cases g : B 18 1 = -1
  · rw [if_pos g]; omega
  · rw [if_neg g]
    obtain ⟨k, hk⟩ : ∃ k : Nat, B 18 1 = k := ⟨(B 18 1).toNat, by omega⟩
    have hG : GRk B k := hI.gk (Qy.rf hI.2.2.2.1) (by omega) hk
    rw [hk, tn_cast]
    by_cases c : B (47 + 4 * k) 6 = -1
    · rw [if_pos c]; omega
    · rw [if_neg c]
      have h5 := hG.2.2.2.2.resolve_left (fun h => c h.1)
      have hv := evC_v hG (i := (B (47 + 4 * k) 6).toNat) (by omega) ((h5.2.2 _ (by omega)).mpr (by omega)) hN
      omega
theorem fch_cg {N M : Nat → Int} (e : ∀ v, v < 8 → N v = M v) (took tur land st : Int) : ∀ v, v < 12 → fch N took tur land st v = fch M took tur land st v := fun v hv => by
  unfold fch
  split
  · rfl
  · split
    · rfl
    · split
      · rfl
      · split
        · rfl
        · exact e v (by omega)
theorem hb_cg (hI : INV B) {dr st : Nat} {dn : Int} {N M : Nat → Int} (e : ∀ v, v < 8 → N v = M v) (land took : Int) : hb B dr st dn N land took = hb B dr st dn M land took := by
  unfold hb
  rw [hmG_cg hI (fch_cg e _ _ _ _)]
theorem hb_rg (hI : INV B) {dr st : Nat} {dn : Int} {N : Nat → Int} (hN : N12 N) {land took : Int} (h1 : -1000 ≤ took ∧ took ≤ 1000) (h3 : -1000 ≤ land ∧ land ≤ 1000) (h4 : st ≤ 1000) : 0 ≤ hb B dr st dn N land took ∧ hb B dr st dn N land took ≤ 1000000 := by
  unfold hb
  split
  · omega
  · exact hmG_rg hI (fch_n hN h1 (by split <;> omega) h3 (by omega))
/-- harm of all LANDS, those RIGHT, all shares -/
def alh (B : Nat → Nat → Int) (dr st : Nat) (dn : Int) (F sc : Nat → Int) : Nat → Int
  | 0 => 0
  | l + 1 => alh B dr st dn F sc l + (if 0 < B 8 l then B 8 l * hb B dr st dn F l (tk (B 7 0) sc (B 9 l).toNat 12) else 0)
def rsh (B : Nat → Nat → Int) (dr : Nat) (dn : Int) (sc : Nat → Int) : Nat → Int
  | 0 => 0
  | l + 1 => rsh B dr dn sc l + (if 0 < B 8 l ∧ (lrn B dr l ∨ rt (B 5 dr) dn (B 6 dr) (tk (B 7 0) sc (B 9 l).toNat 12)) then B 8 l else 0)
def shs (B : Nat → Nat → Int) : Nat → Int
  | 0 => 0
  | l + 1 => shs B l + B 8 l
/-- the reader has met a DRAWING, or one changed -/
def MT (B V : Nat → Nat → Int) (dr st : Nat) (dn : Int) (F sc : Nat → Int) : Prop := V 75 8 = dr ∧ V 75 9 = st ∧ V 75 10 = dn ∧ (∀ k, k < 8 → V 78 k = F k) ∧ N12 (V 78) ∧ ∀ l, l < 6 → 0 < B 8 l → ∀ t, (B 9 l).toNat.testBit t = true → V 77 t = sc t
theorem k_100 (hR : RNG V) {s : Nat} {g : Nat → Int} (hs : s < 4096) (hg : ∀ t, t < 12 → s.testBit t = true → V 77 t = g t) (hgr : ∀ t, -5000 ≤ g t ∧ g t ≤ 5000) : Runs (GW L xs) (d + 1) 100 (0, [.ref 75, (Value.int (Int32.ofInt (s)))], [], zS (eV (V)) J tg) (some (Value.int (Int32.ofInt (tk (V 7 0) g s 12))), zS (eV (V)) J tg) := by
  have kp := k_113_77 (L := L) (xs := xs) (J := J) (tg := tg) (d := d) hR (fr := 0) (s := s) (h := 0) (g := g) (by omega) hs (by omega) (fun t ht q => by rw [Nat.zero_add]; exact ⟨hg t ht q, hgr t⟩)
  rw [tk_cg (g := g) (fun t _ _ => by simp)] at kp
  exact sg_100 _ _ _ _ ⟨_, _, kp, rfl⟩
theorem k_105 (hI : INV B) (q : Qy B V) {dr st : Nat} {dn : Int} {F sc : Nat → Int} (hd : dr < 12) (hst : st < 6) (hdn : 0 ≤ dn ∧ dn ≤ 1) (hsc : ∀ t, -5000 ≤ sc t ∧ sc t ≤ 5000) (M : MT B V dr st dn F sc) : ∃ W, (∀ c, c ≠ 45 → c ≠ 78 → W c = V c) ∧ (∀ k, k < 8 → W 78 k = V 78 k) ∧ N12 (W 78) ∧ Runs (GW L xs) (d + 3) 105 (0, [.ref 75, vU, vU], [], zS (eV (V)) J tg) (some (Value.int (Int32.ofInt (alh B dr st dn F sc 6))), zS (eV (W)) J tg) := by
  obtain ⟨m1, m2, m3, m4, m5, m6⟩ := M
  obtain ⟨W, ⟨i1, i2, i3⟩, hr⟩ := loopN (g := GW L xs) (d := d + 3) (mid := 105) (σ := Nat → Nat → Int) (fun l W => (4, [.ref 75, (Value.int (Int32.ofInt (alh B dr st dn F sc l))), (Value.int (Int32.ofInt (l)))], [], zS (eV W) J tg)) (fun l W => (∀ c, c ≠ 45 → c ≠ 78 → W c = V c) ∧ (∀ k, k < 8 → W 78 k = V 78 k) ∧ N12 (W 78)) 6 (by
    intro l W hl ⟨i1, i2, i3⟩
    have qW : Qy B W := q.cl fun c q1 q2 => i1 c q1 (by omega)
    have hRW : RNG W := hI.1.fr fun c hc => qW.1 c (by omega)
    have e8 : W 8 l = B 8 l := by rw [qW.1 8 (by omega)]
    have r8 : 0 ≤ B 8 l ∧ B 8 l ≤ 99 := hI.1 8 l (by decide) (by decide)
    obtain ⟨k1, k2, k3⟩ := know_lt hI hl
    have e9 : W 9 l = ((B 9 l).toNat : Nat) := by rw [qW.1 9 (by omega)]; exact k3
    have hs : alh B dr st dn F sc (l + 1) = alh B dr st dn F sc l + (if 0 < B 8 l then B 8 l * hb B dr st dn F l (tk (B 7 0) sc (B 9 l).toNat 12) else 0) := rfl
    by_cases g : 0 < B 8 l
    · rw [if_pos g] at hs
      have t1 := k_100 (L := L) (xs := xs) (J := J) (tg := tg) (d := d + 1) hRW (s := (B 9 l).toNat) (g := sc) k2 (fun t _ ht => by rw [i1 77 (by decide) (by decide)]; exact m6 l hl g t ht) hsc
      rw [qW.1 7 (by omega)] at t1
      have htk := tk_rg (lim := B 7 0) (f := sc) (s := (B 9 l).toNat) (n := 12) (by omega) (fun t => by have := hsc t; omega)
      have e75 : W 75 = V 75 := i1 75 (by decide) (by decide)
      obtain ⟨X, x1, x2, x3, x4⟩ := k_104 (L := L) (xs := xs) (J := J) (tg := tg) (d := d) hI qW (dr := dr) (st := st) (dn := dn) (land := (l : Int)) (took := tk (B 7 0) sc (B 9 l).toNat 12) (by rw [e75]; exact m1) (by rw [e75]; exact m2) (by rw [e75]; exact m3) hd hst hdn (by omega) htk i3
      rw [hb_cg hI (fun v hv => by rw [i2 v hv]; exact m4 v hv : ∀ v, v < 8 → W 78 v = F v)] at x4
      refine ⟨X, ⟨fun c q1 q2 => by rw [x1 c q1 q2]; exact i1 c q1 q2, fun k hk => by rw [x2 k hk]; exact i2 k hk, x3⟩, fun r hr => ?_⟩
      apply sg_105_4
      simp (disch := omega) only [e8, e9, eV_at, eV_up, o_lit2, o_add, o_sub, o_mul, o_neg, o_div, o_nat, ix_t, o_lt, o_le, o_eq, o_bi0, o_bi1, o_bib, em_t, o_neg1, o_shl, o_tb, o_tb0, o_tt, o_and, o_xor, o_or, o_max, o_min, an_tb, and_true, true_and, not_true, not_false, if_true, if_false, tn_add, tn_mul, Int.reduceToNat, tn_cast, md_x]
      rw [if_neg (by omega), if_neg (by omega)]
      refine ⟨_, _, t1, _, _, x4, ?_⟩
      rw [hs] at hr
      simp (disch := omega) only [eV_at, eV_up, o_lit2, o_add, o_sub, o_mul, o_neg, o_div, o_nat, ix_t, o_lt, o_le, o_eq, o_bi0, o_bi1, o_bib, em_t, o_neg1, o_shl, o_tb, o_tb0, o_tt, o_and, o_xor, o_or, o_max, o_min, an_tb, and_true, true_and, not_true, not_false, if_true, if_false, tn_add, tn_mul, Int.reduceToNat, tn_cast, md_x]
      exact hr
    · rw [if_neg g] at hs
      refine ⟨W, ⟨i1, i2, i3⟩, fun r hr => ?_⟩
      apply sg_105_4
      simp (disch := omega) only [e8, eV_at, eV_up, o_lit2, o_add, o_sub, o_mul, o_neg, o_div, o_nat, ix_t, o_lt, o_le, o_eq, o_bi0, o_bi1, o_bib, em_t, o_neg1, o_shl, o_tb, o_tb0, o_tt, o_and, o_xor, o_or, o_max, o_min, an_tb, and_true, true_and, not_true, not_false, if_true, if_false, tn_add, tn_mul, Int.reduceToNat, tn_cast, md_x]
      rw [if_neg (by omega), if_pos (by omega)]
      rw [hs, Int.add_zero] at hr
      exact hr) 6 0 V (by omega) ⟨fun _ _ _ => rfl, fun _ _ => rfl, m5⟩
  refine ⟨W, i1, i2, i3, sg_105 _ _ _ (hr _ (sg_105_4 _ _ _ _ _ ?_))⟩
  simp (disch := omega) only [eV_at, eV_up, o_lit2, o_add, o_sub, o_mul, o_neg, o_div, o_nat, ix_t, o_lt, o_le, o_eq, o_bi0, o_bi1, o_bib, em_t, o_neg1, o_shl, o_tb, o_tb0, o_tt, o_and, o_xor, o_or, o_max, o_min, an_tb, and_true, true_and, not_true, not_false, if_true, if_false, tn_add, tn_mul, Int.reduceToNat, tn_cast, md_x]
  rw [if_pos (by omega)] <;> first | rfl | trivial
theorem k_106 (hI : INV B) (q : Qy B V) {dr st : Nat} {dn : Int} {F sc : Nat → Int} (hd : dr < 12) (hdn : 0 ≤ dn ∧ dn ≤ 1) (hsc : ∀ t, -5000 ≤ sc t ∧ sc t ≤ 5000) (M : MT B V dr st dn F sc) : Runs (GW L xs) (d + 2) 106 (0, [.ref 75, vU, vU], [], zS (eV (V)) J tg) (some (Value.int (Int32.ofInt (rsh B dr dn sc 6))), zS (eV (V)) J tg) := by
  obtain ⟨m1, m2, m3, m4, m5, m6⟩ := M
  have hRV : RNG V := hI.1.fr fun c hc => q.1 c (by omega)
  obtain ⟨_, _, hr⟩ := loopN (g := GW L xs) (d := d + 2) (mid := 106) (σ := Unit) (fun l _ => (4, [.ref 75, (Value.int (Int32.ofInt (rsh B dr dn sc l))), (Value.int (Int32.ofInt (l)))], [], zS (eV V) J tg)) (fun _ _ => True) 6 (by
    intro l _ hl _
    have e8 : V 8 l = B 8 l := by rw [q.1 8 (by omega)]
    have r8 : 0 ≤ B 8 l ∧ B 8 l ≤ 99 := hI.1 8 l (by decide) (by decide)
    obtain ⟨k1, k2, k3⟩ := know_lt hI hl
    have e9 : V 9 l = ((B 9 l).toNat : Nat) := by rw [q.1 9 (by omega)]; exact k3
    have hs : rsh B dr dn sc (l + 1) = rsh B dr dn sc l + (if 0 < B 8 l ∧ (lrn B dr l ∨ rt (B 5 dr) dn (B 6 dr) (tk (B 7 0) sc (B 9 l).toNat 12)) then B 8 l else 0) := rfl
    refine ⟨(), trivial, fun r hr => ?_⟩
    rw [hs] at hr
    apply sg_106_4
    by_cases g : 0 < B 8 l
    · have t1 := k_100 (L := L) (xs := xs) (J := J) (tg := tg) (d := d) hRV (s := (B 9 l).toNat) (g := sc) k2 (fun t _ ht => m6 l hl g t ht) hsc
      rw [q.1 7 (by omega)] at t1
      have htk := tk_rg (lim := B 7 0) (f := sc) (s := (B 9 l).toNat) (n := 12) (by omega) (fun t => by have := hsc t; omega)
      have k3 := k_103 (L := L) (xs := xs) (J := J) (tg := tg) (d := d) hRV (dn := dn) (land := (l : Int)) (took := tk (B 7 0) sc (B 9 l).toNat 12) m1 m3 hdn hd (by omega) htk
      have er : (lrn V dr l ∨ rt (V 5 dr) dn (V 6 dr) (tk (B 7 0) sc (B 9 l).toNat 12)) = (lrn B dr l ∨ rt (B 5 dr) dn (B 6 dr) (tk (B 7 0) sc (B 9 l).toNat 12)) := by unfold lrn rt; rw [q.1 12 (by omega), q.1 5 (by omega), q.1 6 (by omega)]
      simp (disch := omega) only [e8, e9, eV_at, eV_up, o_lit2, o_add, o_sub, o_mul, o_neg, o_div, o_nat, ix_t, o_lt, o_le, o_eq, o_bi0, o_bi1, o_bib, em_t, o_neg1, o_shl, o_tb, o_tb0, o_tt, o_and, o_xor, o_or, o_max, o_min, an_tb, and_true, true_and, not_true, not_false, if_true, if_false, tn_add, tn_mul, Int.reduceToNat, tn_cast, md_x]
      rw [if_neg (by omega), if_neg (by omega)]
      refine ⟨_, _, t1, _, _, k3, ?_⟩
      by_cases c : lrn V dr l ∨ rt (V 5 dr) dn (V 6 dr) (tk (B 7 0) sc (B 9 l).toNat 12)
      · rw [if_neg (b0o_f c)]
        rw [if_pos ⟨g, er.mp c⟩] at hr
        simp (disch := omega) only [e8, eV_at, eV_up, o_lit2, o_add, o_sub, o_mul, o_neg, o_div, o_nat, ix_t, o_lt, o_le, o_eq, o_bi0, o_bi1, o_bib, em_t, o_neg1, o_shl, o_tb, o_tb0, o_tt, o_and, o_xor, o_or, o_max, o_min, an_tb, and_true, true_and, not_true, not_false, if_true, if_false, tn_add, tn_mul, Int.reduceToNat, tn_cast, md_x]
        exact hr
      · rw [if_pos (b0o_t c)]
        rw [if_neg (fun h => c (er.mpr h.2)), Int.add_zero] at hr
        exact hr
    · simp (disch := omega) only [e8, eV_at, eV_up, o_lit2, o_add, o_sub, o_mul, o_neg, o_div, o_nat, ix_t, o_lt, o_le, o_eq, o_bi0, o_bi1, o_bib, em_t, o_neg1, o_shl, o_tb, o_tb0, o_tt, o_and, o_xor, o_or, o_max, o_min, an_tb, and_true, true_and, not_true, not_false, if_true, if_false, tn_add, tn_mul, Int.reduceToNat, tn_cast, md_x]
      rw [if_neg (by omega), if_pos (by omega)]
      rw [if_neg (fun h => g h.1), Int.add_zero] at hr
      exact hr) 6 0 () (by omega) trivial
  refine sg_106 _ _ _ (hr _ (sg_106_4 _ _ _ _ _ ?_))
  simp (disch := omega) only [eV_at, eV_up, o_lit2, o_add, o_sub, o_mul, o_neg, o_div, o_nat, ix_t, o_lt, o_le, o_eq, o_bi0, o_bi1, o_bib, em_t, o_neg1, o_shl, o_tb, o_tb0, o_tt, o_and, o_xor, o_or, o_max, o_min, an_tb, and_true, true_and, not_true, not_false, if_true, if_false, tn_add, tn_mul, Int.reduceToNat, tn_cast, md_x]
  rw [if_pos (by omega)] <;> first | rfl | trivial
theorem k_109 (q : Qy B V) : Runs (GW L xs) (d) 109 (0, [.ref 7, vU, vU], [], zS (eV (V)) J tg) (some (Value.int (Int32.ofInt (shs B 6))), zS (eV (V)) J tg) := by
  obtain ⟨_, _, hr⟩ := loopN (g := GW L xs) (d := d) (mid := 109) (σ := Unit) (fun l _ => (4, [.ref 7, (Value.int (Int32.ofInt (shs B l))), (Value.int (Int32.ofInt (l)))], [], zS (eV V) J tg)) (fun _ _ => True) 6 (by
    intro l _ hl _
    refine ⟨(), trivial, fun r hr => ?_⟩
    apply sg_109_4
    simp (disch := omega) only [q.1 8 (by omega), eV_at, eV_up, o_lit2, o_add, o_sub, o_mul, o_neg, o_div, o_nat, ix_t, o_lt, o_le, o_eq, o_bi0, o_bi1, o_bib, em_t, o_neg1, o_shl, o_tb, o_tb0, o_tt, o_and, o_xor, o_or, o_max, o_min, an_tb, and_true, true_and, not_true, not_false, if_true, if_false, tn_add, tn_mul, Int.reduceToNat, tn_cast, md_x]
    rw [if_neg (by omega)]
    exact hr) 6 0 () (by omega) trivial
  refine sg_109 _ _ _ (hr _ (sg_109_4 _ _ _ _ _ ?_))
  simp (disch := omega) only [eV_at, eV_up, o_lit2, o_add, o_sub, o_mul, o_neg, o_div, o_nat, ix_t, o_lt, o_le, o_eq, o_bi0, o_bi1, o_bib, em_t, o_neg1, o_shl, o_tb, o_tb0, o_tt, o_and, o_xor, o_or, o_max, o_min, an_tb, and_true, true_and, not_true, not_false, if_true, if_false, tn_add, tn_mul, Int.reduceToNat, tn_cast, md_x]
  rw [if_pos (by omega)] <;> first | rfl | trivial
/-- regard -/
theorem k_93 (hI : INV B) (q : Qy B V) {dr st : Nat} (hd : dr < 12) : ∃ W, (∀ c, c ≠ 45 → c ≠ 75 → c ≠ 78 → W c = V c) ∧ W 75 8 = (dr : Int) ∧ W 75 9 = (st : Int) ∧ W 75 10 = bi (smG B 4 1 (fct B dr (B 3 dr).toNat (lkc B dr)) = true) ∧ (∀ k, k < 12 → W 78 k = fct B dr (B 3 dr).toNat (lkc B dr) k) ∧ Runs (GW L xs) (d + 4) 93 (0, [.ref 75, (Value.int (Int32.ofInt (dr))), (Value.int (Int32.ofInt (st)))], [], zS (eV (V)) J tg) (none, zS (eV (W)) J tg) := by
  have hRV : RNG V := hI.1.fr fun c hc => q.1 c (by omega)
  have r3 : 0 ≤ B 3 dr ∧ B 3 dr ≤ 6 := hI.1 3 dr (by decide) (by decide)
  obtain ⟨n, hn⟩ : ∃ n : Nat, B 3 dr = n := ⟨(B 3 dr).toNat, by omega⟩
  obtain ⟨A, a1, a2, a3, a4, a5, a6⟩ := k_97_2 (L := L) (xs := xs) (J := J) (tg := tg) (d := d + 2) hRV (dr := dr) (st := st) (f := dr * 6) (n := n) hd (by omega) (fun i hi => by
    have : 0 ≤ V 2 (dr * 6 + i) ∧ V 2 (dr * 6 + i) ≤ 179 := hRV 2 (dr * 6 + i) (by decide) (by decide)
    omega)
  have eF : ∀ k, fct V dr n (fun i => V 2 (dr * 6 + i)) k = fct B dr n (lkc B dr) k := fun k => by
    unfold fct
    rw [q.1 4 (by omega), q.1 5 (by omega), q.1 2 (by omega)]
    rfl
  have qA : Qy B A := q.cl fun c q1 q2 => a1 c (by omega) (by omega)
  have hF : ∀ k, k < 12 → A 78 k = fct B dr n (lkc B dr) k := fun k hk => by rw [a5 k hk, eF]
  have hN : N12 (A 78) := fun k hk => by rw [hF k hk]; have := fct_rg hI.1 (dr := dr) (n := n) (by omega) (lkc B dr) k; omega
  obtain ⟨W, w1, w2, w3, w4⟩ := k_98 (L := L) (xs := xs) (J := J) (tg := tg) (d := d) hI qA hN
  rw [smG_cg hI (by decide) (fun v hv => hF v (by omega))] at w3
  rw [hn, tn_cast]
  refine ⟨W, fun c q1 q2 q3 => by rw [w1 c q1 q2]; exact a1 c q2 q3, by rw [w2 8 (by decide)]; exact a3, by rw [w2 9 (by decide)]; exact a4, w3, fun k hk => by rw [w1 78 (by decide) (by decide)]; exact hF k hk, ?_⟩
  apply sg_93
  have e3 : V 3 dr = n := by rw [q.1 3 (by omega)]; exact hn
  have e6 : (dr : Int) * 6 = ((dr * 6 : Nat) : Int) := by omega
  simp (disch := omega) only [e3, e6, eV_at, eV_up, o_lit2, o_add, o_sub, o_mul, o_neg, o_div, o_nat, ix_t, o_lt, o_le, o_eq, o_bi0, o_bi1, o_bib, em_t, o_neg1, o_shl, o_tb, o_tb0, o_tt, o_and, o_xor, o_or, o_max, o_min, an_tb, and_true, true_and, not_true, not_false, if_true, if_false, tn_add, tn_mul, Int.reduceToNat, tn_cast, md_x]
  exact ⟨_, a6, _, w4, rfl⟩
/-- meet -/
theorem k_94 (hI : INV B) (q : Qy B V) {dr st : Nat} (hd : dr < 12) (hst : st < 6) : ∃ W, Qy B W ∧ (∀ c, 93 ≤ c → W c = V c) ∧ MT B W dr st (bi (smG B 4 1 (fct B dr (B 3 dr).toNat (lkc B dr)) = true)) (fct B dr (B 3 dr).toNat (lkc B dr)) (scr B dr st) ∧ (∀ t : Nat, (t : Int) < B 1 1 → W 77 t = scr B dr st t) ∧ Runs (GW L xs) (d + 5) 94 (0, [.ref 75, (Value.int (Int32.ofInt (dr))), (Value.int (Int32.ofInt (st)))], [], zS (eV (V)) J tg) (none, zS (eV (W)) J tg) := by
  have hRV : RNG V := hI.1.fr fun c hc => q.1 c (by omega)
  have r3 : 0 ≤ B 3 dr ∧ B 3 dr ≤ 6 := hI.1 3 dr (by decide) (by decide)
  obtain ⟨A, a1, a2, a3, a4, a5, a6, a7⟩ := k_92 (L := L) (xs := xs) (J := J) (tg := tg) (d := d) hRV q.2.2.2 hd hst
  have qA : Qy B A := ⟨fun c h => by rw [a1 c (by omega) (by omega)]; exact q.1 c h, fun p h => by rw [a1 94 (by omega) (by omega)]; exact q.2.1 p h, fun p h => by rw [a1 93 (by omega) (by omega)]; exact q.2.2.1 p h, a5⟩
  have eS : ∀ t, scr V dr st t = scr B dr st t := fun t => by
    unfold scr
    rw [FAR_fr (q.1 1 (by omega)) (q.1 2 (by omega)) (q.1 3 (by omega)) (q.1 4 (by omega)), q.1 10 (by omega)]
  obtain ⟨W, w1, w2, w3, w4, w5, w6⟩ := k_93 (L := L) (xs := xs) (J := J) (tg := tg) (d := d) hI qA (dr := dr) (st := st) hd
  have h77 : ∀ t : Nat, (t : Int) < B 1 1 → W 77 t = scr B dr st t := fun t ht => by rw [w1 77 (by decide) (by decide) (by decide), a6 t (by rw [q.1 1 (by omega)]; exact ht), eS]
  refine ⟨W, qA.cl fun c q1 q2 => w1 c q1 (by omega) (by omega), fun c hc => by rw [w1 c (by omega) (by omega) (by omega), a1 c (by omega) (by omega)], ⟨w2, w3, w4, fun k hk => w5 k (by omega), fun k hk => by rw [w5 k hk]; have := fct_rg hI.1 (dr := dr) (n := (B 3 dr).toNat) (by omega) (lkc B dr) k; omega, fun l hl _ t ht => h77 t ?_⟩, h77, sg_94 _ _ _ _ _ ⟨_, a7, _, w6, rfl⟩⟩
  obtain ⟨k1, k2, k3⟩ := know_lt hI hl
  have rT : 0 ≤ B 1 1 ∧ B 1 1 ≤ 12 := hI.1 1 1 (by decide) (by decide)
  have : t < (B 1 1).toNat := Nat.lt_of_not_le fun hle => by rw [tb_hi k1 hle] at ht; exact Bool.noConfusion ht
  omega
/-- cells that readings of the reference work in -/
def MF (V W : Nat → Nat → Int) : Prop := ∀ c, ¬ (97 ≤ c ∧ c ≤ 99) → c ≠ 103 → c ≠ 105 → W c = V c
theorem MF.rf : MF V V := fun _ _ _ _ => rfl
theorem MF.tr {U W : Nat → Nat → Int} (h : MF U V) (k : MF V W) : MF U W := fun c q1 q2 q3 => (k c q1 q2 q3).trans (h c q1 q2 q3)
theorem Qy.mf {W : Nat → Nat → Int} (q : Qy B V) (f : MF V W) : Qy B W := ⟨fun c h => by rw [f c (by omega) (by omega) (by omega)]; exact q.1 c h, fun p h => by rw [f 94 (by omega) (by omega) (by omega)]; exact q.2.1 p h, fun p h => by rw [f 93 (by omega) (by omega) (by omega)]; exact q.2.2.1 p h, q.2.2.2.up (f 1 (by omega) (by omega) (by omega)) (f 2 (by omega) (by omega) (by omega)) (f 3 (by omega) (by omega) (by omega)) (f 4 (by omega) (by omega) (by omega)) (f 71 (by omega) (by omega) (by omega)) (f 81 (by omega) (by omega) (by omega))⟩
theorem m_246 (hI : INV B) (q : Qy B V) {dr ld : Nat} (hd : (dr : Int) < B 1 0) (hl : ld < 6) : Runs (GW L xs) (d) 246 (0, [.ref 93, (Value.int (Int32.ofInt (dr))), (Value.int (Int32.ofInt (ld)))], [], zS (eV (V)) J tg) (some (Value.int (Int32.ofInt (bi (lrn B dr ld)))), zS (eV (V)) J tg) := by
  have rD : 0 ≤ B 1 0 ∧ B 1 0 ≤ 12 := hI.1 1 0 (by decide) (by decide)
  have r : 0 ≤ B 12 (dr * 6 + ld) ∧ B 12 (dr * 6 + ld) ≤ 1000 := hI.1 12 (dr * 6 + ld) (by decide) (by decide)
  have hm : V 94 (600 + 6 * dr + ld) = B 12 (dr * 6 + ld) := by
    have : V 94 (600 + 6 * dr + ld) = V 12 (dr * 6 + ld) := ((hI.q q).2.1.2.2.1 dr (by rw [q.1 1 (by omega)]; exact hd)).2.2 ld hl
    rw [this, q.1 12 (by omega)]
  apply sg_246
  simp (disch := omega) only [hm, eV_at, eV_up, o_lit2, o_add, o_sub, o_mul, o_neg, o_div, o_nat, ix_t, o_lt, o_le, o_eq, o_bi0, o_bi1, o_bib, em_t, o_neg1, o_shl, o_tb, o_tb0, o_tt, o_and, o_xor, o_or, o_max, o_min, an_tb, and_true, true_and, not_true, not_false, if_true, if_false, tn_add, tn_mul, Int.reduceToNat, tn_cast, md_x]
  by_cases g : B 12 (dr * 6 + ld) < 500
  · rw [if_pos g]
    exact leafI (bi_f (fun h => by have := h.2; rw [tn_cast] at this; omega)).symm
  · rw [if_neg g]
    exact leafI (bi_t ⟨by omega, by rw [tn_cast]; omega⟩).symm
theorem m_248 (hI : INV B) (q : Qy B V) {l dr n ld st : Nat} {p : Nat → Int} (hL : LKm B V l dr n p) (hd : (dr : Int) < B 1 0) (hld : ld < 6) (hst : st < 6) : ∃ W J2, MF V W ∧ Runs (GW L xs) (d + 6) 248 (0, [.ref 93, (Value.int (Int32.ofInt (l))), (Value.int (Int32.ofInt (dr))), (Value.int (Int32.ofInt (ld))), (Value.int (Int32.ofInt (st))), vU], [], zS (eV (V)) (J) tg) (some (Value.int (Int32.ofInt (hb B dr st (bi (smG B 4 1 (fct B dr n p) = true)) (fct B dr n p) ld (tk (B 7 0) (scp B n p (B 4 dr) st) (B 9 ld).toNat 12)))), zS (eV (W)) (J2) tg) := by
  obtain ⟨A, a1, a2⟩ := m_205 (L := L) (xs := xs) (J := J) (tg := tg) (d := d) hI q hL.1 hld hst
  have hsc := scp_rg hI.1 hL.1.2.1 p (B 4 dr) st
  have htk := tk_rg (lim := B 7 0) (f := scp B n p (B 4 dr) st) (s := (B 9 ld).toNat) (n := 12) (by omega) (fun t => by have := hsc t; omega)
  generalize tk (B 7 0) (scp B n p (B 4 dr) st) (B 9 ld).toNat 12 = took at htk a2 ⊢
  have fA : MF V A := fun c q1 _ _ => a1 c q1
  have qA := q.mf fA
  have hLA := hL.fr (fA 94 (by omega) (by omega) (by omega))
  unfold hb
  by_cases g : lrn B dr ld
  · refine ⟨A, J, fA, ?_⟩
    rw [if_pos (Or.inl g)]
    apply sg_248
    refine ⟨_, _, _, a2, _, _, _, m_246 hI qA hd hld, ?_⟩
    rw [if_neg (b0_f g)]
    rfl
  · obtain ⟨C, J1, c1, c2⟩ := m_245 (L := L) (xs := xs) (J := J) (tg := tg) (d := d) hI qA hLA htk
    have fC : MF A C := fun c _ q2 q3 => c1 c q2 q3
    by_cases g2 : rt (B 5 dr) (bi (smG B 4 1 (fct B dr n p) = true)) (B 6 dr) took
    · refine ⟨C, J1, fA.tr fC, ?_⟩
      rw [if_pos (Or.inr g2)]
      apply sg_248
      refine ⟨_, _, _, a2, _, _, _, m_246 hI qA hd hld, ?_⟩
      rw [if_pos (b0_t g)]
      refine ⟨_, _, _, c2, ?_⟩
      rw [if_neg (b0_f g2)]
      rfl
    · obtain ⟨E, J2, e1, e2⟩ := m_247 (L := L) (xs := xs) (J := J1) (tg := tg) (d := d) hI (qA.mf fC) (hLA.fr (fC 94 (by omega) (by omega) (by omega))) (st := st) (land := (ld : Int)) htk (by omega) hst
      have fE : MF C E := fun c _ q2 q3 => e1 c q2 q3
      refine ⟨E, J2, (fA.tr fC).tr fE, ?_⟩
      rw [if_neg (fun h => h.elim g g2)]
      apply sg_248
      refine ⟨_, _, _, a2, _, _, _, m_246 hI qA hd hld, ?_⟩
      rw [if_pos (b0_t g)]
      refine ⟨_, _, _, c2, ?_⟩
      rw [if_pos (b0_t g2)]
      exact ⟨_, _, _, e2, rfl⟩
theorem m_249 (hI : INV B) (q : Qy B V) {l dr n ld st : Nat} {p : Nat → Int} (hL : LKm B V l dr n p) (hd : (dr : Int) < B 1 0) (hld : ld < 6) (hst : st < 6) : ∃ W J2, MF V W ∧ Runs (GW L xs) (d + 6) 249 (0, [.ref 93, (Value.int (Int32.ofInt (l))), (Value.int (Int32.ofInt (dr))), (Value.int (Int32.ofInt (ld))), (Value.int (Int32.ofInt (st)))], [], zS (eV (V)) (J) tg) (some (Value.int (Int32.ofInt (bi (lrn B dr ld ∨ rt (B 5 dr) (bi (smG B 4 1 (fct B dr n p) = true)) (B 6 dr) (tk (B 7 0) (scp B n p (B 4 dr) st) (B 9 ld).toNat 12))))), zS (eV (W)) (J2) tg) := by
  by_cases g : lrn B dr ld
  · refine ⟨V, J, MF.rf, ?_⟩
    apply sg_249
    refine ⟨_, _, _, m_246 hI q hd hld, ?_⟩
    rw [if_neg (b0_f g)]
    exact leafI (bi_t (Or.inl g)).symm
  · obtain ⟨A, a1, a2⟩ := m_205 (L := L) (xs := xs) (J := J) (tg := tg) (d := d) hI q hL.1 hld hst
    have hsc := scp_rg hI.1 hL.1.2.1 p (B 4 dr) st
    have htk := tk_rg (lim := B 7 0) (f := scp B n p (B 4 dr) st) (s := (B 9 ld).toNat) (n := 12) (by omega) (fun t => by have := hsc t; omega)
    generalize tk (B 7 0) (scp B n p (B 4 dr) st) (B 9 ld).toNat 12 = took at htk a2 ⊢
    have fA : MF V A := fun c q1 _ _ => a1 c q1
    have qA := q.mf fA
    have hLA := hL.fr (fA 94 (by omega) (by omega) (by omega))
    obtain ⟨C, J1, c1, c2⟩ := m_245 (L := L) (xs := xs) (J := J) (tg := tg) (d := d) hI qA hLA htk
    have fC : MF A C := fun c _ q2 q3 => c1 c q2 q3
    refine ⟨C, J1, fA.tr fC, ?_⟩
    apply sg_249
    refine ⟨_, _, _, m_246 hI q hd hld, ?_⟩
    rw [if_pos (b0_t g)]
    refine ⟨_, _, _, a2, _, _, _, c2, ?_⟩
    by_cases g2 : rt (B 5 dr) (bi (smG B 4 1 (fct B dr n p) = true)) (B 6 dr) took
    · rw [if_neg (b0_f g2)]; exact leafI (bi_t (Or.inr g2)).symm
    · rw [if_pos (b0_t g2)]; exact leafI (bi_f (fun h => h.elim g g2)).symm
theorem m_252 (hI : INV B) (q : Qy B V) {l dr n st : Nat} {p : Nat → Int} (hL : LKm B V l dr n p) (hd : (dr : Int) < B 1 0) (hst : st < 6) : ∃ W J2, MF V W ∧ Runs (GW L xs) (d + 7) 252 (0, [.ref 93, (Value.int (Int32.ofInt (l))), (Value.int (Int32.ofInt (dr))), (Value.int (Int32.ofInt (st))), vU, vU], [], zS (eV (V)) (J) tg) (some (Value.int (Int32.ofInt (alh B dr st (bi (smG B 4 1 (fct B dr n p) = true)) (fct B dr n p) (scp B n p (B 4 dr) st) 6))), zS (eV (W)) (J2) tg) := by
  obtain ⟨⟨W, J2⟩, i1, hr⟩ := loopN (g := GW L xs) (d := d + 7) (mid := 252) (σ := (Nat → Nat → Int) × (Nat → Nat → Int64)) (fun ld σ => (6, [.ref 93, (Value.int (Int32.ofInt (l))), (Value.int (Int32.ofInt (dr))), (Value.int (Int32.ofInt (st))), (Value.int (Int32.ofInt (alh B dr st (bi (smG B 4 1 (fct B dr n p) = true)) (fct B dr n p) (scp B n p (B 4 dr) st) ld))), (Value.int (Int32.ofInt (ld)))], [], zS (eV σ.1) σ.2 tg)) (fun ld σ => MF V σ.1) 6 (by
    intro ld ⟨W, J⟩ hld i1
    dsimp only at i1 ⊢
    have qW := q.mf i1
    have r8 : 0 ≤ B 8 ld ∧ B 8 ld ≤ 99 := hI.1 8 ld (by decide) (by decide)
    have h8 : W 94 (680 + ld) = B 8 ld := by
      have : W 94 (680 + ld) = W 8 ld := ((hI.q qW).2.1.2.2.2.2.1.2.1 ld hld).1
      rw [this, qW.1 8 (by omega)]
    have hs : alh B dr st (bi (smG B 4 1 (fct B dr n p) = true)) (fct B dr n p) (scp B n p (B 4 dr) st) (ld + 1) = alh B dr st (bi (smG B 4 1 (fct B dr n p) = true)) (fct B dr n p) (scp B n p (B 4 dr) st) ld + (if 0 < B 8 ld then B 8 ld * hb B dr st (bi (smG B 4 1 (fct B dr n p) = true)) (fct B dr n p) ld (tk (B 7 0) (scp B n p (B 4 dr) st) (B 9 ld).toNat 12) else 0) := rfl
    by_cases g : 0 < B 8 ld
    · rw [if_pos g] at hs
      obtain ⟨X, J2, x1, x2⟩ := m_248 (L := L) (xs := xs) (J := J) (tg := tg) (d := d) hI qW (hL.fr (i1 94 (by omega) (by omega) (by omega))) hd hld hst
      refine ⟨(X, J2), i1.tr x1, fun r hr => ?_⟩
      apply sg_252_6
      simp (disch := omega) only [h8, eV_at, eV_up, o_lit2, o_add, o_sub, o_mul, o_neg, o_div, o_nat, ix_t, o_lt, o_le, o_eq, o_bi0, o_bi1, o_bib, em_t, o_neg1, o_shl, o_tb, o_tb0, o_tt, o_and, o_xor, o_or, o_max, o_min, an_tb, and_true, true_and, not_true, not_false, if_true, if_false, tn_add, tn_mul, Int.reduceToNat, tn_cast, md_x]
      rw [if_neg (by omega), if_neg (by omega)]
      refine ⟨_, _, _, x2, ?_⟩
      simp (disch := omega) only [eV_at, eV_up, o_lit2, o_add, o_sub, o_mul, o_neg, o_div, o_nat, ix_t, o_lt, o_le, o_eq, o_bi0, o_bi1, o_bib, em_t, o_neg1, o_shl, o_tb, o_tb0, o_tt, o_and, o_xor, o_or, o_max, o_min, an_tb, and_true, true_and, not_true, not_false, if_true, if_false, tn_add, tn_mul, Int.reduceToNat, tn_cast, md_x]
      rw [hs] at hr
      exact hr
    · rw [if_neg g] at hs
      refine ⟨(W, J), i1, fun r hr => ?_⟩
      apply sg_252_6
      simp (disch := omega) only [h8, eV_at, eV_up, o_lit2, o_add, o_sub, o_mul, o_neg, o_div, o_nat, ix_t, o_lt, o_le, o_eq, o_bi0, o_bi1, o_bib, em_t, o_neg1, o_shl, o_tb, o_tb0, o_tt, o_and, o_xor, o_or, o_max, o_min, an_tb, and_true, true_and, not_true, not_false, if_true, if_false, tn_add, tn_mul, Int.reduceToNat, tn_cast, md_x]
      rw [if_neg (by omega), if_pos (by omega)]
      rw [hs, Int.add_zero] at hr
      exact hr) 6 0 (V, J) (by omega) MF.rf
  dsimp only at i1 hr
  refine ⟨W, J2, i1, sg_252 _ _ _ _ _ _ (hr _ (sg_252_6 _ _ _ _ _ _ _ _ ?_))⟩
  simp (disch := omega) only [eV_at, eV_up, o_lit2, o_add, o_sub, o_mul, o_neg, o_div, o_nat, ix_t, o_lt, o_le, o_eq, o_bi0, o_bi1, o_bib, em_t, o_neg1, o_shl, o_tb, o_tb0, o_tt, o_and, o_xor, o_or, o_max, o_min, an_tb, and_true, true_and, not_true, not_false, if_true, if_false, tn_add, tn_mul, Int.reduceToNat, tn_cast, md_x]
  rw [if_pos (by omega)] <;> first | rfl | trivial
theorem m_253 (hI : INV B) (q : Qy B V) {l dr n st : Nat} {p : Nat → Int} (hL : LKm B V l dr n p) (hd : (dr : Int) < B 1 0) (hst : st < 6) : ∃ W J2, MF V W ∧ Runs (GW L xs) (d + 7) 253 (0, [.ref 93, (Value.int (Int32.ofInt (l))), (Value.int (Int32.ofInt (dr))), (Value.int (Int32.ofInt (st))), vU, vU], [], zS (eV (V)) (J) tg) (some (Value.int (Int32.ofInt (rsh B dr (bi (smG B 4 1 (fct B dr n p) = true)) (scp B n p (B 4 dr) st) 6))), zS (eV (W)) (J2) tg) := by
  obtain ⟨⟨W, J2⟩, i1, hr⟩ := loopN (g := GW L xs) (d := d + 7) (mid := 253) (σ := (Nat → Nat → Int) × (Nat → Nat → Int64)) (fun ld σ => (6, [.ref 93, (Value.int (Int32.ofInt (l))), (Value.int (Int32.ofInt (dr))), (Value.int (Int32.ofInt (st))), (Value.int (Int32.ofInt (rsh B dr (bi (smG B 4 1 (fct B dr n p) = true)) (scp B n p (B 4 dr) st) ld))), (Value.int (Int32.ofInt (ld)))], [], zS (eV σ.1) σ.2 tg)) (fun ld σ => MF V σ.1) 6 (by
    intro ld ⟨W, J⟩ hld i1
    dsimp only at i1 ⊢
    have qW := q.mf i1
    have r8 : 0 ≤ B 8 ld ∧ B 8 ld ≤ 99 := hI.1 8 ld (by decide) (by decide)
    have h8 : ∀ X, MF W X → X 94 (680 + ld) = B 8 ld := fun X fX => by
      have : X 94 (680 + ld) = X 8 ld := ((hI.q (qW.mf fX)).2.1.2.2.2.2.1.2.1 ld hld).1
      rw [this, (qW.mf fX).1 8 (by omega)]
    have h8W := h8 W MF.rf
    have hs : rsh B dr (bi (smG B 4 1 (fct B dr n p) = true)) (scp B n p (B 4 dr) st) (ld + 1) = rsh B dr (bi (smG B 4 1 (fct B dr n p) = true)) (scp B n p (B 4 dr) st) ld + (if 0 < B 8 ld ∧ (lrn B dr ld ∨ rt (B 5 dr) (bi (smG B 4 1 (fct B dr n p) = true)) (B 6 dr) (tk (B 7 0) (scp B n p (B 4 dr) st) (B 9 ld).toNat 12)) then B 8 ld else 0) := rfl
    by_cases g : 0 < B 8 ld
    · obtain ⟨X, J2, x1, x2⟩ := m_249 (L := L) (xs := xs) (J := J) (tg := tg) (d := d) hI qW (hL.fr (i1 94 (by omega) (by omega) (by omega))) hd hld hst
      have h8X := h8 X x1
      refine ⟨(X, J2), i1.tr x1, fun r hr => ?_⟩
      rw [hs] at hr
      apply sg_253_6
      simp (disch := omega) only [h8W, eV_at, eV_up, o_lit2, o_add, o_sub, o_mul, o_neg, o_div, o_nat, ix_t, o_lt, o_le, o_eq, o_bi0, o_bi1, o_bib, em_t, o_neg1, o_shl, o_tb, o_tb0, o_tt, o_and, o_xor, o_or, o_max, o_min, an_tb, and_true, true_and, not_true, not_false, if_true, if_false, tn_add, tn_mul, Int.reduceToNat, tn_cast, md_x]
      rw [if_neg (by omega), if_neg (by omega)]
      refine ⟨_, _, _, x2, ?_⟩
      by_cases c : lrn B dr ld ∨ rt (B 5 dr) (bi (smG B 4 1 (fct B dr n p) = true)) (B 6 dr) (tk (B 7 0) (scp B n p (B 4 dr) st) (B 9 ld).toNat 12)
      · rw [if_neg (b0o_f c)]
        rw [if_pos ⟨g, c⟩] at hr
        simp (disch := omega) only [h8X, eV_at, eV_up, o_lit2, o_add, o_sub, o_mul, o_neg, o_div, o_nat, ix_t, o_lt, o_le, o_eq, o_bi0, o_bi1, o_bib, em_t, o_neg1, o_shl, o_tb, o_tb0, o_tt, o_and, o_xor, o_or, o_max, o_min, an_tb, and_true, true_and, not_true, not_false, if_true, if_false, tn_add, tn_mul, Int.reduceToNat, tn_cast, md_x]
        exact hr
      · rw [if_pos (b0o_t c)]
        rw [if_neg (fun h => c h.2), Int.add_zero] at hr
        exact hr
    · refine ⟨(W, J), i1, fun r hr => ?_⟩
      rw [hs] at hr
      apply sg_253_6
      simp (disch := omega) only [h8W, eV_at, eV_up, o_lit2, o_add, o_sub, o_mul, o_neg, o_div, o_nat, ix_t, o_lt, o_le, o_eq, o_bi0, o_bi1, o_bib, em_t, o_neg1, o_shl, o_tb, o_tb0, o_tt, o_and, o_xor, o_or, o_max, o_min, an_tb, and_true, true_and, not_true, not_false, if_true, if_false, tn_add, tn_mul, Int.reduceToNat, tn_cast, md_x]
      rw [if_neg (by omega), if_pos (by omega)]
      rw [if_neg (fun h => g h.1), Int.add_zero] at hr
      exact hr) 6 0 (V, J) (by omega) MF.rf
  dsimp only at i1 hr
  refine ⟨W, J2, i1, sg_253 _ _ _ _ _ _ (hr _ (sg_253_6 _ _ _ _ _ _ _ _ ?_))⟩
  simp (disch := omega) only [eV_at, eV_up, o_lit2, o_add, o_sub, o_mul, o_neg, o_div, o_nat, ix_t, o_lt, o_le, o_eq, o_bi0, o_bi1, o_bib, em_t, o_neg1, o_shl, o_tb, o_tb0, o_tt, o_and, o_xor, o_or, o_max, o_min, an_tb, and_true, true_and, not_true, not_false, if_true, if_false, tn_add, tn_mul, Int.reduceToNat, tn_cast, md_x]
  rw [if_pos (by omega)] <;> first | rfl | trivial
theorem m_254 (hI : INV B) (q : Qy B V) : Runs (GW L xs) (d) 254 (0, [.ref 93, vU, vU], [], zS (eV (V)) J tg) (some (Value.int (Int32.ofInt (shs B 6))), zS (eV (V)) J tg) := by
  obtain ⟨_, _, hr⟩ := loopN (g := GW L xs) (d := d) (mid := 254) (σ := Unit) (fun l _ => (4, [.ref 93, (Value.int (Int32.ofInt (shs B l))), (Value.int (Int32.ofInt (l)))], [], zS (eV V) J tg)) (fun _ _ => True) 6 (by
    intro l _ hl _
    have h8 : V 94 (680 + l) = B 8 l := by
      have : V 94 (680 + l) = V 8 l := ((hI.q q).2.1.2.2.2.2.1.2.1 l hl).1
      rw [this, q.1 8 (by omega)]
    refine ⟨(), trivial, fun r hr => ?_⟩
    apply sg_254_4
    simp (disch := omega) only [h8, eV_at, eV_up, o_lit2, o_add, o_sub, o_mul, o_neg, o_div, o_nat, ix_t, o_lt, o_le, o_eq, o_bi0, o_bi1, o_bib, em_t, o_neg1, o_shl, o_tb, o_tb0, o_tt, o_and, o_xor, o_or, o_max, o_min, an_tb, and_true, true_and, not_true, not_false, if_true, if_false, tn_add, tn_mul, Int.reduceToNat, tn_cast, md_x]
    rw [if_neg (by omega)]
    exact hr) 6 0 () (by omega) trivial
  refine sg_254 _ _ _ (hr _ (sg_254_4 _ _ _ _ _ ?_))
  simp (disch := omega) only [eV_at, eV_up, o_lit2, o_add, o_sub, o_mul, o_neg, o_div, o_nat, ix_t, o_lt, o_le, o_eq, o_bi0, o_bi1, o_bib, em_t, o_neg1, o_shl, o_tb, o_tb0, o_tt, o_and, o_xor, o_or, o_max, o_min, an_tb, and_true, true_and, not_true, not_false, if_true, if_false, tn_add, tn_mul, Int.reduceToNat, tn_cast, md_x]
  rw [if_pos (by omega)] <;> first | rfl | trivial
end RD
