/-! Readings among neighbours. -/
def rowN (B : Nat → Nat → Int) (pl : Nat) : Nat := (B 22 pl).toNat
abbrev hlp (B : Nat → Nat → Int) (ah be : Int) (t : Nat) : Prop := B 11 t ≠ 0 ∧ (B 11 t = ah ∨ B 11 t = be)
def tkb (B : Nat → Nat → Int) (st pl ld : Nat) (ah be : Int) : Int := tk (B 7 0) (fun t => scr B (rowN B pl) st t - (if hlp B ah be t then B 7 1 else 0)) (B 9 ld).toNat 12
def grp (B : Nat → Nat → Int) (took : Int) : Int := if took = -1 then 0 else B 11 took.toNat
/-- the row read in an order -/
def rdo (B : Nat → Nat → Int) (st ld H : Nat) (s : Nat → Nat) : Nat → Int
  | 0 => tkb B st (s 0) ld 0 0
  | k + 1 => tkb B st (s (k + 1)) ld (grp B (rdo B st ld H s k)) (if k + 2 < H then grp B (tkb B st (s (k + 2)) ld 0 0) else 0)
def hmk (B : Nat → Nat → Int) (ah be : Int) : Nat → Nat
  | 0 => 0
  | t + 1 => if hlp B ah be t then hmk B ah be t ||| 2 ^ t else hmk B ah be t
theorem hmk_lt {B : Nat → Nat → Int} {ah be : Int} : ∀ t, hmk B ah be t < 2 ^ t
  | 0 => by simp [hmk]
  | t + 1 => by
    have ih := hmk_lt (B := B) (ah := ah) (be := be) t
    have h2 : 2 ^ t < 2 ^ (t + 1) := Nat.pow_lt_pow_right (by omega) (by omega)
    unfold hmk
    split
    · exact Nat.or_lt_two_pow (by omega) h2
    · omega
theorem hmk_tb {B : Nat → Nat → Int} {ah be : Int} : ∀ n t, (hmk B ah be n).testBit t = decide (t < n ∧ hlp B ah be t)
  | 0, t => by simp [hmk]
  | n + 1, t => by
    have ih := hmk_tb (B := B) (ah := ah) (be := be) n t
    have hs : hmk B ah be (n + 1) = if hlp B ah be n then hmk B ah be n ||| 2 ^ n else hmk B ah be n := rfl
    rw [hs]
    by_cases c : hlp B ah be n
    · rw [if_pos c, Nat.testBit_or, ih, Nat.testBit_two_pow]
      by_cases e : n = t
      · subst e
        rw [decide_eq_true (show n = n from rfl), Bool.or_true, decide_eq_true ⟨by omega, c⟩]
      · rw [decide_eq_false e, Bool.or_false]
        exact decide_eq_decide.mpr ⟨fun h => ⟨by omega, h.2⟩, fun h => ⟨by omega, h.2⟩⟩
    · rw [if_neg c, ih]
      exact decide_eq_decide.mpr ⟨fun h => ⟨by omega, h.2⟩, fun h => ⟨by
        have : t ≠ n := fun e => c (e ▸ h.2)
        omega, h.2⟩⟩
section HG
variable {L d : Nat} {xs : Nat → Int32} {B V : Nat → Nat → Int} {J : Nat → Nat → Int64} {tg : Option Nat}
theorem tkb_rg (hI : INV B) (st pl ld : Nat) (ah be : Int) : -1 ≤ tkb B st pl ld ah be ∧ tkb B st pl ld ah be ≤ 11 := by
  have rh : 0 ≤ B 7 1 ∧ B 7 1 ≤ 99 := hI.1 7 1 (by decide) (by decide)
  exact tk_rg (by omega) (fun t => by have := scr_rg hI.1 (rowN B pl) st t; split <;> omega)
theorem grp_rg (hI : INV B) (took : Int) : 0 ≤ grp B took ∧ grp B took ≤ 5 := by
  unfold grp
  split
  · omega
  · exact hI.1 11 _ (by decide) (by decide)
/-- what was kept of readings is right -/
def HC (B V : Nat → Nat → Int) (st H : Nat) : Prop := ∀ pl ld ah be : Nat, pl < H → ld < 6 → ah < 6 → be < 6 → V 89 (((pl * 6 + ld) * 6 + ah) * 6 + be) = -2 ∨ V 89 (((pl * 6 + ld) * 6 + ah) * 6 + be) = tkb B st pl ld ah be
def goalN (B : Nat → Nat → Int) (pl : Nat) : Int := if wdn B (rowN B pl) = B 6 (rowN B pl) then B 5 (rowN B pl) else -1
def HP (B V : Nat → Nat → Int) (st H : Nat) : Prop := (∀ pl t : Nat, pl < H → (t : Int) < B 1 1 → V 87 (pl * 12 + t) = scr B (rowN B pl) st t) ∧ (∀ pl, pl < H → V 88 pl = goalN B pl) ∧ HC B V st H
theorem HP.fr {W : Nat → Nat → Int} {st H : Nat} (h : HP B V st H) (e7 : W 87 = V 87) (e8 : W 88 = V 88) (e9 : W 89 = V 89) : HP B W st H := by
  unfold HP HC at h ⊢
  rw [e7, e8, e9]; exact h
/-- takenBeside -/
theorem k_35 (hI : INV B) (q : Qy B V) {st H pl ld ah be : Nat} (hP : HP B V st H) (hH : H ≤ 8) (hpl : pl < H) (hld : ld < 6) (hah : ah < 6) (hbe : be < 6) : ∃ W, (∀ c, c ≠ 89 → W c = V c) ∧ HP B W st H ∧ Runs (GW L xs) (d + 1) 35 (0, [.ref 86, (Value.int (Int32.ofInt (pl))), (Value.int (Int32.ofInt (ld))), (Value.int (Int32.ofInt (ah))), (Value.int (Int32.ofInt (be))), vU, vU, vU, vU], [], zS (eV (V)) J tg) (some (Value.int (Int32.ofInt (tkb B st pl ld ah be))), zS (eV (W)) J tg) := by
  obtain ⟨p1, p2, p3⟩ := hP
  have hRV : RNG V := hI.1.fr fun c hc => q.1 c (by omega)
  have htr := tkb_rg hI st pl ld ah be
  obtain ⟨x, hx⟩ : ∃ x : Nat, ((pl * 6 + ld) * 6 + ah) * 6 + be = x := ⟨_, rfl⟩
  have hx1 : x < 1728 := by omega
  have ex : ((((pl : Int) * 6 + ld) * 6 + ah) * 6 + be) = (x : Nat) := by omega
  have h89 := p3 pl ld ah be hpl hld hah hbe
  rw [hx] at h89
  by_cases g : V 89 x = -2
  · -- worked out now
    obtain ⟨k1, k2, k3⟩ := know_lt hI hld
    have e9 : V 9 ld = ((B 9 ld).toNat : Nat) := by rw [q.1 9 (by omega)]; exact k3
    have hh12 := hmk_lt (B := B) (ah := ah) (be := be) 12
    have kp := k_113_87 (L := L) (xs := xs) (J := J) (tg := tg) (d := d) hRV (fr := pl * 12) (s := (B 9 ld).toNat) (h := hmk B ah be 12) (g := scr B (rowN B pl) st) (by omega) k2 (by omega) (fun t _ ht => by
      have : t < (B 1 1).toNat := Nat.lt_of_not_le fun hle => by rw [tb_hi k1 hle] at ht; exact Bool.noConfusion ht
      exact ⟨p1 pl t hpl (by omega), scr_rg hI.1 _ _ _⟩)
    rw [q.1 7 (by omega), tk_cg (g := fun t => scr B (rowN B pl) st t - (if hlp B ah be t then B 7 1 else 0)) (fun t ht _ => by
      rw [hmk_tb]
      by_cases c : hlp B ah be t
      · rw [decide_eq_true ⟨ht, c⟩, if_pos rfl, if_pos c]
      · rw [decide_eq_false (fun h => c h.2), if_neg (by decide), if_neg c])] at kp
    have kp : Runs (GW L xs) (d) 113 (0, [.ref 7, .ref 87, (Value.int (Int32.ofInt ((pl * 12 : Nat)))), (Value.int (Int32.ofInt ((B 9 ld).toNat))), (Value.int (Int32.ofInt (hmk B ah be 12))), vU, vU, vU, vU], [], zS (eV (V)) J tg) (some (Value.int (Int32.ofInt (tkb B st pl ld ah be))), zS (eV (V)) J tg) := kp
    obtain ⟨_, _, hr⟩ := loopN (g := GW L xs) (d := d + 1) (mid := 35) (σ := Unit) (fun t _ => (37, [.ref 86, (Value.int (Int32.ofInt (pl))), (Value.int (Int32.ofInt (ld))), (Value.int (Int32.ofInt (ah))), (Value.int (Int32.ofInt (be))), (Value.int (Int32.ofInt (x))), (Value.int (Int32.ofInt (hmk B ah be t))), (Value.int (Int32.ofInt (t))), vU], [], zS (eV V) J tg)) (fun _ _ => True) 12 (by
      intro t _ ht _
      have e11 : V 11 t = B 11 t := by rw [q.1 11 (by omega)]
      have r11 : 0 ≤ B 11 t ∧ B 11 t ≤ 5 := hI.1 11 t (by decide) (by decide)
      have hs : hmk B ah be (t + 1) = if hlp B ah be t then hmk B ah be t ||| 2 ^ t else hmk B ah be t := rfl
      refine ⟨(), trivial, fun r hr => ?_⟩
      rw [hs] at hr
      apply sg_35_37
      simp (disch := omega) only [e11, eV_at, eV_up, o_lit2, o_add, o_sub, o_mul, o_neg, o_div, o_nat, ix_t, o_lt, o_le, o_eq, o_bi0, o_bi1, o_bib, em_t, o_neg1, o_shl, o_tb, o_tb0, o_tt, o_and, o_xor, o_or, o_max, o_min, an_tb, and_true, true_and, not_true, not_false, if_true, if_false, tn_add, tn_mul, Int.reduceToNat, tn_cast, md_x]
      rw [if_neg (by omega)]
      by_cases c0 : B 11 t = 0
      · rw [if_neg (fun h => h.1 c0)] at hr
        rw [if_pos c0]; exact hr
      · rw [if_neg c0]
        by_cases c1 : B 11 t = ah
        · rw [if_pos ⟨c0, Or.inl c1⟩] at hr
          rw [if_pos c1]; exact hr
        · rw [if_neg c1]
          by_cases c2 : B 11 t = be
          · rw [if_pos ⟨c0, Or.inr c2⟩] at hr
            rw [if_pos c2]; exact hr
          · rw [if_neg (fun h => h.2.elim c1 c2)] at hr
            rw [if_neg c2]; exact hr) 12 0 () (by omega) trivial
    refine ⟨up2 V 89 x (tkb B st pl ld ah be), fun c hc => w_ne _ _ _ _ hc, ⟨fun pl t h1 h2 => by rw [w_nc _ _ _ _ (by decide)]; exact p1 pl t h1 h2, fun pl h1 => by rw [w_nc _ _ _ _ (by decide)]; exact p2 pl h1, fun pl' ld' ah' be' h1 h2 h3 h4 => ?_⟩, ?_⟩
    · rw [w_at]
      by_cases e : ((pl' * 6 + ld') * 6 + ah') * 6 + be' = x
      · have e1 : pl' = pl ∧ ld' = ld ∧ ah' = ah ∧ be' = be := by omega
        obtain ⟨rfl, rfl, rfl, rfl⟩ := e1
        rw [if_pos e]; exact Or.inr rfl
      · rw [if_neg e]; exact p3 pl' ld' ah' be' h1 h2 h3 h4
    · apply sg_35
      simp (disch := omega) only [ex, g, o_neg2, eV_at, eV_up, o_lit2, o_add, o_sub, o_mul, o_neg, o_div, o_nat, ix_t, o_lt, o_le, o_eq, o_bi0, o_bi1, o_bib, em_t, o_neg1, o_shl, o_tb, o_tb0, o_tt, o_and, o_xor, o_or, o_max, o_min, an_tb, and_true, true_and, not_true, not_false, if_true, if_false, tn_add, tn_mul, Int.reduceToNat, tn_cast, md_x]
      refine hr _ ?_
      apply sg_35_37
      have e12 : (pl : Int) * 12 = ((pl * 12 : Nat) : Int) := by omega
      simp (disch := omega) only [e9, e12, eV_at, eV_up, o_lit2, o_add, o_sub, o_mul, o_neg, o_div, o_nat, ix_t, o_lt, o_le, o_eq, o_bi0, o_bi1, o_bib, em_t, o_neg1, o_shl, o_tb, o_tb0, o_tt, o_and, o_xor, o_or, o_max, o_min, an_tb, and_true, true_and, not_true, not_false, if_true, if_false, tn_add, tn_mul, Int.reduceToNat, tn_cast, md_x]
      rw [if_pos (by omega)]
      refine ⟨_, _, kp, ?_⟩
      simp (disch := omega) only [w_eq, eV_at, eV_up, o_lit2, o_add, o_sub, o_mul, o_neg, o_div, o_nat, ix_t, o_lt, o_le, o_eq, o_bi0, o_bi1, o_bib, em_t, o_neg1, o_shl, o_tb, o_tb0, o_tt, o_and, o_xor, o_or, o_max, o_min, an_tb, and_true, true_and, not_true, not_false, if_true, if_false, tn_add, tn_mul, Int.reduceToNat, tn_cast, md_x]
  · have hv : V 89 x = tkb B st pl ld ah be := h89.resolve_left g
    refine ⟨V, fun _ _ => rfl, ⟨p1, p2, p3⟩, ?_⟩
    rw [hv] at g
    apply sg_35
    simp (disch := omega) only [ex, hv, o_neg2, eV_at, eV_up, o_lit2, o_add, o_sub, o_mul, o_neg, o_div, o_nat, ix_t, o_lt, o_le, o_eq, o_bi0, o_bi1, o_bib, em_t, o_neg1, o_shl, o_tb, o_tb0, o_tt, o_and, o_xor, o_or, o_max, o_min, an_tb, and_true, true_and, not_true, not_false, if_true, if_false, tn_add, tn_mul, Int.reduceToNat, tn_cast, md_x]
    rw [if_neg g] <;> first | rfl | trivial
theorem k_112 (hI : INV B) (q : Qy B V) {took : Int} (ht : -1 ≤ took ∧ took ≤ 11) : Runs (GW L xs) (d) 112 (0, [.ref 7, (Value.int (Int32.ofInt (took)))], [], zS (eV (V)) J tg) (some (Value.int (Int32.ofInt (grp B took))), zS (eV (V)) J tg) := by
  apply sg_112
  unfold grp
  by_cases c : took = -1
  · subst c
    rw [if_pos (by decide), if_pos rfl]; rfl
  · obtain ⟨t, rfl⟩ : ∃ t : Nat, took = t := ⟨took.toNat, by omega⟩
    have e11 : V 11 t = B 11 t := by rw [q.1 11 (by omega)]
    simp (disch := omega) only [e11, eV_at, eV_up, o_lit2, o_add, o_sub, o_mul, o_neg, o_div, o_nat, ix_t, o_lt, o_le, o_eq, o_bi0, o_bi1, o_bib, em_t, o_neg1, o_shl, o_tb, o_tb0, o_tt, o_and, o_xor, o_or, o_max, o_min, an_tb, and_true, true_and, not_true, not_false, if_true, if_false, tn_add, tn_mul, Int.reduceToNat, tn_cast, md_x]
    rw [if_neg c, if_neg c]
/-- takenBehind -/
theorem k_34 (hI : INV B) (q : Qy B V) {st H at' ld : Nat} {s : Nat → Nat} {ahead : Int} (hP : HP B V st H) (hH : B 18 3 = H) (hat : at' < H) (hld : ld < 6) (hs : ∀ k, k < H → V 90 k = s k ∧ s k < H) (hah : -1 ≤ ahead ∧ ahead ≤ 11) : ∃ W, (∀ c, c ≠ 89 → W c = V c) ∧ HP B W st H ∧ Runs (GW L xs) (d + 2) 34 (0, [.ref 86, (Value.int (Int32.ofInt (at'))), (Value.int (Int32.ofInt (ld))), (Value.int (Int32.ofInt (ahead))), vU], [], zS (eV (V)) J tg) (some (Value.int (Int32.ofInt (tkb B st (s at') ld (grp B ahead) (if at' + 1 < H then grp B (tkb B st (s (at' + 1)) ld 0 0) else 0)))), zS (eV (W)) J tg) := by
  have r3 : 0 ≤ B 18 3 ∧ B 18 3 ≤ 8 := hI.1 18 3 (by decide) (by decide)
  have e18 : V 18 3 = H := by rw [q.1 18 (by omega)]; exact hH
  obtain ⟨s1, s2⟩ := hs at' hat
  have hg1 := grp_rg hI ahead
  obtain ⟨ga, hga⟩ : ∃ n : Nat, grp B ahead = n := ⟨(grp B ahead).toNat, by omega⟩
  by_cases c : at' + 1 < H
  · rw [if_pos c]
    obtain ⟨t1, t2⟩ := hs (at' + 1) c
    obtain ⟨A, a1, a2, a3⟩ := k_35 (L := L) (xs := xs) (J := J) (tg := tg) (d := d) hI q (pl := s (at' + 1)) (ld := ld) (ah := 0) (be := 0) hP (by omega) t2 hld (by omega) (by omega)
    have qA : Qy B A := q.cl fun c _ q2 => a1 c (by omega)
    have hnx := tkb_rg hI st (s (at' + 1)) ld (0 : Nat) (0 : Nat)
    have a3 : Runs (GW L xs) (d + 1) 35 (0, [.ref 86, (Value.int (Int32.ofInt (s (at' + 1)))), (Value.int (Int32.ofInt (ld))), (Value.int (Int32.ofInt (0))), (Value.int (Int32.ofInt (0))), vU, vU, vU, vU], [], zS (eV (V)) J tg) (some (Value.int (Int32.ofInt (tkb B st (s (at' + 1)) ld 0 0))), zS (eV (A)) J tg) := a3
    have hnx : -1 ≤ tkb B st (s (at' + 1)) ld 0 0 ∧ tkb B st (s (at' + 1)) ld 0 0 ≤ 11 := hnx
    generalize tkb B st (s (at' + 1)) ld 0 0 = nx at a3 hnx ⊢
    have hg2 := grp_rg hI nx
    obtain ⟨gb, hgb⟩ : ∃ n : Nat, grp B nx = n := ⟨(grp B nx).toNat, by omega⟩
    obtain ⟨W, w1, w2, w3⟩ := k_35 (L := L) (xs := xs) (J := J) (tg := tg) (d := d) hI qA (pl := s at') (ld := ld) (ah := ga) (be := gb) a2 (by omega) s2 hld (by omega) (by omega)
    refine ⟨W, fun c hc => by rw [w1 c hc]; exact a1 c hc, w2, ?_⟩
    have k1 := k_112 (L := L) (xs := xs) (J := J) (tg := tg) (d := d + 1) hI qA hah
    have k2 := k_112 (L := L) (xs := xs) (J := J) (tg := tg) (d := d + 1) hI qA hnx
    rw [hga] at k1 ⊢
    rw [hgb] at k2 ⊢
    have sA : A 90 at' = s at' := by rw [a1 90 (by decide)]; exact s1
    have e1 : (at' : Int) + 1 = ((at' + 1 : Nat) : Int) := by omega
    apply sg_34
    simp (disch := omega) only [e18, e1, t1, eV_at, eV_up, o_lit2, o_add, o_sub, o_mul, o_neg, o_div, o_nat, ix_t, o_lt, o_le, o_eq, o_bi0, o_bi1, o_bib, em_t, o_neg1, o_shl, o_tb, o_tb0, o_tt, o_and, o_xor, o_or, o_max, o_min, an_tb, and_true, true_and, not_true, not_false, if_true, if_false, tn_add, tn_mul, Int.reduceToNat, tn_cast, md_x]
    rw [if_neg (by omega)]
    refine ⟨_, _, a3, _, _, k1, _, _, k2, ?_⟩
    simp (disch := omega) only [sA, eV_at, eV_up, o_lit2, o_add, o_sub, o_mul, o_neg, o_div, o_nat, ix_t, o_lt, o_le, o_eq, o_bi0, o_bi1, o_bib, em_t, o_neg1, o_shl, o_tb, o_tb0, o_tt, o_and, o_xor, o_or, o_max, o_min, an_tb, and_true, true_and, not_true, not_false, if_true, if_false, tn_add, tn_mul, Int.reduceToNat, tn_cast, md_x]
    exact ⟨_, _, w3, rfl⟩
  · rw [if_neg c]
    obtain ⟨W, w1, w2, w3⟩ := k_35 (L := L) (xs := xs) (J := J) (tg := tg) (d := d) hI q (pl := s at') (ld := ld) (ah := ga) (be := 0) hP (by omega) s2 hld (by omega) (by omega)
    have k1 := k_112 (L := L) (xs := xs) (J := J) (tg := tg) (d := d + 1) hI q hah
    have k2 := k_112 (L := L) (xs := xs) (J := J) (tg := tg) (d := d + 1) hI q (took := -1) (by omega)
    have k2 : Runs (GW L xs) (d + 1) 112 (0, [.ref 7, (Value.int (Int32.ofInt (-1)))], [], zS (eV (V)) J tg) (some (Value.int (Int32.ofInt (0))), zS (eV (V)) J tg) := k2
    rw [hga] at k1 ⊢
    refine ⟨W, w1, w2, ?_⟩
    apply sg_34
    simp (disch := omega) only [e18, s1, eV_at, eV_up, o_lit2, o_add, o_sub, o_mul, o_neg, o_div, o_nat, ix_t, o_lt, o_le, o_eq, o_bi0, o_bi1, o_bib, em_t, o_neg1, o_shl, o_tb, o_tb0, o_tt, o_and, o_xor, o_or, o_max, o_min, an_tb, and_true, true_and, not_true, not_false, if_true, if_false, tn_add, tn_mul, Int.reduceToNat, tn_cast, md_x]
    rw [if_pos (by omega)]
    exact ⟨_, _, k1, _, _, k2, _, _, w3, rfl⟩
theorem rdo_rg (hI : INV B) (st ld H : Nat) (s : Nat → Nat) : ∀ k, -1 ≤ rdo B st ld H s k ∧ rdo B st ld H s k ≤ 11
  | 0 => tkb_rg hI _ _ _ _ _
  | k + 1 => tkb_rg hI _ _ _ _ _
/-- takenAmong -/
theorem k_33 (hI : INV B) (q : Qy B V) {st H i ld : Nat} (hP : HP B V st H) (hH : B 18 3 = H) (hi : i < H) (hld : ld < 6) (hs : ∀ k, k < H → V 90 k = k) : ∃ W, (∀ c, c ≠ 89 → W c = V c) ∧ Runs (GW L xs) (d + 3) 33 (0, [.ref 86, (Value.int (Int32.ofInt (i))), (Value.int (Int32.ofInt (ld))), vU, vU], [], zS (eV (V)) J tg) (some (Value.int (Int32.ofInt (rdo B st ld H id i))), zS (eV (W)) J tg) := by
  have r3 : 0 ≤ B 18 3 ∧ B 18 3 ≤ 8 := hI.1 18 3 (by decide) (by decide)
  obtain ⟨A, a1, a2, a3⟩ := k_35 (L := L) (xs := xs) (J := J) (tg := tg) (d := d + 1) hI q (pl := 0) (ld := ld) (ah := 0) (be := 0) hP (by omega) (by omega) hld (by omega) (by omega)
  obtain ⟨W, ⟨i1, i2⟩, hr⟩ := loopN (g := GW L xs) (d := d + 3) (mid := 33) (σ := Nat → Nat → Int) (fun k W => (12, [.ref 86, (Value.int (Int32.ofInt (i))), (Value.int (Int32.ofInt (ld))), (Value.int (Int32.ofInt (rdo B st ld H id k))), (Value.int (Int32.ofInt ((k + 1 : Nat))))], [], zS (eV W) J tg)) (fun k W => (∀ c, c ≠ 89 → W c = V c) ∧ HP B W st H) i (by
    intro k W hk ⟨i1, i2⟩
    have qW : Qy B W := q.cl fun c _ q2 => i1 c (by omega)
    obtain ⟨X, x1, x2, x3⟩ := k_34 (L := L) (xs := xs) (J := J) (tg := tg) (d := d) hI qW (at' := k + 1) (ld := ld) (s := id) (ahead := rdo B st ld H id k) i2 hH (by omega) hld (fun j hj => ⟨by rw [i1 90 (by decide)]; exact hs j hj, hj⟩) (rdo_rg hI _ _ _ _ _)
    have x3 : Runs (GW L xs) (d + 2) 34 (0, [.ref 86, (Value.int (Int32.ofInt ((k + 1 : Nat)))), (Value.int (Int32.ofInt (ld))), (Value.int (Int32.ofInt (rdo B st ld H id k))), vU], [], zS (eV (W)) J tg) (some (Value.int (Int32.ofInt (rdo B st ld H id (k + 1)))), zS (eV (X)) J tg) := x3
    refine ⟨X, ⟨fun c hc => by rw [x1 c hc]; exact i1 c hc, x2⟩, fun r hr => ?_⟩
    apply sg_33_12
    simp (disch := omega) only [eV_at, eV_up, o_lit2, o_add, o_sub, o_mul, o_neg, o_div, o_nat, ix_t, o_lt, o_le, o_eq, o_bi0, o_bi1, o_bib, em_t, o_neg1, o_shl, o_tb, o_tb0, o_tt, o_and, o_xor, o_or, o_max, o_min, an_tb, and_true, true_and, not_true, not_false, if_true, if_false, tn_add, tn_mul, Int.reduceToNat, tn_cast, md_x]
    rw [if_neg (by omega)]
    exact ⟨_, _, x3, hr⟩) i 0 A (by omega) ⟨a1, a2⟩
  refine ⟨W, i1, ?_⟩
  apply sg_33
  refine ⟨_, _, a3, hr _ ?_⟩
  apply sg_33_12
  simp (disch := omega) only [eV_at, eV_up, o_lit2, o_add, o_sub, o_mul, o_neg, o_div, o_nat, ix_t, o_lt, o_le, o_eq, o_bi0, o_bi1, o_bib, em_t, o_neg1, o_shl, o_tb, o_tb0, o_tt, o_and, o_xor, o_or, o_max, o_min, an_tb, and_true, true_and, not_true, not_false, if_true, if_false, tn_add, tn_mul, Int.reduceToNat, tn_cast, md_x]
  rw [if_pos (by omega)] <;> first | rfl | trivial
end HG
