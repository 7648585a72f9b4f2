/-! prepare; the reference reads the row; the case among. -/
section HR
variable {L d : Nat} {xs : Nat → Int32} {B V : Nat → Nat → Int} {J : Nat → Nat → Int64} {tg : Option Nat}
def cpW (V : Nat → Nat → Int) (c1 c2 o n : Nat) : Nat → Nat → Int := fun c => if c = c2 then (fun j => if o ≤ j ∧ j < o + n then V c1 (j - o) else V c2 j) else V c
theorem cpW_ne {c1 c2 o n c : Nat} (h : c ≠ c2) : cpW V c1 c2 o n c = V c := if_neg h
theorem cpW_at {c1 c2 o n j : Nat} : cpW V c1 c2 o n c2 j = if o ≤ j ∧ j < o + n then V c1 (j - o) else V c2 j := by simp [cpW]
theorem eV_cw (V : Nat → Nat → Int) (c1 c2 o n : Nat) : upR (eV V) c2 (va_cpy (eV V c1) (eV V c2) 0 o n) = eV (cpW V c1 c2 o n) := by
  funext c j
  unfold upR eV cpW va_cpy
  by_cases h : c = c2
  · subst h
    rw [if_pos rfl, if_pos rfl]
    by_cases q : o ≤ j ∧ j < o + n
    · rw [if_pos q]; simp [q]
    · rw [if_neg q]; simp [q]
  · rw [if_neg h, if_neg h]
theorem row_lt (hI : INV B) {pl : Nat} (h : (pl : Int) < B 18 3) : rowN B pl < 12 ∧ (rowN B pl : Int) < B 1 0 ∧ B 22 pl = (rowN B pl : Nat) := by
  have r : 0 ≤ B 22 pl ∧ B 22 pl ≤ 11 := hI.1 22 pl (by decide) (by decide)
  have h2 : B 22 pl < B 1 0 := (hI.2.1.2.2.2.2.2.2.2.2.2 pl h).2
  unfold rowN
  omega
/-- prepare -/
theorem k_32 (hI : INV B) (q : Qy B V) {st H : Nat} (hst : st < 6) (hH : B 18 3 = H) : ∃ W, Qy B W ∧ HP B W st H ∧ (∀ k, k < H → W 90 k = k) ∧ Runs (GW L xs) (d + 5) 32 (0, [.ref 86, (Value.int (Int32.ofInt (st))), vU], [], zS (eV (V)) J tg) (none, zS (eV (W)) J tg) := by
  have r3 : 0 ≤ B 18 3 ∧ B 18 3 ≤ 8 := hI.1 18 3 (by decide) (by decide)
  have rT : 0 ≤ B 1 1 ∧ B 1 1 ≤ 12 := hI.1 1 1 (by decide) (by decide)
  obtain ⟨W, ⟨qW, i2, i3, i4, i5⟩, hr⟩ := loopN (g := GW L xs) (d := d + 5) (mid := 32) (σ := Nat → Nat → Int) (fun k W => (11, [.ref 86, (Value.int (Int32.ofInt (st))), (Value.int (Int32.ofInt (k)))], [], zS (eV W) J tg)) (fun k W => Qy B W ∧ (∀ pl t : Nat, pl < k → (t : Int) < B 1 1 → W 87 (pl * 12 + t) = scr B (rowN B pl) st t) ∧ (∀ pl, pl < k → W 88 pl = goalN B pl) ∧ (∀ x, x < 1728 → W 89 x = -2) ∧ ∀ j, j < k → W 90 j = j) H (by
    intro k W hk ⟨qW, i2, i3, i4, i5⟩
    obtain ⟨w1, w2, w3⟩ := row_lt hI (pl := k) (by omega)
    have e18 : W 18 3 = H := by rw [qW.1 18 (by omega)]; exact hH
    have e22 : W 22 k = (rowN B k : Nat) := by rw [qW.1 22 (by omega)]; exact w3
    have hRW : RNG W := hI.1.fr fun c hc => qW.1 c (by omega)
    obtain ⟨A, a1, a2, a3, a4, a5, a6, a7⟩ := k_92 (L := L) (xs := xs) (J := J) (tg := tg) (d := d) hRW qW.2.2.2 (dr := rowN B k) (st := st) w1 hst
    have qA : Qy B A := qW.ca (fun c _ q2 => a1 c (by omega) (by omega)) a5
    have eS : ∀ t, scr W (rowN B k) st t = scr B (rowN B k) st t := fun t => by
      unfold scr
      rw [FAR_fr (qW.1 1 (by omega)) (qW.1 2 (by omega)) (qW.1 3 (by omega)) (qW.1 4 (by omega)), qW.1 10 (by omega)]
    obtain ⟨U, u1, u2, u3, u4, u5, u6⟩ := k_93 (L := L) (xs := xs) (J := J) (tg := tg) (d := d) hI qA (dr := rowN B k) (st := st) w1
    have u4 : U 75 10 = wdn B (rowN B k) := u4
    have qU : Qy B U := qA.cl fun c q1 q2 => u1 c q1 (by omega) (by omega)
    have e22A : A 22 k = (rowN B k : Nat) := by rw [qA.1 22 (by omega)]; exact w3
    have h77 : ∀ t : Nat, (t : Int) < B 1 1 → U 77 t = scr B (rowN B k) st t := fun t ht => by rw [u1 77 (by decide) (by decide) (by decide), a6 t (by rw [qW.1 1 (by omega)]; exact ht), eS]
    have hU : ∀ c, 86 ≤ c → U c = W c := fun c hc => by rw [u1 c (by omega) (by omega) (by omega), a1 c (by omega) (by omega)]
    have qC : Qy B (cpW U 77 87 (k * 12) 12) := qU.cl fun c _ q2 => cpW_ne (by omega)
    have hRC : RNG (cpW U 77 87 (k * 12) 12) := hI.1.fr fun c hc => qC.1 c (by omega)
    have kg := k_102 (L := L) (xs := xs) (J := J) (tg := tg) (d := d + 4) hRC (dr := rowN B k) (dn := wdn B (rowN B k)) (by rw [cpW_ne (by decide)]; exact u2) (by rw [cpW_ne (by decide)]; exact u4) (bi_rg _) w1
    rw [qC.1 6 (by omega), qC.1 5 (by omega)] at kg
    have kg : Runs (GW L xs) (d + 4) 102 (0, [.ref 75], [], zS (eV (cpW U 77 87 (k * 12) 12)) J tg) (some (Value.int (Int32.ofInt (goalN B k))), zS (eV (cpW U 77 87 (k * 12) 12)) J tg) := kg
    have e12 : (k : Int) * 12 = ((k * 12 : Nat) : Int) := by omega
    refine ⟨up2 (up2 (cpW U 77 87 (k * 12) 12) 88 k (goalN B k)) 90 k k, ⟨qC.cl fun c _ q2 => by rw [w_ne _ _ _ _ (by omega), w_ne _ _ _ _ (by omega)], fun pl t h1 h2 => ?_, fun pl h1 => ?_, fun x hx => ?_, fun j hj => ?_⟩, fun r hr => ?_⟩
    · rw [w_nc _ _ _ _ (by decide), w_nc _ _ _ _ (by decide), cpW_at]
      by_cases e : pl = k
      · subst e
        rw [if_pos (by omega), show pl * 12 + t - pl * 12 = t by omega]; exact h77 t h2
      · rw [if_neg (by omega), hU 87 (by omega)]; exact i2 pl t (by omega) h2
    · rw [w_nc _ _ _ _ (by decide), w_at]
      by_cases e : pl = k
      · rw [if_pos e, e]
      · rw [if_neg e, cpW_ne (by decide), hU 88 (by omega)]; exact i3 pl (by omega)
    · rw [w_nc _ _ _ _ (by decide), w_nc _ _ _ _ (by decide), cpW_ne (by decide), hU 89 (by omega)]; exact i4 x hx
    · rw [w_at]
      by_cases e : j = k
      · rw [if_pos e, e]
      · rw [if_neg e, w_nc _ _ _ _ (by decide), cpW_ne (by decide), hU 90 (by omega)]; exact i5 j (by omega)
    · apply sg_32_11
      simp (disch := omega) only [e18, e22, eV_at, eV_up, o_lit2, o_add, o_sub, o_mul, o_neg, o_div, o_nat, ix_t, o_lt, o_le, o_eq, o_bi0, o_bi1, o_bib, em_t, o_neg1, o_shl, o_tb, o_tb0, o_tt, o_and, o_xor, o_or, o_max, o_min, an_tb, and_true, true_and, not_true, not_false, if_true, if_false, tn_add, tn_mul, Int.reduceToNat, tn_cast, md_x]
      rw [if_neg (by omega)]
      refine ⟨_, a7, ?_⟩
      simp (disch := omega) only [e22A, e12, eV_at, eV_up, o_lit2, o_add, o_sub, o_mul, o_neg, o_div, o_nat, ix_t, o_lt, o_le, o_eq, o_bi0, o_bi1, o_bib, em_t, o_neg1, o_shl, o_tb, o_tb0, o_tt, o_and, o_xor, o_or, o_max, o_min, an_tb, and_true, true_and, not_true, not_false, if_true, if_false, tn_add, tn_mul, Int.reduceToNat, tn_cast, md_x]
      refine ⟨_, u6, ⟨by decide, by omega, by decide, by decide, by
        show k * 12 + 12 ≤ 96
        omega⟩, ?_⟩
      rw [eV_cw]
      refine ⟨_, _, kg, ?_⟩
      simp (disch := omega) only [eV_at, eV_up, o_lit2, o_add, o_sub, o_mul, o_neg, o_div, o_nat, ix_t, o_lt, o_le, o_eq, o_bi0, o_bi1, o_bib, em_t, o_neg1, o_shl, o_tb, o_tb0, o_tt, o_and, o_xor, o_or, o_max, o_min, an_tb, and_true, true_and, not_true, not_false, if_true, if_false, tn_add, tn_mul, Int.reduceToNat, tn_cast, md_x]
      exact hr) H 0 (flV V 89 1728 (-2)) (by omega) ⟨q.cl fun c _ q2 => flV_ne (by omega), fun pl t h => by omega, fun pl h => by omega, fun x hx => by rw [flV_at, if_pos hx], fun j h => by omega⟩
  have e18 : W 18 3 = H := by rw [qW.1 18 (by omega)]; exact hH
  refine ⟨W, qW, ⟨i2, i3, fun pl ld ah be h1 h2 h3 h4 => Or.inl (i4 _ (by omega))⟩, i5, ?_⟩
  apply sg_32
  refine ⟨_, k_301 (c := 89) (n := 1728) (by decide) rfl (by decide) (-2), hr _ ?_⟩
  apply sg_32_11
  simp (disch := omega) only [e18, eV_at, eV_up, o_lit2, o_add, o_sub, o_mul, o_neg, o_div, o_nat, ix_t, o_lt, o_le, o_eq, o_bi0, o_bi1, o_bib, em_t, o_neg1, o_shl, o_tb, o_tb0, o_tt, o_and, o_xor, o_or, o_max, o_min, an_tb, and_true, true_and, not_true, not_false, if_true, if_false, tn_add, tn_mul, Int.reduceToNat, tn_cast, md_x]
  rw [if_pos (by omega)] <;> first | rfl | trivial
/-! The reference. -/
theorem m_272 (hI : INV B) (q : Qy B V) {took : Int} (ht : -1 ≤ took ∧ took ≤ 11) : Runs (GW L xs) (d) 272 (0, [.ref 93, (Value.int (Int32.ofInt (mz took)))], [], zS (eV (V)) J tg) (some (Value.int (Int32.ofInt (grp B took))), zS (eV (V)) J tg) := by
  obtain ⟨t1, t2, t3, t4⟩ := mz_rg ht
  apply sg_272
  unfold grp
  by_cases c : took = -1
  · subst c
    rw [if_neg (by decide), if_pos rfl]; rfl
  · obtain ⟨t, rfl⟩ : ∃ t : Nat, took = t := ⟨took.toNat, by omega⟩
    have e : mz (t : Int) = (t : Int) + 12 := t4 c
    have ex : (780 : Int) + ((t : Int) + 12) - 12 = ((780 + t : Nat) : Int) := by omega
    have h94 : V 94 (780 + t) = B 11 t := by
      have : V 94 (780 + t) = V 11 t := (hI.q q).2.1.2.2.2.2.1.2.2.2 t (by omega)
      rw [this, q.1 11 (by omega)]
    rw [e]
    simp (disch := omega) only [ex, h94, eV_at, eV_up, o_lit2, o_add, o_sub, o_mul, o_neg, o_div, o_nat, ix_t, o_lt, o_le, o_eq, o_bi0, o_bi1, o_bib, em_t, o_neg1, o_shl, o_tb, o_tb0, o_tt, o_and, o_xor, o_or, o_max, o_min, an_tb, and_true, true_and, not_true, not_false, if_true, if_false, tn_add, tn_mul, Int.reduceToNat, tn_cast, md_x]
    rw [if_pos (by omega), if_neg c]
theorem m_204g (hI : INV B) (q : Qy B V) {st pl ld : Nat} {one other : Int} (hld : ld < 6) (ho : 0 ≤ one ∧ one ≤ 5) (ho2 : 0 ≤ other ∧ other ≤ 5) (h99 : ∀ t : Nat, (t : Int) < B 1 1 → V 99 t = scr B (rowN B pl) st t) : Runs (GW L xs) (d) 204 (0, [.ref 93, (Value.int (Int32.ofInt ((B 9 ld).toNat))), (Value.int (Int32.ofInt (one))), (Value.int (Int32.ofInt (other))), vU, vU, vU, vU, vU], [], zS (eV (V)) J tg) (some (Value.int (Int32.ofInt (mz (tkb B st pl ld one other)))), zS (eV (V)) J tg) := by
  have hV := hI.q q
  obtain ⟨hR, ⟨hA, hB, hC, hD, hE, hF, hH⟩, -⟩ := hV
  have rT : 0 ≤ B 1 1 ∧ B 1 1 ≤ 12 := hI.1 1 1 (by decide) (by decide)
  obtain ⟨T, hT⟩ : ∃ T : Nat, B 1 1 = T := ⟨(B 1 1).toNat, by omega⟩
  obtain ⟨k1, k2, k3⟩ := know_lt hI hld
  rw [hT, tn_cast] at k1
  have rl : 0 ≤ V 7 0 ∧ V 7 0 ≤ 999 := hR 7 0 (by decide) (by decide)
  have rh : 0 ≤ V 7 1 ∧ V 7 1 ≤ 99 := hR 7 1 (by decide) (by decide)
  have e11 : ∀ t, t < T → V 94 (780 + t) = B 11 t := fun t ht => by
    have : V 94 (780 + t) = V 11 t := hE.2.2.2 t (by omega)
    rw [this, q.1 11 (by omega)]
  have km := k_204 (L := L) (xs := xs) (J := J) (tg := tg) (d := d) (V := V) (s := (B 9 ld).toNat) (T := T) (one := one) (other := other) (g := scr B (rowN B pl) st) (by rw [hA.2.1, q.1 1 (by omega), hT]) (by omega) k2 (by rw [hE.1.1]; exact rl) (by rw [hE.1.2.1]; exact rh) ho ho2 (fun t ht => by rw [e11 t ht]; exact hI.1 11 t (by decide) (by decide)) (fun t ht _ => ⟨h99 t (by omega), scr_rg hI.1 _ _ _⟩)
  rw [tk_cg (g := fun t => scr B (rowN B pl) st t - (if hlp B one other t then B 7 1 else 0)) (fun t ht _ => by
    have r11 : 0 ≤ B 11 t ∧ B 11 t ≤ 5 := hI.1 11 t (by decide) (by decide)
    rw [e11 t ht, hE.1.2.1, q.1 7 (by omega)]
    by_cases c : hlp B one other t
    · rw [if_pos c, if_pos ⟨by have := c.1; omega, c.2⟩]
    · rw [if_neg c, if_neg (fun h => c ⟨by have := h.1; omega, h.2⟩)]), hE.1.1, q.1 7 (by omega)] at km
  unfold tkb
  rw [tk_ext k1 (by omega)]
  exact km
/-- a frame for the row's readings -/
def OF (V W : Nat → Nat → Int) : Prop := ∀ c, ¬ (97 ≤ c ∧ c ≤ 99) → c ≠ 103 → c ≠ 105 → ¬ (109 ≤ c ∧ c ≤ 111) → W c = V c
theorem OF.rf : OF V V := fun _ _ _ _ _ => rfl
theorem OF.tr {U W : Nat → Nat → Int} (h : OF U V) (k : OF V W) : OF U W := fun c q1 q2 q3 q4 => (k c q1 q2 q3 q4).trans (h c q1 q2 q3 q4)
theorem MF.of {W : Nat → Nat → Int} (f : MF V W) : OF V W := fun c q1 q2 q3 _ => f c q1 q2 q3
theorem OF.u {W : Nat → Nat → Int} (h : OF V W) {c p : Nat} {z : Int} (hc : 109 ≤ c ∧ c ≤ 111) : OF V (up2 W c p z) := fun x q1 q2 q3 q4 => by rw [w_ne _ _ _ _ (by omega)]; exact h x q1 q2 q3 q4
theorem Qy.of {W : Nat → Nat → Int} (q : Qy B V) (f : OF V W) : Qy B W := ⟨fun c h => by rw [f c (by omega) (by omega) (by omega) (by omega)]; exact q.1 c h, fun p h => by rw [f 94 (by omega) (by omega) (by omega) (by omega)]; exact q.2.1 p h, fun p h => by rw [f 93 (by omega) (by omega) (by omega) (by omega)]; exact q.2.2.1 p h, q.2.2.2.up (f 1 (by omega) (by omega) (by omega) (by omega)) (f 2 (by omega) (by omega) (by omega) (by omega)) (f 3 (by omega) (by omega) (by omega) (by omega)) (f 4 (by omega) (by omega) (by omega) (by omega)) (f 71 (by omega) (by omega) (by omega) (by omega)) (f 81 (by omega) (by omega) (by omega) (by omega))⟩
theorem tkb_0 (B : Nat → Nat → Int) (st pl ld : Nat) : tkb B st pl ld 0 0 = tk (B 7 0) (scr B (rowN B pl) st) (B 9 ld).toNat 12 := by
  unfold tkb
  refine tk_cg fun t _ _ => ?_
  rw [if_neg (fun h => h.2.elim h.1 h.1)]; omega
/-- readRow -/
theorem m_273 (hI : INV B) (q : Qy B V) {st H ld : Nat} {s : Nat → Nat} (hst : st < 6) (hH : B 18 3 = H) (hld : ld < 6) (hs : ∀ k, k < H → V 109 k = s k ∧ s k < H) : ∃ W, OF V W ∧ W 109 = V 109 ∧ W 111 = V 111 ∧ (∀ k, k < H → W 110 k = mz (rdo B st ld H s k)) ∧ Runs (GW L xs) (d + 6) 273 (0, [.ref 93, (Value.int (Int32.ofInt (ld))), (Value.int (Int32.ofInt (st))), vU], [], zS (eV (V)) J tg) (none, zS (eV (W)) J tg) := by
  have r3 : 0 ≤ B 18 3 ∧ B 18 3 ≤ 8 := hI.1 18 3 (by decide) (by decide)
  have h946 : ∀ W : Nat → Nat → Int, Qy B W → W 94 6 = H ∧ (∀ k, k < H → W 94 (880 + k) = (rowN B k : Nat)) ∧ W 94 (690 + ld) = ((B 9 ld).toNat : Nat) := fun W qW => by
    have hIW := hI.q qW
    refine ⟨?_, fun k hk => ?_, ?_⟩
    · have : W 94 6 = W 18 3 := hIW.2.1.2.2.2.2.2.2.1.2.2.2.1
      rw [this, qW.1 18 (by omega), hH]
    · obtain ⟨w1, w2, w3⟩ := row_lt hI (pl := k) (by omega)
      have : W 94 (880 + k) = W 22 k := (hIW.2.1.2.2.2.2.2.2.2.2.2 k (by rw [qW.1 18 (by omega)]; omega)).1
      rw [this, qW.1 22 (by omega)]; exact w3
    · obtain ⟨k1, k2, k3⟩ := know_lt hI hld
      have : W 94 (690 + ld) = W 9 ld := (hIW.2.1.2.2.2.2.1.2.1 ld hld).2.1
      rw [this, qW.1 9 (by omega)]; exact k3
  -- each by itself
  obtain ⟨A, ⟨a1, a2, a3, a4⟩, hrA⟩ := loopN (g := GW L xs) (d := d + 6) (mid := 273) (σ := Nat → Nat → Int) (fun k W => (2, [.ref 93, (Value.int (Int32.ofInt (ld))), (Value.int (Int32.ofInt (st))), (Value.int (Int32.ofInt (k)))], [], zS (eV W) J tg)) (fun k W => OF V W ∧ W 109 = V 109 ∧ W 111 = V 111 ∧ ∀ j, j < k → W 110 j = mz (tkb B st (s j) ld 0 0)) H (by
    intro k W hk ⟨i1, i2, i3, i4⟩
    have qW := q.of i1
    obtain ⟨g1, g2, g3⟩ := h946 W qW
    obtain ⟨s1, s2⟩ := hs k hk
    have s1 : W 109 k = s k := by rw [i2]; exact s1
    obtain ⟨w1, w2, w3⟩ := row_lt hI (pl := s k) (by omega)
    have e94 := g2 (s k) s2
    obtain ⟨X, x1, x2⟩ := m_205 (L := L) (xs := xs) (J := J) (tg := tg) (d := d) hI qW (LKm_of hI qW w2).1 hld hst
    rw [scr_p, ← tkb_0] at x2
    refine ⟨up2 X 110 k (mz (tkb B st (s k) ld 0 0)), ⟨(i1.tr (fun c q1 _ _ _ => x1 c q1)).u (by omega), by rw [w_ne _ _ _ _ (by decide), x1 109 (by omega)]; exact i2, by rw [w_ne _ _ _ _ (by decide), x1 111 (by omega)]; exact i3, fun j hj => ?_⟩, fun r hr => ?_⟩
    · rw [w_at]
      by_cases e : j = k
      · rw [if_pos e, e]
      · rw [if_neg e, x1 110 (by omega)]; exact i4 j (by omega)
    · apply sg_273_2
      simp (disch := omega) only [g1, s1, e94, eV_at, eV_up, o_lit2, o_add, o_sub, o_mul, o_neg, o_div, o_nat, ix_t, o_lt, o_le, o_eq, o_bi0, o_bi1, o_bib, em_t, o_neg1, o_shl, o_tb, o_tb0, o_tt, o_and, o_xor, o_or, o_max, o_min, an_tb, and_true, true_and, not_true, not_false, if_true, if_false, tn_add, tn_mul, Int.reduceToNat, tn_cast, md_x]
      rw [if_neg (by omega)]
      refine ⟨_, _, _, x2, ?_⟩
      rw [eV_up]
      exact hr) H 0 V (by omega) ⟨OF.rf, rfl, rfl, fun j h => by omega⟩
  -- then one behind the other
  by_cases h0 : H = 0
  · subst h0
    refine ⟨A, a1, a2, a3, fun k hk => by omega, ?_⟩
    obtain ⟨g1, -, -⟩ := h946 A (q.of a1)
    apply sg_273
    refine hrA _ ?_
    apply sg_273_2
    simp (disch := omega) only [g1, eV_at, eV_up, o_lit2, o_add, o_sub, o_mul, o_neg, o_div, o_nat, ix_t, o_lt, o_le, o_eq, o_bi0, o_bi1, o_bib, em_t, o_neg1, o_shl, o_tb, o_tb0, o_tt, o_and, o_xor, o_or, o_max, o_min, an_tb, and_true, true_and, not_true, not_false, if_true, if_false, tn_add, tn_mul, Int.reduceToNat, tn_cast, md_x]
    rw [if_pos (by omega)]
    apply sg_273_48
    simp (disch := omega) only [g1, eV_at, eV_up, o_lit2, o_add, o_sub, o_mul, o_neg, o_div, o_nat, ix_t, o_lt, o_le, o_eq, o_bi0, o_bi1, o_bib, em_t, o_neg1, o_shl, o_tb, o_tb0, o_tt, o_and, o_xor, o_or, o_max, o_min, an_tb, and_true, true_and, not_true, not_false, if_true, if_false, tn_add, tn_mul, Int.reduceToNat, tn_cast, md_x]
    rw [if_pos (by omega)] <;> first | rfl | trivial
  · obtain ⟨W, ⟨i1, i2, i3, i4, i5⟩, hr⟩ := loopN (g := GW L xs) (d := d + 6) (mid := 273) (σ := Nat → Nat → Int) (fun k W => (48, [.ref 93, (Value.int (Int32.ofInt (ld))), (Value.int (Int32.ofInt (st))), (Value.int (Int32.ofInt ((k + 1 : Nat))))], [], zS (eV W) J tg)) (fun k W => OF V W ∧ W 109 = V 109 ∧ W 111 = V 111 ∧ (∀ j, j ≤ k → W 110 j = mz (rdo B st ld H s j)) ∧ ∀ j, k < j → j < H → W 110 j = mz (tkb B st (s j) ld 0 0)) (H - 1) (by
      intro k W hk ⟨i1, i2, i3, i4, i5⟩
      have qW := q.of i1
      obtain ⟨g1, g2, g3⟩ := h946 W qW
      obtain ⟨s1, s2⟩ := hs (k + 1) (by omega)
      have s1 : W 109 (k + 1) = s (k + 1) := by rw [i2]; exact s1
      obtain ⟨w1, w2, w3⟩ := row_lt hI (pl := s (k + 1)) (by omega)
      have e94 := g2 (s (k + 1)) s2
      obtain ⟨X, x1, x2, x3⟩ := m_203g (L := L) (xs := xs) (J := J) (tg := tg) (d := d + 1) hI qW (LKm_of hI qW w2).1 hst
      rw [scr_p] at x2
      have fX : OF V X := i1.tr (fun c q1 _ _ _ => x1 c q1)
      have qX := q.of fX
      obtain ⟨g1X, -, g3X⟩ := h946 X qX
      have r1 := rdo_rg hI st ld H s k
      have p0 : X 110 k = mz (rdo B st ld H s k) := by rw [x1 110 (by omega)]; exact i4 k (by omega)
      have ka := m_272 (L := L) (xs := xs) (J := J) (tg := tg) (d := d + 5) hI qX r1
      have hga := grp_rg hI (rdo B st ld H s k)
      have er : rdo B st ld H s (k + 1) = tkb B st (s (k + 1)) ld (grp B (rdo B st ld H s k)) (if k + 2 < H then grp B (tkb B st (s (k + 2)) ld 0 0) else 0) := rfl
      have em : ((k + 1 : Nat) : Int) - 1 = (k : Int) := by omega
      have ep : ((k + 1 : Nat) : Int) + 1 = ((k + 2 : Nat) : Int) := by omega
      have fin : ∀ (Y : Nat → Nat → Int), Y = up2 X 110 (k + 1) (mz (rdo B st ld H s (k + 1))) → OF V Y ∧ Y 109 = V 109 ∧ Y 111 = V 111 ∧ (∀ j, j ≤ k + 1 → Y 110 j = mz (rdo B st ld H s j)) ∧ ∀ j, k + 1 < j → j < H → Y 110 j = mz (tkb B st (s j) ld 0 0) := fun Y hY => by
        subst hY
        refine ⟨fX.u (by omega), by rw [w_ne _ _ _ _ (by decide), x1 109 (by omega)]; exact i2, by rw [w_ne _ _ _ _ (by decide), x1 111 (by omega)]; exact i3, fun j hj => ?_, fun j h1 h2 => ?_⟩
        · rw [w_at]
          by_cases e : j = k + 1
          · rw [if_pos e, e]
          · rw [if_neg e, x1 110 (by omega)]; exact i4 j (by omega)
        · rw [w_at, if_neg (by omega), x1 110 (by omega)]; exact i5 j (by omega) h2
      by_cases c : k + 2 < H
      · rw [if_pos c] at er
        have p2 : X 110 (k + 2) = mz (tkb B st (s (k + 2)) ld 0 0) := by rw [x1 110 (by omega)]; exact i5 (k + 2) (by omega) c
        have kb := m_272 (L := L) (xs := xs) (J := J) (tg := tg) (d := d + 5) hI qX (tkb_rg hI st (s (k + 2)) ld 0 0)
        have hgb := grp_rg hI (tkb B st (s (k + 2)) ld 0 0)
        have kt := m_204g (L := L) (xs := xs) (J := J) (tg := tg) (d := d + 5) hI qX (st := st) (pl := s (k + 1)) (ld := ld) hld hga hgb x2
        rw [← er] at kt
        refine ⟨up2 X 110 (k + 1) (mz (rdo B st ld H s (k + 1))), fin _ rfl, fun r hr => ?_⟩
        apply sg_273_48
        simp (disch := omega) only [g1, s1, e94, em, ep, eV_at, eV_up, o_lit2, o_add, o_sub, o_mul, o_neg, o_div, o_nat, ix_t, o_lt, o_le, o_eq, o_bi0, o_bi1, o_bib, em_t, o_neg1, o_shl, o_tb, o_tb0, o_tt, o_and, o_xor, o_or, o_max, o_min, an_tb, and_true, true_and, not_true, not_false, if_true, if_false, tn_add, tn_mul, Int.reduceToNat, tn_cast, md_x]
        rw [if_neg (by omega)]
        refine ⟨_, _, x3, ?_⟩
        simp (disch := omega) only [p0, g3X, eV_at, eV_up, o_lit2, o_add, o_sub, o_mul, o_neg, o_div, o_nat, ix_t, o_lt, o_le, o_eq, o_bi0, o_bi1, o_bib, em_t, o_neg1, o_shl, o_tb, o_tb0, o_tt, o_and, o_xor, o_or, o_max, o_min, an_tb, and_true, true_and, not_true, not_false, if_true, if_false, tn_add, tn_mul, Int.reduceToNat, tn_cast, md_x]
        refine ⟨_, _, _, ka, ?_⟩
        simp (disch := omega) only [g1X, p2, eV_at, eV_up, o_lit2, o_add, o_sub, o_mul, o_neg, o_div, o_nat, ix_t, o_lt, o_le, o_eq, o_bi0, o_bi1, o_bib, em_t, o_neg1, o_shl, o_tb, o_tb0, o_tt, o_and, o_xor, o_or, o_max, o_min, an_tb, and_true, true_and, not_true, not_false, if_true, if_false, tn_add, tn_mul, Int.reduceToNat, tn_cast, md_x]
        rw [if_neg (by omega)]
        refine ⟨_, _, _, kb, _, _, _, kt, ?_⟩
        rw [eV_up]
        exact hr
      · rw [if_neg c] at er
        have kt := m_204g (L := L) (xs := xs) (J := J) (tg := tg) (d := d + 5) hI qX (st := st) (pl := s (k + 1)) (ld := ld) (other := 0) hld hga (by omega) x2
        rw [← er] at kt
        refine ⟨up2 X 110 (k + 1) (mz (rdo B st ld H s (k + 1))), fin _ rfl, fun r hr => ?_⟩
        apply sg_273_48
        simp (disch := omega) only [g1, s1, e94, em, ep, eV_at, eV_up, o_lit2, o_add, o_sub, o_mul, o_neg, o_div, o_nat, ix_t, o_lt, o_le, o_eq, o_bi0, o_bi1, o_bib, em_t, o_neg1, o_shl, o_tb, o_tb0, o_tt, o_and, o_xor, o_or, o_max, o_min, an_tb, and_true, true_and, not_true, not_false, if_true, if_false, tn_add, tn_mul, Int.reduceToNat, tn_cast, md_x]
        rw [if_neg (by omega)]
        refine ⟨_, _, x3, ?_⟩
        simp (disch := omega) only [p0, g3X, eV_at, eV_up, o_lit2, o_add, o_sub, o_mul, o_neg, o_div, o_nat, ix_t, o_lt, o_le, o_eq, o_bi0, o_bi1, o_bib, em_t, o_neg1, o_shl, o_tb, o_tb0, o_tt, o_and, o_xor, o_or, o_max, o_min, an_tb, and_true, true_and, not_true, not_false, if_true, if_false, tn_add, tn_mul, Int.reduceToNat, tn_cast, md_x]
        refine ⟨_, _, _, ka, ?_⟩
        simp (disch := omega) only [g1X, eV_at, eV_up, o_lit2, o_add, o_sub, o_mul, o_neg, o_div, o_nat, ix_t, o_lt, o_le, o_eq, o_bi0, o_bi1, o_bib, em_t, o_neg1, o_shl, o_tb, o_tb0, o_tt, o_and, o_xor, o_or, o_max, o_min, an_tb, and_true, true_and, not_true, not_false, if_true, if_false, tn_add, tn_mul, Int.reduceToNat, tn_cast, md_x]
        rw [if_pos (by omega)]
        refine ⟨_, _, _, kt, ?_⟩
        rw [eV_up]
        exact hr) (H - 1) 0 A (by omega) ⟨a1, a2, a3, fun j hj => by
          have : j = 0 := by omega
          subst this; exact a4 0 (by omega), fun j h1 h2 => a4 j h2⟩
    refine ⟨W, i1, i2, i3, fun k hk => i4 k (by omega), ?_⟩
    obtain ⟨g1, -, -⟩ := h946 A (q.of a1)
    obtain ⟨g1W, -, -⟩ := h946 W (q.of i1)
    apply sg_273
    refine hrA _ ?_
    apply sg_273_2
    simp (disch := omega) only [g1, eV_at, eV_up, o_lit2, o_add, o_sub, o_mul, o_neg, o_div, o_nat, ix_t, o_lt, o_le, o_eq, o_bi0, o_bi1, o_bib, em_t, o_neg1, o_shl, o_tb, o_tb0, o_tt, o_and, o_xor, o_or, o_max, o_min, an_tb, and_true, true_and, not_true, not_false, if_true, if_false, tn_add, tn_mul, Int.reduceToNat, tn_cast, md_x]
    rw [if_pos (by omega)]
    refine hr _ ?_
    apply sg_273_48
    simp (disch := omega) only [g1W, eV_at, eV_up, o_lit2, o_add, o_sub, o_mul, o_neg, o_div, o_nat, ix_t, o_lt, o_le, o_eq, o_bi0, o_bi1, o_bib, em_t, o_neg1, o_shl, o_tb, o_tb0, o_tt, o_and, o_xor, o_or, o_max, o_min, an_tb, and_true, true_and, not_true, not_false, if_true, if_false, tn_add, tn_mul, Int.reduceToNat, tn_cast, md_x]
    rw [if_pos (by omega)] <;> first | rfl | trivial
/-- asHung -/
theorem m_274 : ∃ W, (∀ c, c ≠ 109 → W c = V c) ∧ (∀ k : Nat, k < 8 → W 109 k = (k : Int)) ∧ Runs (GW L xs) (d) 274 (0, [.ref 93, vU], [], zS (eV (V)) J tg) (none, zS (eV (W)) J tg) := by
  obtain ⟨W, ⟨i1, i2⟩, hr⟩ := loopN (g := GW L xs) (d := d) (mid := 274) (σ := Nat → Nat → Int) (fun k W => (2, [.ref 93, (Value.int (Int32.ofInt (k)))], [], zS (eV W) J tg)) (fun k W => (∀ c, c ≠ 109 → W c = V c) ∧ ∀ j : Nat, j < k → W 109 j = (j : Int)) 8 (by
    intro k W hk ⟨i1, i2⟩
    refine ⟨up2 W 109 k k, ⟨fun c hc => by rw [w_ne _ _ _ _ hc]; exact i1 c hc, fun j hj => ?_⟩, fun r hr => ?_⟩
    · rw [w_at]
      by_cases e : j = k
      · rw [if_pos e, e]
      · rw [if_neg e]; exact i2 j (by omega)
    · apply sg_274_2
      simp (disch := omega) only [eV_at, eV_up, o_lit2, o_add, o_sub, o_mul, o_neg, o_div, o_nat, ix_t, o_lt, o_le, o_eq, o_bi0, o_bi1, o_bib, em_t, o_neg1, o_shl, o_tb, o_tb0, o_tt, o_and, o_xor, o_or, o_max, o_min, an_tb, and_true, true_and, not_true, not_false, if_true, if_false, tn_add, tn_mul, Int.reduceToNat, tn_cast, md_x]
      rw [if_neg (by omega)]
      exact hr) 8 0 V (by omega) ⟨fun _ _ => rfl, fun j h => by omega⟩
  refine ⟨W, i1, i2, ?_⟩
  apply sg_274
  refine hr _ ?_
  apply sg_274_2
  rw [if_pos (by decide)]
end HR
theorem c_among {L : Nat} {xs : Nat → Int32} {V : Nat → Nat → Int} {J : Nat → Nat → Int64} {tg : Option Nat} (h : INV V) {a b c : Int} (ha : (-2147483648 ≤ a ∧ a < 2147483648)) (hb : (-2147483648 ≤ b ∧ b < 2147483648)) (hc : (-2147483648 ≤ c ∧ c < 2147483648)) : ∃ (v : Int) (U W : Nat → Nat → Int) (J1 : Nat → Nat → Int64), Runs (GW L xs) 40 145 (0, [.ref 0, (Value.int (Int32.ofInt (a))), (Value.int (Int32.ofInt (b))), (Value.int (Int32.ofInt (c)))], [], zS (eV V) J tg) (some (Value.int (Int32.ofInt v)), zS (eV U) J tg) ∧ Runs (GW L xs) 40 275 (0, [.ref 93, (Value.int (Int32.ofInt (a))), (Value.int (Int32.ofInt (b))), (Value.int (Int32.ofInt (c)))], [], zS (eV U) J tg) (some (Value.int (Int32.ofInt v)), zS (eV W) J1 tg) ∧ INV W := by
  have h0 := h
  obtain ⟨hR, ⟨hA, hB, hC, hD, hE, hF, hH⟩, h2, h3, h4, h5⟩ := h
  have rD : 0 ≤ V 1 0 ∧ V 1 0 ≤ 12 := hR 1 0 (by decide) (by decide)
  have rT : 0 ≤ V 1 1 ∧ V 1 1 ≤ 12 := hR 1 1 (by decide) (by decide)
  have r3 : 0 ≤ V 18 3 ∧ V 18 3 ≤ 8 := hR 18 3 (by decide) (by decide)
  obtain ⟨H, hHn⟩ : ∃ H : Nat, V 18 3 = H := ⟨(V 18 3).toNat, by omega⟩
  have h946 : V 94 6 = H := by
    have : V 94 6 = V 18 3 := hH.1.2.2.2.1
    rw [this, hHn]
  by_cases g1 : 0 ≤ a ∧ a ≤ (H : Int) - 1
  · by_cases g2 : 0 ≤ b ∧ b ≤ 5
    · by_cases g3 : 0 ≤ c ∧ c ≤ 5
      · obtain ⟨i, rfl⟩ : ∃ n : Nat, a = n := ⟨a.toNat, by omega⟩
        obtain ⟨ld, rfl⟩ : ∃ n : Nat, b = n := ⟨b.toNat, by omega⟩
        obtain ⟨st, rfl⟩ : ∃ n : Nat, c = n := ⟨c.toNat, by omega⟩
        obtain ⟨A, qA, a2, a3, a4⟩ := k_32 (L := L) (xs := xs) (J := J) (tg := tg) (d := 34) h0 (Qy.rf h3) (st := st) (by omega) hHn
        obtain ⟨U, u1, u2⟩ := k_33 (L := L) (xs := xs) (J := J) (tg := tg) (d := 36) h0 qA (i := i) (ld := ld) a2 hHn (by omega) (by omega) a3
        have qU : Qy V U := qA.cl fun c _ q2 => u1 c (by omega)
        have hIU := h0.q qU
        obtain ⟨C, c1, c2, c3⟩ := m_274 (L := L) (xs := xs) (J := J) (tg := tg) (d := 39) (V := U)
        have qC : Qy V C := qU.of fun c _ _ _ q4 => c1 c (by omega)
        obtain ⟨W, w1, w2, w3, w4, w5⟩ := m_273 (L := L) (xs := xs) (J := J) (tg := tg) (d := 33) h0 qC (st := st) (ld := ld) (s := id) (by omega) hHn (by omega) (fun k hk => ⟨c2 k (by omega), hk⟩)
        have hrd := rdo_rg h0 st ld H id i
        have wv := w4 i (by omega)
        have eU : U 94 6 = H := by
          have : U 94 6 = U 18 3 := hIU.2.1.2.2.2.2.2.2.1.2.2.2.1
          rw [this, qU.1 18 (by omega), hHn]
        refine ⟨mz (rdo V st ld H id i), U, W, J, ?_, ?_, h0.q (qC.of w1)⟩
        · apply sg_145
          simp (disch := omega) only [hHn, eV_at, eV_up, o_lit2, o_add, o_sub, o_mul, o_neg, o_div, o_nat, ix_t, o_lt, o_le, o_eq, o_bi0, o_bi1, o_bib, em_t, o_neg1, o_shl, o_tb, o_tb0, o_tt, o_and, o_xor, o_or, o_max, o_min, an_tb, and_true, true_and, not_true, not_false, if_true, if_false, tn_add, tn_mul, Int.reduceToNat, tn_cast, md_x]
          refine ⟨_, _, k_164 (a := 0) (b := (H : Int) - 1) ha (by omega) (by omega), ?_⟩
          rw [if_neg (b0o_f g1)]
          refine ⟨_, _, k_165 hb, ?_⟩
          rw [if_neg (b0o_f g2)]
          refine ⟨_, _, k_166 hc, ?_⟩
          rw [if_neg (b0o_f g3)]
          refine ⟨_, a4, _, _, u2, _, _, k_168 hrd, ?_⟩
          unfold mz
          by_cases e : rdo V st ld H id i = -1
          · rw [if_pos e, if_pos e]
          · rw [if_neg e, if_neg e]; exact leafI (by omega)
        · apply sg_275
          simp (disch := omega) only [eU, eV_at, eV_up, o_lit2, o_add, o_sub, o_mul, o_neg, o_div, o_nat, ix_t, o_lt, o_le, o_eq, o_bi0, o_bi1, o_bib, em_t, o_neg1, o_shl, o_tb, o_tb0, o_tt, o_and, o_xor, o_or, o_max, o_min, an_tb, and_true, true_and, not_true, not_false, if_true, if_false, tn_add, tn_mul, Int.reduceToNat, tn_cast, md_x]
          refine ⟨_, _, _, k_177 (a := 0) (b := (H : Int) - 1) ha (by omega) (by omega), ?_⟩
          rw [if_neg (b0o_f g1)]
          refine ⟨_, _, _, k_182 hb, ?_⟩
          rw [if_neg (b0o_f g2)]
          refine ⟨_, _, _, k_182 hc, ?_⟩
          rw [if_neg (b0o_f g3)]
          refine ⟨_, _, c3, _, _, w5, ?_⟩
          simp (disch := omega) only [wv, eV_at, eV_up, o_lit2, o_add, o_sub, o_mul, o_neg, o_div, o_nat, ix_t, o_lt, o_le, o_eq, o_bi0, o_bi1, o_bib, em_t, o_neg1, o_shl, o_tb, o_tb0, o_tt, o_and, o_xor, o_or, o_max, o_min, an_tb, and_true, true_and, not_true, not_false, if_true, if_false, tn_add, tn_mul, Int.reduceToNat, tn_cast, md_x]
      · refine ⟨-1, V, V, J, ?_, ?_, h0⟩
        · apply sg_145
          simp (disch := omega) only [hHn, eV_at, eV_up, o_lit2, o_add, o_sub, o_mul, o_neg, o_div, o_nat, ix_t, o_lt, o_le, o_eq, o_bi0, o_bi1, o_bib, em_t, o_neg1, o_shl, o_tb, o_tb0, o_tt, o_and, o_xor, o_or, o_max, o_min, an_tb, and_true, true_and, not_true, not_false, if_true, if_false, tn_add, tn_mul, Int.reduceToNat, tn_cast, md_x]
          refine ⟨_, _, k_164 (a := 0) (b := (H : Int) - 1) ha (by omega) (by omega), ?_⟩
          rw [if_neg (b0o_f g1)]
          refine ⟨_, _, k_165 hb, ?_⟩
          rw [if_neg (b0o_f g2)]
          refine ⟨_, _, k_166 hc, ?_⟩
          rw [if_pos (b0o_t g3)]
        · apply sg_275
          simp (disch := omega) only [h946, eV_at, eV_up, o_lit2, o_add, o_sub, o_mul, o_neg, o_div, o_nat, ix_t, o_lt, o_le, o_eq, o_bi0, o_bi1, o_bib, em_t, o_neg1, o_shl, o_tb, o_tb0, o_tt, o_and, o_xor, o_or, o_max, o_min, an_tb, and_true, true_and, not_true, not_false, if_true, if_false, tn_add, tn_mul, Int.reduceToNat, tn_cast, md_x]
          refine ⟨_, _, _, k_177 (a := 0) (b := (H : Int) - 1) ha (by omega) (by omega), ?_⟩
          rw [if_neg (b0o_f g1)]
          refine ⟨_, _, _, k_182 hb, ?_⟩
          rw [if_neg (b0o_f g2)]
          refine ⟨_, _, _, k_182 hc, ?_⟩
          rw [if_pos (b0o_t g3)]
    · refine ⟨-1, V, V, J, ?_, ?_, h0⟩
      · apply sg_145
        simp (disch := omega) only [hHn, eV_at, eV_up, o_lit2, o_add, o_sub, o_mul, o_neg, o_div, o_nat, ix_t, o_lt, o_le, o_eq, o_bi0, o_bi1, o_bib, em_t, o_neg1, o_shl, o_tb, o_tb0, o_tt, o_and, o_xor, o_or, o_max, o_min, an_tb, and_true, true_and, not_true, not_false, if_true, if_false, tn_add, tn_mul, Int.reduceToNat, tn_cast, md_x]
        refine ⟨_, _, k_164 (a := 0) (b := (H : Int) - 1) ha (by omega) (by omega), ?_⟩
        rw [if_neg (b0o_f g1)]
        refine ⟨_, _, k_165 hb, ?_⟩
        rw [if_pos (b0o_t g2)]
      · apply sg_275
        simp (disch := omega) only [h946, eV_at, eV_up, o_lit2, o_add, o_sub, o_mul, o_neg, o_div, o_nat, ix_t, o_lt, o_le, o_eq, o_bi0, o_bi1, o_bib, em_t, o_neg1, o_shl, o_tb, o_tb0, o_tt, o_and, o_xor, o_or, o_max, o_min, an_tb, and_true, true_and, not_true, not_false, if_true, if_false, tn_add, tn_mul, Int.reduceToNat, tn_cast, md_x]
        refine ⟨_, _, _, k_177 (a := 0) (b := (H : Int) - 1) ha (by omega) (by omega), ?_⟩
        rw [if_neg (b0o_f g1)]
        refine ⟨_, _, _, k_182 hb, ?_⟩
        rw [if_pos (b0o_t g2)]
  · refine ⟨-1, V, V, J, ?_, ?_, h0⟩
    · apply sg_145
      simp (disch := omega) only [hHn, eV_at, eV_up, o_lit2, o_add, o_sub, o_mul, o_neg, o_div, o_nat, ix_t, o_lt, o_le, o_eq, o_bi0, o_bi1, o_bib, em_t, o_neg1, o_shl, o_tb, o_tb0, o_tt, o_and, o_xor, o_or, o_max, o_min, an_tb, and_true, true_and, not_true, not_false, if_true, if_false, tn_add, tn_mul, Int.reduceToNat, tn_cast, md_x]
      refine ⟨_, _, k_164 (a := 0) (b := (H : Int) - 1) ha (by omega) (by omega), ?_⟩
      rw [if_pos (b0o_t g1)]
    · apply sg_275
      simp (disch := omega) only [h946, eV_at, eV_up, o_lit2, o_add, o_sub, o_mul, o_neg, o_div, o_nat, ix_t, o_lt, o_le, o_eq, o_bi0, o_bi1, o_bib, em_t, o_neg1, o_shl, o_tb, o_tb0, o_tt, o_and, o_xor, o_or, o_max, o_min, an_tb, and_true, true_and, not_true, not_false, if_true, if_false, tn_add, tn_mul, Int.reduceToNat, tn_cast, md_x]
      refine ⟨_, _, _, k_177 (a := 0) (b := (H : Int) - 1) ha (by omega) (by omega), ?_⟩
      rw [if_pos (b0o_t g1)]
