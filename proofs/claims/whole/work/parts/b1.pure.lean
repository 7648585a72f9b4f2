/-! Weighing an order. -/
abbrev okOr (B : Nat → Nat → Int) (st ld H : Nat) (s : Nat → Nat) (k : Nat) : Prop := lrn B (rowN B (s k)) ld ∨ rt (B 5 (rowN B (s k))) (wdn B (rowN B (s k))) (B 6 (rowN B (s k))) (rdo B st ld H s k)
def orl (B : Nat → Nat → Int) (st ld H : Nat) (s : Nat → Nat) : Nat → Int
  | 0 => 0
  | k + 1 => orl B st ld H s k + (if okOr B st ld H s k then B 8 ld else 0)
def wol (B : Nat → Nat → Int) (st H : Nat) (s : Nat → Nat) : Nat → Int
  | 0 => 0
  | ld + 1 => wol B st H s ld + (if 0 < B 8 ld then orl B st ld H s H else 0)
def woR (B : Nat → Nat → Int) (st H : Nat) (l : List Nat) : Int := wol B st H (lsf l) 6
section OR
variable {L d : Nat} {xs : Nat → Int32} {B V : Nat → Nat → Int} {J : Nat → Nat → Int64} {tg : Option Nat}
theorem orl_rg (hI : INV B) (st ld H : Nat) (s : Nat → Nat) : ∀ k, 0 ≤ orl B st ld H s k ∧ orl B st ld H s k ≤ 99 * k
  | 0 => by simp [orl]
  | k + 1 => by
    have ih := orl_rg hI st ld H s k
    have r8 : 0 ≤ B 8 ld ∧ B 8 ld ≤ 99 := hI.1 8 ld (by decide) (by decide)
    unfold orl
    split <;> omega
theorem wol_rg (hI : INV B) (st : Nat) {H : Nat} (hH : H ≤ 8) (s : Nat → Nat) : ∀ n, 0 ≤ wol B st H s n ∧ wol B st H s n ≤ 792 * n
  | 0 => by simp [wol]
  | n + 1 => by
    have ih := wol_rg hI st hH s n
    have := orl_rg hI st n H s H
    unfold wol
    split <;> omega
/-- isRight of the hanger -/
theorem k_39 (hI : INV B) (q : Qy B V) {st H pl ld : Nat} {took : Int} (hP : HP B V st H) (hH : B 18 3 = H) (hpl : pl < H) (hld : ld < 6) (ht : -1 ≤ took ∧ took ≤ 11) : Runs (GW L xs) (d) 39 (0, [.ref 86, (Value.int (Int32.ofInt (pl))), (Value.int (Int32.ofInt (ld))), (Value.int (Int32.ofInt (took))), vU], [], zS (eV (V)) J tg) (some (Value.int (Int32.ofInt (bi (lrn B (rowN B pl) ld ∨ rt (B 5 (rowN B pl)) (wdn B (rowN B pl)) (B 6 (rowN B pl)) took)))), zS (eV (V)) J tg) := by
  have r3 : 0 ≤ B 18 3 ∧ B 18 3 ≤ 8 := hI.1 18 3 (by decide) (by decide)
  obtain ⟨w1, w2, w3⟩ := row_lt hI (pl := pl) (by omega)
  have e22 : V 22 pl = (rowN B pl : Nat) := by rw [q.1 22 (by omega)]; exact w3
  have e12 : V 12 (rowN B pl * 6 + ld) = B 12 (rowN B pl * 6 + ld) := by rw [q.1 12 (by omega)]
  have r12 : 0 ≤ B 12 (rowN B pl * 6 + ld) ∧ B 12 (rowN B pl * 6 + ld) ≤ 1000 := hI.1 12 _ (by decide) (by decide)
  have e88 : V 88 pl = goalN B pl := hP.2.1 pl hpl
  have r5 : -1 ≤ B 5 (rowN B pl) ∧ B 5 (rowN B pl) ≤ 11 := hI.1 5 _ (by decide) (by decide)
  have rg : -1 ≤ goalN B pl ∧ goalN B pl ≤ 11 := by unfold goalN; split <;> omega
  apply sg_39
  simp (disch := omega) only [e22, e12, e88, eV_at, eV_up, o_lit2, o_add, o_sub, o_mul, o_neg, o_div, o_nat, ix_t, o_lt, o_le, o_eq, o_bi0, o_bi1, o_bib, em_t, o_neg1, o_shl, o_tb, o_tb0, o_tt, o_and, o_xor, o_or, o_max, o_min, an_tb, and_true, true_and, not_true, not_false, if_true, if_false, tn_add, tn_mul, Int.reduceToNat, tn_cast, md_x]
  by_cases c : B 12 (rowN B pl * 6 + ld) < 500
  · rw [if_pos c]
    have nl : ¬ lrn B (rowN B pl) ld := fun h => by have := h.2; rw [tn_cast] at this; omega
    by_cases c1 : took = -1
    · rw [if_pos c1]
      exact leafI (bi_f (fun h => h.elim nl (fun h => h.1 c1))).symm
    · rw [if_neg c1]
      unfold goalN
      by_cases c2 : wdn B (rowN B pl) = B 6 (rowN B pl)
      · rw [if_pos c2]
        by_cases c3 : took = B 5 (rowN B pl)
        · rw [if_pos c3]; exact leafI (bi_t (Or.inr ⟨c1, c2, c3⟩)).symm
        · rw [if_neg c3]; exact leafI (bi_f (fun h => h.elim nl (fun h => c3 h.2.2))).symm
      · rw [if_neg c2, if_neg c1]
        exact leafI (bi_f (fun h => h.elim nl (fun h => c2 h.2.1))).symm
  · rw [if_neg c, if_neg (by decide)]
    exact leafI (bi_t (Or.inl ⟨by omega, by rw [tn_cast]; omega⟩)).symm
/-- weighOrder, up to its end -/
theorem k_38 (hI : INV B) (q : Qy B V) {st H : Nat} {s : Nat → Nat} (hP : HP B V st H) (hH : B 18 3 = H) (hs : ∀ k, k < H → V 90 k = s k ∧ s k < H) : ∃ W, (∀ c, c ≠ 89 → W c = V c) ∧ HP B W st H ∧ ∀ r, Runs (GW L xs) (d + 3) 38 (4, [.ref 86, (Value.int (Int32.ofInt (wol B st H s 6))), (Value.int (Int32.ofInt (6))), vU, vU], [], zS (eV W) J tg) r → Runs (GW L xs) (d + 3) 38 (0, [.ref 86, vU, vU, vU, vU], [], zS (eV V) J tg) r := by
  have r3 : 0 ≤ B 18 3 ∧ B 18 3 ≤ 8 := hI.1 18 3 (by decide) (by decide)
  obtain ⟨W, ⟨i1, i2⟩, hr⟩ := loopN (g := GW L xs) (d := d + 3) (mid := 38) (σ := Nat → Nat → Int) (fun ld W => (4, [.ref 86, (Value.int (Int32.ofInt (wol B st H s ld))), (Value.int (Int32.ofInt (ld))), vU, vU], [], zS (eV W) J tg)) (fun ld W => (∀ c, c ≠ 89 → W c = V c) ∧ HP B W st H) 6 (by
    intro ld W hld ⟨i1, i2⟩
    have qW : Qy B W := q.cl fun c _ q2 => i1 c (by omega)
    have e18 : ∀ X : Nat → Nat → Int, Qy B X → X 18 3 = H ∧ X 8 ld = B 8 ld := fun X qX => ⟨by rw [qX.1 18 (by omega)]; exact hH, by rw [qX.1 8 (by omega)]⟩
    have r8 : 0 ≤ B 8 ld ∧ B 8 ld ≤ 99 := hI.1 8 ld (by decide) (by decide)
    have hws : wol B st H s (ld + 1) = wol B st H s ld + (if 0 < B 8 ld then orl B st ld H s H else 0) := rfl
    obtain ⟨f1, f2⟩ := e18 W qW
    by_cases g : 0 < B 8 ld
    · rw [if_pos g] at hws
      rw [hws]
      obtain ⟨⟨X, tk0⟩, ⟨x1, x2, -, -⟩, hrX⟩ := loopN (g := GW L xs) (d := d + 3) (mid := 38) (σ := (Nat → Nat → Int) × Int) (fun k σ => (15, [.ref 86, (Value.int (Int32.ofInt (wol B st H s ld + orl B st ld H s k))), (Value.int (Int32.ofInt (ld))), (Value.int (Int32.ofInt (σ.2))), (Value.int (Int32.ofInt (k)))], [], zS (eV σ.1) J tg)) (fun k σ => (∀ c, c ≠ 89 → σ.1 c = V c) ∧ HP B σ.1 st H ∧ (-1 ≤ σ.2 ∧ σ.2 ≤ 11) ∧ (∀ j, k = j + 1 → σ.2 = rdo B st ld H s j)) H (by
        intro k ⟨X, tk0⟩ hk ⟨x1, x2, x3, x4⟩
        dsimp only at x1 x2 x3 x4 ⊢
        have qX : Qy B X := q.cl fun c _ q2 => x1 c (by omega)
        obtain ⟨g1, g2⟩ := e18 X qX
        have hsX : ∀ j, j < H → X 90 j = s j ∧ s j < H := fun j hj => ⟨by rw [x1 90 (by decide)]; exact (hs j hj).1, (hs j hj).2⟩
        have hos : orl B st ld H s (k + 1) = orl B st ld H s k + (if okOr B st ld H s k then B 8 ld else 0) := rfl
        have hrk := rdo_rg hI st ld H s k
        obtain ⟨sk1, sk2⟩ := hsX k hk
        -- what is taken at k
        have tkn : ∃ Y, (∀ c, c ≠ 89 → Y c = V c) ∧ HP B Y st H ∧ ((k = 0 ∧ Runs (GW L xs) (d + 2) 35 (0, [.ref 86, (Value.int (Int32.ofInt (s 0))), (Value.int (Int32.ofInt (ld))), (Value.int (Int32.ofInt (0))), (Value.int (Int32.ofInt (0))), vU, vU, vU, vU], [], zS (eV (X)) J tg) (some (Value.int (Int32.ofInt (rdo B st ld H s k))), zS (eV (Y)) J tg)) ∨ (k ≠ 0 ∧ Runs (GW L xs) (d + 2) 34 (0, [.ref 86, (Value.int (Int32.ofInt (k))), (Value.int (Int32.ofInt (ld))), (Value.int (Int32.ofInt (tk0))), vU], [], zS (eV (X)) J tg) (some (Value.int (Int32.ofInt (rdo B st ld H s k))), zS (eV (Y)) J tg))) := by
          cases k with
          | zero =>
            obtain ⟨Y, y1, y2, y3⟩ := k_35 (L := L) (xs := xs) (J := J) (tg := tg) (d := d + 1) hI qX (pl := s 0) (ld := ld) (ah := 0) (be := 0) x2 (by omega) sk2 hld (by omega) (by omega)
            exact ⟨Y, fun c hc => by rw [y1 c hc]; exact x1 c hc, y2, Or.inl ⟨rfl, y3⟩⟩
          | succ j =>
            have e := x4 j rfl
            subst e
            obtain ⟨Y, y1, y2, y3⟩ := k_34 (L := L) (xs := xs) (J := J) (tg := tg) (d := d) hI qX (at' := j + 1) (ld := ld) (s := s) (ahead := rdo B st ld H s j) x2 hH hk hld hsX x3
            exact ⟨Y, fun c hc => by rw [y1 c hc]; exact x1 c hc, y2, Or.inr ⟨by omega, y3⟩⟩
        obtain ⟨Y, y1, y2, y3⟩ := tkn
        have qY : Qy B Y := q.cl fun c _ q2 => y1 c (by omega)
        obtain ⟨h1, h2⟩ := e18 Y qY
        have k39 := k_39 (L := L) (xs := xs) (J := J) (tg := tg) (d := d + 2) hI qY (pl := s k) (ld := ld) (took := rdo B st ld H s k) y2 hH sk2 hld hrk
        have skY : Y 90 k = s k := by rw [y1 90 (by decide), ← x1 90 (by decide)]; exact sk1
        refine ⟨(Y, rdo B st ld H s k), ⟨y1, y2, hrk, fun j e => by
          have : j = k := by omega
          subst this; rfl⟩, fun r hr => ?_⟩
        rw [hos, ← Int.add_assoc] at hr
        apply sg_38_15
        simp (disch := omega) only [g1, g2, eV_at, eV_up, o_lit2, o_add, o_sub, o_mul, o_neg, o_div, o_nat, ix_t, o_lt, o_le, o_eq, o_bi0, o_bi1, o_bib, em_t, o_neg1, o_shl, o_tb, o_tb0, o_tt, o_and, o_xor, o_or, o_max, o_min, an_tb, and_true, true_and, not_true, not_false, if_true, if_false, tn_add, tn_mul, Int.reduceToNat, tn_cast, md_x]
        rw [if_neg (by omega), if_neg (by omega)]
        rcases y3 with ⟨c0, y3⟩ | ⟨c0, y3⟩
        · subst c0
          have s0 : X 90 0 = s 0 := sk1
          rw [if_pos (by omega)]
          simp (disch := omega) only [s0, eV_at, eV_up, o_lit2, o_add, o_sub, o_mul, o_neg, o_div, o_nat, ix_t, o_lt, o_le, o_eq, o_bi0, o_bi1, o_bib, em_t, o_neg1, o_shl, o_tb, o_tb0, o_tt, o_and, o_xor, o_or, o_max, o_min, an_tb, and_true, true_and, not_true, not_false, if_true, if_false, tn_add, tn_mul, Int.reduceToNat, tn_cast, md_x]
          refine ⟨_, _, y3, ?_⟩
          simp (disch := omega) only [skY, eV_at, eV_up, o_lit2, o_add, o_sub, o_mul, o_neg, o_div, o_nat, ix_t, o_lt, o_le, o_eq, o_bi0, o_bi1, o_bib, em_t, o_neg1, o_shl, o_tb, o_tb0, o_tt, o_and, o_xor, o_or, o_max, o_min, an_tb, and_true, true_and, not_true, not_false, if_true, if_false, tn_add, tn_mul, Int.reduceToNat, tn_cast, md_x]
          refine ⟨_, _, k39, ?_⟩
          by_cases c : okOr B st ld H s 0
          · rw [if_neg (b0o_f c)]
            rw [if_pos c] at hr
            simp (disch := omega) only [h2, eV_at, eV_up, o_lit2, o_add, o_sub, o_mul, o_neg, o_div, o_nat, ix_t, o_lt, o_le, o_eq, o_bi0, o_bi1, o_bib, em_t, o_neg1, o_shl, o_tb, o_tb0, o_tt, o_and, o_xor, o_or, o_max, o_min, an_tb, and_true, true_and, not_true, not_false, if_true, if_false, tn_add, tn_mul, Int.reduceToNat, tn_cast, md_x]
            exact hr
          · rw [if_pos (b0o_t c)]
            rw [if_neg c] at hr
            exact hr
        · rw [if_neg (by omega)]
          refine ⟨_, _, y3, ?_⟩
          simp (disch := omega) only [skY, eV_at, eV_up, o_lit2, o_add, o_sub, o_mul, o_neg, o_div, o_nat, ix_t, o_lt, o_le, o_eq, o_bi0, o_bi1, o_bib, em_t, o_neg1, o_shl, o_tb, o_tb0, o_tt, o_and, o_xor, o_or, o_max, o_min, an_tb, and_true, true_and, not_true, not_false, if_true, if_false, tn_add, tn_mul, Int.reduceToNat, tn_cast, md_x]
          refine ⟨_, _, k39, ?_⟩
          by_cases c : okOr B st ld H s k
          · rw [if_neg (b0o_f c)]
            rw [if_pos c] at hr
            simp (disch := omega) only [h2, eV_at, eV_up, o_lit2, o_add, o_sub, o_mul, o_neg, o_div, o_nat, ix_t, o_lt, o_le, o_eq, o_bi0, o_bi1, o_bib, em_t, o_neg1, o_shl, o_tb, o_tb0, o_tt, o_and, o_xor, o_or, o_max, o_min, an_tb, and_true, true_and, not_true, not_false, if_true, if_false, tn_add, tn_mul, Int.reduceToNat, tn_cast, md_x]
            exact hr
          · rw [if_pos (b0o_t c)]
            rw [if_neg c] at hr
            exact hr) H 0 (W, -1) (by omega) ⟨i1, i2, by dsimp only; omega, fun j h => by omega⟩
      dsimp only at x1 x2 hrX
      have qX : Qy B X := q.cl fun c _ q2 => x1 c (by omega)
      obtain ⟨g1, g2⟩ := e18 X qX
      refine ⟨X, ⟨x1, x2⟩, fun r hr => ?_⟩
      apply sg_38_4
      simp (disch := omega) only [eV_at, eV_up, o_lit2, o_add, o_sub, o_mul, o_neg, o_div, o_nat, ix_t, o_lt, o_le, o_eq, o_bi0, o_bi1, o_bib, em_t, o_neg1, o_shl, o_tb, o_tb0, o_tt, o_and, o_xor, o_or, o_max, o_min, an_tb, and_true, true_and, not_true, not_false, if_true, if_false, tn_add, tn_mul, Int.reduceToNat, tn_cast, md_x]
      rw [if_neg (by omega)]
      have e0 : wol B st H s ld + orl B st ld H s 0 = wol B st H s ld := Int.add_zero _
      rw [e0] at hrX
      refine hrX _ ?_
      apply sg_38_15
      simp (disch := omega) only [g1, eV_at, eV_up, o_lit2, o_add, o_sub, o_mul, o_neg, o_div, o_nat, ix_t, o_lt, o_le, o_eq, o_bi0, o_bi1, o_bib, em_t, o_neg1, o_shl, o_tb, o_tb0, o_tt, o_and, o_xor, o_or, o_max, o_min, an_tb, and_true, true_and, not_true, not_false, if_true, if_false, tn_add, tn_mul, Int.reduceToNat, tn_cast, md_x]
      rw [if_pos (by omega)]
      exact hr
    · rw [if_neg g, Int.add_zero] at hws
      rw [hws]
      refine ⟨W, ⟨i1, i2⟩, fun r hr => ?_⟩
      apply sg_38_4
      simp (disch := omega) only [eV_at, eV_up, o_lit2, o_add, o_sub, o_mul, o_neg, o_div, o_nat, ix_t, o_lt, o_le, o_eq, o_bi0, o_bi1, o_bib, em_t, o_neg1, o_shl, o_tb, o_tb0, o_tt, o_and, o_xor, o_or, o_max, o_min, an_tb, and_true, true_and, not_true, not_false, if_true, if_false, tn_add, tn_mul, Int.reduceToNat, tn_cast, md_x]
      rw [if_neg (by omega)]
      apply sg_38_15
      simp (disch := omega) only [f1, f2, eV_at, eV_up, o_lit2, o_add, o_sub, o_mul, o_neg, o_div, o_nat, ix_t, o_lt, o_le, o_eq, o_bi0, o_bi1, o_bib, em_t, o_neg1, o_shl, o_tb, o_tb0, o_tt, o_and, o_xor, o_or, o_max, o_min, an_tb, and_true, true_and, not_true, not_false, if_true, if_false, tn_add, tn_mul, Int.reduceToNat, tn_cast, md_x]
      by_cases c : H = 0
      · rw [if_pos (by omega)]; exact hr
      · rw [if_neg (by omega), if_pos (by omega)]; exact hr) 6 0 V (by omega) ⟨fun _ _ => rfl, hP⟩
  exact ⟨W, i1, i2, fun r h => sg_38 _ _ _ (hr _ h)⟩
def ost (B : Nat → Nat → Int) (st H : Nat) (a : Int × List Nat) (l : List Nat) : Int × List Nat := if a.1 < woR B st H l then (woR B st H l, l) else a
/-- the best order so far -/
def OB (V : Nat → Nat → Int) (H : Nat) (a : Int × List Nat) : Prop := V 86 8 = a.1 ∧ (a.1 ≠ -1 → ∀ j, j < H → V 91 j = lsf a.2 j)
theorem k_38e (hI : INV B) (q : Qy B V) {st H : Nat} {l : List Nat} {a : Int × List Nat} (hP : HP B V st H) (hH : B 18 3 = H) (hl : l.length = H) (hlr : ∀ x, x ∈ l → x < H) (h90 : ∀ k, k < H → V 90 k = lsf l k) (ha : -1 ≤ a.1 ∧ a.1 ≤ 100000) (hO : OB V H a) : ∃ W, Qy B W ∧ HP B W st H ∧ W 90 = V 90 ∧ OB W H (ost B st H a l) ∧ Runs (GW L xs) (d + 3) 38 (0, [.ref 86, vU, vU, vU, vU], [], zS (eV (V)) J tg) (none, zS (eV (W)) J tg) := by
  have r3 : 0 ≤ B 18 3 ∧ B 18 3 ≤ 8 := hI.1 18 3 (by decide) (by decide)
  obtain ⟨A, a1, a2, a3⟩ := k_38 (L := L) (xs := xs) (J := J) (tg := tg) (d := d) hI q (s := lsf l) hP hH (fun k hk => ⟨h90 k hk, hlr _ (lsf_mem (by omega))⟩)
  have qA : Qy B A := q.cl fun c _ q2 => a1 c (by omega)
  have hw := wol_rg hI st (H := H) (by omega) (lsf l) 6
  have ew : wol B st H (lsf l) 6 = woR B st H l := rfl
  rw [ew] at hw a3
  obtain ⟨o1, o2⟩ := hO
  have h8 : A 86 8 = a.1 := by rw [a1 86 (by decide)]; exact o1
  unfold ost
  by_cases c : a.1 < woR B st H l
  · rw [if_pos c]
    have k := k_174 (L := L) (xs := xs) (J := J) (tg := tg) (d := d + 2) (V := up2 A 86 8 (woR B st H l)) (c1 := 90) (c2 := 91) (n := 8) (by decide) (by decide) rfl rfl (by decide)
    refine ⟨cpV (up2 A 86 8 (woR B st H l)) 90 91 8, qA.cl fun c _ q2 => by rw [cpV_ne (by omega), w_ne _ _ _ _ (by omega)], a2.fr (by rw [cpV_ne (by decide), w_ne _ _ _ _ (by decide)]) (by rw [cpV_ne (by decide), w_ne _ _ _ _ (by decide)]) (by rw [cpV_ne (by decide), w_ne _ _ _ _ (by decide)]), by rw [cpV_ne (by decide), w_ne _ _ _ _ (by decide), a1 90 (by decide)], ⟨by rw [cpV_ne (by decide), w_eq], fun _ j hj => by rw [cpV_at, if_pos (by omega), w_nc _ _ _ _ (by decide), a1 90 (by decide)]; exact h90 j hj⟩, a3 _ ?_⟩
    apply sg_38_4
    simp (disch := omega) only [h8, eV_at, eV_up, o_lit2, o_add, o_sub, o_mul, o_neg, o_div, o_nat, ix_t, o_lt, o_le, o_eq, o_bi0, o_bi1, o_bib, em_t, o_neg1, o_shl, o_tb, o_tb0, o_tt, o_and, o_xor, o_or, o_max, o_min, an_tb, and_true, true_and, not_true, not_false, if_true, if_false, tn_add, tn_mul, Int.reduceToNat, tn_cast, md_x]
    rw [if_pos (by omega), if_neg (by omega)]
    exact ⟨_, k, rfl⟩
  · rw [if_neg c]
    refine ⟨A, qA, a2, a1 90 (by decide), ⟨h8, fun h j hj => by rw [a1 91 (by decide)]; exact o2 h j hj⟩, a3 _ ?_⟩
    apply sg_38_4
    simp (disch := omega) only [h8, eV_at, eV_up, o_lit2, o_add, o_sub, o_mul, o_neg, o_div, o_nat, ix_t, o_lt, o_le, o_eq, o_bi0, o_bi1, o_bib, em_t, o_neg1, o_shl, o_tb, o_tb0, o_tt, o_and, o_xor, o_or, o_max, o_min, an_tb, and_true, true_and, not_true, not_false, if_true, if_false, tn_add, tn_mul, Int.reduceToNat, tn_cast, md_x]
    rw [if_pos (by omega), if_pos (by omega)] <;> first | rfl | trivial
theorem ost_rg (hI : INV B) {st H : Nat} (hH : H ≤ 8) {a : Int × List Nat} (ha : -1 ≤ a.1 ∧ a.1 ≤ 100000) (l : List Nat) : -1 ≤ (ost B st H a l).1 ∧ (ost B st H a l).1 ≤ 100000 := by
  have := wol_rg hI st hH (lsf l) 6
  have ew : wol B st H (lsf l) 6 = woR B st H l := rfl
  unfold ost
  split
  · dsimp only; omega
  · exact ha
theorem osf_rg (hI : INV B) {st H : Nat} (hH : H ≤ 8) : ∀ (ls : List (List Nat)) {a : Int × List Nat}, -1 ≤ a.1 ∧ a.1 ≤ 100000 → -1 ≤ (ls.foldl (ost B st H) a).1 ∧ (ls.foldl (ost B st H) a).1 ≤ 100000
  | [], a, ha => ha
  | l :: r, a, ha => osf_rg hI hH r (ost_rg hI hH ha l)
/-- arrange -/
theorem k_37 (hI : INV B) {st H : Nat} (hH : B 18 3 = H) (hH6 : H ≤ 6) : ∀ n {at' u : Nat} {pre : List Nat} {V : Nat → Nat → Int} {a : Int × List Nat}, at' + n = H → u < 2 ^ H → Qy B V → HP B V st H → pre.length = at' → (∀ x, x ∈ pre → x < H) → (∀ j, j < at' → V 90 j = lsf pre j) → (-1 ≤ a.1 ∧ a.1 ≤ 100000) → OB V H a → ∃ W, Qy B W ∧ HP B W st H ∧ (∀ j, j < at' → W 90 j = V 90 j) ∧ OB W H (((prm H n u).map (fun l => pre ++ l)).foldl (ost B st H) a) ∧ Runs (GW L xs) (d + 4 + n) 37 (0, [.ref 86, (Value.int (Int32.ofInt (at'))), (Value.int (Int32.ofInt (u))), vU], [], zS (eV (V)) J tg) (none, zS (eV (W)) J tg)
  | 0, at', u, pre, V, a, e, hu, q, hP, hl, hlr, h90, ha, hO => by
    have e18 : V 18 3 = H := by rw [q.1 18 (by omega)]; exact hH
    obtain ⟨W, w1, w2, w3, w4, w5⟩ := k_38e (L := L) (xs := xs) (J := J) (tg := tg) (d := d) hI q (l := pre) (a := a) hP hH (by omega) hlr (fun k hk => h90 k (by omega)) ha hO
    refine ⟨W, w1, w2, fun j _ => by rw [w3], ?_, ?_⟩
    · show OB W H (([[]].map (fun l => pre ++ l)).foldl (ost B st H) a)
      simp only [List.map_cons, List.map_nil, List.append_nil, List.foldl_cons, List.foldl_nil]
      exact w4
    · apply sg_37
      simp (disch := omega) only [e18, eV_at, eV_up, o_lit2, o_add, o_sub, o_mul, o_neg, o_div, o_nat, ix_t, o_lt, o_le, o_eq, o_bi0, o_bi1, o_bib, em_t, o_neg1, o_shl, o_tb, o_tb0, o_tt, o_and, o_xor, o_or, o_max, o_min, an_tb, and_true, true_and, not_true, not_false, if_true, if_false, tn_add, tn_mul, Int.reduceToNat, tn_cast, md_x]
      rw [if_neg (by omega)]
      exact ⟨_, w5, rfl⟩
  | n + 1, at', u, pre, V, a, e, hu, q, hP, hl, hlr, h90, ha, hO => by
    have h64 := p2_64 (m := H) hH6
    have e18 : V 18 3 = H := by rw [q.1 18 (by omega)]; exact hH
    obtain ⟨W, ⟨i1, i2, i3, i4⟩, hr⟩ := loopN (g := GW L xs) (d := d + 4 + (n + 1)) (mid := 37) (σ := Nat → Nat → Int) (fun p W => (18, [.ref 86, (Value.int (Int32.ofInt (at'))), (Value.int (Int32.ofInt (u))), (Value.int (Int32.ofInt (p)))], [], zS (eV W) J tg)) (fun p W => Qy B W ∧ HP B W st H ∧ (∀ j, j < at' → W 90 j = V 90 j) ∧ OB W H ((((List.range p).flatMap (fun p => if u.testBit p then [] else (prm H n (u ||| 2 ^ p)).map (fun l => p :: l))).map (fun l => pre ++ l)).foldl (ost B st H) a)) H (by
      intro p W hp ⟨qW, i2, i3, i4⟩
      have e18 : W 18 3 = H := by rw [qW.1 18 (by omega)]; exact hH
      rw [List.range_succ, List.flatMap_append, List.map_append, List.foldl_append]
      have hrg := osf_rg hI (st := st) (H := H) (by omega) (((List.range p).flatMap (fun p => if u.testBit p then [] else (prm H n (u ||| 2 ^ p)).map (fun l => p :: l))).map (fun l => pre ++ l)) ha
      generalize (((List.range p).flatMap (fun p => if u.testBit p then [] else (prm H n (u ||| 2 ^ p)).map (fun l => p :: l))).map (fun l => pre ++ l)).foldl (ost B st H) a = b at i4 hrg ⊢
      have hp2 : 2 ^ p < 2 ^ H := Nat.pow_lt_pow_right (by omega) hp
      cases t : u.testBit p
      · have hlist : ((([p]).flatMap (fun p => if u.testBit p then [] else (prm H n (u ||| 2 ^ p)).map (fun l => p :: l))).map (fun l => pre ++ l)) = (prm H n (u ||| 2 ^ p)).map (fun l => (pre ++ [p]) ++ l) := by
          simp [t]
        rw [hlist]
        have qA : Qy B (up2 W 90 at' p) := qW.cl fun c _ q2 => w_ne _ _ _ _ (by omega)
        obtain ⟨X, x1, x2, x3, x4, x5⟩ := k_37 hI hH hH6 n (at' := at' + 1) (u := u ||| 2 ^ p) (pre := pre ++ [p]) (V := up2 W 90 at' p) (a := b) (by omega) (Nat.or_lt_two_pow hu hp2) qA (i2.fr (w_ne _ _ _ _ (by decide)) (w_ne _ _ _ _ (by decide)) (w_ne _ _ _ _ (by decide))) (by rw [List.length_append, hl]; rfl) (fun x hx => by
            rcases List.mem_append.mp hx with hx | hx
            · exact hlr x hx
            · have : x = p := by simpa using hx
              omega) (fun j hj => by
            rw [w_at]
            by_cases ej : j = at'
            · rw [if_pos ej]
              have : lsf (pre ++ [p]) j = p := gD_last (by omega)
              rw [this]
            · rw [if_neg ej, i3 j (by omega), h90 j (by omega)]
              have : lsf (pre ++ [p]) j = lsf pre j := gD_init (by omega)
              rw [this]) hrg ⟨by rw [w_nc _ _ _ _ (by decide)]; exact i4.1, fun h j hj => by rw [w_nc _ _ _ _ (by decide)]; exact i4.2 h j hj⟩
        refine ⟨X, ⟨x1, x2, fun j hj => by rw [x3 j (by omega), w_at, if_neg (by omega)]; exact i3 j hj, x4⟩, fun r hr => ?_⟩
        apply sg_37_18
        simp (disch := omega) only [e18, eV_at, eV_up, o_lit2, o_add, o_sub, o_mul, o_neg, o_div, o_nat, ix_t, o_lt, o_le, o_eq, o_bi0, o_bi1, o_bib, em_t, o_neg1, o_shl, o_tb, o_tb0, o_tt, o_and, o_xor, o_or, o_max, o_min, an_tb, and_true, true_and, not_true, not_false, if_true, if_false, tn_add, tn_mul, Int.reduceToNat, tn_cast, md_x]
        rw [if_neg (by omega), if_pos t]
        exact ⟨_, x5, hr⟩
      · have hlist : ((([p]).flatMap (fun p => if u.testBit p then [] else (prm H n (u ||| 2 ^ p)).map (fun l => p :: l))).map (fun l => pre ++ l)) = [] := by
          simp [t]
        rw [hlist]
        refine ⟨W, ⟨qW, i2, i3, i4⟩, fun r hr => ?_⟩
        apply sg_37_18
        simp (disch := omega) only [e18, eV_at, eV_up, o_lit2, o_add, o_sub, o_mul, o_neg, o_div, o_nat, ix_t, o_lt, o_le, o_eq, o_bi0, o_bi1, o_bib, em_t, o_neg1, o_shl, o_tb, o_tb0, o_tt, o_and, o_xor, o_or, o_max, o_min, an_tb, and_true, true_and, not_true, not_false, if_true, if_false, tn_add, tn_mul, Int.reduceToNat, tn_cast, md_x]
        rw [if_neg (by omega), if_neg (by rw [t]; decide)]
        exact hr) H 0 V (by omega) ⟨q, hP, fun _ _ => rfl, hO⟩
    have e18W : W 18 3 = H := by rw [i1.1 18 (by omega)]; exact hH
    refine ⟨W, i1, i2, i3, i4, ?_⟩
    apply sg_37
    simp (disch := omega) only [e18, eV_at, eV_up, o_lit2, o_add, o_sub, o_mul, o_neg, o_div, o_nat, ix_t, o_lt, o_le, o_eq, o_bi0, o_bi1, o_bib, em_t, o_neg1, o_shl, o_tb, o_tb0, o_tt, o_and, o_xor, o_or, o_max, o_min, an_tb, and_true, true_and, not_true, not_false, if_true, if_false, tn_add, tn_mul, Int.reduceToNat, tn_cast, md_x]
    rw [if_pos (by omega)]
    refine hr _ ?_
    apply sg_37_18
    simp (disch := omega) only [e18W, eV_at, eV_up, o_lit2, o_add, o_sub, o_mul, o_neg, o_div, o_nat, ix_t, o_lt, o_le, o_eq, o_bi0, o_bi1, o_bib, em_t, o_neg1, o_shl, o_tb, o_tb0, o_tt, o_and, o_xor, o_or, o_max, o_min, an_tb, and_true, true_and, not_true, not_false, if_true, if_false, tn_add, tn_mul, Int.reduceToNat, tn_cast, md_x]
    rw [if_pos (by omega)] <;> first | rfl | trivial
/-- seekOrder -/
theorem k_36 (hI : INV B) (q : Qy B V) {st H : Nat} (hH : B 18 3 = H) (hH6 : H ≤ 6) (hP : HP B V st H) : ∃ W, Qy B W ∧ OB W H ((PL H).foldl (ost B st H) (-1, [])) ∧ Runs (GW L xs) (d + 5 + H) 36 (0, [.ref 86], [], zS (eV (V)) J tg) (none, zS (eV (W)) J tg) := by
  have qA : Qy B (up2 V 86 8 (-1)) := q.cl fun c _ q2 => w_ne _ _ _ _ (by omega)
  obtain ⟨W, w1, w2, w3, w4, w5⟩ := k_37 (L := L) (xs := xs) (J := J) (tg := tg) (d := d) hI hH hH6 H (at' := 0) (u := 0) (pre := []) (V := up2 V 86 8 (-1)) (a := (-1, [])) (by omega) (Nat.pow_pos (by omega)) qA (hP.fr (w_ne _ _ _ _ (by decide)) (w_ne _ _ _ _ (by decide)) (w_ne _ _ _ _ (by decide))) rfl (fun x hx => by simp at hx) (fun j hj => by omega) (by decide) ⟨w_eq _ _ _ _, fun h => absurd rfl h⟩
  have el : ((prm H H 0).map (fun l => ([] : List Nat) ++ l)) = PL H := by simp [PL]
  rw [el] at w4
  refine ⟨W, w1, w4, ?_⟩
  rw [show d + 5 + H = d + 4 + H + 1 by omega]
  apply sg_36
  rw [o_neg1, eV_up]
  exact ⟨_, w5, rfl⟩
end OR
