/-! A reader of whom nothing is known: anybody, best. -/
def wst (v : Nat → Int) (k : Nat) : Nat → Int × Int
  | 0 => (-1, 0)
  | s + 1 => if pcn s 12 = k ∧ (wst v k s).1 < v s then (v s, (s : Int)) else wst v k s
theorem wst_s {v : Nat → Int} {k s : Nat} : wst v k (s + 1) = if pcn s 12 = k ∧ (wst v k s).1 < v s then (v s, (s : Int)) else wst v k s := rfl
theorem wst_rg {v : Nat → Int} {k : Nat} (hv : ∀ s, 0 ≤ v s ∧ v s ≤ 1000000) : ∀ n, -1 ≤ (wst v k n).1 ∧ (wst v k n).1 ≤ 1000000 ∧ 0 ≤ (wst v k n).2 ∧ (wst v k n).2 ≤ n
  | 0 => by simp [wst]
  | n + 1 => by
    have ih := wst_rg (k := k) hv n
    have := hv n
    rw [wst_s]
    split
    · dsimp only; omega
    · omega
theorem wst_ge {v : Nat → Int} {k s : Nat} (hk : pcn s 12 = k) : ∀ n, s < n → v s ≤ (wst v k n).1
  | 0, h => by omega
  | n + 1, h => by
    rw [wst_s]
    by_cases e : s = n
    · subst e
      split
      · exact Int.le_refl _
      · omega
    · have ih := wst_ge (v := v) hk n (by omega)
      split
      · dsimp only; omega
      · exact ih
theorem pcn_full : ∀ k, k < 13 → pcn (2 ^ k - 1) 12 = k := by decide
section WS
variable {L d : Nat} {xs : Nat → Int32} {B V : Nat → Nat → Int} {J : Nat → Nat → Int64} {tg : Option Nat}
def wfc (B : Nat → Nat → Int) (dr : Nat) : Nat → Int := fct B dr (B 3 dr).toNat (lkc B dr)
def wdn (B : Nat → Nat → Int) (dr : Nat) : Int := bi (smG B 4 1 (wfc B dr) = true)
def wvl (B : Nat → Nat → Int) (dr st s : Nat) : Int := hb B dr st (wdn B dr) (wfc B dr) (-1) (tk (B 7 0) (scr B dr st) s 12)
def wrs (B : Nat → Nat → Int) (dr st k : Nat) : Int × Int := wst (wvl B dr st) k (2 ^ (B 1 1).toNat)
theorem wfc_n (hI : INV B) (dr : Nat) : N12 (wfc B dr) := fun k _ => by
  have r3 : 0 ≤ B 3 dr ∧ B 3 dr ≤ 6 := hI.1 3 dr (by decide) (by decide)
  have := fct_rg hI.1 (dr := dr) (n := (B 3 dr).toNat) (by omega) (lkc B dr) k
  unfold wfc; omega
theorem wvl_rg (hI : INV B) (dr : Nat) {st : Nat} (hst : st < 6) (s : Nat) : 0 ≤ wvl B dr st s ∧ wvl B dr st s ≤ 1000000 := by
  have htk := tk_rg (lim := B 7 0) (f := scr B dr st) (s := s) (n := 12) (by omega) (fun t => by have := scr_rg hI.1 dr st t; omega)
  exact hb_rg hI (wfc_n hI dr) (by omega) (by omega) (by omega)
theorem wrs_ne (hI : INV B) (dr : Nat) {st k : Nat} (hst : st < 6) (hk : (k : Int) ≤ B 1 1) : (wrs B dr st k).1 ≠ -1 := by
  have rT : 0 ≤ B 1 1 ∧ B 1 1 ≤ 12 := hI.1 1 1 (by decide) (by decide)
  have hp : 2 ^ k ≤ 2 ^ (B 1 1).toNat := Nat.pow_le_pow_right (by omega) (by omega)
  have h1 : 1 ≤ 2 ^ k := Nat.one_le_two_pow
  have := wst_ge (v := wvl B dr st) (pcn_full k (by omega)) (2 ^ (B 1 1).toNat) (by omega)
  have := wvl_rg hI dr hst (2 ^ k - 1)
  unfold wrs
  omega
/-- seekWorst -/
theorem k_107 (hI : INV B) (q : Qy B V) {dr st k : Nat} (hd : dr < 12) (hst : st < 6) (hk : k ≤ 12) : ∃ W, Qy B W ∧ (∀ c, 93 ≤ c → W c = V c) ∧ W 75 11 = (wrs B dr st k).1 ∧ ((wrs B dr st k).1 ≠ -1 → W 75 12 = (wrs B dr st k).2) ∧ Runs (GW L xs) (d + 5) 107 (0, [.ref 75, (Value.int (Int32.ofInt (dr))), (Value.int (Int32.ofInt (st))), (Value.int (Int32.ofInt (k))), vU, vU], [], zS (eV (V)) J tg) (none, zS (eV (W)) J tg) := by
  have hRV : RNG V := hI.1.fr fun c hc => q.1 c (by omega)
  have rT : 0 ≤ B 1 1 ∧ B 1 1 ≤ 12 := hI.1 1 1 (by decide) (by decide)
  obtain ⟨T, hT⟩ : ∃ T : Nat, B 1 1 = T := ⟨(B 1 1).toNat, by omega⟩
  have h2T : 2 ^ T ≤ 4096 := p2_12 (by omega)
  have hpos := Nat.pow_pos (a := 2) (n := T) (by omega)
  have hvr := wvl_rg hI dr hst
  have hsc := scr_rg hI.1 dr st
  have hdn := bi_rg (smG B 4 1 (wfc B dr) = true)
  obtain ⟨A, a1, a2, a3, a4, a5, a6, a7⟩ := k_92 (L := L) (xs := xs) (J := J) (tg := tg) (d := d) hRV q.2.2.2 hd hst
  have qA : Qy B A := ⟨fun c h => by rw [a1 c (by omega) (by omega)]; exact q.1 c h, fun p h => by rw [a1 94 (by omega) (by omega)]; exact q.2.1 p h, fun p h => by rw [a1 93 (by omega) (by omega)]; exact q.2.2.1 p h, a5⟩
  have eS : ∀ t, scr V dr st t = scr B dr st t := fun t => by
    unfold scr
    rw [FAR_fr (q.1 1 (by omega)) (q.1 2 (by omega)) (q.1 3 (by omega)) (q.1 4 (by omega)), q.1 10 (by omega)]
  obtain ⟨U, u1, u2, u3, u4, u5, u6⟩ := k_93 (L := L) (xs := xs) (J := J) (tg := tg) (d := d) hI qA (dr := dr) (st := st) hd
  have u4 : U 75 10 = wdn B dr := u4
  have h77 : ∀ t : Nat, (t : Int) < B 1 1 → U 77 t = scr B dr st t := fun t ht => by rw [u1 77 (by decide) (by decide) (by decide), a6 t (by rw [q.1 1 (by omega)]; exact ht), eS]
  have qU : Qy B U := qA.cl fun c q1 q2 => u1 c q1 (by omega) (by omega)
  obtain ⟨W, ⟨i1, i2, i3, i4, i5, i6, i7, i8⟩, hr⟩ := loopN (g := GW L xs) (d := d + 5) (mid := 107) (σ := Nat → Nat → Int) (fun s W => (28, [.ref 75, (Value.int (Int32.ofInt (dr))), (Value.int (Int32.ofInt (st))), (Value.int (Int32.ofInt (k))), (Value.int (Int32.ofInt (s))), vU], [], zS (eV W) J tg)) (fun s W => (∀ c, c ≠ 45 → c ≠ 75 → c ≠ 76 → c ≠ 78 → W c = U c) ∧ W 75 8 = (dr : Int) ∧ W 75 9 = (st : Int) ∧ W 75 10 = wdn B dr ∧ ((∀ v, v < 8 → W 78 v = wfc B dr v) ∧ N12 (W 78)) ∧ (∀ j, j < 13 → W 76 j = -1 ∨ W 76 j = hb B dr st (wdn B dr) (wfc B dr) (-1) ((j : Int) - 1)) ∧ W 75 11 = (wst (wvl B dr st) k s).1 ∧ ((wst (wvl B dr st) k s).1 ≠ -1 → W 75 12 = (wst (wvl B dr st) k s).2)) (2 ^ T) (by
    intro s W hs ⟨i1, i2, i3, i4, ⟨i5, i5n⟩, i6, i7, i8⟩
    have qW : Qy B W := qU.cl fun c q1 q2 => i1 c q1 (by omega) (by omega) (by omega)
    have hRW : RNG W := hI.1.fr fun c hc => qW.1 c (by omega)
    have e11 : W 1 1 = T := by rw [qW.1 1 (by omega)]; exact hT
    have k48 := k_48 (L := L) (xs := xs) (J := J) (tg := tg) (d := d + 4) hRW
    rw [e11, tn_cast, cast_pred hpos] at k48
    have k300 := k_300 (L := L) (xs := xs) (J := J) (tg := tg) (d := d + 4) (V := W) (s := s) (by omega)
    have hpc := pcn_le s 12
    have hw := wst_s (v := wvl B dr st) (k := k) (s := s)
    have hwr := wst_rg (v := wvl B dr st) (k := k) hvr s
    generalize wst (wvl B dr st) k s = m at i7 i8 hw hwr
    by_cases c1 : pcn s 12 = k
    · have t1 := k_100 (L := L) (xs := xs) (J := J) (tg := tg) (d := d + 3) hRW (s := s) (g := scr B dr st) (by omega) (fun t _ ht => by
        rw [i1 77 (by decide) (by decide) (by decide) (by decide)]
        refine h77 t ?_
        have : t < T := Nat.lt_of_not_le fun hle => by rw [tb_hi hs hle] at ht; exact Bool.noConfusion ht
        omega) hsc
      rw [qW.1 7 (by omega)] at t1
      have htk := tk_rg (lim := B 7 0) (f := scr B dr st) (s := s) (n := 12) (by omega) (fun t => by have := hsc t; omega)
      have hvs := hvr s
      have ev : wvl B dr st s = hb B dr st (wdn B dr) (wfc B dr) (-1) (tk (B 7 0) (scr B dr st) s 12) := rfl
      generalize tk (B 7 0) (scr B dr st) s 12 = took at t1 htk ev
      obtain ⟨j, hj⟩ : ∃ j : Nat, took + 1 = j := ⟨(took + 1).toNat, by omega⟩
      have hj13 : j < 13 := by omega
      have hjv : hb B dr st (wdn B dr) (wfc B dr) (-1) ((j : Int) - 1) = wvl B dr st s := by rw [ev, show (j : Int) - 1 = took by omega]
      generalize wvl B dr st s = v at hvs ev hjv hw
      by_cases c2 : W 76 j = -1
      · obtain ⟨X, x1, x2, x3, x4⟩ := k_104 (L := L) (xs := xs) (J := J) (tg := tg) (d := d + 2) hI qW (dr := dr) (st := st) (dn := wdn B dr) (land := -1) (took := took) i2 i3 i4 hd hst hdn (by omega) htk i5n
        rw [hb_cg hI i5, ← ev] at x4
        have e75 : X 75 = W 75 := x1 75 (by decide) (by decide)
        have e76 : X 76 = W 76 := x1 76 (by decide) (by decide)
        have h11 : X 75 11 = m.1 := by rw [e75]; exact i7
        have hX : ∀ c, c ≠ 45 → c ≠ 75 → c ≠ 76 → c ≠ 78 → X c = U c := fun c q1 q2 q3 q4 => by rw [x1 c q1 q4]; exact i1 c q1 q2 q3 q4
        have h76 : ∀ i, i < 13 → (up2 X 76 j v) 76 i = -1 ∨ (up2 X 76 j v) 76 i = hb B dr st (wdn B dr) (wfc B dr) (-1) ((i : Int) - 1) := fun i hi => by
          rw [w_at]
          by_cases e : i = j
          · rw [if_pos e]; subst e; exact Or.inr hjv.symm
          · rw [if_neg e, e76]; exact i6 i hi
        by_cases c3 : m.1 < v
        · rw [if_pos ⟨c1, c3⟩] at hw
          rw [hw]
          refine ⟨up2 (up2 (up2 X 76 j v) 75 11 v) 75 12 s, ⟨fun c q1 q2 q3 q4 => by rw [w_ne _ _ _ _ q2, w_ne _ _ _ _ q2, w_ne _ _ _ _ q3]; exact hX c q1 q2 q3 q4, by rw [w_at, if_neg (by decide), w_at, if_neg (by decide), w_nc _ _ _ _ (by decide), e75]; exact i2, by rw [w_at, if_neg (by decide), w_at, if_neg (by decide), w_nc _ _ _ _ (by decide), e75]; exact i3, by rw [w_at, if_neg (by decide), w_at, if_neg (by decide), w_nc _ _ _ _ (by decide), e75]; exact i4, ⟨fun v hv => by rw [w_nc _ _ _ _ (by decide), w_nc _ _ _ _ (by decide), w_nc _ _ _ _ (by decide), x2 v hv]; exact i5 v hv, by rw [w_ne _ _ _ _ (by decide), w_ne _ _ _ _ (by decide), w_ne _ _ _ _ (by decide)]; exact x3⟩, fun i hi => by rw [w_nc _ _ _ _ (by decide), w_nc _ _ _ _ (by decide)]; exact h76 i hi, by rw [w_at, if_neg (by decide), w_eq], fun _ => w_eq _ _ _ _⟩, fun r hr => ?_⟩
          apply sg_107_28
          refine ⟨_, _, k48, ?_⟩
          simp (disch := omega) only [eV_at, eV_up, o_lit2, o_add, o_sub, o_mul, o_neg, o_div, o_nat, ix_t, o_lt, o_le, o_eq, o_bi0, o_bi1, o_bib, em_t, o_neg1, o_shl, o_tb, o_tb0, o_tt, o_and, o_xor, o_or, o_max, o_min, an_tb, and_true, true_and, not_true, not_false, if_true, if_false, tn_add, tn_mul, Int.reduceToNat, tn_cast, md_x]
          rw [if_neg (by omega)]
          refine ⟨_, _, k300, ?_⟩
          simp (disch := omega) only [eV_at, eV_up, o_lit2, o_add, o_sub, o_mul, o_neg, o_div, o_nat, ix_t, o_lt, o_le, o_eq, o_bi0, o_bi1, o_bib, em_t, o_neg1, o_shl, o_tb, o_tb0, o_tt, o_and, o_xor, o_or, o_max, o_min, an_tb, and_true, true_and, not_true, not_false, if_true, if_false, tn_add, tn_mul, Int.reduceToNat, tn_cast, md_x]
          rw [if_pos (by omega)]
          refine ⟨_, _, t1, ?_⟩
          simp (disch := omega) only [hj, c2, eV_at, eV_up, o_lit2, o_add, o_sub, o_mul, o_neg, o_div, o_nat, ix_t, o_lt, o_le, o_eq, o_bi0, o_bi1, o_bib, em_t, o_neg1, o_shl, o_tb, o_tb0, o_tt, o_and, o_xor, o_or, o_max, o_min, an_tb, and_true, true_and, not_true, not_false, if_true, if_false, tn_add, tn_mul, Int.reduceToNat, tn_cast, md_x]
          refine ⟨_, _, x4, ?_⟩
          simp (disch := omega) only [w_eq, h11, eV_at, eV_up, o_lit2, o_add, o_sub, o_mul, o_neg, o_div, o_nat, ix_t, o_lt, o_le, o_eq, o_bi0, o_bi1, o_bib, em_t, o_neg1, o_shl, o_tb, o_tb0, o_tt, o_and, o_xor, o_or, o_max, o_min, an_tb, and_true, true_and, not_true, not_false, if_true, if_false, tn_add, tn_mul, Int.reduceToNat, tn_cast, md_x]
          rw [if_neg (by omega)]
          exact hr
        · rw [if_neg (fun h => c3 h.2)] at hw
          rw [hw]
          refine ⟨up2 X 76 j v, ⟨fun c q1 q2 q3 q4 => by rw [w_ne _ _ _ _ q3]; exact hX c q1 q2 q3 q4, by rw [w_nc _ _ _ _ (by decide), e75]; exact i2, by rw [w_nc _ _ _ _ (by decide), e75]; exact i3, by rw [w_nc _ _ _ _ (by decide), e75]; exact i4, ⟨fun v hv => by rw [w_nc _ _ _ _ (by decide), x2 v hv]; exact i5 v hv, by rw [w_ne _ _ _ _ (by decide)]; exact x3⟩, h76, by rw [w_nc _ _ _ _ (by decide), e75]; exact i7, fun h => by rw [w_nc _ _ _ _ (by decide), e75]; exact i8 h⟩, fun r hr => ?_⟩
          apply sg_107_28
          refine ⟨_, _, k48, ?_⟩
          simp (disch := omega) only [eV_at, eV_up, o_lit2, o_add, o_sub, o_mul, o_neg, o_div, o_nat, ix_t, o_lt, o_le, o_eq, o_bi0, o_bi1, o_bib, em_t, o_neg1, o_shl, o_tb, o_tb0, o_tt, o_and, o_xor, o_or, o_max, o_min, an_tb, and_true, true_and, not_true, not_false, if_true, if_false, tn_add, tn_mul, Int.reduceToNat, tn_cast, md_x]
          rw [if_neg (by omega)]
          refine ⟨_, _, k300, ?_⟩
          simp (disch := omega) only [eV_at, eV_up, o_lit2, o_add, o_sub, o_mul, o_neg, o_div, o_nat, ix_t, o_lt, o_le, o_eq, o_bi0, o_bi1, o_bib, em_t, o_neg1, o_shl, o_tb, o_tb0, o_tt, o_and, o_xor, o_or, o_max, o_min, an_tb, and_true, true_and, not_true, not_false, if_true, if_false, tn_add, tn_mul, Int.reduceToNat, tn_cast, md_x]
          rw [if_pos (by omega)]
          refine ⟨_, _, t1, ?_⟩
          simp (disch := omega) only [hj, c2, eV_at, eV_up, o_lit2, o_add, o_sub, o_mul, o_neg, o_div, o_nat, ix_t, o_lt, o_le, o_eq, o_bi0, o_bi1, o_bib, em_t, o_neg1, o_shl, o_tb, o_tb0, o_tt, o_and, o_xor, o_or, o_max, o_min, an_tb, and_true, true_and, not_true, not_false, if_true, if_false, tn_add, tn_mul, Int.reduceToNat, tn_cast, md_x]
          refine ⟨_, _, x4, ?_⟩
          simp (disch := omega) only [w_eq, h11, eV_at, eV_up, o_lit2, o_add, o_sub, o_mul, o_neg, o_div, o_nat, ix_t, o_lt, o_le, o_eq, o_bi0, o_bi1, o_bib, em_t, o_neg1, o_shl, o_tb, o_tb0, o_tt, o_and, o_xor, o_or, o_max, o_min, an_tb, and_true, true_and, not_true, not_false, if_true, if_false, tn_add, tn_mul, Int.reduceToNat, tn_cast, md_x]
          rw [if_pos (by omega)]
          exact hr
      · have h76 : W 76 j = v := by
          rcases i6 j hj13 with h | h
          · exact absurd h c2
          · rw [h, hjv]
        by_cases c3 : m.1 < v
        · rw [if_pos ⟨c1, c3⟩] at hw
          rw [hw]
          refine ⟨up2 (up2 W 75 11 v) 75 12 s, ⟨fun c q1 q2 q3 q4 => by rw [w_ne _ _ _ _ q2, w_ne _ _ _ _ q2]; exact i1 c q1 q2 q3 q4, by rw [w_at, if_neg (by decide), w_at, if_neg (by decide)]; exact i2, by rw [w_at, if_neg (by decide), w_at, if_neg (by decide)]; exact i3, by rw [w_at, if_neg (by decide), w_at, if_neg (by decide)]; exact i4, ⟨fun v hv => by rw [w_nc _ _ _ _ (by decide), w_nc _ _ _ _ (by decide)]; exact i5 v hv, by rw [w_ne _ _ _ _ (by decide), w_ne _ _ _ _ (by decide)]; exact i5n⟩, fun i hi => by rw [w_nc _ _ _ _ (by decide), w_nc _ _ _ _ (by decide)]; exact i6 i hi, by rw [w_at, if_neg (by decide), w_eq], fun _ => w_eq _ _ _ _⟩, fun r hr => ?_⟩
          apply sg_107_28
          refine ⟨_, _, k48, ?_⟩
          simp (disch := omega) only [eV_at, eV_up, o_lit2, o_add, o_sub, o_mul, o_neg, o_div, o_nat, ix_t, o_lt, o_le, o_eq, o_bi0, o_bi1, o_bib, em_t, o_neg1, o_shl, o_tb, o_tb0, o_tt, o_and, o_xor, o_or, o_max, o_min, an_tb, and_true, true_and, not_true, not_false, if_true, if_false, tn_add, tn_mul, Int.reduceToNat, tn_cast, md_x]
          rw [if_neg (by omega)]
          refine ⟨_, _, k300, ?_⟩
          simp (disch := omega) only [eV_at, eV_up, o_lit2, o_add, o_sub, o_mul, o_neg, o_div, o_nat, ix_t, o_lt, o_le, o_eq, o_bi0, o_bi1, o_bib, em_t, o_neg1, o_shl, o_tb, o_tb0, o_tt, o_and, o_xor, o_or, o_max, o_min, an_tb, and_true, true_and, not_true, not_false, if_true, if_false, tn_add, tn_mul, Int.reduceToNat, tn_cast, md_x]
          rw [if_pos (by omega)]
          refine ⟨_, _, t1, ?_⟩
          simp (disch := omega) only [hj, h76, i7, eV_at, eV_up, o_lit2, o_add, o_sub, o_mul, o_neg, o_div, o_nat, ix_t, o_lt, o_le, o_eq, o_bi0, o_bi1, o_bib, em_t, o_neg1, o_shl, o_tb, o_tb0, o_tt, o_and, o_xor, o_or, o_max, o_min, an_tb, and_true, true_and, not_true, not_false, if_true, if_false, tn_add, tn_mul, Int.reduceToNat, tn_cast, md_x]
          rw [if_neg (by omega), if_neg (by omega)]
          exact hr
        · rw [if_neg (fun h => c3 h.2)] at hw
          rw [hw]
          refine ⟨W, ⟨i1, i2, i3, i4, ⟨i5, i5n⟩, i6, i7, i8⟩, fun r hr => ?_⟩
          apply sg_107_28
          refine ⟨_, _, k48, ?_⟩
          simp (disch := omega) only [eV_at, eV_up, o_lit2, o_add, o_sub, o_mul, o_neg, o_div, o_nat, ix_t, o_lt, o_le, o_eq, o_bi0, o_bi1, o_bib, em_t, o_neg1, o_shl, o_tb, o_tb0, o_tt, o_and, o_xor, o_or, o_max, o_min, an_tb, and_true, true_and, not_true, not_false, if_true, if_false, tn_add, tn_mul, Int.reduceToNat, tn_cast, md_x]
          rw [if_neg (by omega)]
          refine ⟨_, _, k300, ?_⟩
          simp (disch := omega) only [eV_at, eV_up, o_lit2, o_add, o_sub, o_mul, o_neg, o_div, o_nat, ix_t, o_lt, o_le, o_eq, o_bi0, o_bi1, o_bib, em_t, o_neg1, o_shl, o_tb, o_tb0, o_tt, o_and, o_xor, o_or, o_max, o_min, an_tb, and_true, true_and, not_true, not_false, if_true, if_false, tn_add, tn_mul, Int.reduceToNat, tn_cast, md_x]
          rw [if_pos (by omega)]
          refine ⟨_, _, t1, ?_⟩
          simp (disch := omega) only [hj, h76, i7, eV_at, eV_up, o_lit2, o_add, o_sub, o_mul, o_neg, o_div, o_nat, ix_t, o_lt, o_le, o_eq, o_bi0, o_bi1, o_bib, em_t, o_neg1, o_shl, o_tb, o_tb0, o_tt, o_and, o_xor, o_or, o_max, o_min, an_tb, and_true, true_and, not_true, not_false, if_true, if_false, tn_add, tn_mul, Int.reduceToNat, tn_cast, md_x]
          rw [if_neg (by omega), if_pos (by omega)]
          exact hr
    · rw [if_neg (fun h => c1 h.1)] at hw
      rw [hw]
      refine ⟨W, ⟨i1, i2, i3, i4, ⟨i5, i5n⟩, i6, i7, i8⟩, fun r hr => ?_⟩
      apply sg_107_28
      refine ⟨_, _, k48, ?_⟩
      simp (disch := omega) only [eV_at, eV_up, o_lit2, o_add, o_sub, o_mul, o_neg, o_div, o_nat, ix_t, o_lt, o_le, o_eq, o_bi0, o_bi1, o_bib, em_t, o_neg1, o_shl, o_tb, o_tb0, o_tt, o_and, o_xor, o_or, o_max, o_min, an_tb, and_true, true_and, not_true, not_false, if_true, if_false, tn_add, tn_mul, Int.reduceToNat, tn_cast, md_x]
      rw [if_neg (by omega)]
      refine ⟨_, _, k300, ?_⟩
      simp (disch := omega) only [eV_at, eV_up, o_lit2, o_add, o_sub, o_mul, o_neg, o_div, o_nat, ix_t, o_lt, o_le, o_eq, o_bi0, o_bi1, o_bib, em_t, o_neg1, o_shl, o_tb, o_tb0, o_tt, o_and, o_xor, o_or, o_max, o_min, an_tb, and_true, true_and, not_true, not_false, if_true, if_false, tn_add, tn_mul, Int.reduceToNat, tn_cast, md_x]
      rw [if_neg (by omega)]
      exact hr) (2 ^ T) 0 (up2 (flV U 76 13 (-1)) 75 11 (-1)) (by omega) ⟨fun c q1 q2 q3 q4 => by rw [w_ne _ _ _ _ q2, flV_ne q3], by rw [w_at, if_neg (by decide), flV_ne (by decide)]; exact u2, by rw [w_at, if_neg (by decide), flV_ne (by decide)]; exact u3, by rw [w_at, if_neg (by decide), flV_ne (by decide)]; exact u4, ⟨fun v hv => by rw [w_nc _ _ _ _ (by decide), flV_ne (by decide)]; exact u5 v (by omega), by rw [w_ne _ _ _ _ (by decide), flV_ne (by decide)]; exact fun k hk => by rw [u5 k hk]; exact wfc_n hI dr k hk⟩, fun j hj => by rw [w_nc _ _ _ _ (by decide), flV_at, if_pos hj]; exact Or.inl rfl, w_eq _ _ _ _, fun h => absurd rfl h⟩
  have qW : Qy B W := qU.cl fun c q1 q2 => i1 c q1 (by omega) (by omega) (by omega)
  have hRW : RNG W := hI.1.fr fun c hc => qW.1 c (by omega)
  have e11 : W 1 1 = T := by rw [qW.1 1 (by omega)]; exact hT
  have k48 := k_48 (L := L) (xs := xs) (J := J) (tg := tg) (d := d + 4) hRW
  rw [e11, tn_cast, cast_pred hpos] at k48
  unfold wrs
  rw [hT, tn_cast]
  refine ⟨W, qW, fun c hc => by rw [i1 c (by omega) (by omega) (by omega) (by omega), u1 c (by omega) (by omega) (by omega), a1 c (by omega) (by omega)], i7, i8, ?_⟩
  apply sg_107
  refine ⟨_, a7, _, u6, _, k_301 (c := 76) (n := 13) (by decide) rfl (by decide) (-1), ?_⟩
  rw [o_neg1, eV_up]
  refine hr _ ?_
  apply sg_107_28
  refine ⟨_, _, k48, ?_⟩
  simp (disch := omega) only [eV_at, eV_up, o_lit2, o_add, o_sub, o_mul, o_neg, o_div, o_nat, ix_t, o_lt, o_le, o_eq, o_bi0, o_bi1, o_bib, em_t, o_neg1, o_shl, o_tb, o_tb0, o_tt, o_and, o_xor, o_or, o_max, o_min, an_tb, and_true, true_and, not_true, not_false, if_true, if_false, tn_add, tn_mul, Int.reduceToNat, tn_cast, md_x]
  rw [if_pos (by omega)] <;> first | rfl | trivial
/-- worstHarm -/
theorem m_285 (hI : INV B) (q : Qy B V) {dr st k : Nat} (hd : (dr : Int) < B 1 0) (hst : st < 6) (hk : k ≤ 12) : ∃ W J2, Qy B W ∧ (∀ c, c ≤ 92 → W c = V c) ∧ ((wrs B dr st k).1 ≠ -1 → W 93 36 = (wrs B dr st k).2) ∧ Runs (GW L xs) (d + 6) 285 (0, [.ref 93, (Value.int (Int32.ofInt (dr))), (Value.int (Int32.ofInt (st))), (Value.int (Int32.ofInt (k))), vU, vU, vU, vU], [], zS (eV (V)) (J) tg) (some (Value.int (Int32.ofInt ((wrs B dr st k).1))), zS (eV (W)) (J2) tg) := by
  have rT : 0 ≤ B 1 1 ∧ B 1 1 ≤ 12 := hI.1 1 1 (by decide) (by decide)
  obtain ⟨T, hT⟩ : ∃ T : Nat, B 1 1 = T := ⟨(B 1 1).toNat, by omega⟩
  have h2T : 2 ^ T ≤ 4096 := p2_12 (by omega)
  have hpos := Nat.pow_pos (a := 2) (n := T) (by omega)
  have hvr := wvl_rg hI dr hst
  have hsc := scr_rg hI.1 dr st
  have hL := LKm_of hI q hd
  obtain ⟨A, a1, a2, a3⟩ := m_203g (L := L) (xs := xs) (J := J) (tg := tg) (d := d + 1) hI q hL.1 hst
  have fA : MF V A := fun c q1 _ _ => a1 c q1
  have qA := q.mf fA
  rw [scr_p] at a2
  obtain ⟨⟨W, J2⟩, ⟨i1, i2, i3⟩, hr⟩ := loopN (g := GW L xs) (d := d + 6) (mid := 285) (σ := (Nat → Nat → Int) × (Nat → Nat → Int64)) (fun s σ => (12, [.ref 93, (Value.int (Int32.ofInt (dr))), (Value.int (Int32.ofInt (st))), (Value.int (Int32.ofInt (k))), (Value.int (Int32.ofInt ((wst (wvl B dr st) k s).1))), (Value.int (Int32.ofInt (s))), vU, vU], [], zS (eV σ.1) σ.2 tg)) (fun s σ => (∀ c, c ≠ 93 → c ≠ 103 → c ≠ 105 → σ.1 c = A c) ∧ (∀ p, p ≠ 36 → σ.1 93 p = A 93 p) ∧ ((wst (wvl B dr st) k s).1 ≠ -1 → σ.1 93 36 = (wst (wvl B dr st) k s).2)) (2 ^ T) (by
    intro s ⟨W, J⟩ hs ⟨i1, i2, i3⟩
    dsimp only at i1 i2 i3 ⊢
    have qW : Qy B W := ⟨fun c h => by rw [i1 c (by omega) (by omega) (by omega)]; exact qA.1 c h, fun p h => by rw [i1 94 (by omega) (by omega) (by omega)]; exact qA.2.1 p h, fun p h => by rw [i2 p (by omega)]; exact qA.2.2.1 p h, qA.2.2.2.up (i1 1 (by omega) (by omega) (by omega)) (i1 2 (by omega) (by omega) (by omega)) (i1 3 (by omega) (by omega) (by omega)) (i1 4 (by omega) (by omega) (by omega)) (i1 71 (by omega) (by omega) (by omega)) (i1 81 (by omega) (by omega) (by omega))⟩
    have hIW := hI.q qW
    have e11 : W 1 1 = T := by rw [qW.1 1 (by omega)]; exact hT
    have k48 := m_199 (L := L) (xs := xs) (J := J) (tg := tg) (d := d + 5) hIW.1 hIW.2.1.1
    rw [e11, tn_cast, cast_pred hpos] at k48
    have k300 := k_185 (L := L) (xs := xs) (J := J) (tg := tg) (d := d + 5) (V := W) (s := s) (by omega)
    have hpc := pcn_le s 12
    have hw := wst_s (v := wvl B dr st) (k := k) (s := s)
    have hwr := wst_rg (v := wvl B dr st) (k := k) hvr s
    generalize wst (wvl B dr st) k s = m at i3 hw hwr ⊢
    by_cases c1 : pcn s 12 = k
    · have t1 := m_204 (L := L) (xs := xs) (J := J) (tg := tg) (d := d + 5) hI qW (s := s) (sc := scr B dr st) (by rw [hT]; exact hs) hsc (fun t ht => by rw [i1 99 (by decide) (by decide) (by decide)]; exact a2 t ht)
      have htk := tk_rg (lim := B 7 0) (f := scr B dr st) (s := s) (n := 12) (by omega) (fun t => by have := hsc t; omega)
      have hvs := hvr s
      have ev : wvl B dr st s = hb B dr st (wdn B dr) (wfc B dr) (-1) (tk (B 7 0) (scr B dr st) s 12) := rfl
      generalize tk (B 7 0) (scr B dr st) s 12 = took at t1 htk ev
      have hLW := LKm_of hI qW hd
      obtain ⟨C, J1, y1, y2⟩ := m_245 (L := L) (xs := xs) (J := J) (tg := tg) (d := d) hI qW hLW htk
      have y2 : Runs (GW L xs) (d + 5) 245 (0, [.ref 93, (Value.int (Int32.ofInt (dr))), (Value.int (Int32.ofInt (mz took)))], [], zS (eV (W)) (J) tg) (some (Value.int (Int32.ofInt (bi (rt (B 5 dr) (wdn B dr) (B 6 dr) took)))), zS (eV (C)) (J1) tg) := y2
      have hb1 : hb B dr st (wdn B dr) (wfc B dr) (-1) took = if rt (B 5 dr) (wdn B dr) (B 6 dr) took then 0 else hmG B (fch (wfc B dr) took (if wdn B dr = B 6 dr then 0 else 1) (-1) st) := by
        unfold hb
        by_cases g : rt (B 5 dr) (wdn B dr) (B 6 dr) took
        · rw [if_pos (Or.inr g), if_pos g]
        · rw [if_neg (fun h => h.elim (fun h => h.1 rfl) g), if_neg g]
      rw [hb1] at ev
      by_cases g : rt (B 5 dr) (wdn B dr) (B 6 dr) took
      · rw [if_pos g] at ev
        have hC : ∀ c, c ≠ 93 → c ≠ 103 → c ≠ 105 → C c = A c := fun c q1 q2 q3 => by rw [y1 c q2 q3]; exact i1 c q1 q2 q3
        have e93 : C 93 = W 93 := y1 93 (by decide) (by decide)
        rw [ev] at hw
        by_cases c3 : m.1 < 0
        · rw [if_pos ⟨c1, c3⟩] at hw
          rw [hw]
          refine ⟨(up2 C 93 36 s, J1), ⟨fun c q1 q2 q3 => by dsimp only; rw [w_ne _ _ _ _ q1]; exact hC c q1 q2 q3, fun p hp => by dsimp only; rw [w_at, if_neg hp, e93]; exact i2 p hp, fun _ => by dsimp only; exact w_eq _ _ _ _⟩, fun r hr => ?_⟩
          apply sg_285_12
          refine ⟨_, _, _, k48, ?_⟩
          simp (disch := omega) only [eV_at, eV_up, o_lit2, o_add, o_sub, o_mul, o_neg, o_div, o_nat, ix_t, o_lt, o_le, o_eq, o_bi0, o_bi1, o_bib, em_t, o_neg1, o_shl, o_tb, o_tb0, o_tt, o_and, o_xor, o_or, o_max, o_min, an_tb, and_true, true_and, not_true, not_false, if_true, if_false, tn_add, tn_mul, Int.reduceToNat, tn_cast, md_x]
          rw [if_neg (by omega)]
          refine ⟨_, _, _, k300, ?_⟩
          simp (disch := omega) only [eV_at, eV_up, o_lit2, o_add, o_sub, o_mul, o_neg, o_div, o_nat, ix_t, o_lt, o_le, o_eq, o_bi0, o_bi1, o_bib, em_t, o_neg1, o_shl, o_tb, o_tb0, o_tt, o_and, o_xor, o_or, o_max, o_min, an_tb, and_true, true_and, not_true, not_false, if_true, if_false, tn_add, tn_mul, Int.reduceToNat, tn_cast, md_x]
          rw [if_pos (by omega)]
          refine ⟨_, _, _, t1, _, _, _, y2, ?_⟩
          rw [if_neg (b0o_f g), if_pos c3, eV_up]
          exact hr
        · rw [if_neg (fun h => c3 h.2)] at hw
          rw [hw]
          refine ⟨(C, J1), ⟨hC, fun p hp => by dsimp only; rw [e93]; exact i2 p hp, fun h => by dsimp only; rw [e93]; exact i3 h⟩, fun r hr => ?_⟩
          apply sg_285_12
          refine ⟨_, _, _, k48, ?_⟩
          simp (disch := omega) only [eV_at, eV_up, o_lit2, o_add, o_sub, o_mul, o_neg, o_div, o_nat, ix_t, o_lt, o_le, o_eq, o_bi0, o_bi1, o_bib, em_t, o_neg1, o_shl, o_tb, o_tb0, o_tt, o_and, o_xor, o_or, o_max, o_min, an_tb, and_true, true_and, not_true, not_false, if_true, if_false, tn_add, tn_mul, Int.reduceToNat, tn_cast, md_x]
          rw [if_neg (by omega)]
          refine ⟨_, _, _, k300, ?_⟩
          simp (disch := omega) only [eV_at, eV_up, o_lit2, o_add, o_sub, o_mul, o_neg, o_div, o_nat, ix_t, o_lt, o_le, o_eq, o_bi0, o_bi1, o_bib, em_t, o_neg1, o_shl, o_tb, o_tb0, o_tt, o_and, o_xor, o_or, o_max, o_min, an_tb, and_true, true_and, not_true, not_false, if_true, if_false, tn_add, tn_mul, Int.reduceToNat, tn_cast, md_x]
          rw [if_pos (by omega)]
          refine ⟨_, _, _, t1, _, _, _, y2, ?_⟩
          rw [if_neg (b0o_f g), if_neg c3]
          exact hr
      · rw [if_neg g] at ev
        have qC : Qy B C := qW.mf fun c _ q2 q3 => y1 c q2 q3
        obtain ⟨E, J2, z1, z2⟩ := m_247 (L := L) (xs := xs) (J := J1) (tg := tg) (d := d) hI qC (LKm_of hI qC hd) (st := st) (land := -1) htk (by omega) hst
        have z2 : Runs (GW L xs) (d + 5) 247 (0, [.ref 93, (Value.int (Int32.ofInt (dr))), (Value.int (Int32.ofInt (mz took))), (Value.int (Int32.ofInt (-1))), (Value.int (Int32.ofInt (st))), vU, vU, vU, vU], [], zS (eV (C)) (J1) tg) (some (Value.int (Int32.ofInt (hmG B (fch (wfc B dr) took (if wdn B dr = B 6 dr then 0 else 1) (-1) st)))), zS (eV (E)) (J2) tg) := z2
        rw [← ev] at z2
        have hE : ∀ c, c ≠ 93 → c ≠ 103 → c ≠ 105 → E c = A c := fun c q1 q2 q3 => by rw [z1 c q2 q3, y1 c q2 q3]; exact i1 c q1 q2 q3
        have e93 : E 93 = W 93 := by rw [z1 93 (by decide) (by decide), y1 93 (by decide) (by decide)]
        generalize wvl B dr st s = v at hvs z2 hw
        by_cases c3 : m.1 < v
        · rw [if_pos ⟨c1, c3⟩] at hw
          rw [hw]
          refine ⟨(up2 E 93 36 s, J2), ⟨fun c q1 q2 q3 => by dsimp only; rw [w_ne _ _ _ _ q1]; exact hE c q1 q2 q3, fun p hp => by dsimp only; rw [w_at, if_neg hp, e93]; exact i2 p hp, fun _ => by dsimp only; exact w_eq _ _ _ _⟩, fun r hr => ?_⟩
          apply sg_285_12
          refine ⟨_, _, _, k48, ?_⟩
          simp (disch := omega) only [eV_at, eV_up, o_lit2, o_add, o_sub, o_mul, o_neg, o_div, o_nat, ix_t, o_lt, o_le, o_eq, o_bi0, o_bi1, o_bib, em_t, o_neg1, o_shl, o_tb, o_tb0, o_tt, o_and, o_xor, o_or, o_max, o_min, an_tb, and_true, true_and, not_true, not_false, if_true, if_false, tn_add, tn_mul, Int.reduceToNat, tn_cast, md_x]
          rw [if_neg (by omega)]
          refine ⟨_, _, _, k300, ?_⟩
          simp (disch := omega) only [eV_at, eV_up, o_lit2, o_add, o_sub, o_mul, o_neg, o_div, o_nat, ix_t, o_lt, o_le, o_eq, o_bi0, o_bi1, o_bib, em_t, o_neg1, o_shl, o_tb, o_tb0, o_tt, o_and, o_xor, o_or, o_max, o_min, an_tb, and_true, true_and, not_true, not_false, if_true, if_false, tn_add, tn_mul, Int.reduceToNat, tn_cast, md_x]
          rw [if_pos (by omega)]
          refine ⟨_, _, _, t1, _, _, _, y2, ?_⟩
          rw [if_pos (b0o_t g)]
          refine ⟨_, _, _, z2, ?_⟩
          simp (disch := omega) only [eV_at, eV_up, o_lit2, o_add, o_sub, o_mul, o_neg, o_div, o_nat, ix_t, o_lt, o_le, o_eq, o_bi0, o_bi1, o_bib, em_t, o_neg1, o_shl, o_tb, o_tb0, o_tt, o_and, o_xor, o_or, o_max, o_min, an_tb, and_true, true_and, not_true, not_false, if_true, if_false, tn_add, tn_mul, Int.reduceToNat, tn_cast, md_x]
          rw [if_pos c3]
          exact hr
        · rw [if_neg (fun h => c3 h.2)] at hw
          rw [hw]
          refine ⟨(E, J2), ⟨hE, fun p hp => by dsimp only; rw [e93]; exact i2 p hp, fun h => by dsimp only; rw [e93]; exact i3 h⟩, fun r hr => ?_⟩
          apply sg_285_12
          refine ⟨_, _, _, k48, ?_⟩
          simp (disch := omega) only [eV_at, eV_up, o_lit2, o_add, o_sub, o_mul, o_neg, o_div, o_nat, ix_t, o_lt, o_le, o_eq, o_bi0, o_bi1, o_bib, em_t, o_neg1, o_shl, o_tb, o_tb0, o_tt, o_and, o_xor, o_or, o_max, o_min, an_tb, and_true, true_and, not_true, not_false, if_true, if_false, tn_add, tn_mul, Int.reduceToNat, tn_cast, md_x]
          rw [if_neg (by omega)]
          refine ⟨_, _, _, k300, ?_⟩
          simp (disch := omega) only [eV_at, eV_up, o_lit2, o_add, o_sub, o_mul, o_neg, o_div, o_nat, ix_t, o_lt, o_le, o_eq, o_bi0, o_bi1, o_bib, em_t, o_neg1, o_shl, o_tb, o_tb0, o_tt, o_and, o_xor, o_or, o_max, o_min, an_tb, and_true, true_and, not_true, not_false, if_true, if_false, tn_add, tn_mul, Int.reduceToNat, tn_cast, md_x]
          rw [if_pos (by omega)]
          refine ⟨_, _, _, t1, _, _, _, y2, ?_⟩
          rw [if_pos (b0o_t g)]
          refine ⟨_, _, _, z2, ?_⟩
          simp (disch := omega) only [eV_at, eV_up, o_lit2, o_add, o_sub, o_mul, o_neg, o_div, o_nat, ix_t, o_lt, o_le, o_eq, o_bi0, o_bi1, o_bib, em_t, o_neg1, o_shl, o_tb, o_tb0, o_tt, o_and, o_xor, o_or, o_max, o_min, an_tb, and_true, true_and, not_true, not_false, if_true, if_false, tn_add, tn_mul, Int.reduceToNat, tn_cast, md_x]
          rw [if_neg c3]
          exact hr
    · rw [if_neg (fun h => c1 h.1)] at hw
      rw [hw]
      refine ⟨(W, J), ⟨i1, i2, i3⟩, fun r hr => ?_⟩
      apply sg_285_12
      refine ⟨_, _, _, k48, ?_⟩
      simp (disch := omega) only [eV_at, eV_up, o_lit2, o_add, o_sub, o_mul, o_neg, o_div, o_nat, ix_t, o_lt, o_le, o_eq, o_bi0, o_bi1, o_bib, em_t, o_neg1, o_shl, o_tb, o_tb0, o_tt, o_and, o_xor, o_or, o_max, o_min, an_tb, and_true, true_and, not_true, not_false, if_true, if_false, tn_add, tn_mul, Int.reduceToNat, tn_cast, md_x]
      rw [if_neg (by omega)]
      refine ⟨_, _, _, k300, ?_⟩
      simp (disch := omega) only [eV_at, eV_up, o_lit2, o_add, o_sub, o_mul, o_neg, o_div, o_nat, ix_t, o_lt, o_le, o_eq, o_bi0, o_bi1, o_bib, em_t, o_neg1, o_shl, o_tb, o_tb0, o_tt, o_and, o_xor, o_or, o_max, o_min, an_tb, and_true, true_and, not_true, not_false, if_true, if_false, tn_add, tn_mul, Int.reduceToNat, tn_cast, md_x]
      rw [if_neg (by omega)]
      exact hr) (2 ^ T) 0 (A, J) (by omega) ⟨fun _ _ _ _ => rfl, fun _ _ => rfl, fun h => absurd rfl h⟩
  dsimp only at i1 i2 i3 hr
  have qW : Qy B W := ⟨fun c h => by rw [i1 c (by omega) (by omega) (by omega)]; exact qA.1 c h, fun p h => by rw [i1 94 (by omega) (by omega) (by omega)]; exact qA.2.1 p h, fun p h => by rw [i2 p (by omega)]; exact qA.2.2.1 p h, qA.2.2.2.up (i1 1 (by omega) (by omega) (by omega)) (i1 2 (by omega) (by omega) (by omega)) (i1 3 (by omega) (by omega) (by omega)) (i1 4 (by omega) (by omega) (by omega)) (i1 71 (by omega) (by omega) (by omega)) (i1 81 (by omega) (by omega) (by omega))⟩
  have hIW := hI.q qW
  have e11 : W 1 1 = T := by rw [qW.1 1 (by omega)]; exact hT
  have k48 := m_199 (L := L) (xs := xs) (J := J2) (tg := tg) (d := d + 5) hIW.1 hIW.2.1.1
  rw [e11, tn_cast, cast_pred hpos] at k48
  unfold wrs
  rw [hT, tn_cast]
  refine ⟨W, J2, qW, fun c hc => by rw [i1 c (by omega) (by omega) (by omega), a1 c (by omega)], i3, ?_⟩
  apply sg_285
  refine ⟨_, _, a3, hr _ ?_⟩
  apply sg_285_12
  refine ⟨_, _, _, k48, ?_⟩
  simp (disch := omega) only [eV_at, eV_up, o_lit2, o_add, o_sub, o_mul, o_neg, o_div, o_nat, ix_t, o_lt, o_le, o_eq, o_bi0, o_bi1, o_bib, em_t, o_neg1, o_shl, o_tb, o_tb0, o_tt, o_and, o_xor, o_or, o_max, o_min, an_tb, and_true, true_and, not_true, not_false, if_true, if_false, tn_add, tn_mul, Int.reduceToNat, tn_cast, md_x]
  rw [if_pos (by omega)] <;> first | rfl | trivial
end WS
