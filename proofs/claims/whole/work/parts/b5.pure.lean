/-! count, member, sureness, ways. -/
section MJ
variable {L d : Nat} {xs : Nat → Int32} {B V : Nat → Nat → Int} {J : Nat → Nat → Int64} {tg : Option Nat}
def frN (T nd br : Nat) : Nat := (2 ^ T - 1 &&& (4095 ^^^ nd)) &&& (4095 ^^^ br)
theorem frN_lt {T nd br : Nat} (hT : T ≤ 12) : frN T nd br < 4096 := by
  have h2T : 2 ^ T ≤ 4096 := p2_12 hT
  have hpos := Nat.pow_pos (a := 2) (n := T) (by omega)
  unfold frN
  exact Nat.lt_of_le_of_lt Nat.and_le_left (Nat.lt_of_le_of_lt Nat.and_le_left (by omega))
theorem frN_F {T nd br : Nat} (hT : T ≤ 12) : isF T nd br (frN T nd br) := fun t => by
  unfold frN
  rw [Nat.testBit_and, Nat.testBit_and, Nat.testBit_xor, Nat.testBit_xor]
  by_cases c : t < T
  · have h1 : (2 ^ T - 1).testBit t = true := tb_full c
    have h2 : Nat.testBit 4095 t = true := tb_full (m := 12) (by omega)
    rw [h1, h2, decide_eq_true c]
    cases nd.testBit t <;> cases br.testBit t <;> rfl
  · have h1 : (2 ^ T - 1).testBit t = false := tb_hi (m := T) (by have := Nat.pow_pos (a := 2) (n := T) (by omega); omega) (by omega)
    rw [h1, decide_eq_false c]; simp
theorem k_53 (hI : INV B) (q : Qy B V) {T nd br : Nat} (hT : B 1 1 = T) (h4 : V 92 4 = nd) (h5 : V 92 5 = br) : Runs (GW L xs) (d + 1) 53 (0, [.ref 92], [], zS (eV (V)) J tg) (some (Value.int (Int32.ofInt (frN T nd br))), zS (eV (V)) J tg) := by
  have rT : 0 ≤ B 1 1 ∧ B 1 1 ≤ 12 := hI.1 1 1 (by decide) (by decide)
  have h2T : 2 ^ T ≤ 4096 := p2_12 (by omega)
  have hpos := Nat.pow_pos (a := 2) (n := T) (by omega)
  have k48 := k_48 (L := L) (xs := xs) (J := J) (tg := tg) (d := d) (hI.1.fr fun c hc => q.1 c (by omega) : RNG V)
  rw [show V 1 1 = (T : Int) by rw [q.1 1 (by omega)]; exact hT, tn_cast] at k48
  have h1 : (2 ^ T - 1 &&& (4095 ^^^ nd)) < 4096 := Nat.lt_of_le_of_lt Nat.and_le_left (by omega)
  apply sg_53
  refine ⟨_, _, k48, ?_⟩
  rw [eV_at, eV_at, h4, h5, o_neg1, o_anx (by omega), o_anx h1]
  rfl
theorem k_54 (hI : INV B) (q : Qy B V) {ld day : Int} {T nd br : Nat} {P : Bool} (hT : B 1 1 = T) (hM : MD B V ld day T P nd br) : Runs (GW L xs) (d + 2) 54 (0, [.ref 92], [], zS (eV (V)) J tg) (some (Value.int (Int32.ofInt (if P = true then ((2 ^ pcn (frN T nd br) 12 : Nat) : Int) else 0))), zS (eV (V)) J tg) := by
  obtain ⟨m3, m4, m5, -, -, -, -⟩ := hM
  have rT : 0 ≤ B 1 1 ∧ B 1 1 ≤ 12 := hI.1 1 1 (by decide) (by decide)
  have hf := frN_lt (T := T) (nd := nd) (br := br) (by omega)
  have hp := pcn_le (frN T nd br) 12
  apply sg_54
  rw [eV_at, m3]
  by_cases p : P = true
  · rw [if_neg (b0_f p), if_pos p]
    refine ⟨_, _, k_53 hI q hT m4 m5, _, _, k_300 hf, ?_⟩
    simp (disch := omega) only [eV_at, eV_up, o_lit2, o_add, o_sub, o_mul, o_neg, o_div, o_nat, ix_t, o_lt, o_le, o_eq, o_bi0, o_bi1, o_bib, em_t, o_neg1, o_shl, o_tb, o_tb0, o_tt, o_and, o_xor, o_or, o_max, o_min, an_tb, and_true, true_and, not_true, not_false, if_true, if_false, tn_add, tn_mul, Int.reduceToNat, tn_cast, md_x]
  · rw [if_pos (b0_t p), if_neg p]
    rfl
def stn (nd fr i : Nat) : Nat → Nat
  | 0 => nd
  | n + 1 => if fr.testBit n then stn nd fr i n ||| (i / 2 ^ pcn fr n % 2 * 2 ^ n) else stn nd fr i n
theorem stn_tb {nd fr i : Nat} : ∀ n t, (stn nd fr i n).testBit t = (nd.testBit t || (decide (t < n) && fr.testBit t && i.testBit (pcn fr t)))
  | 0, t => by simp [stn]
  | n + 1, t => by
    have ih := stn_tb (nd := nd) (fr := fr) (i := i) n t
    have hs : stn nd fr i (n + 1) = if fr.testBit n then stn nd fr i n ||| (i / 2 ^ pcn fr n % 2 * 2 ^ n) else stn nd fr i n := rfl
    rw [hs]
    have hbit : ∀ t, (i / 2 ^ pcn fr n % 2 * 2 ^ n).testBit t = (decide (n = t) && i.testBit (pcn fr n)) := fun t => by
      rw [← Nat.toNat_testBit]
      cases i.testBit (pcn fr n)
      · simp
      · simp [Nat.testBit_two_pow]
    by_cases e : t = n
    · subst e
      cases b : fr.testBit t
      · rw [if_neg (by decide), ih, b]; simp
      · rw [if_pos rfl, Nat.testBit_or, ih, hbit]; simp
    · have : decide (t < n + 1) = decide (t < n) := decide_eq_decide.mpr ⟨fun h => by omega, fun h => by omega⟩
      rw [this]
      cases b : fr.testBit n
      · rw [if_neg (by decide)]; exact ih
      · rw [if_pos rfl, Nat.testBit_or, ih, hbit, decide_eq_false (show ¬ n = t from fun h => e h.symm), Bool.false_and, Bool.or_false]
theorem stn_lt {nd fr i T : Nat} (hnd : nd < 4096) : ∀ n, n ≤ 12 → stn nd fr i n < 4096
  | 0, _ => hnd
  | n + 1, hn => by
    have ih := stn_lt (fr := fr) (i := i) (T := T) hnd n (by omega)
    have hs : stn nd fr i (n + 1) = if fr.testBit n then stn nd fr i n ||| (i / 2 ^ pcn fr n % 2 * 2 ^ n) else stn nd fr i n := rfl
    rw [hs]
    split
    · refine Nat.or_lt_two_pow (n := 12) ih ?_
      have h2 : 2 ^ n < 2 ^ 12 := Nat.pow_lt_pow_right (by omega) (by omega)
      have : i / 2 ^ pcn fr n % 2 = 0 ∨ i / 2 ^ pcn fr n % 2 = 1 := by omega
      rcases this with h | h <;> rw [h] <;> omega
    · exact ih
theorem stn_mem {T nd br fr i : Nat} (hT : T ≤ 12) (hF : isF T nd br fr) (hnd : nd < 2 ^ T) : stn nd fr i 12 = mem nd fr i 12 := by
  apply Nat.eq_of_testBit_eq
  intro t
  rw [stn_tb, mem_tb]
  have hf := hF t
  unfold mbt
  by_cases c : t < 12
  · rw [decide_eq_true c]
    cases b : fr.testBit t
    · simp
    · rw [b] at hf
      have hn : nd.testBit t = false := by
        cases q : nd.testBit t
        · rfl
        · rw [q] at hf; simp at hf
      rw [hn]; simp
  · rw [decide_eq_false c, tb_hi hnd (by omega)]; simp
theorem k_55 (hI : INV B) (q : Qy B V) {T nd br i : Nat} (hT : B 1 1 = T) (h4 : V 92 4 = nd) (h5 : V 92 5 = br) (hnd : nd < 2 ^ T) (hi : i < 4096) : Runs (GW L xs) (d + 2) 55 (0, [.ref 92, (Value.int (Int32.ofInt (i))), vU, vU, vU, vU], [], zS (eV (V)) J tg) (some (Value.int (Int32.ofInt (mem nd (frN T nd br) i 12))), zS (eV (V)) J tg) := by
  have rT : 0 ≤ B 1 1 ∧ B 1 1 ≤ 12 := hI.1 1 1 (by decide) (by decide)
  have h2T : 2 ^ T ≤ 4096 := p2_12 (by omega)
  have hf := frN_lt (T := T) (nd := nd) (br := br) (by omega)
  rw [← stn_mem (T := T) (br := br) (by omega) (frN_F (by omega)) hnd]
  have k53 := k_53 (L := L) (xs := xs) (J := J) (tg := tg) (d := d) hI q hT h4 h5
  generalize frN T nd br = fr at hf k53 ⊢
  obtain ⟨_, _, hr⟩ := loopN (g := GW L xs) (d := d + 2) (mid := 55) (σ := Unit) (fun n _ => (16, [.ref 92, (Value.int (Int32.ofInt (i))), (Value.int (Int32.ofInt (stn nd fr i n))), (Value.int (Int32.ofInt (fr))), (Value.int (Int32.ofInt ((i / 2 ^ pcn fr n : Nat)))), (Value.int (Int32.ofInt (n)))], [], zS (eV V) J tg)) (fun _ _ => True) 12 (by
    intro n _ hn _
    have hs : stn nd fr i (n + 1) = if fr.testBit n then stn nd fr i n ||| (i / 2 ^ pcn fr n % 2 * 2 ^ n) else stn nd fr i n := rfl
    have hl := stn_lt (fr := fr) (i := i) (T := T) (nd := nd) (by omega) n (by omega)
    have hq : i / 2 ^ pcn fr n < 4096 := Nat.lt_of_le_of_lt (Nat.div_le_self _ _) hi
    have hpn : pcn fr (n + 1) = pcn fr n + (if fr.testBit n then 1 else 0) := rfl
    refine ⟨(), trivial, fun r hr => ?_⟩
    rw [hs, hpn] at hr
    apply sg_55_16
    cases b : fr.testBit n
    · rw [b, if_neg (by decide), if_neg (by decide), Nat.add_zero] at hr
      simp (disch := omega) only [eV_at, eV_up, o_lit2, o_add, o_sub, o_mul, o_neg, o_div, o_nat, ix_t, o_lt, o_le, o_eq, o_bi0, o_bi1, o_bib, em_t, o_neg1, o_shl, o_tb, o_tb0, o_tt, o_and, o_xor, o_or, o_max, o_min, an_tb, and_true, true_and, not_true, not_false, if_true, if_false, tn_add, tn_mul, Int.reduceToNat, tn_cast, md_x]
      rw [if_neg (by omega), if_pos b]
      exact hr
    · rw [b, if_pos rfl, if_pos rfl, Nat.pow_succ, ← Nat.div_div_eq_div_mul] at hr
      generalize i / 2 ^ pcn fr n = x at hq hr ⊢
      simp (disch := omega) only [o_sh1, o_b1, o_shb, eV_at, eV_up, o_lit2, o_add, o_sub, o_mul, o_neg, o_div, o_nat, ix_t, o_lt, o_le, o_eq, o_bi0, o_bi1, o_bib, em_t, o_neg1, o_shl, o_tb, o_tb0, o_tt, o_and, o_xor, o_or, o_max, o_min, an_tb, and_true, true_and, not_true, not_false, if_true, if_false, tn_add, tn_mul, Int.reduceToNat, tn_cast, md_x]
      rw [if_neg (by omega), if_neg (by rw [b]; decide)]
      exact hr) 12 0 () (by omega) trivial
  apply sg_55
  refine ⟨_, _, k53, ?_⟩
  rw [eV_at, h4]
  have e0 : i / 2 ^ pcn fr 0 = i := by show i / 2 ^ 0 = i; rw [Nat.pow_zero, Nat.div_one]
  rw [e0] at hr
  refine hr _ ?_
  apply sg_55_16
  rw [if_pos (by decide)]
theorem k_56 (hI : INV B) {ld day : Int} {T nd br t : Nat} {P : Bool} (hT12 : T ≤ 12) (ht : t < T) (hM : MD B V ld day T P nd br) : Runs (GW L xs) (d) 56 (0, [.ref 92, (Value.int (Int32.ofInt (t)))], [], zS (eV (V)) J tg) (some (Value.int (Int32.ofInt (if P = true then (if br.testBit t = true then 0 else if nd.testBit t = true then 2 else 1) else 0))), zS (eV (V)) J tg) := by
  obtain ⟨m3, m4, m5, m6, m7, -, -⟩ := hM
  have h2T : 2 ^ T ≤ 4096 := p2_12 hT12
  apply sg_56
  rw [eV_at, m3]
  by_cases p : P = true
  · rw [if_neg (b0_f p), if_pos p]
    simp (disch := omega) only [m4, m5, eV_at, eV_up, o_lit2, o_add, o_sub, o_mul, o_neg, o_div, o_nat, ix_t, o_lt, o_le, o_eq, o_bi0, o_bi1, o_bib, em_t, o_neg1, o_shl, o_tb, o_tb0, o_tt, o_and, o_xor, o_or, o_max, o_min, an_tb, and_true, true_and, not_true, not_false, if_true, if_false, tn_add, tn_mul, Int.reduceToNat, tn_cast, md_x]
    cases b : br.testBit t
    · rw [if_pos rfl]
      cases b2 : nd.testBit t
      · rw [if_pos rfl]; rfl
      · rw [if_neg (by decide)]; rfl
    · rw [if_neg (by decide)]; rfl
  · rw [if_pos (b0_t p), if_neg p]
    rfl
/-- how many ways it can be taken -/
def cwy (lim : Int) (sc : Nat → Int) (nd br : Nat) : Nat → Int
  | 0 => if tk lim sc nd 12 = -1 then 1 else 0
  | t + 1 => cwy lim sc nd br t + (if br.testBit t = false ∧ tk lim sc (nd ||| 2 ^ t) 12 = t then 1 else 0)
theorem cwy_rg {lim : Int} {sc : Nat → Int} {nd br : Nat} : ∀ n, 0 ≤ cwy lim sc nd br n ∧ cwy lim sc nd br n ≤ n + 1
  | 0 => by unfold cwy; split <;> omega
  | n + 1 => by have := cwy_rg (lim := lim) (sc := sc) (nd := nd) (br := br) n; unfold cwy; split <;> omega
theorem k_58 (hI : INV B) (q : Qy B V) {T nd br : Nat} {sc : Nat → Int} (hT : B 1 1 = T) (h4 : V 92 4 = nd) (h5 : V 92 5 = br) (hnd : nd < 2 ^ T) (hbr : br < 2 ^ T) (hsc : ∀ t, -5000 ≤ sc t ∧ sc t ≤ 5000) (h77 : ∀ t, t < T → V 77 t = sc t) : Runs (GW L xs) (d + 2) 58 (0, [.ref 92, vU, vU], [], zS (eV (V)) J tg) (some (Value.int (Int32.ofInt (cwy (B 7 0) sc nd br T))), zS (eV (V)) J tg) := by
  have rT : 0 ≤ B 1 1 ∧ B 1 1 ≤ 12 := hI.1 1 1 (by decide) (by decide)
  have h2T : 2 ^ T ≤ 4096 := p2_12 (by omega)
  have hRV : RNG V := hI.1.fr fun c hc => q.1 c (by omega)
  have e11 : V 1 1 = T := by rw [q.1 1 (by omega)]; exact hT
  have k1 : ∀ s : Nat, s < 2 ^ T → Runs (GW L xs) (d + 1) 100 (0, [.ref 75, (Value.int (Int32.ofInt (s)))], [], zS (eV (V)) J tg) (some (Value.int (Int32.ofInt (tk (B 7 0) sc s 12))), zS (eV (V)) J tg) := fun s hs => by
    have k1 := k_100 (L := L) (xs := xs) (J := J) (tg := tg) (d := d) hRV (s := s) (g := sc) (by omega) (fun u _ hb => h77 u (Nat.lt_of_not_le fun hle => by rw [tb_hi hs hle] at hb; exact absurd hb (by decide))) hsc
    rw [q.1 7 (by omega)] at k1
    exact k1
  have htk : ∀ s, -1 ≤ tk (B 7 0) sc s 12 ∧ tk (B 7 0) sc s 12 ≤ 11 := fun s => tk_rg (by omega) (fun t => by have := hsc t; omega)
  obtain ⟨_, _, hr⟩ := loopN (g := GW L xs) (d := d + 2) (mid := 58) (σ := Unit) (fun t _ => (23, [.ref 92, (Value.int (Int32.ofInt (cwy (B 7 0) sc nd br t))), (Value.int (Int32.ofInt (t)))], [], zS (eV V) J tg)) (fun _ _ => True) T (by
    intro t _ ht _
    have hs : cwy (B 7 0) sc nd br (t + 1) = cwy (B 7 0) sc nd br t + (if br.testBit t = false ∧ tk (B 7 0) sc (nd ||| 2 ^ t) 12 = t then 1 else 0) := rfl
    have hp : 2 ^ t < 2 ^ T := Nat.pow_lt_pow_right (by omega) ht
    have hor : nd ||| 2 ^ t < 2 ^ T := Nat.or_lt_two_pow hnd hp
    have kk := k1 _ hor
    have hh := htk (nd ||| 2 ^ t)
    refine ⟨(), trivial, fun r hr => ?_⟩
    rw [hs] at hr
    apply sg_58_23
    simp (disch := omega) only [e11, h4, h5, eV_at, eV_up, o_lit2, o_add, o_sub, o_mul, o_neg, o_div, o_nat, ix_t, o_lt, o_le, o_eq, o_bi0, o_bi1, o_bib, em_t, o_neg1, o_shl, o_tb, o_tb0, o_tt, o_and, o_xor, o_or, o_max, o_min, an_tb, and_true, true_and, not_true, not_false, if_true, if_false, tn_add, tn_mul, Int.reduceToNat, tn_cast, md_x]
    rw [if_neg (by omega)]
    cases b : br.testBit t
    · rw [if_pos rfl]
      refine ⟨_, _, kk, ?_⟩
      simp (disch := omega) only [eV_at, eV_up, o_lit2, o_add, o_sub, o_mul, o_neg, o_div, o_nat, ix_t, o_lt, o_le, o_eq, o_bi0, o_bi1, o_bib, em_t, o_neg1, o_shl, o_tb, o_tb0, o_tt, o_and, o_xor, o_or, o_max, o_min, an_tb, and_true, true_and, not_true, not_false, if_true, if_false, tn_add, tn_mul, Int.reduceToNat, tn_cast, md_x]
      by_cases c : tk (B 7 0) sc (nd ||| 2 ^ t) 12 = t
      · rw [if_pos ⟨b, c⟩] at hr
        rw [if_pos c]
        exact hr
      · rw [if_neg (fun h => c h.2), Int.add_zero] at hr
        rw [if_neg c]
        exact hr
    · rw [if_neg (fun h => by rw [b] at h; exact absurd h.1 (by decide)), Int.add_zero] at hr
      rw [if_neg (by decide)]
      exact hr) T 0 () (by omega) trivial
  have k0 := k1 nd hnd
  have h0 := htk nd
  have fin : ∀ r, Runs (GW L xs) (d + 2) 58 (23, [.ref 92, (Value.int (Int32.ofInt (cwy (B 7 0) sc nd br 0))), (Value.int (Int32.ofInt ((0 : Nat))))], [], zS (eV V) J tg) r → Runs (GW L xs) (d + 2) 58 (0, [.ref 92, vU, vU], [], zS (eV V) J tg) r := fun r h => by
    apply sg_58
    rw [eV_at, h4]
    refine ⟨_, _, k0, ?_⟩
    unfold cwy at h
    simp (disch := omega) only [eV_at, eV_up, o_lit2, o_add, o_sub, o_mul, o_neg, o_div, o_nat, ix_t, o_lt, o_le, o_eq, o_bi0, o_bi1, o_bib, em_t, o_neg1, o_shl, o_tb, o_tb0, o_tt, o_and, o_xor, o_or, o_max, o_min, an_tb, and_true, true_and, not_true, not_false, if_true, if_false, tn_add, tn_mul, Int.reduceToNat, tn_cast, md_x]
    by_cases c : tk (B 7 0) sc nd 12 = -1
    · rw [if_pos c] at h
      rw [if_pos c]; exact h
    · rw [if_neg c] at h
      rw [if_neg c]; exact h
  refine fin _ (hr _ ?_)
  apply sg_58_23
  simp (disch := omega) only [e11, eV_at, eV_up, o_lit2, o_add, o_sub, o_mul, o_neg, o_div, o_nat, ix_t, o_lt, o_le, o_eq, o_bi0, o_bi1, o_bib, em_t, o_neg1, o_shl, o_tb, o_tb0, o_tt, o_and, o_xor, o_or, o_max, o_min, an_tb, and_true, true_and, not_true, not_false, if_true, if_false, tn_add, tn_mul, Int.reduceToNat, tn_cast, md_x]
  rw [if_pos (by omega)] <;> first | rfl | trivial
/-- the first of the most -/
def wpt (w : Nat → Int) : Nat → Int × Int
  | 0 => (-1, 1)
  | e + 1 => if (wpt w e).2 < w e then ((e : Int), w e) else wpt w e
theorem wpt_s {w : Nat → Int} {e : Nat} : wpt w (e + 1) = if (wpt w e).2 < w e then ((e : Int), w e) else wpt w e := rfl
theorem wpt_rg {w : Nat → Int} (hw : ∀ e, 0 ≤ w e ∧ w e ≤ 13) : ∀ n, (-1 ≤ (wpt w n).1 ∧ (wpt w n).1 < n) ∧ 1 ≤ (wpt w n).2 ∧ (wpt w n).2 ≤ 13
  | 0 => by simp [wpt]
  | n + 1 => by
    have ih := wpt_rg hw n
    have := hw n
    rw [wpt_s]
    split
    · dsimp only; omega
    · omega
def wys (B : Nat → Nat → Int) (st T nd br e : Nat) : Int := cwy (B 7 0) (scr B e st) nd br T
theorem k_57 (hI : INV B) (q : Qy B V) {ld day : Int} {T nd br st : Nat} {P : Bool} (hT : B 1 1 = T) (hst : st < 6) (hM : MD B V ld day T P nd br) : ∃ W, Qy B W ∧ W 92 6 = (if P = true then (wpt (wys B st T nd br) (B 1 0).toNat).1 else -1) ∧ (P = true → W 92 7 = (wpt (wys B st T nd br) (B 1 0).toNat).2) ∧ Runs (GW L xs) (d + 5) 57 (0, [.ref 92, (Value.int (Int32.ofInt (st))), vU, vU], [], zS (eV (V)) J tg) (none, zS (eV (W)) J tg) := by
  obtain ⟨m3, m4, m5, m6, m7, m8, m9⟩ := hM
  have rT : 0 ≤ B 1 1 ∧ B 1 1 ≤ 12 := hI.1 1 1 (by decide) (by decide)
  have rD : 0 ≤ B 1 0 ∧ B 1 0 ≤ 12 := hI.1 1 0 (by decide) (by decide)
  obtain ⟨D, hD⟩ : ∃ D : Nat, B 1 0 = D := ⟨(B 1 0).toNat, by omega⟩
  rw [hD, tn_cast]
  have hU : Qy B (up2 (up2 V 92 6 (-1)) 92 7 1) := q.cl fun c _ q2 => by rw [w_ne _ _ _ _ (by omega), w_ne _ _ _ _ (by omega)]
  by_cases p : P = true
  · rw [if_pos p]
    have hw : ∀ e, 0 ≤ wys B st T nd br e ∧ wys B st T nd br e ≤ 13 := fun e => by have := cwy_rg (lim := B 7 0) (sc := scr B e st) (nd := nd) (br := br) T; unfold wys; omega
    obtain ⟨W, ⟨qW, i4, i5, i6, i7⟩, hr⟩ := loopN (g := GW L xs) (d := d + 5) (mid := 57) (σ := Nat → Nat → Int) (fun e W => (20, [.ref 92, (Value.int (Int32.ofInt (st))), (Value.int (Int32.ofInt (e))), vU], [], zS (eV W) J tg)) (fun e W => Qy B W ∧ W 92 4 = nd ∧ W 92 5 = br ∧ W 92 6 = (wpt (wys B st T nd br) e).1 ∧ W 92 7 = (wpt (wys B st T nd br) e).2) D (by
      intro e W he ⟨qW, i4, i5, i6, i7⟩
      have e10 : W 1 0 = D := by rw [qW.1 1 (by omega)]; exact hD
      have hRW : RNG W := hI.1.fr fun c hc => qW.1 c (by omega)
      obtain ⟨X, a1, a2, a3, a4, a5, a6, a7⟩ := k_92 (L := L) (xs := xs) (J := J) (tg := tg) (d := d) hRW qW.2.2.2 (dr := e) (st := st) (by omega) hst
      have qX : Qy B X := qW.ca (fun c _ q2 => a1 c (by omega) (by omega)) a5
      have eS : ∀ t, scr W e st t = scr B e st t := fun t => by
        unfold scr
        rw [FAR_fr (qW.1 1 (by omega)) (qW.1 2 (by omega)) (qW.1 3 (by omega)) (qW.1 4 (by omega)), qW.1 10 (by omega)]
      have e92 : X 92 = W 92 := a1 92 (by omega) (by omega)
      have k58 := k_58 (L := L) (xs := xs) (J := J) (tg := tg) (d := d + 2) hI qX (T := T) (nd := nd) (br := br) (sc := scr B e st) hT (by rw [e92]; exact i4) (by rw [e92]; exact i5) m6 m7 (scr_rg hI.1 e st) (fun t ht => by rw [a6 t (by rw [qW.1 1 (by omega)]; omega), eS])
      have k58 : Runs (GW L xs) (d + 4) 58 (0, [.ref 92, vU, vU], [], zS (eV (X)) J tg) (some (Value.int (Int32.ofInt (wys B st T nd br e))), zS (eV (X)) J tg) := k58
      have hwe := hw e
      have hwp := wpt_rg hw e
      have hs := wpt_s (w := wys B st T nd br) (e := e)
      have h7 : X 92 7 = (wpt (wys B st T nd br) e).2 := by rw [e92]; exact i7
      generalize wpt (wys B st T nd br) e = y at i6 i7 h7 hwp hs
      generalize wys B st T nd br e = w at k58 hwe hs
      by_cases c : y.2 < w
      · rw [if_pos c] at hs
        rw [hs]
        refine ⟨up2 (up2 X 92 7 w) 92 6 e, ⟨qX.cl fun c _ q2 => by rw [w_ne _ _ _ _ (by omega), w_ne _ _ _ _ (by omega)], by rw [w_at, if_neg (by decide), w_at, if_neg (by decide), e92]; exact i4, by rw [w_at, if_neg (by decide), w_at, if_neg (by decide), e92]; exact i5, w_eq _ _ _ _, by rw [w_at, if_neg (by decide), w_eq]⟩, fun r hr => ?_⟩
        apply sg_57_20
        simp (disch := omega) only [e10, eV_at, eV_up, o_lit2, o_add, o_sub, o_mul, o_neg, o_div, o_nat, ix_t, o_lt, o_le, o_eq, o_bi0, o_bi1, o_bib, em_t, o_neg1, o_shl, o_tb, o_tb0, o_tt, o_and, o_xor, o_or, o_max, o_min, an_tb, and_true, true_and, not_true, not_false, if_true, if_false, tn_add, tn_mul, Int.reduceToNat, tn_cast, md_x]
        rw [if_neg (by omega)]
        refine ⟨_, a7, _, _, k58, ?_⟩
        simp (disch := omega) only [h7, eV_at, eV_up, o_lit2, o_add, o_sub, o_mul, o_neg, o_div, o_nat, ix_t, o_lt, o_le, o_eq, o_bi0, o_bi1, o_bib, em_t, o_neg1, o_shl, o_tb, o_tb0, o_tt, o_and, o_xor, o_or, o_max, o_min, an_tb, and_true, true_and, not_true, not_false, if_true, if_false, tn_add, tn_mul, Int.reduceToNat, tn_cast, md_x]
        rw [if_neg (by omega)]
        exact hr
      · rw [if_neg c] at hs
        rw [hs]
        refine ⟨X, ⟨qX, by rw [e92]; exact i4, by rw [e92]; exact i5, by rw [e92]; exact i6, h7⟩, fun r hr => ?_⟩
        apply sg_57_20
        simp (disch := omega) only [e10, eV_at, eV_up, o_lit2, o_add, o_sub, o_mul, o_neg, o_div, o_nat, ix_t, o_lt, o_le, o_eq, o_bi0, o_bi1, o_bib, em_t, o_neg1, o_shl, o_tb, o_tb0, o_tt, o_and, o_xor, o_or, o_max, o_min, an_tb, and_true, true_and, not_true, not_false, if_true, if_false, tn_add, tn_mul, Int.reduceToNat, tn_cast, md_x]
        rw [if_neg (by omega)]
        refine ⟨_, a7, _, _, k58, ?_⟩
        simp (disch := omega) only [h7, eV_at, eV_up, o_lit2, o_add, o_sub, o_mul, o_neg, o_div, o_nat, ix_t, o_lt, o_le, o_eq, o_bi0, o_bi1, o_bib, em_t, o_neg1, o_shl, o_tb, o_tb0, o_tt, o_and, o_xor, o_or, o_max, o_min, an_tb, and_true, true_and, not_true, not_false, if_true, if_false, tn_add, tn_mul, Int.reduceToNat, tn_cast, md_x]
        rw [if_pos (by omega)]
        exact hr) D 0 (up2 (up2 V 92 6 (-1)) 92 7 1) (by omega) ⟨hU, by rw [w_at, if_neg (by decide), w_at, if_neg (by decide)]; exact m4, by rw [w_at, if_neg (by decide), w_at, if_neg (by decide)]; exact m5, by rw [w_at, if_neg (by decide), w_eq]; rfl, by rw [w_eq]; rfl⟩
    have e10 : W 1 0 = D := by rw [qW.1 1 (by omega)]; exact hD
    refine ⟨W, qW, i6, fun _ => i7, ?_⟩
    apply sg_57
    rw [eV_at, m3, if_neg (b0_f p)]
    simp (disch := omega) only [eV_at, eV_up, o_lit2, o_add, o_sub, o_mul, o_neg, o_div, o_nat, ix_t, o_lt, o_le, o_eq, o_bi0, o_bi1, o_bib, em_t, o_neg1, o_shl, o_tb, o_tb0, o_tt, o_and, o_xor, o_or, o_max, o_min, an_tb, and_true, true_and, not_true, not_false, if_true, if_false, tn_add, tn_mul, Int.reduceToNat, tn_cast, md_x]
    refine hr _ ?_
    apply sg_57_20
    simp (disch := omega) only [e10, eV_at, eV_up, o_lit2, o_add, o_sub, o_mul, o_neg, o_div, o_nat, ix_t, o_lt, o_le, o_eq, o_bi0, o_bi1, o_bib, em_t, o_neg1, o_shl, o_tb, o_tb0, o_tt, o_and, o_xor, o_or, o_max, o_min, an_tb, and_true, true_and, not_true, not_false, if_true, if_false, tn_add, tn_mul, Int.reduceToNat, tn_cast, md_x]
    rw [if_pos (by omega)] <;> first | rfl | trivial
  · rw [if_neg p]
    refine ⟨up2 (up2 V 92 6 (-1)) 92 7 1, hU, by rw [w_at, if_neg (by decide), w_eq], fun h => absurd h p, ?_⟩
    apply sg_57
    rw [eV_at, m3, if_pos (b0_t p)]
    simp (disch := omega) only [eV_at, eV_up, o_lit2, o_add, o_sub, o_mul, o_neg, o_div, o_nat, ix_t, o_lt, o_le, o_eq, o_bi0, o_bi1, o_bib, em_t, o_neg1, o_shl, o_tb, o_tb0, o_tt, o_and, o_xor, o_or, o_max, o_min, an_tb, and_true, true_and, not_true, not_false, if_true, if_false, tn_add, tn_mul, Int.reduceToNat, tn_cast, md_x]
end MJ
