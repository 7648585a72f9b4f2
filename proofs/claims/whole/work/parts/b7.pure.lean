/-! KNOWS. -/
def cnt (p : Nat → Bool) : Nat → Nat
  | 0 => 0
  | s + 1 => cnt p s + (if p s = true then 1 else 0)
theorem cnt_s {p : Nat → Bool} {s : Nat} : cnt p (s + 1) = cnt p s + (if p s = true then 1 else 0) := rfl
theorem cnt_rg {p : Nat → Bool} : ∀ n, cnt p n ≤ n
  | 0 => Nat.le_refl _
  | n + 1 => by
    have := cnt_rg (p := p) n
    rw [cnt_s]; split <;> omega
theorem cnt_z {p : Nat → Bool} : ∀ n, cnt p n = 0 ↔ ∀ s, s < n → p s = false
  | 0 => ⟨fun _ s h => by omega, fun _ => rfl⟩
  | n + 1 => by
    have ih := cnt_z (p := p) n
    rw [cnt_s]
    constructor
    · intro h s hs
      by_cases c : p n = true
      · rw [if_pos c] at h; omega
      · rw [if_neg c] at h
        by_cases e : s = n
        · subst e; simpa using c
        · exact ih.mp (by omega) s (by omega)
    · intro h
      rw [if_neg (by rw [h n (by omega)]; decide), ih.mpr (fun s hs => h s (by omega))]
theorem cnt_le {p q : Nat → Bool} (h : ∀ s, p s = true → q s = true) : ∀ n, cnt p n ≤ cnt q n ∧ (cnt p n = cnt q n ↔ ∀ s, s < n → q s = true → p s = true)
  | 0 => ⟨Nat.le_refl _, ⟨fun _ s h => by omega, fun _ => rfl⟩⟩
  | n + 1 => by
    obtain ⟨i1, i2⟩ := cnt_le h n
    rw [cnt_s, cnt_s]
    by_cases c : p n = true
    · rw [if_pos c, if_pos (h n c)]
      refine ⟨by omega, ⟨fun e s hs hq => ?_, fun e => ?_⟩⟩
      · by_cases e' : s = n
        · subst e'; exact c
        · exact i2.mp (by omega) s (by omega) hq
      · rw [i2.mpr (fun s hs => e s (by omega))]
    · rw [if_neg c]
      by_cases c' : q n = true
      · rw [if_pos c']
        refine ⟨by omega, ⟨fun e => by omega, fun e => absurd (e n (by omega) c') c⟩⟩
      · rw [if_neg c']
        refine ⟨by omega, ⟨fun e s hs hq => ?_, fun e => ?_⟩⟩
        · by_cases e' : s = n
          · subst e'; exact absurd hq c'
          · exact i2.mp (by omega) s (by omega) hq
        · rw [i2.mpr (fun s hs => e s (by omega))]
/-- the least mind, and the least with one more -/
theorem inM_nd {T nd br : Nat} (hnd : nd < 2 ^ T) (hdis : ∀ t, nd.testBit t = true → br.testBit t = false) : inM true nd br nd := ⟨rfl, fun _ h => h, fun t h => by
  cases c : nd.testBit t
  · rfl
  · rw [hdis t c] at h; cases h⟩
theorem inM_or {T nd br t : Nat} (hnd : nd < 2 ^ T) (ht : t < T) (hb : br.testBit t = false) (hdis : ∀ t, nd.testBit t = true → br.testBit t = false) : inM true nd br (nd ||| 2 ^ t) ∧ nd ||| 2 ^ t < 2 ^ T ∧ (nd ||| 2 ^ t).testBit t = true := by
  refine ⟨⟨rfl, fun u h => by rw [Nat.testBit_or, h, Bool.true_or], fun u h => ?_⟩, Nat.or_lt_two_pow hnd (Nat.pow_lt_pow_right (by omega) ht), by rw [Nat.testBit_or, Nat.testBit_two_pow_self, Bool.or_true]⟩
  rw [Nat.testBit_or, Nat.testBit_two_pow]
  have h1 : nd.testBit u = false := by
    cases c : nd.testBit u
    · rfl
    · rw [hdis u c] at h; cases h
  rw [h1, Bool.false_or]
  refine decide_eq_false (fun e => ?_)
  subst e
  rw [hb] at h; cases h
section MR
variable {L d : Nat} {xs : Nat → Int32} {B V : Nat → Nat → Int} {J : Nat → Nat → Int64} {tg : Option Nat}
def knR (P : Bool) (nd br t : Nat) : Int := if P = true then (if br.testBit t = true then 0 else if nd.testBit t = true then 2 else 1) else 0
theorem m_293 (hI : INV B) (q : Qy B V) {T nd br t : Nat} {P : Bool} {x1 x2 : Int32} {v : Int} (hv : v = 12 + (t : Int)) (ht : t < T) (hT : B 1 1 = T) (hnd : nd < 2 ^ T) (hdis : P = true → ∀ t, nd.testBit t = true → br.testBit t = false) {mn : Nat → Bool} (hmn : ∀ s, s < 2 ^ T → (mn s = true ↔ inM P nd br s)) (h112 : ∀ s, s < 2 ^ T → V 112 s = bi (mn s = true)) : Runs (GW L xs) (d + 1) 293 (39, [.ref 93, .int x1, .int x2, (Value.int (Int32.ofInt (v))), (Value.int (Int32.ofInt (0))), (Value.int (Int32.ofInt (0))), (Value.int (Int32.ofInt (0)))], [], zS (eV V) J tg) (some (Value.int (Int32.ofInt (knR P nd br t))), zS (eV V) J tg) := by
  have rT : 0 ≤ B 1 1 ∧ B 1 1 ≤ 12 := hI.1 1 1 (by decide) (by decide)
  have hT12 : T ≤ 12 := by omega
  have hpos := Nat.pow_pos (a := 2) (n := T) (by omega)
  have h2T : 2 ^ T ≤ 4096 := p2_12 hT12
  have kt := m_told (L := L) (xs := xs) (J := J) (tg := tg) (d := d) hI q hT
  obtain ⟨st, rfl, hr⟩ := loopN (g := GW L xs) (d := d + 1) (mid := 293) (σ := Nat × Nat) (fun s z => (39, [.ref 93, .int x1, .int x2, (Value.int (Int32.ofInt (v))), (Value.int (Int32.ofInt (z.1))), (Value.int (Int32.ofInt (z.2))), (Value.int (Int32.ofInt (s)))], [], zS (eV V) J tg)) (fun s z => z = (cnt (fun u => mn u && u.testBit t) s, cnt mn s)) (2 ^ T) (by
    intro s z hs hz
    subst hz
    have e112 := h112 s hs
    have r1 := cnt_rg (p := fun u => mn u && u.testBit t) s
    have r2 := cnt_rg (p := mn) s
    refine ⟨_, rfl, fun r hr => ?_⟩
    apply sg_293_39
    refine ⟨_, _, _, kt, ?_⟩
    have ev : v - 12 = (t : Int) := by omega
    rw [cnt_s, cnt_s] at hr
    by_cases m : mn s = true
    · rw [bi, if_pos m] at e112
      simp (disch := omega) only [e112, ev, eV_at, eV_up, o_lit2, o_add, o_sub, o_mul, o_neg, o_div, o_nat, ix_t, o_lt, o_le, o_eq, o_bi0, o_bi1, o_bib, em_t, o_neg1, o_shl, o_tb, o_tb0, o_tt, o_and, o_xor, o_or, o_max, o_min, an_tb, and_true, true_and, not_true, not_false, if_true, if_false, tn_add, tn_mul, Int.reduceToNat, tn_cast, md_x]
      rw [if_neg (by omega), if_neg (by omega)]
      rw [m, Bool.true_and, if_pos rfl] at hr
      cases b : s.testBit t
      · rw [b] at hr
        rw [if_neg (by decide), Int.add_zero]
        exact hr
      · rw [b] at hr
        rw [if_pos rfl]
        exact hr
    · rw [bi, if_neg m] at e112
      simp (disch := omega) only [e112, eV_at, eV_up, o_lit2, o_add, o_sub, o_mul, o_neg, o_div, o_nat, ix_t, o_lt, o_le, o_eq, o_bi0, o_bi1, o_bib, em_t, o_neg1, o_shl, o_tb, o_tb0, o_tt, o_and, o_xor, o_or, o_max, o_min, an_tb, and_true, true_and, not_true, not_false, if_true, if_false, tn_add, tn_mul, Int.reduceToNat, tn_cast, md_x]
      rw [if_neg (by omega)]
      have m' : mn s = false := by simpa using m
      rw [m', Bool.false_and, if_neg (by decide)] at hr
      exact hr) (2 ^ T) 0 (0, 0) (by omega) rfl
  refine hr _ ?_
  apply sg_293_39
  refine ⟨_, _, _, kt, ?_⟩
  have r1 := cnt_rg (p := fun u => mn u && u.testBit t) (2 ^ T)
  have r2 := cnt_rg (p := mn) (2 ^ T)
  simp (disch := omega) only [eV_at, eV_up, o_lit2, o_add, o_sub, o_mul, o_neg, o_div, o_nat, ix_t, o_lt, o_le, o_eq, o_bi0, o_bi1, o_bib, em_t, o_neg1, o_shl, o_tb, o_tb0, o_tt, o_and, o_xor, o_or, o_max, o_min, an_tb, and_true, true_and, not_true, not_false, if_true, if_false, tn_add, tn_mul, Int.reduceToNat, tn_cast, md_x]
  rw [if_pos (by omega)]
  have z1 := cnt_z (p := fun u => mn u && u.testBit t) (2 ^ T)
  have z2 := (cnt_le (p := fun u => mn u && u.testBit t) (q := mn) (fun s h => by rw [Bool.and_eq_true] at h; exact h.1) (2 ^ T)).2
  generalize cnt (fun u => mn u && u.testBit t) (2 ^ T) = w at *
  generalize cnt mn (2 ^ T) = n at *
  unfold knR
  by_cases p : P = true
  · have hd := hdis p
    subst p
    rw [if_pos rfl]
    by_cases b : br.testBit t = true
    · have hw : w = 0 := z1.mpr (fun s hs => by
        cases c : mn s
        · rfl
        · exact ((hmn s hs).mp c).2.2 t b)
      rw [if_pos b, if_pos (by omega)]
    · have b' : br.testBit t = false := by simpa using b
      obtain ⟨o1, o2, o3⟩ := inM_or hnd ht b' hd
      have hw : w ≠ 0 := fun e => by
        have := z1.mp e _ o2
        rw [(hmn _ o2).mpr o1, o3] at this
        cases this
      rw [if_neg b, if_neg (by omega)]
      by_cases c : nd.testBit t = true
      · have hw' : w = n := z2.mpr (fun s hs m => by rw [m, ((hmn s hs).mp m).2.1 t c]; rfl)
        rw [if_pos c, if_pos (by omega)]
      · have hw' : ¬ w = n := fun e => by
          have := z2.mp e nd hnd ((hmn nd hnd).mpr (inM_nd hnd hd))
          rw [Bool.and_eq_true] at this
          exact c this.2
        rw [if_neg c, if_neg (by omega)]
  · have hw : w = 0 := z1.mpr (fun s hs => by
      cases c : mn s
      · rfl
      · exact absurd ((hmn s hs).mp c).1 p)
    rw [if_neg p, if_pos (by omega)]
end MR
theorem c_knows {L : Nat} {xs : Nat → Int32} {V : Nat → Nat → Int} {J : Nat → Nat → Int64} {tg : Option Nat} (h : INV V) {a b c : Int} (ha : (-2147483648 ≤ a ∧ a < 2147483648)) (hb : (-2147483648 ≤ b ∧ b < 2147483648)) (hc : (-2147483648 ≤ c ∧ c < 2147483648)) : ∃ (v : Int) (U W : Nat → Nat → Int) (J1 : Nat → Nat → Int64), Runs (GW L xs) 40 156 (0, [.ref 0, (Value.int (Int32.ofInt (a))), (Value.int (Int32.ofInt (b))), (Value.int (Int32.ofInt (c)))], [], zS (eV V) J tg) (some (Value.int (Int32.ofInt v)), zS (eV U) J tg) ∧ Runs (GW L xs) 40 293 (0, [.ref 93, (Value.int (Int32.ofInt (a))), (Value.int (Int32.ofInt (b))), (Value.int (Int32.ofInt (c))), vU, vU, vU], [], zS (eV U) J tg) (some (Value.int (Int32.ofInt v)), zS (eV W) J1 tg) ∧ INV W := by
  have h0 := h
  obtain ⟨hR, ⟨hA, hB, hC, hD, hE, hF, hH⟩, h2, h3, h4, h5⟩ := h
  have rD : 0 ≤ V 1 0 ∧ V 1 0 ≤ 12 := hR 1 0 (by decide) (by decide)
  have rT : 0 ≤ V 1 1 ∧ V 1 1 ≤ 12 := hR 1 1 (by decide) (by decide)
  by_cases g1 : 0 ≤ a ∧ a ≤ 5
  · by_cases g2 : 0 ≤ b ∧ b ≤ 999
    · by_cases g3 : 12 ≤ c ∧ c < 12 + V 1 1
      · obtain ⟨T, hT⟩ : ∃ T : Nat, V 1 1 = T := ⟨(V 1 1).toNat, by omega⟩
        obtain ⟨t, hv⟩ : ∃ t : Nat, c = 12 + (t : Int) := ⟨(c - 12).toNat, by omega⟩
        have ev : c - 12 = (t : Int) := by omega
        obtain ⟨U, P, nd, br, qU, hM, u1⟩ := k_51 (L := L) (xs := xs) (J := J) (tg := tg) (d := 34) h0 (Qy.rf h3) hT g1 g2
        obtain ⟨m3, m4, m5, m6, m7, m8, m9⟩ := id hM
        obtain ⟨W, w1, w2, w3⟩ := m_290 (L := L) (xs := xs) (J := J) (tg := tg) (d := 34) h0 qU hT g1 g2
        have qW := qU.nf w1
        have hIU := h0.q qU
        have w4 := m_293 (L := L) (xs := xs) (J := J) (tg := tg) (d := 39) h0 qW (x1 := Int32.ofInt a) (x2 := Int32.ofInt b) hv (by omega) hT m6 m8 (mn := fun s => mndB V a b s (V 7 5).toNat) m9 w2
        have e1 : U 1 1 = V 1 1 := congrFun (qU.1 1 (by omega)) 1
        have k180 := m_180 (L := L) (xs := xs) (J := J) (tg := tg) (d := 38) hIU.1 hIU.2.1.1 (v := c) hc
        refine ⟨knR P nd br t, U, W, J, ?_, ?_, h0.q qW⟩
        · apply sg_156
          refine ⟨_, _, k_165 ha, ?_⟩
          rw [if_neg (b0_f g1)]
          refine ⟨_, _, k_164 (a := 0) (b := 999) hb (by omega) (by omega), ?_⟩
          rw [if_neg (b0_f g2)]
          refine ⟨_, _, k_45 hR hc, ?_⟩
          rw [if_neg (b0_f g3)]
          refine ⟨_, u1, ?_⟩
          simp (disch := omega) only [ev, eV_at, eV_up, o_lit2, o_add, o_sub, o_mul, o_neg, o_div, o_nat, ix_t, o_lt, o_le, o_eq, o_bi0, o_bi1, o_bib, em_t, o_neg1, o_shl, o_tb, o_tb0, o_tt, o_and, o_xor, o_or, o_max, o_min, an_tb, and_true, true_and, not_true, not_false, if_true, if_false, tn_add, tn_mul, Int.reduceToNat, tn_cast, md_x]
          exact ⟨_, _, k_56 h0 (by omega) (by omega) hM, rfl⟩
        · apply sg_293
          refine ⟨_, _, _, k_182 ha, ?_⟩
          rw [if_neg (b0_f g1)]
          refine ⟨_, _, _, k_291 hb, ?_⟩
          rw [if_neg (b0_f g2)]
          refine ⟨_, _, _, k180, ?_⟩
          rw [if_neg (b0_f (by rw [e1]; exact g3))]
          exact ⟨_, _, w3, w4⟩
      · refine ⟨-1, V, V, J, ?_, ?_, h0⟩
        · apply sg_156
          refine ⟨_, _, k_165 ha, ?_⟩
          rw [if_neg (b0_f g1)]
          refine ⟨_, _, k_164 (a := 0) (b := 999) hb (by omega) (by omega), ?_⟩
          rw [if_neg (b0_f g2)]
          refine ⟨_, _, k_45 hR hc, ?_⟩
          rw [if_pos (b0_t g3)]; rfl
        · apply sg_293
          refine ⟨_, _, _, k_182 ha, ?_⟩
          rw [if_neg (b0_f g1)]
          refine ⟨_, _, _, k_291 hb, ?_⟩
          rw [if_neg (b0_f g2)]
          refine ⟨_, _, _, m_180 hR h0.2.1.1 hc, ?_⟩
          rw [if_pos (b0_t g3)]; rfl
    · refine ⟨-1, V, V, J, ?_, ?_, h0⟩
      · apply sg_156
        refine ⟨_, _, k_165 ha, ?_⟩
        rw [if_neg (b0_f g1)]
        refine ⟨_, _, k_164 (a := 0) (b := 999) hb (by omega) (by omega), ?_⟩
        rw [if_pos (b0_t g2)]; rfl
      · apply sg_293
        refine ⟨_, _, _, k_182 ha, ?_⟩
        rw [if_neg (b0_f g1)]
        refine ⟨_, _, _, k_291 hb, ?_⟩
        rw [if_pos (b0_t g2)]; rfl
  · refine ⟨-1, V, V, J, ?_, ?_, h0⟩
    · apply sg_156
      refine ⟨_, _, k_165 ha, ?_⟩
      rw [if_pos (b0_t g1)]; rfl
    · apply sg_293
      refine ⟨_, _, _, k_182 ha, ?_⟩
      rw [if_pos (b0_t g1)]; rfl
