/-! The reference's lemmas, where one DRAWING's PARTS differ in the class. Written by gen_c4b.py. -/
def RN (V : Nat → Nat → Int) : Prop := (∀ p, (rg 2 p).1 ≤ V 2 p ∧ V 2 p ≤ (rg 2 p).2) ∧ ∀ p, (rg 3 p).1 ≤ V 3 p ∧ V 3 p ≤ (rg 3 p).2
theorem RN.up {V W : Nat → Nat → Int} (h : RN V) (_e1 : W 1 = V 1) (e2 : W 2 = V 2) (e3 : W 3 = V 3) (_e4 : W 4 = V 4) (_e71 : W 71 = V 71) (_e81 : W 81 = V 81) : RN W := by
  unfold RN at h ⊢
  rw [e2, e3]; exact h
def Qr (V W : Nat → Nat → Int) : Prop := (∀ c, ((c ≤ 44 ∧ c ≠ 2 ∧ c ≠ 3) ∨ (46 ≤ c ∧ c ≤ 68) ∨ c = 95 ∨ c = 96 ∨ c = 100) → W c = V c) ∧ (∀ p, ¬ (548 ≤ p ∧ p < 570) → W 94 p = V 94 p) ∧ (∀ p, p ≤ 12 → W 93 p = V 93 p) ∧ RN W
def alt (B V : Nat → Nat → Int) : Nat → Nat → Int := fun c => if c = 2 then B 2 else if c = 3 then B 3 else if c = 71 then B 71 else if c = 81 then B 81 else V c
theorem alt_ne {B V : Nat → Nat → Int} {c : Nat} (h : c ≠ 2 ∧ c ≠ 3 ∧ c ≠ 71 ∧ c ≠ 81) : alt B V c = V c := by unfold alt; rw [if_neg h.1, if_neg h.2.1, if_neg h.2.2.1, if_neg h.2.2.2]
theorem Qr.alt {B V : Nat → Nat → Int} (hI : INV B) (q : Qr B V) : Qy B (alt B V) := by
  refine ⟨fun c h => ?_, fun p h => by rw [alt_ne (by omega)]; exact q.2.1 p h, fun p h => by rw [alt_ne (by omega)]; exact q.2.2.1 p h, hI.2.2.2.1.up ?_ rfl rfl ?_ rfl rfl⟩
  · by_cases c2 : c = 2
    · subst c2; rfl
    · by_cases c3 : c = 3
      · subst c3; rfl
      · rw [alt_ne (by omega)]; exact q.1 c (by omega)
  · rw [alt_ne (by omega)]; exact q.1 1 (by omega)
  · rw [alt_ne (by omega)]; exact q.1 4 (by omega)
theorem Qr.g {B V : Nat → Nat → Int} (q : Qr B V) : ∀ c, (46 ≤ c ∧ c ≤ 66) ∨ c = 96 → V c = B c := fun c h => q.1 c (by omega)
theorem INV.gkr {B V : Nat → Nat → Int} (h : INV B) (q : Qr B V) {k : Nat} (hk : k < 4) (e : B 18 1 = k) : GRk V k := (h.2.2.2.2.2.2.2 k (by have := h.lt18; omega)).fr hk q.g
def INVr (V : Nat → Nat → Int) : Prop := RNG V ∧ (RA V 1 94 ∧ True ∧ RC V 1 7 94 ∧ True ∧ RE V 1 7 94 ∧ RF V 1 7 94 ∧ RH V 1 18 94) ∧ True ∧ True ∧ TP V ∧ GR V
theorem INV.qr {B V : Nat → Nat → Int} (hI : INV B) (q : Qr B V) : INVr V := by
  have h := hI.q (q.alt hI)
  obtain ⟨-, ⟨a, -, c, -, e, f, g⟩, -, -, -, -⟩ := h
  refine ⟨fun c p h1 h2 => ?_, ⟨?_, trivial, ?_, trivial, ?_, ?_, ?_⟩, trivial, trivial, hI.2.2.2.2.1.fr (fun c h => q.1 c (by omega)) (q.2.2.1 7 (by omega)) (q.2.2.1 11 (by omega)) (q.2.2.1 12 (by omega)), GR.fr hI.1 hI.2.2.2.2.2 (fun c h => q.1 c (by omega))⟩
  · by_cases c2 : c = 2
    · subst c2; exact q.2.2.2.1 p
    · by_cases c3 : c = 3
      · subst c3; exact q.2.2.2.2 p
      · rw [q.1 c (by omega)]; exact hI.1 c p h1 h2
  · exact a
  · exact c
  · exact e
  · exact f
  · exact g

theorem LKm_ofr {B V : Nat → Nat → Int} (hI : INV B) (q : Qr B V) {dr : Nat} (hd : (dr : Int) < B 1 0) : LKm B V dr dr (B 3 dr).toNat (lkc B dr) := by
  have rD : 0 ≤ B 1 0 ∧ B 1 0 ≤ 12 := hI.1 1 0 (by decide) (by decide)
  obtain ⟨⟨a1, a2, a3, a4, a5, a6⟩, b1, b2⟩ := LKm_of hI (Qy.rf hI.2.2.2.1) hd
  exact ⟨⟨a1, a2, by rw [q.2.1 _ (by omega)]; exact a3, by rw [q.2.1 _ (by omega)]; exact a4, a5, fun i hi => by rw [q.2.1 _ (by omega)]; exact a6 i hi⟩, by rw [q.2.1 _ (by omega)]; exact b1, by rw [q.2.1 _ (by omega)]; exact b2⟩
theorem smG_ofr {B V : Nat → Nat → Int} (q : Qr B V) {k m : Nat} (hk : k < 4) (h : B 18 1 = k) (hm : V (47 + 4 * k) 4 = m) (kd so : Int) (N : Nat → Int) : smG B kd so N = anyB (fun i => decide (V (47 + 4 * k + 2) i = kd) && decide (evC V k i N = so)) m := by
  unfold smG
  rw [if_neg (by omega), h, tn_cast, ← smB_fr q.g hk]
  unfold smB
  rw [hm, tn_cast]
theorem m_241r {L d : Nat} {xs : Nat → Int32} {B V : Nat → Nat → Int} {J : Nat → Nat → Int64} {tg : Option Nat} (hI : INV B) (q : Qr B V) {l dr n : Nat} {p : Nat → Int} (hL : LKm B V l dr n p) {kd so : Int} (hkd : 4 ≤ kd ∧ kd ≤ 5) (hso : 0 ≤ so ∧ so ≤ 1) : ∃ W J2, (∀ c, c ≠ 103 → c ≠ 105 → W c = V c) ∧ Runs (GW L xs) (d + 3) 241 (0, [.ref 93, (Value.int (Int32.ofInt (l))), (Value.int (Int32.ofInt (kd - 3))), (Value.int (Int32.ofInt (so))), vU, vU, vU], [], zS (eV (V)) (J) tg) (some (Value.int (Int32.ofInt (bi (smG B kd so (fct B dr n p) = true)))), zS (eV (W)) (J2) tg) := by
  have hV := hI.qr q
  have hn6 : n ≤ 6 := hL.1.2.1
  have hF : N12 (fct B dr n p) := fun k _ => by have := fct_rg hI.1 (dr := dr) (n := n) (by omega) p k; omega
  have r18 : -1 ≤ B 18 1 ∧ B 18 1 ≤ 3 := hI.1 18 1 (by decide) (by decide)
  have e944 : V 94 4 = B 18 1 := by
    have : V 94 4 = V 18 1 := hV.2.1.2.2.2.2.2.2.1.2.1
    rw [this, q.1 18 (by omega)]
  obtain ⟨A, a1, a2, a3, a4⟩ := m_240 (L := L) (xs := xs) (J := J) (tg := tg) (d := d + 1) hI.1 hL
  by_cases g : B 18 1 = -1
  · refine ⟨A, J, fun c q1 _ => a1 c q1, ?_⟩
    apply sg_241
    refine ⟨_, _, a4, ?_⟩
    apply sg_241_16
    simp (disch := omega) only [e944, eV_at, eV_up, o_lit2, o_add, o_sub, o_mul, o_neg, o_div, o_nat, ix_t, o_lt, o_le, o_eq, o_bi0, o_bi1, o_bib, em_t, o_neg1, o_shl, o_tb, o_tb0, o_tt, o_and, o_xor, o_or, o_max, o_min, an_tb, and_true, true_and, not_true, not_false, if_true, if_false, tn_add, tn_mul, Int.reduceToNat, tn_cast, md_x]
    rw [if_pos (by omega)]
    exact leafI (bi_f (by unfold smG; rw [if_pos g]; decide)).symm
  · obtain ⟨k, hk⟩ : ∃ k : Nat, B 18 1 = k := ⟨(B 18 1).toNat, by omega⟩
    have hk4 : k < 4 := by omega
    have hG : GRk V k := hI.gkr q hk4 hk
    have hG' := hG
    obtain ⟨g1, g2, g3, g4, g5⟩ := hG'
    obtain ⟨m, em⟩ : ∃ m : Nat, V (47 + 4 * k) 4 = m := ⟨(V (47 + 4 * k) 4).toNat, by omega⟩
    rw [smG_ofr q hk4 hk em kd so]
    obtain ⟨r, ⟨W, J2, hW, hre⟩, hr⟩ := loopE (g := GW L xs) (d := d + 3) (mid := 241) (σ := (Nat → Nat → Int) × (Nat → Nat → Int64)) (fun i σ => (16, [.ref 93, (Value.int (Int32.ofInt (l))), (Value.int (Int32.ofInt (kd - 3))), (Value.int (Int32.ofInt (so))), (Value.int (Int32.ofInt (k))), (Value.int (Int32.ofInt (i))), vU], [], zS (eV σ.1) σ.2 tg)) (fun i σ => (∀ c, c ≠ 103 → c ≠ 105 → σ.1 c = V c) ∧ (∀ k, k < 8 → σ.1 103 k = fct B dr n p k) ∧ anyB (fun i => decide (V (47 + 4 * k + 2) i = kd) && decide (evC V k i (fct B dr n p) = so)) i = false) (fun r => ∃ W J2, (∀ c, c ≠ 103 → c ≠ 105 → W c = V c) ∧ r = (some (Value.int (Int32.ofInt (bi (anyB (fun i => decide (V (47 + 4 * k + 2) i = kd) && decide (evC V k i (fct B dr n p) = so)) m = true)))), zS (eV W) J2 tg)) m (by
      intro i ⟨W, J⟩ hi ⟨i1, i2, i3⟩
      dsimp only at i1 i2 i3 ⊢
      have hin : (i : Int) < V (47 + 4 * k) 4 := by omega
      obtain ⟨c0, c1, c2⟩ := hG.cl hin
      obtain ⟨b1, b2, b3, b4, -⟩ := g4 i hin
      have e96 : W 96 = V 96 := i1 96 (by decide) (by decide)
      have x0 : (800 : Int) * (k : Int) = ((800 * k : Nat) : Int) := by omega
      have x1 : ((800 * k : Nat) : Int) + 1 + 3 * (i : Int) = ((800 * k + 1 + 3 * i : Nat) : Int) := by omega
      have x2 : ((800 * k + 1 + 3 * i : Nat) : Int) + 1 = ((800 * k + 2 + 3 * i : Nat) : Int) := by omega
      have x3 : ((800 * k + 1 + 3 * i : Nat) : Int) + 2 = ((800 * k + 3 + 3 * i : Nat) : Int) := by omega
      have hs : anyB (fun i => decide (V (47 + 4 * k + 2) i = kd) && decide (evC V k i (fct B dr n p) = so)) (i + 1) = (anyB (fun i => decide (V (47 + 4 * k + 2) i = kd) && decide (evC V k i (fct B dr n p) = so)) i || (decide (V (47 + 4 * k + 2) i = kd) && decide (evC V k i (fct B dr n p) = so))) := rfl
      by_cases qk : V (47 + 4 * k + 2) i = kd
      · have h6 : V (47 + 4 * k + 2) i ≠ 6 := by omega
        have hnm := hG.nm hin h6
        have hb := evC_b hG hin h6 hF
        rw [if_neg h6] at c2
        obtain ⟨s1, s2, s3, s4, s5⟩ := c1
        obtain ⟨X, J2, y1, y2, y3, y4⟩ := m_239 (L := L) (xs := xs) (J := J) (tg := tg) (d := d) (V := W) (k := k) (st := (V (47 + 4 * k + 3) i).toNat) (ln := oln V k i) (f := opf V k i) (g := opg V k i) (N := fct B dr n p) hk4 s3 s4 (fun j _ => by rw [e96]; rfl) (fun j _ => by rw [e96]; rfl) hF (fun j hj h1 => by
          have hv := s4 j hj
          have := hnm j hj h1
          unfold vop at hv
          exact i2 _ (by omega)) c2
        have y2 : X 105 0 = evC V k i (fct B dr n p) := y2 0 (by omega)
        rw [← s1, ← s2] at y4
        have hX : ∀ c, c ≠ 103 → c ≠ 105 → X c = V c := fun c q1 q2 => by rw [y1 c q2]; exact i1 c q1 q2
        by_cases ev : evC V k i (fct B dr n p) = so
        · right
          refine ⟨_, ⟨X, J2, hX, rfl⟩, ?_⟩
          apply sg_241_16
          simp (disch := omega) only [x0, x1, x2, x3, e96, g3, em, b2, b3, b4, eV_at, eV_up, o_lit2, o_add, o_sub, o_mul, o_neg, o_div, o_nat, ix_t, o_lt, o_le, o_eq, o_bi0, o_bi1, o_bib, em_t, o_neg1, o_shl, o_tb, o_tb0, o_tt, o_and, o_xor, o_or, o_max, o_min, an_tb, and_true, true_and, not_true, not_false, if_true, if_false, tn_add, tn_mul, Int.reduceToNat, tn_cast, md_x]
          rw [if_neg (by omega), if_neg (by omega), if_pos (by omega)]
          refine ⟨_, _, y4, ?_⟩
          simp (disch := omega) only [y2, eV_at, eV_up, o_lit2, o_add, o_sub, o_mul, o_neg, o_div, o_nat, ix_t, o_lt, o_le, o_eq, o_bi0, o_bi1, o_bib, em_t, o_neg1, o_shl, o_tb, o_tb0, o_tt, o_and, o_xor, o_or, o_max, o_min, an_tb, and_true, true_and, not_true, not_false, if_true, if_false, tn_add, tn_mul, Int.reduceToNat, tn_cast, md_x]
          rw [if_pos ev]
          exact leafI (bi_t (anyB_t.mpr ⟨i, hi, by rw [decide_eq_true qk, decide_eq_true ev]; rfl⟩)).symm
        · left
          refine ⟨(X, J2), ⟨hX, fun k hk => by dsimp only; rw [y1 103 (by decide)]; exact i2 k hk, by rw [hs, i3, decide_eq_false ev, Bool.and_false]; rfl⟩, fun r hr => ?_⟩
          apply sg_241_16
          simp (disch := omega) only [x0, x1, x2, x3, e96, g3, em, b2, b3, b4, eV_at, eV_up, o_lit2, o_add, o_sub, o_mul, o_neg, o_div, o_nat, ix_t, o_lt, o_le, o_eq, o_bi0, o_bi1, o_bib, em_t, o_neg1, o_shl, o_tb, o_tb0, o_tt, o_and, o_xor, o_or, o_max, o_min, an_tb, and_true, true_and, not_true, not_false, if_true, if_false, tn_add, tn_mul, Int.reduceToNat, tn_cast, md_x]
          rw [if_neg (by omega), if_neg (by omega), if_pos (by omega)]
          refine ⟨_, _, y4, ?_⟩
          simp (disch := omega) only [y2, eV_at, eV_up, o_lit2, o_add, o_sub, o_mul, o_neg, o_div, o_nat, ix_t, o_lt, o_le, o_eq, o_bi0, o_bi1, o_bib, em_t, o_neg1, o_shl, o_tb, o_tb0, o_tt, o_and, o_xor, o_or, o_max, o_min, an_tb, and_true, true_and, not_true, not_false, if_true, if_false, tn_add, tn_mul, Int.reduceToNat, tn_cast, md_x]
          rw [if_neg ev]
          exact hr
      · left
        refine ⟨(W, J), ⟨i1, i2, by rw [hs, i3, decide_eq_false qk]; rfl⟩, fun r hr => ?_⟩
        apply sg_241_16
        simp (disch := omega) only [x0, x1, e96, g3, em, b2, eV_at, eV_up, o_lit2, o_add, o_sub, o_mul, o_neg, o_div, o_nat, ix_t, o_lt, o_le, o_eq, o_bi0, o_bi1, o_bib, em_t, o_neg1, o_shl, o_tb, o_tb0, o_tt, o_and, o_xor, o_or, o_max, o_min, an_tb, and_true, true_and, not_true, not_false, if_true, if_false, tn_add, tn_mul, Int.reduceToNat, tn_cast, md_x]
        rw [if_neg (by omega), if_neg (by omega), if_neg (by omega)]
        exact hr) (by
      intro ⟨W, J⟩ ⟨i1, i2, i3⟩
      dsimp only at i1 i2 i3 ⊢
      have e96 : W 96 = V 96 := i1 96 (by decide) (by decide)
      have x0 : (800 : Int) * (k : Int) = ((800 * k : Nat) : Int) := by omega
      refine ⟨_, ⟨W, J, i1, rfl⟩, ?_⟩
      apply sg_241_16
      simp (disch := omega) only [x0, e96, g3, em, eV_at, eV_up, o_lit2, o_add, o_sub, o_mul, o_neg, o_div, o_nat, ix_t, o_lt, o_le, o_eq, o_bi0, o_bi1, o_bib, em_t, o_neg1, o_shl, o_tb, o_tb0, o_tt, o_and, o_xor, o_or, o_max, o_min, an_tb, and_true, true_and, not_true, not_false, if_true, if_false, tn_add, tn_mul, Int.reduceToNat, tn_cast, md_x]
      rw [if_neg (by omega), if_pos (by omega)]
      exact leafI (bi_f (by rw [i3]; decide)).symm) m 0 (A, J) (by omega) ⟨fun c q1 _ => a1 c q1, a2, rfl⟩
    subst hre
    refine ⟨W, J2, hW, ?_⟩
    apply sg_241
    refine ⟨_, _, a4, ?_⟩
    rw [eV_at, e944, hk]
    exact hr
theorem m_242r {L d : Nat} {xs : Nat → Int32} {B V : Nat → Nat → Int} {J : Nat → Nat → Int64} {tg : Option Nat} (hI : INV B) (q : Qr B V) {l dr n : Nat} {p : Nat → Int} (hL : LKm B V l dr n p) : ∃ W J2, (∀ c, c ≠ 103 → c ≠ 105 → W c = V c) ∧ Runs (GW L xs) (d + 4) 242 (0, [.ref 93, (Value.int (Int32.ofInt (l)))], [], zS (eV (V)) (J) tg) (some (Value.int (Int32.ofInt (bi (smG B 4 1 (fct B dr n p) = true)))), zS (eV (W)) (J2) tg) := by
  obtain ⟨W, J2, w1, w2⟩ := m_241r (L := L) (xs := xs) (J := J) (tg := tg) (d := d) hI q hL (kd := 4) (so := 1) (by omega) (by omega)
  exact ⟨W, J2, w1, sg_242 _ _ _ _ ⟨_, _, _, w2, o_01 (bi_rg _), rfl⟩⟩
theorem m_243r {L d : Nat} {xs : Nat → Int32} {B V : Nat → Nat → Int} {J : Nat → Nat → Int64} {tg : Option Nat} (hI : INV B) (q : Qr B V) {l dr n : Nat} {p : Nat → Int} (hL : LKm B V l dr n p) : ∃ W J2, (∀ c, c ≠ 103 → c ≠ 105 → W c = V c) ∧ Runs (GW L xs) (d + 4) 243 (0, [.ref 93, (Value.int (Int32.ofInt (l)))], [], zS (eV (V)) (J) tg) (some (Value.int (Int32.ofInt (bi (¬ smG B 5 0 (fct B dr n p) = true)))), zS (eV (W)) (J2) tg) := by
  obtain ⟨W, J2, w1, w2⟩ := m_241r (L := L) (xs := xs) (J := J) (tg := tg) (d := d) hI q hL (kd := 5) (so := 0) (by omega) (by omega)
  refine ⟨W, J2, w1, sg_243 _ _ _ _ ⟨_, _, _, w2, ?_⟩⟩
  by_cases g : smG B 5 0 (fct B dr n p) = true
  · rw [if_neg (b0_f g)]; exact leafI (bi_f (fun h => h g)).symm
  · rw [if_pos (b0_t g)]; exact leafI (bi_t g).symm
theorem m_245r {L d : Nat} {xs : Nat → Int32} {B V : Nat → Nat → Int} {J : Nat → Nat → Int64} {tg : Option Nat} (hI : INV B) (q : Qr B V) {l dr n : Nat} {p : Nat → Int} (hL : LKm B V l dr n p) {took : Int} (ht : -1 ≤ took ∧ took ≤ 11) : ∃ W J2, (∀ c, c ≠ 103 → c ≠ 105 → W c = V c) ∧ Runs (GW L xs) (d + 5) 245 (0, [.ref 93, (Value.int (Int32.ofInt (l))), (Value.int (Int32.ofInt (mz took)))], [], zS (eV (V)) (J) tg) (some (Value.int (Int32.ofInt (bi (rt (B 5 dr) (bi (smG B 4 1 (fct B dr n p) = true)) (B 6 dr) took)))), zS (eV (W)) (J2) tg) := by
  have r5 : -1 ≤ B 5 dr ∧ B 5 dr ≤ 11 := hI.1 5 dr (by decide) (by decide)
  have r6 : 0 ≤ B 6 dr ∧ B 6 dr ≤ 1 := hI.1 6 dr (by decide) (by decide)
  obtain ⟨m1, m2, m3, m4⟩ := mz_rg r5
  obtain ⟨t1, t2, t3, t4⟩ := mz_rg ht
  have hl : l < 25 := hL.1.1
  have k2 := k_184 (L := L) (xs := xs) (J := J) (tg := tg) (d := d + 4) (V := V) (l := l) (w := 2) (by omega)
  rw [hL.2.1] at k2
  by_cases g1 : B 5 dr = -1
  · refine ⟨V, J, fun _ _ _ => rfl, ?_⟩
    apply sg_245
    refine ⟨_, _, _, k2, ?_⟩
    simp (disch := omega) only [eV_at, eV_up, o_lit2, o_add, o_sub, o_mul, o_neg, o_div, o_nat, ix_t, o_lt, o_le, o_eq, o_bi0, o_bi1, o_bib, em_t, o_neg1, o_shl, o_tb, o_tb0, o_tt, o_and, o_xor, o_or, o_max, o_min, an_tb, and_true, true_and, not_true, not_false, if_true, if_false, tn_add, tn_mul, Int.reduceToNat, tn_cast, md_x]
    rw [if_pos (by omega)]
    exact leafI (bi_f (fun h => h.1 (h.2.2.trans g1))).symm
  · by_cases g2 : took = B 5 dr
    · obtain ⟨W, J2, w1, w2⟩ := m_242r (L := L) (xs := xs) (J := J) (tg := tg) (d := d) hI q hL
      have k3 := k_184 (L := L) (xs := xs) (J := J2) (tg := tg) (d := d + 4) (V := W) (l := l) (w := 3) (by omega)
      rw [w1 94 (by decide) (by decide), hL.2.2] at k3
      refine ⟨W, J2, w1, ?_⟩
      apply sg_245
      refine ⟨_, _, _, k2, ?_⟩
      simp (disch := omega) only [eV_at, eV_up, o_lit2, o_add, o_sub, o_mul, o_neg, o_div, o_nat, ix_t, o_lt, o_le, o_eq, o_bi0, o_bi1, o_bib, em_t, o_neg1, o_shl, o_tb, o_tb0, o_tt, o_and, o_xor, o_or, o_max, o_min, an_tb, and_true, true_and, not_true, not_false, if_true, if_false, tn_add, tn_mul, Int.reduceToNat, tn_cast, md_x]
      rw [if_neg (by omega)]
      refine ⟨_, _, _, k2, ?_⟩
      rw [g2, if_pos rfl]
      refine ⟨_, _, _, w2, _, _, _, k3, ?_⟩
      have rb := bi_rg (smG B 4 1 (fct B dr n p) = true)
      generalize bi (smG B 4 1 (fct B dr n p) = true) = dn at rb ⊢
      simp (disch := omega) only [eV_at, eV_up, o_lit2, o_add, o_sub, o_mul, o_neg, o_div, o_nat, ix_t, o_lt, o_le, o_eq, o_bi0, o_bi1, o_bib, em_t, o_neg1, o_shl, o_tb, o_tb0, o_tt, o_and, o_xor, o_or, o_max, o_min, an_tb, and_true, true_and, not_true, not_false, if_true, if_false, tn_add, tn_mul, Int.reduceToNat, tn_cast, md_x]
      by_cases c1 : B 6 dr = 1
      · rw [if_pos c1]
        by_cases c2 : dn = 1
        · rw [if_pos c2]; exact leafI (bi_t ⟨by omega, by omega, rfl⟩).symm
        · rw [if_neg c2]; exact leafI (bi_f (fun h => by have := h.2.1; omega)).symm
      · rw [if_neg c1]
        by_cases c2 : dn = 0
        · rw [if_pos c2]; exact leafI (bi_t ⟨by omega, by omega, rfl⟩).symm
        · rw [if_neg c2]; exact leafI (bi_f (fun h => by have := h.2.1; omega)).symm
    · refine ⟨V, J, fun _ _ _ => rfl, ?_⟩
      apply sg_245
      refine ⟨_, _, _, k2, ?_⟩
      simp (disch := omega) only [eV_at, eV_up, o_lit2, o_add, o_sub, o_mul, o_neg, o_div, o_nat, ix_t, o_lt, o_le, o_eq, o_bi0, o_bi1, o_bib, em_t, o_neg1, o_shl, o_tb, o_tb0, o_tt, o_and, o_xor, o_or, o_max, o_min, an_tb, and_true, true_and, not_true, not_false, if_true, if_false, tn_add, tn_mul, Int.reduceToNat, tn_cast, md_x]
      rw [if_neg (by omega)]
      refine ⟨_, _, _, k2, ?_⟩
      simp (disch := omega) only [eV_at, eV_up, o_lit2, o_add, o_sub, o_mul, o_neg, o_div, o_nat, ix_t, o_lt, o_le, o_eq, o_bi0, o_bi1, o_bib, em_t, o_neg1, o_shl, o_tb, o_tb0, o_tt, o_and, o_xor, o_or, o_max, o_min, an_tb, and_true, true_and, not_true, not_false, if_true, if_false, tn_add, tn_mul, Int.reduceToNat, tn_cast, md_x]
      rw [if_neg (by omega)]
      exact leafI (bi_f (fun h => g2 h.2.2)).symm

theorem hmG_ofr {B V : Nat → Nat → Int} (q : Qr B V) {k : Nat} (hk : k < 4) (h : B 18 1 = k) (N : Nat → Int) : hmG B N = if V (47 + 4 * k) 6 = -1 then 1 else max 0 (evC V k (V (47 + 4 * k) 6).toNat N) := by
  unfold hmG
  rw [if_neg (by omega), h, tn_cast, ← q.g (47 + 4 * k) (by omega), ← evC_fr q.g hk]
theorem m_247r {L d : Nat} {xs : Nat → Int32} {B V : Nat → Nat → Int} {J : Nat → Nat → Int64} {tg : Option Nat} (hI : INV B) (q : Qr B V) {l dr n st : Nat} {p : Nat → Int} (hL : LKm B V l dr n p) {took land : Int} (ht : -1 ≤ took ∧ took ≤ 11) (hl : -1 ≤ land ∧ land ≤ 5) (hst : st < 6) : ∃ W J2, (∀ c, c ≠ 103 → c ≠ 105 → W c = V c) ∧ Runs (GW L xs) (d + 5) 247 (0, [.ref 93, (Value.int (Int32.ofInt (l))), (Value.int (Int32.ofInt (mz took))), (Value.int (Int32.ofInt (land))), (Value.int (Int32.ofInt (st))), vU, vU, vU, vU], [], zS (eV (V)) (J) tg) (some (Value.int (Int32.ofInt (hmG B (fch (fct B dr n p) took (if bi (smG B 4 1 (fct B dr n p) = true) = B 6 dr then 0 else 1) land st)))), zS (eV (W)) (J2) tg) := by
  have hV := hI.qr q
  have hl25 : l < 25 := hL.1.1
  have hn6 : n ≤ 6 := hL.1.2.1
  have hF0 : N12 (fct B dr n p) := fun k _ => by have := fct_rg hI.1 (dr := dr) (n := n) (by omega) p k; omega
  have r18 : -1 ≤ B 18 1 ∧ B 18 1 ≤ 3 := hI.1 18 1 (by decide) (by decide)
  have r6 : 0 ≤ B 6 dr ∧ B 6 dr ≤ 1 := hI.1 6 dr (by decide) (by decide)
  have rb := bi_rg (smG B 4 1 (fct B dr n p) = true)
  have e944 : V 94 4 = B 18 1 := by
    have : V 94 4 = V 18 1 := hV.2.1.2.2.2.2.2.2.1.2.1
    rw [this, q.1 18 (by omega)]
  obtain ⟨t1, t2, t3, t4⟩ := mz_rg ht
  obtain ⟨A, J1, a1, a2⟩ := m_242r (L := L) (xs := xs) (J := J) (tg := tg) (d := d) hI q hL
  generalize bi (smG B 4 1 (fct B dr n p) = true) = dn at rb a2 ⊢
  obtain ⟨tur, htur⟩ : ∃ t : Int, (if dn = B 6 dr then (0 : Int) else 1) = t := ⟨_, rfl⟩
  have rtur : 0 ≤ tur ∧ tur ≤ 1 := by rw [← htur]; split <;> omega
  rw [htur]
  have hF : N12 (fch (fct B dr n p) took tur land st) := fch_n hF0 (by omega) (by omega) (by omega) (by omega)
  by_cases g : B 18 1 = -1
  · refine ⟨A, J1, a1, ?_⟩
    apply sg_247
    refine ⟨_, _, _, a2, ?_⟩
    apply sg_247_18
    simp (disch := omega) only [e944, eV_at, eV_up, o_lit2, o_add, o_sub, o_mul, o_neg, o_div, o_nat, ix_t, o_lt, o_le, o_eq, o_bi0, o_bi1, o_bib, em_t, o_neg1, o_shl, o_tb, o_tb0, o_tt, o_and, o_xor, o_or, o_max, o_min, an_tb, and_true, true_and, not_true, not_false, if_true, if_false, tn_add, tn_mul, Int.reduceToNat, tn_cast, md_x]
    rw [if_pos (by omega)]
    unfold hmG
    rw [if_pos g]
  · obtain ⟨k, hk⟩ : ∃ k : Nat, B 18 1 = k := ⟨(B 18 1).toNat, by omega⟩
    have hk4 : k < 4 := by omega
    have hG : GRk V k := hI.gkr q hk4 hk
    have hG' := hG
    obtain ⟨g1, g2, g3, g4, g5⟩ := hG'
    obtain ⟨m, em⟩ : ∃ m : Nat, V (47 + 4 * k) 4 = m := ⟨(V (47 + 4 * k) 4).toNat, by omega⟩
    have x0 : (800 : Int) * (k : Int) = ((800 * k : Nat) : Int) := by omega
    rw [hmG_ofr q hk4 hk]
    obtain ⟨r, ⟨W, J2, hW, hre⟩, hr⟩ := loopE (g := GW L xs) (d := d + 5) (mid := 247) (σ := (Nat → Nat → Int) × (Nat → Nat → Int64)) (fun i σ => (18, [.ref 93, (Value.int (Int32.ofInt (l))), (Value.int (Int32.ofInt (mz took))), (Value.int (Int32.ofInt (land))), (Value.int (Int32.ofInt (st))), (Value.int (Int32.ofInt (k))), (Value.int (Int32.ofInt (dn))), (Value.int (Int32.ofInt (i))), vU], [], zS (eV σ.1) σ.2 tg)) (fun i σ => (∀ c, c ≠ 103 → c ≠ 105 → σ.1 c = V c) ∧ ∀ j, j < i → V (47 + 4 * k + 2) j ≠ 6) (fun r => ∃ W J2, (∀ c, c ≠ 103 → c ≠ 105 → W c = V c) ∧ r = (some (Value.int (Int32.ofInt (if V (47 + 4 * k) 6 = -1 then 1 else max 0 (evC V k (V (47 + 4 * k) 6).toNat (fch (fct B dr n p) took tur land st))))), zS (eV W) J2 tg)) m (by
      intro i ⟨W, J⟩ hi ⟨i1, i2⟩
      dsimp only at i1 i2 ⊢
      have hin : (i : Int) < V (47 + 4 * k) 4 := by omega
      obtain ⟨c0, c1, c2⟩ := hG.cl hin
      obtain ⟨b1, b2, b3, b4, -⟩ := g4 i hin
      have e96 : W 96 = V 96 := i1 96 (by decide) (by decide)
      have x1 : ((800 * k : Nat) : Int) + 1 + 3 * (i : Int) = ((800 * k + 1 + 3 * i : Nat) : Int) := by omega
      have x2 : ((800 * k + 1 + 3 * i : Nat) : Int) + 1 = ((800 * k + 2 + 3 * i : Nat) : Int) := by omega
      have x3 : ((800 * k + 1 + 3 * i : Nat) : Int) + 2 = ((800 * k + 3 + 3 * i : Nat) : Int) := by omega
      by_cases q6 : V (47 + 4 * k + 2) i = 6
      · right
        have hh : V (47 + 4 * k) 6 = i := by
          rcases g5 with g5 | g5
          · exact absurd q6 (g5.2 i hin)
          · exact ((g5.2.2 i hin).mp q6).symm
        rw [if_pos q6] at c2
        have hev := evC_v hG hin q6 hF
        obtain ⟨s1, s2, s3, s4, s5⟩ := c1
        obtain ⟨Y, y1, y2, y3, y4⟩ := m_240 (L := L) (xs := xs) (J := J) (tg := tg) (d := d + 3) hI.1 (hL.fr (i1 94 (by decide) (by decide)))
        have k3 := k_184 (L := L) (xs := xs) (J := J) (tg := tg) (d := d + 4) (V := up2 Y 103 8 took) (l := l) (w := 3) (by omega)
        rw [w_nc _ _ _ _ (by decide), y1 94 (by decide), i1 94 (by decide) (by decide), hL.2.2] at k3
        have hZ : ∀ c, c ≠ 103 → c ≠ 105 → (up2 (up2 (up2 (up2 Y 103 8 took) 103 9 tur) 103 10 land) 103 11 st) c = V c := fun c q1 q2 => by rw [w_ne _ _ _ _ q1, w_ne _ _ _ _ q1, w_ne _ _ _ _ q1, w_ne _ _ _ _ q1, y1 c q1]; exact i1 c q1 q2
        obtain ⟨X, J2, z1, z2, z3, z4⟩ := m_239 (L := L) (xs := xs) (J := J) (tg := tg) (d := d + 2) (V := up2 (up2 (up2 (up2 Y 103 8 took) 103 9 tur) 103 10 land) 103 11 st) (k := k) (st := (V (47 + 4 * k + 3) i).toNat) (ln := oln V k i) (f := opf V k i) (g := opg V k i) (N := fch (fct B dr n p) took tur land st) hk4 s3 s4 (fun j _ => by rw [hZ 96 (by decide) (by decide)]; rfl) (fun j _ => by rw [hZ 96 (by decide) (by decide)]; rfl) hF (fun j hj h1 => by
          have hv := s4 j hj
          unfold vop at hv
          unfold fch
          rw [w_at, w_at, w_at, w_at]
          split
          · rfl
          · split
            · rfl
            · split
              · rfl
              · split
                · rfl
                · exact y2 _ (by omega)) c2
        rw [← s1, ← s2] at z4
        have z3 : J2 104 0 = Int64.ofInt (evC V k i (fch (fct B dr n p) took tur land st)) := z3 0 (by omega)
        have hX : ∀ c, c ≠ 103 → c ≠ 105 → X c = V c := fun c q1 q2 => by rw [z1 c q2]; exact hZ c q1 q2
        refine ⟨_, ⟨X, J2, hX, rfl⟩, ?_⟩
        rw [hh, if_neg (by omega), tn_cast]
        have tail : Runs (GW L xs) (d + 5) 247 (91, [.ref 93, (Value.int (Int32.ofInt (l))), (Value.int (Int32.ofInt (mz took))), (Value.int (Int32.ofInt (land))), (Value.int (Int32.ofInt (st))), (Value.int (Int32.ofInt (k))), (Value.int (Int32.ofInt (dn))), (Value.int (Int32.ofInt (i))), (Value.int (Int32.ofInt ((800 * k + 1 + 3 * i : Nat))))], [(Value.int (Int32.ofInt (took))), .int 8, .ref 103], zS (eV Y) J tg) (some (Value.int (Int32.ofInt (max 0 (evC V k i (fch (fct B dr n p) took tur land st))))), zS (eV X) J2 tg) := by
          apply sg_247_91
          simp (disch := omega) only [eV_at, eV_up, o_lit2, o_add, o_sub, o_mul, o_neg, o_div, o_nat, ix_t, o_lt, o_le, o_eq, o_bi0, o_bi1, o_bib, em_t, o_neg1, o_shl, o_tb, o_tb0, o_tt, o_and, o_xor, o_or, o_max, o_min, an_tb, and_true, true_and, not_true, not_false, if_true, if_false, tn_add, tn_mul, Int.reduceToNat, tn_cast, md_x]
          refine ⟨_, _, _, k3, ?_⟩
          have t123 : Runs (GW L xs) (d + 5) 247 (123, [.ref 93, (Value.int (Int32.ofInt (l))), (Value.int (Int32.ofInt (mz took))), (Value.int (Int32.ofInt (land))), (Value.int (Int32.ofInt (st))), (Value.int (Int32.ofInt (k))), (Value.int (Int32.ofInt (dn))), (Value.int (Int32.ofInt (i))), (Value.int (Int32.ofInt ((800 * k + 1 + 3 * i : Nat))))], [(Value.int (Int32.ofInt (tur))), .int 9, .ref 103], zS (eV (up2 Y 103 8 took)) J tg) (some (Value.int (Int32.ofInt (max 0 (evC V k i (fch (fct B dr n p) took tur land st))))), zS (eV X) J2 tg) := by
            apply sg_247_123
            have y96 : Y 96 = V 96 := by rw [y1 96 (by decide), e96]
            simp (disch := omega) only [x2, x3, w_nc, y96, b3, b4, eV_at, eV_up, o_lit2, o_add, o_sub, o_mul, o_neg, o_div, o_nat, ix_t, o_lt, o_le, o_eq, o_bi0, o_bi1, o_bib, em_t, o_neg1, o_shl, o_tb, o_tb0, o_tt, o_and, o_xor, o_or, o_max, o_min, an_tb, and_true, true_and, not_true, not_false, if_true, if_false, tn_add, tn_mul, Int.reduceToNat, tn_cast, md_x]
            refine ⟨_, _, z4, ?_⟩
            rw [z3, show (0 : Int64) = Int64.ofInt 0 from rfl]
            simp (disch := omega) only [lgo_ge, l_le, l_32]
            by_cases ce : 0 ≤ evC V k i (fch (fct B dr n p) took tur land st)
            · rw [if_pos ce]; exact leafI (by omega)
            · rw [if_neg ce]; exact leafI (by omega)
          simp (disch := omega) only [eV_at, eV_up, o_lit2, o_add, o_sub, o_mul, o_neg, o_div, o_nat, ix_t, o_lt, o_le, o_eq, o_bi0, o_bi1, o_bib, em_t, o_neg1, o_shl, o_tb, o_tb0, o_tt, o_and, o_xor, o_or, o_max, o_min, an_tb, and_true, true_and, not_true, not_false, if_true, if_false, tn_add, tn_mul, Int.reduceToNat, tn_cast, md_x]
          by_cases c6 : B 6 dr = 1
          · rw [if_pos c6]
            apply sg_247_115
            simp (disch := omega) only [eV_at, eV_up, o_lit2, o_add, o_sub, o_mul, o_neg, o_div, o_nat, ix_t, o_lt, o_le, o_eq, o_bi0, o_bi1, o_bib, em_t, o_neg1, o_shl, o_tb, o_tb0, o_tt, o_and, o_xor, o_or, o_max, o_min, an_tb, and_true, true_and, not_true, not_false, if_true, if_false, tn_add, tn_mul, Int.reduceToNat, tn_cast, md_x]
            by_cases cd : dn = 1
            · rw [if_pos cd]
              rw [if_pos (by omega)] at htur
              subst htur
              exact t123
            · rw [if_neg cd]
              rw [if_neg (by omega)] at htur
              subst htur
              exact t123
          · rw [if_neg c6]
            apply sg_247_115
            simp (disch := omega) only [eV_at, eV_up, o_lit2, o_add, o_sub, o_mul, o_neg, o_div, o_nat, ix_t, o_lt, o_le, o_eq, o_bi0, o_bi1, o_bib, em_t, o_neg1, o_shl, o_tb, o_tb0, o_tt, o_and, o_xor, o_or, o_max, o_min, an_tb, and_true, true_and, not_true, not_false, if_true, if_false, tn_add, tn_mul, Int.reduceToNat, tn_cast, md_x]
            by_cases cd : dn = 0
            · rw [if_pos cd]
              rw [if_pos (by omega)] at htur
              subst htur
              exact t123
            · rw [if_neg cd]
              rw [if_neg (by omega)] at htur
              subst htur
              exact t123
        apply sg_247_18
        have b2' : V 96 (800 * k + 1 + 3 * i) = 3 := by omega
        simp (disch := omega) only [x0, x1, e96, g3, em, b2', eV_at, eV_up, o_lit2, o_add, o_sub, o_mul, o_neg, o_div, o_nat, ix_t, o_lt, o_le, o_eq, o_bi0, o_bi1, o_bib, em_t, o_neg1, o_shl, o_tb, o_tb0, o_tt, o_and, o_xor, o_or, o_max, o_min, an_tb, and_true, true_and, not_true, not_false, if_true, if_false, tn_add, tn_mul, Int.reduceToNat, tn_cast, md_x]
        rw [if_neg (by omega), if_neg (by omega)]
        refine ⟨_, _, y4, ?_⟩
        by_cases cn : 0 ≤ mz took
        · rw [if_pos cn]
          have e : mz took - 12 = took := by omega
          rw [e]
          exact tail
        · rw [if_neg cn]
          have e : took = -1 := by omega
          rw [← e]
          exact tail
      · left
        refine ⟨(W, J), ⟨i1, fun j hj => by by_cases e : j = i
                                            · subst e; exact q6
                                            · exact i2 j (by omega)⟩, fun r hr => ?_⟩
        apply sg_247_18
        simp (disch := omega) only [x0, x1, e96, g3, em, b2, eV_at, eV_up, o_lit2, o_add, o_sub, o_mul, o_neg, o_div, o_nat, ix_t, o_lt, o_le, o_eq, o_bi0, o_bi1, o_bib, em_t, o_neg1, o_shl, o_tb, o_tb0, o_tt, o_and, o_xor, o_or, o_max, o_min, an_tb, and_true, true_and, not_true, not_false, if_true, if_false, tn_add, tn_mul, Int.reduceToNat, tn_cast, md_x]
        rw [if_neg (by omega), if_neg (by omega), if_neg (by omega)]
        exact hr) (by
      intro ⟨W, J⟩ ⟨i1, i2⟩
      dsimp only at i1 i2 ⊢
      have e96 : W 96 = V 96 := i1 96 (by decide) (by decide)
      refine ⟨_, ⟨W, J, i1, rfl⟩, ?_⟩
      apply sg_247_18
      simp (disch := omega) only [x0, e96, g3, em, eV_at, eV_up, o_lit2, o_add, o_sub, o_mul, o_neg, o_div, o_nat, ix_t, o_lt, o_le, o_eq, o_bi0, o_bi1, o_bib, em_t, o_neg1, o_shl, o_tb, o_tb0, o_tt, o_and, o_xor, o_or, o_max, o_min, an_tb, and_true, true_and, not_true, not_false, if_true, if_false, tn_add, tn_mul, Int.reduceToNat, tn_cast, md_x]
      rw [if_neg (by omega), if_pos (by omega)]
      have e6 : V (47 + 4 * k) 6 = -1 := by
        rcases g5 with g5 | g5
        · exact g5.1
        · exact absurd ((g5.2.2 (V (47 + 4 * k) 6).toNat (by omega)).mpr (by omega)) (i2 _ (by omega))
      rw [if_pos e6]) m 0 (A, J1) (by omega) ⟨a1, fun j hj => by omega⟩
    subst hre
    refine ⟨W, J2, hW, ?_⟩
    apply sg_247
    refine ⟨_, _, _, a2, ?_⟩
    rw [eV_at, e944, hk]
    exact hr
theorem m_203gr {L d : Nat} {xs : Nat → Int32} {B V : Nat → Nat → Int} {J : Nat → Nat → Int64} {tg : Option Nat} (hI : INV B) (q : Qr B V) {l n st : Nat} {p : Nat → Int} {cp : Int} (hL : okL V l n p cp) (hs : st < 6) : ∃ W, (∀ c, ¬ (97 ≤ c ∧ c ≤ 99) → W c = V c) ∧ (∀ t : Nat, (t : Int) < B 1 1 → W 99 t = scp B n p cp st t) ∧ Runs (GW L xs) (d + 4) 203 (0, [.ref 93, (Value.int (Int32.ofInt (l))), (Value.int (Int32.ofInt (st))), vU], [], zS (eV (V)) J tg) (none, zS (eV (W)) J tg) := by
  have hV := hI.qr q
  obtain ⟨hR, ⟨hA, -, hC, -, hE, hF, hH⟩, -⟩ := hV
  have rT : 0 ≤ V 1 1 ∧ V 1 1 ≤ 12 := hR 1 1 (by decide) (by decide)
  have e11 : V 1 1 = B 1 1 := by rw [q.1 1 (by omega)]
  obtain ⟨T, hT⟩ : ∃ T : Nat, V 1 1 = T := ⟨(V 1 1).toNat, by omega⟩
  have hT94 : V 94 2 = T := by rw [hA.2.1, hT]
  obtain ⟨W, ⟨i1, i2⟩, hr⟩ := loopN (g := GW L xs) (d := d + 4) (mid := 203) (σ := Nat → Nat → Int) (fun t W => (2, [.ref 93, (Value.int (Int32.ofInt (l))), (Value.int (Int32.ofInt (st))), (Value.int (Int32.ofInt (t)))], [], zS (eV W) J tg)) (fun i W => (∀ c, ¬ (97 ≤ c ∧ c ≤ 99) → W c = V c) ∧ (∀ t : Nat, t < i → W 99 t = scp B n p cp st t)) T (by
    intro t W ht ⟨i1, i2⟩
    have hRW : RNG W := hR.fr fun c q => i1 c (by omega)
    have e94W : W 94 = V 94 := i1 94 (by omega)
    have hb : okL V (12 + t) (B 3 (12 + t)).toNat (lkc B (12 + t)) (B 4 (12 + t)) := by
      obtain ⟨a1, a2, a3, a4, a5, a6⟩ := okL_of hI.1 hI.2.1.2.1 (l := 12 + t) (by unfold isT; omega)
      exact ⟨a1, a2, by rw [q.2.1 _ (by omega)]; exact a3, by rw [q.2.1 _ (by omega)]; exact a4, a5, fun i hi => by rw [q.2.1 _ (by omega)]; exact a6 i hi⟩
    obtain ⟨X, x1, x2⟩ := k_197 (L := L) (xs := xs) (J := J) (tg := tg) (d := d) (V := W) (a := l) (b := 12 + t) (by have := okW_of hR hA; unfold okW at this ⊢; rw [e94W]; exact this) (by unfold okL at hL ⊢; rw [e94W]; exact hL) (by unfold okL at hb ⊢; rw [e94W]; exact hb)
    rw [e94W, q.2.1 8 (by omega), q.2.1 9 (by omega), q.2.1 10 (by omega), q.2.1 11 (by omega), FARg_p hI.1 hI.2.1.1] at x2
    have e94 : X 94 = V 94 := by rw [x1 94 (by decide) (by decide), i1 94 (by omega)]
    have hl : V 94 (700 + 12 * st + t) = B 10 (st * 12 + t) := by
      have := hE.2.2.1 (st * 12 + t) (by omega)
      have e : 700 + (st * 12 + t) = 700 + 12 * st + t := by omega
      rw [e] at this; rw [← q.1 10 (by omega)]; exact this
    refine ⟨up2 X 99 t (scp B n p cp st t), ⟨fun c q => by rw [w_ne _ _ _ _ (by omega), x1 c (by omega) (by omega)]; exact i1 c q, fun j hj => ?_⟩, fun r hr => ?_⟩
    · rw [w_at]
      by_cases q : j = t
      · subst q; rw [if_pos rfl]
      · rw [if_neg q, x1 99 (by decide) (by decide)]; exact i2 j (by omega)
    · apply sg_203_2
      simp (disch := omega) only [i1 94 (by omega), hT94, eV_at, eV_up, o_lit2, o_add, o_sub, o_mul, o_neg, o_div, o_nat, ix_t, o_lt, o_le, o_eq, o_bi0, o_bi1, o_bib, em_t, o_neg1, o_shl, o_tb, o_tb0, o_tt, o_and, o_xor, o_or, o_max, o_min, an_tb, and_true, true_and, not_true, not_false, if_true, if_false, tn_add, tn_mul, Int.reduceToNat, tn_cast, md_x]
      rw [if_neg (by omega)]
      refine ⟨_, _, _, x2, ?_⟩
      simp (disch := omega) only [e94, hl, eV_at, eV_up, o_lit2, o_add, o_sub, o_mul, o_neg, o_div, o_nat, ix_t, o_lt, o_le, o_eq, o_bi0, o_bi1, o_bib, em_t, o_neg1, o_shl, o_tb, o_tb0, o_tt, o_and, o_xor, o_or, o_max, o_min, an_tb, and_true, true_and, not_true, not_false, if_true, if_false, tn_add, tn_mul, Int.reduceToNat, tn_cast, md_x]
      rw [show scp B n p cp st t = FARp B n p cp (12 + t) - B 10 (st * 12 + t) from rfl] at hr
      exact hr) T 0 V (by omega) ⟨fun _ _ => rfl, fun t ht => by omega⟩
  refine ⟨W, i1, fun t ht => i2 t (by omega), sg_203 _ _ _ _ _ (hr _ ?_)⟩
  apply sg_203_2
  simp (disch := omega) only [i1 94 (by omega), hT94, eV_at, eV_up, o_lit2, o_add, o_sub, o_mul, o_neg, o_div, o_nat, ix_t, o_lt, o_le, o_eq, o_bi0, o_bi1, o_bib, em_t, o_neg1, o_shl, o_tb, o_tb0, o_tt, o_and, o_xor, o_or, o_max, o_min, an_tb, and_true, true_and, not_true, not_false, if_true, if_false, tn_add, tn_mul, Int.reduceToNat, tn_cast, md_x]
  rw [if_pos (by omega)] <;> trivial
theorem m_204r {L d : Nat} {xs : Nat → Int32} {B V : Nat → Nat → Int} {J : Nat → Nat → Int64} {tg : Option Nat} (hI : INV B) (q : Qr B V) {s : Nat} {sc : Nat → Int} (hs : s < 2 ^ (B 1 1).toNat) (hsc : ∀ t, -5000 ≤ sc t ∧ sc t ≤ 5000) (h99 : ∀ t : Nat, (t : Int) < B 1 1 → V 99 t = sc t) : Runs (GW L xs) (d) 204 (0, [.ref 93, (Value.int (Int32.ofInt (s))), (Value.int (Int32.ofInt (0))), (Value.int (Int32.ofInt (0))), vU, vU, vU, vU, vU], [], zS (eV (V)) J tg) (some (Value.int (Int32.ofInt (mz (tk (B 7 0) sc s 12)))), zS (eV (V)) J tg) := by
  have hV := hI.qr q
  obtain ⟨hR, ⟨hA, -, hC, -, hE, hF, hH⟩, -⟩ := hV
  have rT : 0 ≤ B 1 1 ∧ B 1 1 ≤ 12 := hI.1 1 1 (by decide) (by decide)
  obtain ⟨T, hT⟩ : ∃ T : Nat, B 1 1 = T := ⟨(B 1 1).toNat, by omega⟩
  rw [hT, tn_cast] at hs
  have hs4 : s < 4096 := Nat.lt_of_lt_of_le hs (p2_12 (by omega))
  have rl : 0 ≤ V 7 0 ∧ V 7 0 ≤ 999 := hR 7 0 (by decide) (by decide)
  have rh : 0 ≤ V 7 1 ∧ V 7 1 ≤ 99 := hR 7 1 (by decide) (by decide)
  have km := k_204 (L := L) (xs := xs) (J := J) (tg := tg) (d := d) (V := V) (s := s) (T := T) (one := 0) (other := 0) (g := sc) (by rw [hA.2.1, q.1 1 (by omega), hT]) (by omega) hs4 (by rw [hE.1.1]; exact rl) (by rw [hE.1.2.1]; exact rh) (by omega) (by omega) (fun t ht => by rw [show V 94 (780 + t) = V 11 t from hE.2.2.2 t (by omega)]; exact hR 11 t (by decide) (by decide)) (fun t ht _ => ⟨h99 t (by omega), hsc t⟩)
  rw [tk_cg (g := sc) (fun t _ _ => by rw [if_neg (by omega)]; omega), hE.1.1, q.1 7 (by omega)] at km
  rw [tk_ext hs (by omega)]
  exact km
theorem m_205r {L d : Nat} {xs : Nat → Int32} {B V : Nat → Nat → Int} {J : Nat → Nat → Int64} {tg : Option Nat} (hI : INV B) (q : Qr B V) {l n ld st : Nat} {p : Nat → Int} {cp : Int} (hL : okL V l n p cp) (hld : ld < 6) (hs : st < 6) : ∃ W, (∀ c, ¬ (97 ≤ c ∧ c ≤ 99) → W c = V c) ∧ Runs (GW L xs) (d + 5) 205 (0, [.ref 93, (Value.int (Int32.ofInt (l))), (Value.int (Int32.ofInt (ld))), (Value.int (Int32.ofInt (st)))], [], zS (eV (V)) J tg) (some (Value.int (Int32.ofInt (mz (tk (B 7 0) (scp B n p cp st) (B 9 ld).toNat 12)))), zS (eV (W)) J tg) := by
  obtain ⟨W, w1, w2, w3⟩ := m_203gr (L := L) (xs := xs) (J := J) (tg := tg) (d := d) hI q hL hs
  obtain ⟨k1, k2, k3⟩ := know_lt hI hld
  have qW : Qr B W := ⟨fun x h => by rw [w1 x (by omega)]; exact q.1 x h, fun p h => by rw [w1 94 (by omega)]; exact q.2.1 p h, fun p h => by rw [w1 93 (by omega)]; exact q.2.2.1 p h, q.2.2.2.up (w1 1 (by omega)) (w1 2 (by omega)) (w1 3 (by omega)) (w1 4 (by omega)) (w1 71 (by omega)) (w1 81 (by omega))⟩
  have h9 : W 94 (690 + ld) = ((B 9 ld).toNat : Nat) := by
    have : W 94 (690 + ld) = W 9 ld := ((hI.qr qW).2.1.2.2.2.2.1.2.1 ld hld).2.1
    rw [this, qW.1 9 (by omega)]; exact k3
  have km := m_204r (L := L) (xs := xs) (J := J) (tg := tg) (d := d + 4) hI qW (s := (B 9 ld).toNat) (sc := scp B n p cp st) k1 (scp_rg hI.1 hL.2.1 p cp st) w2
  refine ⟨W, w1, ?_⟩
  apply sg_205
  refine ⟨_, _, w3, ?_⟩
  simp (disch := omega) only [h9, eV_at, eV_up, o_lit2, o_add, o_sub, o_mul, o_neg, o_div, o_nat, ix_t, o_lt, o_le, o_eq, o_bi0, o_bi1, o_bib, em_t, o_neg1, o_shl, o_tb, o_tb0, o_tt, o_and, o_xor, o_or, o_max, o_min, an_tb, and_true, true_and, not_true, not_false, if_true, if_false, tn_add, tn_mul, Int.reduceToNat, tn_cast, md_x]
  exact ⟨_, _, _, km, rfl⟩

section RR
variable {L d : Nat} {xs : Nat → Int32} {B V : Nat → Nat → Int} {J : Nat → Nat → Int64} {tg : Option Nat}
theorem Qr.mf {W : Nat → Nat → Int} (q : Qr B V) (f : MF V W) : Qr B W := ⟨fun c h => by rw [f c (by omega) (by omega) (by omega)]; exact q.1 c h, fun p h => by rw [f 94 (by omega) (by omega) (by omega)]; exact q.2.1 p h, fun p h => by rw [f 93 (by omega) (by omega) (by omega)]; exact q.2.2.1 p h, q.2.2.2.up (f 1 (by omega) (by omega) (by omega)) (f 2 (by omega) (by omega) (by omega)) (f 3 (by omega) (by omega) (by omega)) (f 4 (by omega) (by omega) (by omega)) (f 71 (by omega) (by omega) (by omega)) (f 81 (by omega) (by omega) (by omega))⟩
theorem m_246r (hI : INV B) (q : Qr B V) {dr ld : Nat} (hd : (dr : Int) < B 1 0) (hl : ld < 6) : Runs (GW L xs) (d) 246 (0, [.ref 93, (Value.int (Int32.ofInt (dr))), (Value.int (Int32.ofInt (ld)))], [], zS (eV (V)) J tg) (some (Value.int (Int32.ofInt (bi (lrn B dr ld)))), zS (eV (V)) J tg) := by
  have rD : 0 ≤ B 1 0 ∧ B 1 0 ≤ 12 := hI.1 1 0 (by decide) (by decide)
  have r : 0 ≤ B 12 (dr * 6 + ld) ∧ B 12 (dr * 6 + ld) ≤ 1000 := hI.1 12 (dr * 6 + ld) (by decide) (by decide)
  have hm : V 94 (600 + 6 * dr + ld) = B 12 (dr * 6 + ld) := by
    have : V 94 (600 + 6 * dr + ld) = V 12 (dr * 6 + ld) := ((hI.qr q).2.1.2.2.1 dr (by rw [q.1 1 (by omega)]; exact hd)).2.2 ld hl
    rw [this, q.1 12 (by omega)]
  apply sg_246
  simp (disch := omega) only [hm, eV_at, eV_up, o_lit2, o_add, o_sub, o_mul, o_neg, o_div, o_nat, ix_t, o_lt, o_le, o_eq, o_bi0, o_bi1, o_bib, em_t, o_neg1, o_shl, o_tb, o_tb0, o_tt, o_and, o_xor, o_or, o_max, o_min, an_tb, and_true, true_and, not_true, not_false, if_true, if_false, tn_add, tn_mul, Int.reduceToNat, tn_cast, md_x]
  by_cases g : B 12 (dr * 6 + ld) < 500
  · rw [if_pos g]
    exact leafI (bi_f (fun h => by have := h.2; rw [tn_cast] at this; omega)).symm
  · rw [if_neg g]
    exact leafI (bi_t ⟨by omega, by rw [tn_cast]; omega⟩).symm
theorem m_248r (hI : INV B) (q : Qr B V) {l dr n ld st : Nat} {p : Nat → Int} (hL : LKm B V l dr n p) (hd : (dr : Int) < B 1 0) (hld : ld < 6) (hst : st < 6) : ∃ W J2, MF V W ∧ Runs (GW L xs) (d + 6) 248 (0, [.ref 93, (Value.int (Int32.ofInt (l))), (Value.int (Int32.ofInt (dr))), (Value.int (Int32.ofInt (ld))), (Value.int (Int32.ofInt (st))), vU], [], zS (eV (V)) (J) tg) (some (Value.int (Int32.ofInt (hb B dr st (bi (smG B 4 1 (fct B dr n p) = true)) (fct B dr n p) ld (tk (B 7 0) (scp B n p (B 4 dr) st) (B 9 ld).toNat 12)))), zS (eV (W)) (J2) tg) := by
  obtain ⟨A, a1, a2⟩ := m_205r (L := L) (xs := xs) (J := J) (tg := tg) (d := d) hI q hL.1 hld hst
  have hsc := scp_rg hI.1 hL.1.2.1 p (B 4 dr) st
  have htk := tk_rg (lim := B 7 0) (f := scp B n p (B 4 dr) st) (s := (B 9 ld).toNat) (n := 12) (by omega) (fun t => by have := hsc t; omega)
  generalize tk (B 7 0) (scp B n p (B 4 dr) st) (B 9 ld).toNat 12 = took at htk a2 ⊢
  have fA : MF V A := fun c q1 _ _ => a1 c q1
  have qA := q.mf fA
  have hLA := hL.fr (fA 94 (by omega) (by omega) (by omega))
  unfold hb
  by_cases g : lrn B dr ld
  · refine ⟨A, J, fA, ?_⟩
    rw [if_pos (Or.inl g)]
    apply sg_248
    refine ⟨_, _, _, a2, _, _, _, m_246r hI qA hd hld, ?_⟩
    rw [if_neg (b0_f g)]
    rfl
  · obtain ⟨C, J1, c1, c2⟩ := m_245r (L := L) (xs := xs) (J := J) (tg := tg) (d := d) hI qA hLA htk
    have fC : MF A C := fun c _ q2 q3 => c1 c q2 q3
    by_cases g2 : rt (B 5 dr) (bi (smG B 4 1 (fct B dr n p) = true)) (B 6 dr) took
    · refine ⟨C, J1, fA.tr fC, ?_⟩
      rw [if_pos (Or.inr g2)]
      apply sg_248
      refine ⟨_, _, _, a2, _, _, _, m_246r hI qA hd hld, ?_⟩
      rw [if_pos (b0_t g)]
      refine ⟨_, _, _, c2, ?_⟩
      rw [if_neg (b0_f g2)]
      rfl
    · obtain ⟨E, J2, e1, e2⟩ := m_247r (L := L) (xs := xs) (J := J1) (tg := tg) (d := d) hI (qA.mf fC) (hLA.fr (fC 94 (by omega) (by omega) (by omega))) (st := st) (land := (ld : Int)) htk (by omega) hst
      have fE : MF C E := fun c _ q2 q3 => e1 c q2 q3
      refine ⟨E, J2, (fA.tr fC).tr fE, ?_⟩
      rw [if_neg (fun h => h.elim g g2)]
      apply sg_248
      refine ⟨_, _, _, a2, _, _, _, m_246r hI qA hd hld, ?_⟩
      rw [if_pos (b0_t g)]
      refine ⟨_, _, _, c2, ?_⟩
      rw [if_pos (b0_t g2)]
      exact ⟨_, _, _, e2, rfl⟩
theorem m_252r (hI : INV B) (q : Qr B V) {l dr n st : Nat} {p : Nat → Int} (hL : LKm B V l dr n p) (hd : (dr : Int) < B 1 0) (hst : st < 6) : ∃ W J2, MF V W ∧ Runs (GW L xs) (d + 7) 252 (0, [.ref 93, (Value.int (Int32.ofInt (l))), (Value.int (Int32.ofInt (dr))), (Value.int (Int32.ofInt (st))), vU, vU], [], zS (eV (V)) (J) tg) (some (Value.int (Int32.ofInt (alh B dr st (bi (smG B 4 1 (fct B dr n p) = true)) (fct B dr n p) (scp B n p (B 4 dr) st) 6))), zS (eV (W)) (J2) tg) := by
  obtain ⟨⟨W, J2⟩, i1, hr⟩ := loopN (g := GW L xs) (d := d + 7) (mid := 252) (σ := (Nat → Nat → Int) × (Nat → Nat → Int64)) (fun ld σ => (6, [.ref 93, (Value.int (Int32.ofInt (l))), (Value.int (Int32.ofInt (dr))), (Value.int (Int32.ofInt (st))), (Value.int (Int32.ofInt (alh B dr st (bi (smG B 4 1 (fct B dr n p) = true)) (fct B dr n p) (scp B n p (B 4 dr) st) ld))), (Value.int (Int32.ofInt (ld)))], [], zS (eV σ.1) σ.2 tg)) (fun ld σ => MF V σ.1) 6 (by
    intro ld ⟨W, J⟩ hld i1
    dsimp only at i1 ⊢
    have qW := q.mf i1
    have r8 : 0 ≤ B 8 ld ∧ B 8 ld ≤ 99 := hI.1 8 ld (by decide) (by decide)
    have h8 : W 94 (680 + ld) = B 8 ld := by
      have : W 94 (680 + ld) = W 8 ld := ((hI.qr qW).2.1.2.2.2.2.1.2.1 ld hld).1
      rw [this, qW.1 8 (by omega)]
    have hs : alh B dr st (bi (smG B 4 1 (fct B dr n p) = true)) (fct B dr n p) (scp B n p (B 4 dr) st) (ld + 1) = alh B dr st (bi (smG B 4 1 (fct B dr n p) = true)) (fct B dr n p) (scp B n p (B 4 dr) st) ld + (if 0 < B 8 ld then B 8 ld * hb B dr st (bi (smG B 4 1 (fct B dr n p) = true)) (fct B dr n p) ld (tk (B 7 0) (scp B n p (B 4 dr) st) (B 9 ld).toNat 12) else 0) := rfl
    by_cases g : 0 < B 8 ld
    · rw [if_pos g] at hs
      obtain ⟨X, J2, x1, x2⟩ := m_248r (L := L) (xs := xs) (J := J) (tg := tg) (d := d) hI qW (hL.fr (i1 94 (by omega) (by omega) (by omega))) hd hld hst
      refine ⟨(X, J2), i1.tr x1, fun r hr => ?_⟩
      apply sg_252_6
      simp (disch := omega) only [h8, eV_at, eV_up, o_lit2, o_add, o_sub, o_mul, o_neg, o_div, o_nat, ix_t, o_lt, o_le, o_eq, o_bi0, o_bi1, o_bib, em_t, o_neg1, o_shl, o_tb, o_tb0, o_tt, o_and, o_xor, o_or, o_max, o_min, an_tb, and_true, true_and, not_true, not_false, if_true, if_false, tn_add, tn_mul, Int.reduceToNat, tn_cast, md_x]
      rw [if_neg (by omega), if_neg (by omega)]
      refine ⟨_, _, _, x2, ?_⟩
      simp (disch := omega) only [eV_at, eV_up, o_lit2, o_add, o_sub, o_mul, o_neg, o_div, o_nat, ix_t, o_lt, o_le, o_eq, o_bi0, o_bi1, o_bib, em_t, o_neg1, o_shl, o_tb, o_tb0, o_tt, o_and, o_xor, o_or, o_max, o_min, an_tb, and_true, true_and, not_true, not_false, if_true, if_false, tn_add, tn_mul, Int.reduceToNat, tn_cast, md_x]
      rw [hs] at hr
      exact hr
    · rw [if_neg g] at hs
      refine ⟨(W, J), i1, fun r hr => ?_⟩
      apply sg_252_6
      simp (disch := omega) only [h8, eV_at, eV_up, o_lit2, o_add, o_sub, o_mul, o_neg, o_div, o_nat, ix_t, o_lt, o_le, o_eq, o_bi0, o_bi1, o_bib, em_t, o_neg1, o_shl, o_tb, o_tb0, o_tt, o_and, o_xor, o_or, o_max, o_min, an_tb, and_true, true_and, not_true, not_false, if_true, if_false, tn_add, tn_mul, Int.reduceToNat, tn_cast, md_x]
      rw [if_neg (by omega), if_pos (by omega)]
      rw [hs, Int.add_zero] at hr
      exact hr) 6 0 (V, J) (by omega) MF.rf
  dsimp only at i1 hr
  refine ⟨W, J2, i1, sg_252 _ _ _ _ _ _ (hr _ (sg_252_6 _ _ _ _ _ _ _ _ ?_))⟩
  simp (disch := omega) only [eV_at, eV_up, o_lit2, o_add, o_sub, o_mul, o_neg, o_div, o_nat, ix_t, o_lt, o_le, o_eq, o_bi0, o_bi1, o_bib, em_t, o_neg1, o_shl, o_tb, o_tb0, o_tt, o_and, o_xor, o_or, o_max, o_min, an_tb, and_true, true_and, not_true, not_false, if_true, if_false, tn_add, tn_mul, Int.reduceToNat, tn_cast, md_x]
  rw [if_pos (by omega)] <;> first | rfl | trivial
theorem Qr.tf {W : Nat → Nat → Int} (q : Qr B V) (f : TF V W) : Qr B W := ⟨fun c h => by rw [f.1 c (by omega) (by omega) (by omega) (by omega)]; exact q.1 c h, fun p h => by rw [f.2 p h]; exact q.2.1 p h, fun p h => by rw [f.1 93 (by omega) (by omega) (by omega) (by omega)]; exact q.2.2.1 p h, q.2.2.2.up (f.1 1 (by omega) (by omega) (by omega) (by omega)) (f.1 2 (by omega) (by omega) (by omega) (by omega)) (f.1 3 (by omega) (by omega) (by omega) (by omega)) (f.1 4 (by omega) (by omega) (by omega) (by omega)) (f.1 71 (by omega) (by omega) (by omega) (by omega)) (f.1 81 (by omega) (by omega) (by omega) (by omega))⟩
theorem m_257r (hI : INV B) (q : Qr B V) {dr : Nat} (hd : (dr : Int) < B 1 0) : ∃ W, (∀ c, c ≠ 94 → W c = V c) ∧ (∀ p, ¬ (548 ≤ p ∧ p < 570) → W 94 p = V 94 p) ∧ LKm B W 24 dr 0 (lf []) ∧ Runs (GW L xs) (d + 1) 257 (0, [.ref 93, (Value.int (Int32.ofInt (dr))), vU], [], zS (eV (V)) J tg) (none, zS (eV (W)) J tg) := by
  have rD : 0 ≤ B 1 0 ∧ B 1 0 ≤ 12 := hI.1 1 0 (by decide) (by decide)
  obtain ⟨⟨-, -, -, c1, c2, -⟩, c3, c4⟩ := LKm_ofr hI q hd
  obtain ⟨W, ⟨i1, i2, i3⟩, hr⟩ := loopN (g := GW L xs) (d := d + 1) (mid := 257) (σ := Nat → Nat → Int) (fun k W => (2, [.ref 93, (Value.int (Int32.ofInt (dr))), (Value.int (Int32.ofInt (k)))], [], zS (eV W) J tg)) (fun k W => (∀ c, c ≠ 94 → W c = V c) ∧ (∀ p, ¬ (548 ≤ p ∧ p < 570) → W 94 p = V 94 p) ∧ ∀ j, j < k → W 94 (548 + j) = V 94 (20 + 22 * dr + j)) 22 (by
    intro k W hk ⟨i1, i2, i3⟩
    have k1 := k_184 (L := L) (xs := xs) (J := J) (tg := tg) (d := d) (V := W) (l := dr) (w := k) (by omega)
    rw [i2 _ (by omega)] at k1
    refine ⟨up2 W 94 (548 + k) (V 94 (20 + 22 * dr + k)), ⟨fun c q => by rw [w_ne _ _ _ _ q]; exact i1 c q, fun p hp => by rw [w_at, if_neg (by omega)]; exact i2 p hp, fun j hj => ?_⟩, fun r hr => ?_⟩
    · rw [w_at]
      by_cases e : j = k
      · rw [if_pos (by omega), e]
      · rw [if_neg (by omega)]; exact i3 j (by omega)
    · apply sg_257_2
      simp (disch := omega) only [eV_at, eV_up, o_lit2, o_add, o_sub, o_mul, o_neg, o_div, o_nat, ix_t, o_lt, o_le, o_eq, o_bi0, o_bi1, o_bib, em_t, o_neg1, o_shl, o_tb, o_tb0, o_tt, o_and, o_xor, o_or, o_max, o_min, an_tb, and_true, true_and, not_true, not_false, if_true, if_false, tn_add, tn_mul, Int.reduceToNat, tn_cast, md_x]
      rw [if_neg (by omega)]
      refine ⟨_, _, _, k1, ?_⟩
      simp (disch := omega) only [eV_at, eV_up, o_lit2, o_add, o_sub, o_mul, o_neg, o_div, o_nat, ix_t, o_lt, o_le, o_eq, o_bi0, o_bi1, o_bib, em_t, o_neg1, o_shl, o_tb, o_tb0, o_tt, o_and, o_xor, o_or, o_max, o_min, an_tb, and_true, true_and, not_true, not_false, if_true, if_false, tn_add, tn_mul, Int.reduceToNat, tn_cast, md_x]
      exact hr) 22 0 V (by omega) ⟨fun _ _ => rfl, fun _ _ => rfl, fun j hj => by omega⟩
  refine ⟨up2 W 94 548 0, fun c q => by rw [w_ne _ _ _ _ q]; exact i1 c q, fun p hp => by rw [w_at, if_neg (by omega)]; exact i2 p hp, ⟨⟨by omega, by omega, w_eq _ _ _ _, ?_, c2, fun i hi => by omega⟩, ?_, ?_⟩, ?_⟩
  · rw [w_at, if_neg (by omega)]; rw [← c1]; exact i3 1 (by omega)
  · rw [w_at, if_neg (by omega)]; rw [← c3]; exact i3 2 (by omega)
  · rw [w_at, if_neg (by omega)]; rw [← c4]; exact i3 3 (by omega)
  · apply sg_257
    refine hr _ ?_
    apply sg_257_2
    simp (disch := omega) only [eV_at, eV_up, o_lit2, o_add, o_sub, o_mul, o_neg, o_div, o_nat, ix_t, o_lt, o_le, o_eq, o_bi0, o_bi1, o_bib, em_t, o_neg1, o_shl, o_tb, o_tb0, o_tt, o_and, o_xor, o_or, o_max, o_min, an_tb, and_true, true_and, not_true, not_false, if_true, if_false, tn_add, tn_mul, Int.reduceToNat, tn_cast, md_x]
    rw [if_pos (by omega)] <;> first | rfl | trivial
variable {dr st S : Nat}
theorem m_258r (hI : INV B) (q : Qr B V) (hd : (dr : Int) < B 1 0) (hS : S ≤ 10) (hBS : B 18 2 = S) {s : Nat} (hs : s < 2 ^ S) (hp : pcn s S ≤ 6) (hL : LKm B V 24 dr 0 (lf [])) : ∃ W, TF V W ∧ LKm B W 24 dr (mdL B s S).length (lf (mdL B s S)) ∧ Runs (GW L xs) (d + 1) 258 (0, [.ref 93, (Value.int (Int32.ofInt (24))), (Value.int (Int32.ofInt (s))), vU], [], zS (eV (V)) J tg) (none, zS (eV (W)) J tg) := by
  have h10 : 2 ^ S ≤ 1024 := Nat.pow_le_pow_right (n := 2) (by omega) hS
  have cells : ∀ W, TF V W → W 94 5 = S ∧ ∀ i, i < S → W 94 (800 + i) = B 19 i := fun W f => by
    have qW := q.tf f
    have hIW := hI.qr qW
    obtain ⟨⟨-, -, c5, -⟩, c8, -⟩ := hIW.2.1.2.2.2.2.2.2
    have c5 : W 94 5 = W 18 2 := c5
    have e18 : W 18 2 = S := by rw [qW.1 18 (by omega)]; exact hBS
    refine ⟨by rw [c5, e18], fun i hi => ?_⟩
    have : W 94 (800 + i) = W 19 i := c8 i (by rw [e18]; omega)
    rw [this, qW.1 19 (by omega)]
  obtain ⟨W, ⟨i1, i2⟩, hr⟩ := loopN (g := GW L xs) (d := d + 1) (mid := 258) (σ := Nat → Nat → Int) (fun i W => (2, [.ref 93, (Value.int (Int32.ofInt (24))), (Value.int (Int32.ofInt (s))), (Value.int (Int32.ofInt (i)))], [], zS (eV W) J tg)) (fun i W => TF V W ∧ LKm B W 24 dr (mdL B s i).length (lf (mdL B s i))) S (by
    intro i W hi ⟨i1, i2⟩
    obtain ⟨e5, e8⟩ := cells W i1
    have e8 := e8 i hi
    have hms := mdL_s (B := B) (s := s) (n := i)
    cases b : s.testBit i
    · rw [b, if_neg (by decide)] at hms
      refine ⟨W, ⟨i1, by rw [hms]; exact i2⟩, fun r hr => ?_⟩
      apply sg_258_2
      simp (disch := omega) only [e5, b, eV_at, eV_up, o_lit2, o_add, o_sub, o_mul, o_neg, o_div, o_nat, ix_t, o_lt, o_le, o_eq, o_bi0, o_bi1, o_bib, em_t, o_neg1, o_shl, o_tb, o_tb0, o_tt, o_and, o_xor, o_or, o_max, o_min, an_tb, and_true, true_and, not_true, not_false, if_true, if_false, tn_add, tn_mul, Int.reduceToNat, tn_cast, md_x]
      rw [if_neg (by omega)]
      first | exact hr | (rw [if_neg (by decide)]; exact hr)
    · rw [b, if_pos rfl] at hms
      have hlen := mdL_len (B := B) (s := s) i
      have hps := pcn_s (s := s) (n := i)
      rw [b, if_pos rfl] at hps
      obtain ⟨k, hk⟩ : ∃ k, S = i + 1 + k := ⟨S - (i + 1), by omega⟩
      have hpm := pcn_mono (s := s) (m := i + 1) k
      rw [← hk] at hpm
      have rv : 0 ≤ B 19 i ∧ B 19 i ≤ 179 := hI.1 19 i (by decide) (by decide)
      obtain ⟨X, x1, x2, x3, x4⟩ := m_189 (L := L) (xs := xs) (J := J) (tg := tg) (d := d) i2 (by omega) (v := B 19 i) (by omega)
      refine ⟨X, ⟨i1.tr ⟨fun c _ q2 _ _ => x1 c q2, x2⟩, by rw [hms]; exact x3⟩, fun r hr => ?_⟩
      apply sg_258_2
      simp (disch := omega) only [e5, b, e8, eV_at, eV_up, o_lit2, o_add, o_sub, o_mul, o_neg, o_div, o_nat, ix_t, o_lt, o_le, o_eq, o_bi0, o_bi1, o_bib, em_t, o_neg1, o_shl, o_tb, o_tb0, o_tt, o_and, o_xor, o_or, o_max, o_min, an_tb, and_true, true_and, not_true, not_false, if_true, if_false, tn_add, tn_mul, Int.reduceToNat, tn_cast, md_x]
      rw [if_neg (by omega)]
      first | rw [if_pos (by decide)] | skip
      exact ⟨_, _, x4, hr⟩) S 0 V (by omega) ⟨TF.rf, hL⟩
  obtain ⟨e5, -⟩ := cells W i1
  refine ⟨W, i1, i2, ?_⟩
  apply sg_258
  refine hr _ ?_
  apply sg_258_2
  simp (disch := omega) only [e5, eV_at, eV_up, o_lit2, o_add, o_sub, o_mul, o_neg, o_div, o_nat, ix_t, o_lt, o_le, o_eq, o_bi0, o_bi1, o_bib, em_t, o_neg1, o_shl, o_tb, o_tb0, o_tt, o_and, o_xor, o_or, o_max, o_min, an_tb, and_true, true_and, not_true, not_false, if_true, if_false, tn_add, tn_mul, Int.reduceToNat, tn_cast, md_x]
  rw [if_pos (by omega)] <;> first | rfl | trivial
theorem m_259sr (hI : INV B) (q : Qr B V) (hd : (dr : Int) < B 1 0) (hst : st < 6) (hS : S ≤ 10) (hBS : B 18 2 = S) {x3 : Int32} : ∃ W J2 ys yh, TF V W ∧ BS2 B dr st S (ALL S) ys yh ∧ Rch (GW L xs) (d + 9) 259 (35, [.ref 93, (Value.int (Int32.ofInt (dr))), (Value.int (Int32.ofInt (st))), .int x3, (Value.int (Int32.ofInt (-1))), (Value.int (Int32.ofInt (0))), (Value.int (Int32.ofInt (0))), vU, vU], [], zS (eV V) J tg) (35, [.ref 93, (Value.int (Int32.ofInt (dr))), (Value.int (Int32.ofInt (st))), .int x3, (Value.int (Int32.ofInt (ys))), (Value.int (Int32.ofInt (yh))), (Value.int (Int32.ofInt (7))), vU, vU], [], zS (eV W) J2 tg) := by
  have h10 : 2 ^ S ≤ 1024 := Nat.pow_le_pow_right (n := 2) (by omega) hS
  have hpos := Nat.pow_pos (a := 2) (n := S) (by omega)
  have rD : 0 ≤ B 1 0 ∧ B 1 0 ≤ 12 := hI.1 1 0 (by decide) (by decide)
  have c5 : ∀ W, TF V W → W 94 5 = S := fun W f => by
    have qW := q.tf f
    have : W 94 5 = W 18 2 := (hI.qr qW).2.1.2.2.2.2.2.2.1.2.2.1
    rw [this, qW.1 18 (by omega)]; exact hBS
  obtain ⟨⟨⟨W, J2⟩, ys, yh⟩, ⟨w1, w2⟩, hr⟩ := loopN (g := GW L xs) (d := d + 9) (mid := 259) (σ := ((Nat → Nat → Int) × (Nat → Nat → Int64)) × Int × Int) (fun c z => (35, [.ref 93, (Value.int (Int32.ofInt (dr))), (Value.int (Int32.ofInt (st))), .int x3, (Value.int (Int32.ofInt (z.2.1))), (Value.int (Int32.ofInt (z.2.2))), (Value.int (Int32.ofInt (c))), vU, vU], [], zS (eV z.1.1) z.1.2 tg)) (fun c z => TF V z.1.1 ∧ BS2 B dr st S (SEEN S c 0) z.2.1 z.2.2) 7 (by
    intro c z hc ⟨w1, w2⟩
    obtain ⟨⟨X, J3⟩, xs', xh⟩ := z
    obtain ⟨⟨⟨Y, J4⟩, ys, yh⟩, ⟨y1, y2⟩, hrY⟩ := loopN (g := GW L xs) (d := d + 9) (mid := 259) (σ := ((Nat → Nat → Int) × (Nat → Nat → Int64)) × Int × Int) (fun i z => (45, [.ref 93, (Value.int (Int32.ofInt (dr))), (Value.int (Int32.ofInt (st))), .int x3, (Value.int (Int32.ofInt (z.2.1))), (Value.int (Int32.ofInt (z.2.2))), (Value.int (Int32.ofInt (c))), (Value.int (Int32.ofInt (i))), vU], [], zS (eV z.1.1) z.1.2 tg)) (fun i z => TF V z.1.1 ∧ BS2 B dr st S (SEEN S c i) z.2.1 z.2.2) (2 ^ S) (by
      intro i z hi ⟨w1, yc, w2⟩
      obtain ⟨⟨W, J2⟩, ys, yh⟩ := z
      dsimp only at w1 w2 ⊢
      have qW := q.tf w1
      have e5 := c5 W w1
      have k185 := k_185 (L := L) (xs := xs) (J := J2) (tg := tg) (d := d + 8) (V := W) (s := i) (by omega)
      rw [pcn_top (n := 12) hi (by omega)] at k185
      have hpc : pcn i S ≤ 12 := by have := pcn_le i S; omega
      have hC : ∀ u, SEEN S c i u → u < 2 ^ S ∧ pcn u S ≤ 6 := fun u hu => ⟨hu.1, hu.2.1⟩
      by_cases hp : pcn i S = c
      · have hseen : ∀ u, ((SEEN S c i u) ∨ u = i) ↔ SEEN S c (i + 1) u := fun u => by
          constructor
          · rintro (hu | hu)
            · exact ⟨hu.1, hu.2.1, by omega⟩
            · subst hu; exact ⟨hi, by omega, by omega⟩
          · intro hu
            by_cases e : u = i
            · exact Or.inr e
            · exact Or.inl ⟨hu.1, hu.2.1, by omega⟩
        obtain ⟨r1, r2⟩ := w2.rg hI hst hS hC
        obtain ⟨A, a1, a2, a3, a4⟩ := m_257r (L := L) (xs := xs) (J := J2) (tg := tg) (d := d + 7) hI qW hd
        have fA : TF W A := ⟨fun c _ q2 _ _ => a1 c q2, a2⟩
        obtain ⟨X, x1, x2, x3'⟩ := m_258r (L := L) (xs := xs) (J := J2) (tg := tg) (d := d + 7) hI (qW.tf fA) hd hS hBS (s := i) hi (by omega) a3
        have qX := (qW.tf fA).tf x1
        obtain ⟨E, J5, e1, e2⟩ := m_243r (L := L) (xs := xs) (J := J2) (tg := tg) (d := d + 4) hI qX x2
        have fE : TF X E := ⟨fun c _ _ q3 q4 => e1 c q3 q4, fun p _ => by rw [e1 94 (by decide) (by decide)]⟩
        have qE := qX.tf fE
        have fVE : TF V E := ((w1.tr fA).tr x1).tr fE
        by_cases ok : ¬ smG B 5 0 (fct B dr (mdL B i S).length (lf (mdL B i S))) = true
        · have lE : LKm B E 24 dr (mdL B i S).length (lf (mdL B i S)) := by
            unfold LKm okL at x2 ⊢
            rw [e1 94 (by decide) (by decide)]
            exact x2
          obtain ⟨G, J6, g1, g2⟩ := m_252r (L := L) (xs := xs) (J := J5) (tg := tg) (d := d + 1) hI qE lE hd hst
          have g2 : Runs (GW L xs) (d + 8) 252 (0, [.ref 93, (Value.int (Int32.ofInt (24))), (Value.int (Int32.ofInt (dr))), (Value.int (Int32.ofInt (st))), vU, vU], [], zS (eV (E)) (J5) tg) (some (Value.int (Int32.ofInt (HM B dr st S i))), zS (eV (G)) (J6) tg) := g2
          have hh := hmd_rg hI (dr := dr) (st := st) (l := mdL B i S) hst (by rw [mdL_len]; omega)
          have fVG : TF V G := fVE.tr g1.tf
          have hh : 0 ≤ HM B dr st S i ∧ HM B dr st S i ≤ 594000000 := hh
          by_cases nw : ys < 0 ∨ HM B dr st S i < yh
          · refine ⟨⟨⟨G, J6⟩, (i : Int), HM B dr st S i⟩, ⟨fVG, _, (w2.new (s := i) ok (by omega)).cg hseen⟩, fun r hr => ?_⟩
            apply sg_259_45
            simp (disch := omega) only [e5, o_sh1s, eV_at, eV_up, o_lit2, o_add, o_sub, o_mul, o_neg, o_div, o_nat, ix_t, o_lt, o_le, o_eq, o_bi0, o_bi1, o_bib, em_t, o_neg1, o_shl, o_tb, o_tb0, o_tt, o_and, o_xor, o_or, o_max, o_min, an_tb, and_true, true_and, not_true, not_false, if_true, if_false, tn_add, tn_mul, Int.reduceToNat, tn_cast, md_x]
            rw [if_neg (by omega)]
            refine ⟨_, _, _, k185, ?_⟩
            simp (disch := omega) only [eV_at, eV_up, o_lit2, o_add, o_sub, o_mul, o_neg, o_div, o_nat, ix_t, o_lt, o_le, o_eq, o_bi0, o_bi1, o_bib, em_t, o_neg1, o_shl, o_tb, o_tb0, o_tt, o_and, o_xor, o_or, o_max, o_min, an_tb, and_true, true_and, not_true, not_false, if_true, if_false, tn_add, tn_mul, Int.reduceToNat, tn_cast, md_x]
            rw [if_pos (by omega)]
            refine ⟨_, _, a4, _, _, x3', _, _, _, e2, ?_⟩
            rw [if_neg (b0o_f ok)]
            refine ⟨_, _, _, g2, ?_⟩
            have leaf : Runs (GW L xs) (d + 9) 259 (121, [.ref 93, (Value.int (Int32.ofInt (dr))), (Value.int (Int32.ofInt (st))), .int x3, (Value.int (Int32.ofInt (ys))), (Value.int (Int32.ofInt (yh))), (Value.int (Int32.ofInt (c))), (Value.int (Int32.ofInt (i))), (Value.int (Int32.ofInt (HM B dr st S i)))], [], zS (eV G) J6 tg) r := by
              apply sg_259_121
              apply sg_259_129
              simp (disch := omega) only [eV_at, eV_up, o_lit2, o_add, o_sub, o_mul, o_neg, o_div, o_nat, ix_t, o_lt, o_le, o_eq, o_bi0, o_bi1, o_bib, em_t, o_neg1, o_shl, o_tb, o_tb0, o_tt, o_and, o_xor, o_or, o_max, o_min, an_tb, and_true, true_and, not_true, not_false, if_true, if_false, tn_add, tn_mul, Int.reduceToNat, tn_cast, md_x]
              exact hr
            by_cases c1 : ys < 0
            · simp (disch := omega) only [eV_at, eV_up, o_lit2, o_add, o_sub, o_mul, o_neg, o_div, o_nat, ix_t, o_lt, o_le, o_eq, o_bi0, o_bi1, o_bib, em_t, o_neg1, o_shl, o_tb, o_tb0, o_tt, o_and, o_xor, o_or, o_max, o_min, an_tb, and_true, true_and, not_true, not_false, if_true, if_false, tn_add, tn_mul, Int.reduceToNat, tn_cast, md_x]
              rw [if_pos c1]; exact leaf
            · obtain ⟨r3, r4⟩ := r2 (by omega)
              simp (disch := omega) only [eV_at, eV_up, o_lit2, o_add, o_sub, o_mul, o_neg, o_div, o_nat, ix_t, o_lt, o_le, o_eq, o_bi0, o_bi1, o_bib, em_t, o_neg1, o_shl, o_tb, o_tb0, o_tt, o_and, o_xor, o_or, o_max, o_min, an_tb, and_true, true_and, not_true, not_false, if_true, if_false, tn_add, tn_mul, Int.reduceToNat, tn_cast, md_x]
              rw [if_neg c1, if_pos (by omega)]; exact leaf
          · have hb : ¬ (ys = -1 ∨ HM B dr st S i < yh ∨ (HM B dr st S i = yh ∧ ((CN S i : Int) < yc ∨ ((CN S i : Int) = yc ∧ (i : Int) < ys)))) := by
              rcases id w2 with ⟨h1, h2⟩ | ⟨z, h1, h2, h3, h4, h5, h6⟩
              · omega
              · have h5 : yc = ((pcn z S : Nat) : Int) := h5
                have h7 : (CN S i : Nat) = c := hp
                have h8 := h1.2.2
                omega
            refine ⟨⟨⟨G, J6⟩, ys, yh⟩, ⟨fVG, _, (w2.old (s := i) hb).cg hseen⟩, fun r hr => ?_⟩
            obtain ⟨r3, r4⟩ := r2 (by omega)
            apply sg_259_45
            simp (disch := omega) only [e5, o_sh1s, eV_at, eV_up, o_lit2, o_add, o_sub, o_mul, o_neg, o_div, o_nat, ix_t, o_lt, o_le, o_eq, o_bi0, o_bi1, o_bib, em_t, o_neg1, o_shl, o_tb, o_tb0, o_tt, o_and, o_xor, o_or, o_max, o_min, an_tb, and_true, true_and, not_true, not_false, if_true, if_false, tn_add, tn_mul, Int.reduceToNat, tn_cast, md_x]
            rw [if_neg (by omega)]
            refine ⟨_, _, _, k185, ?_⟩
            simp (disch := omega) only [eV_at, eV_up, o_lit2, o_add, o_sub, o_mul, o_neg, o_div, o_nat, ix_t, o_lt, o_le, o_eq, o_bi0, o_bi1, o_bib, em_t, o_neg1, o_shl, o_tb, o_tb0, o_tt, o_and, o_xor, o_or, o_max, o_min, an_tb, and_true, true_and, not_true, not_false, if_true, if_false, tn_add, tn_mul, Int.reduceToNat, tn_cast, md_x]
            rw [if_pos (by omega)]
            refine ⟨_, _, a4, _, _, x3', _, _, _, e2, ?_⟩
            rw [if_neg (b0o_f ok)]
            refine ⟨_, _, _, g2, ?_⟩
            simp (disch := omega) only [eV_at, eV_up, o_lit2, o_add, o_sub, o_mul, o_neg, o_div, o_nat, ix_t, o_lt, o_le, o_eq, o_bi0, o_bi1, o_bib, em_t, o_neg1, o_shl, o_tb, o_tb0, o_tt, o_and, o_xor, o_or, o_max, o_min, an_tb, and_true, true_and, not_true, not_false, if_true, if_false, tn_add, tn_mul, Int.reduceToNat, tn_cast, md_x]
            rw [if_neg (by omega), if_neg (by omega)]
            apply sg_259_129
            simp (disch := omega) only [eV_at, eV_up, o_lit2, o_add, o_sub, o_mul, o_neg, o_div, o_nat, ix_t, o_lt, o_le, o_eq, o_bi0, o_bi1, o_bib, em_t, o_neg1, o_shl, o_tb, o_tb0, o_tt, o_and, o_xor, o_or, o_max, o_min, an_tb, and_true, true_and, not_true, not_false, if_true, if_false, tn_add, tn_mul, Int.reduceToNat, tn_cast, md_x]
            exact hr
        · refine ⟨⟨⟨E, J5⟩, ys, yh⟩, ⟨fVE, _, (w2.no (s := i) ok).cg hseen⟩, fun r hr => ?_⟩
          apply sg_259_45
          simp (disch := omega) only [e5, o_sh1s, eV_at, eV_up, o_lit2, o_add, o_sub, o_mul, o_neg, o_div, o_nat, ix_t, o_lt, o_le, o_eq, o_bi0, o_bi1, o_bib, em_t, o_neg1, o_shl, o_tb, o_tb0, o_tt, o_and, o_xor, o_or, o_max, o_min, an_tb, and_true, true_and, not_true, not_false, if_true, if_false, tn_add, tn_mul, Int.reduceToNat, tn_cast, md_x]
          rw [if_neg (by omega)]
          refine ⟨_, _, _, k185, ?_⟩
          simp (disch := omega) only [eV_at, eV_up, o_lit2, o_add, o_sub, o_mul, o_neg, o_div, o_nat, ix_t, o_lt, o_le, o_eq, o_bi0, o_bi1, o_bib, em_t, o_neg1, o_shl, o_tb, o_tb0, o_tt, o_and, o_xor, o_or, o_max, o_min, an_tb, and_true, true_and, not_true, not_false, if_true, if_false, tn_add, tn_mul, Int.reduceToNat, tn_cast, md_x]
          rw [if_pos (by omega)]
          refine ⟨_, _, a4, _, _, x3', _, _, _, e2, ?_⟩
          rw [if_pos (b0o_t ok)]
          apply sg_259_129
          simp (disch := omega) only [eV_at, eV_up, o_lit2, o_add, o_sub, o_mul, o_neg, o_div, o_nat, ix_t, o_lt, o_le, o_eq, o_bi0, o_bi1, o_bib, em_t, o_neg1, o_shl, o_tb, o_tb0, o_tt, o_and, o_xor, o_or, o_max, o_min, an_tb, and_true, true_and, not_true, not_false, if_true, if_false, tn_add, tn_mul, Int.reduceToNat, tn_cast, md_x]
          exact hr
      · refine ⟨⟨⟨W, J2⟩, ys, yh⟩, ⟨w1, yc, w2.cg (fun u => ?_)⟩, fun r hr => ?_⟩
        · constructor
          · intro hu; exact ⟨hu.1, hu.2.1, by omega⟩
          · intro hu
            refine ⟨hu.1, hu.2.1, ?_⟩
            rcases hu.2.2 with h | h
            · exact Or.inl h
            · by_cases e : u = i
              · subst e; exact absurd h.1 hp
              · exact Or.inr ⟨h.1, by omega⟩
        · apply sg_259_45
          simp (disch := omega) only [e5, o_sh1s, eV_at, eV_up, o_lit2, o_add, o_sub, o_mul, o_neg, o_div, o_nat, ix_t, o_lt, o_le, o_eq, o_bi0, o_bi1, o_bib, em_t, o_neg1, o_shl, o_tb, o_tb0, o_tt, o_and, o_xor, o_or, o_max, o_min, an_tb, and_true, true_and, not_true, not_false, if_true, if_false, tn_add, tn_mul, Int.reduceToNat, tn_cast, md_x]
          rw [if_neg (by omega)]
          refine ⟨_, _, _, k185, ?_⟩
          simp (disch := omega) only [eV_at, eV_up, o_lit2, o_add, o_sub, o_mul, o_neg, o_div, o_nat, ix_t, o_lt, o_le, o_eq, o_bi0, o_bi1, o_bib, em_t, o_neg1, o_shl, o_tb, o_tb0, o_tt, o_and, o_xor, o_or, o_max, o_min, an_tb, and_true, true_and, not_true, not_false, if_true, if_false, tn_add, tn_mul, Int.reduceToNat, tn_cast, md_x]
          rw [if_neg (by omega)]
          apply sg_259_129
          simp (disch := omega) only [eV_at, eV_up, o_lit2, o_add, o_sub, o_mul, o_neg, o_div, o_nat, ix_t, o_lt, o_le, o_eq, o_bi0, o_bi1, o_bib, em_t, o_neg1, o_shl, o_tb, o_tb0, o_tt, o_and, o_xor, o_or, o_max, o_min, an_tb, and_true, true_and, not_true, not_false, if_true, if_false, tn_add, tn_mul, Int.reduceToNat, tn_cast, md_x]
          exact hr) (2 ^ S) 0 ⟨⟨X, J3⟩, xs', xh⟩ (by omega) ⟨w1, w2⟩
    obtain ⟨yc, y2⟩ := y2
    refine ⟨⟨⟨Y, J4⟩, ys, yh⟩, ⟨y1, yc, y2.cg (fun u => ⟨fun hu => ⟨hu.1, hu.2.1, ?_⟩, fun hu => ⟨hu.1, hu.2.1, ?_⟩⟩)⟩, fun r hr => ?_⟩
    · have := hu.2.2; omega
    · have := hu.2.2; have := hu.1; omega
    · have e5 := c5 Y y1
      apply sg_259_35
      simp (disch := omega) only [eV_at, eV_up, o_lit2, o_add, o_sub, o_mul, o_neg, o_div, o_nat, ix_t, o_lt, o_le, o_eq, o_bi0, o_bi1, o_bib, em_t, o_neg1, o_shl, o_tb, o_tb0, o_tt, o_and, o_xor, o_or, o_max, o_min, an_tb, and_true, true_and, not_true, not_false, if_true, if_false, tn_add, tn_mul, Int.reduceToNat, tn_cast, md_x]
      rw [if_neg (by omega)]
      refine hrY _ ?_
      apply sg_259_45
      simp (disch := omega) only [e5, o_sh1s, eV_at, eV_up, o_lit2, o_add, o_sub, o_mul, o_neg, o_div, o_nat, ix_t, o_lt, o_le, o_eq, o_bi0, o_bi1, o_bib, em_t, o_neg1, o_shl, o_tb, o_tb0, o_tt, o_and, o_xor, o_or, o_max, o_min, an_tb, and_true, true_and, not_true, not_false, if_true, if_false, tn_add, tn_mul, Int.reduceToNat, tn_cast, md_x]
      rw [if_pos (by omega)]
      exact hr) 7 0 ⟨⟨V, J⟩, -1, 0⟩ (by omega) ⟨TF.rf, 0, Or.inl ⟨rfl, fun u hu => by have := hu.2.2; omega⟩⟩
  obtain ⟨yc, w2⟩ := w2
  refine ⟨W, J2, ys, yh, w1, ⟨yc, w2.cg (fun u => ⟨fun hu => ⟨hu.1, hu.2.1⟩, fun hu => ⟨hu.1, hu.2, ?_⟩⟩)⟩, hr⟩
  have := hu.2; omega
end RR
