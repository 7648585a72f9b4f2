/-! Names of a LOOK in the reference; what THE GRAMMAR says there. -/
def LKm (B V : Nat → Nat → Int) (l dr n : Nat) (p : Nat → Int) : Prop := okL V l n p (B 4 dr) ∧ V 94 (20 + 22 * l + 2) = mz (B 5 dr) ∧ V 94 (20 + 22 * l + 3) = B 6 dr
theorem LKm.fr {B V W : Nat → Nat → Int} {l dr n : Nat} {p : Nat → Int} (h : LKm B V l dr n p) (e : W 94 = V 94) : LKm B W l dr n p := by
  unfold LKm okL at h ⊢
  rw [e]; exact h
theorem LKm_of {B V : Nat → Nat → Int} (hI : INV B) (q : Qy B V) {dr : Nat} (hd : (dr : Int) < B 1 0) : LKm B V dr dr (B 3 dr).toNat (lkc B dr) := by
  have hV := hI.q q
  have e1 : V 1 = B 1 := q.1 1 (by omega)
  have h := okL_of hV.1 hV.2.1.2.1 (l := dr) (Or.inl ⟨by omega, by rw [e1]; exact hd⟩)
  obtain ⟨c1, c2, -⟩ := hV.2.1.2.2.1 dr (by rw [e1]; exact hd)
  have c1 : V 94 (20 + 22 * dr + 2) = mz (V 5 dr) := c1
  have c2 : V 94 (20 + 22 * dr + 3) = V 6 dr := c2
  rw [q.1 3 (by omega), lkc_fr (q.1 2 (by omega)), q.1 4 (by omega)] at h
  exact ⟨h, by rw [c1, q.1 5 (by omega)], by rw [c2, q.1 6 (by omega)]⟩
theorem mz_rg {m : Int} (h : -1 ≤ m ∧ m ≤ 11) : -1 ≤ mz m ∧ mz m ≤ 23 ∧ (mz m < 0 ↔ m = -1) ∧ (m ≠ -1 → mz m = m + 12) := by unfold mz; split <;> omega
theorem m_240 {L d : Nat} {xs : Nat → Int32} {B V : Nat → Nat → Int} {J : Nat → Nat → Int64} {tg : Option Nat} (hR : RNG B) {l dr n : Nat} {p : Nat → Int} (hL : LKm B V l dr n p) : ∃ W, (∀ c, c ≠ 103 → W c = V c) ∧ (∀ k, k < 8 → W 103 k = fct B dr n p k) ∧ (∀ k, 8 ≤ k → W 103 k = V 103 k) ∧ Runs (GW L xs) (d + 1) 240 (0, [.ref 93, (Value.int (Int32.ofInt (l))), vU], [], zS (eV (V)) J tg) (none, zS (eV (W)) J tg) := by
  obtain ⟨⟨hl, hn, a1, a2, a3, a4⟩, b1, b2⟩ := hL
  have r5 : -1 ≤ B 5 dr ∧ B 5 dr ≤ 11 := hR 5 dr (by decide) (by decide)
  obtain ⟨m1, m2, m3, m4⟩ := mz_rg r5
  obtain ⟨A, ⟨i1, i2, i3⟩, hr1⟩ := loopN (g := GW L xs) (d := d + 1) (mid := 240) (σ := Nat → Nat → Int) (fun k W => (2, [.ref 93, (Value.int (Int32.ofInt (l))), (Value.int (Int32.ofInt (k)))], [], zS (eV W) J tg)) (fun k W => (∀ c, c ≠ 103 → W c = V c) ∧ (∀ j, j < k → W 103 j = 0) ∧ ∀ j, 5 ≤ j → W 103 j = V 103 j) 5 (by
    intro k W hk ⟨i1, i2, i3⟩
    refine ⟨up2 W 103 k 0, ⟨fun c q => by rw [w_ne _ _ _ _ q]; exact i1 c q, fun j hj => ?_, fun j hj => by rw [w_at, if_neg (by omega)]; exact i3 j hj⟩, fun r hr => ?_⟩
    · rw [w_at]
      split
      · rfl
      · exact i2 j (by omega)
    · apply sg_240_2
      simp (disch := omega) only [eV_at, eV_up, o_lit2, o_add, o_sub, o_mul, o_neg, o_div, o_nat, ix_t, o_lt, o_le, o_eq, o_bi0, o_bi1, o_bib, em_t, o_neg1, o_shl, o_tb, o_tb0, o_tt, o_and, o_xor, o_or, o_max, o_min, an_tb, and_true, true_and, not_true, not_false, if_true, if_false, tn_add, tn_mul, Int.reduceToNat, tn_cast, md_x]
      rw [if_neg (by omega)]
      exact hr) 5 0 V (by omega) ⟨fun _ _ => rfl, fun j hj => by omega, fun _ _ => rfl⟩
  obtain ⟨W, ⟨j1, j2, j3⟩, hr2⟩ := loopN (g := GW L xs) (d := d + 1) (mid := 240) (σ := Nat → Nat → Int) (fun k W => (22, [.ref 93, (Value.int (Int32.ofInt (l))), (Value.int (Int32.ofInt (k)))], [], zS (eV W) J tg)) (fun k W => (∀ c, c ≠ 103 → W c = V c) ∧ (∀ j, j < 5 → W 103 j = fcn p j k) ∧ ∀ j, 5 ≤ j → W 103 j = V 103 j) n (by
    intro k W hk ⟨i1, i2, i3⟩
    obtain ⟨p1, p2, p3⟩ := a4 k hk
    obtain ⟨v, hv⟩ : ∃ v : Nat, p k / 36 = v := ⟨(p k / 36).toNat, by omega⟩
    have hv5 : v < 5 := by omega
    have e94 : W 94 = V 94 := i1 94 (by decide)
    have k1 := k_184 (L := L) (xs := xs) (J := J) (tg := tg) (d := d) (V := W) (l := l) (w := 0) (by omega)
    have k2 := k_184 (L := L) (xs := xs) (J := J) (tg := tg) (d := d) (V := W) (l := l) (w := 4 + k) (by omega)
    rw [e94, a1] at k1
    rw [e94, p1] at k2
    refine ⟨up2 W 103 v (W 103 v + 1), ⟨fun c q => by rw [w_ne _ _ _ _ q]; exact i1 c q, fun j hj => ?_, fun j hj => by rw [w_at, if_neg (by omega)]; exact i3 j hj⟩, fun r hr => ?_⟩
    · rw [w_at, i2 v hv5]
      by_cases c : j = v
      · subst c; rw [if_pos rfl, fcn_s, if_pos hv]
      · rw [if_neg c, i2 j hj]
        rw [fcn_s, if_neg (by omega)]; omega
    · apply sg_240_22
      refine ⟨_, _, _, k1, ?_⟩
      simp (disch := omega) only [eV_at, eV_up, o_lit2, o_add, o_sub, o_mul, o_neg, o_div, o_nat, ix_t, o_lt, o_le, o_eq, o_bi0, o_bi1, o_bib, em_t, o_neg1, o_shl, o_tb, o_tb0, o_tt, o_and, o_xor, o_or, o_max, o_min, an_tb, and_true, true_and, not_true, not_false, if_true, if_false, tn_add, tn_mul, Int.reduceToNat, tn_cast, md_x]
      rw [if_neg (by omega)]
      refine ⟨_, _, _, k2, ?_⟩
      simp (disch := omega) only [hv, eV_at, eV_up, o_lit2, o_add, o_sub, o_mul, o_neg, o_div, o_nat, ix_t, o_lt, o_le, o_eq, o_bi0, o_bi1, o_bib, em_t, o_neg1, o_shl, o_tb, o_tb0, o_tt, o_and, o_xor, o_or, o_max, o_min, an_tb, and_true, true_and, not_true, not_false, if_true, if_false, tn_add, tn_mul, Int.reduceToNat, tn_cast, md_x]
      exact hr) n 0 A (by omega) ⟨i1, fun j hj => i2 j hj, i3⟩
  have e94 : W 94 = V 94 := j1 94 (by decide)
  have k0 := k_184 (L := L) (xs := xs) (J := J) (tg := tg) (d := d) (V := W) (l := l) (w := 0) (by omega)
  rw [e94, a1] at k0
  have k1 := k_184 (L := L) (xs := xs) (J := J) (tg := tg) (d := d) (V := up2 W 103 5 n) (l := l) (w := 1) (by omega)
  rw [w_nc _ _ _ _ (by decide), e94, a2] at k1
  have k2 := k_184 (L := L) (xs := xs) (J := J) (tg := tg) (d := d) (V := up2 (up2 W 103 5 n) 103 6 (B 4 dr)) (l := l) (w := 2) (by omega)
  rw [w_nc _ _ _ _ (by decide), w_nc _ _ _ _ (by decide), e94, b1] at k2
  refine ⟨up2 (up2 (up2 W 103 5 n) 103 6 (B 4 dr)) 103 7 (B 5 dr), fun c q => by rw [w_ne _ _ _ _ q, w_ne _ _ _ _ q, w_ne _ _ _ _ q]; exact j1 c q, fun k hk => ?_, fun k hk => by rw [w_at, if_neg (by omega), w_at, if_neg (by omega), w_at, if_neg (by omega)]; exact j3 k (by omega), ?_⟩
  · rw [w_at, w_at, w_at]
    unfold fct
    by_cases c7 : k = 7
    · subst c7; simp
    · rw [if_neg c7]
      by_cases c6 : k = 6
      · subst c6; simp
      · rw [if_neg c6]
        by_cases c5 : k = 5
        · subst c5; simp
        · rw [if_neg c5, if_pos (by omega)]
          exact j2 k (by omega)
  · refine sg_240 _ _ _ _ (hr1 _ (sg_240_2 _ _ _ _ _ ?_))
    simp (disch := omega) only [eV_at, eV_up, o_lit2, o_add, o_sub, o_mul, o_neg, o_div, o_nat, ix_t, o_lt, o_le, o_eq, o_bi0, o_bi1, o_bib, em_t, o_neg1, o_shl, o_tb, o_tb0, o_tt, o_and, o_xor, o_or, o_max, o_min, an_tb, and_true, true_and, not_true, not_false, if_true, if_false, tn_add, tn_mul, Int.reduceToNat, tn_cast, md_x]
    rw [if_pos (by omega)]
    refine hr2 _ ?_
    apply sg_240_22
    refine ⟨_, _, _, k0, ?_⟩
    simp (disch := omega) only [eV_at, eV_up, o_lit2, o_add, o_sub, o_mul, o_neg, o_div, o_nat, ix_t, o_lt, o_le, o_eq, o_bi0, o_bi1, o_bib, em_t, o_neg1, o_shl, o_tb, o_tb0, o_tt, o_and, o_xor, o_or, o_max, o_min, an_tb, and_true, true_and, not_true, not_false, if_true, if_false, tn_add, tn_mul, Int.reduceToNat, tn_cast, md_x]
    rw [if_pos (by omega)]
    refine ⟨_, _, _, k0, ?_⟩
    simp only [eV_up]
    refine ⟨_, _, _, k1, ?_⟩
    simp only [eV_up]
    refine ⟨_, _, _, k2, ?_⟩
    simp (disch := omega) only [eV_at, eV_up, o_lit2, o_add, o_sub, o_mul, o_neg, o_div, o_nat, ix_t, o_lt, o_le, o_eq, o_bi0, o_bi1, o_bib, em_t, o_neg1, o_shl, o_tb, o_tb0, o_tt, o_and, o_xor, o_or, o_max, o_min, an_tb, and_true, true_and, not_true, not_false, if_true, if_false, tn_add, tn_mul, Int.reduceToNat, tn_cast, md_x]
    by_cases c : 0 ≤ mz (B 5 dr)
    · rw [if_pos c]
      refine ⟨_, _, _, k2, ?_⟩
      have e : mz (B 5 dr) - 12 = B 5 dr := by omega
      simp (disch := omega) only [e, eV_at, eV_up, o_lit2, o_add, o_sub, o_mul, o_neg, o_div, o_nat, ix_t, o_lt, o_le, o_eq, o_bi0, o_bi1, o_bib, em_t, o_neg1, o_shl, o_tb, o_tb0, o_tt, o_and, o_xor, o_or, o_max, o_min, an_tb, and_true, true_and, not_true, not_false, if_true, if_false, tn_add, tn_mul, Int.reduceToNat, tn_cast, md_x]
    · rw [if_neg c]
      have e : B 5 dr = -1 := by omega
      rw [e]
theorem smG_of {B V : Nat → Nat → Int} (q : Qy B V) {k m : Nat} (hk : k < 4) (h : B 18 1 = k) (hm : V (47 + 4 * k) 4 = m) (kd so : Int) (N : Nat → Int) : smG B kd so N = anyB (fun i => decide (V (47 + 4 * k + 2) i = kd) && decide (evC V k i N = so)) m := by
  unfold smG
  rw [if_neg (by omega), h, tn_cast, ← smB_fr q.g hk]
  unfold smB
  rw [hm, tn_cast]
theorem m_241 {L d : Nat} {xs : Nat → Int32} {B V : Nat → Nat → Int} {J : Nat → Nat → Int64} {tg : Option Nat} (hI : INV B) (q : Qy B V) {l dr n : Nat} {p : Nat → Int} (hL : LKm B V l dr n p) {kd so : Int} (hkd : 4 ≤ kd ∧ kd ≤ 5) (hso : 0 ≤ so ∧ so ≤ 1) : ∃ W J2, (∀ c, c ≠ 103 → c ≠ 105 → W c = V c) ∧ Runs (GW L xs) (d + 3) 241 (0, [.ref 93, (Value.int (Int32.ofInt (l))), (Value.int (Int32.ofInt (kd - 3))), (Value.int (Int32.ofInt (so))), vU, vU, vU], [], zS (eV (V)) (J) tg) (some (Value.int (Int32.ofInt (bi (smG B kd so (fct B dr n p) = true)))), zS (eV (W)) (J2) tg) := by
  have hV := hI.q q
  have hn6 : n ≤ 6 := hL.1.2.1
  have hF : N12 (fct B dr n p) := fun k _ => by have := fct_rg hI.1 (dr := dr) (n := n) (by omega) p k; omega
  have r18 : -1 ≤ B 18 1 ∧ B 18 1 ≤ 3 := hI.1 18 1 (by decide) (by decide)
  have e944 : V 94 4 = B 18 1 := by
    have : V 94 4 = V 18 1 := hV.2.1.2.2.2.2.2.2.1.2.1
    rw [this, q.1 18 (by omega)]
  obtain ⟨A, a1, a2, a3, a4⟩ := m_240 (L := L) (xs := xs) (J := J) (tg := tg) (d := d + 1) hI.1 hL
  by_cases g : B 18 1 = -1
  · refine ⟨A, J, fun c q1 _ => a1 c q1, ?_⟩
    apply sg_241
    refine ⟨_, _, a4, ?_⟩
    apply sg_241_16
    simp (disch := omega) only [e944, eV_at, eV_up, o_lit2, o_add, o_sub, o_mul, o_neg, o_div, o_nat, ix_t, o_lt, o_le, o_eq, o_bi0, o_bi1, o_bib, em_t, o_neg1, o_shl, o_tb, o_tb0, o_tt, o_and, o_xor, o_or, o_max, o_min, an_tb, and_true, true_and, not_true, not_false, if_true, if_false, tn_add, tn_mul, Int.reduceToNat, tn_cast, md_x]
    rw [if_pos (by omega)]
    exact leafI (bi_f (by unfold smG; rw [if_pos g]; decide)).symm
  · obtain ⟨k, hk⟩ : ∃ k : Nat, B 18 1 = k := ⟨(B 18 1).toNat, by omega⟩
    have hk4 : k < 4 := by omega
    have hG : GRk V k := hI.gk q hk4 hk
    have hG' := hG
    obtain ⟨g1, g2, g3, g4, g5⟩ := hG'
    obtain ⟨m, em⟩ : ∃ m : Nat, V (47 + 4 * k) 4 = m := ⟨(V (47 + 4 * k) 4).toNat, by omega⟩
    rw [smG_of q hk4 hk em kd so]
    obtain ⟨r, ⟨W, J2, hW, hre⟩, hr⟩ := loopE (g := GW L xs) (d := d + 3) (mid := 241) (σ := (Nat → Nat → Int) × (Nat → Nat → Int64)) (fun i σ => (16, [.ref 93, (Value.int (Int32.ofInt (l))), (Value.int (Int32.ofInt (kd - 3))), (Value.int (Int32.ofInt (so))), (Value.int (Int32.ofInt (k))), (Value.int (Int32.ofInt (i))), vU], [], zS (eV σ.1) σ.2 tg)) (fun i σ => (∀ c, c ≠ 103 → c ≠ 105 → σ.1 c = V c) ∧ (∀ k, k < 8 → σ.1 103 k = fct B dr n p k) ∧ anyB (fun i => decide (V (47 + 4 * k + 2) i = kd) && decide (evC V k i (fct B dr n p) = so)) i = false) (fun r => ∃ W J2, (∀ c, c ≠ 103 → c ≠ 105 → W c = V c) ∧ r = (some (Value.int (Int32.ofInt (bi (anyB (fun i => decide (V (47 + 4 * k + 2) i = kd) && decide (evC V k i (fct B dr n p) = so)) m = true)))), zS (eV W) J2 tg)) m (by
      intro i ⟨W, J⟩ hi ⟨i1, i2, i3⟩
      dsimp only at i1 i2 i3 ⊢
      have hin : (i : Int) < V (47 + 4 * k) 4 := by omega
      obtain ⟨c0, c1, c2⟩ := hG.cl hin
      obtain ⟨b1, b2, b3, b4, -⟩ := g4 i hin
      have e96 : W 96 = V 96 := i1 96 (by decide) (by decide)
      have x0 : (800 : Int) * (k : Int) = ((800 * k : Nat) : Int) := by omega
      have x1 : ((800 * k : Nat) : Int) + 1 + 3 * (i : Int) = ((800 * k + 1 + 3 * i : Nat) : Int) := by omega
      have x2 : ((800 * k + 1 + 3 * i : Nat) : Int) + 1 = ((800 * k + 2 + 3 * i : Nat) : Int) := by omega
      have x3 : ((800 * k + 1 + 3 * i : Nat) : Int) + 2 = ((800 * k + 3 + 3 * i : Nat) : Int) := by omega
      have hs : anyB (fun i => decide (V (47 + 4 * k + 2) i = kd) && decide (evC V k i (fct B dr n p) = so)) (i + 1) = (anyB (fun i => decide (V (47 + 4 * k + 2) i = kd) && decide (evC V k i (fct B dr n p) = so)) i || (decide (V (47 + 4 * k + 2) i = kd) && decide (evC V k i (fct B dr n p) = so))) := rfl
      by_cases qk : V (47 + 4 * k + 2) i = kd
      · have h6 : V (47 + 4 * k + 2) i ≠ 6 := by omega
        have hnm := hG.nm hin h6
        have hb := evC_b hG hin h6 hF
        rw [if_neg h6] at c2
        obtain ⟨s1, s2, s3, s4, s5⟩ := c1
        obtain ⟨X, J2, y1, y2, y3, y4⟩ := m_239 (L := L) (xs := xs) (J := J) (tg := tg) (d := d) (V := W) (k := k) (st := (V (47 + 4 * k + 3) i).toNat) (ln := oln V k i) (f := opf V k i) (g := opg V k i) (N := fct B dr n p) hk4 s3 s4 (fun j _ => by rw [e96]; rfl) (fun j _ => by rw [e96]; rfl) hF (fun j hj h1 => by
          have hv := s4 j hj
          have := hnm j hj h1
          unfold vop at hv
          exact i2 _ (by omega)) c2
        have y2 : X 105 0 = evC V k i (fct B dr n p) := y2 0 (by omega)
        rw [← s1, ← s2] at y4
        have hX : ∀ c, c ≠ 103 → c ≠ 105 → X c = V c := fun c q1 q2 => by rw [y1 c q2]; exact i1 c q1 q2
        by_cases ev : evC V k i (fct B dr n p) = so
        · right
          refine ⟨_, ⟨X, J2, hX, rfl⟩, ?_⟩
          apply sg_241_16
          simp (disch := omega) only [x0, x1, x2, x3, e96, g3, em, b2, b3, b4, eV_at, eV_up, o_lit2, o_add, o_sub, o_mul, o_neg, o_div, o_nat, ix_t, o_lt, o_le, o_eq, o_bi0, o_bi1, o_bib, em_t, o_neg1, o_shl, o_tb, o_tb0, o_tt, o_and, o_xor, o_or, o_max, o_min, an_tb, and_true, true_and, not_true, not_false, if_true, if_false, tn_add, tn_mul, Int.reduceToNat, tn_cast, md_x]
          rw [if_neg (by omega), if_neg (by omega), if_pos (by omega)]
          refine ⟨_, _, y4, ?_⟩
          simp (disch := omega) only [y2, eV_at, eV_up, o_lit2, o_add, o_sub, o_mul, o_neg, o_div, o_nat, ix_t, o_lt, o_le, o_eq, o_bi0, o_bi1, o_bib, em_t, o_neg1, o_shl, o_tb, o_tb0, o_tt, o_and, o_xor, o_or, o_max, o_min, an_tb, and_true, true_and, not_true, not_false, if_true, if_false, tn_add, tn_mul, Int.reduceToNat, tn_cast, md_x]
          rw [if_pos ev]
          exact leafI (bi_t (anyB_t.mpr ⟨i, hi, by rw [decide_eq_true qk, decide_eq_true ev]; rfl⟩)).symm
        · left
          refine ⟨(X, J2), ⟨hX, fun k hk => by dsimp only; rw [y1 103 (by decide)]; exact i2 k hk, by rw [hs, i3, decide_eq_false ev, Bool.and_false]; rfl⟩, fun r hr => ?_⟩
          apply sg_241_16
          simp (disch := omega) only [x0, x1, x2, x3, e96, g3, em, b2, b3, b4, eV_at, eV_up, o_lit2, o_add, o_sub, o_mul, o_neg, o_div, o_nat, ix_t, o_lt, o_le, o_eq, o_bi0, o_bi1, o_bib, em_t, o_neg1, o_shl, o_tb, o_tb0, o_tt, o_and, o_xor, o_or, o_max, o_min, an_tb, and_true, true_and, not_true, not_false, if_true, if_false, tn_add, tn_mul, Int.reduceToNat, tn_cast, md_x]
          rw [if_neg (by omega), if_neg (by omega), if_pos (by omega)]
          refine ⟨_, _, y4, ?_⟩
          simp (disch := omega) only [y2, eV_at, eV_up, o_lit2, o_add, o_sub, o_mul, o_neg, o_div, o_nat, ix_t, o_lt, o_le, o_eq, o_bi0, o_bi1, o_bib, em_t, o_neg1, o_shl, o_tb, o_tb0, o_tt, o_and, o_xor, o_or, o_max, o_min, an_tb, and_true, true_and, not_true, not_false, if_true, if_false, tn_add, tn_mul, Int.reduceToNat, tn_cast, md_x]
          rw [if_neg ev]
          exact hr
      · left
        refine ⟨(W, J), ⟨i1, i2, by rw [hs, i3, decide_eq_false qk]; rfl⟩, fun r hr => ?_⟩
        apply sg_241_16
        simp (disch := omega) only [x0, x1, e96, g3, em, b2, eV_at, eV_up, o_lit2, o_add, o_sub, o_mul, o_neg, o_div, o_nat, ix_t, o_lt, o_le, o_eq, o_bi0, o_bi1, o_bib, em_t, o_neg1, o_shl, o_tb, o_tb0, o_tt, o_and, o_xor, o_or, o_max, o_min, an_tb, and_true, true_and, not_true, not_false, if_true, if_false, tn_add, tn_mul, Int.reduceToNat, tn_cast, md_x]
        rw [if_neg (by omega), if_neg (by omega), if_neg (by omega)]
        exact hr) (by
      intro ⟨W, J⟩ ⟨i1, i2, i3⟩
      dsimp only at i1 i2 i3 ⊢
      have e96 : W 96 = V 96 := i1 96 (by decide) (by decide)
      have x0 : (800 : Int) * (k : Int) = ((800 * k : Nat) : Int) := by omega
      refine ⟨_, ⟨W, J, i1, rfl⟩, ?_⟩
      apply sg_241_16
      simp (disch := omega) only [x0, e96, g3, em, eV_at, eV_up, o_lit2, o_add, o_sub, o_mul, o_neg, o_div, o_nat, ix_t, o_lt, o_le, o_eq, o_bi0, o_bi1, o_bib, em_t, o_neg1, o_shl, o_tb, o_tb0, o_tt, o_and, o_xor, o_or, o_max, o_min, an_tb, and_true, true_and, not_true, not_false, if_true, if_false, tn_add, tn_mul, Int.reduceToNat, tn_cast, md_x]
      rw [if_neg (by omega), if_pos (by omega)]
      exact leafI (bi_f (by rw [i3]; decide)).symm) m 0 (A, J) (by omega) ⟨fun c q1 _ => a1 c q1, a2, rfl⟩
    subst hre
    refine ⟨W, J2, hW, ?_⟩
    apply sg_241
    refine ⟨_, _, a4, ?_⟩
    rw [eV_at, e944, hk]
    exact hr
theorem m_242 {L d : Nat} {xs : Nat → Int32} {B V : Nat → Nat → Int} {J : Nat → Nat → Int64} {tg : Option Nat} (hI : INV B) (q : Qy B V) {l dr n : Nat} {p : Nat → Int} (hL : LKm B V l dr n p) : ∃ W J2, (∀ c, c ≠ 103 → c ≠ 105 → W c = V c) ∧ Runs (GW L xs) (d + 4) 242 (0, [.ref 93, (Value.int (Int32.ofInt (l)))], [], zS (eV (V)) (J) tg) (some (Value.int (Int32.ofInt (bi (smG B 4 1 (fct B dr n p) = true)))), zS (eV (W)) (J2) tg) := by
  obtain ⟨W, J2, w1, w2⟩ := m_241 (L := L) (xs := xs) (J := J) (tg := tg) (d := d) hI q hL (kd := 4) (so := 1) (by omega) (by omega)
  exact ⟨W, J2, w1, sg_242 _ _ _ _ ⟨_, _, _, w2, o_01 (bi_rg _), rfl⟩⟩
theorem m_243 {L d : Nat} {xs : Nat → Int32} {B V : Nat → Nat → Int} {J : Nat → Nat → Int64} {tg : Option Nat} (hI : INV B) (q : Qy B V) {l dr n : Nat} {p : Nat → Int} (hL : LKm B V l dr n p) : ∃ W J2, (∀ c, c ≠ 103 → c ≠ 105 → W c = V c) ∧ Runs (GW L xs) (d + 4) 243 (0, [.ref 93, (Value.int (Int32.ofInt (l)))], [], zS (eV (V)) (J) tg) (some (Value.int (Int32.ofInt (bi (¬ smG B 5 0 (fct B dr n p) = true)))), zS (eV (W)) (J2) tg) := by
  obtain ⟨W, J2, w1, w2⟩ := m_241 (L := L) (xs := xs) (J := J) (tg := tg) (d := d) hI q hL (kd := 5) (so := 0) (by omega) (by omega)
  refine ⟨W, J2, w1, sg_243 _ _ _ _ ⟨_, _, _, w2, ?_⟩⟩
  by_cases g : smG B 5 0 (fct B dr n p) = true
  · rw [if_neg (b0_f g)]; exact leafI (bi_f (fun h => h g)).symm
  · rw [if_pos (b0_t g)]; exact leafI (bi_t g).symm
theorem m_245 {L d : Nat} {xs : Nat → Int32} {B V : Nat → Nat → Int} {J : Nat → Nat → Int64} {tg : Option Nat} (hI : INV B) (q : Qy B V) {l dr n : Nat} {p : Nat → Int} (hL : LKm B V l dr n p) {took : Int} (ht : -1 ≤ took ∧ took ≤ 11) : ∃ W J2, (∀ c, c ≠ 103 → c ≠ 105 → W c = V c) ∧ Runs (GW L xs) (d + 5) 245 (0, [.ref 93, (Value.int (Int32.ofInt (l))), (Value.int (Int32.ofInt (mz took)))], [], zS (eV (V)) (J) tg) (some (Value.int (Int32.ofInt (bi (rt (B 5 dr) (bi (smG B 4 1 (fct B dr n p) = true)) (B 6 dr) took)))), zS (eV (W)) (J2) tg) := by
  have r5 : -1 ≤ B 5 dr ∧ B 5 dr ≤ 11 := hI.1 5 dr (by decide) (by decide)
  have r6 : 0 ≤ B 6 dr ∧ B 6 dr ≤ 1 := hI.1 6 dr (by decide) (by decide)
  obtain ⟨m1, m2, m3, m4⟩ := mz_rg r5
  obtain ⟨t1, t2, t3, t4⟩ := mz_rg ht
  have hl : l < 25 := hL.1.1
  have k2 := k_184 (L := L) (xs := xs) (J := J) (tg := tg) (d := d + 4) (V := V) (l := l) (w := 2) (by omega)
  rw [hL.2.1] at k2
  by_cases g1 : B 5 dr = -1
  · refine ⟨V, J, fun _ _ _ => rfl, ?_⟩
    apply sg_245
    refine ⟨_, _, _, k2, ?_⟩
    simp (disch := omega) only [eV_at, eV_up, o_lit2, o_add, o_sub, o_mul, o_neg, o_div, o_nat, ix_t, o_lt, o_le, o_eq, o_bi0, o_bi1, o_bib, em_t, o_neg1, o_shl, o_tb, o_tb0, o_tt, o_and, o_xor, o_or, o_max, o_min, an_tb, and_true, true_and, not_true, not_false, if_true, if_false, tn_add, tn_mul, Int.reduceToNat, tn_cast, md_x]
    rw [if_pos (by omega)]
    exact leafI (bi_f (fun h => h.1 (h.2.2.trans g1))).symm
  · by_cases g2 : took = B 5 dr
    · obtain ⟨W, J2, w1, w2⟩ := m_242 (L := L) (xs := xs) (J := J) (tg := tg) (d := d) hI q hL
      have k3 := k_184 (L := L) (xs := xs) (J := J2) (tg := tg) (d := d + 4) (V := W) (l := l) (w := 3) (by omega)
      rw [w1 94 (by decide) (by decide), hL.2.2] at k3
      refine ⟨W, J2, w1, ?_⟩
      apply sg_245
      refine ⟨_, _, _, k2, ?_⟩
      simp (disch := omega) only [eV_at, eV_up, o_lit2, o_add, o_sub, o_mul, o_neg, o_div, o_nat, ix_t, o_lt, o_le, o_eq, o_bi0, o_bi1, o_bib, em_t, o_neg1, o_shl, o_tb, o_tb0, o_tt, o_and, o_xor, o_or, o_max, o_min, an_tb, and_true, true_and, not_true, not_false, if_true, if_false, tn_add, tn_mul, Int.reduceToNat, tn_cast, md_x]
      rw [if_neg (by omega)]
      refine ⟨_, _, _, k2, ?_⟩
      rw [g2, if_pos rfl]
      refine ⟨_, _, _, w2, _, _, _, k3, ?_⟩
      have rb := bi_rg (smG B 4 1 (fct B dr n p) = true)
      generalize bi (smG B 4 1 (fct B dr n p) = true) = dn at rb ⊢
      simp (disch := omega) only [eV_at, eV_up, o_lit2, o_add, o_sub, o_mul, o_neg, o_div, o_nat, ix_t, o_lt, o_le, o_eq, o_bi0, o_bi1, o_bib, em_t, o_neg1, o_shl, o_tb, o_tb0, o_tt, o_and, o_xor, o_or, o_max, o_min, an_tb, and_true, true_and, not_true, not_false, if_true, if_false, tn_add, tn_mul, Int.reduceToNat, tn_cast, md_x]
      by_cases c1 : B 6 dr = 1
      · rw [if_pos c1]
        by_cases c2 : dn = 1
        · rw [if_pos c2]; exact leafI (bi_t ⟨by omega, by omega, rfl⟩).symm
        · rw [if_neg c2]; exact leafI (bi_f (fun h => by have := h.2.1; omega)).symm
      · rw [if_neg c1]
        by_cases c2 : dn = 0
        · rw [if_pos c2]; exact leafI (bi_t ⟨by omega, by omega, rfl⟩).symm
        · rw [if_neg c2]; exact leafI (bi_f (fun h => by have := h.2.1; omega)).symm
    · refine ⟨V, J, fun _ _ _ => rfl, ?_⟩
      apply sg_245
      refine ⟨_, _, _, k2, ?_⟩
      simp (disch := omega) only [eV_at, eV_up, o_lit2, o_add, o_sub, o_mul, o_neg, o_div, o_nat, ix_t, o_lt, o_le, o_eq, o_bi0, o_bi1, o_bib, em_t, o_neg1, o_shl, o_tb, o_tb0, o_tt, o_and, o_xor, o_or, o_max, o_min, an_tb, and_true, true_and, not_true, not_false, if_true, if_false, tn_add, tn_mul, Int.reduceToNat, tn_cast, md_x]
      rw [if_neg (by omega)]
      refine ⟨_, _, _, k2, ?_⟩
      simp (disch := omega) only [eV_at, eV_up, o_lit2, o_add, o_sub, o_mul, o_neg, o_div, o_nat, ix_t, o_lt, o_le, o_eq, o_bi0, o_bi1, o_bib, em_t, o_neg1, o_shl, o_tb, o_tb0, o_tt, o_and, o_xor, o_or, o_max, o_min, an_tb, and_true, true_and, not_true, not_false, if_true, if_false, tn_add, tn_mul, Int.reduceToNat, tn_cast, md_x]
      rw [if_neg (by omega)]
      exact leafI (bi_f (fun h => g2 h.2.2)).symm
