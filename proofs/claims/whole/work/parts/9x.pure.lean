/-! PARTS in a list; a DRAWING that lost some: worn. -/
def lf (l : List Int) (j : Nat) : Int := l.getD j 0
theorem lf_mem {l : List Int} {j : Nat} (h : j < l.length) : lf l j ∈ l := by
  have : l.getD j 0 = l[j] := by simp [List.getD, List.getElem?_eq_getElem h]
  unfold lf
  rw [this]
  exact List.getElem_mem h
theorem lf_init {l : List Int} {v : Int} {j : Nat} (h : j < l.length) : lf (l ++ [v]) j = lf l j := gD_init h
theorem lf_last {l : List Int} {v : Int} {j : Nat} (h : j = l.length) : lf (l ++ [v]) j = v := gD_last h
def kpL (p : Nat → Int) (s : Nat) : Nat → List Int
  | 0 => []
  | n + 1 => if s.testBit n then kpL p s n else kpL p s n ++ [p n]
theorem kpL_len {p : Nat → Int} {s : Nat} : ∀ n, (kpL p s n).length ≤ n
  | 0 => by simp [kpL]
  | n + 1 => by
    have := kpL_len (p := p) (s := s) n
    unfold kpL
    split
    · omega
    · simp; omega
theorem kpL_mem {p : Nat → Int} {s : Nat} {v : Int} : ∀ n, v ∈ kpL p s n → ∃ i, i < n ∧ v = p i
  | 0, h => by simp [kpL] at h
  | n + 1, h => by
    unfold kpL at h
    split at h
    · obtain ⟨i, h1, h2⟩ := kpL_mem n h
      exact ⟨i, by omega, h2⟩
    · rcases List.mem_append.mp h with h | h
      · obtain ⟨i, h1, h2⟩ := kpL_mem n h
        exact ⟨i, by omega, h2⟩
      · exact ⟨n, by omega, by simpa using h⟩
theorem FARp_cg {V : Nat → Nat → Int} {n : Nat} {p q : Nat → Int} (h : ∀ i, i < n → p i = q i) (cp : Int) (l : Nat) : FARp V n p cp l = FARp V n q cp l := by
  unfold FARp
  rw [GN_cg (g' := gF V q (lkc V l)) (fun i j hi _ => by unfold gF gpr okF csF; rw [h i hi])]
def okPL (l : List Int) : Prop := l.length ≤ 6 ∧ ∀ v, v ∈ l → 0 ≤ v ∧ v < 180
theorem kpL_ok {B : Nat → Nat → Int} (hR : RNG B) (dr s : Nat) {n : Nat} (hn : n ≤ 6) : okPL (kpL (lkc B dr) s n) := ⟨by have := kpL_len (p := lkc B dr) (s := s) n; omega, fun v hv => by
  obtain ⟨i, h1, h2⟩ := kpL_mem n hv
  have : 0 ≤ B 2 (dr * 6 + i) ∧ B 2 (dr * 6 + i) ≤ 179 := hR 2 _ (by decide) (by decide)
  unfold lkc at h2
  omega⟩
section WN
variable {L d : Nat} {xs : Nat → Int32} {B V : Nat → Nat → Int} {J : Nat → Nat → Int64} {tg : Option Nat}
/-- keepBut -/
theorem k_9 (hI : INV B) (q : Qy B V) {dr s : Nat} (hd : dr < 12) (hs : s < 4096) : ∃ W, (∀ c, c ≠ 80 → W c = V c) ∧ (∀ j, j < (kpL (lkc B dr) s (B 3 dr).toNat).length → W 80 j = lf (kpL (lkc B dr) s (B 3 dr).toNat) j) ∧ Runs (GW L xs) (d) 9 (0, [.ref 79, (Value.int (Int32.ofInt (dr))), (Value.int (Int32.ofInt (s))), vU, vU], [], zS (eV (V)) J tg) (some (Value.int (Int32.ofInt ((kpL (lkc B dr) s (B 3 dr).toNat).length))), zS (eV (W)) J tg) := by
  have r3 : 0 ≤ B 3 dr ∧ B 3 dr ≤ 6 := hI.1 3 dr (by decide) (by decide)
  obtain ⟨n, hn⟩ : ∃ n : Nat, B 3 dr = n := ⟨(B 3 dr).toNat, by omega⟩
  have h3 : ∀ W : Nat → Nat → Int, (∀ c, c ≠ 80 → W c = V c) → W 3 dr = n ∧ ∀ i, W 2 (dr * 6 + i) = lkc B dr i := fun W f => ⟨by rw [f 3 (by decide), q.1 3 (by omega)]; exact hn, fun i => by rw [f 2 (by decide), q.1 2 (by omega)]; rfl⟩
  rw [hn, tn_cast]
  obtain ⟨W, ⟨i1, i2⟩, hr⟩ := loopN (g := GW L xs) (d := d) (mid := 9) (σ := Nat → Nat → Int) (fun i W => (5, [.ref 79, (Value.int (Int32.ofInt (dr))), (Value.int (Int32.ofInt (s))), (Value.int (Int32.ofInt ((kpL (lkc B dr) s i).length))), (Value.int (Int32.ofInt (i)))], [], zS (eV W) J tg)) (fun i W => (∀ c, c ≠ 80 → W c = V c) ∧ ∀ j, j < (kpL (lkc B dr) s i).length → W 80 j = lf (kpL (lkc B dr) s i) j) n (by
    intro i W hi ⟨i1, i2⟩
    obtain ⟨e3, e2⟩ := h3 W i1
    have e2 := e2 i
    have hlen := kpL_len (p := lkc B dr) (s := s) i
    have hk : kpL (lkc B dr) s (i + 1) = if s.testBit i then kpL (lkc B dr) s i else kpL (lkc B dr) s i ++ [lkc B dr i] := rfl
    generalize kpL (lkc B dr) s i = l at i2 hlen hk ⊢
    cases t : s.testBit i
    · rw [t, if_neg (by decide)] at hk
      rw [hk]
      refine ⟨up2 W 80 l.length (lkc B dr i), ⟨fun c q => by rw [w_ne _ _ _ _ q]; exact i1 c q, fun j hj => ?_⟩, fun r hr => ?_⟩
      · rw [List.length_append, List.length_singleton] at hj
        rw [w_at]
        by_cases e : j = l.length
        · rw [if_pos e, lf_last e]
        · rw [if_neg e, lf_init (by omega)]; exact i2 j (by omega)
      · apply sg_9_5
        simp (disch := omega) only [e3, e2, eV_at, eV_up, o_lit2, o_add, o_sub, o_mul, o_neg, o_div, o_nat, ix_t, o_lt, o_le, o_eq, o_bi0, o_bi1, o_bib, em_t, o_neg1, o_shl, o_tb, o_tb0, o_tt, o_and, o_xor, o_or, o_max, o_min, an_tb, and_true, true_and, not_true, not_false, if_true, if_false, tn_add, tn_mul, Int.reduceToNat, tn_cast, md_x]
        rw [if_neg (by omega), if_pos t]
        rw [List.length_append, List.length_singleton] at hr
        exact hr
    · rw [t, if_pos rfl] at hk
      rw [hk]
      refine ⟨W, ⟨i1, i2⟩, fun r hr => ?_⟩
      apply sg_9_5
      simp (disch := omega) only [e3, eV_at, eV_up, o_lit2, o_add, o_sub, o_mul, o_neg, o_div, o_nat, ix_t, o_lt, o_le, o_eq, o_bi0, o_bi1, o_bib, em_t, o_neg1, o_shl, o_tb, o_tb0, o_tt, o_and, o_xor, o_or, o_max, o_min, an_tb, and_true, true_and, not_true, not_false, if_true, if_false, tn_add, tn_mul, Int.reduceToNat, tn_cast, md_x]
      rw [if_neg (by omega), if_neg (by rw [t]; decide)]
      exact hr) n 0 V (by omega) ⟨fun _ _ => rfl, fun j hj => by simp [kpL] at hj⟩
  obtain ⟨e3, e2⟩ := h3 W i1
  refine ⟨W, i1, i2, ?_⟩
  apply sg_9
  refine hr _ ?_
  apply sg_9_5
  simp (disch := omega) only [e3, eV_at, eV_up, o_lit2, o_add, o_sub, o_mul, o_neg, o_div, o_nat, ix_t, o_lt, o_le, o_eq, o_bi0, o_bi1, o_bib, em_t, o_neg1, o_shl, o_tb, o_tb0, o_tt, o_and, o_xor, o_or, o_max, o_min, an_tb, and_true, true_and, not_true, not_false, if_true, if_false, tn_add, tn_mul, Int.reduceToNat, tn_cast, md_x]
  rw [if_pos (by omega)] <;> first | rfl | trivial
/-- meetChanged -/
theorem k_95 (hI : INV B) (q : Qy B V) {dr st : Nat} {l : List Int} (hd : dr < 12) (hst : st < 6) (hl : okPL l) (h80 : ∀ j, j < l.length → V 80 j = lf l j) : ∃ W, (∀ c, c ≠ 45 → ¬ (72 ≤ c ∧ c ≤ 78) → W c = V c) ∧ MT B W dr st (bi (smG B 4 1 (fct B dr l.length (lf l)) = true)) (fct B dr l.length (lf l)) (scp B l.length (lf l) (B 4 dr) st) ∧ Runs (GW L xs) (d + 4) 95 (0, [.ref 75, (Value.int (Int32.ofInt (dr))), (Value.int (Int32.ofInt (st))), .ref 80, (Value.int (Int32.ofInt (l.length))), vU], [], zS (eV (V)) J tg) (none, zS (eV (W)) J tg) := by
  obtain ⟨hl6, hlr⟩ := hl
  have hRV : RNG V := hI.1.fr fun c hc => q.1 c (by omega)
  have rT : 0 ≤ B 1 1 ∧ B 1 1 ≤ 12 := hI.1 1 1 (by decide) (by decide)
  have r4 : 0 ≤ B 4 dr ∧ B 4 dr ≤ 3 := hI.1 4 dr (by decide) (by decide)
  obtain ⟨T, hT⟩ : ∃ T : Nat, B 1 1 = T := ⟨(B 1 1).toNat, by omega⟩
  obtain ⟨A, a1, a2, a3, a4, a5, a6⟩ := k_97_80 (L := L) (xs := xs) (J := J) (tg := tg) (d := d + 2) hRV (dr := dr) (st := st) (f := 0) (n := l.length) hd (by omega) (fun i hi => by
    rw [Nat.zero_add, h80 i hi]; exact hlr _ (lf_mem hi))
  have eF : ∀ k, fct V dr l.length (fun i => V 80 (0 + i)) k = fct B dr l.length (lf l) k := fun k => by
    rw [fct_cg (q := lf l) (fun i hi => by rw [Nat.zero_add]; exact h80 i hi)]
    unfold fct
    rw [q.1 4 (by omega), q.1 5 (by omega)]
  have hF : ∀ k, k < 12 → A 78 k = fct B dr l.length (lf l) k := fun k hk => by rw [a5 k hk, eF]
  obtain ⟨U, ⟨i1, i2, i3, i4, i5⟩, hr⟩ := loopN (g := GW L xs) (d := d + 4) (mid := 95) (σ := Nat → Nat → Int) (fun t W => (13, [.ref 75, (Value.int (Int32.ofInt (dr))), (Value.int (Int32.ofInt (st))), .ref 80, (Value.int (Int32.ofInt (l.length))), (Value.int (Int32.ofInt (t)))], [], zS (eV W) J tg)) (fun t W => (∀ c, ¬ (72 ≤ c ∧ c ≤ 75) → c ≠ 77 → c ≠ 78 → W c = V c) ∧ W 75 8 = (dr : Int) ∧ W 75 9 = (st : Int) ∧ (∀ k, k < 12 → W 78 k = fct B dr l.length (lf l) k) ∧ ∀ j, j < t → W 77 j = scp B l.length (lf l) (B 4 dr) st j) T (by
    intro t W ht ⟨i1, i2, i3, i4, i5⟩
    have qW : Qy B W := q.cl fun c _ q2 => i1 c (by omega) (by omega) (by omega)
    have hRW : RNG W := hI.1.fr fun c hc => qW.1 c (by omega)
    have e11 : W 1 1 = T := by rw [qW.1 1 (by omega)]; exact hT
    have e4 : W 4 dr = B 4 dr := by rw [qW.1 4 (by omega)]
    have e80 : ∀ i, i < l.length → W 80 i = lf l i := fun i hi => by rw [i1 80 (by omega) (by omega) (by omega)]; exact h80 i hi
    obtain ⟨X, x1, x2⟩ := k_63_80 (L := L) (xs := xs) (J := J) (tg := tg) (d := d + 1) hRW (l := 12 + t) (f := 0) (n := l.length) (by omega) hl6 (by omega) r4 (fun i hi => by rw [Nat.zero_add, e80 i hi]; exact hlr _ (lf_mem hi))
    rw [FARp_cg (q := lf l) (fun i hi => by rw [Nat.zero_add]; exact e80 i hi), FARp_fr (qW.1 1 (by omega)) (qW.1 2 (by omega)) (qW.1 3 (by omega)) (qW.1 4 (by omega))] at x2
    have x75 : X 75 = W 75 := x1 75 (by decide) (by decide) (by decide)
    have h9 : X 75 9 = st := by rw [x75]; exact i3
    have e10 : X 10 = B 10 := by rw [x1 10 (by decide) (by decide) (by decide), qW.1 10 (by omega)]
    have k6 : Runs (GW L xs) (d + 3) 96 (0, [.ref 75, (Value.int (Int32.ofInt (t))), (Value.int (Int32.ofInt (FARp B l.length (lf l) (B 4 dr) (12 + t))))], [], zS (eV (X)) J tg) (none, zS (eV (up2 X 77 t (scp B l.length (lf l) (B 4 dr) st t))) J tg) := by
      apply sg_96
      simp (disch := omega) only [h9, e10, eV_at, eV_up, o_lit2, o_add, o_sub, o_mul, o_neg, o_div, o_nat, ix_t, o_lt, o_le, o_eq, o_bi0, o_bi1, o_bib, em_t, o_neg1, o_shl, o_tb, o_tb0, o_tt, o_and, o_xor, o_or, o_max, o_min, an_tb, and_true, true_and, not_true, not_false, if_true, if_false, tn_add, tn_mul, Int.reduceToNat, tn_cast, md_x]
      rfl
    refine ⟨up2 X 77 t (scp B l.length (lf l) (B 4 dr) st t), ⟨fun c q1 q2 q3 => by rw [w_ne _ _ _ _ q2, x1 c (by omega) (by omega) (by omega)]; exact i1 c q1 q2 q3, by rw [w_nc _ _ _ _ (by decide), x75]; exact i2, by rw [w_nc _ _ _ _ (by decide), x75]; exact i3, fun k hk => by rw [w_nc _ _ _ _ (by decide), x1 78 (by decide) (by decide) (by decide)]; exact i4 k hk, fun j hj => ?_⟩, fun r hr => ?_⟩
    · rw [w_at]
      by_cases e : j = t
      · rw [if_pos e, e]
      · rw [if_neg e, x1 77 (by decide) (by decide) (by decide)]; exact i5 j (by omega)
    · apply sg_95c80_13
      simp (disch := omega) only [e11, e4, eV_at, eV_up, o_lit2, o_add, o_sub, o_mul, o_neg, o_div, o_nat, ix_t, o_lt, o_le, o_eq, o_bi0, o_bi1, o_bib, em_t, o_neg1, o_shl, o_tb, o_tb0, o_tt, o_and, o_xor, o_or, o_max, o_min, an_tb, and_true, true_and, not_true, not_false, if_true, if_false, tn_add, tn_mul, Int.reduceToNat, tn_cast, md_x]
      rw [if_neg (by omega)]
      exact ⟨_, _, x2, _, k6, hr⟩) T 0 A (by omega) ⟨fun c q1 q2 q3 => a1 c (by omega) (by omega), a3, a4, hF, fun j hj => by omega⟩
  have qU : Qy B U := q.cl fun c _ q2 => i1 c (by omega) (by omega) (by omega)
  have hN : N12 (U 78) := fun k hk => by rw [i4 k hk]; have := fct_rg hI.1 (dr := dr) (n := l.length) (by omega) (lf l) k; omega
  obtain ⟨W, w1, w2, w3, w4⟩ := k_98 (L := L) (xs := xs) (J := J) (tg := tg) (d := d) hI qU hN
  rw [smG_cg hI (by decide) (fun v hv => i4 v (by omega))] at w3
  have e11 : U 1 1 = T := by rw [qU.1 1 (by omega)]; exact hT
  refine ⟨W, fun c q1 q2 => by rw [w1 c q1 (by omega)]; exact i1 c (by omega) (by omega) (by omega), ⟨by rw [w2 8 (by decide)]; exact i2, by rw [w2 9 (by decide)]; exact i3, w3, fun k hk => by rw [w1 78 (by decide) (by decide)]; exact i4 k (by omega), by rw [w1 78 (by decide) (by decide)]; exact hN, fun ld hld _ t ht => ?_⟩, ?_⟩
  · rw [w1 77 (by decide) (by decide)]
    refine i5 t ?_
    obtain ⟨k1, k2, k3⟩ := know_lt hI hld
    have := Nat.lt_of_not_le fun hle => by rw [tb_hi k1 hle] at ht; exact Bool.noConfusion ht
    omega
  · apply sg_95c80
    refine ⟨_, a6, hr _ ?_⟩
    apply sg_95c80_13
    simp (disch := omega) only [e11, eV_at, eV_up, o_lit2, o_add, o_sub, o_mul, o_neg, o_div, o_nat, ix_t, o_lt, o_le, o_eq, o_bi0, o_bi1, o_bib, em_t, o_neg1, o_shl, o_tb, o_tb0, o_tt, o_and, o_xor, o_or, o_max, o_min, an_tb, and_true, true_and, not_true, not_false, if_true, if_false, tn_add, tn_mul, Int.reduceToNat, tn_cast, md_x]
    rw [if_pos (by omega)]
    exact ⟨_, w4, rfl⟩
/-- cells that trials of the reference work in -/
def TF (V W : Nat → Nat → Int) : Prop := (∀ c, ¬ (97 ≤ c ∧ c ≤ 99) → c ≠ 94 → c ≠ 103 → c ≠ 105 → W c = V c) ∧ ∀ p, ¬ (548 ≤ p ∧ p < 570) → W 94 p = V 94 p
theorem TF.rf : TF V V := ⟨fun _ _ _ _ _ => rfl, fun _ _ => rfl⟩
theorem TF.tr {U W : Nat → Nat → Int} (h : TF U V) (k : TF V W) : TF U W := ⟨fun c q1 q2 q3 q4 => (k.1 c q1 q2 q3 q4).trans (h.1 c q1 q2 q3 q4), fun p hp => (k.2 p hp).trans (h.2 p hp)⟩
theorem MF.tf {W : Nat → Nat → Int} (f : MF V W) : TF V W := ⟨fun c q1 _ q3 q4 => f c q1 q3 q4, fun p _ => by rw [f 94 (by omega) (by omega) (by omega)]⟩
theorem Qy.tf {W : Nat → Nat → Int} (q : Qy B V) (f : TF V W) : Qy B W := ⟨fun c h => by rw [f.1 c (by omega) (by omega) (by omega) (by omega)]; exact q.1 c h, fun p h => by rw [f.2 p h]; exact q.2.1 p h, fun p h => by rw [f.1 93 (by omega) (by omega) (by omega) (by omega)]; exact q.2.2.1 p h, q.2.2.2.up (f.1 1 (by omega) (by omega) (by omega) (by omega)) (f.1 2 (by omega) (by omega) (by omega) (by omega)) (f.1 3 (by omega) (by omega) (by omega) (by omega)) (f.1 4 (by omega) (by omega) (by omega) (by omega)) (f.1 71 (by omega) (by omega) (by omega) (by omega)) (f.1 81 (by omega) (by omega) (by omega) (by omega))⟩
/-- tryOn -/
theorem m_257 (hI : INV B) (q : Qy B V) {dr : Nat} (hd : (dr : Int) < B 1 0) : ∃ W, (∀ c, c ≠ 94 → W c = V c) ∧ (∀ p, ¬ (548 ≤ p ∧ p < 570) → W 94 p = V 94 p) ∧ LKm B W 24 dr 0 (lf []) ∧ Runs (GW L xs) (d + 1) 257 (0, [.ref 93, (Value.int (Int32.ofInt (dr))), vU], [], zS (eV (V)) J tg) (none, zS (eV (W)) J tg) := by
  have rD : 0 ≤ B 1 0 ∧ B 1 0 ≤ 12 := hI.1 1 0 (by decide) (by decide)
  obtain ⟨⟨-, -, -, c1, c2, -⟩, c3, c4⟩ := LKm_of hI q hd
  obtain ⟨W, ⟨i1, i2, i3⟩, hr⟩ := loopN (g := GW L xs) (d := d + 1) (mid := 257) (σ := Nat → Nat → Int) (fun k W => (2, [.ref 93, (Value.int (Int32.ofInt (dr))), (Value.int (Int32.ofInt (k)))], [], zS (eV W) J tg)) (fun k W => (∀ c, c ≠ 94 → W c = V c) ∧ (∀ p, ¬ (548 ≤ p ∧ p < 570) → W 94 p = V 94 p) ∧ ∀ j, j < k → W 94 (548 + j) = V 94 (20 + 22 * dr + j)) 22 (by
    intro k W hk ⟨i1, i2, i3⟩
    have k1 := k_184 (L := L) (xs := xs) (J := J) (tg := tg) (d := d) (V := W) (l := dr) (w := k) (by omega)
    rw [i2 _ (by omega)] at k1
    refine ⟨up2 W 94 (548 + k) (V 94 (20 + 22 * dr + k)), ⟨fun c q => by rw [w_ne _ _ _ _ q]; exact i1 c q, fun p hp => by rw [w_at, if_neg (by omega)]; exact i2 p hp, fun j hj => ?_⟩, fun r hr => ?_⟩
    · rw [w_at]
      by_cases e : j = k
      · rw [if_pos (by omega), e]
      · rw [if_neg (by omega)]; exact i3 j (by omega)
    · apply sg_257_2
      simp (disch := omega) only [eV_at, eV_up, o_lit2, o_add, o_sub, o_mul, o_neg, o_div, o_nat, ix_t, o_lt, o_le, o_eq, o_bi0, o_bi1, o_bib, em_t, o_neg1, o_shl, o_tb, o_tb0, o_tt, o_and, o_xor, o_or, o_max, o_min, an_tb, and_true, true_and, not_true, not_false, if_true, if_false, tn_add, tn_mul, Int.reduceToNat, tn_cast, md_x]
      rw [if_neg (by omega)]
      refine ⟨_, _, _, k1, ?_⟩
      simp (disch := omega) only [eV_at, eV_up, o_lit2, o_add, o_sub, o_mul, o_neg, o_div, o_nat, ix_t, o_lt, o_le, o_eq, o_bi0, o_bi1, o_bib, em_t, o_neg1, o_shl, o_tb, o_tb0, o_tt, o_and, o_xor, o_or, o_max, o_min, an_tb, and_true, true_and, not_true, not_false, if_true, if_false, tn_add, tn_mul, Int.reduceToNat, tn_cast, md_x]
      exact hr) 22 0 V (by omega) ⟨fun _ _ => rfl, fun _ _ => rfl, fun j hj => by omega⟩
  refine ⟨up2 W 94 548 0, fun c q => by rw [w_ne _ _ _ _ q]; exact i1 c q, fun p hp => by rw [w_at, if_neg (by omega)]; exact i2 p hp, ⟨⟨by omega, by omega, w_eq _ _ _ _, ?_, c2, fun i hi => by omega⟩, ?_, ?_⟩, ?_⟩
  · rw [w_at, if_neg (by omega)]; rw [← c1]; exact i3 1 (by omega)
  · rw [w_at, if_neg (by omega)]; rw [← c3]; exact i3 2 (by omega)
  · rw [w_at, if_neg (by omega)]; rw [← c4]; exact i3 3 (by omega)
  · apply sg_257
    refine hr _ ?_
    apply sg_257_2
    simp (disch := omega) only [eV_at, eV_up, o_lit2, o_add, o_sub, o_mul, o_neg, o_div, o_nat, ix_t, o_lt, o_le, o_eq, o_bi0, o_bi1, o_bib, em_t, o_neg1, o_shl, o_tb, o_tb0, o_tt, o_and, o_xor, o_or, o_max, o_min, an_tb, and_true, true_and, not_true, not_false, if_true, if_false, tn_add, tn_mul, Int.reduceToNat, tn_cast, md_x]
    rw [if_pos (by omega)] <;> first | rfl | trivial
/-- add, to the one that is tried -/
theorem m_189 {dr : Nat} {l : List Int} {v : Int} (hL : LKm B V 24 dr l.length (lf l)) (hl : l.length < 6) (hv : 0 ≤ v ∧ v < 180) : ∃ W, (∀ c, c ≠ 94 → W c = V c) ∧ (∀ p, ¬ (548 ≤ p ∧ p < 570) → W 94 p = V 94 p) ∧ LKm B W 24 dr (l ++ [v]).length (lf (l ++ [v])) ∧ Runs (GW L xs) (d) 189 (0, [.ref 93, (Value.int (Int32.ofInt (24))), (Value.int (Int32.ofInt (v))), vU], [], zS (eV (V)) J tg) (none, zS (eV (W)) J tg) := by
  obtain ⟨⟨a1, a2, a3, a4, a5, a6⟩, b1, b2⟩ := hL
  have k := k_189 (L := L) (xs := xs) (J := J) (tg := tg) (d := d) (V := V) (l := 24) (n := l.length) (v := v) (by omega) a3 (by omega)
  refine ⟨_, fun c q => by rw [w_ne _ _ _ _ q, w_ne _ _ _ _ q], fun p hp => by rw [w_at, if_neg (by omega), w_at, if_neg (by omega)], ⟨⟨by omega, by rw [List.length_append, List.length_singleton]; omega, ?_, ?_, a5, fun i hi => ?_⟩, ?_, ?_⟩, k⟩
  · rw [List.length_append, List.length_singleton]
    exact w_eq _ _ _ _
  · rw [w_at, if_neg (by omega), w_at, if_neg (by omega)]; exact a4
  · rw [List.length_append, List.length_singleton] at hi
    rw [w_at, if_neg (by omega), w_at]
    by_cases e : i = l.length
    · rw [if_pos (by omega), lf_last e]; exact ⟨rfl, hv⟩
    · rw [if_neg (by omega), lf_init (by omega)]; exact a6 i (by omega)
  · rw [w_at, if_neg (by omega), w_at, if_neg (by omega)]; exact b1
  · rw [w_at, if_neg (by omega), w_at, if_neg (by omega)]; exact b2
/-- the first set of k that is least -/
def wnm (v : Nat → Int) (k : Nat) : Nat → Int × Int
  | 0 => (-1, -1)
  | s + 1 => if pcn s 12 = k ∧ ((wnm v k s).2 = -1 ∨ v s < (wnm v k s).1) then (v s, (s : Int)) else wnm v k s
theorem wnm_s {v : Nat → Int} {k s : Nat} : wnm v k (s + 1) = if pcn s 12 = k ∧ ((wnm v k s).2 = -1 ∨ v s < (wnm v k s).1) then (v s, (s : Int)) else wnm v k s := rfl
theorem wnm_rg {v : Nat → Int} {k : Nat} (hv : ∀ s, 0 ≤ v s ∧ v s ≤ 100000) : ∀ n, -1 ≤ (wnm v k n).1 ∧ (wnm v k n).1 ≤ 100000 ∧ -1 ≤ (wnm v k n).2 ∧ (wnm v k n).2 < n ∧ ((wnm v k n).1 = -1 ↔ (wnm v k n).2 = -1)
  | 0 => by simp [wnm]
  | n + 1 => by
    have ih := wnm_rg (k := k) hv n
    have := hv n
    rw [wnm_s]
    split
    · dsimp only; omega
    · omega
theorem wnm_ne {v : Nat → Int} {k s : Nat} (hk : pcn s 12 = k) : ∀ n, s < n → (wnm v k n).2 ≠ -1
  | 0, h => by omega
  | n + 1, h => by
    rw [wnm_s]
    by_cases e : s = n
    · subst e
      split
      · dsimp only; omega
      · rename_i q
        intro hh
        exact q ⟨hk, Or.inl hh⟩
    · have ih := wnm_ne (v := v) hk n (by omega)
      split
      · dsimp only; omega
      · exact ih
theorem rsh_rg (hI : INV B) (dr : Nat) (dn : Int) (sc : Nat → Int) : ∀ n, 0 ≤ rsh B dr dn sc n ∧ rsh B dr dn sc n ≤ 99 * n
  | 0 => by simp [rsh]
  | n + 1 => by
    have ih := rsh_rg hI dr dn sc n
    have r8 : 0 ≤ B 8 n ∧ B 8 n ≤ 99 := hI.1 8 n (by decide) (by decide)
    unfold rsh
    split <;> omega
/-- RIGHT shares of a DRAWING with these PARTS -/
def rsl (B : Nat → Nat → Int) (dr st : Nat) (l : List Int) : Int := rsh B dr (bi (smG B 4 1 (fct B dr l.length (lf l)) = true)) (scp B l.length (lf l) (B 4 dr) st) 6
def wnv (B : Nat → Nat → Int) (dr st s : Nat) : Int := rsl B dr st (kpL (lkc B dr) s (B 3 dr).toNat)
def wns (B : Nat → Nat → Int) (dr st k : Nat) : Int × Int := wnm (wnv B dr st) k (2 ^ (B 3 dr).toNat)
theorem wnv_rg (hI : INV B) (dr st s : Nat) : 0 ≤ wnv B dr st s ∧ wnv B dr st s ≤ 100000 := by
  have := rsh_rg hI dr (bi (smG B 4 1 (fct B dr (kpL (lkc B dr) s (B 3 dr).toNat).length (lf (kpL (lkc B dr) s (B 3 dr).toNat))) = true)) (scp B (kpL (lkc B dr) s (B 3 dr).toNat).length (lf (kpL (lkc B dr) s (B 3 dr).toNat)) (B 4 dr) st) 6
  unfold wnv rsl; omega
/-- seekWorn -/
theorem k_8 (hI : INV B) (q : Qy B V) {dr st k : Nat} (hd : dr < 12) (hst : st < 6) (hk : k ≤ 12) : ∃ W, Qy B W ∧ W 79 12 = (wns B dr st k).1 ∧ ((wns B dr st k).2 ≠ -1 → W 79 13 = (wns B dr st k).2) ∧ Runs (GW L xs) (d + 5) 8 (0, [.ref 79, (Value.int (Int32.ofInt (dr))), (Value.int (Int32.ofInt (st))), (Value.int (Int32.ofInt (k))), vU, vU, vU], [], zS (eV (V)) J tg) (none, zS (eV (W)) J tg) := by
  have r3 : 0 ≤ B 3 dr ∧ B 3 dr ≤ 6 := hI.1 3 dr (by decide) (by decide)
  obtain ⟨n, hn⟩ : ∃ n : Nat, B 3 dr = n := ⟨(B 3 dr).toNat, by omega⟩
  have h64 := p2_64 (m := n) (by omega)
  have hpos := Nat.pow_pos (a := 2) (n := n) (by omega)
  have hvr := wnv_rg hI dr st
  unfold wns
  rw [hn, tn_cast]
  obtain ⟨W, ⟨i1, i2, i3⟩, hr⟩ := loopN (g := GW L xs) (d := d + 5) (mid := 8) (σ := Nat → Nat → Int) (fun s W => (19, [.ref 79, (Value.int (Int32.ofInt (dr))), (Value.int (Int32.ofInt (st))), (Value.int (Int32.ofInt (k))), (Value.int (Int32.ofInt (n))), (Value.int (Int32.ofInt (s))), vU], [], zS (eV W) J tg)) (fun s W => Qy B W ∧ W 79 12 = (wnm (wnv B dr st) k s).1 ∧ ((wnm (wnv B dr st) k s).2 ≠ -1 → W 79 13 = (wnm (wnv B dr st) k s).2)) (2 ^ n) (by
    intro s W hs ⟨qW, i2, i3⟩
    have k300 := k_300 (L := L) (xs := xs) (J := J) (tg := tg) (d := d + 4) (V := W) (s := s) (by omega)
    have hpc := pcn_le s 12
    have hw := wnm_s (v := wnv B dr st) (k := k) (s := s)
    have hwr := wnm_rg (v := wnv B dr st) (k := k) hvr s
    have hvs := hvr s
    generalize wnm (wnv B dr st) k s = m at i2 i3 hw hwr
    by_cases c1 : pcn s 12 = k
    · obtain ⟨A, a1, a2, a3⟩ := k_9 (L := L) (xs := xs) (J := J) (tg := tg) (d := d + 4) hI qW (dr := dr) (s := s) hd (by omega)
      have qA : Qy B A := qW.cl fun c _ q2 => a1 c (by omega)
      have ev : wnv B dr st s = rsl B dr st (kpL (lkc B dr) s (B 3 dr).toNat) := rfl
      have hok := kpL_ok hI.1 dr s (n := (B 3 dr).toNat) (by omega)
      generalize kpL (lkc B dr) s (B 3 dr).toNat = l at a2 a3 ev hok
      obtain ⟨X, x1, x2, x3⟩ := k_95 (L := L) (xs := xs) (J := J) (tg := tg) (d := d) hI qA (dr := dr) (st := st) hd hst hok a2
      have qX : Qy B X := qA.cl fun c q1 q2 => x1 c q1 (by omega)
      have x4 := k_106 (L := L) (xs := xs) (J := J) (tg := tg) (d := d + 2) hI qX hd (bi_rg _) (scp_rg hI.1 hok.1 _ _ _) x2
      have x4 : Runs (GW L xs) (d + 4) 106 (0, [.ref 75, vU, vU], [], zS (eV (X)) J tg) (some (Value.int (Int32.ofInt (rsl B dr st l))), zS (eV (X)) J tg) := x4
      rw [← ev] at x4
      generalize wnv B dr st s = v at hvs hw x4
      have e79 : X 79 = W 79 := by rw [x1 79 (by decide) (by decide), a1 79 (by decide)]
      have h12 : X 79 12 = m.1 := by rw [e79]; exact i2
      by_cases c2 : m.2 = -1 ∨ v < m.1
      · rw [if_pos ⟨c1, c2⟩] at hw
        rw [hw]
        refine ⟨up2 (up2 X 79 12 v) 79 13 s, ⟨qX.cl fun c _ q2 => by rw [w_ne _ _ _ _ (by omega), w_ne _ _ _ _ (by omega)], by rw [w_at, if_neg (by decide), w_eq], fun _ => w_eq _ _ _ _⟩, fun r hr => ?_⟩
        apply sg_8_19
        simp (disch := omega) only [eV_at, eV_up, o_lit2, o_add, o_sub, o_mul, o_neg, o_div, o_nat, ix_t, o_lt, o_le, o_eq, o_bi0, o_bi1, o_bib, em_t, o_neg1, o_shl, o_tb, o_tb0, o_tt, o_and, o_xor, o_or, o_max, o_min, an_tb, and_true, true_and, not_true, not_false, if_true, if_false, tn_add, tn_mul, Int.reduceToNat, tn_cast, md_x]
        rw [if_neg (by omega)]
        refine ⟨_, _, k300, ?_⟩
        simp (disch := omega) only [eV_at, eV_up, o_lit2, o_add, o_sub, o_mul, o_neg, o_div, o_nat, ix_t, o_lt, o_le, o_eq, o_bi0, o_bi1, o_bib, em_t, o_neg1, o_shl, o_tb, o_tb0, o_tt, o_and, o_xor, o_or, o_max, o_min, an_tb, and_true, true_and, not_true, not_false, if_true, if_false, tn_add, tn_mul, Int.reduceToNat, tn_cast, md_x]
        rw [if_pos (by omega)]
        refine ⟨_, _, a3, _, x3, _, _, x4, ?_⟩
        simp (disch := omega) only [h12, eV_at, eV_up, o_lit2, o_add, o_sub, o_mul, o_neg, o_div, o_nat, ix_t, o_lt, o_le, o_eq, o_bi0, o_bi1, o_bib, em_t, o_neg1, o_shl, o_tb, o_tb0, o_tt, o_and, o_xor, o_or, o_max, o_min, an_tb, and_true, true_and, not_true, not_false, if_true, if_false, tn_add, tn_mul, Int.reduceToNat, tn_cast, md_x]
        by_cases c3 : m.1 = -1
        · rw [if_pos c3]; exact hr
        · rw [if_neg c3, if_neg (by omega)]; exact hr
      · rw [if_neg (fun h => c2 h.2)] at hw
        rw [hw]
        refine ⟨X, ⟨qX, h12, fun h => by rw [e79]; exact i3 h⟩, fun r hr => ?_⟩
        apply sg_8_19
        simp (disch := omega) only [eV_at, eV_up, o_lit2, o_add, o_sub, o_mul, o_neg, o_div, o_nat, ix_t, o_lt, o_le, o_eq, o_bi0, o_bi1, o_bib, em_t, o_neg1, o_shl, o_tb, o_tb0, o_tt, o_and, o_xor, o_or, o_max, o_min, an_tb, and_true, true_and, not_true, not_false, if_true, if_false, tn_add, tn_mul, Int.reduceToNat, tn_cast, md_x]
        rw [if_neg (by omega)]
        refine ⟨_, _, k300, ?_⟩
        simp (disch := omega) only [eV_at, eV_up, o_lit2, o_add, o_sub, o_mul, o_neg, o_div, o_nat, ix_t, o_lt, o_le, o_eq, o_bi0, o_bi1, o_bib, em_t, o_neg1, o_shl, o_tb, o_tb0, o_tt, o_and, o_xor, o_or, o_max, o_min, an_tb, and_true, true_and, not_true, not_false, if_true, if_false, tn_add, tn_mul, Int.reduceToNat, tn_cast, md_x]
        rw [if_pos (by omega)]
        refine ⟨_, _, a3, _, x3, _, _, x4, ?_⟩
        simp (disch := omega) only [h12, eV_at, eV_up, o_lit2, o_add, o_sub, o_mul, o_neg, o_div, o_nat, ix_t, o_lt, o_le, o_eq, o_bi0, o_bi1, o_bib, em_t, o_neg1, o_shl, o_tb, o_tb0, o_tt, o_and, o_xor, o_or, o_max, o_min, an_tb, and_true, true_and, not_true, not_false, if_true, if_false, tn_add, tn_mul, Int.reduceToNat, tn_cast, md_x]
        rw [if_neg (by omega), if_pos (by omega)]
        exact hr
    · rw [if_neg (fun h => c1 h.1)] at hw
      rw [hw]
      refine ⟨W, ⟨qW, i2, i3⟩, fun r hr => ?_⟩
      apply sg_8_19
      simp (disch := omega) only [eV_at, eV_up, o_lit2, o_add, o_sub, o_mul, o_neg, o_div, o_nat, ix_t, o_lt, o_le, o_eq, o_bi0, o_bi1, o_bib, em_t, o_neg1, o_shl, o_tb, o_tb0, o_tt, o_and, o_xor, o_or, o_max, o_min, an_tb, and_true, true_and, not_true, not_false, if_true, if_false, tn_add, tn_mul, Int.reduceToNat, tn_cast, md_x]
      rw [if_neg (by omega)]
      refine ⟨_, _, k300, ?_⟩
      simp (disch := omega) only [eV_at, eV_up, o_lit2, o_add, o_sub, o_mul, o_neg, o_div, o_nat, ix_t, o_lt, o_le, o_eq, o_bi0, o_bi1, o_bib, em_t, o_neg1, o_shl, o_tb, o_tb0, o_tt, o_and, o_xor, o_or, o_max, o_min, an_tb, and_true, true_and, not_true, not_false, if_true, if_false, tn_add, tn_mul, Int.reduceToNat, tn_cast, md_x]
      rw [if_neg (by omega)]
      exact hr) (2 ^ n) 0 (up2 V 79 12 (-1)) (by omega) ⟨q.cl fun c _ q2 => w_ne _ _ _ _ (by omega), w_eq _ _ _ _, fun h => absurd rfl h⟩
  refine ⟨W, i1, i2, i3, ?_⟩
  have e3 : V 3 dr = n := by rw [q.1 3 (by omega)]; exact hn
  apply sg_8
  simp (disch := omega) only [e3, eV_at, eV_up, o_lit2, o_add, o_sub, o_mul, o_neg, o_div, o_nat, ix_t, o_lt, o_le, o_eq, o_bi0, o_bi1, o_bib, em_t, o_neg1, o_shl, o_tb, o_tb0, o_tt, o_and, o_xor, o_or, o_max, o_min, an_tb, and_true, true_and, not_true, not_false, if_true, if_false, tn_add, tn_mul, Int.reduceToNat, tn_cast, md_x]
  refine hr _ ?_
  apply sg_8_19
  simp (disch := omega) only [eV_at, eV_up, o_lit2, o_add, o_sub, o_mul, o_neg, o_div, o_nat, ix_t, o_lt, o_le, o_eq, o_bi0, o_bi1, o_bib, em_t, o_neg1, o_shl, o_tb, o_tb0, o_tt, o_and, o_xor, o_or, o_max, o_min, an_tb, and_true, true_and, not_true, not_false, if_true, if_false, tn_add, tn_mul, Int.reduceToNat, tn_cast, md_x]
  rw [if_pos (by omega)] <;> first | rfl | trivial
/-- worn in the reference: its loop -/
theorem m_279 (hI : INV B) (q : Qy B V) {dr st k : Nat} (hd : (dr : Int) < B 1 0) (hst : st < 6) (hk : k ≤ 12) (w : Int) : ∃ W J2 l, Qy B W ∧ ((wns B dr st k).2 ≠ -1 → l = (wns B dr st k).1) ∧ Rch (GW L xs) (d + 8) 279 (50, [.ref 93, (Value.int (Int32.ofInt (dr))), (Value.int (Int32.ofInt (st))), (Value.int (Int32.ofInt (k))), (Value.int (Int32.ofInt (w))), (Value.int (Int32.ofInt (-1))), (Value.int (Int32.ofInt (0))), (Value.int (Int32.ofInt (0))), vU], [], zS (eV V) J tg) (50, [.ref 93, (Value.int (Int32.ofInt (dr))), (Value.int (Int32.ofInt (st))), (Value.int (Int32.ofInt (k))), (Value.int (Int32.ofInt (w))), (Value.int (Int32.ofInt ((wns B dr st k).2))), (Value.int (Int32.ofInt (l))), (Value.int (Int32.ofInt ((2 ^ (B 3 dr).toNat : Nat)))), vU], [], zS (eV W) J2 tg) := by
  have rD : 0 ≤ B 1 0 ∧ B 1 0 ≤ 12 := hI.1 1 0 (by decide) (by decide)
  have r3 : 0 ≤ B 3 dr ∧ B 3 dr ≤ 6 := hI.1 3 dr (by decide) (by decide)
  obtain ⟨n, hn⟩ : ∃ n : Nat, B 3 dr = n := ⟨(B 3 dr).toNat, by omega⟩
  have h64 := p2_64 (m := n) (by omega)
  have hpos := Nat.pow_pos (a := 2) (n := n) (by omega)
  have hvr := wnv_rg hI dr st
  unfold wns
  rw [hn, tn_cast]
  have h184 : ∀ (W : Nat → Nat → Int) (J : Nat → Nat → Int64), Qy B W → (Runs (GW L xs) (d + 7) 184 (0, [.ref 93, (Value.int (Int32.ofInt (dr))), .int 0], [], zS (eV (W)) J tg) (some (Value.int (Int32.ofInt (n))), zS (eV (W)) J tg)) ∧ ∀ i, i < n → Runs (GW L xs) (d + 7) 184 (0, [.ref 93, (Value.int (Int32.ofInt (dr))), (Value.int (Int32.ofInt ((4 + i : Nat))))], [], zS (eV (W)) J tg) (some (Value.int (Int32.ofInt (lkc B dr i))), zS (eV (W)) J tg) := fun W J qW => by
    obtain ⟨⟨-, -, c0, -, -, c4⟩, -, -⟩ := LKm_of hI qW hd
    have k0 := k_184 (L := L) (xs := xs) (J := J) (tg := tg) (d := d + 7) (V := W) (l := dr) (w := 0) (by omega)
    rw [c0, hn, tn_cast] at k0
    refine ⟨k0, fun i hi => ?_⟩
    have k1 := k_184 (L := L) (xs := xs) (J := J) (tg := tg) (d := d + 7) (V := W) (l := dr) (w := 4 + i) (by omega)
    rw [(c4 i (by omega)).1] at k1
    exact k1
  obtain ⟨⟨W, J2, l⟩, ⟨i1, i2⟩, hr⟩ := loopN (g := GW L xs) (d := d + 8) (mid := 279) (σ := (Nat → Nat → Int) × (Nat → Nat → Int64) × Int) (fun s σ => (50, [.ref 93, (Value.int (Int32.ofInt (dr))), (Value.int (Int32.ofInt (st))), (Value.int (Int32.ofInt (k))), (Value.int (Int32.ofInt (w))), (Value.int (Int32.ofInt ((wnm (wnv B dr st) k s).2))), (Value.int (Int32.ofInt (σ.2.2))), (Value.int (Int32.ofInt (s))), vU], [], zS (eV σ.1) σ.2.1 tg)) (fun s σ => Qy B σ.1 ∧ (-1 ≤ σ.2.2 ∧ σ.2.2 ≤ 100000) ∧ ((wnm (wnv B dr st) k s).2 ≠ -1 → σ.2.2 = (wnm (wnv B dr st) k s).1)) (2 ^ n) (by
    intro s ⟨W, J, l⟩ hs ⟨qW, i2, i3⟩
    dsimp only at qW i2 i3 ⊢
    have k0 := (h184 W J qW).1
    have k300 := k_185 (L := L) (xs := xs) (J := J) (tg := tg) (d := d + 7) (V := W) (s := s) (by omega)
    have hpc := pcn_le s 12
    have hw := wnm_s (v := wnv B dr st) (k := k) (s := s)
    have hwr := wnm_rg (v := wnv B dr st) (k := k) hvr s
    have hvs := hvr s
    generalize wnm (wnv B dr st) k s = m at i3 hw hwr ⊢
    by_cases c1 : pcn s 12 = k
    · obtain ⟨A, a1, a2, a3, a4⟩ := m_257 (L := L) (xs := xs) (J := J) (tg := tg) (d := d + 6) hI qW hd
      have qA : Qy B A := qW.tf ⟨fun c _ q2 _ _ => a1 c q2, a2⟩
      -- the PARTS that are left
      obtain ⟨X, ⟨qX, hLX⟩, hrX⟩ := loopN (g := GW L xs) (d := d + 8) (mid := 279) (σ := Nat → Nat → Int) (fun i X => (83, [.ref 93, (Value.int (Int32.ofInt (dr))), (Value.int (Int32.ofInt (st))), (Value.int (Int32.ofInt (k))), (Value.int (Int32.ofInt (w))), (Value.int (Int32.ofInt (m.2))), (Value.int (Int32.ofInt (l))), (Value.int (Int32.ofInt (s))), (Value.int (Int32.ofInt (i)))], [], zS (eV X) J tg)) (fun i X => Qy B X ∧ LKm B X 24 dr (kpL (lkc B dr) s i).length (lf (kpL (lkc B dr) s i))) n (by
        intro i X hi ⟨qX, hLX⟩
        obtain ⟨x0, x1⟩ := h184 X J qX
        have x1 := x1 i hi
        have hlen := kpL_len (p := lkc B dr) (s := s) i
        have hkp : kpL (lkc B dr) s (i + 1) = if s.testBit i then kpL (lkc B dr) s i else kpL (lkc B dr) s i ++ [lkc B dr i] := rfl
        have rk : 0 ≤ lkc B dr i ∧ lkc B dr i ≤ 179 := hI.1 2 _ (by decide) (by decide)
        generalize kpL (lkc B dr) s i = ls at hLX hlen hkp
        cases t : s.testBit i
        · rw [t, if_neg (by decide)] at hkp
          obtain ⟨Y, y1, y2, y3, y4⟩ := m_189 (L := L) (xs := xs) (J := J) (tg := tg) (d := d + 7) hLX (by omega) (v := lkc B dr i) (by omega)
          rw [hkp]
          refine ⟨Y, ⟨qX.tf ⟨fun c _ q2 _ _ => y1 c q2, y2⟩, y3⟩, fun r hr => ?_⟩
          apply sg_279_83
          refine ⟨_, _, _, x0, ?_⟩
          simp (disch := omega) only [eV_at, eV_up, o_lit2, o_add, o_sub, o_mul, o_neg, o_div, o_nat, ix_t, o_lt, o_le, o_eq, o_bi0, o_bi1, o_bib, em_t, o_neg1, o_shl, o_tb, o_tb0, o_tt, o_and, o_xor, o_or, o_max, o_min, an_tb, and_true, true_and, not_true, not_false, if_true, if_false, tn_add, tn_mul, Int.reduceToNat, tn_cast, md_x]
          rw [if_neg (by omega), if_pos t]
          exact ⟨_, _, _, x1, _, _, y4, hr⟩
        · rw [t, if_pos rfl] at hkp
          rw [hkp]
          refine ⟨X, ⟨qX, hLX⟩, fun r hr => ?_⟩
          apply sg_279_83
          refine ⟨_, _, _, x0, ?_⟩
          simp (disch := omega) only [eV_at, eV_up, o_lit2, o_add, o_sub, o_mul, o_neg, o_div, o_nat, ix_t, o_lt, o_le, o_eq, o_bi0, o_bi1, o_bib, em_t, o_neg1, o_shl, o_tb, o_tb0, o_tt, o_and, o_xor, o_or, o_max, o_min, an_tb, and_true, true_and, not_true, not_false, if_true, if_false, tn_add, tn_mul, Int.reduceToNat, tn_cast, md_x]
          rw [if_neg (by omega), if_neg (by rw [t]; decide)]
          exact hr) n 0 A (by omega) ⟨qA, a3⟩
      have ev : wnv B dr st s = rsl B dr st (kpL (lkc B dr) s n) := by unfold wnv; rw [hn]; rfl
      generalize kpL (lkc B dr) s n = ls at hLX ev
      obtain ⟨E, J2, e1, e2⟩ := m_253 (L := L) (xs := xs) (J := J) (tg := tg) (d := d) hI qX hLX hd hst
      have e2 : Runs (GW L xs) (d + 7) 253 (0, [.ref 93, (Value.int (Int32.ofInt (24))), (Value.int (Int32.ofInt (dr))), (Value.int (Int32.ofInt (st))), vU, vU], [], zS (eV (X)) (J) tg) (some (Value.int (Int32.ofInt (rsl B dr st ls))), zS (eV (E)) (J2) tg) := e2
      rw [← ev] at e2
      have qE := qX.mf e1
      have x0 := (h184 X J qX).1
      generalize wnv B dr st s = v at hvs hw e2
      by_cases c2 : m.2 = -1 ∨ v < m.1
      · rw [if_pos ⟨c1, c2⟩] at hw
        rw [hw]
        refine ⟨(E, J2, v), ⟨qE, by dsimp only; omega, fun _ => rfl⟩, fun r hr => ?_⟩
        apply sg_279_50
        refine ⟨_, _, _, k0, ?_⟩
        simp (disch := omega) only [eV_at, eV_up, o_lit2, o_add, o_sub, o_mul, o_neg, o_div, o_nat, ix_t, o_lt, o_le, o_eq, o_bi0, o_bi1, o_bib, em_t, o_neg1, o_shl, o_tb, o_tb0, o_tt, o_and, o_xor, o_or, o_max, o_min, an_tb, and_true, true_and, not_true, not_false, if_true, if_false, tn_add, tn_mul, Int.reduceToNat, tn_cast, md_x]
        rw [if_neg (by omega)]
        refine ⟨_, _, _, k300, ?_⟩
        simp (disch := omega) only [eV_at, eV_up, o_lit2, o_add, o_sub, o_mul, o_neg, o_div, o_nat, ix_t, o_lt, o_le, o_eq, o_bi0, o_bi1, o_bib, em_t, o_neg1, o_shl, o_tb, o_tb0, o_tt, o_and, o_xor, o_or, o_max, o_min, an_tb, and_true, true_and, not_true, not_false, if_true, if_false, tn_add, tn_mul, Int.reduceToNat, tn_cast, md_x]
        rw [if_pos (by omega)]
        refine ⟨_, _, a4, hrX _ ?_⟩
        apply sg_279_83
        refine ⟨_, _, _, x0, ?_⟩
        simp (disch := omega) only [eV_at, eV_up, o_lit2, o_add, o_sub, o_mul, o_neg, o_div, o_nat, ix_t, o_lt, o_le, o_eq, o_bi0, o_bi1, o_bib, em_t, o_neg1, o_shl, o_tb, o_tb0, o_tt, o_and, o_xor, o_or, o_max, o_min, an_tb, and_true, true_and, not_true, not_false, if_true, if_false, tn_add, tn_mul, Int.reduceToNat, tn_cast, md_x]
        rw [if_pos (by omega)]
        refine ⟨_, _, _, e2, ?_⟩
        simp (disch := omega) only [eV_at, eV_up, o_lit2, o_add, o_sub, o_mul, o_neg, o_div, o_nat, ix_t, o_lt, o_le, o_eq, o_bi0, o_bi1, o_bib, em_t, o_neg1, o_shl, o_tb, o_tb0, o_tt, o_and, o_xor, o_or, o_max, o_min, an_tb, and_true, true_and, not_true, not_false, if_true, if_false, tn_add, tn_mul, Int.reduceToNat, tn_cast, md_x]
        by_cases c3 : m.2 < 0
        · rw [if_pos c3]; exact hr
        · rw [if_neg c3, if_pos (by omega)]; exact hr
      · rw [if_neg (fun h => c2 h.2)] at hw
        rw [hw]
        refine ⟨(E, J2, l), ⟨qE, i2, i3⟩, fun r hr => ?_⟩
        apply sg_279_50
        refine ⟨_, _, _, k0, ?_⟩
        simp (disch := omega) only [eV_at, eV_up, o_lit2, o_add, o_sub, o_mul, o_neg, o_div, o_nat, ix_t, o_lt, o_le, o_eq, o_bi0, o_bi1, o_bib, em_t, o_neg1, o_shl, o_tb, o_tb0, o_tt, o_and, o_xor, o_or, o_max, o_min, an_tb, and_true, true_and, not_true, not_false, if_true, if_false, tn_add, tn_mul, Int.reduceToNat, tn_cast, md_x]
        rw [if_neg (by omega)]
        refine ⟨_, _, _, k300, ?_⟩
        simp (disch := omega) only [eV_at, eV_up, o_lit2, o_add, o_sub, o_mul, o_neg, o_div, o_nat, ix_t, o_lt, o_le, o_eq, o_bi0, o_bi1, o_bib, em_t, o_neg1, o_shl, o_tb, o_tb0, o_tt, o_and, o_xor, o_or, o_max, o_min, an_tb, and_true, true_and, not_true, not_false, if_true, if_false, tn_add, tn_mul, Int.reduceToNat, tn_cast, md_x]
        rw [if_pos (by omega)]
        refine ⟨_, _, a4, hrX _ ?_⟩
        apply sg_279_83
        refine ⟨_, _, _, x0, ?_⟩
        simp (disch := omega) only [eV_at, eV_up, o_lit2, o_add, o_sub, o_mul, o_neg, o_div, o_nat, ix_t, o_lt, o_le, o_eq, o_bi0, o_bi1, o_bib, em_t, o_neg1, o_shl, o_tb, o_tb0, o_tt, o_and, o_xor, o_or, o_max, o_min, an_tb, and_true, true_and, not_true, not_false, if_true, if_false, tn_add, tn_mul, Int.reduceToNat, tn_cast, md_x]
        rw [if_pos (by omega)]
        refine ⟨_, _, _, e2, ?_⟩
        simp (disch := omega) only [eV_at, eV_up, o_lit2, o_add, o_sub, o_mul, o_neg, o_div, o_nat, ix_t, o_lt, o_le, o_eq, o_bi0, o_bi1, o_bib, em_t, o_neg1, o_shl, o_tb, o_tb0, o_tt, o_and, o_xor, o_or, o_max, o_min, an_tb, and_true, true_and, not_true, not_false, if_true, if_false, tn_add, tn_mul, Int.reduceToNat, tn_cast, md_x]
        rw [if_neg (by omega), if_neg (by omega)]
        exact hr
    · rw [if_neg (fun h => c1 h.1)] at hw
      rw [hw]
      refine ⟨(W, J, l), ⟨qW, i2, i3⟩, fun r hr => ?_⟩
      apply sg_279_50
      refine ⟨_, _, _, k0, ?_⟩
      simp (disch := omega) only [eV_at, eV_up, o_lit2, o_add, o_sub, o_mul, o_neg, o_div, o_nat, ix_t, o_lt, o_le, o_eq, o_bi0, o_bi1, o_bib, em_t, o_neg1, o_shl, o_tb, o_tb0, o_tt, o_and, o_xor, o_or, o_max, o_min, an_tb, and_true, true_and, not_true, not_false, if_true, if_false, tn_add, tn_mul, Int.reduceToNat, tn_cast, md_x]
      rw [if_neg (by omega)]
      refine ⟨_, _, _, k300, ?_⟩
      simp (disch := omega) only [eV_at, eV_up, o_lit2, o_add, o_sub, o_mul, o_neg, o_div, o_nat, ix_t, o_lt, o_le, o_eq, o_bi0, o_bi1, o_bib, em_t, o_neg1, o_shl, o_tb, o_tb0, o_tt, o_and, o_xor, o_or, o_max, o_min, an_tb, and_true, true_and, not_true, not_false, if_true, if_false, tn_add, tn_mul, Int.reduceToNat, tn_cast, md_x]
      rw [if_neg (by omega)]
      exact hr) (2 ^ n) 0 (V, J, 0) (by omega) ⟨q, by dsimp only; omega, fun h => absurd rfl h⟩
  exact ⟨W, J2, l, i1, i2.2, hr⟩
end WN
