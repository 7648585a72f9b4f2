/-! THE GRAMMAR asked: what it denies, admits and says of harm. -/
abbrev N12 (N : Nat → Int) : Prop := ∀ k, k < 12 → -1000000 ≤ N k ∧ N k ≤ 1000000
theorem Qy.g {B V : Nat → Nat → Int} (q : Qy B V) : ∀ c, (46 ≤ c ∧ c ≤ 66) ∨ c = 96 → V c = B c := fun c h => q.1 c (by omega)
theorem Qy.cl {B V W : Nat → Nat → Int} (q : Qy B V) (f : ∀ c, c ≠ 45 → ¬ (72 ≤ c ∧ c ≤ 92 ∧ c ≠ 81) → W c = V c) : Qy B W := ⟨fun c h => by rw [f c (by omega) (by omega)]; exact q.1 c h, fun p h => by rw [f 94 (by omega) (by omega)]; exact q.2.1 p h, fun p h => by rw [f 93 (by omega) (by omega)]; exact q.2.2.1 p h, q.2.2.2.up (f 1 (by omega) (by omega)) (f 2 (by omega) (by omega)) (f 3 (by omega) (by omega)) (f 4 (by omega) (by omega)) (f 71 (by omega) (by omega)) (f 81 (by omega) (by omega))⟩
theorem Qy.c8 {B V W : Nat → Nat → Int} (q : Qy B V) (f : ∀ c, c ≠ 45 → ¬ (72 ≤ c ∧ c ≤ 92) → W c = V c) (e : ∀ x, x < 768 → W 81 x = V 81 x) : Qy B W := ⟨fun c h => by rw [f c (by omega) (by omega)]; exact q.1 c h, fun p h => by rw [f 94 (by omega) (by omega)]; exact q.2.1 p h, fun p h => by rw [f 93 (by omega) (by omega)]; exact q.2.2.1 p h, ⟨q.2.2.2.up0 (f 1 (by omega) (by omega)) (f 2 (by omega) (by omega)) (f 3 (by omega) (by omega)) (f 4 (by omega) (by omega)) (f 71 (by omega) (by omega)), fun x hx => by rw [e x hx]; exact q.2.2.2.2 x hx⟩⟩
theorem INV.lt18 {B : Nat → Nat → Int} (h : INV B) : B 18 1 < B 18 0 := h.2.1.2.2.2.2.2.2.1.2.2.2.2
theorem INV.gk {B V : Nat → Nat → Int} (h : INV B) (q : Qy B V) {k : Nat} (hk : k < 4) (e : B 18 1 = k) : GRk V k := (h.2.2.2.2.2.2.2 k (by have := h.lt18; omega)).fr hk q.g
abbrev lrn (B : Nat → Nat → Int) (dr : Nat) (land : Int) : Prop := land ≠ -1 ∧ 500 ≤ B 12 (dr * 6 + land.toNat)
abbrev rt (m dn nt took : Int) : Prop := took ≠ -1 ∧ dn = nt ∧ took = m
def hmG (B : Nat → Nat → Int) (N : Nat → Int) : Int := if B 18 1 = -1 then 1 else if B (47 + 4 * (B 18 1).toNat) 6 = -1 then 1 else max 0 (evC B (B 18 1).toNat (B (47 + 4 * (B 18 1).toNat) 6).toNat N)
def fch (N : Nat → Int) (took tur land st : Int) : Nat → Int := fun k => if k = 11 then st else if k = 10 then land else if k = 9 then tur else if k = 8 then took else N k
theorem fch_up {V : Nat → Nat → Int} {took tur land st : Int} : (up2 (up2 (up2 (up2 V 78 8 took) 78 9 tur) 78 10 land) 78 11 st) 78 = fch (V 78) took tur land st := by
  funext k
  unfold fch
  rw [w_at, w_at, w_at, w_at]
theorem fch_n {N : Nat → Int} {took tur land st : Int} (hN : N12 N) (h1 : -1000 ≤ took ∧ took ≤ 1000) (h2 : -1000 ≤ tur ∧ tur ≤ 1000) (h3 : -1000 ≤ land ∧ land ≤ 1000) (h4 : -1000 ≤ st ∧ st ≤ 1000) : N12 (fch N took tur land st) := fun k hk => by
  have := hN k hk
  unfold fch
  split
  · omega
  · split
    · omega
    · split
      · omega
      · split <;> omega
def hb (B : Nat → Nat → Int) (dr st : Nat) (dn : Int) (N : Nat → Int) (land took : Int) : Int := if lrn B dr land ∨ rt (B 5 dr) dn (B 6 dr) took then 0 else hmG B (fch N took (if dn = B 6 dr then 0 else 1) land st)
theorem k_101 {L d : Nat} {xs : Nat → Int32} {V : Nat → Nat → Int} {J : Nat → Nat → Int64} {tg : Option Nat} (hR : RNG V) {dr : Nat} {land : Int} (h8 : V 75 8 = dr) (hd : dr < 12) (hl : -1 ≤ land ∧ land ≤ 5) : Runs (GW L xs) (d) 101 (0, [.ref 75, (Value.int (Int32.ofInt (land)))], [], zS (eV (V)) J tg) (some (Value.int (Int32.ofInt (bi (lrn V dr land)))), zS (eV (V)) J tg) := by
  apply sg_101
  by_cases c : land = -1
  · subst c
    rw [if_pos (by decide)]
    exact leafI (bi_f (fun h => h.1 rfl)).symm
  · obtain ⟨l, rfl⟩ : ∃ l : Nat, land = l := ⟨land.toNat, by omega⟩
    have r := hR 12 (dr * 6 + l) (by decide) (by decide)
    have r : 0 ≤ V 12 (dr * 6 + l) ∧ V 12 (dr * 6 + l) ≤ 1000 := r
    simp (disch := omega) only [h8, eV_at, eV_up, o_lit2, o_add, o_sub, o_mul, o_neg, o_div, o_nat, ix_t, o_lt, o_le, o_eq, o_bi0, o_bi1, o_bib, em_t, o_neg1, o_shl, o_tb, o_tb0, o_tt, o_and, o_xor, o_or, o_max, o_min, an_tb, and_true, true_and, not_true, not_false, if_true, if_false, tn_add, tn_mul, Int.reduceToNat, tn_cast, md_x]
    rw [if_neg c]
    by_cases g : V 12 (dr * 6 + l) < 500
    · rw [if_pos g]
      exact leafI (bi_f (fun h => by have := h.2; rw [tn_cast] at this; omega)).symm
    · rw [if_neg g]
      exact leafI (bi_t ⟨c, by rw [tn_cast]; omega⟩).symm
theorem k_102 {L d : Nat} {xs : Nat → Int32} {V : Nat → Nat → Int} {J : Nat → Nat → Int64} {tg : Option Nat} (hR : RNG V) {dr : Nat} {dn : Int} (h8 : V 75 8 = dr) (h10 : V 75 10 = dn) (hdn : 0 ≤ dn ∧ dn ≤ 1) (hd : dr < 12) : Runs (GW L xs) (d) 102 (0, [.ref 75], [], zS (eV (V)) J tg) (some (Value.int (Int32.ofInt (if dn = V 6 dr then V 5 dr else -1))), zS (eV (V)) J tg) := by
  have r6 : 0 ≤ V 6 dr ∧ V 6 dr ≤ 1 := hR 6 dr (by decide) (by decide)
  apply sg_102
  simp (disch := omega) only [h8, h10, eV_at, eV_up, o_lit2, o_add, o_sub, o_mul, o_neg, o_div, o_nat, ix_t, o_lt, o_le, o_eq, o_bi0, o_bi1, o_bib, em_t, o_neg1, o_shl, o_tb, o_tb0, o_tt, o_and, o_xor, o_or, o_max, o_min, an_tb, and_true, true_and, not_true, not_false, if_true, if_false, tn_add, tn_mul, Int.reduceToNat, tn_cast, md_x]
  split <;> first | rfl | trivial
theorem k_103 {L d : Nat} {xs : Nat → Int32} {V : Nat → Nat → Int} {J : Nat → Nat → Int64} {tg : Option Nat} (hR : RNG V) {dr : Nat} {dn land took : Int} (h8 : V 75 8 = dr) (h10 : V 75 10 = dn) (hdn : 0 ≤ dn ∧ dn ≤ 1) (hd : dr < 12) (hl : -1 ≤ land ∧ land ≤ 5) (ht : -1 ≤ took ∧ took ≤ 11) : Runs (GW L xs) (d + 1) 103 (0, [.ref 75, (Value.int (Int32.ofInt (land))), (Value.int (Int32.ofInt (took)))], [], zS (eV (V)) J tg) (some (Value.int (Int32.ofInt (bi (lrn V dr land ∨ rt (V 5 dr) dn (V 6 dr) took)))), zS (eV (V)) J tg) := by
  have r5 : -1 ≤ V 5 dr ∧ V 5 dr ≤ 11 := hR 5 dr (by decide) (by decide)
  apply sg_103
  refine ⟨_, _, k_101 hR h8 hd hl, ?_⟩
  by_cases g : lrn V dr land
  · rw [if_neg (b0_f g)]
    exact leafI (bi_t (Or.inl g)).symm
  · rw [if_pos (b0_t g)]
    simp (disch := omega) only [eV_at, eV_up, o_lit2, o_add, o_sub, o_mul, o_neg, o_div, o_nat, ix_t, o_lt, o_le, o_eq, o_bi0, o_bi1, o_bib, em_t, o_neg1, o_shl, o_tb, o_tb0, o_tt, o_and, o_xor, o_or, o_max, o_min, an_tb, and_true, true_and, not_true, not_false, if_true, if_false, tn_add, tn_mul, Int.reduceToNat, tn_cast, md_x]
    by_cases c : took = -1
    · rw [if_pos c]
      exact leafI (bi_f (fun h => h.elim g (fun h => h.1 c))).symm
    · rw [if_neg c]
      refine ⟨_, _, k_102 hR h8 h10 hdn hd, ?_⟩
      by_cases e : dn = V 6 dr
      · rw [if_pos e]
        simp (disch := omega) only [eV_at, eV_up, o_lit2, o_add, o_sub, o_mul, o_neg, o_div, o_nat, ix_t, o_lt, o_le, o_eq, o_bi0, o_bi1, o_bib, em_t, o_neg1, o_shl, o_tb, o_tb0, o_tt, o_and, o_xor, o_or, o_max, o_min, an_tb, and_true, true_and, not_true, not_false, if_true, if_false, tn_add, tn_mul, Int.reduceToNat, tn_cast, md_x]
        by_cases e2 : took = V 5 dr
        · rw [if_pos e2]
          exact leafI (bi_t (Or.inr ⟨c, e, e2⟩)).symm
        · rw [if_neg e2]
          exact leafI (bi_f (fun h => h.elim g (fun h => e2 h.2.2))).symm
      · rw [if_neg e]
        simp (disch := omega) only [eV_at, eV_up, o_lit2, o_add, o_sub, o_mul, o_neg, o_div, o_nat, ix_t, o_lt, o_le, o_eq, o_bi0, o_bi1, o_bib, em_t, o_neg1, o_shl, o_tb, o_tb0, o_tt, o_and, o_xor, o_or, o_max, o_min, an_tb, and_true, true_and, not_true, not_false, if_true, if_false, tn_add, tn_mul, Int.reduceToNat, tn_cast, md_x]
        rw [if_neg c]
        exact leafI (bi_f (fun h => h.elim g (fun h => e h.2.1))).symm
theorem k_91_47 {L d : Nat} {xs : Nat → Int32} {V : Nat → Nat → Int} {J : Nat → Nat → Int64} {tg : Option Nat} (h : V 18 1 = 0) : Runs (GW L xs) (d) 91 (0, [.ref 75], [], zS (eV (V)) J tg) (some (.ref 47), zS (eV (V)) J tg) := by
  apply sg_91g47
  simp (disch := omega) only [h, eV_at, eV_up, o_lit2, o_add, o_sub, o_mul, o_neg, o_div, o_nat, ix_t, o_lt, o_le, o_eq, o_bi0, o_bi1, o_bib, em_t, o_neg1, o_shl, o_tb, o_tb0, o_tt, o_and, o_xor, o_or, o_max, o_min, an_tb, and_true, true_and, not_true, not_false, if_true, if_false, tn_add, tn_mul, Int.reduceToNat, tn_cast, md_x]
  rw [if_neg (by omega)] <;> first | rfl | exact ⟨rfl, rfl⟩ | trivial
theorem k_28_47 {L d : Nat} {xs : Nat → Int32} {V : Nat → Nat → Int} {J : Nat → Nat → Int64} {tg : Option Nat} (h : -1 ≤ V 47 6 ∧ V 47 6 ≤ 10) : Runs (GW L xs) (d) 28 (0, [.ref 47], [], zS (eV (V)) J tg) (some (Value.int (Int32.ofInt (bi (V 47 6 ≠ -1)))), zS (eV (V)) J tg) := by
  apply sg_28g47
  simp (disch := omega) only [eV_at, eV_up, o_lit2, o_add, o_sub, o_mul, o_neg, o_div, o_nat, ix_t, o_lt, o_le, o_eq, o_bi0, o_bi1, o_bib, em_t, o_neg1, o_shl, o_tb, o_tb0, o_tt, o_and, o_xor, o_or, o_max, o_min, an_tb, and_true, true_and, not_true, not_false, if_true, if_false, tn_add, tn_mul, Int.reduceToNat, tn_cast, md_x]
  by_cases c : V 47 6 = -1
  · rw [if_pos c]; exact leafI (bi_f (fun h => h c)).symm
  · rw [if_neg c]; exact leafI (bi_t c).symm
theorem k_98_47 {L d : Nat} {xs : Nat → Int32} {B V : Nat → Nat → Int} {J : Nat → Nat → Int64} {tg : Option Nat} (hI : INV B) (q : Qy B V) (h : B 18 1 = 0) (hN : N12 (V 78)) : ∃ W, (∀ c, c ≠ 45 → c ≠ 75 → W c = V c) ∧ (∀ p, p ≠ 10 → W 75 p = V 75 p) ∧ W 75 10 = bi (smG B 4 1 (V 78) = true) ∧ Runs (GW L xs) (d + 3) 98 (0, [.ref 75], [], zS (eV (V)) J tg) (none, zS (eV (W)) J tg) := by
  have hG : GRk V 0 := hI.gk q (by omega) h
  obtain ⟨X, x1, x2⟩ := k_26_47 (L := L) (xs := xs) (J := J) (tg := tg) (d := d) hG hN
  have es : smG B 4 1 (V 78) = smB V 0 4 1 (V 78) := by
    unfold smG
    rw [if_neg (by omega), h, smB_fr q.g (by omega)]
    rfl
  refine ⟨up2 X 75 10 (bi (smB V 0 4 1 (V 78) = true)), fun c q1 q2 => by rw [w_ne _ _ _ _ q2]; exact x1 c q1, fun p hp => by rw [w_at, if_neg hp, x1 75 (by decide)], by rw [w_eq]; simp only [es], ?_⟩
  apply sg_98g47
  refine ⟨_, k_91_47 (by rw [q.1 18 (by omega)]; exact h), _, _, x2, o_01 (bi_rg _), ?_⟩
  rw [eV_up]
theorem k_99_47 {L d : Nat} {xs : Nat → Int32} {B V : Nat → Nat → Int} {J : Nat → Nat → Int64} {tg : Option Nat} (hI : INV B) (q : Qy B V) (h : B 18 1 = 0) (hN : N12 (V 78)) : ∃ W, (∀ c, c ≠ 45 → W c = V c) ∧ Runs (GW L xs) (d + 3) 99 (0, [.ref 75], [], zS (eV (V)) J tg) (some (Value.int (Int32.ofInt (bi (¬ smG B 5 0 (V 78) = true)))), zS (eV (W)) J tg) := by
  have hG : GRk V 0 := hI.gk q (by omega) h
  obtain ⟨X, x1, x2⟩ := k_27_47 (L := L) (xs := xs) (J := J) (tg := tg) (d := d) hG hN
  have es : smG B 5 0 (V 78) = smB V 0 5 0 (V 78) := by
    unfold smG
    rw [if_neg (by omega), h, smB_fr q.g (by omega)]
    rfl
  refine ⟨X, x1, ?_⟩
  apply sg_99g47
  rw [es]
  exact ⟨_, k_91_47 (by rw [q.1 18 (by omega)]; exact h), _, _, x2, o_01 (bi_rg _), rfl⟩
theorem k_104s_47 {L d : Nat} {xs : Nat → Int32} {B X : Nat → Nat → Int} {J : Nat → Nat → Int64} {tg : Option Nat} (hI : INV B) (q : Qy B X) (h : B 18 1 = 0) (hN : N12 (X 78)) : ∃ W, (∀ c, c ≠ 45 → W c = X c) ∧ ∃ I15 : Nat → Nat → Int32, Runs (GW L xs) (d + 1) 91 (0, [.ref 75], [], zS (eV X) J tg) (some (.ref 47), zS I15 J tg) ∧ ∃ (v16 : Int32) (I17 : Nat → Nat → Int32), Runs (GW L xs) (d + 1) 28 (0, [.ref 47], [], zS I15 J tg) (some (.int v16), zS I17 J tg) ∧ (if v16 = 0 then ((some (Value.int (Int32.ofInt (hmG B (X 78)))), zS (eV W) J tg) : Option Value × SS) = (some (.int 1), zS I17 J tg) else ∃ (v18 : Int32) (I19 : Nat → Nat → Int32), Runs (GW L xs) (d + 1) 29 (0, [.ref 47, .int (I17 47 6), .ref 78, vU, vU, vU, vU, vU], [], zS I17 J tg) (some (.int v18), zS I19 J tg) ∧ ((some (Value.int (Int32.ofInt (hmG B (X 78)))), zS (eV W) J tg) : Option Value × SS) = (some (.int (if 0 < v18 then v18 else 0)), zS I19 J tg)) := by
  have hG : GRk X 0 := hI.gk q (by omega) h
  have hG' := hG
  obtain ⟨a1, a2, a3, a4, a5⟩ := hG'
  have a1 : 0 ≤ X 47 4 ∧ X 47 4 ≤ 10 := a1
  have a5 : (X 47 6 = -1 ∧ _) ∨ (0 ≤ X 47 6 ∧ X 47 6 < X 47 4 ∧ ∀ i : Nat, (i : Int) < X 47 4 → (X 49 i = 6 ↔ (i : Int) = X 47 6)) := a5
  have e6 : B (47 + 4 * (B 18 1).toNat) = X 47 := by rw [h]; exact (q.g 47 (by omega)).symm
  by_cases g : X 47 6 = -1
  · refine ⟨X, fun _ _ => rfl, _, k_91_47 (by rw [q.1 18 (by omega)]; exact h), _, _, k_28_47 (by omega), ?_⟩
    rw [if_pos (b0_t (fun hh => hh g))]
    have : hmG B (X 78) = 1 := by unfold hmG; rw [if_neg (by omega), e6, if_pos g]
    rw [this]
    rfl
  · have hi : 0 ≤ X 47 6 ∧ X 47 6 < X 47 4 ∧ ∀ i : Nat, (i : Int) < X 47 4 → (X 49 i = 6 ↔ (i : Int) = X 47 6) := a5.resolve_left (fun hh => g hh.1)
    obtain ⟨i, ei⟩ : ∃ i : Nat, X 47 6 = i := ⟨(X 47 6).toNat, by omega⟩
    have hin : (i : Int) < X (47 + 4 * 0) 4 := by show (i : Int) < X 47 4; omega
    have h6 : X (47 + 4 * 0 + 2) i = 6 := (hi.2.2 i (by omega)).mpr ei.symm
    obtain ⟨c0, c1, c2⟩ := hG.cl hin
    rw [if_pos h6] at c2
    have hv := evC_v hG hin h6 hN
    obtain ⟨W, w1, w2⟩ := k_29_47 (L := L) (xs := xs) (J := J) (tg := tg) (d := d) c0 c1 c2 (by omega) hN
    have w2 : Runs (GW L xs) (d + 1) 29 (0, [.ref 47, (Value.int (Int32.ofInt (i))), .ref 78, vU, vU, vU, vU, vU], [], zS (eV (X)) J tg) (some (Value.int (Int32.ofInt (evC X 0 i (X 78)))), zS (eV (W)) J tg) := w2
    refine ⟨W, w1, _, k_91_47 (by rw [q.1 18 (by omega)]; exact h), _, _, k_28_47 (by omega), ?_⟩
    rw [if_neg (b0_f g)]
    have e17 : eV X 47 6 = Int32.ofInt (i : Int) := by rw [eV_at, ei]
    rw [e17]
    refine ⟨_, _, w2, ?_⟩
    have e2 : hmG B (X 78) = max 0 (evC X 0 i (X 78)) := by
      unfold hmG
      rw [if_neg (by omega), e6, if_neg g, ei, tn_cast, h, evC_fr q.g (by omega)]
      rfl
    rw [e2]
    simp (disch := omega) only [eV_at, eV_up, o_lit2, o_add, o_sub, o_mul, o_neg, o_div, o_nat, ix_t, o_lt, o_le, o_eq, o_bi0, o_bi1, o_bib, em_t, o_neg1, o_shl, o_tb, o_tb0, o_tt, o_and, o_xor, o_or, o_max, o_min, an_tb, and_true, true_and, not_true, not_false, if_true, if_false, tn_add, tn_mul, Int.reduceToNat, tn_cast, md_x]
/-- harmBy, with this GRAMMAR -/
theorem k_104_47 {L d : Nat} {xs : Nat → Int32} {B V : Nat → Nat → Int} {J : Nat → Nat → Int64} {tg : Option Nat} (hI : INV B) (q : Qy B V) (h : B 18 1 = 0) {dr st : Nat} {dn land took : Int} (h8 : V 75 8 = dr) (h9 : V 75 9 = st) (h10 : V 75 10 = dn) (hd : dr < 12) (hst : st < 6) (hdn : 0 ≤ dn ∧ dn ≤ 1) (hl : -1 ≤ land ∧ land ≤ 5) (ht : -1 ≤ took ∧ took ≤ 11) (hN : N12 (V 78)) : ∃ W, (∀ c, c ≠ 45 → c ≠ 78 → W c = V c) ∧ (∀ k, k < 8 → W 78 k = V 78 k) ∧ N12 (W 78) ∧ Runs (GW L xs) (d + 2) 104 (0, [.ref 75, (Value.int (Int32.ofInt (land))), (Value.int (Int32.ofInt (took))), vU], [], zS (eV (V)) J tg) (some (Value.int (Int32.ofInt (hb B dr st dn (V 78) land took))), zS (eV (W)) J tg) := by
  have hRV : RNG V := hI.1.fr fun c hc => q.1 c (by omega)
  have r6 : 0 ≤ V 6 dr ∧ V 6 dr ≤ 1 := hRV 6 dr (by decide) (by decide)
  have k3 := k_103 (L := L) (xs := xs) (J := J) (tg := tg) (d := d) hRV h8 h10 hdn hd hl ht
  have e12 : V 12 = B 12 := q.1 12 (by omega)
  have e5 : V 5 = B 5 := q.1 5 (by omega)
  have e6 : V 6 = B 6 := q.1 6 (by omega)
  have er : (lrn V dr land ∨ rt (V 5 dr) dn (V 6 dr) took) = (lrn B dr land ∨ rt (B 5 dr) dn (B 6 dr) took) := by unfold lrn rt; rw [e12, e5, e6]
  unfold hb
  rw [← e6]
  by_cases r : lrn V dr land ∨ rt (V 5 dr) dn (V 6 dr) took
  · refine ⟨V, fun _ _ _ => rfl, fun _ _ => rfl, hN, ?_⟩
    rw [if_pos (by rw [e6]; exact er.mp r)]
    apply sg_104g47
    refine ⟨_, _, k3, ?_⟩
    rw [if_neg (b0_f r)]
    rfl
  · rw [if_neg (by rw [e6]; exact fun hh => r (er.mpr hh))]
    have go : ∀ tur : Int, 0 ≤ tur ∧ tur ≤ 1 → (if dn = V 6 dr then (0 : Int) else 1) = tur → ∃ W, (∀ c, c ≠ 45 → c ≠ 78 → W c = V c) ∧ (∀ k, k < 8 → W 78 k = V 78 k) ∧ N12 (W 78) ∧ Runs (GW L xs) (d + 2) 104 (0, [.ref 75, (Value.int (Int32.ofInt (land))), (Value.int (Int32.ofInt (took))), vU], [], zS (eV (V)) J tg) (some (Value.int (Int32.ofInt (hmG B (fch (V 78) took tur land st)))), zS (eV (W)) J tg) := by
      intro tur htu etu
      have qX : Qy B (up2 (up2 (up2 (up2 V 78 8 took) 78 9 tur) 78 10 land) 78 11 st) := q.cl fun c q1 q2 => by rw [w_ne _ _ _ _ (by omega), w_ne _ _ _ _ (by omega), w_ne _ _ _ _ (by omega), w_ne _ _ _ _ (by omega)]
      have hNX : N12 ((up2 (up2 (up2 (up2 V 78 8 took) 78 9 tur) 78 10 land) 78 11 (st : Int)) 78) := by rw [fch_up]; exact fch_n hN (by omega) (by omega) (by omega) (by omega)
      obtain ⟨W, w1, w2⟩ := k_104s_47 (L := L) (xs := xs) (J := J) (tg := tg) (d := d) hI qX h hNX
      rw [fch_up] at w2
      refine ⟨W, fun c q1 q2 => by rw [w1 c q1, w_ne _ _ _ _ q2, w_ne _ _ _ _ q2, w_ne _ _ _ _ q2, w_ne _ _ _ _ q2], fun k hk => ?_, by rw [w1 78 (by decide)]; exact hNX, ?_⟩
      · rw [w1 78 (by decide), fch_up]
        unfold fch
        rw [if_neg (by omega), if_neg (by omega), if_neg (by omega), if_neg (by omega)]
      · apply sg_104g47
        refine ⟨_, _, k3, ?_⟩
        rw [if_pos (b0_t r)]
        simp (disch := omega) only [h8, h9, h10, eV_at, eV_up, o_lit2, o_add, o_sub, o_mul, o_neg, o_div, o_nat, ix_t, o_lt, o_le, o_eq, o_bi0, o_bi1, o_bib, em_t, o_neg1, o_shl, o_tb, o_tb0, o_tt, o_and, o_xor, o_or, o_max, o_min, an_tb, and_true, true_and, not_true, not_false, if_true, if_false, tn_add, tn_mul, Int.reduceToNat, tn_cast, md_x]
        by_cases t : dn = V 6 dr
        · rw [if_pos t] at etu ⊢
          subst etu
          exact w2
        · rw [if_neg t] at etu ⊢
          subst etu
          exact w2
    split
    · rename_i t; exact go 0 (by omega) (if_pos t)
    · rename_i t; exact go 1 (by omega) (if_neg t)
theorem k_91_51 {L d : Nat} {xs : Nat → Int32} {V : Nat → Nat → Int} {J : Nat → Nat → Int64} {tg : Option Nat} (h : V 18 1 = 1) : Runs (GW L xs) (d) 91 (0, [.ref 75], [], zS (eV (V)) J tg) (some (.ref 51), zS (eV (V)) J tg) := by
  apply sg_91g51
  simp (disch := omega) only [h, eV_at, eV_up, o_lit2, o_add, o_sub, o_mul, o_neg, o_div, o_nat, ix_t, o_lt, o_le, o_eq, o_bi0, o_bi1, o_bib, em_t, o_neg1, o_shl, o_tb, o_tb0, o_tt, o_and, o_xor, o_or, o_max, o_min, an_tb, and_true, true_and, not_true, not_false, if_true, if_false, tn_add, tn_mul, Int.reduceToNat, tn_cast, md_x]
  rw [if_neg (by omega)] <;> first | rfl | exact ⟨rfl, rfl⟩ | trivial
theorem k_28_51 {L d : Nat} {xs : Nat → Int32} {V : Nat → Nat → Int} {J : Nat → Nat → Int64} {tg : Option Nat} (h : -1 ≤ V 51 6 ∧ V 51 6 ≤ 10) : Runs (GW L xs) (d) 28 (0, [.ref 51], [], zS (eV (V)) J tg) (some (Value.int (Int32.ofInt (bi (V 51 6 ≠ -1)))), zS (eV (V)) J tg) := by
  apply sg_28g51
  simp (disch := omega) only [eV_at, eV_up, o_lit2, o_add, o_sub, o_mul, o_neg, o_div, o_nat, ix_t, o_lt, o_le, o_eq, o_bi0, o_bi1, o_bib, em_t, o_neg1, o_shl, o_tb, o_tb0, o_tt, o_and, o_xor, o_or, o_max, o_min, an_tb, and_true, true_and, not_true, not_false, if_true, if_false, tn_add, tn_mul, Int.reduceToNat, tn_cast, md_x]
  by_cases c : V 51 6 = -1
  · rw [if_pos c]; exact leafI (bi_f (fun h => h c)).symm
  · rw [if_neg c]; exact leafI (bi_t c).symm
theorem k_98_51 {L d : Nat} {xs : Nat → Int32} {B V : Nat → Nat → Int} {J : Nat → Nat → Int64} {tg : Option Nat} (hI : INV B) (q : Qy B V) (h : B 18 1 = 1) (hN : N12 (V 78)) : ∃ W, (∀ c, c ≠ 45 → c ≠ 75 → W c = V c) ∧ (∀ p, p ≠ 10 → W 75 p = V 75 p) ∧ W 75 10 = bi (smG B 4 1 (V 78) = true) ∧ Runs (GW L xs) (d + 3) 98 (0, [.ref 75], [], zS (eV (V)) J tg) (none, zS (eV (W)) J tg) := by
  have hG : GRk V 1 := hI.gk q (by omega) h
  obtain ⟨X, x1, x2⟩ := k_26_51 (L := L) (xs := xs) (J := J) (tg := tg) (d := d) hG hN
  have es : smG B 4 1 (V 78) = smB V 1 4 1 (V 78) := by
    unfold smG
    rw [if_neg (by omega), h, smB_fr q.g (by omega)]
    rfl
  refine ⟨up2 X 75 10 (bi (smB V 1 4 1 (V 78) = true)), fun c q1 q2 => by rw [w_ne _ _ _ _ q2]; exact x1 c q1, fun p hp => by rw [w_at, if_neg hp, x1 75 (by decide)], by rw [w_eq]; simp only [es], ?_⟩
  apply sg_98g51
  refine ⟨_, k_91_51 (by rw [q.1 18 (by omega)]; exact h), _, _, x2, o_01 (bi_rg _), ?_⟩
  rw [eV_up]
theorem k_99_51 {L d : Nat} {xs : Nat → Int32} {B V : Nat → Nat → Int} {J : Nat → Nat → Int64} {tg : Option Nat} (hI : INV B) (q : Qy B V) (h : B 18 1 = 1) (hN : N12 (V 78)) : ∃ W, (∀ c, c ≠ 45 → W c = V c) ∧ Runs (GW L xs) (d + 3) 99 (0, [.ref 75], [], zS (eV (V)) J tg) (some (Value.int (Int32.ofInt (bi (¬ smG B 5 0 (V 78) = true)))), zS (eV (W)) J tg) := by
  have hG : GRk V 1 := hI.gk q (by omega) h
  obtain ⟨X, x1, x2⟩ := k_27_51 (L := L) (xs := xs) (J := J) (tg := tg) (d := d) hG hN
  have es : smG B 5 0 (V 78) = smB V 1 5 0 (V 78) := by
    unfold smG
    rw [if_neg (by omega), h, smB_fr q.g (by omega)]
    rfl
  refine ⟨X, x1, ?_⟩
  apply sg_99g51
  rw [es]
  exact ⟨_, k_91_51 (by rw [q.1 18 (by omega)]; exact h), _, _, x2, o_01 (bi_rg _), rfl⟩
theorem k_104s_51 {L d : Nat} {xs : Nat → Int32} {B X : Nat → Nat → Int} {J : Nat → Nat → Int64} {tg : Option Nat} (hI : INV B) (q : Qy B X) (h : B 18 1 = 1) (hN : N12 (X 78)) : ∃ W, (∀ c, c ≠ 45 → W c = X c) ∧ ∃ I15 : Nat → Nat → Int32, Runs (GW L xs) (d + 1) 91 (0, [.ref 75], [], zS (eV X) J tg) (some (.ref 51), zS I15 J tg) ∧ ∃ (v16 : Int32) (I17 : Nat → Nat → Int32), Runs (GW L xs) (d + 1) 28 (0, [.ref 51], [], zS I15 J tg) (some (.int v16), zS I17 J tg) ∧ (if v16 = 0 then ((some (Value.int (Int32.ofInt (hmG B (X 78)))), zS (eV W) J tg) : Option Value × SS) = (some (.int 1), zS I17 J tg) else ∃ (v18 : Int32) (I19 : Nat → Nat → Int32), Runs (GW L xs) (d + 1) 29 (0, [.ref 51, .int (I17 51 6), .ref 78, vU, vU, vU, vU, vU], [], zS I17 J tg) (some (.int v18), zS I19 J tg) ∧ ((some (Value.int (Int32.ofInt (hmG B (X 78)))), zS (eV W) J tg) : Option Value × SS) = (some (.int (if 0 < v18 then v18 else 0)), zS I19 J tg)) := by
  have hG : GRk X 1 := hI.gk q (by omega) h
  have hG' := hG
  obtain ⟨a1, a2, a3, a4, a5⟩ := hG'
  have a1 : 0 ≤ X 51 4 ∧ X 51 4 ≤ 10 := a1
  have a5 : (X 51 6 = -1 ∧ _) ∨ (0 ≤ X 51 6 ∧ X 51 6 < X 51 4 ∧ ∀ i : Nat, (i : Int) < X 51 4 → (X 53 i = 6 ↔ (i : Int) = X 51 6)) := a5
  have e6 : B (47 + 4 * (B 18 1).toNat) = X 51 := by rw [h]; exact (q.g 51 (by omega)).symm
  by_cases g : X 51 6 = -1
  · refine ⟨X, fun _ _ => rfl, _, k_91_51 (by rw [q.1 18 (by omega)]; exact h), _, _, k_28_51 (by omega), ?_⟩
    rw [if_pos (b0_t (fun hh => hh g))]
    have : hmG B (X 78) = 1 := by unfold hmG; rw [if_neg (by omega), e6, if_pos g]
    rw [this]
    rfl
  · have hi : 0 ≤ X 51 6 ∧ X 51 6 < X 51 4 ∧ ∀ i : Nat, (i : Int) < X 51 4 → (X 53 i = 6 ↔ (i : Int) = X 51 6) := a5.resolve_left (fun hh => g hh.1)
    obtain ⟨i, ei⟩ : ∃ i : Nat, X 51 6 = i := ⟨(X 51 6).toNat, by omega⟩
    have hin : (i : Int) < X (47 + 4 * 1) 4 := by show (i : Int) < X 51 4; omega
    have h6 : X (47 + 4 * 1 + 2) i = 6 := (hi.2.2 i (by omega)).mpr ei.symm
    obtain ⟨c0, c1, c2⟩ := hG.cl hin
    rw [if_pos h6] at c2
    have hv := evC_v hG hin h6 hN
    obtain ⟨W, w1, w2⟩ := k_29_51 (L := L) (xs := xs) (J := J) (tg := tg) (d := d) c0 c1 c2 (by omega) hN
    have w2 : Runs (GW L xs) (d + 1) 29 (0, [.ref 51, (Value.int (Int32.ofInt (i))), .ref 78, vU, vU, vU, vU, vU], [], zS (eV (X)) J tg) (some (Value.int (Int32.ofInt (evC X 1 i (X 78)))), zS (eV (W)) J tg) := w2
    refine ⟨W, w1, _, k_91_51 (by rw [q.1 18 (by omega)]; exact h), _, _, k_28_51 (by omega), ?_⟩
    rw [if_neg (b0_f g)]
    have e17 : eV X 51 6 = Int32.ofInt (i : Int) := by rw [eV_at, ei]
    rw [e17]
    refine ⟨_, _, w2, ?_⟩
    have e2 : hmG B (X 78) = max 0 (evC X 1 i (X 78)) := by
      unfold hmG
      rw [if_neg (by omega), e6, if_neg g, ei, tn_cast, h, evC_fr q.g (by omega)]
      rfl
    rw [e2]
    simp (disch := omega) only [eV_at, eV_up, o_lit2, o_add, o_sub, o_mul, o_neg, o_div, o_nat, ix_t, o_lt, o_le, o_eq, o_bi0, o_bi1, o_bib, em_t, o_neg1, o_shl, o_tb, o_tb0, o_tt, o_and, o_xor, o_or, o_max, o_min, an_tb, and_true, true_and, not_true, not_false, if_true, if_false, tn_add, tn_mul, Int.reduceToNat, tn_cast, md_x]
/-- harmBy, with this GRAMMAR -/
theorem k_104_51 {L d : Nat} {xs : Nat → Int32} {B V : Nat → Nat → Int} {J : Nat → Nat → Int64} {tg : Option Nat} (hI : INV B) (q : Qy B V) (h : B 18 1 = 1) {dr st : Nat} {dn land took : Int} (h8 : V 75 8 = dr) (h9 : V 75 9 = st) (h10 : V 75 10 = dn) (hd : dr < 12) (hst : st < 6) (hdn : 0 ≤ dn ∧ dn ≤ 1) (hl : -1 ≤ land ∧ land ≤ 5) (ht : -1 ≤ took ∧ took ≤ 11) (hN : N12 (V 78)) : ∃ W, (∀ c, c ≠ 45 → c ≠ 78 → W c = V c) ∧ (∀ k, k < 8 → W 78 k = V 78 k) ∧ N12 (W 78) ∧ Runs (GW L xs) (d + 2) 104 (0, [.ref 75, (Value.int (Int32.ofInt (land))), (Value.int (Int32.ofInt (took))), vU], [], zS (eV (V)) J tg) (some (Value.int (Int32.ofInt (hb B dr st dn (V 78) land took))), zS (eV (W)) J tg) := by
  have hRV : RNG V := hI.1.fr fun c hc => q.1 c (by omega)
  have r6 : 0 ≤ V 6 dr ∧ V 6 dr ≤ 1 := hRV 6 dr (by decide) (by decide)
  have k3 := k_103 (L := L) (xs := xs) (J := J) (tg := tg) (d := d) hRV h8 h10 hdn hd hl ht
  have e12 : V 12 = B 12 := q.1 12 (by omega)
  have e5 : V 5 = B 5 := q.1 5 (by omega)
  have e6 : V 6 = B 6 := q.1 6 (by omega)
  have er : (lrn V dr land ∨ rt (V 5 dr) dn (V 6 dr) took) = (lrn B dr land ∨ rt (B 5 dr) dn (B 6 dr) took) := by unfold lrn rt; rw [e12, e5, e6]
  unfold hb
  rw [← e6]
  by_cases r : lrn V dr land ∨ rt (V 5 dr) dn (V 6 dr) took
  · refine ⟨V, fun _ _ _ => rfl, fun _ _ => rfl, hN, ?_⟩
    rw [if_pos (by rw [e6]; exact er.mp r)]
    apply sg_104g51
    refine ⟨_, _, k3, ?_⟩
    rw [if_neg (b0_f r)]
    rfl
  · rw [if_neg (by rw [e6]; exact fun hh => r (er.mpr hh))]
    have go : ∀ tur : Int, 0 ≤ tur ∧ tur ≤ 1 → (if dn = V 6 dr then (0 : Int) else 1) = tur → ∃ W, (∀ c, c ≠ 45 → c ≠ 78 → W c = V c) ∧ (∀ k, k < 8 → W 78 k = V 78 k) ∧ N12 (W 78) ∧ Runs (GW L xs) (d + 2) 104 (0, [.ref 75, (Value.int (Int32.ofInt (land))), (Value.int (Int32.ofInt (took))), vU], [], zS (eV (V)) J tg) (some (Value.int (Int32.ofInt (hmG B (fch (V 78) took tur land st)))), zS (eV (W)) J tg) := by
      intro tur htu etu
      have qX : Qy B (up2 (up2 (up2 (up2 V 78 8 took) 78 9 tur) 78 10 land) 78 11 st) := q.cl fun c q1 q2 => by rw [w_ne _ _ _ _ (by omega), w_ne _ _ _ _ (by omega), w_ne _ _ _ _ (by omega), w_ne _ _ _ _ (by omega)]
      have hNX : N12 ((up2 (up2 (up2 (up2 V 78 8 took) 78 9 tur) 78 10 land) 78 11 (st : Int)) 78) := by rw [fch_up]; exact fch_n hN (by omega) (by omega) (by omega) (by omega)
      obtain ⟨W, w1, w2⟩ := k_104s_51 (L := L) (xs := xs) (J := J) (tg := tg) (d := d) hI qX h hNX
      rw [fch_up] at w2
      refine ⟨W, fun c q1 q2 => by rw [w1 c q1, w_ne _ _ _ _ q2, w_ne _ _ _ _ q2, w_ne _ _ _ _ q2, w_ne _ _ _ _ q2], fun k hk => ?_, by rw [w1 78 (by decide)]; exact hNX, ?_⟩
      · rw [w1 78 (by decide), fch_up]
        unfold fch
        rw [if_neg (by omega), if_neg (by omega), if_neg (by omega), if_neg (by omega)]
      · apply sg_104g51
        refine ⟨_, _, k3, ?_⟩
        rw [if_pos (b0_t r)]
        simp (disch := omega) only [h8, h9, h10, eV_at, eV_up, o_lit2, o_add, o_sub, o_mul, o_neg, o_div, o_nat, ix_t, o_lt, o_le, o_eq, o_bi0, o_bi1, o_bib, em_t, o_neg1, o_shl, o_tb, o_tb0, o_tt, o_and, o_xor, o_or, o_max, o_min, an_tb, and_true, true_and, not_true, not_false, if_true, if_false, tn_add, tn_mul, Int.reduceToNat, tn_cast, md_x]
        by_cases t : dn = V 6 dr
        · rw [if_pos t] at etu ⊢
          subst etu
          exact w2
        · rw [if_neg t] at etu ⊢
          subst etu
          exact w2
    split
    · rename_i t; exact go 0 (by omega) (if_pos t)
    · rename_i t; exact go 1 (by omega) (if_neg t)
theorem k_91_55 {L d : Nat} {xs : Nat → Int32} {V : Nat → Nat → Int} {J : Nat → Nat → Int64} {tg : Option Nat} (h : V 18 1 = 2) : Runs (GW L xs) (d) 91 (0, [.ref 75], [], zS (eV (V)) J tg) (some (.ref 55), zS (eV (V)) J tg) := by
  apply sg_91g55
  simp (disch := omega) only [h, eV_at, eV_up, o_lit2, o_add, o_sub, o_mul, o_neg, o_div, o_nat, ix_t, o_lt, o_le, o_eq, o_bi0, o_bi1, o_bib, em_t, o_neg1, o_shl, o_tb, o_tb0, o_tt, o_and, o_xor, o_or, o_max, o_min, an_tb, and_true, true_and, not_true, not_false, if_true, if_false, tn_add, tn_mul, Int.reduceToNat, tn_cast, md_x]
  rw [if_neg (by omega)] <;> first | rfl | exact ⟨rfl, rfl⟩ | trivial
theorem k_28_55 {L d : Nat} {xs : Nat → Int32} {V : Nat → Nat → Int} {J : Nat → Nat → Int64} {tg : Option Nat} (h : -1 ≤ V 55 6 ∧ V 55 6 ≤ 10) : Runs (GW L xs) (d) 28 (0, [.ref 55], [], zS (eV (V)) J tg) (some (Value.int (Int32.ofInt (bi (V 55 6 ≠ -1)))), zS (eV (V)) J tg) := by
  apply sg_28g55
  simp (disch := omega) only [eV_at, eV_up, o_lit2, o_add, o_sub, o_mul, o_neg, o_div, o_nat, ix_t, o_lt, o_le, o_eq, o_bi0, o_bi1, o_bib, em_t, o_neg1, o_shl, o_tb, o_tb0, o_tt, o_and, o_xor, o_or, o_max, o_min, an_tb, and_true, true_and, not_true, not_false, if_true, if_false, tn_add, tn_mul, Int.reduceToNat, tn_cast, md_x]
  by_cases c : V 55 6 = -1
  · rw [if_pos c]; exact leafI (bi_f (fun h => h c)).symm
  · rw [if_neg c]; exact leafI (bi_t c).symm
theorem k_98_55 {L d : Nat} {xs : Nat → Int32} {B V : Nat → Nat → Int} {J : Nat → Nat → Int64} {tg : Option Nat} (hI : INV B) (q : Qy B V) (h : B 18 1 = 2) (hN : N12 (V 78)) : ∃ W, (∀ c, c ≠ 45 → c ≠ 75 → W c = V c) ∧ (∀ p, p ≠ 10 → W 75 p = V 75 p) ∧ W 75 10 = bi (smG B 4 1 (V 78) = true) ∧ Runs (GW L xs) (d + 3) 98 (0, [.ref 75], [], zS (eV (V)) J tg) (none, zS (eV (W)) J tg) := by
  have hG : GRk V 2 := hI.gk q (by omega) h
  obtain ⟨X, x1, x2⟩ := k_26_55 (L := L) (xs := xs) (J := J) (tg := tg) (d := d) hG hN
  have es : smG B 4 1 (V 78) = smB V 2 4 1 (V 78) := by
    unfold smG
    rw [if_neg (by omega), h, smB_fr q.g (by omega)]
    rfl
  refine ⟨up2 X 75 10 (bi (smB V 2 4 1 (V 78) = true)), fun c q1 q2 => by rw [w_ne _ _ _ _ q2]; exact x1 c q1, fun p hp => by rw [w_at, if_neg hp, x1 75 (by decide)], by rw [w_eq]; simp only [es], ?_⟩
  apply sg_98g55
  refine ⟨_, k_91_55 (by rw [q.1 18 (by omega)]; exact h), _, _, x2, o_01 (bi_rg _), ?_⟩
  rw [eV_up]
theorem k_99_55 {L d : Nat} {xs : Nat → Int32} {B V : Nat → Nat → Int} {J : Nat → Nat → Int64} {tg : Option Nat} (hI : INV B) (q : Qy B V) (h : B 18 1 = 2) (hN : N12 (V 78)) : ∃ W, (∀ c, c ≠ 45 → W c = V c) ∧ Runs (GW L xs) (d + 3) 99 (0, [.ref 75], [], zS (eV (V)) J tg) (some (Value.int (Int32.ofInt (bi (¬ smG B 5 0 (V 78) = true)))), zS (eV (W)) J tg) := by
  have hG : GRk V 2 := hI.gk q (by omega) h
  obtain ⟨X, x1, x2⟩ := k_27_55 (L := L) (xs := xs) (J := J) (tg := tg) (d := d) hG hN
  have es : smG B 5 0 (V 78) = smB V 2 5 0 (V 78) := by
    unfold smG
    rw [if_neg (by omega), h, smB_fr q.g (by omega)]
    rfl
  refine ⟨X, x1, ?_⟩
  apply sg_99g55
  rw [es]
  exact ⟨_, k_91_55 (by rw [q.1 18 (by omega)]; exact h), _, _, x2, o_01 (bi_rg _), rfl⟩
theorem k_104s_55 {L d : Nat} {xs : Nat → Int32} {B X : Nat → Nat → Int} {J : Nat → Nat → Int64} {tg : Option Nat} (hI : INV B) (q : Qy B X) (h : B 18 1 = 2) (hN : N12 (X 78)) : ∃ W, (∀ c, c ≠ 45 → W c = X c) ∧ ∃ I15 : Nat → Nat → Int32, Runs (GW L xs) (d + 1) 91 (0, [.ref 75], [], zS (eV X) J tg) (some (.ref 55), zS I15 J tg) ∧ ∃ (v16 : Int32) (I17 : Nat → Nat → Int32), Runs (GW L xs) (d + 1) 28 (0, [.ref 55], [], zS I15 J tg) (some (.int v16), zS I17 J tg) ∧ (if v16 = 0 then ((some (Value.int (Int32.ofInt (hmG B (X 78)))), zS (eV W) J tg) : Option Value × SS) = (some (.int 1), zS I17 J tg) else ∃ (v18 : Int32) (I19 : Nat → Nat → Int32), Runs (GW L xs) (d + 1) 29 (0, [.ref 55, .int (I17 55 6), .ref 78, vU, vU, vU, vU, vU], [], zS I17 J tg) (some (.int v18), zS I19 J tg) ∧ ((some (Value.int (Int32.ofInt (hmG B (X 78)))), zS (eV W) J tg) : Option Value × SS) = (some (.int (if 0 < v18 then v18 else 0)), zS I19 J tg)) := by
  have hG : GRk X 2 := hI.gk q (by omega) h
  have hG' := hG
  obtain ⟨a1, a2, a3, a4, a5⟩ := hG'
  have a1 : 0 ≤ X 55 4 ∧ X 55 4 ≤ 10 := a1
  have a5 : (X 55 6 = -1 ∧ _) ∨ (0 ≤ X 55 6 ∧ X 55 6 < X 55 4 ∧ ∀ i : Nat, (i : Int) < X 55 4 → (X 57 i = 6 ↔ (i : Int) = X 55 6)) := a5
  have e6 : B (47 + 4 * (B 18 1).toNat) = X 55 := by rw [h]; exact (q.g 55 (by omega)).symm
  by_cases g : X 55 6 = -1
  · refine ⟨X, fun _ _ => rfl, _, k_91_55 (by rw [q.1 18 (by omega)]; exact h), _, _, k_28_55 (by omega), ?_⟩
    rw [if_pos (b0_t (fun hh => hh g))]
    have : hmG B (X 78) = 1 := by unfold hmG; rw [if_neg (by omega), e6, if_pos g]
    rw [this]
    rfl
  · have hi : 0 ≤ X 55 6 ∧ X 55 6 < X 55 4 ∧ ∀ i : Nat, (i : Int) < X 55 4 → (X 57 i = 6 ↔ (i : Int) = X 55 6) := a5.resolve_left (fun hh => g hh.1)
    obtain ⟨i, ei⟩ : ∃ i : Nat, X 55 6 = i := ⟨(X 55 6).toNat, by omega⟩
    have hin : (i : Int) < X (47 + 4 * 2) 4 := by show (i : Int) < X 55 4; omega
    have h6 : X (47 + 4 * 2 + 2) i = 6 := (hi.2.2 i (by omega)).mpr ei.symm
    obtain ⟨c0, c1, c2⟩ := hG.cl hin
    rw [if_pos h6] at c2
    have hv := evC_v hG hin h6 hN
    obtain ⟨W, w1, w2⟩ := k_29_55 (L := L) (xs := xs) (J := J) (tg := tg) (d := d) c0 c1 c2 (by omega) hN
    have w2 : Runs (GW L xs) (d + 1) 29 (0, [.ref 55, (Value.int (Int32.ofInt (i))), .ref 78, vU, vU, vU, vU, vU], [], zS (eV (X)) J tg) (some (Value.int (Int32.ofInt (evC X 2 i (X 78)))), zS (eV (W)) J tg) := w2
    refine ⟨W, w1, _, k_91_55 (by rw [q.1 18 (by omega)]; exact h), _, _, k_28_55 (by omega), ?_⟩
    rw [if_neg (b0_f g)]
    have e17 : eV X 55 6 = Int32.ofInt (i : Int) := by rw [eV_at, ei]
    rw [e17]
    refine ⟨_, _, w2, ?_⟩
    have e2 : hmG B (X 78) = max 0 (evC X 2 i (X 78)) := by
      unfold hmG
      rw [if_neg (by omega), e6, if_neg g, ei, tn_cast, h, evC_fr q.g (by omega)]
      rfl
    rw [e2]
    simp (disch := omega) only [eV_at, eV_up, o_lit2, o_add, o_sub, o_mul, o_neg, o_div, o_nat, ix_t, o_lt, o_le, o_eq, o_bi0, o_bi1, o_bib, em_t, o_neg1, o_shl, o_tb, o_tb0, o_tt, o_and, o_xor, o_or, o_max, o_min, an_tb, and_true, true_and, not_true, not_false, if_true, if_false, tn_add, tn_mul, Int.reduceToNat, tn_cast, md_x]
/-- harmBy, with this GRAMMAR -/
theorem k_104_55 {L d : Nat} {xs : Nat → Int32} {B V : Nat → Nat → Int} {J : Nat → Nat → Int64} {tg : Option Nat} (hI : INV B) (q : Qy B V) (h : B 18 1 = 2) {dr st : Nat} {dn land took : Int} (h8 : V 75 8 = dr) (h9 : V 75 9 = st) (h10 : V 75 10 = dn) (hd : dr < 12) (hst : st < 6) (hdn : 0 ≤ dn ∧ dn ≤ 1) (hl : -1 ≤ land ∧ land ≤ 5) (ht : -1 ≤ took ∧ took ≤ 11) (hN : N12 (V 78)) : ∃ W, (∀ c, c ≠ 45 → c ≠ 78 → W c = V c) ∧ (∀ k, k < 8 → W 78 k = V 78 k) ∧ N12 (W 78) ∧ Runs (GW L xs) (d + 2) 104 (0, [.ref 75, (Value.int (Int32.ofInt (land))), (Value.int (Int32.ofInt (took))), vU], [], zS (eV (V)) J tg) (some (Value.int (Int32.ofInt (hb B dr st dn (V 78) land took))), zS (eV (W)) J tg) := by
  have hRV : RNG V := hI.1.fr fun c hc => q.1 c (by omega)
  have r6 : 0 ≤ V 6 dr ∧ V 6 dr ≤ 1 := hRV 6 dr (by decide) (by decide)
  have k3 := k_103 (L := L) (xs := xs) (J := J) (tg := tg) (d := d) hRV h8 h10 hdn hd hl ht
  have e12 : V 12 = B 12 := q.1 12 (by omega)
  have e5 : V 5 = B 5 := q.1 5 (by omega)
  have e6 : V 6 = B 6 := q.1 6 (by omega)
  have er : (lrn V dr land ∨ rt (V 5 dr) dn (V 6 dr) took) = (lrn B dr land ∨ rt (B 5 dr) dn (B 6 dr) took) := by unfold lrn rt; rw [e12, e5, e6]
  unfold hb
  rw [← e6]
  by_cases r : lrn V dr land ∨ rt (V 5 dr) dn (V 6 dr) took
  · refine ⟨V, fun _ _ _ => rfl, fun _ _ => rfl, hN, ?_⟩
    rw [if_pos (by rw [e6]; exact er.mp r)]
    apply sg_104g55
    refine ⟨_, _, k3, ?_⟩
    rw [if_neg (b0_f r)]
    rfl
  · rw [if_neg (by rw [e6]; exact fun hh => r (er.mpr hh))]
    have go : ∀ tur : Int, 0 ≤ tur ∧ tur ≤ 1 → (if dn = V 6 dr then (0 : Int) else 1) = tur → ∃ W, (∀ c, c ≠ 45 → c ≠ 78 → W c = V c) ∧ (∀ k, k < 8 → W 78 k = V 78 k) ∧ N12 (W 78) ∧ Runs (GW L xs) (d + 2) 104 (0, [.ref 75, (Value.int (Int32.ofInt (land))), (Value.int (Int32.ofInt (took))), vU], [], zS (eV (V)) J tg) (some (Value.int (Int32.ofInt (hmG B (fch (V 78) took tur land st)))), zS (eV (W)) J tg) := by
      intro tur htu etu
      have qX : Qy B (up2 (up2 (up2 (up2 V 78 8 took) 78 9 tur) 78 10 land) 78 11 st) := q.cl fun c q1 q2 => by rw [w_ne _ _ _ _ (by omega), w_ne _ _ _ _ (by omega), w_ne _ _ _ _ (by omega), w_ne _ _ _ _ (by omega)]
      have hNX : N12 ((up2 (up2 (up2 (up2 V 78 8 took) 78 9 tur) 78 10 land) 78 11 (st : Int)) 78) := by rw [fch_up]; exact fch_n hN (by omega) (by omega) (by omega) (by omega)
      obtain ⟨W, w1, w2⟩ := k_104s_55 (L := L) (xs := xs) (J := J) (tg := tg) (d := d) hI qX h hNX
      rw [fch_up] at w2
      refine ⟨W, fun c q1 q2 => by rw [w1 c q1, w_ne _ _ _ _ q2, w_ne _ _ _ _ q2, w_ne _ _ _ _ q2, w_ne _ _ _ _ q2], fun k hk => ?_, by rw [w1 78 (by decide)]; exact hNX, ?_⟩
      · rw [w1 78 (by decide), fch_up]
        unfold fch
        rw [if_neg (by omega), if_neg (by omega), if_neg (by omega), if_neg (by omega)]
      · apply sg_104g55
        refine ⟨_, _, k3, ?_⟩
        rw [if_pos (b0_t r)]
        simp (disch := omega) only [h8, h9, h10, eV_at, eV_up, o_lit2, o_add, o_sub, o_mul, o_neg, o_div, o_nat, ix_t, o_lt, o_le, o_eq, o_bi0, o_bi1, o_bib, em_t, o_neg1, o_shl, o_tb, o_tb0, o_tt, o_and, o_xor, o_or, o_max, o_min, an_tb, and_true, true_and, not_true, not_false, if_true, if_false, tn_add, tn_mul, Int.reduceToNat, tn_cast, md_x]
        by_cases t : dn = V 6 dr
        · rw [if_pos t] at etu ⊢
          subst etu
          exact w2
        · rw [if_neg t] at etu ⊢
          subst etu
          exact w2
    split
    · rename_i t; exact go 0 (by omega) (if_pos t)
    · rename_i t; exact go 1 (by omega) (if_neg t)
theorem k_91_59 {L d : Nat} {xs : Nat → Int32} {V : Nat → Nat → Int} {J : Nat → Nat → Int64} {tg : Option Nat} (h : V 18 1 = 3) : Runs (GW L xs) (d) 91 (0, [.ref 75], [], zS (eV (V)) J tg) (some (.ref 59), zS (eV (V)) J tg) := by
  apply sg_91g59
  simp (disch := omega) only [h, eV_at, eV_up, o_lit2, o_add, o_sub, o_mul, o_neg, o_div, o_nat, ix_t, o_lt, o_le, o_eq, o_bi0, o_bi1, o_bib, em_t, o_neg1, o_shl, o_tb, o_tb0, o_tt, o_and, o_xor, o_or, o_max, o_min, an_tb, and_true, true_and, not_true, not_false, if_true, if_false, tn_add, tn_mul, Int.reduceToNat, tn_cast, md_x]
  rw [if_neg (by omega)] <;> first | rfl | exact ⟨rfl, rfl⟩ | trivial
theorem k_28_59 {L d : Nat} {xs : Nat → Int32} {V : Nat → Nat → Int} {J : Nat → Nat → Int64} {tg : Option Nat} (h : -1 ≤ V 59 6 ∧ V 59 6 ≤ 10) : Runs (GW L xs) (d) 28 (0, [.ref 59], [], zS (eV (V)) J tg) (some (Value.int (Int32.ofInt (bi (V 59 6 ≠ -1)))), zS (eV (V)) J tg) := by
  apply sg_28g59
  simp (disch := omega) only [eV_at, eV_up, o_lit2, o_add, o_sub, o_mul, o_neg, o_div, o_nat, ix_t, o_lt, o_le, o_eq, o_bi0, o_bi1, o_bib, em_t, o_neg1, o_shl, o_tb, o_tb0, o_tt, o_and, o_xor, o_or, o_max, o_min, an_tb, and_true, true_and, not_true, not_false, if_true, if_false, tn_add, tn_mul, Int.reduceToNat, tn_cast, md_x]
  by_cases c : V 59 6 = -1
  · rw [if_pos c]; exact leafI (bi_f (fun h => h c)).symm
  · rw [if_neg c]; exact leafI (bi_t c).symm
theorem k_98_59 {L d : Nat} {xs : Nat → Int32} {B V : Nat → Nat → Int} {J : Nat → Nat → Int64} {tg : Option Nat} (hI : INV B) (q : Qy B V) (h : B 18 1 = 3) (hN : N12 (V 78)) : ∃ W, (∀ c, c ≠ 45 → c ≠ 75 → W c = V c) ∧ (∀ p, p ≠ 10 → W 75 p = V 75 p) ∧ W 75 10 = bi (smG B 4 1 (V 78) = true) ∧ Runs (GW L xs) (d + 3) 98 (0, [.ref 75], [], zS (eV (V)) J tg) (none, zS (eV (W)) J tg) := by
  have hG : GRk V 3 := hI.gk q (by omega) h
  obtain ⟨X, x1, x2⟩ := k_26_59 (L := L) (xs := xs) (J := J) (tg := tg) (d := d) hG hN
  have es : smG B 4 1 (V 78) = smB V 3 4 1 (V 78) := by
    unfold smG
    rw [if_neg (by omega), h, smB_fr q.g (by omega)]
    rfl
  refine ⟨up2 X 75 10 (bi (smB V 3 4 1 (V 78) = true)), fun c q1 q2 => by rw [w_ne _ _ _ _ q2]; exact x1 c q1, fun p hp => by rw [w_at, if_neg hp, x1 75 (by decide)], by rw [w_eq]; simp only [es], ?_⟩
  apply sg_98g59
  refine ⟨_, k_91_59 (by rw [q.1 18 (by omega)]; exact h), _, _, x2, o_01 (bi_rg _), ?_⟩
  rw [eV_up]
theorem k_99_59 {L d : Nat} {xs : Nat → Int32} {B V : Nat → Nat → Int} {J : Nat → Nat → Int64} {tg : Option Nat} (hI : INV B) (q : Qy B V) (h : B 18 1 = 3) (hN : N12 (V 78)) : ∃ W, (∀ c, c ≠ 45 → W c = V c) ∧ Runs (GW L xs) (d + 3) 99 (0, [.ref 75], [], zS (eV (V)) J tg) (some (Value.int (Int32.ofInt (bi (¬ smG B 5 0 (V 78) = true)))), zS (eV (W)) J tg) := by
  have hG : GRk V 3 := hI.gk q (by omega) h
  obtain ⟨X, x1, x2⟩ := k_27_59 (L := L) (xs := xs) (J := J) (tg := tg) (d := d) hG hN
  have es : smG B 5 0 (V 78) = smB V 3 5 0 (V 78) := by
    unfold smG
    rw [if_neg (by omega), h, smB_fr q.g (by omega)]
    rfl
  refine ⟨X, x1, ?_⟩
  apply sg_99g59
  rw [es]
  exact ⟨_, k_91_59 (by rw [q.1 18 (by omega)]; exact h), _, _, x2, o_01 (bi_rg _), rfl⟩
theorem k_104s_59 {L d : Nat} {xs : Nat → Int32} {B X : Nat → Nat → Int} {J : Nat → Nat → Int64} {tg : Option Nat} (hI : INV B) (q : Qy B X) (h : B 18 1 = 3) (hN : N12 (X 78)) : ∃ W, (∀ c, c ≠ 45 → W c = X c) ∧ ∃ I15 : Nat → Nat → Int32, Runs (GW L xs) (d + 1) 91 (0, [.ref 75], [], zS (eV X) J tg) (some (.ref 59), zS I15 J tg) ∧ ∃ (v16 : Int32) (I17 : Nat → Nat → Int32), Runs (GW L xs) (d + 1) 28 (0, [.ref 59], [], zS I15 J tg) (some (.int v16), zS I17 J tg) ∧ (if v16 = 0 then ((some (Value.int (Int32.ofInt (hmG B (X 78)))), zS (eV W) J tg) : Option Value × SS) = (some (.int 1), zS I17 J tg) else ∃ (v18 : Int32) (I19 : Nat → Nat → Int32), Runs (GW L xs) (d + 1) 29 (0, [.ref 59, .int (I17 59 6), .ref 78, vU, vU, vU, vU, vU], [], zS I17 J tg) (some (.int v18), zS I19 J tg) ∧ ((some (Value.int (Int32.ofInt (hmG B (X 78)))), zS (eV W) J tg) : Option Value × SS) = (some (.int (if 0 < v18 then v18 else 0)), zS I19 J tg)) := by
  have hG : GRk X 3 := hI.gk q (by omega) h
  have hG' := hG
  obtain ⟨a1, a2, a3, a4, a5⟩ := hG'
  have a1 : 0 ≤ X 59 4 ∧ X 59 4 ≤ 10 := a1
  have a5 : (X 59 6 = -1 ∧ _) ∨ (0 ≤ X 59 6 ∧ X 59 6 < X 59 4 ∧ ∀ i : Nat, (i : Int) < X 59 4 → (X 61 i = 6 ↔ (i : Int) = X 59 6)) := a5
  have e6 : B (47 + 4 * (B 18 1).toNat) = X 59 := by rw [h]; exact (q.g 59 (by omega)).symm
  by_cases g : X 59 6 = -1
  · refine ⟨X, fun _ _ => rfl, _, k_91_59 (by rw [q.1 18 (by omega)]; exact h), _, _, k_28_59 (by omega), ?_⟩
    rw [if_pos (b0_t (fun hh => hh g))]
    have : hmG B (X 78) = 1 := by unfold hmG; rw [if_neg (by omega), e6, if_pos g]
    rw [this]
    rfl
  · have hi : 0 ≤ X 59 6 ∧ X 59 6 < X 59 4 ∧ ∀ i : Nat, (i : Int) < X 59 4 → (X 61 i = 6 ↔ (i : Int) = X 59 6) := a5.resolve_left (fun hh => g hh.1)
    obtain ⟨i, ei⟩ : ∃ i : Nat, X 59 6 = i := ⟨(X 59 6).toNat, by omega⟩
    have hin : (i : Int) < X (47 + 4 * 3) 4 := by show (i : Int) < X 59 4; omega
    have h6 : X (47 + 4 * 3 + 2) i = 6 := (hi.2.2 i (by omega)).mpr ei.symm
    obtain ⟨c0, c1, c2⟩ := hG.cl hin
    rw [if_pos h6] at c2
    have hv := evC_v hG hin h6 hN
    obtain ⟨W, w1, w2⟩ := k_29_59 (L := L) (xs := xs) (J := J) (tg := tg) (d := d) c0 c1 c2 (by omega) hN
    have w2 : Runs (GW L xs) (d + 1) 29 (0, [.ref 59, (Value.int (Int32.ofInt (i))), .ref 78, vU, vU, vU, vU, vU], [], zS (eV (X)) J tg) (some (Value.int (Int32.ofInt (evC X 3 i (X 78)))), zS (eV (W)) J tg) := w2
    refine ⟨W, w1, _, k_91_59 (by rw [q.1 18 (by omega)]; exact h), _, _, k_28_59 (by omega), ?_⟩
    rw [if_neg (b0_f g)]
    have e17 : eV X 59 6 = Int32.ofInt (i : Int) := by rw [eV_at, ei]
    rw [e17]
    refine ⟨_, _, w2, ?_⟩
    have e2 : hmG B (X 78) = max 0 (evC X 3 i (X 78)) := by
      unfold hmG
      rw [if_neg (by omega), e6, if_neg g, ei, tn_cast, h, evC_fr q.g (by omega)]
      rfl
    rw [e2]
    simp (disch := omega) only [eV_at, eV_up, o_lit2, o_add, o_sub, o_mul, o_neg, o_div, o_nat, ix_t, o_lt, o_le, o_eq, o_bi0, o_bi1, o_bib, em_t, o_neg1, o_shl, o_tb, o_tb0, o_tt, o_and, o_xor, o_or, o_max, o_min, an_tb, and_true, true_and, not_true, not_false, if_true, if_false, tn_add, tn_mul, Int.reduceToNat, tn_cast, md_x]
/-- harmBy, with this GRAMMAR -/
theorem k_104_59 {L d : Nat} {xs : Nat → Int32} {B V : Nat → Nat → Int} {J : Nat → Nat → Int64} {tg : Option Nat} (hI : INV B) (q : Qy B V) (h : B 18 1 = 3) {dr st : Nat} {dn land took : Int} (h8 : V 75 8 = dr) (h9 : V 75 9 = st) (h10 : V 75 10 = dn) (hd : dr < 12) (hst : st < 6) (hdn : 0 ≤ dn ∧ dn ≤ 1) (hl : -1 ≤ land ∧ land ≤ 5) (ht : -1 ≤ took ∧ took ≤ 11) (hN : N12 (V 78)) : ∃ W, (∀ c, c ≠ 45 → c ≠ 78 → W c = V c) ∧ (∀ k, k < 8 → W 78 k = V 78 k) ∧ N12 (W 78) ∧ Runs (GW L xs) (d + 2) 104 (0, [.ref 75, (Value.int (Int32.ofInt (land))), (Value.int (Int32.ofInt (took))), vU], [], zS (eV (V)) J tg) (some (Value.int (Int32.ofInt (hb B dr st dn (V 78) land took))), zS (eV (W)) J tg) := by
  have hRV : RNG V := hI.1.fr fun c hc => q.1 c (by omega)
  have r6 : 0 ≤ V 6 dr ∧ V 6 dr ≤ 1 := hRV 6 dr (by decide) (by decide)
  have k3 := k_103 (L := L) (xs := xs) (J := J) (tg := tg) (d := d) hRV h8 h10 hdn hd hl ht
  have e12 : V 12 = B 12 := q.1 12 (by omega)
  have e5 : V 5 = B 5 := q.1 5 (by omega)
  have e6 : V 6 = B 6 := q.1 6 (by omega)
  have er : (lrn V dr land ∨ rt (V 5 dr) dn (V 6 dr) took) = (lrn B dr land ∨ rt (B 5 dr) dn (B 6 dr) took) := by unfold lrn rt; rw [e12, e5, e6]
  unfold hb
  rw [← e6]
  by_cases r : lrn V dr land ∨ rt (V 5 dr) dn (V 6 dr) took
  · refine ⟨V, fun _ _ _ => rfl, fun _ _ => rfl, hN, ?_⟩
    rw [if_pos (by rw [e6]; exact er.mp r)]
    apply sg_104g59
    refine ⟨_, _, k3, ?_⟩
    rw [if_neg (b0_f r)]
    rfl
  · rw [if_neg (by rw [e6]; exact fun hh => r (er.mpr hh))]
    have go : ∀ tur : Int, 0 ≤ tur ∧ tur ≤ 1 → (if dn = V 6 dr then (0 : Int) else 1) = tur → ∃ W, (∀ c, c ≠ 45 → c ≠ 78 → W c = V c) ∧ (∀ k, k < 8 → W 78 k = V 78 k) ∧ N12 (W 78) ∧ Runs (GW L xs) (d + 2) 104 (0, [.ref 75, (Value.int (Int32.ofInt (land))), (Value.int (Int32.ofInt (took))), vU], [], zS (eV (V)) J tg) (some (Value.int (Int32.ofInt (hmG B (fch (V 78) took tur land st)))), zS (eV (W)) J tg) := by
      intro tur htu etu
      have qX : Qy B (up2 (up2 (up2 (up2 V 78 8 took) 78 9 tur) 78 10 land) 78 11 st) := q.cl fun c q1 q2 => by rw [w_ne _ _ _ _ (by omega), w_ne _ _ _ _ (by omega), w_ne _ _ _ _ (by omega), w_ne _ _ _ _ (by omega)]
      have hNX : N12 ((up2 (up2 (up2 (up2 V 78 8 took) 78 9 tur) 78 10 land) 78 11 (st : Int)) 78) := by rw [fch_up]; exact fch_n hN (by omega) (by omega) (by omega) (by omega)
      obtain ⟨W, w1, w2⟩ := k_104s_59 (L := L) (xs := xs) (J := J) (tg := tg) (d := d) hI qX h hNX
      rw [fch_up] at w2
      refine ⟨W, fun c q1 q2 => by rw [w1 c q1, w_ne _ _ _ _ q2, w_ne _ _ _ _ q2, w_ne _ _ _ _ q2, w_ne _ _ _ _ q2], fun k hk => ?_, by rw [w1 78 (by decide)]; exact hNX, ?_⟩
      · rw [w1 78 (by decide), fch_up]
        unfold fch
        rw [if_neg (by omega), if_neg (by omega), if_neg (by omega), if_neg (by omega)]
      · apply sg_104g59
        refine ⟨_, _, k3, ?_⟩
        rw [if_pos (b0_t r)]
        simp (disch := omega) only [h8, h9, h10, eV_at, eV_up, o_lit2, o_add, o_sub, o_mul, o_neg, o_div, o_nat, ix_t, o_lt, o_le, o_eq, o_bi0, o_bi1, o_bib, em_t, o_neg1, o_shl, o_tb, o_tb0, o_tt, o_and, o_xor, o_or, o_max, o_min, an_tb, and_true, true_and, not_true, not_false, if_true, if_false, tn_add, tn_mul, Int.reduceToNat, tn_cast, md_x]
        by_cases t : dn = V 6 dr
        · rw [if_pos t] at etu ⊢
          subst etu
          exact w2
        · rw [if_neg t] at etu ⊢
          subst etu
          exact w2
    split
    · rename_i t; exact go 0 (by omega) (if_pos t)
    · rename_i t; exact go 1 (by omega) (if_neg t)
theorem k_91_63 {L d : Nat} {xs : Nat → Int32} {V : Nat → Nat → Int} {J : Nat → Nat → Int64} {tg : Option Nat} (h : V 18 1 = -1) : Runs (GW L xs) (d) 91 (0, [.ref 75], [], zS (eV (V)) J tg) (some (.ref 63), zS (eV (V)) J tg) := by
  apply sg_91g63
  simp (disch := omega) only [h, eV_at, eV_up, o_lit2, o_add, o_sub, o_mul, o_neg, o_div, o_nat, ix_t, o_lt, o_le, o_eq, o_bi0, o_bi1, o_bib, em_t, o_neg1, o_shl, o_tb, o_tb0, o_tt, o_and, o_xor, o_or, o_max, o_min, an_tb, and_true, true_and, not_true, not_false, if_true, if_false, tn_add, tn_mul, Int.reduceToNat, tn_cast, md_x]
theorem Qy.g63 {B V : Nat → Nat → Int} (hI : INV B) (q : Qy B V) : V 63 4 = 0 ∧ V 63 6 = -1 := by
  rw [q.1 63 (by omega)]; exact hI.2.2.2.2.2.1.1
theorem k_98 {L d : Nat} {xs : Nat → Int32} {B V : Nat → Nat → Int} {J : Nat → Nat → Int64} {tg : Option Nat} (hI : INV B) (q : Qy B V) (hN : N12 (V 78)) : ∃ W, (∀ c, c ≠ 45 → c ≠ 75 → W c = V c) ∧ (∀ p, p ≠ 10 → W 75 p = V 75 p) ∧ W 75 10 = bi (smG B 4 1 (V 78) = true) ∧ Runs (GW L xs) (d + 3) 98 (0, [.ref 75], [], zS (eV (V)) J tg) (none, zS (eV (W)) J tg) := by
  have r : -1 ≤ B 18 1 ∧ B 18 1 ≤ 3 := hI.1 18 1 (by decide) (by decide)
  have r : B 18 1 = -1 ∨ B 18 1 = (0 : Nat) ∨ B 18 1 = (1 : Nat) ∨ B 18 1 = (2 : Nat) ∨ B 18 1 = (3 : Nat) := by omega
  rcases r with h | h | h | h | h
  · refine ⟨up2 V 75 10 0, fun c _ q2 => w_ne _ _ _ _ q2, fun p hp => by rw [w_at, if_neg hp], by rw [w_eq]; exact bi_f (by unfold smG; rw [if_pos h]; decide), ?_⟩
    obtain ⟨z1, z2⟩ := q.g63 hI
    apply sg_98g63
    refine ⟨_, k_91_63 (by rw [q.1 18 (by omega)]; exact h), _, _, sg_26g63 _ _ _ (sg_26g63_2 _ _ _ _ (r := (some (Value.int 0), zS (eV V) J tg)) ?_), Or.inl rfl, ?_⟩
    · simp (disch := omega) only [z1, eV_at, eV_up, o_lit2, o_add, o_sub, o_mul, o_neg, o_div, o_nat, ix_t, o_lt, o_le, o_eq, o_bi0, o_bi1, o_bib, em_t, o_neg1, o_shl, o_tb, o_tb0, o_tt, o_and, o_xor, o_or, o_max, o_min, an_tb, and_true, true_and, not_true, not_false, if_true, if_false, tn_add, tn_mul, Int.reduceToNat, tn_cast, md_x]
      rw [if_pos (by omega)] <;> first | rfl | trivial
    · rw [← eV_up]; rfl
  · exact k_98_47 hI q h hN
  · exact k_98_51 hI q h hN
  · exact k_98_55 hI q h hN
  · exact k_98_59 hI q h hN
theorem k_99 {L d : Nat} {xs : Nat → Int32} {B V : Nat → Nat → Int} {J : Nat → Nat → Int64} {tg : Option Nat} (hI : INV B) (q : Qy B V) (hN : N12 (V 78)) : ∃ W, (∀ c, c ≠ 45 → W c = V c) ∧ Runs (GW L xs) (d + 3) 99 (0, [.ref 75], [], zS (eV (V)) J tg) (some (Value.int (Int32.ofInt (bi (¬ smG B 5 0 (V 78) = true)))), zS (eV (W)) J tg) := by
  have r : -1 ≤ B 18 1 ∧ B 18 1 ≤ 3 := hI.1 18 1 (by decide) (by decide)
  have r : B 18 1 = -1 ∨ B 18 1 = (0 : Nat) ∨ B 18 1 = (1 : Nat) ∨ B 18 1 = (2 : Nat) ∨ B 18 1 = (3 : Nat) := by omega
  rcases r with h | h | h | h | h
  · have e : bi (¬ smG B 5 0 (V 78) = true) = 1 := (bi_t (by unfold smG; rw [if_pos h]; decide)).symm
    obtain ⟨z1, z2⟩ := q.g63 hI
    refine ⟨V, fun _ _ => rfl, ?_⟩
    rw [e]
    apply sg_99g63
    refine ⟨_, k_91_63 (by rw [q.1 18 (by omega)]; exact h), _, _, sg_27g63 _ _ _ (sg_27g63_2 _ _ _ _ (r := (some (Value.int 1), zS (eV V) J tg)) ?_), Or.inr rfl, rfl⟩
    simp (disch := omega) only [z1, eV_at, eV_up, o_lit2, o_add, o_sub, o_mul, o_neg, o_div, o_nat, ix_t, o_lt, o_le, o_eq, o_bi0, o_bi1, o_bib, em_t, o_neg1, o_shl, o_tb, o_tb0, o_tt, o_and, o_xor, o_or, o_max, o_min, an_tb, and_true, true_and, not_true, not_false, if_true, if_false, tn_add, tn_mul, Int.reduceToNat, tn_cast, md_x]
    rw [if_pos (by omega)] <;> first | rfl | trivial
  · exact k_99_47 hI q h hN
  · exact k_99_51 hI q h hN
  · exact k_99_55 hI q h hN
  · exact k_99_59 hI q h hN
theorem k_104 {L d : Nat} {xs : Nat → Int32} {B V : Nat → Nat → Int} {J : Nat → Nat → Int64} {tg : Option Nat} (hI : INV B) (q : Qy B V) {dr st : Nat} {dn land took : Int} (h8 : V 75 8 = dr) (h9 : V 75 9 = st) (h10 : V 75 10 = dn) (hd : dr < 12) (hst : st < 6) (hdn : 0 ≤ dn ∧ dn ≤ 1) (hl : -1 ≤ land ∧ land ≤ 5) (ht : -1 ≤ took ∧ took ≤ 11) (hN : N12 (V 78)) : ∃ W, (∀ c, c ≠ 45 → c ≠ 78 → W c = V c) ∧ (∀ k, k < 8 → W 78 k = V 78 k) ∧ N12 (W 78) ∧ Runs (GW L xs) (d + 2) 104 (0, [.ref 75, (Value.int (Int32.ofInt (land))), (Value.int (Int32.ofInt (took))), vU], [], zS (eV (V)) J tg) (some (Value.int (Int32.ofInt (hb B dr st dn (V 78) land took))), zS (eV (W)) J tg) := by
  have r : -1 ≤ B 18 1 ∧ B 18 1 ≤ 3 := hI.1 18 1 (by decide) (by decide)
  have r : B 18 1 = -1 ∨ B 18 1 = (0 : Nat) ∨ B 18 1 = (1 : Nat) ∨ B 18 1 = (2 : Nat) ∨ B 18 1 = (3 : Nat) := by omega
  rcases r with h | h | h | h | h
  · obtain ⟨z1, z2⟩ := q.g63 hI
    have hRV : RNG V := hI.1.fr fun c hc => q.1 c (by omega)
    have r6 : 0 ≤ V 6 dr ∧ V 6 dr ≤ 1 := hRV 6 dr (by decide) (by decide)
    have k3 := k_103 (L := L) (xs := xs) (J := J) (tg := tg) (d := d) hRV h8 h10 hdn hd hl ht
    have er : (lrn V dr land ∨ rt (V 5 dr) dn (V 6 dr) took) = (lrn B dr land ∨ rt (B 5 dr) dn (B 6 dr) took) := by unfold lrn rt; rw [q.1 12 (by omega), q.1 5 (by omega), q.1 6 (by omega)]
    unfold hb hmG
    rw [if_pos h]
    by_cases r : lrn V dr land ∨ rt (V 5 dr) dn (V 6 dr) took
    · refine ⟨V, fun _ _ _ => rfl, fun _ _ => rfl, hN, ?_⟩
      rw [if_pos (er.mp r)]
      apply sg_104g63
      refine ⟨_, _, k3, ?_⟩
      rw [if_neg (b0_f r)]
      rfl
    · rw [if_neg (fun hh => r (er.mpr hh))]
      have go : ∀ tur : Int, 0 ≤ tur ∧ tur ≤ 1 → (if dn = V 6 dr then (0 : Int) else 1) = tur → ∃ W, (∀ c, c ≠ 45 → c ≠ 78 → W c = V c) ∧ (∀ k, k < 8 → W 78 k = V 78 k) ∧ N12 (W 78) ∧ Runs (GW L xs) (d + 2) 104 (0, [.ref 75, (Value.int (Int32.ofInt (land))), (Value.int (Int32.ofInt (took))), vU], [], zS (eV (V)) J tg) (some (Value.int (Int32.ofInt (1))), zS (eV (W)) J tg) := by
        intro tur htu etu
        have hNX : N12 ((up2 (up2 (up2 (up2 V 78 8 took) 78 9 tur) 78 10 land) 78 11 (st : Int)) 78) := by rw [fch_up]; exact fch_n hN (by omega) (by omega) (by omega) (by omega)
        refine ⟨up2 (up2 (up2 (up2 V 78 8 took) 78 9 tur) 78 10 land) 78 11 st, fun c q1 q2 => by rw [w_ne _ _ _ _ q2, w_ne _ _ _ _ q2, w_ne _ _ _ _ q2, w_ne _ _ _ _ q2], fun k hk => ?_, hNX, ?_⟩
        · rw [fch_up]
          unfold fch
          rw [if_neg (by omega), if_neg (by omega), if_neg (by omega), if_neg (by omega)]
        · have leaf : ∃ I15 : Nat → Nat → Int32, Runs (GW L xs) (d + 1) 91 (0, [.ref 75], [], zS (eV (up2 (up2 (up2 (up2 V 78 8 took) 78 9 tur) 78 10 land) 78 11 st)) J tg) (some (.ref 63), zS I15 J tg) ∧ ∃ (v16 : Int32) (I17 : Nat → Nat → Int32), Runs (GW L xs) (d + 1) 28 (0, [.ref 63], [], zS I15 J tg) (some (.int v16), zS I17 J tg) ∧ (if v16 = 0 then ((some (Value.int (Int32.ofInt (1))), zS (eV (up2 (up2 (up2 (up2 V 78 8 took) 78 9 tur) 78 10 land) 78 11 st)) J tg) : Option Value × SS) = (some (.int 1), zS I17 J tg) else ∃ (v18 : Int32) (I19 : Nat → Nat → Int32), Runs (GW L xs) (d + 1) 29 (0, [.ref 63, .int (I17 63 6), .ref 78, vU, vU, vU, vU, vU], [], zS I17 J tg) (some (.int v18), zS I19 J tg) ∧ ((some (Value.int (Int32.ofInt (1))), zS (eV (up2 (up2 (up2 (up2 V 78 8 took) 78 9 tur) 78 10 land) 78 11 st)) J tg) : Option Value × SS) = (some (.int (if 0 < v18 then v18 else 0)), zS I19 J tg)) := by
            refine ⟨_, k_91_63 (by rw [w_nc _ _ _ _ (by decide), w_nc _ _ _ _ (by decide), w_nc _ _ _ _ (by decide), w_nc _ _ _ _ (by decide), q.1 18 (by omega)]; exact h), Int32.ofInt 0, _, sg_28g63 _ _ _ (r := (some (Value.int (Int32.ofInt (0))), zS (eV (up2 (up2 (up2 (up2 V 78 8 took) 78 9 tur) 78 10 land) 78 11 st)) J tg)) ?_, ?_⟩
            · rw [eV_at, w_nc _ _ _ _ (by decide), w_nc _ _ _ _ (by decide), w_nc _ _ _ _ (by decide), w_nc _ _ _ _ (by decide), z2, if_pos (by decide)] <;> first | rfl | trivial
            · rw [if_pos (by decide)] <;> first | rfl | trivial
          apply sg_104g63
          refine ⟨_, _, k3, ?_⟩
          rw [if_pos (b0_t r)]
          simp (disch := omega) only [h8, h9, h10, eV_at, eV_up, o_lit2, o_add, o_sub, o_mul, o_neg, o_div, o_nat, ix_t, o_lt, o_le, o_eq, o_bi0, o_bi1, o_bib, em_t, o_neg1, o_shl, o_tb, o_tb0, o_tt, o_and, o_xor, o_or, o_max, o_min, an_tb, and_true, true_and, not_true, not_false, if_true, if_false, tn_add, tn_mul, Int.reduceToNat, tn_cast, md_x]
          by_cases t : dn = V 6 dr
          · rw [if_pos t] at etu ⊢
            subst etu
            exact leaf
          · rw [if_neg t] at etu ⊢
            subst etu
            exact leaf
      by_cases t : dn = V 6 dr
      · exact go 0 (by omega) (if_pos t)
      · exact go 1 (by omega) (if_neg t)
  · exact k_104_47 hI q h h8 h9 h10 hd hst hdn hl ht hN
  · exact k_104_51 hI q h h8 h9 h10 hd hst hdn hl ht hN
  · exact k_104_55 hI q h h8 h9 h10 hd hst hdn hl ht hN
  · exact k_104_59 hI q h h8 h9 h10 hd hst hdn hl ht hN
