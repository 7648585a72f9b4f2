/-! The reference works a clause. -/
theorem o_neg2 : (-2 : Int32) = Int32.ofInt (-2) := rfl
theorem m_236 {L d : Nat} {xs : Nat → Int32} {V : Nat → Nat → Int} {J : Nat → Nat → Int64} {tg : Option Nat} {z : Int} (h : -1000000000000 ≤ z ∧ z ≤ 1000000000000) : Runs (GW L xs) (d) 236 (0, [.long (Int64.ofInt z), vU], [], zS (eV (V)) J tg) (some (.long (Int64.ofInt (hl z))), zS (eV (V)) J tg) := by
  apply sg_236
  rw [l_nm, show (1000000 : Int64) = Int64.ofInt 1000000 from rfl]
  simp (disch := omega) only [lg_le, lg_ge, l_le]
  unfold hl
  by_cases c1 : z ≤ 1000000
  · rw [if_pos c1]
    by_cases c2 : -1000000 ≤ z
    · rw [if_pos c2]; exact leafJ (by omega)
    · rw [if_neg c2]; exact leafJ (by omega)
  · rw [if_neg c1]; exact leafJ (by omega)
theorem m_237 {L d : Nat} {xs : Nat → Int32} {V : Nat → Nat → Int} {J : Nat → Nat → Int64} {tg : Option Nat} {o x y : Int} (ho : 3 ≤ o ∧ o ≤ 5) (hx : -1000000 ≤ x ∧ x ≤ 1000000) (hy : -1000000 ≤ y ∧ y ≤ 1000000) : Runs (GW L xs) (d + 1) 237 (0, [(Value.int (Int32.ofInt (o))), .long (Int64.ofInt x), vU, .long (Int64.ofInt y), vU], [], zS (eV (V)) J tg) (some (.long (Int64.ofInt (jn o x y))), zS (eV (V)) J tg) := by
  have hm := mul_b hx hy
  apply sg_237
  have ho' : o = 3 ∨ o = 4 ∨ o = 5 := by omega
  rcases ho' with rfl | rfl | rfl
  · rw [if_pos (by decide), l_add]
    exact ⟨_, _, _, m_236 (by omega), rfl⟩
  · rw [if_neg (by decide), if_pos (by decide), l_sub]
    exact ⟨_, _, _, m_236 (by omega), rfl⟩
  · rw [if_neg (by decide), if_neg (by decide), l_mul]
    exact ⟨_, _, _, m_236 hm, rfl⟩
theorem m_238 {L d : Nat} {xs : Nat → Int32} {V : Nat → Nat → Int} {J : Nat → Nat → Int64} {tg : Option Nat} {o x y : Int} (ho : 10 ≤ o ∧ o ≤ 15) (hx : -1000000 ≤ x ∧ x ≤ 1000000) (hy : -1000000 ≤ y ∧ y ≤ 1000000) : Runs (GW L xs) (d) 238 (0, [(Value.int (Int32.ofInt (o))), .long (Int64.ofInt x), vU, .long (Int64.ofInt y), vU], [], zS (eV (V)) J tg) (some (Value.int (Int32.ofInt (jn o x y))), zS (eV (V)) J tg) := by
  apply sg_238
  have ho' : o = 10 ∨ o = 11 ∨ o = 12 ∨ o = 13 ∨ o = 14 ∨ o = 15 := by omega
  rcases ho' with rfl | rfl | rfl | rfl | rfl | rfl
  · rw [if_pos (by decide)]
    simp (disch := omega) only [lg_ge, l_le]
    split
    · exact leafI (bi_f (by omega)).symm
    · exact leafI (bi_t (by omega)).symm
  · rw [if_neg (by decide), if_pos (by decide)]
    simp (disch := omega) only [lg_gt, l_lt]
    split
    · exact leafI (bi_f (by omega)).symm
    · exact leafI (bi_t (by omega)).symm
  · rw [if_neg (by decide), if_neg (by decide), if_pos (by decide)]
    simp (disch := omega) only [lg_le, l_le]
    split
    · exact leafI (bi_f (by omega)).symm
    · exact leafI (bi_t (by omega)).symm
  · rw [if_neg (by decide), if_neg (by decide), if_neg (by decide), if_pos (by decide)]
    simp (disch := omega) only [lg_lt, l_lt]
    split
    · exact leafI (bi_f (by omega)).symm
    · exact leafI (bi_t (by omega)).symm
  · rw [if_neg (by decide), if_neg (by decide), if_neg (by decide), if_neg (by decide), if_pos (by decide)]
    simp (disch := omega) only [lg_e, l_eq]
    split
    · exact leafI (bi_t (by omega)).symm
    · exact leafI (bi_f (by omega)).symm
  · rw [if_neg (by decide), if_neg (by decide), if_neg (by decide), if_neg (by decide), if_neg (by decide)]
    simp (disch := omega) only [lg_e, l_eq]
    split
    · exact leafI (bi_f (by omega)).symm
    · exact leafI (bi_t (by omega)).symm
def tv (f : Nat → Int) (n : Nat) : Nat × Nat := (tyO f n).getD (0, 0)
theorem tv_of {f : Nat → Int} {n : Nat} {q : Nat × Nat} (h : tyO f n = some q) : tv f n = q := by unfold tv; rw [h]; rfl
theorem m_239 {L d : Nat} {xs : Nat → Int32} {V : Nat → Nat → Int} {J : Nat → Nat → Int64} {tg : Option Nat} {k st ln : Nat} {f g : Nat → Int} {t v : Nat} (hk : k < 4) (hln : st + ln ≤ 300) (hv : ∀ j, j < ln → vop (f j) (g j)) (hf : ∀ j, j < ln → V 96 (800 * k + 50 + 2 * (st + j)) = f j) (hg : ∀ j, j < ln → V 96 (800 * k + 50 + 2 * (st + j) + 1) = g j) {N : Nat → Int} (hN : N12 N) (hNm : ∀ j, j < ln → f j = 1 → V 103 (g j).toNat = N (g j).toNat) (ht : tyO f ln = some (t, v)) : ∃ W J2, (∀ c, c ≠ 105 → W c = V c) ∧ (∀ i, i < t → W 105 i = (evs f g N ln).1 i) ∧ (∀ i, i < v → J2 104 i = Int64.ofInt ((evs f g N ln).1 (t + i))) ∧ Runs (GW L xs) (d + 2) 239 (0, [.ref 93, (Value.int (Int32.ofInt (k))), (Value.int (Int32.ofInt (st))), (Value.int (Int32.ofInt ((st + ln : Nat)))), vU, vU, vU, vU, vU, vU], [], zS (eV (V)) (J) tg) (none, zS (eV (W)) (J2) tg) := by
  obtain ⟨⟨W, J2⟩, ⟨i1, i2, i3⟩, hr⟩ := loopN (g := GW L xs) (d := d + 2) (mid := 239) (σ := (Nat → Nat → Int) × (Nat → Nat → Int64)) (fun n σ => (19, [.ref 93, (Value.int (Int32.ofInt (k))), (Value.int (Int32.ofInt (st))), (Value.int (Int32.ofInt ((st + ln : Nat)))), (Value.int (Int32.ofInt ((800 * k + 50 : Nat)))), (Value.int (Int32.ofInt (((tv f n).2 : Nat)))), (Value.int (Int32.ofInt (((tv f n).1 : Nat)))), (Value.int (Int32.ofInt ((st + n : Nat)))), vU, vU], [], zS (eV σ.1) σ.2 tg)) (fun n σ => (∀ c, c ≠ 105 → σ.1 c = V c) ∧ (∀ i, i < (tv f n).1 → σ.1 105 i = (evs f g N n).1 i) ∧ (∀ i, i < (tv f n).2 → σ.2 104 i = Int64.ofInt ((evs f g N n).1 ((tv f n).1 + i)))) ln (by
    intro n ⟨W, J⟩ hn ⟨i1, i2, i3⟩
    dsimp only at i1 i2 i3 ⊢
    obtain ⟨⟨t1, v1⟩, h1⟩ := ty_pre ht (ln - (n + 1)) (n + 1) (by omega)
    obtain ⟨t0, v0, h0, hcs⟩ := ty_in h1
    obtain ⟨e1, e2, e3, e4⟩ := evs_ok hN (fun j hj => hv j (by omega)) h0
    have hvn := hv n hn
    have hfn : W 96 (800 * k + 50 + 2 * (st + n)) = f n := by rw [i1 96 (by decide)]; exact hf n hn
    have hgn : W 96 (800 * k + 50 + 2 * (st + n) + 1) = g n := by rw [i1 96 (by decide)]; exact hg n hn
    have h103 : W 103 = V 103 := i1 103 (by decide)
    have ex : ((800 * k + 50 : Nat) : Int) + 2 * ((st + n : Nat) : Int) = ((800 * k + 50 + 2 * (st + n) : Nat) : Int) := by omega
    have ex1 : ((800 * k + 50 + 2 * (st + n) : Nat) : Int) + 1 = ((800 * k + 50 + 2 * (st + n) + 1 : Nat) : Int) := by omega
    unfold vop at hvn
    rw [tv_of h0] at i2 i3 ⊢
    rw [tv_of h1]
    have hsp := @evs_p f g N n
    have hsn := @evs_n f g N n
    have hsj := @evs_j f g N n
    generalize evs f g N n = q at e1 e3 e4 i2 i3 hsp hsn hsj ⊢
    obtain ⟨s, p⟩ := q
    dsimp only at e1 e3 e4 i2 i3 hsp hsn hsj ⊢
    subst e1
    rcases hcs with ⟨d1, e⟩ | ⟨d1, d2, e⟩ | ⟨d1, d2, d3, e⟩ | ⟨d1, d2, d3, e⟩ | ⟨d1, d2, d3, e⟩ <;> obtain ⟨rfl, rfl⟩ := Prod.mk.inj e
    · rw [hsp d1]
      dsimp only
      by_cases d0 : f n = 0
      · rw [if_pos d0]
        refine ⟨(W, up2 J 104 v0 (Int64.ofInt (g n))), ⟨i1, fun i hi => ?_, fun i hi => ?_⟩, fun r hr => ?_⟩
        · dsimp only; rw [updZ_at, if_neg (by omega)]; exact i2 i hi
        · dsimp only; rw [w_at, updZ_at]
          by_cases c : i = v0
          · rw [if_pos c, if_pos (by omega)]
          · rw [if_neg c, if_neg (by omega)]; exact i3 i (by omega)
        · apply sg_239_19
          rw [d0] at hfn
          simp (maxSteps := 2000000) (disch := omega) only [ex, ex1, hfn, hgn, l_64, eV_at, eV_up, o_lit2, o_add, o_sub, o_mul, o_neg, o_div, o_nat, ix_t, o_lt, o_le, o_eq, o_bi0, o_bi1, o_bib, em_t, o_neg1, o_shl, o_tb, o_tb0, o_tt, o_and, o_xor, o_or, o_max, o_min, an_tb, and_true, true_and, not_true, not_false, if_true, if_false, tn_add, tn_mul, Int.reduceToNat, tn_cast, md_x]
          rw [if_neg (by omega), if_neg (by omega)]
          exact hr
      · have hg1 : f n = 1 ∧ 0 ≤ g n ∧ g n ≤ 11 := by omega
        have hNg := hN (g n).toNat (by omega)
        have hNn := hNm n hn hg1.1
        rw [if_neg d0]
        refine ⟨(W, up2 J 104 v0 (Int64.ofInt (N (g n).toNat))), ⟨i1, fun i hi => ?_, fun i hi => ?_⟩, fun r hr => ?_⟩
        · dsimp only; rw [updZ_at, if_neg (by omega)]; exact i2 i hi
        · dsimp only; rw [w_at, updZ_at]
          by_cases c : i = v0
          · rw [if_pos c, if_pos (by omega)]
          · rw [if_neg c, if_neg (by omega)]; exact i3 i (by omega)
        · apply sg_239_19
          rw [hg1.1] at hfn
          simp (maxSteps := 2000000) (disch := omega) only [ex, ex1, hfn, hgn, h103, hNn, l_64, eV_at, eV_up, o_lit2, o_add, o_sub, o_mul, o_neg, o_div, o_nat, ix_t, o_lt, o_le, o_eq, o_bi0, o_bi1, o_bib, em_t, o_neg1, o_shl, o_tb, o_tb0, o_tt, o_and, o_xor, o_or, o_max, o_min, an_tb, and_true, true_and, not_true, not_false, if_true, if_false, tn_add, tn_mul, Int.reduceToNat, tn_cast, md_x]
          rw [if_neg (by omega), if_neg (by omega), if_neg (by omega)]
          exact hr
    · rw [hsn d1]
      dsimp only
      obtain ⟨v0, rfl⟩ : ∃ k' : Nat, v1 = k' + 1 := ⟨v1 - 1, by omega⟩
      have ek : ((v0 + 1 : Nat) : Int) - 1 = (v0 : Int) := by omega
      have es := i3 v0 (by omega)
      have ek1 : t1 + (v0 + 1) - 1 = t1 + v0 := by omega
      rw [ek1]
      refine ⟨(W, up2 J 104 v0 (Int64.ofInt (- s (t1 + v0)))), ⟨i1, fun i hi => ?_, fun i hi => ?_⟩, fun r hr => ?_⟩
      · dsimp only; rw [updZ_at, if_neg (by omega)]; exact i2 i hi
      · dsimp only; rw [w_at, updZ_at]
        by_cases c : i = v0
        · rw [if_pos c, if_pos (by omega)]
        · rw [if_neg c, if_neg (by omega)]; exact i3 i (by omega)
      · apply sg_239_19
        rw [d1] at hfn
        simp (maxSteps := 2000000) (disch := omega) only [ex, ex1, hfn, hgn, ek, es, l_neg, eV_at, eV_up, o_lit2, o_add, o_sub, o_mul, o_neg, o_div, o_nat, ix_t, o_lt, o_le, o_eq, o_bi0, o_bi1, o_bib, em_t, o_neg1, o_shl, o_tb, o_tb0, o_tt, o_and, o_xor, o_or, o_max, o_min, an_tb, and_true, true_and, not_true, not_false, if_true, if_false, tn_add, tn_mul, Int.reduceToNat, tn_cast, md_x]
        rw [if_neg (by omega), if_pos (by omega)]
        exact hr
    · rw [hsj d1]
      dsimp only
      obtain ⟨v0, rfl⟩ : ∃ k' : Nat, v0 = k' + 2 := ⟨v0 - 2, by omega⟩
      have es1 := i3 v0 (by omega)
      have es2 := i3 (v0 + 1) (by omega)
      have r1 := e4 (t1 + v0) (by omega) (by omega)
      have r2 := e4 (t1 + (v0 + 1)) (by omega) (by omega)
      have k2 := m_237 (L := L) (xs := xs) (J := J) (tg := tg) (d := d) (V := W) (o := f n) (x := s (t1 + v0)) (y := s (t1 + (v0 + 1))) (by omega) r1 r2
      have f1 : ((v0 + 2 : Nat) : Int) + -1 = ((v0 + 1 : Nat) : Int) := by omega
      have f2 : ((v0 + 1 : Nat) : Int) - 1 = (v0 : Int) := by omega
      have g1 : t1 + (v0 + 2) - 2 = t1 + v0 := by omega
      have g2 : t1 + (v0 + 2) - 1 = t1 + (v0 + 1) := by omega
      have g3 : v0 + 2 - 1 = v0 + 1 := by omega
      rw [g1, g2, g3]
      refine ⟨(W, up2 J 104 v0 (Int64.ofInt (jn (f n) (s (t1 + v0)) (s (t1 + (v0 + 1)))))), ⟨i1, fun i hi => ?_, fun i hi => ?_⟩, fun r hr => ?_⟩
      · dsimp only; rw [updZ_at, if_neg (by omega)]; exact i2 i hi
      · dsimp only; rw [w_at, updZ_at]
        by_cases c : i = v0
        · rw [if_pos c, if_pos (by omega)]
        · rw [if_neg c, if_neg (by omega)]; exact i3 i (by omega)
      · apply sg_239_19
        simp (maxSteps := 2000000) (disch := omega) only [ex, ex1, hfn, hgn, f1, f2, es1, es2, eV_at, eV_up, o_lit2, o_add, o_sub, o_mul, o_neg, o_div, o_nat, ix_t, o_lt, o_le, o_eq, o_bi0, o_bi1, o_bib, em_t, o_neg1, o_shl, o_tb, o_tb0, o_tt, o_and, o_xor, o_or, o_max, o_min, an_tb, and_true, true_and, not_true, not_false, if_true, if_false, tn_add, tn_mul, Int.reduceToNat, tn_cast, md_x]
        rw [if_neg (by omega), if_pos (by omega), if_neg (by omega), if_neg (by omega)]
        refine ⟨_, _, _, k2, ?_⟩
        exact hr
    · subst d3
      rw [hsj (by omega)]
      dsimp only
      have es1 := i3 0 (by omega)
      have es2 := i3 1 (by omega)
      have r1 := e4 (t0 + 0) (by omega) (by omega)
      have r2 := e4 (t0 + 1) (by omega) (by omega)
      have k2 := m_238 (L := L) (xs := xs) (J := J) (tg := tg) (d := d + 1) (V := W) (o := f n) (x := s (t0 + 0)) (y := s (t0 + 1)) (by omega) r1 r2
      have f1 : ((2 : Nat) : Int) + -2 = 0 := by omega
      have f2 : (0 : Int) + 1 = 1 := by omega
      have g1 : t0 + 2 - 2 = t0 := by omega
      have g2 : t0 + 2 - 1 = t0 + 1 := by omega
      have hj := jn_b (o := f n) (by omega) (s (t0 + 0)) (s (t0 + 1))
      rw [g1, g2]
      refine ⟨(up2 W 105 t0 (jn (f n) (s (t0 + 0)) (s (t0 + 1))), J), ⟨fun c q => by dsimp only; rw [w_ne _ _ _ _ q]; exact i1 c q, fun i hi => ?_, fun i hi => by omega⟩, fun r hr => ?_⟩
      · dsimp only; rw [w_at, updZ_at]
        by_cases c : i = t0
        · rw [if_pos c, if_pos c]; rfl
        · rw [if_neg c, if_neg c]; exact i2 i (by omega)
      · apply sg_239_19
        simp (maxSteps := 2000000) (disch := omega) only [ex, ex1, hfn, hgn, f1, f2, es1, es2, o_neg2, eV_at, eV_up, o_lit2, o_add, o_sub, o_mul, o_neg, o_div, o_nat, ix_t, o_lt, o_le, o_eq, o_bi0, o_bi1, o_bib, em_t, o_neg1, o_shl, o_tb, o_tb0, o_tt, o_and, o_xor, o_or, o_max, o_min, an_tb, and_true, true_and, not_true, not_false, if_true, if_false, tn_add, tn_mul, Int.reduceToNat, tn_cast, md_x]
        rw [if_neg (by omega), if_pos (by omega), if_neg (by omega), if_pos (by omega), if_neg (by omega)]
        refine ⟨_, _, _, k2, o_01 hj, ?_⟩
        rw [eV_up]
        exact hr
    · subst d3
      rw [hsj (by omega)]
      dsimp only
      obtain ⟨t0, rfl⟩ : ∃ k' : Nat, t0 = k' + 2 := ⟨t0 - 2, by omega⟩
      have es1 := i2 t0 (by omega)
      have es2 := i2 (t0 + 1) (by omega)
      have b1 := e3 t0 (by omega)
      have b2 := e3 (t0 + 1) (by omega)
      have f1 : ((t0 + 2 : Nat) : Int) + -1 = ((t0 + 1 : Nat) : Int) := by omega
      have f2 : ((t0 + 1 : Nat) : Int) - 1 = (t0 : Int) := by omega
      have g1 : t0 + 2 + 0 - 2 = t0 := by omega
      have g2 : t0 + 2 + 0 - 1 = t0 + 1 := by omega
      rw [g1, g2]
      refine ⟨(up2 W 105 t0 (jn (f n) (s t0) (s (t0 + 1))), J), ⟨fun c q => by dsimp only; rw [w_ne _ _ _ _ q]; exact i1 c q, fun i hi => ?_, fun i hi => by omega⟩, fun r hr => ?_⟩
      · dsimp only; rw [w_at, updZ_at]
        by_cases c : i = t0
        · rw [if_pos c, if_pos c]
        · rw [if_neg c, if_neg c]; exact i2 i (by omega)
      · apply sg_239_19
        simp (maxSteps := 2000000) (disch := omega) only [ex, ex1, hfn, hgn, f1, f2, es1, es2, eV_at, eV_up, o_lit2, o_add, o_sub, o_mul, o_neg, o_div, o_nat, ix_t, o_lt, o_le, o_eq, o_bi0, o_bi1, o_bib, em_t, o_neg1, o_shl, o_tb, o_tb0, o_tt, o_and, o_xor, o_or, o_max, o_min, an_tb, and_true, true_and, not_true, not_false, if_true, if_false, tn_add, tn_mul, Int.reduceToNat, tn_cast, md_x]
        rw [if_neg (by omega), if_pos (by omega), if_neg (by omega), if_pos (by omega), if_pos (by omega)]
        by_cases c21 : f n = 21
        · rw [if_pos c21]
          rw [c21] at hr
          rcases b1 with b1 | b1 <;> rcases b2 with b2 | b2 <;> rw [b1, b2] at hr ⊢
          · rw [if_pos rfl]; exact ⟨Or.inl trivial, hr⟩
          · rw [if_pos rfl]; exact ⟨Or.inl trivial, hr⟩
          · rw [if_neg (by omega), if_pos rfl]; exact ⟨Or.inl trivial, hr⟩
          · rw [if_neg (by omega), if_neg (by omega)]; exact ⟨Or.inr trivial, hr⟩
        · rw [if_neg c21]
          have c22 : f n = 22 := by omega
          rw [c22] at hr
          rcases b1 with b1 | b1 <;> rcases b2 with b2 | b2 <;> rw [b1, b2] at hr ⊢
          · rw [if_pos rfl, if_pos rfl]; exact ⟨Or.inl trivial, hr⟩
          · rw [if_pos rfl, if_neg (by omega)]; exact ⟨Or.inr trivial, hr⟩
          · rw [if_neg (by omega)]; exact ⟨Or.inr trivial, hr⟩
          · rw [if_neg (by omega)]; exact ⟨Or.inr trivial, hr⟩) ln 0 (V, J) (by omega) ⟨fun _ _ => rfl, fun i hi => by simp [tv, tyO] at hi, fun i hi => by simp [tv, tyO] at hi⟩
  dsimp only at i1 i2 i3 hr
  rw [tv_of ht] at i2 i3
  refine ⟨W, J2, i1, i2, i3, ?_⟩
  apply sg_239
  have e8 : (800 : Int) * (k : Int) + 50 = ((800 * k + 50 : Nat) : Int) := by omega
  simp (maxSteps := 2000000) (disch := omega) only [e8, eV_at, eV_up, o_lit2, o_add, o_sub, o_mul, o_neg, o_div, o_nat, ix_t, o_lt, o_le, o_eq, o_bi0, o_bi1, o_bib, em_t, o_neg1, o_shl, o_tb, o_tb0, o_tt, o_and, o_xor, o_or, o_max, o_min, an_tb, and_true, true_and, not_true, not_false, if_true, if_false, tn_add, tn_mul, Int.reduceToNat, tn_cast, md_x]
  refine hr _ ?_
  apply sg_239_19
  simp (maxSteps := 2000000) (disch := omega) only [eV_at, eV_up, o_lit2, o_add, o_sub, o_mul, o_neg, o_div, o_nat, ix_t, o_lt, o_le, o_eq, o_bi0, o_bi1, o_bib, em_t, o_neg1, o_shl, o_tb, o_tb0, o_tt, o_and, o_xor, o_or, o_max, o_min, an_tb, and_true, true_and, not_true, not_false, if_true, if_false, tn_add, tn_mul, Int.reduceToNat, tn_cast, md_x]
  rw [if_pos (by omega)] <;> first | rfl | trivial
