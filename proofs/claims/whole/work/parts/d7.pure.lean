/-! A word in the reference. -/
section LR
variable {L d : Nat} {xs : Nat → Int32} {V : Nat → Nat → Int} {J : Nat → Nat → Int64} {tg : Option Nat} {b : Nat → Int} {N : Nat}
/-- its letters packed; none if they are too many -/
def wpk (b : Nat → Int) (f t : Nat) : Int64 := if t - f ≤ 7 then Int64.ofNat (pkN b f (t - f)) else 0
theorem m_213w (hT : TPR V b N) {f : Nat} (hf : f ≤ N) (h13 : V 93 13 = f) (h14 : V 93 14 = f) (hJ : J 93 17 = 0) {x1 : Int32} : ∃ (W : Nat → Nat → Int) (J2 : Nat → Nat → Int64), (∀ c, c ≠ 93 → W c = V c) ∧ (∀ p, p ≠ 13 → W 93 p = V 93 p) ∧ W 93 13 = (en isL b N f : Nat) ∧ J2 93 17 = wpk b f (en isL b N f) ∧ Runs (GW L xs) (d + 2) 213 (161, [.ref 93, .int x1, vU], [], zS (eV V) J tg) (none, zS (eV W) J2 tg) := by
  obtain ⟨t1, t2, t3⟩ := id hT
  obtain ⟨e1, e2, e3, e4⟩ := en_ch (f := isL) (b := b) hf
  generalize en isL b N f = t at e1 e2 e3 e4
  obtain ⟨⟨W, J'⟩, ⟨-, i1, i2, i3, i4⟩, hr⟩ := loopN (g := GW L xs) (d := d + 2) (mid := 213) (σ := (Nat → Nat → Int) × (Nat → Nat → Int64)) (fun _ z => (161, [.ref 93, .int x1, vU], [], zS (eV z.1) z.2 tg)) (fun i z => f ≤ i ∧ (∀ c, c ≠ 93 → z.1 c = V c) ∧ (∀ p, p ≠ 13 → z.1 93 p = V 93 p) ∧ z.1 93 13 = (i : Int) ∧ (i - f ≤ 7 → z.2 93 17 = Int64.ofNat (pkN b f (i - f)))) t (by
    intro i ⟨W, J'⟩ hi ⟨i0, i1, i2, i3, i4⟩
    dsimp only at i1 i2 i3 i4
    have hTW : TPR W b N := hT.up (i2 7 (by decide)) (i1 100 (by decide))
    have k0 := fun Q => m_210 (L := L) (xs := xs) (J := Q) (tg := tg) (d := d + 1) hTW (p := i) (by omega)
    have hg : gby b N i = b i := by unfold gby; rw [if_neg (by omega)]
    have hL := e3 i i0 hi
    have hb := (t3 i (by omega)).2
    have k2 := m_211 (L := L) (xs := xs) (V := W) (J := J') (tg := tg) (d := d) (a := b i) (by omega)
    rw [hg] at k0
    have w14 : W 93 14 = f := by rw [i2 14 (by decide)]; exact h14
    have keep : (∀ c, c ≠ 93 → (up2 W 93 13 (i + 1 : Int)) c = V c) ∧ (∀ p, p ≠ 13 → (up2 W 93 13 (i + 1 : Int)) 93 p = V 93 p) ∧ (up2 W 93 13 (i + 1 : Int)) 93 13 = ((i + 1 : Nat) : Int) := ⟨fun c hc => by rw [w_ne _ _ _ _ hc]; exact i1 c hc, fun p hp => by rw [w_at, if_neg hp]; exact i2 p hp, by rw [w_eq]; rfl⟩
    by_cases c : 7 ≤ i - f
    · refine ⟨(up2 W 93 13 (i + 1 : Int), J'), ⟨by omega, keep.1, keep.2.1, keep.2.2, fun h => by omega⟩, fun r hr => ?_⟩
      dsimp only at hr ⊢
      apply sg_213_161
      simp (disch := omega) only [i3, eV_at, eV_up, o_lit2, o_add, o_sub, o_mul, o_neg, o_div, o_nat, ix_t, o_lt, o_le, o_eq, o_bi0, o_bi1, o_bib, em_t, o_neg1, o_shl, o_tb, o_tb0, o_tt, o_and, o_xor, o_or, o_max, o_min, an_tb, and_true, true_and, not_true, not_false, if_true, if_false, tn_add, tn_mul, Int.reduceToNat, tn_cast, md_x]
      refine ⟨_, _, _, k0 _, _, _, _, k2, ?_⟩
      rw [if_neg (b0o_f hL)]
      simp (disch := omega) only [i3, w14, eV_at, eV_up, o_lit2, o_add, o_sub, o_mul, o_neg, o_div, o_nat, ix_t, o_lt, o_le, o_eq, o_bi0, o_bi1, o_bib, em_t, o_neg1, o_shl, o_tb, o_tb0, o_tt, o_and, o_xor, o_or, o_max, o_min, an_tb, and_true, true_and, not_true, not_false, if_true, if_false, tn_add, tn_mul, Int.reduceToNat, tn_cast, md_x]
      rw [if_pos (by omega)]
      apply sg_213_210
      simp (disch := omega) only [i3, eV_at, eV_up, o_lit2, o_add, o_sub, o_mul, o_neg, o_div, o_nat, ix_t, o_lt, o_le, o_eq, o_bi0, o_bi1, o_bib, em_t, o_neg1, o_shl, o_tb, o_tb0, o_tt, o_and, o_xor, o_or, o_max, o_min, an_tb, and_true, true_and, not_true, not_false, if_true, if_false, tn_add, tn_mul, Int.reduceToNat, tn_cast, md_x]
      exact hr
    · have hj := i4 (by omega)
      have hp : pkN b f (i + 1 - f) = pkN b f (i - f) * 256 + (b i).toNat := by
        have : i + 1 - f = (i - f) + 1 := by omega
        rw [this, pkN_s, show f + (i - f) = i by omega]
      have h64 : Int32.toInt64 (Int32.ofInt (b i)) = Int64.ofNat (b i).toNat := by
        rw [l_64 (by omega)]
        have : b i = (((b i).toNat : Nat) : Int) := by omega
        rw [this, tn_cast]
        rfl
      refine ⟨(up2 W 93 13 (i + 1 : Int), up2 J' 93 17 (Int64.ofNat (pkN b f (i + 1 - f)))), ⟨by omega, keep.1, keep.2.1, keep.2.2, fun _ => by dsimp only; rw [w_eq]⟩, fun r hr => ?_⟩
      dsimp only at hr ⊢
      rw [hp, ← pk_st (by omega : (b i).toNat < 256), ← hj, ← h64] at hr
      apply sg_213_161
      simp (disch := omega) only [i3, eV_at, eV_up, o_lit2, o_add, o_sub, o_mul, o_neg, o_div, o_nat, ix_t, o_lt, o_le, o_eq, o_bi0, o_bi1, o_bib, em_t, o_neg1, o_shl, o_tb, o_tb0, o_tt, o_and, o_xor, o_or, o_max, o_min, an_tb, and_true, true_and, not_true, not_false, if_true, if_false, tn_add, tn_mul, Int.reduceToNat, tn_cast, md_x]
      refine ⟨_, _, _, k0 _, _, _, _, k2, ?_⟩
      rw [if_neg (b0o_f hL)]
      simp (disch := omega) only [i3, w14, eV_at, eV_up, o_lit2, o_add, o_sub, o_mul, o_neg, o_div, o_nat, ix_t, o_lt, o_le, o_eq, o_bi0, o_bi1, o_bib, em_t, o_neg1, o_shl, o_tb, o_tb0, o_tt, o_and, o_xor, o_or, o_max, o_min, an_tb, and_true, true_and, not_true, not_false, if_true, if_false, tn_add, tn_mul, Int.reduceToNat, tn_cast, md_x]
      rw [if_neg (by omega)]
      refine ⟨_, _, _, k0 _, ?_⟩
      apply sg_213_210
      simp (disch := omega) only [i3, eV_at, eV_up, o_lit2, o_add, o_sub, o_mul, o_neg, o_div, o_nat, ix_t, o_lt, o_le, o_eq, o_bi0, o_bi1, o_bib, em_t, o_neg1, o_shl, o_tb, o_tb0, o_tt, o_and, o_xor, o_or, o_max, o_min, an_tb, and_true, true_and, not_true, not_false, if_true, if_false, tn_add, tn_mul, Int.reduceToNat, tn_cast, md_x]
      exact hr) (t - f) f (V, J) (by omega) ⟨Nat.le_refl _, fun _ _ => rfl, fun _ _ => rfl, h13, fun _ => by dsimp only; rw [hJ, Nat.sub_self]; rfl⟩
  dsimp only at i1 i2 i3 i4 hr
  have hTW : TPR W b N := hT.up (i2 7 (by decide)) (i1 100 (by decide))
  have k0 := m_210 (L := L) (xs := xs) (J := J') (tg := tg) (d := d + 1) hTW (p := t) (by omega)
  have hgr := gby_rg (p := t) hTW
  have k2 := m_211 (L := L) (xs := xs) (V := W) (J := J') (tg := tg) (d := d) (a := gby b N t) hgr
  have w14 : W 93 14 = f := by rw [i2 14 (by decide)]; exact h14
  by_cases c : t - f ≤ 7
  · refine ⟨W, J', i1, i2, i3, by rw [i4 c]; unfold wpk; rw [if_pos c], hr _ ?_⟩
    apply sg_213_161
    simp (disch := omega) only [i3, eV_at, eV_up, o_lit2, o_add, o_sub, o_mul, o_neg, o_div, o_nat, ix_t, o_lt, o_le, o_eq, o_bi0, o_bi1, o_bib, em_t, o_neg1, o_shl, o_tb, o_tb0, o_tt, o_and, o_xor, o_or, o_max, o_min, an_tb, and_true, true_and, not_true, not_false, if_true, if_false, tn_add, tn_mul, Int.reduceToNat, tn_cast, md_x]
    refine ⟨_, _, _, k0, _, _, _, k2, ?_⟩
    rw [if_pos (b0o_t (fun h => e4 ((gby_t isL_n).mp h)))]
    simp (disch := omega) only [i3, w14, eV_at, eV_up, o_lit2, o_add, o_sub, o_mul, o_neg, o_div, o_nat, ix_t, o_lt, o_le, o_eq, o_bi0, o_bi1, o_bib, em_t, o_neg1, o_shl, o_tb, o_tb0, o_tt, o_and, o_xor, o_or, o_max, o_min, an_tb, and_true, true_and, not_true, not_false, if_true, if_false, tn_add, tn_mul, Int.reduceToNat, tn_cast, md_x]
    rw [if_pos (by omega)] <;> first | rfl | trivial
  · refine ⟨W, up2 J' 93 17 0, i1, i2, i3, by rw [w_eq]; unfold wpk; rw [if_neg c], hr _ ?_⟩
    apply sg_213_161
    simp (disch := omega) only [i3, eV_at, eV_up, o_lit2, o_add, o_sub, o_mul, o_neg, o_div, o_nat, ix_t, o_lt, o_le, o_eq, o_bi0, o_bi1, o_bib, em_t, o_neg1, o_shl, o_tb, o_tb0, o_tt, o_and, o_xor, o_or, o_max, o_min, an_tb, and_true, true_and, not_true, not_false, if_true, if_false, tn_add, tn_mul, Int.reduceToNat, tn_cast, md_x]
    refine ⟨_, _, _, k0, _, _, _, k2, ?_⟩
    rw [if_pos (b0o_t (fun h => e4 ((gby_t isL_n).mp h)))]
    simp (disch := omega) only [i3, w14, eV_at, eV_up, o_lit2, o_add, o_sub, o_mul, o_neg, o_div, o_nat, ix_t, o_lt, o_le, o_eq, o_bi0, o_bi1, o_bib, em_t, o_neg1, o_shl, o_tb, o_tb0, o_tt, o_and, o_xor, o_or, o_max, o_min, an_tb, and_true, true_and, not_true, not_false, if_true, if_false, tn_add, tn_mul, Int.reduceToNat, tn_cast, md_x]
    rw [if_neg (by omega)] <;> first | rfl | trivial
end LR
