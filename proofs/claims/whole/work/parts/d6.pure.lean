/-! The reference's loops over a token. -/
section LR
variable {L d : Nat} {xs : Nat → Int32} {V : Nat → Nat → Int} {J : Nat → Nat → Int64} {tg : Option Nat} {b : Nat → Int} {N : Nat}
theorem TPR.up {W : Nat → Nat → Int} (h : TPR V b N) (e : W 93 7 = V 93 7) (e2 : W 100 = V 100) : TPR W b N := ⟨by rw [e]; exact h.1, h.2.1, fun k hk => by rw [e2]; exact h.2.2 k hk⟩
theorem isD_n : isD (-1) = false := by decide
theorem isL_n : isL (-1) = false := by decide
theorem isW_n : isW (-1) = false := by decide
/-- a number -/
theorem m_213n (hT : TPR V b N) {f : Nat} (hf : f ≤ N) (h13 : V 93 13 = f) (h16 : V 93 16 = 0) {x1 : Int32} : ∃ W : Nat → Nat → Int, (∀ c, c ≠ 93 → W c = V c) ∧ (∀ p, p ≠ 13 → p ≠ 16 → W 93 p = V 93 p) ∧ W 93 13 = (en isD b N f : Nat) ∧ W 93 16 = nmr b f (en isD b N f - f) ∧ Runs (GW L xs) (d + 2) 213 (85, [.ref 93, .int x1, vU], [], zS (eV V) J tg) (none, zS (eV W) J tg) := by
  obtain ⟨t1, t2, t3⟩ := id hT
  obtain ⟨e1, e2, e3, e4⟩ := en_ch (f := isD) (b := b) hf
  generalize en isD b N f = t at e1 e2 e3 e4
  obtain ⟨W, ⟨-, i1, i2, i3, i4⟩, hr⟩ := loopN (g := GW L xs) (d := d + 2) (mid := 213) (σ := Nat → Nat → Int) (fun _ W => (85, [.ref 93, .int x1, vU], [], zS (eV W) J tg)) (fun i W => f ≤ i ∧ (∀ c, c ≠ 93 → W c = V c) ∧ (∀ p, p ≠ 13 → p ≠ 16 → W 93 p = V 93 p) ∧ W 93 13 = (i : Int) ∧ W 93 16 = nmr b f (i - f)) t (by
    intro i W hi ⟨i0, i1, i2, i3, i4⟩
    have hTW : TPR W b N := hT.up (i2 7 (by decide) (by decide)) (i1 100 (by decide))
    have k0 := m_210 (L := L) (xs := xs) (J := J) (tg := tg) (d := d + 1) hTW (p := i) (by omega)
    have hg : gby b N i = b i := by unfold gby; rw [if_neg (by omega)]
    have hD := e3 i i0 hi
    have hb := (t3 i (by omega)).2
    have k2 := m_212 (L := L) (xs := xs) (V := W) (J := J) (tg := tg) (d := d) (a := b i) (by omega)
    rw [hg] at k0
    obtain ⟨n1, n2, n3, n4⟩ := nmr_ch (b := b) (p := f) (i - f) (fun j h1 h2 => e3 j h1 (by omega))
    have hs : nmr b f (i + 1 - f) = if 100000 ≤ nmr b f (i - f) then nmr b f (i - f) else 10 * nmr b f (i - f) + b i - 48 := by
      have : i + 1 - f = (i - f) + 1 := by omega
      rw [this]
      show (if 100000 ≤ nmr b f (i - f) then nmr b f (i - f) else 10 * nmr b f (i - f) + b (f + (i - f)) - 48) = _
      rw [show f + (i - f) = i by omega]
    generalize nmr b f (i - f) = m at *
    have start : ∀ r, (if 100000 ≤ m then Runs (GW L xs) (d + 2) 213 (131, [.ref 93, .int x1, vU], [], zS (eV W) J tg) r else Runs (GW L xs) (d + 2) 213 (131, [.ref 93, .int x1, vU], [], zS (eV (up2 W 93 16 (10 * m + b i - 48))) J tg) r) → Runs (GW L xs) (d + 2) 213 (85, [.ref 93, .int x1, vU], [], zS (eV W) J tg) r := fun r h => by
      apply sg_213_85
      simp (disch := omega) only [i3, eV_at, eV_up, o_lit2, o_add, o_sub, o_mul, o_neg, o_div, o_nat, ix_t, o_lt, o_le, o_eq, o_bi0, o_bi1, o_bib, em_t, o_neg1, o_shl, o_tb, o_tb0, o_tt, o_and, o_xor, o_or, o_max, o_min, an_tb, and_true, true_and, not_true, not_false, if_true, if_false, tn_add, tn_mul, Int.reduceToNat, tn_cast, md_x]
      refine ⟨_, _, _, k0, _, _, _, k2, ?_⟩
      rw [if_neg (b0o_f hD)]
      simp (disch := omega) only [i3, i4, eV_at, eV_up, o_lit2, o_add, o_sub, o_mul, o_neg, o_div, o_nat, ix_t, o_lt, o_le, o_eq, o_bi0, o_bi1, o_bib, em_t, o_neg1, o_shl, o_tb, o_tb0, o_tt, o_and, o_xor, o_or, o_max, o_min, an_tb, and_true, true_and, not_true, not_false, if_true, if_false, tn_add, tn_mul, Int.reduceToNat, tn_cast, md_x]
      by_cases c : 100000 ≤ m
      · rw [if_pos c] at h ⊢; exact h
      · rw [if_neg c] at h ⊢
        refine ⟨_, _, _, k0, ?_⟩
        simp (disch := omega) only [eV_at, eV_up, o_lit2, o_add, o_sub, o_mul, o_neg, o_div, o_nat, ix_t, o_lt, o_le, o_eq, o_bi0, o_bi1, o_bib, em_t, o_neg1, o_shl, o_tb, o_tb0, o_tt, o_and, o_xor, o_or, o_max, o_min, an_tb, and_true, true_and, not_true, not_false, if_true, if_false, tn_add, tn_mul, Int.reduceToNat, tn_cast, md_x]
        exact h
    by_cases c : 100000 ≤ m
    · rw [if_pos c] at hs
      refine ⟨up2 W 93 13 (i + 1 : Int), ⟨by omega, fun c hc => by rw [w_ne _ _ _ _ hc]; exact i1 c hc, fun p h1 h2 => by rw [w_at, if_neg h1]; exact i2 p h1 h2, by rw [w_eq]; rfl, by rw [w_at, if_neg (by decide), hs]; exact i4⟩, fun r hr => start _ ?_⟩
      rw [if_pos c]
      apply sg_213_131
      simp (disch := omega) only [i3, eV_at, eV_up, o_lit2, o_add, o_sub, o_mul, o_neg, o_div, o_nat, ix_t, o_lt, o_le, o_eq, o_bi0, o_bi1, o_bib, em_t, o_neg1, o_shl, o_tb, o_tb0, o_tt, o_and, o_xor, o_or, o_max, o_min, an_tb, and_true, true_and, not_true, not_false, if_true, if_false, tn_add, tn_mul, Int.reduceToNat, tn_cast, md_x]
      exact hr
    · rw [if_neg c] at hs
      have w13 : (up2 W 93 16 (10 * m + b i - 48)) 93 13 = (i : Int) := by rw [w_at, if_neg (by decide)]; exact i3
      refine ⟨up2 (up2 W 93 16 (10 * m + b i - 48)) 93 13 (i + 1 : Int), ⟨by omega, fun c hc => by rw [w_ne _ _ _ _ hc, w_ne _ _ _ _ hc]; exact i1 c hc, fun p h1 h2 => by rw [w_at, if_neg h1, w_at, if_neg h2]; exact i2 p h1 h2, by rw [w_eq]; rfl, by rw [w_at, if_neg (by decide), w_eq, hs]⟩, fun r hr => start _ ?_⟩
      rw [if_neg c]
      apply sg_213_131
      simp (disch := omega) only [w13, eV_at, eV_up, o_lit2, o_add, o_sub, o_mul, o_neg, o_div, o_nat, ix_t, o_lt, o_le, o_eq, o_bi0, o_bi1, o_bib, em_t, o_neg1, o_shl, o_tb, o_tb0, o_tt, o_and, o_xor, o_or, o_max, o_min, an_tb, and_true, true_and, not_true, not_false, if_true, if_false, tn_add, tn_mul, Int.reduceToNat, tn_cast, md_x]
      exact hr) (t - f) f V (by omega) ⟨Nat.le_refl _, fun _ _ => rfl, fun _ _ _ => rfl, h13, by rw [h16, Nat.sub_self]; rfl⟩
  have hTW : TPR W b N := hT.up (i2 7 (by decide) (by decide)) (i1 100 (by decide))
  have k0 := m_210 (L := L) (xs := xs) (J := J) (tg := tg) (d := d + 1) hTW (p := t) (by omega)
  have hgr := gby_rg (p := t) hTW
  have k2 := m_212 (L := L) (xs := xs) (V := W) (J := J) (tg := tg) (d := d) (a := gby b N t) hgr
  refine ⟨W, i1, i2, i3, i4, hr _ ?_⟩
  apply sg_213_85
  simp (disch := omega) only [i3, eV_at, eV_up, o_lit2, o_add, o_sub, o_mul, o_neg, o_div, o_nat, ix_t, o_lt, o_le, o_eq, o_bi0, o_bi1, o_bib, em_t, o_neg1, o_shl, o_tb, o_tb0, o_tt, o_and, o_xor, o_or, o_max, o_min, an_tb, and_true, true_and, not_true, not_false, if_true, if_false, tn_add, tn_mul, Int.reduceToNat, tn_cast, md_x]
  refine ⟨_, _, _, k0, _, _, _, k2, ?_⟩
  rw [if_pos (b0o_t (fun h => e4 ((gby_t isD_n).mp h)))] <;> first | rfl | trivial
end LR
