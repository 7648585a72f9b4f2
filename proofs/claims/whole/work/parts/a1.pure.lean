/-! The case mended. -/
def h296 (B : Nat → Nat → Int) (dr ot : Nat) (dd w : Int) (tg : Option Nat) (i : Nat) (σ : (Nat → Nat → Int) × (Nat → Nat → Int64)) : Cfg := if i % 14 = 0 then (47, [.ref 93, (Value.int (Int32.ofInt (dr))), (Value.int (Int32.ofInt (ot))), (Value.int (Int32.ofInt (dd))), (Value.int (Int32.ofInt (w))), (Value.int (Int32.ofInt ((i / 14 : Nat)))), vU, vU, vU], [], zS (eV σ.1) σ.2 tg) else (72, [.ref 93, (Value.int (Int32.ofInt (dr))), (Value.int (Int32.ofInt (ot))), (Value.int (Int32.ofInt (dd))), (Value.int (Int32.ofInt (w))), (Value.int (Int32.ofInt ((i / 14 : Nat)))), (Value.int (Int32.ofInt (lkc B dr (i / 14)))), (Value.int (Int32.ofInt ((i % 14 : Nat)))), vU], [], zS (eV σ.1) σ.2 tg)
section MD
variable {L d : Nat} {xs : Nat → Int32} {B V : Nat → Nat → Int} {tg : Option Nat}
theorem m_296h (hI : INV B) {dr ot : Nat} {dd w : Int} (hd : (dr : Int) < B 1 0) {i : Nat} (hi : (i / 14 : Nat) < B 3 dr) {W : Nat → Nat → Int} {J : Nat → Nat → Int64} (qW : Qy B W) : Rch (GW L xs) (d + 7) 296 (h296 B dr ot dd w tg i (W, J)) (72, [.ref 93, (Value.int (Int32.ofInt (dr))), (Value.int (Int32.ofInt (ot))), (Value.int (Int32.ofInt (dd))), (Value.int (Int32.ofInt (w))), (Value.int (Int32.ofInt ((i / 14 : Nat)))), (Value.int (Int32.ofInt (lkc B dr (i / 14)))), (Value.int (Int32.ofInt ((i % 14 : Nat)))), vU], [], zS (eV W) J tg) := by
  intro r hr
  have rD : 0 ≤ B 1 0 ∧ B 1 0 ≤ 12 := hI.1 1 0 (by decide) (by decide)
  have r3 : 0 ≤ B 3 dr ∧ B 3 dr ≤ 6 := hI.1 3 dr (by decide) (by decide)
  unfold h296
  by_cases c : i % 14 = 0
  · rw [if_pos c]
    rw [c] at hr
    obtain ⟨⟨-, -, c0, -, -, c4⟩, -, -⟩ := LKm_of hI qW hd
    have k0 := k_184 (L := L) (xs := xs) (J := J) (tg := tg) (d := d + 6) (V := W) (l := dr) (w := 0) (by omega)
    rw [c0] at k0
    have k1 := k_184 (L := L) (xs := xs) (J := J) (tg := tg) (d := d + 6) (V := W) (l := dr) (w := 4 + i / 14) (by omega)
    rw [(c4 (i / 14) (by omega)).1] at k1
    apply sg_296_47
    refine ⟨_, _, _, k0, ?_⟩
    simp (disch := omega) only [eV_at, eV_up, o_lit2, o_add, o_sub, o_mul, o_neg, o_div, o_nat, ix_t, o_lt, o_le, o_eq, o_bi0, o_bi1, o_bib, em_t, o_neg1, o_shl, o_tb, o_tb0, o_tt, o_and, o_xor, o_or, o_max, o_min, an_tb, and_true, true_and, not_true, not_false, if_true, if_false, tn_add, tn_mul, Int.reduceToNat, tn_cast, md_x]
    rw [if_neg (by omega)]
    exact ⟨_, _, _, k1, hr⟩
  · rw [if_neg c]; exact hr
theorem m_296n {dr ot : Nat} {dd w : Int} {i : Nat} {W : Nat → Nat → Int} {J : Nat → Nat → Int64} : Rch (GW L xs) (d + 7) 296 (72, [.ref 93, (Value.int (Int32.ofInt (dr))), (Value.int (Int32.ofInt (ot))), (Value.int (Int32.ofInt (dd))), (Value.int (Int32.ofInt (w))), (Value.int (Int32.ofInt ((i / 14 : Nat)))), (Value.int (Int32.ofInt (lkc B dr (i / 14)))), (Value.int (Int32.ofInt ((i % 14 + 1 : Nat)))), vU], [], zS (eV W) J tg) (h296 B dr ot dd w tg (i + 1) (W, J)) := by
  intro r hr
  unfold h296 at hr
  by_cases c : (i + 1) % 14 = 0
  · rw [if_pos c] at hr
    have e1 : i % 14 + 1 = 14 := by omega
    have e2 : (i + 1) / 14 = i / 14 + 1 := by omega
    rw [e2] at hr
    rw [e1]
    apply sg_296_72
    rw [if_pos (by decide)]
    simp (disch := omega) only [eV_at, eV_up, o_lit2, o_add, o_sub, o_mul, o_neg, o_div, o_nat, ix_t, o_lt, o_le, o_eq, o_bi0, o_bi1, o_bib, em_t, o_neg1, o_shl, o_tb, o_tb0, o_tt, o_and, o_xor, o_or, o_max, o_min, an_tb, and_true, true_and, not_true, not_false, if_true, if_false, tn_add, tn_mul, Int.reduceToNat, tn_cast, md_x]
    exact hr
  · rw [if_neg c] at hr
    have e1 : (i + 1) % 14 = i % 14 + 1 := by omega
    have e2 : (i + 1) / 14 = i / 14 := by omega
    rw [e1, e2] at hr
    exact hr
/-- from place 72 to 130, with the PART that comes instead -/
theorem m_296b (hI : INV B) {dr ot k c : Nat} {dd w : Int} (hc : c < 14) {W : Nat → Nat → Int} {J : Nat → Nat → Int64} : Rch (GW L xs) (d + 7) 296 (72, [.ref 93, (Value.int (Int32.ofInt (dr))), (Value.int (Int32.ofInt (ot))), (Value.int (Int32.ofInt (dd))), (Value.int (Int32.ofInt (w))), (Value.int (Int32.ofInt (k))), (Value.int (Int32.ofInt (lkc B dr k))), (Value.int (Int32.ofInt (c))), vU], [], zS (eV W) J tg) (130, [.ref 93, (Value.int (Int32.ofInt (dr))), (Value.int (Int32.ofInt (ot))), (Value.int (Int32.ofInt (dd))), (Value.int (Int32.ofInt (w))), (Value.int (Int32.ofInt (k))), (Value.int (Int32.ofInt (lkc B dr k))), (Value.int (Int32.ofInt (c))), vU], [(Value.int (Int32.ofInt (mby (lkc B dr k) c)))], zS (eV W) J tg) := by
  intro r hr
  have hkr := lkc_rg hI.1 dr k
  apply sg_296_72
  simp (disch := omega) only [eV_at, eV_up, o_lit2, o_add, o_sub, o_mul, o_neg, o_div, o_nat, ix_t, o_lt, o_le, o_eq, o_bi0, o_bi1, o_bib, em_t, o_neg1, o_shl, o_tb, o_tb0, o_tt, o_and, o_xor, o_or, o_max, o_min, an_tb, and_true, true_and, not_true, not_false, if_true, if_false, tn_add, tn_mul, Int.reduceToNat, tn_cast, md_x]
  rw [if_neg (by omega)]
  unfold mby at hr
  by_cases c9 : c < 9
  · rw [if_pos c9] at hr
    rw [if_neg (by omega)]
    exact hr
  · rw [if_neg c9] at hr
    rw [if_pos (by omega)]
    by_cases c13 : c < 13
    · rw [if_pos c13] at hr
      rw [if_neg (by omega)]
      exact hr
    · rw [if_neg c13] at hr
      rw [if_pos (by omega)]
      exact hr
theorem m_296 (hI : INV B) (q : Qy B V) {J : Nat → Nat → Int64} {dr ot : Nat} {dd w : Int} (hd : (dr : Int) < B 1 0) (hot : (ot : Int) < B 1 0) (hdd : 1 ≤ dd ∧ dd ≤ 999) : ∀ N, N ≤ 14 * (B 3 dr).toNat → (∀ j, j < N → ¬ mFd B dr ot dd (j / 14) (j % 14)) → ∃ X J2, Qy B X ∧ Rch (GW L xs) (d + 7) 296 (47, [.ref 93, (Value.int (Int32.ofInt (dr))), (Value.int (Int32.ofInt (ot))), (Value.int (Int32.ofInt (dd))), (Value.int (Int32.ofInt (w))), (Value.int (Int32.ofInt (0))), vU, vU, vU], [], zS (eV V) J tg) (h296 B dr ot dd w tg N (X, J2)) := by
  intro N hN hno
  have r3 : 0 ≤ B 3 dr ∧ B 3 dr ≤ 6 := hI.1 3 dr (by decide) (by decide)
  obtain ⟨⟨X, J2⟩, hX, hr⟩ := loopN (g := GW L xs) (d := d + 7) (mid := 296) (σ := (Nat → Nat → Int) × (Nat → Nat → Int64)) (fun i σ => h296 B dr ot dd w tg i σ) (fun i σ => Qy B σ.1) N (by
    intro i ⟨W, J⟩ hi qW
    dsimp only at qW
    obtain ⟨X, J2, x1, x2, x3⟩ := m_295 (L := L) (xs := xs) (J := J) (tg := tg) (d := d) hI qW (dr := dr) (ot := ot) (k := i / 14) (c := i % 14) hd hot hdd (by omega) (by omega)
    rcases x3 with ⟨g, -⟩ | ⟨g, x3⟩
    · exact absurd g (hno i hi)
    · refine ⟨(X, J2), x1, (((m_296h hI hd (by omega) qW).tr (m_296b hI (by omega))).tr fun r hr => ?_).tr m_296n⟩
      apply sg_296_130
      refine ⟨_, _, _, x3, ?_⟩
      rw [if_pos (by decide)]
      simp (disch := omega) only [eV_at, eV_up, o_lit2, o_add, o_sub, o_mul, o_neg, o_div, o_nat, ix_t, o_lt, o_le, o_eq, o_bi0, o_bi1, o_bib, em_t, o_neg1, o_shl, o_tb, o_tb0, o_tt, o_and, o_xor, o_or, o_max, o_min, an_tb, and_true, true_and, not_true, not_false, if_true, if_false, tn_add, tn_mul, Int.reduceToNat, tn_cast, md_x]
      exact hr) N 0 (V, J) (by omega) q
  exact ⟨X, J2, hX, hr⟩
end MD
theorem least_of {P : Nat → Prop} : ∀ N, (∃ i, i < N ∧ P i) → ∃ i, i < N ∧ P i ∧ ∀ j, j < i → ¬ P j
  | 0, ⟨i, h, _⟩ => by omega
  | N + 1, ⟨i, h, hp⟩ => by
    by_cases q : ∃ i, i < N ∧ P i
    · obtain ⟨j, h1, h2, h3⟩ := least_of N q
      exact ⟨j, by omega, h2, h3⟩
    · have : i = N := Nat.le_antisymm (by omega) (Nat.le_of_not_lt fun hlt => q ⟨i, hlt, hp⟩)
      subst this
      exact ⟨i, by omega, hp, fun j hj hpj => q ⟨j, hj, hpj⟩⟩
theorem c_mended {L : Nat} {xs : Nat → Int32} {V : Nat → Nat → Int} {J : Nat → Nat → Int64} {tg : Option Nat} (h : INV V) {a b c e : Int} (ha : (-2147483648 ≤ a ∧ a < 2147483648)) (hb : (-2147483648 ≤ b ∧ b < 2147483648)) (hc : (-2147483648 ≤ c ∧ c < 2147483648)) (he : (-2147483648 ≤ e ∧ e < 2147483648)) : ∃ (v : Int) (U W : Nat → Nat → Int) (J1 : Nat → Nat → Int64), Runs (GW L xs) 40 158 (0, [.ref 0, (Value.int (Int32.ofInt (a))), (Value.int (Int32.ofInt (b))), (Value.int (Int32.ofInt (c))), (Value.int (Int32.ofInt (e)))], [], zS (eV V) J tg) (some (Value.int (Int32.ofInt v)), zS (eV U) J tg) ∧ Runs (GW L xs) 40 296 (0, [.ref 93, (Value.int (Int32.ofInt (a))), (Value.int (Int32.ofInt (b))), (Value.int (Int32.ofInt (c))), (Value.int (Int32.ofInt (e))), vU, vU, vU, vU], [], zS (eV U) J tg) (some (Value.int (Int32.ofInt v)), zS (eV W) J1 tg) ∧ INV W := by
  have h0 := h
  obtain ⟨hR, ⟨hA, hB, hC, hD, hE, hF, hH⟩, h2, h3, h4, h5⟩ := h
  have rD : 0 ≤ V 1 0 ∧ V 1 0 ≤ 12 := hR 1 0 (by decide) (by decide)
  have rT : 0 ≤ V 1 1 ∧ V 1 1 ≤ 12 := hR 1 1 (by decide) (by decide)
  by_cases g1 : 0 ≤ a ∧ a < V 1 0
  · by_cases g2 : 0 ≤ b ∧ b < V 1 0
    · by_cases g3 : a = b
      · refine ⟨-1, V, V, J, ?_, ?_, h0⟩
        · apply sg_158
          refine ⟨_, _, k_44 hR ha, ?_⟩
          rw [if_neg (b0_f g1)]
          refine ⟨_, _, k_44 hR hb, ?_⟩
          rw [if_neg (b0_f g2), g3, if_pos rfl]; rfl
        · apply sg_296
          refine ⟨_, _, _, m_179 hR hA ha, ?_⟩
          rw [if_neg (b0_f g1)]
          refine ⟨_, _, _, m_179 hR hA hb, ?_⟩
          rw [if_neg (b0_f g2), g3, if_pos rfl]
          exact sg_296_42 _ _ _ _ _ _ _ rfl
      · have g3' : ¬ Int32.ofInt a = Int32.ofInt b := by rw [o_eq ha hb]; exact g3
        by_cases g4 : 1 ≤ c ∧ c ≤ 999
        · by_cases g5 : 0 ≤ e ∧ e ≤ 3
          · obtain ⟨dr, rfl⟩ : ∃ n : Nat, a = n := ⟨a.toNat, by omega⟩
            obtain ⟨ot, rfl⟩ : ∃ n : Nat, b = n := ⟨b.toNat, by omega⟩
            have r3 : 0 ≤ V 3 dr ∧ V 3 dr ≤ 6 := hR 3 dr (by decide) (by decide)
            obtain ⟨n, hn⟩ : ∃ n : Nat, V 3 dr = n := ⟨(V 3 dr).toNat, by omega⟩
            have hn' : (V 3 dr).toNat = n := by omega
            by_cases ex : ∃ i, i < 14 * n ∧ mFd V dr ot c (i / 14) (i % 14)
            · obtain ⟨i, hi, hF, hno⟩ := least_of (14 * n) ex
              obtain ⟨X, ⟨qX, h7⟩, hrX⟩ := k_10 (L := L) (xs := xs) (J := J) (tg := tg) (d := 34) h0 (Qy.rf h3) (dr := dr) (ot := ot) (dd := c) (by omega) (by omega) g4 i (by omega) hno
              rcases k_10s (L := L) (xs := xs) (J := J) (tg := tg) (d := 34) h0 (dr := dr) (ot := ot) (dd := c) (k := i / 14) (c := i % 14) (by omega) (by omega) g4 (by omega) (by omega) qX h7 with ⟨g, -⟩ | ⟨-, U, qU, ⟨u0, u1, u2, u3⟩, hrU⟩
              · exact absurd hF g
              · have hIU := h0.q qU
                have e1 : U 1 = V 1 := qU.1 1 (by omega)
                obtain ⟨Y, J1, qY, hrY⟩ := m_296 (L := L) (xs := xs) (J := J) (tg := tg) (d := 33) h0 qU (dr := dr) (ot := ot) (dd := c) (w := e) g1.2 g2.2 g4 i (by omega) hno
                obtain ⟨W, J2, qW, w2, w3⟩ := m_295 (L := L) (xs := xs) (J := J1) (tg := tg) (d := 33) h0 qY (dr := dr) (ot := ot) (dd := c) (k := i / 14) (c := i % 14) g1.2 g2.2 g4 (by omega) (by omega)
                have w2 := w2 hF
                have w3 := (w3.resolve_right (fun h => h.1 hF)).2
                obtain ⟨v, hv⟩ : ∃ v : Int, v = if e = 0 then ((i / 14 : Nat) : Int) else if e = 1 then mty (i % 14) else if e = 3 then mfr V dr ot (i / 14) (i % 14) else mvl (i % 14) := ⟨_, rfl⟩
                refine ⟨v, U, W, J2, ?_, ?_, h0.q qW⟩
                · apply sg_158
                  refine ⟨_, _, k_44 hR ha, ?_⟩
                  rw [if_neg (b0_f g1)]
                  refine ⟨_, _, k_44 hR hb, ?_⟩
                  rw [if_neg (b0_f g2), if_neg g3']
                  refine ⟨_, _, k_164 (a := 1) (b := 999) hc (by omega) (by omega), ?_⟩
                  rw [if_neg (b0_f g4)]
                  refine ⟨_, _, k_164 (a := 0) (b := 3) he (by omega) (by omega), ?_⟩
                  rw [if_neg (b0_f g5)]
                  refine ⟨_, _, hrX _ (k_10h h0 (by omega) (by omega) qX _ hrU), ?_⟩
                  rw [if_neg (by decide)]
                  have e4 : e = 0 ∨ e = 1 ∨ e = 2 ∨ e = 3 := by omega
                  rcases e4 with rfl | rfl | rfl | rfl
                  · refine ⟨by decide, ?_⟩
                    rw [hv]; exact leafI u0.symm
                  · refine ⟨by decide, ?_⟩
                    rw [hv]; exact leafI u1.symm
                  · refine ⟨by decide, ?_⟩
                    rw [hv]; exact leafI u2.symm
                  · refine ⟨by decide, ?_⟩
                    rw [hv]; exact leafI u3.symm
                · apply sg_296
                  refine ⟨_, _, _, m_179 hIU.1 hIU.2.1.1 ha, ?_⟩
                  rw [if_neg (b0_f (by rw [e1]; exact g1))]
                  refine ⟨_, _, _, m_179 hIU.1 hIU.2.1.1 hb, ?_⟩
                  rw [if_neg (b0_f (by rw [e1]; exact g2)), if_neg g3']
                  refine ⟨_, _, _, k_177 (a := 1) (b := 999) hc (by omega) (by omega), ?_⟩
                  rw [if_neg (b0_f g4)]
                  refine ⟨_, _, _, k_177 (a := 0) (b := 3) he (by omega) (by omega), ?_⟩
                  rw [if_neg (b0_f g5)]
                  refine hrY _ (m_296h h0 g1.2 (by omega) qY _ (m_296b h0 (by omega) _ ?_))
                  apply sg_296_130
                  refine ⟨_, _, _, w3, ?_⟩
                  rw [if_neg (by decide), eV_at, w2]
                  have hm : i % 14 < 14 := by omega
                  generalize i % 14 = cc at hv hm
                  have e4 : e = 0 ∨ e = 1 ∨ e = 3 ∨ e = 2 := by omega
                  rcases e4 with rfl | rfl | rfl | rfl
                  · rw [if_pos (by rfl)]
                    exact sg_296_232 _ _ _ _ _ _ _ _ _ _ _ _ (leafI hv)
                  · rw [if_neg (by decide), if_pos (by rfl)]
                    simp (disch := omega) only [eV_at, eV_up, o_lit2, o_add, o_sub, o_mul, o_neg, o_div, o_nat, ix_t, o_lt, o_le, o_eq, o_bi0, o_bi1, o_bib, em_t, o_neg1, o_shl, o_tb, o_tb0, o_tt, o_and, o_xor, o_or, o_max, o_min, an_tb, and_true, true_and, not_true, not_false, if_true, if_false, tn_add, tn_mul, Int.reduceToNat, tn_cast, md_x]
                    by_cases c9 : cc < 9
                    · rw [if_neg (by omega)]
                      refine sg_296_232 _ _ _ _ _ _ _ _ _ _ _ _ (leafI ?_)
                      rw [hv]; exact if_pos c9
                    · rw [if_pos (by omega)]
                      by_cases c13 : cc < 13
                      · rw [if_neg (by omega)]
                        refine sg_296_232 _ _ _ _ _ _ _ _ _ _ _ _ (leafI ?_)
                        rw [hv]; show mty cc = 1; unfold mty; rw [if_neg c9, if_pos c13]
                      · rw [if_pos (by omega)]
                        refine sg_296_232 _ _ _ _ _ _ _ _ _ _ _ _ (leafI ?_)
                        rw [hv]; show mty cc = 2; unfold mty; rw [if_neg c9, if_neg c13]
                  · rw [if_neg (by decide), if_neg (by decide), if_pos (by rfl)]
                    exact sg_296_232 _ _ _ _ _ _ _ _ _ _ _ _ (leafI hv)
                  · rw [if_neg (by decide), if_neg (by decide), if_neg (by decide)]
                    simp (disch := omega) only [eV_at, eV_up, o_lit2, o_add, o_sub, o_mul, o_neg, o_div, o_nat, ix_t, o_lt, o_le, o_eq, o_bi0, o_bi1, o_bib, em_t, o_neg1, o_shl, o_tb, o_tb0, o_tt, o_and, o_xor, o_or, o_max, o_min, an_tb, and_true, true_and, not_true, not_false, if_true, if_false, tn_add, tn_mul, Int.reduceToNat, tn_cast, md_x]
                    by_cases c9 : cc < 9
                    · rw [if_neg (by omega)]
                      refine sg_296_232 _ _ _ _ _ _ _ _ _ _ _ _ (leafI ?_)
                      rw [hv]; exact if_pos c9
                    · rw [if_pos (by omega)]
                      by_cases c13 : cc < 13
                      · rw [if_neg (by omega)]
                        refine sg_296_232 _ _ _ _ _ _ _ _ _ _ _ _ (leafI ?_)
                        rw [hv]; show mvl cc = (cc : Int) - 9; unfold mvl; rw [if_neg c9, if_pos c13]
                      · rw [if_pos (by omega)]
                        refine sg_296_232 _ _ _ _ _ _ _ _ _ _ _ _ (leafI ?_)
                        rw [hv]; show mvl cc = -1; unfold mvl; rw [if_neg c9, if_neg c13]
            · have hno : ∀ j, j < 14 * n → ¬ mFd V dr ot c (j / 14) (j % 14) := fun j hj hp => ex ⟨j, hj, hp⟩
              obtain ⟨U, ⟨qU, h7⟩, hrU⟩ := k_10 (L := L) (xs := xs) (J := J) (tg := tg) (d := 34) h0 (Qy.rf h3) (dr := dr) (ot := ot) (dd := c) (by omega) (by omega) g4 (14 * n) (by omega) hno
              have hIU := h0.q qU
              have e1 : U 1 = V 1 := qU.1 1 (by omega)
              obtain ⟨W, J2, qW, hrW⟩ := m_296 (L := L) (xs := xs) (J := J) (tg := tg) (d := 33) h0 qU (dr := dr) (ot := ot) (dd := c) (w := e) g1.2 g2.2 g4 (14 * n) (by omega) hno
              have e3 : U 3 dr = n := by rw [qU.1 3 (by omega)]; exact hn
              have en : 14 * n / 14 = n := by omega
              refine ⟨-1, U, W, J2, ?_, ?_, h0.q qW⟩
              · apply sg_158
                refine ⟨_, _, k_44 hR ha, ?_⟩
                rw [if_neg (b0_f g1)]
                refine ⟨_, _, k_44 hR hb, ?_⟩
                rw [if_neg (b0_f g2), if_neg g3']
                refine ⟨_, _, k_164 (a := 1) (b := 999) hc (by omega) (by omega), ?_⟩
                rw [if_neg (b0_f g4)]
                refine ⟨_, _, k_164 (a := 0) (b := 3) he (by omega) (by omega), ?_⟩
                rw [if_neg (b0_f g5)]
                refine ⟨Int32.ofInt 0, _, hrU (some (Value.int (Int32.ofInt (0))), zS (eV U) J tg) ?_, ?_⟩
                · unfold h10
                  rw [if_pos (by omega), en]
                  apply sg_10_8
                  simp (disch := omega) only [e3, eV_at, eV_up, o_lit2, o_add, o_sub, o_mul, o_neg, o_div, o_nat, ix_t, o_lt, o_le, o_eq, o_bi0, o_bi1, o_bib, em_t, o_neg1, o_shl, o_tb, o_tb0, o_tt, o_and, o_xor, o_or, o_max, o_min, an_tb, and_true, true_and, not_true, not_false, if_true, if_false, tn_add, tn_mul, Int.reduceToNat, tn_cast, md_x]
                  rw [if_pos (by omega)] <;> first | rfl | trivial
                · rw [if_pos (by decide)]; rfl
              · apply sg_296
                refine ⟨_, _, _, m_179 hIU.1 hIU.2.1.1 ha, ?_⟩
                rw [if_neg (b0_f (by rw [e1]; exact g1))]
                refine ⟨_, _, _, m_179 hIU.1 hIU.2.1.1 hb, ?_⟩
                rw [if_neg (b0_f (by rw [e1]; exact g2)), if_neg g3']
                refine ⟨_, _, _, k_177 (a := 1) (b := 999) hc (by omega) (by omega), ?_⟩
                rw [if_neg (b0_f g4)]
                refine ⟨_, _, _, k_177 (a := 0) (b := 3) he (by omega) (by omega), ?_⟩
                rw [if_neg (b0_f g5)]
                refine hrW _ ?_
                unfold h296
                rw [if_pos (by omega), en]
                obtain ⟨⟨-, -, c0, -, -, -⟩, -, -⟩ := LKm_of h0 qW g1.2
                have k0 := k_184 (L := L) (xs := xs) (J := J2) (tg := tg) (d := 39) (V := W) (l := dr) (w := 0) (by omega)
                rw [c0, hn'] at k0
                apply sg_296_47
                refine ⟨_, _, _, k0, ?_⟩
                simp (disch := omega) only [eV_at, eV_up, o_lit2, o_add, o_sub, o_mul, o_neg, o_div, o_nat, ix_t, o_lt, o_le, o_eq, o_bi0, o_bi1, o_bib, em_t, o_neg1, o_shl, o_tb, o_tb0, o_tt, o_and, o_xor, o_or, o_max, o_min, an_tb, and_true, true_and, not_true, not_false, if_true, if_false, tn_add, tn_mul, Int.reduceToNat, tn_cast, md_x]
                rw [if_pos (by omega)] <;> first | rfl | trivial
          · refine ⟨-1, V, V, J, ?_, ?_, h0⟩
            · apply sg_158
              refine ⟨_, _, k_44 hR ha, ?_⟩
              rw [if_neg (b0_f g1)]
              refine ⟨_, _, k_44 hR hb, ?_⟩
              rw [if_neg (b0_f g2), if_neg g3']
              refine ⟨_, _, k_164 (a := 1) (b := 999) hc (by omega) (by omega), ?_⟩
              rw [if_neg (b0_f g4)]
              refine ⟨_, _, k_164 (a := 0) (b := 3) he (by omega) (by omega), ?_⟩
              rw [if_pos (b0_t g5)]; rfl
            · apply sg_296
              refine ⟨_, _, _, m_179 hR hA ha, ?_⟩
              rw [if_neg (b0_f g1)]
              refine ⟨_, _, _, m_179 hR hA hb, ?_⟩
              rw [if_neg (b0_f g2), if_neg g3']
              refine ⟨_, _, _, k_177 (a := 1) (b := 999) hc (by omega) (by omega), ?_⟩
              rw [if_neg (b0_f g4)]
              refine ⟨_, _, _, k_177 (a := 0) (b := 3) he (by omega) (by omega), ?_⟩
              rw [if_pos (b0_t g5)]
              exact sg_296_42 _ _ _ _ _ _ _ rfl
        · refine ⟨-1, V, V, J, ?_, ?_, h0⟩
          · apply sg_158
            refine ⟨_, _, k_44 hR ha, ?_⟩
            rw [if_neg (b0_f g1)]
            refine ⟨_, _, k_44 hR hb, ?_⟩
            rw [if_neg (b0_f g2), if_neg g3']
            refine ⟨_, _, k_164 (a := 1) (b := 999) hc (by omega) (by omega), ?_⟩
            rw [if_pos (b0_t g4)]; rfl
          · apply sg_296
            refine ⟨_, _, _, m_179 hR hA ha, ?_⟩
            rw [if_neg (b0_f g1)]
            refine ⟨_, _, _, m_179 hR hA hb, ?_⟩
            rw [if_neg (b0_f g2), if_neg g3']
            refine ⟨_, _, _, k_177 (a := 1) (b := 999) hc (by omega) (by omega), ?_⟩
            rw [if_pos (b0_t g4)]
            exact sg_296_42 _ _ _ _ _ _ _ rfl
    · refine ⟨-1, V, V, J, ?_, ?_, h0⟩
      · apply sg_158
        refine ⟨_, _, k_44 hR ha, ?_⟩
        rw [if_neg (b0_f g1)]
        refine ⟨_, _, k_44 hR hb, ?_⟩
        rw [if_pos (b0_t g2)]; rfl
      · apply sg_296
        refine ⟨_, _, _, m_179 hR hA ha, ?_⟩
        rw [if_neg (b0_f g1)]
        refine ⟨_, _, _, m_179 hR hA hb, ?_⟩
        rw [if_pos (b0_t g2)]
        exact sg_296_42 _ _ _ _ _ _ _ rfl
  · refine ⟨-1, V, V, J, ?_, ?_, h0⟩
    · apply sg_158
      refine ⟨_, _, k_44 hR ha, ?_⟩
      rw [if_pos (b0_t g1)]; rfl
    · apply sg_296
      refine ⟨_, _, _, m_179 hR hA ha, ?_⟩
      rw [if_pos (b0_t g1)]
      exact sg_296_42 _ _ _ _ _ _ _ rfl
