/-! harm in the reference. -/
theorem lgo_ge (x y : Int64) : (Int32.ofInt 0 ≤ lg_cmp x y) = (y ≤ x) := lg_ge x y
theorem hmG_of {B V : Nat → Nat → Int} (q : Qy B V) {k : Nat} (hk : k < 4) (h : B 18 1 = k) (N : Nat → Int) : hmG B N = if V (47 + 4 * k) 6 = -1 then 1 else max 0 (evC V k (V (47 + 4 * k) 6).toNat N) := by
  unfold hmG
  rw [if_neg (by omega), h, tn_cast, ← q.g (47 + 4 * k) (by omega), ← evC_fr q.g hk]
theorem m_247 {L d : Nat} {xs : Nat → Int32} {B V : Nat → Nat → Int} {J : Nat → Nat → Int64} {tg : Option Nat} (hI : INV B) (q : Qy B V) {l dr n st : Nat} {p : Nat → Int} (hL : LKm B V l dr n p) {took land : Int} (ht : -1 ≤ took ∧ took ≤ 11) (hl : -1 ≤ land ∧ land ≤ 5) (hst : st < 6) : ∃ W J2, (∀ c, c ≠ 103 → c ≠ 105 → W c = V c) ∧ Runs (GW L xs) (d + 5) 247 (0, [.ref 93, (Value.int (Int32.ofInt (l))), (Value.int (Int32.ofInt (mz took))), (Value.int (Int32.ofInt (land))), (Value.int (Int32.ofInt (st))), vU, vU, vU, vU], [], zS (eV (V)) (J) tg) (some (Value.int (Int32.ofInt (hmG B (fch (fct B dr n p) took (if bi (smG B 4 1 (fct B dr n p) = true) = B 6 dr then 0 else 1) land st)))), zS (eV (W)) (J2) tg) := by
  have hV := hI.q q
  have hl25 : l < 25 := hL.1.1
  have hn6 : n ≤ 6 := hL.1.2.1
  have hF0 : N12 (fct B dr n p) := fun k _ => by have := fct_rg hI.1 (dr := dr) (n := n) (by omega) p k; omega
  have r18 : -1 ≤ B 18 1 ∧ B 18 1 ≤ 3 := hI.1 18 1 (by decide) (by decide)
  have r6 : 0 ≤ B 6 dr ∧ B 6 dr ≤ 1 := hI.1 6 dr (by decide) (by decide)
  have rb := bi_rg (smG B 4 1 (fct B dr n p) = true)
  have e944 : V 94 4 = B 18 1 := by
    have : V 94 4 = V 18 1 := hV.2.1.2.2.2.2.2.2.1.2.1
    rw [this, q.1 18 (by omega)]
  obtain ⟨t1, t2, t3, t4⟩ := mz_rg ht
  obtain ⟨A, J1, a1, a2⟩ := m_242 (L := L) (xs := xs) (J := J) (tg := tg) (d := d) hI q hL
  generalize bi (smG B 4 1 (fct B dr n p) = true) = dn at rb a2 ⊢
  obtain ⟨tur, htur⟩ : ∃ t : Int, (if dn = B 6 dr then (0 : Int) else 1) = t := ⟨_, rfl⟩
  have rtur : 0 ≤ tur ∧ tur ≤ 1 := by rw [← htur]; split <;> omega
  rw [htur]
  have hF : N12 (fch (fct B dr n p) took tur land st) := fch_n hF0 (by omega) (by omega) (by omega) (by omega)
  by_cases g : B 18 1 = -1
  · refine ⟨A, J1, a1, ?_⟩
    apply sg_247
    refine ⟨_, _, _, a2, ?_⟩
    apply sg_247_18
    simp (disch := omega) only [e944, eV_at, eV_up, o_lit2, o_add, o_sub, o_mul, o_neg, o_div, o_nat, ix_t, o_lt, o_le, o_eq, o_bi0, o_bi1, o_bib, em_t, o_neg1, o_shl, o_tb, o_tb0, o_tt, o_and, o_xor, o_or, o_max, o_min, an_tb, and_true, true_and, not_true, not_false, if_true, if_false, tn_add, tn_mul, Int.reduceToNat, tn_cast, md_x]
    rw [if_pos (by omega)]
    unfold hmG
    rw [if_pos g]
  · obtain ⟨k, hk⟩ : ∃ k : Nat, B 18 1 = k := ⟨(B 18 1).toNat, by omega⟩
    have hk4 : k < 4 := by omega
    have hG : GRk V k := hI.gk q hk4 hk
    have hG' := hG
    obtain ⟨g1, g2, g3, g4, g5⟩ := hG'
    obtain ⟨m, em⟩ : ∃ m : Nat, V (47 + 4 * k) 4 = m := ⟨(V (47 + 4 * k) 4).toNat, by omega⟩
    have x0 : (800 : Int) * (k : Int) = ((800 * k : Nat) : Int) := by omega
    rw [hmG_of q hk4 hk]
    obtain ⟨r, ⟨W, J2, hW, hre⟩, hr⟩ := loopE (g := GW L xs) (d := d + 5) (mid := 247) (σ := (Nat → Nat → Int) × (Nat → Nat → Int64)) (fun i σ => (18, [.ref 93, (Value.int (Int32.ofInt (l))), (Value.int (Int32.ofInt (mz took))), (Value.int (Int32.ofInt (land))), (Value.int (Int32.ofInt (st))), (Value.int (Int32.ofInt (k))), (Value.int (Int32.ofInt (dn))), (Value.int (Int32.ofInt (i))), vU], [], zS (eV σ.1) σ.2 tg)) (fun i σ => (∀ c, c ≠ 103 → c ≠ 105 → σ.1 c = V c) ∧ ∀ j, j < i → V (47 + 4 * k + 2) j ≠ 6) (fun r => ∃ W J2, (∀ c, c ≠ 103 → c ≠ 105 → W c = V c) ∧ r = (some (Value.int (Int32.ofInt (if V (47 + 4 * k) 6 = -1 then 1 else max 0 (evC V k (V (47 + 4 * k) 6).toNat (fch (fct B dr n p) took tur land st))))), zS (eV W) J2 tg)) m (by
      intro i ⟨W, J⟩ hi ⟨i1, i2⟩
      dsimp only at i1 i2 ⊢
      have hin : (i : Int) < V (47 + 4 * k) 4 := by omega
      obtain ⟨c0, c1, c2⟩ := hG.cl hin
      obtain ⟨b1, b2, b3, b4, -⟩ := g4 i hin
      have e96 : W 96 = V 96 := i1 96 (by decide) (by decide)
      have x1 : ((800 * k : Nat) : Int) + 1 + 3 * (i : Int) = ((800 * k + 1 + 3 * i : Nat) : Int) := by omega
      have x2 : ((800 * k + 1 + 3 * i : Nat) : Int) + 1 = ((800 * k + 2 + 3 * i : Nat) : Int) := by omega
      have x3 : ((800 * k + 1 + 3 * i : Nat) : Int) + 2 = ((800 * k + 3 + 3 * i : Nat) : Int) := by omega
      by_cases q6 : V (47 + 4 * k + 2) i = 6
      · right
        have hh : V (47 + 4 * k) 6 = i := by
          rcases g5 with g5 | g5
          · exact absurd q6 (g5.2 i hin)
          · exact ((g5.2.2 i hin).mp q6).symm
        rw [if_pos q6] at c2
        have hev := evC_v hG hin q6 hF
        obtain ⟨s1, s2, s3, s4, s5⟩ := c1
        obtain ⟨Y, y1, y2, y3, y4⟩ := m_240 (L := L) (xs := xs) (J := J) (tg := tg) (d := d + 3) hI.1 (hL.fr (i1 94 (by decide) (by decide)))
        have k3 := k_184 (L := L) (xs := xs) (J := J) (tg := tg) (d := d + 4) (V := up2 Y 103 8 took) (l := l) (w := 3) (by omega)
        rw [w_nc _ _ _ _ (by decide), y1 94 (by decide), i1 94 (by decide) (by decide), hL.2.2] at k3
        have hZ : ∀ c, c ≠ 103 → c ≠ 105 → (up2 (up2 (up2 (up2 Y 103 8 took) 103 9 tur) 103 10 land) 103 11 st) c = V c := fun c q1 q2 => by rw [w_ne _ _ _ _ q1, w_ne _ _ _ _ q1, w_ne _ _ _ _ q1, w_ne _ _ _ _ q1, y1 c q1]; exact i1 c q1 q2
        obtain ⟨X, J2, z1, z2, z3, z4⟩ := m_239 (L := L) (xs := xs) (J := J) (tg := tg) (d := d + 2) (V := up2 (up2 (up2 (up2 Y 103 8 took) 103 9 tur) 103 10 land) 103 11 st) (k := k) (st := (V (47 + 4 * k + 3) i).toNat) (ln := oln V k i) (f := opf V k i) (g := opg V k i) (N := fch (fct B dr n p) took tur land st) hk4 s3 s4 (fun j _ => by rw [hZ 96 (by decide) (by decide)]; rfl) (fun j _ => by rw [hZ 96 (by decide) (by decide)]; rfl) hF (fun j hj h1 => by
          have hv := s4 j hj
          unfold vop at hv
          unfold fch
          rw [w_at, w_at, w_at, w_at]
          split
          · rfl
          · split
            · rfl
            · split
              · rfl
              · split
                · rfl
                · exact y2 _ (by omega)) c2
        rw [← s1, ← s2] at z4
        have z3 : J2 104 0 = Int64.ofInt (evC V k i (fch (fct B dr n p) took tur land st)) := z3 0 (by omega)
        have hX : ∀ c, c ≠ 103 → c ≠ 105 → X c = V c := fun c q1 q2 => by rw [z1 c q2]; exact hZ c q1 q2
        refine ⟨_, ⟨X, J2, hX, rfl⟩, ?_⟩
        rw [hh, if_neg (by omega), tn_cast]
        have tail : Runs (GW L xs) (d + 5) 247 (91, [.ref 93, (Value.int (Int32.ofInt (l))), (Value.int (Int32.ofInt (mz took))), (Value.int (Int32.ofInt (land))), (Value.int (Int32.ofInt (st))), (Value.int (Int32.ofInt (k))), (Value.int (Int32.ofInt (dn))), (Value.int (Int32.ofInt (i))), (Value.int (Int32.ofInt ((800 * k + 1 + 3 * i : Nat))))], [(Value.int (Int32.ofInt (took))), .int 8, .ref 103], zS (eV Y) J tg) (some (Value.int (Int32.ofInt (max 0 (evC V k i (fch (fct B dr n p) took tur land st))))), zS (eV X) J2 tg) := by
          apply sg_247_91
          simp (disch := omega) only [eV_at, eV_up, o_lit2, o_add, o_sub, o_mul, o_neg, o_div, o_nat, ix_t, o_lt, o_le, o_eq, o_bi0, o_bi1, o_bib, em_t, o_neg1, o_shl, o_tb, o_tb0, o_tt, o_and, o_xor, o_or, o_max, o_min, an_tb, and_true, true_and, not_true, not_false, if_true, if_false, tn_add, tn_mul, Int.reduceToNat, tn_cast, md_x]
          refine ⟨_, _, _, k3, ?_⟩
          have t123 : Runs (GW L xs) (d + 5) 247 (123, [.ref 93, (Value.int (Int32.ofInt (l))), (Value.int (Int32.ofInt (mz took))), (Value.int (Int32.ofInt (land))), (Value.int (Int32.ofInt (st))), (Value.int (Int32.ofInt (k))), (Value.int (Int32.ofInt (dn))), (Value.int (Int32.ofInt (i))), (Value.int (Int32.ofInt ((800 * k + 1 + 3 * i : Nat))))], [(Value.int (Int32.ofInt (tur))), .int 9, .ref 103], zS (eV (up2 Y 103 8 took)) J tg) (some (Value.int (Int32.ofInt (max 0 (evC V k i (fch (fct B dr n p) took tur land st))))), zS (eV X) J2 tg) := by
            apply sg_247_123
            have y96 : Y 96 = V 96 := by rw [y1 96 (by decide), e96]
            simp (disch := omega) only [x2, x3, w_nc, y96, b3, b4, eV_at, eV_up, o_lit2, o_add, o_sub, o_mul, o_neg, o_div, o_nat, ix_t, o_lt, o_le, o_eq, o_bi0, o_bi1, o_bib, em_t, o_neg1, o_shl, o_tb, o_tb0, o_tt, o_and, o_xor, o_or, o_max, o_min, an_tb, and_true, true_and, not_true, not_false, if_true, if_false, tn_add, tn_mul, Int.reduceToNat, tn_cast, md_x]
            refine ⟨_, _, z4, ?_⟩
            rw [z3, show (0 : Int64) = Int64.ofInt 0 from rfl]
            simp (disch := omega) only [lgo_ge, l_le, l_32]
            by_cases ce : 0 ≤ evC V k i (fch (fct B dr n p) took tur land st)
            · rw [if_pos ce]; exact leafI (by omega)
            · rw [if_neg ce]; exact leafI (by omega)
          simp (disch := omega) only [eV_at, eV_up, o_lit2, o_add, o_sub, o_mul, o_neg, o_div, o_nat, ix_t, o_lt, o_le, o_eq, o_bi0, o_bi1, o_bib, em_t, o_neg1, o_shl, o_tb, o_tb0, o_tt, o_and, o_xor, o_or, o_max, o_min, an_tb, and_true, true_and, not_true, not_false, if_true, if_false, tn_add, tn_mul, Int.reduceToNat, tn_cast, md_x]
          by_cases c6 : B 6 dr = 1
          · rw [if_pos c6]
            apply sg_247_115
            simp (disch := omega) only [eV_at, eV_up, o_lit2, o_add, o_sub, o_mul, o_neg, o_div, o_nat, ix_t, o_lt, o_le, o_eq, o_bi0, o_bi1, o_bib, em_t, o_neg1, o_shl, o_tb, o_tb0, o_tt, o_and, o_xor, o_or, o_max, o_min, an_tb, and_true, true_and, not_true, not_false, if_true, if_false, tn_add, tn_mul, Int.reduceToNat, tn_cast, md_x]
            by_cases cd : dn = 1
            · rw [if_pos cd]
              rw [if_pos (by omega)] at htur
              subst htur
              exact t123
            · rw [if_neg cd]
              rw [if_neg (by omega)] at htur
              subst htur
              exact t123
          · rw [if_neg c6]
            apply sg_247_115
            simp (disch := omega) only [eV_at, eV_up, o_lit2, o_add, o_sub, o_mul, o_neg, o_div, o_nat, ix_t, o_lt, o_le, o_eq, o_bi0, o_bi1, o_bib, em_t, o_neg1, o_shl, o_tb, o_tb0, o_tt, o_and, o_xor, o_or, o_max, o_min, an_tb, and_true, true_and, not_true, not_false, if_true, if_false, tn_add, tn_mul, Int.reduceToNat, tn_cast, md_x]
            by_cases cd : dn = 0
            · rw [if_pos cd]
              rw [if_pos (by omega)] at htur
              subst htur
              exact t123
            · rw [if_neg cd]
              rw [if_neg (by omega)] at htur
              subst htur
              exact t123
        apply sg_247_18
        have b2' : V 96 (800 * k + 1 + 3 * i) = 3 := by omega
        simp (disch := omega) only [x0, x1, e96, g3, em, b2', eV_at, eV_up, o_lit2, o_add, o_sub, o_mul, o_neg, o_div, o_nat, ix_t, o_lt, o_le, o_eq, o_bi0, o_bi1, o_bib, em_t, o_neg1, o_shl, o_tb, o_tb0, o_tt, o_and, o_xor, o_or, o_max, o_min, an_tb, and_true, true_and, not_true, not_false, if_true, if_false, tn_add, tn_mul, Int.reduceToNat, tn_cast, md_x]
        rw [if_neg (by omega), if_neg (by omega)]
        refine ⟨_, _, y4, ?_⟩
        by_cases cn : 0 ≤ mz took
        · rw [if_pos cn]
          have e : mz took - 12 = took := by omega
          rw [e]
          exact tail
        · rw [if_neg cn]
          have e : took = -1 := by omega
          rw [← e]
          exact tail
      · left
        refine ⟨(W, J), ⟨i1, fun j hj => by by_cases e : j = i
                                            · subst e; exact q6
                                            · exact i2 j (by omega)⟩, fun r hr => ?_⟩
        apply sg_247_18
        simp (disch := omega) only [x0, x1, e96, g3, em, b2, eV_at, eV_up, o_lit2, o_add, o_sub, o_mul, o_neg, o_div, o_nat, ix_t, o_lt, o_le, o_eq, o_bi0, o_bi1, o_bib, em_t, o_neg1, o_shl, o_tb, o_tb0, o_tt, o_and, o_xor, o_or, o_max, o_min, an_tb, and_true, true_and, not_true, not_false, if_true, if_false, tn_add, tn_mul, Int.reduceToNat, tn_cast, md_x]
        rw [if_neg (by omega), if_neg (by omega), if_neg (by omega)]
        exact hr) (by
      intro ⟨W, J⟩ ⟨i1, i2⟩
      dsimp only at i1 i2 ⊢
      have e96 : W 96 = V 96 := i1 96 (by decide) (by decide)
      refine ⟨_, ⟨W, J, i1, rfl⟩, ?_⟩
      apply sg_247_18
      simp (disch := omega) only [x0, e96, g3, em, eV_at, eV_up, o_lit2, o_add, o_sub, o_mul, o_neg, o_div, o_nat, ix_t, o_lt, o_le, o_eq, o_bi0, o_bi1, o_bib, em_t, o_neg1, o_shl, o_tb, o_tb0, o_tt, o_and, o_xor, o_or, o_max, o_min, an_tb, and_true, true_and, not_true, not_false, if_true, if_false, tn_add, tn_mul, Int.reduceToNat, tn_cast, md_x]
      rw [if_neg (by omega), if_pos (by omega)]
      have e6 : V (47 + 4 * k) 6 = -1 := by
        rcases g5 with g5 | g5
        · exact g5.1
        · exact absurd ((g5.2.2 (V (47 + 4 * k) 6).toNat (by omega)).mpr (by omega)) (i2 _ (by omega))
      rw [if_pos e6]) m 0 (A, J1) (by omega) ⟨a1, fun j hj => by omega⟩
    subst hre
    refine ⟨W, J2, hW, ?_⟩
    apply sg_247
    refine ⟨_, _, _, a2, ?_⟩
    rw [eV_at, e944, hk]
    exact hr
/-! What it is TAKEN for, of any PARTS. -/
def scp (B : Nat → Nat → Int) (n : Nat) (p : Nat → Int) (cp : Int) (st t : Nat) : Int := FARp B n p cp (12 + t) - B 10 (st * 12 + t)
theorem scp_rg {B : Nat → Nat → Int} (hR : RNG B) {n : Nat} (hn : n ≤ 6) (p : Nat → Int) (cp : Int) (st t : Nat) : -5000 ≤ scp B n p cp st t ∧ scp B n p cp st t ≤ 5000 := by
  have h1 := FARp_rg hR hn p cp (12 + t)
  have h2 : 0 ≤ B 10 (st * 12 + t) ∧ B 10 (st * 12 + t) ≤ 99 := hR 10 _ (by decide) (by decide)
  unfold scp; omega
theorem m_203g {L d : Nat} {xs : Nat → Int32} {B V : Nat → Nat → Int} {J : Nat → Nat → Int64} {tg : Option Nat} (hI : INV B) (q : Qy B V) {l n st : Nat} {p : Nat → Int} {cp : Int} (hL : okL V l n p cp) (hs : st < 6) : ∃ W, (∀ c, ¬ (97 ≤ c ∧ c ≤ 99) → W c = V c) ∧ (∀ t : Nat, (t : Int) < B 1 1 → W 99 t = scp B n p cp st t) ∧ Runs (GW L xs) (d + 4) 203 (0, [.ref 93, (Value.int (Int32.ofInt (l))), (Value.int (Int32.ofInt (st))), vU], [], zS (eV (V)) J tg) (none, zS (eV (W)) J tg) := by
  have hV := hI.q q
  obtain ⟨hR, ⟨hA, hB, hC, hD, hE, hF, hH⟩, -⟩ := hV
  have rT : 0 ≤ V 1 1 ∧ V 1 1 ≤ 12 := hR 1 1 (by decide) (by decide)
  have e11 : V 1 1 = B 1 1 := by rw [q.1 1 (by omega)]
  obtain ⟨T, hT⟩ : ∃ T : Nat, V 1 1 = T := ⟨(V 1 1).toNat, by omega⟩
  have hT94 : V 94 2 = T := by rw [hA.2.1, hT]
  have esc : ∀ t, scp B n p cp st t = FARp V n p cp (12 + t) - V 10 (st * 12 + t) := fun t => by
    unfold scp
    rw [FARp_fr (q.1 1 (by omega)) (q.1 2 (by omega)) (q.1 3 (by omega)) (q.1 4 (by omega)), q.1 10 (by omega)]
  obtain ⟨W, ⟨i1, i2⟩, hr⟩ := loopN (g := GW L xs) (d := d + 4) (mid := 203) (σ := Nat → Nat → Int) (fun t W => (2, [.ref 93, (Value.int (Int32.ofInt (l))), (Value.int (Int32.ofInt (st))), (Value.int (Int32.ofInt (t)))], [], zS (eV W) J tg)) (fun i W => (∀ c, ¬ (97 ≤ c ∧ c ≤ 99) → W c = V c) ∧ (∀ t : Nat, t < i → W 99 t = scp B n p cp st t)) T (by
    intro t W ht ⟨i1, i2⟩
    have hRW : RNG W := hR.fr fun c q => i1 c (by omega)
    have e94W : W 94 = V 94 := i1 94 (by omega)
    have hb := okL_of hR hB (l := 12 + t) (by unfold isT; omega)
    obtain ⟨X, x1, x2⟩ := k_197 (L := L) (xs := xs) (J := J) (tg := tg) (d := d) (V := W) (a := l) (b := 12 + t) (by have := okW_of hR hA; unfold okW at this ⊢; rw [e94W]; exact this) (by unfold okL at hL ⊢; rw [e94W]; exact hL) (by unfold okL at hb ⊢; rw [e94W]; exact hb)
    rw [e94W, FARg_p hR hA] at x2
    have e94 : X 94 = V 94 := by rw [x1 94 (by decide) (by decide), i1 94 (by omega)]
    have hl : V 94 (700 + 12 * st + t) = V 10 (st * 12 + t) := by
      have := hE.2.2.1 (st * 12 + t) (by omega)
      have e : 700 + (st * 12 + t) = 700 + 12 * st + t := by omega
      rw [e] at this; exact this
    refine ⟨up2 X 99 t (scp B n p cp st t), ⟨fun c q => by rw [w_ne _ _ _ _ (by omega), x1 c (by omega) (by omega)]; exact i1 c q, fun j hj => ?_⟩, fun r hr => ?_⟩
    · rw [w_at]
      by_cases q : j = t
      · subst q; rw [if_pos rfl]
      · rw [if_neg q, x1 99 (by decide) (by decide)]; exact i2 j (by omega)
    · apply sg_203_2
      simp (disch := omega) only [i1 94 (by omega), hT94, eV_at, eV_up, o_lit2, o_add, o_sub, o_mul, o_neg, o_div, o_nat, ix_t, o_lt, o_le, o_eq, o_bi0, o_bi1, o_bib, em_t, o_neg1, o_shl, o_tb, o_tb0, o_tt, o_and, o_xor, o_or, o_max, o_min, an_tb, and_true, true_and, not_true, not_false, if_true, if_false, tn_add, tn_mul, Int.reduceToNat, tn_cast, md_x]
      rw [if_neg (by omega)]
      refine ⟨_, _, _, x2, ?_⟩
      simp (disch := omega) only [e94, hl, eV_at, eV_up, o_lit2, o_add, o_sub, o_mul, o_neg, o_div, o_nat, ix_t, o_lt, o_le, o_eq, o_bi0, o_bi1, o_bib, em_t, o_neg1, o_shl, o_tb, o_tb0, o_tt, o_and, o_xor, o_or, o_max, o_min, an_tb, and_true, true_and, not_true, not_false, if_true, if_false, tn_add, tn_mul, Int.reduceToNat, tn_cast, md_x]
      rw [esc t] at hr
      exact hr) T 0 V (by omega) ⟨fun _ _ => rfl, fun t ht => by omega⟩
  refine ⟨W, i1, fun t ht => i2 t (by omega), sg_203 _ _ _ _ _ (hr _ ?_)⟩
  apply sg_203_2
  simp (disch := omega) only [i1 94 (by omega), hT94, eV_at, eV_up, o_lit2, o_add, o_sub, o_mul, o_neg, o_div, o_nat, ix_t, o_lt, o_le, o_eq, o_bi0, o_bi1, o_bib, em_t, o_neg1, o_shl, o_tb, o_tb0, o_tt, o_and, o_xor, o_or, o_max, o_min, an_tb, and_true, true_and, not_true, not_false, if_true, if_false, tn_add, tn_mul, Int.reduceToNat, tn_cast, md_x]
  rw [if_pos (by omega)] <;> trivial
theorem tk_rg {lim : Int} {f : Nat → Int} {s n : Nat} (hn : n ≤ 12) (hf : ∀ t, -9000 ≤ f t ∧ f t ≤ 9000) : -1 ≤ tk lim f s n ∧ tk lim f s n ≤ 11 := by
  have := pk_rg (f := f) (s := s) (n := n) (fun t _ _ => hf t)
  unfold tk; split <;> omega
/-- takenOf, once measured -/
theorem m_204 {L d : Nat} {xs : Nat → Int32} {B V : Nat → Nat → Int} {J : Nat → Nat → Int64} {tg : Option Nat} (hI : INV B) (q : Qy B V) {s : Nat} {sc : Nat → Int} (hs : s < 2 ^ (B 1 1).toNat) (hsc : ∀ t, -5000 ≤ sc t ∧ sc t ≤ 5000) (h99 : ∀ t : Nat, (t : Int) < B 1 1 → V 99 t = sc t) : Runs (GW L xs) (d) 204 (0, [.ref 93, (Value.int (Int32.ofInt (s))), (Value.int (Int32.ofInt (0))), (Value.int (Int32.ofInt (0))), vU, vU, vU, vU, vU], [], zS (eV (V)) J tg) (some (Value.int (Int32.ofInt (mz (tk (B 7 0) sc s 12)))), zS (eV (V)) J tg) := by
  have hV := hI.q q
  obtain ⟨hR, ⟨hA, hB, hC, hD, hE, hF, hH⟩, -⟩ := hV
  have rT : 0 ≤ B 1 1 ∧ B 1 1 ≤ 12 := hI.1 1 1 (by decide) (by decide)
  obtain ⟨T, hT⟩ : ∃ T : Nat, B 1 1 = T := ⟨(B 1 1).toNat, by omega⟩
  rw [hT, tn_cast] at hs
  have hs4 : s < 4096 := Nat.lt_of_lt_of_le hs (p2_12 (by omega))
  have rl : 0 ≤ V 7 0 ∧ V 7 0 ≤ 999 := hR 7 0 (by decide) (by decide)
  have rh : 0 ≤ V 7 1 ∧ V 7 1 ≤ 99 := hR 7 1 (by decide) (by decide)
  have km := k_204 (L := L) (xs := xs) (J := J) (tg := tg) (d := d) (V := V) (s := s) (T := T) (one := 0) (other := 0) (g := sc) (by rw [hA.2.1, q.1 1 (by omega), hT]) (by omega) hs4 (by rw [hE.1.1]; exact rl) (by rw [hE.1.2.1]; exact rh) (by omega) (by omega) (fun t ht => by rw [show V 94 (780 + t) = V 11 t from hE.2.2.2 t (by omega)]; exact hR 11 t (by decide) (by decide)) (fun t ht _ => ⟨h99 t (by omega), hsc t⟩)
  rw [tk_cg (g := sc) (fun t _ _ => by rw [if_neg (by omega)]; omega), hE.1.1, q.1 7 (by omega)] at km
  rw [tk_ext hs (by omega)]
  exact km
theorem know_lt {B : Nat → Nat → Int} (hI : INV B) {ld : Nat} (h : ld < 6) : (B 9 ld).toNat < 2 ^ (B 1 1).toNat ∧ (B 9 ld).toNat < 4096 ∧ B 9 ld = ((B 9 ld).toNat : Nat) := by
  have r : 0 ≤ B 9 ld ∧ B 9 ld ≤ 4095 := hI.1 9 ld (by decide) (by decide)
  have h1 : B 9 ld < ((2 ^ (B 1 1).toNat : Nat) : Int) := (hI.2.1.2.2.2.2.1.2.1 ld h).2.2
  omega
theorem m_205 {L d : Nat} {xs : Nat → Int32} {B V : Nat → Nat → Int} {J : Nat → Nat → Int64} {tg : Option Nat} (hI : INV B) (q : Qy B V) {l n ld st : Nat} {p : Nat → Int} {cp : Int} (hL : okL V l n p cp) (hld : ld < 6) (hs : st < 6) : ∃ W, (∀ c, ¬ (97 ≤ c ∧ c ≤ 99) → W c = V c) ∧ Runs (GW L xs) (d + 5) 205 (0, [.ref 93, (Value.int (Int32.ofInt (l))), (Value.int (Int32.ofInt (ld))), (Value.int (Int32.ofInt (st)))], [], zS (eV (V)) J tg) (some (Value.int (Int32.ofInt (mz (tk (B 7 0) (scp B n p cp st) (B 9 ld).toNat 12)))), zS (eV (W)) J tg) := by
  obtain ⟨W, w1, w2, w3⟩ := m_203g (L := L) (xs := xs) (J := J) (tg := tg) (d := d) hI q hL hs
  obtain ⟨k1, k2, k3⟩ := know_lt hI hld
  have qW : Qy B W := ⟨fun x h => by rw [w1 x (by omega)]; exact q.1 x h, fun p h => by rw [w1 94 (by omega)]; exact q.2.1 p h, fun p h => by rw [w1 93 (by omega)]; exact q.2.2.1 p h, q.2.2.2.up (w1 1 (by omega)) (w1 2 (by omega)) (w1 3 (by omega)) (w1 4 (by omega)) (w1 71 (by omega)) (w1 81 (by omega))⟩
  have h9 : W 94 (690 + ld) = ((B 9 ld).toNat : Nat) := by
    have : W 94 (690 + ld) = W 9 ld := ((hI.q qW).2.1.2.2.2.2.1.2.1 ld hld).2.1
    rw [this, qW.1 9 (by omega)]; exact k3
  have km := m_204 (L := L) (xs := xs) (J := J) (tg := tg) (d := d + 4) hI qW (s := (B 9 ld).toNat) (sc := scp B n p cp st) k1 (scp_rg hI.1 hL.2.1 p cp st) w2
  refine ⟨W, w1, ?_⟩
  apply sg_205
  refine ⟨_, _, w3, ?_⟩
  simp (disch := omega) only [h9, eV_at, eV_up, o_lit2, o_add, o_sub, o_mul, o_neg, o_div, o_nat, ix_t, o_lt, o_le, o_eq, o_bi0, o_bi1, o_bib, em_t, o_neg1, o_shl, o_tb, o_tb0, o_tt, o_and, o_xor, o_or, o_max, o_min, an_tb, and_true, true_and, not_true, not_false, if_true, if_false, tn_add, tn_mul, Int.reduceToNat, tn_cast, md_x]
  exact ⟨_, _, _, km, rfl⟩
