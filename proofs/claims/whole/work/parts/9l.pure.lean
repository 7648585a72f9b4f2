/-! LEAST FAR: the reference, and the case. -/
theorem b0o_t {p : Prop} [Decidable p] (h : ¬ p) : Int32.ofInt (bi p) = Int32.ofInt 0 := b0_t h
theorem b0o_f {p : Prop} [Decidable p] (h : p) : ¬ Int32.ofInt (bi p) = Int32.ofInt 0 := b0_f h
theorem pc1 {s : Nat} : ∀ {n : Nat}, 1 ≤ pcn s n → ∃ i, i < n ∧ s.testBit i = true
  | 0, h => by simp [pcn] at h
  | n + 1, h => by
    cases q : s.testBit n
    · unfold pcn at h
      rw [q] at h
      obtain ⟨i, hi, hb⟩ := pc1 (n := n) (by simpa using h)
      exact ⟨i, by omega, hb⟩
    · exact ⟨n, by omega, q⟩
theorem pc2 {s : Nat} : ∀ {n : Nat}, 2 ≤ pcn s n → ∃ i j, i < j ∧ j < n ∧ s.testBit i = true ∧ s.testBit j = true
  | 0, h => by simp [pcn] at h
  | n + 1, h => by
    cases q : s.testBit n
    · unfold pcn at h
      rw [q] at h
      obtain ⟨i, j, h1, h2, h3⟩ := pc2 (n := n) (by simpa using h)
      exact ⟨i, j, h1, by omega, h3⟩
    · unfold pcn at h
      rw [q] at h
      obtain ⟨i, hi, hb⟩ := pc1 (s := s) (n := n) (by simp at h; omega)
      exact ⟨i, n, hi, by omega, hb, q⟩
theorem lsj_in {F : Nat → Nat → Int} {s i : Nat} {p : Int × Int × Int} (h : p.2.1 ≠ -1) : ∀ m, (lsj F s i p m).2.1 ≠ -1
  | 0 => h
  | m + 1 => by
    have ih := lsj_in (F := F) (s := s) (i := i) h m
    unfold lsj
    split
    · split
      · dsimp only; omega
      · exact ih
    · exact ih
theorem lsj_at {F : Nat → Nat → Int} {s i : Nat} {p : Int × Int × Int} {k : Nat} (h1 : s.testBit i = true) (h2 : s.testBit (i + 1 + k) = true) : ∀ m, k < m → (lsj F s i p m).2.1 ≠ -1
  | 0, h => by omega
  | m + 1, h => by
    unfold lsj
    by_cases e : k = m
    · subst e
      rw [h1, h2]
      simp only [Bool.and_true, if_true]
      split
      · dsimp only; omega
      · rename_i q; omega
    · have ih := lsj_at (F := F) (p := p) h1 h2 m (by omega)
      split
      · split
        · dsimp only; omega
        · exact ih
      · exact ih
theorem lsi_at {F : Nat → Nat → Int} {s i j : Nat} (hij : i < j) (hj : j < 12) (h1 : s.testBit i = true) (h2 : s.testBit j = true) : ∀ n, i < n → (lsi F s n).2.1 ≠ -1
  | 0, h => by omega
  | n + 1, h => by
    unfold lsi
    by_cases e : i = n
    · subst e
      exact lsj_at (k := j - i - 1) h1 (by rw [show i + 1 + (j - i - 1) = j by omega]; exact h2) _ (by omega)
    · exact lsj_in (lsi_at hij hj h1 h2 n (by omega)) _
def lsR (p : Int × Int × Int) (o t l : Int) : Prop := (-1 ≤ t ∧ t < 12) ∧ (-1 ≤ l ∧ l ≤ 2000) ∧ ((p.2.1 = -1 ∧ o = -1) ∨ (0 ≤ p.2.1 ∧ p.2.1 < 12 ∧ o = p.2.1 ∧ t = p.2.2 ∧ l = p.1))
theorem m_261 {L d : Nat} {xs : Nat → Int32} {V : Nat → Nat → Int} {J : Nat → Nat → Int64} {tg : Option Nat} (hR : RNG V) (hA : RA V 1 94) (hB : RB V 1 94) {s : Nat} (hs : s < 2 ^ (V 1 0).toNat) (w : Int) : ∃ W o t l, (∀ c, c ≠ 97 → c ≠ 98 → W c = V c) ∧ lsR (lsi (FAR V) s 12) o t l ∧ Rch (GW L xs) (d + 4) 261 (38, [.ref 93, (Value.int (Int32.ofInt (s))), (Value.int (Int32.ofInt (w))), (Value.int (Int32.ofInt (-1))), (Value.int (Int32.ofInt (-1))), (Value.int (Int32.ofInt (0))), (Value.int (Int32.ofInt (0))), vU, vU], [], zS (eV V) J tg) (38, [.ref 93, (Value.int (Int32.ofInt (s))), (Value.int (Int32.ofInt (w))), (Value.int (Int32.ofInt (o))), (Value.int (Int32.ofInt (t))), (Value.int (Int32.ofInt (l))), (Value.int (Int32.ofInt (12))), vU, vU], [], zS (eV W) J tg) := by
  have rD : 0 ≤ V 1 0 ∧ V 1 0 ≤ 12 := hR 1 0 (by decide) (by decide)
  have hs12 : s < 4096 := Nat.lt_of_lt_of_le hs (p2_12 (by omega))
  have bits : ∀ t, s.testBit t = true → isT V t := fun t q => by
    have : t < (V 1 0).toNat := Nat.lt_of_not_le fun hle => by rw [tb_hi hs hle] at q; exact Bool.noConfusion q
    left; omega
  have hF : ∀ a b, 0 ≤ FAR V a b ∧ FAR V a b ≤ 2000 := fun a b => ⟨FAR_nn hR a b, by have := FAR_rg hR a b; omega⟩
  have inner : ∀ i, i < 12 → ∀ p, lsok p → ∀ (A : Nat → Nat → Int) (o t l : Int), (∀ c, c ≠ 97 → c ≠ 98 → A c = V c) → lsR p o t l → ∃ σ : (Nat → Nat → Int) × Int × Int × Int, ((∀ c, c ≠ 97 → c ≠ 98 → σ.1 c = V c) ∧ lsR (lsj (FAR V) s i p (11 - i)) σ.2.1 σ.2.2.1 σ.2.2.2) ∧ Rch (GW L xs) (d + 4) 261 (51, [.ref 93, (Value.int (Int32.ofInt (s))), (Value.int (Int32.ofInt (w))), (Value.int (Int32.ofInt (o))), (Value.int (Int32.ofInt (t))), (Value.int (Int32.ofInt (l))), (Value.int (Int32.ofInt (i))), (Value.int (Int32.ofInt (i + 1 + (0 : Nat)))), vU], [], zS (eV A) J tg) (51, [.ref 93, (Value.int (Int32.ofInt (s))), (Value.int (Int32.ofInt (w))), (Value.int (Int32.ofInt (σ.2.1))), (Value.int (Int32.ofInt (σ.2.2.1))), (Value.int (Int32.ofInt (σ.2.2.2))), (Value.int (Int32.ofInt (i))), (Value.int (Int32.ofInt (i + 1 + (11 - i : Nat)))), vU], [], zS (eV σ.1) J tg) := by
    intro i hi p hp A o t l a1 a2
    exact loopN (g := GW L xs) (d := d + 4) (mid := 261) (σ := (Nat → Nat → Int) × Int × Int × Int) (fun m σ => (51, [.ref 93, (Value.int (Int32.ofInt (s))), (Value.int (Int32.ofInt (w))), (Value.int (Int32.ofInt (σ.2.1))), (Value.int (Int32.ofInt (σ.2.2.1))), (Value.int (Int32.ofInt (σ.2.2.2))), (Value.int (Int32.ofInt (i))), (Value.int (Int32.ofInt (i + 1 + (m : Nat)))), vU], [], zS (eV σ.1) J tg)) (fun m σ => (∀ c, c ≠ 97 → c ≠ 98 → σ.1 c = V c) ∧ lsR (lsj (FAR V) s i p m) σ.2.1 σ.2.2.1 σ.2.2.2) (11 - i) (by
      intro m ⟨B, o, t, l⟩ hm ⟨b1, b2⟩
      dsimp only at b1 b2 ⊢
      have hok := lsj_ok (s := s) hF hp hi m (by omega)
      have hls : lsj (FAR V) s i p (m + 1) = if (s.testBit i && s.testBit (i + 1 + m)) then (if (lsj (FAR V) s i p m).2.1 = -1 ∨ FAR V i (i + 1 + m) < (lsj (FAR V) s i p m).1 then (FAR V i (i + 1 + m), (i : Int), ((i + 1 + m : Nat) : Int)) else lsj (FAR V) s i p m) else lsj (FAR V) s i p m := rfl
      generalize lsj (FAR V) s i p m = q at b2 hok hls
      have ej : (i : Int) + 1 + (m : Nat) = ((i + 1 + m : Nat) : Int) := by omega
      unfold lsR at b2
      unfold lsok at hok
      by_cases t1 : s.testBit i = true
      · by_cases t2 : s.testBit (i + 1 + m) = true
        · rw [t1, t2] at hls
          simp only [Bool.and_true, if_true] at hls
          have hRB : RNG B := hR.fr fun c q => b1 c (by omega) (by omega)
          have e1 : B 1 = V 1 := b1 1 (by omega) (by omega)
          obtain ⟨X, x1, x2⟩ := m_197 (L := L) (xs := xs) (J := J) (tg := tg) (d := d) hRB (hA.up (fun p _ => by rw [e1]) (fun p _ => by rw [b1 94 (by omega) (by omega)])) (hB.up hR (by rw [e1]) (by rw [e1]) (b1 2 (by omega) (by omega)) (b1 3 (by omega) (by omega)) (b1 4 (by omega) (by omega)) (fun l w _ _ => by rw [b1 94 (by omega) (by omega)])) (a := i) (b := i + 1 + m) (by unfold isT; rw [e1]; exact bits _ t1) (by unfold isT; rw [e1]; exact bits _ t2)
          rw [FAR_fr e1 (b1 2 (by omega) (by omega)) (b1 3 (by omega) (by omega)) (b1 4 (by omega) (by omega))] at x2
          have hFv := hF i (i + 1 + m)
          have hX : ∀ c, c ≠ 97 → c ≠ 98 → X c = V c := fun c q1 q2 => by rw [x1 c q1 q2]; exact b1 c q1 q2
          by_cases u : q.2.1 = -1 ∨ FAR V i (i + 1 + m) < q.1
          · rw [if_pos u] at hls
            rw [hls]
            refine ⟨(X, (i : Int), ((i + 1 + m : Nat) : Int), FAR V i (i + 1 + m)), ⟨hX, ?_⟩, fun r hr => ?_⟩
            · unfold lsR; dsimp only; omega
            apply sg_261_51
            rw [ej]
            simp (disch := omega) only [eV_at, eV_up, o_lit2, o_add, o_sub, o_mul, o_neg, o_div, o_nat, ix_t, o_lt, o_le, o_eq, o_bi0, o_bi1, o_bib, em_t, o_neg1, o_shl, o_tb, o_tb0, o_tt, o_and, o_xor, o_or, o_max, o_min, an_tb, and_true, true_and, not_true, not_false, if_true, if_false, tn_add, tn_mul, Int.reduceToNat, tn_cast, md_x]
            rw [if_neg (by omega), if_neg (by rw [t1]; decide), if_neg (by rw [t2]; decide)]
            refine ⟨_, _, _, x2, ?_⟩
            simp (disch := omega) only [eV_at, eV_up, o_lit2, o_add, o_sub, o_mul, o_neg, o_div, o_nat, ix_t, o_lt, o_le, o_eq, o_bi0, o_bi1, o_bib, em_t, o_neg1, o_shl, o_tb, o_tb0, o_tt, o_and, o_xor, o_or, o_max, o_min, an_tb, and_true, true_and, not_true, not_false, if_true, if_false, tn_add, tn_mul, Int.reduceToNat, tn_cast, md_x]
            by_cases c1 : o < 0
            · rw [if_pos c1]; exact hr
            · rw [if_neg c1, if_pos (by omega)]; exact hr
          · rw [if_neg u] at hls
            rw [hls]
            refine ⟨(X, o, t, l), ⟨hX, b2⟩, fun r hr => ?_⟩
            apply sg_261_51
            rw [ej]
            simp (disch := omega) only [eV_at, eV_up, o_lit2, o_add, o_sub, o_mul, o_neg, o_div, o_nat, ix_t, o_lt, o_le, o_eq, o_bi0, o_bi1, o_bib, em_t, o_neg1, o_shl, o_tb, o_tb0, o_tt, o_and, o_xor, o_or, o_max, o_min, an_tb, and_true, true_and, not_true, not_false, if_true, if_false, tn_add, tn_mul, Int.reduceToNat, tn_cast, md_x]
            rw [if_neg (by omega), if_neg (by rw [t1]; decide), if_neg (by rw [t2]; decide)]
            refine ⟨_, _, _, x2, ?_⟩
            simp (disch := omega) only [eV_at, eV_up, o_lit2, o_add, o_sub, o_mul, o_neg, o_div, o_nat, ix_t, o_lt, o_le, o_eq, o_bi0, o_bi1, o_bib, em_t, o_neg1, o_shl, o_tb, o_tb0, o_tt, o_and, o_xor, o_or, o_max, o_min, an_tb, and_true, true_and, not_true, not_false, if_true, if_false, tn_add, tn_mul, Int.reduceToNat, tn_cast, md_x]
            rw [if_neg (by omega), if_neg (by omega)]
            exact hr
        · have t2' : s.testBit (i + 1 + m) = false := by cases h : s.testBit (i + 1 + m) <;> simp_all
          rw [t2', Bool.and_false, if_neg (by decide)] at hls
          rw [hls]
          refine ⟨(B, o, t, l), ⟨b1, b2⟩, fun r hr => ?_⟩
          apply sg_261_51
          rw [ej]
          simp (disch := omega) only [eV_at, eV_up, o_lit2, o_add, o_sub, o_mul, o_neg, o_div, o_nat, ix_t, o_lt, o_le, o_eq, o_bi0, o_bi1, o_bib, em_t, o_neg1, o_shl, o_tb, o_tb0, o_tt, o_and, o_xor, o_or, o_max, o_min, an_tb, and_true, true_and, not_true, not_false, if_true, if_false, tn_add, tn_mul, Int.reduceToNat, tn_cast, md_x]
          rw [if_neg (by omega), if_neg (by rw [t1]; decide), if_pos t2']
          exact hr
      · have t1' : s.testBit i = false := by cases h : s.testBit i <;> simp_all
        rw [t1', Bool.false_and, if_neg (by decide)] at hls
        rw [hls]
        refine ⟨(B, o, t, l), ⟨b1, b2⟩, fun r hr => ?_⟩
        apply sg_261_51
        rw [ej]
        simp (disch := omega) only [eV_at, eV_up, o_lit2, o_add, o_sub, o_mul, o_neg, o_div, o_nat, ix_t, o_lt, o_le, o_eq, o_bi0, o_bi1, o_bib, em_t, o_neg1, o_shl, o_tb, o_tb0, o_tt, o_and, o_xor, o_or, o_max, o_min, an_tb, and_true, true_and, not_true, not_false, if_true, if_false, tn_add, tn_mul, Int.reduceToNat, tn_cast, md_x]
        rw [if_neg (by omega), if_pos t1']
        exact hr) (11 - i) 0 (A, o, t, l) (by omega) ⟨a1, a2⟩
  obtain ⟨⟨W, o, t, l⟩, ⟨w1, w2⟩, hr⟩ := loopN (g := GW L xs) (d := d + 4) (mid := 261) (σ := (Nat → Nat → Int) × Int × Int × Int) (fun i σ => (38, [.ref 93, (Value.int (Int32.ofInt (s))), (Value.int (Int32.ofInt (w))), (Value.int (Int32.ofInt (σ.2.1))), (Value.int (Int32.ofInt (σ.2.2.1))), (Value.int (Int32.ofInt (σ.2.2.2))), (Value.int (Int32.ofInt (i))), vU, vU], [], zS (eV σ.1) J tg)) (fun i σ => (∀ c, c ≠ 97 → c ≠ 98 → σ.1 c = V c) ∧ lsR (lsi (FAR V) s i) σ.2.1 σ.2.2.1 σ.2.2.2) 12 (by
    intro i ⟨A, o, t, l⟩ hi ⟨a1, a2⟩
    obtain ⟨σ, hσ, hr⟩ := inner i hi _ (lsi_ok hF i (by omega)) A o t l a1 a2
    refine ⟨σ, hσ, fun r h => ?_⟩
    apply sg_261_38
    simp (disch := omega) only [eV_at, eV_up, o_lit2, o_add, o_sub, o_mul, o_neg, o_div, o_nat, ix_t, o_lt, o_le, o_eq, o_bi0, o_bi1, o_bib, em_t, o_neg1, o_shl, o_tb, o_tb0, o_tt, o_and, o_xor, o_or, o_max, o_min, an_tb, and_true, true_and, not_true, not_false, if_true, if_false, tn_add, tn_mul, Int.reduceToNat, tn_cast, md_x]
    rw [if_neg (by omega)]
    have e0 : (i : Int) + 1 + (0 : Nat) = (i : Int) + 1 := by omega
    rw [e0] at hr
    refine hr r ?_
    apply sg_261_51
    rw [show (i : Int) + 1 + (11 - i : Nat) = 12 by omega]
    simp (disch := omega) only [eV_at, eV_up, o_lit2, o_add, o_sub, o_mul, o_neg, o_div, o_nat, ix_t, o_lt, o_le, o_eq, o_bi0, o_bi1, o_bib, em_t, o_neg1, o_shl, o_tb, o_tb0, o_tt, o_and, o_xor, o_or, o_max, o_min, an_tb, and_true, true_and, not_true, not_false, if_true, if_false, tn_add, tn_mul, Int.reduceToNat, tn_cast, md_x]
    rw [if_pos (by omega)] <;> exact h) 12 0 (V, -1, -1, 0) (by omega) ⟨fun _ _ _ => rfl, by unfold lsR lsi; dsimp only; omega⟩
  exact ⟨W, o, t, l, w1, w2, hr⟩
theorem c_least {L : Nat} {xs : Nat → Int32} {V : Nat → Nat → Int} {J : Nat → Nat → Int64} {tg : Option Nat} (h : INV V) {a b : Int} (ha : (-2147483648 ≤ a ∧ a < 2147483648)) (hb : (-2147483648 ≤ b ∧ b < 2147483648)) : ∃ (v : Int) (U W : Nat → Nat → Int) (J1 : Nat → Nat → Int64), Runs (GW L xs) 40 138 (0, [.ref 0, (Value.int (Int32.ofInt (a))), (Value.int (Int32.ofInt (b)))], [], zS (eV V) J tg) (some (Value.int (Int32.ofInt v)), zS (eV U) J tg) ∧ Runs (GW L xs) 40 261 (0, [.ref 93, (Value.int (Int32.ofInt (a))), (Value.int (Int32.ofInt (b))), vU, vU, vU, vU, vU, vU], [], zS (eV U) J tg) (some (Value.int (Int32.ofInt v)), zS (eV W) J1 tg) ∧ INV W := by
  have h0 := h
  obtain ⟨hR, ⟨hA, hB, hC, hD, hE, hF, hH⟩, h2, h3, h4, h5⟩ := h
  have rD : 0 ≤ V 1 0 ∧ V 1 0 ≤ 12 := hR 1 0 (by decide) (by decide)
  have rT : 0 ≤ V 1 1 ∧ V 1 1 ≤ 12 := hR 1 1 (by decide) (by decide)
  have h4096 : (2 ^ (V 1 0).toNat : Nat) ≤ 4096 := p2_12 (by omega)
  by_cases g1 : 0 ≤ a ∧ a < (2 ^ (V 1 0).toNat : Nat)
  · obtain ⟨s, rfl⟩ : ∃ n : Nat, a = n := ⟨a.toNat, by omega⟩
    have hs : s < 4096 := by omega
    have hp12 := pcn_le s 12
    have hp0 : ∀ (e : s = 0), pcn s 12 = 0 := fun e => by subst e; decide
    by_cases g2 : 0 ≤ b ∧ b ≤ 2
    · by_cases g3 : 2 ≤ pcn s 12
      · obtain ⟨i, j, hij, hj, b1, b2⟩ := pc2 g3
        have hne := lsi_at (F := FAR V) hij hj b1 b2 12 (by omega)
        obtain ⟨U, u1, u2, u3, u4, u5⟩ := k_14 (L := L) (xs := xs) (J := J) (tg := tg) (d := 35) hR h3 hs
        obtain ⟨u41, u42⟩ := u4 hne
        have qU : Qy V U := ⟨fun c _ => u1 c (by omega) (by omega), fun p _ => by rw [u1 94 (by omega) (by omega)], fun p _ => by rw [u1 93 (by omega) (by omega)], u2⟩
        obtain ⟨hRU, ⟨hAU, hBU, -, -, -, -, -⟩, -, -, -, -⟩ := h0.q qU
        have e1 : U 1 = V 1 := u1 1 (by omega) (by omega)
        obtain ⟨W, o, t, l, w1, w2, w3⟩ := m_261 (L := L) (xs := xs) (J := J) (tg := tg) (d := 36) hRU hAU hBU (s := s) (by rw [e1]; omega) b
        rw [FAR_fr e1 (u1 2 (by omega) (by omega)) (u1 3 (by omega) (by omega)) (u1 4 (by omega) (by omega))] at w2
        have hok := lsi_ok (F := FAR V) (s := s) (fun a b => ⟨FAR_nn hR a b, by have := FAR_rg hR a b; omega⟩) 12 (by omega)
        generalize lsi (FAR V) s 12 = q at u3 u41 u42 w2 hne hok
        unfold lsR at w2
        unfold lsok at hok
        have qW : Qy U W := ⟨fun c _ => w1 c (by omega) (by omega), fun p _ => by rw [w1 94 (by omega) (by omega)], fun p _ => by rw [w1 93 (by omega) (by omega)], u2.up (w1 1 (by omega) (by omega)) (w1 2 (by omega) (by omega)) (w1 3 (by omega) (by omega)) (w1 4 (by omega) (by omega)) (w1 71 (by omega) (by omega)) (w1 81 (by omega) (by omega))⟩
        have eo : o = q.2.1 ∧ t = q.2.2 ∧ l = q.1 := by omega
        obtain ⟨rfl, rfl, rfl⟩ := eo
        obtain ⟨v, hv⟩ : ∃ v : Int, v = if b = 0 then q.1 else if b = 1 then q.2.1 else q.2.2 := ⟨_, rfl⟩
        refine ⟨v, U, W, J, ?_, ?_, h0.q (qU.tr qW)⟩
        · apply sg_138
          refine ⟨_, _, k_47 hR ha, ?_⟩
          rw [if_neg (b0_f g1)]
          refine ⟨_, _, k_164 (a := 0) (b := 2) hb (by omega) (by omega), ?_⟩
          rw [if_neg (b0_f g2)]
          refine ⟨_, _, k_300 hs, ?_⟩
          simp (disch := omega) only [eV_at, eV_up, o_lit2, o_add, o_sub, o_mul, o_neg, o_div, o_nat, ix_t, o_lt, o_le, o_eq, o_bi0, o_bi1, o_bib, em_t, o_neg1, o_shl, o_tb, o_tb0, o_tt, o_and, o_xor, o_or, o_max, o_min, an_tb, and_true, true_and, not_true, not_false, if_true, if_false, tn_add, tn_mul, Int.reduceToNat, tn_cast, md_x]
          rw [if_pos (by omega)]
          refine ⟨_, u5, ?_⟩
          simp (disch := omega) only [u3, u41, u42, eV_at, eV_up, o_lit2, o_add, o_sub, o_mul, o_neg, o_div, o_nat, ix_t, o_lt, o_le, o_eq, o_bi0, o_bi1, o_bib, em_t, o_neg1, o_shl, o_tb, o_tb0, o_tt, o_and, o_xor, o_or, o_max, o_min, an_tb, and_true, true_and, not_true, not_false, if_true, if_false, tn_add, tn_mul, Int.reduceToNat, tn_cast, md_x]
          rw [hv]
          by_cases c0 : b = 0
          · rw [if_pos c0, if_pos c0]
          · rw [if_neg c0, if_neg c0]
            by_cases c1 : b = 1
            · rw [if_pos c1, if_pos c1]
            · rw [if_neg c1, if_neg c1]
        · apply sg_261
          refine ⟨_, _, _, m_260 hRU hAU ha, ?_⟩
          rw [if_neg (b0_f (by rw [e1]; omega))]
          refine ⟨_, _, _, k_185 hs, ?_⟩
          simp (disch := omega) only [eV_at, eV_up, o_lit2, o_add, o_sub, o_mul, o_neg, o_div, o_nat, ix_t, o_lt, o_le, o_eq, o_bi0, o_bi1, o_bib, em_t, o_neg1, o_shl, o_tb, o_tb0, o_tt, o_and, o_xor, o_or, o_max, o_min, an_tb, and_true, true_and, not_true, not_false, if_true, if_false, tn_add, tn_mul, Int.reduceToNat, tn_cast, md_x]
          rw [if_neg (by omega)]
          refine ⟨_, _, _, k_177 (a := 0) (b := 2) hb (by omega) (by omega), ?_⟩
          rw [if_neg (b0o_f g2)]
          refine w3 _ ?_
          apply sg_261_38
          simp (disch := omega) only [eV_at, eV_up, o_lit2, o_add, o_sub, o_mul, o_neg, o_div, o_nat, ix_t, o_lt, o_le, o_eq, o_bi0, o_bi1, o_bib, em_t, o_neg1, o_shl, o_tb, o_tb0, o_tt, o_and, o_xor, o_or, o_max, o_min, an_tb, and_true, true_and, not_true, not_false, if_true, if_false, tn_add, tn_mul, Int.reduceToNat, tn_cast, md_x]
          rw [if_pos (by omega), hv]
          by_cases c0 : b = 0
          · rw [if_pos c0, if_pos c0]
          · rw [if_neg c0, if_neg c0]
            by_cases c1 : b = 1
            · rw [if_pos c1, if_pos c1]
            · rw [if_neg c1, if_neg c1]
      · refine ⟨-1, V, V, J, ?_, ?_, h0⟩
        · apply sg_138
          refine ⟨_, _, k_47 hR ha, ?_⟩
          rw [if_neg (b0_f g1)]
          refine ⟨_, _, k_164 (a := 0) (b := 2) hb (by omega) (by omega), ?_⟩
          rw [if_neg (b0_f g2)]
          refine ⟨_, _, k_300 hs, ?_⟩
          simp (disch := omega) only [eV_at, eV_up, o_lit2, o_add, o_sub, o_mul, o_neg, o_div, o_nat, ix_t, o_lt, o_le, o_eq, o_bi0, o_bi1, o_bib, em_t, o_neg1, o_shl, o_tb, o_tb0, o_tt, o_and, o_xor, o_or, o_max, o_min, an_tb, and_true, true_and, not_true, not_false, if_true, if_false, tn_add, tn_mul, Int.reduceToNat, tn_cast, md_x]
          rw [if_neg (by omega)] <;> first | rfl | trivial
        · apply sg_261
          refine ⟨_, _, _, m_260 hR hA ha, ?_⟩
          by_cases z : s = 0
          · rw [if_pos (b0_t (by omega))] <;> first | rfl | trivial
          · rw [if_neg (b0_f (by omega))]
            refine ⟨_, _, _, k_185 hs, ?_⟩
            simp (disch := omega) only [eV_at, eV_up, o_lit2, o_add, o_sub, o_mul, o_neg, o_div, o_nat, ix_t, o_lt, o_le, o_eq, o_bi0, o_bi1, o_bib, em_t, o_neg1, o_shl, o_tb, o_tb0, o_tt, o_and, o_xor, o_or, o_max, o_min, an_tb, and_true, true_and, not_true, not_false, if_true, if_false, tn_add, tn_mul, Int.reduceToNat, tn_cast, md_x]
            rw [if_pos (by omega)] <;> first | rfl | trivial
    · refine ⟨-1, V, V, J, ?_, ?_, h0⟩
      · apply sg_138
        refine ⟨_, _, k_47 hR ha, ?_⟩
        rw [if_neg (b0_f g1)]
        refine ⟨_, _, k_164 (a := 0) (b := 2) hb (by omega) (by omega), ?_⟩
        rw [if_pos (b0_t g2)] <;> first | rfl | trivial
      · apply sg_261
        refine ⟨_, _, _, m_260 hR hA ha, ?_⟩
        by_cases z : s = 0
        · rw [if_pos (b0_t (by omega))] <;> first | rfl | trivial
        · rw [if_neg (b0_f (by omega))]
          refine ⟨_, _, _, k_185 hs, ?_⟩
          simp (disch := omega) only [eV_at, eV_up, o_lit2, o_add, o_sub, o_mul, o_neg, o_div, o_nat, ix_t, o_lt, o_le, o_eq, o_bi0, o_bi1, o_bib, em_t, o_neg1, o_shl, o_tb, o_tb0, o_tt, o_and, o_xor, o_or, o_max, o_min, an_tb, and_true, true_and, not_true, not_false, if_true, if_false, tn_add, tn_mul, Int.reduceToNat, tn_cast, md_x]
          by_cases g3 : pcn s 12 < 2
          · rw [if_pos (by omega)] <;> first | rfl | trivial
          · rw [if_neg (by omega)]
            refine ⟨_, _, _, k_177 (a := 0) (b := 2) hb (by omega) (by omega), ?_⟩
            rw [if_pos (b0o_t g2)] <;> first | rfl | trivial
  · refine ⟨-1, V, V, J, ?_, ?_, h0⟩
    · apply sg_138
      refine ⟨_, _, k_47 hR ha, ?_⟩
      rw [if_pos (b0_t g1)] <;> first | rfl | trivial
    · apply sg_261
      refine ⟨_, _, _, m_260 hR hA ha, ?_⟩
      rw [if_pos (b0_t (by omega))] <;> first | rfl | trivial
