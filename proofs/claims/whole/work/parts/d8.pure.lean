/-! The reference's next token. -/
def rK (b : Nat → Int) (N f : Nat) : Int := if N ≤ f then 0 else if isD (b f) = true then 1 else if isL (b f) = true then 2 else if dbl b N f then (if b f = 60 then 4 else 5) else if sgn (b f) = 1 then 3 else b f
section LR
variable {L d : Nat} {xs : Nat → Int32} {V : Nat → Nat → Int} {J : Nat → Nat → Int64} {tg : Option Nat} {b : Nat → Int} {N : Nat}
/-- blanks first -/
theorem m_213s (hT : TPR V b N) {p f : Nat} (hp : p ≤ N) (hf : f = en isW b N p) (h13 : V 93 13 = p) : ∃ W : Nat → Nat → Int, (∀ c, c ≠ 93 → W c = V c) ∧ (∀ x, x ≠ 13 → x ≠ 14 → W 93 x = V 93 x) ∧ W 93 13 = f ∧ W 93 14 = f ∧ ∀ r, (if 0 ≤ gby b N f then (∃ (v157 : Int32) (I158 : Nat → Nat → Int32) (J159 : Nat → Nat → Int64), Runs (GW L xs) (d + 1) 212 (0, [(Value.int (Int32.ofInt (gby b N f)))], [], zS (eV W) J tg) (some (.int v157), zS I158 J159 tg) ∧ (if v157 = 0 then (∃ (v160 : Int32) (I161 : Nat → Nat → Int32) (J162 : Nat → Nat → Int64), Runs (GW L xs) (d + 1) 211 (0, [(Value.int (Int32.ofInt (gby b N f)))], [], zS I158 J159 tg) (some (.int v160), zS I161 J162 tg) ∧ (if v160 = 0 then (if sgn (gby b N f) = 1 then Runs (GW L xs) (d + 2) 213 (320, [.ref 93, (Value.int (Int32.ofInt (gby b N f))), vU], [.int 0], zS (up2 I161 93 13 ((I161 93 13) + 1)) J162 tg) r else Runs (GW L xs) (d + 2) 213 (315, [.ref 93, (Value.int (Int32.ofInt (gby b N f))), vU], [], zS (up2 I161 93 13 ((I161 93 13) + 1)) J162 tg) r) else (Runs (GW L xs) (d + 2) 213 (161, [.ref 93, (Value.int (Int32.ofInt (gby b N f))), vU], [], zS (up2 I161 93 15 2) (up2 J162 93 17 0) tg) r))) else (Runs (GW L xs) (d + 2) 213 (85, [.ref 93, (Value.int (Int32.ofInt (gby b N f))), vU], [], zS (up2 (up2 I158 93 15 1) 93 16 0) J159 tg) r))) else r = (none, zS (eV (up2 W 93 15 0)) J tg)) → Runs (GW L xs) (d + 2) 213 (0, [.ref 93, vU, vU], [], zS (eV V) J tg) r := by
  obtain ⟨t1, t2, t3⟩ := id hT
  obtain ⟨e1, e2, e3, e4⟩ := en_ch (f := isW) (b := b) hp
  rw [← hf] at e1 e2 e3 e4
  have hw : ∀ a : Int, isW a = true ↔ a = 32 ∨ a = 10 := fun a => by unfold isW; rw [decide_eq_true_iff]
  obtain ⟨W, ⟨-, i1, i2, i3⟩, hr⟩ := loopN (g := GW L xs) (d := d + 2) (mid := 213) (σ := Nat → Nat → Int) (fun _ W => (0, [.ref 93, vU, vU], [], zS (eV W) J tg)) (fun i W => p ≤ i ∧ (∀ c, c ≠ 93 → W c = V c) ∧ (∀ x, x ≠ 13 → W 93 x = V 93 x) ∧ W 93 13 = (i : Int)) f (by
    intro i W hi ⟨i0, i1, i2, i3⟩
    have hTW : TPR W b N := hT.up (i2 7 (by decide)) (i1 100 (by decide))
    have k0 := m_210 (L := L) (xs := xs) (J := J) (tg := tg) (d := d + 1) hTW (p := i) (by omega)
    have hg : gby b N i = b i := by unfold gby; rw [if_neg (by omega)]
    rw [hg] at k0
    have hW := (hw _).mp (e3 i i0 hi)
    refine ⟨up2 W 93 13 (i + 1 : Int), ⟨by omega, fun c hc => by rw [w_ne _ _ _ _ hc]; exact i1 c hc, fun x hx => by rw [w_at, if_neg hx]; exact i2 x hx, by rw [w_eq]; rfl⟩, fun r hr => ?_⟩
    have back : Runs (GW L xs) (d + 2) 213 (26, [.ref 93, vU, vU], [], zS (eV W) J tg) r := by
      apply sg_213_26
      simp (disch := omega) only [i3, eV_at, eV_up, o_lit2, o_add, o_sub, o_mul, o_neg, o_div, o_nat, ix_t, o_lt, o_le, o_eq, o_bi0, o_bi1, o_bib, em_t, o_neg1, o_shl, o_tb, o_tb0, o_tt, o_and, o_xor, o_or, o_max, o_min, an_tb, and_true, true_and, not_true, not_false, if_true, if_false, tn_add, tn_mul, Int.reduceToNat, tn_cast, md_x]
      exact hr
    apply sg_213_0
    rw [eV_at, i3]
    refine ⟨_, _, _, k0, ?_⟩
    by_cases c : b i = 32
    · rw [if_pos (by rw [c]; rfl)]; exact back
    · rw [if_neg (by rw [show (32 : Int32) = Int32.ofInt 32 from rfl, o_eq (by omega) (by omega)]; exact c)]
      rw [eV_at, i3]
      refine ⟨_, _, _, k0, ?_⟩
      rw [if_pos (by rw [show b i = 10 by omega]; rfl)]; exact back) (f - p) p V (by omega) ⟨Nat.le_refl _, fun _ _ => rfl, fun _ _ => rfl, h13⟩
  have hTW : TPR W b N := hT.up (i2 7 (by decide)) (i1 100 (by decide))
  have hTU : TPR (up2 W 93 14 f) b N := hTW.up (by rw [w_at, if_neg (by decide)]) (w_ne _ _ _ _ (by decide))
  have k0 := m_210 (L := L) (xs := xs) (J := J) (tg := tg) (d := d + 1) hTW (p := f) (by omega)
  have k1 := m_210 (L := L) (xs := xs) (J := J) (tg := tg) (d := d + 1) hTU (p := f) (by omega)
  have hgr := gby_rg (p := f) hTW
  have hnw : ¬ (gby b N f = 32 ∨ gby b N f = 10) := fun h => e4 ((gby_t isW_n).mp ((hw _).mpr h))
  refine ⟨up2 W 93 14 f, fun c hc => by rw [w_ne _ _ _ _ hc]; exact i1 c hc, fun x h1 h2 => by rw [w_at, if_neg h2]; exact i2 x h1, by rw [w_at, if_neg (by decide)]; exact i3, w_eq _ _ _ _, fun r h => hr _ ?_⟩
  generalize gby b N f = g at *
  apply sg_213
  rw [eV_at, i3]
  refine ⟨_, _, _, k0, ?_⟩
  rw [if_neg (by rw [show (32 : Int32) = Int32.ofInt 32 from rfl, o_eq (by omega) (by omega)]; omega)]
  rw [eV_at, i3]
  refine ⟨_, _, _, k0, ?_⟩
  rw [if_neg (by rw [show (10 : Int32) = Int32.ofInt 10 from rfl, o_eq (by omega) (by omega)]; omega)]
  rw [eV_at, i3, eV_up]
  refine ⟨_, _, _, k1, ?_⟩
  by_cases c : 0 ≤ g
  · rw [if_pos c] at h
    obtain ⟨v, I, J', q1, q2⟩ := h
    refine ite_p (by rw [show (0 : Int32) = Int32.ofInt 0 from rfl, o_le (by omega) (by omega)]; exact c) ⟨v, I, J', q1, ?_⟩
    by_cases v0 : v = 0
    · rw [if_pos v0] at q2
      obtain ⟨v2, I2, J2, q3, q4⟩ := q2
      refine ite_p v0 ⟨v2, I2, J2, q3, ?_⟩
      by_cases v20 : v2 = 0
      · rw [if_pos v20] at q4
        refine ite_p v20 ?_
        by_cases c60 : g = 60
        · rw [if_neg (by rw [c60]; decide)] at q4
          exact ite_p (by rw [c60]; rfl) q4
        refine ite_n (by rw [show (60 : Int32) = Int32.ofInt 60 from rfl, o_eq (by omega) (by omega)]; exact c60) ?_
        by_cases c62 : g = 62
        · rw [if_neg (by rw [c62]; decide)] at q4
          exact ite_p (by rw [c62]; rfl) q4
        refine ite_n (by rw [show (62 : Int32) = Int32.ofInt 62 from rfl, o_eq (by omega) (by omega)]; exact c62) ?_
        by_cases c61 : g = 61
        · rw [if_neg (by rw [c61]; decide)] at q4
          exact ite_p (by rw [c61]; rfl) q4
        refine ite_n (by rw [show (61 : Int32) = Int32.ofInt 61 from rfl, o_eq (by omega) (by omega)]; exact c61) ?_
        by_cases c35 : g = 35
        · rw [if_neg (by rw [c35]; decide)] at q4
          exact ite_p (by rw [c35]; rfl) q4
        refine ite_n (by rw [show (35 : Int32) = Int32.ofInt 35 from rfl, o_eq (by omega) (by omega)]; exact c35) ?_
        by_cases c43 : g = 43
        · rw [if_neg (by rw [c43]; decide)] at q4
          exact ite_p (by rw [c43]; rfl) q4
        refine ite_n (by rw [show (43 : Int32) = Int32.ofInt 43 from rfl, o_eq (by omega) (by omega)]; exact c43) ?_
        by_cases c45 : g = 45
        · rw [if_neg (by rw [c45]; decide)] at q4
          exact ite_p (by rw [c45]; rfl) q4
        refine ite_n (by rw [show (45 : Int32) = Int32.ofInt 45 from rfl, o_eq (by omega) (by omega)]; exact c45) ?_
        by_cases c42 : g = 42
        · rw [if_neg (by rw [c42]; decide)] at q4
          exact ite_p (by rw [c42]; rfl) q4
        refine ite_n (by rw [show (42 : Int32) = Int32.ofInt 42 from rfl, o_eq (by omega) (by omega)]; exact c42) ?_
        by_cases c40 : g = 40
        · rw [if_neg (by rw [c40]; decide)] at q4
          exact ite_p (by rw [c40]; rfl) q4
        refine ite_n (by rw [show (40 : Int32) = Int32.ofInt 40 from rfl, o_eq (by omega) (by omega)]; exact c40) ?_
        by_cases c41 : g = 41
        · rw [if_neg (by rw [c41]; decide)] at q4
          exact ite_p (by rw [c41]; rfl) q4
        refine ite_n (by rw [show (41 : Int32) = Int32.ofInt 41 from rfl, o_eq (by omega) (by omega)]; exact c41) ?_
        by_cases c59 : g = 59
        · rw [if_neg (by rw [c59]; decide)] at q4
          exact ite_p (by rw [c59]; rfl) q4
        refine ite_n (by rw [show (59 : Int32) = Int32.ofInt 59 from rfl, o_eq (by omega) (by omega)]; exact c59) ?_
        rw [if_pos (by unfold sgn; (repeat' split) <;> omega)] at q4
        exact q4
      · rw [if_neg v20] at q4
        exact ite_n v20 q4
    · rw [if_neg v0] at q2
      exact ite_n v0 q2
  · rw [if_neg c] at h
    refine ite_n (by rw [show (0 : Int32) = Int32.ofInt 0 from rfl, o_le (by omega) (by omega)]; exact c) ?_
    rw [h]
    rw [show (0 : Int32) = Int32.ofInt 0 from rfl, eV_up]
end LR
