/-! What a grammar's names stand for. -/
def fcn (p : Nat → Int) (k : Nat) : Nat → Int
  | 0 => 0
  | n + 1 => fcn p k n + (if p n / 36 = (k : Int) then 1 else 0)
theorem fcn_s {p : Nat → Int} {k n : Nat} : fcn p k (n + 1) = fcn p k n + (if p n / 36 = (k : Int) then 1 else 0) := rfl
theorem fcn_rg (p : Nat → Int) (k : Nat) : ∀ n, 0 ≤ fcn p k n ∧ fcn p k n ≤ n
  | 0 => by simp [fcn]
  | n + 1 => by have := fcn_rg p k n; unfold fcn; split <;> omega
theorem fcn_cg {p q : Nat → Int} {k : Nat} : ∀ {n : Nat}, (∀ i, i < n → p i = q i) → fcn p k n = fcn q k n
  | 0, _ => rfl
  | n + 1, h => by unfold fcn; rw [fcn_cg (fun i hi => h i (by omega) : ∀ i, i < n → p i = q i), h n (by omega)]
def fct (V : Nat → Nat → Int) (dr n : Nat) (p : Nat → Int) (k : Nat) : Int := if k < 5 then fcn p k n else if k = 5 then n else if k = 6 then V 4 dr else if k = 7 then V 5 dr else 0
theorem fct_rg {V : Nat → Nat → Int} (hR : RNG V) {dr n : Nat} (hn : n ≤ 300) (p : Nat → Int) (k : Nat) : -1000 ≤ fct V dr n p k ∧ fct V dr n p k ≤ 1000 := by
  have h1 := fcn_rg p k n
  have h2 : 0 ≤ V 4 dr ∧ V 4 dr ≤ 3 := hR 4 dr (by decide) (by decide)
  have h3 : -1 ≤ V 5 dr ∧ V 5 dr ≤ 11 := hR 5 dr (by decide) (by decide)
  unfold fct
  split
  · omega
  · split
    · omega
    · split
      · omega
      · split <;> omega
theorem fct_cg {V : Nat → Nat → Int} {dr n : Nat} {p q : Nat → Int} (h : ∀ i, i < n → p i = q i) : fct V dr n p = fct V dr n q := by
  funext k
  unfold fct
  rw [fcn_cg h]
theorem k_97_2 {L d : Nat} {xs : Nat → Int32} {V : Nat → Nat → Int} {J : Nat → Nat → Int64} {tg : Option Nat} (hR : RNG V) {dr st f n : Nat} (hd : dr < 12) (hf : f + n ≤ 144) (hc : ∀ i, i < n → 0 ≤ V 2 (f + i) ∧ V 2 (f + i) < 180) : ∃ W, (∀ c, c ≠ 75 → c ≠ 78 → W c = V c) ∧ (∀ p, p ≠ 8 → p ≠ 9 → W 75 p = V 75 p) ∧ W 75 8 = (dr : Int) ∧ W 75 9 = (st : Int) ∧ (∀ k, k < 12 → W 78 k = fct V dr n (fun i => V 2 (f + i)) k) ∧ Runs (GW L xs) (d + 1) 97 (0, [.ref 75, (Value.int (Int32.ofInt (dr))), (Value.int (Int32.ofInt (st))), .ref 2, (Value.int (Int32.ofInt (f))), (Value.int (Int32.ofInt (n))), vU], [], zS (eV (V)) J tg) (none, zS (eV (W)) J tg) := by
  obtain ⟨W, ⟨i1, i2, i3, i4, i5⟩, hr⟩ := loopN (g := GW L xs) (d := d + 1) (mid := 97) (σ := Nat → Nat → Int) (fun i W => (21, [.ref 75, (Value.int (Int32.ofInt (dr))), (Value.int (Int32.ofInt (st))), .ref 2, (Value.int (Int32.ofInt (f))), (Value.int (Int32.ofInt (n))), (Value.int (Int32.ofInt (i)))], [], zS (eV W) J tg)) (fun i W => (∀ c, c ≠ 75 → c ≠ 78 → W c = V c) ∧ (∀ p, p ≠ 8 → p ≠ 9 → W 75 p = V 75 p) ∧ W 75 8 = (dr : Int) ∧ W 75 9 = (st : Int) ∧ ∀ k, k < 12 → W 78 k = if k < 5 then fcn (fun i => V 2 (f + i)) k i else 0) n (by
    intro i W hi ⟨i1, i2, i3, i4, i5⟩
    have hci := hc i hi
    have eC : W 2 (f + i) = V 2 (f + i) := by rw [i1 2 (by decide) (by decide)]
    obtain ⟨v, hv⟩ : ∃ v : Nat, V 2 (f + i) / 36 = v := ⟨(V 2 (f + i) / 36).toNat, by omega⟩
    have hv5 : v < 5 := by omega
    refine ⟨up2 W 78 v (W 78 v + 1), ⟨fun c q1 q2 => by rw [w_ne _ _ _ _ q2]; exact i1 c q1 q2, fun p q1 q2 => by rw [w_ne _ _ _ _ (by decide)]; exact i2 p q1 q2, by rw [w_ne _ _ _ _ (by decide)]; exact i3, by rw [w_ne _ _ _ _ (by decide)]; exact i4, fun k hk => ?_⟩, fun r hr => ?_⟩
    · rw [w_at, i5 v (by omega), if_pos hv5]
      by_cases q : k = v
      · subst q; rw [if_pos rfl, if_pos hv5, fcn_s, if_pos hv]
      · rw [if_neg q, i5 k hk]
        split
        · rw [fcn_s, if_neg (by omega)]; omega
        · rfl
    · apply sg_97c2_21
      simp (disch := omega) only [eC, eV_at, eV_up, o_lit2, o_add, o_sub, o_mul, o_neg, o_div, o_nat, ix_t, o_lt, o_le, o_eq, o_bi0, o_bi1, o_bib, em_t, o_neg1, o_shl, o_tb, o_tb0, o_tt, o_and, o_xor, o_or, o_max, o_min, an_tb, and_true, true_and, not_true, not_false, if_true, if_false, tn_add, tn_mul, Int.reduceToNat, tn_cast, md_x]
      rw [if_neg (by omega)]
      refine ⟨_, _, k_170 (by omega), ?_⟩
      simp (disch := omega) only [hv, eV_at, eV_up, o_lit2, o_add, o_sub, o_mul, o_neg, o_div, o_nat, ix_t, o_lt, o_le, o_eq, o_bi0, o_bi1, o_bib, em_t, o_neg1, o_shl, o_tb, o_tb0, o_tt, o_and, o_xor, o_or, o_max, o_min, an_tb, and_true, true_and, not_true, not_false, if_true, if_false, tn_add, tn_mul, Int.reduceToNat, tn_cast, md_x]
      exact hr) n 0 (flV (up2 (up2 V 75 8 dr) 75 9 st) 78 12 0) (by omega) ⟨fun c q1 q2 => by rw [flV_ne q2, w_ne _ _ _ _ q1, w_ne _ _ _ _ q1], fun p q1 q2 => by rw [flV_ne (by decide), w_at, if_neg q2, w_at, if_neg q1], by rw [flV_ne (by decide), w_at, if_neg (by decide), w_eq], by rw [flV_ne (by decide), w_eq], fun k hk => by rw [flV_at, if_pos hk]; split <;> rfl⟩
  have e4 : W 4 = V 4 := i1 4 (by decide) (by decide)
  have e5 : W 5 = V 5 := i1 5 (by decide) (by decide)
  refine ⟨up2 (up2 (up2 W 78 5 n) 78 6 (V 4 dr)) 78 7 (V 5 dr), fun c q1 q2 => by rw [w_ne _ _ _ _ q2, w_ne _ _ _ _ q2, w_ne _ _ _ _ q2]; exact i1 c q1 q2, fun p q1 q2 => by rw [w_ne _ _ _ _ (by decide), w_ne _ _ _ _ (by decide), w_ne _ _ _ _ (by decide)]; exact i2 p q1 q2, by rw [w_ne _ _ _ _ (by decide), w_ne _ _ _ _ (by decide), w_ne _ _ _ _ (by decide)]; exact i3, by rw [w_ne _ _ _ _ (by decide), w_ne _ _ _ _ (by decide), w_ne _ _ _ _ (by decide)]; exact i4, fun k hk => ?_, ?_⟩
  · rw [w_at, w_at, w_at, i5 k hk]
    unfold fct
    by_cases c7 : k = 7
    · subst c7; simp
    · rw [if_neg c7]
      by_cases c6 : k = 6
      · subst c6; simp
      · rw [if_neg c6]
        by_cases c5 : k = 5
        · subst c5; simp
        · rw [if_neg c5]
          by_cases c4 : k < 5
          · rw [if_pos c4, if_pos c4]
          · rw [if_neg c4, if_neg c4, if_neg c5, if_neg c6, if_neg c7]
  · apply sg_97c2
    simp only [eV_up]
    refine ⟨_, k_301 (c := 78) (n := 12) (by decide) rfl (by decide) 0, hr _ ?_⟩
    apply sg_97c2_21
    simp (disch := omega) only [e4, e5, eV_at, eV_up, o_lit2, o_add, o_sub, o_mul, o_neg, o_div, o_nat, ix_t, o_lt, o_le, o_eq, o_bi0, o_bi1, o_bib, em_t, o_neg1, o_shl, o_tb, o_tb0, o_tt, o_and, o_xor, o_or, o_max, o_min, an_tb, and_true, true_and, not_true, not_false, if_true, if_false, tn_add, tn_mul, Int.reduceToNat, tn_cast, md_x]
    rw [if_pos (by omega)] <;> trivial
theorem k_97_80 {L d : Nat} {xs : Nat → Int32} {V : Nat → Nat → Int} {J : Nat → Nat → Int64} {tg : Option Nat} (hR : RNG V) {dr st f n : Nat} (hd : dr < 12) (hf : f + n ≤ 6) (hc : ∀ i, i < n → 0 ≤ V 80 (f + i) ∧ V 80 (f + i) < 180) : ∃ W, (∀ c, c ≠ 75 → c ≠ 78 → W c = V c) ∧ (∀ p, p ≠ 8 → p ≠ 9 → W 75 p = V 75 p) ∧ W 75 8 = (dr : Int) ∧ W 75 9 = (st : Int) ∧ (∀ k, k < 12 → W 78 k = fct V dr n (fun i => V 80 (f + i)) k) ∧ Runs (GW L xs) (d + 1) 97 (0, [.ref 75, (Value.int (Int32.ofInt (dr))), (Value.int (Int32.ofInt (st))), .ref 80, (Value.int (Int32.ofInt (f))), (Value.int (Int32.ofInt (n))), vU], [], zS (eV (V)) J tg) (none, zS (eV (W)) J tg) := by
  obtain ⟨W, ⟨i1, i2, i3, i4, i5⟩, hr⟩ := loopN (g := GW L xs) (d := d + 1) (mid := 97) (σ := Nat → Nat → Int) (fun i W => (21, [.ref 75, (Value.int (Int32.ofInt (dr))), (Value.int (Int32.ofInt (st))), .ref 80, (Value.int (Int32.ofInt (f))), (Value.int (Int32.ofInt (n))), (Value.int (Int32.ofInt (i)))], [], zS (eV W) J tg)) (fun i W => (∀ c, c ≠ 75 → c ≠ 78 → W c = V c) ∧ (∀ p, p ≠ 8 → p ≠ 9 → W 75 p = V 75 p) ∧ W 75 8 = (dr : Int) ∧ W 75 9 = (st : Int) ∧ ∀ k, k < 12 → W 78 k = if k < 5 then fcn (fun i => V 80 (f + i)) k i else 0) n (by
    intro i W hi ⟨i1, i2, i3, i4, i5⟩
    have hci := hc i hi
    have eC : W 80 (f + i) = V 80 (f + i) := by rw [i1 80 (by decide) (by decide)]
    obtain ⟨v, hv⟩ : ∃ v : Nat, V 80 (f + i) / 36 = v := ⟨(V 80 (f + i) / 36).toNat, by omega⟩
    have hv5 : v < 5 := by omega
    refine ⟨up2 W 78 v (W 78 v + 1), ⟨fun c q1 q2 => by rw [w_ne _ _ _ _ q2]; exact i1 c q1 q2, fun p q1 q2 => by rw [w_ne _ _ _ _ (by decide)]; exact i2 p q1 q2, by rw [w_ne _ _ _ _ (by decide)]; exact i3, by rw [w_ne _ _ _ _ (by decide)]; exact i4, fun k hk => ?_⟩, fun r hr => ?_⟩
    · rw [w_at, i5 v (by omega), if_pos hv5]
      by_cases q : k = v
      · subst q; rw [if_pos rfl, if_pos hv5, fcn_s, if_pos hv]
      · rw [if_neg q, i5 k hk]
        split
        · rw [fcn_s, if_neg (by omega)]; omega
        · rfl
    · apply sg_97c80_21
      simp (disch := omega) only [eC, eV_at, eV_up, o_lit2, o_add, o_sub, o_mul, o_neg, o_div, o_nat, ix_t, o_lt, o_le, o_eq, o_bi0, o_bi1, o_bib, em_t, o_neg1, o_shl, o_tb, o_tb0, o_tt, o_and, o_xor, o_or, o_max, o_min, an_tb, and_true, true_and, not_true, not_false, if_true, if_false, tn_add, tn_mul, Int.reduceToNat, tn_cast, md_x]
      rw [if_neg (by omega)]
      refine ⟨_, _, k_170 (by omega), ?_⟩
      simp (disch := omega) only [hv, eV_at, eV_up, o_lit2, o_add, o_sub, o_mul, o_neg, o_div, o_nat, ix_t, o_lt, o_le, o_eq, o_bi0, o_bi1, o_bib, em_t, o_neg1, o_shl, o_tb, o_tb0, o_tt, o_and, o_xor, o_or, o_max, o_min, an_tb, and_true, true_and, not_true, not_false, if_true, if_false, tn_add, tn_mul, Int.reduceToNat, tn_cast, md_x]
      exact hr) n 0 (flV (up2 (up2 V 75 8 dr) 75 9 st) 78 12 0) (by omega) ⟨fun c q1 q2 => by rw [flV_ne q2, w_ne _ _ _ _ q1, w_ne _ _ _ _ q1], fun p q1 q2 => by rw [flV_ne (by decide), w_at, if_neg q2, w_at, if_neg q1], by rw [flV_ne (by decide), w_at, if_neg (by decide), w_eq], by rw [flV_ne (by decide), w_eq], fun k hk => by rw [flV_at, if_pos hk]; split <;> rfl⟩
  have e4 : W 4 = V 4 := i1 4 (by decide) (by decide)
  have e5 : W 5 = V 5 := i1 5 (by decide) (by decide)
  refine ⟨up2 (up2 (up2 W 78 5 n) 78 6 (V 4 dr)) 78 7 (V 5 dr), fun c q1 q2 => by rw [w_ne _ _ _ _ q2, w_ne _ _ _ _ q2, w_ne _ _ _ _ q2]; exact i1 c q1 q2, fun p q1 q2 => by rw [w_ne _ _ _ _ (by decide), w_ne _ _ _ _ (by decide), w_ne _ _ _ _ (by decide)]; exact i2 p q1 q2, by rw [w_ne _ _ _ _ (by decide), w_ne _ _ _ _ (by decide), w_ne _ _ _ _ (by decide)]; exact i3, by rw [w_ne _ _ _ _ (by decide), w_ne _ _ _ _ (by decide), w_ne _ _ _ _ (by decide)]; exact i4, fun k hk => ?_, ?_⟩
  · rw [w_at, w_at, w_at, i5 k hk]
    unfold fct
    by_cases c7 : k = 7
    · subst c7; simp
    · rw [if_neg c7]
      by_cases c6 : k = 6
      · subst c6; simp
      · rw [if_neg c6]
        by_cases c5 : k = 5
        · subst c5; simp
        · rw [if_neg c5]
          by_cases c4 : k < 5
          · rw [if_pos c4, if_pos c4]
          · rw [if_neg c4, if_neg c4, if_neg c5, if_neg c6, if_neg c7]
  · apply sg_97c80
    simp only [eV_up]
    refine ⟨_, k_301 (c := 78) (n := 12) (by decide) rfl (by decide) 0, hr _ ?_⟩
    apply sg_97c80_21
    simp (disch := omega) only [e4, e5, eV_at, eV_up, o_lit2, o_add, o_sub, o_mul, o_neg, o_div, o_nat, ix_t, o_lt, o_le, o_eq, o_bi0, o_bi1, o_bib, em_t, o_neg1, o_shl, o_tb, o_tb0, o_tt, o_and, o_xor, o_or, o_max, o_min, an_tb, and_true, true_and, not_true, not_false, if_true, if_false, tn_add, tn_mul, Int.reduceToNat, tn_cast, md_x]
    rw [if_pos (by omega)] <;> trivial
/-! The class runs a clause. -/
theorem evs_p {f g N : Nat → Int} {n : Nat} (h : f n ≤ 1) : evs f g N (n + 1) = (updZ (evs f g N n).1 (evs f g N n).2 (if f n = 0 then g n else N (g n).toNat), (evs f g N n).2 + 1) := if_pos h
theorem evs_n {f g N : Nat → Int} {n : Nat} (h : f n = 2) : evs f g N (n + 1) = (updZ (evs f g N n).1 ((evs f g N n).2 - 1) (-(evs f g N n).1 ((evs f g N n).2 - 1)), (evs f g N n).2) := by rw [evs, if_neg (by omega), if_pos h]
theorem evs_j {f g N : Nat → Int} {n : Nat} (h : 2 < f n) : evs f g N (n + 1) = (updZ (evs f g N n).1 ((evs f g N n).2 - 2) (jn (f n) ((evs f g N n).1 ((evs f g N n).2 - 2)) ((evs f g N n).1 ((evs f g N n).2 - 1))), (evs f g N n).2 - 1) := by rw [evs, if_neg (by omega), if_neg (by omega)]
theorem ty_pre {f : Nat → Int} {n : Nat} {q : Nat × Nat} (h : tyO f n = some q) : ∀ k m, m + k = n → ∃ p, tyO f m = some p
  | 0, m, e => by have : m = n := by omega
                  subst this; exact ⟨q, h⟩
  | k + 1, m, e => by
    obtain ⟨p, hp⟩ := ty_pre h k (m + 1) (by omega)
    obtain ⟨t, v, h1, _⟩ := ty_in hp
    exact ⟨_, h1⟩
theorem enc_o {o v : Int} (h : 2 ≤ o) : enc o v = enc o 0 := by
  have h0 : ¬ o = 0 := by omega
  have h1 : ¬ o = 1 := by omega
  unfold enc
  simp only [h0, h1, if_false]
theorem enc_rg {o : Int} (h : 2 < o) (h2 : o ≤ 22) (h3 : o ≤ 5 ∨ 10 ≤ o) (h4 : o ≤ 15 ∨ 21 ≤ o) : 20007 ≤ enc o 0 ∧ enc o 0 ≤ 20017 := by
  unfold enc
  rw [if_neg (by omega), if_neg (by omega), if_neg (by omega)]
  split
  · omega
  · split <;> omega
/-- a clause in the class: where its codes stand, and what they are -/
def CLS (V : Nat → Nat → Int) (C i : Nat) (f g : Nat → Int) (st ln : Nat) : Prop := V (C + 3) i = st ∧ V (C + 3) (i + 1) = (st + ln : Nat) ∧ st + ln ≤ 300 ∧ (∀ j, j < ln → vop (f j) (g j)) ∧ ∀ j, j < ln → V (C + 1) (st + j) = enc (f j) (g j)
theorem k_29_47 {L d : Nat} {xs : Nat → Int32} {V : Nat → Nat → Int} {J : Nat → Nat → Int64} {tg : Option Nat} {i st ln : Nat} {f g : Nat → Int} {t v : Nat} (hi : i < 10) (hc : CLS V 47 i f g st ln) (ht : tyO f ln = some (t, v)) (htv : t + v = 1) (hN : ∀ k, k < 12 → -1000000 ≤ V 78 k ∧ V 78 k ≤ 1000000) : ∃ W, (∀ c, c ≠ 45 → W c = V c) ∧ Runs (GW L xs) (d + 1) 29 (0, [.ref 47, (Value.int (Int32.ofInt (i))), .ref 78, vU, vU, vU, vU, vU], [], zS (eV (V)) J tg) (some (Value.int (Int32.ofInt ((evs f g (V 78) ln).1 0))), zS (eV (W)) J tg) := by
  obtain ⟨c1, c2, c3, c4, c5⟩ := hc
  have c1 : V 50 i = st := c1
  have c2 : V 50 (i + 1) = (st + ln : Nat) := c2
  have c5 : ∀ j, j < ln → V 48 (st + j) = enc (f j) (g j) := c5
  obtain ⟨W, ⟨i1, i2⟩, hr⟩ := loopN (g := GW L xs) (d := d + 1) (mid := 29) (σ := Nat → Nat → Int) (fun n W => (10, [.ref 47, (Value.int (Int32.ofInt (i))), .ref 78, (Value.int (Int32.ofInt (((evs f g (V 78) n).2 : Nat)))), (Value.int (Int32.ofInt ((st + n : Nat)))), vU, vU, vU], [], zS (eV W) J tg)) (fun n W => (∀ c, c ≠ 45 → W c = V c) ∧ ∀ p, p < (evs f g (V 78) n).2 → W 45 p = (evs f g (V 78) n).1 p) ln (by
    intro n W hn ⟨i1, i2⟩
    obtain ⟨⟨t1, v1⟩, h1⟩ := ty_pre ht (ln - (n + 1)) (n + 1) (by omega)
    obtain ⟨t0, v0, h0, hcs⟩ := ty_in h1
    obtain ⟨e1, e2, e3, e4⟩ := evs_ok hN (fun j hj => c4 j (by omega)) h0
    have hvn := c4 n hn
    have hcode : W 48 (st + n) = enc (f n) (g n) := by rw [i1 48 (by decide)]; exact c5 n hn
    have h50 : W 50 (i + 1) = (st + ln : Nat) := by rw [i1 50 (by decide)]; exact c2
    have h78 : W 78 = V 78 := i1 78 (by decide)
    have ei : ((i : Int) + 1).toNat = i + 1 := by omega
    unfold vop at hvn
    have hsp := @evs_p f g (V 78) n
    have hsn := @evs_n f g (V 78) n
    have hsj := @evs_j f g (V 78) n
    generalize evs f g (V 78) n = q at e1 e3 e4 i2 hsp hsn hsj ⊢
    obtain ⟨s, k⟩ := q
    dsimp only at e1 e3 e4 i2 hsp hsn hsj ⊢
    rcases hcs with ⟨d1, -⟩ | ⟨d1, d2, -⟩ | hcs
    · rw [hsp d1]
      dsimp only
      by_cases d0 : f n = 0
      · rw [if_pos d0]
        have hg : 0 ≤ g n ∧ g n ≤ 9999 := by omega
        have hco : W 48 (st + n) = g n := by rw [hcode]; unfold enc; rw [if_pos d0]
        refine ⟨up2 W 45 k (g n), ⟨fun c q => by rw [w_ne _ _ _ _ q]; exact i1 c q, fun p hp => ?_⟩, fun r hr => ?_⟩
        · rw [w_at, updZ_at]
          split
          · rfl
          · exact i2 p (by omega)
        · apply sg_29g47_10
          simp (disch := omega) only [ei, h50, hco, eV_at, eV_up, o_lit2, o_add, o_sub, o_mul, o_neg, o_div, o_nat, ix_t, o_lt, o_le, o_eq, o_bi0, o_bi1, o_bib, em_t, o_neg1, o_shl, o_tb, o_tb0, o_tt, o_and, o_xor, o_or, o_max, o_min, an_tb, and_true, true_and, not_true, not_false, if_true, if_false, tn_add, tn_mul, Int.reduceToNat, tn_cast, md_x]
          rw [if_neg (by omega), if_neg (by omega), if_neg (by omega)]
          exact hr
      · rw [if_neg d0]
        have hg : f n = 1 ∧ 0 ≤ g n ∧ g n ≤ 11 := by omega
        have hco : W 48 (st + n) = 10000 + g n := by rw [hcode]; unfold enc; rw [if_neg d0, if_pos hg.1]
        have eg : (10000 + g n - 10000).toNat = (g n).toNat := by omega
        refine ⟨up2 W 45 k (V 78 (g n).toNat), ⟨fun c q => by rw [w_ne _ _ _ _ q]; exact i1 c q, fun p hp => ?_⟩, fun r hr => ?_⟩
        · rw [w_at, updZ_at]
          split
          · rfl
          · exact i2 p (by omega)
        · apply sg_29g47_10
          simp (disch := omega) only [ei, h50, hco, eg, h78, eV_at, eV_up, o_lit2, o_add, o_sub, o_mul, o_neg, o_div, o_nat, ix_t, o_lt, o_le, o_eq, o_bi0, o_bi1, o_bib, em_t, o_neg1, o_shl, o_tb, o_tb0, o_tt, o_and, o_xor, o_or, o_max, o_min, an_tb, and_true, true_and, not_true, not_false, if_true, if_false, tn_add, tn_mul, Int.reduceToNat, tn_cast, md_x]
          rw [if_neg (by omega), if_neg (by omega), if_pos (by omega)]
          exact hr
    · rw [hsn d1]
      dsimp only
      obtain ⟨k, rfl⟩ : ∃ k' : Nat, k = k' + 1 := ⟨k - 1, by omega⟩
      have hco : W 48 (st + n) = 20021 := by rw [hcode, d1]; rfl
      have ek : ((k + 1 : Nat) : Int) - 1 = (k : Int) := by omega
      have es : W 45 k = s k := i2 k (by omega)
      have ek1 : k + 1 - 1 = k := by omega
      rw [ek1]
      refine ⟨up2 W 45 k (- s k), ⟨fun c q => by rw [w_ne _ _ _ _ q]; exact i1 c q, fun p hp => ?_⟩, fun r hr => ?_⟩
      · rw [w_at, updZ_at]
        split
        · rfl
        · exact i2 p (by omega)
      · apply sg_29g47_10
        simp (disch := omega) only [ei, h50, hco, ek, es, eV_at, eV_up, o_lit2, o_add, o_sub, o_mul, o_neg, o_div, o_nat, ix_t, o_lt, o_le, o_eq, o_bi0, o_bi1, o_bib, em_t, o_neg1, o_shl, o_tb, o_tb0, o_tt, o_and, o_xor, o_or, o_max, o_min, an_tb, and_true, true_and, not_true, not_false, if_true, if_false, tn_add, tn_mul, Int.reduceToNat, tn_cast, md_x]
        rw [if_neg (by omega), if_pos (by omega), if_neg (by omega)]
        exact hr
    · have d1 : 2 < f n := by omega
      rw [hsj d1]
      dsimp only
      have hk2 : 2 ≤ k := by omega
      obtain ⟨k, rfl⟩ : ∃ k' : Nat, k = k' + 2 := ⟨k - 2, by omega⟩
      have hco : W 48 (st + n) = enc (f n) 0 := by rw [hcode, enc_o (by omega)]
      have hcr := enc_rg (o := f n) d1 (by omega) (by omega) (by omega)
      have es1 : W 45 k = s k := i2 k (by omega)
      have es2 : W 45 (k + 1) = s (k + 1) := i2 (k + 1) (by omega)
      have hr1 : -1000000 ≤ s k ∧ s k ≤ 1000000 := by
        by_cases q : k < t0
        · have := e3 k q; omega
        · exact e4 k (by omega) (by omega)
      have hr2 : -1000000 ≤ s (k + 1) ∧ s (k + 1) ≤ 1000000 := by
        by_cases q : k + 1 < t0
        · have := e3 (k + 1) q; omega
        · exact e4 (k + 1) (by omega) (by omega)
      obtain ⟨z, hz, hzj, hj⟩ := k_30 (L := L) (xs := xs) (J := J) (tg := tg) (d := d) (V := W) (o := f n) (x := s k) (y := s (k + 1)) (by omega) hr1 hr2 (fun h21 => ⟨e3 k (by omega), e3 (k + 1) (by omega)⟩)
      have e20 : k + 2 - 2 = k := by omega
      have e21 : k + 2 - 1 = k + 1 := by omega
      rw [e20, e21, ← hzj]
      have f1 : ((k + 2 : Nat) : Int) + -1 = ((k + 1 : Nat) : Int) := by omega
      have f2 : ((k + 1 : Nat) : Int) - 1 = (k : Int) := by omega
      refine ⟨up2 W 45 k (hl z), ⟨fun c q => by rw [w_ne _ _ _ _ q]; exact i1 c q, fun p hp => ?_⟩, fun r hr => ?_⟩
      · rw [w_at, updZ_at]
        split
        · rfl
        · exact i2 p (by omega)
      · apply sg_29g47_10
        simp (disch := omega) only [ei, h50, hco, f1, f2, es1, es2, l_64, eV_at, eV_up, o_lit2, o_add, o_sub, o_mul, o_neg, o_div, o_nat, ix_t, o_lt, o_le, o_eq, o_bi0, o_bi1, o_bib, em_t, o_neg1, o_shl, o_tb, o_tb0, o_tt, o_and, o_xor, o_or, o_max, o_min, an_tb, and_true, true_and, not_true, not_false, if_true, if_false, tn_add, tn_mul, Int.reduceToNat, tn_cast, md_x]
        rw [if_neg (by omega), if_pos (by omega), if_neg (by omega), if_neg (by omega)]
        refine ⟨_, _, hj, ?_⟩
        rw [cl_64 hz, eV_up]
        exact hr) ln 0 V (by omega) ⟨fun _ _ => rfl, fun p hp => by simp [evs] at hp⟩
  obtain ⟨e1, e2, e3, e4⟩ := evs_ok hN c4 ht
  have h0 : W 45 0 = (evs f g (V 78) ln).1 0 := i2 0 (by omega)
  have h50 : W 50 (i + 1) = (st + ln : Nat) := by rw [i1 50 (by decide)]; exact c2
  have ei : ((i : Int) + 1).toNat = i + 1 := by omega
  refine ⟨W, i1, ?_⟩
  apply sg_29g47
  simp (disch := omega) only [c1, eV_at, eV_up, o_lit2, o_add, o_sub, o_mul, o_neg, o_div, o_nat, ix_t, o_lt, o_le, o_eq, o_bi0, o_bi1, o_bib, em_t, o_neg1, o_shl, o_tb, o_tb0, o_tt, o_and, o_xor, o_or, o_max, o_min, an_tb, and_true, true_and, not_true, not_false, if_true, if_false, tn_add, tn_mul, Int.reduceToNat, tn_cast, md_x]
  refine hr _ ?_
  apply sg_29g47_10
  simp (disch := omega) only [ei, h50, h0, eV_at, eV_up, o_lit2, o_add, o_sub, o_mul, o_neg, o_div, o_nat, ix_t, o_lt, o_le, o_eq, o_bi0, o_bi1, o_bib, em_t, o_neg1, o_shl, o_tb, o_tb0, o_tt, o_and, o_xor, o_or, o_max, o_min, an_tb, and_true, true_and, not_true, not_false, if_true, if_false, tn_add, tn_mul, Int.reduceToNat, tn_cast, md_x]
  rw [if_pos (by omega)] <;> trivial
theorem k_29_51 {L d : Nat} {xs : Nat → Int32} {V : Nat → Nat → Int} {J : Nat → Nat → Int64} {tg : Option Nat} {i st ln : Nat} {f g : Nat → Int} {t v : Nat} (hi : i < 10) (hc : CLS V 51 i f g st ln) (ht : tyO f ln = some (t, v)) (htv : t + v = 1) (hN : ∀ k, k < 12 → -1000000 ≤ V 78 k ∧ V 78 k ≤ 1000000) : ∃ W, (∀ c, c ≠ 45 → W c = V c) ∧ Runs (GW L xs) (d + 1) 29 (0, [.ref 51, (Value.int (Int32.ofInt (i))), .ref 78, vU, vU, vU, vU, vU], [], zS (eV (V)) J tg) (some (Value.int (Int32.ofInt ((evs f g (V 78) ln).1 0))), zS (eV (W)) J tg) := by
  obtain ⟨c1, c2, c3, c4, c5⟩ := hc
  have c1 : V 54 i = st := c1
  have c2 : V 54 (i + 1) = (st + ln : Nat) := c2
  have c5 : ∀ j, j < ln → V 52 (st + j) = enc (f j) (g j) := c5
  obtain ⟨W, ⟨i1, i2⟩, hr⟩ := loopN (g := GW L xs) (d := d + 1) (mid := 29) (σ := Nat → Nat → Int) (fun n W => (10, [.ref 51, (Value.int (Int32.ofInt (i))), .ref 78, (Value.int (Int32.ofInt (((evs f g (V 78) n).2 : Nat)))), (Value.int (Int32.ofInt ((st + n : Nat)))), vU, vU, vU], [], zS (eV W) J tg)) (fun n W => (∀ c, c ≠ 45 → W c = V c) ∧ ∀ p, p < (evs f g (V 78) n).2 → W 45 p = (evs f g (V 78) n).1 p) ln (by
    intro n W hn ⟨i1, i2⟩
    obtain ⟨⟨t1, v1⟩, h1⟩ := ty_pre ht (ln - (n + 1)) (n + 1) (by omega)
    obtain ⟨t0, v0, h0, hcs⟩ := ty_in h1
    obtain ⟨e1, e2, e3, e4⟩ := evs_ok hN (fun j hj => c4 j (by omega)) h0
    have hvn := c4 n hn
    have hcode : W 52 (st + n) = enc (f n) (g n) := by rw [i1 52 (by decide)]; exact c5 n hn
    have h50 : W 54 (i + 1) = (st + ln : Nat) := by rw [i1 54 (by decide)]; exact c2
    have h78 : W 78 = V 78 := i1 78 (by decide)
    have ei : ((i : Int) + 1).toNat = i + 1 := by omega
    unfold vop at hvn
    have hsp := @evs_p f g (V 78) n
    have hsn := @evs_n f g (V 78) n
    have hsj := @evs_j f g (V 78) n
    generalize evs f g (V 78) n = q at e1 e3 e4 i2 hsp hsn hsj ⊢
    obtain ⟨s, k⟩ := q
    dsimp only at e1 e3 e4 i2 hsp hsn hsj ⊢
    rcases hcs with ⟨d1, -⟩ | ⟨d1, d2, -⟩ | hcs
    · rw [hsp d1]
      dsimp only
      by_cases d0 : f n = 0
      · rw [if_pos d0]
        have hg : 0 ≤ g n ∧ g n ≤ 9999 := by omega
        have hco : W 52 (st + n) = g n := by rw [hcode]; unfold enc; rw [if_pos d0]
        refine ⟨up2 W 45 k (g n), ⟨fun c q => by rw [w_ne _ _ _ _ q]; exact i1 c q, fun p hp => ?_⟩, fun r hr => ?_⟩
        · rw [w_at, updZ_at]
          split
          · rfl
          · exact i2 p (by omega)
        · apply sg_29g51_10
          simp (disch := omega) only [ei, h50, hco, eV_at, eV_up, o_lit2, o_add, o_sub, o_mul, o_neg, o_div, o_nat, ix_t, o_lt, o_le, o_eq, o_bi0, o_bi1, o_bib, em_t, o_neg1, o_shl, o_tb, o_tb0, o_tt, o_and, o_xor, o_or, o_max, o_min, an_tb, and_true, true_and, not_true, not_false, if_true, if_false, tn_add, tn_mul, Int.reduceToNat, tn_cast, md_x]
          rw [if_neg (by omega), if_neg (by omega), if_neg (by omega)]
          exact hr
      · rw [if_neg d0]
        have hg : f n = 1 ∧ 0 ≤ g n ∧ g n ≤ 11 := by omega
        have hco : W 52 (st + n) = 10000 + g n := by rw [hcode]; unfold enc; rw [if_neg d0, if_pos hg.1]
        have eg : (10000 + g n - 10000).toNat = (g n).toNat := by omega
        refine ⟨up2 W 45 k (V 78 (g n).toNat), ⟨fun c q => by rw [w_ne _ _ _ _ q]; exact i1 c q, fun p hp => ?_⟩, fun r hr => ?_⟩
        · rw [w_at, updZ_at]
          split
          · rfl
          · exact i2 p (by omega)
        · apply sg_29g51_10
          simp (disch := omega) only [ei, h50, hco, eg, h78, eV_at, eV_up, o_lit2, o_add, o_sub, o_mul, o_neg, o_div, o_nat, ix_t, o_lt, o_le, o_eq, o_bi0, o_bi1, o_bib, em_t, o_neg1, o_shl, o_tb, o_tb0, o_tt, o_and, o_xor, o_or, o_max, o_min, an_tb, and_true, true_and, not_true, not_false, if_true, if_false, tn_add, tn_mul, Int.reduceToNat, tn_cast, md_x]
          rw [if_neg (by omega), if_neg (by omega), if_pos (by omega)]
          exact hr
    · rw [hsn d1]
      dsimp only
      obtain ⟨k, rfl⟩ : ∃ k' : Nat, k = k' + 1 := ⟨k - 1, by omega⟩
      have hco : W 52 (st + n) = 20021 := by rw [hcode, d1]; rfl
      have ek : ((k + 1 : Nat) : Int) - 1 = (k : Int) := by omega
      have es : W 45 k = s k := i2 k (by omega)
      have ek1 : k + 1 - 1 = k := by omega
      rw [ek1]
      refine ⟨up2 W 45 k (- s k), ⟨fun c q => by rw [w_ne _ _ _ _ q]; exact i1 c q, fun p hp => ?_⟩, fun r hr => ?_⟩
      · rw [w_at, updZ_at]
        split
        · rfl
        · exact i2 p (by omega)
      · apply sg_29g51_10
        simp (disch := omega) only [ei, h50, hco, ek, es, eV_at, eV_up, o_lit2, o_add, o_sub, o_mul, o_neg, o_div, o_nat, ix_t, o_lt, o_le, o_eq, o_bi0, o_bi1, o_bib, em_t, o_neg1, o_shl, o_tb, o_tb0, o_tt, o_and, o_xor, o_or, o_max, o_min, an_tb, and_true, true_and, not_true, not_false, if_true, if_false, tn_add, tn_mul, Int.reduceToNat, tn_cast, md_x]
        rw [if_neg (by omega), if_pos (by omega), if_neg (by omega)]
        exact hr
    · have d1 : 2 < f n := by omega
      rw [hsj d1]
      dsimp only
      have hk2 : 2 ≤ k := by omega
      obtain ⟨k, rfl⟩ : ∃ k' : Nat, k = k' + 2 := ⟨k - 2, by omega⟩
      have hco : W 52 (st + n) = enc (f n) 0 := by rw [hcode, enc_o (by omega)]
      have hcr := enc_rg (o := f n) d1 (by omega) (by omega) (by omega)
      have es1 : W 45 k = s k := i2 k (by omega)
      have es2 : W 45 (k + 1) = s (k + 1) := i2 (k + 1) (by omega)
      have hr1 : -1000000 ≤ s k ∧ s k ≤ 1000000 := by
        by_cases q : k < t0
        · have := e3 k q; omega
        · exact e4 k (by omega) (by omega)
      have hr2 : -1000000 ≤ s (k + 1) ∧ s (k + 1) ≤ 1000000 := by
        by_cases q : k + 1 < t0
        · have := e3 (k + 1) q; omega
        · exact e4 (k + 1) (by omega) (by omega)
      obtain ⟨z, hz, hzj, hj⟩ := k_30 (L := L) (xs := xs) (J := J) (tg := tg) (d := d) (V := W) (o := f n) (x := s k) (y := s (k + 1)) (by omega) hr1 hr2 (fun h21 => ⟨e3 k (by omega), e3 (k + 1) (by omega)⟩)
      have e20 : k + 2 - 2 = k := by omega
      have e21 : k + 2 - 1 = k + 1 := by omega
      rw [e20, e21, ← hzj]
      have f1 : ((k + 2 : Nat) : Int) + -1 = ((k + 1 : Nat) : Int) := by omega
      have f2 : ((k + 1 : Nat) : Int) - 1 = (k : Int) := by omega
      refine ⟨up2 W 45 k (hl z), ⟨fun c q => by rw [w_ne _ _ _ _ q]; exact i1 c q, fun p hp => ?_⟩, fun r hr => ?_⟩
      · rw [w_at, updZ_at]
        split
        · rfl
        · exact i2 p (by omega)
      · apply sg_29g51_10
        simp (disch := omega) only [ei, h50, hco, f1, f2, es1, es2, l_64, eV_at, eV_up, o_lit2, o_add, o_sub, o_mul, o_neg, o_div, o_nat, ix_t, o_lt, o_le, o_eq, o_bi0, o_bi1, o_bib, em_t, o_neg1, o_shl, o_tb, o_tb0, o_tt, o_and, o_xor, o_or, o_max, o_min, an_tb, and_true, true_and, not_true, not_false, if_true, if_false, tn_add, tn_mul, Int.reduceToNat, tn_cast, md_x]
        rw [if_neg (by omega), if_pos (by omega), if_neg (by omega), if_neg (by omega)]
        refine ⟨_, _, hj, ?_⟩
        rw [cl_64 hz, eV_up]
        exact hr) ln 0 V (by omega) ⟨fun _ _ => rfl, fun p hp => by simp [evs] at hp⟩
  obtain ⟨e1, e2, e3, e4⟩ := evs_ok hN c4 ht
  have h0 : W 45 0 = (evs f g (V 78) ln).1 0 := i2 0 (by omega)
  have h50 : W 54 (i + 1) = (st + ln : Nat) := by rw [i1 54 (by decide)]; exact c2
  have ei : ((i : Int) + 1).toNat = i + 1 := by omega
  refine ⟨W, i1, ?_⟩
  apply sg_29g51
  simp (disch := omega) only [c1, eV_at, eV_up, o_lit2, o_add, o_sub, o_mul, o_neg, o_div, o_nat, ix_t, o_lt, o_le, o_eq, o_bi0, o_bi1, o_bib, em_t, o_neg1, o_shl, o_tb, o_tb0, o_tt, o_and, o_xor, o_or, o_max, o_min, an_tb, and_true, true_and, not_true, not_false, if_true, if_false, tn_add, tn_mul, Int.reduceToNat, tn_cast, md_x]
  refine hr _ ?_
  apply sg_29g51_10
  simp (disch := omega) only [ei, h50, h0, eV_at, eV_up, o_lit2, o_add, o_sub, o_mul, o_neg, o_div, o_nat, ix_t, o_lt, o_le, o_eq, o_bi0, o_bi1, o_bib, em_t, o_neg1, o_shl, o_tb, o_tb0, o_tt, o_and, o_xor, o_or, o_max, o_min, an_tb, and_true, true_and, not_true, not_false, if_true, if_false, tn_add, tn_mul, Int.reduceToNat, tn_cast, md_x]
  rw [if_pos (by omega)] <;> trivial
theorem k_29_55 {L d : Nat} {xs : Nat → Int32} {V : Nat → Nat → Int} {J : Nat → Nat → Int64} {tg : Option Nat} {i st ln : Nat} {f g : Nat → Int} {t v : Nat} (hi : i < 10) (hc : CLS V 55 i f g st ln) (ht : tyO f ln = some (t, v)) (htv : t + v = 1) (hN : ∀ k, k < 12 → -1000000 ≤ V 78 k ∧ V 78 k ≤ 1000000) : ∃ W, (∀ c, c ≠ 45 → W c = V c) ∧ Runs (GW L xs) (d + 1) 29 (0, [.ref 55, (Value.int (Int32.ofInt (i))), .ref 78, vU, vU, vU, vU, vU], [], zS (eV (V)) J tg) (some (Value.int (Int32.ofInt ((evs f g (V 78) ln).1 0))), zS (eV (W)) J tg) := by
  obtain ⟨c1, c2, c3, c4, c5⟩ := hc
  have c1 : V 58 i = st := c1
  have c2 : V 58 (i + 1) = (st + ln : Nat) := c2
  have c5 : ∀ j, j < ln → V 56 (st + j) = enc (f j) (g j) := c5
  obtain ⟨W, ⟨i1, i2⟩, hr⟩ := loopN (g := GW L xs) (d := d + 1) (mid := 29) (σ := Nat → Nat → Int) (fun n W => (10, [.ref 55, (Value.int (Int32.ofInt (i))), .ref 78, (Value.int (Int32.ofInt (((evs f g (V 78) n).2 : Nat)))), (Value.int (Int32.ofInt ((st + n : Nat)))), vU, vU, vU], [], zS (eV W) J tg)) (fun n W => (∀ c, c ≠ 45 → W c = V c) ∧ ∀ p, p < (evs f g (V 78) n).2 → W 45 p = (evs f g (V 78) n).1 p) ln (by
    intro n W hn ⟨i1, i2⟩
    obtain ⟨⟨t1, v1⟩, h1⟩ := ty_pre ht (ln - (n + 1)) (n + 1) (by omega)
    obtain ⟨t0, v0, h0, hcs⟩ := ty_in h1
    obtain ⟨e1, e2, e3, e4⟩ := evs_ok hN (fun j hj => c4 j (by omega)) h0
    have hvn := c4 n hn
    have hcode : W 56 (st + n) = enc (f n) (g n) := by rw [i1 56 (by decide)]; exact c5 n hn
    have h50 : W 58 (i + 1) = (st + ln : Nat) := by rw [i1 58 (by decide)]; exact c2
    have h78 : W 78 = V 78 := i1 78 (by decide)
    have ei : ((i : Int) + 1).toNat = i + 1 := by omega
    unfold vop at hvn
    have hsp := @evs_p f g (V 78) n
    have hsn := @evs_n f g (V 78) n
    have hsj := @evs_j f g (V 78) n
    generalize evs f g (V 78) n = q at e1 e3 e4 i2 hsp hsn hsj ⊢
    obtain ⟨s, k⟩ := q
    dsimp only at e1 e3 e4 i2 hsp hsn hsj ⊢
    rcases hcs with ⟨d1, -⟩ | ⟨d1, d2, -⟩ | hcs
    · rw [hsp d1]
      dsimp only
      by_cases d0 : f n = 0
      · rw [if_pos d0]
        have hg : 0 ≤ g n ∧ g n ≤ 9999 := by omega
        have hco : W 56 (st + n) = g n := by rw [hcode]; unfold enc; rw [if_pos d0]
        refine ⟨up2 W 45 k (g n), ⟨fun c q => by rw [w_ne _ _ _ _ q]; exact i1 c q, fun p hp => ?_⟩, fun r hr => ?_⟩
        · rw [w_at, updZ_at]
          split
          · rfl
          · exact i2 p (by omega)
        · apply sg_29g55_10
          simp (disch := omega) only [ei, h50, hco, eV_at, eV_up, o_lit2, o_add, o_sub, o_mul, o_neg, o_div, o_nat, ix_t, o_lt, o_le, o_eq, o_bi0, o_bi1, o_bib, em_t, o_neg1, o_shl, o_tb, o_tb0, o_tt, o_and, o_xor, o_or, o_max, o_min, an_tb, and_true, true_and, not_true, not_false, if_true, if_false, tn_add, tn_mul, Int.reduceToNat, tn_cast, md_x]
          rw [if_neg (by omega), if_neg (by omega), if_neg (by omega)]
          exact hr
      · rw [if_neg d0]
        have hg : f n = 1 ∧ 0 ≤ g n ∧ g n ≤ 11 := by omega
        have hco : W 56 (st + n) = 10000 + g n := by rw [hcode]; unfold enc; rw [if_neg d0, if_pos hg.1]
        have eg : (10000 + g n - 10000).toNat = (g n).toNat := by omega
        refine ⟨up2 W 45 k (V 78 (g n).toNat), ⟨fun c q => by rw [w_ne _ _ _ _ q]; exact i1 c q, fun p hp => ?_⟩, fun r hr => ?_⟩
        · rw [w_at, updZ_at]
          split
          · rfl
          · exact i2 p (by omega)
        · apply sg_29g55_10
          simp (disch := omega) only [ei, h50, hco, eg, h78, eV_at, eV_up, o_lit2, o_add, o_sub, o_mul, o_neg, o_div, o_nat, ix_t, o_lt, o_le, o_eq, o_bi0, o_bi1, o_bib, em_t, o_neg1, o_shl, o_tb, o_tb0, o_tt, o_and, o_xor, o_or, o_max, o_min, an_tb, and_true, true_and, not_true, not_false, if_true, if_false, tn_add, tn_mul, Int.reduceToNat, tn_cast, md_x]
          rw [if_neg (by omega), if_neg (by omega), if_pos (by omega)]
          exact hr
    · rw [hsn d1]
      dsimp only
      obtain ⟨k, rfl⟩ : ∃ k' : Nat, k = k' + 1 := ⟨k - 1, by omega⟩
      have hco : W 56 (st + n) = 20021 := by rw [hcode, d1]; rfl
      have ek : ((k + 1 : Nat) : Int) - 1 = (k : Int) := by omega
      have es : W 45 k = s k := i2 k (by omega)
      have ek1 : k + 1 - 1 = k := by omega
      rw [ek1]
      refine ⟨up2 W 45 k (- s k), ⟨fun c q => by rw [w_ne _ _ _ _ q]; exact i1 c q, fun p hp => ?_⟩, fun r hr => ?_⟩
      · rw [w_at, updZ_at]
        split
        · rfl
        · exact i2 p (by omega)
      · apply sg_29g55_10
        simp (disch := omega) only [ei, h50, hco, ek, es, eV_at, eV_up, o_lit2, o_add, o_sub, o_mul, o_neg, o_div, o_nat, ix_t, o_lt, o_le, o_eq, o_bi0, o_bi1, o_bib, em_t, o_neg1, o_shl, o_tb, o_tb0, o_tt, o_and, o_xor, o_or, o_max, o_min, an_tb, and_true, true_and, not_true, not_false, if_true, if_false, tn_add, tn_mul, Int.reduceToNat, tn_cast, md_x]
        rw [if_neg (by omega), if_pos (by omega), if_neg (by omega)]
        exact hr
    · have d1 : 2 < f n := by omega
      rw [hsj d1]
      dsimp only
      have hk2 : 2 ≤ k := by omega
      obtain ⟨k, rfl⟩ : ∃ k' : Nat, k = k' + 2 := ⟨k - 2, by omega⟩
      have hco : W 56 (st + n) = enc (f n) 0 := by rw [hcode, enc_o (by omega)]
      have hcr := enc_rg (o := f n) d1 (by omega) (by omega) (by omega)
      have es1 : W 45 k = s k := i2 k (by omega)
      have es2 : W 45 (k + 1) = s (k + 1) := i2 (k + 1) (by omega)
      have hr1 : -1000000 ≤ s k ∧ s k ≤ 1000000 := by
        by_cases q : k < t0
        · have := e3 k q; omega
        · exact e4 k (by omega) (by omega)
      have hr2 : -1000000 ≤ s (k + 1) ∧ s (k + 1) ≤ 1000000 := by
        by_cases q : k + 1 < t0
        · have := e3 (k + 1) q; omega
        · exact e4 (k + 1) (by omega) (by omega)
      obtain ⟨z, hz, hzj, hj⟩ := k_30 (L := L) (xs := xs) (J := J) (tg := tg) (d := d) (V := W) (o := f n) (x := s k) (y := s (k + 1)) (by omega) hr1 hr2 (fun h21 => ⟨e3 k (by omega), e3 (k + 1) (by omega)⟩)
      have e20 : k + 2 - 2 = k := by omega
      have e21 : k + 2 - 1 = k + 1 := by omega
      rw [e20, e21, ← hzj]
      have f1 : ((k + 2 : Nat) : Int) + -1 = ((k + 1 : Nat) : Int) := by omega
      have f2 : ((k + 1 : Nat) : Int) - 1 = (k : Int) := by omega
      refine ⟨up2 W 45 k (hl z), ⟨fun c q => by rw [w_ne _ _ _ _ q]; exact i1 c q, fun p hp => ?_⟩, fun r hr => ?_⟩
      · rw [w_at, updZ_at]
        split
        · rfl
        · exact i2 p (by omega)
      · apply sg_29g55_10
        simp (disch := omega) only [ei, h50, hco, f1, f2, es1, es2, l_64, eV_at, eV_up, o_lit2, o_add, o_sub, o_mul, o_neg, o_div, o_nat, ix_t, o_lt, o_le, o_eq, o_bi0, o_bi1, o_bib, em_t, o_neg1, o_shl, o_tb, o_tb0, o_tt, o_and, o_xor, o_or, o_max, o_min, an_tb, and_true, true_and, not_true, not_false, if_true, if_false, tn_add, tn_mul, Int.reduceToNat, tn_cast, md_x]
        rw [if_neg (by omega), if_pos (by omega), if_neg (by omega), if_neg (by omega)]
        refine ⟨_, _, hj, ?_⟩
        rw [cl_64 hz, eV_up]
        exact hr) ln 0 V (by omega) ⟨fun _ _ => rfl, fun p hp => by simp [evs] at hp⟩
  obtain ⟨e1, e2, e3, e4⟩ := evs_ok hN c4 ht
  have h0 : W 45 0 = (evs f g (V 78) ln).1 0 := i2 0 (by omega)
  have h50 : W 58 (i + 1) = (st + ln : Nat) := by rw [i1 58 (by decide)]; exact c2
  have ei : ((i : Int) + 1).toNat = i + 1 := by omega
  refine ⟨W, i1, ?_⟩
  apply sg_29g55
  simp (disch := omega) only [c1, eV_at, eV_up, o_lit2, o_add, o_sub, o_mul, o_neg, o_div, o_nat, ix_t, o_lt, o_le, o_eq, o_bi0, o_bi1, o_bib, em_t, o_neg1, o_shl, o_tb, o_tb0, o_tt, o_and, o_xor, o_or, o_max, o_min, an_tb, and_true, true_and, not_true, not_false, if_true, if_false, tn_add, tn_mul, Int.reduceToNat, tn_cast, md_x]
  refine hr _ ?_
  apply sg_29g55_10
  simp (disch := omega) only [ei, h50, h0, eV_at, eV_up, o_lit2, o_add, o_sub, o_mul, o_neg, o_div, o_nat, ix_t, o_lt, o_le, o_eq, o_bi0, o_bi1, o_bib, em_t, o_neg1, o_shl, o_tb, o_tb0, o_tt, o_and, o_xor, o_or, o_max, o_min, an_tb, and_true, true_and, not_true, not_false, if_true, if_false, tn_add, tn_mul, Int.reduceToNat, tn_cast, md_x]
  rw [if_pos (by omega)] <;> trivial
theorem k_29_59 {L d : Nat} {xs : Nat → Int32} {V : Nat → Nat → Int} {J : Nat → Nat → Int64} {tg : Option Nat} {i st ln : Nat} {f g : Nat → Int} {t v : Nat} (hi : i < 10) (hc : CLS V 59 i f g st ln) (ht : tyO f ln = some (t, v)) (htv : t + v = 1) (hN : ∀ k, k < 12 → -1000000 ≤ V 78 k ∧ V 78 k ≤ 1000000) : ∃ W, (∀ c, c ≠ 45 → W c = V c) ∧ Runs (GW L xs) (d + 1) 29 (0, [.ref 59, (Value.int (Int32.ofInt (i))), .ref 78, vU, vU, vU, vU, vU], [], zS (eV (V)) J tg) (some (Value.int (Int32.ofInt ((evs f g (V 78) ln).1 0))), zS (eV (W)) J tg) := by
  obtain ⟨c1, c2, c3, c4, c5⟩ := hc
  have c1 : V 62 i = st := c1
  have c2 : V 62 (i + 1) = (st + ln : Nat) := c2
  have c5 : ∀ j, j < ln → V 60 (st + j) = enc (f j) (g j) := c5
  obtain ⟨W, ⟨i1, i2⟩, hr⟩ := loopN (g := GW L xs) (d := d + 1) (mid := 29) (σ := Nat → Nat → Int) (fun n W => (10, [.ref 59, (Value.int (Int32.ofInt (i))), .ref 78, (Value.int (Int32.ofInt (((evs f g (V 78) n).2 : Nat)))), (Value.int (Int32.ofInt ((st + n : Nat)))), vU, vU, vU], [], zS (eV W) J tg)) (fun n W => (∀ c, c ≠ 45 → W c = V c) ∧ ∀ p, p < (evs f g (V 78) n).2 → W 45 p = (evs f g (V 78) n).1 p) ln (by
    intro n W hn ⟨i1, i2⟩
    obtain ⟨⟨t1, v1⟩, h1⟩ := ty_pre ht (ln - (n + 1)) (n + 1) (by omega)
    obtain ⟨t0, v0, h0, hcs⟩ := ty_in h1
    obtain ⟨e1, e2, e3, e4⟩ := evs_ok hN (fun j hj => c4 j (by omega)) h0
    have hvn := c4 n hn
    have hcode : W 60 (st + n) = enc (f n) (g n) := by rw [i1 60 (by decide)]; exact c5 n hn
    have h50 : W 62 (i + 1) = (st + ln : Nat) := by rw [i1 62 (by decide)]; exact c2
    have h78 : W 78 = V 78 := i1 78 (by decide)
    have ei : ((i : Int) + 1).toNat = i + 1 := by omega
    unfold vop at hvn
    have hsp := @evs_p f g (V 78) n
    have hsn := @evs_n f g (V 78) n
    have hsj := @evs_j f g (V 78) n
    generalize evs f g (V 78) n = q at e1 e3 e4 i2 hsp hsn hsj ⊢
    obtain ⟨s, k⟩ := q
    dsimp only at e1 e3 e4 i2 hsp hsn hsj ⊢
    rcases hcs with ⟨d1, -⟩ | ⟨d1, d2, -⟩ | hcs
    · rw [hsp d1]
      dsimp only
      by_cases d0 : f n = 0
      · rw [if_pos d0]
        have hg : 0 ≤ g n ∧ g n ≤ 9999 := by omega
        have hco : W 60 (st + n) = g n := by rw [hcode]; unfold enc; rw [if_pos d0]
        refine ⟨up2 W 45 k (g n), ⟨fun c q => by rw [w_ne _ _ _ _ q]; exact i1 c q, fun p hp => ?_⟩, fun r hr => ?_⟩
        · rw [w_at, updZ_at]
          split
          · rfl
          · exact i2 p (by omega)
        · apply sg_29g59_10
          simp (disch := omega) only [ei, h50, hco, eV_at, eV_up, o_lit2, o_add, o_sub, o_mul, o_neg, o_div, o_nat, ix_t, o_lt, o_le, o_eq, o_bi0, o_bi1, o_bib, em_t, o_neg1, o_shl, o_tb, o_tb0, o_tt, o_and, o_xor, o_or, o_max, o_min, an_tb, and_true, true_and, not_true, not_false, if_true, if_false, tn_add, tn_mul, Int.reduceToNat, tn_cast, md_x]
          rw [if_neg (by omega), if_neg (by omega), if_neg (by omega)]
          exact hr
      · rw [if_neg d0]
        have hg : f n = 1 ∧ 0 ≤ g n ∧ g n ≤ 11 := by omega
        have hco : W 60 (st + n) = 10000 + g n := by rw [hcode]; unfold enc; rw [if_neg d0, if_pos hg.1]
        have eg : (10000 + g n - 10000).toNat = (g n).toNat := by omega
        refine ⟨up2 W 45 k (V 78 (g n).toNat), ⟨fun c q => by rw [w_ne _ _ _ _ q]; exact i1 c q, fun p hp => ?_⟩, fun r hr => ?_⟩
        · rw [w_at, updZ_at]
          split
          · rfl
          · exact i2 p (by omega)
        · apply sg_29g59_10
          simp (disch := omega) only [ei, h50, hco, eg, h78, eV_at, eV_up, o_lit2, o_add, o_sub, o_mul, o_neg, o_div, o_nat, ix_t, o_lt, o_le, o_eq, o_bi0, o_bi1, o_bib, em_t, o_neg1, o_shl, o_tb, o_tb0, o_tt, o_and, o_xor, o_or, o_max, o_min, an_tb, and_true, true_and, not_true, not_false, if_true, if_false, tn_add, tn_mul, Int.reduceToNat, tn_cast, md_x]
          rw [if_neg (by omega), if_neg (by omega), if_pos (by omega)]
          exact hr
    · rw [hsn d1]
      dsimp only
      obtain ⟨k, rfl⟩ : ∃ k' : Nat, k = k' + 1 := ⟨k - 1, by omega⟩
      have hco : W 60 (st + n) = 20021 := by rw [hcode, d1]; rfl
      have ek : ((k + 1 : Nat) : Int) - 1 = (k : Int) := by omega
      have es : W 45 k = s k := i2 k (by omega)
      have ek1 : k + 1 - 1 = k := by omega
      rw [ek1]
      refine ⟨up2 W 45 k (- s k), ⟨fun c q => by rw [w_ne _ _ _ _ q]; exact i1 c q, fun p hp => ?_⟩, fun r hr => ?_⟩
      · rw [w_at, updZ_at]
        split
        · rfl
        · exact i2 p (by omega)
      · apply sg_29g59_10
        simp (disch := omega) only [ei, h50, hco, ek, es, eV_at, eV_up, o_lit2, o_add, o_sub, o_mul, o_neg, o_div, o_nat, ix_t, o_lt, o_le, o_eq, o_bi0, o_bi1, o_bib, em_t, o_neg1, o_shl, o_tb, o_tb0, o_tt, o_and, o_xor, o_or, o_max, o_min, an_tb, and_true, true_and, not_true, not_false, if_true, if_false, tn_add, tn_mul, Int.reduceToNat, tn_cast, md_x]
        rw [if_neg (by omega), if_pos (by omega), if_neg (by omega)]
        exact hr
    · have d1 : 2 < f n := by omega
      rw [hsj d1]
      dsimp only
      have hk2 : 2 ≤ k := by omega
      obtain ⟨k, rfl⟩ : ∃ k' : Nat, k = k' + 2 := ⟨k - 2, by omega⟩
      have hco : W 60 (st + n) = enc (f n) 0 := by rw [hcode, enc_o (by omega)]
      have hcr := enc_rg (o := f n) d1 (by omega) (by omega) (by omega)
      have es1 : W 45 k = s k := i2 k (by omega)
      have es2 : W 45 (k + 1) = s (k + 1) := i2 (k + 1) (by omega)
      have hr1 : -1000000 ≤ s k ∧ s k ≤ 1000000 := by
        by_cases q : k < t0
        · have := e3 k q; omega
        · exact e4 k (by omega) (by omega)
      have hr2 : -1000000 ≤ s (k + 1) ∧ s (k + 1) ≤ 1000000 := by
        by_cases q : k + 1 < t0
        · have := e3 (k + 1) q; omega
        · exact e4 (k + 1) (by omega) (by omega)
      obtain ⟨z, hz, hzj, hj⟩ := k_30 (L := L) (xs := xs) (J := J) (tg := tg) (d := d) (V := W) (o := f n) (x := s k) (y := s (k + 1)) (by omega) hr1 hr2 (fun h21 => ⟨e3 k (by omega), e3 (k + 1) (by omega)⟩)
      have e20 : k + 2 - 2 = k := by omega
      have e21 : k + 2 - 1 = k + 1 := by omega
      rw [e20, e21, ← hzj]
      have f1 : ((k + 2 : Nat) : Int) + -1 = ((k + 1 : Nat) : Int) := by omega
      have f2 : ((k + 1 : Nat) : Int) - 1 = (k : Int) := by omega
      refine ⟨up2 W 45 k (hl z), ⟨fun c q => by rw [w_ne _ _ _ _ q]; exact i1 c q, fun p hp => ?_⟩, fun r hr => ?_⟩
      · rw [w_at, updZ_at]
        split
        · rfl
        · exact i2 p (by omega)
      · apply sg_29g59_10
        simp (disch := omega) only [ei, h50, hco, f1, f2, es1, es2, l_64, eV_at, eV_up, o_lit2, o_add, o_sub, o_mul, o_neg, o_div, o_nat, ix_t, o_lt, o_le, o_eq, o_bi0, o_bi1, o_bib, em_t, o_neg1, o_shl, o_tb, o_tb0, o_tt, o_and, o_xor, o_or, o_max, o_min, an_tb, and_true, true_and, not_true, not_false, if_true, if_false, tn_add, tn_mul, Int.reduceToNat, tn_cast, md_x]
        rw [if_neg (by omega), if_pos (by omega), if_neg (by omega), if_neg (by omega)]
        refine ⟨_, _, hj, ?_⟩
        rw [cl_64 hz, eV_up]
        exact hr) ln 0 V (by omega) ⟨fun _ _ => rfl, fun p hp => by simp [evs] at hp⟩
  obtain ⟨e1, e2, e3, e4⟩ := evs_ok hN c4 ht
  have h0 : W 45 0 = (evs f g (V 78) ln).1 0 := i2 0 (by omega)
  have h50 : W 62 (i + 1) = (st + ln : Nat) := by rw [i1 62 (by decide)]; exact c2
  have ei : ((i : Int) + 1).toNat = i + 1 := by omega
  refine ⟨W, i1, ?_⟩
  apply sg_29g59
  simp (disch := omega) only [c1, eV_at, eV_up, o_lit2, o_add, o_sub, o_mul, o_neg, o_div, o_nat, ix_t, o_lt, o_le, o_eq, o_bi0, o_bi1, o_bib, em_t, o_neg1, o_shl, o_tb, o_tb0, o_tt, o_and, o_xor, o_or, o_max, o_min, an_tb, and_true, true_and, not_true, not_false, if_true, if_false, tn_add, tn_mul, Int.reduceToNat, tn_cast, md_x]
  refine hr _ ?_
  apply sg_29g59_10
  simp (disch := omega) only [ei, h50, h0, eV_at, eV_up, o_lit2, o_add, o_sub, o_mul, o_neg, o_div, o_nat, ix_t, o_lt, o_le, o_eq, o_bi0, o_bi1, o_bib, em_t, o_neg1, o_shl, o_tb, o_tb0, o_tt, o_and, o_xor, o_or, o_max, o_min, an_tb, and_true, true_and, not_true, not_false, if_true, if_false, tn_add, tn_mul, Int.reduceToNat, tn_cast, md_x]
  rw [if_pos (by omega)] <;> trivial
