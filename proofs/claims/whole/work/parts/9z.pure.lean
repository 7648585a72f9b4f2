/-! The least change that parts a pair: mended. -/
/-- a loop that counts, and may return on its way -/
theorem loopX {σ : Type} {g : PG} {d mid : Nat} (hd : Nat → σ → Cfg) (Inv : Nat → σ → Prop) (Q : Option Value × SS → Prop) (N : Nat) (body : ∀ n s, n < N → Inv n s → (∃ s', Inv (n + 1) s' ∧ Rch g d mid (hd n s) (hd (n + 1) s')) ∨ ∃ r, Q r ∧ Runs g d mid (hd n s) r) : ∀ k n s, n + k = N → Inv n s → (∃ s', Inv N s' ∧ Rch g d mid (hd n s) (hd N s')) ∨ ∃ r, Q r ∧ Runs g d mid (hd n s) r
  | 0, n, s, e, h => by
    have : n = N := by omega
    subst this; exact Or.inl ⟨s, h, Rch.rf⟩
  | k + 1, n, s, e, h => by
    rcases body n s (by omega) h with ⟨s1, h1, r1⟩ | hr
    · rcases loopX hd Inv Q N body k (n + 1) s1 (by omega) h1 with ⟨s2, h2, r2⟩ | ⟨r, hq, hr⟩
      · exact Or.inl ⟨s2, h2, r1.tr r2⟩
      · exact Or.inr ⟨r, hq, r1 r hr⟩
    · exact Or.inr hr
def mby (p : Int) (c : Nat) : Int := if c < 9 then p / 36 * 36 + 4 * c + p % 4 else if c < 13 then p / 4 * 4 + c - 9 else -1
theorem mby_rg {p : Int} (h : 0 ≤ p ∧ p < 180) {c : Nat} (hc : c < 13) : 0 ≤ mby p c ∧ mby p c < 180 := by
  unfold mby
  split
  · omega
  · omega
def mL (p : Nat → Int) (k : Nat) (b : Int) : Nat → List Int
  | 0 => []
  | i + 1 => if i = k then (if 0 ≤ b then mL p k b i ++ [b] else mL p k b i) else mL p k b i ++ [p i]
theorem mL_s {p : Nat → Int} {k : Nat} {b : Int} {i : Nat} : mL p k b (i + 1) = if i = k then (if 0 ≤ b then mL p k b i ++ [b] else mL p k b i) else mL p k b i ++ [p i] := rfl
theorem mL_kp {p : Nat → Int} {k : Nat} : ∀ n, mL p k (-1) n = kpL p (2 ^ k) n
  | 0 => rfl
  | n + 1 => by
    rw [mL_s, mL_kp n]
    have : kpL p (2 ^ k) (n + 1) = if (2 ^ k).testBit n then kpL p (2 ^ k) n else kpL p (2 ^ k) n ++ [p n] := rfl
    rw [this, Nat.testBit_two_pow]
    by_cases e : n = k
    · rw [if_pos e, if_neg (by omega), if_pos (by simp [e])]
    · rw [if_neg e, if_neg (by simp; omega)]
theorem mL_len {p : Nat → Int} {k : Nat} {b : Int} (hb : 0 ≤ b) : ∀ n, (mL p k b n).length = n
  | 0 => rfl
  | n + 1 => by
    have ih := mL_len (p := p) (k := k) hb n
    rw [mL_s]
    split
    · rw [List.length_append, ih]; rfl
    · rw [List.length_append, ih]; rfl
theorem mL_le {p : Nat → Int} {k : Nat} {b : Int} : ∀ n, (mL p k b n).length ≤ n
  | 0 => Nat.le_refl _
  | n + 1 => by
    have ih := mL_le (p := p) (k := k) (b := b) n
    rw [mL_s]
    split
    · split
      · rw [List.length_append, List.length_singleton]; omega
      · omega
    · rw [List.length_append, List.length_singleton]; omega
theorem mL_at {p : Nat → Int} {k : Nat} {b : Int} (hb : 0 ≤ b) : ∀ n j, j < n → lf (mL p k b n) j = if j = k then b else p j
  | 0, j, h => by omega
  | n + 1, j, h => by
    have hl := mL_len (p := p) (k := k) hb n
    have ih := mL_at (p := p) (k := k) hb n j
    rw [mL_s]
    by_cases e : n = k
    · rw [if_pos e, if_pos hb]
      by_cases q : j = n
      · rw [lf_last (by omega), if_pos (by omega)]
      · rw [lf_init (by omega)]; exact ih (by omega)
    · rw [if_neg e]
      by_cases q : j = n
      · rw [lf_last (by omega), if_neg (by omega), q]
      · rw [lf_init (by omega)]; exact ih (by omega)
theorem mL_rg {p : Nat → Int} {k : Nat} {b : Int} (hb : b < 180) (hp : ∀ i, 0 ≤ p i ∧ p i < 180) : ∀ n v, v ∈ mL p k b n → 0 ≤ v ∧ v < 180
  | 0, v, h => by simp [mL] at h
  | n + 1, v, h => by
    have ih := mL_rg (k := k) hb hp n v
    rw [mL_s] at h
    split at h
    · split at h
      · rcases List.mem_append.mp h with h | h
        · exact ih h
        · have : v = b := by simpa using h
          omega
      · exact ih h
    · rcases List.mem_append.mp h with h | h
      · exact ih h
      · have : v = p n := by simpa using h
        rw [this]; exact hp n
def mls (B : Nat → Nat → Int) (dr k c : Nat) : List Int := mL (lkc B dr) k (mby (lkc B dr k) c) (B 3 dr).toNat
def mlg (B : Nat → Nat → Int) (dr k c : Nat) : Prop := c = 13 ∨ ¬ inL (lkc B dr) (mby (lkc B dr k) c) (B 3 dr).toNat = true
def mfr (B : Nat → Nat → Int) (dr ot k c : Nat) : Int := FARp B (mls B dr k c).length (lf (mls B dr k c)) (B 4 dr) ot
def mFd (B : Nat → Nat → Int) (dr ot : Nat) (dd : Int) (k c : Nat) : Prop := mlg B dr k c ∧ dd ≤ mfr B dr ot k c ∧ ¬ smG B 5 0 (fct B dr (mls B dr k c).length (lf (mls B dr k c))) = true
def mty (c : Nat) : Int := if c < 9 then 0 else if c < 13 then 1 else 2
def mvl (c : Nat) : Int := if c < 9 then c else if c < 13 then (c : Int) - 9 else -1
section MD
variable {L d : Nat} {xs : Nat → Int32} {B V : Nat → Nat → Int} {J : Nat → Nat → Int64} {tg : Option Nat}
theorem lkc_rg (hR : RNG B) (dr i : Nat) : 0 ≤ lkc B dr i ∧ lkc B dr i < 180 := by
  have : 0 ≤ B 2 (dr * 6 + i) ∧ B 2 (dr * 6 + i) ≤ 179 := hR 2 _ (by decide) (by decide)
  unfold lkc; omega
theorem mls_ok (hR : RNG B) (dr k c : Nat) : okPL (mls B dr k c) := by
  have r3 : 0 ≤ B 3 dr ∧ B 3 dr ≤ 6 := hR 3 dr (by decide) (by decide)
  refine ⟨Nat.le_trans (mL_le _) (by omega), mL_rg ?_ (lkc_rg hR dr) _⟩
  have := lkc_rg hR dr k
  by_cases h : c < 13
  · exact (mby_rg this h).2
  · unfold mby; rw [if_neg (by omega), if_neg h]; omega
theorem kpL_0 {p : Nat → Int} : ∀ n, (kpL p 0 n).length = n ∧ ∀ j, j < n → lf (kpL p 0 n) j = p j
  | 0 => ⟨rfl, fun j h => by omega⟩
  | n + 1 => by
    obtain ⟨h1, h2⟩ := kpL_0 (p := p) n
    have : kpL p 0 (n + 1) = kpL p 0 n ++ [p n] := by
      show (if (0 : Nat).testBit n then kpL p 0 n else kpL p 0 n ++ [p n]) = _
      rw [Nat.zero_testBit, if_neg (by decide)]
    rw [this, List.length_append, h1]
    refine ⟨rfl, fun j hj => ?_⟩
    by_cases e : j = n
    · rw [lf_last (by omega), e]
    · rw [lf_init (by omega)]; exact h2 j (by omega)
/-- changePart -/
theorem k_11 (hI : INV B) (q : Qy B V) {dr k c : Nat} (hd : dr < 12) (h7 : V 79 7 = dr) (hk : (k : Int) < B 3 dr) (hc : c < 14) : ∃ X, (∀ x, x ≠ 80 → x ≠ 82 → X x = V x) ∧ X 82 1 = mty c ∧ X 82 2 = mvl c ∧ ((mlg B dr k c ∧ (∀ j, j < (mls B dr k c).length → X 80 j = lf (mls B dr k c) j) ∧ Runs (GW L xs) (d + 1) 11 (0, [.ref 79, (Value.int (Int32.ofInt (k))), (Value.int (Int32.ofInt (c))), vU, vU, vU, vU, vU, vU], [], zS (eV (V)) J tg) (some (Value.int (Int32.ofInt ((mls B dr k c).length))), zS (eV (X)) J tg)) ∨ (¬ mlg B dr k c ∧ Runs (GW L xs) (d + 1) 11 (0, [.ref 79, (Value.int (Int32.ofInt (k))), (Value.int (Int32.ofInt (c))), vU, vU, vU, vU, vU, vU], [], zS (eV (V)) J tg) (some (Value.int (Int32.ofInt (-1))), zS (eV (X)) J tg))) := by
  have r3 : 0 ≤ B 3 dr ∧ B 3 dr ≤ 6 := hI.1 3 dr (by decide) (by decide)
  obtain ⟨n, hn⟩ : ∃ n : Nat, B 3 dr = n := ⟨(B 3 dr).toNat, by omega⟩
  have hkr := lkc_rg hI.1 dr k
  have e2 : V 2 (dr * 6 + k) = lkc B dr k := by rw [q.1 2 (by omega)]; rfl
  by_cases c13 : c = 13
  · subst c13
    have qA : Qy B (up2 (up2 V 82 1 2) 82 2 (-1)) := q.cl fun x _ q2 => by rw [w_ne _ _ _ _ (by omega), w_ne _ _ _ _ (by omega)]
    have hp6 : 2 ^ k ≤ 64 := p2_64 (by omega)
    obtain ⟨X, x1, x2, x3⟩ := k_9 (L := L) (xs := xs) (J := J) (tg := tg) (d := d) hI qA (dr := dr) (s := 2 ^ k) hd (by omega)
    have el : mls B dr k 13 = kpL (lkc B dr) (2 ^ k) (B 3 dr).toNat := by
      unfold mls mby
      rw [if_neg (by omega), if_neg (by omega), mL_kp]
    refine ⟨X, fun x q1 q2 => by rw [x1 x q1, w_ne _ _ _ _ q2, w_ne _ _ _ _ q2], by rw [x1 82 (by decide), w_at, if_neg (by decide), w_eq]; rfl, by rw [x1 82 (by decide), w_eq]; rfl, Or.inl ⟨Or.inl rfl, ?_, ?_⟩⟩
    · rw [el]; exact x2
    · rw [el]
      apply sg_11
      simp (disch := omega) only [h7, eV_at, eV_up, o_lit2, o_add, o_sub, o_mul, o_neg, o_div, o_nat, ix_t, o_lt, o_le, o_eq, o_bi0, o_bi1, o_bib, em_t, o_neg1, o_shl, o_tb, o_tb0, o_tt, o_and, o_xor, o_or, o_max, o_min, an_tb, and_true, true_and, not_true, not_false, if_true, if_false, tn_add, tn_mul, Int.reduceToNat, tn_cast, md_x]
      exact ⟨_, _, x3, rfl⟩
  · have hb := mby_rg hkr (c := c) (by omega)
    -- places and ways
    have hA : ∀ x, x ≠ 82 → (up2 (up2 V 82 1 (mty c)) 82 2 (mvl c)) x = V x := fun x hx => by rw [w_ne _ _ _ _ hx, w_ne _ _ _ _ hx]
    have qA : Qy B (up2 (up2 V 82 1 (mty c)) 82 2 (mvl c)) := q.cl fun x _ q2 => hA x (by omega)
    obtain ⟨A, a1, a2, a3⟩ := k_9 (L := L) (xs := xs) (J := J) (tg := tg) (d := d) hI qA (dr := dr) (s := 0) hd (by omega)
    obtain ⟨l1, l2⟩ := kpL_0 (p := lkc B dr) n
    rw [hn, tn_cast] at a2 a3
    rw [l1] at a2 a3
    have a2 : ∀ j, j < n → A 80 j = lkc B dr j := fun j hj => by rw [a2 j hj]; exact l2 j hj
    have k173 := k_173_80 (L := L) (xs := xs) (J := J) (tg := tg) (d := d) (V := A) (f := 0) (n := n) (v := mby (lkc B dr k) c) (by omega) (by omega) (fun i hi => by rw [Nat.zero_add, a2 i hi]; have := lkc_rg hI.1 dr i; omega)
    rw [inL_cg (g := lkc B dr) (fun i hi => by rw [Nat.zero_add]; exact a2 i hi)] at k173
    have hX : ∀ x, x ≠ 80 → x ≠ 82 → A x = V x := fun x q1 q2 => by rw [a1 x q1]; exact hA x q2
    have e1 : A 82 1 = mty c := by rw [a1 82 (by decide), w_at, if_neg (by decide), w_eq]
    have e22 : A 82 2 = mvl c := by rw [a1 82 (by decide), w_eq]
    -- from place 129 on
    have tail : ∀ (x4 : Int32) (pl wy : Int), (lkc B dr k / 36 * 9 + pl) * 4 + wy = mby (lkc B dr k) c → ∃ X, (∀ x, x ≠ 80 → x ≠ 82 → X x = V x) ∧ X 82 1 = mty c ∧ X 82 2 = mvl c ∧ ((mlg B dr k c ∧ (∀ j, j < (mls B dr k c).length → X 80 j = lf (mls B dr k c) j) ∧ Runs (GW L xs) (d + 1) 11 (129, [.ref 79, (Value.int (Int32.ofInt (k))), (Value.int (Int32.ofInt (c))), (Value.int (Int32.ofInt (lkc B dr k))), .int x4, (Value.int (Int32.ofInt (pl))), vU, vU, vU], [(Value.int (Int32.ofInt (wy)))], zS (eV (up2 (up2 V 82 1 (mty c)) 82 2 (mvl c))) J tg) (some (Value.int (Int32.ofInt ((mls B dr k c).length))), zS (eV X) J tg)) ∨ (¬ mlg B dr k c ∧ Runs (GW L xs) (d + 1) 11 (129, [.ref 79, (Value.int (Int32.ofInt (k))), (Value.int (Int32.ofInt (c))), (Value.int (Int32.ofInt (lkc B dr k))), .int x4, (Value.int (Int32.ofInt (pl))), vU, vU, vU], [(Value.int (Int32.ofInt (wy)))], zS (eV (up2 (up2 V 82 1 (mty c)) 82 2 (mvl c))) J tg) (some (Value.int (Int32.ofInt (-1))), zS (eV X) J tg))) := by
      intro x4 pl wy he
      have k169 := k_169 (L := L) (xs := xs) (J := J) (tg := tg) (d := d) (V := up2 (up2 V 82 1 (mty c)) 82 2 (mvl c)) (a := lkc B dr k / 36) (b := pl) (c := wy)
      rw [he] at k169
      have h7' : eV (up2 (up2 V 82 1 (mty c)) 82 2 (mvl c)) 79 7 = Int32.ofInt dr := by rw [eV_at, w_nc _ _ _ _ (by decide), w_nc _ _ _ _ (by decide), h7]
      by_cases g : inL (lkc B dr) (mby (lkc B dr k) c) n = true
      · refine ⟨A, hX, e1, e22, Or.inr ⟨?_, ?_⟩⟩
        · unfold mlg
          rw [hn, tn_cast]
          exact fun h => h.elim c13 (fun h => h g)
        · apply sg_11_129
          refine ⟨_, _, k_170 (by omega), _, _, k169, ?_⟩
          rw [h7']
          refine ⟨_, _, a3, _, _, k173, ?_⟩
          rw [if_neg (b0_f g)]
          rfl
      · have el : (mls B dr k c).length = n := by unfold mls; rw [mL_len hb.1, hn, tn_cast]
        refine ⟨up2 A 80 k (mby (lkc B dr k) c), fun x q1 q2 => by rw [w_ne _ _ _ _ q1]; exact hX x q1 q2, by rw [w_nc _ _ _ _ (by decide)]; exact e1, by rw [w_nc _ _ _ _ (by decide)]; exact e22, Or.inl ⟨?_, fun j hj => ?_, ?_⟩⟩
        · unfold mlg
          rw [hn, tn_cast]
          exact Or.inr g
        · rw [el] at hj
          unfold mls
          rw [hn, tn_cast, mL_at hb.1 n j hj, w_at]
          by_cases e : j = k
          · rw [if_pos e, if_pos e]
          · rw [if_neg e, if_neg e]; exact a2 j hj
        · rw [el]
          apply sg_11_129
          refine ⟨_, _, k_170 (by omega), _, _, k169, ?_⟩
          rw [h7']
          refine ⟨_, _, a3, _, _, k173, ?_⟩
          rw [if_pos (b0_t g)]
          simp (disch := omega) only [eV_at, eV_up, o_lit2, o_add, o_sub, o_mul, o_neg, o_div, o_nat, ix_t, o_lt, o_le, o_eq, o_bi0, o_bi1, o_bib, em_t, o_neg1, o_shl, o_tb, o_tb0, o_tt, o_and, o_xor, o_or, o_max, o_min, an_tb, and_true, true_and, not_true, not_false, if_true, if_false, tn_add, tn_mul, Int.reduceToNat, tn_cast, md_x]
    by_cases c9 : c < 9
    · have ety : mty c = 0 := if_pos c9
      have evl : mvl c = c := if_pos c9
      obtain ⟨X, x1, x2, x3, x4⟩ := tail 1 c (lkc B dr k % 4) (by unfold mby; rw [if_pos c9]; omega)
      rw [ety, evl] at x4
      have head : ∀ r, Runs (GW L xs) (d + 1) 11 (129, [.ref 79, (Value.int (Int32.ofInt (k))), (Value.int (Int32.ofInt (c))), (Value.int (Int32.ofInt (lkc B dr k))), .int 1, (Value.int (Int32.ofInt (c))), vU, vU, vU], [(Value.int (Int32.ofInt (lkc B dr k % 4)))], zS (eV (up2 (up2 V 82 1 0) 82 2 c)) J tg) r → Runs (GW L xs) (d + 1) 11 (0, [.ref 79, (Value.int (Int32.ofInt (k))), (Value.int (Int32.ofInt (c))), vU, vU, vU, vU, vU, vU], [], zS (eV V) J tg) r := fun r hr => by
        apply sg_11
        simp (disch := omega) only [h7, e2, eV_at, eV_up, o_lit2, o_add, o_sub, o_mul, o_neg, o_div, o_nat, ix_t, o_lt, o_le, o_eq, o_bi0, o_bi1, o_bib, em_t, o_neg1, o_shl, o_tb, o_tb0, o_tt, o_and, o_xor, o_or, o_max, o_min, an_tb, and_true, true_and, not_true, not_false, if_true, if_false, tn_add, tn_mul, Int.reduceToNat, tn_cast, md_x]
        rw [if_neg (by omega), if_neg (by omega)]
        apply sg_11_61
        rw [if_neg (by decide)]
        apply sg_11_78
        simp (disch := omega) only [eV_at, eV_up, o_lit2, o_add, o_sub, o_mul, o_neg, o_div, o_nat, ix_t, o_lt, o_le, o_eq, o_bi0, o_bi1, o_bib, em_t, o_neg1, o_shl, o_tb, o_tb0, o_tt, o_and, o_xor, o_or, o_max, o_min, an_tb, and_true, true_and, not_true, not_false, if_true, if_false, tn_add, tn_mul, Int.reduceToNat, tn_cast, md_x]
        rw [if_neg (by omega)]
        apply sg_11_97
        simp (disch := omega) only [eV_at, eV_up, o_lit2, o_add, o_sub, o_mul, o_neg, o_div, o_nat, ix_t, o_lt, o_le, o_eq, o_bi0, o_bi1, o_bib, em_t, o_neg1, o_shl, o_tb, o_tb0, o_tt, o_and, o_xor, o_or, o_max, o_min, an_tb, and_true, true_and, not_true, not_false, if_true, if_false, tn_add, tn_mul, Int.reduceToNat, tn_cast, md_x]
        rw [if_neg (by omega)]
        apply sg_11_111
        rw [if_neg (by decide)]
        exact ⟨_, _, k_172 (by omega), hr⟩
      refine ⟨X, x1, x2, x3, ?_⟩
      rcases x4 with ⟨y1, y2, y3⟩ | ⟨y1, y3⟩
      · exact Or.inl ⟨y1, y2, head _ y3⟩
      · exact Or.inr ⟨y1, head _ y3⟩
    · have ety : mty c = 1 := by unfold mty; rw [if_neg c9, if_pos (by omega)]
      have evl : mvl c = (c : Int) - 9 := by unfold mvl; rw [if_neg c9, if_pos (by omega)]
      obtain ⟨X, x1, x2, x3, x4⟩ := tail 0 (lkc B dr k / 4 % 9) ((c : Int) - 9) (by unfold mby; rw [if_neg c9, if_pos (by omega)]; omega)
      rw [ety, evl] at x4
      have head : ∀ r, Runs (GW L xs) (d + 1) 11 (129, [.ref 79, (Value.int (Int32.ofInt (k))), (Value.int (Int32.ofInt (c))), (Value.int (Int32.ofInt (lkc B dr k))), .int 0, (Value.int (Int32.ofInt (lkc B dr k / 4 % 9))), vU, vU, vU], [(Value.int (Int32.ofInt ((c : Int) - 9)))], zS (eV (up2 (up2 V 82 1 1) 82 2 ((c : Int) - 9))) J tg) r → Runs (GW L xs) (d + 1) 11 (0, [.ref 79, (Value.int (Int32.ofInt (k))), (Value.int (Int32.ofInt (c))), vU, vU, vU, vU, vU, vU], [], zS (eV V) J tg) r := fun r hr => by
        apply sg_11
        simp (disch := omega) only [h7, e2, eV_at, eV_up, o_lit2, o_add, o_sub, o_mul, o_neg, o_div, o_nat, ix_t, o_lt, o_le, o_eq, o_bi0, o_bi1, o_bib, em_t, o_neg1, o_shl, o_tb, o_tb0, o_tt, o_and, o_xor, o_or, o_max, o_min, an_tb, and_true, true_and, not_true, not_false, if_true, if_false, tn_add, tn_mul, Int.reduceToNat, tn_cast, md_x]
        rw [if_neg (by omega), if_pos (by omega)]
        apply sg_11_61
        rw [if_pos (by decide)]
        apply sg_11_78
        simp (disch := omega) only [eV_at, eV_up, o_lit2, o_add, o_sub, o_mul, o_neg, o_div, o_nat, ix_t, o_lt, o_le, o_eq, o_bi0, o_bi1, o_bib, em_t, o_neg1, o_shl, o_tb, o_tb0, o_tt, o_and, o_xor, o_or, o_max, o_min, an_tb, and_true, true_and, not_true, not_false, if_true, if_false, tn_add, tn_mul, Int.reduceToNat, tn_cast, md_x]
        apply sg_11_97
        simp (disch := omega) only [eV_at, eV_up, o_lit2, o_add, o_sub, o_mul, o_neg, o_div, o_nat, ix_t, o_lt, o_le, o_eq, o_bi0, o_bi1, o_bib, em_t, o_neg1, o_shl, o_tb, o_tb0, o_tt, o_and, o_xor, o_or, o_max, o_min, an_tb, and_true, true_and, not_true, not_false, if_true, if_false, tn_add, tn_mul, Int.reduceToNat, tn_cast, md_x]
        refine ⟨_, _, k_171 (by omega), ?_⟩
        apply sg_11_111
        rw [if_pos (by decide)]
        simp (disch := omega) only [eV_at, eV_up, o_lit2, o_add, o_sub, o_mul, o_neg, o_div, o_nat, ix_t, o_lt, o_le, o_eq, o_bi0, o_bi1, o_bib, em_t, o_neg1, o_shl, o_tb, o_tb0, o_tt, o_and, o_xor, o_or, o_max, o_min, an_tb, and_true, true_and, not_true, not_false, if_true, if_false, tn_add, tn_mul, Int.reduceToNat, tn_cast, md_x]
        exact hr
      refine ⟨X, x1, x2, x3, ?_⟩
      rcases x4 with ⟨y1, y2, y3⟩ | ⟨y1, y3⟩
      · exact Or.inl ⟨y1, y2, head _ y3⟩
      · exact Or.inr ⟨y1, head _ y3⟩
/-- isApart -/
theorem k_12 (hI : INV B) (q : Qy B V) {dr ot : Nat} {dd : Int} {l : List Int} (hd : dr < 12) (h7 : V 79 7 = dr) (hot : ot < 12) (hdd : -2000 ≤ dd ∧ dd ≤ 2000) (hl : okPL l) (h80 : ∀ j, j < l.length → V 80 j = lf l j) : ∃ X, (∀ c, c ≠ 45 → ¬ (72 ≤ c ∧ c ≤ 78) → c ≠ 82 → X c = V c) ∧ (∀ p, p ≠ 3 → X 82 p = V 82 p) ∧ X 82 3 = FARp B l.length (lf l) (B 4 dr) ot ∧ Runs (GW L xs) (d + 4) 12 (0, [.ref 79, (Value.int (Int32.ofInt (l.length))), (Value.int (Int32.ofInt (ot))), (Value.int (Int32.ofInt (dd)))], [], zS (eV (V)) J tg) (some (Value.int (Int32.ofInt (bi (dd ≤ FARp B l.length (lf l) (B 4 dr) ot ∧ ¬ smG B 5 0 (fct B dr l.length (lf l)) = true)))), zS (eV (X)) J tg) := by
  obtain ⟨hl6, hlr⟩ := hl
  have hRV : RNG V := hI.1.fr fun c hc => q.1 c (by omega)
  have r4 : 0 ≤ B 4 dr ∧ B 4 dr ≤ 3 := hI.1 4 dr (by decide) (by decide)
  have e4 : V 4 dr = B 4 dr := by rw [q.1 4 (by omega)]
  obtain ⟨X, x1, x2⟩ := k_63_80 (L := L) (xs := xs) (J := J) (tg := tg) (d := d + 1) hRV (l := ot) (f := 0) (n := l.length) (by omega) hl6 (by omega) r4 (fun i hi => by rw [Nat.zero_add, h80 i hi]; exact hlr _ (lf_mem hi))
  rw [FARp_cg (q := lf l) (fun i hi => by rw [Nat.zero_add]; exact h80 i hi), FARp_fr (q.1 1 (by omega)) (q.1 2 (by omega)) (q.1 3 (by omega)) (q.1 4 (by omega))] at x2
  have hfr := FARp_rg hI.1 hl6 (lf l) (B 4 dr) ot
  generalize FARp B l.length (lf l) (B 4 dr) ot = far at x2 hfr ⊢
  have hY : ∀ c, ¬ (72 ≤ c ∧ c ≤ 74) → c ≠ 82 → (up2 X 82 3 far) c = V c := fun c q1 q2 => by rw [w_ne _ _ _ _ q2, x1 c (by omega) (by omega) (by omega)]
  have qY : Qy B (up2 X 82 3 far) := q.cl fun c _ q2 => hY c (by omega) (by omega)
  have hp3 : ∀ p, p ≠ 3 → (up2 X 82 3 far) 82 p = V 82 p := fun p hp => by rw [w_at, if_neg hp, x1 82 (by decide) (by decide) (by decide)]
  have hX7 : X 79 7 = dr := by rw [x1 79 (by decide) (by decide) (by decide)]; exact h7
  by_cases g : dd ≤ far
  · obtain ⟨A, a1, a2, a3, a4, a5, a6⟩ := k_97_80 (L := L) (xs := xs) (J := J) (tg := tg) (d := d + 2) (hI.1.fr fun c hc => qY.1 c (by omega)) (dr := dr) (st := 0) (f := 0) (n := l.length) hd (by omega) (fun i hi => by
      rw [Nat.zero_add, hY 80 (by omega) (by omega), h80 i hi]; exact hlr _ (lf_mem hi))
    have hF : ∀ k, k < 12 → A 78 k = fct B dr l.length (lf l) k := fun k hk => by
      rw [a5 k hk, fct_cg (q := lf l) (fun i hi => by rw [Nat.zero_add, hY 80 (by omega) (by omega)]; exact h80 i hi)]
      unfold fct
      rw [qY.1 4 (by omega), qY.1 5 (by omega)]
    have qA : Qy B A := qY.cl fun c _ q2 => a1 c (by omega) (by omega)
    have hN : N12 (A 78) := fun k hk => by rw [hF k hk]; have := fct_rg hI.1 (dr := dr) (n := l.length) (by omega) (lf l) k; omega
    obtain ⟨E, e1, e2⟩ := k_99 (L := L) (xs := xs) (J := J) (tg := tg) (d := d) hI qA hN
    rw [smG_cg hI (by decide) (fun v hv => hF v (by omega))] at e2
    refine ⟨E, fun c q1 q2 q3 => by rw [e1 c q1, a1 c (by omega) (by omega)]; exact hY c (by omega) q3, fun p hp => by rw [e1 82 (by decide), a1 82 (by decide) (by decide)]; exact hp3 p hp, by rw [e1 82 (by decide), a1 82 (by decide) (by decide), w_eq], ?_⟩
    apply sg_12
    simp (disch := omega) only [h7, e4, eV_at, eV_up, o_lit2, o_add, o_sub, o_mul, o_neg, o_div, o_nat, ix_t, o_lt, o_le, o_eq, o_bi0, o_bi1, o_bib, em_t, o_neg1, o_shl, o_tb, o_tb0, o_tt, o_and, o_xor, o_or, o_max, o_min, an_tb, and_true, true_and, not_true, not_false, if_true, if_false, tn_add, tn_mul, Int.reduceToNat, tn_cast, md_x]
    refine ⟨_, _, x2, ?_⟩
    simp (disch := omega) only [hX7, eV_at, eV_up, o_lit2, o_add, o_sub, o_mul, o_neg, o_div, o_nat, ix_t, o_lt, o_le, o_eq, o_bi0, o_bi1, o_bib, em_t, o_neg1, o_shl, o_tb, o_tb0, o_tt, o_and, o_xor, o_or, o_max, o_min, an_tb, and_true, true_and, not_true, not_false, if_true, if_false, tn_add, tn_mul, Int.reduceToNat, tn_cast, md_x]
    rw [if_pos g]
    refine ⟨_, a6, _, _, e2, o_01 (bi_rg _), ?_⟩
    exact leafI (bi_eq ⟨fun h => h.2, fun h => ⟨g, h⟩⟩)
  · refine ⟨up2 X 82 3 far, fun c q1 q2 q3 => hY c (by omega) q3, hp3, w_eq _ _ _ _, ?_⟩
    apply sg_12
    simp (disch := omega) only [h7, e4, eV_at, eV_up, o_lit2, o_add, o_sub, o_mul, o_neg, o_div, o_nat, ix_t, o_lt, o_le, o_eq, o_bi0, o_bi1, o_bib, em_t, o_neg1, o_shl, o_tb, o_tb0, o_tt, o_and, o_xor, o_or, o_max, o_min, an_tb, and_true, true_and, not_true, not_false, if_true, if_false, tn_add, tn_mul, Int.reduceToNat, tn_cast, md_x]
    refine ⟨_, _, x2, ?_⟩
    simp (disch := omega) only [hX7, eV_at, eV_up, o_lit2, o_add, o_sub, o_mul, o_neg, o_div, o_nat, ix_t, o_lt, o_le, o_eq, o_bi0, o_bi1, o_bib, em_t, o_neg1, o_shl, o_tb, o_tb0, o_tt, o_and, o_xor, o_or, o_max, o_min, an_tb, and_true, true_and, not_true, not_false, if_true, if_false, tn_add, tn_mul, Int.reduceToNat, tn_cast, md_x]
    rw [if_neg g]
    exact leafI (bi_f (fun h => g h.1)).symm
end MD
