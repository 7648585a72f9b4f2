/-! Clauses that hold: the class asks a GRAMMAR. -/
def anyB (P : Nat → Bool) : Nat → Bool
  | 0 => false
  | n + 1 => anyB P n || P n
theorem anyB_t {P : Nat → Bool} : ∀ {n : Nat}, anyB P n = true ↔ ∃ i, i < n ∧ P i = true
  | 0 => by simp [anyB]
  | n + 1 => by
    unfold anyB
    rw [Bool.or_eq_true, anyB_t (n := n)]
    constructor
    · rintro (⟨i, h1, h2⟩ | h)
      · exact ⟨i, by omega, h2⟩
      · exact ⟨n, by omega, h⟩
    · rintro ⟨i, h1, h2⟩
      by_cases e : i = n
      · subst e; exact Or.inr h2
      · exact Or.inl ⟨i, by omega, h2⟩
theorem anyB_cg {P Q : Nat → Bool} {n : Nat} (h : ∀ i, i < n → P i = Q i) : anyB P n = anyB Q n := by
  rw [Bool.eq_iff_iff, anyB_t, anyB_t]
  exact ⟨fun ⟨i, h1, h2⟩ => ⟨i, h1, by rw [← h i h1]; exact h2⟩, fun ⟨i, h1, h2⟩ => ⟨i, h1, by rw [h i h1]; exact h2⟩⟩
def opf (V : Nat → Nat → Int) (k i : Nat) : Nat → Int := fun j => V 96 (800 * k + 50 + 2 * ((V (47 + 4 * k + 3) i).toNat + j))
def opg (V : Nat → Nat → Int) (k i : Nat) : Nat → Int := fun j => V 96 (800 * k + 50 + 2 * ((V (47 + 4 * k + 3) i).toNat + j) + 1)
def oln (V : Nat → Nat → Int) (k i : Nat) : Nat := (V (47 + 4 * k + 3) (i + 1)).toNat - (V (47 + 4 * k + 3) i).toNat
def evC (V : Nat → Nat → Int) (k i : Nat) (N : Nat → Int) : Int := (evs (opf V k i) (opg V k i) N (oln V k i)).1 0
theorem GRk.cl {V : Nat → Nat → Int} {k : Nat} (h : GRk V k) {i : Nat} (hi : (i : Int) < V (47 + 4 * k) 4) : i < 10 ∧ CLS V (47 + 4 * k) i (opf V k i) (opg V k i) (V (47 + 4 * k + 3) i).toNat (oln V k i) ∧ tyO (opf V k i) (oln V k i) = some (if V (47 + 4 * k + 2) i = 6 then (0, 1) else (1, 0)) := by
  obtain ⟨a1, a2, a3, a4, a5⟩ := h
  obtain ⟨b1, b2, b3, b4, b5, b6, b7⟩ := a4 i hi
  refine ⟨by omega, ⟨by omega, by unfold oln; omega, by unfold oln; omega, fun j hj => ?_, fun j hj => ?_⟩, b6⟩
  · unfold oln at hj
    exact (b7 ((V (47 + 4 * k + 3) i).toNat + j) (by omega) (by omega)).1
  · unfold oln at hj
    exact (b7 ((V (47 + 4 * k + 3) i).toNat + j) (by omega) (by omega)).2.2
theorem GRk.nm {V : Nat → Nat → Int} {k : Nat} (h : GRk V k) {i : Nat} (hi : (i : Int) < V (47 + 4 * k) 4) (h6 : V (47 + 4 * k + 2) i ≠ 6) : ∀ j, j < oln V k i → opf V k i j = 1 → opg V k i j ≤ 7 := fun j hj h1 => by
  obtain ⟨a1, a2, a3, a4, a5⟩ := h
  obtain ⟨b1, b2, b3, b4, b5, b6, b7⟩ := a4 i hi
  unfold oln at hj
  exact (b7 ((V (47 + 4 * k + 3) i).toNat + j) (by omega) (by omega)).2.1 h6 h1
theorem evC_cg {V : Nat → Nat → Int} {k : Nat} (h : GRk V k) {i : Nat} (hi : (i : Int) < V (47 + 4 * k) 4) {N M : Nat → Int} (e : ∀ v, v < 12 → N v = M v) : evC V k i N = evC V k i M := by
  obtain ⟨c0, ⟨c1, c2, c3, c4, c5⟩, c6⟩ := h.cl hi
  unfold evC
  rw [evs_cg (M := M) (fun j hj => ?_)]
  have := c4 j hj
  unfold vop at this
  by_cases q : opf V k i j = 1
  · exact Or.inr (Or.inr (e _ (by omega)))
  · omega
theorem evC_cg8 {V : Nat → Nat → Int} {k : Nat} (h : GRk V k) {i : Nat} (hi : (i : Int) < V (47 + 4 * k) 4) (h6 : V (47 + 4 * k + 2) i ≠ 6) {N M : Nat → Int} (e : ∀ v, v < 8 → N v = M v) : evC V k i N = evC V k i M := by
  obtain ⟨c0, ⟨c1, c2, c3, c4, c5⟩, c6⟩ := h.cl hi
  have hn := h.nm hi h6
  unfold evC
  rw [evs_cg (M := M) (fun j hj => ?_)]
  have := c4 j hj
  unfold vop at this
  by_cases q : opf V k i j = 1
  · have := hn j hj q
    exact Or.inr (Or.inr (e _ (by omega)))
  · omega
theorem evC_b {V : Nat → Nat → Int} {k : Nat} (h : GRk V k) {i : Nat} (hi : (i : Int) < V (47 + 4 * k) 4) (h6 : V (47 + 4 * k + 2) i ≠ 6) {N : Nat → Int} (hN : ∀ v, v < 12 → -1000000 ≤ N v ∧ N v ≤ 1000000) : evC V k i N = 0 ∨ evC V k i N = 1 := by
  obtain ⟨c0, ⟨c1, c2, c3, c4, c5⟩, c6⟩ := h.cl hi
  rw [if_neg h6] at c6
  obtain ⟨e1, e2, e3, e4⟩ := evs_ok hN c4 c6
  exact e3 0 (by omega)
theorem evC_v {V : Nat → Nat → Int} {k : Nat} (h : GRk V k) {i : Nat} (hi : (i : Int) < V (47 + 4 * k) 4) (h6 : V (47 + 4 * k + 2) i = 6) {N : Nat → Int} (hN : ∀ v, v < 12 → -1000000 ≤ N v ∧ N v ≤ 1000000) : -1000000 ≤ evC V k i N ∧ evC V k i N ≤ 1000000 := by
  obtain ⟨c0, ⟨c1, c2, c3, c4, c5⟩, c6⟩ := h.cl hi
  rw [if_pos h6] at c6
  obtain ⟨e1, e2, e3, e4⟩ := evs_ok hN c4 c6
  exact e4 0 (by omega) (by omega)
/-- some clause of this kind is so -/
def smB (V : Nat → Nat → Int) (k : Nat) (kd so : Int) (N : Nat → Int) : Bool := anyB (fun i => decide (V (47 + 4 * k + 2) i = kd) && decide (evC V k i N = so)) (V (47 + 4 * k) 4).toNat
def smG (V : Nat → Nat → Int) (kd so : Int) (N : Nat → Int) : Bool := if V 18 1 = -1 then false else smB V (V 18 1).toNat kd so N
theorem evC_fr {V W : Nat → Nat → Int} (e : ∀ c, (46 ≤ c ∧ c ≤ 66) ∨ c = 96 → W c = V c) {k : Nat} (hk : k < 4) : evC W k = evC V k := by
  funext i N
  unfold evC opf opg oln
  rw [e 96 (by omega), e (47 + 4 * k + 3) (by omega)]
theorem smB_fr {V W : Nat → Nat → Int} (e : ∀ c, (46 ≤ c ∧ c ≤ 66) ∨ c = 96 → W c = V c) {k : Nat} (hk : k < 4) : smB W k = smB V k := by
  funext kd so N
  unfold smB
  rw [evC_fr e hk, e (47 + 4 * k + 2) (by omega), e (47 + 4 * k) (by omega)]
theorem CLS.fr {V W : Nat → Nat → Int} {C i st ln : Nat} {f g : Nat → Int} (h : CLS V C i f g st ln) (e1 : W (C + 1) = V (C + 1)) (e3 : W (C + 3) = V (C + 3)) : CLS W C i f g st ln := by
  unfold CLS at h ⊢
  rw [e1, e3]; exact h
theorem k_26_47 {L d : Nat} {xs : Nat → Int32} {V : Nat → Nat → Int} {J : Nat → Nat → Int64} {tg : Option Nat} (hG : GRk V 0) (hN : ∀ k, k < 12 → -1000000 ≤ V 78 k ∧ V 78 k ≤ 1000000) : ∃ W, (∀ c, c ≠ 45 → W c = V c) ∧ Runs (GW L xs) (d + 2) 26 (0, [.ref 47, .ref 78, vU], [], zS (eV (V)) J tg) (some (Value.int (Int32.ofInt (bi (smB V 0 4 1 (V 78) = true)))), zS (eV (W)) J tg) := by
  have hm : 0 ≤ V 47 4 ∧ V 47 4 ≤ 10 := hG.1
  obtain ⟨m, em⟩ : ∃ m : Nat, V 47 4 = m := ⟨(V 47 4).toNat, by omega⟩
  have hsm : smB V 0 4 1 (V 78) = anyB (fun i => decide (V 49 i = 4) && decide (evC V 0 i (V 78) = 1)) m := by
    show anyB (fun i => decide (V 49 i = 4) && decide (evC V 0 i (V 78) = 1)) (V 47 4).toNat = _
    rw [em, tn_cast]
  rw [hsm]
  obtain ⟨r, ⟨W, hW, hre⟩, hr⟩ := loopE (g := GW L xs) (d := d + 2) (mid := 26) (σ := Nat → Nat → Int) (fun n W => (2, [.ref 47, .ref 78, (Value.int (Int32.ofInt (n)))], [], zS (eV W) J tg)) (fun n W => (∀ c, c ≠ 45 → W c = V c) ∧ anyB (fun i => decide (V 49 i = 4) && decide (evC V 0 i (V 78) = 1)) n = false) (fun r => ∃ W, (∀ c, c ≠ 45 → W c = V c) ∧ r = (some (Value.int (Int32.ofInt (bi (anyB (fun i => decide (V 49 i = 4) && decide (evC V 0 i (V 78) = 1)) m = true)))), zS (eV W) J tg)) m (by
    intro n W hn ⟨i1, i2⟩
    have hin : (n : Int) < V (47 + 4 * 0) 4 := by show (n : Int) < V 47 4; omega
    obtain ⟨c0, c1, c2⟩ := hG.cl hin
    have hk : 4 ≤ V 49 n ∧ V 49 n ≤ 6 := (hG.2.2.2.1 n hin).1
    have e49 : W 49 n = V 49 n := by rw [i1 49 (by decide)]
    have e47 : W 47 4 = m := by rw [i1 47 (by decide), em]
    have hs : anyB (fun i => decide (V 49 i = 4) && decide (evC V 0 i (V 78) = 1)) (n + 1) = (anyB (fun i => decide (V 49 i = 4) && decide (evC V 0 i (V 78) = 1)) n || (decide (V 49 n = 4) && decide (evC V 0 n (V 78) = 1))) := rfl
    by_cases q4 : V 49 n = 4
    · have h6 : V (47 + 4 * 0 + 2) n ≠ 6 := by show V 49 n ≠ 6; omega
      rw [if_neg h6] at c2
      have hb := evC_b hG hin h6 hN
      have h78 : W 78 = V 78 := i1 78 (by decide)
      obtain ⟨X, x1, x2⟩ := k_29_47 (L := L) (xs := xs) (J := J) (tg := tg) (d := d) (V := W) c0 (c1.fr (i1 _ (by decide)) (i1 _ (by decide))) c2 (by omega) (by rw [h78]; exact hN)
      rw [h78] at x2
      have x2 : Runs (GW L xs) (d + 1) 29 (0, [.ref 47, (Value.int (Int32.ofInt (n))), .ref 78, vU, vU, vU, vU, vU], [], zS (eV (W)) J tg) (some (Value.int (Int32.ofInt (evC V 0 n (V 78)))), zS (eV (X)) J tg) := x2
      have hX : ∀ c, c ≠ 45 → X c = V c := fun c q => by rw [x1 c q]; exact i1 c q
      rcases hb with hb | hb
      · left
        refine ⟨X, ⟨hX, by rw [hs, i2, q4, hb]; decide⟩, fun r hr => ?_⟩
        apply sg_26g47_2
        simp (disch := omega) only [e47, e49, q4, eV_at, eV_up, o_lit2, o_add, o_sub, o_mul, o_neg, o_div, o_nat, ix_t, o_lt, o_le, o_eq, o_bi0, o_bi1, o_bib, em_t, o_neg1, o_shl, o_tb, o_tb0, o_tt, o_and, o_xor, o_or, o_max, o_min, an_tb, and_true, true_and, not_true, not_false, if_true, if_false, tn_add, tn_mul, Int.reduceToNat, tn_cast, md_x]
        rw [if_neg (by omega)]
        refine ⟨_, _, x2, ?_⟩
        rw [hb]
        exact hr
      · right
        refine ⟨_, ⟨X, hX, rfl⟩, ?_⟩
        apply sg_26g47_2
        simp (disch := omega) only [e47, e49, q4, eV_at, eV_up, o_lit2, o_add, o_sub, o_mul, o_neg, o_div, o_nat, ix_t, o_lt, o_le, o_eq, o_bi0, o_bi1, o_bib, em_t, o_neg1, o_shl, o_tb, o_tb0, o_tt, o_and, o_xor, o_or, o_max, o_min, an_tb, and_true, true_and, not_true, not_false, if_true, if_false, tn_add, tn_mul, Int.reduceToNat, tn_cast, md_x]
        rw [if_neg (by omega)]
        refine ⟨_, _, x2, ?_⟩
        rw [hb]
        exact leafI (bi_t (anyB_t.mpr ⟨n, hn, by rw [q4, hb]; decide⟩)).symm
    · left
      refine ⟨W, ⟨i1, by rw [hs, i2, decide_eq_false q4]; rfl⟩, fun r hr => ?_⟩
      apply sg_26g47_2
      simp (disch := omega) only [e47, e49, eV_at, eV_up, o_lit2, o_add, o_sub, o_mul, o_neg, o_div, o_nat, ix_t, o_lt, o_le, o_eq, o_bi0, o_bi1, o_bib, em_t, o_neg1, o_shl, o_tb, o_tb0, o_tt, o_and, o_xor, o_or, o_max, o_min, an_tb, and_true, true_and, not_true, not_false, if_true, if_false, tn_add, tn_mul, Int.reduceToNat, tn_cast, md_x]
      rw [if_neg (by omega), if_neg q4]
      exact hr) (by
    intro W ⟨i1, i2⟩
    have e47 : W 47 4 = m := by rw [i1 47 (by decide), em]
    refine ⟨_, ⟨W, i1, rfl⟩, ?_⟩
    apply sg_26g47_2
    simp (disch := omega) only [e47, eV_at, eV_up, o_lit2, o_add, o_sub, o_mul, o_neg, o_div, o_nat, ix_t, o_lt, o_le, o_eq, o_bi0, o_bi1, o_bib, em_t, o_neg1, o_shl, o_tb, o_tb0, o_tt, o_and, o_xor, o_or, o_max, o_min, an_tb, and_true, true_and, not_true, not_false, if_true, if_false, tn_add, tn_mul, Int.reduceToNat, tn_cast, md_x]
    rw [if_pos (by omega)]
    exact leafI (bi_f (by rw [i2]; decide)).symm) m 0 V (by omega) ⟨fun _ _ => rfl, rfl⟩
  subst hre
  exact ⟨W, hW, sg_26g47 _ _ _ hr⟩
theorem k_27_47 {L d : Nat} {xs : Nat → Int32} {V : Nat → Nat → Int} {J : Nat → Nat → Int64} {tg : Option Nat} (hG : GRk V 0) (hN : ∀ k, k < 12 → -1000000 ≤ V 78 k ∧ V 78 k ≤ 1000000) : ∃ W, (∀ c, c ≠ 45 → W c = V c) ∧ Runs (GW L xs) (d + 2) 27 (0, [.ref 47, .ref 78, vU], [], zS (eV (V)) J tg) (some (Value.int (Int32.ofInt (bi (¬ smB V 0 5 0 (V 78) = true)))), zS (eV (W)) J tg) := by
  have hm : 0 ≤ V 47 4 ∧ V 47 4 ≤ 10 := hG.1
  obtain ⟨m, em⟩ : ∃ m : Nat, V 47 4 = m := ⟨(V 47 4).toNat, by omega⟩
  have hsm : smB V 0 5 0 (V 78) = anyB (fun i => decide (V 49 i = 5) && decide (evC V 0 i (V 78) = 0)) m := by
    show anyB (fun i => decide (V 49 i = 5) && decide (evC V 0 i (V 78) = 0)) (V 47 4).toNat = _
    rw [em, tn_cast]
  rw [hsm]
  obtain ⟨r, ⟨W, hW, hre⟩, hr⟩ := loopE (g := GW L xs) (d := d + 2) (mid := 27) (σ := Nat → Nat → Int) (fun n W => (2, [.ref 47, .ref 78, (Value.int (Int32.ofInt (n)))], [], zS (eV W) J tg)) (fun n W => (∀ c, c ≠ 45 → W c = V c) ∧ anyB (fun i => decide (V 49 i = 5) && decide (evC V 0 i (V 78) = 0)) n = false) (fun r => ∃ W, (∀ c, c ≠ 45 → W c = V c) ∧ r = (some (Value.int (Int32.ofInt (bi (¬ anyB (fun i => decide (V 49 i = 5) && decide (evC V 0 i (V 78) = 0)) m = true)))), zS (eV W) J tg)) m (by
    intro n W hn ⟨i1, i2⟩
    have hin : (n : Int) < V (47 + 4 * 0) 4 := by show (n : Int) < V 47 4; omega
    obtain ⟨c0, c1, c2⟩ := hG.cl hin
    have hk : 4 ≤ V 49 n ∧ V 49 n ≤ 6 := (hG.2.2.2.1 n hin).1
    have e49 : W 49 n = V 49 n := by rw [i1 49 (by decide)]
    have e47 : W 47 4 = m := by rw [i1 47 (by decide), em]
    have hs : anyB (fun i => decide (V 49 i = 5) && decide (evC V 0 i (V 78) = 0)) (n + 1) = (anyB (fun i => decide (V 49 i = 5) && decide (evC V 0 i (V 78) = 0)) n || (decide (V 49 n = 5) && decide (evC V 0 n (V 78) = 0))) := rfl
    by_cases q4 : V 49 n = 5
    · have h6 : V (47 + 4 * 0 + 2) n ≠ 6 := by show V 49 n ≠ 6; omega
      rw [if_neg h6] at c2
      have hb := evC_b hG hin h6 hN
      have h78 : W 78 = V 78 := i1 78 (by decide)
      obtain ⟨X, x1, x2⟩ := k_29_47 (L := L) (xs := xs) (J := J) (tg := tg) (d := d) (V := W) c0 (c1.fr (i1 _ (by decide)) (i1 _ (by decide))) c2 (by omega) (by rw [h78]; exact hN)
      rw [h78] at x2
      have x2 : Runs (GW L xs) (d + 1) 29 (0, [.ref 47, (Value.int (Int32.ofInt (n))), .ref 78, vU, vU, vU, vU, vU], [], zS (eV (W)) J tg) (some (Value.int (Int32.ofInt (evC V 0 n (V 78)))), zS (eV (X)) J tg) := x2
      have hX : ∀ c, c ≠ 45 → X c = V c := fun c q => by rw [x1 c q]; exact i1 c q
      rcases hb with hb | hb
      · right
        refine ⟨_, ⟨X, hX, rfl⟩, ?_⟩
        apply sg_27g47_2
        simp (disch := omega) only [e47, e49, q4, eV_at, eV_up, o_lit2, o_add, o_sub, o_mul, o_neg, o_div, o_nat, ix_t, o_lt, o_le, o_eq, o_bi0, o_bi1, o_bib, em_t, o_neg1, o_shl, o_tb, o_tb0, o_tt, o_and, o_xor, o_or, o_max, o_min, an_tb, and_true, true_and, not_true, not_false, if_true, if_false, tn_add, tn_mul, Int.reduceToNat, tn_cast, md_x]
        rw [if_neg (by omega)]
        refine ⟨_, _, x2, ?_⟩
        rw [hb]
        exact leafI (bi_f (fun h => h (anyB_t.mpr ⟨n, hn, by rw [q4, hb]; decide⟩))).symm
      · left
        refine ⟨X, ⟨hX, by rw [hs, i2, q4, hb]; decide⟩, fun r hr => ?_⟩
        apply sg_27g47_2
        simp (disch := omega) only [e47, e49, q4, eV_at, eV_up, o_lit2, o_add, o_sub, o_mul, o_neg, o_div, o_nat, ix_t, o_lt, o_le, o_eq, o_bi0, o_bi1, o_bib, em_t, o_neg1, o_shl, o_tb, o_tb0, o_tt, o_and, o_xor, o_or, o_max, o_min, an_tb, and_true, true_and, not_true, not_false, if_true, if_false, tn_add, tn_mul, Int.reduceToNat, tn_cast, md_x]
        rw [if_neg (by omega)]
        refine ⟨_, _, x2, ?_⟩
        rw [hb]
        exact hr
    · left
      refine ⟨W, ⟨i1, by rw [hs, i2, decide_eq_false q4]; rfl⟩, fun r hr => ?_⟩
      apply sg_27g47_2
      simp (disch := omega) only [e47, e49, eV_at, eV_up, o_lit2, o_add, o_sub, o_mul, o_neg, o_div, o_nat, ix_t, o_lt, o_le, o_eq, o_bi0, o_bi1, o_bib, em_t, o_neg1, o_shl, o_tb, o_tb0, o_tt, o_and, o_xor, o_or, o_max, o_min, an_tb, and_true, true_and, not_true, not_false, if_true, if_false, tn_add, tn_mul, Int.reduceToNat, tn_cast, md_x]
      rw [if_neg (by omega), if_neg q4]
      exact hr) (by
    intro W ⟨i1, i2⟩
    have e47 : W 47 4 = m := by rw [i1 47 (by decide), em]
    refine ⟨_, ⟨W, i1, rfl⟩, ?_⟩
    apply sg_27g47_2
    simp (disch := omega) only [e47, eV_at, eV_up, o_lit2, o_add, o_sub, o_mul, o_neg, o_div, o_nat, ix_t, o_lt, o_le, o_eq, o_bi0, o_bi1, o_bib, em_t, o_neg1, o_shl, o_tb, o_tb0, o_tt, o_and, o_xor, o_or, o_max, o_min, an_tb, and_true, true_and, not_true, not_false, if_true, if_false, tn_add, tn_mul, Int.reduceToNat, tn_cast, md_x]
    rw [if_pos (by omega)]
    exact leafI (bi_t (by rw [i2]; decide)).symm) m 0 V (by omega) ⟨fun _ _ => rfl, rfl⟩
  subst hre
  exact ⟨W, hW, sg_27g47 _ _ _ hr⟩
theorem k_26_51 {L d : Nat} {xs : Nat → Int32} {V : Nat → Nat → Int} {J : Nat → Nat → Int64} {tg : Option Nat} (hG : GRk V 1) (hN : ∀ k, k < 12 → -1000000 ≤ V 78 k ∧ V 78 k ≤ 1000000) : ∃ W, (∀ c, c ≠ 45 → W c = V c) ∧ Runs (GW L xs) (d + 2) 26 (0, [.ref 51, .ref 78, vU], [], zS (eV (V)) J tg) (some (Value.int (Int32.ofInt (bi (smB V 1 4 1 (V 78) = true)))), zS (eV (W)) J tg) := by
  have hm : 0 ≤ V 51 4 ∧ V 51 4 ≤ 10 := hG.1
  obtain ⟨m, em⟩ : ∃ m : Nat, V 51 4 = m := ⟨(V 51 4).toNat, by omega⟩
  have hsm : smB V 1 4 1 (V 78) = anyB (fun i => decide (V 53 i = 4) && decide (evC V 1 i (V 78) = 1)) m := by
    show anyB (fun i => decide (V 53 i = 4) && decide (evC V 1 i (V 78) = 1)) (V 51 4).toNat = _
    rw [em, tn_cast]
  rw [hsm]
  obtain ⟨r, ⟨W, hW, hre⟩, hr⟩ := loopE (g := GW L xs) (d := d + 2) (mid := 26) (σ := Nat → Nat → Int) (fun n W => (2, [.ref 51, .ref 78, (Value.int (Int32.ofInt (n)))], [], zS (eV W) J tg)) (fun n W => (∀ c, c ≠ 45 → W c = V c) ∧ anyB (fun i => decide (V 53 i = 4) && decide (evC V 1 i (V 78) = 1)) n = false) (fun r => ∃ W, (∀ c, c ≠ 45 → W c = V c) ∧ r = (some (Value.int (Int32.ofInt (bi (anyB (fun i => decide (V 53 i = 4) && decide (evC V 1 i (V 78) = 1)) m = true)))), zS (eV W) J tg)) m (by
    intro n W hn ⟨i1, i2⟩
    have hin : (n : Int) < V (47 + 4 * 1) 4 := by show (n : Int) < V 51 4; omega
    obtain ⟨c0, c1, c2⟩ := hG.cl hin
    have hk : 4 ≤ V 53 n ∧ V 53 n ≤ 6 := (hG.2.2.2.1 n hin).1
    have e49 : W 53 n = V 53 n := by rw [i1 53 (by decide)]
    have e47 : W 51 4 = m := by rw [i1 51 (by decide), em]
    have hs : anyB (fun i => decide (V 53 i = 4) && decide (evC V 1 i (V 78) = 1)) (n + 1) = (anyB (fun i => decide (V 53 i = 4) && decide (evC V 1 i (V 78) = 1)) n || (decide (V 53 n = 4) && decide (evC V 1 n (V 78) = 1))) := rfl
    by_cases q4 : V 53 n = 4
    · have h6 : V (47 + 4 * 1 + 2) n ≠ 6 := by show V 53 n ≠ 6; omega
      rw [if_neg h6] at c2
      have hb := evC_b hG hin h6 hN
      have h78 : W 78 = V 78 := i1 78 (by decide)
      obtain ⟨X, x1, x2⟩ := k_29_51 (L := L) (xs := xs) (J := J) (tg := tg) (d := d) (V := W) c0 (c1.fr (i1 _ (by decide)) (i1 _ (by decide))) c2 (by omega) (by rw [h78]; exact hN)
      rw [h78] at x2
      have x2 : Runs (GW L xs) (d + 1) 29 (0, [.ref 51, (Value.int (Int32.ofInt (n))), .ref 78, vU, vU, vU, vU, vU], [], zS (eV (W)) J tg) (some (Value.int (Int32.ofInt (evC V 1 n (V 78)))), zS (eV (X)) J tg) := x2
      have hX : ∀ c, c ≠ 45 → X c = V c := fun c q => by rw [x1 c q]; exact i1 c q
      rcases hb with hb | hb
      · left
        refine ⟨X, ⟨hX, by rw [hs, i2, q4, hb]; decide⟩, fun r hr => ?_⟩
        apply sg_26g51_2
        simp (disch := omega) only [e47, e49, q4, eV_at, eV_up, o_lit2, o_add, o_sub, o_mul, o_neg, o_div, o_nat, ix_t, o_lt, o_le, o_eq, o_bi0, o_bi1, o_bib, em_t, o_neg1, o_shl, o_tb, o_tb0, o_tt, o_and, o_xor, o_or, o_max, o_min, an_tb, and_true, true_and, not_true, not_false, if_true, if_false, tn_add, tn_mul, Int.reduceToNat, tn_cast, md_x]
        rw [if_neg (by omega)]
        refine ⟨_, _, x2, ?_⟩
        rw [hb]
        exact hr
      · right
        refine ⟨_, ⟨X, hX, rfl⟩, ?_⟩
        apply sg_26g51_2
        simp (disch := omega) only [e47, e49, q4, eV_at, eV_up, o_lit2, o_add, o_sub, o_mul, o_neg, o_div, o_nat, ix_t, o_lt, o_le, o_eq, o_bi0, o_bi1, o_bib, em_t, o_neg1, o_shl, o_tb, o_tb0, o_tt, o_and, o_xor, o_or, o_max, o_min, an_tb, and_true, true_and, not_true, not_false, if_true, if_false, tn_add, tn_mul, Int.reduceToNat, tn_cast, md_x]
        rw [if_neg (by omega)]
        refine ⟨_, _, x2, ?_⟩
        rw [hb]
        exact leafI (bi_t (anyB_t.mpr ⟨n, hn, by rw [q4, hb]; decide⟩)).symm
    · left
      refine ⟨W, ⟨i1, by rw [hs, i2, decide_eq_false q4]; rfl⟩, fun r hr => ?_⟩
      apply sg_26g51_2
      simp (disch := omega) only [e47, e49, eV_at, eV_up, o_lit2, o_add, o_sub, o_mul, o_neg, o_div, o_nat, ix_t, o_lt, o_le, o_eq, o_bi0, o_bi1, o_bib, em_t, o_neg1, o_shl, o_tb, o_tb0, o_tt, o_and, o_xor, o_or, o_max, o_min, an_tb, and_true, true_and, not_true, not_false, if_true, if_false, tn_add, tn_mul, Int.reduceToNat, tn_cast, md_x]
      rw [if_neg (by omega), if_neg q4]
      exact hr) (by
    intro W ⟨i1, i2⟩
    have e47 : W 51 4 = m := by rw [i1 51 (by decide), em]
    refine ⟨_, ⟨W, i1, rfl⟩, ?_⟩
    apply sg_26g51_2
    simp (disch := omega) only [e47, eV_at, eV_up, o_lit2, o_add, o_sub, o_mul, o_neg, o_div, o_nat, ix_t, o_lt, o_le, o_eq, o_bi0, o_bi1, o_bib, em_t, o_neg1, o_shl, o_tb, o_tb0, o_tt, o_and, o_xor, o_or, o_max, o_min, an_tb, and_true, true_and, not_true, not_false, if_true, if_false, tn_add, tn_mul, Int.reduceToNat, tn_cast, md_x]
    rw [if_pos (by omega)]
    exact leafI (bi_f (by rw [i2]; decide)).symm) m 0 V (by omega) ⟨fun _ _ => rfl, rfl⟩
  subst hre
  exact ⟨W, hW, sg_26g51 _ _ _ hr⟩
theorem k_27_51 {L d : Nat} {xs : Nat → Int32} {V : Nat → Nat → Int} {J : Nat → Nat → Int64} {tg : Option Nat} (hG : GRk V 1) (hN : ∀ k, k < 12 → -1000000 ≤ V 78 k ∧ V 78 k ≤ 1000000) : ∃ W, (∀ c, c ≠ 45 → W c = V c) ∧ Runs (GW L xs) (d + 2) 27 (0, [.ref 51, .ref 78, vU], [], zS (eV (V)) J tg) (some (Value.int (Int32.ofInt (bi (¬ smB V 1 5 0 (V 78) = true)))), zS (eV (W)) J tg) := by
  have hm : 0 ≤ V 51 4 ∧ V 51 4 ≤ 10 := hG.1
  obtain ⟨m, em⟩ : ∃ m : Nat, V 51 4 = m := ⟨(V 51 4).toNat, by omega⟩
  have hsm : smB V 1 5 0 (V 78) = anyB (fun i => decide (V 53 i = 5) && decide (evC V 1 i (V 78) = 0)) m := by
    show anyB (fun i => decide (V 53 i = 5) && decide (evC V 1 i (V 78) = 0)) (V 51 4).toNat = _
    rw [em, tn_cast]
  rw [hsm]
  obtain ⟨r, ⟨W, hW, hre⟩, hr⟩ := loopE (g := GW L xs) (d := d + 2) (mid := 27) (σ := Nat → Nat → Int) (fun n W => (2, [.ref 51, .ref 78, (Value.int (Int32.ofInt (n)))], [], zS (eV W) J tg)) (fun n W => (∀ c, c ≠ 45 → W c = V c) ∧ anyB (fun i => decide (V 53 i = 5) && decide (evC V 1 i (V 78) = 0)) n = false) (fun r => ∃ W, (∀ c, c ≠ 45 → W c = V c) ∧ r = (some (Value.int (Int32.ofInt (bi (¬ anyB (fun i => decide (V 53 i = 5) && decide (evC V 1 i (V 78) = 0)) m = true)))), zS (eV W) J tg)) m (by
    intro n W hn ⟨i1, i2⟩
    have hin : (n : Int) < V (47 + 4 * 1) 4 := by show (n : Int) < V 51 4; omega
    obtain ⟨c0, c1, c2⟩ := hG.cl hin
    have hk : 4 ≤ V 53 n ∧ V 53 n ≤ 6 := (hG.2.2.2.1 n hin).1
    have e49 : W 53 n = V 53 n := by rw [i1 53 (by decide)]
    have e47 : W 51 4 = m := by rw [i1 51 (by decide), em]
    have hs : anyB (fun i => decide (V 53 i = 5) && decide (evC V 1 i (V 78) = 0)) (n + 1) = (anyB (fun i => decide (V 53 i = 5) && decide (evC V 1 i (V 78) = 0)) n || (decide (V 53 n = 5) && decide (evC V 1 n (V 78) = 0))) := rfl
    by_cases q4 : V 53 n = 5
    · have h6 : V (47 + 4 * 1 + 2) n ≠ 6 := by show V 53 n ≠ 6; omega
      rw [if_neg h6] at c2
      have hb := evC_b hG hin h6 hN
      have h78 : W 78 = V 78 := i1 78 (by decide)
      obtain ⟨X, x1, x2⟩ := k_29_51 (L := L) (xs := xs) (J := J) (tg := tg) (d := d) (V := W) c0 (c1.fr (i1 _ (by decide)) (i1 _ (by decide))) c2 (by omega) (by rw [h78]; exact hN)
      rw [h78] at x2
      have x2 : Runs (GW L xs) (d + 1) 29 (0, [.ref 51, (Value.int (Int32.ofInt (n))), .ref 78, vU, vU, vU, vU, vU], [], zS (eV (W)) J tg) (some (Value.int (Int32.ofInt (evC V 1 n (V 78)))), zS (eV (X)) J tg) := x2
      have hX : ∀ c, c ≠ 45 → X c = V c := fun c q => by rw [x1 c q]; exact i1 c q
      rcases hb with hb | hb
      · right
        refine ⟨_, ⟨X, hX, rfl⟩, ?_⟩
        apply sg_27g51_2
        simp (disch := omega) only [e47, e49, q4, eV_at, eV_up, o_lit2, o_add, o_sub, o_mul, o_neg, o_div, o_nat, ix_t, o_lt, o_le, o_eq, o_bi0, o_bi1, o_bib, em_t, o_neg1, o_shl, o_tb, o_tb0, o_tt, o_and, o_xor, o_or, o_max, o_min, an_tb, and_true, true_and, not_true, not_false, if_true, if_false, tn_add, tn_mul, Int.reduceToNat, tn_cast, md_x]
        rw [if_neg (by omega)]
        refine ⟨_, _, x2, ?_⟩
        rw [hb]
        exact leafI (bi_f (fun h => h (anyB_t.mpr ⟨n, hn, by rw [q4, hb]; decide⟩))).symm
      · left
        refine ⟨X, ⟨hX, by rw [hs, i2, q4, hb]; decide⟩, fun r hr => ?_⟩
        apply sg_27g51_2
        simp (disch := omega) only [e47, e49, q4, eV_at, eV_up, o_lit2, o_add, o_sub, o_mul, o_neg, o_div, o_nat, ix_t, o_lt, o_le, o_eq, o_bi0, o_bi1, o_bib, em_t, o_neg1, o_shl, o_tb, o_tb0, o_tt, o_and, o_xor, o_or, o_max, o_min, an_tb, and_true, true_and, not_true, not_false, if_true, if_false, tn_add, tn_mul, Int.reduceToNat, tn_cast, md_x]
        rw [if_neg (by omega)]
        refine ⟨_, _, x2, ?_⟩
        rw [hb]
        exact hr
    · left
      refine ⟨W, ⟨i1, by rw [hs, i2, decide_eq_false q4]; rfl⟩, fun r hr => ?_⟩
      apply sg_27g51_2
      simp (disch := omega) only [e47, e49, eV_at, eV_up, o_lit2, o_add, o_sub, o_mul, o_neg, o_div, o_nat, ix_t, o_lt, o_le, o_eq, o_bi0, o_bi1, o_bib, em_t, o_neg1, o_shl, o_tb, o_tb0, o_tt, o_and, o_xor, o_or, o_max, o_min, an_tb, and_true, true_and, not_true, not_false, if_true, if_false, tn_add, tn_mul, Int.reduceToNat, tn_cast, md_x]
      rw [if_neg (by omega), if_neg q4]
      exact hr) (by
    intro W ⟨i1, i2⟩
    have e47 : W 51 4 = m := by rw [i1 51 (by decide), em]
    refine ⟨_, ⟨W, i1, rfl⟩, ?_⟩
    apply sg_27g51_2
    simp (disch := omega) only [e47, eV_at, eV_up, o_lit2, o_add, o_sub, o_mul, o_neg, o_div, o_nat, ix_t, o_lt, o_le, o_eq, o_bi0, o_bi1, o_bib, em_t, o_neg1, o_shl, o_tb, o_tb0, o_tt, o_and, o_xor, o_or, o_max, o_min, an_tb, and_true, true_and, not_true, not_false, if_true, if_false, tn_add, tn_mul, Int.reduceToNat, tn_cast, md_x]
    rw [if_pos (by omega)]
    exact leafI (bi_t (by rw [i2]; decide)).symm) m 0 V (by omega) ⟨fun _ _ => rfl, rfl⟩
  subst hre
  exact ⟨W, hW, sg_27g51 _ _ _ hr⟩
theorem k_26_55 {L d : Nat} {xs : Nat → Int32} {V : Nat → Nat → Int} {J : Nat → Nat → Int64} {tg : Option Nat} (hG : GRk V 2) (hN : ∀ k, k < 12 → -1000000 ≤ V 78 k ∧ V 78 k ≤ 1000000) : ∃ W, (∀ c, c ≠ 45 → W c = V c) ∧ Runs (GW L xs) (d + 2) 26 (0, [.ref 55, .ref 78, vU], [], zS (eV (V)) J tg) (some (Value.int (Int32.ofInt (bi (smB V 2 4 1 (V 78) = true)))), zS (eV (W)) J tg) := by
  have hm : 0 ≤ V 55 4 ∧ V 55 4 ≤ 10 := hG.1
  obtain ⟨m, em⟩ : ∃ m : Nat, V 55 4 = m := ⟨(V 55 4).toNat, by omega⟩
  have hsm : smB V 2 4 1 (V 78) = anyB (fun i => decide (V 57 i = 4) && decide (evC V 2 i (V 78) = 1)) m := by
    show anyB (fun i => decide (V 57 i = 4) && decide (evC V 2 i (V 78) = 1)) (V 55 4).toNat = _
    rw [em, tn_cast]
  rw [hsm]
  obtain ⟨r, ⟨W, hW, hre⟩, hr⟩ := loopE (g := GW L xs) (d := d + 2) (mid := 26) (σ := Nat → Nat → Int) (fun n W => (2, [.ref 55, .ref 78, (Value.int (Int32.ofInt (n)))], [], zS (eV W) J tg)) (fun n W => (∀ c, c ≠ 45 → W c = V c) ∧ anyB (fun i => decide (V 57 i = 4) && decide (evC V 2 i (V 78) = 1)) n = false) (fun r => ∃ W, (∀ c, c ≠ 45 → W c = V c) ∧ r = (some (Value.int (Int32.ofInt (bi (anyB (fun i => decide (V 57 i = 4) && decide (evC V 2 i (V 78) = 1)) m = true)))), zS (eV W) J tg)) m (by
    intro n W hn ⟨i1, i2⟩
    have hin : (n : Int) < V (47 + 4 * 2) 4 := by show (n : Int) < V 55 4; omega
    obtain ⟨c0, c1, c2⟩ := hG.cl hin
    have hk : 4 ≤ V 57 n ∧ V 57 n ≤ 6 := (hG.2.2.2.1 n hin).1
    have e49 : W 57 n = V 57 n := by rw [i1 57 (by decide)]
    have e47 : W 55 4 = m := by rw [i1 55 (by decide), em]
    have hs : anyB (fun i => decide (V 57 i = 4) && decide (evC V 2 i (V 78) = 1)) (n + 1) = (anyB (fun i => decide (V 57 i = 4) && decide (evC V 2 i (V 78) = 1)) n || (decide (V 57 n = 4) && decide (evC V 2 n (V 78) = 1))) := rfl
    by_cases q4 : V 57 n = 4
    · have h6 : V (47 + 4 * 2 + 2) n ≠ 6 := by show V 57 n ≠ 6; omega
      rw [if_neg h6] at c2
      have hb := evC_b hG hin h6 hN
      have h78 : W 78 = V 78 := i1 78 (by decide)
      obtain ⟨X, x1, x2⟩ := k_29_55 (L := L) (xs := xs) (J := J) (tg := tg) (d := d) (V := W) c0 (c1.fr (i1 _ (by decide)) (i1 _ (by decide))) c2 (by omega) (by rw [h78]; exact hN)
      rw [h78] at x2
      have x2 : Runs (GW L xs) (d + 1) 29 (0, [.ref 55, (Value.int (Int32.ofInt (n))), .ref 78, vU, vU, vU, vU, vU], [], zS (eV (W)) J tg) (some (Value.int (Int32.ofInt (evC V 2 n (V 78)))), zS (eV (X)) J tg) := x2
      have hX : ∀ c, c ≠ 45 → X c = V c := fun c q => by rw [x1 c q]; exact i1 c q
      rcases hb with hb | hb
      · left
        refine ⟨X, ⟨hX, by rw [hs, i2, q4, hb]; decide⟩, fun r hr => ?_⟩
        apply sg_26g55_2
        simp (disch := omega) only [e47, e49, q4, eV_at, eV_up, o_lit2, o_add, o_sub, o_mul, o_neg, o_div, o_nat, ix_t, o_lt, o_le, o_eq, o_bi0, o_bi1, o_bib, em_t, o_neg1, o_shl, o_tb, o_tb0, o_tt, o_and, o_xor, o_or, o_max, o_min, an_tb, and_true, true_and, not_true, not_false, if_true, if_false, tn_add, tn_mul, Int.reduceToNat, tn_cast, md_x]
        rw [if_neg (by omega)]
        refine ⟨_, _, x2, ?_⟩
        rw [hb]
        exact hr
      · right
        refine ⟨_, ⟨X, hX, rfl⟩, ?_⟩
        apply sg_26g55_2
        simp (disch := omega) only [e47, e49, q4, eV_at, eV_up, o_lit2, o_add, o_sub, o_mul, o_neg, o_div, o_nat, ix_t, o_lt, o_le, o_eq, o_bi0, o_bi1, o_bib, em_t, o_neg1, o_shl, o_tb, o_tb0, o_tt, o_and, o_xor, o_or, o_max, o_min, an_tb, and_true, true_and, not_true, not_false, if_true, if_false, tn_add, tn_mul, Int.reduceToNat, tn_cast, md_x]
        rw [if_neg (by omega)]
        refine ⟨_, _, x2, ?_⟩
        rw [hb]
        exact leafI (bi_t (anyB_t.mpr ⟨n, hn, by rw [q4, hb]; decide⟩)).symm
    · left
      refine ⟨W, ⟨i1, by rw [hs, i2, decide_eq_false q4]; rfl⟩, fun r hr => ?_⟩
      apply sg_26g55_2
      simp (disch := omega) only [e47, e49, eV_at, eV_up, o_lit2, o_add, o_sub, o_mul, o_neg, o_div, o_nat, ix_t, o_lt, o_le, o_eq, o_bi0, o_bi1, o_bib, em_t, o_neg1, o_shl, o_tb, o_tb0, o_tt, o_and, o_xor, o_or, o_max, o_min, an_tb, and_true, true_and, not_true, not_false, if_true, if_false, tn_add, tn_mul, Int.reduceToNat, tn_cast, md_x]
      rw [if_neg (by omega), if_neg q4]
      exact hr) (by
    intro W ⟨i1, i2⟩
    have e47 : W 55 4 = m := by rw [i1 55 (by decide), em]
    refine ⟨_, ⟨W, i1, rfl⟩, ?_⟩
    apply sg_26g55_2
    simp (disch := omega) only [e47, eV_at, eV_up, o_lit2, o_add, o_sub, o_mul, o_neg, o_div, o_nat, ix_t, o_lt, o_le, o_eq, o_bi0, o_bi1, o_bib, em_t, o_neg1, o_shl, o_tb, o_tb0, o_tt, o_and, o_xor, o_or, o_max, o_min, an_tb, and_true, true_and, not_true, not_false, if_true, if_false, tn_add, tn_mul, Int.reduceToNat, tn_cast, md_x]
    rw [if_pos (by omega)]
    exact leafI (bi_f (by rw [i2]; decide)).symm) m 0 V (by omega) ⟨fun _ _ => rfl, rfl⟩
  subst hre
  exact ⟨W, hW, sg_26g55 _ _ _ hr⟩
theorem k_27_55 {L d : Nat} {xs : Nat → Int32} {V : Nat → Nat → Int} {J : Nat → Nat → Int64} {tg : Option Nat} (hG : GRk V 2) (hN : ∀ k, k < 12 → -1000000 ≤ V 78 k ∧ V 78 k ≤ 1000000) : ∃ W, (∀ c, c ≠ 45 → W c = V c) ∧ Runs (GW L xs) (d + 2) 27 (0, [.ref 55, .ref 78, vU], [], zS (eV (V)) J tg) (some (Value.int (Int32.ofInt (bi (¬ smB V 2 5 0 (V 78) = true)))), zS (eV (W)) J tg) := by
  have hm : 0 ≤ V 55 4 ∧ V 55 4 ≤ 10 := hG.1
  obtain ⟨m, em⟩ : ∃ m : Nat, V 55 4 = m := ⟨(V 55 4).toNat, by omega⟩
  have hsm : smB V 2 5 0 (V 78) = anyB (fun i => decide (V 57 i = 5) && decide (evC V 2 i (V 78) = 0)) m := by
    show anyB (fun i => decide (V 57 i = 5) && decide (evC V 2 i (V 78) = 0)) (V 55 4).toNat = _
    rw [em, tn_cast]
  rw [hsm]
  obtain ⟨r, ⟨W, hW, hre⟩, hr⟩ := loopE (g := GW L xs) (d := d + 2) (mid := 27) (σ := Nat → Nat → Int) (fun n W => (2, [.ref 55, .ref 78, (Value.int (Int32.ofInt (n)))], [], zS (eV W) J tg)) (fun n W => (∀ c, c ≠ 45 → W c = V c) ∧ anyB (fun i => decide (V 57 i = 5) && decide (evC V 2 i (V 78) = 0)) n = false) (fun r => ∃ W, (∀ c, c ≠ 45 → W c = V c) ∧ r = (some (Value.int (Int32.ofInt (bi (¬ anyB (fun i => decide (V 57 i = 5) && decide (evC V 2 i (V 78) = 0)) m = true)))), zS (eV W) J tg)) m (by
    intro n W hn ⟨i1, i2⟩
    have hin : (n : Int) < V (47 + 4 * 2) 4 := by show (n : Int) < V 55 4; omega
    obtain ⟨c0, c1, c2⟩ := hG.cl hin
    have hk : 4 ≤ V 57 n ∧ V 57 n ≤ 6 := (hG.2.2.2.1 n hin).1
    have e49 : W 57 n = V 57 n := by rw [i1 57 (by decide)]
    have e47 : W 55 4 = m := by rw [i1 55 (by decide), em]
    have hs : anyB (fun i => decide (V 57 i = 5) && decide (evC V 2 i (V 78) = 0)) (n + 1) = (anyB (fun i => decide (V 57 i = 5) && decide (evC V 2 i (V 78) = 0)) n || (decide (V 57 n = 5) && decide (evC V 2 n (V 78) = 0))) := rfl
    by_cases q4 : V 57 n = 5
    · have h6 : V (47 + 4 * 2 + 2) n ≠ 6 := by show V 57 n ≠ 6; omega
      rw [if_neg h6] at c2
      have hb := evC_b hG hin h6 hN
      have h78 : W 78 = V 78 := i1 78 (by decide)
      obtain ⟨X, x1, x2⟩ := k_29_55 (L := L) (xs := xs) (J := J) (tg := tg) (d := d) (V := W) c0 (c1.fr (i1 _ (by decide)) (i1 _ (by decide))) c2 (by omega) (by rw [h78]; exact hN)
      rw [h78] at x2
      have x2 : Runs (GW L xs) (d + 1) 29 (0, [.ref 55, (Value.int (Int32.ofInt (n))), .ref 78, vU, vU, vU, vU, vU], [], zS (eV (W)) J tg) (some (Value.int (Int32.ofInt (evC V 2 n (V 78)))), zS (eV (X)) J tg) := x2
      have hX : ∀ c, c ≠ 45 → X c = V c := fun c q => by rw [x1 c q]; exact i1 c q
      rcases hb with hb | hb
      · right
        refine ⟨_, ⟨X, hX, rfl⟩, ?_⟩
        apply sg_27g55_2
        simp (disch := omega) only [e47, e49, q4, eV_at, eV_up, o_lit2, o_add, o_sub, o_mul, o_neg, o_div, o_nat, ix_t, o_lt, o_le, o_eq, o_bi0, o_bi1, o_bib, em_t, o_neg1, o_shl, o_tb, o_tb0, o_tt, o_and, o_xor, o_or, o_max, o_min, an_tb, and_true, true_and, not_true, not_false, if_true, if_false, tn_add, tn_mul, Int.reduceToNat, tn_cast, md_x]
        rw [if_neg (by omega)]
        refine ⟨_, _, x2, ?_⟩
        rw [hb]
        exact leafI (bi_f (fun h => h (anyB_t.mpr ⟨n, hn, by rw [q4, hb]; decide⟩))).symm
      · left
        refine ⟨X, ⟨hX, by rw [hs, i2, q4, hb]; decide⟩, fun r hr => ?_⟩
        apply sg_27g55_2
        simp (disch := omega) only [e47, e49, q4, eV_at, eV_up, o_lit2, o_add, o_sub, o_mul, o_neg, o_div, o_nat, ix_t, o_lt, o_le, o_eq, o_bi0, o_bi1, o_bib, em_t, o_neg1, o_shl, o_tb, o_tb0, o_tt, o_and, o_xor, o_or, o_max, o_min, an_tb, and_true, true_and, not_true, not_false, if_true, if_false, tn_add, tn_mul, Int.reduceToNat, tn_cast, md_x]
        rw [if_neg (by omega)]
        refine ⟨_, _, x2, ?_⟩
        rw [hb]
        exact hr
    · left
      refine ⟨W, ⟨i1, by rw [hs, i2, decide_eq_false q4]; rfl⟩, fun r hr => ?_⟩
      apply sg_27g55_2
      simp (disch := omega) only [e47, e49, eV_at, eV_up, o_lit2, o_add, o_sub, o_mul, o_neg, o_div, o_nat, ix_t, o_lt, o_le, o_eq, o_bi0, o_bi1, o_bib, em_t, o_neg1, o_shl, o_tb, o_tb0, o_tt, o_and, o_xor, o_or, o_max, o_min, an_tb, and_true, true_and, not_true, not_false, if_true, if_false, tn_add, tn_mul, Int.reduceToNat, tn_cast, md_x]
      rw [if_neg (by omega), if_neg q4]
      exact hr) (by
    intro W ⟨i1, i2⟩
    have e47 : W 55 4 = m := by rw [i1 55 (by decide), em]
    refine ⟨_, ⟨W, i1, rfl⟩, ?_⟩
    apply sg_27g55_2
    simp (disch := omega) only [e47, eV_at, eV_up, o_lit2, o_add, o_sub, o_mul, o_neg, o_div, o_nat, ix_t, o_lt, o_le, o_eq, o_bi0, o_bi1, o_bib, em_t, o_neg1, o_shl, o_tb, o_tb0, o_tt, o_and, o_xor, o_or, o_max, o_min, an_tb, and_true, true_and, not_true, not_false, if_true, if_false, tn_add, tn_mul, Int.reduceToNat, tn_cast, md_x]
    rw [if_pos (by omega)]
    exact leafI (bi_t (by rw [i2]; decide)).symm) m 0 V (by omega) ⟨fun _ _ => rfl, rfl⟩
  subst hre
  exact ⟨W, hW, sg_27g55 _ _ _ hr⟩
theorem k_26_59 {L d : Nat} {xs : Nat → Int32} {V : Nat → Nat → Int} {J : Nat → Nat → Int64} {tg : Option Nat} (hG : GRk V 3) (hN : ∀ k, k < 12 → -1000000 ≤ V 78 k ∧ V 78 k ≤ 1000000) : ∃ W, (∀ c, c ≠ 45 → W c = V c) ∧ Runs (GW L xs) (d + 2) 26 (0, [.ref 59, .ref 78, vU], [], zS (eV (V)) J tg) (some (Value.int (Int32.ofInt (bi (smB V 3 4 1 (V 78) = true)))), zS (eV (W)) J tg) := by
  have hm : 0 ≤ V 59 4 ∧ V 59 4 ≤ 10 := hG.1
  obtain ⟨m, em⟩ : ∃ m : Nat, V 59 4 = m := ⟨(V 59 4).toNat, by omega⟩
  have hsm : smB V 3 4 1 (V 78) = anyB (fun i => decide (V 61 i = 4) && decide (evC V 3 i (V 78) = 1)) m := by
    show anyB (fun i => decide (V 61 i = 4) && decide (evC V 3 i (V 78) = 1)) (V 59 4).toNat = _
    rw [em, tn_cast]
  rw [hsm]
  obtain ⟨r, ⟨W, hW, hre⟩, hr⟩ := loopE (g := GW L xs) (d := d + 2) (mid := 26) (σ := Nat → Nat → Int) (fun n W => (2, [.ref 59, .ref 78, (Value.int (Int32.ofInt (n)))], [], zS (eV W) J tg)) (fun n W => (∀ c, c ≠ 45 → W c = V c) ∧ anyB (fun i => decide (V 61 i = 4) && decide (evC V 3 i (V 78) = 1)) n = false) (fun r => ∃ W, (∀ c, c ≠ 45 → W c = V c) ∧ r = (some (Value.int (Int32.ofInt (bi (anyB (fun i => decide (V 61 i = 4) && decide (evC V 3 i (V 78) = 1)) m = true)))), zS (eV W) J tg)) m (by
    intro n W hn ⟨i1, i2⟩
    have hin : (n : Int) < V (47 + 4 * 3) 4 := by show (n : Int) < V 59 4; omega
    obtain ⟨c0, c1, c2⟩ := hG.cl hin
    have hk : 4 ≤ V 61 n ∧ V 61 n ≤ 6 := (hG.2.2.2.1 n hin).1
    have e49 : W 61 n = V 61 n := by rw [i1 61 (by decide)]
    have e47 : W 59 4 = m := by rw [i1 59 (by decide), em]
    have hs : anyB (fun i => decide (V 61 i = 4) && decide (evC V 3 i (V 78) = 1)) (n + 1) = (anyB (fun i => decide (V 61 i = 4) && decide (evC V 3 i (V 78) = 1)) n || (decide (V 61 n = 4) && decide (evC V 3 n (V 78) = 1))) := rfl
    by_cases q4 : V 61 n = 4
    · have h6 : V (47 + 4 * 3 + 2) n ≠ 6 := by show V 61 n ≠ 6; omega
      rw [if_neg h6] at c2
      have hb := evC_b hG hin h6 hN
      have h78 : W 78 = V 78 := i1 78 (by decide)
      obtain ⟨X, x1, x2⟩ := k_29_59 (L := L) (xs := xs) (J := J) (tg := tg) (d := d) (V := W) c0 (c1.fr (i1 _ (by decide)) (i1 _ (by decide))) c2 (by omega) (by rw [h78]; exact hN)
      rw [h78] at x2
      have x2 : Runs (GW L xs) (d + 1) 29 (0, [.ref 59, (Value.int (Int32.ofInt (n))), .ref 78, vU, vU, vU, vU, vU], [], zS (eV (W)) J tg) (some (Value.int (Int32.ofInt (evC V 3 n (V 78)))), zS (eV (X)) J tg) := x2
      have hX : ∀ c, c ≠ 45 → X c = V c := fun c q => by rw [x1 c q]; exact i1 c q
      rcases hb with hb | hb
      · left
        refine ⟨X, ⟨hX, by rw [hs, i2, q4, hb]; decide⟩, fun r hr => ?_⟩
        apply sg_26g59_2
        simp (disch := omega) only [e47, e49, q4, eV_at, eV_up, o_lit2, o_add, o_sub, o_mul, o_neg, o_div, o_nat, ix_t, o_lt, o_le, o_eq, o_bi0, o_bi1, o_bib, em_t, o_neg1, o_shl, o_tb, o_tb0, o_tt, o_and, o_xor, o_or, o_max, o_min, an_tb, and_true, true_and, not_true, not_false, if_true, if_false, tn_add, tn_mul, Int.reduceToNat, tn_cast, md_x]
        rw [if_neg (by omega)]
        refine ⟨_, _, x2, ?_⟩
        rw [hb]
        exact hr
      · right
        refine ⟨_, ⟨X, hX, rfl⟩, ?_⟩
        apply sg_26g59_2
        simp (disch := omega) only [e47, e49, q4, eV_at, eV_up, o_lit2, o_add, o_sub, o_mul, o_neg, o_div, o_nat, ix_t, o_lt, o_le, o_eq, o_bi0, o_bi1, o_bib, em_t, o_neg1, o_shl, o_tb, o_tb0, o_tt, o_and, o_xor, o_or, o_max, o_min, an_tb, and_true, true_and, not_true, not_false, if_true, if_false, tn_add, tn_mul, Int.reduceToNat, tn_cast, md_x]
        rw [if_neg (by omega)]
        refine ⟨_, _, x2, ?_⟩
        rw [hb]
        exact leafI (bi_t (anyB_t.mpr ⟨n, hn, by rw [q4, hb]; decide⟩)).symm
    · left
      refine ⟨W, ⟨i1, by rw [hs, i2, decide_eq_false q4]; rfl⟩, fun r hr => ?_⟩
      apply sg_26g59_2
      simp (disch := omega) only [e47, e49, eV_at, eV_up, o_lit2, o_add, o_sub, o_mul, o_neg, o_div, o_nat, ix_t, o_lt, o_le, o_eq, o_bi0, o_bi1, o_bib, em_t, o_neg1, o_shl, o_tb, o_tb0, o_tt, o_and, o_xor, o_or, o_max, o_min, an_tb, and_true, true_and, not_true, not_false, if_true, if_false, tn_add, tn_mul, Int.reduceToNat, tn_cast, md_x]
      rw [if_neg (by omega), if_neg q4]
      exact hr) (by
    intro W ⟨i1, i2⟩
    have e47 : W 59 4 = m := by rw [i1 59 (by decide), em]
    refine ⟨_, ⟨W, i1, rfl⟩, ?_⟩
    apply sg_26g59_2
    simp (disch := omega) only [e47, eV_at, eV_up, o_lit2, o_add, o_sub, o_mul, o_neg, o_div, o_nat, ix_t, o_lt, o_le, o_eq, o_bi0, o_bi1, o_bib, em_t, o_neg1, o_shl, o_tb, o_tb0, o_tt, o_and, o_xor, o_or, o_max, o_min, an_tb, and_true, true_and, not_true, not_false, if_true, if_false, tn_add, tn_mul, Int.reduceToNat, tn_cast, md_x]
    rw [if_pos (by omega)]
    exact leafI (bi_f (by rw [i2]; decide)).symm) m 0 V (by omega) ⟨fun _ _ => rfl, rfl⟩
  subst hre
  exact ⟨W, hW, sg_26g59 _ _ _ hr⟩
theorem k_27_59 {L d : Nat} {xs : Nat → Int32} {V : Nat → Nat → Int} {J : Nat → Nat → Int64} {tg : Option Nat} (hG : GRk V 3) (hN : ∀ k, k < 12 → -1000000 ≤ V 78 k ∧ V 78 k ≤ 1000000) : ∃ W, (∀ c, c ≠ 45 → W c = V c) ∧ Runs (GW L xs) (d + 2) 27 (0, [.ref 59, .ref 78, vU], [], zS (eV (V)) J tg) (some (Value.int (Int32.ofInt (bi (¬ smB V 3 5 0 (V 78) = true)))), zS (eV (W)) J tg) := by
  have hm : 0 ≤ V 59 4 ∧ V 59 4 ≤ 10 := hG.1
  obtain ⟨m, em⟩ : ∃ m : Nat, V 59 4 = m := ⟨(V 59 4).toNat, by omega⟩
  have hsm : smB V 3 5 0 (V 78) = anyB (fun i => decide (V 61 i = 5) && decide (evC V 3 i (V 78) = 0)) m := by
    show anyB (fun i => decide (V 61 i = 5) && decide (evC V 3 i (V 78) = 0)) (V 59 4).toNat = _
    rw [em, tn_cast]
  rw [hsm]
  obtain ⟨r, ⟨W, hW, hre⟩, hr⟩ := loopE (g := GW L xs) (d := d + 2) (mid := 27) (σ := Nat → Nat → Int) (fun n W => (2, [.ref 59, .ref 78, (Value.int (Int32.ofInt (n)))], [], zS (eV W) J tg)) (fun n W => (∀ c, c ≠ 45 → W c = V c) ∧ anyB (fun i => decide (V 61 i = 5) && decide (evC V 3 i (V 78) = 0)) n = false) (fun r => ∃ W, (∀ c, c ≠ 45 → W c = V c) ∧ r = (some (Value.int (Int32.ofInt (bi (¬ anyB (fun i => decide (V 61 i = 5) && decide (evC V 3 i (V 78) = 0)) m = true)))), zS (eV W) J tg)) m (by
    intro n W hn ⟨i1, i2⟩
    have hin : (n : Int) < V (47 + 4 * 3) 4 := by show (n : Int) < V 59 4; omega
    obtain ⟨c0, c1, c2⟩ := hG.cl hin
    have hk : 4 ≤ V 61 n ∧ V 61 n ≤ 6 := (hG.2.2.2.1 n hin).1
    have e49 : W 61 n = V 61 n := by rw [i1 61 (by decide)]
    have e47 : W 59 4 = m := by rw [i1 59 (by decide), em]
    have hs : anyB (fun i => decide (V 61 i = 5) && decide (evC V 3 i (V 78) = 0)) (n + 1) = (anyB (fun i => decide (V 61 i = 5) && decide (evC V 3 i (V 78) = 0)) n || (decide (V 61 n = 5) && decide (evC V 3 n (V 78) = 0))) := rfl
    by_cases q4 : V 61 n = 5
    · have h6 : V (47 + 4 * 3 + 2) n ≠ 6 := by show V 61 n ≠ 6; omega
      rw [if_neg h6] at c2
      have hb := evC_b hG hin h6 hN
      have h78 : W 78 = V 78 := i1 78 (by decide)
      obtain ⟨X, x1, x2⟩ := k_29_59 (L := L) (xs := xs) (J := J) (tg := tg) (d := d) (V := W) c0 (c1.fr (i1 _ (by decide)) (i1 _ (by decide))) c2 (by omega) (by rw [h78]; exact hN)
      rw [h78] at x2
      have x2 : Runs (GW L xs) (d + 1) 29 (0, [.ref 59, (Value.int (Int32.ofInt (n))), .ref 78, vU, vU, vU, vU, vU], [], zS (eV (W)) J tg) (some (Value.int (Int32.ofInt (evC V 3 n (V 78)))), zS (eV (X)) J tg) := x2
      have hX : ∀ c, c ≠ 45 → X c = V c := fun c q => by rw [x1 c q]; exact i1 c q
      rcases hb with hb | hb
      · right
        refine ⟨_, ⟨X, hX, rfl⟩, ?_⟩
        apply sg_27g59_2
        simp (disch := omega) only [e47, e49, q4, eV_at, eV_up, o_lit2, o_add, o_sub, o_mul, o_neg, o_div, o_nat, ix_t, o_lt, o_le, o_eq, o_bi0, o_bi1, o_bib, em_t, o_neg1, o_shl, o_tb, o_tb0, o_tt, o_and, o_xor, o_or, o_max, o_min, an_tb, and_true, true_and, not_true, not_false, if_true, if_false, tn_add, tn_mul, Int.reduceToNat, tn_cast, md_x]
        rw [if_neg (by omega)]
        refine ⟨_, _, x2, ?_⟩
        rw [hb]
        exact leafI (bi_f (fun h => h (anyB_t.mpr ⟨n, hn, by rw [q4, hb]; decide⟩))).symm
      · left
        refine ⟨X, ⟨hX, by rw [hs, i2, q4, hb]; decide⟩, fun r hr => ?_⟩
        apply sg_27g59_2
        simp (disch := omega) only [e47, e49, q4, eV_at, eV_up, o_lit2, o_add, o_sub, o_mul, o_neg, o_div, o_nat, ix_t, o_lt, o_le, o_eq, o_bi0, o_bi1, o_bib, em_t, o_neg1, o_shl, o_tb, o_tb0, o_tt, o_and, o_xor, o_or, o_max, o_min, an_tb, and_true, true_and, not_true, not_false, if_true, if_false, tn_add, tn_mul, Int.reduceToNat, tn_cast, md_x]
        rw [if_neg (by omega)]
        refine ⟨_, _, x2, ?_⟩
        rw [hb]
        exact hr
    · left
      refine ⟨W, ⟨i1, by rw [hs, i2, decide_eq_false q4]; rfl⟩, fun r hr => ?_⟩
      apply sg_27g59_2
      simp (disch := omega) only [e47, e49, eV_at, eV_up, o_lit2, o_add, o_sub, o_mul, o_neg, o_div, o_nat, ix_t, o_lt, o_le, o_eq, o_bi0, o_bi1, o_bib, em_t, o_neg1, o_shl, o_tb, o_tb0, o_tt, o_and, o_xor, o_or, o_max, o_min, an_tb, and_true, true_and, not_true, not_false, if_true, if_false, tn_add, tn_mul, Int.reduceToNat, tn_cast, md_x]
      rw [if_neg (by omega), if_neg q4]
      exact hr) (by
    intro W ⟨i1, i2⟩
    have e47 : W 59 4 = m := by rw [i1 59 (by decide), em]
    refine ⟨_, ⟨W, i1, rfl⟩, ?_⟩
    apply sg_27g59_2
    simp (disch := omega) only [e47, eV_at, eV_up, o_lit2, o_add, o_sub, o_mul, o_neg, o_div, o_nat, ix_t, o_lt, o_le, o_eq, o_bi0, o_bi1, o_bib, em_t, o_neg1, o_shl, o_tb, o_tb0, o_tt, o_and, o_xor, o_or, o_max, o_min, an_tb, and_true, true_and, not_true, not_false, if_true, if_false, tn_add, tn_mul, Int.reduceToNat, tn_cast, md_x]
    rw [if_pos (by omega)]
    exact leafI (bi_t (by rw [i2]; decide)).symm) m 0 V (by omega) ⟨fun _ _ => rfl, rfl⟩
  subst hre
  exact ⟨W, hW, sg_27g59 _ _ _ hr⟩
