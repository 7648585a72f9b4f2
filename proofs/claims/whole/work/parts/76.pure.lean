/-! The memory as whole numbers; loops. -/
def eV (V : Nat → Nat → Int) : Nat → Nat → Int32 := fun c p => Int32.ofInt (V c p)
theorem eV_at (V : Nat → Nat → Int) (c p : Nat) : eV V c p = Int32.ofInt (V c p) := rfl
theorem eV_up (V : Nat → Nat → Int) (c p : Nat) (z : Int) : up2 (eV V) c p (Int32.ofInt z) = eV (up2 V c p z) := by
  funext c' p'
  unfold eV up2
  split
  · dsimp only; split <;> rfl
  · rfl
theorem eV_toInt (I : Nat → Nat → Int32) : eV (fun c p => (I c p).toInt) = I := by
  funext c p; exact Int32.ofInt_toInt _
theorem w_eq {α : Type} (f : Nat → Nat → α) (c k : Nat) (v : α) : up2 f c k v c k = v := by simp [up2]
theorem w_ne {α : Type} (f : Nat → Nat → α) (c k : Nat) (v : α) {c' : Nat} (h : c' ≠ c) : up2 f c k v c' = f c' := by simp [up2, h]
theorem w_ne2 {α : Type} (f : Nat → Nat → α) (c k : Nat) (v : α) {k' : Nat} (h : k' ≠ k) : up2 f c k v c k' = f c k' := by simp [up2, h]
theorem w_at {α : Type} (f : Nat → Nat → α) (c k : Nat) (v : α) (k' : Nat) : up2 f c k v c k' = if k' = k then v else f c k' := by simp [up2]
def bi (p : Prop) [Decidable p] : Int := if p then 1 else 0
theorem bi_t {p : Prop} [Decidable p] (h : p) : 1 = bi p := by unfold bi; rw [if_pos h]
theorem bi_f {p : Prop} [Decidable p] (h : ¬ p) : 0 = bi p := by unfold bi; rw [if_neg h]
theorem bi_eq {p q : Prop} [Decidable p] [Decidable q] (h : p ↔ q) : bi p = bi q := by unfold bi; simp only [h]
theorem bi_rg (p : Prop) [Decidable p] : 0 ≤ bi p ∧ bi p ≤ 1 := by unfold bi; split <;> omega
theorem o_bi0 {p : Prop} [Decidable p] : (Int32.ofInt (bi p) = Int32.ofInt 0) = ¬ p := by
  have := bi_rg p
  rw [o_eq (by omega) (by omega)]; unfold bi; split <;> simp [*]
theorem o_bi1 {p : Prop} [Decidable p] : (Int32.ofInt (bi p) = Int32.ofInt 1) = p := by
  have := bi_rg p
  rw [o_eq (by omega) (by omega)]; unfold bi; split <;> simp [*]
theorem o_bib {p : Prop} [Decidable p] : (Int32.ofInt (bi p) = Int32.ofInt 0 ∨ Int32.ofInt (bi p) = Int32.ofInt 1) = True := by
  rw [o_bi0, o_bi1]; by_cases h : p <;> simp [h]
theorem em_t (p : Prop) : (¬ p ∨ p) = True := by by_cases h : p <;> simp [h]
theorem o_01 {z : Int} (h : 0 ≤ z ∧ z ≤ 1) : Int32.ofInt z = 0 ∨ Int32.ofInt z = 1 := by
  have : z = 0 ∨ z = 1 := by omega
  rcases this with h | h <;> subst h <;> simp
theorem o_neg1 : (-1 : Int32) = Int32.ofInt (-1) := rfl
theorem tn_add {a b : Int} (h : 0 ≤ a ∧ 0 ≤ b) : (a + b).toNat = a.toNat + b.toNat := by omega
theorem tn_mul {a b : Int} (h : 0 ≤ a ∧ 0 ≤ b) : (a * b).toNat = a.toNat * b.toNat := Int.toNat_mul h.1 h.2
theorem md_x (x n : Int) : x - x / n * n = x % n := by rw [Int.emod_def, Int.mul_comm]
theorem tn_cast (n : Nat) : ((n : Int)).toNat = n := rfl
theorem o_max (a b : Int) : (if a < b then Int32.ofInt b else Int32.ofInt a) = Int32.ofInt (max a b) := by
  split
  · rw [Int.max_eq_right (by omega)]
  · rw [Int.max_eq_left (by omega)]
theorem o_min (a b : Int) : (if a < b then Int32.ofInt a else Int32.ofInt b) = Int32.ofInt (min a b) := by
  split
  · rw [Int.min_eq_left (by omega)]
  · rw [Int.min_eq_right (by omega)]
theorem an_tb (s j : Nat) : (((s &&& 2 ^ j : Nat) : Int) = 0) = (s.testBit j = false) := by
  have h : ∀ i, (s &&& 2 ^ j).testBit i = (s.testBit i && decide (j = i)) := fun i => by rw [Nat.testBit_and, Nat.testBit_two_pow]
  refine propext ⟨fun e => ?_, fun e => ?_⟩
  · have e' : s &&& 2 ^ j = 0 := by omega
    have := h j
    rw [e'] at this
    simpa using this.symm
  · have : s &&& 2 ^ j = 0 := by
      apply Nat.eq_of_testBit_eq
      intro i
      rw [h i]
      by_cases q : j = i
      · subst q; simp [e]
      · simp [q]
    omega
theorem eq_of_le {a b : Int} (h : ∀ x, a ≤ x ↔ b ≤ x) : a = b := Int.le_antisymm ((h b).mpr (Int.le_refl _)) ((h a).mp (Int.le_refl _))
theorem leafI {x y : Int} {z : SS} (h : x = y) : ((some (Value.int (Int32.ofInt x)), z) : Option Value × SS) = (some (Value.int (Int32.ofInt y)), z) := by rw [h]
/-- what follows from a place follows from an earlier one -/
def Rch (g : PG) (d mid : Nat) (c c' : Cfg) : Prop := ∀ r, Runs g d mid c' r → Runs g d mid c r
theorem Rch.rf {g : PG} {d mid : Nat} {c : Cfg} : Rch g d mid c c := fun _ h => h
theorem Rch.tr {g : PG} {d mid : Nat} {a b c : Cfg} (h : Rch g d mid a b) (k : Rch g d mid b c) : Rch g d mid a c := fun r q => h r (k r q)
/-- a loop that counts -/
theorem loopN {σ : Type} {g : PG} {d mid : Nat} (hd : Nat → σ → Cfg) (Inv : Nat → σ → Prop) (N : Nat) (body : ∀ n s, n < N → Inv n s → ∃ s', Inv (n + 1) s' ∧ Rch g d mid (hd n s) (hd (n + 1) s')) : ∀ k n s, n + k = N → Inv n s → ∃ s', Inv N s' ∧ Rch g d mid (hd n s) (hd N s')
  | 0, n, s, e, h => by
    have : n = N := by omega
    subst this; exact ⟨s, h, Rch.rf⟩
  | k + 1, n, s, e, h => by
    obtain ⟨s1, h1, r1⟩ := body n s (by omega) h
    obtain ⟨s2, h2, r2⟩ := loopN hd Inv N body k (n + 1) s1 (by omega) h1
    exact ⟨s2, h2, r1.tr r2⟩
/-- a loop that counts, and may return -/
theorem loopE {σ : Type} {g : PG} {d mid : Nat} (hd : Nat → σ → Cfg) (Inv : Nat → σ → Prop) (Q : Option Value × SS → Prop) (N : Nat) (body : ∀ n s, n < N → Inv n s → (∃ s', Inv (n + 1) s' ∧ Rch g d mid (hd n s) (hd (n + 1) s')) ∨ ∃ r, Q r ∧ Runs g d mid (hd n s) r) (fin : ∀ s, Inv N s → ∃ r, Q r ∧ Runs g d mid (hd N s) r) : ∀ k n s, n + k = N → Inv n s → ∃ r, Q r ∧ Runs g d mid (hd n s) r
  | 0, n, s, e, h => by
    have : n = N := by omega
    subst this; exact fin s h
  | k + 1, n, s, e, h => by
    rcases body n s (by omega) h with ⟨s1, h1, r1⟩ | hr
    · obtain ⟨r, hq, hr⟩ := loopE hd Inv Q N body fin k (n + 1) s1 (by omega) h1
      exact ⟨r, hq, r1 r hr⟩
    · exact hr
