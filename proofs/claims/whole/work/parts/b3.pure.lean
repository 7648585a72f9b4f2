/-! MINDS: what sets an ANSWER leaves; their order. -/
theorem pk_ch {f : Nat → Int} {s : Nat} : ∀ {n : Nat}, ((pk f s n).1 = -1 ∧ ∀ u, u < n → s.testBit u = false) ∨ ∃ t : Nat, (pk f s n).1 = t ∧ (pk f s n).2 = f t ∧ t < n ∧ s.testBit t = true ∧ ∀ u, u < n → s.testBit u = true → (u < t → f t < f u) ∧ (t < u → f t ≤ f u)
  | 0 => Or.inl ⟨rfl, fun u h => by omega⟩
  | n + 1 => by
    rw [pk_s]
    cases b : s.testBit n
    · rw [if_neg (by decide)]
      rcases pk_ch (f := f) (s := s) (n := n) with ⟨h1, h2⟩ | ⟨t, h1, h2, h3, h4, h5⟩
      · refine Or.inl ⟨h1, fun u hu => ?_⟩
        by_cases e : u = n
        · subst e; exact b
        · exact h2 u (by omega)
      · refine Or.inr ⟨t, h1, h2, by omega, h4, fun u hu hb => ?_⟩
        by_cases e : u = n
        · subst e; rw [b] at hb; exact absurd hb (by decide)
        · exact h5 u (by omega) hb
    · rw [if_pos rfl]
      rcases pk_ch (f := f) (s := s) (n := n) with ⟨h1, h2⟩ | ⟨t, h1, h2, h3, h4, h5⟩
      · rw [if_pos (Or.inl h1)]
        refine Or.inr ⟨n, rfl, rfl, by omega, b, fun u hu hb => ?_⟩
        by_cases e : u = n
        · subst e; exact ⟨fun h => by omega, fun h => by omega⟩
        · rw [h2 u (by omega)] at hb; exact absurd hb (by decide)
      · by_cases c : f n < f t
        · rw [if_pos (Or.inr (by rw [h2]; exact c))]
          refine Or.inr ⟨n, rfl, rfl, by omega, b, fun u hu hb => ⟨fun h => ?_, fun h => by omega⟩⟩
          by_cases e : u = t
          · subst e; exact c
          · have := h5 u (by omega) hb
            by_cases q : u < t
            · have := this.1 q; omega
            · have := this.2 (by omega); omega
        · rw [if_neg (fun h => by rcases h with h | h <;> omega)]
          refine Or.inr ⟨t, h1, h2, by omega, h4, fun u hu hb => ?_⟩
          by_cases e : u = n
          · subst e; exact ⟨fun h => by omega, fun _ => by omega⟩
          · exact h5 u (by omega) hb
/-- t is nearer than u -/
def btr (f : Nat → Int) (t u : Nat) : Prop := (u < t → f t < f u) ∧ (t < u → f t ≤ f u)
theorem tk_none {lim : Int} {f : Nat → Int} {s n : Nat} : tk lim f s n = -1 ↔ ∀ u, u < n → s.testBit u = true → lim < f u := by
  unfold tk
  rcases pk_ch (f := f) (s := s) (n := n) with ⟨h1, h2⟩ | ⟨t, h1, h2, h3, h4, h5⟩
  · refine ⟨fun _ u hu hb => ?_, fun _ => by rw [h1]; split <;> rfl⟩
    rw [h2 u hu] at hb; exact absurd hb (by decide)
  · rw [h1, h2]
    constructor
    · intro h u hu hb
      by_cases c : f t ≤ lim
      · rw [if_pos c] at h; omega
      · by_cases e : u = t
        · subst e; omega
        · have := h5 u hu hb
          by_cases q : u < t
          · have := this.1 q; omega
          · have := this.2 (by omega); omega
    · intro h
      have := h t h3 h4
      rw [if_neg (by omega)]
theorem tk_some {lim : Int} {f : Nat → Int} {s n t : Nat} : tk lim f s n = (t : Int) ↔ t < n ∧ s.testBit t = true ∧ f t ≤ lim ∧ ∀ u, u < n → s.testBit u = true → btr f t u := by
  unfold tk
  rcases pk_ch (f := f) (s := s) (n := n) with ⟨h1, h2⟩ | ⟨t', h1, h2, h3, h4, h5⟩
  · rw [h1]
    refine ⟨fun h => ?_, fun h => ?_⟩
    · split at h <;> omega
    · have := h2 t h.1; rw [h.2.1] at this; exact absurd this (by decide)
  · rw [h1, h2]
    constructor
    · intro h
      by_cases c : f t' ≤ lim
      · rw [if_pos c] at h
        have : t' = t := by omega
        subst this; exact ⟨h3, h4, c, h5⟩
      · rw [if_neg c] at h; omega
    · rintro ⟨a1, a2, a3, a4⟩
      have e : t' = t := by
        have b1 := h5 t a1 a2
        have b2 := a4 t' h3 h4
        unfold btr at b2
        rcases Nat.lt_trichotomy t t' with q | q | q
        · have := b1.1 q; have := b2.2 q; omega
        · exact q.symm
        · have := b1.2 q; have := b2.1 q; omega
      subst e
      rw [if_pos a3]
/-- a set with all that is needed and nothing that is barred -/
def inM (P : Bool) (nd br s : Nat) : Prop := P = true ∧ (∀ t, nd.testBit t = true → s.testBit t = true) ∧ ∀ t, br.testBit t = true → s.testBit t = false
/-- the members by rising bits -/
def mbt (nd fr i t : Nat) : Bool := if fr.testBit t then i.testBit (pcn fr t) else nd.testBit t
def mem (nd fr i : Nat) : Nat → Nat
  | 0 => 0
  | n + 1 => 2 ^ n * (mbt nd fr i n).toNat + mem nd fr i n
theorem mem_lt {nd fr i : Nat} : ∀ n, mem nd fr i n < 2 ^ n
  | 0 => by simp [mem]
  | n + 1 => by
    have ih := mem_lt (nd := nd) (fr := fr) (i := i) n
    unfold mem
    rw [Nat.pow_succ]
    cases mbt nd fr i n
    · simp; omega
    · simp; omega
theorem mem_tb {nd fr i : Nat} : ∀ n t, (mem nd fr i n).testBit t = (decide (t < n) && mbt nd fr i t)
  | 0, t => by simp [mem]
  | n + 1, t => by
    unfold mem
    rw [Nat.testBit_two_pow_mul_add _ (mem_lt n)]
    by_cases c : t < n
    · rw [if_pos c, mem_tb n t, decide_eq_true c, decide_eq_true (show t < n + 1 by omega)]
    · rw [if_neg c]
      by_cases e : t = n
      · subst e
        rw [Nat.sub_self, decide_eq_true (show t < t + 1 by omega), Bool.true_and]
        cases mbt nd fr i t <;> decide
      · rw [decide_eq_false (show ¬ t < n + 1 by omega), Bool.false_and]
        have : (mbt nd fr i n).toNat < 2 ^ (t - n) := by
          have h2 : 2 ^ 1 ≤ 2 ^ (t - n) := Nat.pow_le_pow_right (by omega) (by omega)
          have : (mbt nd fr i n).toNat ≤ 1 := by cases mbt nd fr i n <;> decide
          omega
        exact Nat.testBit_lt_two_pow this
theorem pcn_s {s n : Nat} : pcn s (n + 1) = pcn s n + (if s.testBit n then 1 else 0) := rfl
theorem mem_mono {nd fr : Nat} {i j : Nat} : ∀ n, (i % 2 ^ pcn fr n = j % 2 ^ pcn fr n → mem nd fr i n = mem nd fr j n) ∧ (i % 2 ^ pcn fr n < j % 2 ^ pcn fr n → mem nd fr i n < mem nd fr j n)
  | 0 => by
    refine ⟨fun _ => rfl, fun h => ?_⟩
    have : pcn fr 0 = 0 := rfl
    rw [this, Nat.pow_zero, Nat.mod_one, Nat.mod_one] at h
    omega
  | n + 1 => by
    obtain ⟨ih1, ih2⟩ := mem_mono (nd := nd) (fr := fr) (i := i) (j := j) n
    have hi := mem_lt (nd := nd) (fr := fr) (i := i) n
    have hj := mem_lt (nd := nd) (fr := fr) (i := j) n
    rw [pcn_s]
    unfold mem
    cases b : fr.testBit n
    · have e : ∀ k, mbt nd fr k n = nd.testBit n := fun k => by unfold mbt; rw [b, if_neg (by decide)]
      rw [e, e]
      simp only [Bool.false_eq_true, if_false, Nat.add_zero]
      exact ⟨fun h => by rw [ih1 h], fun h => by have := ih2 h; omega⟩
    · have e : ∀ k, (mbt nd fr k n).toNat = k / 2 ^ pcn fr n % 2 := fun k => by unfold mbt; rw [b, if_pos rfl, Nat.toNat_testBit]
      rw [e, e]
      simp only [if_true, Nat.mod_pow_succ]
      have p : 0 < 2 ^ pcn fr n := Nat.pow_pos (by omega)
      have li := Nat.mod_lt i p
      have lj := Nat.mod_lt j p
      have bi' : i / 2 ^ pcn fr n % 2 = 0 ∨ i / 2 ^ pcn fr n % 2 = 1 := by omega
      have bj' : j / 2 ^ pcn fr n % 2 = 0 ∨ j / 2 ^ pcn fr n % 2 = 1 := by omega
      rcases bi' with bi' | bi' <;> rcases bj' with bj' | bj' <;> rw [bi', bj'] <;> simp only [Nat.mul_zero, Nat.mul_one, Nat.add_zero, Nat.zero_add]
      · exact ⟨fun h => ih1 h, fun h => ih2 h⟩
      · exact ⟨fun h => by omega, fun h => by omega⟩
      · exact ⟨fun h => by omega, fun h => by omega⟩
      · exact ⟨fun h => by rw [ih1 (by omega)], fun h => by have := ih2 (by omega); omega⟩
/-- which member a set is -/
def pxt (fr s : Nat) : Nat → Nat
  | 0 => 0
  | n + 1 => if fr.testBit n then 2 ^ pcn fr n * (s.testBit n).toNat + pxt fr s n else pxt fr s n
theorem pxt_lt {fr s : Nat} : ∀ n, pxt fr s n < 2 ^ pcn fr n
  | 0 => by simp [pxt, pcn]
  | n + 1 => by
    have ih := pxt_lt (fr := fr) (s := s) n
    rw [pcn_s]
    unfold pxt
    cases b : fr.testBit n
    · simpa using ih
    · simp only [if_true]
      rw [Nat.pow_succ]
      cases s.testBit n
      · simp; omega
      · simp; omega
theorem pcn_mono {s : Nat} {m : Nat} : ∀ k, pcn s m ≤ pcn s (m + k)
  | 0 => Nat.le_refl _
  | k + 1 => by have := pcn_mono (s := s) (m := m) k; rw [← Nat.add_assoc, pcn_s]; omega
theorem pxt_tb {fr s : Nat} : ∀ n t, t < n → fr.testBit t = true → (pxt fr s n).testBit (pcn fr t) = s.testBit t
  | 0, t, h, _ => by omega
  | n + 1, t, h, hb => by
    unfold pxt
    by_cases e : t = n
    · subst e
      rw [hb, if_pos rfl, Nat.testBit_two_pow_mul_add _ (pxt_lt t), if_neg (by omega), Nat.sub_self]
      cases s.testBit t <;> decide
    · have ih := pxt_tb (fr := fr) (s := s) n t (by omega) hb
      cases b : fr.testBit n
      · rw [if_neg (by decide)]; exact ih
      · rw [if_pos rfl, Nat.testBit_two_pow_mul_add _ (pxt_lt n)]
        have h1 : pcn fr (t + 1) = pcn fr t + 1 := by rw [pcn_s, hb, if_pos rfl]
        have h2 := pcn_mono (s := fr) (m := t + 1) (n - (t + 1))
        rw [show t + 1 + (n - (t + 1)) = n by omega] at h2
        rw [if_pos (by omega)]; exact ih
/-- what is free -/
def isF (T nd br fr : Nat) : Prop := ∀ t, fr.testBit t = (decide (t < T) && !nd.testBit t && !br.testBit t)
theorem mem_of {T nd br fr s : Nat} (hT : T ≤ 12) (hF : isF T nd br fr) (hnd : nd < 2 ^ T) (hs : s < 2 ^ T) (h : inM true nd br s) : mem nd fr (pxt fr s 12) 12 = s := by
  obtain ⟨-, h1, h2⟩ := h
  apply Nat.eq_of_testBit_eq
  intro t
  rw [mem_tb]
  by_cases c : t < 12
  · rw [decide_eq_true c, Bool.true_and]
    unfold mbt
    have hf := hF t
    cases b : fr.testBit t
    · rw [if_neg (by decide)]
      rw [b] at hf
      by_cases ct : t < T
      · rw [decide_eq_true ct, Bool.true_and] at hf
        cases bn : nd.testBit t
        · rw [bn] at hf
          cases bb : br.testBit t
          · rw [bb] at hf; exact absurd hf (by decide)
          · exact (h2 t bb).symm
        · exact (h1 t bn).symm
      · rw [tb_hi hs (by omega), tb_hi hnd (by omega)]
    · rw [if_pos rfl]; exact pxt_tb 12 t c b
  · rw [decide_eq_false c, Bool.false_and, tb_hi hs (by omega)]
theorem mem_in {T nd br fr i : Nat} (hT : T ≤ 12) (hF : isF T nd br fr) (hnd : nd < 2 ^ T) (hd : ∀ t, nd.testBit t = true → br.testBit t = false) : inM true nd br (mem nd fr i 12) ∧ mem nd fr i 12 < 2 ^ T := by
  have hb : ∀ t, (mem nd fr i 12).testBit t = (decide (t < 12) && mbt nd fr i t) := mem_tb 12
  refine ⟨⟨rfl, fun t ht => ?_, fun t ht => ?_⟩, ?_⟩
  · have hlt : t < T := Nat.lt_of_not_le fun hle => by rw [tb_hi hnd hle] at ht; exact absurd ht (by decide)
    have hf := hF t
    rw [ht] at hf
    rw [hb, decide_eq_true (show t < 12 by omega), Bool.true_and]
    unfold mbt
    rw [hf]
    simp [ht]
  · have hf := hF t
    rw [ht] at hf
    have hn : nd.testBit t = false := by
      cases q : nd.testBit t
      · rfl
      · have := hd t q; rw [ht] at this; exact absurd this (by decide)
    rw [hb]
    unfold mbt
    rw [hf]
    simp [hn]
  · apply Nat.lt_pow_two_of_testBit
    intro t ht
    have hf := hF t
    rw [decide_eq_false (show ¬ t < T by omega), Bool.false_and, Bool.false_and] at hf
    rw [hb]
    unfold mbt
    rw [hf, if_neg (by decide), tb_hi hnd ht, Bool.and_false]
