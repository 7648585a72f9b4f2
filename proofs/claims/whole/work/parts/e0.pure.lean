/-! A packed word is the word. -/
theorem pkN_b {b : Nat → Int} {f k : Nat} (hk : k ≤ 7) (h : ∀ i, i < k → 0 ≤ b (f + i) ∧ b (f + i) ≤ 255) : pkN b f k < 2 ^ 63 :=
  Nat.lt_of_lt_of_le (pkN_lt k h) (Nat.le_trans (Nat.pow_le_pow_right (by decide) hk) (by decide))
theorem wpk_eq {b : Nat → Int} {f t k : Nat} (hk : k < 17) (hft : f ≤ t) (hb : ∀ i, f ≤ i → i < t → isL (b i) = true) : wpk b f t = Int64.ofNat (pkN wch (wof k) (wln k)) ↔ wEq b f t k := by
  obtain ⟨-, -, -, w4, w5⟩ := w_tab k hk
  have w6 : ∀ i, i < wln k → 97 ≤ wch (wof k + i) ∧ wch (wof k + i) ≤ 122 := fun i hi => w_chr k hk i (by omega) hi
  have hl : ∀ i, i < t - f → 1 ≤ b (f + i) ∧ b (f + i) ≤ 255 := fun i hi => by
    have := hb (f + i) (by omega) (by omega)
    unfold isL at this
    rw [decide_eq_true_iff] at this
    omega
  have h2 := pkN_b (b := wch) (f := wof k) (k := wln k) w4 (fun i hi => by have := w6 i hi; omega)
  unfold wpk
  by_cases c : t - f ≤ 7
  · rw [if_pos c, i64_inj (pkN_b c (fun i hi => by have := hl i hi; omega)) h2, pkN_inj (b := b) (c := wch) (f := f) (g := wof k) (t - f) (wln k) hl (fun i hi => by have := w6 i hi; omega)]
    constructor
    · rintro ⟨e1, e2⟩
      exact ⟨by omega, fun i hi => e2 i (by omega)⟩
    · rintro ⟨e1, e2⟩
      exact ⟨by omega, fun i hi => e2 i (by omega)⟩
  · rw [if_neg c]
    constructor
    · intro h
      have h : Int64.ofNat 0 = Int64.ofNat (pkN wch (wof k) (wln k)) := h
      rw [i64_inj (by decide) h2] at h
      obtain ⟨m, hm⟩ : ∃ m, wln k = m + 1 := ⟨wln k - 1, by omega⟩
      rw [hm, pkN_s] at h
      have := w6 m (by omega)
      omega
    · rintro ⟨e1, -⟩
      omega
