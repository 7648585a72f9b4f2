/-! A CHOICE: slots and what is offered there, as numbers of mixed digits. -/
section CH
def mm (m : Nat → Nat) (s : Nat) : Nat := if m s = 0 then 1 else m s
theorem mm_rg {m : Nat → Nat} (hm : ∀ s, m s ≤ 4) (s : Nat) : 1 ≤ mm m s ∧ mm m s ≤ 4 := by
  have := hm s
  unfold mm; split <;> omega
/-- the digits of p, if p speaks of the first s slots -/
def pd (m : Nat → Nat) : Nat → Nat → Nat → Nat
  | 0, _, _ => 0
  | s + 1, p, t => if t = s then p % mm m s else pd m s (p / mm m s) t
def pr (m : Nat → Nat) : Nat → Nat
  | 0 => 1
  | s + 1 => pr m s * mm m s
theorem pd_lt {m : Nat → Nat} {s p t : Nat} (h : t < s) : pd m (s + 1) p t = pd m s (p / mm m s) t := by
  show (if t = s then p % mm m s else pd m s (p / mm m s) t) = _
  rw [if_neg (by omega)]
theorem pd_eq {m : Nat → Nat} {s p : Nat} : pd m (s + 1) p s = p % mm m s := by unfold pd; rw [if_pos rfl]
theorem pr_dv {m : Nat → Nat} (hm : ∀ s, m s ≤ 4) {s p : Nat} (h : p < pr m (s + 1)) : p / mm m s < pr m s := by
  have := mm_rg hm s
  have h : p < pr m s * mm m s := h
  exact Nat.div_lt_of_lt_mul (by rw [Nat.mul_comm]; exact h)
theorem pr_pos {m : Nat → Nat} (hm : ∀ s, m s ≤ 4) : ∀ s, 0 < pr m s
  | 0 => by simp [pr]
  | s + 1 => Nat.mul_pos (pr_pos hm s) (mm_rg hm s).1
theorem pr_le {m : Nat → Nat} (hm : ∀ s, m s ≤ 4) : ∀ s, pr m s ≤ 4 ^ s
  | 0 => by simp [pr]
  | s + 1 => by rw [Nat.pow_succ]; exact Nat.mul_le_mul (pr_le hm s) (mm_rg hm s).2
theorem pd_dg {m : Nat → Nat} (hm : ∀ s, m s ≤ 4) : ∀ {s p t : Nat}, t < s → pd m s p t < mm m t
  | 0, _, _, h => by omega
  | s + 1, p, t, h => by
    by_cases e : t = s
    · subst e; rw [pd_eq]; exact Nat.mod_lt _ (mm_rg hm t).1
    · rw [pd_lt (by omega)]; exact pd_dg hm (by omega)
theorem pd_0 {m : Nat → Nat} : ∀ {s t : Nat}, pd m s 0 t = 0
  | 0, _ => rfl
  | s + 1, t => by
    unfold pd
    split
    · exact Nat.zero_mod _
    · rw [Nat.zero_div]; exact pd_0
theorem dv_m {M p j : Nat} (h : j < M) : (p * M + j) / M = p ∧ (p * M + j) % M = j := by
  constructor
  · rw [Nat.mul_comm, Nat.mul_add_div (by omega), Nat.div_eq_of_lt h]; rfl
  · rw [Nat.mul_comm, Nat.mul_add_mod, Nat.mod_eq_of_lt h]
variable (m : Nat → Nat) (G : Nat → Nat → Nat → Nat → Int)
/-- how near slot s comes to those ahead of it -/
def nbk (s p : Nat) : Nat → Int
  | 0 => 1000000
  | t + 1 => if m t = 0 then nbk s p t else min (G t (pd m (s + 1) p t) s (pd m (s + 1) p s)) (nbk s p t)
def vv : Nat → Nat → Int
  | 0, _ => 1000000
  | s + 1, p => if m s = 0 then vv s p else min (nbk m G s p s) (vv s (p / m s))
variable {m G}
theorem nbk_le {s p : Nat} {x : Int} : ∀ {k : Nat}, x ≤ nbk m G s p k ↔ x ≤ 1000000 ∧ ∀ t, t < k → m t ≠ 0 → x ≤ G t (pd m (s + 1) p t) s (pd m (s + 1) p s)
  | 0 => by simp [nbk]
  | k + 1 => by
    unfold nbk
    by_cases e : m k = 0
    · rw [if_pos e, nbk_le (k := k)]
      refine ⟨fun h => ⟨h.1, fun t ht hm => ?_⟩, fun h => ⟨h.1, fun t ht => h.2 t (by omega)⟩⟩
      by_cases q : t = k
      · subst q; exact absurd e hm
      · exact h.2 t (by omega) hm
    · rw [if_neg e, Int.le_min, nbk_le (k := k)]
      refine ⟨fun h => ⟨h.2.1, fun t ht hm => ?_⟩, fun h => ⟨h.2 k (by omega) e, h.1, fun t ht => h.2 t (by omega)⟩⟩
      by_cases q : t = k
      · subst q; exact h.1
      · exact h.2.2 t (by omega) hm
theorem vv_le {x : Int} : ∀ {s p : Nat}, x ≤ vv m G s p ↔ x ≤ 1000000 ∧ ∀ u t, t < u → u < s → m t ≠ 0 → m u ≠ 0 → x ≤ G t (pd m s p t) u (pd m s p u)
  | 0, p => by simp [vv]
  | s + 1, p => by
    unfold vv
    by_cases e : m s = 0
    · rw [if_pos e, vv_le (s := s)]
      have e1 : p / mm m s = p := by unfold mm; rw [if_pos e, Nat.div_one]
      refine ⟨fun h => ⟨h.1, fun u t h1 h2 h3 h4 => ?_⟩, fun h => ⟨h.1, fun u t h1 h2 h3 h4 => ?_⟩⟩
      · by_cases q : u = s
        · subst q; exact absurd e h4
        · rw [pd_lt (by omega), pd_lt (by omega), e1]; exact h.2 u t h1 (by omega) h3 h4
      · have := h.2 u t h1 (by omega) h3 h4
        rw [pd_lt (by omega), pd_lt (by omega), e1] at this
        exact this
    · have e1 : mm m s = m s := if_neg e
      rw [if_neg e, Int.le_min, nbk_le, vv_le (s := s)]
      refine ⟨fun h => ⟨h.1.1, fun u t h1 h2 h3 h4 => ?_⟩, fun h => ⟨⟨h.1, fun t ht h3 => h.2 s t ht (by omega) h3 e⟩, h.1, fun u t h1 h2 h3 h4 => ?_⟩⟩
      · by_cases q : u = s
        · subst q; exact h.1.2 t h1 h3
        · rw [pd_lt (by omega), pd_lt (by omega), e1]; exact h.2.2 u t h1 (by omega) h3 h4
      · have := h.2 u t h1 (by omega) h3 h4
        rw [pd_lt (by omega), pd_lt (by omega), e1] at this
        exact this
theorem vv_rg (hG : ∀ a b c e, 0 ≤ G a b c e ∧ G a b c e ≤ 2000) (s p : Nat) : 0 ≤ vv m G s p ∧ vv m G s p ≤ 1000000 := ⟨vv_le.mpr ⟨by omega, fun u t _ _ _ _ => (hG _ _ _ _).1⟩, (vv_le.mp (Int.le_refl _)).1⟩
theorem nbk_rg (hG : ∀ a b c e, 0 ≤ G a b c e ∧ G a b c e ≤ 2000) (s p k : Nat) : 0 ≤ nbk m G s p k ∧ nbk m G s p k ≤ 1000000 := ⟨nbk_le.mpr ⟨by omega, fun t _ _ => (hG _ _ _ _).1⟩, (nbk_le.mp (Int.le_refl _)).1⟩
theorem vv_mono {s p : Nat} : vv m G (s + 1) p ≤ vv m G s (p / mm m s) := by
  have h : vv m G (s + 1) p = if m s = 0 then vv m G s p else min (nbk m G s p s) (vv m G s (p / m s)) := rfl
  rw [h]
  by_cases e : m s = 0
  · rw [if_pos e]; unfold mm; rw [if_pos e, Nat.div_one]; exact Int.le_refl _
  · rw [if_neg e]; unfold mm; rw [if_neg e]; omega
/-- the best of a range of numbers, the first of like ones -/
def stp (S : Nat) (a : Int × Nat) (i : Nat) : Int × Nat := if a.1 < vv m G S i then (vv m G S i, i) else a
def rf (m : Nat → Nat) (G : Nat → Nat → Nat → Nat → Int) (S a : Nat) : Nat → Int × Nat → Int × Nat
  | 0, x => x
  | n + 1, x => @stp m G S (rf m G S a n x) (a + n)
theorem rf_s {S a n : Nat} {x : Int × Nat} : rf m G S a (n + 1) x = if (rf m G S a n x).1 < vv m G S (a + n) then (vv m G S (a + n), a + n) else rf m G S a n x := rfl
theorem rf_add {S a n : Nat} {x : Int × Nat} : ∀ k, rf m G S a (n + k) x = rf m G S (a + n) k (rf m G S a n x)
  | 0 => rfl
  | k + 1 => by
    rw [← Nat.add_assoc, rf_s, rf_add k, rf_s, Nat.add_assoc]
theorem rf_skip {S a : Nat} {x : Int × Nat} : ∀ n, (∀ i, i < n → vv m G S (a + i) ≤ x.1) → rf m G S a n x = x
  | 0, _ => rfl
  | n + 1, h => by
    rw [rf_s, rf_skip n (fun i hi => h i (by omega)), if_neg (by have := h n (by omega); omega)]
theorem rf_max {S a : Nat} {x : Int × Nat} {y : Int} : ∀ n, y ≤ (rf m G S a n x).1 ↔ y ≤ x.1 ∨ ∃ i, i < n ∧ y ≤ vv m G S (a + i)
  | 0 => by simp [rf]
  | n + 1 => by
    have ih := rf_max (S := S) (a := a) (x := x) (y := y) n
    rw [rf_s]
    have key : y ≤ (if (rf m G S a n x).1 < vv m G S (a + n) then (vv m G S (a + n), a + n) else rf m G S a n x).1 ↔ y ≤ (rf m G S a n x).1 ∨ y ≤ vv m G S (a + n) := by
      split
      · dsimp only; omega
      · omega
    rw [key, ih]
    constructor
    · rintro ((h | ⟨i, h1, h2⟩) | h)
      · exact Or.inl h
      · exact Or.inr ⟨i, by omega, h2⟩
      · exact Or.inr ⟨n, by omega, h⟩
    · rintro (h | ⟨i, h1, h2⟩)
      · exact Or.inl (Or.inl h)
      · by_cases e : i = n
        · subst e; exact Or.inr h2
        · exact Or.inl (Or.inr ⟨i, by omega, h2⟩)
theorem rf_rg {S a : Nat} (hG : ∀ a b c e, 0 ≤ G a b c e ∧ G a b c e ≤ 2000) {x : Int × Nat} (hx : -1 ≤ x.1 ∧ x.1 ≤ 1000000) (n : Nat) : -1 ≤ (rf m G S a n x).1 ∧ (rf m G S a n x).1 ≤ 1000000 := by
  induction n with
  | zero => exact hx
  | succ n ih =>
    rw [rf_s]
    have := vv_rg (m := m) hG S (a + n)
    split
    · dsimp only; omega
    · exact ih
/-- how many numbers of six slots begin alike in the first 6 - n -/
def wd (m : Nat → Nat) : Nat → Nat
  | 0 => 1
  | n + 1 => mm m (5 - n) * wd m n
theorem wd_pr : wd m 6 = pr m 6 := by
  simp only [wd, pr, Nat.mul_one, Nat.one_mul, Nat.mul_assoc]
/-- a number of six slots, and where it begins -/
theorem vv_blk (hm : ∀ s, m s ≤ 4) : ∀ n s p i, s + n = 6 → i < wd m n → vv m G 6 (p * wd m n + i) ≤ vv m G s p
  | 0, s, p, i, e, h => by
    have : s = 6 := by omega
    subst this
    have : i = 0 := by unfold wd at h; omega
    subst this
    unfold wd
    rw [Nat.mul_one, Nat.add_zero]; exact Int.le_refl _
  | n + 1, s, p, i, e, h => by
    have hs : 5 - n = s := by omega
    have hM := mm_rg hm s
    have hw : wd m (n + 1) = mm m s * wd m n := by
      show mm m (5 - n) * wd m n = _
      rw [hs]
    rw [hw] at h ⊢
    have hj : i / wd m n < mm m s := Nat.div_lt_of_lt_mul (by rw [Nat.mul_comm]; exact h)
    have hwp : 0 < wd m n := Nat.pos_of_ne_zero fun h0 => by rw [h0] at h; omega
    have hi : p * (mm m s * wd m n) + i = (p * mm m s + i / wd m n) * wd m n + i % wd m n := by
      rw [Nat.add_mul, Nat.mul_assoc, Nat.add_assoc]
      congr 1
      rw [Nat.mul_comm (i / wd m n)]
      exact (Nat.div_add_mod i (wd m n)).symm
    rw [hi]
    refine Int.le_trans (vv_blk hm n (s + 1) _ _ (by omega) (Nat.mod_lt _ hwp)) ?_
    have := vv_mono (m := m) (G := G) (s := s) (p := p * mm m s + i / wd m n)
    rw [(dv_m hj).1] at this
    exact this
/-- where a number of x slots begins in the first s -/
def anc (m : Nat → Nat) (s : Nat) : Nat → Nat → Nat
  | 0, p => p
  | k + 1, p => anc m s k (p / mm m (s + k))
theorem anc_s {s k p : Nat} : anc m s (k + 1) p = anc m (s + 1) k p / mm m s := by
  induction k generalizing p with
  | zero => rfl
  | succ k ih =>
    show anc m s (k + 1) (p / mm m (s + (k + 1))) = _
    rw [ih]
    show anc m (s + 1) k (p / mm m (s + (k + 1))) / mm m s = anc m (s + 1) k (p / mm m (s + 1 + k)) / mm m s
    rw [show s + (k + 1) = s + 1 + k by omega]
theorem vv_anc {s : Nat} : ∀ {k p : Nat}, vv m G (s + k) p ≤ vv m G s (anc m s k p)
  | 0, p => Int.le_refl _
  | k + 1, p => Int.le_trans (vv_mono (s := s + k)) vv_anc
theorem anc_lt (hm : ∀ s, m s ≤ 4) {s : Nat} : ∀ {k p : Nat}, p < pr m (s + k) → anc m s k p < pr m s
  | 0, p, h => h
  | k + 1, p, h => anc_lt hm (k := k) (pr_dv hm (s := s + k) h)
end CH
