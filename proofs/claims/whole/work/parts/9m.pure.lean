/-! Int64 as whole numbers; the working of a clause on a stack. -/
theorem l_add (a b : Int) : Int64.ofInt a + Int64.ofInt b = Int64.ofInt (a + b) := (Int64.ofInt_add a b).symm
theorem l_sub (a b : Int) : Int64.ofInt a - Int64.ofInt b = Int64.ofInt (a - b) := (Int64.ofInt_sub a b).symm
theorem l_mul (a b : Int) : Int64.ofInt a * Int64.ofInt b = Int64.ofInt (a * b) := (Int64.ofInt_mul a b).symm
theorem l_neg (a : Int) : - Int64.ofInt a = Int64.ofInt (- a) := (Int64.ofInt_neg a).symm
theorem l_32 (a : Int) : Int64.toInt32 (Int64.ofInt a) = Int32.ofInt a := Int64.toInt32_ofInt
theorem l_64 {a : Int} (h : -2147483648 ≤ a ∧ a < 2147483648) : Int32.toInt64 (Int32.ofInt a) = Int64.ofInt a := Int32.toInt64_ofInt (by show -2147483648 ≤ a; omega) (by show a ≤ 2147483647; omega)
theorem l_int {a : Int} (h : -9000000000000000 ≤ a ∧ a ≤ 9000000000000000) : (Int64.ofInt a).toInt = a := Int64.toInt_ofInt_of_le (by omega) (by omega)
theorem l_lt {a b : Int} (h1 : -9000000000000000 ≤ a ∧ a ≤ 9000000000000000) (h2 : -9000000000000000 ≤ b ∧ b ≤ 9000000000000000) : (Int64.ofInt a < Int64.ofInt b) = (a < b) := by rw [Int64.lt_iff_toInt_lt, l_int h1, l_int h2]
theorem l_le {a b : Int} (h1 : -9000000000000000 ≤ a ∧ a ≤ 9000000000000000) (h2 : -9000000000000000 ≤ b ∧ b ≤ 9000000000000000) : (Int64.ofInt a ≤ Int64.ofInt b) = (a ≤ b) := by rw [Int64.le_iff_toInt_le, l_int h1, l_int h2]
theorem l_eq {a b : Int} (h1 : -9000000000000000 ≤ a ∧ a ≤ 9000000000000000) (h2 : -9000000000000000 ≤ b ∧ b ≤ 9000000000000000) : (Int64.ofInt a = Int64.ofInt b) = (a = b) := propext ⟨fun h => by have := congrArg Int64.toInt h; rwa [l_int h1, l_int h2] at this, fun h => h ▸ rfl⟩
theorem lg_e (x y : Int64) : (lg_cmp x y = 0) = (x = y) := by
  refine propext ⟨fun h => ?_, fun h => ?_⟩
  · have h1 : 0 ≤ lg_cmp x y := by rw [h]; exact Int32.le_refl _
    have h2 : lg_cmp x y ≤ 0 := by rw [h]; exact Int32.le_refl _
    exact Int64.le_antisymm ((lg_cmp_le x y).mp h2) ((lg_cmp_ge x y).mp h1)
  · subst h; exact Int32.le_antisymm ((lg_cmp_le x x).mpr (Int64.le_refl _)) ((lg_cmp_ge x x).mpr (Int64.le_refl _))
theorem lg_ge (x y : Int64) : (0 ≤ lg_cmp x y) = (y ≤ x) := propext (lg_cmp_ge x y)
theorem lg_le (x y : Int64) : (lg_cmp x y ≤ 0) = (x ≤ y) := propext (lg_cmp_le x y)
theorem lg_gt (x y : Int64) : (0 < lg_cmp x y) = (y < x) := propext (lg_cmp_gt x y)
theorem lg_lt (x y : Int64) : (lg_cmp x y < 0) = (x < y) := propext (lg_cmp_lt x y)
theorem l_lit (n : Nat) : (@OfNat.ofNat Int64 n _) = Int64.ofInt (@OfNat.ofNat Int n _) := rfl
theorem l_nm : (-1000000 : Int64) = Int64.ofInt (-1000000) := rfl
/-- held within a million -/
def hl (v : Int) : Int := max (-1000000) (min 1000000 v)
theorem hl_rg (v : Int) : -1000000 ≤ hl v ∧ hl v ≤ 1000000 := by unfold hl; omega
theorem hl_id {v : Int} (h : -1000000 ≤ v ∧ v ≤ 1000000) : hl v = v := by unfold hl; omega
def jn (o x y : Int) : Int := if o = 3 then hl (x + y) else if o = 4 then hl (x - y) else if o = 5 then hl (x * y) else if o = 10 then bi (x < y) else if o = 11 then bi (x ≤ y) else if o = 12 then bi (y < x) else if o = 13 then bi (y ≤ x) else if o = 14 then bi (x = y) else if o = 15 then bi (x ≠ y) else if o = 21 then bi (x = 1 ∧ y = 1) else bi (x = 1 ∨ y = 1)
theorem jn_rg (o x y : Int) : -1000000 ≤ jn o x y ∧ jn o x y ≤ 1000000 := by
  unfold jn
  have h : ∀ (p : Prop) [Decidable p], -1000000 ≤ bi p ∧ bi p ≤ 1000000 := fun p _ => by have := bi_rg p; omega
  repeat (first | exact hl_rg _ | exact h _ | split)
theorem jn_b {o : Int} (h : 10 ≤ o) (x y : Int) : 0 ≤ jn o x y ∧ jn o x y ≤ 1 := by
  unfold jn
  rw [if_neg (by omega), if_neg (by omega), if_neg (by omega)]
  repeat (first | exact bi_rg _ | split)
def updZ (s : Nat → Int) (k : Nat) (v : Int) : Nat → Int := fun i => if i = k then v else s i
theorem updZ_at {s : Nat → Int} {k : Nat} {v : Int} {i : Nat} : updZ s k v i = if i = k then v else s i := rfl
/-- the stack behind n operators, and its height -/
def evs (f g N : Nat → Int) : Nat → (Nat → Int) × Nat
  | 0 => (fun _ => 0, 0)
  | n + 1 => if f n ≤ 1 then (updZ (evs f g N n).1 (evs f g N n).2 (if f n = 0 then g n else N (g n).toNat), (evs f g N n).2 + 1) else if f n = 2 then (updZ (evs f g N n).1 ((evs f g N n).2 - 1) (-(evs f g N n).1 ((evs f g N n).2 - 1)), (evs f g N n).2) else (updZ (evs f g N n).1 ((evs f g N n).2 - 2) (jn (f n) ((evs f g N n).1 ((evs f g N n).2 - 2)) ((evs f g N n).1 ((evs f g N n).2 - 1))), (evs f g N n).2 - 1)
def evOK (s : Nat → Int) (h t v n : Nat) : Prop := h = t + v ∧ t + v ≤ n ∧ (∀ i, i < t → s i = 0 ∨ s i = 1) ∧ ∀ i, t ≤ i → i < t + v → -1000000 ≤ s i ∧ s i ≤ 1000000
theorem ty_in {f : Nat → Int} {n : Nat} {q : Nat × Nat} (h : tyO f (n + 1) = some q) : ∃ t v, tyO f n = some (t, v) ∧ ((f n ≤ 1 ∧ q = (t, v + 1)) ∨ (f n = 2 ∧ 1 ≤ v ∧ q = (t, v)) ∨ (2 < f n ∧ f n ≤ 5 ∧ 2 ≤ v ∧ q = (t, v - 1)) ∨ (5 < f n ∧ f n ≤ 15 ∧ v = 2 ∧ q = (t + 1, 0)) ∨ (15 < f n ∧ 2 ≤ t ∧ v = 0 ∧ q = (t - 1, 0))) := by
  unfold tyO at h
  cases e : tyO f n with
  | none => rw [e] at h; simp at h
  | some p =>
    obtain ⟨t, v⟩ := p
    rw [e] at h
    simp only at h
    refine ⟨t, v, rfl, ?_⟩
    by_cases c1 : f n ≤ 1
    · rw [if_pos c1] at h
      exact Or.inl ⟨c1, (Option.some.inj h).symm⟩
    · rw [if_neg c1] at h
      by_cases c2 : f n = 2
      · rw [if_pos c2] at h
        by_cases c3 : 1 ≤ v
        · rw [if_pos c3] at h; exact Or.inr (Or.inl ⟨c2, c3, (Option.some.inj h).symm⟩)
        · rw [if_neg c3] at h; simp at h
      · rw [if_neg c2] at h
        by_cases c4 : f n ≤ 5
        · rw [if_pos c4] at h
          by_cases c3 : 2 ≤ v
          · rw [if_pos c3] at h; exact Or.inr (Or.inr (Or.inl ⟨by omega, c4, c3, (Option.some.inj h).symm⟩))
          · rw [if_neg c3] at h; simp at h
        · rw [if_neg c4] at h
          by_cases c5 : f n ≤ 15
          · rw [if_pos c5] at h
            by_cases c3 : v = 2
            · rw [if_pos c3] at h; exact Or.inr (Or.inr (Or.inr (Or.inl ⟨by omega, c5, c3, (Option.some.inj h).symm⟩)))
            · rw [if_neg c3] at h; simp at h
          · rw [if_neg c5] at h
            by_cases c3 : 2 ≤ t ∧ v = 0
            · rw [if_pos c3] at h; exact Or.inr (Or.inr (Or.inr (Or.inr ⟨by omega, c3.1, c3.2, (Option.some.inj h).symm⟩)))
            · rw [if_neg c3] at h; simp at h
theorem evs_ok {f g N : Nat → Int} (hN : ∀ v, v < 12 → -1000000 ≤ N v ∧ N v ≤ 1000000) : ∀ {n t v : Nat}, (∀ j, j < n → vop (f j) (g j)) → tyO f n = some (t, v) → evOK (evs f g N n).1 (evs f g N n).2 t v n
  | 0, t, v, _, h => by
    have : (0, 0) = (t, v) := Option.some.inj h
    obtain ⟨rfl, rfl⟩ := Prod.mk.inj this
    exact ⟨rfl, by omega, fun i h => by omega, fun i h1 h2 => by omega⟩
  | n + 1, t, v, hv, h => by
    obtain ⟨t0, v0, h0, hc⟩ := ty_in h
    obtain ⟨e1, e2, e3, e4⟩ := evs_ok hN (fun j hj => hv j (by omega)) h0
    have hvn := hv n (by omega)
    unfold vop at hvn
    unfold evs
    generalize (evs f g N n).1 = s at e3 e4 ⊢
    generalize (evs f g N n).2 = k at e1 ⊢
    subst e1
    rcases hc with ⟨c1, e⟩ | ⟨c1, c2, e⟩ | ⟨c1, c2, c3, e⟩ | ⟨c1, c2, c3, e⟩ | ⟨c1, c2, c3, e⟩ <;> obtain ⟨rfl, rfl⟩ := Prod.mk.inj e
    · rw [if_pos c1]
      refine ⟨by dsimp only; omega, by omega, fun i hi => ?_, fun i h1 h2 => ?_⟩
      · dsimp only; rw [updZ_at, if_neg (by omega)]; exact e3 i hi
      · dsimp only; rw [updZ_at]
        split
        · split
          · omega
          · exact hN _ (by omega)
        · exact e4 i h1 (by omega)
    · rw [if_neg (by omega), if_pos c1]
      refine ⟨by dsimp only, by omega, fun i hi => ?_, fun i h1 h2 => ?_⟩
      · dsimp only; rw [updZ_at, if_neg (by omega)]; exact e3 i hi
      · dsimp only; rw [updZ_at]
        have h5 := e4 (t + v - 1) (by omega) (by omega)
        split
        · omega
        · exact e4 i h1 (by omega)
    · rw [if_neg (by omega), if_neg (by omega)]
      refine ⟨by dsimp only; omega, by omega, fun i hi => ?_, fun i h1 h2 => ?_⟩
      · dsimp only; rw [updZ_at, if_neg (by omega)]; exact e3 i hi
      · dsimp only; rw [updZ_at]
        split
        · exact jn_rg _ _ _
        · exact e4 i h1 (by omega)
    · rw [if_neg (by omega), if_neg (by omega)]
      refine ⟨by dsimp only; omega, by omega, fun i hi => ?_, fun i h1 h2 => by omega⟩
      dsimp only; rw [updZ_at]
      split
      · have := jn_b (o := f n) (by omega) (s (t0 + v0 - 2)) (s (t0 + v0 - 1)); omega
      · exact e3 i (by omega)
    · rw [if_neg (by omega), if_neg (by omega)]
      refine ⟨by dsimp only; omega, by omega, fun i hi => ?_, fun i h1 h2 => by omega⟩
      dsimp only; rw [updZ_at]
      split
      · have := jn_b (o := f n) (by omega) (s (t0 + v0 - 2)) (s (t0 + v0 - 1)); omega
      · exact e3 i (by omega)
/-- names alone count -/
theorem evs_cg {f g N M : Nat → Int} : ∀ {n : Nat}, (∀ j, j < n → ¬ f j ≤ 1 ∨ f j = 0 ∨ N (g j).toNat = M (g j).toNat) → evs f g N n = evs f g M n
  | 0, _ => rfl
  | n + 1, h => by
    have ih := evs_cg (N := N) (M := M) (fun j hj => h j (by omega) : ∀ j, j < n → _)
    unfold evs
    rw [ih]
    by_cases c : f n ≤ 1
    · rw [if_pos c, if_pos c]
      by_cases c0 : f n = 0
      · rw [if_pos c0, if_pos c0]
      · rw [if_neg c0, if_neg c0]
        rcases h n (by omega) with h | h | h
        · exact absurd c h
        · exact absurd h c0
        · rw [h]
    · rw [if_neg c, if_neg c]
/-! join -/
theorem la_or {x y : Int} (hx : x = 0 ∨ x = 1) (hy : y = 0 ∨ y = 1) : Int64.ofInt x ||| Int64.ofInt y = Int64.ofInt (bi (x = 1 ∨ y = 1)) := by
  rcases hx with rfl | rfl <;> rcases hy with rfl | rfl <;> decide
theorem la_and {x y : Int} (hx : x = 0 ∨ x = 1) (hy : y = 0 ∨ y = 1) : Int64.ofInt x &&& Int64.ofInt y = Int64.ofInt (bi (x = 1 ∧ y = 1)) := by
  rcases hx with rfl | rfl <;> rcases hy with rfl | rfl <;> decide
theorem mul_b {x y : Int} (hx : -1000000 ≤ x ∧ x ≤ 1000000) (hy : -1000000 ≤ y ∧ y ≤ 1000000) : -1000000000000 ≤ x * y ∧ x * y ≤ 1000000000000 := by
  have h1 : (x * y).natAbs ≤ 1000000 * 1000000 := by
    rw [Int.natAbs_mul]
    exact Nat.mul_le_mul (by omega) (by omega)
  omega
theorem leafJ {x y : Int} {z : SS} (h : x = y) : ((some (Value.long (Int64.ofInt x)), z) : Option Value × SS) = (some (Value.long (Int64.ofInt y)), z) := by rw [h]
theorem k_30 {L d : Nat} {xs : Nat → Int32} {V : Nat → Nat → Int} {J : Nat → Nat → Int64} {tg : Option Nat} {o x y : Int} (ho : (3 ≤ o ∧ o ≤ 5) ∨ (10 ≤ o ∧ o ≤ 15) ∨ (21 ≤ o ∧ o ≤ 22)) (hx : -1000000 ≤ x ∧ x ≤ 1000000) (hy : -1000000 ≤ y ∧ y ≤ 1000000) (hb : 21 ≤ o → (x = 0 ∨ x = 1) ∧ (y = 0 ∨ y = 1)) : ∃ z : Int, (-1000000000000 ≤ z ∧ z ≤ 1000000000000) ∧ hl z = jn o x y ∧ Runs (GW L xs) (d) 30 (0, [(Value.int (Int32.ofInt (enc o 0 - 20000))), .long (Int64.ofInt x), vU, .long (Int64.ofInt y), vU], [], zS (eV (V)) J tg) (some (.long (Int64.ofInt z)), zS (eV (V)) J tg) := by
  have hm := mul_b hx hy
  have bh : ∀ (p : Prop) [Decidable p], hl (bi p) = bi p := fun p _ => hl_id (by have := bi_rg p; omega)
  have bb : ∀ (p : Prop) [Decidable p], -1000000000000 ≤ bi p ∧ bi p ≤ 1000000000000 := fun p _ => by have := bi_rg p; omega
  have key : ∀ (w z : Int), enc o 0 - 20000 = w → (-1000000000000 ≤ z ∧ z ≤ 1000000000000) → hl z = jn o x y → Runs (GW L xs) (d) 30 (0, [(Value.int (Int32.ofInt (w))), .long (Int64.ofInt x), vU, .long (Int64.ofInt y), vU], [], zS (eV (V)) J tg) (some (.long (Int64.ofInt z)), zS (eV (V)) J tg) → ∃ z : Int, (-1000000000000 ≤ z ∧ z ≤ 1000000000000) ∧ hl z = jn o x y ∧ Runs (GW L xs) (d) 30 (0, [(Value.int (Int32.ofInt (enc o 0 - 20000))), .long (Int64.ofInt x), vU, .long (Int64.ofInt y), vU], [], zS (eV (V)) J tg) (some (.long (Int64.ofInt z)), zS (eV (V)) J tg) := fun w z h1 h2 h3 h4 => ⟨z, h2, h3, by rw [h1]; exact h4⟩
  have ho' : o = 3 ∨ o = 4 ∨ o = 5 ∨ o = 10 ∨ o = 11 ∨ o = 12 ∨ o = 13 ∨ o = 14 ∨ o = 15 ∨ o = 21 ∨ o = 22 := by omega
  rcases ho' with rfl | rfl | rfl | rfl | rfl | rfl | rfl | rfl | rfl | rfl | rfl
  · exact key 15 (x + y) (by decide) (by omega) rfl (sg_30 _ _ _ _ _ _ (by rw [if_neg (by decide), if_neg (by decide), if_neg (by decide), if_neg (by decide), if_neg (by decide), if_neg (by decide), if_neg (by decide), if_neg (by decide), if_neg (by decide), if_pos (by decide)]; rw [l_add]))
  · exact key 16 (x - y) (by decide) (by omega) rfl (sg_30 _ _ _ _ _ _ (by rw [if_neg (by decide), if_neg (by decide), if_neg (by decide), if_neg (by decide), if_neg (by decide), if_neg (by decide), if_neg (by decide), if_neg (by decide), if_neg (by decide), if_neg (by decide), if_pos (by decide)]; rw [l_sub]))
  · exact key 17 (x * y) (by decide) hm rfl (sg_30 _ _ _ _ _ _ (by rw [if_pos (by decide)]; rw [l_mul]))
  · refine key 9 (bi (x < y)) (by decide) (bb _) (bh _) (sg_30 _ _ _ _ _ _ ?_)
    rw [if_neg (by decide), if_neg (by decide), if_neg (by decide), if_pos (by decide)]
    simp (disch := omega) only [lg_ge, l_le]
    split
    · exact leafJ (bi_f (by omega)).symm
    · exact leafJ (bi_t (by omega)).symm
  · refine key 10 (bi (x ≤ y)) (by decide) (bb _) (bh _) (sg_30 _ _ _ _ _ _ ?_)
    rw [if_neg (by decide), if_neg (by decide), if_neg (by decide), if_neg (by decide), if_pos (by decide)]
    simp (disch := omega) only [lg_gt, l_lt]
    split
    · exact leafJ (bi_f (by omega)).symm
    · exact leafJ (bi_t (by omega)).symm
  · refine key 11 (bi (y < x)) (by decide) (bb _) (bh _) (sg_30 _ _ _ _ _ _ ?_)
    rw [if_neg (by decide), if_neg (by decide), if_neg (by decide), if_neg (by decide), if_neg (by decide), if_pos (by decide)]
    simp (disch := omega) only [lg_le, l_le]
    split
    · exact leafJ (bi_f (by omega)).symm
    · exact leafJ (bi_t (by omega)).symm
  · refine key 12 (bi (y ≤ x)) (by decide) (bb _) (bh _) (sg_30 _ _ _ _ _ _ ?_)
    rw [if_neg (by decide), if_neg (by decide), if_neg (by decide), if_neg (by decide), if_neg (by decide), if_neg (by decide), if_pos (by decide)]
    simp (disch := omega) only [lg_lt, l_lt]
    split
    · exact leafJ (bi_f (by omega)).symm
    · exact leafJ (bi_t (by omega)).symm
  · refine key 13 (bi (x = y)) (by decide) (bb _) (bh _) (sg_30 _ _ _ _ _ _ ?_)
    rw [if_neg (by decide), if_neg (by decide), if_neg (by decide), if_neg (by decide), if_neg (by decide), if_neg (by decide), if_neg (by decide), if_pos (by decide)]
    simp (disch := omega) only [lg_e, l_eq]
    split
    · exact leafJ (bi_t (by omega)).symm
    · exact leafJ (bi_f (by omega)).symm
  · refine key 14 (bi (x ≠ y)) (by decide) (bb _) (bh _) (sg_30 _ _ _ _ _ _ ?_)
    rw [if_neg (by decide), if_neg (by decide), if_neg (by decide), if_neg (by decide), if_neg (by decide), if_neg (by decide), if_neg (by decide), if_neg (by decide), if_pos (by decide)]
    simp (disch := omega) only [lg_e, l_eq]
    split
    · exact leafJ (bi_f (by omega)).symm
    · exact leafJ (bi_t (by omega)).symm
  · obtain ⟨q1, q2⟩ := hb (by omega)
    exact key 8 _ (by decide) (bb _) (bh _) (sg_30 _ _ _ _ _ _ (by rw [if_neg (by decide), if_neg (by decide), if_pos (by decide)]; rw [la_and q1 q2]))
  · obtain ⟨q1, q2⟩ := hb (by omega)
    exact key 7 _ (by decide) (bb _) (bh _) (sg_30 _ _ _ _ _ _ (by rw [if_neg (by decide), if_pos (by decide)]; rw [la_or q1 q2]))
theorem cl_64 {z : Int} (h : -1000000000000 ≤ z ∧ z ≤ 1000000000000) : Int64.toInt32 (if (if Int64.ofInt z < 1000000 then Int64.ofInt z else 1000000) < (-1000000) then (-1000000) else (if Int64.ofInt z < 1000000 then Int64.ofInt z else 1000000)) = Int32.ofInt (hl z) := by
  rw [l_nm, show (1000000 : Int64) = Int64.ofInt 1000000 from rfl]
  simp (disch := omega) only [l_lt]
  unfold hl
  by_cases c1 : z < 1000000
  · rw [if_pos c1]
    simp (disch := omega) only [l_lt]
    by_cases c2 : z < -1000000
    · rw [if_pos c2, l_32]; congr 1; omega
    · rw [if_neg c2, l_32]; congr 1; omega
  · rw [if_neg c1]
    simp (disch := omega) only [l_lt]
    rw [if_neg (by omega), l_32]; congr 1; omega
