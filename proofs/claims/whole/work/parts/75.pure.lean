/-! FAR: the gains over subsets, what they are of matchings, and the cheapest costs over subsets. -/
def gst (T : Nat) (g : Nat → Int) (r : Nat → Int) : Nat → Int → Int
  | 0, acc => acc
  | j + 1, acc => if T.testBit j then max (gst T g r j acc) (r (T ^^^ 2 ^ j) + g j) else gst T g r j acc
def GN (g : Nat → Nat → Int) (m : Nat) : Nat → Nat → Int
  | 0, _ => 0
  | i + 1, T => gst T (g i) (GN g m i) m (GN g m i T)
theorem gst_le {T g r} {x : Int} : ∀ {m acc}, gst T g r m acc ≤ x ↔ acc ≤ x ∧ ∀ j, j < m → T.testBit j = true → r (T ^^^ 2 ^ j) + g j ≤ x
  | 0, acc => by simp [gst]
  | m + 1, acc => by
    have ih := @gst_le T g r x m acc
    unfold gst
    split
    · rename_i hb
      rw [Int.max_le, ih]
      constructor
      · rintro ⟨⟨h1, h2⟩, h3⟩
        refine ⟨h1, fun j hj ht => ?_⟩
        by_cases e : j = m
        · subst e; exact h3
        · exact h2 j (by omega) ht
      · rintro ⟨h1, h2⟩
        exact ⟨⟨h1, fun j hj ht => h2 j (by omega) ht⟩, h2 m (by omega) hb⟩
    · rename_i hb
      rw [ih]
      constructor
      · rintro ⟨h1, h2⟩
        refine ⟨h1, fun j hj ht => ?_⟩
        by_cases e : j = m
        · subst e; exact absurd ht hb
        · exact h2 j (by omega) ht
      · rintro ⟨h1, h2⟩
        exact ⟨h1, fun j hj ht => h2 j (by omega) ht⟩
theorem gst_cases {T g r} : ∀ {m acc}, gst T g r m acc = acc ∨ ∃ j, j < m ∧ T.testBit j = true ∧ gst T g r m acc = r (T ^^^ 2 ^ j) + g j
  | 0, acc => Or.inl rfl
  | m + 1, acc => by
    have ih := @gst_cases T g r m acc
    unfold gst
    split
    · rename_i hb
      by_cases h : gst T g r m acc ≤ r (T ^^^ 2 ^ m) + g m
      · exact Or.inr ⟨m, by omega, hb, by rw [Int.max_eq_right h]⟩
      · rw [Int.max_eq_left (by omega)]
        rcases ih with ih | ⟨j, hj, ht, e⟩
        · exact Or.inl ih
        · exact Or.inr ⟨j, by omega, ht, e⟩
    · rcases ih with ih | ⟨j, hj, ht, e⟩
      · exact Or.inl ih
      · exact Or.inr ⟨j, by omega, ht, e⟩
theorem gst_acc {T g r m acc} : acc ≤ gst T g r m acc := (gst_le.mp (Int.le_refl _)).1
theorem gst_one {T g r m acc j} (hj : j < m) (ht : T.testBit j = true) : r (T ^^^ 2 ^ j) + g j ≤ gst T g r m acc := (gst_le.mp (Int.le_refl _)).2 j hj ht
theorem tb_x (T j k : Nat) : (T ^^^ 2 ^ j).testBit k = ((T.testBit k) != decide (j = k)) := by
  rw [Nat.testBit_xor, Nat.testBit_two_pow]
theorem x_comm (T j k : Nat) : T ^^^ 2 ^ j ^^^ 2 ^ k = T ^^^ 2 ^ k ^^^ 2 ^ j := by
  rw [Nat.xor_assoc, Nat.xor_comm (2 ^ j), ← Nat.xor_assoc]
theorem x_x (T j : Nat) : T ^^^ 2 ^ j ^^^ 2 ^ j = T := by
  rw [Nat.xor_assoc, Nat.xor_self, Nat.xor_zero]
theorem GN_mono {g m} : ∀ {i T j}, T.testBit j = true → GN g m i (T ^^^ 2 ^ j) ≤ GN g m i T
  | 0, T, j, _ => Int.le_refl _
  | i + 1, T, j, h => by
    unfold GN
    rw [gst_le]
    refine ⟨Int.le_trans (GN_mono h) gst_acc, fun k hk ht => ?_⟩
    rw [tb_x] at ht
    have h1 : T.testBit k = true ∧ j ≠ k := by
      by_cases e : j = k
      · subst e; simp [h] at ht
      · simpa [e] using ht
    have h2 : (T ^^^ 2 ^ k).testBit j = true := by
      rw [tb_x, h]; simp; exact fun e => h1.2 e.symm
    have := @GN_mono g m i (T ^^^ 2 ^ k) j h2
    have h3 := @gst_one T (g i) (GN g m i) m (GN g m i T) k hk h1.1
    rw [x_comm]
    omega
def wt (g : Nat → Nat → Int) : List (Nat × Nat) → Int
  | [] => 0
  | x :: l => g x.1 x.2 + wt g l
def okMt (i m T : Nat) (l : List (Nat × Nat)) : Prop := (∀ x ∈ l, x.1 < i ∧ x.2 < m ∧ T.testBit x.2 = true) ∧ (l.map Prod.fst).Nodup ∧ (l.map Prod.snd).Nodup
theorem wt_er {g} {x : Nat × Nat} : ∀ {l}, x ∈ l → wt g l = g x.1 x.2 + wt g (l.erase x)
  | y :: l, h => by
    by_cases e : y = x
    · subst e; simp [wt]
    · have h' : x ∈ l := by
        rcases List.mem_cons.mp h with h | h
        · exact absurd h.symm e
        · exact h
      rw [List.erase_cons_tail (by simpa using e)]
      simp only [wt]
      have := @wt_er g x l h'
      omega
theorem nd_er {f : Nat × Nat → Nat} {x : Nat × Nat} : ∀ {l : List (Nat × Nat)}, (l.map f).Nodup → x ∈ l → ∀ y ∈ l.erase x, f y ≠ f x
  | z :: l, hn, hx, y, hy => by
    simp only [List.map_cons, List.nodup_cons] at hn
    by_cases e : z = x
    · subst e
      simp at hy
      intro h
      exact hn.1 (List.mem_map.mpr ⟨y, hy, h⟩)
    · have h' : x ∈ l := by
        rcases List.mem_cons.mp hx with h | h
        · exact absurd h.symm e
        · exact h
      rw [List.erase_cons_tail (by simpa using e)] at hy
      rcases List.mem_cons.mp hy with h | h
      · subst h
        intro h2
        exact hn.1 (List.mem_map.mpr ⟨x, h', h2.symm⟩)
      · exact @nd_er f x l hn.2 h' y h
theorem GN_ub {g m} : ∀ {i T l}, okMt i m T l → wt g l ≤ GN g m i T
  | 0, T, [], _ => Int.le_refl _
  | 0, T, x :: l, h => absurd (h.1 x (by simp)).1 (by omega)
  | i + 1, T, l, h => by
    by_cases hi : ∃ x ∈ l, x.1 = i
    · obtain ⟨x, hx, e⟩ := hi
      rw [wt_er hx]
      have h1 : okMt i m (T ^^^ 2 ^ x.2) (l.erase x) := by
        refine ⟨fun y hy => ?_, List.Nodup.sublist ((List.erase_sublist).map _) h.2.1, List.Nodup.sublist ((List.erase_sublist).map _) h.2.2⟩
        have h2 := h.1 y (List.mem_of_mem_erase hy)
        have h3 := nd_er h.2.1 hx y hy
        have h4 := nd_er h.2.2 hx y hy
        refine ⟨by omega, h2.2.1, ?_⟩
        rw [tb_x, h2.2.2]; simp; exact fun e => h4 e.symm
      have := GN_ub (g := g) h1
      have h5 := h.1 x hx
      have h6 := @gst_one T (g i) (GN g m i) m (GN g m i T) x.2 h5.2.1 h5.2.2
      unfold GN
      rw [e]
      omega
    · have h1 : okMt i m T l := ⟨fun y hy => by
        have h2 := h.1 y hy
        have : y.1 ≠ i := fun e => hi ⟨y, hy, e⟩
        exact ⟨by omega, h2.2⟩, h.2⟩
      have := GN_ub (g := g) h1
      unfold GN
      exact Int.le_trans this gst_acc
theorem GN_at {g m} : ∀ {i T}, ∃ l, okMt i m T l ∧ wt g l = GN g m i T
  | 0, T => ⟨[], by simp [okMt], rfl⟩
  | i + 1, T => by
    unfold GN
    rcases @gst_cases T (g i) (GN g m i) m (GN g m i T) with e | ⟨j, hj, ht, e⟩
    · obtain ⟨l, h1, h2⟩ := @GN_at g m i T
      exact ⟨l, ⟨fun x hx => by have := h1.1 x hx; exact ⟨by omega, this.2⟩, h1.2⟩, by rw [e, h2]⟩
    · obtain ⟨l, h1, h2⟩ := @GN_at g m i (T ^^^ 2 ^ j)
      refine ⟨(i, j) :: l, ⟨?_, ?_, ?_⟩, by rw [e]; simp only [wt]; omega⟩
      · intro x hx
        rcases List.mem_cons.mp hx with hx | hx
        · subst hx; exact ⟨by simp, hj, ht⟩
        · have := h1.1 x hx
          refine ⟨by omega, this.2.1, ?_⟩
          have h3 := this.2.2
          rw [tb_x] at h3
          by_cases e : j = x.2
          · subst e; simp [ht] at h3
          · simpa [e] using h3
      · simp only [List.map_cons, List.nodup_cons]
        refine ⟨fun hm => ?_, h1.2.1⟩
        obtain ⟨y, hy, e2⟩ := List.mem_map.mp hm
        have := (h1.1 y hy).1
        omega
      · simp only [List.map_cons, List.nodup_cons]
        refine ⟨fun hm => ?_, h1.2.2⟩
        obtain ⟨y, hy, e2⟩ := List.mem_map.mp hm
        have h3 := (h1.1 y hy).2.2
        rw [e2, tb_x, ht] at h3
        simp at h3
theorem wt_sw {g} : ∀ l, wt (fun a b => g b a) (l.map Prod.swap) = wt g l
  | [] => rfl
  | x :: l => by simp [wt, wt_sw l]
theorem tb_full {m j : Nat} (h : j < m) : (2 ^ m - 1).testBit j = true := by
  rw [Nat.testBit_two_pow_sub_one]; simpa using h
theorem GN_le_sw {g n m} : GN g m n (2 ^ m - 1) ≤ GN (fun a b => g b a) n m (2 ^ n - 1) := by
  obtain ⟨l, h1, h2⟩ := @GN_at g m n (2 ^ m - 1)
  rw [← h2, ← wt_sw]
  refine GN_ub ⟨fun x hx => ?_, ?_, ?_⟩
  · obtain ⟨y, hy, e⟩ := List.mem_map.mp hx
    have := h1.1 y hy
    subst e
    exact ⟨this.2.1, this.1, tb_full this.1⟩
  · rw [List.map_map]
    exact h1.2.2
  · rw [List.map_map]
    exact h1.2.1
theorem GN_sym {g n m} : GN g m n (2 ^ m - 1) = GN (fun a b => g b a) n m (2 ^ n - 1) := Int.le_antisymm GN_le_sw (@GN_le_sw (fun a b => g b a) m n)
/-- how many of the first k bits -/
def pcn (s : Nat) : Nat → Nat
  | 0 => 0
  | k + 1 => pcn s k + (if s.testBit k then 1 else 0)
theorem pcn_le (s) : ∀ k, pcn s k ≤ k
  | 0 => Nat.le_refl _
  | k + 1 => by have := pcn_le s k; unfold pcn; split <;> omega
theorem pcn_x {s j} (h : s.testBit j = true) : ∀ {k}, pcn s k = pcn (s ^^^ 2 ^ j) k + (if j < k then 1 else 0)
  | 0 => by simp [pcn]
  | k + 1 => by
    have ih := @pcn_x s j h k
    simp only [pcn, tb_x]
    by_cases e : j = k
    · subst e; simp [h]; rw [ih]; simp
    · have : decide (j = k) = false := by simpa using e
      rw [this, ih]
      have h2 : (j < k + 1) ↔ (j < k) := by omega
      simp only [h2]
      cases s.testBit k <;> simp <;> omega
/-- the cheapest costs -/
def sst (s : Nat) (ok : Nat → Bool) (c : Nat → Int) (r : Nat → Int) : Nat → Int → Int
  | 0, acc => acc
  | j + 1, acc => if s.testBit j && ok j then min (sst s ok c r j acc) (r (s ^^^ 2 ^ j) + c j) else sst s ok c r j acc
def SN (ok : Nat → Nat → Bool) (c : Nat → Nat → Int) (dr : Int) (m : Nat) : Nat → Nat → Int
  | 0, s => if s = 0 then 0 else 1000000
  | i + 1, s => sst s (ok i) (c i) (SN ok c dr m i) m (SN ok c dr m i s + dr)
theorem le_sst {s ok c r} {x : Int} : ∀ {m acc}, x ≤ sst s ok c r m acc ↔ x ≤ acc ∧ ∀ j, j < m → s.testBit j = true → ok j = true → x ≤ r (s ^^^ 2 ^ j) + c j
  | 0, acc => by simp [sst]
  | m + 1, acc => by
    have ih := @le_sst s ok c r x m acc
    unfold sst
    split
    · rename_i hb
      rw [Int.le_min, ih]
      simp only [Bool.and_eq_true] at hb
      constructor
      · rintro ⟨⟨h1, h2⟩, h3⟩
        refine ⟨h1, fun j hj ht ho => ?_⟩
        by_cases e : j = m
        · subst e; exact h3
        · exact h2 j (by omega) ht ho
      · rintro ⟨h1, h2⟩
        exact ⟨⟨h1, fun j hj ht ho => h2 j (by omega) ht ho⟩, h2 m (by omega) hb.1 hb.2⟩
    · rename_i hb
      simp only [Bool.and_eq_true] at hb
      rw [ih]
      constructor
      · rintro ⟨h1, h2⟩
        refine ⟨h1, fun j hj ht ho => ?_⟩
        by_cases e : j = m
        · subst e; exact absurd ⟨ht, ho⟩ hb
        · exact h2 j (by omega) ht ho
      · rintro ⟨h1, h2⟩
        exact ⟨h1, fun j hj ht ho => h2 j (by omega) ht ho⟩
/-- what a pair gains -/
def gpr (dr : Int) (ok : Nat → Nat → Bool) (c : Nat → Nat → Int) (i j : Nat) : Int := if ok i j then max 0 (2 * dr - c i j) else 0
theorem SN_lo {ok c dr m} (h0 : 0 ≤ dr) (h1 : dr ≤ 99) (hm : m ≤ 6) : ∀ {i T s}, (∀ j, s.testBit j = true → T.testBit j = true) → dr * i - GN (gpr dr ok c) m i T ≤ SN ok c dr m i s - dr * pcn s m
  | 0, T, s, h => by
    have := pcn_le s m
    have h2 : dr * (pcn s m : Int) ≤ 99 * 6 := Int.mul_le_mul h1 (by omega) (by omega) (by omega)
    unfold SN GN
    split
    · rename_i e
      subst e
      have : ∀ k, pcn 0 k = 0 := by
        intro k
        induction k with
        | zero => rfl
        | succ k ih => simp [pcn, ih]
      rw [this]; simp
    · simp; omega
  | i + 1, T, s, h => by
    have e1 : dr * ((i + 1 : Nat) : Int) = dr * i + dr := by rw [Int.natCast_add, Int.mul_add]; simp
    have key : dr * ((i + 1 : Nat) : Int) - GN (gpr dr ok c) m (i + 1) T + dr * pcn s m ≤ SN ok c dr m (i + 1) s := by
      show _ ≤ sst s (ok i) (c i) (SN ok c dr m i) m (SN ok c dr m i s + dr)
      rw [le_sst]
      constructor
      · have := @SN_lo ok c dr m h0 h1 hm i T s h
        have h2 : GN (gpr dr ok c) m i T ≤ GN (gpr dr ok c) m (i + 1) T := gst_acc
        omega
      · intro j hj ht ho
        have h3 : ∀ k, (s ^^^ 2 ^ j).testBit k = true → (T ^^^ 2 ^ j).testBit k = true := by
          intro k hk
          rw [tb_x] at hk ⊢
          by_cases e : j = k
          · subst e; simp [ht] at hk
          · simp [e] at hk ⊢; exact h k hk
        have h4 := @SN_lo ok c dr m h0 h1 hm i (T ^^^ 2 ^ j) (s ^^^ 2 ^ j) h3
        have h5 := @gst_one T (gpr dr ok c i) (GN (gpr dr ok c) m i) m (GN (gpr dr ok c) m i T) j hj (h j ht)
        have h6 : 2 * dr - c i j ≤ gpr dr ok c i j := by unfold gpr; rw [if_pos ho]; omega
        have h7 := @pcn_x s j ht m
        rw [if_pos hj] at h7
        have h8 : dr * (pcn s m : Int) = dr * (pcn (s ^^^ 2 ^ j) m : Int) + dr := by rw [h7, Int.natCast_add, Int.mul_add]; simp
        have h9 : GN (gpr dr ok c) m (i + 1) T = gst T (gpr dr ok c i) (GN (gpr dr ok c) m i) m (GN (gpr dr ok c) m i T) := rfl
        omega
    omega
theorem SN_at {ok c dr m} (h0 : 0 ≤ dr) (h1 : dr ≤ 99) (hm : m ≤ 6) : ∀ {i T}, ∃ s, (∀ j, s.testBit j = true → T.testBit j = true) ∧ (∀ j, s.testBit j = true → j < m) ∧ SN ok c dr m i s - dr * pcn s m ≤ dr * i - GN (gpr dr ok c) m i T
  | 0, T => ⟨0, by simp, by simp, by
    have : ∀ k, pcn 0 k = 0 := by
      intro k
      induction k with
      | zero => rfl
      | succ k ih => simp [pcn, ih]
    rw [this]; simp [SN, GN]⟩
  | i + 1, T => by
    have e1 : dr * ((i + 1 : Nat) : Int) = dr * i + dr := by rw [Int.natCast_add, Int.mul_add]; simp
    have h9 : GN (gpr dr ok c) m (i + 1) T = gst T (gpr dr ok c i) (GN (gpr dr ok c) m i) m (GN (gpr dr ok c) m i T) := rfl
    have base : GN (gpr dr ok c) m (i + 1) T ≤ GN (gpr dr ok c) m i T → ∃ s, (∀ j, s.testBit j = true → T.testBit j = true) ∧ (∀ j, s.testBit j = true → j < m) ∧ SN ok c dr m (i + 1) s - dr * pcn s m ≤ dr * ((i + 1 : Nat) : Int) - GN (gpr dr ok c) m (i + 1) T := by
      intro hle
      obtain ⟨s, h2, h3, h4⟩ := @SN_at ok c dr m h0 h1 hm i T
      refine ⟨s, h2, h3, ?_⟩
      have h5 : SN ok c dr m (i + 1) s ≤ SN ok c dr m i s + dr := (le_sst.mp (Int.le_refl _)).1
      omega
    rcases @gst_cases T (gpr dr ok c i) (GN (gpr dr ok c) m i) m (GN (gpr dr ok c) m i T) with e | ⟨j, hj, ht, e⟩
    · exact base (by rw [h9, e]; exact Int.le_refl _)
    · by_cases hg : gpr dr ok c i j ≤ 0
      · have := @GN_mono (gpr dr ok c) m i T j ht
        exact base (by rw [h9, e]; omega)
      · have h2 : ok i j = true ∧ gpr dr ok c i j = 2 * dr - c i j := by
          unfold gpr at hg ⊢
          by_cases ho : ok i j = true
          · rw [if_pos ho] at hg ⊢; exact ⟨ho, by omega⟩
          · rw [if_neg ho] at hg; omega
        obtain ⟨s, h3, h4, h5⟩ := @SN_at ok c dr m h0 h1 hm i (T ^^^ 2 ^ j)
        have h6 : s.testBit j = false := by
          cases hb : s.testBit j with
          | false => rfl
          | true => have := h3 j hb; rw [tb_x, ht] at this; simp at this
        have h7 : (s ^^^ 2 ^ j).testBit j = true := by rw [tb_x, h6]; simp
        refine ⟨s ^^^ 2 ^ j, fun k hk => ?_, fun k hk => ?_, ?_⟩
        · rw [tb_x] at hk
          by_cases e2 : j = k
          · subst e2; exact ht
          · simp [e2] at hk
            have := h3 k hk
            rw [tb_x] at this
            simpa [e2] using this
        · rw [tb_x] at hk
          by_cases e2 : j = k
          · subst e2; exact hj
          · simp [e2] at hk; exact h4 k hk
        · have h8 : SN ok c dr m (i + 1) (s ^^^ 2 ^ j) ≤ SN ok c dr m i (s ^^^ 2 ^ j ^^^ 2 ^ j) + c i j := (le_sst.mp (Int.le_refl (sst _ _ _ _ _ _))).2 j hj h7 h2.1
          rw [x_x] at h8
          have h10 := @pcn_x _ j h7 m
          rw [if_pos hj, x_x] at h10
          have h11 : dr * (pcn (s ^^^ 2 ^ j) m : Int) = dr * (pcn s m : Int) + dr := by rw [h10, Int.natCast_add, Int.mul_add]; simp
          rw [h9, e]
          omega
