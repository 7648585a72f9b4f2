/-! Orders: all of them, and the next one. -/
def prm (n : Nat) : Nat → Nat → List (List Nat)
  | 0, _ => [[]]
  | k + 1, u => (List.range n).flatMap (fun p => if u.testBit p then [] else (prm n k (u ||| 2 ^ p)).map (fun l => p :: l))
def PL (n : Nat) : List (List Nat) := prm n n 0
def fk (s : Nat → Nat) : Nat → Option Nat
  | 0 => none
  | k + 1 => if s k ≤ s (k + 1) then some k else fk s k
def fq (s : Nat → Nat) (k : Nat) : Nat → Nat
  | 0 => 0
  | q + 1 => if s k ≤ s q then q else fq s k q
def swp (s : Nat → Nat) (k q : Nat) : Nat → Nat := fun j => if j = q then s k else if j = k then s q else s j
def nxo (s : Nat → Nat) (n k q : Nat) : Nat → Nat := fun j => if k < j ∧ j < n then swp s k q (n + k - j) else swp s k q j
def nxl (n : Nat) (s : Nat → Nat) : Option (List Nat) := match fk s (n - 1) with
  | none => none
  | some k => some ((List.range n).map (nxo s n k (fq s k n)))
def lsf (l : List Nat) (j : Nat) : Nat := l.getD j 0
def chO (n : Nat) : List (List Nat) → Bool
  | [] => false
  | [a] => decide (nxl n (lsf a) = none)
  | a :: b :: r => decide (nxl n (lsf a) = some b) && chO n (b :: r)
theorem PL_chk : ∀ n, n < 7 → 0 < n → chO n (PL n) = true := by decide +kernel
theorem PL_ok : ∀ n, n < 7 → (PL n).all (fun l => decide (l.length = n) && l.all (fun x => decide (x < n))) = true := by decide +kernel
theorem PL_hd : ∀ n, n < 7 → 0 < n → (PL n).head? = some (List.range n) := by decide +kernel
theorem chk_at {n : Nat} : ∀ {l : List (List Nat)} {i : Nat}, chO n l = true → i < l.length → nxl n (lsf (l.getD i [])) = if i + 1 < l.length then some (l.getD (i + 1) []) else none
  | [], i, h, _ => by simp [chO] at h
  | [a], i, h, hi => by
    have : i = 0 := by simp at hi; omega
    subst this
    simp only [chO, decide_eq_true_eq] at h
    simpa using h
  | a :: b :: r, 0, h, _ => by
    simp only [chO, Bool.and_eq_true, decide_eq_true_eq] at h
    simpa using h.1
  | a :: b :: r, i + 1, h, hi => by
    simp only [chO, Bool.and_eq_true] at h
    have := chk_at (l := b :: r) (i := i) h.2 (by simpa using hi)
    simpa using this
theorem PL_at {n : Nat} (hn : n < 7) {i : Nat} (hi : i < (PL n).length) : ((PL n).getD i []).length = n ∧ ∀ x, x ∈ (PL n).getD i [] → x < n := by
  have h := List.all_eq_true.mp (PL_ok n hn) ((PL n).getD i []) (by
    rw [show (PL n).getD i [] = (PL n)[i] by simp [List.getD, List.getElem?_eq_getElem hi]]
    exact List.getElem_mem hi)
  rw [Bool.and_eq_true, decide_eq_true_eq, List.all_eq_true] at h
  exact ⟨h.1, fun x hx => of_decide_eq_true (h.2 x hx)⟩
theorem lsf_mem {l : List Nat} {j : Nat} (h : j < l.length) : lsf l j ∈ l := by
  have : l.getD j 0 = l[j] := by simp [List.getD, List.getElem?_eq_getElem h]
  unfold lsf
  rw [this]
  exact List.getElem_mem h
theorem lsf_map {n : Nat} {f : Nat → Nat} {j : Nat} (h : j < n) : lsf ((List.range n).map f) j = f j := by
  unfold lsf
  simp [List.getD, h]
theorem fk_some {s : Nat → Nat} : ∀ {n k : Nat}, fk s n = some k → k < n ∧ s k ≤ s (k + 1)
  | 0, k, h => by simp [fk] at h
  | n + 1, k, h => by
    unfold fk at h
    split at h
    · rename_i c
      have : n = k := by simpa using h
      subst this; exact ⟨by omega, c⟩
    · have := fk_some h; exact ⟨by omega, this.2⟩
theorem fq_rg {s : Nat → Nat} {k : Nat} (h : s k ≤ s (k + 1)) : ∀ {n : Nat}, k + 1 < n → k < fq s k n ∧ fq s k n < n
  | 0, hn => by omega
  | n + 1, hn => by
    unfold fq
    split
    · omega
    · rename_i c
      have : n ≠ k + 1 := fun e => c (e ▸ h)
      have := fq_rg (s := s) (k := k) h (n := n) (by omega)
      omega
section NX
variable {L d : Nat} {xs : Nat → Int32} {V : Nat → Nat → Int} {J : Nat → Nat → Int64} {tg : Option Nat}
/-- nextOrder: where the last rise is -/
theorem m_277k {n : Nat} {s : Nat → Nat} (hn : n ≤ 8) (hs : ∀ j, j < n → V 109 j = s j ∧ s j < 8) : ∀ m, m + 1 ≤ n → ∀ r, (match fk s m with
    | none => r = (some (Value.int (Int32.ofInt (0))), zS (eV V) J tg)
    | some k => Runs (GW L xs) d 277 (41, [.ref 93, (Value.int (Int32.ofInt (n))), (Value.int (Int32.ofInt (k))), (Value.int (Int32.ofInt ((n : Int) - 1))), vU, vU, vU], [], zS (eV V) J tg) r) → Runs (GW L xs) d 277 (4, [.ref 93, (Value.int (Int32.ofInt (n))), (Value.int (Int32.ofInt ((m : Int) - 1))), vU, vU, vU, vU], [], zS (eV V) J tg) r
  | 0, hm, r, h => by
    have h : r = (some (Value.int (Int32.ofInt (0))), zS (eV V) J tg) := h
    apply sg_277_4
    rw [if_pos (by decide), if_neg (by decide)]
    exact h
  | m + 1, hm, r, h => by
    obtain ⟨a1, a2⟩ := hs m (by omega)
    obtain ⟨b1, b2⟩ := hs (m + 1) (by omega)
    have ih := m_277k hn hs m (by omega) r
    have e : ((m + 1 : Nat) : Int) - 1 = (m : Int) := by omega
    have e1 : (m : Int) + 1 = ((m + 1 : Nat) : Int) := by omega
    have hf : fk s (m + 1) = if s m ≤ s (m + 1) then some m else fk s m := rfl
    rw [hf] at h
    rw [e]
    apply sg_277_4
    simp (disch := omega) only [e1, a1, b1, eV_at, eV_up, o_lit2, o_add, o_sub, o_mul, o_neg, o_div, o_nat, ix_t, o_lt, o_le, o_eq, o_bi0, o_bi1, o_bib, em_t, o_neg1, o_shl, o_tb, o_tb0, o_tt, o_and, o_xor, o_or, o_max, o_min, an_tb, and_true, true_and, not_true, not_false, if_true, if_false, tn_add, tn_mul, Int.reduceToNat, tn_cast, md_x]
    rw [if_neg (by omega)]
    by_cases c : s m ≤ s (m + 1)
    · rw [if_pos c] at h
      rw [if_pos (by omega), if_pos (by omega)]
      exact h
    · rw [if_neg c] at h
      rw [if_neg (by omega), show (m : Int) + -1 = (m : Int) - 1 by omega]
      exact ih h
/-- nextOrder: with whom it is changed -/
theorem m_277q {n k : Nat} {s : Nat → Nat} (hn : n ≤ 8) (hs : ∀ j, j < n → V 109 j = s j ∧ s j < 8) (hk : k + 1 < n) (hr : s k ≤ s (k + 1)) : ∀ m, k + 1 < m → m ≤ n → ∀ r, Runs (GW L xs) d 277 (100, [.ref 93, (Value.int (Int32.ofInt (n))), (Value.int (Int32.ofInt (k))), (Value.int (Int32.ofInt (fq s k m))), (Value.int (Int32.ofInt (s k))), (Value.int (Int32.ofInt ((k + 1 : Nat)))), (Value.int (Int32.ofInt ((n : Int) - 1)))], [], zS (eV (up2 (up2 V 109 k (s (fq s k m))) 109 (fq s k m) (s k))) J tg) r → Runs (GW L xs) d 277 (41, [.ref 93, (Value.int (Int32.ofInt (n))), (Value.int (Int32.ofInt (k))), (Value.int (Int32.ofInt ((m : Int) - 1))), vU, vU, vU], [], zS (eV V) J tg) r
  | 0, hm, _, r, h => by omega
  | m + 1, hm, hmn, r, h => by
    obtain ⟨a1, a2⟩ := hs k (by omega)
    obtain ⟨b1, b2⟩ := hs m (by omega)
    have e : ((m + 1 : Nat) : Int) - 1 = (m : Int) := by omega
    have hf : fq s k (m + 1) = if s k ≤ s m then m else fq s k m := rfl
    rw [hf] at h
    rw [e]
    apply sg_277_41
    simp (disch := omega) only [a1, b1, eV_at, eV_up, o_lit2, o_add, o_sub, o_mul, o_neg, o_div, o_nat, ix_t, o_lt, o_le, o_eq, o_bi0, o_bi1, o_bib, em_t, o_neg1, o_shl, o_tb, o_tb0, o_tt, o_and, o_xor, o_or, o_max, o_min, an_tb, and_true, true_and, not_true, not_false, if_true, if_false, tn_add, tn_mul, Int.reduceToNat, tn_cast, md_x]
    by_cases c : s k ≤ s m
    · rw [if_pos c] at h
      rw [if_pos (by omega)]
      exact h
    · rw [if_neg c] at h
      rw [if_neg (by omega), show (m : Int) + -1 = (m : Int) - 1 by omega]
      have : m ≠ k + 1 := fun e => c (e ▸ hr)
      exact m_277q hn hs hk hr m (by omega) (by omega) r h
theorem m_277 {n : Nat} {s : Nat → Nat} (hn : 1 ≤ n ∧ n ≤ 8) (hs : ∀ j, j < n → V 109 j = s j ∧ s j < 8) : ∃ W, (∀ c, c ≠ 109 → W c = V c) ∧ ((nxl n s = none ∧ Runs (GW L xs) (d) 277 (0, [.ref 93, (Value.int (Int32.ofInt (n))), vU, vU, vU, vU, vU], [], zS (eV (V)) J tg) (some (Value.int (Int32.ofInt (0))), zS (eV (W)) J tg)) ∨ (∃ l, nxl n s = some l ∧ (∀ j, j < n → W 109 j = lsf l j) ∧ Runs (GW L xs) (d) 277 (0, [.ref 93, (Value.int (Int32.ofInt (n))), vU, vU, vU, vU, vU], [], zS (eV (V)) J tg) (some (Value.int (Int32.ofInt (1))), zS (eV (W)) J tg))) := by
  have hk := m_277k (L := L) (xs := xs) (d := d) (J := J) (tg := tg) (V := V) (n := n) hn.2 hs (n - 1) (by omega)
  have e2 : ((n - 1 : Nat) : Int) - 1 = (n : Int) - 2 := by omega
  rw [e2] at hk
  have go : ∀ r, Runs (GW L xs) d 277 (4, [.ref 93, (Value.int (Int32.ofInt (n))), (Value.int (Int32.ofInt ((n : Int) - 2))), vU, vU, vU, vU], [], zS (eV V) J tg) r → Runs (GW L xs) d 277 (0, [.ref 93, (Value.int (Int32.ofInt (n))), vU, vU, vU, vU, vU], [], zS (eV V) J tg) r := fun r h => by
    apply sg_277
    simp (disch := omega) only [eV_at, eV_up, o_lit2, o_add, o_sub, o_mul, o_neg, o_div, o_nat, ix_t, o_lt, o_le, o_eq, o_bi0, o_bi1, o_bib, em_t, o_neg1, o_shl, o_tb, o_tb0, o_tt, o_and, o_xor, o_or, o_max, o_min, an_tb, and_true, true_and, not_true, not_false, if_true, if_false, tn_add, tn_mul, Int.reduceToNat, tn_cast, md_x]
    exact h
  cases hf : fk s (n - 1) with
  | none =>
    rw [hf] at hk
    refine ⟨V, fun _ _ => rfl, Or.inl ⟨by unfold nxl; rw [hf], go _ (hk _ rfl)⟩⟩
  | some k =>
    rw [hf] at hk
    obtain ⟨k1, k2⟩ := fk_some hf
    obtain ⟨q1, q2⟩ := fq_rg k2 (n := n) (by omega)
    have hq := m_277q (L := L) (xs := xs) (d := d) (J := J) (tg := tg) (V := V) (n := n) (k := k) hn.2 hs (by omega) k2 n (by omega) (by omega)
    have hnx : nxl n s = some ((List.range n).map (nxo s n k (fq s k n))) := by unfold nxl; rw [hf]
    generalize fq s k n = qq at q1 q2 hq hnx
    have hsw : ∀ j, j < n → (up2 (up2 V 109 k (s qq)) 109 qq (s k)) 109 j = swp s k qq j := fun j hj => by
      rw [w_at, w_at]
      unfold swp
      by_cases c1 : j = qq
      · rw [if_pos c1, if_pos c1]
      · rw [if_neg c1, if_neg c1]
        by_cases c2 : j = k
        · rw [if_pos c2, if_pos c2]
        · rw [if_neg c2, if_neg c2]; exact (hs j hj).1
    have hsr : ∀ j, j < n → swp s k qq j < 8 := fun j hj => by
      unfold swp
      split
      · exact (hs k (by omega)).2
      · split
        · exact (hs qq q2).2
        · exact (hs j hj).2
    obtain ⟨⟨W, x4⟩, ⟨i1, i2⟩, hr⟩ := loopN (g := GW L xs) (d := d) (mid := 277) (σ := (Nat → Nat → Int) × Int) (fun r σ => (100, [.ref 93, (Value.int (Int32.ofInt (n))), (Value.int (Int32.ofInt (k))), (Value.int (Int32.ofInt (qq))), (Value.int (Int32.ofInt (σ.2))), (Value.int (Int32.ofInt ((k + 1 + r : Nat)))), (Value.int (Int32.ofInt ((n : Int) - 1 - (r : Nat))))], [], zS (eV σ.1) J tg)) (fun r σ => (∀ c, c ≠ 109 → σ.1 c = V c) ∧ ∀ j, j < n → σ.1 109 j = if (k < j ∧ j < k + 1 + r) ∨ (n - 1 - r < j) then swp s k qq (n + k - j) else swp s k qq j) ((n - 1 - k) / 2) (by
      intro r ⟨W, x4⟩ hr ⟨i1, i2⟩
      dsimp only at i1 i2 ⊢
      have lo := i2 (k + 1 + r) (by omega)
      have hi := i2 (n - 1 - r) (by omega)
      rw [if_neg (by omega)] at lo hi
      have l1 := hsr (k + 1 + r) (by omega)
      have l2 := hsr (n - 1 - r) (by omega)
      have eh : (n : Int) - 1 - (r : Nat) = ((n - 1 - r : Nat) : Int) := by omega
      refine ⟨(up2 (up2 W 109 (k + 1 + r) (swp s k qq (n - 1 - r))) 109 (n - 1 - r) (swp s k qq (k + 1 + r)), (swp s k qq (k + 1 + r) : Nat)), ⟨fun c hc => by dsimp only; rw [w_ne _ _ _ _ hc, w_ne _ _ _ _ hc]; exact i1 c hc, fun j hj => ?_⟩, fun rr h => ?_⟩
      · dsimp only
        rw [w_at, w_at]
        by_cases c1 : j = n - 1 - r
        · rw [if_pos c1, if_pos (by omega)]
          congr 2; omega
        · rw [if_neg c1]
          by_cases c2 : j = k + 1 + r
          · rw [if_pos c2, if_pos (by omega)]
            congr 2; omega
          · rw [if_neg c2, i2 j hj]
            by_cases c3 : (k < j ∧ j < k + 1 + r) ∨ (n - 1 - r < j)
            · rw [if_pos c3, if_pos (by omega)]
            · rw [if_neg c3, if_neg (by omega)]
      · apply sg_277_100
        rw [eh]
        simp (disch := omega) only [lo, hi, eV_at, eV_up, o_lit2, o_add, o_sub, o_mul, o_neg, o_div, o_nat, ix_t, o_lt, o_le, o_eq, o_bi0, o_bi1, o_bib, em_t, o_neg1, o_shl, o_tb, o_tb0, o_tt, o_and, o_xor, o_or, o_max, o_min, an_tb, and_true, true_and, not_true, not_false, if_true, if_false, tn_add, tn_mul, Int.reduceToNat, tn_cast, md_x]
        rw [if_neg (by omega), show ((n - 1 - r : Nat) : Int) + -1 = (n : Int) - 1 - ((r + 1 : Nat) : Int) by omega]
        exact h) ((n - 1 - k) / 2) 0 (up2 (up2 V 109 k (s qq)) 109 qq (s k), (s k : Int)) (by omega) ⟨fun c hc => by dsimp only; rw [w_ne _ _ _ _ hc, w_ne _ _ _ _ hc], fun j hj => by dsimp only; rw [hsw j hj, if_neg (by omega)]⟩
    dsimp only at i1 i2 hr
    refine ⟨W, i1, Or.inr ⟨_, hnx, fun j hj => ?_, go _ (hk _ (hq _ ?_))⟩⟩
    · rw [lsf_map hj, i2 j hj]
      unfold nxo
      by_cases c : (k < j ∧ j < k + 1 + (n - 1 - k) / 2) ∨ (n - 1 - (n - 1 - k) / 2 < j)
      · rw [if_pos c, if_pos (by omega)]
      · rw [if_neg c]
        by_cases c2 : k < j ∧ j < n
        · rw [if_pos c2]
          congr 2; omega
        · rw [if_neg c2]
    · have h0 : (n : Int) - 1 - ((0 : Nat) : Int) = (n : Int) - 1 := by omega
      rw [h0] at hr
      refine hr _ ?_
      apply sg_277_100
      simp (disch := omega) only [eV_at, eV_up, o_lit2, o_add, o_sub, o_mul, o_neg, o_div, o_nat, ix_t, o_lt, o_le, o_eq, o_bi0, o_bi1, o_bib, em_t, o_neg1, o_shl, o_tb, o_tb0, o_tt, o_and, o_xor, o_or, o_max, o_min, an_tb, and_true, true_and, not_true, not_false, if_true, if_false, tn_add, tn_mul, Int.reduceToNat, tn_cast, md_x]
      rw [if_pos (by omega)] <;> first | rfl | trivial
end NX
