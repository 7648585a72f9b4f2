/-! FAR is never below 0. -/
theorem FARp_nn {V : Nat → Nat → Int} (hR : RNG V) {n : Nat} (hn : n ≤ 6) (p : Nat → Int) (cp : Int) (l : Nat) : 0 ≤ FARp V n p cp l := by
  have h3 : 0 ≤ V 3 l ∧ V 3 l ≤ 6 := hR 3 l (by decide) (by decide)
  have w2 : 0 ≤ V 1 2 ∧ V 1 2 ≤ 99 := hR 1 2 (by decide) (by decide)
  have w3 : 0 ≤ V 1 3 ∧ V 1 3 ≤ 99 := hR 1 3 (by decide) (by decide)
  have w4 : 0 ≤ V 1 4 ∧ V 1 4 ≤ 99 := hR 1 4 (by decide) (by decide)
  have w5 : 0 ≤ V 1 5 ∧ V 1 5 ≤ 99 := hR 1 5 (by decide) (by decide)
  obtain ⟨m, hm⟩ : ∃ m : Nat, V 3 l = m := ⟨(V 3 l).toNat, by omega⟩
  have hs := SN_min (ok := okF p (lkc V l)) (c := csF (V 1 2) (V 1 3) p (lkc V l)) (dr := V 1 4) (m := m) (n := n) w4 (by omega) hn
  have hb : 0 ≤ bst (fun s => SN (okF p (lkc V l)) (csF (V 1 2) (V 1 3) p (lkc V l)) (V 1 4) m n s + V 1 4 * (m - pcn s 12)) (2 ^ m) := by
    rw [le_bst]
    refine ⟨by omega, fun s hs => ?_⟩
    have h1 := SN_rg (ok := okF p (lkc V l)) (c := csF (V 1 2) (V 1 3) p (lkc V l)) (m := m) w4 (fun i j => (cst_rg w2 w3).1) n s
    have epc : pcn s 12 = pcn s m := by rw [show 12 = m + (12 - m) by omega, pcn_ext hs]
    have h2 := pcn_le s m
    have h3 := mul_rg w4 (b := (m : Int) - pcn s 12) (n := 6) (by omega)
    omega
  rw [hs] at hb
  have e : GN (gF V p (lkc V l)) m n (2 ^ m - 1) = GN (gpr (V 1 4) (okF p (lkc V l)) (csF (V 1 2) (V 1 3) p (lkc V l))) m n (2 ^ m - 1) := rfl
  unfold FARp
  rw [hm, tn_cast, e]
  split <;> omega
theorem FAR_nn {V : Nat → Nat → Int} (hR : RNG V) (a b : Nat) : 0 ≤ FAR V a b := by
  have h3 : 0 ≤ V 3 a ∧ V 3 a ≤ 6 := hR 3 a (by decide) (by decide)
  exact FARp_nn hR (by omega) _ _ _
