/-! answer. -/
theorem INV.answ {V : Nat → Nat → Int} (h : INV V) {k a b c : Nat} {t v : Int} (hk : V 7 5 = k) (hk60 : k < 60) (ha : a ≤ 5) (hb : b ≤ 5) (hc : (c : Int) < V 1 0) (hv : -1 ≤ v ∧ v < V 1 1) (ht : t = mz v) : INV (up2 (up2 (up2 (up2 (up2 (up2 (up2 (up2 (up2 (up2 (up2 (up2 V 13 k a) 14 k b) 15 k c) 16 k v) 17 k (V 7 4)) 7 5 (k + 1)) 94 (890 + 5 * k) a) 94 (890 + 5 * k + 1) b) 94 (890 + 5 * k + 2) c) 94 (890 + 5 * k + 3) t) 94 (890 + 5 * k + 4) (V 7 4)) 94 7 (k + 1)) := by
  have h0 := h
  obtain ⟨hR, ⟨hA, hB, hC, hD, hE, hF, hH⟩, h2, h3, h4, h5⟩ := h
  have rD : 0 ≤ V 1 0 ∧ V 1 0 ≤ 12 := hR 1 0 (by decide) (by decide)
  have rT : 0 ≤ V 1 1 ∧ V 1 1 ≤ 12 := hR 1 1 (by decide) (by decide)
  have r4 : 0 ≤ V 7 4 ∧ V 7 4 ≤ 999 := hR 7 4 (by decide) (by decide)
  have hR6 : RNG (up2 (up2 (up2 (up2 (up2 (up2 V 13 k a) 14 k b) 15 k c) 16 k v) 17 k (V 7 4)) 7 5 (k + 1)) := (((((hR.up (c := 13) (p := k) (z := a) (by show (0 : Int) ≤ _ ∧ _ ≤ (5 : Int); omega)).up (c := 14) (p := k) (z := b) (by show (0 : Int) ≤ _ ∧ _ ≤ (5 : Int); omega)).up (c := 15) (p := k) (z := c) (by show (0 : Int) ≤ _ ∧ _ ≤ (11 : Int); omega)).up (c := 16) (p := k) (z := v) (by show (-1 : Int) ≤ _ ∧ _ ≤ (11 : Int); omega)).up (c := 17) (p := k) (z := V 7 4) r4).up (c := 7) (p := 5) (z := (k : Int) + 1) (by show (0 : Int) ≤ _ ∧ _ ≤ (60 : Int); omega)
  have q0 : ∀ x, x ≠ 7 ∧ ¬ (13 ≤ x ∧ x ≤ 17) → up2 (up2 (up2 (up2 (up2 (up2 V 13 k a) 14 k b) 15 k c) 16 k v) 17 k (V 7 4)) 7 5 (k + 1) x = V x := fun x q => by rw [w_ne _ _ _ _ q.1, w_ne _ _ _ _ (by omega), w_ne _ _ _ _ (by omega), w_ne _ _ _ _ (by omega), w_ne _ _ _ _ (by omega), w_ne _ _ _ _ (by omega)]
  have q7 : ∀ x, up2 (up2 (up2 (up2 (up2 (up2 V 13 k a) 14 k b) 15 k c) 16 k v) 17 k (V 7 4)) 7 5 (k + 1) 7 x = if x = 5 then (k : Int) + 1 else V 7 x := fun x => by rw [w_at, w_ne _ _ _ _ (by decide), w_ne _ _ _ _ (by decide), w_ne _ _ _ _ (by decide), w_ne _ _ _ _ (by decide), w_ne _ _ _ _ (by decide)]
  have q13 : ∀ x, up2 (up2 (up2 (up2 (up2 (up2 V 13 k a) 14 k b) 15 k c) 16 k v) 17 k (V 7 4)) 7 5 (k + 1) 13 x = if x = k then (a : Int) else V 13 x := fun x => by rw [w_ne _ _ _ _ (by decide), w_ne _ _ _ _ (by decide), w_ne _ _ _ _ (by decide), w_ne _ _ _ _ (by decide), w_ne _ _ _ _ (by decide), w_at]
  have q14 : ∀ x, up2 (up2 (up2 (up2 (up2 (up2 V 13 k a) 14 k b) 15 k c) 16 k v) 17 k (V 7 4)) 7 5 (k + 1) 14 x = if x = k then (b : Int) else V 14 x := fun x => by rw [w_ne _ _ _ _ (by decide), w_ne _ _ _ _ (by decide), w_ne _ _ _ _ (by decide), w_ne _ _ _ _ (by decide), w_at, w_ne _ _ _ _ (by decide)]
  have q15 : ∀ x, up2 (up2 (up2 (up2 (up2 (up2 V 13 k a) 14 k b) 15 k c) 16 k v) 17 k (V 7 4)) 7 5 (k + 1) 15 x = if x = k then (c : Int) else V 15 x := fun x => by rw [w_ne _ _ _ _ (by decide), w_ne _ _ _ _ (by decide), w_ne _ _ _ _ (by decide), w_at, w_ne _ _ _ _ (by decide), w_ne _ _ _ _ (by decide)]
  have q16 : ∀ x, up2 (up2 (up2 (up2 (up2 (up2 V 13 k a) 14 k b) 15 k c) 16 k v) 17 k (V 7 4)) 7 5 (k + 1) 16 x = if x = k then v else V 16 x := fun x => by rw [w_ne _ _ _ _ (by decide), w_ne _ _ _ _ (by decide), w_at, w_ne _ _ _ _ (by decide), w_ne _ _ _ _ (by decide), w_ne _ _ _ _ (by decide)]
  have q17 : ∀ x, up2 (up2 (up2 (up2 (up2 (up2 V 13 k a) 14 k b) 15 k c) 16 k v) 17 k (V 7 4)) 7 5 (k + 1) 17 x = if x = k then V 7 4 else V 17 x := fun x => by rw [w_ne _ _ _ _ (by decide), w_at, w_ne _ _ _ _ (by decide), w_ne _ _ _ _ (by decide), w_ne _ _ _ _ (by decide), w_ne _ _ _ _ (by decide)]
  generalize up2 (up2 (up2 (up2 (up2 (up2 V 13 k a) 14 k b) 15 k c) 16 k v) 17 k (V 7 4)) 7 5 (k + 1) = U at *
  have hRW : RNG (up2 (up2 (up2 (up2 (up2 (up2 U 94 (890 + 5 * k) a) 94 (890 + 5 * k + 1) b) 94 (890 + 5 * k + 2) c) 94 (890 + 5 * k + 3) t) 94 (890 + 5 * k + 4) (V 7 4)) 94 7 (k + 1)) := (((((hR6.upn (by decide)).upn (by decide)).upn (by decide)).upn (by decide)).upn (by decide)).upn (by decide)
  have fU : ∀ x, x ≠ 94 → up2 (up2 (up2 (up2 (up2 (up2 U 94 (890 + 5 * k) a) 94 (890 + 5 * k + 1) b) 94 (890 + 5 * k + 2) c) 94 (890 + 5 * k + 3) t) 94 (890 + 5 * k + 4) (V 7 4)) 94 7 (k + 1) x = U x := fun x q => by rw [w_ne _ _ _ _ q, w_ne _ _ _ _ q, w_ne _ _ _ _ q, w_ne _ _ _ _ q, w_ne _ _ _ _ q, w_ne _ _ _ _ q]
  have f94 : ∀ p, p ≠ 7 ∧ ¬ (890 + 5 * k ≤ p ∧ p < 890 + 5 * k + 5) → up2 (up2 (up2 (up2 (up2 (up2 U 94 (890 + 5 * k) a) 94 (890 + 5 * k + 1) b) 94 (890 + 5 * k + 2) c) 94 (890 + 5 * k + 3) t) 94 (890 + 5 * k + 4) (V 7 4)) 94 7 (k + 1) 94 p = V 94 p := fun p q => by rw [w_at, if_neg q.1, w_at, if_neg (by omega), w_at, if_neg (by omega), w_at, if_neg (by omega), w_at, if_neg (by omega), w_at, if_neg (by omega), q0 94 (by omega)]
  have fk : up2 (up2 (up2 (up2 (up2 (up2 U 94 (890 + 5 * k) a) 94 (890 + 5 * k + 1) b) 94 (890 + 5 * k + 2) c) 94 (890 + 5 * k + 3) t) 94 (890 + 5 * k + 4) (V 7 4)) 94 7 (k + 1) 94 7 = k + 1 := w_eq _ _ _ _
  have g0 : up2 (up2 (up2 (up2 (up2 (up2 U 94 (890 + 5 * k) a) 94 (890 + 5 * k + 1) b) 94 (890 + 5 * k + 2) c) 94 (890 + 5 * k + 3) t) 94 (890 + 5 * k + 4) (V 7 4)) 94 7 (k + 1) 94 (890 + 5 * k) = a := by rw [w_at, if_neg (by omega), w_at, if_neg (by omega), w_at, if_neg (by omega), w_at, if_neg (by omega), w_at, if_neg (by omega), w_eq]
  have g1 : up2 (up2 (up2 (up2 (up2 (up2 U 94 (890 + 5 * k) a) 94 (890 + 5 * k + 1) b) 94 (890 + 5 * k + 2) c) 94 (890 + 5 * k + 3) t) 94 (890 + 5 * k + 4) (V 7 4)) 94 7 (k + 1) 94 (890 + 5 * k + 1) = b := by rw [w_at, if_neg (by omega), w_at, if_neg (by omega), w_at, if_neg (by omega), w_at, if_neg (by omega), w_eq]
  have g2 : up2 (up2 (up2 (up2 (up2 (up2 U 94 (890 + 5 * k) a) 94 (890 + 5 * k + 1) b) 94 (890 + 5 * k + 2) c) 94 (890 + 5 * k + 3) t) 94 (890 + 5 * k + 4) (V 7 4)) 94 7 (k + 1) 94 (890 + 5 * k + 2) = c := by rw [w_at, if_neg (by omega), w_at, if_neg (by omega), w_at, if_neg (by omega), w_eq]
  have g3 : up2 (up2 (up2 (up2 (up2 (up2 U 94 (890 + 5 * k) a) 94 (890 + 5 * k + 1) b) 94 (890 + 5 * k + 2) c) 94 (890 + 5 * k + 3) t) 94 (890 + 5 * k + 4) (V 7 4)) 94 7 (k + 1) 94 (890 + 5 * k + 3) = t := by rw [w_at, if_neg (by omega), w_at, if_neg (by omega), w_eq]
  have g4 : up2 (up2 (up2 (up2 (up2 (up2 U 94 (890 + 5 * k) a) 94 (890 + 5 * k + 1) b) 94 (890 + 5 * k + 2) c) 94 (890 + 5 * k + 3) t) 94 (890 + 5 * k + 4) (V 7 4)) 94 7 (k + 1) 94 (890 + 5 * k + 4) = V 7 4 := by rw [w_at, if_neg (by omega), w_eq]
  generalize up2 (up2 (up2 (up2 (up2 (up2 U 94 (890 + 5 * k) a) 94 (890 + 5 * k + 1) b) 94 (890 + 5 * k + 2) c) 94 (890 + 5 * k + 3) t) 94 (890 + 5 * k + 4) (V 7 4)) 94 7 (k + 1) = W at *
  have f : ∀ x, x ≠ 7 ∧ ¬ (13 ≤ x ∧ x ≤ 17) ∧ x ≠ 94 → W x = V x := fun x q => by rw [fU x q.2.2, q0 x ⟨q.1, q.2.1⟩]
  have f7 : ∀ x, W 7 x = if x = 5 then (k : Int) + 1 else V 7 x := fun x => by rw [fU 7 (by decide), q7]
  refine ⟨hRW, ⟨(hA.up (fun p _ => by rw [f 1 (by omega)]) (fun p q => f94 p (by omega))), (hB.up hR (by rw [f 1 (by omega)]) (by rw [f 1 (by omega)]) (f 2 (by omega)) (f 3 (by omega)) (f 4 (by omega)) (fun l w _ _ => f94 _ (by omega))), (hC.up hR (by rw [f 1 (by omega)]) (f 5 (by omega)) (f 6 (by omega)) (f 12 (by omega)) (fun l w _ _ => f94 _ (by omega)) (fun k _ => f94 _ (by omega))), (hD.up (by rw [f 1 (by omega)]) (by rw [f 1 (by omega)]) (f 3 (by omega)) (f 4 (by omega)) (f 5 (by omega)) (f 6 (by omega)) (f 12 (by omega))), ?_, ?_, (hH.up hR (by rw [f 1 (by omega)]) (fun x _ _ => f x (by omega)) (fun p _ => f94 _ (by omega)))⟩, (h2.fr fun x _ => f x (by omega)), (h3.up (f 1 (by omega)) (f 2 (by omega)) (f 3 (by omega)) (f 4 (by omega)) (f 71 (by omega)) (f 81 (by omega))), (h4.fr (fun x _ => f x (by omega)) (by rw [f 93 (by omega)]) (by rw [f 93 (by omega)]) (by rw [f 93 (by omega)])), (h5.fr hR fun x _ => f x (by omega))⟩
  · obtain ⟨e1, e2, e3, e4⟩ := hE
    refine ⟨?_, fun j hj => ?_, fun j hj => ?_, fun j hj => ?_⟩
    · rw [f94 12 (by omega), f94 13 (by omega), f94 14 (by omega), f94 15 (by omega), f94 0 (by omega), fk, f7, f7, f7, f7, f7, f7]
      exact ⟨e1.1, e1.2.1, e1.2.2.1, e1.2.2.2.1, e1.2.2.2.2.1, rfl⟩
    · rw [f94 _ (by omega), f94 _ (by omega), f (7 + 1) (by omega), f (7 + 2) (by omega), f 1 (by omega)]; exact e2 j hj
    · rw [f94 _ (by omega), f (7 + 3) (by omega)]; exact e3 j hj
    · rw [f94 _ (by omega), f (7 + 4) (by omega)]; exact e4 j hj
  · intro j hj
    rw [f7, if_pos rfl] at hj
    have p13 : W (7 + 6) j = if j = k then (a : Int) else V 13 j := by rw [fU (7 + 6) (by decide)]; exact q13 j
    have p14 : W (7 + 7) j = if j = k then (b : Int) else V 14 j := by rw [fU (7 + 7) (by decide)]; exact q14 j
    have p15 : W (7 + 8) j = if j = k then (c : Int) else V 15 j := by rw [fU (7 + 8) (by decide)]; exact q15 j
    have p16 : W (7 + 9) j = if j = k then v else V 16 j := by rw [fU (7 + 9) (by decide)]; exact q16 j
    have p17 : W (7 + 10) j = if j = k then V 7 4 else V 17 j := by rw [fU (7 + 10) (by decide)]; exact q17 j
    rw [p13, p14, p15, p16, p17, f 1 (by omega)]
    by_cases q : j = k
    · subst q
      rw [if_pos rfl, if_pos rfl, if_pos rfl, if_pos rfl, if_pos rfl, g0, g1, g2, g3, g4]
      exact ⟨⟨rfl, rfl, rfl, ht, rfl⟩, hc, hv.2⟩
    · rw [if_neg q, if_neg q, if_neg q, if_neg q, if_neg q, f94 _ (by omega), f94 _ (by omega), f94 _ (by omega), f94 _ (by omega), f94 _ (by omega)]
      exact hF j (by omega)
