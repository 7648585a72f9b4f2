theorem REL.cpi {V W : Nat → Nat → Int} (hR : RNG V) (h : REL V 1 7 18 94) (l1 : ∀ p, p < 144 → W (23 + 1) p = V (1 + 1) p) (l2 : ∀ p, p < 24 → W (23 + 2) p = V (1 + 2) p) (l3 : ∀ p, p < 24 → W (23 + 3) p = V (1 + 3) p) (l4 : ∀ p, p < 12 → W (23 + 4) p = V (1 + 4) p) (l5 : ∀ p, p < 12 → W (23 + 5) p = V (1 + 5) p) (l0 : ∀ p, p < 6 → W 23 p = V 1 p) (w1 : ∀ p, p < 6 → W (29 + 1) p = V (7 + 1) p) (w2 : ∀ p, p < 6 → W (29 + 2) p = V (7 + 2) p) (w3 : ∀ p, p < 72 → W (29 + 3) p = V (7 + 3) p) (w4 : ∀ p, p < 12 → W (29 + 4) p = V (7 + 4) p) (w5 : ∀ p, p < 72 → W (29 + 5) p = V (7 + 5) p) (w6 : ∀ p, p < 60 → W (29 + 6) p = V (7 + 6) p) (w7 : ∀ p, p < 60 → W (29 + 7) p = V (7 + 7) p) (w8 : ∀ p, p < 60 → W (29 + 8) p = V (7 + 8) p) (w9 : ∀ p, p < 60 → W (29 + 9) p = V (7 + 9) p) (w10 : ∀ p, p < 60 → W (29 + 10) p = V (7 + 10) p) (w0 : ∀ p, p < 6 → W 29 p = V 7 p) (i1 : ∀ p, p < 10 → W (40 + 1) p = V (18 + 1) p) (i2 : ∀ p, p < 24 → W (40 + 2) p = V (18 + 2) p) (i3 : ∀ p, p < 6 → W (40 + 3) p = V (18 + 3) p) (i4 : ∀ p, p < 8 → W (40 + 4) p = V (18 + 4) p) (i0 : ∀ p, p < 4 → W 40 p = V 18 p) (a0 : ∀ p, p < 1200 → W 95 p = V 94 p) : REL W 23 29 40 95 := by
  obtain ⟨hA, hB, hC, hD, hE, hF, hH⟩ := h
  have rD : 0 ≤ V 1 0 ∧ V 1 0 ≤ 12 := hR 1 0 (by decide) (by decide)
  have rT : 0 ≤ V 1 1 ∧ V 1 1 ≤ 12 := hR 1 1 (by decide) (by decide)
  have r5 : 0 ≤ V 7 5 ∧ V 7 5 ≤ 60 := hR 7 5 (by decide) (by decide)
  have r2 : 0 ≤ V 18 2 ∧ V 18 2 ≤ 10 := hR 18 2 (by decide) (by decide)
  have r3 : 0 ≤ V 18 3 ∧ V 18 3 ≤ 8 := hR 18 3 (by decide) (by decide)
  have rs : ∀ l, 0 ≤ V (1 + 2) l ∧ V (1 + 2) l ≤ 6 := fun l => hR 3 l (by decide) (by decide)
  have ro : ∀ l, 0 ≤ V (18 + 3) l ∧ V (18 + 3) l ≤ 4 := fun l => hR 21 l (by decide) (by decide)
  refine ⟨?_, ?_, ?_, ?_, ?_, ?_, ?_⟩
  · unfold RA
    rw [a0 1 (by omega), a0 2 (by omega), a0 8 (by omega), a0 9 (by omega), a0 10 (by omega), a0 11 (by omega), l0 0 (by omega), l0 1 (by omega), l0 2 (by omega), l0 3 (by omega), l0 4 (by omega), l0 5 (by omega)]
    exact hA
  · intro l hl
    rw [l0 0 (by omega), l0 1 (by omega)] at hl
    obtain ⟨b1, b2, b3⟩ := hB l hl
    have := rs l
    rw [a0 _ (by omega), a0 _ (by omega), l2 l (by omega), l3 l (by omega)]
    exact ⟨b1, b2, fun j hj => by rw [a0 _ (by omega), l1 _ (by omega)]; exact b3 j hj⟩
  · intro l hl
    rw [l0 0 (by omega)] at hl
    obtain ⟨b1, b2, b3⟩ := hC l hl
    rw [a0 _ (by omega), a0 _ (by omega), l4 l (by omega), l5 l (by omega)]
    exact ⟨b1, b2, fun k hk => by rw [a0 _ (by omega), w5 _ (by omega)]; exact b3 k hk⟩
  · refine ⟨fun l hl ht => ?_, fun l hl ht => ?_⟩
    · rw [l0 0 (by omega), l0 1 (by omega)] at ht
      rw [l2 l (by omega), l3 l (by omega)]; exact hD.1 l hl ht
    · rw [l0 0 (by omega)] at ht
      rw [l4 l (by omega), l5 l (by omega)]
      obtain ⟨b1, b2, b3⟩ := hD.2 l hl ht
      exact ⟨b1, b2, fun k hk => by rw [w5 _ (by omega)]; exact b3 k hk⟩
  · obtain ⟨e1, e2, e3, e4⟩ := hE
    refine ⟨?_, fun k hk => ?_, fun k hk => ?_, fun k hk => ?_⟩
    · rw [a0 12 (by omega), a0 13 (by omega), a0 14 (by omega), a0 15 (by omega), a0 0 (by omega), a0 7 (by omega), w0 0 (by omega), w0 1 (by omega), w0 2 (by omega), w0 3 (by omega), w0 4 (by omega), w0 5 (by omega)]; exact e1
    · rw [a0 _ (by omega), a0 _ (by omega), w1 k hk, w2 k hk, l0 1 (by omega)]; exact e2 k hk
    · rw [a0 _ (by omega), w3 k hk]; exact e3 k hk
    · rw [a0 _ (by omega), w4 k hk]; exact e4 k hk
  · intro k hk
    rw [w0 5 (by omega)] at hk
    rw [a0 _ (by omega), a0 _ (by omega), a0 _ (by omega), a0 _ (by omega), a0 _ (by omega), w6 k (by omega), w7 k (by omega), w8 k (by omega), w9 k (by omega), w10 k (by omega), l0 0 (by omega), l0 1 (by omega)]
    exact hF k hk
  · obtain ⟨e1, e2, e3, e4⟩ := hH
    refine ⟨?_, fun k hk => ?_, fun s hs => ?_, fun k hk => ?_⟩
    · rw [a0 3 (by omega), a0 4 (by omega), a0 5 (by omega), a0 6 (by omega), i0 0 (by omega), i0 1 (by omega), i0 2 (by omega), i0 3 (by omega)]; exact e1
    · rw [i0 2 (by omega)] at hk
      rw [a0 _ (by omega), i1 k (by omega)]; exact e2 k hk
    · obtain ⟨q1, q2⟩ := e3 s hs
      have := ro s
      rw [a0 _ (by omega), i3 s hs, l0 0 (by omega)]
      exact ⟨q1, fun k hk => by rw [a0 _ (by omega), i2 _ (by omega)]; exact q2 k hk⟩
    · rw [i0 3 (by omega)] at hk
      rw [a0 _ (by omega), i4 k (by omega), l0 0 (by omega)]; exact e4 k hk
theorem REL.cpb {V W : Nat → Nat → Int} (hR : RNG V) (h : REL V 23 29 40 95) (l1 : ∀ p, p < 144 → W (1 + 1) p = V (23 + 1) p) (l2 : ∀ p, p < 24 → W (1 + 2) p = V (23 + 2) p) (l3 : ∀ p, p < 24 → W (1 + 3) p = V (23 + 3) p) (l4 : ∀ p, p < 12 → W (1 + 4) p = V (23 + 4) p) (l5 : ∀ p, p < 12 → W (1 + 5) p = V (23 + 5) p) (l0 : ∀ p, p < 6 → W 1 p = V 23 p) (w1 : ∀ p, p < 6 → W (7 + 1) p = V (29 + 1) p) (w2 : ∀ p, p < 6 → W (7 + 2) p = V (29 + 2) p) (w3 : ∀ p, p < 72 → W (7 + 3) p = V (29 + 3) p) (w4 : ∀ p, p < 12 → W (7 + 4) p = V (29 + 4) p) (w5 : ∀ p, p < 72 → W (7 + 5) p = V (29 + 5) p) (w6 : ∀ p, p < 60 → W (7 + 6) p = V (29 + 6) p) (w7 : ∀ p, p < 60 → W (7 + 7) p = V (29 + 7) p) (w8 : ∀ p, p < 60 → W (7 + 8) p = V (29 + 8) p) (w9 : ∀ p, p < 60 → W (7 + 9) p = V (29 + 9) p) (w10 : ∀ p, p < 60 → W (7 + 10) p = V (29 + 10) p) (w0 : ∀ p, p < 6 → W 7 p = V 29 p) (i1 : ∀ p, p < 10 → W (18 + 1) p = V (40 + 1) p) (i2 : ∀ p, p < 24 → W (18 + 2) p = V (40 + 2) p) (i3 : ∀ p, p < 6 → W (18 + 3) p = V (40 + 3) p) (i4 : ∀ p, p < 8 → W (18 + 4) p = V (40 + 4) p) (i0 : ∀ p, p < 4 → W 18 p = V 40 p) (a0 : ∀ p, p < 1200 → W 94 p = V 95 p) : REL W 1 7 18 94 := by
  obtain ⟨hA, hB, hC, hD, hE, hF, hH⟩ := h
  have rD : 0 ≤ V 23 0 ∧ V 23 0 ≤ 12 := hR 23 0 (by decide) (by decide)
  have rT : 0 ≤ V 23 1 ∧ V 23 1 ≤ 12 := hR 23 1 (by decide) (by decide)
  have r5 : 0 ≤ V 29 5 ∧ V 29 5 ≤ 60 := hR 29 5 (by decide) (by decide)
  have r2 : 0 ≤ V 40 2 ∧ V 40 2 ≤ 10 := hR 40 2 (by decide) (by decide)
  have r3 : 0 ≤ V 40 3 ∧ V 40 3 ≤ 8 := hR 40 3 (by decide) (by decide)
  have rs : ∀ l, 0 ≤ V (23 + 2) l ∧ V (23 + 2) l ≤ 6 := fun l => hR 25 l (by decide) (by decide)
  have ro : ∀ l, 0 ≤ V (40 + 3) l ∧ V (40 + 3) l ≤ 4 := fun l => hR 43 l (by decide) (by decide)
  refine ⟨?_, ?_, ?_, ?_, ?_, ?_, ?_⟩
  · unfold RA
    rw [a0 1 (by omega), a0 2 (by omega), a0 8 (by omega), a0 9 (by omega), a0 10 (by omega), a0 11 (by omega), l0 0 (by omega), l0 1 (by omega), l0 2 (by omega), l0 3 (by omega), l0 4 (by omega), l0 5 (by omega)]
    exact hA
  · intro l hl
    rw [l0 0 (by omega), l0 1 (by omega)] at hl
    obtain ⟨b1, b2, b3⟩ := hB l hl
    have := rs l
    rw [a0 _ (by omega), a0 _ (by omega), l2 l (by omega), l3 l (by omega)]
    exact ⟨b1, b2, fun j hj => by rw [a0 _ (by omega), l1 _ (by omega)]; exact b3 j hj⟩
  · intro l hl
    rw [l0 0 (by omega)] at hl
    obtain ⟨b1, b2, b3⟩ := hC l hl
    rw [a0 _ (by omega), a0 _ (by omega), l4 l (by omega), l5 l (by omega)]
    exact ⟨b1, b2, fun k hk => by rw [a0 _ (by omega), w5 _ (by omega)]; exact b3 k hk⟩
  · refine ⟨fun l hl ht => ?_, fun l hl ht => ?_⟩
    · rw [l0 0 (by omega), l0 1 (by omega)] at ht
      rw [l2 l (by omega), l3 l (by omega)]; exact hD.1 l hl ht
    · rw [l0 0 (by omega)] at ht
      rw [l4 l (by omega), l5 l (by omega)]
      obtain ⟨b1, b2, b3⟩ := hD.2 l hl ht
      exact ⟨b1, b2, fun k hk => by rw [w5 _ (by omega)]; exact b3 k hk⟩
  · obtain ⟨e1, e2, e3, e4⟩ := hE
    refine ⟨?_, fun k hk => ?_, fun k hk => ?_, fun k hk => ?_⟩
    · rw [a0 12 (by omega), a0 13 (by omega), a0 14 (by omega), a0 15 (by omega), a0 0 (by omega), a0 7 (by omega), w0 0 (by omega), w0 1 (by omega), w0 2 (by omega), w0 3 (by omega), w0 4 (by omega), w0 5 (by omega)]; exact e1
    · rw [a0 _ (by omega), a0 _ (by omega), w1 k hk, w2 k hk, l0 1 (by omega)]; exact e2 k hk
    · rw [a0 _ (by omega), w3 k hk]; exact e3 k hk
    · rw [a0 _ (by omega), w4 k hk]; exact e4 k hk
  · intro k hk
    rw [w0 5 (by omega)] at hk
    rw [a0 _ (by omega), a0 _ (by omega), a0 _ (by omega), a0 _ (by omega), a0 _ (by omega), w6 k (by omega), w7 k (by omega), w8 k (by omega), w9 k (by omega), w10 k (by omega), l0 0 (by omega), l0 1 (by omega)]
    exact hF k hk
  · obtain ⟨e1, e2, e3, e4⟩ := hH
    refine ⟨?_, fun k hk => ?_, fun s hs => ?_, fun k hk => ?_⟩
    · rw [a0 3 (by omega), a0 4 (by omega), a0 5 (by omega), a0 6 (by omega), i0 0 (by omega), i0 1 (by omega), i0 2 (by omega), i0 3 (by omega)]; exact e1
    · rw [i0 2 (by omega)] at hk
      rw [a0 _ (by omega), i1 k (by omega)]; exact e2 k hk
    · obtain ⟨q1, q2⟩ := e3 s hs
      have := ro s
      rw [a0 _ (by omega), i3 s hs, l0 0 (by omega)]
      exact ⟨q1, fun k hk => by rw [a0 _ (by omega), i2 _ (by omega)]; exact q2 k hk⟩
    · rw [i0 3 (by omega)] at hk
      rw [a0 _ (by omega), i4 k (by omega), l0 0 (by omega)]; exact e4 k hk
theorem c_image {L : Nat} {xs : Nat → Int32} {V : Nat → Nat → Int} {J : Nat → Nat → Int64} {tg : Option Nat} (h : INV V) : ∃ (v : Int) (U W : Nat → Nat → Int) (J1 : Nat → Nat → Int64), Runs (GW L xs) 40 159 (0, [.ref 0], [], zS (eV V) J tg) (some (Value.int (Int32.ofInt v)), zS (eV U) J tg) ∧ Runs (GW L xs) 40 297 (0, [.ref 93], [], zS (eV U) J tg) (some (Value.int (Int32.ofInt v)), zS (eV W) J1 tg) ∧ INV W := by
  have h0 := h
  obtain ⟨hR, ⟨hA, hB, hC, hD, hE, hF, hH⟩, h2, h3, h4, h5⟩ := h
  have rD : 0 ≤ V 1 0 ∧ V 1 0 ≤ 12 := hR 1 0 (by decide) (by decide)
  have rT : 0 ≤ V 1 1 ∧ V 1 1 ≤ 12 := hR 1 1 (by decide) (by decide)
  obtain ⟨A, aF, a0, a1, a2, a3, a4, a5, aR⟩ := k_49i (L := L) (xs := xs) (J := J) (tg := tg) (d := 38) (V := V)
  obtain ⟨B, bF, b0, b1, b2, b3, b4, b5, b6, b7, b8, b9, b10, bR⟩ := k_114i (L := L) (xs := xs) (J := J) (tg := tg) (d := 38) (V := A)
  obtain ⟨C, cF, c0, c1, c2, c3, c4, cR⟩ := k_42i (L := L) (xs := xs) (J := J) (tg := tg) (d := 38) (V := B)
  have uF : ∀ c, ¬ (23 ≤ c ∧ c ≤ 28) ∧ ¬ (29 ≤ c ∧ c ≤ 39) ∧ ¬ (40 ≤ c ∧ c ≤ 44) → C c = V c := fun c q => by rw [cF c (by omega), bF c (by omega), aF c (by omega)]
  have ua0 : ∀ p, C 23 p = if p < 6 then V 1 p else V 23 p := fun p => by rw [cF 23 (by omega), bF 23 (by omega), a0]
  have ua1 : ∀ p, C 24 p = if p < 144 then V 2 p else V 24 p := fun p => by rw [cF 24 (by omega), bF 24 (by omega), a1]
  have ua2 : ∀ p, C 25 p = if p < 24 then V 3 p else V 25 p := fun p => by rw [cF 25 (by omega), bF 25 (by omega), a2]
  have ua3 : ∀ p, C 26 p = if p < 24 then V 4 p else V 26 p := fun p => by rw [cF 26 (by omega), bF 26 (by omega), a3]
  have ua4 : ∀ p, C 27 p = if p < 12 then V 5 p else V 27 p := fun p => by rw [cF 27 (by omega), bF 27 (by omega), a4]
  have ua5 : ∀ p, C 28 p = if p < 12 then V 6 p else V 28 p := fun p => by rw [cF 28 (by omega), bF 28 (by omega), a5]
  have ub0 : ∀ p, C 29 p = if p < 6 then V 7 p else V 29 p := fun p => by rw [cF 29 (by omega), b0, aF 7 (by omega), aF 29 (by omega)]
  have ub1 : ∀ p, C 30 p = if p < 6 then V 8 p else V 30 p := fun p => by rw [cF 30 (by omega), b1, aF 8 (by omega), aF 30 (by omega)]
  have ub2 : ∀ p, C 31 p = if p < 6 then V 9 p else V 31 p := fun p => by rw [cF 31 (by omega), b2, aF 9 (by omega), aF 31 (by omega)]
  have ub3 : ∀ p, C 32 p = if p < 72 then V 10 p else V 32 p := fun p => by rw [cF 32 (by omega), b3, aF 10 (by omega), aF 32 (by omega)]
  have ub4 : ∀ p, C 33 p = if p < 12 then V 11 p else V 33 p := fun p => by rw [cF 33 (by omega), b4, aF 11 (by omega), aF 33 (by omega)]
  have ub5 : ∀ p, C 34 p = if p < 72 then V 12 p else V 34 p := fun p => by rw [cF 34 (by omega), b5, aF 12 (by omega), aF 34 (by omega)]
  have ub6 : ∀ p, C 35 p = if p < 60 then V 13 p else V 35 p := fun p => by rw [cF 35 (by omega), b6, aF 13 (by omega), aF 35 (by omega)]
  have ub7 : ∀ p, C 36 p = if p < 60 then V 14 p else V 36 p := fun p => by rw [cF 36 (by omega), b7, aF 14 (by omega), aF 36 (by omega)]
  have ub8 : ∀ p, C 37 p = if p < 60 then V 15 p else V 37 p := fun p => by rw [cF 37 (by omega), b8, aF 15 (by omega), aF 37 (by omega)]
  have ub9 : ∀ p, C 38 p = if p < 60 then V 16 p else V 38 p := fun p => by rw [cF 38 (by omega), b9, aF 16 (by omega), aF 38 (by omega)]
  have ub10 : ∀ p, C 39 p = if p < 60 then V 17 p else V 39 p := fun p => by rw [cF 39 (by omega), b10, aF 17 (by omega), aF 39 (by omega)]
  have uc0 : ∀ p, C 40 p = if p < 4 then V 18 p else V 40 p := fun p => by rw [c0, bF 18 (by omega), aF 18 (by omega), bF 40 (by omega), aF 40 (by omega)]
  have uc1 : ∀ p, C 41 p = if p < 10 then V 19 p else V 41 p := fun p => by rw [c1, bF 19 (by omega), aF 19 (by omega), bF 41 (by omega), aF 41 (by omega)]
  have uc2 : ∀ p, C 42 p = if p < 24 then V 20 p else V 42 p := fun p => by rw [c2, bF 20 (by omega), aF 20 (by omega), bF 42 (by omega), aF 42 (by omega)]
  have uc3 : ∀ p, C 43 p = if p < 6 then V 21 p else V 43 p := fun p => by rw [c3, bF 21 (by omega), aF 21 (by omega), bF 43 (by omega), aF 43 (by omega)]
  have uc4 : ∀ p, C 44 p = if p < 8 then V 22 p else V 44 p := fun p => by rw [c4, bF 22 (by omega), aF 22 (by omega), bF 44 (by omega), aF 44 (by omega)]
  have hRC : RNG C := by
    intro c p q1 q2
    by_cases q : (23 ≤ c ∧ c ≤ 28) ∨ (29 ≤ c ∧ c ≤ 39) ∨ (40 ≤ c ∧ c ≤ 44)
    · have : c = 23 ∨ c = 24 ∨ c = 25 ∨ c = 26 ∨ c = 27 ∨ c = 28 ∨ c = 29 ∨ c = 30 ∨ c = 31 ∨ c = 32 ∨ c = 33 ∨ c = 34 ∨ c = 35 ∨ c = 36 ∨ c = 37 ∨ c = 38 ∨ c = 39 ∨ c = 40 ∨ c = 41 ∨ c = 42 ∨ c = 43 ∨ c = 44 := by omega
      rcases this with q3 | q3 | q3 | q3 | q3 | q3 | q3 | q3 | q3 | q3 | q3 | q3 | q3 | q3 | q3 | q3 | q3 | q3 | q3 | q3 | q3 | q3
      · subst q3; rw [ua0]; split
        · exact hR 1 p (by decide) (by decide)
        · exact hR 23 p (by decide) (by decide)
      · subst q3; rw [ua1]; split
        · exact hR 2 p (by decide) (by decide)
        · exact hR 24 p (by decide) (by decide)
      · subst q3; rw [ua2]; split
        · exact hR 3 p (by decide) (by decide)
        · exact hR 25 p (by decide) (by decide)
      · subst q3; rw [ua3]; split
        · exact hR 4 p (by decide) (by decide)
        · exact hR 26 p (by decide) (by decide)
      · subst q3; rw [ua4]; split
        · exact hR 5 p (by decide) (by decide)
        · exact hR 27 p (by decide) (by decide)
      · subst q3; rw [ua5]; split
        · exact hR 6 p (by decide) (by decide)
        · exact hR 28 p (by decide) (by decide)
      · subst q3; rw [ub0]; split
        · exact hR 7 p (by decide) (by decide)
        · exact hR 29 p (by decide) (by decide)
      · subst q3; rw [ub1]; split
        · exact hR 8 p (by decide) (by decide)
        · exact hR 30 p (by decide) (by decide)
      · subst q3; rw [ub2]; split
        · exact hR 9 p (by decide) (by decide)
        · exact hR 31 p (by decide) (by decide)
      · subst q3; rw [ub3]; split
        · exact hR 10 p (by decide) (by decide)
        · exact hR 32 p (by decide) (by decide)
      · subst q3; rw [ub4]; split
        · exact hR 11 p (by decide) (by decide)
        · exact hR 33 p (by decide) (by decide)
      · subst q3; rw [ub5]; split
        · exact hR 12 p (by decide) (by decide)
        · exact hR 34 p (by decide) (by decide)
      · subst q3; rw [ub6]; split
        · exact hR 13 p (by decide) (by decide)
        · exact hR 35 p (by decide) (by decide)
      · subst q3; rw [ub7]; split
        · exact hR 14 p (by decide) (by decide)
        · exact hR 36 p (by decide) (by decide)
      · subst q3; rw [ub8]; split
        · exact hR 15 p (by decide) (by decide)
        · exact hR 37 p (by decide) (by decide)
      · subst q3; rw [ub9]; split
        · exact hR 16 p (by decide) (by decide)
        · exact hR 38 p (by decide) (by decide)
      · subst q3; rw [ub10]; split
        · exact hR 17 p (by decide) (by decide)
        · exact hR 39 p (by decide) (by decide)
      · subst q3; rw [uc0]; split
        · exact hR 18 p (by decide) (by decide)
        · exact hR 40 p (by decide) (by decide)
      · subst q3; rw [uc1]; split
        · exact hR 19 p (by decide) (by decide)
        · exact hR 41 p (by decide) (by decide)
      · subst q3; rw [uc2]; split
        · exact hR 20 p (by decide) (by decide)
        · exact hR 42 p (by decide) (by decide)
      · subst q3; rw [uc3]; split
        · exact hR 21 p (by decide) (by decide)
        · exact hR 43 p (by decide) (by decide)
      · subst q3; rw [uc4]; split
        · exact hR 22 p (by decide) (by decide)
        · exact hR 44 p (by decide) (by decide)
    · rw [uF c (by omega)]; exact hR c p q1 q2
  have hx : (C) 7 4 = V 7 4 := by rw [uF 7 (by omega)]
  have h0a : V 94 0 = V 7 4 := hE.1.2.2.2.2.1
  refine ⟨V 7 4, C, cpV (C) 94 95 1200, J, ?_, ?_, ?_⟩
  · apply sg_159
    exact ⟨_, aR, _, bR, _, cR, by rw [eV_at, hx]⟩
  · apply sg_297
    refine ⟨_, _, k_176i, ?_⟩
    rw [eV_at, cpV_ne (by decide), uF 94 (by omega), h0a]
  · have wF : ∀ c, c ≠ 95 ∧ c ≠ 71 → (cpV (C) 94 95 1200) c = C c := fun c q => by rw [cpV_ne q.1]
    have wA : ∀ p, p < 1200 → (cpV (C) 94 95 1200) 95 p = V 94 p := fun p q => by rw [cpV_at, if_pos q, uF 94 (by omega)]
    have w71 : (cpV (C) 94 95 1200) 71 = V 71 := by rw [cpV_ne (by decide), uF 71 (by omega)]
    generalize (cpV (C) 94 95 1200) = W at *
    have g18 : W 18 0 = V 18 0 := by rw [wF 18 (by omega)]; rw [uF 18 (by omega)]
    have g40 : W 40 0 = V 18 0 := by rw [wF 40 (by omega)]; exact (uc0 0).trans (if_pos (by decide))
    refine ⟨hRC.fr fun c q => wF c (by omega), (REL.fr (V := V) ⟨hA, hB, hC, hD, hE, hF, hH⟩ fun c q => by rw [wF c (by omega), uF c (by omega)]), REL.cpi hR ⟨hA, hB, hC, hD, hE, hF, hH⟩ (fun p q => by rw [wF (23 + 1) (by omega)]; exact (ua1 p).trans (if_pos q)) (fun p q => by rw [wF (23 + 2) (by omega)]; exact (ua2 p).trans (if_pos q)) (fun p q => by rw [wF (23 + 3) (by omega)]; exact (ua3 p).trans (if_pos q)) (fun p q => by rw [wF (23 + 4) (by omega)]; exact (ua4 p).trans (if_pos q)) (fun p q => by rw [wF (23 + 5) (by omega)]; exact (ua5 p).trans (if_pos q)) (fun p q => by rw [wF 23 (by omega)]; exact (ua0 p).trans (if_pos q)) (fun p q => by rw [wF (29 + 1) (by omega)]; exact (ub1 p).trans (if_pos q)) (fun p q => by rw [wF (29 + 2) (by omega)]; exact (ub2 p).trans (if_pos q)) (fun p q => by rw [wF (29 + 3) (by omega)]; exact (ub3 p).trans (if_pos q)) (fun p q => by rw [wF (29 + 4) (by omega)]; exact (ub4 p).trans (if_pos q)) (fun p q => by rw [wF (29 + 5) (by omega)]; exact (ub5 p).trans (if_pos q)) (fun p q => by rw [wF (29 + 6) (by omega)]; exact (ub6 p).trans (if_pos q)) (fun p q => by rw [wF (29 + 7) (by omega)]; exact (ub7 p).trans (if_pos q)) (fun p q => by rw [wF (29 + 8) (by omega)]; exact (ub8 p).trans (if_pos q)) (fun p q => by rw [wF (29 + 9) (by omega)]; exact (ub9 p).trans (if_pos q)) (fun p q => by rw [wF (29 + 10) (by omega)]; exact (ub10 p).trans (if_pos q)) (fun p q => by rw [wF 29 (by omega)]; exact (ub0 p).trans (if_pos q)) (fun p q => by rw [wF (40 + 1) (by omega)]; exact (uc1 p).trans (if_pos q)) (fun p q => by rw [wF (40 + 2) (by omega)]; exact (uc2 p).trans (if_pos q)) (fun p q => by rw [wF (40 + 3) (by omega)]; exact (uc3 p).trans (if_pos q)) (fun p q => by rw [wF (40 + 4) (by omega)]; exact (uc4 p).trans (if_pos q)) (fun p q => by rw [wF 40 (by omega)]; exact (uc0 p).trans (if_pos q)) wA, (h3.up (by rw [wF 1 (by omega), uF 1 (by omega)]) (by rw [wF 2 (by omega), uF 2 (by omega)]) (by rw [wF 3 (by omega), uF 3 (by omega)]) (by rw [wF 4 (by omega), uF 4 (by omega)]) w71 (by rw [wF 81 (by omega), uF 81 (by omega)])), h4.fr (fun c q => by rw [wF c (by omega), uF c (by omega)]) (by rw [wF 93 (by omega), uF 93 (by omega)]) (by rw [wF 93 (by omega), uF 93 (by omega)]) (by rw [wF 93 (by omega), uF 93 (by omega)]), ?_⟩
    have r0 : 0 ≤ V 18 0 ∧ V 18 0 ≤ 4 := hR 18 0 (by decide) (by decide)
    refine ⟨by rw [wF 63 (by omega), uF 63 (by omega), wF 50 (by omega), uF 50 (by omega), wF 54 (by omega), uF 54 (by omega), wF 58 (by omega), uF 58 (by omega), wF 62 (by omega), uF 62 (by omega)]; exact h5.1, by rw [g18, g40]; exact Int.le_refl _, fun k hk => ?_⟩
    rw [g18] at hk
    have hk2 : (k : Int) < V 18 0 := by have := h5.2.1; omega
    exact (h5.2.2 k hk2).fr (by omega) fun c q => by rw [wF c (by omega), uF c (by omega)]
theorem c_back {L : Nat} {xs : Nat → Int32} {V : Nat → Nat → Int} {J : Nat → Nat → Int64} {tg : Option Nat} (h : INV V) : ∃ (v : Int) (U W : Nat → Nat → Int) (J1 : Nat → Nat → Int64), Runs (GW L xs) 40 160 (0, [.ref 0], [], zS (eV V) J tg) (some (Value.int (Int32.ofInt v)), zS (eV U) J tg) ∧ Runs (GW L xs) 40 298 (0, [.ref 93], [], zS (eV U) J tg) (some (Value.int (Int32.ofInt v)), zS (eV W) J1 tg) ∧ INV W := by
  have h0 := h
  obtain ⟨hR, ⟨hA, hB, hC, hD, hE, hF, hH⟩, h2, h3, h4, h5⟩ := h
  have rD : 0 ≤ V 1 0 ∧ V 1 0 ≤ 12 := hR 1 0 (by decide) (by decide)
  have rT : 0 ≤ V 1 1 ∧ V 1 1 ≤ 12 := hR 1 1 (by decide) (by decide)
  obtain ⟨A, aF, a0, a1, a2, a3, a4, a5, aR⟩ := k_49b (L := L) (xs := xs) (J := J) (tg := tg) (d := 38) (V := V)
  obtain ⟨B, bF, b0, b1, b2, b3, b4, b5, b6, b7, b8, b9, b10, bR⟩ := k_114b (L := L) (xs := xs) (J := J) (tg := tg) (d := 38) (V := A)
  obtain ⟨C, cF, c0, c1, c2, c3, c4, cR⟩ := k_42b (L := L) (xs := xs) (J := J) (tg := tg) (d := 38) (V := B)
  have uF : ∀ c, ¬ (1 ≤ c ∧ c ≤ 6) ∧ ¬ (7 ≤ c ∧ c ≤ 17) ∧ ¬ (18 ≤ c ∧ c ≤ 22) → C c = V c := fun c q => by rw [cF c (by omega), bF c (by omega), aF c (by omega)]
  have ua0 : ∀ p, C 1 p = if p < 6 then V 23 p else V 1 p := fun p => by rw [cF 1 (by omega), bF 1 (by omega), a0]
  have ua1 : ∀ p, C 2 p = if p < 144 then V 24 p else V 2 p := fun p => by rw [cF 2 (by omega), bF 2 (by omega), a1]
  have ua2 : ∀ p, C 3 p = if p < 24 then V 25 p else V 3 p := fun p => by rw [cF 3 (by omega), bF 3 (by omega), a2]
  have ua3 : ∀ p, C 4 p = if p < 24 then V 26 p else V 4 p := fun p => by rw [cF 4 (by omega), bF 4 (by omega), a3]
  have ua4 : ∀ p, C 5 p = if p < 12 then V 27 p else V 5 p := fun p => by rw [cF 5 (by omega), bF 5 (by omega), a4]
  have ua5 : ∀ p, C 6 p = if p < 12 then V 28 p else V 6 p := fun p => by rw [cF 6 (by omega), bF 6 (by omega), a5]
  have ub0 : ∀ p, C 7 p = if p < 6 then V 29 p else V 7 p := fun p => by rw [cF 7 (by omega), b0, aF 29 (by omega), aF 7 (by omega)]
  have ub1 : ∀ p, C 8 p = if p < 6 then V 30 p else V 8 p := fun p => by rw [cF 8 (by omega), b1, aF 30 (by omega), aF 8 (by omega)]
  have ub2 : ∀ p, C 9 p = if p < 6 then V 31 p else V 9 p := fun p => by rw [cF 9 (by omega), b2, aF 31 (by omega), aF 9 (by omega)]
  have ub3 : ∀ p, C 10 p = if p < 72 then V 32 p else V 10 p := fun p => by rw [cF 10 (by omega), b3, aF 32 (by omega), aF 10 (by omega)]
  have ub4 : ∀ p, C 11 p = if p < 12 then V 33 p else V 11 p := fun p => by rw [cF 11 (by omega), b4, aF 33 (by omega), aF 11 (by omega)]
  have ub5 : ∀ p, C 12 p = if p < 72 then V 34 p else V 12 p := fun p => by rw [cF 12 (by omega), b5, aF 34 (by omega), aF 12 (by omega)]
  have ub6 : ∀ p, C 13 p = if p < 60 then V 35 p else V 13 p := fun p => by rw [cF 13 (by omega), b6, aF 35 (by omega), aF 13 (by omega)]
  have ub7 : ∀ p, C 14 p = if p < 60 then V 36 p else V 14 p := fun p => by rw [cF 14 (by omega), b7, aF 36 (by omega), aF 14 (by omega)]
  have ub8 : ∀ p, C 15 p = if p < 60 then V 37 p else V 15 p := fun p => by rw [cF 15 (by omega), b8, aF 37 (by omega), aF 15 (by omega)]
  have ub9 : ∀ p, C 16 p = if p < 60 then V 38 p else V 16 p := fun p => by rw [cF 16 (by omega), b9, aF 38 (by omega), aF 16 (by omega)]
  have ub10 : ∀ p, C 17 p = if p < 60 then V 39 p else V 17 p := fun p => by rw [cF 17 (by omega), b10, aF 39 (by omega), aF 17 (by omega)]
  have uc0 : ∀ p, C 18 p = if p < 4 then V 40 p else V 18 p := fun p => by rw [c0, bF 40 (by omega), aF 40 (by omega), bF 18 (by omega), aF 18 (by omega)]
  have uc1 : ∀ p, C 19 p = if p < 10 then V 41 p else V 19 p := fun p => by rw [c1, bF 41 (by omega), aF 41 (by omega), bF 19 (by omega), aF 19 (by omega)]
  have uc2 : ∀ p, C 20 p = if p < 24 then V 42 p else V 20 p := fun p => by rw [c2, bF 42 (by omega), aF 42 (by omega), bF 20 (by omega), aF 20 (by omega)]
  have uc3 : ∀ p, C 21 p = if p < 6 then V 43 p else V 21 p := fun p => by rw [c3, bF 43 (by omega), aF 43 (by omega), bF 21 (by omega), aF 21 (by omega)]
  have uc4 : ∀ p, C 22 p = if p < 8 then V 44 p else V 22 p := fun p => by rw [c4, bF 44 (by omega), aF 44 (by omega), bF 22 (by omega), aF 22 (by omega)]
  have hRC : RNG C := by
    intro c p q1 q2
    by_cases q : (1 ≤ c ∧ c ≤ 6) ∨ (7 ≤ c ∧ c ≤ 17) ∨ (18 ≤ c ∧ c ≤ 22)
    · have : c = 1 ∨ c = 2 ∨ c = 3 ∨ c = 4 ∨ c = 5 ∨ c = 6 ∨ c = 7 ∨ c = 8 ∨ c = 9 ∨ c = 10 ∨ c = 11 ∨ c = 12 ∨ c = 13 ∨ c = 14 ∨ c = 15 ∨ c = 16 ∨ c = 17 ∨ c = 18 ∨ c = 19 ∨ c = 20 ∨ c = 21 ∨ c = 22 := by omega
      rcases this with q3 | q3 | q3 | q3 | q3 | q3 | q3 | q3 | q3 | q3 | q3 | q3 | q3 | q3 | q3 | q3 | q3 | q3 | q3 | q3 | q3 | q3
      · subst q3; rw [ua0]; split
        · exact hR 23 p (by decide) (by decide)
        · exact hR 1 p (by decide) (by decide)
      · subst q3; rw [ua1]; split
        · exact hR 24 p (by decide) (by decide)
        · exact hR 2 p (by decide) (by decide)
      · subst q3; rw [ua2]; split
        · exact hR 25 p (by decide) (by decide)
        · exact hR 3 p (by decide) (by decide)
      · subst q3; rw [ua3]; split
        · exact hR 26 p (by decide) (by decide)
        · exact hR 4 p (by decide) (by decide)
      · subst q3; rw [ua4]; split
        · exact hR 27 p (by decide) (by decide)
        · exact hR 5 p (by decide) (by decide)
      · subst q3; rw [ua5]; split
        · exact hR 28 p (by decide) (by decide)
        · exact hR 6 p (by decide) (by decide)
      · subst q3; rw [ub0]; split
        · exact hR 29 p (by decide) (by decide)
        · exact hR 7 p (by decide) (by decide)
      · subst q3; rw [ub1]; split
        · exact hR 30 p (by decide) (by decide)
        · exact hR 8 p (by decide) (by decide)
      · subst q3; rw [ub2]; split
        · exact hR 31 p (by decide) (by decide)
        · exact hR 9 p (by decide) (by decide)
      · subst q3; rw [ub3]; split
        · exact hR 32 p (by decide) (by decide)
        · exact hR 10 p (by decide) (by decide)
      · subst q3; rw [ub4]; split
        · exact hR 33 p (by decide) (by decide)
        · exact hR 11 p (by decide) (by decide)
      · subst q3; rw [ub5]; split
        · exact hR 34 p (by decide) (by decide)
        · exact hR 12 p (by decide) (by decide)
      · subst q3; rw [ub6]; split
        · exact hR 35 p (by decide) (by decide)
        · exact hR 13 p (by decide) (by decide)
      · subst q3; rw [ub7]; split
        · exact hR 36 p (by decide) (by decide)
        · exact hR 14 p (by decide) (by decide)
      · subst q3; rw [ub8]; split
        · exact hR 37 p (by decide) (by decide)
        · exact hR 15 p (by decide) (by decide)
      · subst q3; rw [ub9]; split
        · exact hR 38 p (by decide) (by decide)
        · exact hR 16 p (by decide) (by decide)
      · subst q3; rw [ub10]; split
        · exact hR 39 p (by decide) (by decide)
        · exact hR 17 p (by decide) (by decide)
      · subst q3; rw [uc0]; split
        · exact hR 40 p (by decide) (by decide)
        · exact hR 18 p (by decide) (by decide)
      · subst q3; rw [uc1]; split
        · exact hR 41 p (by decide) (by decide)
        · exact hR 19 p (by decide) (by decide)
      · subst q3; rw [uc2]; split
        · exact hR 42 p (by decide) (by decide)
        · exact hR 20 p (by decide) (by decide)
      · subst q3; rw [uc3]; split
        · exact hR 43 p (by decide) (by decide)
        · exact hR 21 p (by decide) (by decide)
      · subst q3; rw [uc4]; split
        · exact hR 44 p (by decide) (by decide)
        · exact hR 22 p (by decide) (by decide)
    · rw [uF c (by omega)]; exact hR c p q1 q2
  have hx : (flV C 71 576 (-1)) 7 4 = V 29 4 := by rw [flV_ne (by decide), ub0]; rfl
  have h0a : V 95 0 = V 29 4 := h2.2.2.2.2.1.1.2.2.2.2.1
  refine ⟨V 29 4, flV C 71 576 (-1), cpV (flV C 71 576 (-1)) 95 94 1200, J, ?_, ?_, ?_⟩
  · apply sg_160
    exact ⟨_, aR, _, bR, _, cR, _, k_60, by rw [eV_at, hx]⟩
  · apply sg_298
    refine ⟨_, _, k_176b, ?_⟩
    rw [eV_at, cpV_at, if_pos (by decide), flV_ne (by decide), uF 95 (by omega), h0a]
  · have wF : ∀ c, c ≠ 94 ∧ c ≠ 71 → (cpV (flV C 71 576 (-1)) 95 94 1200) c = C c := fun c q => by rw [cpV_ne q.1, flV_ne q.2]
    have wA : ∀ p, p < 1200 → (cpV (flV C 71 576 (-1)) 95 94 1200) 94 p = V 95 p := fun p q => by rw [cpV_at, if_pos q, flV_ne (by decide), uF 95 (by omega)]
    have w71 : ∀ p, p < 576 → (cpV (flV C 71 576 (-1)) 95 94 1200) 71 p = -1 := fun p q => by rw [cpV_ne (by decide), flV_at, if_pos q]
    generalize (cpV (flV C 71 576 (-1)) 95 94 1200) = W at *
    have g18 : W 18 0 = V 40 0 := by rw [wF 18 (by omega)]; exact (uc0 0).trans (if_pos (by decide))
    have g40 : W 40 0 = V 40 0 := by rw [wF 40 (by omega)]; rw [uF 40 (by omega)]
    refine ⟨hRC.fr fun c q => wF c (by omega), REL.cpb hR h2 (fun p q => by rw [wF (1 + 1) (by omega)]; exact (ua1 p).trans (if_pos q)) (fun p q => by rw [wF (1 + 2) (by omega)]; exact (ua2 p).trans (if_pos q)) (fun p q => by rw [wF (1 + 3) (by omega)]; exact (ua3 p).trans (if_pos q)) (fun p q => by rw [wF (1 + 4) (by omega)]; exact (ua4 p).trans (if_pos q)) (fun p q => by rw [wF (1 + 5) (by omega)]; exact (ua5 p).trans (if_pos q)) (fun p q => by rw [wF 1 (by omega)]; exact (ua0 p).trans (if_pos q)) (fun p q => by rw [wF (7 + 1) (by omega)]; exact (ub1 p).trans (if_pos q)) (fun p q => by rw [wF (7 + 2) (by omega)]; exact (ub2 p).trans (if_pos q)) (fun p q => by rw [wF (7 + 3) (by omega)]; exact (ub3 p).trans (if_pos q)) (fun p q => by rw [wF (7 + 4) (by omega)]; exact (ub4 p).trans (if_pos q)) (fun p q => by rw [wF (7 + 5) (by omega)]; exact (ub5 p).trans (if_pos q)) (fun p q => by rw [wF (7 + 6) (by omega)]; exact (ub6 p).trans (if_pos q)) (fun p q => by rw [wF (7 + 7) (by omega)]; exact (ub7 p).trans (if_pos q)) (fun p q => by rw [wF (7 + 8) (by omega)]; exact (ub8 p).trans (if_pos q)) (fun p q => by rw [wF (7 + 9) (by omega)]; exact (ub9 p).trans (if_pos q)) (fun p q => by rw [wF (7 + 10) (by omega)]; exact (ub10 p).trans (if_pos q)) (fun p q => by rw [wF 7 (by omega)]; exact (ub0 p).trans (if_pos q)) (fun p q => by rw [wF (18 + 1) (by omega)]; exact (uc1 p).trans (if_pos q)) (fun p q => by rw [wF (18 + 2) (by omega)]; exact (uc2 p).trans (if_pos q)) (fun p q => by rw [wF (18 + 3) (by omega)]; exact (uc3 p).trans (if_pos q)) (fun p q => by rw [wF (18 + 4) (by omega)]; exact (uc4 p).trans (if_pos q)) (fun p q => by rw [wF 18 (by omega)]; exact (uc0 p).trans (if_pos q)) wA, (REL.fr (V := V) h2 fun c q => by rw [wF c (by omega), uF c (by omega)]), ⟨fun x y hx hy => Or.inl (w71 _ (by omega)), fun x hx => by rw [wF 81 (by omega), uF 81 (by omega)]; exact h3.2 x hx⟩, h4.fr (fun c q => by rw [wF c (by omega), uF c (by omega)]) (by rw [wF 93 (by omega), uF 93 (by omega)]) (by rw [wF 93 (by omega), uF 93 (by omega)]) (by rw [wF 93 (by omega), uF 93 (by omega)]), ?_⟩
    have r0 : 0 ≤ V 18 0 ∧ V 18 0 ≤ 4 := hR 18 0 (by decide) (by decide)
    refine ⟨by rw [wF 63 (by omega), uF 63 (by omega), wF 50 (by omega), uF 50 (by omega), wF 54 (by omega), uF 54 (by omega), wF 58 (by omega), uF 58 (by omega), wF 62 (by omega), uF 62 (by omega)]; exact h5.1, by rw [g18, g40]; exact Int.le_refl _, fun k hk => ?_⟩
    rw [g18] at hk
    have hk2 : (k : Int) < V 18 0 := by have := h5.2.1; omega
    exact (h5.2.2 k hk2).fr (by omega) fun c q => by rw [wF c (by omega), uF c (by omega)]
