/-! Parts of the invariant that an update leaves alone. -/
section CH
variable {V W : Nat → Nat → Int}
theorem RA.up (h : RA V 1 94) (e1 : ∀ p, p < 6 → W 1 p = V 1 p) (e94 : ∀ p, p = 1 ∨ p = 2 ∨ (8 ≤ p ∧ p ≤ 11) → W 94 p = V 94 p) : RA W 1 94 := by
  unfold RA at h ⊢
  rw [e1 0 (by omega), e1 1 (by omega), e1 2 (by omega), e1 3 (by omega), e1 4 (by omega), e1 5 (by omega), e94 1 (by omega), e94 2 (by omega), e94 8 (by omega), e94 9 (by omega), e94 10 (by omega), e94 11 (by omega)]
  exact h
theorem RB.up (hR : RNG V) (h : RB V 1 94) (e0 : W 1 0 = V 1 0) (e1 : W 1 1 = V 1 1) (e2 : W 2 = V 2) (e3 : W 3 = V 3) (e4 : W 4 = V 4) (e94 : ∀ l w, l < 24 → w = 0 ∨ w = 1 ∨ (4 ≤ w ∧ w < 10) → W 94 (20 + 22 * l + w) = V 94 (20 + 22 * l + w)) : RB W 1 94 := by
  have hD : 0 ≤ V 1 0 ∧ V 1 0 ≤ 12 := hR 1 0 (by decide) (by decide)
  have hT : 0 ≤ V 1 1 ∧ V 1 1 ≤ 12 := hR 1 1 (by decide) (by decide)
  intro l hl
  rw [e0, e1] at hl
  obtain ⟨b1, b2, b3⟩ := h l hl
  have h3 : 0 ≤ V (1 + 2) l ∧ V (1 + 2) l ≤ 6 := hR 3 l (by decide) (by decide)
  have f2 : W (1 + 1) = V (1 + 1) := e2
  have f3 : W (1 + 2) = V (1 + 2) := e3
  have f4 : W (1 + 3) = V (1 + 3) := e4
  rw [f2, f3, f4]
  refine ⟨(e94 l 0 (by omega) (by omega)).trans b1, (e94 l 1 (by omega) (by omega)).trans b2, fun j hj => ?_⟩
  rw [e94 l (4 + j) (by omega) (by omega)]
  exact b3 j hj
theorem RC.up (hR : RNG V) (h : RC V 1 7 94) (e1 : W 1 0 = V 1 0) (e5 : W 5 = V 5) (e6 : W 6 = V 6) (e12 : W 12 = V 12) (e94 : ∀ l w, l < 12 → w = 2 ∨ w = 3 → W 94 (20 + 22 * l + w) = V 94 (20 + 22 * l + w)) (em : ∀ k, k < 72 → W 94 (600 + k) = V 94 (600 + k)) : RC W 1 7 94 := by
  have hD : 0 ≤ V 1 0 ∧ V 1 0 ≤ 12 := hR 1 0 (by decide) (by decide)
  intro l hl
  rw [e1] at hl
  obtain ⟨b1, b2, b3⟩ := h l hl
  have f2 : W (1 + 4) = V (1 + 4) := e5
  have f3 : W (1 + 5) = V (1 + 5) := e6
  have f4 : W (7 + 5) = V (7 + 5) := e12
  rw [f2, f3, f4]
  refine ⟨(e94 l 2 (by omega) (by omega)).trans b1, (e94 l 3 (by omega) (by omega)).trans b2, fun k hk => ?_⟩
  rw [Nat.add_assoc 600, em (6 * l + k) (by omega), ← Nat.add_assoc 600]
  exact b3 k hk
theorem RD.up (h : RD V 1 7) (e1 : W 1 0 = V 1 0) (e1' : W 1 1 = V 1 1) (e3 : W 3 = V 3) (e4 : W 4 = V 4) (e5 : W 5 = V 5) (e6 : W 6 = V 6) (e12 : W 12 = V 12) : RD W 1 7 := by
  have f2 : W (1 + 4) = V (1 + 4) := e5
  have f3 : W (1 + 5) = V (1 + 5) := e6
  have f4 : W (7 + 5) = V (7 + 5) := e12
  have f5 : W (1 + 2) = V (1 + 2) := e3
  have f6 : W (1 + 3) = V (1 + 3) := e4
  unfold RD at h ⊢
  rw [e1, e1', f2, f3, f4, f5, f6]
  exact h
theorem RE.up (h : RE V 1 7 94) (e1 : W 1 1 = V 1 1) (e7 : W 7 = V 7) (e8 : W 8 = V 8) (e9 : W 9 = V 9) (e10 : W 10 = V 10) (e11 : W 11 = V 11) (e94 : ∀ p, p = 0 ∨ p = 7 ∨ (12 ≤ p ∧ p ≤ 15) ∨ (680 ≤ p ∧ p < 696) ∨ (700 ≤ p ∧ p < 772) ∨ (780 ≤ p ∧ p < 792) → W 94 p = V 94 p) : RE W 1 7 94 := by
  have f1 : W (7 + 1) = V (7 + 1) := e8
  have f2 : W (7 + 2) = V (7 + 2) := e9
  have f3 : W (7 + 3) = V (7 + 3) := e10
  have f4 : W (7 + 4) = V (7 + 4) := e11
  unfold RE at h ⊢
  rw [e1, e7, f1, f2, f3, f4, e94 12 (by omega), e94 13 (by omega), e94 14 (by omega), e94 15 (by omega), e94 0 (by omega), e94 7 (by omega)]
  refine ⟨h.1, fun k hk => ?_, fun k hk => ?_, fun k hk => ?_⟩
  · rw [e94 _ (by omega), e94 _ (by omega)]; exact h.2.1 k hk
  · rw [e94 _ (by omega)]; exact h.2.2.1 k hk
  · rw [e94 _ (by omega)]; exact h.2.2.2 k hk
theorem RF.up (hR : RNG V) (h : RF V 1 7 94) (e1 : W 1 0 = V 1 0) (e1' : W 1 1 = V 1 1) (e7 : W 7 5 = V 7 5) (e : ∀ c, 13 ≤ c → c ≤ 17 → W c = V c) (e94 : ∀ p, 890 ≤ p ∧ p < 1190 → W 94 p = V 94 p) : RF W 1 7 94 := by
  have hA : 0 ≤ V 7 5 ∧ V 7 5 ≤ 60 := hR 7 5 (by decide) (by decide)
  have f1 : W (7 + 6) = V (7 + 6) := e 13 (by omega) (by omega)
  have f2 : W (7 + 7) = V (7 + 7) := e 14 (by omega) (by omega)
  have f3 : W (7 + 8) = V (7 + 8) := e 15 (by omega) (by omega)
  have f4 : W (7 + 9) = V (7 + 9) := e 16 (by omega) (by omega)
  have f5 : W (7 + 10) = V (7 + 10) := e 17 (by omega) (by omega)
  unfold RF at h ⊢
  rw [e1, e1', e7, f1, f2, f3, f4, f5]
  intro k hk
  rw [e94 _ (by omega), e94 _ (by omega), e94 _ (by omega), e94 _ (by omega), e94 _ (by omega)]
  exact h k hk
theorem RH.up (hR : RNG V) (h : RH V 1 18 94) (e1 : W 1 0 = V 1 0) (e : ∀ c, 18 ≤ c → c ≤ 22 → W c = V c) (e94 : ∀ p, (3 ≤ p ∧ p ≤ 6) ∨ (800 ≤ p ∧ p < 810) ∨ (840 ≤ p ∧ p < 846) ∨ (850 ≤ p ∧ p < 874) ∨ (880 ≤ p ∧ p < 888) → W 94 p = V 94 p) : RH W 1 18 94 := by
  have hS : 0 ≤ V 18 2 ∧ V 18 2 ≤ 10 := hR 18 2 (by decide) (by decide)
  have hH : 0 ≤ V 18 3 ∧ V 18 3 ≤ 8 := hR 18 3 (by decide) (by decide)
  have f0 : W 18 = V 18 := e 18 (by omega) (by omega)
  have f1 : W (18 + 1) = V (18 + 1) := e 19 (by omega) (by omega)
  have f2 : W (18 + 2) = V (18 + 2) := e 20 (by omega) (by omega)
  have f3 : W (18 + 3) = V (18 + 3) := e 21 (by omega) (by omega)
  have f4 : W (18 + 4) = V (18 + 4) := e 22 (by omega) (by omega)
  unfold RH at h ⊢
  rw [e1, f0, f1, f2, f3, f4, e94 3 (by omega), e94 4 (by omega), e94 5 (by omega), e94 6 (by omega)]
  refine ⟨h.1, fun k hk => ?_, fun s hs => ?_, fun k hk => ?_⟩
  · rw [e94 _ (by omega)]; exact h.2.1 k hk
  · obtain ⟨b1, b2⟩ := h.2.2.1 s hs
    have h3 : 0 ≤ V (18 + 3) s ∧ V (18 + 3) s ≤ 4 := hR 21 s (by decide) (by decide)
    rw [e94 _ (by omega)]
    exact ⟨b1, fun k hk => by rw [e94 _ (by omega)]; exact b2 k hk⟩
  · rw [e94 _ (by omega)]; exact h.2.2.2 k hk
theorem CA.up0 (h : CA V) (e1 : W 1 = V 1) (e2 : W 2 = V 2) (e3 : W 3 = V 3) (e4 : W 4 = V 4) (e71 : W 71 = V 71) : ∀ a b, a < 24 → b < 24 → W 71 (a * 24 + b) = -1 ∨ W 71 (a * 24 + b) = FAR W a b := by
  intro a b ha hb
  rw [e71, FAR_fr e1 e2 e3 e4]
  exact h.1 a b ha hb
theorem CA.up (h : CA V) (e1 : W 1 = V 1) (e2 : W 2 = V 2) (e3 : W 3 = V 3) (e4 : W 4 = V 4) (e71 : W 71 = V 71) (e81 : W 81 = V 81) : CA W := ⟨h.up0 e1 e2 e3 e4 e71, fun x hx => by rw [e81]; exact h.2 x hx⟩
/-- after some FARs were forgotten -/
theorem CA.fg0 (hR : RNG V) (h : CA V) {l : Nat} (e1 : ∀ p, 2 ≤ p → p < 6 → W 1 p = V 1 p) (e2 : ∀ x j, x ≠ l → j < 6 → W 2 (x * 6 + j) = V 2 (x * 6 + j)) (e3 : ∀ x, x ≠ l → W 3 x = V 3 x) (e4 : ∀ x, x ≠ l → W 4 x = V 4 x) (e71 : ∀ a b, a < 24 → b < 24 → (a = l ∨ b = l → W 71 (a * 24 + b) = -1) ∧ (¬ (a = l ∨ b = l) → W 71 (a * 24 + b) = V 71 (a * 24 + b))) : ∀ a b, a < 24 → b < 24 → W 71 (a * 24 + b) = -1 ∨ W 71 (a * 24 + b) = FAR W a b := by
  intro a b ha hb
  by_cases q : a = l ∨ b = l
  · exact Or.inl ((e71 a b ha hb).1 q)
  · rw [(e71 a b ha hb).2 q]
    have hF : FAR W a b = FAR V a b := by
      have h3a : 0 ≤ V 3 a ∧ V 3 a ≤ 6 := hR 3 a (by decide) (by decide)
      have h3b : 0 ≤ V 3 b ∧ V 3 b ≤ 6 := hR 3 b (by decide) (by decide)
      unfold FAR FARp
      rw [e3 a (by omega), e3 b (by omega), e4 a (by omega), e4 b (by omega), e1 4 (by omega) (by omega), e1 5 (by omega) (by omega)]
      have : GN (gF W (lkc W a) (lkc W b)) (V 3 b).toNat (V 3 a).toNat (2 ^ (V 3 b).toNat - 1) = GN (gF V (lkc V a) (lkc V b)) (V 3 b).toNat (V 3 a).toNat (2 ^ (V 3 b).toNat - 1) := by
        refine GN_cg (fun i j hi hj => ?_) _
        unfold gF gpr okF csF lkc
        rw [e2 a i (by omega) (by omega), e2 b j (by omega) (by omega), e1 2 (by omega) (by omega), e1 3 (by omega) (by omega), e1 4 (by omega) (by omega)]
      rw [this]
    rw [hF]
    exact h.1 a b ha hb
theorem CA.fg (hR : RNG V) (h : CA V) {l : Nat} (e1 : ∀ p, 2 ≤ p → p < 6 → W 1 p = V 1 p) (e2 : ∀ x j, x ≠ l → j < 6 → W 2 (x * 6 + j) = V 2 (x * 6 + j)) (e3 : ∀ x, x ≠ l → W 3 x = V 3 x) (e4 : ∀ x, x ≠ l → W 4 x = V 4 x) (e71 : ∀ a b, a < 24 → b < 24 → (a = l ∨ b = l → W 71 (a * 24 + b) = -1) ∧ (¬ (a = l ∨ b = l) → W 71 (a * 24 + b) = V 71 (a * 24 + b))) (e81 : W 81 = V 81) : CA W := ⟨CA.fg0 hR h e1 e2 e3 e4 e71, fun x hx => by rw [e81]; exact h.2 x hx⟩
end CH
