/-! The invariant of the two objects. -/
def mz (v : Int) : Int := if v = -1 then -1 else v + 12
abbrev toldZ (D T : Int) (l : Nat) : Prop := (l : Int) < D ∨ (12 ≤ l ∧ (l : Int) < 12 + T)
def RA (V : Nat → Nat → Int) (cl ca : Nat) : Prop := V ca 1 = V cl 0 ∧ V ca 2 = V cl 1 ∧ V ca 8 = V cl 2 ∧ V ca 9 = V cl 3 ∧ V ca 10 = V cl 4 ∧ V ca 11 = V cl 5
def RB (V : Nat → Nat → Int) (cl ca : Nat) : Prop := ∀ l : Nat, toldZ (V cl 0) (V cl 1) l → V ca (20 + 22 * l) = V (cl + 2) l ∧ V ca (20 + 22 * l + 1) = V (cl + 3) l ∧ ∀ j : Nat, (j : Int) < V (cl + 2) l → V ca (20 + 22 * l + (4 + j)) = V (cl + 1) (l * 6 + j)
def RC (V : Nat → Nat → Int) (cl cw ca : Nat) : Prop := ∀ l : Nat, (l : Int) < V cl 0 → V ca (20 + 22 * l + 2) = mz (V (cl + 4) l) ∧ V ca (20 + 22 * l + 3) = V (cl + 5) l ∧ ∀ k, k < 6 → V ca (600 + 6 * l + k) = V (cw + 5) (l * 6 + k)
def RD (V : Nat → Nat → Int) (cl cw : Nat) : Prop := (∀ l : Nat, l < 24 → ¬ toldZ (V cl 0) (V cl 1) l → V (cl + 2) l = 0 ∧ V (cl + 3) l = 0) ∧ ∀ l : Nat, l < 12 → ¬ (l : Int) < V cl 0 → V (cl + 4) l = -1 ∧ V (cl + 5) l = 0 ∧ ∀ k, k < 6 → V (cw + 5) (l * 6 + k) = 0
def RE (V : Nat → Nat → Int) (cl cw ca : Nat) : Prop := (V ca 12 = V cw 0 ∧ V ca 13 = V cw 1 ∧ V ca 14 = V cw 2 ∧ V ca 15 = V cw 3 ∧ V ca 0 = V cw 4 ∧ V ca 7 = V cw 5) ∧ (∀ k, k < 6 → V ca (680 + k) = V (cw + 1) k ∧ V ca (690 + k) = V (cw + 2) k ∧ V (cw + 2) k < (2 ^ (V cl 1).toNat : Nat)) ∧ (∀ k, k < 72 → V ca (700 + k) = V (cw + 3) k) ∧ ∀ k, k < 12 → V ca (780 + k) = V (cw + 4) k
def RF (V : Nat → Nat → Int) (cl cw ca : Nat) : Prop := ∀ k : Nat, (k : Int) < V cw 5 → (V ca (890 + 5 * k) = V (cw + 6) k ∧ V ca (890 + 5 * k + 1) = V (cw + 7) k ∧ V ca (890 + 5 * k + 2) = V (cw + 8) k ∧ V ca (890 + 5 * k + 3) = mz (V (cw + 9) k) ∧ V ca (890 + 5 * k + 4) = V (cw + 10) k) ∧ V (cw + 8) k < V cl 0 ∧ V (cw + 9) k < V cl 1
def RH (V : Nat → Nat → Int) (cl ci ca : Nat) : Prop := (V ca 3 = V ci 0 ∧ V ca 4 = V ci 1 ∧ V ca 5 = V ci 2 ∧ V ca 6 = V ci 3 ∧ V ci 1 < V ci 0) ∧ (∀ k : Nat, (k : Int) < V ci 2 → V ca (800 + k) = V (ci + 1) k) ∧ (∀ s, s < 6 → V ca (840 + s) = V (ci + 3) s ∧ ∀ k : Nat, (k : Int) < V (ci + 3) s → V ca (850 + 4 * s + k) = V (ci + 2) (s * 4 + k) ∧ V (ci + 2) (s * 4 + k) < V cl 0) ∧ ∀ k : Nat, (k : Int) < V ci 3 → V ca (880 + k) = V (ci + 4) k ∧ V (ci + 4) k < V cl 0
def REL (V : Nat → Nat → Int) (cl cw ci ca : Nat) : Prop := RA V cl ca ∧ RB V cl ca ∧ RC V cl cw ca ∧ RD V cl cw ∧ RE V cl cw ca ∧ RF V cl cw ca ∧ RH V cl ci ca
theorem REL.fr {V W : Nat → Nat → Int} {cl cw ci ca : Nat} (h : REL V cl cw ci ca) (e : ∀ c, (cl ≤ c ∧ c ≤ cl + 5) ∨ (cw ≤ c ∧ c ≤ cw + 10) ∨ (ci ≤ c ∧ c ≤ ci + 4) ∨ c = ca → W c = V c) : REL W cl cw ci ca := by
  have l0 := e cl (by omega)
  have l1 := e (cl + 1) (by omega)
  have l2 := e (cl + 2) (by omega)
  have l3 := e (cl + 3) (by omega)
  have l4 := e (cl + 4) (by omega)
  have l5 := e (cl + 5) (by omega)
  have a0 := e ca (by omega)
  have w0 := e cw (by omega)
  have w1 := e (cw + 1) (by omega)
  have w2 := e (cw + 2) (by omega)
  have w3 := e (cw + 3) (by omega)
  have w4 := e (cw + 4) (by omega)
  have w5 := e (cw + 5) (by omega)
  have w6 := e (cw + 6) (by omega)
  have w7 := e (cw + 7) (by omega)
  have w8 := e (cw + 8) (by omega)
  have w9 := e (cw + 9) (by omega)
  have wa := e (cw + 10) (by omega)
  have i0 := e ci (by omega)
  have i1 := e (ci + 1) (by omega)
  have i2 := e (ci + 2) (by omega)
  have i3 := e (ci + 3) (by omega)
  have i4 := e (ci + 4) (by omega)
  unfold REL RA RB RC RD RE RF RH at h ⊢
  rw [l0, l1, l2, l3, l4, l5, a0, w0, w1, w2, w3, w4, w5, w6, w7, w8, w9, wa, i0, i1, i2, i3, i4]
  exact h
/-- a byte with its sign -/
def sby (b : Int) : Int := if b < 128 then b else b - 256
def TP (V : Nat → Nat → Int) : Prop := (0 ≤ V 67 2 ∧ V 67 2 ≤ 300) ∧ V 93 7 = V 67 2 ∧ (∀ k : Nat, (k : Int) < V 67 2 → V 68 k = sby (V 100 k) ∧ 0 ≤ V 100 k ∧ V 100 k ≤ 255) ∧ ((V 67 3 = 0 ∧ V 93 11 = -1 ∧ V 93 12 = -1) ∨ (V 67 3 = 1 ∧ V 93 11 = V 67 4 ∧ V 93 12 = V 67 5 ∧ (0 ≤ V 67 4 ∧ V 67 4 ≤ 6) ∧ (-1 ≤ V 67 5 ∧ V 67 5 ≤ 300)))
/-- an operator's code in the class -/
def enc (o v : Int) : Int := if o = 0 then v else if o = 1 then 10000 + v else if o = 2 then 20021 else if o ≤ 5 then 20012 + o else if o ≤ 15 then 19999 + o else 20029 - o
def vop (o v : Int) : Prop := (o = 0 ∧ 0 ≤ v ∧ v ≤ 9999) ∨ (o = 1 ∧ 0 ≤ v ∧ v ≤ 11) ∨ (2 ≤ o ∧ o ≤ 5) ∨ (10 ≤ o ∧ o ≤ 15) ∨ (21 ≤ o ∧ o ≤ 22)
/-- truths and values behind n operators, if they are well put -/
def tyO (f : Nat → Int) : Nat → Option (Nat × Nat)
  | 0 => some (0, 0)
  | n + 1 => match tyO f n with
    | none => none
    | some (t, v) => if f n ≤ 1 then some (t, v + 1) else if f n = 2 then (if 1 ≤ v then some (t, v) else none) else if f n ≤ 5 then (if 2 ≤ v then some (t, v - 1) else none) else if f n ≤ 15 then (if v = 2 then some (t + 1, 0) else none) else (if 2 ≤ t ∧ v = 0 then some (t - 1, 0) else none)
/-- the k-th GRAMMAR, in the class and in the reference -/
def GRk (V : Nat → Nat → Int) (k : Nat) : Prop := (0 ≤ V (47 + 4 * k) 4 ∧ V (47 + 4 * k) 4 ≤ 10) ∧ V (47 + 4 * k + 3) 0 = 0 ∧ V 96 (800 * k) = V (47 + 4 * k) 4 ∧ (∀ i : Nat, (i : Int) < V (47 + 4 * k) 4 → (4 ≤ V (47 + 4 * k + 2) i ∧ V (47 + 4 * k + 2) i ≤ 6) ∧ V 96 (800 * k + 1 + 3 * i) = V (47 + 4 * k + 2) i - 3 ∧ V 96 (800 * k + 2 + 3 * i) = V (47 + 4 * k + 3) i ∧ V 96 (800 * k + 3 + 3 * i) = V (47 + 4 * k + 3) (i + 1) ∧ (0 ≤ V (47 + 4 * k + 3) i ∧ V (47 + 4 * k + 3) i ≤ V (47 + 4 * k + 3) (i + 1) ∧ V (47 + 4 * k + 3) (i + 1) ≤ 300) ∧ tyO (fun j => V 96 (800 * k + 50 + 2 * ((V (47 + 4 * k + 3) i).toNat + j))) ((V (47 + 4 * k + 3) (i + 1)).toNat - (V (47 + 4 * k + 3) i).toNat) = some (if V (47 + 4 * k + 2) i = 6 then (0, 1) else (1, 0)) ∧ ∀ w : Nat, V (47 + 4 * k + 3) i ≤ w → (w : Int) < V (47 + 4 * k + 3) (i + 1) → vop (V 96 (800 * k + 50 + 2 * w)) (V 96 (800 * k + 50 + 2 * w + 1)) ∧ (V (47 + 4 * k + 2) i ≠ 6 → V 96 (800 * k + 50 + 2 * w) = 1 → V 96 (800 * k + 50 + 2 * w + 1) ≤ 7) ∧ V (47 + 4 * k + 1) w = enc (V 96 (800 * k + 50 + 2 * w)) (V 96 (800 * k + 50 + 2 * w + 1))) ∧ ((V (47 + 4 * k) 6 = -1 ∧ ∀ i : Nat, (i : Int) < V (47 + 4 * k) 4 → V (47 + 4 * k + 2) i ≠ 6) ∨ (0 ≤ V (47 + 4 * k) 6 ∧ V (47 + 4 * k) 6 < V (47 + 4 * k) 4 ∧ ∀ i : Nat, (i : Int) < V (47 + 4 * k) 4 → (V (47 + 4 * k + 2) i = 6 ↔ (i : Int) = V (47 + 4 * k) 6)))
def GR (V : Nat → Nat → Int) : Prop := ((V 63 4 = 0 ∧ V 63 6 = -1) ∧ V 50 0 = 0 ∧ V 54 0 = 0 ∧ V 58 0 = 0 ∧ V 62 0 = 0) ∧ V 40 0 ≤ V 18 0 ∧ ∀ k : Nat, (k : Int) < V 18 0 → GRk V k
theorem GRk.fr {V W : Nat → Nat → Int} {k : Nat} (hk : k < 4) (h : GRk V k) (e : ∀ c, (46 ≤ c ∧ c ≤ 66) ∨ c = 96 → W c = V c) : GRk W k := by
  have a0 := e (47 + 4 * k) (by omega)
  have a1 := e (47 + 4 * k + 1) (by omega)
  have a2 := e (47 + 4 * k + 2) (by omega)
  have a3 := e (47 + 4 * k + 3) (by omega)
  have a4 := e 96 (by omega)
  unfold GRk at h ⊢
  rw [a0, a1, a2, a3, a4]
  exact h
theorem GR.fr {V W : Nat → Nat → Int} (hR : RNG V) (h : GR V) (e : ∀ c, (46 ≤ c ∧ c ≤ 66) ∨ c = 96 ∨ c = 18 ∨ c = 40 → W c = V c) : GR W := by
  have a0 := e 18 (by omega)
  have a1 := e 40 (by omega)
  have a2 := e 63 (by omega)
  have b0 := e 50 (by omega)
  have b1 := e 54 (by omega)
  have b2 := e 58 (by omega)
  have b3 := e 62 (by omega)
  have hb : 0 ≤ V 18 0 ∧ V 18 0 ≤ 4 := hR 18 0 (by decide) (by decide)
  unfold GR at h ⊢
  rw [a0, a1, a2, b0, b1, b2, b3]
  exact ⟨h.1, h.2.1, fun k hk => (h.2.2 k hk).fr (by omega) fun c hc => e c (by omega)⟩
theorem TP.fr {V W : Nat → Nat → Int} (h : TP V) (e : ∀ c, c = 67 ∨ c = 68 ∨ c = 100 → W c = V c) (e7 : W 93 7 = V 93 7) (e11 : W 93 11 = V 93 11) (e12 : W 93 12 = V 93 12) : TP W := by
  have a0 := e 67 (by omega)
  have a1 := e 68 (by omega)
  have a2 := e 100 (by omega)
  unfold TP at h ⊢
  rw [a0, a1, a2, e7, e11, e12]
  exact h
def INV (V : Nat → Nat → Int) : Prop := RNG V ∧ REL V 1 7 18 94 ∧ REL V 23 29 40 95 ∧ CA V ∧ TP V ∧ GR V
/-- what a query leaves as it was -/
def Qy (V W : Nat → Nat → Int) : Prop := (∀ c, (c ≤ 44 ∨ (46 ≤ c ∧ c ≤ 68) ∨ c = 95 ∨ c = 96 ∨ c = 100) → W c = V c) ∧ (∀ p, ¬ (548 ≤ p ∧ p < 570) → W 94 p = V 94 p) ∧ (∀ p, p ≤ 12 → W 93 p = V 93 p) ∧ CA W
theorem Qy.rf {V : Nat → Nat → Int} (h : CA V) : Qy V V := ⟨fun _ _ => rfl, fun _ _ => rfl, fun _ _ => rfl, h⟩
theorem Qy.tr {U V W : Nat → Nat → Int} (h : Qy U V) (k : Qy V W) : Qy U W := ⟨fun c hc => (k.1 c hc).trans (h.1 c hc), fun p hp => (k.2.1 p hp).trans (h.2.1 p hp), fun p hp => (k.2.2.1 p hp).trans (h.2.2.1 p hp), k.2.2.2⟩
theorem REL.q {V W : Nat → Nat → Int} (hR : RNG V) (h : REL V 1 7 18 94) (q : Qy V W) : REL W 1 7 18 94 := by
  obtain ⟨q1, q2, -, -⟩ := q
  have hD : 0 ≤ V 1 0 ∧ V 1 0 ≤ 12 := hR 1 0 (by decide) (by decide)
  have hT : 0 ≤ V 1 1 ∧ V 1 1 ≤ 12 := hR 1 1 (by decide) (by decide)
  have hA : 0 ≤ V 7 5 ∧ V 7 5 ≤ 60 := hR 7 5 (by decide) (by decide)
  have hS : 0 ≤ V 18 2 ∧ V 18 2 ≤ 10 := hR 18 2 (by decide) (by decide)
  have hH : 0 ≤ V 18 3 ∧ V 18 3 ≤ 8 := hR 18 3 (by decide) (by decide)
  -- the class's cells first, then the reference's
  have e : ∀ c, c ≤ 44 → W c = V c := fun c hc => q1 c (by omega)
  obtain ⟨hA1, hB, hC, hDd, hE, hF, hH1⟩ := h
  refine ⟨?_, ?_, ?_, ?_, ?_, ?_, ?_⟩
  · unfold RA at hA1 ⊢
    rw [e 1 (by omega), q2 1 (by omega), q2 2 (by omega), q2 8 (by omega), q2 9 (by omega), q2 10 (by omega), q2 11 (by omega)]
    exact hA1
  · unfold RB at hB ⊢
    rw [e 1 (by omega), e (1 + 2) (by omega), e (1 + 3) (by omega), e (1 + 1) (by omega)]
    intro l hl
    have h3 : 0 ≤ V (1 + 2) l ∧ V (1 + 2) l ≤ 6 := hR 3 l (by decide) (by decide)
    obtain ⟨b1, b2, b3⟩ := hB l hl
    rw [q2 _ (by omega), q2 _ (by omega)]
    exact ⟨b1, b2, fun j hj => by rw [q2 _ (by omega)]; exact b3 j hj⟩
  · unfold RC at hC ⊢
    rw [e 1 (by omega), e (1 + 4) (by omega), e (1 + 5) (by omega), e (7 + 5) (by omega)]
    intro l hl
    obtain ⟨b1, b2, b3⟩ := hC l hl
    rw [q2 _ (by omega), q2 _ (by omega)]
    exact ⟨b1, b2, fun j hj => by rw [q2 _ (by omega)]; exact b3 j hj⟩
  · unfold RD at hDd ⊢
    rw [e 1 (by omega), e (1 + 2) (by omega), e (1 + 3) (by omega), e (1 + 4) (by omega), e (1 + 5) (by omega), e (7 + 5) (by omega)]
    exact hDd
  · unfold RE at hE ⊢
    rw [e 1 (by omega), e 7 (by omega), e (7 + 1) (by omega), e (7 + 2) (by omega), e (7 + 3) (by omega), e (7 + 4) (by omega), q2 12 (by omega), q2 13 (by omega), q2 14 (by omega), q2 15 (by omega), q2 0 (by omega), q2 7 (by omega)]
    refine ⟨hE.1, fun k hk => ?_, fun k hk => ?_, fun k hk => ?_⟩
    · rw [q2 _ (by omega), q2 _ (by omega)]; exact hE.2.1 k hk
    · rw [q2 _ (by omega)]; exact hE.2.2.1 k hk
    · rw [q2 _ (by omega)]; exact hE.2.2.2 k hk
  · unfold RF at hF ⊢
    rw [e 1 (by omega), e 7 (by omega), e (7 + 6) (by omega), e (7 + 7) (by omega), e (7 + 8) (by omega), e (7 + 9) (by omega), e (7 + 10) (by omega)]
    intro k hk
    rw [q2 _ (by omega), q2 _ (by omega), q2 _ (by omega), q2 _ (by omega), q2 _ (by omega)]
    exact hF k hk
  · unfold RH at hH1 ⊢
    rw [e 1 (by omega), e 18 (by omega), e (18 + 1) (by omega), e (18 + 2) (by omega), e (18 + 3) (by omega), e (18 + 4) (by omega), q2 3 (by omega), q2 4 (by omega), q2 5 (by omega), q2 6 (by omega)]
    refine ⟨hH1.1, fun k hk => ?_, fun s hs => ?_, fun k hk => ?_⟩
    · rw [q2 _ (by omega)]; exact hH1.2.1 k hk
    · obtain ⟨b1, b2⟩ := hH1.2.2.1 s hs
      have h3 : 0 ≤ V (18 + 3) s ∧ V (18 + 3) s ≤ 4 := hR 21 s (by decide) (by decide)
      rw [q2 _ (by omega)]
      exact ⟨b1, fun k hk => by rw [q2 _ (by omega)]; exact b2 k hk⟩
    · rw [q2 _ (by omega)]; exact hH1.2.2.2 k hk
theorem INV.q {V W : Nat → Nat → Int} (h : INV V) (q : Qy V W) : INV W := by
  obtain ⟨hR, h1, h2, h3, h4, h5⟩ := h
  refine ⟨hR.fr fun c hc => q.1 c (by omega), h1.q hR q, h2.fr fun c hc => q.1 c (by omega), q.2.2.2, h4.fr (fun c hc => q.1 c (by omega)) (q.2.2.1 7 (by omega)) (q.2.2.1 11 (by omega)) (q.2.2.1 12 (by omega)), h5.fr hR fun c hc => q.1 c (by omega)⟩
