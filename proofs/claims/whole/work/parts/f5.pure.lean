/-! A text read: the GRAMMAR in both. -/
theorem tyO_c2 {f g : Nat → Int} : ∀ n, (∀ j, j < n → f j = g j) → tyO f n = tyO g n
  | 0, _ => rfl
  | n + 1, h => by
    unfold tyO
    rw [tyO_c2 n (fun j hj => h j (by omega)), h n (by omega)]
theorem GRk.f2 {V W : Nat → Nat → Int} {k : Nat} (h : GRk V k) (e : ∀ c, 47 + 4 * k ≤ c → c ≤ 47 + 4 * k + 3 → W c = V c) (e96 : ∀ x, x < 800 * (k + 1) → W 96 x = V 96 x) : GRk W k := by
  have c0 := e (47 + 4 * k) (by omega) (by omega)
  have c1 := e (47 + 4 * k + 1) (by omega) (by omega)
  have c2 := e (47 + 4 * k + 2) (by omega) (by omega)
  have c3 := e (47 + 4 * k + 3) (by omega) (by omega)
  unfold GRk at h ⊢
  rw [c0, c1, c2, c3]
  obtain ⟨a1, a2, a3, a4, a5⟩ := h
  refine ⟨a1, a2, by rw [e96 _ (by omega)]; exact a3, fun i hi => ?_, a5⟩
  obtain ⟨b1, b2, b3, b4, b5, b6, b7⟩ := a4 i hi
  refine ⟨b1, by rw [e96 _ (by omega)]; exact b2, by rw [e96 _ (by omega)]; exact b3, by rw [e96 _ (by omega)]; exact b4, b5, ?_, fun w h1 h2 => ?_⟩
  · rw [← b6]
    refine tyO_c2 _ fun j hj => ?_
    exact e96 _ (by omega)
  · rw [e96 _ (by omega), e96 _ (by omega)]
    exact b7 w h1 h2
theorem ty_sk {E : Nat → Int} {t : Nat} {m : Cd} : ∀ {c : Cd}, Sk2 E t (c ++ m) → tyO (fun j => E (t + 2 * (m.length + j))) c.length = tyL c
  | [], _ => rfl
  | x :: c, h => by
    have h1 : E (t + 2 * (c ++ m).length) = x.1 := h.1.1
    rw [List.length_append, Nat.add_comm c.length] at h1
    have ih := ty_sk (c := c) h.2
    rw [List.length_cons]
    unfold tyO tyL
    rw [ih, h1]
    cases tyL c with
    | none => rfl
    | some q => rfl
theorem el_sk {A E : Nat → Int} {t : Nat} {m : Cd} : ∀ {c : Cd}, SkF en1 A (c ++ m) → Sk2 E t (c ++ m) → ∀ w, m.length ≤ w → w < (c ++ m).length → ∃ x ∈ c, E (t + 2 * w) = x.1 ∧ E (t + 2 * w + 1) = x.2 ∧ A w = en1 x
  | [], _, _, w, h1, h2 => by
    have h2 : w < m.length := h2
    omega
  | x :: c, hA, hE, w, h1, h2 => by
    by_cases e : w = (c ++ m).length
    · subst e
      exact ⟨x, List.mem_cons_self .., hE.1.1, hE.1.2, hA.1⟩
    · have h2 : w < (c ++ m).length + 1 := h2
      obtain ⟨y, y1, y2⟩ := el_sk (c := c) hA.2 hE.2 w h1 (by omega)
      exact ⟨y, List.mem_cons_of_mem _ y1, y2⟩
theorem Sk2.suf {E : Nat → Int} {t : Nat} {m : Cd} : ∀ {l : Cd}, Sk2 E t (l ++ m) → Sk2 E t m
  | [], h => h
  | _ :: _, h => Sk2.suf h.2
theorem CCl.st {V : Nat → Nat → Int} {C : Nat} : ∀ {l : List (Int × Cd)}, CCl V C l → V (C + 3) l.length = ((fl l).length : Nat)
  | [], h => h
  | _ :: _, h => h.1.2
theorem cl_at {V : Nat → Nat → Int} {C t : Nat} {hc : Int} : ∀ {cl : List (Int × Cd)}, CCl V C cl → RCl (V 96) t cl → HCl hc cl → SkF en1 (V (C + 1)) (fl cl) → Sk2 (V 96) (t + 50) (fl cl) → ∀ i, i < cl.length → ∃ (c : Int × Cd) (l : List (Int × Cd)), l.length = i ∧ CCl V C (c :: l) ∧ RCl (V 96) t (c :: l) ∧ HCl hc (c :: l) ∧ SkF en1 (V (C + 1)) (c.2 ++ fl l) ∧ Sk2 (V 96) (t + 50) (c.2 ++ fl l) ∧ (c.2 ++ fl l).length ≤ (fl cl).length
  | [], _, _, _, _, _, i, hi => absurd hi (Nat.not_lt_zero _)
  | c :: l, h1, h2, h3, h4, h5, i, hi => by
    by_cases e : i = l.length
    · exact ⟨c, l, e.symm, h1, h2, h3, h4, h5, Nat.le_refl _⟩
    · rw [List.length_cons] at hi
      obtain ⟨c', l', g1, g2, g3, g4, g5, g6, g7⟩ := cl_at (cl := l) h1.2 h2.2 h3.2 (SkF.suf (l := c.2) h4) (Sk2.suf (l := c.2) h5) i (by omega)
      refine ⟨c', l', g1, g2, g3, g4, g5, g6, Nat.le_trans g7 ?_⟩
      show (fl l).length ≤ (c.2 ++ fl l).length
      rw [List.length_append]; omega
/-- the new GRAMMAR -/
theorem GRk.mk {V : Nat → Nat → Int} {K : Nat} {hc : Int} {cl : List (Int × Cd)} (h1 : CCl V (47 + 4 * K) cl) (h2 : RCl (V 96) (800 * K) cl) (h3 : HCl hc cl) (h4 : SkF en1 (V (47 + 4 * K + 1)) (fl cl)) (h5 : Sk2 (V 96) (800 * K + 50) (fl cl)) (h6 : V (47 + 4 * K) 4 = (cl.length : Nat)) (h7 : V (47 + 4 * K) 6 = hc) (h8 : V 96 (800 * K) = (cl.length : Nat)) (h9 : cl.length ≤ 10) (ha : (fl cl).length ≤ 300) (hb : hc = -1 ∨ (0 ≤ hc ∧ hc < (cl.length : Nat))) : GRk V K := by
  have hkind : ∀ i : Nat, i < cl.length → (V (47 + 4 * K + 2) i = 6 ↔ (i : Int) = hc) := fun i hi => by
    obtain ⟨c, l, g1, g2, g3, g4, g5, g6, g7⟩ := cl_at h1 h2 h3 h4 h5 i hi
    rw [← g1, g2.1.1]
    exact g4.1.2.1
  unfold GRk
  rw [h6]
  refine ⟨by omega, h1.z, h8, fun i hi => ?_, ?_⟩
  · obtain ⟨c, l, g1, g2, g3, g4, g5, g6, g7⟩ := cl_at h1 h2 h3 h4 h5 i (by omega)
    have k1 : V (47 + 4 * K + 2) i = c.1 := by rw [← g1]; exact g2.1.1
    have k2 : V (47 + 4 * K + 3) i = ((fl l).length : Nat) := by rw [← g1]; exact g2.2.st
    have k3 : V (47 + 4 * K + 3) (i + 1) = ((c.2 ++ fl l).length : Nat) := by rw [← g1]; exact g2.1.2
    have r1 : V 96 (800 * K + 1 + 3 * i) = c.1 - 3 := by rw [← g1]; exact g3.1.1
    have r2 : V 96 (800 * K + 2 + 3 * i) = ((fl l).length : Nat) := by rw [← g1]; exact g3.1.2.1
    have r3 : V 96 (800 * K + 3 + 3 * i) = ((c.2 ++ fl l).length : Nat) := by rw [← g1]; exact g3.1.2.2
    obtain ⟨⟨q1, q2, q3, q4⟩, -⟩ := g4
    have elen : (c.2 ++ fl l).length = c.2.length + (fl l).length := List.length_append
    rw [k1, k2, k3, r1, r2, r3]
    refine ⟨q1, rfl, rfl, rfl, ⟨by omega, by omega, by omega⟩, ?_, fun w w1 w2 => ?_⟩
    · have e1 : (((c.2 ++ fl l).length : Nat) : Int).toNat - (((fl l).length : Nat) : Int).toNat = c.2.length := by omega
      have e2 : (((fl l).length : Nat) : Int).toNat = (fl l).length := rfl
      rw [e1, e2, ← q3]
      exact ty_sk (c := c.2) (m := fl l) g6
    · obtain ⟨x, x1, x2, x3, x4⟩ := el_sk g5 g6 w (by omega) (by omega)
      obtain ⟨y1, y2⟩ := q4 x x1
      rw [x2, x3, x4]
      exact ⟨y1, y2, rfl⟩
  · rcases hb with e | e
    · rw [h7]
      refine Or.inl ⟨e, fun i hi => ?_⟩
      have := hkind i (by omega)
      omega
    · rw [h7]
      exact Or.inr ⟨e.1, e.2, fun i hi => hkind i (by omega)⟩
theorem sgc_128 {L d : Nat} {xs : Nat → Int32} (I : Nat → Nat → Int32) (J : Nat → Nat → Int64) (tg : Option Nat) {C : Nat} {k : Int} (hC : (C = 47 ∧ k = 0) ∨ (C = 51 ∧ k = 1) ∨ (C = 55 ∧ k = 2) ∨ (C = 59 ∧ k = 3)) (hk : I 18 0 = Int32.ofInt k) {r : Option Value × SS} (h : ∃ (v3 : Int32) (I4 : Nat → Nat → Int32), Runs (GW L xs) d 71 (0, [.ref 67, .ref C, vU], [], zS I J tg) (some (.int v3), zS I4 J (some C)) ∧ (if v3 = 0 then r = (some (.int (-1)), zS I4 J (some C)) else r = (some (.int (((I4 18 0) + 1) - 1)), zS (up2 I4 18 0 ((I4 18 0) + 1)) J (some C)))) : Runs (GW L xs) (d + 1) 128 (0, [.ref 0], [], zS I J tg) r := by
  rcases hC with ⟨rfl, rfl⟩ | ⟨rfl, rfl⟩ | ⟨rfl, rfl⟩ | ⟨rfl, rfl⟩
  · exact sg_128t47 I J tg (ite_p (by rw [hk]; decide) ⟨hk, h⟩)
  · exact sg_128t51 I J tg (ite_p (by rw [hk]; decide) ⟨hk, h⟩)
  · exact sg_128t55 I J tg (ite_p (by rw [hk]; decide) ⟨hk, h⟩)
  · exact sg_128t59 I J tg (ite_p (by rw [hk]; decide) ⟨hk, h⟩)
