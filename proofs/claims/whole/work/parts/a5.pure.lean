/-! A CHOICE in the reference. -/
section CR
variable {L d : Nat} {xs : Nat → Int32} {B V : Nat → Nat → Int} {J : Nat → Nat → Int64} {tg : Option Nat}
theorem md_s {M p : Nat} (h : 1 ≤ M ∧ M ≤ 4) : (p % M + 1 < M → (p + 1) / M = p / M ∧ (p + 1) % M = p % M + 1) ∧ (¬ p % M + 1 < M → (p + 1) / M = p / M + 1 ∧ (p + 1) % M = 0 ∧ p % M + 1 = M) := by
  have : M = 1 ∨ M = 2 ∨ M = 3 ∨ M = 4 := by omega
  rcases this with rfl | rfl | rfl | rfl <;> omega
theorem slot_m (hI : INV B) (q : Qy B V) {s : Nat} (hs : s < 6) : V 94 (840 + s) = (mN B s : Nat) ∧ ∀ k, k < mN B s → V 94 (850 + 4 * s + k) = B 20 (s * 4 + k) := by
  have h := (hI.q q).2.1.2.2.2.2.2.2.2.2.1 s hs
  have e := mN_eq hI.1 s
  have h1 : V 94 (840 + s) = V 21 s := h.1
  rw [q.1 21 (by omega), e] at h1
  refine ⟨h1, fun k hk => ?_⟩
  have h2 : V 94 (850 + 4 * s + k) = V 20 (s * 4 + k) := (h.2 k (by show (k : Int) < V 21 s; rw [q.1 21 (by omega), e]; omega)).1
  rw [h2, q.1 20 (by omega)]
/-- a frame for what choose works in -/
def CF (V W : Nat → Nat → Int) : Prop := (∀ c, c ≠ 93 → c ≠ 97 → c ≠ 98 → ¬ (106 ≤ c ∧ c ≤ 108) → W c = V c) ∧ ∀ p, p ≠ 32 → W 93 p = V 93 p
theorem CF.rf : CF V V := ⟨fun _ _ _ _ _ => rfl, fun _ _ => rfl⟩
theorem CF.tr {U W : Nat → Nat → Int} (h : CF U V) (k : CF V W) : CF U W := ⟨fun c q1 q2 q3 q4 => (k.1 c q1 q2 q3 q4).trans (h.1 c q1 q2 q3 q4), fun p hp => (k.2 p hp).trans (h.2 p hp)⟩
theorem Qy.cf {W : Nat → Nat → Int} (q : Qy B V) (f : CF V W) : Qy B W := ⟨fun c h => by rw [f.1 c (by omega) (by omega) (by omega) (by omega)]; exact q.1 c h, fun p h => by rw [f.1 94 (by omega) (by omega) (by omega) (by omega)]; exact q.2.1 p h, fun p h => by rw [f.2 p (by omega)]; exact q.2.2.1 p h, q.2.2.2.up (f.1 1 (by omega) (by omega) (by omega) (by omega)) (f.1 2 (by omega) (by omega) (by omega) (by omega)) (f.1 3 (by omega) (by omega) (by omega) (by omega)) (f.1 4 (by omega) (by omega) (by omega) (by omega)) (f.1 71 (by omega) (by omega) (by omega) (by omega)) (f.1 81 (by omega) (by omega) (by omega) (by omega))⟩
theorem CF.u {V W : Nat → Nat → Int} (h : CF V W) {c p : Nat} {z : Int} (hc : c = 106 ∨ c = 107 ∨ c = 108 ∨ (c = 93 ∧ p = 32)) : CF V (up2 W c p z) := by
  refine ⟨fun x q1 q2 q3 q4 => by rw [w_ne _ _ _ _ (by omega)]; exact h.1 x q1 q2 q3 q4, fun x hx => ?_⟩
  by_cases e : c = 93
  · subst e
    rw [w_at, if_neg (by omega)]; exact h.2 x hx
  · rw [w_nc _ _ _ _ (by omega)]; exact h.2 x hx
/-- nextChoice -/
theorem m_265 (hI : INV B) : ∀ s {p : Nat} {V : Nat → Nat → Int} {x1 : Int32}, s ≤ 6 → Qy B V → p < pr (mN B) s → (∀ t, t < s → V 106 t = pd (mN B) s p t) → ∃ W, CF V W ∧ (∀ c, c ≠ 106 → W c = V c) ∧ (∀ t, s ≤ t → W 106 t = V 106 t) ∧ ((p + 1 < pr (mN B) s ∧ (∀ t, t < s → W 106 t = pd (mN B) s (p + 1) t) ∧ Runs (GW L xs) d 265 (2, [.ref 93, .int x1, (Value.int (Int32.ofInt ((s : Int) - 1)))], [], zS (eV V) J tg) (some (Value.int (Int32.ofInt (1))), zS (eV W) J tg)) ∨ (p + 1 = pr (mN B) s ∧ (∀ t, t < s → W 106 t = 0) ∧ Runs (GW L xs) d 265 (2, [.ref 93, .int x1, (Value.int (Int32.ofInt ((s : Int) - 1)))], [], zS (eV V) J tg) (some (Value.int (Int32.ofInt (0))), zS (eV W) J tg)))
  | 0, p, V, x1, hs, q, hp, h => by
    refine ⟨V, CF.rf, fun _ _ => rfl, fun _ _ => rfl, Or.inr ⟨?_, fun t ht => by omega, ?_⟩⟩
    · have hp : p < 1 := hp
      show p + 1 = 1
      omega
    · apply sg_265_2
      rw [if_pos (by decide)]
      rfl
  | s + 1, p, V, x1, hs, q, hp, h => by
    have hm := mN_le hI.1
    have hM := mm_rg hm s
    obtain ⟨md1, md2⟩ := md_s (p := p) hM
    obtain ⟨e1, -⟩ := slot_m hI q (s := s) (by omega)
    have hpq := pr_dv hm hp
    have hs1 := h s (by omega)
    rw [pd_eq] at hs1
    have hlt : ∀ t, t < s → V 106 t = pd (mN B) s (p / mm (mN B) s) t := fun t ht => by rw [h t (by omega), pd_lt ht]
    have hpr : pr (mN B) (s + 1) = pr (mN B) s * mm (mN B) s := rfl
    have ex : ((s + 1 : Nat) : Int) - 1 = (s : Int) := by omega
    rw [ex]
    have hmod := Nat.mod_lt p (show 0 < mm (mN B) s by omega)
    have hdm := Nat.div_add_mod p (mm (mN B) s)
    by_cases g : mN B s = 0
    · have hM1 : mm (mN B) s = 1 := if_pos g
      rw [hM1, Nat.div_one] at hpq hlt
      rw [hM1] at hs1
      rw [hM1, Nat.mul_one] at hpr
      have hs0 : V 106 s = 0 := by rw [hs1]; omega
      obtain ⟨W, w1, w2, w3, w4⟩ := m_265 hI s (p := p) (V := V) (x1 := x1) (by omega) q hpq hlt
      have go : ∀ r, Runs (GW L xs) d 265 (2, [.ref 93, .int x1, (Value.int (Int32.ofInt ((s : Int) - 1)))], [], zS (eV V) J tg) r → Runs (GW L xs) d 265 (2, [.ref 93, .int x1, (Value.int (Int32.ofInt (s)))], [], zS (eV V) J tg) r := fun r hr => by
        apply sg_265_2
        rw [g] at e1
        simp (disch := omega) only [e1, eV_at, eV_up, o_lit2, o_add, o_sub, o_mul, o_neg, o_div, o_nat, ix_t, o_lt, o_le, o_eq, o_bi0, o_bi1, o_bib, em_t, o_neg1, o_shl, o_tb, o_tb0, o_tt, o_and, o_xor, o_or, o_max, o_min, an_tb, and_true, true_and, not_true, not_false, if_true, if_false, tn_add, tn_mul, Int.reduceToNat, tn_cast, md_x]
        rw [if_neg (by omega), if_pos (by omega), show (s : Int) + -1 = (s : Int) - 1 by omega]
        exact hr
      refine ⟨W, w1, w2, fun t ht => w3 t (by omega), ?_⟩
      rcases w4 with ⟨a1, a2, a3⟩ | ⟨a1, a2, a3⟩
      · refine Or.inl ⟨by omega, fun t ht => ?_, go _ a3⟩
        by_cases et : t = s
        · subst et
          rw [pd_eq, hM1, w3 t (by omega), hs0]; omega
        · rw [pd_lt (by omega), hM1, Nat.div_one]; exact a2 t (by omega)
      · refine Or.inr ⟨by omega, fun t ht => ?_, go _ a3⟩
        by_cases et : t = s
        · subst et; rw [w3 t (by omega), hs0]
        · exact a2 t (by omega)
    · have hM1 : mm (mN B) s = mN B s := if_neg g
      have hms := hm s
      rw [hM1] at hs1 md1 md2 hpq hlt hpr hmod hdm
      have up1 : V 106 s + 1 = ((p % mN B s + 1 : Nat) : Int) := by omega
      by_cases c : p % mN B s + 1 < mN B s
      · obtain ⟨m1, m2⟩ := md1 c
        refine ⟨up2 V 106 s (p % mN B s + 1 : Nat), CF.rf.u (by omega), fun c hc => w_ne _ _ _ _ hc, fun t ht => by rw [w_at, if_neg (by omega)], Or.inl ⟨?_, fun t ht => ?_, ?_⟩⟩
        · rw [hpr]
          have hle : (p / mN B s + 1) * mN B s ≤ pr (mN B) s * mN B s := Nat.mul_le_mul_right _ hpq
          rw [Nat.succ_mul, Nat.mul_comm] at hle
          omega
        · rw [w_at]
          by_cases et : t = s
          · subst et; rw [if_pos rfl, pd_eq, hM1, m2]
          · rw [if_neg et, pd_lt (by omega), hM1, m1]; exact hlt t (by omega)
        · apply sg_265_2
          simp (disch := omega) only [e1, up1, w_eq, eV_at, eV_up, o_lit2, o_add, o_sub, o_mul, o_neg, o_div, o_nat, ix_t, o_lt, o_le, o_eq, o_bi0, o_bi1, o_bib, em_t, o_neg1, o_shl, o_tb, o_tb0, o_tt, o_and, o_xor, o_or, o_max, o_min, an_tb, and_true, true_and, not_true, not_false, if_true, if_false, tn_add, tn_mul, Int.reduceToNat, tn_cast, md_x]
          rw [if_neg (by omega), if_neg (by omega), if_neg (by omega)] <;> first | rfl | trivial
      · obtain ⟨m1, m2, m3⟩ := md2 c
        have qA : Qy B (up2 (up2 V 106 s (p % mN B s + 1 : Nat)) 106 s 0) := q.cf ((CF.rf.u (by omega)).u (by omega))
        obtain ⟨W, w1, w2, w3, w4⟩ := m_265 hI s (p := p / mN B s) (V := up2 (up2 V 106 s (p % mN B s + 1 : Nat)) 106 s 0) (x1 := x1) (by omega) qA hpq (fun t ht => by rw [w_at, if_neg (by omega), w_at, if_neg (by omega)]; exact hlt t ht)
        have go : ∀ r, Runs (GW L xs) d 265 (2, [.ref 93, .int x1, (Value.int (Int32.ofInt ((s : Int) - 1)))], [], zS (eV (up2 (up2 V 106 s (p % mN B s + 1 : Nat)) 106 s 0)) J tg) r → Runs (GW L xs) d 265 (2, [.ref 93, .int x1, (Value.int (Int32.ofInt (s)))], [], zS (eV V) J tg) r := fun r hr => by
          apply sg_265_2
          simp (disch := omega) only [e1, up1, w_eq, eV_at, eV_up, o_lit2, o_add, o_sub, o_mul, o_neg, o_div, o_nat, ix_t, o_lt, o_le, o_eq, o_bi0, o_bi1, o_bib, em_t, o_neg1, o_shl, o_tb, o_tb0, o_tt, o_and, o_xor, o_or, o_max, o_min, an_tb, and_true, true_and, not_true, not_false, if_true, if_false, tn_add, tn_mul, Int.reduceToNat, tn_cast, md_x]
          rw [if_neg (by omega), if_neg (by omega), if_pos (by omega), show (s : Int) + -1 = (s : Int) - 1 by omega]
          exact hr
        have hWs : W 106 s = 0 := by rw [w3 s (by omega), w_eq]
        refine ⟨W, ((CF.rf.u (by omega)).u (by omega)).tr w1, fun c hc => by rw [w2 c hc, w_ne _ _ _ _ hc, w_ne _ _ _ _ hc], fun t ht => by rw [w3 t (by omega), w_at, if_neg (by omega), w_at, if_neg (by omega)], ?_⟩
        rcases w4 with ⟨a1, a2, a3⟩ | ⟨a1, a2, a3⟩
        · refine Or.inl ⟨?_, fun t ht => ?_, go _ a3⟩
          · rw [hpr]
            have hle : (p / mN B s + 1 + 1) * mN B s ≤ pr (mN B) s * mN B s := Nat.mul_le_mul_right _ a1
            rw [Nat.succ_mul, Nat.succ_mul, Nat.mul_comm] at hle
            omega
          · by_cases et : t = s
            · subst et; rw [pd_eq, hM1, m2, hWs]; rfl
            · rw [pd_lt (by omega), hM1, m1]; exact a2 t (by omega)
        · refine Or.inr ⟨?_, fun t ht => ?_, go _ a3⟩
          · rw [hpr, ← a1, Nat.succ_mul, Nat.mul_comm]
            omega
          · by_cases et : t = s
            · subst et; exact hWs
            · exact a2 t (by omega)
/-- the reference's own way to the least of all pairs -/
def rvi (m : Nat → Nat) (g : Nat → Nat → Int) (s : Nat) (acc : Int) : Nat → Int
  | 0 => acc
  | k + 1 => if m (s + 1 + k) = 0 then rvi m g s acc k else min (rvi m g s acc k) (g s (s + 1 + k))
def rvo (m : Nat → Nat) (g : Nat → Nat → Int) (S : Nat) : Nat → Int
  | 0 => 1000000
  | s + 1 => if m s = 0 then rvo m g S s else rvi m g s (rvo m g S s) (S - (s + 1))
theorem rvi_le {m : Nat → Nat} {g : Nat → Nat → Int} {s : Nat} {acc x : Int} : ∀ {k : Nat}, x ≤ rvi m g s acc k ↔ x ≤ acc ∧ ∀ t, s < t → t ≤ s + k → m t ≠ 0 → x ≤ g s t
  | 0 => by
    unfold rvi
    exact ⟨fun h => ⟨h, fun t h1 h2 => by omega⟩, fun h => h.1⟩
  | k + 1 => by
    unfold rvi
    by_cases e : m (s + 1 + k) = 0
    · rw [if_pos e, rvi_le (k := k)]
      refine ⟨fun h => ⟨h.1, fun t h1 h2 h3 => ?_⟩, fun h => ⟨h.1, fun t h1 h2 => h.2 t h1 (by omega)⟩⟩
      by_cases q : t = s + 1 + k
      · subst q; exact absurd e h3
      · exact h.2 t h1 (by omega) h3
    · rw [if_neg e, Int.le_min, rvi_le (k := k)]
      refine ⟨fun h => ⟨h.1.1, fun t h1 h2 h3 => ?_⟩, fun h => ⟨⟨h.1, fun t h1 h2 => h.2 t h1 (by omega)⟩, h.2 _ (by omega) (by omega) e⟩⟩
      by_cases q : t = s + 1 + k
      · subst q; exact h.2
      · exact h.1.2 t h1 (by omega) h3
theorem rvo_le {m : Nat → Nat} {g : Nat → Nat → Int} {S : Nat} {x : Int} : ∀ {n : Nat}, n ≤ S → (x ≤ rvo m g S n ↔ x ≤ 1000000 ∧ ∀ s, s < n → m s ≠ 0 → ∀ t, s < t → t < S → m t ≠ 0 → x ≤ g s t)
  | 0, _ => by
    unfold rvo
    exact ⟨fun h => ⟨h, fun s h1 => by omega⟩, fun h => h.1⟩
  | n + 1, hn => by
    unfold rvo
    have ih := rvo_le (m := m) (g := g) (S := S) (x := x) (n := n) (by omega)
    by_cases e : m n = 0
    · rw [if_pos e, ih]
      refine ⟨fun h => ⟨h.1, fun s h1 h2 => ?_⟩, fun h => ⟨h.1, fun s h1 => h.2 s (by omega)⟩⟩
      by_cases q : s = n
      · subst q; exact absurd e h2
      · exact h.2 s (by omega) h2
    · rw [if_neg e, rvi_le, ih]
      refine ⟨fun h => ⟨h.1.1, fun s h1 h2 t h3 h4 h5 => ?_⟩, fun h => ⟨⟨h.1, fun s h1 => h.2 s (by omega)⟩, fun t h1 h2 h3 => h.2 n (by omega) e t h1 (by omega) h3⟩⟩
      by_cases q : s = n
      · subst q; exact h.2 t h3 (by omega) h5
      · exact h.1.2 s (by omega) h2 t h3 h4 h5
theorem rvo_vv {m : Nat → Nat} {G : Nat → Nat → Nat → Nat → Int} {S p : Nat} : rvo m (fun s t => G s (pd m S p s) t (pd m S p t)) S S = vv m G S p := by
  have h : ∀ x, x ≤ rvo m (fun s t => G s (pd m S p s) t (pd m S p t)) S S ↔ x ≤ vv m G S p := fun x => by
    rw [rvo_le (Nat.le_refl _), vv_le]
    exact ⟨fun h => ⟨h.1, fun u t h1 h2 h3 h4 => h.2 t (by omega) h3 u h1 h2 h4⟩, fun h => ⟨h.1, fun s h1 h2 t h3 h4 h5 => h.2 t s h3 h4 h2 h5⟩⟩
  exact Int.le_antisymm ((h _).mp (Int.le_refl _)) ((h _).mpr (Int.le_refl _))
theorem rvi_rg {m : Nat → Nat} {g : Nat → Nat → Int} {s : Nat} {acc : Int} (hg : ∀ a b, 0 ≤ g a b ∧ g a b ≤ 2000) (ha : 0 ≤ acc ∧ acc ≤ 1000000) (k : Nat) : 0 ≤ rvi m g s acc k ∧ rvi m g s acc k ≤ 1000000 := ⟨rvi_le.mpr ⟨ha.1, fun t _ _ _ => (hg _ _).1⟩, Int.le_trans (rvi_le.mp (Int.le_refl _)).1 ha.2⟩
theorem rvo_rg {m : Nat → Nat} {g : Nat → Nat → Int} {S n : Nat} (hn : n ≤ S) (hg : ∀ a b, 0 ≤ g a b ∧ g a b ≤ 2000) : 0 ≤ rvo m g S n ∧ rvo m g S n ≤ 1000000 := ⟨(rvo_le hn).mpr ⟨by omega, fun s _ _ t _ _ _ => (hg _ _).1⟩, ((rvo_le hn).mp (Int.le_refl _)).1⟩
/-- drawingOf -/
theorem m_264 (hI : INV B) (q : Qy B V) {s j : Nat} (hs : s < 6) (h : V 106 s = j) (hj : j < mN B s) : Runs (GW L xs) (d) 264 (0, [.ref 93, (Value.int (Int32.ofInt (s)))], [], zS (eV (V)) J tg) (some (Value.int (Int32.ofInt (B 20 (s * 4 + j)))), zS (eV (V)) J tg) := by
  have hm := mN_le hI.1 s
  have e := (slot_m hI q hs).2 j hj
  have ex : (850 : Int) + 4 * (s : Int) + (j : Int) = ((850 + 4 * s + j : Nat) : Int) := by omega
  apply sg_264
  simp (disch := omega) only [h, ex, e, eV_at, eV_up, o_lit2, o_add, o_sub, o_mul, o_neg, o_div, o_nat, ix_t, o_lt, o_le, o_eq, o_bi0, o_bi1, o_bib, em_t, o_neg1, o_shl, o_tb, o_tb0, o_tt, o_and, o_xor, o_or, o_max, o_min, an_tb, and_true, true_and, not_true, not_false, if_true, if_false, tn_add, tn_mul, Int.reduceToNat, tn_cast, md_x]
end CR
