/-! The best order: the reference and the case. -/
section OQ
variable {L d : Nat} {xs : Nat → Int32} {B V : Nat → Nat → Int} {J : Nat → Nat → Int64} {tg : Option Nat}
/-- rowRights -/
theorem m_276 (hI : INV B) (q : Qy B V) {st H : Nat} {s : Nat → Nat} (hst : st < 6) (hH : B 18 3 = H) (hs : ∀ k, k < H → V 109 k = s k ∧ s k < H) : ∃ W J2, OF V W ∧ W 109 = V 109 ∧ W 111 = V 111 ∧ Runs (GW L xs) (d + 7) 276 (0, [.ref 93, (Value.int (Int32.ofInt (st))), vU, vU, vU, vU], [], zS (eV (V)) (J) tg) (some (Value.int (Int32.ofInt (wol B st H s 6))), zS (eV (W)) (J2) tg) := by
  have r3 : 0 ≤ B 18 3 ∧ B 18 3 ≤ 8 := hI.1 18 3 (by decide) (by decide)
  obtain ⟨⟨W, J2⟩, ⟨i1, i2, i3⟩, hr⟩ := loopN (g := GW L xs) (d := d + 7) (mid := 276) (σ := (Nat → Nat → Int) × (Nat → Nat → Int64)) (fun ld σ => (4, [.ref 93, (Value.int (Int32.ofInt (st))), (Value.int (Int32.ofInt (wol B st H s ld))), (Value.int (Int32.ofInt (ld))), vU, vU], [], zS (eV σ.1) σ.2 tg)) (fun ld σ => OF V σ.1 ∧ σ.1 109 = V 109 ∧ σ.1 111 = V 111) 6 (by
    intro ld ⟨W, J⟩ hld ⟨i1, i2, i3⟩
    dsimp only at i1 i2 i3 ⊢
    have qW := q.of i1
    have r8 : 0 ≤ B 8 ld ∧ B 8 ld ≤ 99 := hI.1 8 ld (by decide) (by decide)
    have cells : ∀ X : Nat → Nat → Int, Qy B X → X 94 (680 + ld) = B 8 ld ∧ X 94 6 = H ∧ ∀ k, k < H → X 94 (880 + k) = (rowN B k : Nat) := fun X qX => by
      have hIX := hI.q qX
      refine ⟨?_, ?_, fun k hk => ?_⟩
      · have : X 94 (680 + ld) = X 8 ld := (hIX.2.1.2.2.2.2.1.2.1 ld hld).1
        rw [this, qX.1 8 (by omega)]
      · have : X 94 6 = X 18 3 := hIX.2.1.2.2.2.2.2.2.1.2.2.2.1
        rw [this, qX.1 18 (by omega), hH]
      · obtain ⟨w1, w2, w3⟩ := row_lt hI (pl := k) (by omega)
        have : X 94 (880 + k) = X 22 k := (hIX.2.1.2.2.2.2.2.2.2.2.2 k (by rw [qX.1 18 (by omega)]; omega)).1
        rw [this, qX.1 22 (by omega)]; exact w3
    have hws : wol B st H s (ld + 1) = wol B st H s ld + (if 0 < B 8 ld then orl B st ld H s H else 0) := rfl
    obtain ⟨f1, f2, -⟩ := cells W qW
    by_cases g : 0 < B 8 ld
    · rw [if_pos g] at hws
      rw [hws]
      obtain ⟨A, a1, a2, a3, a4, a5⟩ := m_273 (L := L) (xs := xs) (J := J) (tg := tg) (d := d) hI qW (ld := ld) (s := s) hst hH hld (fun k hk => ⟨by rw [i2]; exact (hs k hk).1, (hs k hk).2⟩)
      obtain ⟨⟨X, J2⟩, ⟨x1, x2, x3, x4⟩, hrX⟩ := loopN (g := GW L xs) (d := d + 7) (mid := 276) (σ := (Nat → Nat → Int) × (Nat → Nat → Int64)) (fun k σ => (35, [.ref 93, (Value.int (Int32.ofInt (st))), (Value.int (Int32.ofInt (wol B st H s ld + orl B st ld H s k))), (Value.int (Int32.ofInt (ld))), (Value.int (Int32.ofInt (k))), vU], [], zS (eV σ.1) σ.2 tg)) (fun k σ => OF V σ.1 ∧ σ.1 109 = V 109 ∧ σ.1 111 = V 111 ∧ ∀ j, j < H → σ.1 110 j = mz (rdo B st ld H s j)) H (by
        intro k ⟨X, J⟩ hk ⟨x1, x2, x3, x4⟩
        dsimp only at x1 x2 x3 x4 ⊢
        have qX := q.of x1
        obtain ⟨g1, g2, g3⟩ := cells X qX
        obtain ⟨s1, s2⟩ := hs k hk
        have s1 : X 109 k = s k := by rw [x2]; exact s1
        have e94 := g3 (s k) s2
        obtain ⟨w1, w2, w3⟩ := row_lt hI (pl := s k) (by omega)
        have hos : orl B st ld H s (k + 1) = orl B st ld H s k + (if okOr B st ld H s k then B 8 ld else 0) := rfl
        have hrk := rdo_rg hI st ld H s k
        have v110 := x4 k hk
        have km := m_246 (L := L) (xs := xs) (J := J) (tg := tg) (d := d + 6) hI qX (dr := rowN B (s k)) (ld := ld) w2 hld
        by_cases c1 : lrn B (rowN B (s k)) ld
        · refine ⟨(X, J), ⟨x1, x2, x3, x4⟩, fun r hr => ?_⟩
          rw [hos, if_pos (Or.inl c1), ← Int.add_assoc] at hr
          apply sg_276_35
          simp (disch := omega) only [g2, s1, e94, eV_at, eV_up, o_lit2, o_add, o_sub, o_mul, o_neg, o_div, o_nat, ix_t, o_lt, o_le, o_eq, o_bi0, o_bi1, o_bib, em_t, o_neg1, o_shl, o_tb, o_tb0, o_tt, o_and, o_xor, o_or, o_max, o_min, an_tb, and_true, true_and, not_true, not_false, if_true, if_false, tn_add, tn_mul, Int.reduceToNat, tn_cast, md_x]
          rw [if_neg (by omega)]
          refine ⟨_, _, _, km, ?_⟩
          rw [if_neg (b0o_f c1)]
          simp (disch := omega) only [g1, eV_at, eV_up, o_lit2, o_add, o_sub, o_mul, o_neg, o_div, o_nat, ix_t, o_lt, o_le, o_eq, o_bi0, o_bi1, o_bib, em_t, o_neg1, o_shl, o_tb, o_tb0, o_tt, o_and, o_xor, o_or, o_max, o_min, an_tb, and_true, true_and, not_true, not_false, if_true, if_false, tn_add, tn_mul, Int.reduceToNat, tn_cast, md_x]
          exact hr
        · obtain ⟨C, J1, y1, y2⟩ := m_245 (L := L) (xs := xs) (J := J) (tg := tg) (d := d + 1) hI qX (LKm_of hI qX w2) hrk
          have y2 : Runs (GW L xs) (d + 6) 245 (0, [.ref 93, (Value.int (Int32.ofInt (rowN B (s k)))), (Value.int (Int32.ofInt (mz (rdo B st ld H s k))))], [], zS (eV (X)) (J) tg) (some (Value.int (Int32.ofInt (bi (rt (B 5 (rowN B (s k))) (wdn B (rowN B (s k))) (B 6 (rowN B (s k))) (rdo B st ld H s k))))), zS (eV (C)) (J1) tg) := y2
          have fC : OF V C := x1.tr fun c _ q2 q3 _ => y1 c q2 q3
          obtain ⟨g1C, -, -⟩ := cells C (q.of fC)
          refine ⟨(C, J1), ⟨fC, by dsimp only; rw [y1 109 (by decide) (by decide)]; exact x2, by dsimp only; rw [y1 111 (by decide) (by decide)]; exact x3, fun j hj => by dsimp only; rw [y1 110 (by decide) (by decide)]; exact x4 j hj⟩, fun r hr => ?_⟩
          rw [hos, ← Int.add_assoc] at hr
          apply sg_276_35
          simp (disch := omega) only [g2, s1, e94, v110, eV_at, eV_up, o_lit2, o_add, o_sub, o_mul, o_neg, o_div, o_nat, ix_t, o_lt, o_le, o_eq, o_bi0, o_bi1, o_bib, em_t, o_neg1, o_shl, o_tb, o_tb0, o_tt, o_and, o_xor, o_or, o_max, o_min, an_tb, and_true, true_and, not_true, not_false, if_true, if_false, tn_add, tn_mul, Int.reduceToNat, tn_cast, md_x]
          rw [if_neg (by omega)]
          refine ⟨_, _, _, km, ?_⟩
          rw [if_pos (b0o_t c1)]
          simp (disch := omega) only [v110, eV_at, eV_up, o_lit2, o_add, o_sub, o_mul, o_neg, o_div, o_nat, ix_t, o_lt, o_le, o_eq, o_bi0, o_bi1, o_bib, em_t, o_neg1, o_shl, o_tb, o_tb0, o_tt, o_and, o_xor, o_or, o_max, o_min, an_tb, and_true, true_and, not_true, not_false, if_true, if_false, tn_add, tn_mul, Int.reduceToNat, tn_cast, md_x]
          refine ⟨_, _, _, y2, ?_⟩
          by_cases c2 : rt (B 5 (rowN B (s k))) (wdn B (rowN B (s k))) (B 6 (rowN B (s k))) (rdo B st ld H s k)
          · rw [if_pos (Or.inr c2)] at hr
            rw [if_neg (b0o_f c2)]
            simp (disch := omega) only [g1C, eV_at, eV_up, o_lit2, o_add, o_sub, o_mul, o_neg, o_div, o_nat, ix_t, o_lt, o_le, o_eq, o_bi0, o_bi1, o_bib, em_t, o_neg1, o_shl, o_tb, o_tb0, o_tt, o_and, o_xor, o_or, o_max, o_min, an_tb, and_true, true_and, not_true, not_false, if_true, if_false, tn_add, tn_mul, Int.reduceToNat, tn_cast, md_x]
            exact hr
          · rw [if_neg (fun h => h.elim c1 c2), Int.add_zero] at hr
            rw [if_pos (b0o_t c2)]
            exact hr) H 0 (A, J) (by omega) ⟨i1.tr a1, by dsimp only; rw [a2]; exact i2, by dsimp only; rw [a3]; exact i3, a4⟩
      dsimp only at x1 x2 x3 x4 hrX
      obtain ⟨-, g2, -⟩ := cells X (q.of x1)
      refine ⟨(X, J2), ⟨x1, x2, x3⟩, fun r hr => ?_⟩
      apply sg_276_4
      simp (disch := omega) only [f1, eV_at, eV_up, o_lit2, o_add, o_sub, o_mul, o_neg, o_div, o_nat, ix_t, o_lt, o_le, o_eq, o_bi0, o_bi1, o_bib, em_t, o_neg1, o_shl, o_tb, o_tb0, o_tt, o_and, o_xor, o_or, o_max, o_min, an_tb, and_true, true_and, not_true, not_false, if_true, if_false, tn_add, tn_mul, Int.reduceToNat, tn_cast, md_x]
      rw [if_neg (by omega), if_neg (by omega)]
      refine ⟨_, _, a5, ?_⟩
      have e0 : wol B st H s ld + orl B st ld H s 0 = wol B st H s ld := Int.add_zero _
      rw [e0] at hrX
      refine hrX _ ?_
      apply sg_276_35
      simp (disch := omega) only [g2, eV_at, eV_up, o_lit2, o_add, o_sub, o_mul, o_neg, o_div, o_nat, ix_t, o_lt, o_le, o_eq, o_bi0, o_bi1, o_bib, em_t, o_neg1, o_shl, o_tb, o_tb0, o_tt, o_and, o_xor, o_or, o_max, o_min, an_tb, and_true, true_and, not_true, not_false, if_true, if_false, tn_add, tn_mul, Int.reduceToNat, tn_cast, md_x]
      rw [if_pos (by omega)]
      exact hr
    · rw [if_neg g, Int.add_zero] at hws
      rw [hws]
      refine ⟨(W, J), ⟨i1, i2, i3⟩, fun r hr => ?_⟩
      apply sg_276_4
      simp (disch := omega) only [f1, eV_at, eV_up, o_lit2, o_add, o_sub, o_mul, o_neg, o_div, o_nat, ix_t, o_lt, o_le, o_eq, o_bi0, o_bi1, o_bib, em_t, o_neg1, o_shl, o_tb, o_tb0, o_tt, o_and, o_xor, o_or, o_max, o_min, an_tb, and_true, true_and, not_true, not_false, if_true, if_false, tn_add, tn_mul, Int.reduceToNat, tn_cast, md_x]
      rw [if_neg (by omega), if_pos (by omega)]
      exact hr) 6 0 (V, J) (by omega) ⟨OF.rf, rfl, rfl⟩
  dsimp only at i1 i2 i3 hr
  refine ⟨W, J2, i1, i2, i3, ?_⟩
  apply sg_276
  refine hr _ ?_
  apply sg_276_4
  rw [if_pos (by decide)]
/-- order's loop -/
theorem m_278 (hI : INV B) (q : Qy B V) {st H : Nat} {w : Int} (hst : st < 6) (hH : B 18 3 = H) (hH1 : 1 ≤ H) (hH6 : H ≤ 6) (h109 : ∀ k : Nat, k < 8 → V 109 k = (k : Int)) : ∃ W J2, OF V W ∧ ((((PL H).foldl (ost B st H) (-1, [])).1 ≠ -1) → ∀ j, j < H → W 111 j = lsf ((PL H).foldl (ost B st H) (-1, [])).2 j) ∧ Rch (GW L xs) (d + 8) 278 (51, [.ref 93, (Value.int (Int32.ofInt (st))), (Value.int (Int32.ofInt (w))), .int (-1), .int 1, vU, vU], [], zS (eV V) J tg) (51, [.ref 93, (Value.int (Int32.ofInt (st))), (Value.int (Int32.ofInt (w))), (Value.int (Int32.ofInt (((PL H).foldl (ost B st H) (-1, [])).1))), .int 0, vU, vU], [], zS (eV W) J2 tg) := by
  have r3 : 0 ≤ B 18 3 ∧ B 18 3 ≤ 8 := hI.1 18 3 (by decide) (by decide)
  have hchk := PL_chk H (by omega) (by omega)
  have hhd := PL_hd H (by omega) (by omega)
  have hne : 0 < (PL H).length := by
    cases e : PL H with
    | nil => rw [e] at hhd; simp at hhd
    | cons a b => simp
  have h0 : (PL H).getD 0 [] = List.range H := by
    cases e : PL H with
    | nil => rw [e] at hhd; simp at hhd
    | cons a b => rw [e] at hhd; simpa using hhd
  obtain ⟨⟨W, J2⟩, ⟨i1, i2, i3⟩, hr⟩ := loopN (g := GW L xs) (d := d + 8) (mid := 278) (σ := (Nat → Nat → Int) × (Nat → Nat → Int64)) (fun i σ => (51, [.ref 93, (Value.int (Int32.ofInt (st))), (Value.int (Int32.ofInt (w))), (Value.int (Int32.ofInt ((((PL H).take i).foldl (ost B st H) (-1, [])).1))), (Value.int (Int32.ofInt (bi (i < (PL H).length)))), vU, vU], [], zS (eV σ.1) σ.2 tg)) (fun i σ => OF V σ.1 ∧ (i < (PL H).length → ∀ j, j < H → σ.1 109 j = lsf ((PL H).getD i []) j) ∧ ((((PL H).take i).foldl (ost B st H) (-1, [])).1 ≠ -1 → ∀ j, j < H → σ.1 111 j = lsf (((PL H).take i).foldl (ost B st H) (-1, [])).2 j)) (PL H).length (by
    intro i ⟨W, J⟩ hi ⟨i1, i2, i3⟩
    dsimp only at i1 i2 i3 ⊢
    have qW := q.of i1
    have i2 := i2 hi
    obtain ⟨l1, l2⟩ := PL_at (n := H) (by omega) hi
    have hnx := chk_at (n := H) hchk hi
    have htk : (PL H).take (i + 1) = (PL H).take i ++ [(PL H).getD i []] := by
      rw [List.take_succ, List.getElem?_eq_getElem hi]
      simp [List.getD, List.getElem?_eq_getElem hi]
    have hrg := osf_rg hI (st := st) (H := H) (by omega) ((PL H).take i) (a := (-1, [])) (by decide)
    have hfs : (((PL H).take (i + 1)).foldl (ost B st H) (-1, [])) = ost B st H (((PL H).take i).foldl (ost B st H) (-1, [])) ((PL H).getD i []) := by
      rw [htk, List.foldl_append]; rfl
    rw [hfs]
    generalize ((PL H).take i).foldl (ost B st H) (-1, []) = b at i3 hrg ⊢
    generalize (PL H).getD i [] = l at i2 l1 l2 hnx ⊢
    obtain ⟨A, J1, a1, a2, a3, a4⟩ := m_276 (L := L) (xs := xs) (J := J) (tg := tg) (d := d) hI qW (st := st) (H := H) (s := lsf l) hst hH (fun k hk => ⟨i2 k hk, l2 _ (lsf_mem (by omega))⟩)
    have a4 : Runs (GW L xs) (d + 7) 276 (0, [.ref 93, (Value.int (Int32.ofInt (st))), vU, vU, vU, vU], [], zS (eV (W)) (J) tg) (some (Value.int (Int32.ofInt (woR B st H l))), zS (eV (A)) (J1) tg) := a4
    have hwr : 0 ≤ woR B st H l ∧ woR B st H l ≤ 792 * 6 := wol_rg hI st (by omega) (lsf l) 6
    have fA : OF V A := i1.tr a1
    have h946 : ∀ X : Nat → Nat → Int, Qy B X → X 94 6 = H := fun X qX => by
      have : X 94 6 = X 18 3 := (hI.q qX).2.1.2.2.2.2.2.2.1.2.2.2.1
      rw [this, qX.1 18 (by omega), hH]
    -- the next order, behind any state that is like A
    have nx : ∀ X : Nat → Nat → Int, OF V X → X 109 = A 109 → ∃ Y, OF V Y ∧ (∀ c, c ≠ 109 → Y c = X c) ∧ (i + 1 < (PL H).length → ∀ j, j < H → Y 109 j = lsf ((PL H).getD (i + 1) []) j) ∧ Runs (GW L xs) (d + 7) 277 (0, [.ref 93, (Value.int (Int32.ofInt (H))), vU, vU, vU, vU, vU], [], zS (eV X) J1 tg) (some (Value.int (Int32.ofInt (bi (i + 1 < (PL H).length)))), zS (eV Y) J1 tg) := by
      intro X fX e109
      obtain ⟨Y, y1, y2⟩ := m_277 (L := L) (xs := xs) (J := J1) (tg := tg) (d := d + 7) (V := X) (n := H) (s := lsf l) (by omega) (fun j hj => ⟨by rw [e109, a2]; exact i2 j hj, by have := l2 _ (lsf_mem (l := l) (j := j) (by omega)); omega⟩)
      refine ⟨Y, fX.tr fun c _ _ _ q4 => y1 c (by omega), y1, ?_, ?_⟩
      · intro hlt
        rw [if_pos hlt] at hnx
        rcases y2 with ⟨b1, -⟩ | ⟨l', b1, b2, -⟩
        · rw [b1] at hnx; simp at hnx
        · rw [b1] at hnx
          have : l' = (PL H).getD (i + 1) [] := Option.some.inj hnx
          rw [← this]; exact b2
      · rcases y2 with ⟨b1, b3⟩ | ⟨l', b1, b2, b3⟩
        · have : ¬ i + 1 < (PL H).length := fun hlt => by rw [if_pos hlt, b1] at hnx; simp at hnx
          rw [show bi (i + 1 < (PL H).length) = 0 from (bi_f this).symm]; exact b3
        · have : i + 1 < (PL H).length := by
            by_cases hlt : i + 1 < (PL H).length
            · exact hlt
            · rw [if_neg hlt, b1] at hnx; simp at hnx
          rw [show bi (i + 1 < (PL H).length) = 1 from (bi_t this).symm]; exact b3
    unfold ost
    by_cases c : b.1 < woR B st H l
    · rw [if_pos c]
      obtain ⟨X, ⟨x1, x2, x3⟩, hrX⟩ := loopN (g := GW L xs) (d := d + 8) (mid := 278) (σ := Nat → Nat → Int) (fun k X => (75, [.ref 93, (Value.int (Int32.ofInt (st))), (Value.int (Int32.ofInt (w))), (Value.int (Int32.ofInt (woR B st H l))), (Value.int (Int32.ofInt (bi (i < (PL H).length)))), (Value.int (Int32.ofInt (woR B st H l))), (Value.int (Int32.ofInt (k)))], [], zS (eV X) J1 tg)) (fun k X => OF V X ∧ X 109 = A 109 ∧ ∀ j, j < k → X 111 j = A 109 j) 8 (by
        intro k X hk ⟨x1, x2, x3⟩
        refine ⟨up2 X 111 k (A 109 k), ⟨x1.u (by omega), by rw [w_ne _ _ _ _ (by decide)]; exact x2, fun j hj => ?_⟩, fun r hr => ?_⟩
        · rw [w_at]
          by_cases e : j = k
          · rw [if_pos e, e]
          · rw [if_neg e]; exact x3 j (by omega)
        · apply sg_278_75
          simp (disch := omega) only [x2, eV_at, eV_up, o_lit2, o_add, o_sub, o_mul, o_neg, o_div, o_nat, ix_t, o_lt, o_le, o_eq, o_bi0, o_bi1, o_bib, em_t, o_neg1, o_shl, o_tb, o_tb0, o_tt, o_and, o_xor, o_or, o_max, o_min, an_tb, and_true, true_and, not_true, not_false, if_true, if_false, tn_add, tn_mul, Int.reduceToNat, tn_cast, md_x]
          rw [if_neg (by omega)]
          exact hr) 8 0 A (by omega) ⟨fA, rfl, fun j h => by omega⟩
      obtain ⟨Y, y1, y2, y3, y4⟩ := nx X x1 x2
      have h6 := h946 X (q.of x1)
      refine ⟨(Y, J1), ⟨y1, y3, fun _ j hj => by dsimp only; rw [y2 111 (by decide), x3 j (by omega), a2]; exact i2 j hj⟩, fun r hr => ?_⟩
      apply sg_278_51
      rw [if_neg (b0_f hi)]
      refine ⟨_, _, _, a4, ?_⟩
      simp (disch := omega) only [eV_at, eV_up, o_lit2, o_add, o_sub, o_mul, o_neg, o_div, o_nat, ix_t, o_lt, o_le, o_eq, o_bi0, o_bi1, o_bib, em_t, o_neg1, o_shl, o_tb, o_tb0, o_tt, o_and, o_xor, o_or, o_max, o_min, an_tb, and_true, true_and, not_true, not_false, if_true, if_false, tn_add, tn_mul, Int.reduceToNat, tn_cast, md_x]
      rw [if_neg (by omega)]
      refine hrX _ ?_
      apply sg_278_75
      rw [if_pos (by decide)]
      rw [eV_at, h6]
      exact ⟨_, _, _, y4, hr⟩
    · rw [if_neg c]
      obtain ⟨Y, y1, y2, y3, y4⟩ := nx A fA rfl
      have h6 := h946 A (q.of fA)
      refine ⟨(Y, J1), ⟨y1, y3, fun h j hj => by dsimp only; rw [y2 111 (by decide), a3]; exact i3 h j hj⟩, fun r hr => ?_⟩
      apply sg_278_51
      rw [if_neg (b0_f hi)]
      refine ⟨_, _, _, a4, ?_⟩
      simp (disch := omega) only [h6, eV_at, eV_up, o_lit2, o_add, o_sub, o_mul, o_neg, o_div, o_nat, ix_t, o_lt, o_le, o_eq, o_bi0, o_bi1, o_bib, em_t, o_neg1, o_shl, o_tb, o_tb0, o_tt, o_and, o_xor, o_or, o_max, o_min, an_tb, and_true, true_and, not_true, not_false, if_true, if_false, tn_add, tn_mul, Int.reduceToNat, tn_cast, md_x]
      rw [if_pos (by omega)]
      exact ⟨_, _, _, y4, hr⟩) (PL H).length 0 (V, J) (by omega) ⟨OF.rf, fun _ j hj => by
        dsimp only
        rw [h0, h109 j (by omega)]
        have := lsf_map (n := H) (f := id) hj
        rw [List.map_id] at this
        rw [this]; rfl, fun h => absurd rfl h⟩
  dsimp only at i1 i2 i3 hr
  rw [List.take_length] at i3 hr
  refine ⟨W, J2, i1, i3, ?_⟩
  have e1 : bi (0 < (PL H).length) = 1 := (bi_t hne).symm
  have e2 : bi ((PL H).length < (PL H).length) = 0 := (bi_f (by omega)).symm
  rw [e1, e2] at hr
  exact hr
end OQ
theorem osf_nn {B : Nat → Nat → Int} (hI : INV B) {st H : Nat} (hH : H ≤ 8) : ∀ (ls : List (List Nat)) {a : Int × List Nat}, -1 ≤ a.1 → (0 < ls.length ∨ 0 ≤ a.1) → 0 ≤ (ls.foldl (ost B st H) a).1
  | [], a, _, h => by
    rcases h with h | h
    · simp at h
    · exact h
  | l :: r, a, ha, _ => by
    have hw : 0 ≤ woR B st H l ∧ woR B st H l ≤ 792 * 6 := wol_rg hI st hH (lsf l) 6
    have h0 : 0 ≤ (ost B st H a l).1 := by
      unfold ost
      split
      · dsimp only; omega
      · omega
    exact osf_nn hI hH r (by omega) (Or.inr h0)
theorem osf_in {B : Nat → Nat → Int} {st H : Nat} : ∀ (ls : List (List Nat)) {a : Int × List Nat}, (ls.foldl (ost B st H) a).2 ∈ ls ∨ (ls.foldl (ost B st H) a) = a
  | [], a => Or.inr rfl
  | l :: r, a => by
    rcases osf_in (B := B) (st := st) (H := H) r (a := ost B st H a l) with h | h
    · exact Or.inl (List.mem_cons_of_mem _ h)
    · rw [List.foldl_cons, h]
      unfold ost
      split
      · exact Or.inl List.mem_cons_self
      · exact Or.inr rfl
theorem c_order {L : Nat} {xs : Nat → Int32} {V : Nat → Nat → Int} {J : Nat → Nat → Int64} {tg : Option Nat} (h : INV V) {a b : Int} (ha : (-2147483648 ≤ a ∧ a < 2147483648)) (hb : (-2147483648 ≤ b ∧ b < 2147483648)) : ∃ (v : Int) (U W : Nat → Nat → Int) (J1 : Nat → Nat → Int64), Runs (GW L xs) 40 146 (0, [.ref 0, (Value.int (Int32.ofInt (a))), (Value.int (Int32.ofInt (b)))], [], zS (eV V) J tg) (some (Value.int (Int32.ofInt v)), zS (eV U) J tg) ∧ Runs (GW L xs) 40 278 (0, [.ref 93, (Value.int (Int32.ofInt (a))), (Value.int (Int32.ofInt (b))), vU, vU, vU, vU], [], zS (eV U) J tg) (some (Value.int (Int32.ofInt v)), zS (eV W) J1 tg) ∧ INV W := by
  have h0 := h
  obtain ⟨hR, ⟨hA, hB, hC, hD, hE, hF, hH⟩, h2, h3, h4, h5⟩ := h
  have rD : 0 ≤ V 1 0 ∧ V 1 0 ≤ 12 := hR 1 0 (by decide) (by decide)
  have rT : 0 ≤ V 1 1 ∧ V 1 1 ≤ 12 := hR 1 1 (by decide) (by decide)
  have r3 : 0 ≤ V 18 3 ∧ V 18 3 ≤ 8 := hR 18 3 (by decide) (by decide)
  obtain ⟨H, hHn⟩ : ∃ H : Nat, V 18 3 = H := ⟨(V 18 3).toNat, by omega⟩
  have h946 : V 94 6 = H := by
    have : V 94 6 = V 18 3 := hH.1.2.2.2.1
    rw [this, hHn]
  by_cases g1 : 0 ≤ a ∧ a ≤ 5
  · by_cases g2 : 1 ≤ (H : Int) ∧ (H : Int) ≤ 6
    · by_cases g3 : -1 ≤ b ∧ b ≤ (H : Int) - 1
      · obtain ⟨st, rfl⟩ : ∃ n : Nat, a = n := ⟨a.toNat, by omega⟩
        obtain ⟨A, qA, a2, a3, a4⟩ := k_32 (L := L) (xs := xs) (J := J) (tg := tg) (d := 34) h0 (Qy.rf h3) (st := st) (by omega) hHn
        obtain ⟨U, qU, u2, u3⟩ := k_36 (L := L) (xs := xs) (J := J) (tg := tg) (d := 34 - H) h0 qA hHn (by omega) a2
        rw [show 34 - H + 5 + H = 39 by omega] at u3
        have hIU := h0.q qU
        obtain ⟨C, c1, c2, c3⟩ := m_274 (L := L) (xs := xs) (J := J) (tg := tg) (d := 39) (V := U)
        have qC : Qy V C := qU.of fun c _ _ _ q4 => c1 c (by omega)
        obtain ⟨W, J2, w1, w2, w3⟩ := m_278 (L := L) (xs := xs) (J := J) (tg := tg) (d := 32) h0 qC (st := st) (H := H) (w := b) (by omega) hHn (by omega) (by omega) c2
        have qW := qC.of w1
        have hhd := PL_hd H (by omega) (by omega)
        have hne : 0 < (PL H).length := by
          cases e : PL H with
          | nil => rw [e] at hhd; simp at hhd
          | cons a b => simp
        have hnn := osf_nn h0 (st := st) (H := H) (by omega) (PL H) (a := (-1, [])) (by decide) (Or.inl hne)
        have hmem : ∀ x, x ∈ ((PL H).foldl (ost V st H) (-1, [])).2 → x < H := fun x hx => by
          rcases osf_in (B := V) (st := st) (H := H) (PL H) (a := (-1, [])) with hh | hh
          · obtain ⟨i, hi, he⟩ := List.getElem_of_mem hh
            have := (PL_at (n := H) (by omega) hi).2 x
            rw [show (PL H).getD i [] = (PL H)[i] by simp [List.getD, List.getElem?_eq_getElem hi], he] at this
            exact this hx
          · rw [hh] at hnn
            exact absurd hnn (by decide)
        have hlen : ((PL H).foldl (ost V st H) (-1, [])).2.length = H := by
          rcases osf_in (B := V) (st := st) (H := H) (PL H) (a := (-1, [])) with hh | hh
          · obtain ⟨i, hi, he⟩ := List.getElem_of_mem hh
            have := (PL_at (n := H) (by omega) hi).1
            rw [show (PL H).getD i [] = (PL H)[i] by simp [List.getD, List.getElem?_eq_getElem hi], he] at this
            exact this
          · rw [hh] at hnn
            exact absurd hnn (by decide)
        generalize (PL H).foldl (ost V st H) (-1, []) = y at u2 w2 w3 hnn hmem hlen
        obtain ⟨o1, o2⟩ := u2
        have o2 := o2 (by omega)
        have w2 := w2 (by omega)
        have eU : U 94 6 = H := by
          have : U 94 6 = U 18 3 := hIU.2.1.2.2.2.2.2.2.1.2.2.2.1
          rw [this, qU.1 18 (by omega), hHn]
        -- the answer
        have ans : ∃ v : Int, (Runs (GW L xs) 40 146 (0, [.ref 0, (Value.int (Int32.ofInt (st))), (Value.int (Int32.ofInt (b)))], [], zS (eV V) J tg) (some (Value.int (Int32.ofInt (v))), zS (eV U) J tg)) ∧ Runs (GW L xs) 40 278 (51, [.ref 93, (Value.int (Int32.ofInt (st))), (Value.int (Int32.ofInt (b))), (Value.int (Int32.ofInt (y.1))), .int 0, vU, vU], [], zS (eV W) J2 tg) (some (Value.int (Int32.ofInt (v))), zS (eV W) J2 tg) := by
          by_cases c : b = -1
          · subst c
            refine ⟨y.1, ?_, ?_⟩
            · apply sg_146
              refine ⟨_, _, k_166 ha, ?_⟩
              rw [if_neg (b0_f g1)]
              simp (disch := omega) only [hHn, eV_at, eV_up, o_lit2, o_add, o_sub, o_mul, o_neg, o_div, o_nat, ix_t, o_lt, o_le, o_eq, o_bi0, o_bi1, o_bib, em_t, o_neg1, o_shl, o_tb, o_tb0, o_tt, o_and, o_xor, o_or, o_max, o_min, an_tb, and_true, true_and, not_true, not_false, if_true, if_false, tn_add, tn_mul, Int.reduceToNat, tn_cast, md_x]
              refine ⟨_, _, k_164 (a := 1) (b := 6) (v := (H : Int)) (by omega) (by omega) (by omega), ?_⟩
              rw [if_neg (b0o_f g2)]
              simp (disch := omega) only [hHn, eV_at, eV_up, o_lit2, o_add, o_sub, o_mul, o_neg, o_div, o_nat, ix_t, o_lt, o_le, o_eq, o_bi0, o_bi1, o_bib, em_t, o_neg1, o_shl, o_tb, o_tb0, o_tt, o_and, o_xor, o_or, o_max, o_min, an_tb, and_true, true_and, not_true, not_false, if_true, if_false, tn_add, tn_mul, Int.reduceToNat, tn_cast, md_x]
              refine ⟨_, _, k_164 (a := -1) (b := (H : Int) - 1) hb (by omega) (by omega), ?_⟩
              rw [if_neg (b0o_f g3)]
              refine ⟨_, a4, _, u3, ?_⟩
              rw [eV_at, o1]
            · apply sg_278_51
              rw [if_pos (by decide), if_pos (by decide)]
          · obtain ⟨i, rfl⟩ : ∃ i : Nat, b = i := ⟨b.toNat, by omega⟩
            have hi : i < H := by omega
            have hx : lsf y.2 i < H := hmem _ (lsf_mem (by omega))
            have ou := o2 i hi
            have wv := w2 i hi
            obtain ⟨p1, p2, p3⟩ := row_lt h0 (pl := lsf y.2 i) (by omega)
            have e22 : U 22 (lsf y.2 i) = V 22 (lsf y.2 i) := by rw [qU.1 22 (by omega)]
            have e880 : W 94 (880 + lsf y.2 i) = V 22 (lsf y.2 i) := by
              have : W 94 (880 + lsf y.2 i) = W 22 (lsf y.2 i) := ((h0.q qW).2.1.2.2.2.2.2.2.2.2.2 (lsf y.2 i) (by rw [qW.1 18 (by omega)]; omega)).1
              rw [this, qW.1 22 (by omega)]
            refine ⟨V 22 (lsf y.2 i), ?_, ?_⟩
            · apply sg_146
              refine ⟨_, _, k_166 ha, ?_⟩
              rw [if_neg (b0_f g1)]
              simp (disch := omega) only [hHn, eV_at, eV_up, o_lit2, o_add, o_sub, o_mul, o_neg, o_div, o_nat, ix_t, o_lt, o_le, o_eq, o_bi0, o_bi1, o_bib, em_t, o_neg1, o_shl, o_tb, o_tb0, o_tt, o_and, o_xor, o_or, o_max, o_min, an_tb, and_true, true_and, not_true, not_false, if_true, if_false, tn_add, tn_mul, Int.reduceToNat, tn_cast, md_x]
              refine ⟨_, _, k_164 (a := 1) (b := 6) (v := (H : Int)) (by omega) (by omega) (by omega), ?_⟩
              rw [if_neg (b0o_f g2)]
              simp (disch := omega) only [hHn, eV_at, eV_up, o_lit2, o_add, o_sub, o_mul, o_neg, o_div, o_nat, ix_t, o_lt, o_le, o_eq, o_bi0, o_bi1, o_bib, em_t, o_neg1, o_shl, o_tb, o_tb0, o_tt, o_and, o_xor, o_or, o_max, o_min, an_tb, and_true, true_and, not_true, not_false, if_true, if_false, tn_add, tn_mul, Int.reduceToNat, tn_cast, md_x]
              refine ⟨_, _, k_164 (a := -1) (b := (H : Int) - 1) hb (by omega) (by omega), ?_⟩
              rw [if_neg (b0o_f g3)]
              refine ⟨_, a4, _, u3, ?_⟩
              rw [if_neg c]
              simp (disch := omega) only [ou, e22, eV_at, eV_up, o_lit2, o_add, o_sub, o_mul, o_neg, o_div, o_nat, ix_t, o_lt, o_le, o_eq, o_bi0, o_bi1, o_bib, em_t, o_neg1, o_shl, o_tb, o_tb0, o_tt, o_and, o_xor, o_or, o_max, o_min, an_tb, and_true, true_and, not_true, not_false, if_true, if_false, tn_add, tn_mul, Int.reduceToNat, tn_cast, md_x]
            · apply sg_278_51
              rw [if_pos (by decide)]
              simp (disch := omega) only [wv, e880, eV_at, eV_up, o_lit2, o_add, o_sub, o_mul, o_neg, o_div, o_nat, ix_t, o_lt, o_le, o_eq, o_bi0, o_bi1, o_bib, em_t, o_neg1, o_shl, o_tb, o_tb0, o_tt, o_and, o_xor, o_or, o_max, o_min, an_tb, and_true, true_and, not_true, not_false, if_true, if_false, tn_add, tn_mul, Int.reduceToNat, tn_cast, md_x]
              rw [if_neg c] <;> first | rfl | trivial
        obtain ⟨v, an1, an2⟩ := ans
        refine ⟨v, U, W, J2, an1, ?_, h0.q qW⟩
        apply sg_278
        refine ⟨_, _, _, k_182 ha, ?_⟩
        rw [if_neg (b0_f g1)]
        simp (disch := omega) only [eU, eV_at, eV_up, o_lit2, o_add, o_sub, o_mul, o_neg, o_div, o_nat, ix_t, o_lt, o_le, o_eq, o_bi0, o_bi1, o_bib, em_t, o_neg1, o_shl, o_tb, o_tb0, o_tt, o_and, o_xor, o_or, o_max, o_min, an_tb, and_true, true_and, not_true, not_false, if_true, if_false, tn_add, tn_mul, Int.reduceToNat, tn_cast, md_x]
        refine ⟨_, _, _, k_177 (a := 1) (b := 6) (v := (H : Int)) (by omega) (by omega) (by omega), ?_⟩
        rw [if_neg (b0o_f g2)]
        simp (disch := omega) only [eU, eV_at, eV_up, o_lit2, o_add, o_sub, o_mul, o_neg, o_div, o_nat, ix_t, o_lt, o_le, o_eq, o_bi0, o_bi1, o_bib, em_t, o_neg1, o_shl, o_tb, o_tb0, o_tt, o_and, o_xor, o_or, o_max, o_min, an_tb, and_true, true_and, not_true, not_false, if_true, if_false, tn_add, tn_mul, Int.reduceToNat, tn_cast, md_x]
        refine ⟨_, _, _, k_177 (a := -1) (b := (H : Int) - 1) hb (by omega) (by omega), ?_⟩
        rw [if_neg (b0o_f g3)]
        exact ⟨_, _, c3, w3 _ an2⟩
      · refine ⟨-1, V, V, J, ?_, ?_, h0⟩
        · apply sg_146
          refine ⟨_, _, k_166 ha, ?_⟩
          rw [if_neg (b0_f g1)]
          simp (disch := omega) only [hHn, eV_at, eV_up, o_lit2, o_add, o_sub, o_mul, o_neg, o_div, o_nat, ix_t, o_lt, o_le, o_eq, o_bi0, o_bi1, o_bib, em_t, o_neg1, o_shl, o_tb, o_tb0, o_tt, o_and, o_xor, o_or, o_max, o_min, an_tb, and_true, true_and, not_true, not_false, if_true, if_false, tn_add, tn_mul, Int.reduceToNat, tn_cast, md_x]
          refine ⟨_, _, k_164 (a := 1) (b := 6) (v := (H : Int)) (by omega) (by omega) (by omega), ?_⟩
          rw [if_neg (b0o_f g2)]
          simp (disch := omega) only [hHn, eV_at, eV_up, o_lit2, o_add, o_sub, o_mul, o_neg, o_div, o_nat, ix_t, o_lt, o_le, o_eq, o_bi0, o_bi1, o_bib, em_t, o_neg1, o_shl, o_tb, o_tb0, o_tt, o_and, o_xor, o_or, o_max, o_min, an_tb, and_true, true_and, not_true, not_false, if_true, if_false, tn_add, tn_mul, Int.reduceToNat, tn_cast, md_x]
          refine ⟨_, _, k_164 (a := -1) (b := (H : Int) - 1) hb (by omega) (by omega), ?_⟩
          rw [if_pos (b0o_t g3)]
        · apply sg_278
          refine ⟨_, _, _, k_182 ha, ?_⟩
          rw [if_neg (b0_f g1)]
          simp (disch := omega) only [h946, eV_at, eV_up, o_lit2, o_add, o_sub, o_mul, o_neg, o_div, o_nat, ix_t, o_lt, o_le, o_eq, o_bi0, o_bi1, o_bib, em_t, o_neg1, o_shl, o_tb, o_tb0, o_tt, o_and, o_xor, o_or, o_max, o_min, an_tb, and_true, true_and, not_true, not_false, if_true, if_false, tn_add, tn_mul, Int.reduceToNat, tn_cast, md_x]
          refine ⟨_, _, _, k_177 (a := 1) (b := 6) (v := (H : Int)) (by omega) (by omega) (by omega), ?_⟩
          rw [if_neg (b0o_f g2)]
          simp (disch := omega) only [h946, eV_at, eV_up, o_lit2, o_add, o_sub, o_mul, o_neg, o_div, o_nat, ix_t, o_lt, o_le, o_eq, o_bi0, o_bi1, o_bib, em_t, o_neg1, o_shl, o_tb, o_tb0, o_tt, o_and, o_xor, o_or, o_max, o_min, an_tb, and_true, true_and, not_true, not_false, if_true, if_false, tn_add, tn_mul, Int.reduceToNat, tn_cast, md_x]
          refine ⟨_, _, _, k_177 (a := -1) (b := (H : Int) - 1) hb (by omega) (by omega), ?_⟩
          rw [if_pos (b0o_t g3)]
    · refine ⟨-1, V, V, J, ?_, ?_, h0⟩
      · apply sg_146
        refine ⟨_, _, k_166 ha, ?_⟩
        rw [if_neg (b0_f g1)]
        simp (disch := omega) only [hHn, eV_at, eV_up, o_lit2, o_add, o_sub, o_mul, o_neg, o_div, o_nat, ix_t, o_lt, o_le, o_eq, o_bi0, o_bi1, o_bib, em_t, o_neg1, o_shl, o_tb, o_tb0, o_tt, o_and, o_xor, o_or, o_max, o_min, an_tb, and_true, true_and, not_true, not_false, if_true, if_false, tn_add, tn_mul, Int.reduceToNat, tn_cast, md_x]
        refine ⟨_, _, k_164 (a := 1) (b := 6) (v := (H : Int)) (by omega) (by omega) (by omega), ?_⟩
        rw [if_pos (b0o_t g2)]
      · apply sg_278
        refine ⟨_, _, _, k_182 ha, ?_⟩
        rw [if_neg (b0_f g1)]
        simp (disch := omega) only [h946, eV_at, eV_up, o_lit2, o_add, o_sub, o_mul, o_neg, o_div, o_nat, ix_t, o_lt, o_le, o_eq, o_bi0, o_bi1, o_bib, em_t, o_neg1, o_shl, o_tb, o_tb0, o_tt, o_and, o_xor, o_or, o_max, o_min, an_tb, and_true, true_and, not_true, not_false, if_true, if_false, tn_add, tn_mul, Int.reduceToNat, tn_cast, md_x]
        refine ⟨_, _, _, k_177 (a := 1) (b := 6) (v := (H : Int)) (by omega) (by omega) (by omega), ?_⟩
        rw [if_pos (b0o_t g2)]
  · refine ⟨-1, V, V, J, ?_, ?_, h0⟩
    · apply sg_146
      refine ⟨_, _, k_166 ha, ?_⟩
      rw [if_pos (b0_t g1)]; rfl
    · apply sg_278
      refine ⟨_, _, _, k_182 ha, ?_⟩
      rw [if_pos (b0_t g1)]; rfl
