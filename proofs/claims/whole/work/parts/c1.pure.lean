/-! What to draw: the search in the class. -/
abbrev HM (B : Nat → Nat → Int) (dr st S : Nat) : Nat → Int := fun s => hmd B dr st (mdL B s S)
abbrev CN (S : Nat) : Nat → Nat := fun s => pcn s S
abbrev OK (B : Nat → Nat → Int) (dr S : Nat) : Nat → Prop := fun s => ¬ smG B 5 0 (fct B dr (mdL B s S).length (lf (mdL B s S))) = true
def PF (B V W : Nat → Nat → Int) (dr st us c : Nat) : Prop := Qy B W ∧ (W 75 8 = dr ∧ W 75 9 = st) ∧ (W 79 7 = dr ∧ W 79 8 = us) ∧ (∀ k, k < 8 → W 78 k = V 78 k) ∧ N12 (W 78) ∧ ∀ x, x < (c + 1) * 768 → W 81 x = V 81 x
section MK
variable {L d : Nat} {xs : Nat → Int32} {B V : Nat → Nat → Int} {J : Nat → Nat → Int64} {tg : Option Nat} {dr st us S : Nat}
theorem PF.tr {U V W : Nat → Nat → Int} {c : Nat} (h : PF B U V dr st us c) (k : PF B V W dr st us c) : PF B U W dr st us c := by
  obtain ⟨-, -, -, h4, -, h6⟩ := h
  obtain ⟨k1, k2, k3, k4, k5, k6⟩ := k
  exact ⟨k1, k2, k3, fun i hi => (k4 i hi).trans (h4 i hi), k5, fun x hx => (k6 x hx).trans (h6 x hx)⟩
theorem CS.pf {W : Nat → Nat → Int} {l : List Int} (hI : INV B) (h : CS B V dr st us l) (k : PF B V W dr st us l.length) : CS B W dr st us l := by
  obtain ⟨-, -, -, h4, -, h6⟩ := h
  obtain ⟨k1, k2, k3, k4, k5, k6⟩ := k
  have rT : 0 ≤ B 1 1 ∧ B 1 1 ≤ 12 := hI.1 1 1 (by decide) (by decide)
  refine ⟨k1, k2, k3, fun i hi => (k4 i hi).trans (h4 i hi), k5, fun t ht hb s hs => ?_⟩
  have r3 : 0 ≤ B 3 (12 + t) ∧ B 3 (12 + t) ≤ 6 := hI.1 3 (12 + t) (by decide) (by decide)
  have h64 := p2_64 (m := (B 3 (12 + t)).toNat) (by omega)
  rw [k6 _ (by omega)]
  exact h6 t ht hb s hs
theorem BST.rg {C : Nat → Prop} {ys yh yc : Int} (hI : INV B) (hst : st < 6) (hS : S ≤ 10) (hC : ∀ u, C u → u < 2 ^ S ∧ pcn u S ≤ 6) (h : BST (HM B dr st S) (CN S) (OK B dr S) C ys yh yc) : (-1 ≤ ys ∧ ys < 1024) ∧ (ys ≠ -1 → (0 ≤ yh ∧ yh ≤ 594000000) ∧ 0 ≤ yc ∧ yc ≤ 100) := by
  rcases h with ⟨h1, -⟩ | ⟨z, h1, -, h3, h4, h5, -⟩
  · exact ⟨by omega, fun n => by omega⟩
  · obtain ⟨c1, c2⟩ := hC z h1
    have h10 : 2 ^ S ≤ 1024 := Nat.pow_le_pow_right (n := 2) (by omega) hS
    have := hmd_rg hI (dr := dr) (st := st) (l := mdL B z S) hst (by rw [mdL_len]; exact c2)
    have h4 : yh = hmd B dr st (mdL B z S) := h4
    have h5 : yc = ((pcn z S : Nat) : Int) := h5
    exact ⟨by omega, fun _ => ⟨by omega, by omega⟩⟩
/-- a set is tried -/
theorem k_2a (hI : INV B) (hd : dr < 12) (hst : st < 6) (hus : us < 4096) (huse : ∀ ld, ld < 6 → 0 < B 8 ld → ∀ t, (B 9 ld).toNat.testBit t = true → us.testBit t = true) (hS : S ≤ 10) {s f c : Nat} {l : List Int} {C : Nat → Prop} (hl : mdL B s S = l) (hc : l.length = c) (hc6 : c ≤ 6) (hs : s < 1024) (h : CS B V dr st us l) (hC : ∀ u, C u → u < 2 ^ S ∧ pcn u S ≤ 6) (hB : BST (HM B dr st S) (CN S) (OK B dr S) C (V 79 10) (V 79 11) (V 79 9)) : ∃ X, PF B V X dr st us c ∧ BST (HM B dr st S) (CN S) (OK B dr S) (fun u => C u ∨ u = s) (X 79 10) (X 79 11) (X 79 9) ∧ ∀ r, (if c < 6 then Runs (GW L xs) (d + 6) 2 (26, [.ref 79, (Value.int (Int32.ofInt (s))), (Value.int (Int32.ofInt (f))), (Value.int (Int32.ofInt (c))), (Value.int (Int32.ofInt (f))), vU], [], zS (eV X) J tg) r else r = (none, zS (eV X) J tg)) → Runs (GW L xs) (d + 6) 2 (0, [.ref 79, (Value.int (Int32.ofInt (s))), (Value.int (Int32.ofInt (f))), (Value.int (Int32.ofInt (c))), vU, vU], [], zS (eV V) J tg) r := by
  obtain ⟨q, g1, g2, hF, hN, hrw⟩ := id h
  obtain ⟨X, x1, x2⟩ := k_99 (L := L) (xs := xs) (J := J) (tg := tg) (d := d + 2) hI q hN
  rw [smG_cg hI (by decide) hF] at x2
  have qX : Qy B X := q.cl fun c q1 _ => x1 c q1
  have pX : PF B V X dr st us c := ⟨qX, by rw [x1 75 (by decide)]; exact g1, by rw [x1 79 (by decide)]; exact g2, fun k _ => by rw [x1 78 (by decide)], by rw [x1 78 (by decide)]; exact hN, fun x _ => by rw [x1 81 (by decide)]⟩
  have e79 : X 79 = V 79 := x1 79 (by decide)
  have hcn : (CN S s : Nat) = c := by rw [← hc, ← hl, mdL_len]
  by_cases ok : ¬ smG B 5 0 (fct B dr l.length (lf l)) = true
  · have ok' : OK B dr S s := by show ¬ smG B 5 0 (fct B dr (mdL B s S).length (lf (mdL B s S))) = true; rw [hl]; exact ok
    have hhm : HM B dr st S s = hmd B dr st l := by show hmd B dr st (mdL B s S) = _; rw [hl]
    obtain ⟨r1, r2⟩ := hB.rg hI hst hS hC
    subst hc
    have cX := CS.pf hI h pX
    obtain ⟨W, w1, w2, w3, w4, w5, w6, w7, w8, w9⟩ := k_5 (L := L) (xs := xs) (J := J) (tg := tg) (d := d) hI cX hd hst hc6 hus huse (ys := V 79 10) (yh := V 79 11) (yc := V 79 9) (by rw [e79]) (by rw [e79]) (by rw [e79]) (s := s) (by omega) (by omega) r2
    have pW : PF B X W dr st us l.length := ⟨qX.cl fun c q1 q2 => w1 c q1 (by omega) (by omega) (by omega) (by omega), ⟨w2, w3⟩, ⟨w4, w5⟩, w6, w7, fun x _ => by rw [w1 81 (by decide) (by decide) (by decide) (by decide) (by decide)]⟩
    refine ⟨W, pX.tr pW, ?_, fun r hr => ?_⟩
    · rcases w8 with ⟨b, z1, z2, z3⟩ | ⟨b, z1, z2, z3⟩
      · rw [z1, z2, z3, ← hhm, ← hcn]
        refine hB.new ok' ?_
        rw [hhm, hcn]
        exact b
      · rw [z1, z2, z3]
        refine hB.old ?_
        rw [hhm, hcn]
        exact b
    · apply sg_2
      refine ⟨_, _, x2, ?_⟩
      rw [if_neg (b0_f ok)]
      refine ⟨_, w9, ?_⟩
      simp (disch := omega) only [eV_at, eV_up, o_lit2, o_add, o_sub, o_mul, o_neg, o_div, o_nat, ix_t, o_lt, o_le, o_eq, o_bi0, o_bi1, o_bib, em_t, o_neg1, o_shl, o_tb, o_tb0, o_tt, o_and, o_xor, o_or, o_max, o_min, an_tb, and_true, true_and, not_true, not_false, if_true, if_false, tn_add, tn_mul, Int.reduceToNat, tn_cast, md_x]
      by_cases c6 : l.length < 6
      · rw [if_pos c6] at hr
        rw [if_pos (by omega)]; exact hr
      · rw [if_neg c6] at hr
        rw [if_neg (by omega)]; exact hr
  · have ok' : ¬ OK B dr S s := by show ¬ ¬ smG B 5 0 (fct B dr (mdL B s S).length (lf (mdL B s S))) = true; rw [hl]; exact ok
    refine ⟨X, pX, by rw [e79]; exact hB.no ok', fun r hr => ?_⟩
    apply sg_2
    refine ⟨_, _, x2, ?_⟩
    rw [if_pos (b0_t ok)]
    simp (disch := omega) only [eV_at, eV_up, o_lit2, o_add, o_sub, o_mul, o_neg, o_div, o_nat, ix_t, o_lt, o_le, o_eq, o_bi0, o_bi1, o_bib, em_t, o_neg1, o_shl, o_tb, o_tb0, o_tt, o_and, o_xor, o_or, o_max, o_min, an_tb, and_true, true_and, not_true, not_false, if_true, if_false, tn_add, tn_mul, Int.reduceToNat, tn_cast, md_x]
    by_cases c6 : c < 6
    · rw [if_pos c6] at hr
      rw [if_pos (by omega)]; exact hr
    · rw [if_neg c6] at hr
      rw [if_neg (by omega)]; exact hr
/-- tryMade -/
theorem k_2 (hI : INV B) (hd : dr < 12) (hst : st < 6) (hus : us < 4096) (huse : ∀ ld, ld < 6 → 0 < B 8 ld → ∀ t, (B 9 ld).toNat.testBit t = true → us.testBit t = true) (hS : S ≤ 10) (hBS : B 18 2 = S) : ∀ (n : Nat) {V : Nat → Nat → Int} {s f c : Nat} {l : List Int} {C : Nat → Prop}, mdL B s S = l → l.length = c → c + n = 6 → s < 2 ^ f → f ≤ S → CS B V dr st us l → (∀ u, C u → u < 2 ^ S ∧ pcn u S ≤ 6) → BST (HM B dr st S) (CN S) (OK B dr S) C (V 79 10) (V 79 11) (V 79 9) → ∃ W, PF B V W dr st us c ∧ BST (HM B dr st S) (CN S) (OK B dr S) (fun u => C u ∨ (u < 2 ^ S ∧ u % 2 ^ f = s ∧ pcn u S ≤ 6)) (W 79 10) (W 79 11) (W 79 9) ∧ Runs (GW L xs) (d + n + 6) 2 (0, [.ref 79, (Value.int (Int32.ofInt (s))), (Value.int (Int32.ofInt (f))), (Value.int (Int32.ofInt (c))), vU, vU], [], zS (eV (V)) J tg) (none, zS (eV (W)) J tg)
  | 0, V, s, f, c, l, C, hl, hc, hn, hs, hf, h, hC, hB => by
    have h1024 : 2 ^ f ≤ 1024 := Nat.pow_le_pow_right (n := 2) (by omega) (by omega : f ≤ 10)
    have hsS : s < 2 ^ S := Nat.lt_of_lt_of_le hs (Nat.pow_le_pow_right (by omega) hf)
    obtain ⟨X, p1, p2, p3⟩ := k_2a (L := L) (xs := xs) (J := J) (tg := tg) (d := d) (f := f) hI hd hst hus huse hS hl hc (by omega) (by omega) h hC hB
    have hcn : pcn s S = c := by rw [← hc, ← hl, mdL_len]
    refine ⟨X, p1, p2.cg (fun u => ⟨fun hu => ?_, fun hu => ?_⟩), p3 _ ?_⟩
    · rcases hu with hu | hu
      · exact Or.inl hu
      · subst hu; exact Or.inr ⟨hsS, Nat.mod_eq_of_lt hs, by omega⟩
    · rcases hu with hu | hu
      · exact Or.inl hu
      · exact Or.inr (only_set hf hu.1 hu.2.1 (by omega))
    · rw [if_neg (by omega)]
  | n + 1, V, s, f, c, l, C, hl, hc, hn, hs, hf, h, hC, hB => by
    have h1024 : 2 ^ f ≤ 1024 := Nat.pow_le_pow_right (n := 2) (by omega) (by omega : f ≤ 10)
    have hsS : s < 2 ^ S := Nat.lt_of_lt_of_le hs (Nat.pow_le_pow_right (by omega) hf)
    obtain ⟨X, p1, p2, p3⟩ := k_2a (L := L) (xs := xs) (J := J) (tg := tg) (d := d + n + 1) (f := f) hI hd hst hus huse hS hl hc (by omega) (by omega) h hC hB
    have hcn : pcn s S = c := by rw [← hc, ← hl, mdL_len]
    have hsf : s % 2 ^ f = s := Nat.mod_eq_of_lt hs
    obtain ⟨W, ⟨-, i1, i2⟩, hr⟩ := loopN (g := GW L xs) (d := d + n + 7) (mid := 2) (σ := Nat → Nat → Int) (fun i W => (26, [.ref 79, (Value.int (Int32.ofInt (s))), (Value.int (Int32.ofInt (f))), (Value.int (Int32.ofInt (c))), (Value.int (Int32.ofInt (i))), vU], [], zS (eV W) J tg)) (fun i W => f ≤ i ∧ PF B V W dr st us c ∧ BST (HM B dr st S) (CN S) (OK B dr S) (fun u => (C u ∨ u = s) ∨ (u < 2 ^ S ∧ u % 2 ^ f = s ∧ pcn u S ≤ 6 ∧ u % 2 ^ i ≠ s)) (W 79 10) (W 79 11) (W 79 9)) S (by
      intro i W hi ⟨hfi, i1, i2⟩
      subst hc
      have cW := CS.pf hI h i1
      obtain ⟨qW, f1, f2, f3, f4, f5⟩ := id i1
      have rv : 0 ≤ B 19 i ∧ B 19 i ≤ 179 := hI.1 19 i (by decide) (by decide)
      obtain ⟨kd, hkd⟩ : ∃ kd : Nat, B 19 i / 36 = kd := ⟨(B 19 i / 36).toNat, by omega⟩
      have hk5 : kd < 5 := by omega
      obtain ⟨X1, x1, x2, x3, x4⟩ := k_4 (L := L) (xs := xs) (J := J) (tg := tg) (d := d + n + 4) hI cW (by omega) (v := B 19 i) (by omega) hus
      have x78 : X1 78 = W 78 := x1 78 (by decide) (by decide) (by decide)
      have hNk := f4 kd (by omega)
      have hN5 := f4 5 (by omega)
      obtain ⟨a, ha⟩ : ∃ a, a = W 78 kd := ⟨_, rfl⟩
      obtain ⟨b, hb⟩ : ∃ b, b = W 78 5 := ⟨_, rfl⟩
      rw [← ha] at hNk
      rw [← hb] at hN5
      have xa : X1 78 kd = a := by rw [x78, ha]
      have xb : X1 78 5 = b := by rw [x78, hb]
      have e5 : ∀ (Z : Nat → Nat → Int) (z : Int), (up2 Z 78 kd z) 78 5 = Z 78 5 := fun Z z => by rw [w_at, if_neg (by omega)]
      obtain ⟨Y, hY⟩ : ∃ Y, Y = up2 (up2 X1 78 kd (a + 1)) 78 5 (b + 1) := ⟨_, rfl⟩
      have yc : ∀ c, c ≠ 78 → Y c = X1 c := fun c hc => by rw [hY, w_ne _ _ _ _ hc, w_ne _ _ _ _ hc]
      have y78 : ∀ k, Y 78 k = if k = 5 then b + 1 else if k = kd then a + 1 else W 78 k := fun k => by rw [hY, w_at, w_at, x78]
      have hli : mdL B (s ||| 2 ^ i) S = l ++ [B 19 i] := by rw [mdL_one (Nat.lt_of_lt_of_le hs (Nat.pow_le_pow_right (by omega) hfi)) hi, hl]
      have hla : (l ++ [B 19 i]).length = l.length + 1 := by rw [List.length_append, List.length_singleton]
      have hsi : s < 2 ^ i := Nat.lt_of_lt_of_le hs (Nat.pow_le_pow_right (by omega) hfi)
      have qY : Qy B Y := qW.c8 (fun c q1 q2 => by rw [yc c (by omega)]; exact x1 c (by omega) (by omega) (by omega)) fun x hx => by rw [yc 81 (by decide)]; exact x2 x (by omega)
      have hFW := cW.2.2.2.1
      have cY : CS B Y dr st us (l ++ [B 19 i]) := by
        refine ⟨qY, by rw [yc 75 (by decide), x1 75 (by decide) (by decide) (by decide)]; exact f1, by rw [yc 79 (by decide), x1 79 (by decide) (by decide) (by decide)]; exact f2, fun k hk => ?_, fun k hk => ?_, ?_⟩
        · rw [y78, fct_app, ← hFW k hk, hkd]
          by_cases c5 : k = 5
          · rw [if_pos c5, if_pos (Or.inl c5), hb, c5]
          · rw [if_neg c5]
            by_cases ck : k = kd
            · rw [if_pos ck, if_pos (Or.inr ⟨by omega, by omega⟩), ha, ck]
            · rw [if_neg ck, if_neg (fun h => by omega), Int.add_zero]
        · rw [y78]
          have := f4 k hk
          have hab : fct B dr l.length (lf l) kd = a := by rw [ha]; exact (hFW kd (by omega)).symm
          have hbb : fct B dr l.length (lf l) 5 = b := by rw [hb]; exact (hFW 5 (by omega)).symm
          have t1 := fct_rg hI.1 (dr := dr) (n := l.length) (by omega) (lf l) kd
          have t2 := fct_rg hI.1 (dr := dr) (n := l.length) (by omega) (lf l) 5
          split
          · omega
          · split <;> omega
        · intro t ht hb s hs
          rw [yc 81 (by decide)]
          exact x3 t ht hb s hs
      obtain ⟨Z, z1, z2, z3⟩ := k_2 hI hd hst hus huse hS hBS n (V := Y) (s := s ||| 2 ^ i) (f := i + 1) (c := l.length + 1) (l := l ++ [B 19 i]) (C := fun u => (C u ∨ u = s) ∨ (u < 2 ^ S ∧ u % 2 ^ f = s ∧ pcn u S ≤ 6 ∧ u % 2 ^ i ≠ s)) hli hla (by omega) (Nat.or_lt_two_pow (Nat.lt_of_lt_of_le hsi (Nat.pow_le_pow_right (by omega) (by omega))) (Nat.pow_lt_pow_right (by omega) (by omega))) (by omega) cY (fun u hu => by
        rcases hu with (hu | hu) | hu
        · exact hC u hu
        · subst hu; exact ⟨hsS, by omega⟩
        · exact ⟨hu.1, hu.2.2.1⟩) (by rw [yc 79 (by decide), x1 79 (by decide) (by decide) (by decide)]; exact i2)
      obtain ⟨qZ, s1, s2, s3, s4, s5⟩ := z1
      have za : Z 78 kd = a + 1 := by rw [s3 kd (by omega), y78, if_neg (by omega), if_pos rfl]
      have zb : Z 78 5 = b + 1 := by rw [s3 5 (by omega), y78, if_pos rfl]
      have ea : a + 1 - 1 = a := by omega
      have eb : b + 1 - 1 = b := by omega
      have w78 : ∀ k, (up2 (up2 Z 78 kd a) 78 5 b) 78 k = if k = 5 then b else if k = kd then a else Z 78 k := fun k => by rw [w_at, w_at]
      refine ⟨up2 (up2 Z 78 kd a) 78 5 b, ⟨by omega, ?_, ?_⟩, fun r hr => ?_⟩
      · refine ⟨qZ.cl fun c q1 q2 => by rw [w_ne _ _ _ _ (by omega), w_ne _ _ _ _ (by omega)], by rw [w_ne _ _ _ _ (by decide), w_ne _ _ _ _ (by decide)]; exact s1, by rw [w_ne _ _ _ _ (by decide), w_ne _ _ _ _ (by decide)]; exact s2, fun k hk => ?_, fun k hk => ?_, fun x hx => ?_⟩
        · rw [w78]
          by_cases c5 : k = 5
          · rw [if_pos c5, hb, c5]; exact f3 5 (by omega)
          · rw [if_neg c5]
            by_cases ck : k = kd
            · rw [if_pos ck, ha, ck]; exact f3 kd (by omega)
            · rw [if_neg ck, s3 k hk, y78, if_neg c5, if_neg ck]; exact f3 k hk
        · rw [w78]
          have := s4 k hk
          split
          · omega
          · split <;> omega
        · have hx2 : x < (l.length + 1 + 1) * 768 := Nat.lt_of_lt_of_le hx (Nat.mul_le_mul_right 768 (Nat.le_succ _))
          rw [w_nc _ _ _ _ (by decide), w_nc _ _ _ _ (by decide), s5 x hx2, yc 81 (by decide), x2 x hx]
          exact f5 x hx
      · rw [w_ne _ _ _ _ (by decide), w_ne _ _ _ _ (by decide)]
        refine z2.cg (fun u => ?_)
        obtain ⟨b1, b2⟩ := mod_bit (u := u) hsi
        have hmm : u % 2 ^ i = s → u % 2 ^ f = s := fun e => by
          have := Nat.mod_mod_of_dvd u (Nat.pow_dvd_pow 2 hfi)
          rw [e, hsf] at this
          exact this.symm
        constructor
        · rintro ((hu | hu) | hu)
          · exact Or.inl hu
          · exact Or.inr ⟨hu.1, hu.2.1, hu.2.2.1, fun e => hu.2.2.2 (b2.mp e).1⟩
          · obtain ⟨e1, e2⟩ := b1.mp hu.2.1
            exact Or.inr ⟨hu.1, hmm e1, hu.2.2, fun e => by have := (b2.mp e).2; rw [e2] at this; cases this⟩
        · rintro (hu | hu)
          · exact Or.inl (Or.inl hu)
          · by_cases e : u % 2 ^ i = s
            · refine Or.inr ⟨hu.1, b1.mpr ⟨e, ?_⟩, hu.2.2.1⟩
              cases t : u.testBit i
              · exact absurd (b2.mpr ⟨e, t⟩) hu.2.2.2
              · rfl
            · exact Or.inl (Or.inr ⟨hu.1, hu.2.1, hu.2.2.1, e⟩)
      · have e182 : W 18 2 = S := by rw [qW.1 18 (by omega)]; exact hBS
        have e19 : W 19 = B 19 := qW.1 19 (by omega)
        have k170 : ∀ Q : Nat → Nat → Int, Runs (GW L xs) (d + n + 6) 170 (0, [(Value.int (Int32.ofInt (B 19 i)))], [], zS (eV (Q)) J tg) (some (Value.int (Int32.ofInt ((kd : Int)))), zS (eV (Q)) J tg) := fun Q => by
          have := k_170 (L := L) (xs := xs) (J := J) (tg := tg) (d := d + n + 6) (V := Q) (a := B 19 i) (by omega)
          rw [hkd] at this
          exact this
        apply sg_2_26
        simp (disch := omega) only [e182, e19, eV_at, eV_up, o_lit2, o_add, o_sub, o_mul, o_neg, o_div, o_nat, ix_t, o_lt, o_le, o_eq, o_bi0, o_bi1, o_bib, em_t, o_neg1, o_shl, o_tb, o_tb0, o_tt, o_and, o_xor, o_or, o_max, o_min, an_tb, and_true, true_and, not_true, not_false, if_true, if_false, tn_add, tn_mul, Int.reduceToNat, tn_cast, md_x]
        rw [if_neg (by omega)]
        refine ⟨_, x4, _, _, k170 _, ?_⟩
        simp (disch := omega) only [xa, xb, e5, eV_at, eV_up, o_lit2, o_add, o_sub, o_mul, o_neg, o_div, o_nat, ix_t, o_lt, o_le, o_eq, o_bi0, o_bi1, o_bib, em_t, o_neg1, o_shl, o_tb, o_tb0, o_tt, o_and, o_xor, o_or, o_max, o_min, an_tb, and_true, true_and, not_true, not_false, if_true, if_false, tn_add, tn_mul, Int.reduceToNat, tn_cast, md_x]
        rw [← hY]
        refine ⟨_, z3, _, _, k170 _, ?_⟩
        simp (disch := omega) only [za, zb, ea, eb, e5, eV_at, eV_up, o_lit2, o_add, o_sub, o_mul, o_neg, o_div, o_nat, ix_t, o_lt, o_le, o_eq, o_bi0, o_bi1, o_bib, em_t, o_neg1, o_shl, o_tb, o_tb0, o_tt, o_and, o_xor, o_or, o_max, o_min, an_tb, and_true, true_and, not_true, not_false, if_true, if_false, tn_add, tn_mul, Int.reduceToNat, tn_cast, md_x]
        exact hr) (S - f) f X (by omega) ⟨Nat.le_refl _, p1, p2.cg (fun u => ⟨fun hu => Or.inl hu, fun hu => by
        rcases hu with hu | hu
        · exact hu
        · exact absurd hu.2.1 hu.2.2.2⟩)⟩
    refine ⟨W, i1, i2.cg (fun u => ⟨fun hu => ?_, fun hu => ?_⟩), p3 _ ?_⟩
    · rcases hu with (hu | hu) | hu
      · exact Or.inl hu
      · subst hu; exact Or.inr ⟨hsS, hsf, by omega⟩
      · exact Or.inr ⟨hu.1, hu.2.1, hu.2.2.1⟩
    · rcases hu with hu | hu
      · exact Or.inl (Or.inl hu)
      · by_cases e : u = s
        · exact Or.inl (Or.inr e)
        · exact Or.inr ⟨hu.1, hu.2.1, hu.2.2, by rw [Nat.mod_eq_of_lt hu.1]; exact e⟩
    · rw [if_pos (by omega)]
      refine hr _ ?_
      obtain ⟨qW, -, -, -, -, -⟩ := i1
      have e182 : W 18 2 = S := by rw [qW.1 18 (by omega)]; exact hBS
      apply sg_2_26
      simp (disch := omega) only [e182, eV_at, eV_up, o_lit2, o_add, o_sub, o_mul, o_neg, o_div, o_nat, ix_t, o_lt, o_le, o_eq, o_bi0, o_bi1, o_bib, em_t, o_neg1, o_shl, o_tb, o_tb0, o_tt, o_and, o_xor, o_or, o_max, o_min, an_tb, and_true, true_and, not_true, not_false, if_true, if_false, tn_add, tn_mul, Int.reduceToNat, tn_cast, md_x]
      rw [if_pos (by omega)] <;> first | rfl | trivial
end MK
