/-! Clauses in the reference, on. -/
section LR
variable {L d : Nat} {xs : Nat → Int32} {tg : Option Nat} {b : Nat → Int} {N K : Nat}
set_option maxHeartbeats 4000000 in
theorem m_231 (hK : K < 4) {p : Nat} {V : Nat → Nat → Int} {J : Nat → Nat → Int64} {sd kd hc : Int} {cl : List (Int × Cd)} (hB : BTW V J b N K p cl hc) (hk0 : lxK b N (en isW b N p) ≠ 0) : ∃ (v : Int) (W : Nat → Nat → Int) (J2 : Nat → Nat → Int64), CLo b N K V p (p, 0, sd, [], 0, 0, [], cl, kd, hc) v W J2 ∧ Runs (GW L xs) (d + 8) 231 (0, [.ref 93, vU, vU], [], zS (eV (V)) (J) tg) (some (Value.int (Int32.ofInt (v))), zS (eV (W)) (J2) tg) := by
  obtain ⟨hp, hT, hC, h24, h96, hRC, h21, hlen, hcl, hH, hhc⟩ := hB
  obtain ⟨e1, e2, e3, e4⟩ := en_ch (f := isW) (b := b) hp
  have hN : N ≤ 300 := hT.1.2.1
  obtain ⟨t1, t2, t3⟩ := lxT_le (b := b) e2
  obtain ⟨w, hw, hcs⟩ := tk_f (b := b) (N := N) (f := en isW b N p)
  have f1 : en isW b N p < N := by omega
  clear hcs hw
  have hk := lxK_rg (b := b) (N := N) (f := en isW b N p)
  have k30 := m_230 (L := L) (xs := xs) (tg := tg) (d := d + 5) hT.1 e2 hT.2
  have h18 := hC.1
  have h20 := hC.2.1
  have hb21 : V 93 21 = 0 ∨ V 93 21 = 1 := by rw [h21]; unfold bi; split; exact Or.inr rfl; exact Or.inl rfl
  have hb21' : V 93 21 = 0 ↔ hc = -1 := by
    rw [h21]; unfold bi
    by_cases c : hc ≠ -1
    · rw [if_pos c]; exact ⟨fun q => absurd q (by decide), fun q => absurd q c⟩
    · rw [if_neg c]; exact ⟨fun _ => by omega, fun _ => rfl⟩
  obtain ⟨k, hke⟩ : ∃ k, k = lxK b N (en isW b N p) := ⟨_, rfl⟩
  rw [← hke] at k30 hk hk0
  by_cases c46 : 4 ≤ k ∧ k ≤ 6
  · rw [if_pos c46] at k30
    obtain ⟨V1, hV1⟩ : ∃ V1, V1 = up2 V 93 8 (k - 3) := ⟨_, rfl⟩
    have v1c : ∀ c, c ≠ 93 → V1 c = V c := fun c h => by rw [hV1, w_ne _ _ _ _ h]
    have v1x : ∀ x, x ≠ 8 → V1 93 x = V 93 x := fun x h => by rw [hV1, w_at, if_neg h]
    have v18 : V1 93 8 = k - 3 := by rw [hV1, w_eq]
    have hT1 : TKS V1 J b N p := hT.up (v1x 7 (by decide)) (fun x h1 h2 => v1x x (by omega)) (v1c 100 (by decide))
    have fr1 : FR2 K V V1 := ⟨fun c h1 _ _ _ => v1c c h1, fun x hx => v1x x (by omega), fun x _ => by rw [v1c 96 (by decide)]⟩
    by_cases c4 : k = 6 ∧ hc ≠ -1
    · refine ⟨4, V1, J, ⟨fr1, by decide, Or.inl ⟨by decide, en isW b N p, by rw [v1x 14 (by decide)]; exact hT.2.2.1, e2, ?_⟩⟩, ?_⟩
      · refine Fi_f (s := (p, 0, sd, [], 0, 0, [], cl, kd, hc)) ?_ (by decide)
        rw [st_0, ← hke]; unfold sCl
        rw [if_neg hk0, if_neg (by omega), if_pos c4]
      · apply sg_231
        refine ⟨_, _, _, k30, ?_⟩
        simp (disch := omega) only [eV_at, eV_up, o_lit2, o_add, o_sub, o_mul, o_neg, o_div, o_nat, ix_t, o_lt, o_le, o_eq, o_bi0, o_bi1, o_bib, em_t, o_neg1, o_shl, o_tb, o_tb0, o_tt, o_and, o_xor, o_or, o_max, o_min, an_tb, and_true, true_and, not_true, not_false, if_true, if_false, tn_add, tn_mul, Int.reduceToNat, tn_cast, md_x]
        rw [if_neg (by omega), if_pos (by omega), if_neg (by omega), ← hV1]
    · have start : ∀ r, Runs (GW L xs) (d + 8) 231 (34, [.ref 93, vU, vU], [], zS (eV V1) J tg) r → Runs (GW L xs) (d + 8) 231 (0, [.ref 93, vU, vU], [], zS (eV V) J tg) r := fun r hh => by
        apply sg_231
        refine ⟨_, _, _, k30, ?_⟩
        simp (disch := omega) only [eV_at, eV_up, o_lit2, o_add, o_sub, o_mul, o_neg, o_div, o_nat, ix_t, o_lt, o_le, o_eq, o_bi0, o_bi1, o_bib, em_t, o_neg1, o_shl, o_tb, o_tb0, o_tt, o_and, o_xor, o_or, o_max, o_min, an_tb, and_true, true_and, not_true, not_false, if_true, if_false, tn_add, tn_mul, Int.reduceToNat, tn_cast, md_x]
        rw [← hV1, if_neg (by omega)]
        by_cases c6 : k = 6
        · rw [if_pos (by omega), if_pos (by omega)]; exact hh
        · rw [if_neg (by omega)]; exact hh
      have h18' : V1 93 18 = (800 * K : Nat) := by rw [v1x 18 (by decide)]; exact h18
      have h96' : V1 96 (800 * K) = (cl.length : Nat) := by rw [v1c 96 (by decide)]; exact h96
      by_cases c10 : cl.length = 10
      · refine ⟨6, V1, J, ⟨fr1, by decide, Or.inl ⟨by decide, en isW b N p, by rw [v1x 14 (by decide)]; exact hT.2.2.1, e2, ?_⟩⟩, start _ ?_⟩
        · refine Fi_f (s := (p, 0, sd, [], 0, 0, [], cl, kd, hc)) ?_ (by decide)
          rw [st_0, ← hke]; unfold sCl
          rw [if_neg hk0, if_neg (by omega), if_neg c4, if_pos (by omega)]
        · apply sg_231_34
          simp (disch := omega) only [h18', h96', eV_at, eV_up, o_lit2, o_add, o_sub, o_mul, o_neg, o_div, o_nat, ix_t, o_lt, o_le, o_eq, o_bi0, o_bi1, o_bib, em_t, o_neg1, o_shl, o_tb, o_tb0, o_tt, o_and, o_xor, o_or, o_max, o_min, an_tb, and_true, true_and, not_true, not_false, if_true, if_false, tn_add, tn_mul, Int.reduceToNat, tn_cast, md_x]
          rw [if_pos (by omega)] <;> first | rfl | trivial
      · obtain ⟨y, hy⟩ : ∃ y : Int, y = if k = 6 then 1 else V 93 21 := ⟨_, rfl⟩
        have hyr : (k = 6 ∧ y = 1) ∨ (k ≠ 6 ∧ y = V 93 21) := by
          by_cases q : k = 6
          · exact Or.inl ⟨q, by rw [hy, if_pos q]⟩
          · exact Or.inr ⟨q, by rw [hy, if_neg q]⟩
        obtain ⟨V2, hV2⟩ : ∃ V2, V2 = up2 V1 93 21 y := ⟨_, rfl⟩
        have v2c : ∀ c, c ≠ 93 → V2 c = V1 c := fun c h => by rw [hV2, w_ne _ _ _ _ h]
        have v2x : ∀ x, x ≠ 21 → V2 93 x = V1 93 x := fun x h => by rw [hV2, w_at, if_neg h]
        have hT2 : TKS V2 J b N p := hT1.up (v2x 7 (by decide)) (fun x h1 h2 => v2x x (by omega)) (v2c 100 (by decide))
        obtain ⟨X, J1, x1, x2, x3, hx⟩ := m_213T (L := L) (xs := xs) (tg := tg) (d := d + 5) hT2 hp
        have x18 : X 93 18 = (800 * K : Nat) := by rw [x2 18 (by omega), v2x 18 (by decide)]; exact h18'
        have x8 : X 93 8 = k - 3 := by rw [x2 8 (by omega), v2x 8 (by decide)]; exact v18
        have x20 : X 93 20 = ((fl cl).length : Nat) := by rw [x2 20 (by omega), v2x 20 (by decide), v1x 20 (by decide)]; exact h20
        have x96 : X 96 = V 96 := by rw [x1 96 (by decide), v2c 96 (by decide), v1c 96 (by decide)]
        obtain ⟨n, hn⟩ : ∃ n, n = cl.length := ⟨_, rfl⟩
        obtain ⟨Y, hY⟩ : ∃ Y, Y = up2 (up2 X 96 (800 * K + 1 + 3 * n) (k - 3)) 96 (800 * K + 2 + 3 * n) ((fl cl).length : Int) := ⟨_, rfl⟩
        have yc : ∀ c, c ≠ 96 → Y c = X c := fun c h => by rw [hY, w_ne _ _ _ _ h, w_ne _ _ _ _ h]
        have y96 : ∀ x, Y 96 x = if x = 800 * K + 2 + 3 * n then ((fl cl).length : Int) else if x = 800 * K + 1 + 3 * n then k - 3 else V 96 x := fun x => by rw [hY, w_at, w_at, x96]
        have hTY : TKS Y J1 b N (lxT b N (en isW b N p)) := x3.up (by rw [yc 93 (by decide)]) (fun x h1 h2 => by rw [yc 93 (by decide)]) (yc 100 (by decide))
        have hCY : CDS Y K (fl cl) := ⟨by rw [yc 93 (by decide)]; exact x18, by rw [yc 93 (by decide)]; exact x20, hC.2.2.up fun x h1 h2 => by rw [y96, if_neg (by omega), if_neg (by omega)]⟩
        have y24 : Y 93 24 = 0 := by rw [yc 93 (by decide), x2 24 (by omega), v2x 24 (by decide), v1x 24 (by decide)]; exact h24
        have y8 : Y 93 8 = k - 3 := by rw [yc 93 (by decide)]; exact x8
        have yt : Y 96 (800 * K) = (cl.length : Nat) := by rw [y96, if_neg (by omega), if_neg (by omega)]; exact h96
        have yh1 : Y 96 (800 * K + 1 + 3 * cl.length) = k - 3 := by rw [← hn, y96, if_neg (by omega), if_pos rfl]
        have yh2 : Y 96 (800 * K + 2 + 3 * cl.length) = ((fl cl).length : Nat) := by rw [← hn, y96, if_pos rfl]
        have yR : RCl (Y 96) (800 * K) cl := hRC.up fun x h1 h2 => by rw [y96, if_neg (by omega), if_neg (by omega)]
        have y21 : Y 93 21 = y := by rw [yc 93 (by decide), x2 21 (by omega), hV2, w_eq]
        have frY : FR2 K V Y := ⟨fun c h1 h2 h3 h4 => by rw [yc c h2, x1 c h1, v2c c h1, v1c c h1], fun x hx => by rw [yc 93 (by decide), x2 x (by omega), v2x x (by omega), v1x x (by omega)], fun x hx => by rw [y96, if_neg (by omega), if_neg (by omega)]⟩
        have go : ∀ r, (if k - 3 = 3 then (∃ (v3 : Int32) (I4 : Nat → Nat → Int32) (J5 : Nat → Nat → Int64), Runs (GW L xs) (d + 7) 225 (0, [.ref 93, vU], [], zS (eV Y) J1 tg) (some (.int v3), zS I4 J5 tg) ∧ Runs (GW L xs) (d + 8) 231 (134, [.ref 93, (Value.int (Int32.ofInt ((cl.length : Nat)))), vU], [.int v3], zS I4 J5 tg) r) else (∃ (v6 : Int32) (I7 : Nat → Nat → Int32) (J8 : Nat → Nat → Int64), Runs (GW L xs) (d + 7) 229 (0, [.ref 93, vU, vU, vU, vU], [], zS (eV Y) J1 tg) (some (.int v6), zS I7 J8 tg) ∧ Runs (GW L xs) (d + 8) 231 (134, [.ref 93, (Value.int (Int32.ofInt ((cl.length : Nat)))), vU], [.int v6], zS I7 J8 tg) r)) → Runs (GW L xs) (d + 8) 231 (0, [.ref 93, vU, vU], [], zS (eV V) J tg) r := fun r hh => by
          refine start _ ?_
          have g7 : ∀ y1 : Int, y1 = y → Runs (GW L xs) (d + 8) 231 (70, [.ref 93, (Value.int (Int32.ofInt ((cl.length : Nat)))), vU], [(Value.int (Int32.ofInt (y1))), .ref 93], zS (eV V1) J tg) r := fun y1 q => by
            rw [q]
            apply sg_231_70
            rw [eV_up, ← hV2]
            refine ⟨_, _, hx, ?_⟩
            rw [← hn] at hh ⊢
            simp (disch := omega) only [x18, x8, x20, eV_at, eV_up, o_lit2, o_add, o_sub, o_mul, o_neg, o_div, o_nat, ix_t, o_lt, o_le, o_eq, o_bi0, o_bi1, o_bib, em_t, o_neg1, o_shl, o_tb, o_tb0, o_tt, o_and, o_xor, o_or, o_max, o_min, an_tb, and_true, true_and, not_true, not_false, if_true, if_false, tn_add, tn_mul, Int.reduceToNat, tn_cast, md_x]
            rw [← hY]
            exact hh
          apply sg_231_34
          simp (disch := omega) only [h18', h96', v18, eV_at, eV_up, o_lit2, o_add, o_sub, o_mul, o_neg, o_div, o_nat, ix_t, o_lt, o_le, o_eq, o_bi0, o_bi1, o_bib, em_t, o_neg1, o_shl, o_tb, o_tb0, o_tt, o_and, o_xor, o_or, o_max, o_min, an_tb, and_true, true_and, not_true, not_false, if_true, if_false, tn_add, tn_mul, Int.reduceToNat, tn_cast, md_x]
          rw [if_neg (by omega)]
          rcases hyr with ⟨q1, q2⟩ | ⟨q1, q2⟩
          · rw [if_pos (by omega)]
            exact g7 1 q2.symm
          · rw [if_neg (by omega)]
            exact g7 (V1 93 21) (by rw [v1x 21 (by decide), q2])
        have hlT : (fl cl).length < lxT b N (en isW b N p) := by have := t3 f1; omega
        have hpT : p ≤ lxT b N (en isW b N p) := by omega
        have cl10 : cl.length < 10 := by omega
        have nN : ¬ N ≤ en isW b N p := by omega
        have n46 : ¬ ¬ (4 ≤ k ∧ k ≤ 6) := fun z => z c46
        have n10 : ¬ 10 ≤ cl.length := by omega
        by_cases c6 : k = 6
        · have hc1 : hc = -1 := by omega
          have k33 : k - 3 = 3 := by omega
          have y1' : y = 1 := by omega
          have hstp : sTp b N (p, 0, sd, [], 0, 0, [], cl, kd, hc) = ((lxT b N (en isW b N p), 2, 2, [], 0, 0, [], cl, 6, (cl.length : Int)), 0) := by
            rw [st_0, ← hke]; unfold sCl
            rw [if_neg hk0, if_neg n46, if_neg c4, if_neg n10, if_pos c6]
          obtain ⟨v, W, J2, z1, z2⟩ := m_231h (L := L) (xs := xs) (tg := tg) (d := d) hK t1 hTY hCY y24 (y8.trans k33) yt (yh1.trans k33) yh2 yR (y21.trans y1') hlT cl10 (by rw [← hc1]; exact hH)
          exact ⟨v, W, J2, z1.tr frY hpT (fun r hr => Fi_s (s := (p, 0, sd, [], 0, 0, [], cl, kd, hc)) hstp nN hr), go _ (ite_p k33 z2)⟩
        · have k33 : ¬ k - 3 = 3 := by omega
          have k45 : 4 ≤ k ∧ k ≤ 5 := by omega
          have y1' : y = V 93 21 := by omega
          have hstp : sTp b N (p, 0, sd, [], 0, 0, [], cl, kd, hc) = ((lxT b N (en isW b N p), 1, sd, [], 0, 0, [], cl, k, hc), 0) := by
            rw [st_0, ← hke]; unfold sCl
            rw [if_neg hk0, if_neg n46, if_neg c4, if_neg n10, if_neg c6]
          obtain ⟨v, W, J2, z1, z2⟩ := m_231a (L := L) (xs := xs) (tg := tg) (d := d) (sd := sd) (hc := hc) hK k45 t1 hTY hCY y24 y8 yt yh1 yh2 yR ((y21.trans y1').trans h21) hlT cl10 hH hhc
          exact ⟨v, W, J2, z1.tr frY hpT (fun r hr => Fi_s (s := (p, 0, sd, [], 0, 0, [], cl, kd, hc)) hstp nN hr), go _ (ite_n k33 z2)⟩
  · rw [if_neg c46] at k30
    obtain ⟨V1, hV1⟩ : ∃ V1, V1 = up2 V 93 8 0 := ⟨_, rfl⟩
    refine ⟨1, V1, J, ⟨⟨fun c h1 _ _ _ => by rw [hV1, w_ne _ _ _ _ h1], fun x hx => by rw [hV1, w_at, if_neg (by omega)], fun x _ => by rw [hV1, w_ne _ _ _ _ (by decide)]⟩, by decide, Or.inl ⟨by decide, en isW b N p, by rw [hV1, w_at, if_neg (by decide)]; exact hT.2.2.1, e2, ?_⟩⟩, ?_⟩
    · refine Fi_f (s := (p, 0, sd, [], 0, 0, [], cl, kd, hc)) ?_ (by decide)
      rw [st_0, ← hke]; unfold sCl
      rw [if_neg hk0, if_pos c46]
    · apply sg_231
      refine ⟨_, _, _, k30, ite_p rfl ?_⟩
      rw [eV_up, ← hV1]
      rfl
/-- all clauses -/
theorem m_232l (hK : K < 4) : ∀ (n p : Nat) (V : Nat → Nat → Int) (J : Nat → Nat → Int64) (sd kd hc : Int) (cl : List (Int × Cd)), N - p < n → BTW V J b N K p cl hc → ∃ (v : Int) (W : Nat → Nat → Int) (J2 : Nat → Nat → Int64), FR2 K V W ∧ (0 ≤ v ∧ v ≤ 6) ∧ Runs (GW L xs) (d + 9) 232 (48, [.ref 93, vU], [], zS (eV V) J tg) (some (Value.int (Int32.ofInt (v))), zS (eV W) J2 tg) ∧ ((v ≠ 0 ∧ ∃ f : Nat, W 93 14 = f ∧ f ≤ N ∧ Fi b N (p, 0, sd, [], 0, 0, [], cl, kd, hc) (v, f, [], 0)) ∨ (v = 0 ∧ ∃ (p' : Nat) (hc' : Int) (cl' : List (Int × Cd)), BTW W J2 b N K p' cl' hc' ∧ Fi b N (p, 0, sd, [], 0, 0, [], cl, kd, hc) (0, 0, cl', hc')))
  | 0, p, V, J, sd, kd, hc, cl, hn, _ => by omega
  | n + 1, p, V, J, sd, kd, hc, cl, hn, hB => by
    have hT := hB.2.1
    obtain ⟨e1, e2, e3, e4⟩ := en_ch (f := isW) (b := b) hB.1
    obtain ⟨w, hw, hcs⟩ := tk_f (b := b) (N := N) (f := en isW b N p)
    have hr15 := rK_rg (b := b) (N := N) (f := en isW b N p) (fun k hk => (hT.1.2.2 k hk).2)
    have k15 : V 93 15 = rK b N (en isW b N p) := hT.2.2.2.1
    by_cases c0 : lxK b N (en isW b N p) = 0
    · refine ⟨0, V, J, ⟨fun _ _ _ _ _ => rfl, fun _ _ => rfl, fun _ _ => rfl⟩, by decide, ?_, Or.inr ⟨rfl, p, hc, cl, hB, ?_⟩⟩
      · apply sg_232_48
        refine ite_p ?_ rfl
        rw [eV_at, k15, show rK b N (en isW b N p) = 0 by omega]; rfl
      · refine Fi_e (s := (p, 0, sd, [], 0, 0, [], cl, kd, hc)) (s' := (lxT b N (en isW b N p), 0, sd, [], 0, 0, [], cl, kd, hc)) ?_ (by show N ≤ en isW b N p; omega)
        rw [st_0]; unfold sCl
        rw [if_pos c0]
    · obtain ⟨v, W, J2, ⟨w1, w2, hres⟩, hr⟩ := m_231 (L := L) (xs := xs) (tg := tg) (d := d) (sd := sd) (kd := kd) hK hB c0
      have start : ∀ r, (if Int32.ofInt v = 0 then Runs (GW L xs) (d + 9) 232 (48, [.ref 93, vU], [], zS (eV W) J2 tg) r else r = (some (Value.int (Int32.ofInt (v))), zS (eV W) J2 tg)) → Runs (GW L xs) (d + 9) 232 (48, [.ref 93, vU], [], zS (eV V) J tg) r := fun r hh => by
        apply sg_232_48
        refine ite_n ?_ ⟨_, _, _, hr, hh⟩
        rw [eV_at, k15]
        intro q
        have q : Int32.ofInt (rK b N (en isW b N p)) = Int32.ofInt 0 := q
        rw [o_eq (by omega) (by omega)] at q
        omega
      rcases hres with ⟨g0, f, g1, g2, g3⟩ | ⟨g0, p', sd', kd', hc', cl', g1, g2, g3⟩
      · refine ⟨v, W, J2, w1, w2, start _ (ite_n ?_ rfl), Or.inl ⟨g0, f, g1, g2, g3⟩⟩
        intro q
        have q : Int32.ofInt v = Int32.ofInt 0 := q
        rw [o_eq (by omega) (by omega)] at q
        exact g0 q
      · have hp' := g2.1
        obtain ⟨v', W', J', z1, z2, z3, z4⟩ := m_232l hK n p' W J2 sd' kd' hc' cl' (by omega) g2
        refine ⟨v', W', J', w1.tr z1, z2, start _ (ite_p (by rw [g0]; rfl) z3), ?_⟩
        rcases z4 with ⟨q0, f, q1, q2, q3⟩ | ⟨q0, p'', hc'', cl'', q1, q2⟩
        · exact Or.inl ⟨q0, f, q1, q2, g3 _ q3⟩
        · exact Or.inr ⟨q0, p'', hc'', cl'', q1, g3 _ q2⟩
theorem m_232 {V : Nat → Nat → Int} {J : Nat → Nat → Int64} (hK : K < 4) (hT : TPR V b N) (h3 : V 94 3 = K) (sd kd : Int) : ∃ (v : Int) (W : Nat → Nat → Int) (J2 : Nat → Nat → Int64), FR2 K V W ∧ (0 ≤ v ∧ v ≤ 6) ∧ Runs (GW L xs) (d + 9) 232 (0, [.ref 93, vU], [], zS (eV (V)) (J) tg) (some (Value.int (Int32.ofInt (v))), zS (eV (W)) (J2) tg) ∧ ((v ≠ 0 ∧ ∃ f : Nat, W 93 14 = f ∧ f ≤ N ∧ Fi b N (0, 0, sd, [], 0, 0, [], [], kd, -1) (v, f, [], 0)) ∨ (v = 0 ∧ ∃ (p' : Nat) (hc' : Int) (cl' : List (Int × Cd)), BTW W J2 b N K p' cl' hc' ∧ Fi b N (0, 0, sd, [], 0, 0, [], [], kd, -1) (0, 0, cl', hc'))) := by
  obtain ⟨X, hX⟩ : ∃ X, X = up2 (up2 (up2 (up2 (up2 (up2 V 93 18 (800 * (K : Int))) 96 (800 * K) 0) 93 20 0) 93 24 0) 93 21 0) 93 13 0 := ⟨_, rfl⟩
  have xc : ∀ c, c ≠ 93 → c ≠ 96 → X c = V c := fun c h1 h2 => by rw [hX, w_ne _ _ _ _ h1, w_ne _ _ _ _ h1, w_ne _ _ _ _ h1, w_ne _ _ _ _ h1, w_ne _ _ _ _ h2, w_ne _ _ _ _ h1]
  have x93 : ∀ x, X 93 x = if x = 13 then 0 else if x = 21 then 0 else if x = 24 then 0 else if x = 20 then 0 else if x = 18 then 800 * (K : Int) else V 93 x := fun x => by rw [hX, w_at, w_at, w_at, w_at, w_ne _ _ _ _ (by decide), w_at]
  have x96 : ∀ x, X 96 x = if x = 800 * K then 0 else V 96 x := fun x => by rw [hX, w_ne _ _ _ _ (by decide), w_ne _ _ _ _ (by decide), w_ne _ _ _ _ (by decide), w_ne _ _ _ _ (by decide), w_at, w_ne _ _ _ _ (by decide)]
  have hTX : TPR X b N := ⟨by rw [x93]; exact hT.1, hT.2.1, fun k hk => by rw [xc 100 (by decide) (by decide)]; exact hT.2.2 k hk⟩
  obtain ⟨Y, J1, y1, y2, y3, y4, y5, y6, y7, hy⟩ := m_213 (L := L) (xs := xs) (J := J) (tg := tg) (d := d + 6) hTX (Nat.zero_le N) rfl (by rw [x93]; rfl)
  have hB : BTW Y J1 b N K 0 [] (-1) := by
    refine ⟨Nat.zero_le _, ⟨⟨by rw [y2 7 (by omega)]; exact hTX.1, hTX.2.1, fun k hk => by rw [y1 100 (by decide)]; exact hTX.2.2 k hk⟩, y3, y4, y5, y6, y7⟩, ⟨?_, ?_, trivial⟩, ?_, ?_, trivial, ?_, Nat.zero_le _, by decide, trivial, Or.inl rfl⟩
    · rw [y2 18 (by omega), x93, if_neg (by decide), if_neg (by decide), if_neg (by decide), if_neg (by decide), if_pos rfl]; omega
    · rw [y2 20 (by omega), x93]; rfl
    · rw [y2 24 (by omega), x93]; rfl
    · rw [y1 96 (by decide), x96, if_pos rfl]; rfl
    · rw [y2 21 (by omega), x93]; rfl
  obtain ⟨v, W, J2, w1, w2, w3, w4⟩ := m_232l (L := L) (xs := xs) (tg := tg) (d := d) (b := b) (N := N) hK (N + 1) 0 Y J1 sd kd (-1) [] (by omega) hB
  refine ⟨v, W, J2, FR2.tr ⟨fun c h1 h2 h3 h4 => by rw [y1 c h1, xc c h1 h2], fun x hx => by rw [y2 x (by omega), x93, if_neg (by omega), if_neg (by omega), if_neg (by omega), if_neg (by omega), if_neg (by omega)], fun x hx => by rw [y1 96 (by decide), x96, if_neg (by omega)]⟩ w1, w2, ?_, w4⟩
  apply sg_232
  simp (disch := omega) only [h3, eV_at, eV_up, o_lit2, o_add, o_sub, o_mul, o_neg, o_div, o_nat, ix_t, o_lt, o_le, o_eq, o_bi0, o_bi1, o_bib, em_t, o_neg1, o_shl, o_tb, o_tb0, o_tt, o_and, o_xor, o_or, o_max, o_min, an_tb, and_true, true_and, not_true, not_false, if_true, if_false, tn_add, tn_mul, Int.reduceToNat, tn_cast, md_x]
  rw [← hX]
  exact ⟨_, _, hy, w3⟩
end LR
