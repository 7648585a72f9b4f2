/-! The reader of texts: its loop. -/
section LC
variable {L d : Nat} {xs : Nat → Int32} {V : Nat → Nat → Int} {J : Nat → Nat → Int64} {tg : Option Nat} {C : Nat} {b : Nat → Int} {N : Nat}
theorem SkF.suf {α : Type} {f : α → Int} {A : Nat → Int} {m : List α} : ∀ {l : List α}, SkF f A (l ++ m) → SkF f A m
  | [], h => h
  | _ :: _, h => SkF.suf h.2
theorem CCl.z {V : Nat → Nat → Int} {C : Nat} : ∀ {l : List (Int × Cd)}, CCl V C l → V (C + 3) 0 = 0
  | [], h => h
  | _ :: _, h => CCl.z h.2
/-- one TOKEN -/
theorem k_71s (hC : isG C) {p : Nat} {st sd : Int} {ws : List Int} {br mi : Nat} {cu : Cd} {cl : List (Int × Cd)} {kd hc : Int} {f : Nat} (hf : f = en isW b N p) (hT : TPE V b N) (hs : CSQ V C st sd ws br mi cu cl kd hc) (h15 : V 67 15 = p) (hB : BNq N p st sd ws br mi cu cl hc) (h4 : V 67 4 = 0) (h12 : 1 ≤ V 67 12 ∧ V 67 12 ≤ 20) {i : Nat} (hi : i ≤ 300) : ∃ W : Nat → Nat → Int, ((∀ c, c ≠ C → c ≠ C + 1 → c ≠ C + 2 → c ≠ C + 3 → c ≠ 67 → c ≠ 69 → W c = V c) ∧ (∀ x, x ≤ 6 → W 67 x = V 67 x) ∧ W (C + 3) 0 = V (C + 3) 0) ∧ (W 67 14 = f ∧ W 67 12 = lxK b N f ∧ W 67 15 = (lxT b N f : Nat)) ∧ ((sTp b N (p, st, sd, ws, br, mi, cu, cl, kd, hc)).2 = 0 → CSs W C (sTp b N (p, st, sd, ws, br, mi, cu, cl, kd, hc)).1) ∧ ∀ r, Runs (GW L xs) (d + 5) 71 (7, [.ref 67, .ref C, (Value.int (Int32.ofInt ((i : Int) + 1)))], [], zS (eV (up2 W 67 4 (sTp b N (p, st, sd, ws, br, mi, cu, cl, kd, hc)).2)) J (some C)) r → Runs (GW L xs) (d + 5) 71 (7, [.ref 67, .ref C, (Value.int (Int32.ofInt ((i : Int))))], [], zS (eV V) J (some C)) r := by
  obtain ⟨b1, b2, b3, b4, b5, b6, b7, b8, b9, ba⟩ := hB
  obtain ⟨h7, h8, hW, h10, h11, hD, h4c, h6c, hL, hkd⟩ := hs
  obtain ⟨U, u1, u2, u3, u4, u5, u6, hu⟩ := k_72 (L := L) (xs := xs) (J := J) (tg := some C) (d := d + 2) hT b1 hf h15
  have hN : N ≤ 300 := hT.2.1
  obtain ⟨e1, e2, e3, e4⟩ := en_ch (f := isW) (b := b) b1
  rw [← hf] at e1 e2 e3 e4
  have hk := lxK_rg (b := b) (N := N) (f := f)
  have uw : ∀ x, ¬ (12 ≤ x ∧ x ≤ 15) → U 67 x = V 67 x := u2
  have hU : CSQ U C st sd ws br mi cu cl kd hc := ⟨by rw [uw 7 (by omega)]; exact h7, by rw [uw 8 (by omega)]; exact h8, hW.up (uw 9 (by omega)) (u1 69 (by decide)), by rw [uw 10 (by omega)]; exact h10, by rw [uw 11 (by omega)]; exact h11, hD.up (by rw [u1 C (by omega)]) (u1 _ (by omega)), by rw [u1 C (by omega)]; exact h4c, by rw [u1 C (by omega)]; exact h6c, hL.up (fun k _ => by rw [u1 _ (by omega)]) (fun k _ => by rw [u1 _ (by omega)]), fun z => by rw [u1 _ (by omega)]; exact hkd z⟩
  have hU7 : U 67 7 = st := hU.1
  have hfN : lxK b N f = 2 ∨ lxK b N f = 3 → f < N := fun z => by
    rcases z with z | z
    · exact (lx_2 z).1
    · exact (lx_3 z).1
  have hU13 : lxK b N f = 2 ∨ lxK b N f = 3 → U 67 13 = lxV b N f := fun z => u6 (hfN z) (by
    rcases z with z | z
    · exact Or.inl (lx_2 z).2.1
    · exact Or.inr (lx_3L z))
  have hv : lxK b N f = 2 ∨ lxK b N f = 3 → 0 ≤ lxV b N f ∧ lxV b N f ≤ 10000 := fun z => by
    rcases z with z | z
    · have e : lxV b N f = mn4 (numv b f (en isD b N f - f)) := by unfold lxV; rw [if_pos (lx_2 z).2.1]
      obtain ⟨a1, a2, a3, a4⟩ := en_ch (f := isD) (b := b) e2
      obtain ⟨c1, c2, c3, c4⟩ := nmr_ch (b := b) (p := f) (en isD b N f - f) (fun i h1 h2 => a3 i h1 (by omega))
      rw [e]; unfold mn4
      omega
    · have := (lx_3 z).2; omega
  have x300 : ¬ (300 : Int32) < Int32.ofInt (i : Int) := by
    show ¬ Int32.ofInt 300 < Int32.ofInt (i : Int)
    rw [o_lt (by omega) (by omega)]; omega
  have x12 : ¬ (eV V) 67 12 = 0 := by
    rw [eV_at]
    intro z
    have z : Int32.ofInt (V 67 12) = Int32.ofInt 0 := z
    rw [o_eq (by omega) (by omega)] at z
    omega
  have x4 : (eV V) 67 4 = 0 := by rw [eV_at, h4]; rfl
  have xi : Int32.ofInt (i : Int) + 1 = Int32.ofInt ((i : Int) + 1) := by
    show Int32.ofInt (i : Int) + Int32.ofInt 1 = _
    exact o_add _ _
  have fin : ∀ W, FRC C U W → ((∀ c, c ≠ C → c ≠ C + 1 → c ≠ C + 2 → c ≠ C + 3 → c ≠ 67 → c ≠ 69 → W c = V c) ∧ (∀ x, x ≤ 6 → W 67 x = V 67 x) ∧ W (C + 3) 0 = V (C + 3) 0) ∧ (W 67 14 = f ∧ W 67 12 = lxK b N f ∧ W 67 15 = (lxT b N f : Nat)) := fun W h => ⟨⟨fun c q1 q2 q3 q4 q5 q6 => by rw [h.1 c q1 q2 q3 q4 q5 q6, u1 c q5], fun x hx => by rw [h.2.1 x (by omega), uw x (by omega)], by rw [h.2.2, u1 _ (by omega)]⟩, by rw [h.2.1 14 (by omega)]; exact u3, by rw [h.2.1 12 (by omega)]; exact u4, by rw [h.2.1 15 (by omega)]; exact u5⟩
  have hst : st = 0 ∨ st = 1 ∨ st = 2 ∨ st = 3 ∨ st = 4 := by omega
  have hlen : st ≠ 0 → cl.length < 10 := b7
  -- a TOKEN that is none changes nothing where a clause is open
  have hlt : st ≠ 0 → (cu ++ fl cl).length + ws.length + mi < 300 ∨ lxK b N f = 0 := fun z => by
    by_cases q : f < N
    · exact Or.inl (by omega)
    · right
      unfold lxK
      rw [if_pos (by omega)]
  have go : ∀ {m : Nat} {W : Nat → Nat → Int} {e : Int} {r}, Runs (GW L xs) (d + 4) m (0, [.ref 67], [], zS (eV U) J (some C)) (some (Value.int (Int32.ofInt (e))), zS (eV W) J (some C)) → Runs (GW L xs) (d + 5) 71 (7, [.ref 67, .ref C, (Value.int (Int32.ofInt ((i : Int) + 1)))], [], zS (eV (up2 W 67 4 e)) J (some C)) r → ∃ (v2 : Int32) (I3 : Nat → Nat → Int32), Runs (GW L xs) (d + 4) m (0, [.ref 67], [], zS (eV U) J (some C)) (some (.int v2), zS I3 J (some C)) ∧ Runs (GW L xs) (d + 5) 71 (7, [.ref 67, .ref C, .int (Int32.ofInt (i : Int) + 1)], [], zS (up2 I3 67 4 v2) J (some C)) r := fun h1 h2 => ⟨_, _, h1, by rw [eV_up, xi]; exact h2⟩
  rcases hst with rfl | rfl | rfl | rfl | rfl
  · obtain ⟨W, w1, w2, hw⟩ := k_80 (L := L) (xs := xs) (J := J) (d := d + 3) hC (T := lxT b N f) (k := lxK b N f) rfl hU rfl hk u4 b6 ba
    refine ⟨W, (fin W w1).1, (fin W w1).2, ?_, ?_⟩
    · rw [st_0, ← hf]; exact w2
    · rw [st_0, ← hf]
      intro r hr
      refine sgc_71_7 _ _ none _ hC (ite_n x300 (ite_n x12 (ite_p x4 ⟨_, hu, ite_n ?_ (ite_p ?_ (go hw hr))⟩)))
      · rw [eV_at, hU7]; decide
      · rw [eV_at, hU7]; rfl
  · rcases hlt (by decide) with hl | hk0
    · obtain ⟨W, w1, w2, hw⟩ := k_81 (L := L) (xs := xs) (J := J) (d := d + 2) hC (T := lxT b N f) (k := lxK b N f) (v := lxV b N f) rfl hU rfl hk u4 hU13 hv b5 (by omega) (by omega)
      refine ⟨W, (fin W w1).1, (fin W w1).2, ?_, ?_⟩
      · rw [st_1, ← hf]; exact w2
      · rw [st_1, ← hf]
        intro r hr
        refine sgc_71_7 _ _ none _ hC (ite_n x300 (ite_n x12 (ite_p x4 ⟨_, hu, ite_n ?_ (ite_n ?_ (ite_p ?_ (go hw hr)))⟩)))
        · rw [eV_at, hU7]; decide
        · rw [eV_at, hU7]; decide
        · rw [eV_at, hU7]; rfl
    · have e : sTp b N (p, 1, sd, ws, br, mi, cu, cl, kd, hc) = (pm0, 1) := by
        rw [st_1, ← hf, hk0]; unfold sAsk sOne
        rw [if_pos (by decide), if_neg (by decide), if_neg (by decide), if_pos (by decide)]
      rw [e]
      refine ⟨up2 U 67 8 0, (fin (up2 U 67 8 0) ?_).1, (fin (up2 U 67 8 0) ?_).2, fun z => absurd z (by decide), ?_⟩
      · exact ⟨fun c _ _ _ _ z _ => by rw [w_ne _ _ _ _ z], fun x hx => by rw [w_at, if_neg (by omega)], by rw [w_ne _ _ _ _ (by omega)]⟩
      · exact ⟨fun c _ _ _ _ z _ => by rw [w_ne _ _ _ _ z], fun x hx => by rw [w_at, if_neg (by omega)], by rw [w_ne _ _ _ _ (by omega)]⟩
      · intro r hr
        have hU12 : (up2 U 67 8 0) 67 12 = 0 := by rw [w_at, if_neg (by decide), u4, hk0]
        have k83 : Runs (GW L xs) (d + 2) 83 (0, [.ref 67], [], zS (eV (up2 U 67 8 0)) J (some C)) (some (Value.int (Int32.ofInt (1))), zS (eV (up2 U 67 8 0)) J (some C)) := by
          apply sg_83
          exact ite_n (by rw [eV_at, hU12]; decide) rfl
        have k82 : Runs (GW L xs) (d + 3) 82 (0, [.ref 67], [], zS (eV (up2 U 67 8 0)) J (some C)) (some (Value.int (Int32.ofInt (1))), zS (eV (up2 U 67 8 0)) J (some C)) := by
          refine sgc_82 _ _ none hC (ite_n (by rw [eV_at, hU12]; decide) (ite_n (by rw [eV_at, hU12]; decide) ⟨_, _, k83, rfl⟩))
        have hw : Runs (GW L xs) (d + 4) 81 (0, [.ref 67], [], zS (eV U) J (some C)) (some (Value.int (Int32.ofInt (1))), zS (eV (up2 U 67 8 0)) J (some C)) := by
          apply sg_81
          refine ite_n (by rw [eV_at, u4, hk0]; decide) ?_
          rw [show up2 (eV U) 67 8 (0 : Int32) = eV (up2 U 67 8 0) from eV_up U 67 8 0]
          exact ⟨_, _, k82, rfl⟩
        refine sgc_71_7 _ _ none _ hC (ite_n x300 (ite_n x12 (ite_p x4 ⟨_, hu, ite_n ?_ (ite_n ?_ (ite_p ?_ (go hw hr)))⟩)))
        · rw [eV_at, hU7]; decide
        · rw [eV_at, hU7]; decide
        · rw [eV_at, hU7]; rfl
  · rcases hlt (by decide) with hl | hk0
    · obtain ⟨W, w1, w2, hw⟩ := k_82 (L := L) (xs := xs) (J := J) (d := d + 3) hC (T := lxT b N f) (k := lxK b N f) (v := lxV b N f) rfl hU (by decide) (b9 (Or.inl rfl)) hk u4 hU13 hv b5 (by omega)
      refine ⟨W, (fin W w1).1, (fin W w1).2, ?_, ?_⟩
      · rw [st_2, ← hf]; exact w2
      · rw [st_2, ← hf]
        intro r hr
        refine sgc_71_7 _ _ none _ hC (ite_n x300 (ite_n x12 (ite_p x4 ⟨_, hu, ite_n ?_ (ite_n ?_ (ite_n ?_ (ite_p ?_ (go hw hr))))⟩)))
        · rw [eV_at, hU7]; decide
        · rw [eV_at, hU7]; decide
        · rw [eV_at, hU7]; decide
        · rw [eV_at, hU7]; rfl
    · have e : sTp b N (p, 2, sd, ws, br, mi, cu, cl, kd, hc) = (pm0, 1) := by
        rw [st_2, ← hf, hk0]; unfold sOne
        rw [if_neg (by decide), if_neg (by decide), if_pos (by decide)]
      rw [e]
      refine ⟨U, (fin U FRC.rf).1, (fin U FRC.rf).2, fun z => absurd z (by decide), ?_⟩
      intro r hr
      have hU12 : U 67 12 = 0 := by rw [u4, hk0]
      have k83 : Runs (GW L xs) (d + 3) 83 (0, [.ref 67], [], zS (eV U) J (some C)) (some (Value.int (Int32.ofInt (1))), zS (eV U) J (some C)) := by
        apply sg_83
        exact ite_n (by rw [eV_at, hU12]; decide) rfl
      have hw : Runs (GW L xs) (d + 4) 82 (0, [.ref 67], [], zS (eV U) J (some C)) (some (Value.int (Int32.ofInt (1))), zS (eV U) J (some C)) := by
        refine sgc_82 _ _ none hC (ite_n (by rw [eV_at, hU12]; decide) (ite_n (by rw [eV_at, hU12]; decide) ⟨_, _, k83, rfl⟩))
      refine sgc_71_7 _ _ none _ hC (ite_n x300 (ite_n x12 (ite_p x4 ⟨_, hu, ite_n ?_ (ite_n ?_ (ite_n ?_ (ite_p ?_ (go hw hr))))⟩)))
      · rw [eV_at, hU7]; decide
      · rw [eV_at, hU7]; decide
      · rw [eV_at, hU7]; decide
      · rw [eV_at, hU7]; rfl
  · rcases hlt (by decide) with hl | hk0
    · obtain ⟨W, w1, w2, hw⟩ := k_84 (L := L) (xs := xs) (J := J) (d := d) hC (T := lxT b N f) (k := lxK b N f) rfl hU (by decide) (b9 (Or.inr rfl)) hk u4 b5 b4 b3 (by omega) (hlen (by decide))
      refine ⟨W, (fin W w1).1, (fin W w1).2, ?_, ?_⟩
      · rw [st_3, ← hf]; exact w2
      · rw [st_3, ← hf]
        intro r hr
        refine sgc_71_7 _ _ none _ hC (ite_n x300 (ite_n x12 (ite_p x4 ⟨_, hu, ite_n ?_ (ite_n ?_ (ite_n ?_ (ite_n ?_ (ite_p ?_ (go hw hr)))))⟩)))
        · rw [eV_at, hU7]; decide
        · rw [eV_at, hU7]; decide
        · rw [eV_at, hU7]; decide
        · rw [eV_at, hU7]; decide
        · rw [eV_at, hU7]; rfl
    · have e : sTp b N (p, 3, sd, ws, br, mi, cu, cl, kd, hc) = (pm0, 1) := by
        rw [st_3, ← hf, hk0]; unfold fOne
        rw [if_neg (by decide)]
        by_cases c0 : sd = 0
        · rw [if_pos c0, if_neg (by decide)]
        · rw [if_neg c0]
          by_cases c1 : sd = 1 ∨ (0 : Int) = 20
          · rw [if_pos c1]; unfold fAsk
            rw [if_neg (by decide), if_neg (by omega), if_neg (by omega)]
          · rw [if_neg c1]
      rw [e]
      refine ⟨U, (fin U FRC.rf).1, (fin U FRC.rf).2, fun z => absurd z (by decide), ?_⟩
      intro r hr
      have hU12 : U 67 12 = 0 := by rw [u4, hk0]
      have hU8 : U 67 8 = sd := hU.2.1
      have hsd := b9 (Or.inr rfl)
      have k85 : Runs (GW L xs) (d + 3) 85 (0, [.ref 67], [], zS (eV U) J (some C)) (some (Value.int (Int32.ofInt (1))), zS (eV U) J (some C)) := by
        refine sgc_85 _ _ none hC (ite_n (by rw [eV_at, hU12]; decide) (ite_n (by rw [eV_at, hU12]; decide) (ite_n (by rw [eV_at, hU12]; decide) (ite_n (by rw [eV_at, hU12]; decide) rfl))))
      have hw : Runs (GW L xs) (d + 4) 84 (0, [.ref 67], [], zS (eV U) J (some C)) (some (Value.int (Int32.ofInt (1))), zS (eV U) J (some C)) := by
        apply sg_84
        refine ite_p (by rw [eV_at, hU12]; decide) ?_
        by_cases c0 : sd = 0
        · exact ite_p (by rw [eV_at, hU8, c0]; rfl) (ite_p (by rw [eV_at, hU12]; decide) rfl)
        · refine ite_n ?_ ?_
          · rw [eV_at, hU8]
            intro z
            have z : Int32.ofInt sd = Int32.ofInt 0 := z
            rw [o_eq (by omega) (by omega)] at z
            exact c0 z
          · by_cases c1 : sd = 1
            · exact ite_p (by rw [eV_at, hU8, c1]; rfl) ⟨_, _, k85, rfl⟩
            · refine ite_n ?_ (ite_n (by rw [eV_at, hU12]; decide) rfl)
              rw [eV_at, hU8]
              intro z
              have z : Int32.ofInt sd = Int32.ofInt 1 := z
              rw [o_eq (by omega) (by omega)] at z
              exact c1 z
      refine sgc_71_7 _ _ none _ hC (ite_n x300 (ite_n x12 (ite_p x4 ⟨_, hu, ite_n ?_ (ite_n ?_ (ite_n ?_ (ite_n ?_ (ite_p ?_ (go hw hr)))))⟩)))
      · rw [eV_at, hU7]; decide
      · rw [eV_at, hU7]; decide
      · rw [eV_at, hU7]; decide
      · rw [eV_at, hU7]; decide
      · rw [eV_at, hU7]; rfl
  · rcases hlt (by decide) with hl | hk0
    · obtain ⟨W, w1, w2, hw⟩ := k_85 (L := L) (xs := xs) (J := J) (d := d + 1) hC (T := lxT b N f) (k := lxK b N f) rfl hU (by decide) hk u4 b5 b4 b3 (by omega) (hlen (by decide))
      refine ⟨W, (fin W w1).1, (fin W w1).2, ?_, ?_⟩
      · rw [st_4, ← hf]; exact w2
      · rw [st_4, ← hf]
        intro r hr
        refine sgc_71_7 _ _ none _ hC (ite_n x300 (ite_n x12 (ite_p x4 ⟨_, hu, ite_p ?_ (go hw hr)⟩)))
        rw [eV_at, hU7]; decide
    · have e : sTp b N (p, 4, sd, ws, br, mi, cu, cl, kd, hc) = (pm0, 1) := by
        rw [st_4, ← hf, hk0]; unfold fAsk
        rw [if_neg (by decide), if_neg (by omega), if_neg (by omega)]
      rw [e]
      refine ⟨U, (fin U FRC.rf).1, (fin U FRC.rf).2, fun z => absurd z (by decide), ?_⟩
      intro r hr
      have hU12 : U 67 12 = 0 := by rw [u4, hk0]
      have hw : Runs (GW L xs) (d + 4) 85 (0, [.ref 67], [], zS (eV U) J (some C)) (some (Value.int (Int32.ofInt (1))), zS (eV U) J (some C)) := by
        refine sgc_85 _ _ none hC (ite_n (by rw [eV_at, hU12]; decide) (ite_n (by rw [eV_at, hU12]; decide) (ite_n (by rw [eV_at, hU12]; decide) (ite_n (by rw [eV_at, hU12]; decide) rfl))))
      refine sgc_71_7 _ _ none _ hC (ite_n x300 (ite_n x12 (ite_p x4 ⟨_, hu, ite_p ?_ (go hw hr)⟩)))
      rw [eV_at, hU7]; decide
/-- the loop's end at a FAULT -/
theorem k_71f (hC : isG C) {e : Int} (h4 : V 67 4 = e) (he : 1 ≤ e ∧ e ≤ 6) {x2 : Int32} : Runs (GW L xs) (d + 1) 71 (7, [.ref 67, .ref C, .int x2], [], zS (eV V) J (some C)) (some (Value.int (Int32.ofInt (0))), zS (eV (up2 (up2 V 67 5 (V 67 14)) 67 2 0)) J (some C)) := by
  have x4 : ¬ (eV V) 67 4 = 0 := by
    rw [eV_at, h4]
    intro z
    have z : Int32.ofInt e = Int32.ofInt 0 := z
    rw [o_eq (by omega) (by omega)] at z
    omega
  have e : ((some (Value.int 0), zS (up2 (up2 (eV V) 67 5 ((eV V) 67 14)) 67 2 0) J (some C)) : Option Value × SS) = (some (Value.int (Int32.ofInt (0))), zS (eV (up2 (up2 V 67 5 (V 67 14)) 67 2 0)) J (some C)) := by
    rw [eV_at, eV_up, show up2 (eV (up2 V 67 5 (V 67 14))) 67 2 (0 : Int32) = eV (up2 (up2 V 67 5 (V 67 14)) 67 2 0) from eV_up _ 67 2 0]
    rfl
  refine sgc_71_7 _ _ none _ hC ?_
  by_cases c1 : 300 < x2
  · exact ite_p c1 (ite_n x4 (ite_n x4 e.symm))
  · refine ite_n c1 ?_
    by_cases c2 : (eV V) 67 12 = 0
    · exact ite_p c2 (ite_n x4 (ite_n x4 e.symm))
    · exact ite_n c2 (ite_n x4 (ite_n x4 (ite_n x4 e.symm)))
/-- the loop's end behind the last TOKEN -/
theorem k_71z (hC : isG C) (h4 : V 67 4 = 0) (h12 : V 67 12 = 0) {x2 : Int32} : Runs (GW L xs) (d + 1) 71 (7, [.ref 67, .ref C, .int x2], [], zS (eV V) J (some C)) (some (Value.int (Int32.ofInt (1))), zS (eV (up2 V 67 2 0)) J (some C)) := by
  have x4 : (eV V) 67 4 = 0 := by rw [eV_at, h4]; rfl
  have x12 : (eV V) 67 12 = 0 := by rw [eV_at, h12]; rfl
  have e : ((some (Value.int 1), zS (up2 (eV V) 67 2 0) J (some C)) : Option Value × SS) = (some (Value.int (Int32.ofInt (1))), zS (eV (up2 V 67 2 0)) J (some C)) := by
    rw [show up2 (eV V) 67 2 (0 : Int32) = eV (up2 V 67 2 0) from eV_up _ 67 2 0]
    rfl
  refine sgc_71_7 _ _ none _ hC ?_
  by_cases c1 : 300 < x2
  · exact ite_p c1 (ite_p x4 (ite_p x4 e.symm))
  · exact ite_n c1 (ite_p x12 (ite_p x4 (ite_p x4 e.symm)))
theorem k_71l (hC : isG C) : ∀ (n : Nat) (V : Nat → Nat → Int) (s : PMt) (i : Nat), N - s.1 < n → TPE V b N → CSs V C s → V 67 15 = (s.1 : Nat) → BNs N s → V 67 4 = 0 → (1 ≤ V 67 12 ∧ V 67 12 ≤ 20) → i ≤ s.1 → ∃ (W : Nat → Nat → Int) (r : PR) (v : Int), Fi b N s r ∧ ((∀ c, c ≠ C → c ≠ C + 1 → c ≠ C + 2 → c ≠ C + 3 → c ≠ 67 → c ≠ 69 → W c = V c) ∧ W 67 3 = V 67 3 ∧ W (C + 3) 0 = V (C + 3) 0 ∧ W 67 2 = 0) ∧ Runs (GW L xs) (d + 5) 71 (7, [.ref 67, .ref C, (Value.int (Int32.ofInt ((i : Int))))], [], zS (eV V) J (some C)) (some (Value.int (Int32.ofInt (v))), zS (eV W) J (some C)) ∧ ((v = 0 ∧ ∃ (e : Int) (f : Nat), r = (e, f, [], 0) ∧ (1 ≤ e ∧ e ≤ 6) ∧ f ≤ N ∧ W 67 4 = e ∧ W 67 5 = f) ∨ (v = 1 ∧ ∃ s' : PMt, r = (0, 0, s'.2.2.2.2.2.2.2.1, s'.2.2.2.2.2.2.2.2.2) ∧ W 67 4 = 0 ∧ W 67 5 = V 67 5 ∧ CSs W C s'))
  | 0, V, s, i, hn, _, _, _, _, _, _, _ => by omega
  | n + 1, V, (p, st, sd, ws, br, mi, cu, cl, kd, hc), i, hn, hT, hs, h15, hB, h4, h12, hi => by
    have hn : N - p < n + 1 := hn
    have h15 : V 67 15 = (p : Nat) := h15
    have hi : i ≤ p := hi
    have hBq : BNq N p st sd ws br mi cu cl hc := hB
    have hsq : CSQ V C st sd ws br mi cu cl kd hc := hs
    have hN : N ≤ 300 := hT.2.1
    obtain ⟨b1, b2, b3, b4, b5, b6, b7, b8, b9, ba⟩ := id hBq
    obtain ⟨e1, e2, e3, e4⟩ := en_ch (f := isW) (b := b) b1
    obtain ⟨t1, t2, t3⟩ := lxT_le (b := b) e2
    have hk := lxK_rg (b := b) (N := N) (f := en isW b N p)
    obtain ⟨W, ⟨f1, f2, f3⟩, ⟨g1, g2, g3⟩, hcs, hrun⟩ := k_71s (L := L) (xs := xs) (J := J) (d := d) hC rfl hT hsq h15 hBq h4 h12 (i := i) (by omega)
    -- the range of faults; what a step keeps
    have hfv : 0 ≤ (sTp b N (p, st, sd, ws, br, mi, cu, cl, kd, hc)).2 ∧ (sTp b N (p, st, sd, ws, br, mi, cu, cl, kd, hc)).2 ≤ 6 := by
      have hst : st = 0 ∨ st = 1 ∨ st = 2 ∨ st = 3 ∨ st = 4 := by omega
      rcases hst with rfl | rfl | rfl | rfl | rfl
      · rw [st_0]; exact fv_cl
      · rw [st_1]; exact ⟨fv_sask.1, fv_sask.2.1⟩
      · rw [st_2]; exact ⟨fv_one.1, fv_one.2.1⟩
      · rw [st_3]; exact ⟨fv_fone.1, fv_fone.2.1⟩
      · rw [st_4]; exact ⟨fv_ask.1, fv_ask.2.1⟩
    have hbn : ∀ s', sTp b N (p, st, sd, ws, br, mi, cu, cl, kd, hc) = (s', 0) → (en isW b N p < N ∨ st = 0) → BNs N s' ∧ s'.1 = lxT b N (en isW b N p) := fun s' hq hN0 => by
      have hst : st = 0 ∨ st = 1 ∨ st = 2 ∨ st = 3 ∨ st = 4 := by omega
      rcases hst with rfl | rfl | rfl | rfl | rfl
      · rw [st_0] at hq; exact bn_cl b2 ⟨by omega, t1⟩ b3 b4 b5 b6 ba hq
      · rw [st_1] at hq; exact bn_sask b2 ⟨by have := t3 (by omega); omega, t1⟩ b3 b4 b5 (b7 (by decide)) ba hq
      · rw [st_2] at hq; exact bn_one b2 ⟨by have := t3 (by omega); omega, t1⟩ b3 b4 b5 (b7 (by decide)) (b9 (Or.inl rfl)) ba hq
      · rw [st_3] at hq; exact bn_fone b2 ⟨by have := t3 (by omega); omega, t1⟩ b3 b4 b5 (b7 (by decide)) (b9 (Or.inr rfl)) ba hq
      · rw [st_4] at hq; exact bn_ask b2 ⟨by have := t3 (by omega); omega, t1⟩ b3 b4 b5 (b7 (by decide)) ba hq
    have hk0 : lxK b N (en isW b N p) = 0 ↔ N ≤ en isW b N p := by
      obtain ⟨w, hw, hcs⟩ := tk_f (b := b) (N := N) (f := en isW b N p)
      omega
    generalize hq : sTp b N (p, st, sd, ws, br, mi, cu, cl, kd, hc) = q at *
    obtain ⟨s', e⟩ := q
    by_cases c0 : e = 0
    · subst c0
      have hcs : CSs W C s' := hcs rfl
      by_cases cN : N ≤ en isW b N p
      · have w12 : (up2 W 67 4 0) 67 12 = 0 := by rw [w_at, if_neg (by decide), g2]; exact hk0.mpr cN
        have hz := k_71z (L := L) (xs := xs) (J := J) (d := d + 4) hC (V := up2 W 67 4 0) (w_eq _ _ _ _) w12 (x2 := Int32.ofInt ((i : Int) + 1))
        obtain ⟨X, hX⟩ : ∃ X, X = up2 (up2 W 67 4 0) 67 2 0 := ⟨_, rfl⟩
        rw [← hX] at hz
        have xc : ∀ c, c ≠ 67 → X c = W c := fun c z => by rw [hX, w_ne _ _ _ _ z, w_ne _ _ _ _ z]
        have x67 : ∀ x, x ≠ 2 → x ≠ 4 → X 67 x = W 67 x := fun x z1 z2 => by rw [hX, w_at, if_neg z1, w_at, if_neg z2]
        refine ⟨X, (0, 0, s'.2.2.2.2.2.2.2.1, s'.2.2.2.2.2.2.2.2.2), 1, Fi_e hq cN, ⟨fun c q1 q2 q3 q4 q5 q6 => by rw [xc c q5, f1 c q1 q2 q3 q4 q5 q6], by rw [x67 3 (by decide) (by decide), f2 3 (by decide)], by rw [xc _ (by omega), f3], by rw [hX, w_eq]⟩, hrun _ hz, Or.inr ⟨rfl, s', rfl, by rw [hX, w_at, if_neg (by decide), w_eq], by rw [x67 5 (by decide) (by decide), f2 5 (by decide)], ?_⟩⟩
        obtain ⟨y1, y2, y3, y4, y5, y6, y7, y8, y9, ya⟩ := hcs
        exact ⟨by rw [x67 7 (by decide) (by decide)]; exact y1, by rw [x67 8 (by decide) (by decide)]; exact y2, y3.up (x67 9 (by decide) (by decide)) (xc 69 (by decide)), by rw [x67 10 (by decide) (by decide)]; exact y4, by rw [x67 11 (by decide) (by decide)]; exact y5, y6.up (by rw [xc C (by omega)]) (xc _ (by omega)), by rw [xc C (by omega)]; exact y7, by rw [xc C (by omega)]; exact y8, y9.up (fun k _ => by rw [xc _ (by omega)]) (fun k _ => by rw [xc _ (by omega)]), fun z => by rw [xc _ (by omega)]; exact ya z⟩
      · obtain ⟨nb, np⟩ := hbn s' rfl (Or.inl (by omega))
        obtain ⟨X, hX⟩ : ∃ X, X = up2 W 67 4 0 := ⟨_, rfl⟩
        have xc : ∀ c, c ≠ 67 → X c = W c := fun c z => by rw [hX, w_ne _ _ _ _ z]
        have x67 : ∀ x, x ≠ 4 → X 67 x = W 67 x := fun x z2 => by rw [hX, w_at, if_neg z2]
        have hTX : TPE X b N := ⟨by rw [x67 2 (by decide), f2 2 (by decide)]; exact hT.1, hT.2.1, fun k hk => by rw [xc 68 (by decide), f1 68 (by omega) (by omega) (by omega) (by omega) (by decide) (by decide)]; exact hT.2.2 k hk⟩
        have hsX : CSs X C s' := by
          obtain ⟨y1, y2, y3, y4, y5, y6, y7, y8, y9, ya⟩ := hcs
          exact ⟨by rw [x67 7 (by decide)]; exact y1, by rw [x67 8 (by decide)]; exact y2, y3.up (x67 9 (by decide)) (xc 69 (by decide)), by rw [x67 10 (by decide)]; exact y4, by rw [x67 11 (by decide)]; exact y5, y6.up (by rw [xc C (by omega)]) (xc _ (by omega)), by rw [xc C (by omega)]; exact y7, by rw [xc C (by omega)]; exact y8, y9.up (fun k _ => by rw [xc _ (by omega)]) (fun k _ => by rw [xc _ (by omega)]), fun z => by rw [xc _ (by omega)]; exact ya z⟩
        obtain ⟨Y, r, v, z1, ⟨z2, z3, z4, z5⟩, z6, z7⟩ := k_71l hC n X s' (i + 1) (by rw [np]; have := t3 (by omega); omega) hTX hsX (by rw [x67 15 (by decide), g3, np]) nb (by rw [hX, w_eq]) (by rw [x67 12 (by decide), g2]; omega) (by rw [np]; have := t3 (by omega); omega)
        have z6 : Runs (GW L xs) (d + 5) 71 (7, [.ref 67, .ref C, (Value.int (Int32.ofInt ((i : Int) + 1)))], [], zS (eV X) J (some C)) (some (Value.int (Int32.ofInt (v))), zS (eV Y) J (some C)) := z6
        rw [hX] at z6
        refine ⟨Y, r, v, Fi_s hq cN z1, ⟨fun c q1 q2 q3 q4 q5 q6 => by rw [z2 c q1 q2 q3 q4 q5 q6, xc c q5, f1 c q1 q2 q3 q4 q5 q6], by rw [z3, x67 3 (by decide), f2 3 (by decide)], by rw [z4, xc _ (by omega), f3], z5⟩, hrun _ z6, ?_⟩
        rcases z7 with ⟨v0, e, f, y1, y2, y3, y4, y5⟩ | ⟨v1, s'', y1, y2, y3, y4⟩
        · exact Or.inl ⟨v0, e, f, y1, y2, y3, y4, y5⟩
        · exact Or.inr ⟨v1, s'', y1, y2, by rw [y3, x67 5 (by decide), f2 5 (by decide)], y4⟩
    · have hfv : 0 ≤ e ∧ e ≤ 6 := hfv
      have hz := k_71f (L := L) (xs := xs) (J := J) (d := d + 4) hC (V := up2 W 67 4 e) (w_eq _ _ _ _) (by omega) (x2 := Int32.ofInt ((i : Int) + 1))
      obtain ⟨X, hX⟩ : ∃ X, X = up2 (up2 (up2 W 67 4 e) 67 5 ((up2 W 67 4 e) 67 14)) 67 2 0 := ⟨_, rfl⟩
      rw [← hX] at hz
      refine ⟨X, (e, en isW b N p, [], 0), 0, Fi_f (s := (p, st, sd, ws, br, mi, cu, cl, kd, hc)) (by rw [hq]) c0, ⟨fun c q1 q2 q3 q4 q5 q6 => by rw [hX, w_ne _ _ _ _ q5, w_ne _ _ _ _ q5, w_ne _ _ _ _ q5, f1 c q1 q2 q3 q4 q5 q6], by rw [hX, w_at, if_neg (by decide), w_at, if_neg (by decide), w_at, if_neg (by decide), f2 3 (by decide)], by rw [hX, w_ne _ _ _ _ (by omega), w_ne _ _ _ _ (by omega), w_ne _ _ _ _ (by omega), f3], by rw [hX, w_eq]⟩, hrun _ hz, Or.inl ⟨rfl, e, en isW b N p, rfl, by omega, e2, by rw [hX, w_at, if_neg (by decide), w_at, if_neg (by decide), w_eq], by rw [hX, w_at, if_neg (by decide), w_eq, w_at, if_neg (by decide)]; exact g1⟩⟩
/-- parse -/
theorem k_71 (hC : isG C) (hT : TPE V b N) (hz : V (C + 3) 0 = 0) : ∃ (W : Nat → Nat → Int) (r : PR) (v : Int), Fi b N (0, 0, V 67 8, [], 0, 0, [], [], 0, -1) r ∧ ((∀ c, c ≠ C → c ≠ C + 1 → c ≠ C + 2 → c ≠ C + 3 → c ≠ 67 → c ≠ 69 → W c = V c) ∧ W 67 3 = 1 ∧ W (C + 3) 0 = 0 ∧ W 67 2 = 0) ∧ Runs (GW L xs) (d + 5) 71 (0, [.ref 67, .ref C, vU], [], zS (eV V) J tg) (some (Value.int (Int32.ofInt (v))), zS (eV W) J (some C)) ∧ ((v = 0 ∧ ∃ (e : Int) (f : Nat), r = (e, f, [], 0) ∧ (1 ≤ e ∧ e ≤ 6) ∧ f ≤ N ∧ W 67 4 = e ∧ W 67 5 = f) ∨ (v = 1 ∧ ∃ s' : PMt, r = (0, 0, s'.2.2.2.2.2.2.2.1, s'.2.2.2.2.2.2.2.2.2) ∧ W 67 4 = 0 ∧ W 67 5 = -1 ∧ CSs W C s')) := by
  obtain ⟨A, hA⟩ : ∃ A, A = up2 (up2 (up2 V C 4 0) C 5 0) C 6 (-1) := ⟨_, rfl⟩
  have ac : ∀ c, c ≠ C → A c = V c := fun c z => by rw [hA, w_ne _ _ _ _ z, w_ne _ _ _ _ z, w_ne _ _ _ _ z]
  obtain ⟨X, hX⟩ : ∃ X, X = up2 (up2 (up2 (up2 (up2 (up2 (up2 (up2 (up2 A 67 3 1) 67 4 0) 67 5 (-1)) 67 7 0) 67 9 0) 67 10 0) 67 11 0) 67 15 0) 67 12 1 := ⟨_, rfl⟩
  have xc : ∀ c, c ≠ 67 → X c = A c := fun c z => by rw [hX, w_ne _ _ _ _ z, w_ne _ _ _ _ z, w_ne _ _ _ _ z, w_ne _ _ _ _ z, w_ne _ _ _ _ z, w_ne _ _ _ _ z, w_ne _ _ _ _ z, w_ne _ _ _ _ z, w_ne _ _ _ _ z]
  have x67 : ∀ x, X 67 x = if x = 12 then 1 else if x = 15 then 0 else if x = 11 then 0 else if x = 10 then 0 else if x = 9 then 0 else if x = 7 then 0 else if x = 5 then -1 else if x = 4 then 0 else if x = 3 then 1 else V 67 x := fun x => by rw [hX, w_at, w_at, w_at, w_at, w_at, w_at, w_at, w_at, w_at, ac 67 (by omega)]
  have xC4 : X C 4 = 0 := by rw [xc C (by omega), hA, w_at, if_neg (by decide), w_at, if_neg (by decide), w_eq]
  have xC5 : X C 5 = 0 := by rw [xc C (by omega), hA, w_at, if_neg (by decide), w_eq]
  have xC6 : X C 6 = -1 := by rw [xc C (by omega), hA, w_eq]
  have hTX : TPE X b N := ⟨by rw [x67]; exact hT.1, hT.2.1, fun k hk => by rw [xc 68 (by decide), ac 68 (by omega)]; exact hT.2.2 k hk⟩
  have hs : CSs X C (0, 0, V 67 8, [], 0, 0, [], [], 0, -1) := ⟨by rw [x67]; rfl, by rw [x67]; rfl, ⟨by rw [x67]; rfl, trivial⟩, by rw [x67]; rfl, by rw [x67]; rfl, ⟨xC5, trivial⟩, xC4, xC6, by show X (C + 3) 0 = 0; rw [xc _ (by omega), ac _ (by omega)]; exact hz, fun z => absurd rfl z⟩
  have hB : BNs N (0, 0, V 67 8, [], 0, 0, [], [], 0, -1) := by
    show BNq N 0 0 (V 67 8) [] 0 0 [] [] (-1)
    exact ⟨Nat.zero_le _, Nat.le_refl _, fun o ho => absurd ho List.not_mem_nil, rfl, by decide, by decide, fun z => absurd rfl z, by decide, fun z => by omega, by decide⟩
  obtain ⟨W, r, v, z1, ⟨z2, z3, z4, z5⟩, z6, z7⟩ := k_71l (L := L) (xs := xs) (J := J) (d := d) (b := b) (N := N) hC (N + 1) X (0, 0, V 67 8, [], 0, 0, [], [], 0, -1) 0 (by show N - 0 < N + 1; omega) hTX hs (by rw [x67]; rfl) hB (by rw [x67]; rfl) (by rw [x67, if_pos rfl]; decide) (Nat.zero_le _)
  have hX3 : X (C + 3) 0 = 0 := by rw [xc _ (by omega), ac _ (by omega)]; exact hz
  refine ⟨W, r, v, z1, ⟨fun c q1 q2 q3 q4 q5 q6 => by rw [z2 c q1 q2 q3 q4 q5 q6, xc c q5, ac c q1], by rw [z3, x67]; rfl, by rw [z4]; exact hX3, z5⟩, ?_, ?_⟩
  · refine sgc_71 _ _ tg hC ⟨_, sgc_70 _ _ tg hC ⟨_, sgc_21 _ _ _ hC (r := (none, zS (eV A) J (some C))) ?_, rfl⟩, ?_⟩
    · simp (disch := omega) only [eV_at, eV_up, o_lit2, o_add, o_sub, o_mul, o_neg, o_div, o_nat, ix_t, o_lt, o_le, o_eq, o_bi0, o_bi1, o_bib, em_t, o_neg1, o_shl, o_tb, o_tb0, o_tt, o_and, o_xor, o_or, o_max, o_min, an_tb, and_true, true_and, not_true, not_false, if_true, if_false, tn_add, tn_mul, Int.reduceToNat, tn_cast, md_x]
      rw [hA]
    · simp (disch := omega) only [eV_at, eV_up, o_lit2, o_add, o_sub, o_mul, o_neg, o_div, o_nat, ix_t, o_lt, o_le, o_eq, o_bi0, o_bi1, o_bib, em_t, o_neg1, o_shl, o_tb, o_tb0, o_tt, o_and, o_xor, o_or, o_max, o_min, an_tb, and_true, true_and, not_true, not_false, if_true, if_false, tn_add, tn_mul, Int.reduceToNat, tn_cast, md_x]
      rw [← hX]
      exact z6
  · rcases z7 with ⟨v0, e, f, y1, y2, y3, y4, y5⟩ | ⟨v1, s'', y1, y2, y3, y4⟩
    · exact Or.inl ⟨v0, e, f, y1, y2, y3, y4, y5⟩
    · exact Or.inr ⟨v1, s'', y1, y2, by rw [y3, x67]; rfl, y4⟩
end LC
