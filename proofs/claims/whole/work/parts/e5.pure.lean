/-! A SUM in the reference. -/
def okc (kd : Int) (x : Int × Int) : Prop := vop x.1 x.2 ∧ (kd ≠ 6 → x.1 = 1 → x.2 ≤ 7)
theorem okc_o {kd o : Int} (h : (2 ≤ o ∧ o ≤ 5) ∨ (10 ≤ o ∧ o ≤ 15) ∨ (21 ≤ o ∧ o ≤ 22)) : okc kd (o, 0) := ⟨Or.inr (Or.inr h), fun _ q => by have q : o = 1 := q; omega⟩
theorem rk_a {o : Int} (h : 3 ≤ o ∧ o ≤ 5) : 4 ≤ rkO o ∧ (5 ≤ rkO o ↔ 5 ≤ o) := by unfold rkO; (repeat' split) <;> omega
theorem fAsk_rl {l k : Int} {p : Nat} {sd : Int} {ws : List Int} {br mi : Nat} {cu : Cd} {cl : List (Int × Cd)} {kd hc : Int} (h1 : 1 ≤ l) (h8 : k = 8 → 2 ≤ l) : fAsk k p sd (rl l ws cu).1 br mi (rl l ws cu).2 cl kd hc = fAsk k p sd ws br mi cu cl kd hc := by
  unfold fAsk
  rw [rl_rl h1]
  by_cases c : k = 7 ∨ k = 8
  · have hk : rkO (opT k) ≤ l := by
      rcases c with rfl | rfl
      · exact h1
      · exact h8 rfl
    rw [if_pos c, if_pos c, rl_rl hk]
  · rw [if_neg c, if_neg c]
theorem fOne_rl {l k : Int} {p : Nat} {sd : Int} {ws : List Int} {br mi : Nat} {cu : Cd} {cl : List (Int × Cd)} {kd hc : Int} (hl : 3 ≤ l) (hk : ¬ (15 ≤ k ∧ k ≤ 17)) : fOne k p sd (rl l ws cu).1 br mi (rl l ws cu).2 cl kd hc = fOne k p sd ws br mi cu cl kd hc := by
  unfold fOne
  rw [if_neg hk, if_neg hk, rl_rl hl, fAsk_rl (by omega) (fun _ => by omega)]
section LR
variable {L d : Nat} {xs : Nat → Int32} {tg : Option Nat} {b : Nat → Int} {N K : Nat}
theorem m_225l (hK : K < 4) {sd kd hc : Int} {br t n0 c0 : Nat} {R : List Int} {F : Cd} {cl : List (Int × Cd)} (hkd : 4 ≤ kd ∧ kd ≤ 6) (hsd : sd = 2 ↔ kd = 6) (hR : R = [] ∨ ∃ o l, R = o :: l ∧ rkO o < 4) : ∀ (n p : Nat) (V : Nat → Nat → Int) (J : Nat → Nat → Int64) (iw mi : Nat) (ar : List Int) (cu : Cd), N - p < n → p ≤ N → TKS V J b N p → (∀ o ∈ ar, 3 ≤ o ∧ o ≤ 5) → PLS V (List.replicate mi 2 ++ ar) → CDS V K (cu ++ F) → V 93 24 = (br : Int) + mi → V 93 8 = kd - 3 → br + mi ≤ 8 → V 93 25 = iw → (iw = 0 ∨ (iw = 1 ∧ mi = 0)) → c0 + ar.length + iw ≤ (cu ++ F).length → (cu ++ F).length + ar.length + R.length + mi < p → tyL cu = some (t, n0 + ar.length + iw) → (∀ x ∈ cu, okc kd x) → ∃ (v : Int) (W : Nat → Nat → Int) (J2 : Nat → Nat → Int64), FRR K V W ∧ W 101 = V 101 ∧ W 93 10 = V 93 10 ∧ (0 ≤ v ∧ v ≤ 6) ∧ Runs (GW L xs) (d + 5) 225 (10, [.ref 93, vU], [], zS (eV V) J tg) (some (Value.int (Int32.ofInt (v))), zS (eV W) J2 tg) ∧ ((v ≠ 0 ∧ ∃ f : Nat, W 93 14 = f ∧ f ≤ N ∧ Fi b N (p, 2 + (iw : Int), sd, ar ++ R, br, mi, cu, cl, kd, hc) (v, f, [], 0)) ∨ (v = 0 ∧ ∃ (p' : Nat) (cu' : Cd), p ≤ p' ∧ p' ≤ N ∧ ¬ (15 ≤ lxK b N (en isW b N p') ∧ lxK b N (en isW b N p') ≤ 17) ∧ TKS W J2 b N p' ∧ CDS W K (cu' ++ F) ∧ W 93 24 = br ∧ c0 + 1 ≤ (cu' ++ F).length ∧ (cu' ++ F).length + R.length < p' ∧ tyL cu' = some (t, n0 + 1) ∧ (∀ x ∈ cu', okc kd x) ∧ ∀ r, Fi b N (p', 3, sd, R, br, 0, cu', cl, kd, hc) r → Fi b N (p, 2 + (iw : Int), sd, ar ++ R, br, mi, cu, cl, kd, hc) r))
  | 0, p, V, J, iw, mi, ar, cu, hn, _, _, _, _, _, _, _, _, _, _, _, _, _, _ => by omega
  | n + 1, p, V, J, iw, mi, ar, cu, hn, hp, hT, har, hP, hC, h24, h8, hbm, h25, hiw, hc0, hlen, hty, hok => by
    obtain ⟨e1, e2, e3, e4⟩ := en_ch (f := isW) (b := b) hp
    have hN : N ≤ 300 := hT.1.2.1
    obtain ⟨t1, t2, t3⟩ := lxT_le (b := b) e2
    rcases hiw with rfl | ⟨rfl, rfl⟩
    · -- a ONE is due
      obtain ⟨v, W, J2, w1, w2, w3, w4, hr, hres⟩ := m_223 (L := L) (xs := xs) (tg := tg) (d := d) (sd := sd) hT hp hK har hP hC h24 (by rw [h8]; omega) (by rw [h8]; omega) hbm (by omega) (by omega)
      have start : ∀ r, (if Int32.ofInt v = 0 then Runs (GW L xs) (d + 5) 225 (10, [.ref 93, vU], [], zS (eV W) J2 tg) r else r = (some (Value.int (Int32.ofInt (v))), zS (eV W) J2 tg)) → Runs (GW L xs) (d + 5) 225 (10, [.ref 93, vU], [], zS (eV V) J tg) r := fun r hh => by
        apply sg_225_10
        refine ite_p (by rw [eV_at, h25]; rfl) ?_
        apply sg_225_24
        refine ite_p (by rw [eV_at, h25]; rfl) ?_
        exact ⟨_, _, _, hr, hh⟩
      rcases hres with ⟨v0, w14, hs⟩ | ⟨rfl, f1, f2, f3, f4, f5, f6, f7, hs⟩ | ⟨rfl, f1, x, x1, x2, x3, f3, f4, f5, f6, f7, hs⟩
      · refine ⟨v, W, J2, w1, w2, w3, w4, start _ ?_, Or.inl ⟨v0, en isW b N p, w14, e2, ?_⟩⟩
        · have q : ¬ Int32.ofInt v = 0 := by
            intro q
            have q : Int32.ofInt v = Int32.ofInt 0 := q
            rw [o_eq (by omega) (by omega)] at q
            exact v0 q
          exact ite_n q rfl
        · exact Fi_f (s := (p, 2, sd, ar ++ R, br, mi, cu, cl, kd, hc)) (hs _ _ _ _ _) v0
      · obtain ⟨v', W', J', z1, z2, z3, z4, hr', hres'⟩ := m_225l hK hkd hsd hR (cl := cl) (hc := hc) (br := br) (t := t) (n0 := n0) (c0 := c0) (F := F) n (lxT b N (en isW b N p)) W J2 0 (mi + 1) ar cu (by have := t3 f1; omega) t1 f3 har f4 f5 f6 (by rw [w1.2.1 8 (by omega)]; exact h8) (by omega) (by rw [f7]; exact h25) (Or.inl rfl) hc0 (by have := t3 f1; omega) hty hok
        refine ⟨v', W', J', w1.tr z1, z2.trans w2, z3.trans w3, z4, start _ (ite_p rfl hr'), ?_⟩
        rcases hres' with ⟨y0, f, y1, y2, y3⟩ | ⟨y0, p', cu', y1, y2, y3, y4, y5, y6, y7, y8, y9, ya, yb⟩
        · exact Or.inl ⟨y0, f, y1, y2, Fi_s (s := (p, 2, sd, ar ++ R, br, mi, cu, cl, kd, hc)) (hs _ _ _ _ _) (by show ¬ N ≤ en isW b N p; omega) y3⟩
        · exact Or.inr ⟨y0, p', cu', by have := t3 f1; omega, y2, y3, y4, y5, y6, y7, y8, y9, ya, fun r hr => Fi_s (s := (p, 2, sd, ar ++ R, br, mi, cu, cl, kd, hc)) (hs _ _ _ _ _) (by show ¬ N ≤ en isW b N p; omega) (yb r hr)⟩
      · have ecs : List.replicate mi ((2 : Int), (0 : Int)) ++ x :: (cu ++ F) = (List.replicate mi (2, 0) ++ x :: cu) ++ F := by rw [List.append_assoc, List.cons_append]
        rw [ecs] at f5
        have elen : ((List.replicate mi ((2 : Int), (0 : Int)) ++ x :: cu) ++ F).length = mi + (1 + (cu ++ F).length) := by
          rw [← ecs, List.length_append, List.length_replicate, List.length_cons]; omega
        have hty' : tyL (List.replicate mi ((2 : Int), (0 : Int)) ++ x :: cu) = some (t, n0 + ar.length + 1) := ty_rep (ty_v hty x2) (by omega) mi
        have hok' : ∀ y ∈ List.replicate mi ((2 : Int), (0 : Int)) ++ x :: cu, okc kd y := fun y hy => by
          rcases List.mem_append.mp hy with q | q
          · rw [(List.mem_replicate.mp q).2]; exact okc_o (by omega)
          · rcases List.mem_cons.mp q with e | e
            · rw [e]; exact ⟨x1, fun q1 q2 => x3 (by omega) q2⟩
            · exact hok y e
        obtain ⟨v', W', J', z1, z2, z3, z4, hr', hres'⟩ := m_225l hK hkd hsd hR (cl := cl) (hc := hc) (br := br) (t := t) (n0 := n0) (c0 := c0) (F := F) n (lxT b N (en isW b N p)) W J2 1 0 ar (List.replicate mi (2, 0) ++ x :: cu) (by have := t3 f1; omega) t1 f3 har f4 f5 (by rw [f6]; omega) (by rw [w1.2.1 8 (by omega)]; exact h8) (by omega) f7 (Or.inr ⟨rfl, rfl⟩) (by rw [elen]; omega) (by rw [elen]; have := t3 f1; omega) hty' hok'
        refine ⟨v', W', J', w1.tr z1, z2.trans w2, z3.trans w3, z4, start _ (ite_p rfl hr'), ?_⟩
        rcases hres' with ⟨y0, f, y1, y2, y3⟩ | ⟨y0, p', cu', y1, y2, y3, y4, y5, y6, y7, y8, y9, ya, yb⟩
        · exact Or.inl ⟨y0, f, y1, y2, Fi_s (s := (p, 2, sd, ar ++ R, br, mi, cu, cl, kd, hc)) (hs _ _ _ _ _) (by show ¬ N ≤ en isW b N p; omega) y3⟩
        · exact Or.inr ⟨y0, p', cu', by have := t3 f1; omega, y2, y3, y4, y5, y6, y7, y8, y9, ya, fun r hr => Fi_s (s := (p, 2, sd, ar ++ R, br, mi, cu, cl, kd, hc)) (hs _ _ _ _ _) (by show ¬ N ≤ en isW b N p; omega) (yb r hr)⟩
    · -- a ONE stands
      have hP : PLS V ar := hP
      have k24 := m_224 (L := L) (xs := xs) (tg := tg) (d := d + 4) hT
      have h251 : ¬ (eV V) 93 25 = 0 := by rw [eV_at, h25]; decide
      have h40 : ∀ o ∈ ar, 0 ≤ o ∧ o ≤ 40 := fun o ho => by have := har o ho; omega
      rw [List.length_append] at hlen hc0
      by_cases cg : 15 ≤ lxK b N (en isW b N p) ∧ lxK b N (en isW b N p) ≤ 17
      · obtain ⟨w, hw, hcs⟩ := tk_f (b := b) (N := N) (f := en isW b N p)
        have hr15 := rK_rg (b := b) (N := N) (f := en isW b N p) (fun k hk => (hT.1.2.2 k hk).2)
        have k15 : V 93 15 = rK b N (en isW b N p) := hT.2.2.2.1
        have f1 : en isW b N p < N := by omega
        have hoT : opT (lxK b N (en isW b N p)) = lxK b N (en isW b N p) - 12 := by unfold opT; rw [if_neg (by omega), if_neg (by omega), if_neg (by omega)]
        obtain ⟨o, ho⟩ : ∃ o : Int, o = lxK b N (en isW b N p) - 12 := ⟨_, rfl⟩
        have hro3 : (rK b N (en isW b N p) = 42 ∧ o = 5) ∨ (rK b N (en isW b N p) = 43 ∧ o = 3) ∨ (rK b N (en isW b N p) = 45 ∧ o = 4) := by omega
        obtain ⟨a, hae⟩ : ∃ a : Int, a = if o = 5 then 5 else 3 := ⟨_, rfl⟩
        have ha : (o = 5 ∧ a = 5) ∨ (o ≠ 5 ∧ a = 3) := by
          by_cases q : o = 5
          · exact Or.inl ⟨q, by rw [hae, if_pos q]⟩
          · exact Or.inr ⟨q, by rw [hae, if_neg q]⟩
        obtain ⟨U, u1, u2, u3, u4, u5, hu⟩ := m_222 (L := L) (xs := xs) (J := J) (tg := tg) (d := d + 3) (a := a) (by omega) hK ar V (cu ++ F) hP hC h40 (by rw [List.length_append]; omega) (by omega)
        rw [relP_ap] at u4 u5
        obtain ⟨l1, l2⟩ := relP_len (P := fun o => decide (a ≤ o)) ar cu
        have hmach : rl (rkO o) (ar ++ R) cu = ((relP (fun o => decide (a ≤ o)) ar cu).1 ++ R, (relP (fun o => decide (a ≤ o)) ar cu).2) := by
          have hro := rk_a (o := o) (by omega)
          have hro5 : rkO o ≤ 5 := by unfold rkO; (repeat' split) <;> omega
          refine relP_ext ?_ ar cu fun x hx => ?_
          · rcases hR with q | ⟨o1, l, q1, q2⟩
            · exact Or.inl q
            · exact Or.inr ⟨o1, l, q1, decide_eq_false (by omega)⟩
          · have hx' := har x hx
            have hrx := rk_a hx'
            refine decide_eq_decide.mpr ?_
            omega
        have hstp : sTp b N (p, 3, sd, ar ++ R, br, 0, cu, cl, kd, hc) = ((lxT b N (en isW b N p), 2, sd, (o :: (relP (fun o => decide (a ≤ o)) ar cu).1) ++ R, br, 0, (relP (fun o => decide (a ≤ o)) ar cu).2, cl, kd, hc), 0) := by
          rw [st_3]; unfold fOne
          rw [if_pos cg, hoT, ← ho, hmach]
          rfl
        have hty' := ty_ra (P := fun o => decide (a ≤ o)) (t := t) (n := n0) ar cu har hty
        have hok' : ∀ y ∈ (relP (fun o => decide (a ≤ o)) ar cu).2, okc kd y := fun y hy => by
          rcases relP_mem ar cu y hy with q | ⟨q1, q2⟩
          · exact hok y q
          · have : y = (y.1, 0) := by rw [← q1]
            rw [this]
            have := har _ q2
            exact okc_o (by omega)
        have har' : ∀ x ∈ o :: (relP (fun o => decide (a ≤ o)) ar cu).1, 3 ≤ x ∧ x ≤ 5 := fun x hx => by
          rcases List.mem_cons.mp hx with e | e
          · omega
          · exact har x (relP_sub ar cu x e)
        generalize (relP (fun o => decide (a ≤ o)) ar cu).1 = ar' at *
        generalize (relP (fun o => decide (a ≤ o)) ar cu).2 = cu' at *
        obtain ⟨X, x1, x2, x3, hx⟩ := m_221 (L := L) (xs := xs) (J := J) (tg := tg) (d := d + 4) (o := o) u4 (by omega)
        have hTX : TKS (up2 X 93 25 0) J b N p := hT.up (by rw [w_at, if_neg (by decide), x2 7 (by decide), u2 7 (by decide) (by decide)]) (fun x h1 h2 => by rw [w_at, if_neg (by omega), x2 x (by omega), u2 x (by omega) (by omega)]) (by rw [w_ne _ _ _ _ (by decide), x1 100 (by decide) (by decide), u1 100 (by decide) (by decide)])
        obtain ⟨W, J2, w1, w2, w3, hw2⟩ := m_213T (L := L) (xs := xs) (tg := tg) (d := d + 2) hTX hp
        have hfr : FRR K V W := ⟨fun c h1 h2 h3 h4 => by rw [w1 c h1, w_ne _ _ _ _ h1, x1 c h1 h4, u1 c h1 h2], fun x hx => by rw [w2 x (by omega), w_at, if_neg (by omega), x2 x (by omega), u2 x (by omega) (by omega)], fun x hx => by rw [w1 96 (by decide), w_ne _ _ _ _ (by decide), x1 96 (by decide) (by decide), u3 x hx]⟩
        have h101 : W 101 = V 101 := by rw [w1 101 (by decide), w_ne _ _ _ _ (by decide), x1 101 (by decide) (by decide), u1 101 (by decide) (by decide)]
        have h10 : W 93 10 = V 93 10 := by rw [w2 10 (by omega), w_at, if_neg (by decide), x2 10 (by decide), u2 10 (by decide) (by decide)]
        have hCW : CDS W K (cu' ++ F) := u5.up (by rw [w2 18 (by omega), w_at, if_neg (by decide), x2 18 (by decide)]) (by rw [w2 20 (by omega), w_at, if_neg (by decide), x2 20 (by decide)]) (fun x => by rw [w1 96 (by decide), w_ne _ _ _ _ (by decide), x1 96 (by decide) (by decide)])
        have hPW : PLS W (List.replicate 0 2 ++ (o :: ar')) := x3.up (by rw [w2 23 (by omega), w_at, if_neg (by decide)]) (by rw [w1 102 (by decide), w_ne _ _ _ _ (by decide)])
        have elen : (cu' ++ F).length = cu'.length + F.length := List.length_append
        obtain ⟨v', W', J', z1, z2, z3, z4, hr', hres'⟩ := m_225l hK hkd hsd hR (cl := cl) (hc := hc) (br := br) (t := t) (n0 := n0) (c0 := c0) (F := F) n (lxT b N (en isW b N p)) W J2 0 0 (o :: ar') cu' (by have := t3 f1; omega) t1 w3 har' hPW hCW (by rw [w2 24 (by omega), w_at, if_neg (by decide), x2 24 (by decide), u2 24 (by decide) (by decide)]; exact h24) (by rw [hfr.2.1 8 (by omega)]; exact h8) (by omega) (by rw [w2 25 (by omega), w_eq]; rfl) (Or.inl rfl) (by rw [elen, List.length_cons]; omega) (by rw [elen, List.length_cons]; have := t3 f1; omega) hty' hok'
        refine ⟨v', W', J', hfr.tr z1, z2.trans h101, z3.trans h10, z4, ?_, ?_⟩
        · have fin : ∀ y, y = o → Runs (GW L xs) (d + 5) 225 (58, [.ref 93, vU], [.int (Int32.ofInt y)], zS (eV V) J tg) (some (Value.int (Int32.ofInt (v'))), zS (eV W') J' tg) := fun y hy => by
            rw [hy]
            have go : ∀ y1 : Int, y1 = a → Runs (GW L xs) (d + 5) 225 (70, [.ref 93, .int (Int32.ofInt o)], [.int (Int32.ofInt y1), .ref 93], zS (eV V) J tg) (some (Value.int (Int32.ofInt (v'))), zS (eV W') J' tg) := fun y1 h1 => by
              rw [h1]
              apply sg_225_70
              refine ⟨_, _, hu, _, _, hx, _, _, ?_, hr'⟩
              rw [show up2 (eV X) 93 25 (0 : Int32) = eV (up2 X 93 25 0) from eV_up X 93 25 0]
              exact hw2
            apply sg_225_58
            rcases ha with ⟨q1, q2⟩ | ⟨q1, q2⟩
            · exact ite_p (by rw [q1]; rfl) (go 5 q2.symm)
            · refine ite_n ?_ (go 3 q2.symm)
              intro q
              have q : Int32.ofInt o = Int32.ofInt 5 := q
              rw [o_eq (by omega) (by omega)] at q
              exact q1 q
          apply sg_225_10
          refine ite_n h251 ⟨_, _, _, k24, ite_n (b0_f cg) ?_⟩
          apply sg_225_24
          refine ite_n h251 ?_
          simp (disch := omega) only [k15, eV_at, eV_up, o_lit2, o_add, o_sub, o_mul, o_neg, o_div, o_nat, ix_t, o_lt, o_le, o_eq, o_bi0, o_bi1, o_bib, em_t, o_neg1, o_shl, o_tb, o_tb0, o_tt, o_and, o_xor, o_or, o_max, o_min, an_tb, and_true, true_and, not_true, not_false, if_true, if_false, tn_add, tn_mul, Int.reduceToNat, tn_cast, md_x]
          rcases hro3 with ⟨q1, q2⟩ | ⟨q1, q2⟩ | ⟨q1, q2⟩
          · rw [q1]; exact ite_p rfl (fin 5 q2.symm)
          · rw [q1]; exact ite_n (by decide) (ite_p rfl (fin 3 q2.symm))
          · rw [q1]; exact ite_n (by decide) (ite_n (by decide) (fin 4 q2.symm))
        · rcases hres' with ⟨y0, f, y1, y2, y3⟩ | ⟨y0, p', cu'', y1, y2, y3, y4, y5, y6, y7, y8, y9, ya, yb⟩
          · exact Or.inl ⟨y0, f, y1, y2, Fi_s (s := (p, 3, sd, ar ++ R, br, 0, cu, cl, kd, hc)) hstp (by show ¬ N ≤ en isW b N p; omega) y3⟩
          · exact Or.inr ⟨y0, p', cu'', by have := t3 f1; omega, y2, y3, y4, y5, y6, y7, y8, y9, ya, fun r hr => Fi_s (s := (p, 3, sd, ar ++ R, br, 0, cu, cl, kd, hc)) hstp (by show ¬ N ≤ en isW b N p; omega) (yb r hr)⟩
      · obtain ⟨U, u1, u2, u3, u4, u5, hu⟩ := m_222 (L := L) (xs := xs) (J := J) (tg := tg) (d := d + 3) (a := 3) (by omega) hK ar V (cu ++ F) hP hC h40 (by rw [List.length_append]; omega) (by omega)
        rw [relP_ap] at u4 u5
        have hall : (relP (fun o => decide ((3 : Int) ≤ o)) ar cu).1 = [] := relP_all ar cu (fun o ho => decide_eq_true (har o ho).1)
        obtain ⟨l1, l2⟩ := relP_len (P := fun o => decide ((3 : Int) ≤ o)) ar cu
        have hmach : rl 4 (ar ++ R) cu = (R, (relP (fun o => decide ((3 : Int) ≤ o)) ar cu).2) := by
          have q := relP_ext (P := fun o => decide ((3 : Int) ≤ o)) (Q := fun o => decide ((4 : Int) ≤ rkO o)) (R := R) (by
            rcases hR with q | ⟨o1, l, q1, q2⟩
            · exact Or.inl q
            · exact Or.inr ⟨o1, l, q1, decide_eq_false (by omega)⟩) ar cu (fun x hx => by
            have hx' := har x hx
            have hrx := rk_a hx'
            refine decide_eq_decide.mpr ?_
            omega)
          rw [hall] at q
          exact q
        have hty' := ty_ra (P := fun o => decide ((3 : Int) ≤ o)) (t := t) (n := n0) ar cu har hty
        rw [hall] at hty' l1
        have hok' : ∀ y ∈ (relP (fun o => decide ((3 : Int) ≤ o)) ar cu).2, okc kd y := fun y hy => by
          rcases relP_mem ar cu y hy with q | ⟨q1, q2⟩
          · exact hok y q
          · have : y = (y.1, 0) := by rw [← q1]
            rw [this]
            have := har _ q2
            exact okc_o (by omega)
        have elen : ((relP (fun o => decide ((3 : Int) ≤ o)) ar cu).2 ++ F).length = (relP (fun o => decide ((3 : Int) ≤ o)) ar cu).2.length + F.length := List.length_append
        rw [List.length_nil] at l1
        refine ⟨0, U, J, ⟨fun c h1 h2 h3 h4 => u1 c h1 h2, fun x hx => u2 x (by omega) (by omega), u3⟩, u1 101 (by decide) (by decide), u2 10 (by decide) (by decide), by decide, ?_, Or.inr ⟨rfl, p, (relP (fun o => decide ((3 : Int) ≤ o)) ar cu).2, Nat.le_refl _, hp, cg, hT.up (u2 7 (by decide) (by decide)) (fun x h1 h2 => u2 x (by omega) (by omega)) (u1 100 (by decide) (by decide)), u5, by rw [u2 24 (by decide) (by decide), h24]; omega, by rw [elen]; omega, by rw [elen]; omega, hty', hok', fun r hr => ?_⟩⟩
        · apply sg_225_10
          refine ite_n h251 ⟨_, _, _, k24, ite_p (b0_t cg) ⟨_, _, hu, rfl⟩⟩
        · refine Fi_c (s := (p, 3, sd, ar ++ R, br, 0, cu, cl, kd, hc)) (s' := (p, 3, sd, R, br, 0, (relP (fun o => decide ((3 : Int) ≤ o)) ar cu).2, cl, kd, hc)) ?_ rfl hr
          rw [st_3, st_3]
          have q := fOne_rl (l := 4) (k := lxK b N (en isW b N p)) (p := lxT b N (en isW b N p)) (sd := sd) (ws := ar ++ R) (br := br) (mi := 0) (cu := cu) (cl := cl) (kd := kd) (hc := hc) (by decide) cg
          rw [hmach] at q
          exact q.symm
/-- a SUM -/
theorem m_225 {V : Nat → Nat → Int} {J : Nat → Nat → Int64} (hK : K < 4) {sd kd hc : Int} {br t n0 p : Nat} {R : List Int} {cu F : Cd} {cl : List (Int × Cd)} (hkd : 4 ≤ kd ∧ kd ≤ 6) (hsd : sd = 2 ↔ kd = 6) (hR : R = [] ∨ ∃ o l, R = o :: l ∧ rkO o < 4) (hp : p ≤ N) (hT : TKS V J b N p) (hC : CDS V K (cu ++ F)) (h24 : V 93 24 = br) (h8 : V 93 8 = kd - 3) (hbm : br ≤ 8) (hlen : (cu ++ F).length + R.length < p) (hty : tyL cu = some (t, n0)) (hok : ∀ x ∈ cu, okc kd x) : ∃ (v : Int) (W : Nat → Nat → Int) (J2 : Nat → Nat → Int64), FRR K V W ∧ W 101 = V 101 ∧ W 93 10 = V 93 10 ∧ (0 ≤ v ∧ v ≤ 6) ∧ Runs (GW L xs) (d + 5) 225 (0, [.ref 93, vU], [], zS (eV (V)) (J) tg) (some (Value.int (Int32.ofInt (v))), zS (eV (W)) (J2) tg) ∧ ((v ≠ 0 ∧ ∃ f : Nat, W 93 14 = f ∧ f ≤ N ∧ Fi b N (p, 2, sd, R, br, 0, cu, cl, kd, hc) (v, f, [], 0)) ∨ (v = 0 ∧ ∃ (p' : Nat) (cu' : Cd), p ≤ p' ∧ p' ≤ N ∧ ¬ (15 ≤ lxK b N (en isW b N p') ∧ lxK b N (en isW b N p') ≤ 17) ∧ TKS W J2 b N p' ∧ CDS W K (cu' ++ F) ∧ W 93 24 = br ∧ (cu ++ F).length + 1 ≤ (cu' ++ F).length ∧ (cu' ++ F).length + R.length < p' ∧ tyL cu' = some (t, n0 + 1) ∧ (∀ x ∈ cu', okc kd x) ∧ ∀ r, Fi b N (p', 3, sd, R, br, 0, cu', cl, kd, hc) r → Fi b N (p, 2, sd, R, br, 0, cu, cl, kd, hc) r)) := by
  have e93 : ∀ x, x ≠ 23 → x ≠ 25 → up2 (up2 V 93 23 0) 93 25 0 93 x = V 93 x := fun x h1 h2 => by rw [w_at, if_neg h2, w_at, if_neg h1]
  have ec : ∀ c, c ≠ 93 → up2 (up2 V 93 23 0) 93 25 0 c = V c := fun c h => by rw [w_ne _ _ _ _ h, w_ne _ _ _ _ h]
  obtain ⟨v, W, J2, w1, w2, w3, w4, hr, hres⟩ := m_225l (L := L) (xs := xs) (tg := tg) (d := d) (b := b) (N := N) hK hkd hsd hR (cl := cl) (hc := hc) (br := br) (t := t) (n0 := n0) (c0 := (cu ++ F).length) (F := F) (N + 1) p (up2 (up2 V 93 23 0) 93 25 0) J 0 0 [] cu (by omega) hp (hT.up (e93 7 (by decide) (by decide)) (fun x h1 h2 => e93 x (by omega) (by omega)) (ec 100 (by decide))) (fun o ho => absurd ho (List.not_mem_nil)) ⟨by rw [w_at, if_neg (by decide), w_eq]; rfl, trivial⟩ (hC.up (e93 18 (by decide) (by decide)) (e93 20 (by decide) (by decide)) (fun x => by rw [ec 96 (by decide)])) (by rw [e93 24 (by decide) (by decide), h24]; omega) (by rw [e93 8 (by decide) (by decide)]; exact h8) (by omega) (by rw [w_eq]; rfl) (Or.inl rfl) (by rw [List.length_nil]; omega) (by rw [List.length_nil]; omega) hty hok
  refine ⟨v, W, J2, ⟨fun c h1 h2 h3 h4 => by rw [w1.1 c h1 h2 h3 h4, ec c h1], fun x hx => by rw [w1.2.1 x hx, e93 x (by omega) (by omega)], fun x hx => by rw [w1.2.2 x hx, ec 96 (by decide)]⟩, w2.trans (ec 101 (by decide)), w3.trans (e93 10 (by decide) (by decide)), w4, ?_, hres⟩
  apply sg_225
  simp (disch := omega) only [eV_at, eV_up, o_lit2, o_add, o_sub, o_mul, o_neg, o_div, o_nat, ix_t, o_lt, o_le, o_eq, o_bi0, o_bi1, o_bib, em_t, o_neg1, o_shl, o_tb, o_tb0, o_tt, o_and, o_xor, o_or, o_max, o_min, an_tb, and_true, true_and, not_true, not_false, if_true, if_false, tn_add, tn_mul, Int.reduceToNat, tn_cast, md_x]
  exact hr
end LR
