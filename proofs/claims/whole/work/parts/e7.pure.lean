/-! An ASK in the reference. -/
theorem ao_rl {a : Int} {m : Int} {wl : List Int} {cu : Cd} (hwo : wlO wl) (h : (a = 1 ∧ m = 1) ∨ (a = 0 ∧ m = 2)) : rl m wl cu = relP (fun o => decide (o = 21 ∨ (a = 1 ∧ o = 22))) wl cu := by
  have q := relP_ext (P := fun o => decide (o = 21 ∨ (a = 1 ∧ o = 22))) (Q := fun o => decide (m ≤ rkO o)) (R := []) (Or.inl rfl) wl cu (fun x hx => by
    refine decide_eq_decide.mpr ?_
    rcases hwo x hx with rfl | rfl | rfl
    · have : rkO 40 = 0 := rfl
      omega
    · have : rkO 21 = 2 := rfl
      omega
    · have : rkO 22 = 1 := rfl
      omega)
  rw [List.append_nil, List.append_nil] at q
  exact q
theorem wlO.rp {P : Int → Bool} {wl : List Int} {cu : Cd} (h : wlO wl) : wlO (relP P wl cu).1 := fun o ho => h o (relP_sub wl cu o ho)
section LR
variable {L d : Nat} {xs : Nat → Int32} {tg : Option Nat} {b : Nat → Int} {N K : Nat}
theorem k_kc16 : (((((Int32.toInt64 97) <<< (Int32.toInt64 8 &&& 63)) ||| (Int32.toInt64 110)) <<< (Int32.toInt64 8 &&& 63)) ||| (Int32.toInt64 100) : Int64) = kc 16 := by decide
theorem k_kc15 : (28530 : Int64) = kc 15 := by decide
/-- what an ASK leaves -/
def AKo (b : Nat → Int) (N K : Nat) (V : Nat → Nat → Int) (kd hc : Int) (F : Cd) (cl : List (Int × Cd)) (p : Nat) (s : PMt) (v : Int) (W : Nat → Nat → Int) (J2 : Nat → Nat → Int64) : Prop := FRR K V W ∧ (0 ≤ v ∧ v ≤ 6) ∧ ((v ≠ 0 ∧ ∃ f : Nat, W 93 14 = f ∧ f ≤ N ∧ Fi b N s (v, f, [], 0)) ∨ (v = 0 ∧ ∃ (p' : Nat) (cu' : Cd), p ≤ p' ∧ p' ≤ N ∧ TKS W J2 b N p' ∧ CDS W K (cu' ++ F) ∧ W 93 24 = 0 ∧ (cu' ++ F).length < p' ∧ tyL cu' = some (1, 0) ∧ (∀ x ∈ cu', okc kd x) ∧ lxK b N (en isW b N p') ≠ 7 ∧ lxK b N (en isW b N p') ≠ 8 ∧ lxK b N (en isW b N p') ≠ 19 ∧ ∀ r, Fi b N (p', 4, 1, [], 0, 0, cu', cl, kd, hc) r → Fi b N s r))
theorem AKo.tr {V U W : Nat → Nat → Int} {J2 : Nat → Nat → Int64} {kd hc v : Int} {F : Cd} {cl : List (Int × Cd)} {p q : Nat} {s s' : PMt} (h : AKo b N K U kd hc F cl q s' v W J2) (hf : FRR K V U) (hp : p ≤ q) (hs : ∀ r, Fi b N s' r → Fi b N s r) : AKo b N K V kd hc F cl p s v W J2 := by
  obtain ⟨h1, h2, h3⟩ := h
  refine ⟨hf.tr h1, h2, ?_⟩
  rcases h3 with ⟨y0, f, y1, y2, y3⟩ | ⟨y0, p', cu', y1, y2, y3, y4, y5, y6, y7, y8, y9, ya, yb, yc⟩
  · exact Or.inl ⟨y0, f, y1, y2, hs _ y3⟩
  · exact Or.inr ⟨y0, p', cu', by omega, y2, y3, y4, y5, y6, y7, y8, y9, ya, yb, fun r hr => hs r (yc r hr)⟩
/-- from the head of the loop, if it ends from behind a comparison -/
theorem m_229a (hK : K < 4) {kd hc : Int} {F : Cd} {cl : List (Int × Cd)} (hkd : 4 ≤ kd ∧ kd ≤ 5) {p : Nat} {V : Nat → Nat → Int} {J : Nat → Nat → Int64} {sd : Int} {br : Nat} {wl : List Int} {cu : Cd} (hp : p ≤ N) (hT : TKS V J b N p) (hW : WLS V wl) (hwo : wlO wl) (hbr : brC wl = br) (hC : CDS V K (cu ++ F)) (h24 : V 93 24 = br) (h8 : V 93 8 = kd - 3) (hb8 : br ≤ 8) (hl1 : wl.length ≤ (cu ++ F).length + br) (hl2 : (cu ++ F).length + wl.length < p) (hty : tyL cu = some (aoC wl, 0)) (hok : ∀ x ∈ cu, okc kd x) (hB : ∀ (q : Nat) (V : Nat → Nat → Int) (J : Nat → Nat → Int64) (br : Nat) (wl : List Int) (cu : Cd), p ≤ q → q ≤ N → TKS V J b N q → WLS V wl → wlO wl → brC wl = br → CDS V K (cu ++ F) → V 93 24 = br → V 93 8 = kd - 3 → br ≤ 8 → wl.length + 1 ≤ (cu ++ F).length + br → (cu ++ F).length + wl.length < q → tyL cu = some (aoC wl + 1, 0) → (∀ x ∈ cu, okc kd x) → ∃ (v : Int) (W : Nat → Nat → Int) (J2 : Nat → Nat → Int64), AKo b N K V kd hc F cl q (q, 4, 1, wl, br, 0, cu, cl, kd, hc) v W J2 ∧ Runs (GW L xs) (d + 7) 229 (37, [.ref 93, .int 1, .int 0, (Value.int (Int32.ofInt (bi (lxK b N (en isW b N q) = 19)))), vU], [], zS (eV V) J tg) (some (Value.int (Int32.ofInt (v))), zS (eV W) J2 tg)) : ∃ (v : Int) (W : Nat → Nat → Int) (J2 : Nat → Nat → Int64), AKo b N K V kd hc F cl p (p, 1, sd, wl, br, 0, cu, cl, kd, hc) v W J2 ∧ Runs (GW L xs) (d + 7) 229 (7, [.ref 93, .int 1, vU, vU, vU], [], zS (eV V) J tg) (some (Value.int (Int32.ofInt (v))), zS (eV W) J2 tg) := by
  obtain ⟨v, W, J2, w1, w2, hr, hres⟩ := m_227 (L := L) (xs := xs) (tg := tg) (d := d) (b := b) (N := N) hK (kd := kd) (hc := hc) (F := F) (cl := cl) hkd (N + 1) p V J sd br wl cu (by omega) hp hT hW hwo hbr hC h24 h8 hb8 hl1 hl2 hty hok
  rcases hres with ⟨y0, f, y1, y2, y3⟩ | ⟨y0, p', br', wl', cu', y1, y2, y3, y4, y5, y6, y7, y8, y9, ya, yb, yc, yd, ye⟩
  · refine ⟨v, W, J2, ⟨w1, w2, Or.inl ⟨y0, f, y1, y2, y3⟩⟩, ?_⟩
    apply sg_229_7
    refine ite_n (by decide) ⟨_, _, _, hr, ite_n ?_ rfl⟩
    intro q
    have q : Int32.ofInt v = Int32.ofInt 0 := q
    rw [o_eq (by omega) (by omega)] at q
    exact y0 q
  · rw [y0] at hr
    obtain ⟨v', W', J', z1, z2⟩ := hB p' W J2 br' wl' cu' y1 y2 y3 y4 y5 y6 y7 y8 (by rw [w1.2.1 8 (by omega)]; exact h8) y9 ya yb yc yd
    refine ⟨v', W', J', z1.tr w1 y1 ye, ?_⟩
    obtain ⟨w, hw, hcs⟩ := tk_f (b := b) (N := N) (f := en isW b N p')
    have hr15 := rK_rg (b := b) (N := N) (f := en isW b N p') (fun k hk => (y3.1.2.2 k hk).2)
    have k15 : W 93 15 = rK b N (en isW b N p') := y3.2.2.2.1
    apply sg_229_7
    refine ite_n (by decide) ⟨_, _, _, hr, ite_p rfl ?_⟩
    simp (disch := omega) only [k15, eV_at, eV_up, o_lit2, o_add, o_sub, o_mul, o_neg, o_div, o_nat, ix_t, o_lt, o_le, o_eq, o_bi0, o_bi1, o_bib, em_t, o_neg1, o_shl, o_tb, o_tb0, o_tt, o_and, o_xor, o_or, o_max, o_min, an_tb, and_true, true_and, not_true, not_false, if_true, if_false, tn_add, tn_mul, Int.reduceToNat, tn_cast, md_x]
    by_cases c : lxK b N (en isW b N p') = 19
    · rw [if_pos (by omega)]
      rw [← bi_t c] at z2
      exact sg_229_36 _ _ _ _ _ _ z2
    · rw [if_neg (by omega)]
      rw [← bi_f c] at z2
      exact sg_229_36 _ _ _ _ _ _ z2
/-- behind a comparison -/
theorem m_229b (hK : K < 4) {kd hc : Int} {F : Cd} {cl : List (Int × Cd)} (hkd : 4 ≤ kd ∧ kd ≤ 5) : ∀ (n q : Nat) (V : Nat → Nat → Int) (J : Nat → Nat → Int64) (br : Nat) (wl : List Int) (cu : Cd), N - q < n → q ≤ N → TKS V J b N q → WLS V wl → wlO wl → brC wl = br → CDS V K (cu ++ F) → V 93 24 = br → V 93 8 = kd - 3 → br ≤ 8 → wl.length + 1 ≤ (cu ++ F).length + br → (cu ++ F).length + wl.length < q → tyL cu = some (aoC wl + 1, 0) → (∀ x ∈ cu, okc kd x) → ∃ (v : Int) (W : Nat → Nat → Int) (J2 : Nat → Nat → Int64), AKo b N K V kd hc F cl q (q, 4, 1, wl, br, 0, cu, cl, kd, hc) v W J2 ∧ Runs (GW L xs) (d + 7) 229 (37, [.ref 93, .int 1, .int 0, (Value.int (Int32.ofInt (bi (lxK b N (en isW b N q) = 19)))), vU], [], zS (eV V) J tg) (some (Value.int (Int32.ofInt (v))), zS (eV W) J2 tg)
  | 0, q, V, J, br, wl, cu, hn, _, _, _, _, _, _, _, _, _, _, _, _, _ => by omega
  | n + 1, q, V, J, br, wl, cu, hn, hq, hT, hW, hwo, hbr, hC, h24, h8, hb8, hl1, hl2, hty, hok => by
    obtain ⟨e1, e2, e3, e4⟩ := en_ch (f := isW) (b := b) hq
    have hN : N ≤ 300 := hT.1.2.1
    obtain ⟨t1, t2, t3⟩ := lxT_le (b := b) e2
    obtain ⟨w, hw, hcs⟩ := tk_f (b := b) (N := N) (f := en isW b N q)
    have h40 : ∀ o ∈ wl, 0 ≤ o ∧ o ≤ 40 := fun o ho => by have := hwo o ho; omega
    have ecl : (cu ++ F).length = cu.length + F.length := List.length_append
    -- the stack settled with a = 1
    obtain ⟨U, u1, u2, u3, u4, u5, hu⟩ := m_228 (L := L) (xs := xs) (J := J) (tg := tg) (d := d + 5) (a := 1) (Or.inr rfl) hK wl V (cu ++ F) hW hC h40 (by omega) (by omega)
    rw [relP_ap] at u4 u5
    have hrl := ao_rl (a := 1) (m := 1) (cu := cu) hwo (Or.inl ⟨rfl, rfl⟩)
    obtain ⟨l1, l2⟩ := relP_len (P := fun o => decide (o = 21 ∨ ((1 : Int) = 1 ∧ o = 22))) wl cu
    have hty1 := ty_rw (P := fun o => decide (o = 21 ∨ ((1 : Int) = 1 ∧ o = 22))) (by decide) wl cu hwo hty
    have hbr1 := br_rw (P := fun o => decide (o = 21 ∨ ((1 : Int) = 1 ∧ o = 22))) (by decide) wl cu
    have hwo1 : wlO (relP (fun o => decide (o = 21 ∨ ((1 : Int) = 1 ∧ o = 22))) wl cu).1 := hwo.rp
    have htop := relP_top (P := fun o => decide (o = 21 ∨ ((1 : Int) = 1 ∧ o = 22))) wl cu
    have hok1 : ∀ y ∈ (relP (fun o => decide (o = 21 ∨ ((1 : Int) = 1 ∧ o = 22))) wl cu).2, okc kd y := fun y hy => by
      by_cases h40' : y.1 = 40
      · rcases relP_mem wl cu y hy with z | ⟨z1, z2⟩
        · exact hok y z
        · exfalso
          clear hu
          -- a bracket is never let go
          have : ∀ (l : List Int) (c : Cd), (∀ x ∈ c, x.1 ≠ 40) → ∀ x ∈ (relP (fun o => decide (o = 21 ∨ ((1 : Int) = 1 ∧ o = 22))) l c).2, x.1 ≠ 40 := by
            intro l
            induction l with
            | nil => intro c hc x hx; exact hc x hx
            | cons o l ih =>
              intro c hc x hx
              by_cases z : o = 21 ∨ ((1 : Int) = 1 ∧ o = 22)
              · rw [relP, if_pos (decide_eq_true z)] at hx
                refine ih _ (fun y hy => ?_) x hx
                rcases List.mem_cons.mp hy with e | e
                · rw [e]; show o ≠ 40; omega
                · exact hc y e
              · rw [relP, if_neg (fun y => z (of_decide_eq_true y))] at hx
                exact hc x hx
          refine this wl cu (fun x hx => ?_) y hy h40'
          have := (hok x hx).1
          unfold vop at this
          omega
      · rcases relP_mem wl cu y hy with z | ⟨z1, z2⟩
        · exact hok y z
        · have : y = (y.1, 0) := by rw [← z1]
          rw [this]
          have := hwo _ z2
          exact okc_o (by omega)
    by_cases c19 : lxK b N (en isW b N q) = 19
    · have f1 : en isW b N q < N := by omega
      rw [← bi_t c19]
      generalize hw1 : (relP (fun o => decide (o = 21 ∨ ((1 : Int) = 1 ∧ o = 22))) wl cu).1 = wl1 at *
      generalize hc1 : (relP (fun o => decide (o = 21 ∨ ((1 : Int) = 1 ∧ o = 22))) wl cu).2 = cu1 at *
      have hrl1 : rl 1 wl cu = (wl1, cu1) := by rw [hrl, ← hw1, ← hc1]
      have hU10 : U 93 10 = (wl1.length : Nat) := u4.1
      rcases htop with hz | ⟨o, l, hz, hPo⟩
      · -- no bracket is open
        subst hz
        have hb0 : br = 0 := by rw [← hbr, ← hbr1]; rfl
        refine ⟨1, U, J, ⟨⟨fun c h1 h2 h3 h4 => u1 c h1 h2, fun x hx => u2 x (by omega) (by omega), u3⟩, by decide, Or.inl ⟨by decide, en isW b N q, by rw [u2 14 (by decide) (by decide)]; exact hT.2.2.1, e2, ?_⟩⟩, ?_⟩
        · refine Fi_f (s := (q, 4, 1, wl, br, 0, cu, cl, kd, hc)) ?_ (by decide)
          rw [st_4]; unfold fAsk
          rw [if_neg (by omega), if_neg (by omega), if_neg (by omega)]
        · apply sg_229_37
          refine ite_n (by decide) ⟨_, _, hu, ite_p (by rw [eV_at, hU10]; decide) ?_⟩
          apply sg_229_58
          exact ite_p rfl rfl
      · have ho : o = 40 := by
          have hPo := of_decide_eq_false hPo
          have := hwo1 o (by rw [hz]; exact List.mem_cons_self ..)
          omega
        subst ho
        subst hz
        have hbl : brC l + 1 = br := by rw [← hbr, ← hbr1, brC, if_pos rfl]
        rw [List.length_cons] at l1 l2
        have hU10 : U 93 10 = (l.length : Int) + 1 := by rw [hU10, List.length_cons]; omega
        have hU24 : U 93 24 = br := by rw [u2 24 (by decide) (by decide)]; exact h24
        obtain ⟨X, hX⟩ : ∃ X, X = up2 (up2 U 93 10 (l.length : Int)) 93 24 ((br : Int) - 1) := ⟨_, rfl⟩
        have x93 : ∀ x, x ≠ 10 → x ≠ 24 → X 93 x = U 93 x := fun x h1 h2 => by rw [hX, w_at, if_neg h2, w_at, if_neg h1]
        have xc : ∀ c, c ≠ 93 → X c = U c := fun c h1 => by rw [hX, w_ne _ _ _ _ h1, w_ne _ _ _ _ h1]
        have hTX : TKS X J b N q := hT.up (by rw [x93 7 (by decide) (by decide), u2 7 (by decide) (by decide)]) (fun x h1 h2 => by rw [x93 x (by omega) (by omega), u2 x (by omega) (by omega)]) (by rw [xc 100 (by decide), u1 100 (by decide) (by decide)])
        obtain ⟨Y, J2, y1, y2, y3, hy⟩ := m_213T (L := L) (xs := xs) (tg := tg) (d := d + 4) hTX hq
        have hfr : FRR K V Y := ⟨fun c h1 h2 h3 h4 => by rw [y1 c h1, xc c h1, u1 c h1 h2], fun x hx => by rw [y2 x (by omega), x93 x (by omega) (by omega), u2 x (by omega) (by omega)], fun x hx => by rw [y1 96 (by decide), xc 96 (by decide), u3 x hx]⟩
        have hWY : WLS Y l := ⟨by rw [y2 10 (by omega), hX, w_at, if_neg (by decide), w_eq], by rw [y1 101 (by decide), xc 101 (by decide)]; exact u4.2.2⟩
        have hCY : CDS Y K (cu1 ++ F) := u5.up (by rw [y2 18 (by omega), x93 18 (by decide) (by decide)]) (by rw [y2 20 (by omega), x93 20 (by decide) (by decide)]) (fun x => by rw [y1 96 (by decide), xc 96 (by decide)])
        have ecl1 : (cu1 ++ F).length = cu1.length + F.length := List.length_append
        obtain ⟨v', W', J', z1, z2⟩ := m_229b hK hkd (hc := hc) (F := F) (cl := cl) n (lxT b N (en isW b N q)) Y J2 (br - 1) l cu1 (by have := t3 f1; omega) t1 y3 hWY (fun o ho => hwo1 o (List.mem_cons_of_mem _ ho)) (by omega) hCY (by rw [y2 24 (by omega), hX, w_eq]; omega) (by rw [hfr.2.1 8 (by omega)]; exact h8) (by omega) (by omega) (by have := t3 f1; omega) (by rw [hty1, aoC, if_pos rfl]) hok1
        have hstp : sTp b N (q, 4, 1, wl, br, 0, cu, cl, kd, hc) = ((lxT b N (en isW b N q), 4, 1, l, br - 1, 0, cu1, cl, kd, hc), 0) := by
          rw [st_4]; unfold fAsk
          rw [if_neg (by omega), if_pos (by omega), hrl1]
          rfl
        refine ⟨v', W', J', z1.tr hfr (by have := t3 f1; omega) (fun r hr => Fi_s (s := (q, 4, 1, wl, br, 0, cu, cl, kd, hc)) hstp (by show ¬ N ≤ en isW b N q; omega) hr), ?_⟩
        obtain ⟨w', hw', hcs'⟩ := tk_f (b := b) (N := N) (f := en isW b N (lxT b N (en isW b N q)))
        have hr15 := rK_rg (b := b) (N := N) (f := en isW b N (lxT b N (en isW b N q))) (fun k hk => (hT.1.2.2 k hk).2)
        have k15 : Y 93 15 = rK b N (en isW b N (lxT b N (en isW b N q))) := y3.2.2.2.1
        apply sg_229_37
        refine ite_n (by decide) ⟨_, _, hu, ite_n ?_ ?_⟩
        · rw [eV_at, hU10]
          show ¬ Int32.ofInt _ ≤ Int32.ofInt 0
          rw [o_le (by omega) (by omega)]
          omega
        · apply sg_229_58
          refine ite_n (by decide) ?_
          simp (disch := omega) only [hU10, hU24, Int.add_sub_cancel, eV_at, eV_up, o_lit2, o_add, o_sub, o_mul, o_neg, o_div, o_nat, ix_t, o_lt, o_le, o_eq, o_bi0, o_bi1, o_bib, em_t, o_neg1, o_shl, o_tb, o_tb0, o_tt, o_and, o_xor, o_or, o_max, o_min, an_tb, and_true, true_and, not_true, not_false, if_true, if_false, tn_add, tn_mul, Int.reduceToNat, tn_cast, md_x]
          rw [← hX]
          refine ⟨_, _, hy, ?_⟩
          simp (disch := omega) only [k15, eV_at, eV_up, o_lit2, o_add, o_sub, o_mul, o_neg, o_div, o_nat, ix_t, o_lt, o_le, o_eq, o_bi0, o_bi1, o_bib, em_t, o_neg1, o_shl, o_tb, o_tb0, o_tt, o_and, o_xor, o_or, o_max, o_min, an_tb, and_true, true_and, not_true, not_false, if_true, if_false, tn_add, tn_mul, Int.reduceToNat, tn_cast, md_x]
          by_cases c : lxK b N (en isW b N (lxT b N (en isW b N q))) = 19
          · rw [if_pos (by omega)]
            rw [← bi_t c] at z2
            exact sg_229_103 _ _ _ _ _ _ _ z2
          · rw [if_neg (by omega)]
            rw [← bi_f c] at z2
            exact sg_229_103 _ _ _ _ _ _ _ z2
    · rw [← bi_f c19]
      have k8 := m_218k (L := L) (xs := xs) (tg := tg) (d := d + 6) hT.1 e2 hT.2 (k := 16) (by decide) (by decide) k_kc16
      have k7 := m_218k (L := L) (xs := xs) (tg := tg) (d := d + 6) hT.1 e2 hT.2 (k := 15) (by decide) (by decide) k_kc15
      by_cases c78 : lxK b N (en isW b N q) = 7 ∨ lxK b N (en isW b N q) = 8
      · have f1 : en isW b N q < N := by omega
        obtain ⟨a, o, hao, hoT⟩ : ∃ a o : Int, ((lxK b N (en isW b N q) = 7 ∧ a = 1 ∧ o = 22) ∨ (lxK b N (en isW b N q) = 8 ∧ a = 0 ∧ o = 21)) ∧ opT (lxK b N (en isW b N q)) = o := by
          rcases c78 with e | e
          · exact ⟨1, 22, Or.inl ⟨e, rfl, rfl⟩, by rw [e]; rfl⟩
          · exact ⟨0, 21, Or.inr ⟨e, rfl, rfl⟩, by rw [e]; rfl⟩
        clear u1 u2 u3 u4 u5 hu hrl l1 l2 hty1 hbr1 hwo1 htop hok1
        obtain ⟨U, u1, u2, u3, u4, u5, hu⟩ := m_228 (L := L) (xs := xs) (J := J) (tg := tg) (d := d + 5) (a := a) (by omega) hK wl V (cu ++ F) hW hC h40 (by omega) (by omega)
        rw [relP_ap] at u4 u5
        have hrk : (a = 1 ∧ rkO o = 1) ∨ (a = 0 ∧ rkO o = 2) := by
          rcases hao with ⟨-, h1, h2⟩ | ⟨-, h1, h2⟩
          · exact Or.inl ⟨h1, by rw [h2]; rfl⟩
          · exact Or.inr ⟨h1, by rw [h2]; rfl⟩
        have hrl := ao_rl (a := a) (m := rkO o) (cu := cu) hwo hrk
        obtain ⟨l1, l2⟩ := relP_len (P := fun o => decide (o = 21 ∨ (a = 1 ∧ o = 22))) wl cu
        have hP40 : (fun o : Int => decide (o = 21 ∨ (a = 1 ∧ o = 22))) 40 = false := by
          exact decide_eq_false (by omega)
        have hty1 := ty_rw (P := fun o => decide (o = 21 ∨ (a = 1 ∧ o = 22))) hP40 wl cu hwo hty
        have hbr1 := br_rw (P := fun o => decide (o = 21 ∨ (a = 1 ∧ o = 22))) hP40 wl cu
        have hwo1 : wlO (relP (fun o => decide (o = 21 ∨ (a = 1 ∧ o = 22))) wl cu).1 := hwo.rp
        have hok1 : ∀ y ∈ (relP (fun o => decide (o = 21 ∨ (a = 1 ∧ o = 22))) wl cu).2, okc kd y := by
          have : ∀ (l : List Int) (c : Cd), wlO l → (∀ x ∈ c, okc kd x) → ∀ x ∈ (relP (fun o => decide (o = 21 ∨ (a = 1 ∧ o = 22))) l c).2, okc kd x := by
            intro l
            induction l with
            | nil => intro c _ hc x hx; exact hc x hx
            | cons o l ih =>
              intro c hl hc x hx
              by_cases z : o = 21 ∨ (a = 1 ∧ o = 22)
              · rw [relP, if_pos (decide_eq_true z)] at hx
                refine ih _ (fun y hy => hl y (List.mem_cons_of_mem _ hy)) (fun y hy => ?_) x hx
                rcases List.mem_cons.mp hy with e | e
                · rw [e]; exact okc_o (by omega)
                · exact hc y e
              · rw [relP, if_neg (fun y => z (of_decide_eq_true y))] at hx
                exact hc x hx
          exact this wl cu hwo hok
        generalize hw1 : (relP (fun o => decide (o = 21 ∨ (a = 1 ∧ o = 22))) wl cu).1 = wl1 at *
        generalize hc1 : (relP (fun o => decide (o = 21 ∨ (a = 1 ∧ o = 22))) wl cu).2 = cu1 at *
        have hrl1 : rl (rkO o) wl cu = (wl1, cu1) := by rw [hrl, ← hw1, ← hc1]
        have hU10 : U 93 10 = (wl1.length : Nat) := u4.1
        obtain ⟨X, hX⟩ : ∃ X, X = up2 (up2 U 101 wl1.length o) 93 10 ((wl1.length : Int) + 1) := ⟨_, rfl⟩
        have x93 : ∀ x, x ≠ 10 → X 93 x = U 93 x := fun x h1 => by rw [hX, w_at, if_neg h1, w_ne _ _ _ _ (by decide)]
        have xc : ∀ c, c ≠ 93 → c ≠ 101 → X c = U c := fun c h1 h2 => by rw [hX, w_ne _ _ _ _ h1, w_ne _ _ _ _ h2]
        have x101 : ∀ x, X 101 x = if x = wl1.length then o else U 101 x := fun x => by rw [hX, w_ne _ _ _ _ (by decide), w_at]
        have hTX : TKS X J b N q := hT.up (by rw [x93 7 (by decide), u2 7 (by decide) (by decide)]) (fun x h1 h2 => by rw [x93 x (by omega), u2 x (by omega) (by omega)]) (by rw [xc 100 (by decide) (by decide), u1 100 (by decide) (by decide)])
        obtain ⟨Y, J2, y1, y2, y3, hy⟩ := m_213T (L := L) (xs := xs) (tg := tg) (d := d + 4) hTX hq
        have hfr : FRR K V Y := ⟨fun c h1 h2 h3 h4 => by rw [y1 c h1, xc c h1 h3, u1 c h1 h2], fun x hx => by rw [y2 x (by omega), x93 x (by omega), u2 x (by omega) (by omega)], fun x hx => by rw [y1 96 (by decide), xc 96 (by decide) (by decide), u3 x hx]⟩
        have hWY : WLS Y (o :: wl1) := ⟨by rw [y2 10 (by omega), hX, w_eq, List.length_cons]; omega, by rw [y1 101 (by decide), x101, if_pos rfl], u4.2.up fun k hk => by rw [y1 101 (by decide), x101, if_neg (by omega)]⟩
        have hCY : CDS Y K (cu1 ++ F) := u5.up (by rw [y2 18 (by omega), x93 18 (by decide)]) (by rw [y2 20 (by omega), x93 20 (by decide)]) (fun x => by rw [y1 96 (by decide), xc 96 (by decide) (by decide)])
        have ecl1 : (cu1 ++ F).length = cu1.length + F.length := List.length_append
        obtain ⟨v', W', J', z1, z2⟩ := m_229a (L := L) (xs := xs) (tg := tg) (d := d) hK hkd (hc := hc) (F := F) (cl := cl) (p := lxT b N (en isW b N q)) (V := Y) (J := J2) (sd := 1) (br := br) (wl := o :: wl1) (cu := cu1) t1 y3 hWY (fun x hx => by rcases List.mem_cons.mp hx with e | e; omega; exact hwo1 x e) (by rw [brC, if_neg (by omega), hbr1]; exact hbr) hCY (by rw [y2 24 (by omega), x93 24 (by decide), u2 24 (by decide) (by decide)]; exact h24) (by rw [hfr.2.1 8 (by omega)]; exact h8) hb8 (by rw [List.length_cons]; omega) (by rw [List.length_cons]; have := t3 f1; omega) (by rw [aoC, if_neg (by omega)]; exact hty1) hok1 (fun q' V J br wl cu g1 g2 => m_229b hK hkd n q' V J br wl cu (by have := t3 f1; omega) g2)
        have hstp : sTp b N (q, 4, 1, wl, br, 0, cu, cl, kd, hc) = ((lxT b N (en isW b N q), 1, 1, o :: wl1, br, 0, cu1, cl, kd, hc), 0) := by
          rw [st_4]; unfold fAsk
          rw [if_pos c78, hoT, hrl1]
        refine ⟨v', W', J', z1.tr hfr (by have := t3 f1; omega) (fun r hr => Fi_s (s := (q, 4, 1, wl, br, 0, cu, cl, kd, hc)) hstp (by show ¬ N ≤ en isW b N q; omega) hr), ?_⟩
        have go : ∀ (x4 y2' : Int), y2' = o → Runs (GW L xs) (d + 7) 229 (181, [.ref 93, .int 1, .int 0, .int 0, .int (Int32.ofInt x4)], [.int (Int32.ofInt y2'), .int (Int32.ofInt (wl1.length : Int)), .ref 101], zS (eV U) J tg) (some (Value.int (Int32.ofInt (v'))), zS (eV W') J' tg) := fun x4 y2' h2 => by
          rw [h2]
          apply sg_229_181
          simp (disch := omega) only [hU10, eV_at, eV_up, o_lit2, o_add, o_sub, o_mul, o_neg, o_div, o_nat, ix_t, o_lt, o_le, o_eq, o_bi0, o_bi1, o_bib, em_t, o_neg1, o_shl, o_tb, o_tb0, o_tt, o_and, o_xor, o_or, o_max, o_min, an_tb, and_true, true_and, not_true, not_false, if_true, if_false, tn_add, tn_mul, Int.reduceToNat, tn_cast, md_x]
          rw [← hX]
          exact ⟨_, _, hy, sg_229_196 _ _ _ _ _ _ _ z2⟩
        apply sg_229_37
        refine ite_p rfl ⟨_, _, _, m_214, _, _, _, k8, ?_⟩
        rcases hao with ⟨h1, h2, h3⟩ | ⟨h1, h2, h3⟩
        · refine ite_p (b0_t (by omega)) ⟨_, _, _, k7, ite_n (b0_f (by omega)) ?_⟩
          rw [← bi_f (show ¬ lxK b N (en isW b N q) = ((16 : Nat) : Int) - 8 by omega)]
          apply sg_229_137
          apply sg_229_142
          refine ite_n (by decide) (ite_p rfl ?_)
          apply sg_229_158
          rw [h2] at hu
          refine ⟨_, _, hu, ite_p rfl ?_⟩
          rw [eV_at, hU10]
          exact go 0 22 h3.symm
        · refine ite_n (b0_f (by omega)) ?_
          rw [← bi_t (show lxK b N (en isW b N q) = ((16 : Nat) : Int) - 8 by omega)]
          apply sg_229_137
          apply sg_229_142
          refine ite_n (by decide) (ite_n (by decide) ?_)
          apply sg_229_158
          rw [h2] at hu
          refine ⟨_, _, hu, ite_n (by decide) ?_⟩
          rw [eV_at, hU10]
          exact go 1 21 h3.symm
      · have start : ∀ r, (if (eV U) 93 10 ≤ 0 then r = (some (.int 0), zS (eV U) J tg) else r = (some (.int 1), zS (eV U) J tg)) → Runs (GW L xs) (d + 7) 229 (37, [.ref 93, .int 1, .int 0, (Value.int (Int32.ofInt (0))), vU], [], zS (eV V) J tg) r := fun r hh => by
          apply sg_229_37
          refine ite_p rfl ⟨_, _, _, m_214, _, _, _, k8, ite_p (b0_t (by omega)) ⟨_, _, _, k7, ite_p (b0_t (by omega)) ?_⟩⟩
          apply sg_229_142
          refine ite_p rfl ?_
          apply sg_229_196
          apply sg_229_7
          exact ite_p rfl ⟨_, _, hu, hh⟩
        generalize hw1 : (relP (fun o => decide (o = 21 ∨ ((1 : Int) = 1 ∧ o = 22))) wl cu).1 = wl1 at *
        generalize hc1 : (relP (fun o => decide (o = 21 ∨ ((1 : Int) = 1 ∧ o = 22))) wl cu).2 = cu1 at *
        have hrl1 : rl 1 wl cu = (wl1, cu1) := by rw [hrl, ← hw1, ← hc1]
        have hU10 : U 93 10 = (wl1.length : Nat) := u4.1
        have hfr : FRR K V U := ⟨fun c h1 h2 h3 h4 => u1 c h1 h2, fun x hx => u2 x (by omega) (by omega), u3⟩
        rcases htop with hz | ⟨o, l, hz, hPo⟩
        · subst hz
          have hb0 : br = 0 := by rw [← hbr, ← hbr1]; rfl
          subst hb0
          have ecl1 : (cu1 ++ F).length = cu1.length + F.length := List.length_append
          rw [List.length_nil] at l1
          refine ⟨0, U, J, ⟨hfr, by decide, Or.inr ⟨rfl, q, cu1, Nat.le_refl _, hq, hT.up (u2 7 (by decide) (by decide)) (fun x h1 h2 => u2 x (by omega) (by omega)) (u1 100 (by decide) (by decide)), u5, by rw [u2 24 (by decide) (by decide)]; exact h24, by omega, hty1, hok1, by omega, by omega, c19, fun r hr => ?_⟩⟩, start _ (ite_p (by rw [eV_at, hU10]; decide) rfl)⟩
          refine Fi_c (s := (q, 4, 1, wl, 0, 0, cu, cl, kd, hc)) (s' := (q, 4, 1, [], 0, 0, cu1, cl, kd, hc)) ?_ rfl hr
          rw [st_4, st_4]
          have z := fAsk_rl (l := 1) (k := lxK b N (en isW b N q)) (p := lxT b N (en isW b N q)) (sd := 1) (ws := wl) (br := 0) (mi := 0) (cu := cu) (cl := cl) (kd := kd) (hc := hc) (by decide) (fun z => absurd (Or.inr z) c78)
          rw [hrl1] at z
          exact z.symm
        · have ho : o = 40 := by
            have hPo := of_decide_eq_false hPo
            have := hwo1 o (by rw [hz]; exact List.mem_cons_self ..)
            omega
          subst ho
          subst hz
          have hbl : brC l + 1 = br := by rw [← hbr, ← hbr1, brC, if_pos rfl]
          have hU10 : U 93 10 = (l.length : Int) + 1 := by rw [hU10, List.length_cons]; omega
          rw [List.length_cons] at l1 l2
          refine ⟨1, U, J, ⟨hfr, by decide, Or.inl ⟨by decide, en isW b N q, by rw [u2 14 (by decide) (by decide)]; exact hT.2.2.1, e2, ?_⟩⟩, start _ (ite_n ?_ rfl)⟩
          · refine Fi_f (s := (q, 4, 1, wl, br, 0, cu, cl, kd, hc)) ?_ (by decide)
            rw [st_4]; unfold fAsk
            rw [if_neg c78, if_neg (by omega), if_neg (by omega)]
          · rw [eV_at, hU10]
            show ¬ Int32.ofInt _ ≤ Int32.ofInt 0
            rw [o_le (by omega) (by omega)]
            omega
/-- either -/
theorem m_229 (hK : K < 4) {kd hc : Int} {F : Cd} {cl : List (Int × Cd)} (hkd : 4 ≤ kd ∧ kd ≤ 5) {p : Nat} {V : Nat → Nat → Int} {J : Nat → Nat → Int64} {sd : Int} (hp : p ≤ N) (hT : TKS V J b N p) (hC : CDS V K F) (h24 : V 93 24 = 0) (h8 : V 93 8 = kd - 3) (hl2 : F.length < p) : ∃ (v : Int) (W : Nat → Nat → Int) (J2 : Nat → Nat → Int64), AKo b N K V kd hc F cl p (p, 1, sd, [], 0, 0, [], cl, kd, hc) v W J2 ∧ Runs (GW L xs) (d + 7) 229 (0, [.ref 93, vU, vU, vU, vU], [], zS (eV (V)) (J) tg) (some (Value.int (Int32.ofInt (v))), zS (eV (W)) (J2) tg) := by
  have e93 : ∀ x, x ≠ 10 → up2 V 93 10 0 93 x = V 93 x := fun x h1 => by rw [w_at, if_neg h1]
  have ec : ∀ c, c ≠ 93 → up2 V 93 10 0 c = V c := fun c h => by rw [w_ne _ _ _ _ h]
  obtain ⟨v, W, J2, h1, h2⟩ := m_229a (L := L) (xs := xs) (tg := tg) (d := d) (b := b) (N := N) hK hkd (hc := hc) (F := F) (cl := cl) (p := p) (V := up2 V 93 10 0) (J := J) (sd := sd) (br := 0) (wl := []) (cu := []) hp (hT.up (e93 7 (by decide)) (fun x h1 h2 => e93 x (by omega)) (ec 100 (by decide))) ⟨by rw [w_eq]; rfl, trivial⟩ (fun o ho => absurd ho List.not_mem_nil) rfl (hC.up (e93 18 (by decide)) (e93 20 (by decide)) (fun x => by rw [ec 96 (by decide)])) (by rw [e93 24 (by decide), h24]; rfl) (by rw [e93 8 (by decide)]; exact h8) (by decide) (by rw [List.length_nil]; omega) (by rw [List.length_nil]; show F.length + 0 < p; omega) rfl (fun x hx => absurd hx List.not_mem_nil) (fun q V J br wl cu g1 g2 => m_229b hK hkd (N + 1) q V J br wl cu (by omega) g2)
  refine ⟨v, W, J2, h1.tr ⟨fun c h1 _ _ _ => ec c h1, fun x hx => e93 x (by omega), fun x _ => by rw [ec 96 (by decide)]⟩ (Nat.le_refl _) (fun r hr => hr), ?_⟩
  apply sg_229
  simp (disch := omega) only [eV_at, eV_up, o_lit2, o_add, o_sub, o_mul, o_neg, o_div, o_nat, ix_t, o_lt, o_le, o_eq, o_bi0, o_bi1, o_bib, em_t, o_neg1, o_shl, o_tb, o_tb0, o_tt, o_and, o_xor, o_or, o_max, o_min, an_tb, and_true, true_and, not_true, not_false, if_true, if_false, tn_add, tn_mul, Int.reduceToNat, tn_cast, md_x]
  exact h2
end LR
