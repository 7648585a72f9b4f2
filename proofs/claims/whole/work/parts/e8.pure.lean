/-! Clauses in the reference. -/
def RCl (E : Nat → Int) (t : Nat) : List (Int × Cd) → Prop
  | [] => True
  | c :: l => (E (t + 1 + 3 * l.length) = c.1 - 3 ∧ E (t + 2 + 3 * l.length) = ((fl l).length : Nat) ∧ E (t + 3 + 3 * l.length) = ((fl (c :: l)).length : Nat)) ∧ RCl E t l
theorem RCl.up {A B : Nat → Int} {t : Nat} : ∀ {l : List (Int × Cd)}, RCl A t l → (∀ x, t < x → x < t + 1 + 3 * l.length → B x = A x) → RCl B t l
  | [], _, _ => trivial
  | c :: l, h, e => by
    rw [List.length_cons] at e
    refine ⟨?_, RCl.up h.2 fun x h1 h2 => e x h1 (by omega)⟩
    rw [e _ (by omega) (by omega), e _ (by omega) (by omega), e _ (by omega) (by omega)]
    exact h.1
/-- clauses are well put; the one of harm has number hc -/
def HCl (hc : Int) : List (Int × Cd) → Prop
  | [] => True
  | c :: l => ((4 ≤ c.1 ∧ c.1 ≤ 6) ∧ (c.1 = 6 ↔ (l.length : Int) = hc) ∧ tyL c.2 = some (if c.1 = 6 then (0, 1) else (1, 0)) ∧ ∀ x ∈ c.2, okc c.1 x) ∧ HCl hc l
theorem HCl.up {hc hc' : Int} : ∀ {l : List (Int × Cd)}, HCl hc l → (∀ i : Nat, i < l.length → ((i : Int) = hc ↔ (i : Int) = hc')) → HCl hc' l
  | [], _, _ => trivial
  | c :: l, h, e => by
    rw [List.length_cons] at e
    refine ⟨⟨h.1.1, ?_, h.1.2.2⟩, HCl.up h.2 fun i hi => e i (by omega)⟩
    rw [h.1.2.1]
    exact e _ (by omega)
def FR2 (K : Nat) (V W : Nat → Nat → Int) : Prop := (∀ c, c ≠ 93 → c ≠ 96 → c ≠ 101 → c ≠ 102 → W c = V c) ∧ (∀ x, x ≤ 7 ∨ x = 9 ∨ x = 11 ∨ x = 12 → W 93 x = V 93 x) ∧ ∀ x, x < 800 * K → W 96 x = V 96 x
theorem FR2.tr {K : Nat} {U V W : Nat → Nat → Int} (h : FR2 K U V) (k : FR2 K V W) : FR2 K U W := ⟨fun c h1 h2 h3 h4 => (k.1 c h1 h2 h3 h4).trans (h.1 c h1 h2 h3 h4), fun x hx => (k.2.1 x hx).trans (h.2.1 x hx), fun x hx => (k.2.2 x hx).trans (h.2.2 x hx)⟩
theorem FRR.f2 {K : Nat} {V W : Nat → Nat → Int} (h : FRR K V W) : FR2 K V W := ⟨h.1, fun x hx => h.2.1 x (by omega), fun x hx => h.2.2 x (by omega)⟩
/-- the reference stands between clauses -/
abbrev BTW (V : Nat → Nat → Int) (J : Nat → Nat → Int64) (b : Nat → Int) (N K p : Nat) (cl : List (Int × Cd)) (hc : Int) : Prop := p ≤ N ∧ TKS V J b N p ∧ CDS V K (fl cl) ∧ V 93 24 = 0 ∧ V 96 (800 * K) = (cl.length : Nat) ∧ RCl (V 96) (800 * K) cl ∧ V 93 21 = bi (hc ≠ -1) ∧ (fl cl).length ≤ p ∧ cl.length ≤ 10 ∧ HCl hc cl ∧ (hc = -1 ∨ (0 ≤ hc ∧ hc < (cl.length : Nat)))
/-- a clause came to its end, or to a fault -/
abbrev CLo (b : Nat → Int) (N K : Nat) (V : Nat → Nat → Int) (p : Nat) (s : PMt) (v : Int) (W : Nat → Nat → Int) (J2 : Nat → Nat → Int64) : Prop := FR2 K V W ∧ (0 ≤ v ∧ v ≤ 6) ∧ ((v ≠ 0 ∧ ∃ f : Nat, W 93 14 = f ∧ f ≤ N ∧ Fi b N s (v, f, [], 0)) ∨ (v = 0 ∧ ∃ (p' : Nat) (sd' kd' hc' : Int) (cl' : List (Int × Cd)), p < p' ∧ BTW W J2 b N K p' cl' hc' ∧ ∀ r, Fi b N (p', 0, sd', [], 0, 0, [], cl', kd', hc') r → Fi b N s r))
section LR
variable {L d : Nat} {xs : Nat → Int32} {tg : Option Nat} {b : Nat → Int} {N K : Nat}
theorem m_231e (hK : K < 4) {p : Nat} {V : Nat → Nat → Int} {J : Nat → Nat → Int64} {sd kd hc : Int} {cl : List (Int × Cd)} {cu : Cd} {s : PMt} (hs1 : s.1 = p) (hp : p ≤ N) (hT : TKS V J b N p) (hC : CDS V K (cu ++ fl cl)) (h24 : V 93 24 = 0) (h96 : V 96 (800 * K) = (cl.length : Nat)) (hh1 : V 96 (800 * K + 1 + 3 * cl.length) = kd - 3) (hh2 : V 96 (800 * K + 2 + 3 * cl.length) = ((fl cl).length : Nat)) (hRC : RCl (V 96) (800 * K) cl) (h21 : V 93 21 = bi (hc ≠ -1)) (hlen : (cu ++ fl cl).length < p) (hcl : cl.length < 10) (hH : HCl hc ((kd, cu) :: cl)) (hhc : hc = -1 ∨ (0 ≤ hc ∧ hc < (cl.length + 1 : Nat))) (hs20 : lxK b N (en isW b N p) = 20 → sTp b N s = ((lxT b N (en isW b N p), 0, sd, [], 0, 0, [], (kd, cu) :: cl, kd, hc), 0)) (hsn : lxK b N (en isW b N p) ≠ 20 → (sTp b N s).2 = 1) : ∃ (v : Int) (W : Nat → Nat → Int) (J2 : Nat → Nat → Int64), CLo b N K V p s v W J2 ∧ Runs (GW L xs) (d + 8) 231 (134, [.ref 93, (Value.int (Int32.ofInt ((cl.length : Nat)))), vU], [.int 0], zS (eV V) J tg) (some (Value.int (Int32.ofInt (v))), zS (eV W) J2 tg) := by
  obtain ⟨e1, e2, e3, e4⟩ := en_ch (f := isW) (b := b) hp
  have hN : N ≤ 300 := hT.1.2.1
  obtain ⟨t1, t2, t3⟩ := lxT_le (b := b) e2
  obtain ⟨w, hw, hcs⟩ := tk_f (b := b) (N := N) (f := en isW b N p)
  have hr15 := rK_rg (b := b) (N := N) (f := en isW b N p) (fun k hk => (hT.1.2.2 k hk).2)
  have k15 : V 93 15 = rK b N (en isW b N p) := hT.2.2.2.1
  obtain ⟨h18, h20, hS⟩ := hC
  obtain ⟨n, hn⟩ : ∃ n, n = cl.length := ⟨_, rfl⟩
  obtain ⟨m, hm⟩ : ∃ m, m = (cu ++ fl cl).length := ⟨_, rfl⟩
  rw [← hn] at h96 hh1 hh2 hcl hhc ⊢
  rw [← hm] at h20 hlen
  obtain ⟨X, hX⟩ : ∃ X, X = up2 (up2 V 96 (800 * K + 3 + 3 * n) (m : Int)) 96 (800 * K) ((n : Int) + 1) := ⟨_, rfl⟩
  have xc : ∀ c, c ≠ 96 → X c = V c := fun c h1 => by rw [hX, w_ne _ _ _ _ h1, w_ne _ _ _ _ h1]
  have x96 : ∀ x, X 96 x = if x = 800 * K then (n : Int) + 1 else if x = 800 * K + 3 + 3 * n then (m : Int) else V 96 x := fun x => by rw [hX, w_at, w_at]
  have hTX : TKS X J b N p := hT.up (by rw [xc 93 (by decide)]) (fun x h1 h2 => by rw [xc 93 (by decide)]) (xc 100 (by decide))
  have start : ∀ r, (if rK b N (en isW b N p) = 59 then (∃ (I1 : Nat → Nat → Int32) (J2 : Nat → Nat → Int64), Runs (GW L xs) (d + 7) 213 (0, [.ref 93, vU, vU], [], zS (eV X) J tg) (none, zS I1 J2 tg) ∧ r = (some (Value.int (Int32.ofInt 0)), zS I1 J2 tg)) else r = (some (Value.int (Int32.ofInt 1)), zS (eV X) J tg)) → Runs (GW L xs) (d + 8) 231 (134, [.ref 93, (Value.int (Int32.ofInt ((n : Nat)))), vU], [.int 0], zS (eV V) J tg) r := fun r hh => by
    apply sg_231_134
    refine ite_p rfl ?_
    simp (disch := omega) only [w_ne2, k15, h18, h20, h96, eV_at, eV_up, o_lit2, o_add, o_sub, o_mul, o_neg, o_div, o_nat, ix_t, o_lt, o_le, o_eq, o_bi0, o_bi1, o_bib, em_t, o_neg1, o_shl, o_tb, o_tb0, o_tt, o_and, o_xor, o_or, o_max, o_min, an_tb, and_true, true_and, not_true, not_false, if_true, if_false, tn_add, tn_mul, Int.reduceToNat, tn_cast, md_x]
    rw [← hX]
    exact hh
  by_cases c20 : lxK b N (en isW b N p) = 20
  · have f1 : en isW b N p < N := by omega
    obtain ⟨Y, J2, y1, y2, y3, hy⟩ := m_213T (L := L) (xs := xs) (tg := tg) (d := d + 5) hTX hp
    have y96 : Y 96 = X 96 := y1 96 (by decide)
    refine ⟨0, Y, J2, ⟨⟨fun c h1 h2 h3 h4 => by rw [y1 c h1, xc c h2], fun x hx => by rw [y2 x (by omega), xc 93 (by decide)], fun x hx => by rw [y96, x96, if_neg (by omega), if_neg (by omega)]⟩, by decide, Or.inr ⟨rfl, lxT b N (en isW b N p), sd, kd, hc, (kd, cu) :: cl, by have := t3 f1; omega, ⟨t1, y3, ⟨by rw [y2 18 (by omega), xc 93 (by decide)]; exact h18, ?_, ?_⟩, by rw [y2 24 (by omega), xc 93 (by decide)]; exact h24, ?_, ?_, by rw [y2 21 (by omega), xc 93 (by decide)]; exact h21, ?_, ?_, hH, ?_⟩, fun r hr => ?_⟩⟩, start _ (ite_p (by omega) ⟨_, _, hy, rfl⟩)⟩
    · show Y 93 20 = ((cu ++ fl cl).length : Nat)
      rw [y2 20 (by omega), xc 93 (by decide), h20, hm]
    · show Sk2 (Y 96) (800 * K + 50) (cu ++ fl cl)
      refine hS.up fun k h1 h2 => ?_
      rw [y96, x96, if_neg (by omega), if_neg (by omega)]
    · rw [y96, x96, if_pos rfl, List.length_cons, ← hn]; omega
    · refine ⟨⟨?_, ?_, ?_⟩, hRC.up fun x h1 h2 => by rw [y96, x96, if_neg (by omega), if_neg (by omega)]⟩
      · rw [← hn, y96, x96, if_neg (by omega), if_neg (by omega)]; exact hh1
      · rw [← hn, y96, x96, if_neg (by omega), if_neg (by omega)]; exact hh2
      · rw [← hn, y96, x96, if_neg (by omega), if_pos rfl, hm]; rfl
    · show (cu ++ fl cl).length ≤ _
      have := t3 f1; omega
    · rw [List.length_cons]; omega
    · rw [List.length_cons, ← hn]; exact hhc
    · exact Fi_s (hs20 c20) (by rw [hs1]; omega) hr
  · refine ⟨1, X, J, ⟨⟨fun c h1 h2 h3 h4 => xc c h2, fun x hx => by rw [xc 93 (by decide)], fun x hx => by rw [x96, if_neg (by omega), if_neg (by omega)]⟩, by decide, Or.inl ⟨by decide, en isW b N p, by rw [xc 93 (by decide)]; exact hT.2.2.1, e2, ?_⟩⟩, start _ (ite_n (by omega) rfl)⟩
    have q := Fi_f (hsn c20) (by decide : (1 : Int) ≠ 0)
    rw [hs1] at q
    exact q
set_option maxHeartbeats 4000000 in
theorem m_231 (hK : K < 4) {p : Nat} {V : Nat → Nat → Int} {J : Nat → Nat → Int64} {sd kd hc : Int} {cl : List (Int × Cd)} (hB : BTW V J b N K p cl hc) (hk0 : lxK b N (en isW b N p) ≠ 0) : ∃ (v : Int) (W : Nat → Nat → Int) (J2 : Nat → Nat → Int64), CLo b N K V p (p, 0, sd, [], 0, 0, [], cl, kd, hc) v W J2 ∧ Runs (GW L xs) (d + 8) 231 (0, [.ref 93, vU, vU], [], zS (eV (V)) (J) tg) (some (Value.int (Int32.ofInt (v))), zS (eV (W)) (J2) tg) := by
  obtain ⟨hp, hT, hC, h24, h96, hRC, h21, hlen, hcl, hH, hhc⟩ := hB
  obtain ⟨e1, e2, e3, e4⟩ := en_ch (f := isW) (b := b) hp
  have hN : N ≤ 300 := hT.1.2.1
  obtain ⟨t1, t2, t3⟩ := lxT_le (b := b) e2
  obtain ⟨w, hw, hcs⟩ := tk_f (b := b) (N := N) (f := en isW b N p)
  have f1 : en isW b N p < N := by omega
  clear hcs hw
  have hk := lxK_rg (b := b) (N := N) (f := en isW b N p)
  have k30 := m_230 (L := L) (xs := xs) (tg := tg) (d := d + 5) hT.1 e2 hT.2
  have h18 := hC.1
  have h20 := hC.2.1
  have hb21 : V 93 21 = 0 ∨ V 93 21 = 1 := by rw [h21]; unfold bi; split; exact Or.inr rfl; exact Or.inl rfl
  have hb21' : V 93 21 = 0 ↔ hc = -1 := by
    rw [h21]; unfold bi
    by_cases c : hc ≠ -1
    · rw [if_pos c]; exact ⟨fun q => absurd q (by decide), fun q => absurd q c⟩
    · rw [if_neg c]; exact ⟨fun _ => by omega, fun _ => rfl⟩
  obtain ⟨k, hke⟩ : ∃ k, k = lxK b N (en isW b N p) := ⟨_, rfl⟩
  rw [← hke] at k30 hk hk0
  by_cases c46 : 4 ≤ k ∧ k ≤ 6
  · rw [if_pos c46] at k30
    obtain ⟨V1, hV1⟩ : ∃ V1, V1 = up2 V 93 8 (k - 3) := ⟨_, rfl⟩
    have v1c : ∀ c, c ≠ 93 → V1 c = V c := fun c h => by rw [hV1, w_ne _ _ _ _ h]
    have v1x : ∀ x, x ≠ 8 → V1 93 x = V 93 x := fun x h => by rw [hV1, w_at, if_neg h]
    have v18 : V1 93 8 = k - 3 := by rw [hV1, w_eq]
    have hT1 : TKS V1 J b N p := hT.up (v1x 7 (by decide)) (fun x h1 h2 => v1x x (by omega)) (v1c 100 (by decide))
    have fr1 : FR2 K V V1 := ⟨fun c h1 _ _ _ => v1c c h1, fun x hx => v1x x (by omega), fun x _ => by rw [v1c 96 (by decide)]⟩
    by_cases c4 : k = 6 ∧ hc ≠ -1
    · refine ⟨4, V1, J, ⟨fr1, by decide, Or.inl ⟨by decide, en isW b N p, by rw [v1x 14 (by decide)]; exact hT.2.2.1, e2, ?_⟩⟩, ?_⟩
      · refine Fi_f (s := (p, 0, sd, [], 0, 0, [], cl, kd, hc)) ?_ (by decide)
        rw [st_0, ← hke]; unfold sCl
        rw [if_neg hk0, if_neg (by omega), if_pos c4]
      · apply sg_231
        refine ⟨_, _, _, k30, ?_⟩
        simp (disch := omega) only [eV_at, eV_up, o_lit2, o_add, o_sub, o_mul, o_neg, o_div, o_nat, ix_t, o_lt, o_le, o_eq, o_bi0, o_bi1, o_bib, em_t, o_neg1, o_shl, o_tb, o_tb0, o_tt, o_and, o_xor, o_or, o_max, o_min, an_tb, and_true, true_and, not_true, not_false, if_true, if_false, tn_add, tn_mul, Int.reduceToNat, tn_cast, md_x]
        rw [if_neg (by omega), if_pos (by omega), if_neg (by omega), ← hV1]
    · have start : ∀ r, Runs (GW L xs) (d + 8) 231 (34, [.ref 93, vU, vU], [], zS (eV V1) J tg) r → Runs (GW L xs) (d + 8) 231 (0, [.ref 93, vU, vU], [], zS (eV V) J tg) r := fun r hh => by
        apply sg_231
        refine ⟨_, _, _, k30, ?_⟩
        simp (disch := omega) only [eV_at, eV_up, o_lit2, o_add, o_sub, o_mul, o_neg, o_div, o_nat, ix_t, o_lt, o_le, o_eq, o_bi0, o_bi1, o_bib, em_t, o_neg1, o_shl, o_tb, o_tb0, o_tt, o_and, o_xor, o_or, o_max, o_min, an_tb, and_true, true_and, not_true, not_false, if_true, if_false, tn_add, tn_mul, Int.reduceToNat, tn_cast, md_x]
        rw [← hV1, if_neg (by omega)]
        by_cases c6 : k = 6
        · rw [if_pos (by omega), if_pos (by omega)]; exact hh
        · rw [if_neg (by omega)]; exact hh
      have h18' : V1 93 18 = (800 * K : Nat) := by rw [v1x 18 (by decide)]; exact h18
      have h96' : V1 96 (800 * K) = (cl.length : Nat) := by rw [v1c 96 (by decide)]; exact h96
      by_cases c10 : cl.length = 10
      · refine ⟨6, V1, J, ⟨fr1, by decide, Or.inl ⟨by decide, en isW b N p, by rw [v1x 14 (by decide)]; exact hT.2.2.1, e2, ?_⟩⟩, start _ ?_⟩
        · refine Fi_f (s := (p, 0, sd, [], 0, 0, [], cl, kd, hc)) ?_ (by decide)
          rw [st_0, ← hke]; unfold sCl
          rw [if_neg hk0, if_neg (by omega), if_neg c4, if_pos (by omega)]
        · apply sg_231_34
          simp (disch := omega) only [h18', h96', eV_at, eV_up, o_lit2, o_add, o_sub, o_mul, o_neg, o_div, o_nat, ix_t, o_lt, o_le, o_eq, o_bi0, o_bi1, o_bib, em_t, o_neg1, o_shl, o_tb, o_tb0, o_tt, o_and, o_xor, o_or, o_max, o_min, an_tb, and_true, true_and, not_true, not_false, if_true, if_false, tn_add, tn_mul, Int.reduceToNat, tn_cast, md_x]
          rw [if_pos (by omega)] <;> first | rfl | trivial
      · obtain ⟨y, hy⟩ : ∃ y : Int, y = if k = 6 then 1 else V 93 21 := ⟨_, rfl⟩
        have hyr : (k = 6 ∧ y = 1) ∨ (k ≠ 6 ∧ y = V 93 21) := by
          by_cases q : k = 6
          · exact Or.inl ⟨q, by rw [hy, if_pos q]⟩
          · exact Or.inr ⟨q, by rw [hy, if_neg q]⟩
        obtain ⟨V2, hV2⟩ : ∃ V2, V2 = up2 V1 93 21 y := ⟨_, rfl⟩
        have v2c : ∀ c, c ≠ 93 → V2 c = V1 c := fun c h => by rw [hV2, w_ne _ _ _ _ h]
        have v2x : ∀ x, x ≠ 21 → V2 93 x = V1 93 x := fun x h => by rw [hV2, w_at, if_neg h]
        have hT2 : TKS V2 J b N p := hT1.up (v2x 7 (by decide)) (fun x h1 h2 => v2x x (by omega)) (v2c 100 (by decide))
        obtain ⟨X, J1, x1, x2, x3, hx⟩ := m_213T (L := L) (xs := xs) (tg := tg) (d := d + 5) hT2 hp
        have x18 : X 93 18 = (800 * K : Nat) := by rw [x2 18 (by omega), v2x 18 (by decide)]; exact h18'
        have x8 : X 93 8 = k - 3 := by rw [x2 8 (by omega), v2x 8 (by decide)]; exact v18
        have x20 : X 93 20 = ((fl cl).length : Nat) := by rw [x2 20 (by omega), v2x 20 (by decide), v1x 20 (by decide)]; exact h20
        have x96 : X 96 = V 96 := by rw [x1 96 (by decide), v2c 96 (by decide), v1c 96 (by decide)]
        obtain ⟨n, hn⟩ : ∃ n, n = cl.length := ⟨_, rfl⟩
        obtain ⟨Y, hY⟩ : ∃ Y, Y = up2 (up2 X 96 (800 * K + 1 + 3 * n) (k - 3)) 96 (800 * K + 2 + 3 * n) ((fl cl).length : Int) := ⟨_, rfl⟩
        have yc : ∀ c, c ≠ 96 → Y c = X c := fun c h => by rw [hY, w_ne _ _ _ _ h, w_ne _ _ _ _ h]
        have y96 : ∀ x, Y 96 x = if x = 800 * K + 2 + 3 * n then ((fl cl).length : Int) else if x = 800 * K + 1 + 3 * n then k - 3 else V 96 x := fun x => by rw [hY, w_at, w_at, x96]
        have hTY : TKS Y J1 b N (lxT b N (en isW b N p)) := x3.up (by rw [yc 93 (by decide)]) (fun x h1 h2 => by rw [yc 93 (by decide)]) (yc 100 (by decide))
        have hCY : CDS Y K (fl cl) := ⟨by rw [yc 93 (by decide)]; exact x18, by rw [yc 93 (by decide)]; exact x20, hC.2.2.up fun x h1 h2 => by rw [y96, if_neg (by omega), if_neg (by omega)]⟩
        have y24 : Y 93 24 = 0 := by rw [yc 93 (by decide), x2 24 (by omega), v2x 24 (by decide), v1x 24 (by decide)]; exact h24
        have y8 : Y 93 8 = k - 3 := by rw [yc 93 (by decide)]; exact x8
        have yt : Y 96 (800 * K) = (cl.length : Nat) := by rw [y96, if_neg (by omega), if_neg (by omega)]; exact h96
        have yh1 : Y 96 (800 * K + 1 + 3 * cl.length) = k - 3 := by rw [← hn, y96, if_neg (by omega), if_pos rfl]
        have yh2 : Y 96 (800 * K + 2 + 3 * cl.length) = ((fl cl).length : Nat) := by rw [← hn, y96, if_pos rfl]
        have yR : RCl (Y 96) (800 * K) cl := hRC.up fun x h1 h2 => by rw [y96, if_neg (by omega), if_neg (by omega)]
        have y21 : Y 93 21 = y := by rw [yc 93 (by decide), x2 21 (by omega), hV2, w_eq]
        have frY : FR2 K V Y := ⟨fun c h1 h2 h3 h4 => by rw [yc c h2, x1 c h1, v2c c h1, v1c c h1], fun x hx => by rw [yc 93 (by decide), x2 x (by omega), v2x x (by omega), v1x x (by omega)], fun x hx => by rw [y96, if_neg (by omega), if_neg (by omega)]⟩
        have go : ∀ r, (if k - 3 = 3 then (∃ (v3 : Int32) (I4 : Nat → Nat → Int32) (J5 : Nat → Nat → Int64), Runs (GW L xs) (d + 7) 225 (0, [.ref 93, vU], [], zS (eV Y) J1 tg) (some (.int v3), zS I4 J5 tg) ∧ Runs (GW L xs) (d + 8) 231 (134, [.ref 93, (Value.int (Int32.ofInt ((cl.length : Nat)))), vU], [.int v3], zS I4 J5 tg) r) else (∃ (v6 : Int32) (I7 : Nat → Nat → Int32) (J8 : Nat → Nat → Int64), Runs (GW L xs) (d + 7) 229 (0, [.ref 93, vU, vU, vU, vU], [], zS (eV Y) J1 tg) (some (.int v6), zS I7 J8 tg) ∧ Runs (GW L xs) (d + 8) 231 (134, [.ref 93, (Value.int (Int32.ofInt ((cl.length : Nat)))), vU], [.int v6], zS I7 J8 tg) r)) → Runs (GW L xs) (d + 8) 231 (0, [.ref 93, vU, vU], [], zS (eV V) J tg) r := fun r hh => by
          refine start _ ?_
          have g7 : ∀ y1 : Int, y1 = y → Runs (GW L xs) (d + 8) 231 (70, [.ref 93, (Value.int (Int32.ofInt ((cl.length : Nat)))), vU], [(Value.int (Int32.ofInt (y1))), .ref 93], zS (eV V1) J tg) r := fun y1 q => by
            rw [q]
            apply sg_231_70
            rw [eV_up, ← hV2]
            refine ⟨_, _, hx, ?_⟩
            rw [← hn] at hh ⊢
            simp (disch := omega) only [x18, x8, x20, eV_at, eV_up, o_lit2, o_add, o_sub, o_mul, o_neg, o_div, o_nat, ix_t, o_lt, o_le, o_eq, o_bi0, o_bi1, o_bib, em_t, o_neg1, o_shl, o_tb, o_tb0, o_tt, o_and, o_xor, o_or, o_max, o_min, an_tb, and_true, true_and, not_true, not_false, if_true, if_false, tn_add, tn_mul, Int.reduceToNat, tn_cast, md_x]
            rw [← hY]
            exact hh
          apply sg_231_34
          simp (disch := omega) only [h18', h96', v18, eV_at, eV_up, o_lit2, o_add, o_sub, o_mul, o_neg, o_div, o_nat, ix_t, o_lt, o_le, o_eq, o_bi0, o_bi1, o_bib, em_t, o_neg1, o_shl, o_tb, o_tb0, o_tt, o_and, o_xor, o_or, o_max, o_min, an_tb, and_true, true_and, not_true, not_false, if_true, if_false, tn_add, tn_mul, Int.reduceToNat, tn_cast, md_x]
          rw [if_neg (by omega)]
          rcases hyr with ⟨q1, q2⟩ | ⟨q1, q2⟩
          · rw [if_pos (by omega)]
            exact g7 1 q2.symm
          · rw [if_neg (by omega)]
            exact g7 (V1 93 21) (by rw [v1x 21 (by decide), q2])
        by_cases c6 : k = 6
        · have hc1 : hc = -1 := by omega
          obtain ⟨v, W, J2, w1, w2, w3, w4, hr, hres⟩ := m_225 (L := L) (xs := xs) (tg := tg) (d := d + 2) (V := Y) (J := J1) hK (sd := 2) (kd := 6) (hc := (cl.length : Int)) (cl := cl) (cu := []) (F := fl cl) (R := []) (br := 0) (t := 0) (n0 := 0) (by decide) (by decide) (Or.inl rfl) t1 hTY hCY y24 (by rw [y8, c6]) (by decide) (by show (fl cl).length + 0 < _; have := t3 f1; omega) rfl (fun x hx => absurd hx List.not_mem_nil)
          have hstp : sTp b N (p, 0, sd, [], 0, 0, [], cl, kd, hc) = ((lxT b N (en isW b N p), 2, 2, [], 0, 0, [], cl, 6, (cl.length : Int)), 0) := by
            rw [st_0, ← hke]; unfold sCl
            rw [if_neg hk0, if_neg (by omega), if_neg c4, if_neg (by omega), if_pos c6]
          rcases hres with ⟨g0, f, g1, g2, g3⟩ | ⟨g0, p1, cu1, g1, g2, g3, g4, g5, g6, g7, g8, g9, ga, gb⟩
          · refine ⟨v, W, J2, ⟨frY.tr w1.f2, w4, Or.inl ⟨g0, f, g1, g2, Fi_s (s := (p, 0, sd, [], 0, 0, [], cl, kd, hc)) hstp (by show ¬ N ≤ en isW b N p; omega) g3⟩⟩, go _ (ite_p (by omega) ⟨_, _, _, hr, ?_⟩)⟩
            apply sg_231_134
            refine ite_n ?_ rfl
            intro q
            have q : Int32.ofInt v = Int32.ofInt 0 := q
            rw [o_eq (by omega) (by omega)] at q
            exact g0 q
          · rw [g0] at hr
            have hi : ∀ i : Nat, i < cl.length → ((i : Int) = hc ↔ (i : Int) = (cl.length : Int)) := fun i hi => by omega
            obtain ⟨v', W', J', z1, z2⟩ := m_231e (L := L) (xs := xs) (tg := tg) (d := d) hK (s := (p1, 3, 2, [], 0, 0, cu1, cl, 6, (cl.length : Int))) (V := W) (J := J2) (sd := 2) (kd := 6) (hc := (cl.length : Int)) (cl := cl) (cu := cu1) rfl g2 g4 g5 g6 (by rw [w1.2.2 _ (by omega)]; exact yt) (by rw [w1.2.2 _ (by omega), yh1, c6]) (by rw [w1.2.2 _ (by omega)]; exact yh2) (yR.up fun x h1 h2 => w1.2.2 x (by omega)) (by rw [w1.2.1 21 (by omega), y21, ← bi_t (by omega : (cl.length : Int) ≠ -1)]; omega) g8 (by omega) ⟨⟨(show (4 : Int) ≤ 6 ∧ (6 : Int) ≤ 6 by decide), ⟨fun _ => rfl, fun _ => rfl⟩, g9, ga⟩, hH.up hi⟩ (Or.inr ⟨by omega, by omega⟩) (fun q => by
              rw [st_3, q]; unfold fOne
              rw [if_neg (by decide), if_neg (by decide), if_pos (Or.inr rfl)]
              rfl) (fun q => by
              rw [st_3]; unfold fOne
              rw [if_neg g3, if_neg (by decide), if_neg (by omega)])
            refine ⟨v', W', J', ⟨frY.tr (w1.f2.tr z1.1), z1.2.1, ?_⟩, go _ (ite_p (by omega) ⟨_, _, _, hr, z2⟩)⟩
            rcases z1.2.2 with ⟨q0, f, q1, q2, q3⟩ | ⟨q0, p', sd', kd', hc', cl', q1, q2, q3⟩
            · exact Or.inl ⟨q0, f, q1, q2, Fi_s (s := (p, 0, sd, [], 0, 0, [], cl, kd, hc)) hstp (by show ¬ N ≤ en isW b N p; omega) (gb _ q3)⟩
            · exact Or.inr ⟨q0, p', sd', kd', hc', cl', by have := t3 f1; omega, q2, fun r hr => Fi_s (s := (p, 0, sd, [], 0, 0, [], cl, kd, hc)) hstp (by show ¬ N ≤ en isW b N p; omega) (gb _ (q3 r hr))⟩
        · obtain ⟨v, W, J2, ⟨w1, w4, hres⟩, hr⟩ := m_229 (L := L) (xs := xs) (tg := tg) (d := d) (V := Y) (J := J1) hK (sd := sd) (kd := k) (hc := hc) (cl := cl) (F := fl cl) (by omega) t1 hTY hCY y24 y8 (by have := t3 f1; omega)
          have hstp : sTp b N (p, 0, sd, [], 0, 0, [], cl, kd, hc) = ((lxT b N (en isW b N p), 1, sd, [], 0, 0, [], cl, k, hc), 0) := by
            rw [st_0, ← hke]; unfold sCl
            rw [if_neg hk0, if_neg (by omega), if_neg c4, if_neg (by omega), if_neg c6]
          rcases hres with ⟨g0, f, g1, g2, g3⟩ | ⟨g0, p1, cu1, g1, g2, g4, g5, g6, g8, g9, ga, gx, gy, gz, gb⟩
          · refine ⟨v, W, J2, ⟨frY.tr w1.f2, w4, Or.inl ⟨g0, f, g1, g2, Fi_s (s := (p, 0, sd, [], 0, 0, [], cl, kd, hc)) hstp (by show ¬ N ≤ en isW b N p; omega) g3⟩⟩, go _ (ite_n (by omega) ⟨_, _, _, hr, ?_⟩)⟩
            apply sg_231_134
            refine ite_n ?_ rfl
            intro q
            have q : Int32.ofInt v = Int32.ofInt 0 := q
            rw [o_eq (by omega) (by omega)] at q
            exact g0 q
          · rw [g0] at hr
            obtain ⟨v', W', J', z1, z2⟩ := m_231e (L := L) (xs := xs) (tg := tg) (d := d) hK (s := (p1, 4, 1, [], 0, 0, cu1, cl, k, hc)) (V := W) (J := J2) (sd := 1) (kd := k) (hc := hc) (cl := cl) (cu := cu1) rfl g2 g4 g5 g6 (by rw [w1.2.2 _ (by omega)]; exact yt) (by rw [w1.2.2 _ (by omega), yh1]) (by rw [w1.2.2 _ (by omega)]; exact yh2) (yR.up fun x h1 h2 => w1.2.2 x (by omega)) (by rw [w1.2.1 21 (by omega), y21, ← h21]; omega) g8 (by omega) ⟨⟨by show 4 ≤ k ∧ k ≤ 6; omega, by show k = 6 ↔ _; omega, by show _ = some (if k = 6 then _ else _); rw [if_neg c6]; exact g9, ga⟩, hH⟩ (by omega) (fun q => by
              rw [st_4, q]
              rfl) (fun q => by
              rw [st_4]; unfold fAsk
              rw [if_neg (by omega), if_neg (by omega), if_neg (by omega)])
            refine ⟨v', W', J', ⟨frY.tr (w1.f2.tr z1.1), z1.2.1, ?_⟩, go _ (ite_n (by omega) ⟨_, _, _, hr, z2⟩)⟩
            rcases z1.2.2 with ⟨q0, f, q1, q2, q3⟩ | ⟨q0, p', sd', kd', hc', cl', q1, q2, q3⟩
            · exact Or.inl ⟨q0, f, q1, q2, Fi_s (s := (p, 0, sd, [], 0, 0, [], cl, kd, hc)) hstp (by show ¬ N ≤ en isW b N p; omega) (gb _ q3)⟩
            · exact Or.inr ⟨q0, p', sd', kd', hc', cl', by have := t3 f1; omega, q2, fun r hr => Fi_s (s := (p, 0, sd, [], 0, 0, [], cl, kd, hc)) hstp (by show ¬ N ≤ en isW b N p; omega) (gb _ (q3 r hr))⟩
  · rw [if_neg c46] at k30
    obtain ⟨V1, hV1⟩ : ∃ V1, V1 = up2 V 93 8 0 := ⟨_, rfl⟩
    refine ⟨1, V1, J, ⟨⟨fun c h1 _ _ _ => by rw [hV1, w_ne _ _ _ _ h1], fun x hx => by rw [hV1, w_at, if_neg (by omega)], fun x _ => by rw [hV1, w_ne _ _ _ _ (by decide)]⟩, by decide, Or.inl ⟨by decide, en isW b N p, by rw [hV1, w_at, if_neg (by decide)]; exact hT.2.2.1, e2, ?_⟩⟩, ?_⟩
    · refine Fi_f (s := (p, 0, sd, [], 0, 0, [], cl, kd, hc)) ?_ (by decide)
      rw [st_0, ← hke]; unfold sCl
      rw [if_neg hk0, if_pos c46]
    · apply sg_231
      refine ⟨_, _, _, k30, ite_p rfl ?_⟩
      rw [eV_up, ← hV1]
      rfl
/-- all clauses -/
theorem m_232l (hK : K < 4) : ∀ (n p : Nat) (V : Nat → Nat → Int) (J : Nat → Nat → Int64) (sd kd hc : Int) (cl : List (Int × Cd)), N - p < n → BTW V J b N K p cl hc → ∃ (v : Int) (W : Nat → Nat → Int) (J2 : Nat → Nat → Int64), FR2 K V W ∧ (0 ≤ v ∧ v ≤ 6) ∧ Runs (GW L xs) (d + 9) 232 (48, [.ref 93, vU], [], zS (eV V) J tg) (some (Value.int (Int32.ofInt (v))), zS (eV W) J2 tg) ∧ ((v ≠ 0 ∧ ∃ f : Nat, W 93 14 = f ∧ f ≤ N ∧ Fi b N (p, 0, sd, [], 0, 0, [], cl, kd, hc) (v, f, [], 0)) ∨ (v = 0 ∧ ∃ (p' : Nat) (hc' : Int) (cl' : List (Int × Cd)), BTW W J2 b N K p' cl' hc' ∧ Fi b N (p, 0, sd, [], 0, 0, [], cl, kd, hc) (0, 0, cl', hc')))
  | 0, p, V, J, sd, kd, hc, cl, hn, _ => by omega
  | n + 1, p, V, J, sd, kd, hc, cl, hn, hB => by
    have hT := hB.2.1
    obtain ⟨e1, e2, e3, e4⟩ := en_ch (f := isW) (b := b) hB.1
    obtain ⟨w, hw, hcs⟩ := tk_f (b := b) (N := N) (f := en isW b N p)
    have hr15 := rK_rg (b := b) (N := N) (f := en isW b N p) (fun k hk => (hT.1.2.2 k hk).2)
    have k15 : V 93 15 = rK b N (en isW b N p) := hT.2.2.2.1
    by_cases c0 : lxK b N (en isW b N p) = 0
    · refine ⟨0, V, J, ⟨fun _ _ _ _ _ => rfl, fun _ _ => rfl, fun _ _ => rfl⟩, by decide, ?_, Or.inr ⟨rfl, p, hc, cl, hB, ?_⟩⟩
      · apply sg_232_48
        refine ite_p ?_ rfl
        rw [eV_at, k15, show rK b N (en isW b N p) = 0 by omega]; rfl
      · refine Fi_e (s := (p, 0, sd, [], 0, 0, [], cl, kd, hc)) (s' := (lxT b N (en isW b N p), 0, sd, [], 0, 0, [], cl, kd, hc)) ?_ (by show N ≤ en isW b N p; omega)
        rw [st_0]; unfold sCl
        rw [if_pos c0]
    · obtain ⟨v, W, J2, ⟨w1, w2, hres⟩, hr⟩ := m_231 (L := L) (xs := xs) (tg := tg) (d := d) (sd := sd) (kd := kd) hK hB c0
      have start : ∀ r, (if Int32.ofInt v = 0 then Runs (GW L xs) (d + 9) 232 (48, [.ref 93, vU], [], zS (eV W) J2 tg) r else r = (some (Value.int (Int32.ofInt (v))), zS (eV W) J2 tg)) → Runs (GW L xs) (d + 9) 232 (48, [.ref 93, vU], [], zS (eV V) J tg) r := fun r hh => by
        apply sg_232_48
        refine ite_n ?_ ⟨_, _, _, hr, hh⟩
        rw [eV_at, k15]
        intro q
        have q : Int32.ofInt (rK b N (en isW b N p)) = Int32.ofInt 0 := q
        rw [o_eq (by omega) (by omega)] at q
        omega
      rcases hres with ⟨g0, f, g1, g2, g3⟩ | ⟨g0, p', sd', kd', hc', cl', g1, g2, g3⟩
      · refine ⟨v, W, J2, w1, w2, start _ (ite_n ?_ rfl), Or.inl ⟨g0, f, g1, g2, g3⟩⟩
        intro q
        have q : Int32.ofInt v = Int32.ofInt 0 := q
        rw [o_eq (by omega) (by omega)] at q
        exact g0 q
      · have hp' := g2.1
        obtain ⟨v', W', J', z1, z2, z3, z4⟩ := m_232l hK n p' W J2 sd' kd' hc' cl' (by omega) g2
        refine ⟨v', W', J', w1.tr z1, z2, start _ (ite_p (by rw [g0]; rfl) z3), ?_⟩
        rcases z4 with ⟨q0, f, q1, q2, q3⟩ | ⟨q0, p'', hc'', cl'', q1, q2⟩
        · exact Or.inl ⟨q0, f, q1, q2, g3 _ q3⟩
        · exact Or.inr ⟨q0, p'', hc'', cl'', q1, g3 _ q2⟩
theorem m_232 {V : Nat → Nat → Int} {J : Nat → Nat → Int64} (hK : K < 4) (hT : TPR V b N) (h3 : V 94 3 = K) (sd kd : Int) : ∃ (v : Int) (W : Nat → Nat → Int) (J2 : Nat → Nat → Int64), FR2 K V W ∧ (0 ≤ v ∧ v ≤ 6) ∧ Runs (GW L xs) (d + 9) 232 (0, [.ref 93, vU], [], zS (eV (V)) (J) tg) (some (Value.int (Int32.ofInt (v))), zS (eV (W)) (J2) tg) ∧ ((v ≠ 0 ∧ ∃ f : Nat, W 93 14 = f ∧ f ≤ N ∧ Fi b N (0, 0, sd, [], 0, 0, [], [], kd, -1) (v, f, [], 0)) ∨ (v = 0 ∧ ∃ (p' : Nat) (hc' : Int) (cl' : List (Int × Cd)), BTW W J2 b N K p' cl' hc' ∧ Fi b N (0, 0, sd, [], 0, 0, [], [], kd, -1) (0, 0, cl', hc'))) := by
  obtain ⟨X, hX⟩ : ∃ X, X = up2 (up2 (up2 (up2 (up2 (up2 V 93 18 (800 * (K : Int))) 96 (800 * K) 0) 93 20 0) 93 24 0) 93 21 0) 93 13 0 := ⟨_, rfl⟩
  have xc : ∀ c, c ≠ 93 → c ≠ 96 → X c = V c := fun c h1 h2 => by rw [hX, w_ne _ _ _ _ h1, w_ne _ _ _ _ h1, w_ne _ _ _ _ h1, w_ne _ _ _ _ h1, w_ne _ _ _ _ h2, w_ne _ _ _ _ h1]
  have x93 : ∀ x, X 93 x = if x = 13 then 0 else if x = 21 then 0 else if x = 24 then 0 else if x = 20 then 0 else if x = 18 then 800 * (K : Int) else V 93 x := fun x => by rw [hX, w_at, w_at, w_at, w_at, w_ne _ _ _ _ (by decide), w_at]
  have x96 : ∀ x, X 96 x = if x = 800 * K then 0 else V 96 x := fun x => by rw [hX, w_ne _ _ _ _ (by decide), w_ne _ _ _ _ (by decide), w_ne _ _ _ _ (by decide), w_ne _ _ _ _ (by decide), w_at, w_ne _ _ _ _ (by decide)]
  have hTX : TPR X b N := ⟨by rw [x93]; exact hT.1, hT.2.1, fun k hk => by rw [xc 100 (by decide) (by decide)]; exact hT.2.2 k hk⟩
  obtain ⟨Y, J1, y1, y2, y3, y4, y5, y6, y7, hy⟩ := m_213 (L := L) (xs := xs) (J := J) (tg := tg) (d := d + 6) hTX (Nat.zero_le N) rfl (by rw [x93]; rfl)
  have hB : BTW Y J1 b N K 0 [] (-1) := by
    refine ⟨Nat.zero_le _, ⟨⟨by rw [y2 7 (by omega)]; exact hTX.1, hTX.2.1, fun k hk => by rw [y1 100 (by decide)]; exact hTX.2.2 k hk⟩, y3, y4, y5, y6, y7⟩, ⟨?_, ?_, trivial⟩, ?_, ?_, trivial, ?_, Nat.zero_le _, by decide, trivial, Or.inl rfl⟩
    · rw [y2 18 (by omega), x93, if_neg (by decide), if_neg (by decide), if_neg (by decide), if_neg (by decide), if_pos rfl]; omega
    · rw [y2 20 (by omega), x93]; rfl
    · rw [y2 24 (by omega), x93]; rfl
    · rw [y1 96 (by decide), x96, if_pos rfl]; rfl
    · rw [y2 21 (by omega), x93]; rfl
  obtain ⟨v, W, J2, w1, w2, w3, w4⟩ := m_232l (L := L) (xs := xs) (tg := tg) (d := d) (b := b) (N := N) hK (N + 1) 0 Y J1 sd kd (-1) [] (by omega) hB
  refine ⟨v, W, J2, FR2.tr ⟨fun c h1 h2 h3 h4 => by rw [y1 c h1, xc c h1 h2], fun x hx => by rw [y2 x (by omega), x93, if_neg (by omega), if_neg (by omega), if_neg (by omega), if_neg (by omega), if_neg (by omega)], fun x hx => by rw [y1 96 (by decide), x96, if_neg (by omega)]⟩ w1, w2, ?_, w4⟩
  apply sg_232
  simp (disch := omega) only [h3, eV_at, eV_up, o_lit2, o_add, o_sub, o_mul, o_neg, o_div, o_nat, ix_t, o_lt, o_le, o_eq, o_bi0, o_bi1, o_bib, em_t, o_neg1, o_shl, o_tb, o_tb0, o_tt, o_and, o_xor, o_or, o_max, o_min, an_tb, and_true, true_and, not_true, not_false, if_true, if_false, tn_add, tn_mul, Int.reduceToNat, tn_cast, md_x]
  rw [← hX]
  exact ⟨_, _, hy, w3⟩
end LR
