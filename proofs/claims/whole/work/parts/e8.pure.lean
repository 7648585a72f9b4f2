/-! Clauses in the reference. -/
def RCl (E : Nat → Int) (t : Nat) : List (Int × Cd) → Prop
  | [] => True
  | c :: l => (E (t + 1 + 3 * l.length) = c.1 - 3 ∧ E (t + 2 + 3 * l.length) = ((fl l).length : Nat) ∧ E (t + 3 + 3 * l.length) = ((fl (c :: l)).length : Nat)) ∧ RCl E t l
theorem RCl.up {A B : Nat → Int} {t : Nat} : ∀ {l : List (Int × Cd)}, RCl A t l → (∀ x, t < x → x < t + 1 + 3 * l.length → B x = A x) → RCl B t l
  | [], _, _ => trivial
  | c :: l, h, e => by
    rw [List.length_cons] at e
    refine ⟨?_, RCl.up h.2 fun x h1 h2 => e x h1 (by omega)⟩
    rw [e _ (by omega) (by omega), e _ (by omega) (by omega), e _ (by omega) (by omega)]
    exact h.1
/-- clauses are well put; the one of harm has number hc -/
def HCl (hc : Int) : List (Int × Cd) → Prop
  | [] => True
  | c :: l => ((4 ≤ c.1 ∧ c.1 ≤ 6) ∧ (c.1 = 6 ↔ (l.length : Int) = hc) ∧ tyL c.2 = some (if c.1 = 6 then (0, 1) else (1, 0)) ∧ ∀ x ∈ c.2, okc c.1 x) ∧ HCl hc l
theorem HCl.up {hc hc' : Int} : ∀ {l : List (Int × Cd)}, HCl hc l → (∀ i : Nat, i < l.length → ((i : Int) = hc ↔ (i : Int) = hc')) → HCl hc' l
  | [], _, _ => trivial
  | c :: l, h, e => by
    rw [List.length_cons] at e
    refine ⟨⟨h.1.1, ?_, h.1.2.2⟩, HCl.up h.2 fun i hi => e i (by omega)⟩
    rw [h.1.2.1]
    exact e _ (by omega)
def FR2 (K : Nat) (V W : Nat → Nat → Int) : Prop := (∀ c, c ≠ 93 → c ≠ 96 → c ≠ 101 → c ≠ 102 → W c = V c) ∧ (∀ x, x ≤ 7 ∨ x = 9 ∨ x = 11 ∨ x = 12 → W 93 x = V 93 x) ∧ ∀ x, x < 800 * K → W 96 x = V 96 x
theorem FR2.tr {K : Nat} {U V W : Nat → Nat → Int} (h : FR2 K U V) (k : FR2 K V W) : FR2 K U W := ⟨fun c h1 h2 h3 h4 => (k.1 c h1 h2 h3 h4).trans (h.1 c h1 h2 h3 h4), fun x hx => (k.2.1 x hx).trans (h.2.1 x hx), fun x hx => (k.2.2 x hx).trans (h.2.2 x hx)⟩
theorem FRR.f2 {K : Nat} {V W : Nat → Nat → Int} (h : FRR K V W) : FR2 K V W := ⟨h.1, fun x hx => h.2.1 x (by omega), fun x hx => h.2.2 x (by omega)⟩
/-- the reference stands between clauses -/
abbrev BTW (V : Nat → Nat → Int) (J : Nat → Nat → Int64) (b : Nat → Int) (N K p : Nat) (cl : List (Int × Cd)) (hc : Int) : Prop := p ≤ N ∧ TKS V J b N p ∧ CDS V K (fl cl) ∧ V 93 24 = 0 ∧ V 96 (800 * K) = (cl.length : Nat) ∧ RCl (V 96) (800 * K) cl ∧ V 93 21 = bi (hc ≠ -1) ∧ (fl cl).length ≤ p ∧ cl.length ≤ 10 ∧ HCl hc cl ∧ (hc = -1 ∨ (0 ≤ hc ∧ hc < (cl.length : Nat)))
/-- a clause came to its end, or to a fault -/
abbrev CLo (b : Nat → Int) (N K : Nat) (V : Nat → Nat → Int) (p : Nat) (s : PMt) (v : Int) (W : Nat → Nat → Int) (J2 : Nat → Nat → Int64) : Prop := FR2 K V W ∧ (0 ≤ v ∧ v ≤ 6) ∧ ((v ≠ 0 ∧ ∃ f : Nat, W 93 14 = f ∧ f ≤ N ∧ Fi b N s (v, f, [], 0)) ∨ (v = 0 ∧ ∃ (p' : Nat) (sd' kd' hc' : Int) (cl' : List (Int × Cd)), p < p' ∧ BTW W J2 b N K p' cl' hc' ∧ ∀ r, Fi b N (p', 0, sd', [], 0, 0, [], cl', kd', hc') r → Fi b N s r))
section LR
variable {L d : Nat} {xs : Nat → Int32} {tg : Option Nat} {b : Nat → Int} {N K : Nat}
theorem m_231e (hK : K < 4) {p : Nat} {V : Nat → Nat → Int} {J : Nat → Nat → Int64} {sd kd hc : Int} {cl : List (Int × Cd)} {cu : Cd} {s : PMt} (hs1 : s.1 = p) (hp : p ≤ N) (hT : TKS V J b N p) (hC : CDS V K (cu ++ fl cl)) (h24 : V 93 24 = 0) (h96 : V 96 (800 * K) = (cl.length : Nat)) (hh1 : V 96 (800 * K + 1 + 3 * cl.length) = kd - 3) (hh2 : V 96 (800 * K + 2 + 3 * cl.length) = ((fl cl).length : Nat)) (hRC : RCl (V 96) (800 * K) cl) (h21 : V 93 21 = bi (hc ≠ -1)) (hlen : (cu ++ fl cl).length < p) (hcl : cl.length < 10) (hH : HCl hc ((kd, cu) :: cl)) (hhc : hc = -1 ∨ (0 ≤ hc ∧ hc < (cl.length + 1 : Nat))) (hs20 : lxK b N (en isW b N p) = 20 → sTp b N s = ((lxT b N (en isW b N p), 0, sd, [], 0, 0, [], (kd, cu) :: cl, kd, hc), 0)) (hsn : lxK b N (en isW b N p) ≠ 20 → (sTp b N s).2 = 1) : ∃ (v : Int) (W : Nat → Nat → Int) (J2 : Nat → Nat → Int64), CLo b N K V p s v W J2 ∧ Runs (GW L xs) (d + 8) 231 (134, [.ref 93, (Value.int (Int32.ofInt ((cl.length : Nat)))), vU], [.int 0], zS (eV V) J tg) (some (Value.int (Int32.ofInt (v))), zS (eV W) J2 tg) := by
  obtain ⟨e1, e2, e3, e4⟩ := en_ch (f := isW) (b := b) hp
  have hN : N ≤ 300 := hT.1.2.1
  obtain ⟨t1, t2, t3⟩ := lxT_le (b := b) e2
  obtain ⟨w, hw, hcs⟩ := tk_f (b := b) (N := N) (f := en isW b N p)
  have hr15 := rK_rg (b := b) (N := N) (f := en isW b N p) (fun k hk => (hT.1.2.2 k hk).2)
  have k15 : V 93 15 = rK b N (en isW b N p) := hT.2.2.2.1
  obtain ⟨h18, h20, hS⟩ := hC
  obtain ⟨n, hn⟩ : ∃ n, n = cl.length := ⟨_, rfl⟩
  obtain ⟨m, hm⟩ : ∃ m, m = (cu ++ fl cl).length := ⟨_, rfl⟩
  rw [← hn] at h96 hh1 hh2 hcl hhc ⊢
  rw [← hm] at h20 hlen
  obtain ⟨X, hX⟩ : ∃ X, X = up2 (up2 V 96 (800 * K + 3 + 3 * n) (m : Int)) 96 (800 * K) ((n : Int) + 1) := ⟨_, rfl⟩
  have xc : ∀ c, c ≠ 96 → X c = V c := fun c h1 => by rw [hX, w_ne _ _ _ _ h1, w_ne _ _ _ _ h1]
  have x96 : ∀ x, X 96 x = if x = 800 * K then (n : Int) + 1 else if x = 800 * K + 3 + 3 * n then (m : Int) else V 96 x := fun x => by rw [hX, w_at, w_at]
  have hTX : TKS X J b N p := hT.up (by rw [xc 93 (by decide)]) (fun x h1 h2 => by rw [xc 93 (by decide)]) (xc 100 (by decide))
  have start : ∀ r, (if rK b N (en isW b N p) = 59 then (∃ (I1 : Nat → Nat → Int32) (J2 : Nat → Nat → Int64), Runs (GW L xs) (d + 7) 213 (0, [.ref 93, vU, vU], [], zS (eV X) J tg) (none, zS I1 J2 tg) ∧ r = (some (Value.int (Int32.ofInt 0)), zS I1 J2 tg)) else r = (some (Value.int (Int32.ofInt 1)), zS (eV X) J tg)) → Runs (GW L xs) (d + 8) 231 (134, [.ref 93, (Value.int (Int32.ofInt ((n : Nat)))), vU], [.int 0], zS (eV V) J tg) r := fun r hh => by
    apply sg_231_134
    refine ite_p rfl ?_
    simp (disch := omega) only [w_ne2, k15, h18, h20, h96, eV_at, eV_up, o_lit2, o_add, o_sub, o_mul, o_neg, o_div, o_nat, ix_t, o_lt, o_le, o_eq, o_bi0, o_bi1, o_bib, em_t, o_neg1, o_shl, o_tb, o_tb0, o_tt, o_and, o_xor, o_or, o_max, o_min, an_tb, and_true, true_and, not_true, not_false, if_true, if_false, tn_add, tn_mul, Int.reduceToNat, tn_cast, md_x]
    rw [← hX]
    exact hh
  by_cases c20 : lxK b N (en isW b N p) = 20
  · have f1 : en isW b N p < N := by omega
    obtain ⟨Y, J2, y1, y2, y3, hy⟩ := m_213T (L := L) (xs := xs) (tg := tg) (d := d + 5) hTX hp
    have y96 : Y 96 = X 96 := y1 96 (by decide)
    refine ⟨0, Y, J2, ⟨⟨fun c h1 h2 h3 h4 => by rw [y1 c h1, xc c h2], fun x hx => by rw [y2 x (by omega), xc 93 (by decide)], fun x hx => by rw [y96, x96, if_neg (by omega), if_neg (by omega)]⟩, by decide, Or.inr ⟨rfl, lxT b N (en isW b N p), sd, kd, hc, (kd, cu) :: cl, by have := t3 f1; omega, ⟨t1, y3, ⟨by rw [y2 18 (by omega), xc 93 (by decide)]; exact h18, ?_, ?_⟩, by rw [y2 24 (by omega), xc 93 (by decide)]; exact h24, ?_, ?_, by rw [y2 21 (by omega), xc 93 (by decide)]; exact h21, ?_, ?_, hH, ?_⟩, fun r hr => ?_⟩⟩, start _ (ite_p (by omega) ⟨_, _, hy, rfl⟩)⟩
    · show Y 93 20 = ((cu ++ fl cl).length : Nat)
      rw [y2 20 (by omega), xc 93 (by decide), h20, hm]
    · show Sk2 (Y 96) (800 * K + 50) (cu ++ fl cl)
      refine hS.up fun k h1 h2 => ?_
      rw [y96, x96, if_neg (by omega), if_neg (by omega)]
    · rw [y96, x96, if_pos rfl, List.length_cons, ← hn]; omega
    · refine ⟨⟨?_, ?_, ?_⟩, hRC.up fun x h1 h2 => by rw [y96, x96, if_neg (by omega), if_neg (by omega)]⟩
      · rw [← hn, y96, x96, if_neg (by omega), if_neg (by omega)]; exact hh1
      · rw [← hn, y96, x96, if_neg (by omega), if_neg (by omega)]; exact hh2
      · rw [← hn, y96, x96, if_neg (by omega), if_pos rfl, hm]; rfl
    · show (cu ++ fl cl).length ≤ _
      have := t3 f1; omega
    · rw [List.length_cons]; omega
    · rw [List.length_cons, ← hn]; exact hhc
    · exact Fi_s (hs20 c20) (by rw [hs1]; omega) hr
  · refine ⟨1, X, J, ⟨⟨fun c h1 h2 h3 h4 => xc c h2, fun x hx => by rw [xc 93 (by decide)], fun x hx => by rw [x96, if_neg (by omega), if_neg (by omega)]⟩, by decide, Or.inl ⟨by decide, en isW b N p, by rw [xc 93 (by decide)]; exact hT.2.2.1, e2, ?_⟩⟩, start _ (ite_n (by omega) rfl)⟩
    have q := Fi_f (hsn c20) (by decide : (1 : Int) ≠ 0)
    rw [hs1] at q
    exact q
theorem CLo.tr {V U W : Nat → Nat → Int} {J2 : Nat → Nat → Int64} {p q : Nat} {s s' : PMt} {v : Int} (h : CLo b N K U q s' v W J2) (hf : FR2 K V U) (hp : p ≤ q) (hs : ∀ r, Fi b N s' r → Fi b N s r) : CLo b N K V p s v W J2 := by
  obtain ⟨h1, h2, h3⟩ := h
  refine ⟨hf.tr h1, h2, ?_⟩
  rcases h3 with ⟨y0, f, y1, y2, y3⟩ | ⟨y0, p', sd', kd', hc', cl', y1, y2, y3⟩
  · exact Or.inl ⟨y0, f, y1, y2, hs _ y3⟩
  · exact Or.inr ⟨y0, p', sd', kd', hc', cl', Nat.lt_of_le_of_lt hp y1, y2, fun r hr => hs r (y3 r hr)⟩
theorem v_ne {v : Int} (hv : 0 ≤ v ∧ v ≤ 6) (h : v ≠ 0) : ¬ Int32.ofInt v = 0 := by
  intro q
  have q : Int32.ofInt v = Int32.ofInt 0 := q
  rw [o_eq (by omega) (by omega)] at q
  exact h q
theorem m_231h (hK : K < 4) {T : Nat} {Y : Nat → Nat → Int} {J1 : Nat → Nat → Int64} {cl : List (Int × Cd)} (hT : T ≤ N) (hTY : TKS Y J1 b N T) (hCY : CDS Y K (fl cl)) (y24 : Y 93 24 = 0) (y8 : Y 93 8 = 3) (yt : Y 96 (800 * K) = (cl.length : Nat)) (yh1 : Y 96 (800 * K + 1 + 3 * cl.length) = 3) (yh2 : Y 96 (800 * K + 2 + 3 * cl.length) = ((fl cl).length : Nat)) (yR : RCl (Y 96) (800 * K) cl) (y21 : Y 93 21 = 1) (hlen : (fl cl).length < T) (hcl : cl.length < 10) (hH : HCl (-1) cl) : ∃ (v : Int) (W : Nat → Nat → Int) (J2 : Nat → Nat → Int64), CLo b N K Y T (T, 2, 2, [], 0, 0, [], cl, 6, (cl.length : Int)) v W J2 ∧ ∃ (v3 : Int32) (I4 : Nat → Nat → Int32) (J5 : Nat → Nat → Int64), Runs (GW L xs) (d + 7) 225 (0, [.ref 93, vU], [], zS (eV Y) J1 tg) (some (.int v3), zS I4 J5 tg) ∧ Runs (GW L xs) (d + 8) 231 (134, [.ref 93, (Value.int (Int32.ofInt ((cl.length : Nat)))), vU], [.int v3], zS I4 J5 tg) (some (Value.int (Int32.ofInt (v))), zS (eV W) J2 tg) := by
  have i1 : 800 * K < 800 * K + 50 := by omega
  have i2 : 800 * K + 1 + 3 * cl.length < 800 * K + 50 := by omega
  have i3 : 800 * K + 2 + 3 * cl.length < 800 * K + 50 := by omega
  have hi : ∀ i : Nat, i < cl.length → ((i : Int) = -1 ↔ (i : Int) = (cl.length : Int)) := fun i hi => by omega
  have hn1 : (cl.length : Int) ≠ -1 := by omega
  have hrg : (cl.length : Int) = -1 ∨ (0 ≤ (cl.length : Int) ∧ (cl.length : Int) < (cl.length + 1 : Nat)) := Or.inr ⟨by omega, by omega⟩
  have iR : ∀ x, 800 * K < x → x < 800 * K + 1 + 3 * cl.length → x < 800 * K + 50 := fun x h1 h2 => by omega
  obtain ⟨v, W, J2, w1, w2, w3, w4, hr, hres⟩ := m_225 (L := L) (xs := xs) (tg := tg) (d := d + 2) (V := Y) (J := J1) hK (sd := 2) (kd := 6) (hc := (cl.length : Int)) (cl := cl) (cu := []) (F := fl cl) (R := []) (br := 0) (t := 0) (n0 := 0) (by decide) (by decide) (Or.inl rfl) hT hTY hCY y24 y8 (by decide) hlen rfl (fun x hx => absurd hx List.not_mem_nil)
  rcases hres with ⟨g0, f, g1, g2, g3⟩ | ⟨g0, p1, cu1, g1, g2, g3, g4, g5, g6, g7, g8, g9, ga, gb⟩
  · refine ⟨v, W, J2, ⟨w1.f2, w4, Or.inl ⟨g0, f, g1, g2, g3⟩⟩, _, _, _, hr, ?_⟩
    apply sg_231_134
    exact ite_n (v_ne w4 g0) rfl
  · rw [g0] at hr
    have hs20 : lxK b N (en isW b N p1) = 20 → sTp b N (p1, 3, 2, [], 0, 0, cu1, cl, 6, (cl.length : Int)) = ((lxT b N (en isW b N p1), 0, 2, [], 0, 0, [], (6, cu1) :: cl, 6, (cl.length : Int)), 0) := fun q => by
      rw [st_3, q]; unfold fOne
      rw [if_neg (by decide), if_neg (by decide), if_pos (Or.inr rfl)]
      rfl
    have hsn : lxK b N (en isW b N p1) ≠ 20 → (sTp b N (p1, 3, 2, [], 0, 0, cu1, cl, 6, (cl.length : Int))).2 = 1 := fun q => by
      rw [st_3]; unfold fOne
      rw [if_neg g3, if_neg (by decide), if_neg (fun z => z.elim (fun y => absurd y (by decide)) q)]
    obtain ⟨v', W', J', z1, z2⟩ := m_231e (L := L) (xs := xs) (tg := tg) (d := d) hK (s := (p1, 3, 2, [], 0, 0, cu1, cl, 6, (cl.length : Int))) (V := W) (J := J2) (sd := 2) (kd := 6) (hc := (cl.length : Int)) (cl := cl) (cu := cu1) rfl g2 g4 g5 g6 (by rw [w1.2.2 _ i1]; exact yt) (by rw [w1.2.2 _ i2]; exact yh1) (by rw [w1.2.2 _ i3]; exact yh2) (yR.up fun x h1 h2 => w1.2.2 x (iR x h1 h2)) (by rw [w1.2.1 21 (by decide), y21]; exact bi_t hn1) g8 hcl ⟨⟨(show (4 : Int) ≤ 6 ∧ (6 : Int) ≤ 6 by decide), ⟨fun _ => rfl, fun _ => rfl⟩, g9, ga⟩, hH.up hi⟩ hrg hs20 hsn
    exact ⟨v', W', J', z1.tr w1.f2 g1 gb, _, _, _, hr, z2⟩
theorem m_231a (hK : K < 4) {T : Nat} {Y : Nat → Nat → Int} {J1 : Nat → Nat → Int64} {cl : List (Int × Cd)} {k sd hc : Int} (hk : 4 ≤ k ∧ k ≤ 5) (hT : T ≤ N) (hTY : TKS Y J1 b N T) (hCY : CDS Y K (fl cl)) (y24 : Y 93 24 = 0) (y8 : Y 93 8 = k - 3) (yt : Y 96 (800 * K) = (cl.length : Nat)) (yh1 : Y 96 (800 * K + 1 + 3 * cl.length) = k - 3) (yh2 : Y 96 (800 * K + 2 + 3 * cl.length) = ((fl cl).length : Nat)) (yR : RCl (Y 96) (800 * K) cl) (y21 : Y 93 21 = bi (hc ≠ -1)) (hlen : (fl cl).length < T) (hcl : cl.length < 10) (hH : HCl hc cl) (hhc : hc = -1 ∨ (0 ≤ hc ∧ hc < (cl.length : Nat))) : ∃ (v : Int) (W : Nat → Nat → Int) (J2 : Nat → Nat → Int64), CLo b N K Y T (T, 1, sd, [], 0, 0, [], cl, k, hc) v W J2 ∧ ∃ (v3 : Int32) (I4 : Nat → Nat → Int32) (J5 : Nat → Nat → Int64), Runs (GW L xs) (d + 7) 229 (0, [.ref 93, vU, vU, vU, vU], [], zS (eV Y) J1 tg) (some (.int v3), zS I4 J5 tg) ∧ Runs (GW L xs) (d + 8) 231 (134, [.ref 93, (Value.int (Int32.ofInt ((cl.length : Nat)))), vU], [.int v3], zS I4 J5 tg) (some (Value.int (Int32.ofInt (v))), zS (eV W) J2 tg) := by
  have i1 : 800 * K < 800 * K + 50 := by omega
  have i2 : 800 * K + 1 + 3 * cl.length < 800 * K + 50 := by omega
  have i3 : 800 * K + 2 + 3 * cl.length < 800 * K + 50 := by omega
  have iR : ∀ x, 800 * K < x → x < 800 * K + 1 + 3 * cl.length → x < 800 * K + 50 := fun x h1 h2 => by omega
  have k46 : 4 ≤ k ∧ k ≤ 6 := by omega
  have k6 : ¬ k = 6 := by omega
  have kiff : k = 6 ↔ (cl.length : Int) = hc := by omega
  have hrg : hc = -1 ∨ (0 ≤ hc ∧ hc < (cl.length + 1 : Nat)) := by omega
  obtain ⟨v, W, J2, ⟨w1, w4, hres⟩, hr⟩ := m_229 (L := L) (xs := xs) (tg := tg) (d := d) (V := Y) (J := J1) hK (sd := sd) (kd := k) (hc := hc) (cl := cl) (F := fl cl) hk hT hTY hCY y24 y8 hlen
  rcases hres with ⟨g0, f, g1, g2, g3⟩ | ⟨g0, p1, cu1, g1, g2, g4, g5, g6, g8, g9, ga, gx, gy, gz, gb⟩
  · refine ⟨v, W, J2, ⟨w1.f2, w4, Or.inl ⟨g0, f, g1, g2, g3⟩⟩, _, _, _, hr, ?_⟩
    apply sg_231_134
    exact ite_n (v_ne w4 g0) rfl
  · rw [g0] at hr
    have hs20 : lxK b N (en isW b N p1) = 20 → sTp b N (p1, 4, 1, [], 0, 0, cu1, cl, k, hc) = ((lxT b N (en isW b N p1), 0, 1, [], 0, 0, [], (k, cu1) :: cl, k, hc), 0) := fun q => by
      rw [st_4, q]; unfold fAsk
      rw [if_neg (by decide), if_neg (by decide), if_pos (by decide)]
      rfl
    have hsn : lxK b N (en isW b N p1) ≠ 20 → (sTp b N (p1, 4, 1, [], 0, 0, cu1, cl, k, hc)).2 = 1 := fun q => by
      rw [st_4]; unfold fAsk
      rw [if_neg (fun z => z.elim gx gy), if_neg (fun z => gz z.1), if_neg (fun z => q z.1)]
    obtain ⟨v', W', J', z1, z2⟩ := m_231e (L := L) (xs := xs) (tg := tg) (d := d) hK (s := (p1, 4, 1, [], 0, 0, cu1, cl, k, hc)) (V := W) (J := J2) (sd := 1) (kd := k) (hc := hc) (cl := cl) (cu := cu1) rfl g2 g4 g5 g6 (by rw [w1.2.2 _ i1]; exact yt) (by rw [w1.2.2 _ i2]; exact yh1) (by rw [w1.2.2 _ i3]; exact yh2) (yR.up fun x h1 h2 => w1.2.2 x (iR x h1 h2)) (by rw [w1.2.1 21 (by decide)]; exact y21) g8 hcl ⟨⟨k46, kiff, (by show _ = some (if k = 6 then _ else _); rw [if_neg k6]; exact g9), ga⟩, hH⟩ hrg hs20 hsn
    exact ⟨v', W', J', z1.tr w1.f2 g1 gb, _, _, _, hr, z2⟩
end LR
