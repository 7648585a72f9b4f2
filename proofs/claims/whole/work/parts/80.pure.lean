/-! measure, between, forget; fill. -/
theorem Runs.aln {g : PG} {mid pc c : Nat} {L S : List Value} {z : SS} (hg : g.1 mid pc = some (.arraylength, 1)) (hc : c < z.1) (hk : 100 ≤ (z.2.2.1 c).1) : step g mid (pc, L, .ref c :: S, z) = some (.inl (pc + 1, L, .int (nI (z.2.2.1 c).2) :: S, z)) := by
  have h : c < z.1 ∧ 100 ≤ (z.2.2.1 c).1 := ⟨hc, hk⟩
  simp only [step, hg, exec1, if_pos h]; rfl
theorem o_nI (n : Nat) : nI n = Int32.ofInt (n : Int) := rfl
/-- an array filled -/
def flV (V : Nat → Nat → Int) (c n : Nat) (v : Int) : Nat → Nat → Int := fun c' => if c' = c then (fun j => if j < n then v else V c j) else V c'
theorem flV_ne {V : Nat → Nat → Int} {c n : Nat} {v : Int} {c' : Nat} (h : c' ≠ c) : flV V c n v c' = V c' := if_neg h
theorem flV_at {V : Nat → Nat → Int} {c n : Nat} {v : Int} {j : Nat} : flV V c n v c j = if j < n then v else V c j := by simp [flV]
theorem flV_z (V : Nat → Nat → Int) (c : Nat) (v : Int) : flV V c 0 v = V := by
  funext c'
  unfold flV
  split
  · rename_i e; subst e; funext j; simp
  · rfl
theorem flV_s (V : Nat → Nat → Int) (c n : Nat) (v : Int) : up2 (flV V c n v) c n v = flV V c (n + 1) v := by
  funext c' j
  unfold up2 flV
  split
  · rename_i e; subst e
    dsimp only
    simp only [if_true]
    split
    · rename_i e; subst e; simp
    · split
      · rw [if_pos (by omega)]
      · rw [if_neg (by omega)]
  · rfl
theorem k_301 {L d : Nat} {xs : Nat → Int32} {V : Nat → Nat → Int} {J : Nat → Nat → Int64} {tg : Option Nat} {c n : Nat} (hc : c < 114) (hk : KW c = (100, n)) (hn : n < 10000) (v : Int) : Runs (GW L xs) (d) 301 (0, [.ref c, (Value.int (Int32.ofInt (v))), vU, vU], [], zS (eV (V)) J tg) (none, zS (eV (flV V c n v)) J tg) := by
  have hk1 : ((zS (eV V) J tg).2.2.1 c).1 = 100 := by show (KW c).1 = 100; rw [hk]
  have hk2 : ((zS (eV V) J tg).2.2.1 c).2 = n := by show (KW c).2 = n; rw [hk]
  refine Runs.sN 3 (c' := (3, [.ref c, (Value.int (Int32.ofInt (v))), .int 0, vU], [.ref c], zS (eV V) J tg)) rfl ?_
  refine Runs.to (c' := (4, [.ref c, (Value.int (Int32.ofInt (v))), .int 0, vU], [.int (nI ((zS (eV V) J tg).2.2.1 c).2)], zS (eV V) J tg)) (Runs.aln rfl hc (by rw [hk1]; decide)) ?_
  rw [hk2, o_nI]
  refine Runs.sN 1 (c' := (5, [.ref c, (Value.int (Int32.ofInt (v))), (Value.int (Int32.ofInt ((0 : Nat)))), (Value.int (Int32.ofInt (n)))], [], zS (eV V) J tg)) rfl ?_
  obtain ⟨_, _, hr⟩ := loopN (g := GW L xs) (d := d) (mid := 301) (σ := Unit) (fun i _ => (5, [.ref c, (Value.int (Int32.ofInt (v))), (Value.int (Int32.ofInt (i))), (Value.int (Int32.ofInt (n)))], [], zS (eV (flV V c i v)) J tg)) (fun _ _ => True) n (by
    intro i _ hi _
    refine ⟨(), trivial, fun r hr => ?_⟩
    refine Runs.sN 2 (c' := (7, [.ref c, (Value.int (Int32.ofInt (v))), (Value.int (Int32.ofInt (i))), (Value.int (Int32.ofInt (n)))], [(Value.int (Int32.ofInt (n))), (Value.int (Int32.ofInt (i)))], zS (eV (flV V c i v)) J tg)) rfl ?_
    refine Runs.brF (P := Int32.ofInt (n : Int) ≤ Int32.ofInt (i : Int)) (a := 20) (b := 10) (L := [.ref c, (Value.int (Int32.ofInt (v))), (Value.int (Int32.ofInt (i))), (Value.int (Int32.ofInt (n)))]) (S := []) (z := zS (eV (flV V c i v)) J tg) rfl (by rw [o_le (by omega) (by omega)]; omega) ?_
    refine Runs.sN 3 (c' := (13, [.ref c, (Value.int (Int32.ofInt (v))), (Value.int (Int32.ofInt (i))), (Value.int (Int32.ofInt (n)))], [(Value.int (Int32.ofInt (v))), (Value.int (Int32.ofInt (i))), .ref c], zS (eV (flV V c i v)) J tg)) rfl ?_
    refine Runs.to (c' := (14, [.ref c, (Value.int (Int32.ofInt (v))), (Value.int (Int32.ofInt (i))), (Value.int (Int32.ofInt (n)))], [], zS (eV (flV V c (i + 1) v)) J tg)) ?_ ?_
    · have := Runs.ist (g := GW L xs) (mid := 301) (pc := 13) (L := [.ref c, (Value.int (Int32.ofInt (v))), (Value.int (Int32.ofInt (i))), (Value.int (Int32.ofInt (n)))]) (S := []) (z := zS (eV (flV V c i v)) J tg) (c := c) (j := Int32.ofInt (i : Int)) (x := Int32.ofInt v) rfl hc (by show (KW c).1 = 100; rw [hk]) (by
        show ¬ (_ ∨ (KW c).2 ≤ _)
        rw [hk, o_nat (by omega), show (0 : Int32) = Int32.ofInt 0 from rfl, o_lt (by omega) (by omega)]
        simp; omega)
      rw [o_nat (by omega), tn_cast] at this
      rw [this]
      show some (Sum.inl (14, _, _, zS (up2 (eV (flV V c i v)) c i (Int32.ofInt v)) J tg)) = _
      rw [eV_up, flV_s]
    · refine Runs.sN 2 (c' := (5, [.ref c, (Value.int (Int32.ofInt (v))), (Value.int (Int32.ofInt ((i + 1 : Nat)))), (Value.int (Int32.ofInt (n)))], [], zS (eV (flV V c (i + 1) v)) J tg)) ?_ hr
      have e : Int32.ofInt ((i + 1 : Nat) : Int) = Int32.ofInt (i : Int) + 1 := by rw [show (1 : Int32) = Int32.ofInt 1 from rfl, o_add]; rfl
      rw [e]; rfl) n 0 () (by omega) trivial
  rw [flV_z] at hr
  refine hr _ ?_
  refine Runs.sN 2 (c' := (7, [.ref c, (Value.int (Int32.ofInt (v))), (Value.int (Int32.ofInt (n))), (Value.int (Int32.ofInt (n)))], [(Value.int (Int32.ofInt (n))), (Value.int (Int32.ofInt (n)))], zS (eV (flV V c n v)) J tg)) rfl ?_
  refine Runs.brT (P := Int32.ofInt (n : Int) ≤ Int32.ofInt (n : Int)) (a := 20) (b := 10) (L := [.ref c, (Value.int (Int32.ofInt (v))), (Value.int (Int32.ofInt (n))), (Value.int (Int32.ofInt (n)))]) (S := []) (z := zS (eV (flV V c n v)) J tg) rfl (by rw [o_le (by omega) (by omega)]; omega) ?_
  exact Runs.rt rfl
def gF (V : Nat → Nat → Int) (p q : Nat → Int) (i j : Nat) : Int := gpr (V 1 4) (okF p q) (csF (V 1 2) (V 1 3) p q) i j
/-- FAR from n PARTS p of a colour to a LOOK -/
def FARp (V : Nat → Nat → Int) (n : Nat) (p : Nat → Int) (cp : Int) (l : Nat) : Int := V 1 4 * (n + V 3 l) - GN (gF V p (lkc V l)) (V 3 l).toNat n (2 ^ (V 3 l).toNat - 1) + (if cp = V 4 l then 0 else V 1 5)
def FAR (V : Nat → Nat → Int) (a b : Nat) : Int := FARp V (V 3 a).toNat (lkc V a) (V 4 a) b
theorem GN_rg {g : Nat → Nat → Int} {m : Nat} (h : ∀ i j, 0 ≤ g i j ∧ g i j ≤ 198) : ∀ i T, 0 ≤ GN g m i T ∧ GN g m i T ≤ 198 * i
  | 0, T => by simp [GN]
  | i + 1, T => by
    have h1 := GN_rg (m := m) h i T
    have h0 : GN g m (i + 1) T = gst T (g i) (GN g m i) m (GN g m i T) := rfl
    have h2 := @gst_acc T (g i) (GN g m i) m (GN g m i T)
    have h3 : gst T (g i) (GN g m i) m (GN g m i T) ≤ 198 * ((i + 1 : Nat) : Int) := by
      rw [gst_le]
      refine ⟨by omega, fun j _ _ => ?_⟩
      have := GN_rg (m := m) h i (T ^^^ 2 ^ j)
      have := h i j
      omega
    rw [h0]
    omega
theorem g1_fr {V W : Nat → Nat → Int} (e1 : W 1 = V 1) : g1 W = g1 V := by
  funext p q j; unfold g1; rw [e1]
theorem lkc_fr {V W : Nat → Nat → Int} (e2 : W 2 = V 2) : lkc W = lkc V := by
  funext l j; unfold lkc; rw [e2]
theorem FARp_fr {V W : Nat → Nat → Int} (e1 : W 1 = V 1) (e2 : W 2 = V 2) (e3 : W 3 = V 3) (e4 : W 4 = V 4) : FARp W = FARp V := by
  have : gF W = gF V := by funext p q i j; unfold gF; rw [e1]
  funext n p cp l; unfold FARp; rw [e1, e3, e4, lkc_fr e2, this]
theorem FAR_fr {V W : Nat → Nat → Int} (e1 : W 1 = V 1) (e2 : W 2 = V 2) (e3 : W 3 = V 3) (e4 : W 4 = V 4) : FAR W = FAR V := by
  funext a b; unfold FAR; rw [FARp_fr e1 e2 e3 e4, e3, e4, lkc_fr e2]
theorem gF_rg {V : Nat → Nat → Int} (hR : RNG V) (p q : Nat → Int) (i j : Nat) : 0 ≤ gF V p q i j ∧ gF V p q i j ≤ 198 := g1_rg hR (p := p i) q j
theorem FARp_rg {V : Nat → Nat → Int} (hR : RNG V) {n : Nat} (hn : n ≤ 6) (p : Nat → Int) (cp : Int) (l : Nat) : -1188 ≤ FARp V n p cp l ∧ FARp V n p cp l ≤ 1287 := by
  have h3 : 0 ≤ V 3 l ∧ V 3 l ≤ 6 := hR 3 l (by decide) (by decide)
  have w4 : 0 ≤ V 1 4 ∧ V 1 4 ≤ 99 := hR 1 4 (by decide) (by decide)
  have w5 : 0 ≤ V 1 5 ∧ V 1 5 ≤ 99 := hR 1 5 (by decide) (by decide)
  have hm := mul_rg w4 (b := n + V 3 l) (n := 12) (by omega)
  have hg := GN_rg (m := (V 3 l).toNat) (gF_rg hR p (lkc V l)) n (2 ^ (V 3 l).toNat - 1)
  unfold FARp
  split <;> omega
theorem k_63_2 {L d : Nat} {xs : Nat → Int32} {V : Nat → Nat → Int} {J : Nat → Nat → Int64} {tg : Option Nat} (hR : RNG V) {l f n : Nat} (hl : l < 24) (hn : n ≤ 6) (hf : f + n ≤ 144) {cp : Int} (hcp : 0 ≤ cp ∧ cp ≤ 3) (hc : ∀ i, i < n → 0 ≤ V 2 (f + i) ∧ V 2 (f + i) < 180) : ∃ W, (∀ c, c ≠ 72 → c ≠ 73 → c ≠ 74 → W c = V c) ∧ Runs (GW L xs) (d + 2) 63 (0, [.ref 70, .ref 2, (Value.int (Int32.ofInt (f))), (Value.int (Int32.ofInt (n))), (Value.int (Int32.ofInt (cp))), (Value.int (Int32.ofInt (l))), vU], [], zS (eV (V)) J tg) (some (Value.int (Int32.ofInt (FARp V n (fun i => V 2 (f + i)) cp l))), zS (eV (W)) J tg) := by
  have h3 : 0 ≤ V 3 l ∧ V 3 l ≤ 6 := hR 3 l (by decide) (by decide)
  have h64 := p2_64 (m := (V 3 l).toNat) (by omega)
  have hpos := Nat.pow_pos (a := 2) (n := (V 3 l).toNat) (by omega)
  have hgr := gF_rg hR (fun i => V 2 (f + i)) (lkc V l)
  obtain ⟨W, ⟨i1, i2⟩, hr⟩ := loopN (g := GW L xs) (d := d + 2) (mid := 63) (σ := Nat → Nat → Int) (fun i W => (11, [.ref 70, .ref 2, (Value.int (Int32.ofInt (f))), (Value.int (Int32.ofInt (n))), (Value.int (Int32.ofInt (cp))), (Value.int (Int32.ofInt (l))), (Value.int (Int32.ofInt (i)))], [], zS (eV W) J tg)) (fun i W => (∀ c, c ≠ 72 → c ≠ 73 → c ≠ 74 → W c = V c) ∧ ∀ s, s < 2 ^ (V 3 l).toNat → W 72 s = GN (gF V (fun i => V 2 (f + i)) (lkc V l)) (V 3 l).toNat i s) n (by
    intro i W hi ⟨i1, i2⟩
    have eC : W 2 = V 2 := i1 2 (by decide) (by decide) (by decide)
    have e1 : W 1 = V 1 := i1 1 (by decide) (by decide) (by decide)
    have e2 : W 2 = V 2 := i1 2 (by decide) (by decide) (by decide)
    have e3 : W 3 = V 3 := i1 3 (by decide) (by decide) (by decide)
    have hRW : RNG W := hR.fr fun c h => i1 c (by omega) (by omega) (by omega)
    have hci := hc i hi
    obtain ⟨X, j1, j2, j3, j4⟩ := k_66_72 (L := L) (xs := xs) (J := J) (tg := tg) (d := d) hRW hl (p := V 2 (f + i)) (by omega) (F := GN (gF V (fun i => V 2 (f + i)) (lkc V l)) (V 3 l).toNat i) (fr := 0) (to := 0) (by omega) (by omega) (Or.inl rfl) (by rw [e3]; intro s hs; rw [Nat.zero_add]; exact i2 s hs) (fun t => by have := GN_rg (m := (V 3 l).toNat) hgr i t; omega) (fun s j hb => GN_mono hb)
    refine ⟨X, ⟨fun c a b e => by rw [j1 c b e a]; exact i1 c a b e, fun s hs => ?_⟩, ?_⟩
    · have := j3 s (by rw [e3]; exact hs)
      rw [Nat.zero_add, e3, g1_fr e1, lkc_fr e2] at this
      exact this
    · intro r hr
      refine sg_63c2_11 _ _ _ _ _ _ _ _ ?_
      simp (disch := omega) only [eC, eV_at, eV_up, o_lit2, o_add, o_sub, o_mul, o_neg, o_div, o_nat, ix_t, o_lt, o_le, o_eq, o_bi0, o_bi1, o_bib, em_t, o_neg1, o_shl, o_tb, o_tb0, o_tt, o_and, o_xor, o_or, o_max, o_min, an_tb, and_true, true_and, not_true, not_false, if_true, if_false, tn_add, tn_mul, Int.reduceToNat, tn_cast, md_x]
      rw [if_neg (by omega)]
      exact ⟨_, j4, hr⟩) n 0 (flV V 72 64 0) (by omega) ⟨fun c a _ _ => flV_ne a, fun s hs => by rw [flV_at, if_pos (by omega)]; rfl⟩
  have eC : W 2 = V 2 := i1 2 (by decide) (by decide) (by decide)
  have e1 : W 1 = V 1 := i1 1 (by decide) (by decide) (by decide)
  have e2 : W 2 = V 2 := i1 2 (by decide) (by decide) (by decide)
  have e3 : W 3 = V 3 := i1 3 (by decide) (by decide) (by decide)
  have e4 : W 4 = V 4 := i1 4 (by decide) (by decide) (by decide)
  have hRW : RNG W := hR.fr fun c h => i1 c (by omega) (by omega) (by omega)
  refine ⟨W, i1, ?_⟩
  refine sg_63c2 _ _ _ _ _ _ _ ⟨_, k_301 (c := 72) (n := 64) (by decide) rfl (by decide) 0, hr _ ?_⟩
  have hk5 := k_65 (L := L) (xs := xs) (J := J) (tg := tg) (d := d + 1) hRW hl
  rw [e3] at hk5
  refine sg_63c2_11 _ _ _ _ _ _ _ _ ?_
  simp (disch := omega) only [eV_at, eV_up, o_lit2, o_add, o_sub, o_mul, o_neg, o_div, o_nat, ix_t, o_lt, o_le, o_eq, o_bi0, o_bi1, o_bib, em_t, o_neg1, o_shl, o_tb, o_tb0, o_tt, o_and, o_xor, o_or, o_max, o_min, an_tb, and_true, true_and, not_true, not_false, if_true, if_false, tn_add, tn_mul, Int.reduceToNat, tn_cast, md_x]
  rw [if_pos (by omega)]
  refine ⟨_, _, hk5, ?_⟩
  have hb : 2 ^ (V 3 l).toNat - 1 < 64 := by omega
  generalize hq : 2 ^ (V 3 l).toNat - 1 = q at hb
  simp (disch := omega) only [eV_at, eV_up, o_lit2, o_add, o_sub, o_mul, o_neg, o_div, o_nat, ix_t, o_lt, o_le, o_eq, o_bi0, o_bi1, o_bib, em_t, o_neg1, o_shl, o_tb, o_tb0, o_tt, o_and, o_xor, o_or, o_max, o_min, an_tb, and_true, true_and, not_true, not_false, if_true, if_false, tn_add, tn_mul, Int.reduceToNat, tn_cast, md_x]
  have hk4 := k_64 (L := L) (xs := xs) (J := J) (tg := tg) (d := d + 1) hRW hl (sz := n) (cl := cp) (gn := W 72 q) hcp
  rw [i2 q (by omega), e1, e3, e4] at hk4
  rw [i2 q (by omega)]
  refine ⟨_, _, hk4, ?_⟩
  rw [← hq]
  rfl
theorem k_63_80 {L d : Nat} {xs : Nat → Int32} {V : Nat → Nat → Int} {J : Nat → Nat → Int64} {tg : Option Nat} (hR : RNG V) {l f n : Nat} (hl : l < 24) (hn : n ≤ 6) (hf : f + n ≤ 6) {cp : Int} (hcp : 0 ≤ cp ∧ cp ≤ 3) (hc : ∀ i, i < n → 0 ≤ V 80 (f + i) ∧ V 80 (f + i) < 180) : ∃ W, (∀ c, c ≠ 72 → c ≠ 73 → c ≠ 74 → W c = V c) ∧ Runs (GW L xs) (d + 2) 63 (0, [.ref 70, .ref 80, (Value.int (Int32.ofInt (f))), (Value.int (Int32.ofInt (n))), (Value.int (Int32.ofInt (cp))), (Value.int (Int32.ofInt (l))), vU], [], zS (eV (V)) J tg) (some (Value.int (Int32.ofInt (FARp V n (fun i => V 80 (f + i)) cp l))), zS (eV (W)) J tg) := by
  have h3 : 0 ≤ V 3 l ∧ V 3 l ≤ 6 := hR 3 l (by decide) (by decide)
  have h64 := p2_64 (m := (V 3 l).toNat) (by omega)
  have hpos := Nat.pow_pos (a := 2) (n := (V 3 l).toNat) (by omega)
  have hgr := gF_rg hR (fun i => V 80 (f + i)) (lkc V l)
  obtain ⟨W, ⟨i1, i2⟩, hr⟩ := loopN (g := GW L xs) (d := d + 2) (mid := 63) (σ := Nat → Nat → Int) (fun i W => (11, [.ref 70, .ref 80, (Value.int (Int32.ofInt (f))), (Value.int (Int32.ofInt (n))), (Value.int (Int32.ofInt (cp))), (Value.int (Int32.ofInt (l))), (Value.int (Int32.ofInt (i)))], [], zS (eV W) J tg)) (fun i W => (∀ c, c ≠ 72 → c ≠ 73 → c ≠ 74 → W c = V c) ∧ ∀ s, s < 2 ^ (V 3 l).toNat → W 72 s = GN (gF V (fun i => V 80 (f + i)) (lkc V l)) (V 3 l).toNat i s) n (by
    intro i W hi ⟨i1, i2⟩
    have eC : W 80 = V 80 := i1 80 (by decide) (by decide) (by decide)
    have e1 : W 1 = V 1 := i1 1 (by decide) (by decide) (by decide)
    have e2 : W 2 = V 2 := i1 2 (by decide) (by decide) (by decide)
    have e3 : W 3 = V 3 := i1 3 (by decide) (by decide) (by decide)
    have hRW : RNG W := hR.fr fun c h => i1 c (by omega) (by omega) (by omega)
    have hci := hc i hi
    obtain ⟨X, j1, j2, j3, j4⟩ := k_66_72 (L := L) (xs := xs) (J := J) (tg := tg) (d := d) hRW hl (p := V 80 (f + i)) (by omega) (F := GN (gF V (fun i => V 80 (f + i)) (lkc V l)) (V 3 l).toNat i) (fr := 0) (to := 0) (by omega) (by omega) (Or.inl rfl) (by rw [e3]; intro s hs; rw [Nat.zero_add]; exact i2 s hs) (fun t => by have := GN_rg (m := (V 3 l).toNat) hgr i t; omega) (fun s j hb => GN_mono hb)
    refine ⟨X, ⟨fun c a b e => by rw [j1 c b e a]; exact i1 c a b e, fun s hs => ?_⟩, ?_⟩
    · have := j3 s (by rw [e3]; exact hs)
      rw [Nat.zero_add, e3, g1_fr e1, lkc_fr e2] at this
      exact this
    · intro r hr
      refine sg_63c80_11 _ _ _ _ _ _ _ _ ?_
      simp (disch := omega) only [eC, eV_at, eV_up, o_lit2, o_add, o_sub, o_mul, o_neg, o_div, o_nat, ix_t, o_lt, o_le, o_eq, o_bi0, o_bi1, o_bib, em_t, o_neg1, o_shl, o_tb, o_tb0, o_tt, o_and, o_xor, o_or, o_max, o_min, an_tb, and_true, true_and, not_true, not_false, if_true, if_false, tn_add, tn_mul, Int.reduceToNat, tn_cast, md_x]
      rw [if_neg (by omega)]
      exact ⟨_, j4, hr⟩) n 0 (flV V 72 64 0) (by omega) ⟨fun c a _ _ => flV_ne a, fun s hs => by rw [flV_at, if_pos (by omega)]; rfl⟩
  have eC : W 80 = V 80 := i1 80 (by decide) (by decide) (by decide)
  have e1 : W 1 = V 1 := i1 1 (by decide) (by decide) (by decide)
  have e2 : W 2 = V 2 := i1 2 (by decide) (by decide) (by decide)
  have e3 : W 3 = V 3 := i1 3 (by decide) (by decide) (by decide)
  have e4 : W 4 = V 4 := i1 4 (by decide) (by decide) (by decide)
  have hRW : RNG W := hR.fr fun c h => i1 c (by omega) (by omega) (by omega)
  refine ⟨W, i1, ?_⟩
  refine sg_63c80 _ _ _ _ _ _ _ ⟨_, k_301 (c := 72) (n := 64) (by decide) rfl (by decide) 0, hr _ ?_⟩
  have hk5 := k_65 (L := L) (xs := xs) (J := J) (tg := tg) (d := d + 1) hRW hl
  rw [e3] at hk5
  refine sg_63c80_11 _ _ _ _ _ _ _ _ ?_
  simp (disch := omega) only [eV_at, eV_up, o_lit2, o_add, o_sub, o_mul, o_neg, o_div, o_nat, ix_t, o_lt, o_le, o_eq, o_bi0, o_bi1, o_bib, em_t, o_neg1, o_shl, o_tb, o_tb0, o_tt, o_and, o_xor, o_or, o_max, o_min, an_tb, and_true, true_and, not_true, not_false, if_true, if_false, tn_add, tn_mul, Int.reduceToNat, tn_cast, md_x]
  rw [if_pos (by omega)]
  refine ⟨_, _, hk5, ?_⟩
  have hb : 2 ^ (V 3 l).toNat - 1 < 64 := by omega
  generalize hq : 2 ^ (V 3 l).toNat - 1 = q at hb
  simp (disch := omega) only [eV_at, eV_up, o_lit2, o_add, o_sub, o_mul, o_neg, o_div, o_nat, ix_t, o_lt, o_le, o_eq, o_bi0, o_bi1, o_bib, em_t, o_neg1, o_shl, o_tb, o_tb0, o_tt, o_and, o_xor, o_or, o_max, o_min, an_tb, and_true, true_and, not_true, not_false, if_true, if_false, tn_add, tn_mul, Int.reduceToNat, tn_cast, md_x]
  have hk4 := k_64 (L := L) (xs := xs) (J := J) (tg := tg) (d := d + 1) hRW hl (sz := n) (cl := cp) (gn := W 72 q) hcp
  rw [i2 q (by omega), e1, e3, e4] at hk4
  rw [i2 q (by omega)]
  refine ⟨_, _, hk4, ?_⟩
  rw [← hq]
  rfl
/-- the FARs that are kept; and the first layer of gains, which stays 0 -/
def CA (V : Nat → Nat → Int) : Prop := (∀ a b, a < 24 → b < 24 → V 71 (a * 24 + b) = -1 ∨ V 71 (a * 24 + b) = FAR V a b) ∧ ∀ x, x < 768 → V 81 x = 0
theorem gF_sw {V : Nat → Nat → Int} (p q : Nat → Int) : (fun a b => gF V p q b a) = gF V q p := by
  funext a b
  unfold gF gpr okF csF cst
  simp only [decide_eq_true_eq]
  have h1 : (p b / 36 = q a / 36) = (q a / 36 = p b / 36) := propext eq_comm
  have h2 : (p b % 4 = q a % 4) = (q a % 4 = p b % 4) := propext eq_comm
  simp only [h1, h2, @gapZ_sym (p b / 4 % 9)]
theorem FAR_sym {V : Nat → Nat → Int} (hR : RNG V) (a b : Nat) : FAR V a b = FAR V b a := by
  have ha : 0 ≤ V 3 a ∧ V 3 a ≤ 6 := hR 3 a (by decide) (by decide)
  have hb : 0 ≤ V 3 b ∧ V 3 b ≤ 6 := hR 3 b (by decide) (by decide)
  unfold FAR FARp
  rw [@GN_sym (gF V (lkc V a) (lkc V b)), gF_sw]
  have e1 : (((V 3 a).toNat : Nat) : Int) = V 3 a := by omega
  have e2 : (((V 3 b).toNat : Nat) : Int) = V 3 b := by omega
  have h2 : (V 4 a = V 4 b) = (V 4 b = V 4 a) := propext eq_comm
  rw [e1, e2, Int.add_comm (V 3 a)]
  simp only [h2]
theorem k_62 {L d : Nat} {xs : Nat → Int32} {V : Nat → Nat → Int} {J : Nat → Nat → Int64} {tg : Option Nat} (hR : RNG V) (hC : CA V) {a b : Nat} (ha : a < 24) (hb : b < 24) : ∃ W, (∀ c, c ≠ 71 → c ≠ 72 → c ≠ 73 → c ≠ 74 → W c = V c) ∧ CA W ∧ Runs (GW L xs) (d + 3) 62 (0, [.ref 70, (Value.int (Int32.ofInt (a))), (Value.int (Int32.ofInt (b))), vU], [], zS (eV (V)) J tg) (some (Value.int (Int32.ofInt (FAR V a b))), zS (eV (W)) J tg) := by
  have h3 : 0 ≤ V 3 a ∧ V 3 a ≤ 6 := hR 3 a (by decide) (by decide)
  have h4 : 0 ≤ V 4 a ∧ V 4 a ≤ 3 := hR 4 a (by decide) (by decide)
  have hF := FARp_rg hR (n := (V 3 a).toNat) (by omega) (lkc V a) (V 4 a) b
  by_cases h : V 71 (a * 24 + b) = -1
  · obtain ⟨W, i1, i2⟩ := k_63_2 (L := L) (xs := xs) (J := J) (tg := tg) (d := d) hR hb (f := a * 6) (n := (V 3 a).toNat) (by omega) (by omega) (cp := V 4 a) h4 (fun i _ => by have : 0 ≤ V 2 (a * 6 + i) ∧ V 2 (a * 6 + i) ≤ 179 := hR 2 _ (by decide) (by decide); omega)
    have e1 : W 1 = V 1 := i1 1 (by decide) (by decide) (by decide)
    have e2 : W 2 = V 2 := i1 2 (by decide) (by decide) (by decide)
    have e3 : W 3 = V 3 := i1 3 (by decide) (by decide) (by decide)
    have e4 : W 4 = V 4 := i1 4 (by decide) (by decide) (by decide)
    have e71 : W 71 = V 71 := i1 71 (by decide) (by decide) (by decide)
    refine ⟨up2 (up2 W 71 (a * 24 + b) (FAR V a b)) 71 (b * 24 + a) (FAR V a b), fun c q1 q2 q3 q4 => by rw [w_ne _ _ _ _ q1, w_ne _ _ _ _ q1]; exact i1 c q2 q3 q4, ?_, ?_⟩
    · refine ⟨fun x y hx hy => ?_, fun x hx => by rw [w_ne _ _ _ _ (by decide), w_ne _ _ _ _ (by decide), i1 81 (by decide) (by decide) (by decide)]; exact hC.2 x hx⟩
      have eF : FAR (up2 (up2 W 71 (a * 24 + b) (FAR V a b)) 71 (b * 24 + a) (FAR V a b)) = FAR V := FAR_fr (by rw [w_ne _ _ _ _ (by decide), w_ne _ _ _ _ (by decide), e1]) (by rw [w_ne _ _ _ _ (by decide), w_ne _ _ _ _ (by decide), e2]) (by rw [w_ne _ _ _ _ (by decide), w_ne _ _ _ _ (by decide), e3]) (by rw [w_ne _ _ _ _ (by decide), w_ne _ _ _ _ (by decide), e4])
      rw [eF, w_at, w_at, e71]
      by_cases q1 : x * 24 + y = b * 24 + a
      · have : x = b ∧ y = a := by omega
        obtain ⟨rfl, rfl⟩ := this
        rw [if_pos rfl]; exact Or.inr (FAR_sym hR _ _)
      · rw [if_neg q1]
        by_cases q2 : x * 24 + y = a * 24 + b
        · have : x = a ∧ y = b := by omega
          obtain ⟨rfl, rfl⟩ := this
          rw [if_pos rfl]; exact Or.inr rfl
        · rw [if_neg q2]; exact hC.1 x y hx hy
    · refine sg_62 _ _ _ _ _ ?_
      have e : ((V 3 a).toNat : Int) = V 3 a := by omega
      rw [e] at i2
      simp (disch := omega) only [eV_at, eV_up, o_lit2, o_add, o_sub, o_mul, o_neg, o_div, o_nat, ix_t, o_lt, o_le, o_eq, o_bi0, o_bi1, o_bib, em_t, o_neg1, o_shl, o_tb, o_tb0, o_tt, o_and, o_xor, o_or, o_max, o_min, an_tb, and_true, true_and, not_true, not_false, if_true, if_false, tn_add, tn_mul, Int.reduceToNat, tn_cast, md_x]
      rw [if_pos h]
      refine ⟨_, _, i2, ?_⟩
      simp (disch := omega) only [eV_at, eV_up, o_lit2, o_add, o_sub, o_mul, o_neg, o_div, o_nat, ix_t, o_lt, o_le, o_eq, o_bi0, o_bi1, o_bib, em_t, o_neg1, o_shl, o_tb, o_tb0, o_tt, o_and, o_xor, o_or, o_max, o_min, an_tb, and_true, true_and, not_true, not_false, if_true, if_false, tn_add, tn_mul, Int.reduceToNat, tn_cast, md_x]
      have e9 : FARp V (V 3 a).toNat (fun i => V 2 (a * 6 + i)) (V 4 a) b = FAR V a b := rfl
      simp only [e9, w_eq, w_at, ite_self]
  · refine ⟨V, fun _ _ _ _ _ => rfl, hC, ?_⟩
    have h' := (hC.1 a b ha hb).resolve_left h
    have hF' : FAR V a b = FARp V (V 3 a).toNat (lkc V a) (V 4 a) b := rfl
    refine sg_62 _ _ _ _ _ ?_
    simp (disch := omega) only [h', eV_at, eV_up, o_lit2, o_add, o_sub, o_mul, o_neg, o_div, o_nat, ix_t, o_lt, o_le, o_eq, o_bi0, o_bi1, o_bib, em_t, o_neg1, o_shl, o_tb, o_tb0, o_tt, o_and, o_xor, o_or, o_max, o_min, an_tb, and_true, true_and, not_true, not_false, if_true, if_false, tn_add, tn_mul, Int.reduceToNat, tn_cast, md_x]
    rw [if_neg (by rw [← h']; exact h)] <;> trivial
theorem k_61 {L d : Nat} {xs : Nat → Int32} {V : Nat → Nat → Int} {J : Nat → Nat → Int64} {tg : Option Nat} {l : Nat} (hl : l < 24) : ∃ W, (∀ c, c ≠ 71 → W c = V c) ∧ (∀ a b, a < 24 → b < 24 → (a = l ∨ b = l → W 71 (a * 24 + b) = -1) ∧ (¬ (a = l ∨ b = l) → W 71 (a * 24 + b) = V 71 (a * 24 + b))) ∧ Runs (GW L xs) (d) 61 (0, [.ref 70, (Value.int (Int32.ofInt (l))), vU], [], zS (eV (V)) J tg) (none, zS (eV (W)) J tg) := by
  obtain ⟨W, ⟨i1, i2⟩, hr⟩ := loopN (g := GW L xs) (d := d) (mid := 61) (σ := Nat → Nat → Int) (fun i W => (2, [.ref 70, (Value.int (Int32.ofInt (l))), (Value.int (Int32.ofInt (i)))], [], zS (eV W) J tg)) (fun i W => (∀ c, c ≠ 71 → W c = V c) ∧ ∀ a b, a < 24 → b < 24 → (a = l ∧ b < i ∨ b = l ∧ a < i → W 71 (a * 24 + b) = -1) ∧ (¬ (a = l ∧ b < i ∨ b = l ∧ a < i) → W 71 (a * 24 + b) = V 71 (a * 24 + b))) 24 (by
    intro i W hi ⟨i1, i2⟩
    refine ⟨up2 (up2 W 71 (l * 24 + i) (-1)) 71 (i * 24 + l) (-1), ⟨fun c q => by rw [w_ne _ _ _ _ q, w_ne _ _ _ _ q]; exact i1 c q, fun a b ha hb => ?_⟩, fun r hr => ?_⟩
    · rw [w_at, w_at]
      have := i2 a b ha hb
      by_cases q1 : a * 24 + b = i * 24 + l
      · rw [if_pos q1]; exact ⟨fun _ => rfl, fun h => absurd (by omega) h⟩
      · rw [if_neg q1]
        by_cases q2 : a * 24 + b = l * 24 + i
        · rw [if_pos q2]; exact ⟨fun _ => rfl, fun h => absurd (by omega) h⟩
        · rw [if_neg q2]; exact ⟨fun h => this.1 (by omega), fun h => this.2 (by omega)⟩
    · refine sg_61_2 _ _ _ _ _ ?_
      simp (disch := omega) only [eV_at, eV_up, o_lit2, o_add, o_sub, o_mul, o_neg, o_div, o_nat, ix_t, o_lt, o_le, o_eq, o_bi0, o_bi1, o_bib, em_t, o_neg1, o_shl, o_tb, o_tb0, o_tt, o_and, o_xor, o_or, o_max, o_min, an_tb, and_true, true_and, not_true, not_false, if_true, if_false, tn_add, tn_mul, Int.reduceToNat, tn_cast, md_x]
      rw [if_neg (by omega)]
      exact hr) 24 0 V (by omega) ⟨fun _ _ => rfl, fun a b _ _ => ⟨fun h => by omega, fun _ => rfl⟩⟩
  refine ⟨W, i1, fun a b ha hb => ⟨fun h => (i2 a b ha hb).1 (by omega), fun h => (i2 a b ha hb).2 (by omega)⟩, ?_⟩
  refine sg_61 _ _ _ _ (hr _ ?_)
  refine sg_61_2 _ _ _ _ _ ?_
  simp (disch := omega) only [eV_at, eV_up, o_lit2, o_add, o_sub, o_mul, o_neg, o_div, o_nat, ix_t, o_lt, o_le, o_eq, o_bi0, o_bi1, o_bib, em_t, o_neg1, o_shl, o_tb, o_tb0, o_tt, o_and, o_xor, o_or, o_max, o_min, an_tb, and_true, true_and, not_true, not_false, if_true, if_false, tn_add, tn_mul, Int.reduceToNat, tn_cast, md_x]
  rw [if_pos (by omega)] <;> trivial
theorem k_60 {L d : Nat} {xs : Nat → Int32} {V : Nat → Nat → Int} {J : Nat → Nat → Int64} {tg : Option Nat} : Runs (GW L xs) (d + 1) 60 (0, [.ref 70], [], zS (eV (V)) J tg) (none, zS (eV (flV V 71 576 (-1))) J tg) := sg_60 _ _ _ ⟨_, k_301 (c := 71) (n := 576) (by decide) rfl (by decide) (-1), rfl⟩
