/-! PARTS. -/
def cmB (g : Nat → Nat) : Nat → Nat → Bool
  | 0, _ => false
  | s + 1, j => cmB g s j || decide (g s = j)
theorem cmB_i {g : Nat → Nat} {j : Nat} : ∀ s, cmB g s j = true ↔ ∃ u, u < s ∧ g u = j
  | 0 => ⟨fun h => (by cases h), fun ⟨u, h, _⟩ => by omega⟩
  | s + 1 => by
    show (cmB g s j || decide (g s = j)) = true ↔ _
    rw [Bool.or_eq_true, cmB_i s, decide_eq_true_iff]
    constructor
    · rintro (⟨u, h1, h2⟩ | h)
      · exact ⟨u, by omega, h2⟩
      · exact ⟨s, by omega, h⟩
    · rintro ⟨u, h1, h2⟩
      by_cases e : u = s
      · subst e; exact Or.inr h2
      · exact Or.inl ⟨u, by omega, h2⟩
theorem cnt_upd {p q : Nat → Bool} {a : Nat} (h : ∀ j, j ≠ a → q j = p j) (ha : q a = true) : ∀ n, cnt q n = cnt p n + (if a < n ∧ p a = false then 1 else 0)
  | 0 => by rw [if_neg (by omega)]; rfl
  | n + 1 => by
    rw [cnt_s, cnt_s, cnt_upd h ha n]
    by_cases e : n = a
    · subst e
      rw [if_pos ha, if_neg (by omega)]
      cases c : p n
      · rw [if_neg (by decide), if_pos ⟨by omega, rfl⟩]
      · rw [if_pos rfl, if_neg (fun h => by cases h.2)]
    · rw [h n e]
      by_cases c : a < n ∧ p a = false
      · rw [if_pos c, if_pos (show a < n + 1 ∧ p a = false from ⟨by omega, c.2⟩)]; omega
      · rw [if_neg c, if_neg (show ¬ (a < n + 1 ∧ p a = false) from fun h => c ⟨by omega, h.2⟩)]; omega
theorem cnt_cg {p q : Nat → Bool} : ∀ n, (∀ j, j < n → p j = q j) → cnt p n = cnt q n
  | 0, _ => rfl
  | n + 1, h => by rw [cnt_s, cnt_s, cnt_cg n (fun j hj => h j (by omega)), h n (by omega)]
/-- the ways it can be taken, one by one -/
def wyB (lim : Int) (sc : Nat → Int) (T nd br j : Nat) : Bool := if j = 12 then decide (tk lim sc nd 12 = -1) else decide (j < T) && (!br.testBit j && decide (tk lim sc (nd ||| 2 ^ j) 12 = j))
theorem wyB_lo {lim : Int} {sc : Nat → Int} {T nd br : Nat} (hT : T ≤ 12) : ∀ n, n ≤ T → (cnt (wyB lim sc T nd br) n : Int) + (if tk lim sc nd 12 = -1 then 1 else 0) = cwy lim sc nd br n
  | 0, _ => by show ((0 : Nat) : Int) + _ = _; rw [show ((0 : Nat) : Int) = 0 from rfl, Int.zero_add]; rfl
  | n + 1, h => by
    have ih := wyB_lo (lim := lim) (sc := sc) (nd := nd) (br := br) hT n (by omega)
    have hs : cwy lim sc nd br (n + 1) = cwy lim sc nd br n + (if br.testBit n = false ∧ tk lim sc (nd ||| 2 ^ n) 12 = n then 1 else 0) := rfl
    have hb : wyB lim sc T nd br n = (!br.testBit n && decide (tk lim sc (nd ||| 2 ^ n) 12 = n)) := by unfold wyB; rw [if_neg (by omega), decide_eq_true (by omega : n < T), Bool.true_and]
    rw [cnt_s, hs, hb, ← ih]
    by_cases c : br.testBit n = false ∧ tk lim sc (nd ||| 2 ^ n) 12 = n
    · rw [if_pos c, if_pos (by rw [c.1, decide_eq_true c.2]; rfl)]; omega
    · rw [if_neg c, if_neg (fun h => c (by rw [Bool.and_eq_true, decide_eq_true_iff] at h; exact ⟨by simpa using h.1, h.2⟩))]; omega
theorem wyB_hi {lim : Int} {sc : Nat → Int} {T nd br : Nat} : ∀ k, T + k ≤ 12 → cnt (wyB lim sc T nd br) (T + k) = cnt (wyB lim sc T nd br) T
  | 0, _ => rfl
  | k + 1, h => by
    rw [← Nat.add_assoc, cnt_s, wyB_hi k (by omega)]
    rw [if_neg (fun e => by
      unfold wyB at e
      rw [if_neg (by omega), decide_eq_false (by omega), Bool.false_and] at e
      cases e)]
    rfl
theorem wyB_all {lim : Int} {sc : Nat → Int} {T nd br : Nat} (hT : T ≤ 12) : (cnt (wyB lim sc T nd br) 13 : Int) = cwy lim sc nd br T := by
  have h1 := wyB_lo (lim := lim) (sc := sc) (nd := nd) (br := br) hT T (Nat.le_refl _)
  have h2 := wyB_hi (lim := lim) (sc := sc) (T := T) (nd := nd) (br := br) (12 - T) (by omega)
  rw [show T + (12 - T) = 12 by omega] at h2
  rw [cnt_s, h2]
  have hb : wyB lim sc T nd br 12 = decide (tk lim sc nd 12 = -1) := by unfold wyB; rw [if_pos rfl]
  rw [hb]
  by_cases c : tk lim sc nd 12 = -1
  · rw [if_pos c] at h1
    rw [if_pos (decide_eq_true c)]; omega
  · rw [if_neg c] at h1
    rw [if_neg (by rw [decide_eq_false c]; decide)]; omega
/-- where a mind's choice is marked -/
def ixm (v : Int) : Nat := if 0 ≤ v then v.toNat else 12
def gix (mn : Nat → Bool) (lim : Int) (sc : Nat → Int) (u : Nat) : Nat := if mn u = true then ixm (tk lim sc u 12) else 13
theorem tk_ix {lim : Int} {sc : Nat → Int} {u j : Nat} (hsc : ∀ t, -5000 ≤ sc t ∧ sc t ≤ 5000) : ixm (tk lim sc u 12) = j ↔ (j = 12 ∧ tk lim sc u 12 = -1) ∨ (j < 12 ∧ tk lim sc u 12 = j) := by
  have := tk_rg (lim := lim) (f := sc) (s := u) (n := 12) (by omega) (fun t => by have := hsc t; omega)
  generalize tk lim sc u 12 = v at *
  unfold ixm
  split <;> omega
theorem way_all {lim : Int} {sc : Nat → Int} {T nd br : Nat} {P : Bool} {mn : Nat → Bool} (hT : T ≤ 12) (hsc : ∀ t, -5000 ≤ sc t ∧ sc t ≤ 5000) (hnd : nd < 2 ^ T) (hdis : P = true → ∀ t, nd.testBit t = true → br.testBit t = false) (hmn : ∀ s, s < 2 ^ T → (mn s = true ↔ inM P nd br s)) : (cnt (cmB (gix mn lim sc) (2 ^ T)) 13 : Int) = if P = true then cwy lim sc nd br T else 0 := by
  by_cases p : P = true
  · rw [if_pos p, ← wyB_all hT]
    have hd := hdis p
    subst p
    refine congrArg _ (cnt_cg 13 (fun j hj => ?_))
    rw [Bool.eq_iff_iff, cmB_i]
    have key : (∃ u, u < 2 ^ T ∧ gix mn lim sc u = j) ↔ ∃ u, u < 2 ^ T ∧ inM true nd br u ∧ ((j = 12 ∧ tk lim sc u 12 = -1) ∨ (j < 12 ∧ tk lim sc u 12 = j)) := by
      constructor
      · rintro ⟨u, h1, h2⟩
        unfold gix at h2
        by_cases m : mn u = true
        · rw [if_pos m] at h2
          exact ⟨u, h1, (hmn u h1).mp m, (tk_ix hsc).mp h2⟩
        · rw [if_neg m] at h2; omega
      · rintro ⟨u, h1, h2, h3⟩
        refine ⟨u, h1, ?_⟩
        unfold gix
        rw [if_pos ((hmn u h1).mpr h2)]
        exact (tk_ix hsc).mpr h3
    rw [key]
    unfold wyB
    by_cases c : j = 12
    · subst c
      rw [if_pos rfl, decide_eq_true_iff]
      constructor
      · rintro ⟨u, h1, h2, h3⟩
        have h4 : tk lim sc u 12 = -1 := by omega
        rw [tk_none] at h4 ⊢
        exact fun v hv hb => h4 v hv (h2.2.1 v hb)
      · intro h
        exact ⟨nd, hnd, inM_nd hnd hd, Or.inl ⟨rfl, h⟩⟩
    · rw [if_neg c, Bool.and_eq_true, Bool.and_eq_true, decide_eq_true_iff, decide_eq_true_iff]
      constructor
      · rintro ⟨u, h1, h2, h3⟩
        have h4 : tk lim sc u 12 = j := by omega
        rw [tk_some] at h4 ⊢
        obtain ⟨t1, t2, t3, t4⟩ := h4
        have hjT : j < T := Nat.lt_of_not_le fun hle => by rw [tb_hi h1 hle] at t2; cases t2
        have hbr : br.testBit j = false := by
          cases b : br.testBit j
          · rfl
          · rw [h2.2.2 j b] at t2; cases t2
        refine ⟨hjT, by rw [hbr]; rfl, t1, by rw [Nat.testBit_or, Nat.testBit_two_pow_self, Bool.or_true], t3, fun v hv hb => ?_⟩
        rw [Nat.testBit_or, Nat.testBit_two_pow, Bool.or_eq_true, decide_eq_true_iff] at hb
        rcases hb with hb | hb
        · exact t4 v hv (h2.2.1 v hb)
        · subst hb; exact t4 j hv t2
      · rintro ⟨h1, h2, h3⟩
        have h2' : br.testBit j = false := by simpa using h2
        obtain ⟨o1, o2, o3⟩ := inM_or hnd h1 h2' hd
        exact ⟨_, o2, o1, Or.inr ⟨by omega, h3⟩⟩
  · rw [if_neg p]
    have : cnt (cmB (gix mn lim sc) (2 ^ T)) 13 = 0 := (cnt_z 13).mpr (fun j hj => by
      cases c : cmB (gix mn lim sc) (2 ^ T) j
      · rfl
      · obtain ⟨u, h1, h2⟩ := (cmB_i _).mp c
        unfold gix at h2
        by_cases m : mn u = true
        · exact absurd ((hmn u h1).mp m).1 p
        · rw [if_neg m] at h2; omega)
    rw [this]; rfl
section MR
variable {L d : Nat} {xs : Nat → Int32} {B V : Nat → Nat → Int} {J : Nat → Nat → Int64} {tg : Option Nat}
theorem m_294 (hI : INV B) (q : Qy B V) {T nd br st : Nat} {P : Bool} {x1 : Int32} {x3 : Int} (h3 : 0 ≤ x3 ∧ x3 ≤ 1) (hst : st < 6) (hT : B 1 1 = T) (hnd : nd < 2 ^ T) (hdis : P = true → ∀ t, nd.testBit t = true → br.testBit t = false) {mn : Nat → Bool} (hmn : ∀ s, s < 2 ^ T → (mn s = true ↔ inM P nd br s)) (h112 : ∀ s, s < 2 ^ T → V 112 s = bi (mn s = true)) {w : Nat → Int} (hw : w = fun e => if P = true then wys B st T nd br e else 0) : ∃ W, NF V W ∧ Runs (GW L xs) (d + 5) 294 (45, [.ref 93, .int x1, (Value.int (Int32.ofInt (st))), (Value.int (Int32.ofInt (x3))), (Value.int (Int32.ofInt (-1))), (Value.int (Int32.ofInt (1))), (Value.int (Int32.ofInt (0))), vU, vU, vU, vU], [], zS (eV V) J tg) (some (Value.int (Int32.ofInt (if 0 ≤ (wpt w (B 1 0).toNat).1 then (if x3 = 0 then (wpt w (B 1 0).toNat).1 else (wpt w (B 1 0).toNat).2) else -1))), zS (eV W) J tg) := by
  have rT : 0 ≤ B 1 1 ∧ B 1 1 ≤ 12 := hI.1 1 1 (by decide) (by decide)
  have rD : 0 ≤ B 1 0 ∧ B 1 0 ≤ 12 := hI.1 1 0 (by decide) (by decide)
  obtain ⟨D, hD⟩ : ∃ D : Nat, B 1 0 = D := ⟨(B 1 0).toNat, by omega⟩
  have hT12 : T ≤ 12 := by omega
  have hpos := Nat.pow_pos (a := 2) (n := T) (by omega)
  have h2T : 2 ^ T ≤ 4096 := p2_12 hT12
  rw [hD, tn_cast]
  have hwr : ∀ e, 0 ≤ w e ∧ w e ≤ 13 := fun e => by
    have := cwy_rg (lim := B 7 0) (sc := scr B e st) (nd := nd) (br := br) T
    rw [hw]; dsimp only; unfold wys
    split <;> omega
  have h941 : ∀ W, NF V W → W 94 1 = D := fun W f => by
    have qW := q.nf f
    have : W 94 1 = W 1 0 := (hI.q qW).2.1.1.1
    rw [this, qW.1 1 (by omega)]; exact hD
  obtain ⟨W, ⟨i1, i2⟩, hr⟩ := loopN (g := GW L xs) (d := d + 5) (mid := 294) (σ := Nat → Nat → Int) (fun e W => (45, [.ref 93, .int x1, (Value.int (Int32.ofInt (st))), (Value.int (Int32.ofInt (x3))), (Value.int (Int32.ofInt ((wpt w e).1))), (Value.int (Int32.ofInt ((wpt w e).2))), (Value.int (Int32.ofInt (e))), vU, vU, vU, vU], [], zS (eV W) J tg)) (fun _ W => NF V W ∧ ∀ s, s < 2 ^ T → W 112 s = bi (mn s = true)) D (by
    intro e W he ⟨i1, i2⟩
    have qW := q.nf i1
    obtain ⟨X, y1, y2, y3⟩ := m_203g (L := L) (xs := xs) (J := J) (tg := tg) (d := d) hI qW (LKm_of hI qW (dr := e) (by omega)).1 (st := st) hst
    rw [scr_p] at y2
    have hsc := scr_rg hI.1 e st
    have fX : NF V X := i1.tr (fun c q1 _ _ => y1 c q1)
    have hwe : w e = (cnt (cmB (gix mn (B 7 0) (scr B e st)) (2 ^ T)) 13 : Nat) := by
      rw [way_all hT12 hsc hnd hdis hmn, hw]; rfl
    have hwr' := hwr e
    have hwp := wpt_rg hwr e
    have hws := wpt_s (w := w) (e := e)
    generalize scr B e st = sc at *
    obtain ⟨Y, ⟨z1, z2⟩, hrY⟩ := loopN (g := GW L xs) (d := d + 5) (mid := 294) (σ := Nat → Nat → Int) (fun k Y => (69, [.ref 93, .int x1, (Value.int (Int32.ofInt (st))), (Value.int (Int32.ofInt (x3))), (Value.int (Int32.ofInt ((wpt w e).1))), (Value.int (Int32.ofInt ((wpt w e).2))), (Value.int (Int32.ofInt (e))), (Value.int (Int32.ofInt (0))), (Value.int (Int32.ofInt (k))), vU, vU], [], zS (eV Y) J tg)) (fun k Y => (∀ c, c ≠ 113 → Y c = X c) ∧ ∀ j, j < k → Y 113 j = 0) 13 (by
      intro k Y hk ⟨z1, z2⟩
      refine ⟨up2 Y 113 k 0, ⟨fun c hc => by rw [w_ne _ _ _ _ hc]; exact z1 c hc, fun j hj => ?_⟩, fun r hr => ?_⟩
      · rw [w_at]
        split
        · rfl
        · exact z2 j (by omega)
      · apply sg_294_69
        simp (disch := omega) only [or_true, true_or, eV_at, eV_up, o_lit2, o_add, o_sub, o_mul, o_neg, o_div, o_nat, ix_t, o_lt, o_le, o_eq, o_bi0, o_bi1, o_bib, em_t, o_neg1, o_shl, o_tb, o_tb0, o_tt, o_and, o_xor, o_or, o_max, o_min, an_tb, and_true, true_and, not_true, not_false, if_true, if_false, tn_add, tn_mul, Int.reduceToNat, tn_cast, md_x]
        rw [if_neg (by omega)]
        first | exact hr | exact ⟨Or.inl rfl, hr⟩ | exact ⟨Or.inl trivial, hr⟩ | exact ⟨trivial, hr⟩) 13 0 X (by omega) ⟨fun _ _ => rfl, fun j h => by omega⟩
    obtain ⟨S, ⟨s1, s2⟩, hrS⟩ := loopN (g := GW L xs) (d := d + 5) (mid := 294) (σ := Nat → Nat → Int) (fun s S => (93, [.ref 93, .int x1, (Value.int (Int32.ofInt (st))), (Value.int (Int32.ofInt (x3))), (Value.int (Int32.ofInt ((wpt w e).1))), (Value.int (Int32.ofInt ((wpt w e).2))), (Value.int (Int32.ofInt (e))), (Value.int (Int32.ofInt (cnt (cmB (gix mn (B 7 0) sc) s) 13))), (Value.int (Int32.ofInt (s))), vU, vU], [], zS (eV S) J tg)) (fun s S => (∀ c, c ≠ 113 → S c = X c) ∧ ∀ j, j < 13 → S 113 j = bi (cmB (gix mn (B 7 0) sc) s j = true)) (2 ^ T) (by
      intro s S hs ⟨s1, s2⟩
      have fS : NF V S := fX.tr (fun c _ _ q3 => s1 c q3)
      have qS := q.nf fS
      have kt := m_told (L := L) (xs := xs) (J := J) (tg := tg) (d := d + 4) hI qS hT
      have e112 : S 112 s = bi (mn s = true) := by rw [s1 112 (by decide), y1 112 (by omega)]; exact i2 s hs
      have hcr := cnt_rg (p := cmB (gix mn (B 7 0) sc) s) 13
      have hst : ∀ j, cmB (gix mn (B 7 0) sc) (s + 1) j = (cmB (gix mn (B 7 0) sc) s j || decide (gix mn (B 7 0) sc s = j)) := fun j => rfl
      by_cases m : mn s = true
      · rw [bi, if_pos m] at e112
        have kk := m_204 (L := L) (xs := xs) (J := J) (tg := tg) (d := d + 4) hI qS (s := s) (sc := sc) (by rw [hT]; exact hs) hsc (fun t ht => by rw [s1 99 (by decide)]; exact y2 t ht)
        have htk := tk_rg (lim := B 7 0) (f := sc) (s := s) (n := 12) (by omega) (fun t => by have := hsc t; omega)
        have hgx : gix mn (B 7 0) sc s = ixm (tk (B 7 0) sc s 12) := by unfold gix; rw [if_pos m]
        obtain ⟨t1, t2, t3, t4⟩ := mz_rg htk
        obtain ⟨j, hj⟩ : ∃ j, j = gix mn (B 7 0) sc s := ⟨_, rfl⟩
        have hjx : (j = 12 ∧ tk (B 7 0) sc s 12 = -1) ∨ (j < 12 ∧ tk (B 7 0) sc s 12 = j) := (tk_ix hsc).mp (by rw [hj, hgx])
        rw [← hj] at hst
        have hup := cnt_upd (p := cmB (gix mn (B 7 0) sc) s) (q := cmB (gix mn (B 7 0) sc) (s + 1)) (a := j) (fun i hi => by rw [hst, decide_eq_false (fun e => hi e.symm), Bool.or_false]) (by rw [hst, decide_eq_true rfl, Bool.or_true]) 13
        have hj13 : j < 13 := by omega
        have sj := s2 j hj13
        have keep : ∀ i, i < 13 → (up2 S 113 j 1) 113 i = bi (cmB (gix mn (B 7 0) sc) (s + 1) i = true) := fun i hi => by
          rw [w_at]
          by_cases c : i = j
          · rw [if_pos c]; subst c
            exact bi_t (by rw [hst, decide_eq_true rfl, Bool.or_true])
          · rw [if_neg c, s2 i hi, hst, decide_eq_false (fun e => c e.symm), Bool.or_false]
        refine ⟨up2 S 113 j 1, ⟨fun c hc => by rw [w_ne _ _ _ _ hc]; exact s1 c hc, keep⟩, fun r hr => ?_⟩
        rw [hup] at hr
        apply sg_294_93
        refine ⟨_, _, _, kt, ?_⟩
        simp (disch := omega) only [e112, eV_at, eV_up, o_lit2, o_add, o_sub, o_mul, o_neg, o_div, o_nat, ix_t, o_lt, o_le, o_eq, o_bi0, o_bi1, o_bib, em_t, o_neg1, o_shl, o_tb, o_tb0, o_tt, o_and, o_xor, o_or, o_max, o_min, an_tb, and_true, true_and, not_true, not_false, if_true, if_false, tn_add, tn_mul, Int.reduceToNat, tn_cast, md_x]
        rw [if_neg (by omega), if_neg (by omega)]
        refine ⟨_, _, _, kk, ?_⟩
        rcases hjx with ⟨c1, c2⟩ | ⟨c1, c2⟩
        · subst c1
          simp (disch := omega) only [or_true, true_or, eV_at, eV_up, o_lit2, o_add, o_sub, o_mul, o_neg, o_div, o_nat, ix_t, o_lt, o_le, o_eq, o_bi0, o_bi1, o_bib, em_t, o_neg1, o_shl, o_tb, o_tb0, o_tt, o_and, o_xor, o_or, o_max, o_min, an_tb, and_true, true_and, not_true, not_false, if_true, if_false, tn_add, tn_mul, Int.reduceToNat, tn_cast, md_x]
          rw [if_neg (by have := t3.2 c2; omega)]
          cases b : cmB (gix mn (B 7 0) sc) s 12
          · rw [b] at sj hr
            rw [if_pos ⟨by omega, rfl⟩] at hr
            rw [bi, if_neg (by decide)] at sj
            simp (disch := omega) only [or_true, true_or, sj, eV_at, eV_up, o_lit2, o_add, o_sub, o_mul, o_neg, o_div, o_nat, ix_t, o_lt, o_le, o_eq, o_bi0, o_bi1, o_bib, em_t, o_neg1, o_shl, o_tb, o_tb0, o_tt, o_and, o_xor, o_or, o_max, o_min, an_tb, and_true, true_and, not_true, not_false, if_true, if_false, tn_add, tn_mul, Int.reduceToNat, tn_cast, md_x]
            first | exact hr | exact ⟨Or.inr rfl, hr⟩ | exact ⟨Or.inr trivial, hr⟩
          · rw [b] at sj hr
            rw [if_neg (fun h => by cases h.2)] at hr
            rw [bi, if_pos rfl] at sj
            simp (disch := omega) only [or_true, true_or, sj, eV_at, eV_up, o_lit2, o_add, o_sub, o_mul, o_neg, o_div, o_nat, ix_t, o_lt, o_le, o_eq, o_bi0, o_bi1, o_bib, em_t, o_neg1, o_shl, o_tb, o_tb0, o_tt, o_and, o_xor, o_or, o_max, o_min, an_tb, and_true, true_and, not_true, not_false, if_true, if_false, tn_add, tn_mul, Int.reduceToNat, tn_cast, md_x]
            rw [if_neg (by omega)]
            first | exact hr | exact ⟨Or.inr rfl, hr⟩ | exact ⟨Or.inr trivial, hr⟩
        · have t5 : mz (tk (B 7 0) sc s 12) = (j : Int) + 12 := by rw [t4 (by omega), c2]
          have t6 : (j : Int) + 12 - 12 = (j : Int) := by omega
          simp (disch := omega) only [or_true, true_or, t5, t6, eV_at, eV_up, o_lit2, o_add, o_sub, o_mul, o_neg, o_div, o_nat, ix_t, o_lt, o_le, o_eq, o_bi0, o_bi1, o_bib, em_t, o_neg1, o_shl, o_tb, o_tb0, o_tt, o_and, o_xor, o_or, o_max, o_min, an_tb, and_true, true_and, not_true, not_false, if_true, if_false, tn_add, tn_mul, Int.reduceToNat, tn_cast, md_x]
          rw [if_pos (by omega)]
          cases b : cmB (gix mn (B 7 0) sc) s j
          · rw [b] at sj hr
            rw [if_pos ⟨by omega, rfl⟩] at hr
            rw [bi, if_neg (by decide)] at sj
            simp (disch := omega) only [or_true, true_or, t5, t6, sj, eV_at, eV_up, o_lit2, o_add, o_sub, o_mul, o_neg, o_div, o_nat, ix_t, o_lt, o_le, o_eq, o_bi0, o_bi1, o_bib, em_t, o_neg1, o_shl, o_tb, o_tb0, o_tt, o_and, o_xor, o_or, o_max, o_min, an_tb, and_true, true_and, not_true, not_false, if_true, if_false, tn_add, tn_mul, Int.reduceToNat, tn_cast, md_x]
            first | exact hr | exact ⟨Or.inr rfl, hr⟩ | exact ⟨Or.inr trivial, hr⟩
          · rw [b] at sj hr
            rw [if_neg (fun h => by cases h.2)] at hr
            rw [bi, if_pos rfl] at sj
            simp (disch := omega) only [or_true, true_or, t5, t6, sj, eV_at, eV_up, o_lit2, o_add, o_sub, o_mul, o_neg, o_div, o_nat, ix_t, o_lt, o_le, o_eq, o_bi0, o_bi1, o_bib, em_t, o_neg1, o_shl, o_tb, o_tb0, o_tt, o_and, o_xor, o_or, o_max, o_min, an_tb, and_true, true_and, not_true, not_false, if_true, if_false, tn_add, tn_mul, Int.reduceToNat, tn_cast, md_x]
            rw [if_neg (by omega)]
            first | exact hr | exact ⟨Or.inr rfl, hr⟩ | exact ⟨Or.inr trivial, hr⟩
      · rw [bi, if_neg m] at e112
        have hgx : gix mn (B 7 0) sc s = 13 := by unfold gix; rw [if_neg m]
        rw [hgx] at hst
        have hcg : cnt (cmB (gix mn (B 7 0) sc) (s + 1)) 13 = cnt (cmB (gix mn (B 7 0) sc) s) 13 := cnt_cg 13 (fun j hj => by rw [hst, decide_eq_false (by omega), Bool.or_false])
        refine ⟨S, ⟨s1, fun j hj => by rw [hst, decide_eq_false (by omega), Bool.or_false]; exact s2 j hj⟩, fun r hr => ?_⟩
        rw [hcg] at hr
        apply sg_294_93
        refine ⟨_, _, _, kt, ?_⟩
        simp (disch := omega) only [e112, eV_at, eV_up, o_lit2, o_add, o_sub, o_mul, o_neg, o_div, o_nat, ix_t, o_lt, o_le, o_eq, o_bi0, o_bi1, o_bib, em_t, o_neg1, o_shl, o_tb, o_tb0, o_tt, o_and, o_xor, o_or, o_max, o_min, an_tb, and_true, true_and, not_true, not_false, if_true, if_false, tn_add, tn_mul, Int.reduceToNat, tn_cast, md_x]
        rw [if_neg (by omega)]
        exact hr) (2 ^ T) 0 Y (by omega) ⟨z1, fun j hj => by rw [z2 j hj]; exact bi_f (by show ¬ (false = true); decide)⟩
    have fS : NF V S := fX.tr (fun c _ _ q3 => s1 c q3)
    have qS := q.nf fS
    have kt := m_told (L := L) (xs := xs) (J := J) (tg := tg) (d := d + 4) hI qS hT
    have hcr := cnt_rg (p := cmB (gix mn (B 7 0) sc) (2 ^ T)) 13
    have e0 : cnt (cmB (gix mn (B 7 0) sc) 0) 13 = 0 := (cnt_z 13).mpr (fun _ _ => rfl)
    rw [e0] at hrS
    refine ⟨S, ⟨fS, fun s hs => by rw [s1 112 (by decide), y1 112 (by omega)]; exact i2 s hs⟩, fun r hr => ?_⟩
    apply sg_294_45
    simp (disch := omega) only [h941 W i1, eV_at, eV_up, o_lit2, o_add, o_sub, o_mul, o_neg, o_div, o_nat, ix_t, o_lt, o_le, o_eq, o_bi0, o_bi1, o_bib, em_t, o_neg1, o_shl, o_tb, o_tb0, o_tt, o_and, o_xor, o_or, o_max, o_min, an_tb, and_true, true_and, not_true, not_false, if_true, if_false, tn_add, tn_mul, Int.reduceToNat, tn_cast, md_x]
    rw [if_neg (by omega)]
    refine ⟨_, _, y3, ?_⟩
    refine hrY _ ?_
    apply sg_294_69
    simp (disch := omega) only [eV_at, eV_up, o_lit2, o_add, o_sub, o_mul, o_neg, o_div, o_nat, ix_t, o_lt, o_le, o_eq, o_bi0, o_bi1, o_bib, em_t, o_neg1, o_shl, o_tb, o_tb0, o_tt, o_and, o_xor, o_or, o_max, o_min, an_tb, and_true, true_and, not_true, not_false, if_true, if_false, tn_add, tn_mul, Int.reduceToNat, tn_cast, md_x]
    rw [if_pos (by omega)]
    refine hrS _ ?_
    apply sg_294_93
    refine ⟨_, _, _, kt, ?_⟩
    rw [← hwe]
    simp (disch := omega) only [eV_at, eV_up, o_lit2, o_add, o_sub, o_mul, o_neg, o_div, o_nat, ix_t, o_lt, o_le, o_eq, o_bi0, o_bi1, o_bib, em_t, o_neg1, o_shl, o_tb, o_tb0, o_tt, o_and, o_xor, o_or, o_max, o_min, an_tb, and_true, true_and, not_true, not_false, if_true, if_false, tn_add, tn_mul, Int.reduceToNat, tn_cast, md_x]
    rw [if_pos (by omega)]
    by_cases c : (wpt w e).2 < w e
    · rw [if_pos c] at hws ⊢
      rw [hws] at hr
      exact hr
    · rw [if_neg c] at hws ⊢
      rw [hws] at hr
      exact hr) D 0 V (by omega) ⟨NF.rf, h112⟩
  have hwp := wpt_rg hwr D
  refine ⟨W, i1, ?_⟩
  refine hr _ ?_
  apply sg_294_45
  simp (disch := omega) only [h941 W i1, eV_at, eV_up, o_lit2, o_add, o_sub, o_mul, o_neg, o_div, o_nat, ix_t, o_lt, o_le, o_eq, o_bi0, o_bi1, o_bib, em_t, o_neg1, o_shl, o_tb, o_tb0, o_tt, o_and, o_xor, o_or, o_max, o_min, an_tb, and_true, true_and, not_true, not_false, if_true, if_false, tn_add, tn_mul, Int.reduceToNat, tn_cast, md_x]
  rw [if_pos (by omega)]
  by_cases c : 0 ≤ (wpt w D).1
  · rw [if_pos c, if_pos c]
    by_cases c3 : x3 = 0
    · rw [if_pos c3, if_pos c3] <;> first | rfl | trivial
    · rw [if_neg c3, if_neg c3] <;> first | rfl | trivial
  · rw [if_neg c, if_neg c] <;> first | rfl | trivial
end MR
theorem wpt_z {w : Nat → Int} (h : ∀ e, w e = 0) : ∀ n, wpt w n = (-1, 1)
  | 0 => rfl
  | n + 1 => by rw [wpt_s, wpt_z h n, h n, if_neg (by decide)]
theorem c_parts {L : Nat} {xs : Nat → Int32} {V : Nat → Nat → Int} {J : Nat → Nat → Int64} {tg : Option Nat} (h : INV V) {a b c : Int} (ha : (-2147483648 ≤ a ∧ a < 2147483648)) (hb : (-2147483648 ≤ b ∧ b < 2147483648)) (hc : (-2147483648 ≤ c ∧ c < 2147483648)) : ∃ (v : Int) (U W : Nat → Nat → Int) (J1 : Nat → Nat → Int64), Runs (GW L xs) 40 157 (0, [.ref 0, (Value.int (Int32.ofInt (a))), (Value.int (Int32.ofInt (b))), (Value.int (Int32.ofInt (c)))], [], zS (eV V) J tg) (some (Value.int (Int32.ofInt v)), zS (eV U) J tg) ∧ Runs (GW L xs) 40 294 (0, [.ref 93, (Value.int (Int32.ofInt (a))), (Value.int (Int32.ofInt (b))), (Value.int (Int32.ofInt (c))), vU, vU, vU, vU, vU, vU, vU], [], zS (eV U) J tg) (some (Value.int (Int32.ofInt v)), zS (eV W) J1 tg) ∧ INV W := by
  have h0 := h
  obtain ⟨hR, ⟨hA, hB, hC, hD, hE, hF, hH⟩, h2, h3, h4, h5⟩ := h
  have rD : 0 ≤ V 1 0 ∧ V 1 0 ≤ 12 := hR 1 0 (by decide) (by decide)
  have rT : 0 ≤ V 1 1 ∧ V 1 1 ≤ 12 := hR 1 1 (by decide) (by decide)
  by_cases g1 : 0 ≤ a ∧ a ≤ 5
  · by_cases g2 : 0 ≤ b ∧ b ≤ 5
    · by_cases g3 : 0 ≤ c ∧ c ≤ 1
      · obtain ⟨T, hT⟩ : ∃ T : Nat, V 1 1 = T := ⟨(V 1 1).toNat, by omega⟩
        obtain ⟨st, rfl⟩ : ∃ st : Nat, b = st := ⟨b.toNat, by omega⟩
        have r74 : 0 ≤ V 7 4 ∧ V 7 4 ≤ 999 := hR 7 4 (by decide) (by decide)
        obtain ⟨day, hday⟩ : ∃ x, x = V 7 4 := ⟨_, rfl⟩
        rw [← hday] at r74
        obtain ⟨U, P, nd, br, qU, hM, u1⟩ := k_51 (L := L) (xs := xs) (J := J) (tg := tg) (d := 34) h0 (Qy.rf h3) hT g1 r74
        obtain ⟨m3, m4, m5, m6, m7, m8, m9⟩ := id hM
        obtain ⟨X, qX, x6, x7, x1⟩ := k_57 (L := L) (xs := xs) (J := J) (tg := tg) (d := 34) h0 qU hT (st := st) (by omega) hM
        obtain ⟨W, w1, w2, w3⟩ := m_290 (L := L) (xs := xs) (J := J) (tg := tg) (d := 34) h0 qX hT g1 r74
        have qW := qX.nf w1
        have h940 : X 94 0 = day := by
          have : X 94 0 = X 7 4 := (h0.q qX).2.1.2.2.2.2.1.1.2.2.2.2.1
          rw [this, qX.1 7 (by omega), hday]
        obtain ⟨w, hw⟩ : ∃ w : Nat → Int, w = fun e => if P = true then wys V st T nd br e else 0 := ⟨_, rfl⟩
        obtain ⟨Y, y1, y2⟩ := m_294 (L := L) (xs := xs) (J := J) (tg := tg) (d := 35) h0 qW (x1 := Int32.ofInt a) g3 (st := st) (by omega) hT m6 m8 (mn := fun s => mndB V a day s (V 7 5).toNat) m9 w2 hw
        have qY := qW.nf y1
        have hwr : ∀ e, 0 ≤ w e ∧ w e ≤ 13 := fun e => by
          have := cwy_rg (lim := V 7 0) (sc := scr V e st) (nd := nd) (br := br) T
          rw [hw]; dsimp only; unfold wys
          split <;> omega
        have hwp := wpt_rg hwr (V 1 0).toNat
        have z6 : X 92 6 = (wpt w (V 1 0).toNat).1 := by
          rw [x6]
          by_cases p : P = true
          · rw [if_pos p, hw]; simp only [p, if_true]
          · rw [if_neg p, wpt_z (fun e => by rw [hw]; exact if_neg p)]
        have z7 : P = true → X 92 7 = (wpt w (V 1 0).toNat).2 := fun p => by
          rw [x7 p, hw]; simp only [p, if_true]
        have zn : ¬ P = true → (wpt w (V 1 0).toNat).1 = -1 := fun p => by rw [wpt_z (fun e => by rw [hw]; exact if_neg p)]
        have r10 : 0 ≤ V 1 0 ∧ V 1 0 ≤ 12 := hR 1 0 (by decide) (by decide)
        generalize wpt w (V 1 0).toNat = y at *
        refine ⟨if 0 ≤ y.1 then (if c = 0 then y.1 else y.2) else -1, X, Y, J, ?_, ?_, h0.q qY⟩
        · apply sg_157
          refine ⟨_, _, k_165 ha, ?_⟩
          rw [if_neg (b0_f g1)]
          refine ⟨_, _, k_166 hb, ?_⟩
          rw [if_neg (b0_f (by omega))]
          refine ⟨_, _, k_164 (a := 0) (b := 1) hc (by omega) (by omega), ?_⟩
          rw [if_neg (b0_f g3), eV_at, ← hday]
          refine ⟨_, u1, _, x1, ?_⟩
          simp (disch := omega) only [z6, eV_at, eV_up, o_lit2, o_add, o_sub, o_mul, o_neg, o_div, o_nat, ix_t, o_lt, o_le, o_eq, o_bi0, o_bi1, o_bib, em_t, o_neg1, o_shl, o_tb, o_tb0, o_tt, o_and, o_xor, o_or, o_max, o_min, an_tb, and_true, true_and, not_true, not_false, if_true, if_false, tn_add, tn_mul, Int.reduceToNat, tn_cast, md_x]
          by_cases c1 : y.1 = -1
          · rw [if_pos c1, if_neg (by omega)]
          · have p : P = true := Classical.byContradiction fun p => c1 (zn p)
            by_cases c2 : c = 0
            · rw [if_neg c1, if_pos c2]
              refine leafI ?_
              rw [if_pos (by omega), if_pos c2]
            · rw [if_neg c1, if_neg c2, z7 p]
              refine leafI ?_
              rw [if_pos (by omega), if_neg c2]
        · apply sg_294
          refine ⟨_, _, _, k_182 ha, ?_⟩
          rw [if_neg (b0_f g1)]
          refine ⟨_, _, _, k_182 hb, ?_⟩
          rw [if_neg (b0_f (by omega))]
          refine ⟨_, _, _, k_177 (a := 0) (b := 1) hc (by omega) (by omega), ?_⟩
          rw [if_neg (b0_f g3), eV_at, h940]
          exact ⟨_, _, w3, y2⟩
      · refine ⟨-1, V, V, J, ?_, ?_, h0⟩
        · apply sg_157
          refine ⟨_, _, k_165 ha, ?_⟩
          rw [if_neg (b0_f g1)]
          refine ⟨_, _, k_166 hb, ?_⟩
          rw [if_neg (b0_f g2)]
          refine ⟨_, _, k_164 (a := 0) (b := 1) hc (by omega) (by omega), ?_⟩
          rw [if_pos (b0_t g3)]; rfl
        · apply sg_294
          refine ⟨_, _, _, k_182 ha, ?_⟩
          rw [if_neg (b0_f g1)]
          refine ⟨_, _, _, k_182 hb, ?_⟩
          rw [if_neg (b0_f g2)]
          refine ⟨_, _, _, k_177 (a := 0) (b := 1) hc (by omega) (by omega), ?_⟩
          rw [if_pos (b0_t g3)]; rfl
    · refine ⟨-1, V, V, J, ?_, ?_, h0⟩
      · apply sg_157
        refine ⟨_, _, k_165 ha, ?_⟩
        rw [if_neg (b0_f g1)]
        refine ⟨_, _, k_166 hb, ?_⟩
        rw [if_pos (b0_t g2)]; rfl
      · apply sg_294
        refine ⟨_, _, _, k_182 ha, ?_⟩
        rw [if_neg (b0_f g1)]
        refine ⟨_, _, _, k_182 hb, ?_⟩
        rw [if_pos (b0_t g2)]; rfl
  · refine ⟨-1, V, V, J, ?_, ?_, h0⟩
    · apply sg_157
      refine ⟨_, _, k_165 ha, ?_⟩
      rw [if_pos (b0_t g1)]; rfl
    · apply sg_294
      refine ⟨_, _, _, k_182 ha, ?_⟩
      rw [if_pos (b0_t g1)]; rfl
