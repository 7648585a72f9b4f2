/-! Names and keywords in the reference. -/
def kc (k : Nat) : Int64 := Int64.ofNat (pkN wch (wof k) (wln k))
theorem pkN_v : ∀ k, k < 17 → pkN wch (wof k) (wln k) < 2 ^ 63 ∧ ∀ j, j < 17 → pkN wch (wof k) (wln k) = pkN wch (wof j) (wln j) → k = j := by decide
theorem kc_inj {j k : Nat} (hj : j < 17) (hk : k < 17) (h : kc j = kc k) : j = k := (pkN_v j hj).2 k hk ((i64_inj (pkN_v j hj).1 (pkN_v k hk).1).mp h)
theorem wf_spec {b : Nat → Int} {f t : Nat} : ∀ n k, (wfd b f t n k = -1 ∧ ∀ j, k ≤ j → j < k + n → ¬ wEq b f t j) ∨ ∃ j : Nat, wfd b f t n k = j ∧ k ≤ j ∧ j < k + n ∧ wEq b f t j
  | 0, k => Or.inl ⟨rfl, fun j h1 h2 => by omega⟩
  | n + 1, k => by
    unfold wfd
    by_cases c : wEq b f t k
    · rw [if_pos c]; exact Or.inr ⟨k, rfl, by omega, by omega, c⟩
    · rw [if_neg c]
      rcases wf_spec (b := b) (f := f) (t := t) n (k + 1) with ⟨h1, h2⟩ | ⟨j, h1, h2, h3, h4⟩
      · refine Or.inl ⟨h1, fun j a1 a2 => ?_⟩
        by_cases e : j = k
        · rw [e]; exact c
        · exact h2 j (by omega) (by omega)
      · exact Or.inr ⟨j, h1, by omega, by omega, h4⟩
theorem wf_iff {b : Nat → Int} {f t k : Nat} (hk : k < 17) (hft : f ≤ t) (hb : ∀ i, f ≤ i → i < t → isL (b i) = true) : wpk b f t = kc k ↔ wfd b f t 17 0 = k := by
  unfold kc
  rw [wpk_eq hk hft hb]
  rcases wf_spec (b := b) (f := f) (t := t) 17 0 with ⟨h1, h2⟩ | ⟨j, h1, h2, h3, h4⟩
  · rw [h1]; exact ⟨fun h => absurd h (h2 k (by omega) (by omega)), fun h => by omega⟩
  · rw [h1]
    constructor
    · intro h
      have e1 := (wpk_eq (by omega : j < 17) hft hb).mpr h4
      have e2 := (wpk_eq hk hft hb).mpr h
      have := kc_inj (by omega) hk (e1.symm.trans e2)
      rw [this]
    · intro h
      have : j = k := by omega
      rw [← this]; exact h4
theorem wcmp {b : Nat → Int} {f t k : Nat} {y x : Int64} (hJ : y = wpk b f t) (hx : x = kc k) (hk : k < 17) (hft : f ≤ t) (hb : ∀ i, f ≤ i → i < t → isL (b i) = true) : lg_cmp y x = 0 ↔ wfd b f t 17 0 = k := by
  rw [lg_e, hJ, hx, wf_iff hk hft hb]
/-- the reference stands before the TOKEN at f -/
abbrev TK (V : Nat → Nat → Int) (J : Nat → Nat → Int64) (b : Nat → Int) (N f : Nat) : Prop := V 93 13 = (lxT b N f : Nat) ∧ V 93 14 = f ∧ V 93 15 = rK b N f ∧ (f < N → isD (b f) = true → V 93 16 = nmr b f (en isD b N f - f)) ∧ (f < N → isD (b f) = false → isL (b f) = true → J 93 17 = wpk b f (en isL b N f))
theorem rK_rg {b : Nat → Int} {N f : Nat} (hb : ∀ k, k < N → 0 ≤ b k ∧ b k ≤ 255) : 0 ≤ rK b N f ∧ rK b N f ≤ 255 := by
  unfold rK
  by_cases c : N ≤ f
  · rw [if_pos c]; omega
  · have := hb f (by omega)
    rw [if_neg c]
    (repeat' split) <;> omega
theorem lxK_rg {b : Nat → Int} {N f : Nat} : 0 ≤ lxK b N f ∧ lxK b N f ≤ 20 := by
  have h1 := wfd_rg (b := b) (f := f) (t := en isL b N f) 17 0
  have h2 := sgn_rg (b f)
  unfold lxK wtk
  (repeat' split) <;> omega
theorem lxK_sg (a : Int) : (sgn a = 35 → False) ∧ (sgn a = 1 ∨ (a = 35 ∧ sgn a = 14) ∨ (a = 40 ∧ sgn a = 18) ∨ (a = 41 ∧ sgn a = 19) ∨ (a = 42 ∧ sgn a = 17) ∨ (a = 43 ∧ sgn a = 15) ∨ (a = 45 ∧ sgn a = 16) ∨ (a = 59 ∧ sgn a = 20) ∨ (a = 60 ∧ sgn a = 9) ∨ (a = 61 ∧ sgn a = 13) ∨ (a = 62 ∧ sgn a = 11)) := by
  unfold sgn; (repeat' split) <;> omega
/-- the two codes of a TOKEN -/
theorem rk_lx {b : Nat → Int} {N f : Nat} : (lxK b N f = 0 ∧ rK b N f = 0 ∧ N ≤ f) ∨ (f < N ∧ ((lxK b N f = 2 ∧ rK b N f = 1 ∧ isD (b f) = true) ∨ (lxK b N f = wtk (wfd b f (en isL b N f) 17 0) ∧ rK b N f = 2 ∧ isD (b f) = false ∧ isL (b f) = true) ∨ (lxK b N f = 1 ∧ rK b N f = 3) ∨ (lxK b N f = 9 ∧ rK b N f = 60) ∨ (lxK b N f = 10 ∧ rK b N f = 4) ∨ (lxK b N f = 11 ∧ rK b N f = 62) ∨ (lxK b N f = 12 ∧ rK b N f = 5) ∨ (lxK b N f = 13 ∧ rK b N f = 61) ∨ (lxK b N f = 14 ∧ rK b N f = 35) ∨ (lxK b N f = 15 ∧ rK b N f = 43) ∨ (lxK b N f = 16 ∧ rK b N f = 45) ∨ (lxK b N f = 17 ∧ rK b N f = 42) ∨ (lxK b N f = 18 ∧ rK b N f = 40) ∨ (lxK b N f = 19 ∧ rK b N f = 41) ∨ (lxK b N f = 20 ∧ rK b N f = 59))) := by
  obtain ⟨-, h2⟩ := lxK_sg (b f)
  unfold lxK rK
  by_cases c : N ≤ f
  · rw [if_pos c, if_pos c]; exact Or.inl ⟨rfl, rfl, c⟩
  · rw [if_neg c, if_neg c]
    refine Or.inr ⟨by omega, ?_⟩
    by_cases cD : isD (b f) = true
    · rw [if_pos cD, if_pos cD]; exact Or.inl ⟨rfl, rfl, cD⟩
    · rw [if_neg cD, if_neg cD]
      by_cases cL : isL (b f) = true
      · rw [if_pos cL, if_pos cL]; exact Or.inr (Or.inl ⟨rfl, rfl, by simpa using cD, cL⟩)
      · rw [if_neg cL, if_neg cL]
        refine Or.inr (Or.inr ?_)
        by_cases cB : dbl b N f
        · rw [if_pos cB, if_pos cB]
          rcases cB.1 with e | e
          · rw [if_pos e, e]; exact Or.inr (Or.inr (Or.inl ⟨rfl, rfl⟩))
          · rw [if_neg (by omega), e]; exact Or.inr (Or.inr (Or.inr (Or.inr (Or.inl ⟨rfl, rfl⟩))))
        · rw [if_neg cB, if_neg cB]
          by_cases c1 : sgn (b f) = 1
          · rw [if_pos c1]; exact Or.inl ⟨c1, rfl⟩
          · rw [if_neg c1]
            rcases h2 with h | ⟨ha, hs⟩ | ⟨ha, hs⟩ | ⟨ha, hs⟩ | ⟨ha, hs⟩ | ⟨ha, hs⟩ | ⟨ha, hs⟩ | ⟨ha, hs⟩ | ⟨ha, hs⟩ | ⟨ha, hs⟩ | ⟨ha, hs⟩
            · exact absurd h c1
            all_goals (rw [hs, ha]; decide)
/-- a word's code -/
theorem wtk_k {v : Int} (h : v = -1 ∨ (0 ≤ v ∧ v < 17)) : (wtk v = 1 ↔ v = -1) ∧ (wtk v = 3 ↔ 0 ≤ v ∧ v < 12) ∧ (∀ j : Int, 4 ≤ j → j ≤ 8 → (wtk v = j ↔ v = j + 8)) ∧ (wtk v = 1 ∨ (3 ≤ wtk v ∧ wtk v ≤ 8)) := by
  unfold wtk
  refine ⟨?_, ?_, fun j h1 h2 => ?_, ?_⟩ <;> (repeat' split) <;> omega
section LR
variable {L d : Nat} {xs : Nat → Int32} {V : Nat → Nat → Int} {J : Nat → Nat → Int64} {tg : Option Nat} {b : Nat → Int} {N : Nat}
theorem m_214 {a1 a2 a3 : Int32} : Runs (GW L xs) (d) 214 (0, [.int a1, .int a2, .int a3], [], zS (eV (V)) (J) tg) (some (.long (((((Int32.toInt64 a1) <<< (Int32.toInt64 8 &&& 63)) ||| (Int32.toInt64 a2)) <<< (Int32.toInt64 8 &&& 63)) ||| (Int32.toInt64 a3))), zS (eV (V)) (J) tg) := sg_214 _ _ _ _ _ _ rfl
theorem m_215 {a1 a2 a3 a4 a5 : Int32} : Runs (GW L xs) (d + 1) 215 (0, [.int a1, .int a2, .int a3, .int a4, .int a5], [], zS (eV (V)) (J) tg) (some (.long ((((((((((Int32.toInt64 a1) <<< (Int32.toInt64 8 &&& 63)) ||| (Int32.toInt64 a2)) <<< (Int32.toInt64 8 &&& 63)) ||| (Int32.toInt64 a3)) <<< (Int32.toInt64 8 &&& 63)) ||| (Int32.toInt64 a4))) <<< (Int32.toInt64 8 &&& 63)) ||| (Int32.toInt64 a5))), zS (eV (V)) (J) tg) := sg_215 _ _ _ _ _ _ _ _ ⟨_, _, _, m_214, rfl⟩
theorem m_216 {a1 a2 a3 a4 : Int32} : Runs (GW L xs) (d + 1) 216 (0, [.int a1, .int a2, .int a3, .int a4], [], zS (eV (V)) (J) tg) (some (.long ((((((((Int32.toInt64 a1) <<< (Int32.toInt64 8 &&& 63)) ||| (Int32.toInt64 a2)) <<< (Int32.toInt64 8 &&& 63)) ||| (Int32.toInt64 a3))) <<< (Int32.toInt64 8 &&& 63)) ||| (Int32.toInt64 a4))), zS (eV (V)) (J) tg) := sg_216 _ _ _ _ _ _ _ ⟨_, _, _, m_214, rfl⟩
theorem m_217 {a1 a2 a3 a4 a5 a6 : Int32} : Runs (GW L xs) (d + 2) 217 (0, [.int a1, .int a2, .int a3, .int a4, .int a5, .int a6], [], zS (eV (V)) (J) tg) (some (.long ((((((((((((Int32.toInt64 a1) <<< (Int32.toInt64 8 &&& 63)) ||| (Int32.toInt64 a2)) <<< (Int32.toInt64 8 &&& 63)) ||| (Int32.toInt64 a3)) <<< (Int32.toInt64 8 &&& 63)) ||| (Int32.toInt64 a4))) <<< (Int32.toInt64 8 &&& 63)) ||| (Int32.toInt64 a5)) <<< (Int32.toInt64 8 &&& 63)) ||| (Int32.toInt64 a6))), zS (eV (V)) (J) tg) := sg_217 _ _ _ _ _ _ _ _ _ ⟨_, _, _, m_215, rfl⟩
theorem m_218 {c : Int64} (hr : 0 ≤ V 93 15 ∧ V 93 15 ≤ 255) : Runs (GW L xs) (d) 218 (0, [.ref 93, .long c, vU], [], zS (eV (V)) (J) tg) (some (Value.int (Int32.ofInt (bi (V 93 15 = 2 ∧ J 93 17 = c)))), zS (eV (V)) (J) tg) := by
  apply sg_218
  by_cases h : V 93 15 = 2
  · refine ite_p (by rw [eV_at, h]; rfl) ?_
    by_cases h2 : J 93 17 = c
    · refine ite_p (by rw [lg_e]; exact h2) ?_
      rw [← bi_t (show V 93 15 = 2 ∧ J 93 17 = c from ⟨h, h2⟩)]; rfl
    · refine ite_n (by rw [lg_e]; exact h2) ?_
      rw [← bi_f (show ¬ (V 93 15 = 2 ∧ J 93 17 = c) from fun q => h2 q.2)]; rfl
  · have hn : ¬ (eV V) 93 15 = 2 := by
      rw [eV_at]
      intro q
      have q : Int32.ofInt (V 93 15) = Int32.ofInt 2 := q
      rw [o_eq (by omega) (by omega)] at q
      exact h q
    refine ite_n hn ?_
    rw [← bi_f (show ¬ (V 93 15 = 2 ∧ J 93 17 = c) from fun q => h q.1)]; rfl
/-- nameOf -/
theorem m_220 (hT : TPR V b N) {f : Nat} (hf : f ≤ N) (hk : TK V J b N f) : Runs (GW L xs) (d + 3) 220 (0, [.ref 93], [], zS (eV (V)) (J) tg) (some (Value.int (Int32.ofInt (if lxK b N f = 3 then lxV b N f else -1))), zS (eV (V)) (J) tg) := by
  obtain ⟨k1, k2, k3, k4, k5⟩ := hk
  have hr := rK_rg (b := b) (N := N) (f := f) (fun k hk => (hT.2.2 k hk).2)
  apply sg_220
  by_cases c : rK b N f = 2
  · have hc := rk_lx (b := b) (N := N) (f := f)
    obtain ⟨cN, cK, cD, cL⟩ : f < N ∧ lxK b N f = wtk (wfd b f (en isL b N f) 17 0) ∧ isD (b f) = false ∧ isL (b f) = true := by
      rcases hc with h | ⟨h0, h | ⟨h1, h2, h3, h4⟩ | h⟩
      · omega
      · omega
      · exact ⟨h0, h1, h3, h4⟩
      · omega
    have cV : lxV b N f = wfd b f (en isL b N f) 17 0 := by unfold lxV; rw [if_neg (by rw [cD]; decide)]
    obtain ⟨e1, e2, e3, e4⟩ := en_ch (f := isL) (b := b) hf
    have hJ := k5 cN cD cL
    have hrg := wfd_rg (b := b) (f := f) (t := en isL b N f) 17 0
    rw [cK, cV]
    generalize en isL b N f = t at *
    refine ite_p (by rw [eV_at, k3, c]; rfl) ?_
    have fin : ∀ k : Nat, k < 12 → wfd b f t 17 0 = k → (if wtk (wfd b f t 17 0) = 3 then wfd b f t 17 0 else -1) = k := fun k hk e => by
      rw [if_pos ((wtk_k (by omega)).2.1.mpr (by omega)), e]
    refine ⟨_, _, _, m_215 (L := L) (xs := xs) (V := V) (J := J) (tg := tg) (d := d + 1) (a1 := 108) (a2 := 105) (a3 := 110) (a4 := 101) (a5 := 115), ?_⟩
    by_cases w0 : wfd b f t 17 0 = 0
    · refine ite_p ((wcmp (k := 0) hJ (by decide) (by decide) e1 e3).mpr w0) ?_
      rw [fin 0 (by decide) w0]; rfl
    refine ite_n (fun q => w0 ((wcmp (k := 0) hJ (by decide) (by decide) e1 e3).mp q)) ?_
    refine ⟨_, _, _, m_217 (L := L) (xs := xs) (V := V) (J := J) (tg := tg) (d := d) (a1 := 99) (a2 := 105) (a3 := 114) (a4 := 99) (a5 := 108) (a6 := 101), ?_⟩
    by_cases w1 : wfd b f t 17 0 = 1
    · refine ite_p ((wcmp (k := 1) hJ (by decide) (by decide) e1 e3).mpr w1) ?_
      rw [fin 1 (by decide) w1]; rfl
    refine ite_n (fun q => w1 ((wcmp (k := 1) hJ (by decide) (by decide) e1 e3).mp q)) ?_
    refine ⟨_, _, _, m_216 (L := L) (xs := xs) (V := V) (J := J) (tg := tg) (d := d + 1) (a1 := 98) (a2 := 97) (a3 := 114) (a4 := 115), ?_⟩
    by_cases w2 : wfd b f t 17 0 = 2
    · refine ite_p ((wcmp (k := 2) hJ (by decide) (by decide) e1 e3).mpr w2) ?_
      rw [fin 2 (by decide) w2]; rfl
    refine ite_n (fun q => w2 ((wcmp (k := 2) hJ (by decide) (by decide) e1 e3).mp q)) ?_
    refine ⟨_, _, _, m_217 (L := L) (xs := xs) (V := V) (J := J) (tg := tg) (d := d) (a1 := 97) (a2 := 114) (a3 := 114) (a4 := 111) (a5 := 119) (a6 := 115), ?_⟩
    by_cases w3 : wfd b f t 17 0 = 3
    · refine ite_p ((wcmp (k := 3) hJ (by decide) (by decide) e1 e3).mpr w3) ?_
      rw [fin 3 (by decide) w3]; rfl
    refine ite_n (fun q => w3 ((wcmp (k := 3) hJ (by decide) (by decide) e1 e3).mp q)) ?_
    refine ⟨_, _, _, m_215 (L := L) (xs := xs) (V := V) (J := J) (tg := tg) (d := d + 1) (a1 := 102) (a2 := 105) (a3 := 108) (a4 := 108) (a5 := 115), ?_⟩
    by_cases w4 : wfd b f t 17 0 = 4
    · refine ite_p ((wcmp (k := 4) hJ (by decide) (by decide) e1 e3).mpr w4) ?_
      rw [fin 4 (by decide) w4]; rfl
    refine ite_n (fun q => w4 ((wcmp (k := 4) hJ (by decide) (by decide) e1 e3).mp q)) ?_
    refine ⟨_, _, _, m_215 (L := L) (xs := xs) (V := V) (J := J) (tg := tg) (d := d + 1) (a1 := 112) (a2 := 97) (a3 := 114) (a4 := 116) (a5 := 115), ?_⟩
    by_cases w5 : wfd b f t 17 0 = 5
    · refine ite_p ((wcmp (k := 5) hJ (by decide) (by decide) e1 e3).mpr w5) ?_
      rw [fin 5 (by decide) w5]; rfl
    refine ite_n (fun q => w5 ((wcmp (k := 5) hJ (by decide) (by decide) e1 e3).mp q)) ?_
    refine ⟨_, _, _, m_217 (L := L) (xs := xs) (V := V) (J := J) (tg := tg) (d := d) (a1 := 99) (a2 := 111) (a3 := 108) (a4 := 111) (a5 := 117) (a6 := 114), ?_⟩
    by_cases w6 : wfd b f t 17 0 = 6
    · refine ite_p ((wcmp (k := 6) hJ (by decide) (by decide) e1 e3).mpr w6) ?_
      rw [fin 6 (by decide) w6]; rfl
    refine ite_n (fun q => w6 ((wcmp (k := 6) hJ (by decide) (by decide) e1 e3).mp q)) ?_
    refine ⟨_, _, _, m_215 (L := L) (xs := xs) (V := V) (J := J) (tg := tg) (d := d + 1) (a1 := 109) (a2 := 101) (a3 := 97) (a4 := 110) (a5 := 115), ?_⟩
    by_cases w7 : wfd b f t 17 0 = 7
    · refine ite_p ((wcmp (k := 7) hJ (by decide) (by decide) e1 e3).mpr w7) ?_
      rw [fin 7 (by decide) w7]; rfl
    refine ite_n (fun q => w7 ((wcmp (k := 7) hJ (by decide) (by decide) e1 e3).mp q)) ?_
    refine ⟨_, _, _, m_216 (L := L) (xs := xs) (V := V) (J := J) (tg := tg) (d := d + 1) (a1 := 116) (a2 := 111) (a3 := 111) (a4 := 107), ?_⟩
    by_cases w8 : wfd b f t 17 0 = 8
    · refine ite_p ((wcmp (k := 8) hJ (by decide) (by decide) e1 e3).mpr w8) ?_
      rw [fin 8 (by decide) w8]; rfl
    refine ite_n (fun q => w8 ((wcmp (k := 8) hJ (by decide) (by decide) e1 e3).mp q)) ?_
    refine ⟨_, _, _, m_217 (L := L) (xs := xs) (V := V) (J := J) (tg := tg) (d := d) (a1 := 116) (a2 := 117) (a3 := 114) (a4 := 110) (a5 := 101) (a6 := 100), ?_⟩
    by_cases w9 : wfd b f t 17 0 = 9
    · refine ite_p ((wcmp (k := 9) hJ (by decide) (by decide) e1 e3).mpr w9) ?_
      rw [fin 9 (by decide) w9]; rfl
    refine ite_n (fun q => w9 ((wcmp (k := 9) hJ (by decide) (by decide) e1 e3).mp q)) ?_
    refine ⟨_, _, _, m_216 (L := L) (xs := xs) (V := V) (J := J) (tg := tg) (d := d + 1) (a1 := 108) (a2 := 97) (a3 := 110) (a4 := 100), ?_⟩
    by_cases w10 : wfd b f t 17 0 = 10
    · refine ite_p ((wcmp (k := 10) hJ (by decide) (by decide) e1 e3).mpr w10) ?_
      rw [fin 10 (by decide) w10]; rfl
    refine ite_n (fun q => w10 ((wcmp (k := 10) hJ (by decide) (by decide) e1 e3).mp q)) ?_
    refine ⟨_, _, _, m_216 (L := L) (xs := xs) (V := V) (J := J) (tg := tg) (d := d + 1) (a1 := 115) (a2 := 105) (a3 := 116) (a4 := 101), ?_⟩
    by_cases w11 : wfd b f t 17 0 = 11
    · refine ite_p ((wcmp (k := 11) hJ (by decide) (by decide) e1 e3).mpr w11) ?_
      rw [fin 11 (by decide) w11]; rfl
    refine ite_n (fun q => w11 ((wcmp (k := 11) hJ (by decide) (by decide) e1 e3).mp q)) ?_

    rw [if_neg (fun q => by have := (wtk_k (v := wfd b f t 17 0) (by omega)).2.1.mp q; omega)]
    rfl
  · refine ite_n ?_ ?_
    · rw [eV_at, k3]
      intro q
      have q : Int32.ofInt (rK b N f) = Int32.ofInt 2 := q
      rw [o_eq (by omega) (by omega)] at q
      exact c q
    · have hc := rk_lx (b := b) (N := N) (f := f)
      rw [if_neg (by omega)]
      rfl
/-- a keyword -/
theorem kw_iff {f : Nat} (hf : f ≤ N) (hk : TK V J b N f) {k : Nat} (h12 : 12 ≤ k) (h17 : k < 17) : (V 93 15 = 2 ∧ J 93 17 = kc k) ↔ lxK b N f = (k : Int) - 8 := by
  obtain ⟨k1, k2, k3, k4, k5⟩ := hk
  have hc := rk_lx (b := b) (N := N) (f := f)
  rw [k3]
  by_cases c : rK b N f = 2
  · obtain ⟨cN, cK, cD, cL⟩ : f < N ∧ lxK b N f = wtk (wfd b f (en isL b N f) 17 0) ∧ isD (b f) = false ∧ isL (b f) = true := by
      rcases hc with h | ⟨h0, h | ⟨h1, h2, h3, h4⟩ | h⟩
      · omega
      · omega
      · exact ⟨h0, h1, h3, h4⟩
      · omega
    obtain ⟨e1, e2, e3, e4⟩ := en_ch (f := isL) (b := b) hf
    have hrg := wfd_rg (b := b) (f := f) (t := en isL b N f) 17 0
    rw [k5 cN cD cL, wf_iff h17 e1 e3, cK, (wtk_k (v := wfd b f (en isL b N f) 17 0) (by omega)).2.2.1 ((k : Int) - 8) (by omega) (by omega)]
    constructor
    · intro h; have := h.2; omega
    · intro h; exact ⟨c, by omega⟩
  · constructor
    · intro h; exact absurd h.1 c
    · intro h; omega
theorem m_218k (hT : TPR V b N) {f : Nat} (hf : f ≤ N) (hk : TK V J b N f) {k : Nat} (h12 : 12 ≤ k) (h17 : k < 17) {c : Int64} (hc : c = kc k) : Runs (GW L xs) (d) 218 (0, [.ref 93, .long c, vU], [], zS (eV (V)) (J) tg) (some (Value.int (Int32.ofInt (bi (lxK b N f = (k : Int) - 8)))), zS (eV (V)) (J) tg) := by
  have hr := rK_rg (b := b) (N := N) (f := f) (fun k hk => (hT.2.2 k hk).2)
  have h := m_218 (L := L) (xs := xs) (V := V) (J := J) (tg := tg) (d := d) (c := c) (by rw [hk.2.2.1]; exact hr)
  have e : bi (V 93 15 = 2 ∧ J 93 17 = c) = bi (lxK b N f = (k : Int) - 8) := by
    have q := kw_iff hf hk h12 h17
    rw [← hc] at q
    unfold bi
    by_cases z : lxK b N f = (k : Int) - 8
    · rw [if_pos z, if_pos (q.mpr z)]
    · rw [if_neg z, if_neg (fun y => z (q.mp y))]
  rw [e] at h
  exact h
/-- sortOf -/
theorem m_230 (hT : TPR V b N) {f : Nat} (hf : f ≤ N) (hk : TK V J b N f) : Runs (GW L xs) (d + 2) 230 (0, [.ref 93], [], zS (eV (V)) (J) tg) (some (Value.int (Int32.ofInt (if 4 ≤ lxK b N f ∧ lxK b N f ≤ 6 then lxK b N f - 3 else 0))), zS (eV (V)) (J) tg) := by
  apply sg_230
  refine ⟨_, _, _, m_214, _, _, _, m_218k hT hf hk (k := 12) (by decide) (by decide) (by decide), ?_⟩
  by_cases c4 : lxK b N f = 4
  · refine ite_n (b0_f (by omega)) ?_
    rw [if_pos (by omega), c4]; rfl
  refine ite_p (b0_t (by omega)) ?_
  refine ⟨_, _, _, m_216, _, _, _, m_218k hT hf hk (k := 13) (by decide) (by decide) (by decide), ?_⟩
  by_cases c5 : lxK b N f = 5
  · refine ite_n (b0_f (by omega)) ?_
    rw [if_pos (by omega), c5]; rfl
  refine ite_p (b0_t (by omega)) ?_
  refine ⟨_, _, _, m_216, _, _, _, m_218k hT hf hk (k := 14) (by decide) (by decide) (by decide), ?_⟩
  by_cases c6 : lxK b N f = 6
  · refine ite_n (b0_f (by omega)) ?_
    rw [if_pos (by omega), c6]; rfl
  refine ite_p (b0_t (by omega)) ?_
  rw [if_neg (by omega)]; rfl
end LR
