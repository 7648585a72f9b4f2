/-! The two objects at their start. -/
theorem vz {c : Nat} (h : c ≠ 1 ∧ c ≠ 5 ∧ c ≠ 7 ∧ c ≠ 18 ∧ c ≠ 23 ∧ c ≠ 27 ∧ c ≠ 29 ∧ c ≠ 40 ∧ c ≠ 47 ∧ c ≠ 51 ∧ c ≠ 55 ∧ c ≠ 59 ∧ c ≠ 63 ∧ c ≠ 67 ∧ c ≠ 71 ∧ c ≠ 93 ∧ c ≠ 94 ∧ c ≠ 95) : vf c = fun _ => 0 := by
  unfold vf vf1
  simp (disch := omega) only [cpV_ne, w_ne, flV_ne]
def lk0 (p : Nat) : Int := if p = 5 then 3 else if p = 4 then 5 else if p = 3 then 1 else if p = 2 then 2 else 0
def wd0 (p : Nat) : Int := if p = 3 then 100 else if p = 2 then 400 else if p = 1 then 4 else if p = 0 then 12 else 0
def md0 (p : Nat) : Int := if p = 15 then 100 else if p = 14 then 400 else if p = 13 then 4 else if p = 12 then 12 else if p = 11 then 3 else if p = 10 then 5 else if p = 9 then 1 else if p = 8 then 2 else if p = 4 then -1 else 0
theorem v_1 (p : Nat) : vf 1 p = lk0 p := by
  unfold vf vf1 lk0
  simp (disch := omega) only [cpV_ne, w_nc, w_at, flV_ne]
theorem v_23 (p : Nat) : vf 23 p = lk0 p := by
  unfold vf vf1 lk0
  simp (disch := omega) only [cpV_ne, w_nc, w_at, flV_ne]
theorem v_5 (p : Nat) : vf 5 p = if p < 12 then -1 else 0 := by
  unfold vf vf1
  simp (disch := omega) only [cpV_ne, w_nc, w_at, flV_ne, flV_at]
theorem v_27 (p : Nat) : vf 27 p = if p < 12 then -1 else 0 := by
  unfold vf vf1
  simp (disch := omega) only [cpV_ne, w_nc, w_at, flV_ne, flV_at]
theorem v_71 (p : Nat) : vf 71 p = if p < 576 then -1 else 0 := by
  unfold vf vf1
  simp (disch := omega) only [cpV_ne, w_nc, w_at, flV_ne, flV_at]
theorem v_7 (p : Nat) : vf 7 p = wd0 p := by
  unfold vf vf1 wd0
  simp (disch := omega) only [cpV_ne, w_nc, w_at, flV_ne]
theorem v_29 (p : Nat) : vf 29 p = wd0 p := by
  unfold vf vf1 wd0
  simp (disch := omega) only [cpV_ne, w_nc, w_at, flV_ne]
theorem v_18 (p : Nat) : vf 18 p = if p = 1 then -1 else 0 := by
  unfold vf vf1
  simp (disch := omega) only [cpV_ne, w_nc, w_at, flV_ne]
theorem v_40 (p : Nat) : vf 40 p = if p = 1 then -1 else 0 := by
  unfold vf vf1
  simp (disch := omega) only [cpV_ne, w_nc, w_at, flV_ne]
theorem v_94 (p : Nat) : vf 94 p = md0 p := by
  unfold vf vf1 md0
  simp (disch := omega) only [cpV_ne, w_nc, w_at, flV_ne]
theorem v_95 (p : Nat) : vf 95 p = if p < 1200 then md0 p else 0 := by
  have h := v_94 p
  unfold vf at h ⊢
  rw [cpV_ne (by decide)] at h
  rw [cpV_at, h]
  unfold vf1
  simp (disch := omega) only [w_nc, flV_ne]
theorem md0_z {p : Nat} (h : 16 ≤ p) : md0 p = 0 := by
  unfold md0
  rw [if_neg (by omega), if_neg (by omega), if_neg (by omega), if_neg (by omega), if_neg (by omega), if_neg (by omega), if_neg (by omega), if_neg (by omega), if_neg (by omega)]
theorem v_94z {p : Nat} (h : 16 ≤ p) : vf 94 p = 0 := by rw [v_94, md0_z h]
theorem v_95z {p : Nat} (h : 16 ≤ p) : vf 95 p = 0 := by rw [v_95, md0_z h]; split <;> rfl
theorem lk0_rg (p : Nat) : (rgL p).1 ≤ lk0 p ∧ lk0 p ≤ (rgL p).2 := by
  rcases p with _ | _ | _ | _ | _ | _ | p
  · decide
  · decide
  · decide
  · decide
  · decide
  · decide
  · show (0 : Int) ≤ lk0 (p + 6) ∧ lk0 (p + 6) ≤ 99
    unfold lk0
    rw [if_neg (by omega), if_neg (by omega), if_neg (by omega), if_neg (by omega)]
    decide
theorem wd0_rg (p : Nat) : (rgW p).1 ≤ wd0 p ∧ wd0 p ≤ (rgW p).2 := by
  rcases p with _ | _ | _ | _ | _ | _ | p
  · decide
  · decide
  · decide
  · decide
  · decide
  · decide
  · show (-1000 : Int) ≤ wd0 (p + 6) ∧ wd0 (p + 6) ≤ 1000
    unfold wd0
    rw [if_neg (by omega), if_neg (by omega), if_neg (by omega), if_neg (by omega)]
    decide
theorem ls0_rg (p : Nat) : (rgI p).1 ≤ (if p = 1 then -1 else 0 : Int) ∧ (if p = 1 then -1 else 0 : Int) ≤ (rgI p).2 := by
  rcases p with _ | _ | _ | _ | p
  · decide
  · decide
  · decide
  · decide
  · show (0 : Int) ≤ (if p + 4 = 1 then -1 else 0 : Int) ∧ (if p + 4 = 1 then -1 else 0 : Int) ≤ 99
    rw [if_neg (by omega)]
    decide
theorem vf_rng : RNG vf := by
  intro c p h1 h2
  have hc : c = 1 ∨ c = 2 ∨ c = 3 ∨ c = 4 ∨ c = 5 ∨ c = 6 ∨ c = 7 ∨ c = 8 ∨ c = 9 ∨ c = 10 ∨ c = 11 ∨ c = 12 ∨ c = 13 ∨ c = 14 ∨ c = 15 ∨ c = 16 ∨ c = 17 ∨ c = 18 ∨ c = 19 ∨ c = 20 ∨ c = 21 ∨ c = 22 ∨ c = 23 ∨ c = 24 ∨ c = 25 ∨ c = 26 ∨ c = 27 ∨ c = 28 ∨ c = 29 ∨ c = 30 ∨ c = 31 ∨ c = 32 ∨ c = 33 ∨ c = 34 ∨ c = 35 ∨ c = 36 ∨ c = 37 ∨ c = 38 ∨ c = 39 ∨ c = 40 ∨ c = 41 ∨ c = 42 ∨ c = 43 ∨ c = 44 := by omega
  rcases hc with rfl | rfl | rfl | rfl | rfl | rfl | rfl | rfl | rfl | rfl | rfl | rfl | rfl | rfl | rfl | rfl | rfl | rfl | rfl | rfl | rfl | rfl | rfl | rfl | rfl | rfl | rfl | rfl | rfl | rfl | rfl | rfl | rfl | rfl | rfl | rfl | rfl | rfl | rfl | rfl | rfl | rfl | rfl | rfl
  · rw [v_1]; exact lk0_rg p
  · rw [vz (by decide)]; exact (show (0 : Int) ≤ 0 ∧ (0 : Int) ≤ 179 by decide)
  · rw [vz (by decide)]; exact (show (0 : Int) ≤ 0 ∧ (0 : Int) ≤ 6 by decide)
  · rw [vz (by decide)]; exact (show (0 : Int) ≤ 0 ∧ (0 : Int) ≤ 3 by decide)
  · rw [v_5]; show (-1 : Int) ≤ _ ∧ _ ≤ (11 : Int); split <;> decide
  · rw [vz (by decide)]; exact (show (0 : Int) ≤ 0 ∧ (0 : Int) ≤ 1 by decide)
  · rw [v_7]; exact wd0_rg p
  · rw [vz (by decide)]; exact (show (0 : Int) ≤ 0 ∧ (0 : Int) ≤ 99 by decide)
  · rw [vz (by decide)]; exact (show (0 : Int) ≤ 0 ∧ (0 : Int) ≤ 4095 by decide)
  · rw [vz (by decide)]; exact (show (0 : Int) ≤ 0 ∧ (0 : Int) ≤ 99 by decide)
  · rw [vz (by decide)]; exact (show (0 : Int) ≤ 0 ∧ (0 : Int) ≤ 5 by decide)
  · rw [vz (by decide)]; exact (show (0 : Int) ≤ 0 ∧ (0 : Int) ≤ 1000 by decide)
  · rw [vz (by decide)]; exact (show (0 : Int) ≤ 0 ∧ (0 : Int) ≤ 5 by decide)
  · rw [vz (by decide)]; exact (show (0 : Int) ≤ 0 ∧ (0 : Int) ≤ 5 by decide)
  · rw [vz (by decide)]; exact (show (0 : Int) ≤ 0 ∧ (0 : Int) ≤ 11 by decide)
  · rw [vz (by decide)]; exact (show (-1 : Int) ≤ 0 ∧ (0 : Int) ≤ 11 by decide)
  · rw [vz (by decide)]; exact (show (0 : Int) ≤ 0 ∧ (0 : Int) ≤ 999 by decide)
  · rw [v_18]; exact ls0_rg p
  · rw [vz (by decide)]; exact (show (0 : Int) ≤ 0 ∧ (0 : Int) ≤ 179 by decide)
  · rw [vz (by decide)]; exact (show (0 : Int) ≤ 0 ∧ (0 : Int) ≤ 11 by decide)
  · rw [vz (by decide)]; exact (show (0 : Int) ≤ 0 ∧ (0 : Int) ≤ 4 by decide)
  · rw [vz (by decide)]; exact (show (0 : Int) ≤ 0 ∧ (0 : Int) ≤ 11 by decide)
  · rw [v_23]; exact lk0_rg p
  · rw [vz (by decide)]; exact (show (0 : Int) ≤ 0 ∧ (0 : Int) ≤ 179 by decide)
  · rw [vz (by decide)]; exact (show (0 : Int) ≤ 0 ∧ (0 : Int) ≤ 6 by decide)
  · rw [vz (by decide)]; exact (show (0 : Int) ≤ 0 ∧ (0 : Int) ≤ 3 by decide)
  · rw [v_27]; show (-1 : Int) ≤ _ ∧ _ ≤ (11 : Int); split <;> decide
  · rw [vz (by decide)]; exact (show (0 : Int) ≤ 0 ∧ (0 : Int) ≤ 1 by decide)
  · rw [v_29]; exact wd0_rg p
  · rw [vz (by decide)]; exact (show (0 : Int) ≤ 0 ∧ (0 : Int) ≤ 99 by decide)
  · rw [vz (by decide)]; exact (show (0 : Int) ≤ 0 ∧ (0 : Int) ≤ 4095 by decide)
  · rw [vz (by decide)]; exact (show (0 : Int) ≤ 0 ∧ (0 : Int) ≤ 99 by decide)
  · rw [vz (by decide)]; exact (show (0 : Int) ≤ 0 ∧ (0 : Int) ≤ 5 by decide)
  · rw [vz (by decide)]; exact (show (0 : Int) ≤ 0 ∧ (0 : Int) ≤ 1000 by decide)
  · rw [vz (by decide)]; exact (show (0 : Int) ≤ 0 ∧ (0 : Int) ≤ 5 by decide)
  · rw [vz (by decide)]; exact (show (0 : Int) ≤ 0 ∧ (0 : Int) ≤ 5 by decide)
  · rw [vz (by decide)]; exact (show (0 : Int) ≤ 0 ∧ (0 : Int) ≤ 11 by decide)
  · rw [vz (by decide)]; exact (show (-1 : Int) ≤ 0 ∧ (0 : Int) ≤ 11 by decide)
  · rw [vz (by decide)]; exact (show (0 : Int) ≤ 0 ∧ (0 : Int) ≤ 999 by decide)
  · rw [v_40]; exact ls0_rg p
  · rw [vz (by decide)]; exact (show (0 : Int) ≤ 0 ∧ (0 : Int) ≤ 179 by decide)
  · rw [vz (by decide)]; exact (show (0 : Int) ≤ 0 ∧ (0 : Int) ≤ 11 by decide)
  · rw [vz (by decide)]; exact (show (0 : Int) ≤ 0 ∧ (0 : Int) ≤ 4 by decide)
  · rw [vz (by decide)]; exact (show (0 : Int) ≤ 0 ∧ (0 : Int) ≤ 11 by decide)
theorem vf_r1 : REL vf 1 7 18 94 := by
  have d0 : vf 1 0 = 0 := by decide
  have d1 : vf 1 1 = 0 := by decide
  have w5 : vf 7 5 = 0 := by decide
  have i2 : vf 18 2 = 0 := by decide
  have i3 : vf 18 3 = 0 := by decide
  refine ⟨?_, ?_, ?_, ?_, ?_, ?_, ?_⟩
  · unfold RA; decide
  · intro l hl; exfalso; rw [d0, d1] at hl; unfold toldZ at hl; omega
  · intro l hl; exfalso; rw [d0] at hl; omega
  · refine ⟨fun l _ _ => ?_, fun l hl _ => ?_⟩
    · show vf 3 l = 0 ∧ vf 4 l = 0
      rw [vz (by decide), vz (by decide)]; exact ⟨rfl, rfl⟩
    · show vf 5 l = -1 ∧ vf 6 l = 0 ∧ ∀ k, k < 6 → vf 12 (l * 6 + k) = 0
      rw [v_5, if_pos hl, vz (by decide), vz (by decide)]; exact ⟨rfl, rfl, fun _ _ => rfl⟩
  · refine ⟨by decide, fun k hk => ?_, fun k hk => ?_, fun k hk => ?_⟩
    · show vf 94 (680 + k) = vf 8 k ∧ vf 94 (690 + k) = vf 9 k ∧ vf 9 k < (2 ^ (vf 1 1).toNat : Nat)
      rw [v_94z (by omega), v_94z (by omega), vz (c := 8) (by decide), vz (c := 9) (by decide), d1]; exact ⟨rfl, rfl, (show (0 : Int) < ((2 ^ Int.toNat 0 : Nat) : Int) by decide)⟩
    · show vf 94 (700 + k) = vf 10 k
      rw [v_94z (by omega), vz (by decide)]
    · show vf 94 (780 + k) = vf 11 k
      rw [v_94z (by omega), vz (by decide)]
  · intro k hk; exfalso; rw [w5] at hk; omega
  · refine ⟨by decide, fun k hk => ?_, fun s hs => ⟨?_, fun k hk => ?_⟩, fun k hk => ?_⟩
    · exfalso; rw [i2] at hk; omega
    · show vf 94 (840 + s) = vf 21 s
      rw [v_94z (by omega), vz (by decide)]
    · exfalso
      have hk : (k : Int) < vf 21 s := hk
      rw [vz (by decide)] at hk
      have hk : (k : Int) < 0 := hk
      omega
    · exfalso; rw [i3] at hk; omega
theorem vf_r2 : REL vf 23 29 40 95 := by
  have d0 : vf 23 0 = 0 := by decide
  have d1 : vf 23 1 = 0 := by decide
  have w5 : vf 29 5 = 0 := by decide
  have i2 : vf 40 2 = 0 := by decide
  have i3 : vf 40 3 = 0 := by decide
  refine ⟨?_, ?_, ?_, ?_, ?_, ?_, ?_⟩
  · unfold RA; decide
  · intro l hl; exfalso; rw [d0, d1] at hl; unfold toldZ at hl; omega
  · intro l hl; exfalso; rw [d0] at hl; omega
  · refine ⟨fun l _ _ => ?_, fun l hl _ => ?_⟩
    · show vf 25 l = 0 ∧ vf 26 l = 0
      rw [vz (by decide), vz (by decide)]; exact ⟨rfl, rfl⟩
    · show vf 27 l = -1 ∧ vf 28 l = 0 ∧ ∀ k, k < 6 → vf 34 (l * 6 + k) = 0
      rw [v_27, if_pos hl, vz (by decide), vz (by decide)]; exact ⟨rfl, rfl, fun _ _ => rfl⟩
  · refine ⟨by decide, fun k hk => ?_, fun k hk => ?_, fun k hk => ?_⟩
    · show vf 95 (680 + k) = vf 30 k ∧ vf 95 (690 + k) = vf 31 k ∧ vf 31 k < (2 ^ (vf 23 1).toNat : Nat)
      rw [v_95z (by omega), v_95z (by omega), vz (c := 30) (by decide), vz (c := 31) (by decide), d1]; exact ⟨rfl, rfl, (show (0 : Int) < ((2 ^ Int.toNat 0 : Nat) : Int) by decide)⟩
    · show vf 95 (700 + k) = vf 32 k
      rw [v_95z (by omega), vz (by decide)]
    · show vf 95 (780 + k) = vf 33 k
      rw [v_95z (by omega), vz (by decide)]
  · intro k hk; exfalso; rw [w5] at hk; omega
  · refine ⟨by decide, fun k hk => ?_, fun s hs => ⟨?_, fun k hk => ?_⟩, fun k hk => ?_⟩
    · exfalso; rw [i2] at hk; omega
    · show vf 95 (840 + s) = vf 43 s
      rw [v_95z (by omega), vz (by decide)]
    · exfalso
      have hk : (k : Int) < vf 43 s := hk
      rw [vz (by decide)] at hk
      have hk : (k : Int) < 0 := hk
      omega
    · exfalso; rw [i3] at hk; omega
theorem vf_inv : INV vf := by
  refine ⟨vf_rng, vf_r1, vf_r2, ⟨fun a b ha hb => Or.inl ?_, fun x _ => congrFun (vz (c := 81) (by decide)) x⟩, ⟨by decide, by decide, fun k hk => ?_, Or.inl (by decide)⟩, ⟨by decide, by decide, fun k hk => ?_⟩⟩
  · rw [v_71, if_pos (by omega)]
  · exfalso
    have e : vf 67 2 = 0 := by decide
    rw [e] at hk
    omega
  · exfalso
    have e : vf 18 0 = 0 := by decide
    rw [e] at hk
    omega
/-- the whole run -/
theorem lw_run {L : Nat} {xs : Nat → Int32} (hL : L ≤ 3072) : ∃ (W : Nat → Nat → Int) (J1 : Nat → Nat → Int64) (tg1 : Option Nat), Runs (GW L xs) 41 302 (0, mkL 4 [.retAddr 0], [], z0) (some (.int 1), zS (eV W) J1 tg1) := by
  obtain ⟨W, J1, tg1, h⟩ := lw_lp (xs := xs) hL (L + 1) 0 vf (fun _ _ => 0) none (by omega) (by omega) vf_inv
  exact ⟨W, J1, tg1, ct_law h⟩
