/-! States while the two objects are made. -/
theorem getD_big {α : Type} (d : α) : ∀ (l : List α) (i : Nat), l.length ≤ i → l.getD i d = d
  | [], _, _ => rfl
  | x :: l, 0, h => by rw [List.length_cons] at h; omega
  | x :: l, i + 1, h => by
    rw [List.length_cons] at h
    show l.getD i d = d
    exact getD_big d l i (by omega)
def KWn (n : Nat) : Nat → Nat × Nat := fun c => if c < n then KW c else (0, 0)
theorem KWn_s (n : Nat) : upR (KWn n) n (KW n) = KWn (n + 1) := by
  funext c
  unfold upR KWn
  by_cases e : c = n
  · rw [if_pos e, if_pos (by omega), e]
  · rw [if_neg e]
    by_cases q : c < n
    · rw [if_pos q, if_pos (by omega)]
    · rw [if_neg q, if_neg (by omega)]
theorem KWn_f : KWn 114 = KW := by
  funext c
  unfold KWn
  by_cases q : c < 114
  · rw [if_pos q]
  · rw [if_neg q]
    unfold KW
    by_cases q2 : c < 120
    · have : c = 114 ∨ c = 115 ∨ c = 116 ∨ c = 117 ∨ c = 118 ∨ c = 119 := by omega
      rcases this with rfl | rfl | rfl | rfl | rfl | rfl <;> rfl
    · rw [getD_big [] kwT (c / 8) (by show 15 ≤ c / 8; omega)]
      rfl
def PLT : List (Nat × Nat × Nat) := [(1, 6, 2), (1, 7, 3), (1, 8, 4), (1, 9, 5), (1, 10, 6), (0, 0, 1), (7, 6, 8), (7, 7, 9), (7, 8, 10), (7, 9, 11), (7, 10, 12), (7, 11, 13), (7, 12, 14), (7, 13, 15), (7, 14, 16), (7, 15, 17), (0, 1, 7), (18, 4, 19), (18, 5, 20), (18, 6, 21), (18, 7, 22), (0, 2, 18), (23, 6, 24), (23, 7, 25), (23, 8, 26), (23, 9, 27), (23, 10, 28), (0, 3, 23), (29, 6, 30), (29, 7, 31), (29, 8, 32), (29, 9, 33), (29, 10, 34), (29, 11, 35), (29, 12, 36), (29, 13, 37), (29, 14, 38), (29, 15, 39), (0, 4, 29), (40, 4, 41), (40, 5, 42), (40, 6, 43), (40, 7, 44), (0, 5, 40), (0, 6, 46), (47, 0, 48), (47, 1, 49), (47, 2, 50), (47, 3, 45), (46, 0, 47), (51, 0, 52), (51, 1, 53), (51, 2, 54), (51, 3, 45), (46, 1, 51), (55, 0, 56), (55, 1, 57), (55, 2, 58), (55, 3, 45), (46, 2, 55), (59, 0, 60), (59, 1, 61), (59, 2, 62), (59, 3, 45), (46, 3, 59), (63, 0, 64), (63, 1, 65), (63, 2, 66), (63, 3, 45), (46, 4, 63), (67, 0, 68), (67, 1, 69), (0, 7, 67), (70, 1, 71), (70, 2, 72), (70, 3, 73), (70, 4, 74), (70, 0, 1), (0, 8, 70), (75, 5, 76), (75, 6, 77), (75, 7, 78), (75, 0, 1), (75, 1, 7), (75, 2, 18), (75, 3, 70), (75, 4, 46), (0, 9, 75), (79, 5, 80), (79, 6, 81), (79, 14, 82), (79, 0, 1), (79, 1, 7), (79, 2, 18), (79, 3, 70), (79, 4, 75), (0, 10, 79), (83, 2, 84), (83, 3, 85), (83, 0, 18), (83, 1, 70), (0, 11, 83), (86, 3, 87), (86, 4, 88), (86, 5, 89), (86, 6, 90), (86, 7, 91), (86, 0, 7), (86, 1, 18), (86, 2, 75), (0, 12, 86), (92, 0, 1), (92, 1, 7), (92, 2, 75), (0, 13, 92), (93, 0, 94), (93, 1, 95), (93, 2, 96), (93, 3, 97), (93, 4, 98), (93, 5, 99), (93, 6, 100), (93, 9, 101), (93, 22, 102), (93, 26, 103), (93, 27, 104), (93, 28, 105), (93, 29, 106), (93, 30, 107), (93, 31, 108), (93, 33, 109), (93, 34, 110), (93, 35, 111), (93, 37, 112), (93, 38, 113)]
def pwL : Nat → Nat → Nat → Option Nat
  | 0 => fun _ _ => none
  | m + 1 => up2 (pwL m) (PLT.getD m (0, 0, 0)).1 (PLT.getD m (0, 0, 0)).2.1 (some (PLT.getD m (0, 0, 0)).2.2)
theorem pwL_no {n : Nat} : ∀ m, (∀ j, j < m → (PLT.getD j (0, 0, 0)).1 ≠ n) → pwL m n = fun _ => none
  | 0, _ => rfl
  | m + 1, h => by
    rw [pwL, w_ne _ _ _ _ (fun q => h m (by omega) q.symm)]
    exact pwL_no m fun j hj => h j (by omega)
theorem pwL_n2 {c k : Nat} : ∀ m, (∀ j, j < m → (PLT.getD j (0, 0, 0)).2.1 ≠ k) → pwL m c k = none
  | 0, _ => rfl
  | m + 1, h => by
    have ih := pwL_n2 (c := c) m fun j hj => h j (by omega)
    rw [pwL]
    unfold up2
    by_cases e : c = (PLT.getD m (0, 0, 0)).1
    · rw [if_pos e]
      show (if k = _ then _ else _) = _
      rw [if_neg (fun q => h m (by omega) q.symm), ← e]
      exact ih
    · rw [if_neg e]; exact ih
def zC (n u m : Nat) (V : Nat → Nat → Int) : SS := (n, u, KWn n, eV V, fun _ _ => 0, pwL m)
theorem z0_eq : z0 = zC 0 0 0 (fun _ _ => 0) := by
  have e : KWn 0 = fun _ => (0, 0) := by
    funext c
    unfold KWn
    rw [if_neg (Nat.not_lt_zero _)]
  unfold z0 zC
  rw [e]
  rfl
theorem al_eq {n n' u u' m kind len : Nat} {V : Nat → Nat → Int} (hn : n' = n + 1) (hu : u' = u + len) (hk : KW n = (kind, len)) (hv : V n = fun _ => 0) (hp : ∀ j, j < m → (PLT.getD j (0, 0, 0)).1 ≠ n) : alloc (zC n u m V) kind len = zC n' u' m V := by
  subst hn
  subst hu
  have e1 : upR (KWn n) n (kind, len) = KWn (n + 1) := by rw [← hk, KWn_s]
  have e2 : upR (eV V) n (fun _ => (0 : Int32)) = eV V := by
    funext c
    unfold upR
    by_cases e : c = n
    · rw [if_pos e, e]
      funext k
      show (0 : Int32) = Int32.ofInt (V n k)
      rw [hv]; rfl
    · rw [if_neg e]
  have e3 : upR (fun (_ _ : Nat) => (0 : Int64)) n (fun _ => 0) = fun _ _ => 0 := by
    funext c
    unfold upR
    split <;> rfl
  have e4 : upR (pwL m) n (fun _ => none) = pwL m := by
    funext c
    unfold upR
    by_cases e : c = n
    · rw [if_pos e, e, pwL_no m hp]
    · rw [if_neg e]
  show (n + 1, u + len, upR (KWn n) n (kind, len), upR (eV V) n (fun _ => (0 : Int32)), upR (fun (_ _ : Nat) => (0 : Int64)) n (fun _ => 0), upR (pwL m) n (fun _ => none)) = _
  rw [e1, e2, e3, e4]
  rfl
theorem zP_eq {n u m m' c k r : Nat} {V : Nat → Nat → Int} (hm : m' = m + 1) (h : PLT.getD m (0, 0, 0) = (c, k, r)) : setP (zC n u m V) c k (some r) = zC n u m' V := by
  subst hm
  unfold zC
  rw [pwL, h]
  rfl
theorem gf_eq {n u m c k r : Nat} {V : Nat → Nat → Int} (h : pwL m c k = some r) : rfv ((zC n u m V).2.2.2.2.2 c k) = .ref r := by
  show rfv (pwL m c k) = _
  rw [h]
  rfl
set_option maxRecDepth 100000 in
theorem pw_t : ∀ c, c < 120 → ∀ k, k < 40 → pwL 135 c k = PW c k := by decide +kernel
set_option maxRecDepth 100000 in
theorem pw_l : ∀ c, c < 120 → ((pwT.getD (c / 8) []).getD (c % 8) []).length ≤ 40 := by decide +kernel
set_option maxRecDepth 100000 in
theorem pw_k : ∀ j, j < 135 → (PLT.getD j (0, 0, 0)).1 < 114 ∧ (PLT.getD j (0, 0, 0)).2.1 < 40 := by decide +kernel
theorem pw_f : pwL 135 = up2 PW 67 6 none := by
  funext c k
  have e : up2 PW 67 6 none c k = PW c k := by
    unfold up2
    by_cases q : c = 67
    · rw [if_pos q, q]
      show (if k = 6 then _ else _) = _
      by_cases q2 : k = 6
      · rw [if_pos q2, q2]; rfl
      · rw [if_neg q2]
    · rw [if_neg q]
  rw [e]
  by_cases hc : c < 120
  · by_cases hk : k < 40
    · exact pw_t c hc k hk
    · rw [pwL_n2 135 (fun j hj q => by have := (pw_k j hj).2; omega)]
      unfold PW
      rw [getD_big none _ k (by have := pw_l c hc; omega)]
  · rw [pwL_no 135 (fun j hj q => by have := (pw_k j hj).1; omega)]
    unfold PW
    rw [getD_big [] pwT (c / 8) (by show 15 ≤ c / 8; omega)]
    rfl
theorem zC_f {V : Nat → Nat → Int} : zC 114 23464 135 V = zS (eV V) (fun _ _ => 0) none := by
  unfold zC zS
  rw [KWn_f, pw_f]
/-- an array filled, while the objects are made -/
theorem fill_g {L d : Nat} {xs : Nat → Int32} {V : Nat → Nat → Int} {c n N u m : Nat} {v : Int} (hc : c < N) (hk : KWn N c = (100, n)) (hn : n < 10000) : Runs (GW L xs) d 301 (0, [.ref c, (Value.int (Int32.ofInt (v))), vU, vU], [], zC N u m V) (none, zC N u m (flV V c n v)) := by
  have hk1 : ∀ V, ((zC N u m V).2.2.1 c).1 = 100 := fun V => by show (KWn N c).1 = 100; rw [hk]
  have hk2 : ∀ V, ((zC N u m V).2.2.1 c).2 = n := fun V => by show (KWn N c).2 = n; rw [hk]
  refine Runs.sN 3 (c' := (3, [.ref c, (Value.int (Int32.ofInt (v))), .int 0, vU], [.ref c], zC N u m V)) rfl ?_
  refine Runs.to (c' := (4, [.ref c, (Value.int (Int32.ofInt (v))), .int 0, vU], [.int (nI ((zC N u m V).2.2.1 c).2)], zC N u m V)) (Runs.aln rfl hc (by rw [hk1]; decide)) ?_
  rw [hk2, o_nI]
  refine Runs.sN 1 (c' := (5, [.ref c, (Value.int (Int32.ofInt (v))), (Value.int (Int32.ofInt ((0 : Nat)))), (Value.int (Int32.ofInt (n)))], [], zC N u m V)) rfl ?_
  obtain ⟨_, _, hr⟩ := loopN (g := GW L xs) (d := d) (mid := 301) (σ := Unit) (fun i _ => (5, [.ref c, (Value.int (Int32.ofInt (v))), (Value.int (Int32.ofInt (i))), (Value.int (Int32.ofInt (n)))], [], zC N u m (flV V c i v))) (fun _ _ => True) n (by
    intro i _ hi _
    refine ⟨(), trivial, fun r hr => ?_⟩
    refine Runs.sN 2 (c' := (7, [.ref c, (Value.int (Int32.ofInt (v))), (Value.int (Int32.ofInt (i))), (Value.int (Int32.ofInt (n)))], [(Value.int (Int32.ofInt (n))), (Value.int (Int32.ofInt (i)))], zC N u m (flV V c i v))) rfl ?_
    refine Runs.brF (P := Int32.ofInt (n : Int) ≤ Int32.ofInt (i : Int)) (a := 20) (b := 10) (L := [.ref c, (Value.int (Int32.ofInt (v))), (Value.int (Int32.ofInt (i))), (Value.int (Int32.ofInt (n)))]) (S := []) (z := zC N u m (flV V c i v)) rfl (by rw [o_le (by omega) (by omega)]; omega) ?_
    refine Runs.sN 3 (c' := (13, [.ref c, (Value.int (Int32.ofInt (v))), (Value.int (Int32.ofInt (i))), (Value.int (Int32.ofInt (n)))], [(Value.int (Int32.ofInt (v))), (Value.int (Int32.ofInt (i))), .ref c], zC N u m (flV V c i v))) rfl ?_
    refine Runs.to (c' := (14, [.ref c, (Value.int (Int32.ofInt (v))), (Value.int (Int32.ofInt (i))), (Value.int (Int32.ofInt (n)))], [], zC N u m (flV V c (i + 1) v))) ?_ ?_
    · have := Runs.ist (g := GW L xs) (mid := 301) (pc := 13) (L := [.ref c, (Value.int (Int32.ofInt (v))), (Value.int (Int32.ofInt (i))), (Value.int (Int32.ofInt (n)))]) (S := []) (z := zC N u m (flV V c i v)) (c := c) (j := Int32.ofInt (i : Int)) (x := Int32.ofInt v) rfl hc (hk1 _) (by
        rw [hk2, o_nat (by omega), show (0 : Int32) = Int32.ofInt 0 from rfl, o_lt (by omega) (by omega)]
        simp; omega)
      rw [o_nat (by omega), tn_cast] at this
      rw [this]
      show some (Sum.inl (14, _, _, (N, u, KWn N, up2 (eV (flV V c i v)) c i (Int32.ofInt v), _, _))) = _
      rw [eV_up, flV_s]
      rfl
    · refine Runs.sN 2 (c' := (5, [.ref c, (Value.int (Int32.ofInt (v))), (Value.int (Int32.ofInt ((i + 1 : Nat)))), (Value.int (Int32.ofInt (n)))], [], zC N u m (flV V c (i + 1) v))) ?_ hr
      have e : Int32.ofInt ((i + 1 : Nat) : Int) = Int32.ofInt (i : Int) + 1 := by rw [show (1 : Int32) = Int32.ofInt 1 from rfl, o_add]; rfl
      rw [e]; rfl) n 0 () (by omega) trivial
  rw [flV_z] at hr
  refine hr _ ?_
  refine Runs.sN 2 (c' := (7, [.ref c, (Value.int (Int32.ofInt (v))), (Value.int (Int32.ofInt (n))), (Value.int (Int32.ofInt (n)))], [(Value.int (Int32.ofInt (n))), (Value.int (Int32.ofInt (n)))], zC N u m (flV V c n v))) rfl ?_
  refine Runs.brT (P := Int32.ofInt (n : Int) ≤ Int32.ofInt (n : Int)) (a := 20) (b := 10) (L := [.ref c, (Value.int (Int32.ofInt (v))), (Value.int (Int32.ofInt (n))), (Value.int (Int32.ofInt (n)))]) (S := []) (z := zC N u m (flV V c n v)) rfl (by rw [o_le (by omega) (by omega)]; omega) ?_
  exact Runs.rt rfl
theorem cp_g {L d : Nat} {xs : Nat → Int32} {V : Nat → Nat → Int} : Runs (GW L xs) d 176 (0, [.ref 94, .ref 95, vU], [], zC 114 23464 135 V) (none, zC 114 23464 135 (cpV V 94 95 1200)) := by
  rw [zC_f, zC_f]
  exact k_176i
