/-! One machine over TOKENS: class and reference both are it. -/
abbrev Cd : Type := List (Int × Int)
abbrev PMt : Type := Nat × Int × Int × List Int × Nat × Nat × Cd × List (Int × Cd) × Int × Int
abbrev PR : Type := Int × Nat × List (Int × Cd) × Int
def rkO (o : Int) : Int := if o = 40 then 0 else if o = 22 then 1 else if o = 21 then 2 else if o = 5 then 5 else if o ≤ 4 then 4 else 3
def opT (k : Int) : Int := if k = 7 then 22 else if k = 8 then 21 else if k ≤ 14 then k + 1 else k - 12
def relP (P : Int → Bool) : List Int → Cd → List Int × Cd
  | [], cu => ([], cu)
  | o :: ws, cu => if P o = true then relP P ws ((o, 0) :: cu) else (o :: ws, cu)
def rl (l : Int) (ws : List Int) (cu : Cd) : List Int × Cd := relP (fun o => decide (l ≤ rkO o)) ws cu
def pm0 : PMt := (0, 0, 0, [], 0, 0, [], [], 0, 0)
def fAsk (k : Int) (p : Nat) (sd : Int) (ws : List Int) (br mi : Nat) (cu : Cd) (cl : List (Int × Cd)) (kd hc : Int) : PMt × Int :=
  if k = 7 ∨ k = 8 then ((p, 1, sd, opT k :: (rl (rkO (opT k)) ws cu).1, br, mi, (rl (rkO (opT k)) ws cu).2, cl, kd, hc), 0)
  else if k = 19 ∧ 0 < br then ((p, 4, sd, (rl 1 ws cu).1.tail, br - 1, mi, (rl 1 ws cu).2, cl, kd, hc), 0)
  else if k = 20 ∧ br = 0 then ((p, 0, sd, (rl 1 ws cu).1, br, mi, [], (kd, (rl 1 ws cu).2) :: cl, kd, hc), 0)
  else (pm0, 1)
def fOne (k : Int) (p : Nat) (sd : Int) (ws : List Int) (br mi : Nat) (cu : Cd) (cl : List (Int × Cd)) (kd hc : Int) : PMt × Int :=
  if 15 ≤ k ∧ k ≤ 17 then ((p, 2, sd, opT k :: (rl (rkO (opT k)) ws cu).1, br, mi, (rl (rkO (opT k)) ws cu).2, cl, kd, hc), 0)
  else if sd = 0 then (if 9 ≤ k ∧ k ≤ 14 then ((p, 2, 1, opT k :: (rl 3 ws cu).1, br, mi, (rl 3 ws cu).2, cl, kd, hc), 0) else (pm0, 1))
  else if sd = 1 ∨ k = 20 then fAsk k p sd ws br mi cu cl kd hc else (pm0, 1)
def sOne (k v : Int) (p : Nat) (sd : Int) (ws : List Int) (br mi : Nat) (cu : Cd) (cl : List (Int × Cd)) (kd hc : Int) : PMt × Int :=
  if k = 2 then (if 9999 < v then (pm0, 2) else ((p, 3, sd, ws, br, 0, List.replicate mi (2, 0) ++ (0, v) :: cu, cl, kd, hc), 0))
  else if k = 3 then (if 8 ≤ v ∧ sd ≠ 2 then (pm0, 5) else ((p, 3, sd, ws, br, 0, List.replicate mi (2, 0) ++ (1, v) :: cu, cl, kd, hc), 0))
  else if k ≠ 16 then (pm0, 1) else if 8 ≤ br + mi then (pm0, 3) else ((p, 2, sd, ws, br, mi + 1, cu, cl, kd, hc), 0)
def sAsk (k v : Int) (p : Nat) (sd : Int) (ws : List Int) (br mi : Nat) (cu : Cd) (cl : List (Int × Cd)) (kd hc : Int) : PMt × Int :=
  if k ≠ 18 then sOne k v p 0 ws br mi cu cl kd hc else if 8 ≤ br + mi then (pm0, 3) else ((p, 1, sd, 40 :: ws, br + 1, mi, cu, cl, kd, hc), 0)
def sCl (k : Int) (p : Nat) (sd : Int) (ws : List Int) (br mi : Nat) (cu : Cd) (cl : List (Int × Cd)) (kd hc : Int) : PMt × Int :=
  if k = 0 then ((p, 0, sd, ws, br, mi, cu, cl, kd, hc), 0) else if ¬ (4 ≤ k ∧ k ≤ 6) then (pm0, 1) else if k = 6 ∧ hc ≠ -1 then (pm0, 4) else if 10 ≤ cl.length then (pm0, 6) else if k = 6 then ((p, 2, 2, ws, br, mi, cu, cl, 6, (cl.length : Int)), 0) else ((p, 1, sd, ws, br, mi, cu, cl, k, hc), 0)
def stk (k v : Int) (p : Nat) : PMt → PMt × Int
  | (_, st, sd, ws, br, mi, cu, cl, kd, hc) => if st = 0 then sCl k p sd ws br mi cu cl kd hc else if st = 1 then sAsk k v p sd ws br mi cu cl kd hc else if st = 2 then sOne k v p sd ws br mi cu cl kd hc else if st = 3 then fOne k p sd ws br mi cu cl kd hc else fAsk k p sd ws br mi cu cl kd hc
def sTp (b : Nat → Int) (N : Nat) (s : PMt) : PMt × Int := stk (lxK b N (en isW b N s.1)) (lxV b N (en isW b N s.1)) (lxT b N (en isW b N s.1)) s
def fn (b : Nat → Int) (N : Nat) : Nat → PMt → PR
  | 0, _ => (0, 0, [], 0)
  | n + 1, s => if (sTp b N s).2 ≠ 0 then ((sTp b N s).2, en isW b N s.1, [], 0) else if N ≤ en isW b N s.1 then (0, 0, (sTp b N s).1.2.2.2.2.2.2.2.1, (sTp b N s).1.2.2.2.2.2.2.2.2.2) else fn b N n (sTp b N s).1
/-- the machine ends so -/
def Fi (b : Nat → Int) (N : Nat) (s : PMt) (r : PR) : Prop := ∃ n, ∀ m, n ≤ m → fn b N m s = r
section MA
variable {b : Nat → Int} {N : Nat} {s s' : PMt} {r r' : PR}
theorem fn_s {n : Nat} : fn b N (n + 1) s = if (sTp b N s).2 ≠ 0 then ((sTp b N s).2, en isW b N s.1, [], 0) else if N ≤ en isW b N s.1 then (0, 0, (sTp b N s).1.2.2.2.2.2.2.2.1, (sTp b N s).1.2.2.2.2.2.2.2.2.2) else fn b N n (sTp b N s).1 := by rw [fn]
theorem Fi_f {v : Int} (h : (sTp b N s).2 = v) (hv : v ≠ 0) : Fi b N s (v, en isW b N s.1, [], 0) := ⟨1, fun m hm => by
  obtain ⟨k, rfl⟩ : ∃ k, m = k + 1 := ⟨m - 1, by omega⟩
  rw [fn_s, h, if_pos hv]⟩
theorem Fi_s (h : sTp b N s = (s', 0)) (hN : ¬ N ≤ en isW b N s.1) (hr : Fi b N s' r) : Fi b N s r := by
  obtain ⟨n, hn⟩ := hr
  refine ⟨n + 1, fun m hm => ?_⟩
  obtain ⟨k, rfl⟩ : ∃ k, m = k + 1 := ⟨m - 1, by omega⟩
  rw [fn_s, h, if_neg (fun q => q rfl), if_neg hN]
  exact hn k (by omega)
theorem Fi_e (h : sTp b N s = (s', 0)) (hN : N ≤ en isW b N s.1) : Fi b N s (0, 0, s'.2.2.2.2.2.2.2.1, s'.2.2.2.2.2.2.2.2.2) := ⟨1, fun m hm => by
  obtain ⟨k, rfl⟩ : ∃ k, m = k + 1 := ⟨m - 1, by omega⟩
  rw [fn_s, h, if_neg (fun q => q rfl), if_pos hN]⟩
theorem Fi_c (h : sTp b N s = sTp b N s') (hp : s.1 = s'.1) (hr : Fi b N s' r) : Fi b N s r := by
  obtain ⟨n, hn⟩ := hr
  refine ⟨n + 1, fun m hm => ?_⟩
  obtain ⟨k, rfl⟩ : ∃ k, m = k + 1 := ⟨m - 1, by omega⟩
  have := hn (k + 1) (by omega)
  rw [fn_s] at this ⊢
  rw [h, hp]
  exact this
theorem Fi_d (h : Fi b N s r) (h' : Fi b N s r') : r = r' := by
  obtain ⟨n, hn⟩ := h
  obtain ⟨m, hm⟩ := h'
  rw [← hn (n + m) (by omega), ← hm (n + m) (by omega)]
end MA
section RL
variable {P Q : Int → Bool}
theorem relP_rel (h : ∀ o, P o = true → Q o = true) : ∀ (ws : List Int) (cu : Cd), relP Q (relP P ws cu).1 (relP P ws cu).2 = relP Q ws cu
  | [], _ => rfl
  | o :: ws, cu => by
    by_cases c : P o = true
    · have e1 : relP P (o :: ws) cu = relP P ws ((o, 0) :: cu) := by rw [relP, if_pos c]
      have e2 : relP Q (o :: ws) cu = relP Q ws ((o, 0) :: cu) := by rw [relP, if_pos (h o c)]
      rw [e1, e2]
      exact relP_rel h ws _
    · have e1 : relP P (o :: ws) cu = (o :: ws, cu) := by rw [relP, if_neg c]
      rw [e1]
theorem relP_ext {R : List Int} (hR : R = [] ∨ ∃ o l, R = o :: l ∧ Q o = false) : ∀ (ar : List Int) (cu : Cd), (∀ o ∈ ar, P o = Q o) → relP Q (ar ++ R) cu = ((relP P ar cu).1 ++ R, (relP P ar cu).2)
  | [], cu, _ => by
    rcases hR with rfl | ⟨o, l, rfl, ho⟩
    · rfl
    · show relP Q (o :: l) cu = (o :: l, cu)
      rw [relP, if_neg (by rw [ho]; decide)]
  | o :: ws, cu, h => by
    have ho := h o (List.mem_cons_self ..)
    show relP Q (o :: (ws ++ R)) cu = _
    by_cases c : P o = true
    · rw [relP, if_pos (ho ▸ c), relP, if_pos c]
      exact relP_ext hR ws _ (fun x hx => h x (List.mem_cons_of_mem _ hx))
    · rw [relP, if_neg (ho ▸ c), relP, if_neg c]
      rfl
theorem relP_ap {F : Cd} : ∀ (ws : List Int) (cu : Cd), relP P ws (cu ++ F) = ((relP P ws cu).1, (relP P ws cu).2 ++ F)
  | [], _ => rfl
  | o :: ws, cu => by
    by_cases c : P o = true
    · rw [relP, if_pos c, relP, if_pos c]
      exact relP_ap ws ((o, 0) :: cu)
    · rw [relP, if_neg c, relP, if_neg c]
theorem relP_len : ∀ (ws : List Int) (cu : Cd), (relP P ws cu).1.length + (relP P ws cu).2.length = ws.length + cu.length ∧ (relP P ws cu).1.length ≤ ws.length
  | [], _ => ⟨rfl, Nat.le_refl _⟩
  | o :: ws, cu => by
    by_cases c : P o = true
    · rw [relP, if_pos c]
      have := relP_len ws ((o, 0) :: cu)
      rw [List.length_cons] at this
      rw [List.length_cons]
      omega
    · rw [relP, if_neg c]
      exact ⟨rfl, Nat.le_refl _⟩
theorem relP_all : ∀ (ws : List Int) (cu : Cd), (∀ o ∈ ws, P o = true) → (relP P ws cu).1 = []
  | [], _, _ => rfl
  | o :: ws, cu, h => by
    rw [relP, if_pos (h o (List.mem_cons_self ..))]
    exact relP_all ws _ (fun x hx => h x (List.mem_cons_of_mem _ hx))
theorem relP_sub : ∀ (ws : List Int) (cu : Cd) (o : Int), o ∈ (relP P ws cu).1 → o ∈ ws
  | [], _, _, h => h
  | o :: ws, cu, x, h => by
    by_cases c : P o = true
    · rw [relP, if_pos c] at h
      exact List.mem_cons_of_mem _ (relP_sub ws _ x h)
    · rw [relP, if_neg c] at h
      exact h
theorem relP_mem : ∀ (ws : List Int) (cu : Cd) (x : Int × Int), x ∈ (relP P ws cu).2 → x ∈ cu ∨ (x.2 = 0 ∧ x.1 ∈ ws)
  | [], _, _, h => Or.inl h
  | o :: ws, cu, x, h => by
    by_cases c : P o = true
    · rw [relP, if_pos c] at h
      rcases relP_mem ws _ x h with q | ⟨q1, q2⟩
      · rcases List.mem_cons.mp q with e | e
        · rw [e]; exact Or.inr ⟨rfl, List.mem_cons_self ..⟩
        · exact Or.inl e
      · exact Or.inr ⟨q1, List.mem_cons_of_mem _ q2⟩
    · rw [relP, if_neg c] at h
      exact Or.inl h
theorem relP_top : ∀ (ws : List Int) (cu : Cd), (relP P ws cu).1 = [] ∨ ∃ o l, (relP P ws cu).1 = o :: l ∧ P o = false
  | [], _ => Or.inl rfl
  | o :: ws, cu => by
    by_cases c : P o = true
    · rw [relP, if_pos c]
      exact relP_top ws _
    · rw [relP, if_neg c]
      exact Or.inr ⟨o, ws, rfl, by simpa using c⟩
end RL
theorem rl_rl {l m : Int} (h : m ≤ l) (ws : List Int) (cu : Cd) : rl m (rl l ws cu).1 (rl l ws cu).2 = rl m ws cu :=
  relP_rel (fun o q => decide_eq_true (Int.le_trans h (of_decide_eq_true q))) ws cu
/-- truths and values behind operators, the last first -/
def tyL : Cd → Option (Nat × Nat)
  | [] => some (0, 0)
  | x :: l => match tyL l with
    | none => none
    | some (t, v) => if x.1 ≤ 1 then some (t, v + 1) else if x.1 = 2 then (if 1 ≤ v then some (t, v) else none) else if x.1 ≤ 5 then (if 2 ≤ v then some (t, v - 1) else none) else if x.1 ≤ 15 then (if v = 2 then some (t + 1, 0) else none) else (if 2 ≤ t ∧ v = 0 then some (t - 1, 0) else none)
theorem ty_v {l : Cd} {x : Int × Int} {t v : Nat} (h : tyL l = some (t, v)) (hx : x.1 ≤ 1) : tyL (x :: l) = some (t, v + 1) := by
  rw [tyL, h]; show (if _ then _ else _) = _; rw [if_pos hx]
theorem ty_m {l : Cd} {x : Int × Int} {t v : Nat} (h : tyL l = some (t, v)) (hx : x.1 = 2) (hv : 1 ≤ v) : tyL (x :: l) = some (t, v) := by
  rw [tyL, h]; show (if _ then _ else _) = _; rw [if_neg (by omega), if_pos hx, if_pos hv]
theorem ty_a {l : Cd} {x : Int × Int} {t v : Nat} (h : tyL l = some (t, v)) (hx : 3 ≤ x.1 ∧ x.1 ≤ 5) (hv : 2 ≤ v) : tyL (x :: l) = some (t, v - 1) := by
  rw [tyL, h]; show (if _ then _ else _) = _; rw [if_neg (by omega), if_neg (by omega), if_pos (by omega), if_pos hv]
theorem ty_c {l : Cd} {x : Int × Int} {t : Nat} (h : tyL l = some (t, 2)) (hx : 10 ≤ x.1 ∧ x.1 ≤ 15) : tyL (x :: l) = some (t + 1, 0) := by
  rw [tyL, h]; show (if _ then _ else _) = _; rw [if_neg (by omega), if_neg (by omega), if_neg (by omega), if_pos (by omega), if_pos rfl]
theorem ty_o {l : Cd} {x : Int × Int} {t : Nat} (h : tyL l = some (t, 0)) (hx : 16 ≤ x.1) (ht : 2 ≤ t) : tyL (x :: l) = some (t - 1, 0) := by
  rw [tyL, h]; show (if _ then _ else _) = _; rw [if_neg (by omega), if_neg (by omega), if_neg (by omega), if_neg (by omega), if_pos ⟨ht, rfl⟩]
theorem ty_rep {l : Cd} {t v : Nat} (h : tyL l = some (t, v)) (hv : 1 ≤ v) : ∀ n, tyL (List.replicate n (2, 0) ++ l) = some (t, v)
  | 0 => h
  | n + 1 => ty_m (ty_rep h hv n) rfl hv
/-- the type behind waiting operators of a SUM -/
theorem ty_ra {P : Int → Bool} {t n : Nat} : ∀ (ar : List Int) (cu : Cd), (∀ o ∈ ar, 3 ≤ o ∧ o ≤ 5) → tyL cu = some (t, n + ar.length + 1) → tyL (relP P ar cu).2 = some (t, n + (relP P ar cu).1.length + 1)
  | [], _, _, h => h
  | o :: ar, cu, ho, h => by
    by_cases c : P o = true
    · rw [relP, if_pos c]
      refine ty_ra ar _ (fun x hx => ho x (List.mem_cons_of_mem _ hx)) ?_
      rw [List.length_cons] at h
      exact ty_a (x := (o, 0)) h (ho o (List.mem_cons_self ..)) (by omega)
    · rw [relP, if_neg c]
      exact h
/-- and, or that wait -/
def aoC : List Int → Nat
  | [] => 0
  | o :: l => if o = 40 then aoC l else aoC l + 1
def brC : List Int → Nat
  | [] => 0
  | o :: l => if o = 40 then brC l + 1 else brC l
theorem ty_rw {P : Int → Bool} (hP : P 40 = false) : ∀ (wl : List Int) (cu : Cd), (∀ o ∈ wl, o = 40 ∨ o = 21 ∨ o = 22) → tyL cu = some (aoC wl + 1, 0) → tyL (relP P wl cu).2 = some (aoC (relP P wl cu).1 + 1, 0)
  | [], _, _, h => h
  | o :: wl, cu, ho, h => by
    by_cases c : P o = true
    · have h40 : o ≠ 40 := fun q => by rw [q, hP] at c; cases c
      have hm := ho o (List.mem_cons_self ..)
      rw [relP, if_pos c]
      refine ty_rw hP wl _ (fun x hx => ho x (List.mem_cons_of_mem _ hx)) ?_
      rw [aoC, if_neg h40] at h
      exact ty_o (x := (o, 0)) h (show 16 ≤ o by omega) (by omega)
    · rw [relP, if_neg c]
      exact h
theorem br_rw {P : Int → Bool} (hP : P 40 = false) : ∀ (wl : List Int) (cu : Cd), brC (relP P wl cu).1 = brC wl
  | [], _ => rfl
  | o :: wl, cu => by
    by_cases c : P o = true
    · have h40 : o ≠ 40 := fun q => by rw [q, hP] at c; cases c
      rw [relP, if_pos c, br_rw hP wl, brC, if_neg h40]
    · rw [relP, if_neg c]
theorem brC_ap : ∀ (a b : List Int), brC (a ++ b) = brC a + brC b
  | [], b => (Nat.zero_add _).symm
  | o :: a, b => by
    show brC (o :: (a ++ b)) = _
    rw [brC, brC]
    split
    · rw [brC_ap a b]; omega
    · exact brC_ap a b
/-- a row of cells as a stack, the last first -/
def Stk (A : Nat → Int) : List Int → Prop
  | [] => True
  | x :: l => A l.length = x ∧ Stk A l
theorem Stk.up {A B : Nat → Int} : ∀ {l : List Int}, Stk A l → (∀ k, k < l.length → B k = A k) → Stk B l
  | [], _, _ => trivial
  | x :: l, h, e => ⟨by rw [e l.length (by rw [List.length_cons]; omega)]; exact h.1, Stk.up h.2 fun k hk => e k (by rw [List.length_cons]; omega)⟩
def Sk2 (E : Nat → Int) (t : Nat) : Cd → Prop
  | [] => True
  | x :: l => (E (t + 2 * l.length) = x.1 ∧ E (t + 2 * l.length + 1) = x.2) ∧ Sk2 E t l
theorem Sk2.up {A B : Nat → Int} {t : Nat} : ∀ {l : Cd}, Sk2 A t l → (∀ k, t ≤ k → k < t + 2 * l.length → B k = A k) → Sk2 B t l
  | [], _, _ => trivial
  | x :: l, h, e => ⟨by rw [e _ (by omega) (by rw [List.length_cons]; omega), e _ (by omega) (by rw [List.length_cons]; omega)]; exact h.1, Sk2.up h.2 fun k h1 h2 => e k h1 (by rw [List.length_cons]; omega)⟩
/-- all codes of clauses -/
def fl : List (Int × Cd) → Cd
  | [] => []
  | c :: l => c.2 ++ fl l
section ST
variable {b : Nat → Int} {N p : Nat} {sd : Int} {ws : List Int} {br mi : Nat} {cu : Cd} {cl : List (Int × Cd)} {kd hc : Int}
theorem st_0 : sTp b N (p, 0, sd, ws, br, mi, cu, cl, kd, hc) = sCl (lxK b N (en isW b N p)) (lxT b N (en isW b N p)) sd ws br mi cu cl kd hc := by
  unfold sTp stk
  dsimp only
  rw [if_pos rfl]
theorem st_1 : sTp b N (p, 1, sd, ws, br, mi, cu, cl, kd, hc) = sAsk (lxK b N (en isW b N p)) (lxV b N (en isW b N p)) (lxT b N (en isW b N p)) sd ws br mi cu cl kd hc := by
  unfold sTp stk
  dsimp only
  rw [if_neg (by decide), if_pos rfl]
theorem st_2 : sTp b N (p, 2, sd, ws, br, mi, cu, cl, kd, hc) = sOne (lxK b N (en isW b N p)) (lxV b N (en isW b N p)) (lxT b N (en isW b N p)) sd ws br mi cu cl kd hc := by
  unfold sTp stk
  dsimp only
  rw [if_neg (by decide), if_neg (by decide), if_pos rfl]
theorem st_3 : sTp b N (p, 3, sd, ws, br, mi, cu, cl, kd, hc) = fOne (lxK b N (en isW b N p)) (lxT b N (en isW b N p)) sd ws br mi cu cl kd hc := by
  unfold sTp stk
  dsimp only
  rw [if_neg (by decide), if_neg (by decide), if_neg (by decide), if_pos rfl]
theorem st_4 : sTp b N (p, 4, sd, ws, br, mi, cu, cl, kd, hc) = fAsk (lxK b N (en isW b N p)) (lxT b N (en isW b N p)) sd ws br mi cu cl kd hc := by
  unfold sTp stk
  dsimp only
  rw [if_neg (by decide), if_neg (by decide), if_neg (by decide), if_neg (by decide)]
end ST
