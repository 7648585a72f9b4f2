/-! What to draw: sets of the STOCK. -/
def mdL (B : Nat → Nat → Int) (s : Nat) : Nat → List Int
  | 0 => []
  | n + 1 => if s.testBit n then mdL B s n ++ [B 19 n] else mdL B s n
theorem mdL_s {B : Nat → Nat → Int} {s n : Nat} : mdL B s (n + 1) = if s.testBit n then mdL B s n ++ [B 19 n] else mdL B s n := rfl
theorem mdL_len {B : Nat → Nat → Int} {s : Nat} : ∀ n, (mdL B s n).length = pcn s n
  | 0 => rfl
  | n + 1 => by
    rw [mdL_s, pcn_s]
    split
    · rw [List.length_append, List.length_singleton, mdL_len n]
    · rw [mdL_len n]; rfl
theorem mdL_cg {B : Nat → Nat → Int} {s u : Nat} : ∀ n, (∀ i, i < n → s.testBit i = u.testBit i) → mdL B s n = mdL B u n
  | 0, _ => rfl
  | n + 1, h => by rw [mdL_s, mdL_s, mdL_cg n (fun i hi => h i (by omega)), h n (by omega)]
theorem or_bit {s i k : Nat} : (s ||| 2 ^ i).testBit k = (s.testBit k || decide (i = k)) := by rw [Nat.testBit_or, Nat.testBit_two_pow]
theorem mdL_or {B : Nat → Nat → Int} {s i : Nat} (hs : s < 2 ^ i) : ∀ k, mdL B (s ||| 2 ^ i) (i + 1 + k) = mdL B s (i + 1 + k) ++ [B 19 i]
  | 0 => by
    rw [Nat.add_zero, mdL_s, mdL_s, or_bit, tb_hi hs (Nat.le_refl _)]
    rw [if_pos (by simp), if_neg (by decide), mdL_cg (s := s ||| 2 ^ i) (u := s) i (fun k hk => by rw [or_bit, decide_eq_false (by omega), Bool.or_false])]
  | k + 1 => by
    rw [← Nat.add_assoc, mdL_s, mdL_s, or_bit, tb_hi hs (by omega), decide_eq_false (by omega), mdL_or hs k]
    rw [if_neg (by decide), if_neg (by decide)]
theorem mdL_one {B : Nat → Nat → Int} {s i n : Nat} (hs : s < 2 ^ i) (hi : i < n) : mdL B (s ||| 2 ^ i) n = mdL B s n ++ [B 19 i] := by
  obtain ⟨k, rfl⟩ : ∃ k, n = i + 1 + k := ⟨n - (i + 1), by omega⟩
  exact mdL_or hs k
theorem mdL_ok {B : Nat → Nat → Int} (hR : RNG B) {s : Nat} : ∀ n v, v ∈ mdL B s n → 0 ≤ v ∧ v < 180
  | 0, v, h => by simp [mdL] at h
  | n + 1, v, h => by
    rw [mdL_s] at h
    split at h
    · rcases List.mem_append.mp h with h | h
      · exact mdL_ok hR n v h
      · have : 0 ≤ B 19 n ∧ B 19 n ≤ 179 := hR 19 n (by decide) (by decide)
        have : v = B 19 n := by simpa using h
        omega
    · exact mdL_ok hR n v h
/-- one PART more -/
theorem fct_app {B : Nat → Nat → Int} {dr : Nat} {l : List Int} {v : Int} {k : Nat} : fct B dr (l ++ [v]).length (lf (l ++ [v])) k = fct B dr l.length (lf l) k + (if k = 5 ∨ (k < 5 ∧ v / 36 = (k : Int)) then 1 else 0) := by
  rw [List.length_append, List.length_singleton]
  unfold fct
  by_cases c : k < 5
  · rw [if_pos c, if_pos c, fcn_s, fcn_cg (q := lf l) (fun i hi => lf_init hi), lf_last rfl]
    by_cases e : v / 36 = (k : Int)
    · rw [if_pos e, if_pos (Or.inr ⟨c, e⟩)]
    · rw [if_neg e, if_neg (fun h => by rcases h with h | h; omega; exact e h.2)]
  · rw [if_neg c, if_neg c]
    by_cases c5 : k = 5
    · rw [if_pos c5, if_pos c5, if_pos (Or.inl c5)]; omega
    · rw [if_neg c5, if_neg c5, if_neg (show ¬ (k = 5 ∨ (k < 5 ∧ v / 36 = (k : Int))) from fun h => by rcases h with h | h; exact c5 h; exact c h.1), Int.add_zero]
theorem GN_app {B : Nat → Nat → Int} {l : List Int} {v : Int} {q : Nat → Int} {m s : Nat} : GN (gF B (lf (l ++ [v])) q) m (l ++ [v]).length s = gst s (g1 B v q) (GN (gF B (lf l) q) m l.length) m (GN (gF B (lf l) q) m l.length s) := by
  rw [List.length_append, List.length_singleton]
  have e : ∀ s, GN (gF B (lf (l ++ [v])) q) m l.length s = GN (gF B (lf l) q) m l.length s := GN_cg (fun i j hi _ => by unfold gF gpr okF csF; rw [lf_init hi])
  show gst s (gF B (lf (l ++ [v])) q l.length) (GN (gF B (lf (l ++ [v])) q) m l.length) m (GN (gF B (lf (l ++ [v])) q) m l.length s) = _
  refine gst_cg (fun j _ => ?_) e (e s)
  unfold gF g1 gpr okF csF
  rw [lf_last rfl]
/-- the best of those tried -/
def lxl (hm : Nat → Int) (cn : Nat → Nat) (s u : Nat) : Prop := hm s < hm u ∨ (hm s = hm u ∧ (cn s < cn u ∨ (cn s = cn u ∧ s ≤ u)))
def BST (hm : Nat → Int) (cn : Nat → Nat) (ok C : Nat → Prop) (ys yh yc : Int) : Prop := (ys = -1 ∧ ∀ u, C u → ¬ ok u) ∨ ∃ s : Nat, C s ∧ ok s ∧ ys = s ∧ yh = hm s ∧ yc = cn s ∧ ∀ u, C u → ok u → lxl hm cn s u
section BS
variable {hm : Nat → Int} {cn : Nat → Nat} {ok C D : Nat → Prop} {ys yh yc : Int} {s : Nat}
theorem BST.cg (h : BST hm cn ok C ys yh yc) (e : ∀ u, C u ↔ D u) : BST hm cn ok D ys yh yc := by
  have : C = D := funext fun u => propext (e u)
  rw [← this]; exact h
theorem BST.no (h : BST hm cn ok C ys yh yc) (n : ¬ ok s) : BST hm cn ok (fun u => C u ∨ u = s) ys yh yc := by
  rcases h with ⟨h1, h2⟩ | ⟨z, h1, h2, h3, h4, h5, h6⟩
  · refine Or.inl ⟨h1, fun u hu => ?_⟩
    rcases hu with hu | hu
    · exact h2 u hu
    · rw [hu]; exact n
  · refine Or.inr ⟨z, Or.inl h1, h2, h3, h4, h5, fun u hu ho => ?_⟩
    rcases hu with hu | hu
    · exact h6 u hu ho
    · rw [hu] at ho; exact absurd ho n
theorem BST.new (h : BST hm cn ok C ys yh yc) (o : ok s) (b : ys = -1 ∨ hm s < yh ∨ (hm s = yh ∧ ((cn s : Int) < yc ∨ ((cn s : Int) = yc ∧ (s : Int) < ys)))) : BST hm cn ok (fun u => C u ∨ u = s) s (hm s) (cn s) := by
  refine Or.inr ⟨s, Or.inr rfl, o, rfl, rfl, rfl, fun u hu ho => ?_⟩
  rcases hu with hu | hu
  · rcases h with ⟨h1, h2⟩ | ⟨z, h1, h2, h3, h4, h5, h6⟩
    · exact absurd ho (h2 u hu)
    · have := h6 u hu ho
      unfold lxl at this ⊢
      omega
  · subst hu
    exact Or.inr ⟨rfl, Or.inr ⟨rfl, Nat.le_refl _⟩⟩
theorem BST.old (h : BST hm cn ok C ys yh yc) (b : ¬ (ys = -1 ∨ hm s < yh ∨ (hm s = yh ∧ ((cn s : Int) < yc ∨ ((cn s : Int) = yc ∧ (s : Int) < ys))))) : BST hm cn ok (fun u => C u ∨ u = s) ys yh yc := by
  rcases h with ⟨h1, h2⟩ | ⟨z, h1, h2, h3, h4, h5, h6⟩
  · exact absurd (Or.inl h1) b
  · refine Or.inr ⟨z, Or.inl h1, h2, h3, h4, h5, fun u hu ho => ?_⟩
    rcases hu with hu | hu
    · exact h6 u hu ho
    · subst hu
      unfold lxl
      omega
theorem BST.eq {zs zh zc : Int} (h : BST hm cn ok C ys yh yc) (k : BST hm cn ok C zs zh zc) : ys = zs ∧ (ys ≠ -1 → yh = zh) := by
  rcases h with ⟨h1, h2⟩ | ⟨s, h1, h2, h3, h4, h5, h6⟩
  · rcases k with ⟨k1, k2⟩ | ⟨z, k1, k2, k3, k4, k5, k6⟩
    · exact ⟨by omega, fun n => by omega⟩
    · exact absurd k2 (h2 z k1)
  · rcases k with ⟨k1, k2⟩ | ⟨z, k1, k2, k3, k4, k5, k6⟩
    · exact absurd h2 (k2 s h1)
    · have e1 := h6 z k1 k2
      have e2 := k6 s h1 h2
      unfold lxl at e1 e2
      have : s = z := by omega
      subst this
      exact ⟨by omega, fun _ => by omega⟩
end BS
/-- sets above a set -/
theorem pcn_up {u : Nat} {f : Nat} : ∀ k, pcn u (f + k) = pcn u f → ∀ i, f ≤ i → i < f + k → u.testBit i = false
  | 0, _, i, h1, h2 => by omega
  | k + 1, h, i, h1, h2 => by
    have hm := pcn_mono (s := u) (m := f) k
    rw [← Nat.add_assoc, pcn_s] at h
    have hb : u.testBit (f + k) = false := by
      cases c : u.testBit (f + k)
      · rfl
      · rw [c, if_pos rfl] at h; omega
    by_cases e : i = f + k
    · rw [e]; exact hb
    · exact pcn_up k (by rw [hb, if_neg (by decide)] at h; omega) i h1 (by omega)
theorem pcn_cg {s u : Nat} : ∀ n, (∀ i, i < n → s.testBit i = u.testBit i) → pcn s n = pcn u n
  | 0, _ => rfl
  | n + 1, h => by rw [pcn_s, pcn_s, pcn_cg n (fun i hi => h i (by omega)), h n (by omega)]
theorem pcn_top {s f : Nat} (hs : s < 2 ^ f) {n : Nat} (h : f ≤ n) : pcn s n = pcn s f := by
  obtain ⟨k, rfl⟩ : ∃ k, n = f + k := ⟨n - f, by omega⟩
  exact pcn_ext hs k
theorem only_set {S u f s : Nat} (hf : f ≤ S) (hu : u < 2 ^ S) (hm : u % 2 ^ f = s) (hp : pcn u S ≤ pcn s S) : u = s := by
  have hs : s < 2 ^ f := by rw [← hm]; exact Nat.mod_lt _ (Nat.pow_pos (by omega))
  have hb : ∀ i, i < f → u.testBit i = s.testBit i := fun i hi => by rw [← hm, Nat.testBit_mod_two_pow, decide_eq_true hi, Bool.true_and]
  have h1 : pcn u f = pcn s f := pcn_cg f hb
  rw [pcn_top hs hf] at hp
  obtain ⟨k, rfl⟩ : ∃ k, S = f + k := ⟨S - f, by omega⟩
  have h2 := pcn_mono (s := u) (m := f) k
  have h3 := pcn_up (u := u) (f := f) k (by omega)
  refine Nat.eq_of_testBit_eq fun i => ?_
  by_cases c : i < f
  · exact hb i c
  · rw [tb_hi hs (by omega)]
    by_cases c2 : i < f + k
    · exact h3 i (by omega) c2
    · exact tb_hi hu (by omega)
theorem mod_bit {u i s : Nat} (hs : s < 2 ^ i) : (u % 2 ^ (i + 1) = s ||| 2 ^ i ↔ u % 2 ^ i = s ∧ u.testBit i = true) ∧ (u % 2 ^ (i + 1) = s ↔ u % 2 ^ i = s ∧ u.testBit i = false) := by
  have e1 : u % 2 ^ (i + 1) = u % 2 ^ i + 2 ^ i * (u / 2 ^ i % 2) := by rw [Nat.pow_succ, Nat.mod_mul]
  have e2 : s ||| 2 ^ i = 2 ^ i + s := by
    have h := Nat.two_pow_add_eq_or_of_lt hs 1
    rw [Nat.mul_one] at h
    rw [Nat.or_comm]; exact h.symm
  have hp : 0 < 2 ^ i := Nat.pow_pos (by omega)
  have hl := Nat.mod_lt u hp
  have eb : u.testBit i = decide (u / 2 ^ i % 2 = 1) := Nat.testBit_eq_decide_div_mod_eq
  rw [e1, e2, eb]
  rcases Nat.mod_two_eq_zero_or_one (u / 2 ^ i) with h | h
  · rw [h, Nat.mul_zero, Nat.add_zero]
    refine ⟨⟨fun e => by omega, fun e => by simp at e⟩, ⟨fun e => ⟨e, by decide⟩, fun e => e.1⟩⟩
  · rw [h, Nat.mul_one]
    refine ⟨⟨fun e => ⟨by omega, by decide⟩, fun e => by omega⟩, ⟨fun e => by omega, fun e => by simp at e⟩⟩
section MK
variable {B : Nat → Nat → Int}
theorem alh_rg (hI : INV B) {dr st : Nat} {dn : Int} {F sc : Nat → Int} (hN : N12 F) (hst : st < 6) (hsc : ∀ t, -5000 ≤ sc t ∧ sc t ≤ 5000) : ∀ n : Nat, 0 ≤ alh B dr st dn F sc n ∧ alh B dr st dn F sc n ≤ 99000000 * n ∨ 6 < n
  | 0 => by simp [alh]
  | n + 1 => by
    by_cases h6 : 6 < n + 1
    · exact Or.inr h6
    · refine Or.inl ?_
      have ih := alh_rg hI (dr := dr) (dn := dn) hN hst hsc n
      have ht := tk_rg (lim := B 7 0) (f := sc) (s := (B 9 n).toNat) (n := 12) (by omega) (fun t => by have := hsc t; omega)
      have hh := hb_rg hI (dr := dr) (dn := dn) hN (land := n) (took := tk (B 7 0) sc (B 9 n).toNat 12) (by omega) (by omega) (by omega : st ≤ 1000)
      have hs : 0 ≤ B 8 n ∧ B 8 n ≤ 99 := hI.1 8 n (by decide) (by decide)
      have hm := mul_rg hs hh
      have ha : alh B dr st dn F sc (n + 1) = alh B dr st dn F sc n + (if 0 < B 8 n then B 8 n * hb B dr st dn F n (tk (B 7 0) sc (B 9 n).toNat 12) else 0) := rfl
      rw [ha]
      generalize B 8 n * hb B dr st dn F n (tk (B 7 0) sc (B 9 n).toNat 12) = z at *
      split <;> omega
end MK
