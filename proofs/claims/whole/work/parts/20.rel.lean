/-! How a state of the small machine lies in the heap. -/
def tV (al sp : Nat → Nat) (v : Value) : Value := match v with
  | .ref c => .ref (al c)
  | .retAddr k => .ref (sp k)
  | w => w
def fV (t : Nat) (al : Nat → Nat) (z : SS) (c k : Nat) : Value := match t with
  | 0 => .int (z.2.2.2.1 c k)
  | 1 => .int (z.2.2.2.1 c k)
  | 2 => .long (z.2.2.2.2.1 c k)
  | _ => va_rf ((z.2.2.2.2.2 c k).map al)
def cE (ft : Nat → Nat → Nat) (al : Nat → Nat) (cy : Nat → ClassId) (z : SS) (c : Nat) : va_E :=
  if (z.2.2.1 c).1 < 100 then .inr ((z.2.2.1 c).1, (List.range (z.2.2.1 c).2).map (fun k => fV (ft (z.2.2.1 c).1 k) al z c k))
  else if (z.2.2.1 c).1 = 103 then .inl (cy c, (z.2.2.1 c).2, .inr (.inl (z.2.2.2.2.1 c)))
  else if 200 ≤ (z.2.2.1 c).1 then .inl (cy c, (z.2.2.1 c).2, .inr (.inr (.inr (.inr (fun k => (z.2.2.2.2.2 c k).map al)))))
  else .inl (cy c, (z.2.2.1 c).2, .inl (z.2.2.2.1 c))
def wl (n : Nat) (f : Nat → Nat × va_E) : va_W := (List.range n).map f
theorem wl_get {n c : Nat} {f : Nat → Nat × va_E} (h : c < n) : (wl n f)[c]? = some (f c) := by
  simp [wl, h]
theorem wl_some {n k : Nat} {f : Nat → Nat × va_E} {q : Nat × va_E} (h : (wl n f)[k]? = some q) : k < n ∧ f k = q := by
  simp only [wl, List.getElem?_map, Option.map_eq_some_iff] at h
  obtain ⟨a, h1, h2⟩ := h
  rw [List.getElem?_eq_some_iff] at h1
  obtain ⟨h3, h4⟩ := h1
  simp at h3 h4
  subst h4
  exact ⟨h3, h2⟩
theorem wl_set {n c : Nat} {f f' : Nat → Nat × va_E} {e : Nat × va_E} (h : c < n) (hc : f' c = e) (ho : ∀ j, j < n → j ≠ c → f' j = f j) : (wl n f).set c e = wl n f' := by
  apply List.ext_getElem?
  intro j
  rw [List.getElem?_set]
  by_cases hj : c = j
  · subst hj
    have : c < (wl n f).length := by simp [wl]; exact h
    simp [this, wl_get h, hc]
  · simp only [hj, if_false]
    by_cases hn : j < n
    · rw [wl_get hn, wl_get hn, ho j hn (fun q => hj q.symm)]
    · have h1 : (wl n f)[j]? = none := by simp [wl]; omega
      have h2 : (wl n f')[j]? = none := by simp [wl]; omega
      rw [h1, h2]
theorem wl_snoc {n : Nat} {f f' : Nat → Nat × va_E} {e : Nat × va_E} (hc : f' n = e) (ho : ∀ j, j < n → f' j = f j) : wl n f ++ [e] = wl (n + 1) f' := by
  simp only [wl, List.range_succ, List.map_append, List.map_cons, List.map_nil, hc]
  congr 1
  apply List.map_congr_left
  intro a ha
  exact (ho a (List.mem_range.mp ha)).symm
abbrev wW (ft : Nat → Nat → Nat) (al : Nat → Nat) (cy : Nat → ClassId) (z : SS) : va_W := wl z.1 (fun c => (al c, cE ft al cy z c))
def aT (nm : Nat → String) (k : Nat) : FieldType := match k with
  | 100 => .int
  | 101 => .boolean
  | 102 => .byte
  | 103 => .long
  | _ => .object (nm (k - 200))
/-- references lead to cells; truth values are 0 or 1; an object has its class's fields -/
def WF (cl : List vw_C) (z : SS) : Prop := (∀ c k c', c < z.1 → z.2.2.2.2.2 c k = some c' → c' < z.1) ∧ (∀ c k, c < z.1 → (z.2.2.1 c).1 = 101 → z.2.2.2.1 c k = 0 ∨ z.2.2.2.1 c k = 1) ∧ (∀ c, c < z.1 → (z.2.2.1 c).1 < 100 → ∃ q : vw_C, cl[(z.2.2.1 c).1]? = some q ∧ q.2.2 = (z.2.2.1 c).2)
def vOK (n : Nat) (v : Value) : Prop := match v with
  | .ref c => c < n
  | _ => True
/-- the locals -/
def LR (al sp : Nat → Nat) (L : List Value) (ls : Array Slot) (nL : Nat) : Prop := ls.size = nL ∧ lv_wf ls ∧ L.length = nL ∧ ∀ (i : Nat) (v : Value), L[i]? = some v → v ≠ vU → ls[i]? = some (.val (tV al sp v))
/-- the world of the small machine's state, at a frame that began at s -/
def Wd (D : va_G) (cl : List vw_C) (nm : Nat → String) (g : PG) (al : Nat → Nat) (cy : Nat → ClassId) (sp : Nat → Nat) (A : Nat → Prop) (z : SS) (s : State) (H : Heap) (locs : List Loc) : Prop :=
  va_K D cl [] s ∧ (∀ c, c < z.1 → 100 ≤ (z.2.2.1 c).1 → ArrOfT s (cy c) (aT nm (z.2.2.1 c).1) ∧ va_RA s (cy c) (aT nm (z.2.2.1 c).1)) ∧ va_P D cl (wW g.2.2.2.2.2.1 al cy z) H ∧ va_D A (wW g.2.2.2.2.2.1 al cy z) ∧ va_S A s.heap H locs ∧
  (∀ q, s.heap.size ≤ q → A q) ∧ (∀ k, k < 2 → va_T .int (sp k) (g.2.2.2.2.2.2 k).1 (fun j => .int ((g.2.2.2.2.2.2 k).2 j)) A s s.heap) ∧ WF cl z
theorem tV_cat (al sp : Nat → Nat) (v : Value) : (tV al sp v).category = v.category := by cases v <;> rfl
theorem cat_sum4 {al sp : Nat → Nat} {l : List Value} (h : catS l ≤ 8) : ((l.map (tV al sp)).map fun v => v.category).sum ≤ 8 := by
  have e : ∀ l : List Value, ((l.map (tV al sp)).map fun v => v.category).sum = catS l := by
    intro l
    induction l with
    | nil => rfl
    | cons a t ih =>
      simp only [List.map_cons, List.sum_cons, tV_cat, catS]
      rw [← ih]
  rw [e]
  exact h
