/-! Fields and arrays: how a world is read and written. -/
theorem fV_tV (t : Nat) (al sp : Nat → Nat) (z : SS) (c k : Nat) : fV t al z c k = tV al sp (fget t z c k) := by
  match t with
  | 0 => rfl
  | 1 => rfl
  | 2 => rfl
  | n + 3 =>
    show va_rf ((z.2.2.2.2.2 c k).map al) = tV al sp (rfv (z.2.2.2.2.2 c k))
    cases z.2.2.2.2.2 c k <;> rfl
theorem cE_congr {ft : Nat → Nat → Nat} {al : Nat → Nat} {cy : Nat → ClassId} {z z' : SS} {c : Nat} (h1 : z'.2.2.1 c = z.2.2.1 c) (h2 : z'.2.2.2.1 c = z.2.2.2.1 c) (h3 : z'.2.2.2.2.1 c = z.2.2.2.2.1 c) (h4 : z'.2.2.2.2.2 c = z.2.2.2.2.2 c) : cE ft al cy z' c = cE ft al cy z c := by
  unfold cE fV
  rw [h1, h2, h3, h4]
theorem cE_obj {ft : Nat → Nat → Nat} {al : Nat → Nat} {cy : Nat → ClassId} {z : SS} {c ci N : Nat} (h : z.2.2.1 c = (ci, N)) (hc : ci < 100) : cE ft al cy z c = .inr (ci, (List.range N).map (fun k => fV (ft ci k) al z c k)) := by
  unfold cE
  rw [h]
  exact if_pos hc
theorem cE_int {ft : Nat → Nat → Nat} {al : Nat → Nat} {cy : Nat → ClassId} {z : SS} {c : Nat} (h : (z.2.2.1 c).1 = 100 ∨ (z.2.2.1 c).1 = 101 ∨ (z.2.2.1 c).1 = 102) : cE ft al cy z c = .inl (cy c, (z.2.2.1 c).2, .inl (z.2.2.2.1 c)) := by
  unfold cE
  rw [if_neg (by omega), if_neg (by omega), if_neg (by omega)]
theorem cE_long {ft : Nat → Nat → Nat} {al : Nat → Nat} {cy : Nat → ClassId} {z : SS} {c : Nat} (h : (z.2.2.1 c).1 = 103) : cE ft al cy z c = .inl (cy c, (z.2.2.1 c).2, .inr (.inl (z.2.2.2.2.1 c))) := by
  unfold cE
  rw [if_neg (by omega), if_pos (by omega)]
theorem cE_ref {ft : Nat → Nat → Nat} {al : Nat → Nat} {cy : Nat → ClassId} {z : SS} {c : Nat} (h : 200 ≤ (z.2.2.1 c).1) : cE ft al cy z c = .inl (cy c, (z.2.2.1 c).2, .inr (.inr (.inr (.inr (fun k => (z.2.2.2.2.2 c k).map al))))) := by
  unfold cE
  rw [if_neg (by omega), if_neg (by omega), if_pos (by omega)]
theorem map_set_range {N k : Nat} {f f' : Nat → Value} {v : Value} (hk : k < N) (hv : f' k = v) (ho : ∀ j, j < N → j ≠ k → f' j = f j) : ((List.range N).map f).set k v = (List.range N).map f' := by
  apply List.ext_getElem?
  intro j
  rw [List.getElem?_set]
  by_cases hj : k = j
  · subst hj
    simp [hk, hv]
  · simp only [hj, if_false]
    by_cases hn : j < N
    · simp [hn, ho j hn (fun q => hj q.symm)]
    · simp [hn]
theorem up2_same {α : Type} (f : Nat → Nat → α) (c k : Nat) (v : α) : up2 f c k v c = (fun j => if j = k then v else f c j) := by simp [up2]
theorem up2_ne {α : Type} {f : Nat → Nat → α} {c k c' : Nat} {v : α} (h : c' ≠ c) : up2 f c k v c' = f c' := by simp [up2, h]
theorem up2_at {α : Type} (f : Nat → Nat → α) (c k : Nat) (v : α) : up2 f c k v c k = v := by simp [up2]
theorem up2_nk {α : Type} {f : Nat → Nat → α} {c k k' : Nat} {v : α} (c' : Nat) (h : k' ≠ k) : up2 f c k v c' k' = f c' k' := by
  unfold up2
  by_cases q : c' = c
  · subst q; simp [h]
  · simp [q]
theorem upR_at {α : Type} (f : Nat → α) (c : Nat) (v : α) : upR f c v c = v := by simp [upR]
theorem upR_ne {α : Type} {f : Nat → α} {c c' : Nat} {v : α} (h : c' ≠ c) : upR f c v c' = f c' := by simp [upR, h]
/-- the kinds stay, and so do all cells but one -/
def one (z z' : SS) (c : Nat) : Prop := z'.1 = z.1 ∧ z'.2.1 = z.2.1 ∧ z'.2.2.1 = z.2.2.1 ∧ ∀ j, j ≠ c → z'.2.2.2.1 j = z.2.2.2.1 j ∧ z'.2.2.2.2.1 j = z.2.2.2.2.1 j ∧ z'.2.2.2.2.2 j = z.2.2.2.2.2 j
theorem one_I (z : SS) (c k : Nat) (v : Int32) : one z (setI z c k v) c := ⟨rfl, rfl, rfl, fun j h => ⟨up2_ne h, rfl, rfl⟩⟩
theorem one_J (z : SS) (c k : Nat) (v : Int64) : one z (setJ z c k v) c := ⟨rfl, rfl, rfl, fun j h => ⟨rfl, up2_ne h, rfl⟩⟩
theorem one_P (z : SS) (c k : Nat) (v : Option Nat) : one z (setP z c k v) c := ⟨rfl, rfl, rfl, fun j h => ⟨rfl, rfl, up2_ne h⟩⟩
theorem wW_one {ft : Nat → Nat → Nat} {al : Nat → Nat} {cy : Nat → ClassId} {z z' : SS} {c : Nat} {e : va_E} (h : one z z' c) (hc : c < z.1) (he : cE ft al cy z' c = e) : (wW ft al cy z).set c (al c, e) = wW ft al cy z' := by
  obtain ⟨h1, -, h2, h3⟩ := h
  unfold wW
  rw [h1]
  refine wl_set hc (by rw [he]) (fun j _ hj => ?_)
  rw [cE_congr (by rw [h2]) (h3 j hj).1 (h3 j hj).2.1 (h3 j hj).2.2]
theorem fput_one {t : Nat} {z z' : SS} {c k : Nat} {v : Value} (h : fput t z c k v = some z') : one z z' c := by
  unfold fput at h
  split at h
  · cases h; exact one_I _ _ _ _
  · split at h
    · cases h; exact one_I _ _ _ _
    · cases h
  · cases h; exact one_J _ _ _ _
  · split at h
    · cases h; exact one_P _ _ _ _
    · cases h
  · cases h
theorem fput_fV {t : Nat} {z z' : SS} {c k : Nat} {v : Value} (al sp : Nat → Nat) (h : fput t z c k v = some z') : fV t al z' c k = tV al sp v ∧ ∀ t' j, j ≠ k → fV t' al z' c j = fV t' al z c j := by
  unfold fput at h
  split at h
  · cases h
    refine ⟨by simp [fV, setI, up2_at, tV], fun t' j hj => ?_⟩
    unfold fV setI; simp only [up2_nk c hj]
  · split at h
    · cases h
      refine ⟨by simp [fV, setI, up2_at, tV], fun t' j hj => ?_⟩
      unfold fV setI; simp only [up2_nk c hj]
    · cases h
  · cases h
    refine ⟨by simp [fV, setJ, up2_at, tV], fun t' j hj => ?_⟩
    unfold fV setJ; simp only [up2_nk c hj]
  · split at h
    · cases h
      refine ⟨by simp [fV, setP, up2_at, tV, va_rf], fun t' j hj => ?_⟩
      unfold fV setP; simp only [up2_nk c hj]
    · cases h
  · cases h
theorem WF_I {cl : List vw_C} {z : SS} {c k : Nat} {v : Int32} (h : WF cl z) (hv : (z.2.2.1 c).1 = 101 → v = 0 ∨ v = 1) : WF cl (setI z c k v) := by
  obtain ⟨h1, h2, h3⟩ := h
  refine ⟨h1, fun c' k' hc hk => ?_, h3⟩
  show up2 z.2.2.2.1 c k v c' k' = 0 ∨ up2 z.2.2.2.1 c k v c' k' = 1
  unfold up2
  by_cases q : c' = c
  · subst q
    rw [if_pos rfl]
    split
    · exact hv hk
    · exact h2 _ _ hc hk
  · rw [if_neg q]
    exact h2 _ _ hc hk
theorem WF_J {cl : List vw_C} {z : SS} {c k : Nat} {v : Int64} (h : WF cl z) : WF cl (setJ z c k v) := h
theorem WF_P {cl : List vw_C} {z : SS} {c k v : Nat} (h : WF cl z) (hv : v < z.1) : WF cl (setP z c k (some v)) := by
  obtain ⟨h1, h2, h3⟩ := h
  refine ⟨fun c' k' x hc hk => ?_, h2, h3⟩
  replace hk : up2 z.2.2.2.2.2 c k (some v) c' k' = some x := hk
  unfold up2 at hk
  by_cases q : c' = c
  · subst q
    rw [if_pos rfl] at hk
    split at hk
    · cases hk; exact hv
    · exact h1 _ _ _ hc hk
  · rw [if_neg q] at hk
    exact h1 _ _ _ hc hk
theorem fput_WF {cl : List vw_C} {t : Nat} {z z' : SS} {c k : Nat} {v : Value} (hW : WF cl z) (hk : (z.2.2.1 c).1 < 100) (h : fput t z c k v = some z') : WF cl z' := by
  unfold fput at h
  split at h
  · cases h; exact WF_I hW (fun q => by omega)
  · split at h
    · cases h; exact WF_I hW (fun q => by omega)
    · cases h
  · cases h; exact WF_J hW
  · split at h
    · rename_i hx; cases h; exact WF_P hW hx
    · cases h
  · cases h
/-- a world in which one cell is written -/
theorem Wd.wr {D : va_G} {cl : List vw_C} {nm : Nat → String} {g : PG} {al : Nat → Nat} {cy : Nat → ClassId} {sp : Nat → Nat} {A : Nat → Prop} {z z' : SS} {s : State} {H H1 : Heap} {locs locs1 : List Loc} {c : Nat} {ev : va_E} (hW : Wd D cl nm g al cy sp A z s H locs) (h : one z z' c) (hc : c < z.1) (he : cE g.2.2.2.2.2.1 al cy z' c = ev) (hF : WF cl z')
    (hP : va_P D cl ((wW g.2.2.2.2.2.1 al cy z).set c (al c, ev)) H1) (hD : va_D A ((wW g.2.2.2.2.2.1 al cy z).set c (al c, ev))) (hS : va_S A s.heap H1 locs1) : Wd D cl nm g al cy sp A z' s H1 locs1 := by
  obtain ⟨k1, k2, -, -, -, k6, k7, -⟩ := hW
  rw [wW_one h hc he] at hP hD
  obtain ⟨e1, -, e2, -⟩ := h
  exact ⟨k1, by rw [e1, e2]; exact k2, hP, hD, hS, k6, k7, hF⟩
