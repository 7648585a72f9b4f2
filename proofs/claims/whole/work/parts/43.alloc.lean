/-! What is made: a cell more. -/
def ext (n : Nat) (al : Nat → Nat) (cy : Nat → ClassId) (al' : Nat → Nat) (cy' : Nat → ClassId) : Prop := ∀ c, c < n → al' c = al c ∧ cy' c = cy c
theorem ext_rf (n : Nat) (al : Nat → Nat) (cy : Nat → ClassId) : ext n al cy al cy := fun _ _ => ⟨rfl, rfl⟩
theorem ext_tr {n n' : Nat} {al al' al2 : Nat → Nat} {cy cy' cy2 : Nat → ClassId} (h : ext n al cy al' cy') (hn : n ≤ n') (h2 : ext n' al' cy' al2 cy2) : ext n al cy al2 cy2 := fun c hc => ⟨(h2 c (by omega)).1.trans (h c hc).1, (h2 c (by omega)).2.trans (h c hc).2⟩
theorem ext_up (n : Nat) (al : Nat → Nat) (cy : Nat → ClassId) (q : Nat) (cA : ClassId) : ext n al cy (upR al n q) (upR cy n cA) := fun c hc => ⟨upR_ne (by omega), upR_ne (by omega)⟩
theorem tV_ext {n : Nat} {al al' sp : Nat → Nat} {cy cy' : Nat → ClassId} (h : ext n al cy al' cy') {v : Value} (hv : vOK n v) : tV al' sp v = tV al sp v := by
  cases v <;> first | rfl | exact congrArg Value.ref (h _ hv).1
theorem map_ext {n : Nat} {al al' sp : Nat → Nat} {cy cy' : Nat → ClassId} (h : ext n al cy al' cy') {S : List Value} (hv : ∀ v ∈ S, vOK n v) : S.map (tV al' sp) = S.map (tV al sp) := List.map_congr_left (fun v q => tV_ext h (hv v q))
theorem LR_ext {n : Nat} {al al' sp : Nat → Nat} {cy cy' : Nat → ClassId} (h : ext n al cy al' cy') {L : List Value} {ls : Array Slot} {nL : Nat} (hv : ∀ v ∈ L, vOK n v) (hL : LR al sp L ls nL) : LR al' sp L ls nL :=
  ⟨hL.1, hL.2.1, hL.2.2.1, fun i v h1 h2 => by rw [tV_ext h (hv v (List.mem_of_getElem? h1))]; exact hL.2.2.2 i v h1 h2⟩
theorem cE_ext {ft : Nat → Nat → Nat} {n : Nat} {al al' : Nat → Nat} {cy cy' : Nat → ClassId} (h : ext n al cy al' cy') {z : SS} {c : Nat} (hc : c < n) (hp : ∀ k c', z.2.2.2.2.2 c k = some c' → c' < n) : cE ft al' cy' z c = cE ft al cy z c := by
  have hm : ∀ k, (z.2.2.2.2.2 c k).map al' = (z.2.2.2.2.2 c k).map al := fun k => by
    cases hq : z.2.2.2.2.2 c k with
    | none => rfl
    | some c' => exact congrArg some (h c' (hp k c' hq)).1
  unfold cE fV
  rw [(h c hc).2]
  simp only [hm]
theorem vOK_mono {n n' : Nat} (h : n ≤ n') {v : Value} (hv : vOK n v) : vOK n' v := by
  cases v <;> first | trivial | exact Nat.lt_of_lt_of_le hv h
theorem alloc_WF {cl : List vw_C} {z : SS} {kind len : Nat} (h : WF cl z) (ho : kind < 100 → ∃ q : vw_C, cl[kind]? = some q ∧ q.2.2 = len) : WF cl (alloc z kind len) := by
  obtain ⟨h1, h2, h3⟩ := h
  refine ⟨fun c k c' hc hk => ?_, fun c k hc hk => ?_, fun c hc hk => ?_⟩
  · replace hk : upR z.2.2.2.2.2 z.1 (fun _ => none) c k = some c' := hk
    by_cases q : c = z.1
    · subst q; rw [upR_at] at hk; cases hk
    · rw [upR_ne q] at hk
      have := h1 c k c' (by have : c < z.1 + 1 := hc; omega) hk
      show c' < z.1 + 1
      omega
  · show upR z.2.2.2.1 z.1 (fun _ => 0) c k = 0 ∨ upR z.2.2.2.1 z.1 (fun _ => 0) c k = 1
    replace hk : (upR z.2.2.1 z.1 (kind, len) c).1 = 101 := hk
    by_cases q : c = z.1
    · subst q; rw [upR_at]; exact Or.inl rfl
    · rw [upR_ne q] at hk ⊢
      exact h2 c k (by have : c < z.1 + 1 := hc; omega) hk
  · show ∃ q : vw_C, cl[(upR z.2.2.1 z.1 (kind, len) c).1]? = some q ∧ q.2.2 = (upR z.2.2.1 z.1 (kind, len) c).2
    replace hk : (upR z.2.2.1 z.1 (kind, len) c).1 < 100 := hk
    by_cases q : c = z.1
    · subst q; rw [upR_at] at hk ⊢; exact ho hk
    · rw [upR_ne q] at hk ⊢
      exact h3 c (by have : c < z.1 + 1 := hc; omega) hk
section SD
variable {p : Program} {l : Launch} {e : Env} {R : Room} {s : State} {m : MethodId} {args : Array Value} {below : List Frame} {meth : Method} {c : Code} {H : Heap} {locs : List Loc} {cells slots : Nat} {Q : State → Prop} {cc : ByteArray}
variable {D : va_G} {cl : List vw_C} {nm : Nat → String} {g : PG} {al : Nat → Nat} {cy : Nat → ClassId} {sp : Nat → Nat} {A : Nat → Prop} {z : SS} {Ts : List Cond} {own : String} {pc : Nat} {ls : Array Slot} {rest : List Value}
theorem Wd.add (hW : Wd D cl nm g al cy sp A z s H locs) {kind len q : Nat} {cA : ClassId} {ev : va_E} {H1 : Heap} {locs1 : List Loc} (he : cE g.2.2.2.2.2.1 (upR al z.1 q) (upR cy z.1 cA) (alloc z kind len) z.1 = ev) (hk : 100 ≤ kind → ArrOfT s cA (aT nm kind) ∧ va_RA s cA (aT nm kind)) (ho : kind < 100 → ∃ r : vw_C, cl[kind]? = some r ∧ r.2.2 = len)
    (hP : va_P D cl (wW g.2.2.2.2.2.1 al cy z ++ [(q, ev)]) H1) (hD : va_D A (wW g.2.2.2.2.2.1 al cy z ++ [(q, ev)])) (hS : va_S A s.heap H1 locs1) : Wd D cl nm g (upR al z.1 q) (upR cy z.1 cA) sp A (alloc z kind len) s H1 locs1 := by
  obtain ⟨k1, k2, -, -, -, k6, k7, k8⟩ := hW
  have hw : wW g.2.2.2.2.2.1 al cy z ++ [(q, ev)] = wW g.2.2.2.2.2.1 (upR al z.1 q) (upR cy z.1 cA) (alloc z kind len) := by
    refine wl_snoc ?_ (fun j hj => ?_)
    · show (upR al z.1 q z.1, _) = _
      rw [upR_at, he]
    · have hj' : j ≠ z.1 := by omega
      show (upR al z.1 q j, cE g.2.2.2.2.2.1 (upR al z.1 q) (upR cy z.1 cA) (alloc z kind len) j) = _
      rw [upR_ne hj', cE_congr (z := z) (z' := alloc z kind len) (upR_ne hj') (upR_ne hj') (upR_ne hj') (upR_ne hj'), cE_ext (ext_up z.1 al cy q cA) hj (fun k c' => k8.1 j k c' hj)]
  rw [hw] at hP hD
  refine ⟨k1, fun c hc h => ?_, hP, hD, hS, k6, k7, alloc_WF k8 ho⟩
  replace h : 100 ≤ (upR z.2.2.1 z.1 (kind, len) c).1 := h
  show ArrOfT s (upR cy z.1 cA c) (aT nm (upR z.2.2.1 z.1 (kind, len) c).1) ∧ va_RA s (upR cy z.1 cA c) (aT nm (upR z.2.2.1 z.1 (kind, len) c).1)
  by_cases q : c = z.1
  · subst q
    rw [upR_at] at h
    rw [upR_at, upR_at]
    exact hk h
  · rw [upR_ne q] at h
    rw [upR_ne q, upR_ne q]
    exact k2 c (by have : c < z.1 + 1 := hc; omega) h
theorem sd_new (hW : Wd D cl nm g al cy sp A z s H locs) (hC : okCl Ts g.2.2.2.2.2.1 cl) (hx : p.tables.exec = Jvm.exec) (hb : c.code = cc) (hts : ∀ w ∈ Ts, w.before args s = true) (hown : s.vm.findClass own = some m.cls)
    {ci idx : Nat} {q : vw_C} (hcl : cl[ci]? = some q) (h1 : Cond.classLink own idx q.1 ∈ Ts) (h2 : Cond.instantiable q.1 q.2.2 ∈ Ts) (h3 : Cond.initialized q.1 ∈ Ts) (hcells : cells + 1 ≤ R.cells) (hslots : slots + q.2.2 ≤ R.slots) (hd : decode cc pc = .ok (.new idx, 3))
    (kk : ∀ (a : Nat) (cA : ClassId) (H1 : Heap) (locs1 : List Loc), Wd D cl nm g (upR al z.1 a) (upR cy z.1 cA) sp A (alloc z ci q.2.2) s H1 locs1 → W p l e R s m args below meth c H1 locs1 (cells + 1) (slots + q.2.2) Q (F0 m (pc + 3) ls (.ref a :: rest))) :
    W p l e R s m args below meth c H locs cells slots Q (F0 m pc ls rest) := by
  obtain ⟨C, T, N⟩ := q
  obtain ⟨h100, hin, ⟨ty0, hty⟩, hnm⟩ := hC ci _ hcl
  have hW0 := hW
  obtain ⟨k1, k2, hP, hD, hS, k6, k7, k8⟩ := hW
  refine va_new (fs := (List.range N).map (fun k => fV (g.2.2.2.2.2.1 ci k) al (alloc z ci N) z.1 k)) hx hb hts hin ty0 (fun k hk => (hty k hk).1) hown (hts _ h1) (hts _ h2) (hts _ h3) k1 hP hD hS k6 hcl ?_ hcells hslots hd (fun a H1 a1 a2 a3 => kk a (cy z.1) H1 locs (hW0.add ?_ (fun q => by omega) (fun _ => ⟨_, hcl, rfl⟩) a1 a2 a3))
  · intro j hj
    have : vp_V ((List.range N).map (fun k => fV (g.2.2.2.2.2.1 ci k) al (alloc z ci N) z.1 k)) j = fV (g.2.2.2.2.2.1 ci j) al (alloc z ci N) z.1 j := by
      simp [vp_V, hj]
    rw [this]
    have hI : (alloc z ci N).2.2.2.1 z.1 j = 0 := by show upR z.2.2.2.1 z.1 (fun _ => 0) z.1 j = 0; rw [upR_at]
    have hJ : (alloc z ci N).2.2.2.2.1 z.1 j = 0 := by show upR z.2.2.2.2.1 z.1 (fun _ => 0) z.1 j = 0; rw [upR_at]
    have hPn : (alloc z ci N).2.2.2.2.2 z.1 j = none := by show upR z.2.2.2.2.2 z.1 (fun _ => none) z.1 j = none; rw [upR_at]
    rcases (hty j hj).2 with ⟨q1, q2⟩ | ⟨q1, q2⟩ | ⟨q1, q2⟩ | ⟨q1, ⟨n, q2⟩ | ⟨n, q2⟩⟩
    · rw [q1, q2]; show _ = Value.int _; rw [hI]; rfl
    · rw [q1, q2]; show _ = Value.int _; rw [hI]; rfl
    · rw [q1, q2]; show _ = Value.long _; rw [hJ]; rfl
    · rw [q1, q2]; show _ = va_rf _; rw [hPn]; rfl
    · rw [q1, q2]; show _ = va_rf _; rw [hPn]; rfl
  · rw [cE_obj (ci := ci) (N := N) (by show upR z.2.2.1 z.1 (ci, N) z.1 = _; rw [upR_at]) h100]
    congr 2
    apply List.map_congr_left
    intro k _
    have hPn : (alloc z ci N).2.2.2.2.2 z.1 k = none := by show upR z.2.2.2.2.2 z.1 (fun _ => none) z.1 k = none; rw [upR_at]
    unfold fV
    rw [hPn]
    rfl
end SD
