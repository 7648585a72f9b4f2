/-! A method's run in the small machine gives its contract. -/
def rI (v : Option Value) : Instr := match v with
  | none => .return_
  | some (.int _) => .ireturn
  | some (.long _) => .lreturn
  | some _ => .areturn
def rOK (t : Nat) (v : Option Value) : Prop := match v with
  | none => t = 0
  | some (.int x) => t = 1 ∨ t = 2 ∧ (x = 0 ∨ x = 1)
  | some (.long _) => t = 3
  | some (.ref _) => t = 4
  | some _ => False
def okR (t : Nat) (ty : Option FieldType) : Prop := (t = 0 ∧ ty = none) ∨ (t = 1 ∧ ty = some .int) ∨ (t = 2 ∧ ty = some .boolean) ∨ (t = 3 ∧ ty = some .long) ∨ (t = 4 ∧ ∃ n, ty = some (.object n))
def okM (Ts : List Cond) (g : PG) (mY : Nat → MethodName) (mC : Nat → ByteArray) (rT : Nat → Option FieldType) (mid n : Nat) : Prop :=
  Cond.code (mY mid) (mC mid) (g.2.2.2.2.1 mid).1 (rT mid) ∈ Ts ∧ (g.2.2.2.2.1 mid).1 ≤ 40 ∧ plainName (mY mid).cls = true ∧ ((mY mid).cls ≠ "java/lang/invoke/MethodHandle" ∧ (mY mid).cls ≠ "java/lang/invoke/VarHandle" ∧ (parseMethodDescriptor (mY mid).desc).map (fun d => d.parameters.length) = some n) ∧ Cond.initialized (mY mid).cls ∈ Ts ∧ okR (g.2.2.2.2.1 mid).2 (rT mid)
theorem unL_len (as : List Value) (al sp : Nat → Nat) : (lg_sl (as.map (tV al sp))).length = (as.flatMap unL).length := by
  induction as with
  | nil => rfl
  | cons a t ih =>
    have h : lg_sl ((a :: t).map (tV al sp)) = (if (tV al sp a).category = 2 then [.val (tV al sp a), .second] else [.val (tV al sp a)]) ++ lg_sl (t.map (tV al sp)) := rfl
    rw [h, List.length_append, ih, List.flatMap_cons, List.length_append, tV_cat]
    cases a <;> rfl
theorem mkL_len {n : Nat} {as : List Value} (h : (as.flatMap unL).length ≤ n) : (mkL n as).length = n := by
  unfold mkL
  simp only [List.length_append, List.length_replicate]
  omega
theorem mem_args {al sp : Nat → Nat} : ∀ (as : List Value) (k i : Nat) (v : Value), (as.flatMap unL)[i]? = some v → v ≠ vU → (k + i, tV al sp v) ∈ lv_args k (as.map (tV al sp)) := by
  intro as
  induction as with
  | nil => intro k i v h; simp at h
  | cons a t ih =>
    intro k i v h hv
    rw [List.map_cons]
    unfold lv_args
    rw [tV_cat]
    have two : ∀ w : Value, unL a = [w, vU] → w = a → a.category = 2 → (k + i, tV al sp v) ∈ (k, tV al sp a) :: lv_args (if a.category = 2 then k + 2 else k + 1) (t.map (tV al sp)) := by
      intro w hw hwa hc
      subst hwa
      rw [List.flatMap_cons, hw] at h
      match i with
      | 0 => simp at h; subst h; exact List.mem_cons_self
      | 1 => simp at h; exact absurd h.symm hv
      | j + 2 =>
        have h' : (t.flatMap unL)[j]? = some v := by simpa using h
        rw [if_pos hc]
        have := ih (k + 2) j v h' hv
        rw [show k + (j + 2) = k + 2 + j by omega]
        exact List.mem_cons_of_mem _ this
    have one : unL a = [a] → ¬ a.category = 2 → (k + i, tV al sp v) ∈ (k, tV al sp a) :: lv_args (if a.category = 2 then k + 2 else k + 1) (t.map (tV al sp)) := by
      intro hw hc
      rw [List.flatMap_cons, hw] at h
      match i with
      | 0 => simp at h; subst h; exact List.mem_cons_self
      | j + 1 =>
        have h' : (t.flatMap unL)[j]? = some v := by simpa using h
        rw [if_neg hc]
        have := ih (k + 1) j v h' hv
        rw [show k + (j + 1) = k + 1 + j by omega]
        exact List.mem_cons_of_mem _ this
    cases a with
    | long x => exact two _ rfl rfl rfl
    | double x => exact two _ rfl rfl rfl
    | _ => exact one rfl (fun q => absurd (show (1 : Nat) = 2 from q) (by decide))
theorem LR_entry {al sp : Nat → Nat} {n : Nat} {as : List Value} (h : (as.flatMap unL).length ≤ n) : LR al sp (mkL n as) ((lg_sl (as.map (tV al sp)) ++ List.replicate (n - (lg_sl (as.map (tV al sp))).length) Slot.unset).toArray) n := by
  refine LR.of (lv_entry (as.map (tV al sp)) (by rw [unL_len]; exact h)) (mkL_len h) (fun i v hi hv => ?_)
  unfold mkL at hi
  dsimp only at hi
  rw [List.getElem?_append] at hi
  split at hi
  · have := mem_args (al := al) (sp := sp) as 0 i v hi hv
    rwa [Nat.zero_add] at this
  · rw [List.getElem?_replicate] at hi
    split at hi
    · cases hi; exact absurd rfl hv
    · cases hi
theorem VO_entry {n k : Nat} {as : List Value} (h : ∀ v ∈ as, vOK k v) : VO k (mkL n as) [] := by
  refine ⟨fun v hv => ?_, fun v hv => by cases hv⟩
  unfold mkL at hv
  dsimp only at hv
  rcases List.mem_append.mp hv with q | q
  · obtain ⟨a, ha, hb⟩ := List.mem_flatMap.mp q
    have := h a ha
    cases a <;> simp [unL] at hb <;> first | (subst hb; exact this) | (rcases hb with rfl | rfl <;> trivial)
  · rw [(List.mem_replicate.mp q).2]; trivial
section MT
variable (l : Launch) (D : va_G) (cl : List vw_C) (nm : Nat → String) (g : PG) (sp : Nat → Nat) (Ts : List Cond) (mY : Nat → MethodName) (mC : Nat → ByteArray) (rT : Nat → Option FieldType) (SX : (Nat → Prop) → State → Prop)
/-- the run r of a frame is the machine's -/
def GoesW (d mid : Nat) (cf : Cfg) (r : Option Value × SS) : Prop :=
  ∀ (p : Program) (e : Env) (R : Room) (s : State) (m : MethodId) (args : Array Value) (below : List Frame) (meth : Method) (c : Code) (H : Heap) (locs : List Loc) (cells slots : Nat) (Q : State → Prop) (ls : Array Slot) (al : Nat → Nat) (cy : Nat → ClassId) (A : Nat → Prop),
    CX Ts g mY mC mid p m c s args meth → d + 10 ≤ R.frames → (d + 10) * 60 ≤ R.locals → cells + (r.2.1 - cf.2.2.2.1) ≤ R.cells → slots + (r.2.2.1 - cf.2.2.2.2.1) ≤ R.slots → Wd D cl nm g al cy sp A cf.2.2.2 s H locs → SX A s → LR al sp cf.2.1 ls (g.2.2.2.2.1 mid).1 → VO cf.2.2.2.1 cf.2.1 cf.2.2.1 →
    (∀ (al' : Nat → Nat) (cy' : Nat → ClassId) (H1 : Heap) (locs1 : List Loc) (pc' : Nat) (ls' : Array Slot), ext cf.2.2.2.1 al cy al' cy' → Wd D cl nm g al' cy' sp A r.2 s H1 locs1 → rOK (g.2.2.2.2.1 mid).2 r.1 → (∀ v, r.1 = some v → vOK r.2.1 v) → decode (mC mid) pc' = .ok (rI r.1, 1) →
      W p l e R s m args below meth c H1 locs1 (cells + (r.2.1 - cf.2.2.2.1)) (slots + (r.2.2.1 - cf.2.2.2.2.1)) Q (F0 m pc' ls' (r.1.toList.map (tV al' sp)))) →
    W p l e R s m args below meth c H locs cells slots Q (F0 m cf.1 ls (cf.2.2.1.map (tV al sp)))
abbrev AX (al : Nat → Nat) (cy : Nat → ClassId) (z : SS) (hz : Nat) : Nat → Prop := va_A (wW g.2.2.2.2.2.1 al cy z) hz
def PcM (al : Nat → Nat) (cy : Nat → ClassId) (z : SS) (hz : Nat) (as : List Value) : Array Value → State → Prop := fun a U => a = (as.map (tV al sp)).toArray ∧ U.heap.size = hz ∧ Wd D cl nm g al cy sp (AX g al cy z hz) z U U.heap [] ∧ SX (AX g al cy z hz) U
def PM (al : Nat → Nat) (cy : Nat → ClassId) (z : SS) (hz : Nat) (r : Option Value × SS) (v : Option Value) (t : State) : Prop :=
  ∃ (al' : Nat → Nat) (cy' : Nat → ClassId), ext z.1 al cy al' cy' ∧ v = r.1.map (tV al' sp) ∧ (∀ c, c < r.2.1 → 100 ≤ (r.2.2.2.1 c).1 → ArrOfT t (cy' c) (aT nm (r.2.2.2.1 c).1) ∧ va_RA t (cy' c) (aT nm (r.2.2.2.1 c).1)) ∧ va_P D cl (wW g.2.2.2.2.2.1 al' cy' r.2) t.heap ∧ va_D (AX g al cy z hz) (wW g.2.2.2.2.2.1 al' cy' r.2) ∧ WF cl r.2 ∧ ∀ w, r.1 = some w → vOK r.2.1 w
def QcM (al : Nat → Nat) (cy : Nat → ClassId) (z : SS) (hz : Nat) (r : Option Value × SS) : Array Value → State → Outcome → State → Prop := fun _ st oc t => (∃ v, oc = .returned v ∧ PM D cl nm g sp al cy z hz r v t) ∧ va_F (AX g al cy z hz) st t
set_option maxHeartbeats 1000000 in
theorem met_of {d mid n : Nat} {as : List Value} {z : SS} {r : Option Value × SS} (hM : okM Ts g mY mC rT mid n) (hgo : GoesW l D cl nm g sp Ts mY mC SX d mid (0, mkL (g.2.2.2.2.1 mid).1 as, [], z) r) (hlen : (as.flatMap unL).length ≤ (g.2.2.2.2.1 mid).1) (hvo : ∀ v ∈ as, vOK z.1 v) (al : Nat → Nat) (cy : Nat → ClassId) (hz : Nat) :
    Met l (mY mid) (Cond.code (mY mid) (mC mid) (g.2.2.2.2.1 mid).1 (rT mid) :: Ts) ({ frames := d + 10, cells := r.2.1 - z.1, slots := r.2.2.1 - z.2.1, locals := (d + 10) * 60 }) (PcM D cl nm g sp SX al cy z hz as) (QcM D cl nm g sp al cy z hz r) (r.2.1 - z.1) (r.2.2.1 - z.2.1) (AX g al cy z hz) := by
  obtain ⟨hcode, h40, hplain, hcls, hini, hret⟩ := hM
  refine Met.ofW (cc := mC mid) (maxL := (g.2.2.2.2.1 mid).1) (ret := rT mid) hplain rfl ?_
  intro p e s m args below meth c s₁ B hml hv
  obtain ⟨rfl, hsz, hWd, hE⟩ := hv
  have hx := B.exec
  have hb := B.bytes
  have hr := B.returns
  have hts := atoms_spec (ws := Cond.code (mY mid) (mC mid) (g.2.2.2.2.1 mid).1 (rT mid) :: Ts) B.pre
  have hown : s.vm.findClass (mY mid).cls = some m.cls := findClass_of_methodNamed B.named
  have hlocks := B.notSynchronized
  have hname : meth.name = (mY mid).name := (name_of_methodNamed B.named B.method).1
  rw [lg_entry_eq]
  refine hgo p e _ s m _ below meth c s.heap [] 0 0 _ _ al cy (AX g al cy z hz) ⟨hx, hb, hml, hown, fun w hw => hts w (List.mem_cons_of_mem _ hw), hlocks, fun q => hname.trans q⟩ (Nat.le_refl _) (Nat.le_refl _) (Nat.le_of_eq (Nat.zero_add _)) (Nat.le_of_eq (Nat.zero_add _)) hWd hE (LR_entry hlen) (VO_entry hvo) ?_
  intro al' cy' H1 locs1 pc' ls' hext hW' hrk hvk hdec
  obtain ⟨v0, z'⟩ := r
  dsimp only at hW' hrk hvk hdec ⊢
  rw [Nat.zero_add, Nat.zero_add]
  obtain ⟨k1, k2, k3, k4, k5, k6, k7, k8⟩ := hW'
  have hPM : ∀ t : State, t.heap = H1 → s.WarmedH t.vm → PM D cl nm g sp al cy z hz (v0, z') (v0.map (tV al' sp)) t := fun t ht hWt =>
    ⟨al', cy', hext, rfl, fun c hc h => ⟨arrOfT_moved hWt.alike (k2 c hc h).1, (k2 c hc h).2.moved hWt.alike⟩, by rw [ht]; exact k3, k4, k8, hvk⟩
  have hQ : ∀ t : State, t.heap = H1 → s.WarmedH t.vm → QcM D cl nm g sp al cy z hz (v0, z') ((as.map (tV al sp)).toArray) s (.returned (v0.map (tV al' sp))) t := fun t ht hWt => ⟨⟨_, rfl, hPM t ht hWt⟩, k5.F ht⟩
  cases v0 with
  | none =>
    have h0 : (g.2.2.2.2.1 mid).2 = 0 := hrk
    have : rT mid = none := by
      rcases hret with ⟨-, q⟩ | ⟨q, -⟩ | ⟨q, -⟩ | ⟨q, -⟩ | ⟨q, -⟩
      · exact q
      all_goals omega
    exact W.vret hx hb (hr.trans this) hQ k5.2.2 hdec
  | some w =>
    cases w with
    | int x =>
      have h0 : (g.2.2.2.2.1 mid).2 = 1 ∨ (g.2.2.2.2.1 mid).2 = 2 ∧ (x = 0 ∨ x = 1) := hrk
      rcases h0 with h0 | ⟨h0, h01⟩
      · have : rT mid = some .int := by
          rcases hret with ⟨q, -⟩ | ⟨-, q⟩ | ⟨q, -⟩ | ⟨q, -⟩ | ⟨q, -⟩
          · omega
          · exact q
          all_goals omega
        exact W.iret hx hb (hr.trans this) hQ k5.2.2 hdec
      · have : rT mid = some .boolean := by
          rcases hret with ⟨q, -⟩ | ⟨q, -⟩ | ⟨-, q⟩ | ⟨q, -⟩ | ⟨q, -⟩
          · omega
          · omega
          · exact q
          all_goals omega
        exact W.zret hx hb (hr.trans this) (by rcases h01 with rfl | rfl <;> rfl) hQ k5.2.2 hdec
    | long x =>
      have h0 : (g.2.2.2.2.1 mid).2 = 3 := hrk
      have : rT mid = some .long := by
        rcases hret with ⟨q, -⟩ | ⟨q, -⟩ | ⟨q, -⟩ | ⟨-, q⟩ | ⟨q, -⟩
        · omega
        · omega
        · omega
        · exact q
        · omega
      exact W.lret hx hb (hr.trans this) hQ k5.2.2 hdec
    | ref x =>
      have h0 : (g.2.2.2.2.1 mid).2 = 4 := hrk
      obtain ⟨n0, this⟩ : ∃ n, rT mid = some (.object n) := by
        rcases hret with ⟨q, -⟩ | ⟨q, -⟩ | ⟨q, -⟩ | ⟨q, -⟩ | ⟨-, q⟩
        · omega
        · omega
        · omega
        · omega
        · exact q
      exact W.aret hx hb (hr.trans this) (Or.inl ⟨_, rfl⟩) (Or.inr ⟨_, rfl⟩) hQ k5.2.2 hdec
    | _ => exact absurd hrk id
end MT
