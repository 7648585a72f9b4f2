/-! One step of the small machine is a step of the machine. -/
/-- what the tables must say of an instruction that links: fields, classes, constants, jumps, one-step calls -/
def okP (Ts Nw : List Cond) (AO : List String) (cl : List vw_C) (nm : Nat → String) (g : PG) (own mname : String) (mid pc : Nat) (i : Instr) : Prop := match i with
  | .goto off => (pc : Int) + off = ((g.2.1 mid pc).1 : Int)
  | .ifCond _ off => (pc : Int) + off = ((g.2.1 mid pc).1 : Int)
  | .if_icmp _ off => (pc : Int) + off = ((g.2.1 mid pc).1 : Int)
  | .tableswitch d lo hi offs => (g.2.2.2.1 mid pc).1 = lo ∧ (g.2.2.2.1 mid pc).2.1 = hi ∧ (pc : Int) + d = ((g.2.2.2.1 mid pc).2.2.2 : Int) ∧ (∀ (j : Nat) (o : Int), offs[j]? = some o → (pc : Int) + o = ((g.2.2.2.1 mid pc).2.2.1.getD j 0 : Int)) ∧ (hi - lo + 1).toNat = offs.size
  | .ldc idx => ∀ x, g.2.2.1 mid pc = .int x → Cond.constant own idx x ∈ Ts
  | .ldc_w idx => ∀ x, g.2.2.1 mid pc = .int x → Cond.constant own idx x ∈ Ts
  | .ldc2_w idx => ∀ x, g.2.2.1 mid pc = .long x → Cond.constantLong own idx x ∈ Ts
  | .getfield idx => ∃ q : vw_C, cl[(g.2.1 mid pc).1]? = some q ∧ (g.2.1 mid pc).2.1 < q.2.2 ∧ okFd Ts Nw own idx q.2.1 (g.2.1 mid pc).2.1
  | .putfield idx => ∃ q : vw_C, cl[(g.2.1 mid pc).1]? = some q ∧ (g.2.1 mid pc).2.1 < q.2.2 ∧ okFd Ts Nw own idx q.2.1 (g.2.1 mid pc).2.1 ∧ ((q.2.1 (g.2.1 mid pc).2.1).2.2.2 = false ∨ (q.2.1 (g.2.1 mid pc).2.1).2.2.2 = true ∧ mname = "<init>" ∧ (q.2.1 (g.2.1 mid pc).2.1).1 = own ∧ Cond.fieldLink own idx (q.2.1 (g.2.1 mid pc).2.1).1 (q.2.1 (g.2.1 mid pc).2.1).2.1 (q.2.1 (g.2.1 mid pc).2.1).2.2.1 ∈ Ts)
  | .new idx => ∃ q : vw_C, cl[(g.2.1 mid pc).1]? = some q ∧ (g.2.1 mid pc).2.1 = q.2.2 ∧ Cond.classLink own idx q.1 ∈ Ts ∧ Cond.instantiable q.1 q.2.2 ∈ Ts ∧ Cond.initialized q.1 ∈ Ts
  | .newarray t => Cond.arrayClass (newarray.typeOf t) ∈ Ts
  | .anewarray idx => Cond.classLink own idx (nm (g.2.1 mid pc).1) ∈ Ts ∧ nm (g.2.1 mid pc).1 ∈ AO
  | .invokestatic idx => (g.2.1 mid pc).2.2.2 = 0 ∨ (g.2.1 mid pc).2.2.2 ≤ 5 ∧ okB Ts own idx (g.2.1 mid pc).2.2.2
  | .invokespecial idx => (g.2.1 mid pc).2.2.2 = 0 ∨ (g.2.1 mid pc).2.2.2 = 8 ∧ okB Ts own idx 8
  | _ => True
def lnOK (i : Instr) (ln : Nat) : Prop := match i with
  | .tableswitch _ _ _ _ => True
  | _ => ln = ilen i
/-- what a frame of method mid has of the machine -/
def CX (Ts : List Cond) (g : PG) (mY : Nat → MethodName) (mC : Nat → ByteArray) (mid : Nat) (p : Program) (m : MethodId) (c : Code) (s : State) (args : Array Value) (meth : Method) : Prop :=
  p.tables.exec = Jvm.exec ∧ c.code = mC mid ∧ c.maxLocals = (g.2.2.2.2.1 mid).1 ∧ s.vm.findClass (mY mid).cls = some m.cls ∧ (∀ w ∈ Ts, w.before args s = true) ∧ meth.locks = false ∧ ((mY mid).name = "<init>" → meth.name = "<init>")
/-- what lies ahead of the law's start, by its uses: nest links, arrays of objects, the static array, the text -/
def SXok (l : Launch) (Ts Nw : List Cond) (AO : List String) (g : PG) (sp : Nat → Nat) (mY : Nat → MethodName) (mC : Nat → ByteArray) (SX : (Nat → Prop) → State → Prop) : Prop :=
  (∀ (A B : Nat → Prop) (s U : State), SX A s → s.WarmedH U.vm → s.heap.size ≤ U.heap.size → (∀ q : Nat, q < s.heap.size → ¬ A q → U.heap[q]? = s.heap[q]?) → (∀ q, B q → A q) → SX B U) ∧
  (∀ (A : Nat → Prop) (U : State) (f : JFrame) (mk : MethodId) (a : Array Value), SX A U → SX A (U.calling f mk a)) ∧
  (∀ (A : Nat → Prop) (s : State), SX A s → (∀ w ∈ Nw, ∀ a : Array Value, w.before a s = true) ∧ ∀ C ∈ AO, va_AO C s) ∧
  (∀ (p : Program) (e : Env) (R : Room) (s : State) (m : MethodId) (args : Array Value) (below : List Frame) (meth : Method) (c : Code) (H : Heap) (locs : List Loc) (cells slots : Nat) (Q : State → Prop) (mid pc idx : Nat) (ls : Array Slot) (rest : List Value) (A : Nat → Prop), SX A s → va_S A s.heap H locs → CX Ts g mY mC mid p m c s args meth → g.1 mid pc = some (.getstatic idx, 3) → decode (mC mid) pc = .ok (.getstatic idx, 3) →
    W p l e R s m args below meth c H locs cells slots Q (F0 m (pc + 3) ls (.ref (sp 1) :: rest)) → W p l e R s m args below meth c H locs cells slots Q (F0 m pc ls rest)) ∧
  (∀ (p : Program) (e : Env) (R : Room) (s : State) (m : MethodId) (args : Array Value) (below : List Frame) (meth : Method) (c : Code) (H : Heap) (locs : List Loc) (cells slots : Nat) (Q : State → Prop) (mid pc idx : Nat) (ls : Array Slot) (rest : List Value) (A : Nat → Prop), SX A s → va_S A s.heap H locs → CX Ts g mY mC mid p m c s args meth → g.1 mid pc = some (.ldc idx, 2) → g.2.2.1 mid pc = .retAddr 2 → decode (mC mid) pc = .ok (.ldc idx, 2) →
    W p l e R s m args below meth c H locs cells slots Q (F0 m (pc + 2) ls (.ref (sp 2) :: rest)) → W p l e R s m args below meth c H locs cells slots Q (F0 m pc ls rest)) ∧
  (∀ (p : Program) (e : Env) (R : Room) (s : State) (m : MethodId) (args : Array Value) (below : List Frame) (meth : Method) (c : Code) (H : Heap) (locs : List Loc) (cells slots : Nat) (Q : State → Prop) (mid pc idx : Nat) (ls : Array Slot) (A : Nat → Prop) (al : Nat → Nat) (L S : List Value) (z : SS) (o : Cfg), SX A s → va_S A s.heap H locs → CX Ts g mY mC mid p m c s args meth → g.1 mid pc = some (.invokevirtual idx, 3) → decode (mC mid) pc = .ok (.invokevirtual idx, 3) → ¬ (g.2.1 mid pc).2.2.2 = 0 → built g (g.2.1 mid pc).2.2.2 pc L S z = some (.inl o) →
    c.maxLocals = ls.size → 10 ≤ R.frames → 600 ≤ R.locals → cells ≤ R.cells → slots ≤ R.slots → (∀ (x : Int32) (r : List Value), o = (pc + 3, L, .int x :: r, z) → (∀ v ∈ r, v ∈ S) → W p l e R s m args below meth c H locs cells slots Q (F0 m (pc + 3) ls ((.int x :: r).map (tV al sp)))) → W p l e R s m args below meth c H locs cells slots Q (F0 m pc ls (S.map (tV al sp))))
theorem no_i {g : PG} {mid pc : Nat} {L S : List Value} {z : SS} {o : Cfg} : ¬ exec1 g mid pc .ireturn L S z = some (.inl o) := by
  intro h
  unfold exec1 at h
  dsimp only at h
  repeat' split at h
  all_goals cases h
theorem no_l {g : PG} {mid pc : Nat} {L S : List Value} {z : SS} {o : Cfg} : ¬ exec1 g mid pc .lreturn L S z = some (.inl o) := by
  intro h
  unfold exec1 at h
  dsimp only at h
  repeat' split at h
  all_goals cases h
theorem no_a {g : PG} {mid pc : Nat} {L S : List Value} {z : SS} {o : Cfg} : ¬ exec1 g mid pc .areturn L S z = some (.inl o) := by
  intro h
  unfold exec1 at h
  dsimp only at h
  repeat' split at h
  all_goals cases h
theorem no_v {g : PG} {mid pc : Nat} {L S : List Value} {z : SS} {o : Cfg} : ¬ exec1 g mid pc .return_ L S z = some (.inl o) := by
  intro h
  unfold exec1 at h
  dsimp only at h
  repeat' split at h
  all_goals cases h
section SD
variable {p : Program} {l : Launch} {e : Env} {R : Room} {s : State} {m : MethodId} {args : Array Value} {below : List Frame} {meth : Method} {c : Code} {H : Heap} {locs : List Loc} {cells slots : Nat} {Q : State → Prop}
variable {D : va_G} {cl : List vw_C} {nm : Nat → String} {g : PG} {al : Nat → Nat} {cy : Nat → ClassId} {sp : Nat → Nat} {A : Nat → Prop} {z : SS} {Ts Nw : List Cond} {AO : List String} {mY : Nat → MethodName} {mC : Nat → ByteArray} {SX : (Nat → Prop) → State → Prop} {mid pc : Nat} {ls : Array Slot}
set_option maxHeartbeats 4000000 in
theorem sd_step (hC : okCl Ts g.2.2.2.2.2.1 cl) (hN : ∀ (ci : Nat) (q : vw_C), cl[ci]? = some q → nm ci = q.1) (hSX : SXok l Ts Nw AO g sp mY mC SX) (hc : CX Ts g mY mC mid p m c s args meth) (hW : Wd D cl nm g al cy sp A z s H locs) (hE : SX A s)
    {i : Instr} {ln : Nat} {L S : List Value} {o : Cfg} (hg : g.1 mid pc = some (i, ln)) (hd : decode (mC mid) pc = .ok (i, ln)) (hln : lnOK i ln) (hp : okP Ts Nw AO cl nm g (mY mid).cls (mY mid).name mid pc i) (h : exec1 g mid pc i L S z = some (.inl o))
    (hL : LR al sp L ls (g.2.2.2.2.1 mid).1) (hv : VO z.1 L S) (hfr : 10 ≤ R.frames) (hlo : 600 ≤ R.locals) (hce : cells + (o.2.2.2.1 - z.1) ≤ R.cells) (hsl : slots + (o.2.2.2.2.1 - z.2.1) ≤ R.slots)
    (kk : ∀ (al' : Nat → Nat) (cy' : Nat → ClassId) (H1 : Heap) (locs1 : List Loc) (ls' : Array Slot), ext z.1 al cy al' cy' → Wd D cl nm g al' cy' sp A o.2.2.2 s H1 locs1 → LR al' sp o.2.1 ls' (g.2.2.2.2.1 mid).1 → VO o.2.2.2.1 o.2.1 o.2.2.1 →
      W p l e R s m args below meth c H1 locs1 (cells + (o.2.2.2.1 - z.1)) (slots + (o.2.2.2.2.1 - z.2.1)) Q (F0 m o.1 ls' (o.2.2.1.map (tV al' sp)))) :
    W p l e R s m args below meth c H locs cells slots Q (F0 m pc ls (S.map (tV al sp))) := by
  have hc0 := hc
  obtain ⟨hx, hb, hml, hown, hts, hlk, hnm⟩ := hc
  have hmls : c.maxLocals = ls.size := by rw [hml, hL.1]
  obtain ⟨-, -, sx3, sx4, sx5, sx6⟩ := hSX
  obtain ⟨hnw, hao⟩ := sx3 A s hE
  have same : ∀ {H1 : Heap} {locs1 : List Loc} {P : JFrame}, o.2.2.2.1 = z.1 → o.2.2.2.2.1 = z.2.1 → W p l e R s m args below meth c H1 locs1 (cells + (o.2.2.2.1 - z.1)) (slots + (o.2.2.2.2.1 - z.2.1)) Q P → W p l e R s m args below meth c H1 locs1 cells slots Q P := fun q1 q2 q => by
    rw [q1, q2, Nat.sub_self, Nat.sub_self, Nat.add_zero, Nat.add_zero] at q; exact q
  by_cases hs1 : sim1 i = true
  · have hln' : ln = ilen i := by
      cases i <;> first | exact hln | cases hs1
    subst hln'
    have hv' := sim1_ok hs1 hv h
    exact sd1 hx hb hd hs1 h hL (fun ls' q1 q2 => same (by rw [q2]) (by rw [q2]) (kk al cy H locs ls' (ext_rf _ _ _) (by rw [q2]; exact hW) q1 hv'))
  · cases i with
    | goto off =>
      cases h; cases hln
      exact lv_goto hx hb hd hp (same rfl rfl (kk al cy H locs ls (ext_rf _ _ _) hW hL hv))
    | ifCond k off =>
      cases hln
      replace h : (match S with
        | .int x :: r => nx (cmpI k x 0 (g.2.1 mid pc).1 (pc + 3)) L r z
        | _ => none) = some (.inl o) := h
      split at h
      · cases h
        exact sd_if hx hb hd hp (same rfl rfl (kk al cy H locs ls (ext_rf _ _ _) hW hL hv.c1))
      · cases h
    | if_icmp k off =>
      cases hln
      replace h : (match S with
        | .int y :: .int x :: r => nx (cmpI k x y (g.2.1 mid pc).1 (pc + 3)) L r z
        | _ => none) = some (.inl o) := h
      split at h
      · cases h
        exact sd_icmp hx hb hd hp (same rfl rfl (kk al cy H locs ls (ext_rf _ _ _) hW hL hv.c1.c1))
      · cases h
    | tableswitch d lo hi offs =>
      replace h : (match S with
        | .int x :: r => nx (if x.toInt < (g.2.2.2.1 mid pc).1 ∨ (g.2.2.2.1 mid pc).2.1 < x.toInt then (g.2.2.2.1 mid pc).2.2.2 else (g.2.2.2.1 mid pc).2.2.1.getD (x.toInt - (g.2.2.2.1 mid pc).1).toNat 0) L r z
        | _ => none) = some (.inl o) := h
      split at h
      · cases h
        obtain ⟨p1, p2, p3, p4, p5⟩ := hp
        exact sd_switch hx hb hd p1 p2 p3 p4 p5 (same rfl rfl (kk al cy H locs ls (ext_rf _ _ _) hW hL hv.c1))
      · cases h
    | ldc idx =>
      cases hln
      replace h : (match g.2.2.1 mid pc with
        | .int x => nx (pc + 2) L (.int x :: S) z
        | .retAddr 2 => nx (pc + 2) L (.retAddr 2 :: S) z
        | _ => none) = some (.inl o) := h
      split at h
      · rename_i x hq
        cases h
        exact lv_ldc hx hb hown (hts _ (hp x hq)) hd (same rfl rfl (kk al cy H locs ls (ext_rf _ _ _) hW hL (hv.p1 trivial)))
      · rename_i hq
        cases h
        exact sx5 p e R s m args below meth c H locs cells slots Q mid pc idx ls _ A hE hW.2.2.2.2.1 hc0 hg hq hd (same rfl rfl (kk al cy H locs ls (ext_rf _ _ _) hW hL (hv.p1 trivial)))
      · cases h
    | ldc_w idx =>
      cases hln
      replace h : (match g.2.2.1 mid pc with
        | .int x => nx (pc + 3) L (.int x :: S) z
        | _ => none) = some (.inl o) := h
      split at h
      · rename_i x hq
        cases h
        exact lv_ldcw hx hb hown (hts _ (hp x hq)) hd (same rfl rfl (kk al cy H locs ls (ext_rf _ _ _) hW hL (hv.p1 trivial)))
      · cases h
    | ldc2_w idx =>
      cases hln
      replace h : (match g.2.2.1 mid pc with
        | .long x => nx (pc + 3) L (.long x :: S) z
        | _ => none) = some (.inl o) := h
      split at h
      · rename_i x hq
        cases h
        exact lv_ldc2 hx hb hown (hts _ (hp x hq)) hd (same rfl rfl (kk al cy H locs ls (ext_rf _ _ _) hW hL (hv.p1 trivial)))
      · cases h
    | getstatic idx =>
      cases hln; cases h
      exact sx4 p e R s m args below meth c H locs cells slots Q mid pc idx ls _ A hE hW.2.2.2.2.1 hc0 hg hd (same rfl rfl (kk al cy H locs ls (ext_rf _ _ _) hW hL (hv.p1 trivial)))
    | getfield idx =>
      cases hln
      replace h : (match S with
        | .ref c :: r => if c < z.1 ∧ (z.2.2.1 c).1 = (g.2.1 mid pc).1 then nx (pc + 3) L (fget (g.2.2.2.2.2.1 (g.2.1 mid pc).1 (g.2.1 mid pc).2.1) z c (g.2.1 mid pc).2.1 :: r) z else none
        | _ => none) = some (.inl o) := h
      split at h
      · split at h
        · rename_i hq
          cases h
          obtain ⟨q, q1, q2, q3⟩ := hp
          exact sd_get hW hC hx hb hts (fun w hw => hnw w hw args) hown hq.1 hq.2 q1 q2 q3 hd (same rfl rfl (kk al cy H locs ls (ext_rf _ _ _) hW hL (hv.c1.p1 (fget_ok hW.2.2.2.2.2.2.2 hq.1))))
        · cases h
      · cases h
    | putfield idx =>
      cases hln
      replace h : (match S with
        | v :: .ref c :: r => if c < z.1 ∧ (z.2.2.1 c).1 = (g.2.1 mid pc).1 then (match fput (g.2.2.2.2.2.1 (g.2.1 mid pc).1 (g.2.1 mid pc).2.1) z c (g.2.1 mid pc).2.1 v with
          | some z' => nx (pc + 3) L r z'
          | none => none) else none
        | _ => none) = some (.inl o) := h
      split at h
      · split at h
        · rename_i hq
          split at h
          · rename_i z' hf
            cases h
            obtain ⟨q, q1, q2, q3, q4⟩ := hp
            have h1 := fput_one hf
            refine sd_put hW hC hx hb hts (fun w hw => hnw w hw args) hown hq.1 hq.2 q1 q2 q3 (q4.imp id (fun w => ⟨w.1, hnm w.2.1, w.2.2⟩)) hf hd (fun H1 l1 hW1 => same h1.1 h1.2.1 (kk al cy H1 l1 ls (ext_rf _ _ _) hW1 hL ?_))
            have e1 : z'.1 = z.1 := h1.1
            show VO z'.1 _ _
            rw [e1]
            exact hv.c1.c1
          · cases h
        · cases h
      · cases h
    | arraylength =>
      cases hln
      replace h : (match S with
        | .ref c :: r => if c < z.1 ∧ 100 ≤ (z.2.2.1 c).1 then nx (pc + 1) L (.int (nI (z.2.2.1 c).2) :: r) z else none
        | .retAddr k :: r => if k = 0 then nx (pc + 1) L (.int (nI (g.2.2.2.2.2.2 k).1) :: r) z else none
        | _ => none) = some (.inl o) := h
      split at h
      · split at h
        · rename_i hq
          cases h
          exact hW.len hx hb hq.1 hq.2 hd (same rfl rfl (kk al cy H locs ls (ext_rf _ _ _) hW hL (hv.c1.p1 trivial)))
        · cases h
      · split at h
        · rename_i hq
          subst hq
          cases h
          exact va_tlen hx hb (hW.2.2.2.2.2.2.1 0 (by omega)) hW.2.2.2.2.1 rfl hd (same rfl rfl (kk al cy H locs ls (ext_rf _ _ _) hW hL (hv.c1.p1 trivial)))
        · cases h
      · cases h
    | iaload =>
      cases hln
      refine sd_ald (ty := 0) hW hx hb hd h (fun v r q1 q2 q3 => ?_)
      subst q1; obtain ⟨i, x, rfl⟩ := q2
      exact same rfl rfl (kk al cy H locs ls (ext_rf _ _ _) hW hL (hv.c1.c1.p1 q3))
    | baload =>
      cases hln
      refine sd_ald (ty := 1) hW hx hb hd h (fun v r q1 q2 q3 => ?_)
      subst q1; obtain ⟨i, x, rfl⟩ := q2
      exact same rfl rfl (kk al cy H locs ls (ext_rf _ _ _) hW hL (hv.c1.c1.p1 q3))
    | laload =>
      cases hln
      refine sd_ald (ty := 2) hW hx hb hd h (fun v r q1 q2 q3 => ?_)
      subst q1; obtain ⟨i, x, rfl⟩ := q2
      exact same rfl rfl (kk al cy H locs ls (ext_rf _ _ _) hW hL (hv.c1.c1.p1 q3))
    | aaload =>
      cases hln
      refine sd_ald (ty := 3) hW hx hb hd h (fun v r q1 q2 q3 => ?_)
      subst q1; obtain ⟨i, x, rfl⟩ := q2
      exact same rfl rfl (kk al cy H locs ls (ext_rf _ _ _) hW hL (hv.c1.c1.p1 q3))
    | iastore =>
      cases hln
      refine sd_ast (ty := 0) hW hC hN hx hb hd h (fun z' r H1 l1 q1 q2 q3 q4 hW1 => ?_)
      subst q3; obtain ⟨v, i, x, rfl⟩ := q4
      exact same q1 q2 (kk al cy H1 l1 ls (ext_rf _ _ _) hW1 hL (by show VO z'.1 _ _; rw [q1]; exact hv.c1.c1.c1))
    | bastore =>
      cases hln
      refine sd_ast (ty := 1) hW hC hN hx hb hd h (fun z' r H1 l1 q1 q2 q3 q4 hW1 => ?_)
      subst q3; obtain ⟨v, i, x, rfl⟩ := q4
      exact same q1 q2 (kk al cy H1 l1 ls (ext_rf _ _ _) hW1 hL (by show VO z'.1 _ _; rw [q1]; exact hv.c1.c1.c1))
    | lastore =>
      cases hln
      refine sd_ast (ty := 2) hW hC hN hx hb hd h (fun z' r H1 l1 q1 q2 q3 q4 hW1 => ?_)
      subst q3; obtain ⟨v, i, x, rfl⟩ := q4
      exact same q1 q2 (kk al cy H1 l1 ls (ext_rf _ _ _) hW1 hL (by show VO z'.1 _ _; rw [q1]; exact hv.c1.c1.c1))
    | aastore =>
      cases hln
      refine sd_ast (ty := 3) hW hC hN hx hb hd h (fun z' r H1 l1 q1 q2 q3 q4 hW1 => ?_)
      subst q3; obtain ⟨v, i, x, rfl⟩ := q4
      exact same q1 q2 (kk al cy H1 l1 ls (ext_rf _ _ _) hW1 hL (by show VO z'.1 _ _; rw [q1]; exact hv.c1.c1.c1))
    | new idx =>
      cases hln; cases h
      obtain ⟨q, q1, q2, q3, q4, q5⟩ := hp
      have hce' : cells + 1 ≤ R.cells := by
        have : cells + (z.1 + 1 - z.1) ≤ R.cells := hce
        omega
      have hsl' : slots + q.2.2 ≤ R.slots := by
        have : slots + (z.2.1 + (g.2.1 mid pc).2.1 - z.2.1) ≤ R.slots := hsl
        omega
      refine sd_new hW hC hx hb hts hown q1 q3 q4 q5 hce' hsl' hd (fun a cA H1 l1 hW1 => ?_)
      have hx1 := ext_up z.1 al cy a cA
      rw [← q2] at hW1
      have k := kk (upR al z.1 a) (upR cy z.1 cA) H1 l1 ls hx1 hW1 (LR_ext hx1 hv.1 hL) ((hv.up (Nat.le_succ _)).p1 (Nat.lt_succ_self _))
      have e1 : (alloc z (g.2.1 mid pc).1 (g.2.1 mid pc).2.1).1 - z.1 = 1 := by show z.1 + 1 - z.1 = 1; omega
      have e2 : (alloc z (g.2.1 mid pc).1 (g.2.1 mid pc).2.1).2.1 - z.2.1 = q.2.2 := by show z.2.1 + (g.2.1 mid pc).2.1 - z.2.1 = q.2.2; omega
      dsimp only at k
      rw [e1, e2, List.map_cons, map_ext hx1 hv.2] at k
      have e3 : tV (upR al z.1 a) sp (.ref z.1) = .ref a := by show Value.ref (upR al z.1 a z.1) = _; rw [upR_at]
      rw [e3] at k
      exact k
    | newarray t =>
      cases hln
      replace h : (match S with
        | .int n :: r => if n < 0 ∨ 100000 ≤ n.toNatClampNeg then none else (match t with
          | .int => nx (pc + 2) L (.ref z.1 :: r) (alloc z 100 n.toNatClampNeg)
          | .boolean => nx (pc + 2) L (.ref z.1 :: r) (alloc z 101 n.toNatClampNeg)
          | .byte => nx (pc + 2) L (.ref z.1 :: r) (alloc z 102 n.toNatClampNeg)
          | .long => nx (pc + 2) L (.ref z.1 :: r) (alloc z 103 n.toNatClampNeg)
          | _ => none)
        | _ => none) = some (.inl o) := h
      split at h
      · rename_i n r
        split at h
        · cases h
        · rename_i hn
          have key : ∀ kind : Nat, (t = .int ∧ kind = 100 ∨ t = .boolean ∧ kind = 101 ∨ t = .byte ∧ kind = 102 ∨ t = .long ∧ kind = 103) → o = (pc + 2, L, .ref z.1 :: r, alloc z kind n.toNatClampNeg) → W p l e R s m args below meth c H locs cells slots Q (F0 m pc ls ((Value.int n :: r).map (tV al sp))) := by
            intro kind ht ho
            subst ho
            have hce' : cells + 1 ≤ R.cells := by
              have : cells + (z.1 + 1 - z.1) ≤ R.cells := hce
              omega
            have hsl' : slots + n.toNatClampNeg ≤ R.slots := by
              have : slots + (z.2.1 + n.toNatClampNeg - z.2.1) ≤ R.slots := hsl
              omega
            refine sd_newa hW hx hb ht (hts _ hp) hn hce' hsl' hd (fun a cA H1 l1 hW1 => ?_)
            have hx1 := ext_up z.1 al cy a cA
            have k := kk (upR al z.1 a) (upR cy z.1 cA) H1 l1 ls hx1 hW1 (LR_ext hx1 hv.1 hL) ((hv.c1.up (Nat.le_succ _)).p1 (Nat.lt_succ_self _))
            have e1 : (alloc z kind n.toNatClampNeg).1 - z.1 = 1 := by show z.1 + 1 - z.1 = 1; omega
            have e2 : (alloc z kind n.toNatClampNeg).2.1 - z.2.1 = n.toNatClampNeg := by show z.2.1 + n.toNatClampNeg - z.2.1 = n.toNatClampNeg; omega
            dsimp only at k
            rw [e1, e2, List.map_cons, map_ext hx1 hv.c1.2] at k
            have e3 : tV (upR al z.1 a) sp (.ref z.1) = .ref a := by show Value.ref (upR al z.1 a z.1) = _; rw [upR_at]
            rw [e3] at k
            exact k
          split at h
          · cases h; exact key 100 (Or.inl ⟨rfl, rfl⟩) rfl
          · cases h; exact key 101 (Or.inr (Or.inl ⟨rfl, rfl⟩)) rfl
          · cases h; exact key 102 (Or.inr (Or.inr (Or.inl ⟨rfl, rfl⟩))) rfl
          · cases h; exact key 103 (Or.inr (Or.inr (Or.inr ⟨rfl, rfl⟩))) rfl
          · cases h
      · cases h
    | anewarray idx =>
      cases hln
      replace h : (match S with
        | .int n :: r => if n < 0 ∨ 100000 ≤ n.toNatClampNeg then none else nx (pc + 3) L (.ref z.1 :: r) (alloc z (200 + (g.2.1 mid pc).1) n.toNatClampNeg)
        | _ => none) = some (.inl o) := h
      split at h
      · rename_i n r
        split at h
        · cases h
        · rename_i hn
          cases h
          have hce' : cells + 1 ≤ R.cells := by
            have : cells + (z.1 + 1 - z.1) ≤ R.cells := hce
            omega
          have hsl' : slots + n.toNatClampNeg ≤ R.slots := by
            have : slots + (z.2.1 + n.toNatClampNeg - z.2.1) ≤ R.slots := hsl
            omega
          refine sd_newq hW hx hb hown rfl (hts _ hp.1) (hao _ hp.2) hn hce' hsl' hd (fun a cA H1 l1 hW1 => ?_)
          have hx1 := ext_up z.1 al cy a cA
          have k := kk (upR al z.1 a) (upR cy z.1 cA) H1 l1 ls hx1 hW1 (LR_ext hx1 hv.1 hL) ((hv.c1.up (Nat.le_succ _)).p1 (Nat.lt_succ_self _))
          have e1 : (alloc z (200 + (g.2.1 mid pc).1) n.toNatClampNeg).1 - z.1 = 1 := by show z.1 + 1 - z.1 = 1; omega
          have e2 : (alloc z (200 + (g.2.1 mid pc).1) n.toNatClampNeg).2.1 - z.2.1 = n.toNatClampNeg := by show z.2.1 + n.toNatClampNeg - z.2.1 = n.toNatClampNeg; omega
          dsimp only at k
          rw [e1, e2, List.map_cons, map_ext hx1 hv.c1.2] at k
          have e3 : tV (upR al z.1 a) sp (.ref z.1) = .ref a := by show Value.ref (upR al z.1 a z.1) = _; rw [upR_at]
          rw [e3] at k
          exact k
      · cases h
    | invokestatic idx =>
      cases hln
      by_cases q0 : (g.2.1 mid pc).2.2.2 = 0
      · exfalso
        replace h : (if (g.2.1 mid pc).2.2.2 = 0 then (if (g.2.1 mid pc).2.1 ≤ S.length ∧ catS (S.drop (g.2.1 mid pc).2.1) ≤ 8 then some (.inr (.inr ((g.2.1 mid pc).1, (S.take (g.2.1 mid pc).2.1).reverse, S.drop (g.2.1 mid pc).2.1))) else none) else built g (g.2.1 mid pc).2.2.2 pc L S z) = some (.inl o) := h
        rw [if_pos q0] at h
        split at h <;> cases h
      · replace h : (if (g.2.1 mid pc).2.2.2 = 0 then (if (g.2.1 mid pc).2.1 ≤ S.length ∧ catS (S.drop (g.2.1 mid pc).2.1) ≤ 8 then some (.inr (.inr ((g.2.1 mid pc).1, (S.take (g.2.1 mid pc).2.1).reverse, S.drop (g.2.1 mid pc).2.1))) else none) else built g (g.2.1 mid pc).2.2.2 pc L S z) = some (.inl o) := h
        rw [if_neg q0] at h
        rcases hp with hp | ⟨hp1, hp2⟩
        · exact absurd hp q0
        · refine sd_static hW hx hb hts hown hmls hp2 hp1 (by omega) (by omega) (by omega) (by omega) hd h (fun z' S' H1 l1 q1 q2 q3 q4 hW1 => ?_)
          subst q1
          exact same q2 q3 (kk al cy H1 l1 ls (ext_rf _ _ _) hW1 hL (by
            show VO z'.1 _ _
            rw [q2]
            refine ⟨hv.1, fun v hv' => ?_⟩
            rcases q4 v hv' with q | q
            · exact hv.2 v q
            · exact vOK_mono (Nat.zero_le _) q))
    | invokespecial idx =>
      cases hln
      by_cases q0 : (g.2.1 mid pc).2.2.2 = 0
      · exfalso
        replace h : (if (g.2.1 mid pc).2.2.2 = 0 then (match S.drop (g.2.1 mid pc).2.1 with
          | .ref c :: r => if catS r ≤ 8 ∧ c < z.1 ∧ (z.2.2.1 c).1 = (g.2.1 mid pc).2.2.1 then some (.inr (.inr ((g.2.1 mid pc).1, .ref c :: (S.take (g.2.1 mid pc).2.1).reverse, r))) else none
          | _ => none) else built g (g.2.1 mid pc).2.2.2 pc L S z) = some (.inl o) := h
        rw [if_pos q0] at h
        split at h
        · split at h <;> cases h
        · cases h
      · replace h : (if (g.2.1 mid pc).2.2.2 = 0 then (match S.drop (g.2.1 mid pc).2.1 with
          | .ref c :: r => if catS r ≤ 8 ∧ c < z.1 ∧ (z.2.2.1 c).1 = (g.2.1 mid pc).2.2.1 then some (.inr (.inr ((g.2.1 mid pc).1, .ref c :: (S.take (g.2.1 mid pc).2.1).reverse, r))) else none
          | _ => none) else built g (g.2.1 mid pc).2.2.2 pc L S z) = some (.inl o) := h
        rw [if_neg q0] at h
        rcases hp with hp | ⟨hp1, hp2⟩
        · exact absurd hp q0
        · rw [hp1] at h
          refine sd_obj hx hb hts hown hmls hp2 (by omega) (by omega) hd h (fun S' q1 q2 => ?_)
          subst q1
          exact same rfl rfl (kk al cy H locs ls (ext_rf _ _ _) hW hL ⟨hv.1, fun v hv' => hv.2 v (q2 v hv')⟩)
    | invokevirtual idx =>
      cases hln
      by_cases q0 : (g.2.1 mid pc).2.2.2 = 0
      · exfalso
        replace h : (if (g.2.1 mid pc).2.2.2 = 0 then (match S.drop (g.2.1 mid pc).2.1 with
          | .ref c :: r => if catS r ≤ 8 ∧ c < z.1 ∧ (z.2.2.1 c).1 = (g.2.1 mid pc).2.2.1 then some (.inr (.inr ((g.2.1 mid pc).1, .ref c :: (S.take (g.2.1 mid pc).2.1).reverse, r))) else none
          | _ => none) else built g (g.2.1 mid pc).2.2.2 pc L S z) = some (.inl o) := h
        rw [if_pos q0] at h
        split at h
        · split at h <;> cases h
        · cases h
      · replace h : (if (g.2.1 mid pc).2.2.2 = 0 then (match S.drop (g.2.1 mid pc).2.1 with
          | .ref c :: r => if catS r ≤ 8 ∧ c < z.1 ∧ (z.2.2.1 c).1 = (g.2.1 mid pc).2.2.1 then some (.inr (.inr ((g.2.1 mid pc).1, .ref c :: (S.take (g.2.1 mid pc).2.1).reverse, r))) else none
          | _ => none) else built g (g.2.1 mid pc).2.2.2 pc L S z) = some (.inl o) := h
        rw [if_neg q0] at h
        refine sx6 p e R s m args below meth c H locs cells slots Q mid pc idx ls A al L S z o hE hW.2.2.2.2.1 hc0 hg hd q0 h hmls hfr hlo (by omega) (by omega) (fun x r q1 q2 => ?_)
        subst q1
        exact same rfl rfl (kk al cy H locs ls (ext_rf _ _ _) hW hL ⟨hv.1, List.forall_mem_cons.mpr ⟨trivial, fun v hv' => hv.2 v (q2 v hv')⟩⟩)
    | ireturn => exact absurd h no_i
    | lreturn => exact absurd h no_l
    | areturn => exact absurd h no_a
    | return_ => exact absurd h no_v
    | _ => first | (exfalso; exact hs1 rfl) | cases h
end SD
