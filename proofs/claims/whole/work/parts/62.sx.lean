/-! What lies ahead of the start: nest links, the class of Grammar[], the static array, the text. -/
def txt0 : String := "lines circles bars arrows fills parts colour means took turned land site not must harm or and "
/-- the text's own object and bytes, String's static -/
def SF (sp : Nat → Nat) (sv : Nat) (A : Nat → Prop) (s : State) : Prop :=
  va_O "java/lang/String" (sp 2) A s s.heap ∧ va_OF "java/lang/String" "coder" "B" (.int 0) (sp 2) A s s.heap ∧ va_OF "java/lang/String" "value" "[B" (.ref sv) (sp 2) A s s.heap ∧ va_T .byte sv 94 (fun j => .int (wordsT.getD j 0)) A s s.heap ∧ va_Z "java/lang/String" "COMPACT_STRINGS" "Z" (.int 1) A s s.heap
def SX0 (sp : Nat → Nat) (sv : Nat) (A : Nat → Prop) (s : State) : Prop :=
  (∀ w ∈ Nw0, va_Nw w s) ∧ va_AO "WordlessSigns$Grammar" s ∧ va_Z "WordlessSigns" "PLACE_GAPS" "[I" (.ref (sp 1)) A s s.heap ∧ vk_R "WordlessSigns$Parser" 114 txt0 (sp 2) s ∧ SF sp sv A s
theorem Nw0_warm {w : Cond} (hw : w ∈ Nw0) {s U : State} (hW : s.WarmedH U.vm) (h : va_Nw w s) : va_Nw w U := by
  have hn : isNest w = true := (List.mem_filter.mp hw).2
  unfold isNest at hn
  split at hn
  · exact va_Nw.warmF hW h
  · exact va_Nw.warmM hW h
  · cases hn
theorem Nw0_tab {w : Cond} (hw : w ∈ Nw0) : w.onTables = true := by
  have hn : isNest w = true := (List.mem_filter.mp hw).2
  unfold isNest at hn
  split at hn
  · rfl
  · rfl
  · cases hn
theorem SF_warm {sp : Nat → Nat} {sv : Nat} {A B : Nat → Prop} {s U : State} (h : SF sp sv A s) (hvm : s.vm.Alike U.vm) (hk : ∀ q : Nat, q < s.heap.size → ¬ A q → U.heap[q]? = s.heap[q]?) (hAB : ∀ q, B q → A q) : SF sp sv B U := by
  obtain ⟨h1, h2, h3, h4, h5⟩ := h
  exact ⟨((h1.kept hk).moved hvm).narrow hAB, ((h2.kept hk).moved hvm).narrow hAB, ((h3.kept hk).moved hvm).narrow hAB, ((h4.kept hk).moved hvm).narrow hAB, ((h5.kept hk).moved hvm).narrow hAB⟩
/-- the one-step calls of the text: its length, a letter of it -/
def STR (l : Launch) (L : Nat) (xs : Nat → Int32) (sp : Nat → Nat) (sv : Nat) : Prop :=
  ∀ (p : Program) (e : Env) (R : Room) (s : State) (m : MethodId) (args : Array Value) (below : List Frame) (meth : Method) (c : Code) (H : Heap) (locs : List Loc) (cells slots : Nat) (Q : State → Prop) (mid pc idx : Nat) (ls : Array Slot) (A : Nat → Prop) (al : Nat → Nat) (La S : List Value) (z : SS) (o : Cfg), SX0 sp sv A s → va_S A s.heap H locs → CX Ts0 (GW L xs) mY mC mid p m c s args meth → gIns mid pc = some (.invokevirtual idx, 3) → decode (mC mid) pc = .ok (.invokevirtual idx, 3) → ¬ (gRes mid pc).2.2.2 = 0 → built (GW L xs) (gRes mid pc).2.2.2 pc La S z = some (.inl o) →
    c.maxLocals = ls.size → 10 ≤ R.frames → 600 ≤ R.locals → cells ≤ R.cells → slots ≤ R.slots → (∀ (x : Int32) (r : List Value), o = (pc + 3, La, .int x :: r, z) → (∀ v ∈ r, v ∈ S) → W p l e R s m args below meth c H locs cells slots Q (F0 m (pc + 3) ls ((.int x :: r).map (tV al sp)))) → W p l e R s m args below meth c H locs cells slots Q (F0 m pc ls (S.map (tV al sp)))
theorem SX0_ok {l : Launch} {L : Nat} {xs : Nat → Int32} {sp : Nat → Nat} {sv : Nat} (hS : STR l L xs sp sv) : SXok l Ts0 Nw0 AO0 (GW L xs) sp mY mC (SX0 sp sv) := by
  refine ⟨?_, ?_, ?_, ?_, ?_, hS⟩
  · intro A B s U h hW hsz hk hAB
    obtain ⟨h1, h2, h3, h4, h5⟩ := h
    exact ⟨fun w hw => Nw0_warm hw hW (h1 w hw), h2.moved hW.alike, ((h3.kept hk).moved hW.alike).narrow hAB, h4.warm hW, SF_warm h5 hW.alike hk hAB⟩
  · intro A U f mk a h
    obtain ⟨h1, h2, h3, h4, h5⟩ := h
    exact ⟨fun w hw => va_Nw.same (u := U) (U := U.calling f mk a) (Nw0_tab hw) rfl (h1 w hw), h2.moved (U := U.calling f mk a) (Vm.Alike.refl U.vm), h3.moved (U := U.calling f mk a) (Vm.Alike.refl U.vm), h4.same (U := U.calling f mk a) rfl, SF_warm (U := U.calling f mk a) h5 (Vm.Alike.refl U.vm) (fun _ _ _ => rfl) (fun _ q => q)⟩
  · intro A s h
    refine ⟨fun w hw a => (h.1 w hw).use (Nw0_tab hw), fun C hC => ?_⟩
    rw [List.mem_singleton.mp hC]
    exact h.2.1
  · intro p e R s m args below meth c H locs cells slots Q mid pc idx ls rest A h hSS hc hg hd k
    obtain ⟨hx, hb, hml, hown, hts, hlk, hnm⟩ := hc
    obtain ⟨a, rfl, e1, e2, h4, h5⟩ := row_chk hg
    unfold chk at h4
    simp only [Bool.and_eq_true] at h4
    obtain ⟨-, h8⟩ := h4
    unfold chkI at h8
    dsimp only at h8
    rw [e1] at h8
    have hw := Tw_nw h8 rfl
    exact va_getsN hx hb h.2.2.1 hSS hown ((h.1 _ hw).use (Nw0_tab hw)) (fun _ q => q) hd k
  · intro p e R s m args below meth c H locs cells slots Q mid pc idx ls rest A h hSS hc hg hq hd k
    obtain ⟨hx, hb, hml, hown, hts, hlk, hnm⟩ := hc
    obtain ⟨a, rfl, e1, e2, h4, h5⟩ := row_chk hg
    unfold chk at h4
    simp only [Bool.and_eq_true] at h4
    obtain ⟨-, h8⟩ := h4
    unfold chkI at h8
    dsimp only at h8
    have hq : gCst mid a.1 = .retAddr 2 := hq
    rw [e1] at h8
    dsimp only at h8
    rw [hq] at h8
    simp only [Bool.and_eq_true] at h8
    have ho := of_decide_eq_true h8.1
    have hi := Nat.eq_of_beq_eq_true h8.2
    subst hi
    rw [ho] at hown
    exact va_ldcS hx hb hown h.2.2.2.1 hd k
