/-! The text's length and letters: String.length, String.charAt, as the JDK's code has them. -/
theorem Tm {pos : Nat} {w : Cond} (h : lw_tbl[pos]? = some w) (hg : goodWord w = true) : w ∈ Ts0 := List.mem_filter.mpr ⟨List.mem_of_getElem? h, hg⟩
abbrev kc_coder : ByteArray := prog_17_method_152_code
def ky_coder : MethodName := ⟨"java/lang/String", "coder", "()B"⟩
abbrev kc_lat : ByteArray := prog_17_method_154_code
def ky_lat : MethodName := ⟨"java/lang/String", "isLatin1", "()Z"⟩
abbrev kc_len : ByteArray := prog_17_method_54_code
def ky_len : MethodName := ⟨"java/lang/String", "length", "()I"⟩
abbrev kc_char : ByteArray := prog_17_method_56_code
def ky_char : MethodName := ⟨"java/lang/String", "charAt", "(I)C"⟩
abbrev kc_l1 : ByteArray := prog_18_method_2_code
def ky_l1 : MethodName := ⟨"java/lang/StringLatin1", "charAt", "([BI)C"⟩
abbrev kc_chk : ByteArray := prog_17_method_155_code
def ky_chk : MethodName := ⟨"java/lang/String", "checkIndex", "(II)V"⟩
abbrev kc_pre : ByteArray := prog_22_method_11_code
def ky_pre : MethodName := ⟨"jdk/internal/util/Preconditions", "checkIndex", "(IILjava/util/function/BiFunction;)I"⟩
set_option maxRecDepth 100000 in
theorem kw_coder : Cond.code ky_coder kc_coder 1 (some .byte) ∈ Ts0 := Tm (pos := 884) rfl rfl
set_option maxRecDepth 100000 in
theorem kw_lat : Cond.code ky_lat kc_lat 1 (some .boolean) ∈ Ts0 := Tm (pos := 894) rfl rfl
set_option maxRecDepth 100000 in
theorem kw_len : Cond.code ky_len kc_len 1 (some .int) ∈ Ts0 := Tm (pos := 880) rfl rfl
set_option maxRecDepth 100000 in
theorem kw_char : Cond.code ky_char kc_char 2 (some .char) ∈ Ts0 := Tm (pos := 890) rfl rfl
set_option maxRecDepth 100000 in
theorem kw_l1 : Cond.code ky_l1 kc_l1 2 (some .char) ∈ Ts0 := Tm (pos := 897) rfl rfl
set_option maxRecDepth 100000 in
theorem kw_chk : Cond.code ky_chk kc_chk 2 none ∈ Ts0 := Tm (pos := 900) rfl rfl
set_option maxRecDepth 100000 in
theorem kw_pre : Cond.code ky_pre kc_pre 3 (some .int) ∈ Ts0 := Tm (pos := 905) rfl rfl
set_option maxRecDepth 100000 in
theorem kw_all : ∀ w ∈ [Cond.fieldLink "java/lang/String" 38 "java/lang/String" "COMPACT_STRINGS" "Z", Cond.fieldLink "java/lang/String" 9 "java/lang/String" "value" "[B", Cond.fieldLink "java/lang/String" 15 "java/lang/String" "coder" "B", Cond.fieldLink "java/lang/String" 1053 "jdk/internal/util/Preconditions" "SIOOBE_FORMATTER" "Ljava/util/function/BiFunction;", Cond.methodLink "java/lang/String" 335 ky_coder, Cond.instanceMethod ky_coder, Cond.selects "java/lang/String" ky_coder ky_coder, Cond.methodLink "java/lang/String" 492 ky_lat, Cond.instanceMethod ky_lat, Cond.selects "java/lang/String" ky_lat ky_lat, Cond.methodLink "java/lang/String" 495 ky_l1, Cond.static ky_l1, Cond.methodLink "java/lang/StringLatin1" 9 ky_chk, Cond.static ky_chk, Cond.methodLink "java/lang/String" 1059 ky_pre, Cond.static ky_pre, Cond.initialized "java/lang/String", Cond.initialized "java/lang/StringLatin1", Cond.initialized "jdk/internal/util/Preconditions", Cond.instanceMethod ky_len, Cond.selects "java/lang/String" ky_len ky_len, Cond.instanceMethod ky_char, Cond.selects "java/lang/String" ky_char ky_char], w ∈ lw_tbl ∧ goodWord w = true := by decide +kernel
theorem kw_in {w : Cond} (h : w ∈ [Cond.fieldLink "java/lang/String" 38 "java/lang/String" "COMPACT_STRINGS" "Z", Cond.fieldLink "java/lang/String" 9 "java/lang/String" "value" "[B", Cond.fieldLink "java/lang/String" 15 "java/lang/String" "coder" "B", Cond.fieldLink "java/lang/String" 1053 "jdk/internal/util/Preconditions" "SIOOBE_FORMATTER" "Ljava/util/function/BiFunction;", Cond.methodLink "java/lang/String" 335 ky_coder, Cond.instanceMethod ky_coder, Cond.selects "java/lang/String" ky_coder ky_coder, Cond.methodLink "java/lang/String" 492 ky_lat, Cond.instanceMethod ky_lat, Cond.selects "java/lang/String" ky_lat ky_lat, Cond.methodLink "java/lang/String" 495 ky_l1, Cond.static ky_l1, Cond.methodLink "java/lang/StringLatin1" 9 ky_chk, Cond.static ky_chk, Cond.methodLink "java/lang/String" 1059 ky_pre, Cond.static ky_pre, Cond.initialized "java/lang/String", Cond.initialized "java/lang/StringLatin1", Cond.initialized "jdk/internal/util/Preconditions", Cond.instanceMethod ky_len, Cond.selects "java/lang/String" ky_len ky_len, Cond.instanceMethod ky_char, Cond.selects "java/lang/String" ky_char ky_char]) : w ∈ Ts0 := List.mem_filter.mpr (kw_all w h)
/-- a call that leaves the heap as it is -/
theorem va_call0 {p : Program} {l : Launch} {e : Env} {R : Room} {s : State} {m : MethodId} {args : Array Value} {below : List Frame} {meth : Method} {c : Code} {H : Heap} {locs : List Loc} {cells slots : Nat} {Q : State → Prop} {pc : Nat} {ls : Array Slot} {rest st0 : List Value} {v0 : Option Value} (hr : va_Run p l e R s m args below meth c H locs cells slots 0 0 (F0 m pc ls st0) rest (fun st oc t => oc = .returned v0 ∧ t.heap = st.heap) (fun _ => False))
    (kk : W p l e R s m args below meth c H locs cells slots Q (F0 m (pc + 3) ls (v0.toList ++ rest))) : W p l e R s m args below meth c H locs cells slots Q (F0 m pc ls st0) := by
  intro T hT X
  obtain ⟨v, st₀, t, T', L, h0, X', hL, e1, e2, ⟨hv, hh⟩, st⟩ := hr T hT X
  cases hv
  have hLn : L = [] := by
    cases L with
    | nil => rfl
    | cons q t => exact absurd (hL q List.mem_cons_self) id
  subst hLn
  rw [List.append_nil] at X'
  obtain ⟨t2, a1, b1⟩ := kk T' (by rw [e1, hh, h0]) X'
  exact ⟨t2, st t2 a1, b1⟩
def SG (A : Nat → Prop) (s : State) : Prop := va_Zq "jdk/internal/util/Preconditions" "SIOOBE_FORMATTER" "Ljava/util/function/BiFunction;" A s s.heap
theorem SG_warm {A B : Nat → Prop} {s U : State} (h : SG A s) (hvm : s.vm.Alike U.vm) (hk : ∀ q : Nat, q < s.heap.size → ¬ A q → U.heap[q]? = s.heap[q]?) (hAB : ∀ q, B q → A q) : SG B U := va_Zq.narrow (va_Zq.moved hvm (va_Zq.kept h hk)) hAB
abbrev nF : Nat → Prop := fun _ => False
def SPc (sp : Nat → Nat) (sv : Nat) (as : List Value) : Array Value → State → Prop := fun a U => a = as.toArray ∧ SF sp sv nF U ∧ SG nF U
def SQc (v : Option Value) : Array Value → State → Outcome → State → Prop := fun _ st oc t => oc = .returned v ∧ t.heap = st.heap
theorem SPc_blind {sp : Nat → Nat} {sv : Nat} {as : List Value} : FrameBlind (SPc sp sv as) := fun a U f mk h => ⟨h.1, SF_warm (U := U.calling f mk a) h.2.1 (Vm.Alike.refl U.vm) (fun _ _ _ => rfl) (fun _ q => q), SG_warm (U := U.calling f mk a) h.2.2 (Vm.Alike.refl U.vm) (fun _ _ _ => rfl) (fun _ q => q)⟩
theorem SPc_at {sp : Nat → Nat} {sv : Nat} {as : List Value} {A : Nat → Prop} {s : State} {H : Heap} {locs : List Loc} (h1 : SF sp sv A s) (h2 : SG A s) (hS : va_S A s.heap H locs) (U : State) (hU : U.heap = H) (hw : s.WarmedH U.vm) : SPc sp sv as as.toArray U :=
  ⟨rfl, SF_warm h1 hw.alike (fun q q1 q2 => by rw [hU]; exact hS.2.1 q q1 q2) (fun _ q => q.elim), SG_warm h2 hw.alike (fun q q1 q2 => by rw [hU]; exact hS.2.1 q q1 q2) (fun _ q => q.elim)⟩
abbrev kR (n : Nat) : Room := { frames := n, cells := 0, slots := 0, locals := n * 60 }
theorem good_T0 : ∀ w ∈ Ts0, goodWord w = true := fun w hw => (List.mem_filter.mp hw).2
theorem w_chr7 : ∀ k, k < 94 → ((wordsT.getD k 0 &&& 255).toUInt32 % 65536).toInt32 = wordsT.getD k 0 ∧ (wordsT.getD k 0).toUInt32.toUInt16.toUInt32.toInt32 = wordsT.getD k 0 := by decide
theorem w_chr8 (k : Nat) (hk : k < 94) : ((wordsT.getD k 0 &&& 255).toUInt32 % 65536).toInt32 = wordsT.getD k 0 ∧ narrow .char (.int (wordsT.getD k 0)) = .int (wordsT.getD k 0) := by
  obtain ⟨h1, h2⟩ := w_chr7 k hk
  refine ⟨h1, ?_⟩
  show Value.int (wordsT.getD k 0).toUInt32.toUInt16.toUInt32.toInt32 = _
  rw [h2]
section KS
variable (l : Launch) (sp : Nat → Nat) (sv : Nat)
set_option maxHeartbeats 1000000 in
theorem k_coder : Met l ky_coder (Cond.code ky_coder kc_coder 1 (some .byte) :: Ts0) (kR 1) (SPc sp sv [.ref (sp 2)]) (SQc (some (.int 0))) 0 0 nF := by
  refine Met.ofW (cc := kc_coder) (maxL := 1) (ret := (some .byte)) (by decide) rfl ?_
  intro p e s m args below meth c s₁ B hml hv
  obtain ⟨rfl, hF, hG⟩ := hv
  obtain ⟨h1, h2, h3, h4, h5⟩ := id hF
  have hx := B.exec
  have hb := B.bytes
  have hr := B.returns
  have hts := atoms_spec (ws := Cond.code ky_coder kc_coder 1 (some .byte) :: Ts0) B.pre
  have hT : ∀ w ∈ Ts0, w.before _ s = true := fun w hw => hts w (List.mem_cons_of_mem _ hw)
  have hown : s.vm.findClass "java/lang/String" = some m.cls := findClass_of_methodNamed B.named
  have hl := lv_entry ([.ref (sp 2)]) (n := 1) (Nat.le_of_ble_eq_true rfl)
  rw [lg_entry_eq]
  generalize (lg_sl ([.ref (sp 2)]) ++ List.replicate (1 - (lg_sl ([.ref (sp 2)])).length) Slot.unset).toArray = ls at hl ⊢
  have hl : lv_has ls 1 [(0, .ref (sp 2))] := hl
  have hS : va_S nF s.heap s.heap [] := va_S.rf
  refine va_gets hx hb h5 hS hown (hT _ (kw_in (by simp))) (fun _ q => q) (pc := 0) (index := 38) (by decide +kernel) ?_
  refine lv_if_eq (off := 10) (tgt := 13) hx hb (by decide +kernel) (by decide) (fun q => absurd q (by decide)) (fun _ => ?_)
  refine lv_aload_n (k := 0) hx hb (by decide +kernel) rfl (lv_at hl 0 rfl) ?_
  refine vk_getf hx hb h2 hS hown (hT (.fieldLink "java/lang/String" 15 "java/lang/String" "coder" "B") (kw_in (by simp))) (fun _ q => q) (by decide +kernel) ?_
  refine lv_goto (off := 4) (tgt := 14) hx hb (by decide +kernel) (by decide) ?_
  exact W.zret hx hb hr rfl (fun t ht hW => ⟨rfl, ht⟩) (fun q h => by cases h) (by decide +kernel)
set_option maxHeartbeats 1000000 in
theorem k_lat : Met l ky_lat (Cond.code ky_lat kc_lat 1 (some .boolean) :: Ts0) (kR 1) (SPc sp sv [.ref (sp 2)]) (SQc (some (.int 1))) 0 0 nF := by
  refine Met.ofW (cc := kc_lat) (maxL := 1) (ret := (some .boolean)) (by decide) rfl ?_
  intro p e s m args below meth c s₁ B hml hv
  obtain ⟨rfl, hF, hG⟩ := hv
  obtain ⟨h1, h2, h3, h4, h5⟩ := id hF
  have hx := B.exec
  have hb := B.bytes
  have hr := B.returns
  have hts := atoms_spec (ws := Cond.code ky_lat kc_lat 1 (some .boolean) :: Ts0) B.pre
  have hT : ∀ w ∈ Ts0, w.before _ s = true := fun w hw => hts w (List.mem_cons_of_mem _ hw)
  have hown : s.vm.findClass "java/lang/String" = some m.cls := findClass_of_methodNamed B.named
  have hl := lv_entry ([.ref (sp 2)]) (n := 1) (Nat.le_of_ble_eq_true rfl)
  rw [lg_entry_eq]
  generalize (lg_sl ([.ref (sp 2)]) ++ List.replicate (1 - (lg_sl ([.ref (sp 2)])).length) Slot.unset).toArray = ls at hl ⊢
  have hl : lv_has ls 1 [(0, .ref (sp 2))] := hl
  have hS : va_S nF s.heap s.heap [] := va_S.rf
  refine va_gets hx hb h5 hS hown (hT _ (kw_in (by simp))) (fun _ q => q) (pc := 0) (index := 38) (by decide +kernel) ?_
  refine lv_if_eq (off := 14) (tgt := 17) hx hb (by decide +kernel) (by decide) (fun q => absurd q (by decide)) (fun _ => ?_)
  refine lv_aload_n (k := 0) hx hb (by decide +kernel) rfl (lv_at hl 0 rfl) ?_
  refine vk_getf hx hb h2 hS hown (hT (.fieldLink "java/lang/String" 15 "java/lang/String" "coder" "B") (kw_in (by simp))) (fun _ q => q) (by decide +kernel) ?_
  refine lv_if_ne (off := 7) (tgt := 17) hx hb (by decide +kernel) (by decide) (fun q => absurd rfl q) (fun _ => ?_)
  refine lv_iconst (v := 1) hx hb (n := 1) (by decide +kernel) (by decide) ?_
  refine lv_goto (off := 4) (tgt := 18) hx hb (by decide +kernel) (by decide) ?_
  exact W.zret hx hb hr rfl (fun t ht hW => ⟨rfl, ht⟩) (fun q h => by cases h) (by decide +kernel)
set_option maxHeartbeats 1000000 in
theorem k_len : Met l ky_len (Cond.code ky_len kc_len 1 (some .int) :: Ts0) (kR 2) (SPc sp sv [.ref (sp 2)]) (SQc (some (.int 94))) 0 0 nF := by
  refine Met.ofW (cc := kc_len) (maxL := 1) (ret := (some .int)) (by decide) rfl ?_
  intro p e s m args below meth c s₁ B hml hv
  obtain ⟨rfl, hF, hG⟩ := hv
  obtain ⟨h1, h2, h3, h4, h5⟩ := id hF
  have hx := B.exec
  have hb := B.bytes
  have hr := B.returns
  have hts := atoms_spec (ws := Cond.code ky_len kc_len 1 (some .int) :: Ts0) B.pre
  have hT : ∀ w ∈ Ts0, w.before _ s = true := fun w hw => hts w (List.mem_cons_of_mem _ hw)
  have hown : s.vm.findClass "java/lang/String" = some m.cls := findClass_of_methodNamed B.named
  have hl := lv_entry ([.ref (sp 2)]) (n := 1) (Nat.le_of_ble_eq_true rfl)
  rw [lg_entry_eq]
  generalize (lg_sl ([.ref (sp 2)]) ++ List.replicate (1 - (lg_sl ([.ref (sp 2)])).length) Slot.unset).toArray = ls at hl ⊢
  have hl : lv_has ls 1 [(0, .ref (sp 2))] := hl
  have hS : va_S nF s.heap s.heap [] := va_S.rf
  refine lv_aload_n (k := 0) hx hb (by decide +kernel) rfl (lv_at hl 0 rfl) ?_
  refine vk_getf hx hb h3 hS hown (hT (.fieldLink "java/lang/String" 9 "java/lang/String" "value" "[B") (kw_in (by simp))) (fun _ q => q) (by decide +kernel) ?_
  refine va_tlen hx hb h4 hS (v := 94) rfl (by decide +kernel) ?_
  refine lv_aload_n (k := 0) hx hb (by decide +kernel) rfl (lv_at hl 0 rfl) ?_
  refine va_call0 (va_runV (C := "java/lang/String") (own := "java/lang/String") (index := 335) (As := []) (rest := [.int 94]) ⟨hx, hb, hml, hown, hT⟩ (k_coder l sp sv) ⟨callB_of 0 hT (good_cons good_T0 kw_coder) rfl rfl rfl (hT (.initialized "java/lang/String") (kw_in (by simp))) (hT (.methodLink "java/lang/String" 335 ky_coder) (kw_in (by simp))) ⟨by decide, by decide, by decide +kernel⟩ ⟨by decide, by decide⟩, hT (.instanceMethod ky_coder) (kw_in (by simp)), hT (.selects "java/lang/String" ky_coder ky_coder) (kw_in (by simp))⟩ ⟨SPc_blind, va_Orecv h1 hS, SPc_at hF hG hS⟩ rfl rfl hl.1 rfl (lv_room (by decide)) (show decode kc_len 6 = .ok (.invokevirtual 335, 3) by decide +kernel) ⟨by decide, by decide⟩) ?_
  refine lv_ishr hx hb (by decide +kernel) ?_
  exact W.iret hx hb hr (fun t ht hW => ⟨rfl, ht⟩) (fun q h => by cases h) (by decide +kernel)
set_option maxHeartbeats 1000000 in
theorem k_pre {k : Nat} (hk : k < 94) {v : Value} (hvc : v = .null ∨ ∃ t, v = .ref t) : Met l ky_pre (Cond.code ky_pre kc_pre 3 (some .int) :: Ts0) (kR 1) (SPc sp sv [.int (nI k), .int 94, v]) (SQc (some (.int (nI k)))) 0 0 nF := by
  refine Met.ofW (cc := kc_pre) (maxL := 3) (ret := (some .int)) (by decide) rfl ?_
  intro p e s m args below meth c s₁ B hml hv
  obtain ⟨rfl, hF, hG⟩ := hv
  obtain ⟨h1, h2, h3, h4, h5⟩ := id hF
  have hx := B.exec
  have hb := B.bytes
  have hr := B.returns
  have hts := atoms_spec (ws := Cond.code ky_pre kc_pre 3 (some .int) :: Ts0) B.pre
  have hT : ∀ w ∈ Ts0, w.before _ s = true := fun w hw => hts w (List.mem_cons_of_mem _ hw)
  have hown : s.vm.findClass "jdk/internal/util/Preconditions" = some m.cls := findClass_of_methodNamed B.named
  have hl := lv_entry ([.int (nI k), .int 94, v]) (n := 3) (by rcases hvc with rfl | ⟨t, rfl⟩ <;> exact Nat.le_of_ble_eq_true rfl)
  rw [lg_entry_eq]
  generalize (lg_sl ([.int (nI k), .int 94, v]) ++ List.replicate (3 - (lg_sl ([.int (nI k), .int 94, v])).length) Slot.unset).toArray = ls at hl ⊢
  have hl : lv_has ls 3 [(0, .int (nI k)), (1, .int 94), (2, v)] := by rcases hvc with rfl | ⟨t, rfl⟩ <;> exact hl
  refine lv_iload_n (k := 0) hx hb (by decide +kernel) rfl (lv_at hl 0 rfl) ?_
  refine lv_if_lt (off := 8) (tgt := 9) hx hb (by decide +kernel) (by decide) (fun q => absurd q (nI_pos (by omega))) (fun _ => ?_)
  refine lv_iload_n (k := 0) hx hb (by decide +kernel) rfl (lv_at hl 0 rfl) ?_
  refine lv_iload_n (k := 1) hx hb (by decide +kernel) rfl (lv_at hl 1 rfl) ?_
  refine lv_icmp_lt (off := 10) (tgt := 16) hx hb (by decide +kernel) (by decide) (fun _ => ?_) (fun q => absurd (nI_lt (a := k) (b := 94) hk (by omega)) q)
  refine lv_iload_n (k := 0) hx hb (by decide +kernel) rfl (lv_at hl 0 rfl) ?_
  exact W.iret hx hb hr (fun t ht hW => ⟨rfl, ht⟩) (fun q h => by cases h) (by decide +kernel)
set_option maxHeartbeats 1000000 in
theorem k_chk {k : Nat} (hk : k < 94) : Met l ky_chk (Cond.code ky_chk kc_chk 2 none :: Ts0) (kR 2) (SPc sp sv [.int (nI k), .int 94]) (SQc none) 0 0 nF := by
  refine Met.ofW (cc := kc_chk) (maxL := 2) (ret := none) (by decide) rfl ?_
  intro p e s m args below meth c s₁ B hml hv
  obtain ⟨rfl, hF, hG⟩ := hv
  obtain ⟨h1, h2, h3, h4, h5⟩ := id hF
  have hx := B.exec
  have hb := B.bytes
  have hr := B.returns
  have hts := atoms_spec (ws := Cond.code ky_chk kc_chk 2 none :: Ts0) B.pre
  have hT : ∀ w ∈ Ts0, w.before _ s = true := fun w hw => hts w (List.mem_cons_of_mem _ hw)
  have hown : s.vm.findClass "java/lang/String" = some m.cls := findClass_of_methodNamed B.named
  have hl := lv_entry ([.int (nI k), .int 94]) (n := 2) (Nat.le_of_ble_eq_true rfl)
  rw [lg_entry_eq]
  generalize (lg_sl ([.int (nI k), .int 94]) ++ List.replicate (2 - (lg_sl ([.int (nI k), .int 94])).length) Slot.unset).toArray = ls at hl ⊢
  have hl : lv_has ls 2 [(0, .int (nI k)), (1, .int 94)] := hl
  have hS : va_S nF s.heap s.heap [] := va_S.rf
  have go : ∀ v : Value, (v = .null ∨ ∃ t, v = .ref t) → W p l e (headSpec (Cond.code ky_chk kc_chk 2 none :: Ts0) (kR 2)).room s m #[.int (nI k), .int 94] below meth c s.heap [] 0 0 (MQ below (SQc none) #[.int (nI k), .int 94] s 0 0 nF) (F0 m 5 ls [v, .int 94, .int (nI k)]) := fun v hv => by
    refine va_call0 (va_runS (own := "java/lang/String") (index := 1059) (As := [.int (nI k), .int 94, v]) (rest := []) ⟨hx, hb, hml, hown, hT⟩ (k_pre l sp sv hk hv) ⟨callB_of 3 hT (good_cons good_T0 kw_pre) rfl rfl rfl (hT (.initialized "jdk/internal/util/Preconditions") (kw_in (by simp))) (hT (.methodLink "java/lang/String" 1059 ky_pre) (kw_in (by simp))) ⟨by decide, by decide, by decide +kernel⟩ ⟨by decide, by decide⟩, hT (.static ky_pre) (kw_in (by simp))⟩ ⟨SPc_blind, SPc_at hF hG hS⟩ rfl rfl hl.1 rfl (lv_room (by decide)) (show decode kc_chk 5 = .ok (.invokestatic 1059, 3) by decide +kernel) ⟨by decide, by decide⟩) ?_
    refine lv_pop hx hb (by decide +kernel) rfl ?_
    exact W.vret hx hb hr (fun t ht hW => ⟨rfl, ht⟩) (fun q h => by cases h) (by decide +kernel)
  refine lv_iload_n (k := 0) hx hb (by decide +kernel) rfl (lv_at hl 0 rfl) ?_
  refine lv_iload_n (k := 1) hx hb (by decide +kernel) rfl (lv_at hl 1 rfl) ?_
  rcases hG with hG | ⟨t, hG⟩
  · exact va_gets hx hb hG hS hown (hT (.fieldLink "java/lang/String" 1053 "jdk/internal/util/Preconditions" "SIOOBE_FORMATTER" "Ljava/util/function/BiFunction;") (kw_in (by simp))) (fun _ q => q) (by decide +kernel) (go _ (Or.inl rfl))
  · exact va_gets hx hb hG hS hown (hT (.fieldLink "java/lang/String" 1053 "jdk/internal/util/Preconditions" "SIOOBE_FORMATTER" "Ljava/util/function/BiFunction;") (kw_in (by simp))) (fun _ q => q) (by decide +kernel) (go _ (Or.inr ⟨t, rfl⟩))
set_option maxHeartbeats 1000000 in
theorem k_l1 {k : Nat} (hk : k < 94) : Met l ky_l1 (Cond.code ky_l1 kc_l1 2 (some .char) :: Ts0) (kR 3) (SPc sp sv [.ref sv, .int (nI k)]) (SQc (some (.int (wordsT.getD k 0)))) 0 0 nF := by
  refine Met.ofW (cc := kc_l1) (maxL := 2) (ret := (some .char)) (by decide) rfl ?_
  intro p e s m args below meth c s₁ B hml hv
  obtain ⟨rfl, hF, hG⟩ := hv
  obtain ⟨h1, h2, h3, h4, h5⟩ := id hF
  have hx := B.exec
  have hb := B.bytes
  have hr := B.returns
  have hts := atoms_spec (ws := Cond.code ky_l1 kc_l1 2 (some .char) :: Ts0) B.pre
  have hT : ∀ w ∈ Ts0, w.before _ s = true := fun w hw => hts w (List.mem_cons_of_mem _ hw)
  have hown : s.vm.findClass "java/lang/StringLatin1" = some m.cls := findClass_of_methodNamed B.named
  have hl := lv_entry ([.ref sv, .int (nI k)]) (n := 2) (Nat.le_of_ble_eq_true rfl)
  rw [lg_entry_eq]
  generalize (lg_sl ([.ref sv, .int (nI k)]) ++ List.replicate (2 - (lg_sl ([.ref sv, .int (nI k)])).length) Slot.unset).toArray = ls at hl ⊢
  have hl : lv_has ls 2 [(0, .ref sv), (1, .int (nI k))] := hl
  have hS : va_S nF s.heap s.heap [] := va_S.rf
  obtain ⟨c1, c2⟩ := w_chr8 k hk
  refine lv_iload_n (k := 1) hx hb (by decide +kernel) rfl (lv_at hl 1 rfl) ?_
  refine lv_aload_n (k := 0) hx hb (by decide +kernel) rfl (lv_at hl 0 rfl) ?_
  refine va_tlen hx hb h4 hS (v := 94) rfl (by decide +kernel) ?_
  refine va_call0 (va_runS (own := "java/lang/StringLatin1") (index := 9) (As := [.int (nI k), .int 94]) (rest := []) ⟨hx, hb, hml, hown, hT⟩ (k_chk l sp sv hk) ⟨callB_of 2 hT (good_cons good_T0 kw_chk) rfl rfl rfl (hT (.initialized "java/lang/String") (kw_in (by simp))) (hT (.methodLink "java/lang/StringLatin1" 9 ky_chk) (kw_in (by simp))) ⟨by decide, by decide, by decide +kernel⟩ ⟨by decide, by decide⟩, hT (.static ky_chk) (kw_in (by simp))⟩ ⟨SPc_blind, SPc_at hF hG hS⟩ rfl rfl hl.1 rfl (lv_room (by decide)) (show decode kc_l1 3 = .ok (.invokestatic 9, 3) by decide +kernel) ⟨by decide, by decide⟩) ?_
  refine lv_aload_n (k := 0) hx hb (by decide +kernel) rfl (lv_at hl 0 rfl) ?_
  refine lv_iload_n (k := 1) hx hb (by decide +kernel) rfl (lv_at hl 1 rfl) ?_
  refine va_tb hx hb h4 hS (vp_in_nI hk (by omega)) (v := .int (wordsT.getD k 0)) (by rw [nI_clamp (by omega)]) (by decide +kernel) ?_
  refine lv_sipush (v := 255) hx hb (n := 255) (by decide +kernel) (by decide) ?_
  refine lv_iand hx hb (by decide +kernel) ?_
  refine lv_i2c hx hb (by decide +kernel) c1 ?_
  exact W.zret hx hb hr c2 (fun t ht hW => ⟨rfl, ht⟩) (fun q h => by cases h) (by decide +kernel)
set_option maxHeartbeats 1000000 in
theorem k_char {k : Nat} (hk : k < 94) : Met l ky_char (Cond.code ky_char kc_char 2 (some .char) :: Ts0) (kR 4) (SPc sp sv [.ref (sp 2), .int (nI k)]) (SQc (some (.int (wordsT.getD k 0)))) 0 0 nF := by
  refine Met.ofW (cc := kc_char) (maxL := 2) (ret := (some .char)) (by decide) rfl ?_
  intro p e s m args below meth c s₁ B hml hv
  obtain ⟨rfl, hF, hG⟩ := hv
  obtain ⟨h1, h2, h3, h4, h5⟩ := id hF
  have hx := B.exec
  have hb := B.bytes
  have hr := B.returns
  have hts := atoms_spec (ws := Cond.code ky_char kc_char 2 (some .char) :: Ts0) B.pre
  have hT : ∀ w ∈ Ts0, w.before _ s = true := fun w hw => hts w (List.mem_cons_of_mem _ hw)
  have hown : s.vm.findClass "java/lang/String" = some m.cls := findClass_of_methodNamed B.named
  have hl := lv_entry ([.ref (sp 2), .int (nI k)]) (n := 2) (Nat.le_of_ble_eq_true rfl)
  rw [lg_entry_eq]
  generalize (lg_sl ([.ref (sp 2), .int (nI k)]) ++ List.replicate (2 - (lg_sl ([.ref (sp 2), .int (nI k)])).length) Slot.unset).toArray = ls at hl ⊢
  have hl : lv_has ls 2 [(0, .ref (sp 2)), (1, .int (nI k))] := hl
  have hS : va_S nF s.heap s.heap [] := va_S.rf
  obtain ⟨c1, c2⟩ := w_chr8 k hk
  refine lv_aload_n (k := 0) hx hb (by decide +kernel) rfl (lv_at hl 0 rfl) ?_
  refine va_call0 (va_runV (C := "java/lang/String") (own := "java/lang/String") (index := 492) (As := []) (rest := []) ⟨hx, hb, hml, hown, hT⟩ (k_lat l sp sv) ⟨callB_of 0 hT (good_cons good_T0 kw_lat) rfl rfl rfl (hT (.initialized "java/lang/String") (kw_in (by simp))) (hT (.methodLink "java/lang/String" 492 ky_lat) (kw_in (by simp))) ⟨by decide, by decide, by decide +kernel⟩ ⟨by decide, by decide⟩, hT (.instanceMethod ky_lat) (kw_in (by simp)), hT (.selects "java/lang/String" ky_lat ky_lat) (kw_in (by simp))⟩ ⟨SPc_blind, va_Orecv h1 hS, SPc_at hF hG hS⟩ rfl rfl hl.1 rfl (lv_room (by decide)) (show decode kc_char 1 = .ok (.invokevirtual 492, 3) by decide +kernel) ⟨by decide, by decide⟩) ?_
  refine lv_if_eq (off := 12) (tgt := 16) hx hb (by decide +kernel) (by decide) (fun q => absurd q (by decide)) (fun _ => ?_)
  refine lv_aload_n (k := 0) hx hb (by decide +kernel) rfl (lv_at hl 0 rfl) ?_
  refine vk_getf hx hb h3 hS hown (hT (.fieldLink "java/lang/String" 9 "java/lang/String" "value" "[B") (kw_in (by simp))) (fun _ q => q) (by decide +kernel) ?_
  refine lv_iload_n (k := 1) hx hb (by decide +kernel) rfl (lv_at hl 1 rfl) ?_
  refine va_call0 (va_runS (own := "java/lang/String") (index := 495) (As := [.ref sv, .int (nI k)]) (rest := []) ⟨hx, hb, hml, hown, hT⟩ (k_l1 l sp sv hk) ⟨callB_of 2 hT (good_cons good_T0 kw_l1) rfl rfl rfl (hT (.initialized "java/lang/StringLatin1") (kw_in (by simp))) (hT (.methodLink "java/lang/String" 495 ky_l1) (kw_in (by simp))) ⟨by decide, by decide, by decide +kernel⟩ ⟨by decide, by decide⟩, hT (.static ky_l1) (kw_in (by simp))⟩ ⟨SPc_blind, SPc_at hF hG hS⟩ rfl rfl hl.1 rfl (lv_room (by decide)) (show decode kc_char 12 = .ok (.invokestatic 495, 3) by decide +kernel) ⟨by decide, by decide⟩) ?_
  exact W.zret hx hb hr c2 (fun t ht hW => ⟨rfl, ht⟩) (fun q h => by cases h) (by decide +kernel)
end KS
