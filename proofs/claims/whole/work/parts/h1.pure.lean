/-! The world with what checkIndex reads; the whole walk. -/
def SX1 (sp : Nat → Nat) (sv : Nat) (A : Nat → Prop) (s : State) : Prop := SX0 sp sv A s ∧ SG A s
def STR1 (l : Launch) (L : Nat) (xs : Nat → Int32) (sp : Nat → Nat) (sv : Nat) : Prop :=
  ∀ (p : Program) (e : Env) (R : Room) (s : State) (m : MethodId) (args : Array Value) (below : List Frame) (meth : Method) (c : Code) (H : Heap) (locs : List Loc) (cells slots : Nat) (Q : State → Prop) (mid pc idx : Nat) (ls : Array Slot) (A : Nat → Prop) (al : Nat → Nat) (La S : List Value) (z : SS) (o : Cfg), SX1 sp sv A s → va_S A s.heap H locs → CX Ts0 (GW L xs) mY mC mid p m c s args meth → gIns mid pc = some (.invokevirtual idx, 3) → decode (mC mid) pc = .ok (.invokevirtual idx, 3) → ¬ (gRes mid pc).2.2.2 = 0 → built (GW L xs) (gRes mid pc).2.2.2 pc La S z = some (.inl o) →
    c.maxLocals = ls.size → 10 ≤ R.frames → 600 ≤ R.locals → cells ≤ R.cells → slots ≤ R.slots → (∀ (x : Int32) (r : List Value), o = (pc + 3, La, .int x :: r, z) → (∀ v ∈ r, v ∈ S) → W p l e R s m args below meth c H locs cells slots Q (F0 m (pc + 3) ls ((.int x :: r).map (tV al sp)))) → W p l e R s m args below meth c H locs cells slots Q (F0 m pc ls (S.map (tV al sp)))
theorem SX1_ok {l : Launch} {L : Nat} {xs : Nat → Int32} {sp : Nat → Nat} {sv : Nat} (hS : STR1 l L xs sp sv) : SXok l Ts0 Nw0 AO0 (GW L xs) sp mY mC (SX1 sp sv) := by
  refine ⟨?_, ?_, ?_, ?_, ?_, hS⟩
  · intro A B s U h hW hsz hk hAB
    obtain ⟨⟨h1, h2, h3, h4, h5⟩, h6⟩ := h
    exact ⟨⟨fun w hw => Nw0_warm hw hW (h1 w hw), h2.moved hW.alike, ((h3.kept hk).moved hW.alike).narrow hAB, h4.warm hW, SF_warm h5 hW.alike hk hAB⟩, SG_warm h6 hW.alike hk hAB⟩
  · intro A U f mk a h
    obtain ⟨⟨h1, h2, h3, h4, h5⟩, h6⟩ := h
    exact ⟨⟨fun w hw => va_Nw.same (u := U) (U := U.calling f mk a) (Nw0_tab hw) rfl (h1 w hw), h2.moved (U := U.calling f mk a) (Vm.Alike.refl U.vm), h3.moved (U := U.calling f mk a) (Vm.Alike.refl U.vm), h4.same (U := U.calling f mk a) rfl, SF_warm (U := U.calling f mk a) h5 (Vm.Alike.refl U.vm) (fun _ _ _ => rfl) (fun _ q => q)⟩, SG_warm (U := U.calling f mk a) h6 (Vm.Alike.refl U.vm) (fun _ _ _ => rfl) (fun _ q => q)⟩
  · intro A s h
    refine ⟨fun w hw a => (h.1.1 w hw).use (Nw0_tab hw), fun C hC => ?_⟩
    rw [List.mem_singleton.mp hC]
    exact h.1.2.1
  · intro p e R s m args below meth c H locs cells slots Q mid pc idx ls rest A h hSS hc hg hd k
    obtain ⟨hx, hb, hml, hown, hts, hlk, hnm⟩ := hc
    obtain ⟨a, rfl, e1, e2, h4, h5⟩ := row_chk hg
    unfold chk at h4
    simp only [Bool.and_eq_true] at h4
    obtain ⟨-, h8⟩ := h4
    unfold chkI at h8
    dsimp only at h8
    rw [e1] at h8
    have hw := Tw_nw h8 rfl
    exact va_getsN hx hb h.1.2.2.1 hSS hown ((h.1.1 _ hw).use (Nw0_tab hw)) (fun _ q => q) hd k
  · intro p e R s m args below meth c H locs cells slots Q mid pc idx ls rest A h hSS hc hg hq hd k
    obtain ⟨hx, hb, hml, hown, hts, hlk, hnm⟩ := hc
    obtain ⟨a, rfl, e1, e2, h4, h5⟩ := row_chk hg
    unfold chk at h4
    simp only [Bool.and_eq_true] at h4
    obtain ⟨-, h8⟩ := h4
    unfold chkI at h8
    dsimp only at h8
    have hq : gCst mid a.1 = .retAddr 2 := hq
    rw [e1] at h8
    dsimp only at h8
    rw [hq] at h8
    simp only [Bool.and_eq_true] at h8
    have ho := of_decide_eq_true h8.1
    have hi := Nat.eq_of_beq_eq_true h8.2
    subst hi
    rw [ho] at hown
    exact va_ldcS hx hb hown h.1.2.2.2.1 hd k
theorem built_6 {g : PG} {pc : Nat} {L S : List Value} {z : SS} {o : Cfg} (h : built g 6 pc L S z = some (.inl o)) : ∃ r, S = .retAddr 2 :: r ∧ catS r ≤ 8 ∧ o = (pc + 3, L, .int (nI (g.2.2.2.2.2.2 2).1) :: r, z) := by
  unfold built at h
  split at h
  all_goals first
    | (cases h; done)
    | (rename_i e; cases e; done)
    | skip
  all_goals
    split at h
    · rename_i hc
      cases h
      exact ⟨_, rfl, hc, rfl⟩
    · cases h
theorem built_7 {g : PG} {pc : Nat} {L S : List Value} {z : SS} {o : Cfg} (h : built g 7 pc L S z = some (.inl o)) : ∃ i r, S = .int i :: .retAddr 2 :: r ∧ catS r ≤ 8 ∧ ¬ (i < 0 ∨ (g.2.2.2.2.2.2 2).1 ≤ i.toNatClampNeg) ∧ o = (pc + 3, L, .int ((g.2.2.2.2.2.2 2).2 i.toNatClampNeg) :: r, z) := by
  unfold built at h
  split at h
  all_goals first
    | (cases h; done)
    | (rename_i e; cases e; done)
    | skip
  all_goals
    split at h
    · rename_i hc
      cases h
      exact ⟨_, _, rfl, hc.1, hc.2, rfl⟩
    · cases h
set_option maxHeartbeats 2000000 in
theorem STR1_ok (l : Launch) (L : Nat) (xs : Nat → Int32) (sp : Nat → Nat) (sv : Nat) : STR1 l L xs sp sv := by
  intro p e R s m args below meth c H locs cells slots Q mid pc idx ls A al La S z o hE hSS hc hg hd h0 hbl hml hfr hlo hce hsl k
  obtain ⟨⟨e1, e2, e3, e4, e5⟩, hG⟩ := hE
  obtain ⟨hx, hb, hml', hown, hts, hlk, hnm⟩ := hc
  obtain ⟨a, rfl, i1, i2, h4, h5⟩ := row_chk hg
  unfold chk at h4
  simp only [Bool.and_eq_true] at h4
  obtain ⟨-, h8⟩ := h4
  unfold chkI at h8
  dsimp only at h8
  rw [i1] at h8
  dsimp only at h8
  rw [h5] at h0 hbl
  have h9 := (bif_0 h8).2 h0
  simp only [Bool.or_eq_true, Bool.and_eq_true] at h9
  have f1 := e5.1
  rcases h9 with ⟨q, hw⟩ | ⟨q, hw⟩
  · have q := Nat.eq_of_beq_eq_true q
    have hw := Tw_in hw rfl
    rw [q] at hbl
    obtain ⟨r, hS, hr8, ho⟩ := built_6 hbl
    have K := k (nI 94) r ho (fun v hv => by rw [hS]; exact List.mem_cons_of_mem _ hv)
    rw [hS]
    refine va_call0 (va_runV (C := "java/lang/String") (own := (mY mid).cls) (index := idx) (b := sp 2) (As := []) (rest := r.map (tV al sp)) ⟨hx, hb, hml, hown, hts⟩ (k_len l sp sv) ⟨callB_of 0 hts (good_cons good_T0 kw_len) rfl rfl rfl (hts (.initialized "java/lang/String") (kw_in (by simp))) (hts _ hw) ⟨by decide, by decide, by decide +kernel⟩ ⟨by show 2 + 1 ≤ R.frames; omega, by show 8 + (1 + 11) + 2 * 60 ≤ R.locals; omega⟩, hts (.instanceMethod ky_len) (kw_in (by simp)), hts (.selects "java/lang/String" ky_len ky_len) (kw_in (by simp))⟩ ⟨SPc_blind, va_Orecv f1 hSS, SPc_at e5 hG hSS⟩ rfl rfl rfl rfl (lv_room (cat_sum4 hr8)) hd ⟨by omega, by omega⟩) ?_
    exact K
  · have q := Nat.eq_of_beq_eq_true q
    have hw := Tw_in hw rfl
    rw [q] at hbl
    obtain ⟨i, r, hS, hr8, hi, ho⟩ := built_7 hbl
    have hi0 : ¬ i < 0 := fun z => hi (Or.inl z)
    obtain ⟨n, hn, rfl⟩ := nI_of hi0
    have hn94 : n < 94 := by
      have : ¬ 94 ≤ (nI n).toNatClampNeg := fun z => hi (Or.inr z)
      rw [nI_clamp hn] at this
      omega
    have K := k _ r ho (fun v hv => by rw [hS]; exact List.mem_cons_of_mem _ (List.mem_cons_of_mem _ hv))
    have ev : ((GW L xs).2.2.2.2.2.2 2).2 (nI n).toNatClampNeg = wordsT.getD n 0 := by rw [nI_clamp hn]; rfl
    rw [ev] at K
    rw [hS]
    refine va_call0 (va_runV (C := "java/lang/String") (own := (mY mid).cls) (index := idx) (b := sp 2) (As := [.int (nI n)]) (rest := r.map (tV al sp)) ⟨hx, hb, hml, hown, hts⟩ (k_char l sp sv hn94) ⟨callB_of 1 hts (good_cons good_T0 kw_char) rfl rfl rfl (hts (.initialized "java/lang/String") (kw_in (by simp))) (hts _ hw) ⟨by decide, by decide, by decide +kernel⟩ ⟨by show 4 + 1 ≤ R.frames; omega, by show 8 + (2 + 11) + 4 * 60 ≤ R.locals; omega⟩, hts (.instanceMethod ky_char) (kw_in (by simp)), hts (.selects "java/lang/String" ky_char ky_char) (kw_in (by simp))⟩ ⟨SPc_blind, va_Orecv f1 hSS, SPc_at e5 hG hSS⟩ rfl rfl rfl rfl (lv_room (cat_sum4 hr8)) hd ⟨by omega, by omega⟩) ?_
    exact K
set_option maxRecDepth 100000 in
theorem at_fmt : (Cond.isRef (.static "jdk/internal/util/Preconditions" "SIOOBE_FORMATTER" "Ljava/util/function/BiFunction;")) ∈ flatC (Jvm.Cond.and given_1 narrow_1) := by decide +kernel
set_option maxRecDepth 100000 in
theorem tb_fmt : ∀ w ∈ [Cond.laysStatic "jdk/internal/util/Preconditions" "SIOOBE_FORMATTER" "Ljava/util/function/BiFunction;", Cond.initialized "jdk/internal/util/Preconditions"], w ∈ lw_tbl := by decide +kernel
/-- the claim's walk, out of a run of the small machine that ends with 1 -/
theorem whole_fr1 {p : Program} {e : Env} {s : State} {m : MethodId} {below : List Frame} {meth : Method} {c : Code} (l : Launch) {b L : Nat} {xs : Nat → Int32} (hL : L ≤ 3072) {f d : Nat} {z : SS} (hd : d ≤ 1000) (hrun : RR (GW L xs) f d 302 (0, mkL 4 [.retAddr 0], [], z0) = some (some (.int 1), z)) (hn : z.1 ≤ 600000) (hu : z.2.1 ≤ 7302249) (C0 : lw_At p s m meth c b L xs) :
    W p l e room_1 s m #[Value.ref b] below meth c s.heap [] 0 0 (lw_Z below #[Value.ref b] s) (entryFrame m ([Value.ref b] : List Value).toArray 4) := by
  obtain ⟨D, sp, sv, hsp, hWd, hE⟩ := start C0 (by omega)
  obtain ⟨hx, hb, hr, hml, hown, hts, hX, hbl, hlocks, hgv⟩ := C0
  have hGf : SG (fun q => s.heap.size ≤ q) s := va_Zqof (args := #[Value.ref b]) (hts _ (tb_fmt _ (by simp))) (hts _ (tb_fmt _ (by simp))) (flat_of_before _ hgv _ at_fmt) (fun a h => Nat.not_le.mpr h)
  have hE : SX1 sp sv (fun q => s.heap.size ≤ q) s := ⟨hE, hGf⟩
  have hgo := sound (l := l) (D := D) (sp := sp) (GOOD0 L xs) (SX1_ok (STR1_ok l L xs sp sv)) f d 302 _ _ hrun
  rw [lg_entry_eq]
  have hLR : LR (fun _ => 0) sp (mkL 4 [.retAddr 0]) ((lg_sl ([Value.ref b]) ++ List.replicate (4 - (lg_sl ([Value.ref b])).length) Slot.unset).toArray) 4 := by
    have := LR_entry (al := fun _ => 0) (sp := sp) (n := 4) (as := [.retAddr 0]) (by decide)
    have e0 : ([Value.retAddr 0].map (tV (fun _ => 0) sp)) = [Value.ref b] := by
      show [Value.ref (sp 0)] = _
      rw [hsp]
    rw [e0] at this
    exact this
  refine hgo p e room_1 s m _ below meth c s.heap [] 0 0 _ _ (fun _ => 0) (fun _ => 0) (fun q => s.heap.size ≤ q) ⟨hx, hb, hml, hown, fun w hw => hts w (List.mem_filter.mp hw).1, hlocks, fun q => absurd q (by decide)⟩ ?_ ?_ ?_ ?_ hWd hE hLR (VO_entry (fun v hv => by rw [List.mem_singleton.mp hv]; trivial)) ?_
  · show d + 10 ≤ 2048; omega
  · show (d + 10) * 60 ≤ 84000; omega
  · show 0 + (z.1 - 0) ≤ 600000; omega
  · show 0 + (z.2.1 - 0) ≤ 7302249; omega
  · intro al' cy' H1 locs1 pc' ls' hext hW1 hrk hvk hdec
    refine va_forget (fun q hq => hW1.2.2.2.2.1.2.2 q hq) ?_
    refine W.widen (k := 600000) (n := 7302249) (by show 0 + (z.1 - 0) ≤ 600000; omega) (by show 0 + (z.2.1 - 0) ≤ 7302249; omega) ?_
    exact lw_ret hx hb hr hlocks hdec
