/-! What the check says. -/
theorem fnd_mem {l : List Rw} {pc : Nat} {a : Rw} (h : fnd l pc = some a) : a ∈ l ∧ a.1 = pc := by
  induction l with
  | nil => cases h
  | cons b t ih =>
    unfold fnd at h
    by_cases q : Nat.beq b.1 pc = true
    · rw [q] at h
      cases h
      exact ⟨List.mem_cons_self, Nat.eq_of_beq_eq_true q⟩
    · rw [Bool.not_eq_true] at q
      rw [q] at h
      exact ⟨List.mem_cons_of_mem _ (ih h).1, (ih h).2⟩
theorem fnd2_mem {l : List (Nat × List Rw)} {pc : Nat} {a : Rw} (h : fnd2 l pc = some a) : (∃ c ∈ l, a ∈ c.2) ∧ a.1 = pc := by
  induction l with
  | nil => cases h
  | cons b t ih =>
    unfold fnd2 at h
    by_cases q : Nat.blt pc b.1 = true
    · rw [q] at h
      obtain ⟨h1, h2⟩ := fnd_mem h
      exact ⟨⟨b, List.mem_cons_self, h1⟩, h2⟩
    · rw [Bool.not_eq_true] at q
      rw [q] at h
      obtain ⟨⟨c, h1, h2⟩, h3⟩ := ih h
      exact ⟨⟨c, List.mem_cons_of_mem _ h1, h2⟩, h3⟩
theorem PRG_len : PRG.length = 19 := rfl
theorem mrow_big {mid : Nat} (h : 303 ≤ mid) : mrow mid = [] := by
  unfold mrow
  by_cases q : 19 ≤ mid / 16
  · have : PRG.getD (mid / 16) [] = [] := by
      rw [List.getD_eq_getElem?_getD, List.getElem?_eq_none (by rw [PRG_len]; exact q)]; rfl
    rw [this]; rfl
  · have h1 : mid / 16 = 18 := by omega
    have h2 : mid % 16 = 15 := by omega
    rw [h1, h2]; rfl
theorem row_chk {mid pc : Nat} {i : Instr} {ln : Nat} (h : gIns mid pc = some (i, ln)) : ∃ a : Rw, a.1 = pc ∧ a.2.1 = i ∧ a.2.2.1 = ln ∧ chk mid a = true ∧ gRes mid pc = a.2.2.2.1 := by
  unfold gIns at h
  cases hf : fnd2 (mrow mid) pc with
  | none => rw [hf] at h; cases h
  | some a =>
    rw [hf] at h
    cases h
    obtain ⟨⟨c, h1, h2⟩, h3⟩ := fnd2_mem hf
    refine ⟨a, h3, rfl, rfl, ?_, ?_⟩
    · by_cases hm : mid < 303
      · have := ckA_303 mid hm
        unfold chkMid at this
        exact List.all_eq_true.mp (List.all_eq_true.mp this c h1) a h2
      · rw [mrow_big (by omega)] at h1
        cases h1
    · unfold gRes; rw [hf]
theorem chkF_ok {own : String} {idx pos k : Nat} {T : u_T} (h : chkF own idx pos T k = true) : okFd Ts0 Nw0 own idx T k := by
  unfold chkF at h
  rw [Bool.or_eq_true] at h
  rcases h with h | h
  · exact Or.inl (Tw_in h rfl)
  · exact Or.inr ⟨_, Tw_nw h rfl⟩
theorem chkK_ok {own : String} {idx pos : Nat} {y : MethodName} (h : chkK own idx pos y = true) : Cond.methodLink own idx y ∈ Ts0 ∨ ∃ host, Cond.methodLinkNest own idx y host ∈ Nw0 := by
  unfold chkK at h
  rw [Bool.or_eq_true] at h
  rcases h with h | h
  · exact Or.inl (Tw_in h rfl)
  · exact Or.inr ⟨_, Tw_nw h rfl⟩
theorem chkR_ok {t : Nat} {ty : Option FieldType} (h : chkR t ty = true) : okR t ty := by
  unfold chkR at h
  split at h
  · exact Or.inl ⟨rfl, rfl⟩
  · exact Or.inr (Or.inl ⟨rfl, rfl⟩)
  · exact Or.inr (Or.inr (Or.inl ⟨rfl, rfl⟩))
  · exact Or.inr (Or.inr (Or.inr (Or.inl ⟨rfl, rfl⟩)))
  · exact Or.inr (Or.inr (Or.inr (Or.inr ⟨rfl, _, rfl⟩)))
  · cases h
theorem okM_all {L : Nat} {xs : Nat → Int32} {k : Nat} (hk : k < 302) : okM Ts0 (GW L xs) mY mC rT k (mP k).2.2.2.2 := by
  obtain ⟨h1, h2⟩ := mcA_302 k hk
  unfold chkM at h2
  simp only [Bool.and_eq_true] at h2
  obtain ⟨⟨⟨⟨⟨⟨q1, q2⟩, q3⟩, q4⟩, q5⟩, q6⟩, q7⟩ := h2
  exact ⟨List.mem_filter.mpr ⟨List.mem_of_getElem? h1, rfl⟩, of_decide_eq_true q1, q2, ⟨of_decide_eq_true q3, of_decide_eq_true q4, of_decide_eq_true q5⟩, Tw_in q6 rfl, chkR_ok q7⟩
theorem chkB_ok {own : String} {idx pos b : Nat} (h : chkB own idx pos b = true) : okB Ts0 own idx b := by
  unfold chkB at h
  unfold okB
  refine ⟨fun q => ?_, fun q => ?_, fun q => ?_, fun q => ?_, fun q => ?_, fun q => ?_⟩ <;> subst q <;> simp only [Bool.and_eq_true] at h
  · obtain ⟨⟨⟨h1, h2⟩, h3⟩, h4⟩ := h
    exact ⟨Tw_in h1 rfl, Tw_in h2 rfl, Tw_in h3 rfl, Tw_in h4 rfl⟩
  · obtain ⟨⟨⟨h1, h2⟩, h3⟩, h4⟩ := h
    exact ⟨Tw_in h1 rfl, Tw_in h2 rfl, Tw_in h3 rfl, Tw_in h4 rfl⟩
  · obtain ⟨⟨⟨h1, h2⟩, h3⟩, h4⟩ := h
    exact ⟨Tw_in h1 rfl, Tw_in h2 rfl, Tw_in h3 rfl, Tw_in h4 rfl⟩
  · obtain ⟨⟨⟨h1, h2⟩, h3⟩, h4⟩ := h
    exact ⟨Tw_in h1 rfl, Tw_in h2 rfl, Tw_in h3 rfl, Tw_in h4 rfl⟩
  · obtain ⟨⟨⟨h1, h2⟩, h3⟩, h4⟩ := h
    exact ⟨Tw_in h1 rfl, Tw_in h2 rfl, Tw_in h3 rfl, Tw_in h4 rfl⟩
  · obtain ⟨⟨h1, h2⟩, h3⟩ := h
    exact ⟨Tw_in h1 rfl, Tw_in h2 rfl, Tw_in h3 rfl⟩
theorem bif_0 {a : Nat} {x y : Bool} (h : (bif Nat.beq a 0 then x else y) = true) : (a = 0 → x = true) ∧ (¬ a = 0 → y = true) := by
  by_cases q : a = 0
  · subst q
    exact ⟨fun _ => h, fun q => absurd rfl q⟩
  · have : Nat.beq a 0 = false := by
      cases hb : Nat.beq a 0 with
      | false => rfl
      | true => exact absurd (Nat.eq_of_beq_eq_true hb) q
    rw [this] at h
    exact ⟨fun z => absurd z q, fun _ => h⟩
set_option maxHeartbeats 2000000 in
theorem chkI_okP {L : Nat} {xs : Nat → Int32} {mid : Nat} {a : Rw} (h : chkI mid a = true) (hr : gRes mid a.1 = a.2.2.2.1) : okP Ts0 Nw0 AO0 vwCl nm0 (GW L xs) (mY mid).cls (mY mid).name mid a.1 a.2.1 := by
  obtain ⟨pc, i, ln, w, pos⟩ := a
  dsimp only at hr
  unfold chkI at h
  dsimp only at h ⊢
  cases i with
  | goto off => show (pc : Int) + off = ((gRes mid pc).1 : Int); rw [hr]; exact of_decide_eq_true h
  | ifCond c off => show (pc : Int) + off = ((gRes mid pc).1 : Int); rw [hr]; exact of_decide_eq_true h
  | if_icmp c off => show (pc : Int) + off = ((gRes mid pc).1 : Int); rw [hr]; exact of_decide_eq_true h
  | tableswitch d lo hi offs =>
    simp only [Bool.and_eq_true] at h
    obtain ⟨⟨⟨⟨h1, h2⟩, h3⟩, h4⟩, h5⟩ := h
    refine ⟨of_decide_eq_true h1, of_decide_eq_true h2, of_decide_eq_true h3, fun j o ho => ?_, of_decide_eq_true h5⟩
    have hj : j < offs.size := (Array.getElem?_eq_some_iff.mp ho).1
    have := of_decide_eq_true (List.all_eq_true.mp h4 j (List.mem_range.mpr hj))
    have e : offs.getD j 0 = o := by
      rw [Array.getD_eq_getD_getElem?, ho]; rfl
    rw [e] at this
    exact this
  | ldc idx =>
    intro x hx
    have hx : gCst mid pc = .int x := hx
    dsimp only at h
    rw [hx] at h
    exact Tw_in h rfl
  | ldc_w idx =>
    intro x hx
    have hx : gCst mid pc = .int x := hx
    dsimp only at h
    rw [hx] at h
    exact Tw_in h rfl
  | ldc2_w idx =>
    intro x hx
    have hx : gCst mid pc = .long x := hx
    dsimp only at h
    rw [hx] at h
    exact Tw_in h rfl
  | getfield idx =>
    show ∃ q : vw_C, vwCl[(gRes mid pc).1]? = some q ∧ (gRes mid pc).2.1 < q.2.2 ∧ okFd Ts0 Nw0 (mY mid).cls idx q.2.1 (gRes mid pc).2.1
    rw [hr]
    dsimp only at h
    split at h
    · rename_i q hq
      simp only [Bool.and_eq_true] at h
      exact ⟨q, hq, of_decide_eq_true h.1, chkF_ok h.2⟩
    · cases h
  | putfield idx =>
    show ∃ q : vw_C, vwCl[(gRes mid pc).1]? = some q ∧ (gRes mid pc).2.1 < q.2.2 ∧ okFd Ts0 Nw0 (mY mid).cls idx q.2.1 (gRes mid pc).2.1 ∧ ((q.2.1 (gRes mid pc).2.1).2.2.2 = false ∨ (q.2.1 (gRes mid pc).2.1).2.2.2 = true ∧ (mY mid).name = "<init>" ∧ (q.2.1 (gRes mid pc).2.1).1 = (mY mid).cls ∧ Cond.fieldLink (mY mid).cls idx (q.2.1 (gRes mid pc).2.1).1 (q.2.1 (gRes mid pc).2.1).2.1 (q.2.1 (gRes mid pc).2.1).2.2.1 ∈ Ts0)
    rw [hr]
    dsimp only at h
    split at h
    · rename_i q hq
      simp only [Bool.and_eq_true, Bool.or_eq_true, Bool.not_eq_true'] at h
      obtain ⟨⟨h1, h2⟩, h3⟩ := h
      refine ⟨q, hq, of_decide_eq_true h1, chkF_ok h2, ?_⟩
      by_cases hf : (q.2.1 w.2.1).2.2.2 = false
      · exact Or.inl hf
      · rcases h3 with h3 | ⟨⟨h3, h4⟩, h5⟩
        · exact Or.inl h3
        · exact Or.inr ⟨by simpa using hf, of_decide_eq_true h3, of_decide_eq_true h4, Tw_in h5 rfl⟩
    · cases h
  | new idx =>
    show ∃ q : vw_C, vwCl[(gRes mid pc).1]? = some q ∧ (gRes mid pc).2.1 = q.2.2 ∧ Cond.classLink (mY mid).cls idx q.1 ∈ Ts0 ∧ Cond.instantiable q.1 q.2.2 ∈ Ts0 ∧ Cond.initialized q.1 ∈ Ts0
    rw [hr]
    dsimp only at h
    split at h
    · rename_i q hq
      simp only [Bool.and_eq_true] at h
      obtain ⟨⟨⟨h1, h2⟩, h3⟩, h4⟩ := h
      exact ⟨q, hq, of_decide_eq_true h1, Tw_in h2 rfl, Tw_in h3 rfl, Tw_in h4 rfl⟩
    · cases h
  | newarray t =>
    show Cond.arrayClass (newarray.typeOf t) ∈ Ts0
    dsimp only at h
    split at h
    · exact Tw_in h rfl
    · exact Tw_in h rfl
    · exact Tw_in h rfl
    · exact Tw_in h rfl
    · cases h
  | anewarray idx =>
    show Cond.classLink (mY mid).cls idx (nm0 (gRes mid pc).1) ∈ Ts0 ∧ nm0 (gRes mid pc).1 ∈ AO0
    rw [hr]
    simp only [Bool.and_eq_true] at h
    exact ⟨Tw_in h.1 rfl, of_decide_eq_true h.2⟩
  | invokestatic idx =>
    show (gRes mid pc).2.2.2 = 0 ∨ (gRes mid pc).2.2.2 ≤ 5 ∧ okB Ts0 (mY mid).cls idx (gRes mid pc).2.2.2
    rw [hr]
    by_cases q : w.2.2.2 = 0
    · exact Or.inl q
    · have h := (bif_0 h).2 q
      rw [Bool.and_eq_true] at h
      exact Or.inr ⟨Nat.le_of_ble_eq_true h.1, chkB_ok h.2⟩
  | invokespecial idx =>
    show (gRes mid pc).2.2.2 = 0 ∨ (gRes mid pc).2.2.2 = 8 ∧ okB Ts0 (mY mid).cls idx 8
    rw [hr]
    by_cases q : w.2.2.2 = 0
    · exact Or.inl q
    · have h := (bif_0 h).2 q
      rw [Bool.and_eq_true] at h
      exact Or.inr ⟨Nat.eq_of_beq_eq_true h.1, chkB_ok h.2⟩
  | _ => trivial
set_option maxHeartbeats 2000000 in
theorem chkI_okQ {L : Nat} {xs : Nat → Int32} {mid : Nat} {a : Rw} (h : chkI mid a = true) (hr : gRes mid a.1 = a.2.2.2.1) : okQ Ts0 Nw0 vwCl (GW L xs) mY mC rT (mY mid).cls mid a.1 a.2.1 := by
  obtain ⟨pc, i, ln, w, pos⟩ := a
  dsimp only at hr
  unfold chkI at h
  dsimp only at h ⊢
  have blt : ∀ {a b : Nat}, Nat.blt a b = true → a < b := fun q => Nat.le_of_ble_eq_true q
  cases i with
  | invokestatic idx =>
    intro q0
    have q0 : (gRes mid pc).2.2.2 = 0 := q0
    show okM Ts0 (GW L xs) mY mC rT (gRes mid pc).1 (gRes mid pc).2.1 ∧ Cond.static (mY (gRes mid pc).1) ∈ Ts0 ∧ (Cond.methodLink (mY mid).cls idx (mY (gRes mid pc).1) ∈ Ts0 ∨ ∃ host, Cond.methodLinkNest (mY mid).cls idx (mY (gRes mid pc).1) host ∈ Nw0)
    rw [hr] at q0 ⊢
    have h := (bif_0 h).1 q0
    simp only [Bool.and_eq_true] at h
    obtain ⟨⟨⟨h1, h2⟩, h3⟩, h4⟩ := h
    rw [Nat.eq_of_beq_eq_true h2]
    exact ⟨okM_all (blt h1), Tw_in h3 rfl, chkK_ok h4⟩
  | invokevirtual idx =>
    intro q0
    have q0 : (gRes mid pc).2.2.2 = 0 := q0
    show okM Ts0 (GW L xs) mY mC rT (gRes mid pc).1 (gRes mid pc).2.1 ∧ Cond.instanceMethod (mY (gRes mid pc).1) ∈ Ts0 ∧ (Cond.methodLink (mY mid).cls idx (mY (gRes mid pc).1) ∈ Ts0 ∨ ∃ host, Cond.methodLinkNest (mY mid).cls idx (mY (gRes mid pc).1) host ∈ Nw0) ∧ (gRes mid pc).2.2.1 < 100 ∧ ∃ q : vw_C, vwCl[(gRes mid pc).2.2.1]? = some q ∧ q.1 = (mY (gRes mid pc).1).cls ∧ Cond.selects q.1 (mY (gRes mid pc).1) (mY (gRes mid pc).1) ∈ Ts0
    rw [hr] at q0 ⊢
    have h := (bif_0 h).1 q0
    simp only [Bool.and_eq_true] at h
    obtain ⟨⟨⟨⟨⟨h1, h2⟩, h3⟩, h4⟩, h5⟩, h6⟩ := h
    rw [Nat.eq_of_beq_eq_true h2]
    refine ⟨okM_all (blt h1), Tw_in h3 rfl, chkK_ok h4, blt h5, ?_⟩
    split at h6
    · rename_i q hq
      rw [Bool.and_eq_true] at h6
      exact ⟨q, hq, of_decide_eq_true h6.1, Tw_in h6.2 rfl⟩
    · cases h6
  | invokespecial idx =>
    intro q0
    have q0 : (gRes mid pc).2.2.2 = 0 := q0
    show okM Ts0 (GW L xs) mY mC rT (gRes mid pc).1 (gRes mid pc).2.1 ∧ Cond.instanceMethod (mY (gRes mid pc).1) ∈ Ts0 ∧ (Cond.methodLink (mY mid).cls idx (mY (gRes mid pc).1) ∈ Ts0 ∨ ∃ host, Cond.methodLinkNest (mY mid).cls idx (mY (gRes mid pc).1) host ∈ Nw0) ∧ rT (gRes mid pc).1 = none ∧ (mY (gRes mid pc).1).name = "<init>"
    rw [hr] at q0 ⊢
    have h := (bif_0 h).1 q0
    simp only [Bool.and_eq_true] at h
    obtain ⟨⟨⟨⟨⟨h1, h2⟩, h3⟩, h4⟩, h5⟩, h6⟩ := h
    rw [Nat.eq_of_beq_eq_true h2]
    exact ⟨okM_all (blt h1), Tw_in h3 rfl, chkK_ok h4, Option.isNone_iff_eq_none.mp h5, of_decide_eq_true h6⟩
  | _ => trivial
theorem chkL_ok {i : Instr} {ln : Nat} (h : chkL i ln = true) : lnOK i ln := by
  unfold chkL at h
  unfold lnOK
  split at h
  · trivial
  · split
    · rename_i q; exact absurd rfl (q _ _ _ _)
    · exact Nat.eq_of_beq_eq_true h
