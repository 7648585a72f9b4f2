/-! Calls. -/
def okQ (Ts Nw : List Cond) (cl : List vw_C) (g : PG) (mY : Nat → MethodName) (mC : Nat → ByteArray) (rT : Nat → Option FieldType) (own : String) (mid pc : Nat) (i : Instr) : Prop := match i with
  | .invokestatic idx => (g.2.1 mid pc).2.2.2 = 0 → okM Ts g mY mC rT (g.2.1 mid pc).1 (g.2.1 mid pc).2.1 ∧ Cond.static (mY (g.2.1 mid pc).1) ∈ Ts ∧ (Cond.methodLink own idx (mY (g.2.1 mid pc).1) ∈ Ts ∨ ∃ host, Cond.methodLinkNest own idx (mY (g.2.1 mid pc).1) host ∈ Nw)
  | .invokevirtual idx => (g.2.1 mid pc).2.2.2 = 0 → okM Ts g mY mC rT (g.2.1 mid pc).1 (g.2.1 mid pc).2.1 ∧ Cond.instanceMethod (mY (g.2.1 mid pc).1) ∈ Ts ∧ (Cond.methodLink own idx (mY (g.2.1 mid pc).1) ∈ Ts ∨ ∃ host, Cond.methodLinkNest own idx (mY (g.2.1 mid pc).1) host ∈ Nw) ∧ (g.2.1 mid pc).2.2.1 < 100 ∧ ∃ q : vw_C, cl[(g.2.1 mid pc).2.2.1]? = some q ∧ q.1 = (mY (g.2.1 mid pc).1).cls ∧ Cond.selects q.1 (mY (g.2.1 mid pc).1) (mY (g.2.1 mid pc).1) ∈ Ts
  | .invokespecial idx => (g.2.1 mid pc).2.2.2 = 0 → okM Ts g mY mC rT (g.2.1 mid pc).1 (g.2.1 mid pc).2.1 ∧ Cond.instanceMethod (mY (g.2.1 mid pc).1) ∈ Ts ∧ (Cond.methodLink own idx (mY (g.2.1 mid pc).1) ∈ Ts ∨ ∃ host, Cond.methodLinkNest own idx (mY (g.2.1 mid pc).1) host ∈ Nw) ∧ rT (g.2.1 mid pc).1 = none ∧ (mY (g.2.1 mid pc).1).name = "<init>"
  | _ => True
section SD
variable {p : Program} {l : Launch} {e : Env} {R : Room} {s : State} {m : MethodId} {args : Array Value} {below : List Frame} {meth : Method} {c : Code} {H : Heap} {locs : List Loc} {cells slots : Nat} {Q : State → Prop}
variable {D : va_G} {cl : List vw_C} {nm : Nat → String} {g : PG} {al : Nat → Nat} {cy : Nat → ClassId} {sp : Nat → Nat} {A : Nat → Prop} {z : SS} {Ts Nw : List Cond} {AO : List String} {mY : Nat → MethodName} {mC : Nat → ByteArray} {rT : Nat → Option FieldType} {SX : (Nat → Prop) → State → Prop} {mid pc : Nat} {ls : Array Slot}
theorem va_callg {Post : Option Value → State → Prop} {mc ms : Nat} {rest st0 : List Value} {A0 A1 : Nat → Prop} {H0 : Heap} {free : Addr → Prop} (hr : va_Run p l e R s m args below meth c H locs cells slots mc ms (F0 m pc ls st0) rest (fun st oc t => (∃ v, oc = .returned v ∧ Post v t) ∧ va_F A1 st t) free) (hS : va_S A0 H0 H locs) (hA : ∀ q, q < H.size → A1 q → A0 q) (hf : ∀ q, free q → A0 q)
    (kk : ∀ (v : Option Value) (t : State) (H1 : Heap) (locs1 : List Loc), t.heap = H1 → s.vm.Alike t.vm → Post v t → va_S A0 H0 H1 locs1 → W p l e R s m args below meth c H1 locs1 (cells + mc) (slots + ms) Q (F0 m (pc + 3) ls (v.toList ++ rest))) : W p l e R s m args below meth c H locs cells slots Q (F0 m pc ls st0) := by
  intro T hT X
  obtain ⟨v, st₀, t, T', L, h0, X', hL, e1, e2, ⟨⟨v', hv, hp⟩, hz, hk⟩, st⟩ := hr T hT X
  cases hv
  rw [h0] at hz hk
  obtain ⟨t2, a1, b1⟩ := kk v t T'.heap (locs ++ L) e1.symm (by rw [← e2]; exact X'.warmed.alike) hp
    ⟨Nat.le_trans hS.1 (by rw [e1]; exact hz), fun q h1 h2 => by rw [e1, hk q (Nat.lt_of_lt_of_le h1 hS.1) (fun z => h2 (hA q (Nat.lt_of_lt_of_le h1 hS.1) z))]; exact hS.2.1 q h1 h2, fun q hq => by
      rcases List.mem_append.mp hq with h | h
      · exact hS.2.2 q h
      · exact hf _ (hL q h)⟩ T' rfl X'
  exact ⟨t2, st t2 a1, b1⟩
theorem Wd.moved {s' : State} (hW : Wd D cl nm g al cy sp A z s H locs) (hvm : s.vm.Alike s'.vm) (hh : s'.heap = s.heap) : Wd D cl nm g al cy sp A z s' H locs := by
  obtain ⟨k1, k2, k3, k4, k5, k6, k7, k8⟩ := hW
  exact ⟨k1.moved hvm, fun c hc h => ⟨arrOfT_moved hvm (k2 c hc h).1, (k2 c hc h).2.moved hvm⟩, k3, k4, by rw [hh]; exact k5, by rw [hh]; exact k6, fun k hk => by
    rw [hh]; exact (k7 k hk).moved hvm, k8⟩
theorem AX_in (hW : Wd D cl nm g al cy sp A z s H locs) {q : Nat} (h : AX g al cy z H.size q) : A q := by
  obtain ⟨k1, k2, k3, k4, k5, k6, k7, k8⟩ := hW
  rcases h with ⟨k, e0, hk⟩ | h
  · exact k4.2 k _ hk
  · exact k6 q (Nat.le_trans k5.1 h)
theorem PcM_blind (hSX : SXok l Ts Nw AO g sp mY mC SX) {hz : Nat} {as : List Value} : FrameBlind (PcM D cl nm g sp SX al cy z hz as) := by
  intro a U gf mk h
  obtain ⟨h1, h2, h3, h4⟩ := h
  exact ⟨h1, h2, h3.moved (s' := U.calling gf mk a) (Vm.Alike.refl U.vm) rfl, hSX.2.1 _ U gf mk a h4⟩
theorem PcM_at (hSX : SXok l Ts Nw AO g sp mY mC SX) (hW : Wd D cl nm g al cy sp A z s H locs) (hE : SX A s) {as : List Value} (U : State) (hU : U.heap = H) (hw : s.WarmedH U.vm) : PcM D cl nm g sp SX al cy z H.size as ((as.map (tV al sp)).toArray) U := by
  have hin : ∀ q, AX g al cy z H.size q → A q := fun q h => AX_in hW h
  obtain ⟨k1, k2, k3, k4, k5, k6, k7, k8⟩ := hW
  have hvm := hw.alike
  refine ⟨rfl, by rw [hU], ⟨k1.moved hvm, fun c hc h => ⟨arrOfT_moved hvm (k2 c hc h).1, (k2 c hc h).2.moved hvm⟩, by rw [hU]; exact k3, k4.self, va_S.rf, fun q h => Or.inr (by rw [← hU]; exact h), fun k hk => ?_, k8⟩, hSX.1 A _ s U hE hw (by rw [hU]; exact k5.1) (fun q h1 h2 => by rw [hU]; exact k5.2.1 q h1 h2) hin⟩
  exact (((k7 k hk).kept (H1 := U.heap) (fun a h1 h2 => by rw [hU]; exact k5.2.1 a h1 h2)).moved hvm).narrow hin
theorem good_cons (hTs : ∀ w ∈ Ts, goodWord w = true) {w : Cond} (hw : w ∈ Ts) : GoodIn Ts (w :: Ts) := by
  intro v hv
  rcases List.mem_cons.mp hv with rfl | hv
  · exact ⟨hw, good_of_word (hTs _ hw)⟩
  · exact ⟨hv, good_of_word (hTs _ hv)⟩
set_option maxHeartbeats 2000000 in
theorem sd_call (hTs : ∀ w ∈ Ts, goodWord w = true) (hSX : SXok l Ts Nw AO g sp mY mC SX) (hc : CX Ts g mY mC mid p m c s args meth) (hW : Wd D cl nm g al cy sp A z s H locs) (hE : SX A s)
    {i : Instr} {L S as rest : List Value} {cm d : Nat} {r : Option Value × SS} (hcall : isCall g mid pc i S z cm as rest) (hd : decode (mC mid) pc = .ok (i, 3)) (hQ : okQ Ts Nw cl g mY mC rT (mY mid).cls mid pc i)
    (hgo : GoesW l D cl nm g sp Ts mY mC SX d cm (0, mkL (g.2.2.2.2.1 cm).1 as, [], z) r) (hlen : (as.flatMap unL).length ≤ (g.2.2.2.2.1 cm).1) (hL : LR al sp L ls (g.2.2.2.2.1 mid).1) (hv : VO z.1 L S)
    (hfr : d + 11 ≤ R.frames) (hlo : (d + 11) * 60 ≤ R.locals) (hce : cells + (r.2.1 - z.1) ≤ R.cells) (hsl : slots + (r.2.2.1 - z.2.1) ≤ R.slots)
    (kk : ∀ (al' : Nat → Nat) (cy' : Nat → ClassId) (H1 : Heap) (locs1 : List Loc), ext z.1 al cy al' cy' → Wd D cl nm g al' cy' sp A r.2 s H1 locs1 → (∀ v, r.1 = some v → vOK r.2.1 v) → (∀ v ∈ rest, v ∈ S) →
      W p l e R s m args below meth c H1 locs1 (cells + (r.2.1 - z.1)) (slots + (r.2.2.1 - z.2.1)) Q (F0 m (pc + 3) ls ((r.1.toList ++ rest).map (tV al' sp)))) :
    W p l e R s m args below meth c H locs cells slots Q (F0 m pc ls (S.map (tV al sp))) := by
  obtain ⟨hx, hb, hml, hown, hts, hlk, hnm⟩ := hc
  obtain ⟨q0, rfl, hr4, hS⟩ := hcall
  have hin : ∀ q, AX g al cy z H.size q → A q := fun q h => AX_in hW h
  have hnw := (hSX.2.2.1 A s hE).1
  have hW0 := hW
  obtain ⟨k1, k2, k3, k4, k5, k6, k7, k8⟩ := hW
  -- behind the call
  have after : (∀ v ∈ rest, v ∈ S) → ∀ (v : Option Value) (t : State) (H1 : Heap) (locs1 : List Loc), t.heap = H1 → s.vm.Alike t.vm → PM D cl nm g sp al cy z H.size r v t → va_S A s.heap H1 locs1 → W p l e R s m args below meth c H1 locs1 (cells + (r.2.1 - z.1)) (slots + (r.2.2.1 - z.2.1)) Q (F0 m (pc + 3) ls (v.toList ++ rest.map (tV al sp))) := by
    intro hrest v t H1 locs1 ht hvm hpm hS1
    obtain ⟨al', cy', hext, rfl, ka, hP', hD', hWF', hvo'⟩ := hpm
    have hvm' := hvm.symm
    have k := kk al' cy' H1 locs1 hext ⟨k1, fun c hc h => ⟨arrOfT_moved hvm' (ka c hc h).1, (ka c hc h).2.moved hvm'⟩, by rw [← ht]; exact hP', hD'.weaken (fun _ q _ h => hin _ h), hS1, k6, k7, hWF'⟩ hvo' hrest
    rw [List.map_append, map_ext hext (S := rest) (fun v hv1 => hv.2 v (hrest v hv1))] at k
    have e1 : (r.1.map (tV al' sp)).toList = r.1.toList.map (tV al' sp) := by cases r.1 <;> rfl
    rw [e1]
    exact k
  have hroom : (((rest.map (tV al sp)).map fun v => v.category).sum) ≤ 8 := cat_sum4 hr4
  rcases hS with ⟨idx, rfl, hS, hn⟩ | ⟨idx, b0, as', hi, rfl, hS, hn, hb0, hkb⟩
  · obtain ⟨hM, hstat, hlink⟩ := hQ q0
    have hvo : ∀ v ∈ as, vOK z.1 v := fun v q => hv.2 v (by rw [hS]; exact List.mem_append_left _ (List.mem_reverse.mpr q))
    have hrest : ∀ v ∈ rest, v ∈ S := fun v q => by rw [hS]; exact List.mem_append_right _ q
    have hMet := met_of l D cl nm g sp Ts mY mC rT SX hM hgo hlen hvo al cy H.size
    obtain ⟨hcode, h40, hplain, hcls, hini, hret⟩ := hM
    have hpre : PreS s H (PcM D cl nm g sp SX al cy z H.size as) (as.map (tV al sp)) := ⟨PcM_blind hSX, fun U hU hw => PcM_at hSX hW0 hE U hU hw⟩
    have hstk : (F0 m pc ls (S.map (tV al sp))).stack = (as.map (tV al sp)).reverse ++ rest.map (tV al sp) := by
      show S.map (tV al sp) = _
      rw [hS, List.map_append, List.map_reverse]
    have hR : d + 10 + 1 ≤ R.frames ∧ 8 + ((g.2.2.2.2.1 (g.2.1 mid pc).1).1 + 11) + (d + 10) * 60 ≤ R.locals := ⟨by omega, by omega⟩
    rcases hlink with hlink | ⟨host, hlink⟩
    · exact va_callg (va_runS (As := as.map (tV al sp)) (rest := rest.map (tV al sp)) ⟨hx, hb, hml, hown, hts⟩ hMet ⟨callB_of _ hts (good_cons hTs hcode) rfl rfl rfl (hts _ hini) (hts _ hlink) hcls hR, hts _ hstat⟩ hpre rfl (by rw [List.length_map]; exact hn) hL.1 hstk (lv_room hroom) hd ⟨hce, hsl⟩) k5 (fun q _ h => hin q h) hin (after hrest)
    · exact va_callg (va_runSN (As := as.map (tV al sp)) (rest := rest.map (tV al sp)) ⟨hx, hb, hml, hown, hts⟩ hMet ⟨va_cnB _ hts (good_cons hTs hcode) rfl rfl rfl (hnw _ hlink #[]) (hts _ hini) hcls hR, hts _ hstat, trivial⟩ hpre rfl (by rw [List.length_map]; exact hn) hL.1 hstk (lv_room hroom) hd ⟨hce, hsl⟩) k5 (fun q _ h => hin q h) hin (after hrest)
  · have hvo : ∀ v ∈ (Value.ref b0 :: as'), vOK z.1 v := fun v q => by
      rcases List.mem_cons.mp q with rfl | q
      · exact hb0
      · exact hv.2 v (by rw [hS]; exact List.mem_append_left _ (List.mem_reverse.mpr q))
    have hrest : ∀ v ∈ rest, v ∈ S := fun v q => by rw [hS]; exact List.mem_append_right _ (List.mem_cons_of_mem _ q)
    have hstk : (F0 m pc ls (S.map (tV al sp))).stack = (as'.map (tV al sp)).reverse ++ .ref (al b0) :: rest.map (tV al sp) := by
      show S.map (tV al sp) = _
      rw [hS, List.map_append, List.map_reverse]
      rfl
    rcases hi with rfl | rfl
    · obtain ⟨hM, hinst, hlink, h100, q, hq1, hq2, hsel⟩ := hQ q0
      have hMet := met_of l D cl nm g sp Ts mY mC rT SX hM hgo hlen hvo al cy H.size
      obtain ⟨hcode, h40, hplain, hcls, hini, hret⟩ := hM
      have hR : d + 10 + 1 ≤ R.frames ∧ 8 + ((g.2.2.2.2.1 (g.2.1 mid pc).1).1 + 11) + (d + 10) * 60 ≤ R.locals := ⟨by omega, by omega⟩
      have he := wl_get (f := fun c => (al c, cE g.2.2.2.2.2.1 al cy z c)) hb0
      rw [cE_obj (ci := (g.2.1 mid pc).2.2.1) (N := (z.2.2.1 b0).2) (by rw [← hkb]) h100] at he
      have hpre : PreV s H q.1 (al b0) (PcM D cl nm g sp SX al cy z H.size (.ref b0 :: as')) (as'.map (tV al sp)) := ⟨PcM_blind hSX, va_recv k1 k3 hq1 he, fun U hU hw => PcM_at hSX hW0 hE U hU hw⟩
      rcases hlink with hlink | ⟨host, hlink⟩
      · exact va_callg (va_runV (As := as'.map (tV al sp)) (rest := rest.map (tV al sp)) ⟨hx, hb, hml, hown, hts⟩ hMet ⟨callB_of _ hts (good_cons hTs hcode) rfl rfl rfl (hts _ hini) (hts _ hlink) hcls hR, hts _ hinst, hts _ hsel⟩ hpre rfl (by rw [List.length_map]; exact hn) hL.1 hstk (lv_room hroom) hd ⟨hce, hsl⟩) k5 (fun q _ h => hin q h) hin (after hrest)
      · exact va_callg (va_runVN (As := as'.map (tV al sp)) (rest := rest.map (tV al sp)) ⟨hx, hb, hml, hown, hts⟩ hMet ⟨va_cnB _ hts (good_cons hTs hcode) rfl rfl rfl (hnw _ hlink #[]) (hts _ hini) hcls hR, hts _ hinst, hts _ hsel⟩ hpre rfl (by rw [List.length_map]; exact hn) hL.1 hstk (lv_room hroom) hd ⟨hce, hsl⟩) k5 (fun q _ h => hin q h) hin (after hrest)
    · obtain ⟨hM, hinst, hlink, hrt, hnm0⟩ := hQ q0
      have hMet := met_of l D cl nm g sp Ts mY mC rT SX hM hgo hlen hvo al cy H.size
      obtain ⟨hcode, h40, hplain, hcls, hini, hret⟩ := hM
      have hR : d + 10 + 1 ≤ R.frames ∧ 8 + ((g.2.2.2.2.1 (g.2.1 mid pc).1).1 + 11) + (d + 10) * 60 ≤ R.locals := ⟨by omega, by omega⟩
      have hpre : PreS s H (PcM D cl nm g sp SX al cy z H.size (.ref b0 :: as')) (.ref (al b0) :: as'.map (tV al sp)) := ⟨PcM_blind hSX, fun U hU hw => PcM_at hSX hW0 hE U hU hw⟩
      rw [hrt] at hMet hcode
      rcases hlink with hlink | ⟨host, hlink⟩
      · exact va_callg (va_runI (As := as'.map (tV al sp)) (rest := rest.map (tV al sp)) ⟨hx, hb, hml, hown, hts⟩ hMet ⟨callB_of _ hts (good_cons hTs hcode) rfl rfl rfl (hts _ hini) (hts _ hlink) hcls hR, hnm0, hts _ hinst⟩ hpre rfl (by rw [List.length_map]; exact hn) hL.1 hstk (lv_room hroom) hd ⟨hce, hsl⟩) k5 (fun q _ h => hin q h) hin (after hrest)
      · exact va_callg (va_runIN (As := as'.map (tV al sp)) (rest := rest.map (tV al sp)) ⟨hx, hb, hml, hown, hts⟩ hMet ⟨va_cnB _ hts (good_cons hTs hcode) rfl rfl rfl (hnw _ hlink #[]) (hts _ hini) hcls hR, hnm0, hts _ hinst⟩ hpre rfl (by rw [List.length_map]; exact hn) hL.1 hstk (lv_room hroom) hd ⟨hce, hsl⟩) k5 (fun q _ h => hin q h) hin (after hrest)
end SD
