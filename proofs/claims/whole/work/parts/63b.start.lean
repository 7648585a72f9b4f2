/-- the world at the start: nothing made yet -/
theorem start {p : Program} {s : State} {m : MethodId} {meth : Method} {c : Code} {b L : Nat} {xs : Nat → Int32} (C0 : lw_At p s m meth c b L xs) (hLL : L < 2 ^ 31) :
    ∃ (D : va_G) (sp : Nat → Nat) (sv : Nat), sp 0 = b ∧ Wd D vwCl nm0 (GW L xs) (fun _ => 0) (fun _ => 0) sp (fun q => s.heap.size ≤ q) z0 s s.heap [] ∧ SX0 sp sv (fun q => s.heap.size ≤ q) s := by
  obtain ⟨hx, hb, hr, hml, hown, hts, hX, hbl, hlocks, hgv⟩ := C0
  have hfl := flat_of_before _ hgv
  have hA : ∀ a : Nat, a < s.heap.size → ¬ (fun q : Nat => s.heap.size ≤ q) a := fun a h => Nat.not_le.mpr h
  have hw : ∀ w ∈ [Cond.laysStatic "WordlessSigns" "PLACE_GAPS" "[I", Cond.initialized "WordlessSigns", Cond.laysStatic "java/lang/String" "COMPACT_STRINGS" "Z", Cond.initialized "java/lang/String", Cond.stringRef "WordlessSigns$Parser" 114 txt0, Cond.arrayOver (.object "WordlessSigns$Grammar")], w.before #[Value.ref b] s = true := fun w q => hts w (tb_start w q)
  obtain ⟨g0, hg0, hgT⟩ := va_Tof (f := fun j => .int (gaps.getD j 0)) (A := fun q => s.heap.size ≤ q) (by omega) (hfl _ at_gapsA) (va_eqt (hfl _ at_gapsL)) (fun j hj => va_eqt (hfl _ (at_gaps j hj))) hA
  have hgZ := va_Zof (A := fun q => s.heap.size ≤ q) (hw _ (by simp)) (hw _ (by simp)) hg0 hA
  have hcZ := va_Zof (C := "java/lang/String") (A := fun q => s.heap.size ≤ q) (hw (Cond.laysStatic "java/lang/String" "COMPACT_STRINGS" "Z") (by simp)) (hw (Cond.initialized "java/lang/String") (by simp)) (va_eqt (hfl _ at_cs)) hA
  have i0 : ∀ i : Nat, i < 1 → i = 0 := fun i h => by omega
  obtain ⟨adK, adV, hvS, hvE⟩ := vk_Sof (N := 1) (tm := fun _ => gTX) (len := [94]) (byt := [wordsT]) (A := fun q => s.heap.size ≤ q) (args := #[Value.ref b]) (s := s) (fun i hi => by rw [i0 i hi]; decide) (fun _ _ => hfl _ at_txE) (fun _ _ => hfl _ at_txC) (fun _ _ => hfl _ at_txA) (fun i hi => by rw [i0 i hi]; exact hfl _ at_txL) (fun i hi j hj => by rw [i0 i hi] at hj ⊢; exact hfl _ (at_tx j hj)) (fun i j hi hj hne => absurd ((i0 i hi).trans (i0 j hj).symm) hne) hA
  have hK : ∀ ci : Nat, ∃ x : ClassId × (Nat → Nat), ∀ q : vw_C, vwCl[ci]? = some q → u_Kn s q.1 q.2.1 q.2.2 x.1 x.2 := by
    intro ci
    cases hq : vwCl[ci]? with
    | none => exact ⟨(0, fun _ => 0), fun q h => by cases h⟩
    | some q =>
      obtain ⟨-, h2, -⟩ := okCl0 ci q hq
      obtain ⟨cC, iS, h⟩ := u_known (n := q.2.2) hts (fun w hw => (List.mem_filter.mp (h2 w hw)).1) (hts _ (tb_inst (q.1, q.2.2) (List.mem_map.mpr ⟨q, List.mem_of_getElem? hq, rfl⟩)))
      exact ⟨(cC, iS), fun q' h' => by cases h'; exact h⟩
  obtain ⟨fK, hfK⟩ := Classical.axiomOfChoice hK
  obtain ⟨o1, o2, o3, o4⟩ := hvS.1 0 (by omega)
  refine ⟨(fun k => (fK k).1, fun k => (fK k).2), fun k => if k = 0 then b else if k = 1 then g0 else adK 0, adV 0, rfl, ⟨⟨fun k q h => hfK k q h, fun k q h => by simp at h⟩, fun c hc => absurd hc (Nat.not_lt_zero _), fun k q h => ?_, ⟨fun i j p q h => ?_, fun k q h => ?_⟩, va_S.rf, fun _ h => h, fun k hk => ?_, ⟨fun c _ _ hc => absurd hc (Nat.not_lt_zero _), fun c _ hc => absurd hc (Nat.not_lt_zero _), fun c hc => absurd hc (Nat.not_lt_zero _)⟩⟩, fun w hw => va_Nw.of (Nw0_tab hw) (hts w (List.mem_filter.mp hw).1), va_AO.of (hw _ (by simp)), hgZ, vk_R.of (A := #[Value.ref b]) (hw (Cond.stringRef "WordlessSigns$Parser" 114 txt0) (by simp)) (hvE 0 (by omega)), o1, o2, o3, o4, hcZ⟩
  · exact absurd (wl_some h).1 (Nat.not_lt_zero _)
  · exact absurd (wl_some h).1 (Nat.not_lt_zero _)
  · exact absurd (wl_some h).1 (Nat.not_lt_zero _)
  · match k, hk with
    | 0, _ =>
      obtain ⟨scr, x1, x2, x3, x4, x5⟩ := hX
      exact ⟨scr, x1, x2, x3, Nat.le_of_eq x4.symm, by rw [x4]; rfl, x5, hA b hbl⟩
    | 1, _ => exact hgT
/-- the claim's walk, out of a run of the small machine that ends with 1 -/
theorem whole_from {p : Program} {e : Env} {s : State} {m : MethodId} {below : List Frame} {meth : Method} {c : Code} (l : Launch) {b L : Nat} {xs : Nat → Int32} (hL : L ≤ 3072) (hstr : ∀ (sp : Nat → Nat) (sv : Nat), STR l L xs sp sv) {f d : Nat} {z : SS} (hd : d ≤ 1000) (hrun : RR (GW L xs) f d 302 (0, mkL 4 [.retAddr 0], [], z0) = some (some (.int 1), z)) (hn : z.1 ≤ 600000) (hu : z.2.1 ≤ 7302249) (C0 : lw_At p s m meth c b L xs) :
    W p l e room_1 s m #[Value.ref b] below meth c s.heap [] 0 0 (lw_Z below #[Value.ref b] s) (entryFrame m ([Value.ref b] : List Value).toArray 4) := by
  obtain ⟨D, sp, sv, hsp, hWd, hE⟩ := start C0 (by omega)
  obtain ⟨hx, hb, hr, hml, hown, hts, hX, hbl, hlocks, hgv⟩ := C0
  have hgo := sound (l := l) (D := D) (sp := sp) (GOOD0 L xs) (SX0_ok (hstr sp sv)) f d 302 _ _ hrun
  rw [lg_entry_eq]
  have hLR : LR (fun _ => 0) sp (mkL 4 [.retAddr 0]) ((lg_sl ([Value.ref b]) ++ List.replicate (4 - (lg_sl ([Value.ref b])).length) Slot.unset).toArray) 4 := by
    have := LR_entry (al := fun _ => 0) (sp := sp) (n := 4) (as := [.retAddr 0]) (by decide)
    have e0 : ([Value.retAddr 0].map (tV (fun _ => 0) sp)) = [Value.ref b] := by
      show [Value.ref (sp 0)] = _
      rw [hsp]
    rw [e0] at this
    exact this
  refine hgo p e room_1 s m _ below meth c s.heap [] 0 0 _ _ (fun _ => 0) (fun _ => 0) (fun q => s.heap.size ≤ q) ⟨hx, hb, hml, hown, fun w hw => hts w (List.mem_filter.mp hw).1, hlocks, fun q => absurd q (by decide)⟩ ?_ ?_ ?_ ?_ hWd hE hLR (VO_entry (fun v hv => by rw [List.mem_singleton.mp hv]; trivial)) ?_
  · show d + 10 ≤ 2048; omega
  · show (d + 10) * 60 ≤ 84000; omega
  · show 0 + (z.1 - 0) ≤ 600000; omega
  · show 0 + (z.2.1 - 0) ≤ 7302249; omega
  · intro al' cy' H1 locs1 pc' ls' hext hW1 hrk hvk hdec
    refine va_forget (fun q hq => hW1.2.2.2.2.1.2.2 q hq) ?_
    refine W.widen (k := 600000) (n := 7302249) (by show 0 + (z.1 - 0) ≤ 600000; omega) (by show 0 + (z.2.1 - 0) ≤ 7302249; omega) ?_
    exact lw_ret hx hb hr hlocks hdec
