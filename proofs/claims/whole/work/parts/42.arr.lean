/-! The arrays: of the machine. -/
def aI (ty : Nat) : Instr := match ty with
  | 0 => .iaload
  | 1 => .baload
  | 2 => .laload
  | _ => .aaload
def sI (ty : Nat) : Instr := match ty with
  | 0 => .iastore
  | 1 => .bastore
  | 2 => .lastore
  | _ => .aastore
theorem upd_up2 (f : Nat → Nat → Int32) (c k : Nat) (v : Int32) : up2 f c k v c = upd (f c) k v := up2_same f c k v
theorem nar_bool {x : Int32} (h : x = 0 ∨ x = 1) : vp_nar .boolean x = x := by
  rcases h with rfl | rfl <;> rfl
section SD
variable {p : Program} {l : Launch} {e : Env} {R : Room} {s : State} {m : MethodId} {args : Array Value} {below : List Frame} {meth : Method} {c : Code} {H : Heap} {locs : List Loc} {cells slots : Nat} {Q : State → Prop} {cc : ByteArray}
variable {D : va_G} {cl : List vw_C} {nm : Nat → String} {g : PG} {al : Nat → Nat} {cy : Nat → ClassId} {sp : Nat → Nat} {A : Nat → Prop} {z : SS} {Ts : List Cond} {own : String} {pc : Nat} {ls : Array Slot} {rest : List Value}
theorem sd_ald (hW : Wd D cl nm g al cy sp A z s H locs) (hx : p.tables.exec = Jvm.exec) (hb : c.code = cc) {ty : Nat} {L S : List Value} {o : Cfg} (hd : decode cc pc = .ok (aI ty, 1)) (h : ald g ty pc L S z = some (.inl o))
    (kk : ∀ (v : Value) (r : List Value), o = (pc + 1, L, v :: r, z) → (∃ i x, S = i :: x :: r) → vOK z.1 v → W p l e R s m args below meth c H locs cells slots Q (F0 m (pc + 1) ls ((v :: r).map (tV al sp)))) :
    W p l e R s m args below meth c H locs cells slots Q (F0 m pc ls (S.map (tV al sp))) := by
  have hW0 := hW
  obtain ⟨k1, k2, hP, hD, hS, -, hX, hF⟩ := hW
  unfold ald at h
  split at h
  · rename_i i c0 r
    split at h
    · cases h
    · rename_i hin
      split at h
      · rename_i hc
        have he := wl_get (f := fun c => (al c, cE g.2.2.2.2.2.1 al cy z c)) hc
        split at h
        · split at h
          · rename_i hk
            cases h
            rw [cE_int (Or.inl hk)] at he
            exact va_iald hx hb (hW0.KA hc (by omega) (ty := .int) (by rw [hk]; rfl)) hP c0 0 he rfl hin hd (kk _ _ rfl ⟨_, _, rfl⟩ trivial)
          · cases h
        · split at h
          · rename_i hk
            cases h
            rw [cE_int (Or.inr hk)] at he
            rcases hk with hk | hk
            · exact va_zald hx hb (hW0.KA hc (by omega) (ty := .boolean) (by rw [hk]; rfl)) hP c0 0 he rfl hin hd (kk _ _ rfl ⟨_, _, rfl⟩ trivial)
            · exact va_bald hx hb (hW0.KA hc (by omega) (ty := .byte) (by rw [hk]; rfl)) hP c0 0 he rfl hin hd (kk _ _ rfl ⟨_, _, rfl⟩ trivial)
          · cases h
        · split at h
          · rename_i hk
            cases h
            rw [cE_long hk] at he
            exact va_lald hx hb (hW0.KA hc (by omega) (ty := .long) (by rw [hk]; rfl)) hP c0 0 he rfl hin hd (kk _ _ rfl ⟨_, _, rfl⟩ trivial)
          · cases h
        · rename_i n1 n2 n3
          have hd : decode cc pc = .ok (.aaload, 1) := by
            rw [hd]
            match ty, n1, n2, n3 with
            | 0, n1, _, _ => exact absurd rfl n1
            | 1, _, n2, _ => exact absurd rfl n2
            | 2, _, _, n3 => exact absurd rfl n3
            | n + 3, _, _, _ => rfl
          split at h
          · rename_i hk
            cases h
            rw [cE_ref hk] at he
            have hobj : aT nm (z.2.2.1 c0).1 = .object (nm ((z.2.2.1 c0).1 - 200)) := by
              unfold aT; split <;> first | omega | rfl
            have hv : vOK z.1 (rfv (z.2.2.2.2.2 c0 i.toNatClampNeg)) := by
              unfold rfv vOK
              cases hq : z.2.2.2.2.2 c0 i.toNatClampNeg with
              | none => exact trivial
              | some c' => exact hF.1 _ _ _ hc hq
            have kk := kk _ _ rfl ⟨_, _, rfl⟩ hv
            have hr : tV al sp (rfv (z.2.2.2.2.2 c0 i.toNatClampNeg)) = va_rf ((z.2.2.2.2.2 c0 i.toNatClampNeg).map al) := by
              cases z.2.2.2.2.2 c0 i.toNatClampNeg <;> rfl
            rw [List.map_cons, hr] at kk
            exact va_aldq hx hb (hW0.KA hc (by omega) (ty := .object _) hobj) hP c0 0 he rfl hin hd kk
          · cases h
      · cases h
  · rename_i i k r
    split at h
    · cases h
    · rename_i hin
      split at h
      · rename_i hk
        obtain ⟨hk, rfl⟩ := hk
        cases h
        exact va_ti hx hb (hX k hk) hS hin rfl hd (kk _ _ rfl ⟨_, _, rfl⟩ trivial)
      · cases h
  · cases h
theorem sd_ast (hW : Wd D cl nm g al cy sp A z s H locs) (hC : okCl Ts g.2.2.2.2.2.1 cl) (hN : ∀ (ci : Nat) (q : vw_C), cl[ci]? = some q → nm ci = q.1) (hx : p.tables.exec = Jvm.exec) (hb : c.code = cc) {ty : Nat} {L S : List Value} {o : Cfg} (hd : decode cc pc = .ok (sI ty, 1)) (h : ast ty pc L S z = some (.inl o))
    (kk : ∀ (z' : SS) (r : List Value) (H1 : Heap) (locs1 : List Loc), z'.1 = z.1 → z'.2.1 = z.2.1 → o = (pc + 1, L, r, z') → (∃ v i x, S = v :: i :: x :: r) → Wd D cl nm g al cy sp A z' s H1 locs1 → W p l e R s m args below meth c H1 locs1 cells slots Q (F0 m (pc + 1) ls (r.map (tV al sp)))) :
    W p l e R s m args below meth c H locs cells slots Q (F0 m pc ls (S.map (tV al sp))) := by
  have hW0 := hW
  obtain ⟨k1, k2, hP, hD, hS, -, hX, hF⟩ := hW
  unfold ast at h
  split at h
  · rename_i x i c0 r
    split at h
    · cases h
    · rename_i hin
      split at h
      · rename_i hc
        have he := wl_get (f := fun c => (al c, cE g.2.2.2.2.2.1 al cy z c)) hc
        have hnew : ∀ v, (z.2.2.1 c0).1 = 100 ∨ (z.2.2.1 c0).1 = 101 ∨ (z.2.2.1 c0).1 = 102 → cE g.2.2.2.2.2.1 al cy (setI z c0 i.toNatClampNeg v) c0 = .inl (cy c0, (z.2.2.1 c0).2, .inl (upd (z.2.2.2.1 c0) i.toNatClampNeg v)) := fun v hk => by
          rw [cE_int (z := setI z c0 i.toNatClampNeg v) hk, ← upd_up2]; rfl
        split at h
        · split at h
          · rename_i hk
            cases h
            rw [cE_int (Or.inl hk)] at he
            exact va_iast hx hb (hW0.KA hc (by omega) (ty := .int) (by rw [hk]; rfl)) hP hD hS c0 0 he rfl hin hd (fun H1 l1 a1 a2 a3 => kk (setI z c0 i.toNatClampNeg x) _ H1 l1 rfl rfl rfl ⟨_, _, _, rfl⟩ (hW0.wr (one_I _ _ _ _) hc (hnew x (Or.inl hk)) (WF_I hF (fun q => by omega)) a1 a2 a3))
          · cases h
        · split at h
          · rename_i hk
            split at h
            · rename_i hx01
              cases h
              rw [cE_int (Or.inr (Or.inl hk))] at he
              exact va_zast hx hb (hW0.KA hc (by omega) (ty := .boolean) (by rw [hk]; rfl)) hP hD hS c0 0 he rfl hin hd (fun H1 l1 a1 a2 a3 => kk (setI z c0 i.toNatClampNeg x) _ H1 l1 rfl rfl rfl ⟨_, _, _, rfl⟩ (hW0.wr (one_I _ _ _ _) hc (by rw [nar_bool hx01]; exact hnew x (Or.inr (Or.inl hk))) (WF_I hF (fun q => hx01)) a1 a2 a3))
            · cases h
          · split at h
            · rename_i hk
              cases h
              rw [cE_int (Or.inr (Or.inr hk))] at he
              exact va_bast hx hb (hW0.KA hc (by omega) (ty := .byte) (by rw [hk]; rfl)) hP hD hS c0 0 he rfl hin hd (fun H1 l1 a1 a2 a3 => kk (setI z c0 i.toNatClampNeg x.toInt8.toInt32) _ H1 l1 rfl rfl rfl ⟨_, _, _, rfl⟩ (hW0.wr (one_I _ _ _ _) hc (by rw [vp_nar_byte]; exact hnew _ (Or.inr (Or.inr hk))) (WF_I hF (fun q => by omega)) a1 a2 a3))
            · cases h
        · cases h
      · cases h
  · rename_i x i c0 r
    split at h
    · cases h
    · rename_i hin
      split at h
      · rename_i hk
        obtain ⟨hc, rfl, hk⟩ := hk
        cases h
        have he := wl_get (f := fun c => (al c, cE g.2.2.2.2.2.1 al cy z c)) hc
        rw [cE_long hk] at he
        refine va_last hx hb (hW0.KA hc (by omega) (ty := .long) (by rw [hk]; rfl)) hP hD hS c0 0 he rfl hin hd (fun H1 l1 a1 a2 a3 => kk (setJ z c0 i.toNatClampNeg x) _ H1 l1 rfl rfl rfl ⟨_, _, _, rfl⟩ (hW0.wr (one_J _ _ _ _) hc ?_ (WF_J hF) a1 a2 a3))
        rw [cE_long (z := setJ z c0 i.toNatClampNeg x) hk]
        show (Sum.inl (cy c0, (z.2.2.1 c0).2, .inr (.inl (up2 z.2.2.2.2.1 c0 i.toNatClampNeg x c0))) : va_E) = _
        rw [up2_same]; rfl
      · cases h
  · rename_i v i c0 r
    split at h
    · cases h
    · rename_i hin
      split at h
      · rename_i hk
        obtain ⟨hc, hv, rfl, hv1, hk⟩ := hk
        cases h
        have he := wl_get (f := fun c => (al c, cE g.2.2.2.2.2.1 al cy z c)) hc
        have he2 := wl_get (f := fun c => (al c, cE g.2.2.2.2.2.1 al cy z c)) hv
        rw [cE_ref (by omega)] at he
        rw [cE_obj (ci := (z.2.2.1 v).1) (N := (z.2.2.1 v).2) rfl hv1] at he2
        obtain ⟨q, e1, e2⟩ := hF.2.2 v hv hv1
        have hobj : aT nm (z.2.2.1 c0).1 = .object q.1 := by
          unfold aT; split <;> first | omega | (rw [hk, show 200 + (z.2.2.1 v).1 - 200 = (z.2.2.1 v).1 by omega, hN _ _ e1])
        refine va_astq hx hb (hW0.KA hc (by omega) (ty := .object q.1) hobj) hP hD hS c0 0 v (z.2.2.1 v).1 he rfl he2 e1 hin hd (fun H1 l1 a1 a2 a3 => kk (setP z c0 i.toNatClampNeg (some v)) _ H1 l1 rfl rfl rfl ⟨_, _, _, rfl⟩ (hW0.wr (one_P _ _ _ _) hc ?_ (WF_P hF hv) a1 a2 a3))
        rw [cE_ref (z := setP z c0 i.toNatClampNeg (some v)) (by show 200 ≤ (z.2.2.1 c0).1; omega)]
        have hfn : (fun k => (up2 z.2.2.2.2.2 c0 i.toNatClampNeg (some v) c0 k).map al) = va_up (fun k => (z.2.2.2.2.2 c0 k).map al) i.toNatClampNeg (some (al v)) := by
          funext k
          rw [up2_same]
          unfold va_up
          by_cases q : k = i.toNatClampNeg
          · simp only [q, if_true]; rfl
          · simp only [q, if_false]
        show (Sum.inl (cy c0, (z.2.2.1 c0).2, .inr (.inr (.inr (.inr (fun k => (up2 z.2.2.2.2.2 c0 i.toNatClampNeg (some v) c0 k).map al))))) : va_E) = _
        rw [hfn]
      · cases h
  · cases h
end SD
