/-! getfield, putfield, the arrays: of the machine. -/
def okT (t : Nat) (ty : FieldType) : Prop := (t = 0 ∧ ty = .int) ∨ (t = 1 ∧ ty = .boolean) ∨ (t = 2 ∧ ty = .long) ∨ (t = 3 ∧ ((∃ n, ty = .object n) ∨ ∃ u, ty = .array u))
def okCl (Ts : List Cond) (ft : Nat → Nat → Nat) (cl : List vw_C) : Prop := ∀ (ci : Nat) (q : vw_C), cl[ci]? = some q → ci < 100 ∧ (∀ w ∈ u_ws q.1 q.2.1 q.2.2, w ∈ Ts) ∧ (∃ ty0 : Nat → FieldType, ∀ k, k < q.2.2 → parseFieldDescriptor (q.2.1 k).2.2.1 = some (ty0 k) ∧ okT (ft ci k) (ty0 k)) ∧ (∀ a, a < q.2.2 → ∀ b, b < q.2.2 → a ≠ b → (q.2.1 a).2.1 ≠ (q.2.1 b).2.1)
def okFd (Ts Nw : List Cond) (own : String) (idx : Nat) (T : u_T) (k : Nat) : Prop := Cond.fieldLink own idx (T k).1 (T k).2.1 (T k).2.2.1 ∈ Ts ∨ ∃ host, Cond.fieldLinkNest own idx (T k).1 (T k).2.1 (T k).2.2.1 host ∈ Nw
theorem fput_ty {t : Nat} {z z' : SS} {c k : Nat} {v : Value} {ty : FieldType} (al sp : Nat → Nat) (h : fput t z c k v = some z') (ht : okT t ty) : narrow ty (tV al sp v) = tV al sp v ∧ fits ty (tV al sp v) = true := by
  unfold fput at h
  split at h
  · rcases ht with ⟨-, rfl⟩ | ⟨q, -⟩ | ⟨q, -⟩ | ⟨q, -⟩
    · exact ⟨rfl, rfl⟩
    all_goals omega
  · rcases ht with ⟨q, -⟩ | ⟨-, rfl⟩ | ⟨q, -⟩ | ⟨q, -⟩
    · omega
    · split at h
      · rename_i hx
        rcases hx with rfl | rfl
        · exact ⟨rfl, rfl⟩
        · exact ⟨rfl, rfl⟩
      · cases h
    all_goals omega
  · rcases ht with ⟨q, -⟩ | ⟨q, -⟩ | ⟨-, rfl⟩ | ⟨q, -⟩
    · omega
    · omega
    · exact ⟨rfl, rfl⟩
    · omega
  · rcases ht with ⟨q, -⟩ | ⟨q, -⟩ | ⟨q, -⟩ | ⟨-, ⟨n, rfl⟩ | ⟨n, rfl⟩⟩
    · omega
    · omega
    · omega
    · exact ⟨rfl, rfl⟩
    · exact ⟨rfl, rfl⟩
  · cases h
section SD
variable {p : Program} {l : Launch} {e : Env} {R : Room} {s : State} {m : MethodId} {args : Array Value} {below : List Frame} {meth : Method} {c : Code} {H : Heap} {locs : List Loc} {cells slots : Nat} {Q : State → Prop} {cc : ByteArray}
variable {D : va_G} {cl : List vw_C} {nm : Nat → String} {g : PG} {al : Nat → Nat} {cy : Nat → ClassId} {sp : Nat → Nat} {A : Nat → Prop} {z : SS} {Ts Nw : List Cond} {own : String} {pc : Nat} {ls : Array Slot} {rest : List Value}
theorem sd_get (hW : Wd D cl nm g al cy sp A z s H locs) (hC : okCl Ts g.2.2.2.2.2.1 cl) (hx : p.tables.exec = Jvm.exec) (hb : c.code = cc) (hts : ∀ w ∈ Ts, w.before args s = true) (hnw : ∀ w ∈ Nw, w.before args s = true) (hown : s.vm.findClass own = some m.cls)
    {c0 ci k idx : Nat} {q : vw_C} (hc : c0 < z.1) (hk0 : (z.2.2.1 c0).1 = ci) (hcl : cl[ci]? = some q) (hk : k < q.2.2) (hl : okFd Ts Nw own idx q.2.1 k) (hd : decode cc pc = .ok (.getfield idx, 3))
    (kk : W p l e R s m args below meth c H locs cells slots Q (F0 m (pc + 3) ls (tV al sp (fget (g.2.2.2.2.2.1 ci k) z c0 k) :: rest))) : W p l e R s m args below meth c H locs cells slots Q (F0 m pc ls (.ref (al c0) :: rest)) := by
  obtain ⟨C, T, N⟩ := q
  obtain ⟨h100, hin, -, -⟩ := hC ci _ hcl
  obtain ⟨k1, -, hP, -, -, -, -, hF⟩ := hW
  obtain ⟨q', e1, e2⟩ := hF.2.2 c0 hc (by omega)
  rw [hk0, hcl] at e1
  cases e1
  have hK : z.2.2.1 c0 = (ci, N) := by rw [← hk0]; exact Prod.ext rfl e2.symm
  have he : (wW g.2.2.2.2.2.1 al cy z)[c0]? = some (al c0, .inr (ci, (List.range N).map (fun k => fV (g.2.2.2.2.2.1 ci k) al z c0 k))) := by
    rw [wl_get hc, cE_obj hK h100]
  have hv : ((List.range N).map (fun k => fV (g.2.2.2.2.2.1 ci k) al z c0 k))[k]? = some (tV al sp (fget (g.2.2.2.2.2.1 ci k) z c0 k)) := by
    rw [List.getElem?_map, List.getElem?_range hk]
    exact congrArg some (fV_tV _ _ _ _ _ _)
  rcases hl with h | ⟨host, h⟩
  · exact va_get hx hb hts hin hown k1 hP c0 he hcl k hk (hts _ h) (fun _ q => q) hv hd kk
  · exact va_getN hx hb hts hin hown k1 hP c0 he hcl k hk (hnw _ h) (fun _ q => q) hv hd kk
theorem sd_put (hW : Wd D cl nm g al cy sp A z s H locs) (hC : okCl Ts g.2.2.2.2.2.1 cl) (hx : p.tables.exec = Jvm.exec) (hb : c.code = cc) (hts : ∀ w ∈ Ts, w.before args s = true) (hnw : ∀ w ∈ Nw, w.before args s = true) (hown : s.vm.findClass own = some m.cls)
    {c0 ci k idx : Nat} {q : vw_C} {v : Value} {z' : SS} (hc : c0 < z.1) (hk0 : (z.2.2.1 c0).1 = ci) (hcl : cl[ci]? = some q) (hk : k < q.2.2) (hl : okFd Ts Nw own idx q.2.1 k) (hfin : (q.2.1 k).2.2.2 = false ∨ (q.2.1 k).2.2.2 = true ∧ meth.name = "<init>" ∧ (q.2.1 k).1 = own ∧ Cond.fieldLink own idx (q.2.1 k).1 (q.2.1 k).2.1 (q.2.1 k).2.2.1 ∈ Ts)
    (hf : fput (g.2.2.2.2.2.1 ci k) z c0 k v = some z') (hd : decode cc pc = .ok (.putfield idx, 3))
    (kk : ∀ (H1 : Heap) (locs1 : List Loc), Wd D cl nm g al cy sp A z' s H1 locs1 → W p l e R s m args below meth c H1 locs1 cells slots Q (F0 m (pc + 3) ls rest)) : W p l e R s m args below meth c H locs cells slots Q (F0 m pc ls (tV al sp v :: .ref (al c0) :: rest)) := by
  obtain ⟨C, T, N⟩ := q
  obtain ⟨h100, hin, ⟨ty0, hty⟩, hnm⟩ := hC ci _ hcl
  have hW0 := hW
  obtain ⟨k1, -, hP, hD, hS, -, -, hF⟩ := hW
  obtain ⟨q', e1, e2⟩ := hF.2.2 c0 hc (by omega)
  rw [hk0, hcl] at e1
  cases e1
  have hK : z.2.2.1 c0 = (ci, N) := by rw [← hk0]; exact Prod.ext rfl e2.symm
  have he : (wW g.2.2.2.2.2.1 al cy z)[c0]? = some (al c0, .inr (ci, (List.range N).map (fun k => fV (g.2.2.2.2.2.1 ci k) al z c0 k))) := by
    rw [wl_get hc, cE_obj hK h100]
  have hlen : k < ((List.range N).map (fun k => fV (g.2.2.2.2.2.1 ci k) al z c0 k)).length := by simp; exact hk
  have h1 := fput_one hf
  obtain ⟨h2, h3⟩ := fput_fV al sp hf
  have hK' : z'.2.2.1 c0 = (ci, N) := by rw [h1.2.2.1]; exact hK
  have hev : cE g.2.2.2.2.2.1 al cy z' c0 = .inr (ci, ((List.range N).map (fun k => fV (g.2.2.2.2.2.1 ci k) al z c0 k)).set k (tV al sp v)) := by
    rw [cE_obj hK' h100, map_set_range hk (f' := fun k => fV (g.2.2.2.2.2.1 ci k) al z' c0 k) h2 (fun j _ hj => h3 _ j hj)]
  obtain ⟨hn, hfit⟩ := fput_ty al sp hf (hty k hk).2
  have hWF := fput_WF hF (by omega) hf
  rcases hfin with hfin | ⟨hfin, hinit, hdecl, hlk⟩
  · rcases hl with h | ⟨host, h⟩
    · exact va_put hx hb hts hin ty0 (fun k hk => (hty k hk).1) hnm hown k1 hP hD hS c0 he hcl k hk (hts _ h) (fun _ q => q) hfin (hty k hk).1 hn hfit hlen hd (fun H1 locs1 a1 a2 a3 => kk H1 locs1 (hW0.wr h1 hc hev hWF a1 a2 a3))
    · exact va_putN hx hb hts hin ty0 (fun k hk => (hty k hk).1) hnm hown k1 hP hD hS c0 he hcl k hk (hnw _ h) (fun _ q => q) hfin (hty k hk).1 hn hfit hlen hd (fun H1 locs1 a1 a2 a3 => kk H1 locs1 (hW0.wr h1 hc hev hWF a1 a2 a3))
  · exact va_putF hx hb hts hin ty0 (fun k hk => (hty k hk).1) hnm hown k1 hP hD hS c0 he hcl k hk (hts _ hlk) (fun _ q => q) hfin hinit hdecl (hty k hk).1 hn hfit hlen hd (fun H1 locs1 a1 a2 a3 => kk H1 locs1 (hW0.wr h1 hc hev hWF a1 a2 a3))
theorem Wd.KA (hW : Wd D cl nm g al cy sp A z s H locs) {c0 : Nat} (hc : c0 < z.1) (h : 100 ≤ (z.2.2.1 c0).1) {ty : FieldType} (ht : aT nm (z.2.2.1 c0).1 = ty) : va_K D cl [(cy c0, ty)] s := by
  subst ht
  refine ⟨hW.1.1, fun k q hk => ?_⟩
  match k with
  | 0 => cases hk; exact hW.2.1 c0 hc h
  | n + 1 => simp at hk
theorem Wd.len (hW : Wd D cl nm g al cy sp A z s H locs) (hx : p.tables.exec = Jvm.exec) (hb : c.code = cc) {c0 : Nat} (hc : c0 < z.1) (h : 100 ≤ (z.2.2.1 c0).1) (hd : decode cc pc = .ok (.arraylength, 1))
    (kk : W p l e R s m args below meth c H locs cells slots Q (F0 m (pc + 1) ls (.int (nI (z.2.2.1 c0).2) :: rest))) : W p l e R s m args below meth c H locs cells slots Q (F0 m pc ls (.ref (al c0) :: rest)) := by
  have hK := hW.KA hc h rfl
  obtain ⟨-, -, hP, -⟩ := hW
  have he := wl_get (f := fun c => (al c, cE g.2.2.2.2.2.1 al cy z c)) hc
  by_cases q1 : (z.2.2.1 c0).1 = 103
  · rw [cE_long q1] at he
    exact va_alen hx hb hK hP c0 0 he rfl rfl hd kk
  · by_cases q2 : 200 ≤ (z.2.2.1 c0).1
    · rw [cE_ref q2] at he
      exact va_alen hx hb hK hP c0 0 he rfl rfl hd kk
    · have : cE g.2.2.2.2.2.1 al cy z c0 = .inl (cy c0, (z.2.2.1 c0).2, .inl (z.2.2.2.1 c0)) := by
        unfold cE; rw [if_neg (by omega), if_neg q1, if_neg q2]
      rw [this] at he
      exact va_alen hx hb hK hP c0 0 he rfl rfl hd kk
end SD
