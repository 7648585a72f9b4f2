section SD
variable {p : Program} {l : Launch} {e : Env} {R : Room} {s : State} {m : MethodId} {args : Array Value} {below : List Frame} {meth : Method} {c : Code} {H : Heap} {locs : List Loc} {cells slots : Nat} {Q : State → Prop} {cc : ByteArray}
variable {D : va_G} {cl : List vw_C} {nm : Nat → String} {g : PG} {al : Nat → Nat} {cy : Nat → ClassId} {sp : Nat → Nat} {A : Nat → Prop} {z : SS} {Ts : List Cond} {own : String} {pc : Nat} {ls : Array Slot} {rest : List Value}
theorem va_K.last {tys : List (ClassId × FieldType)} {cA : ClassId} {ty : FieldType} (h : va_K D cl (tys ++ [(cA, ty)]) s) : ArrOfT s cA ty ∧ va_RA s cA ty := h.2 tys.length (cA, ty) (by simp)
theorem allocK (z : SS) (kind len : Nat) : (alloc z kind len).2.2.1 z.1 = (kind, len) := upR_at _ _ _
theorem allocI (z : SS) (kind len : Nat) : (alloc z kind len).2.2.2.1 z.1 = (fun _ => 0) := upR_at _ _ _
theorem allocJ (z : SS) (kind len : Nat) : (alloc z kind len).2.2.2.2.1 z.1 = (fun _ => 0) := upR_at _ _ _
theorem allocP (z : SS) (kind len : Nat) : (alloc z kind len).2.2.2.2.2 z.1 = (fun _ => none) := upR_at _ _ _
theorem sd_newa (hW : Wd D cl nm g al cy sp A z s H locs) (hx : p.tables.exec = Jvm.exec) (hb : c.code = cc) {t : ArrayType} {kind : Nat} (ht : t = .int ∧ kind = 100 ∨ t = .boolean ∧ kind = 101 ∨ t = .byte ∧ kind = 102 ∨ t = .long ∧ kind = 103) (harr : (Cond.arrayClass (newarray.typeOf t)).before args s = true)
    {n : Int32} (hn : ¬ (n < 0 ∨ 100000 ≤ n.toNatClampNeg)) (hcells : cells + 1 ≤ R.cells) (hslots : slots + n.toNatClampNeg ≤ R.slots) (hd : decode cc pc = .ok (.newarray t, 2))
    (kk : ∀ (a : Nat) (cA : ClassId) (H1 : Heap) (locs1 : List Loc), Wd D cl nm g (upR al z.1 a) (upR cy z.1 cA) sp A (alloc z kind n.toNatClampNeg) s H1 locs1 → W p l e R s m args below meth c H1 locs1 (cells + 1) (slots + n.toNatClampNeg) Q (F0 m (pc + 2) ls (.ref a :: rest))) :
    W p l e R s m args below meth c H locs cells slots Q (F0 m pc ls (.int n :: rest)) := by
  have hW0 := hW
  obtain ⟨k1, k2, hP, hD, hS, k6, k7, k8⟩ := hW
  have h0 : ¬ n < 0 := fun q => hn (Or.inl q)
  have h1 : n.toNatClampNeg < 100000 := Nat.not_le.mp (fun q => hn (Or.inr q))
  have hI : ∀ {ty : FieldType} {kd : Nat} (q : Nat) (cA : ClassId) (H1 : Heap) (locs1 : List Loc), (kd = 100 ∨ kd = 101 ∨ kd = 102) → aT nm kd = ty → va_K D cl ([] ++ [(cA, ty)]) s → va_P D cl (wW g.2.2.2.2.2.1 al cy z ++ [(q, .inl (cA, n.toNatClampNeg, .inl (fun _ => 0)))]) H1 → va_D A (wW g.2.2.2.2.2.1 al cy z ++ [(q, .inl (cA, n.toNatClampNeg, .inl (fun _ => 0)))]) → va_S A s.heap H1 locs1 → Wd D cl nm g (upR al z.1 q) (upR cy z.1 cA) sp A (alloc z kd n.toNatClampNeg) s H1 locs1 := by
    intro ty kd q cA H1 locs1 hkd hty a0 a1 a2 a3
    refine hW0.add ?_ (fun _ => by rw [hty]; exact a0.last) (fun q => by omega) a1 a2 a3
    rw [cE_int (by rw [allocK]; exact hkd), allocK, allocI, upR_at]
  rcases ht with ⟨rfl, rfl⟩ | ⟨rfl, rfl⟩ | ⟨rfl, rfl⟩ | ⟨rfl, rfl⟩
  · exact va_newa (ty := .int) (a0 := (n.toNatClampNeg, .inl (fun _ => 0))) hx hb harr rfl k1 hP hD hS k6 (fun _ => rfl) h0 rfl (by simp only [componentBytes]; omega) hcells hslots hd (fun q cA H1 a0 a1 a2 a3 => kk q cA H1 locs (hI q cA H1 locs (Or.inl rfl) rfl a0 a1 a2 a3))
  · exact va_newa (ty := .boolean) (a0 := (n.toNatClampNeg, .inl (fun _ => 0))) hx hb harr rfl k1 hP hD hS k6 (fun _ => rfl) h0 rfl (by simp only [componentBytes]; omega) hcells hslots hd (fun q cA H1 a0 a1 a2 a3 => kk q cA H1 locs (hI q cA H1 locs (Or.inr (Or.inl rfl)) rfl a0 a1 a2 a3))
  · exact va_newa (ty := .byte) (a0 := (n.toNatClampNeg, .inl (fun _ => 0))) hx hb harr rfl k1 hP hD hS k6 (fun _ => rfl) h0 rfl (by simp only [componentBytes]; omega) hcells hslots hd (fun q cA H1 a0 a1 a2 a3 => kk q cA H1 locs (hI q cA H1 locs (Or.inr (Or.inr rfl)) rfl a0 a1 a2 a3))
  · refine va_newa (ty := .long) (a0 := (n.toNatClampNeg, .inr (.inl (fun _ => 0)))) hx hb harr rfl k1 hP hD hS k6 (fun _ => rfl) h0 rfl (by simp only [componentBytes]; omega) hcells hslots hd (fun q cA H1 a0 a1 a2 a3 => kk q cA H1 locs (hW0.add ?_ (fun _ => a0.last) (fun q => by omega) a1 a2 a3))
    rw [cE_long (by rw [allocK]), allocK, allocJ, upR_at]
theorem sd_newq (hW : Wd D cl nm g al cy sp A z s H locs) (hx : p.tables.exec = Jvm.exec) (hb : c.code = cc) (hown : s.vm.findClass own = some m.cls) {ci idx : Nat} {C : String} (hN : nm ci = C) (hl : (Cond.classLink own idx C).before args s = true) (ho : va_AO C s)
    {n : Int32} (hn : ¬ (n < 0 ∨ 100000 ≤ n.toNatClampNeg)) (hcells : cells + 1 ≤ R.cells) (hslots : slots + n.toNatClampNeg ≤ R.slots) (hd : decode cc pc = .ok (.anewarray idx, 3))
    (kk : ∀ (a : Nat) (cA : ClassId) (H1 : Heap) (locs1 : List Loc), Wd D cl nm g (upR al z.1 a) (upR cy z.1 cA) sp A (alloc z (200 + ci) n.toNatClampNeg) s H1 locs1 → W p l e R s m args below meth c H1 locs1 (cells + 1) (slots + n.toNatClampNeg) Q (F0 m (pc + 3) ls (.ref a :: rest))) :
    W p l e R s m args below meth c H locs cells slots Q (F0 m pc ls (.int n :: rest)) := by
  have hW0 := hW
  obtain ⟨k1, k2, hP, hD, hS, k6, k7, k8⟩ := hW
  have h0 : ¬ n < 0 := fun q => hn (Or.inl q)
  have h1 : n.toNatClampNeg < 100000 := Nat.not_le.mp (fun q => hn (Or.inr q))
  have hobj : aT nm (200 + ci) = .object C := by
    unfold aT
    split
    · omega
    · omega
    · omega
    · omega
    · rw [show 200 + ci - 200 = ci by omega, hN]
  refine va_newq hx hb hown hl ho k1 hP hD hS k6 h0 rfl (by omega) hcells hslots hd (fun q cA H1 a0 a1 a2 a3 => kk q cA H1 locs (hW0.add ?_ (fun _ => by rw [hobj]; exact a0.last) (fun q => by omega) a1 a2 a3))
  rw [cE_ref (by rw [allocK]; show 200 ≤ 200 + ci; omega), allocK, allocP, upR_at]
  rfl
end SD
