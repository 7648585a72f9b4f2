theorem ldL_inv {ty pc i : Nat} {L S : List Value} {z : SS} {o : Cfg} (h : ldL ty pc i L S z = some (.inl o)) : ∃ v, L[i]? = some v ∧ v ≠ vU ∧ o = (pc, L, v :: S, z) ∧ (ty = 0 → ∃ x, v = .int x) ∧ (ty = 1 → ∃ x, v = .long x) ∧ (ty = 2 → (∃ x, v = .ref x) ∨ ∃ k, v = .retAddr k) := by
  unfold ldL at h
  split at h
  · rename_i x e
    cases h
    exact ⟨_, e, (fun q => by cases q), rfl, fun _ => ⟨_, rfl⟩, fun q => by omega, fun q => by omega⟩
  · rename_i x e
    cases h
    exact ⟨_, e, (fun q => by cases q), rfl, fun q => by omega, fun _ => ⟨_, rfl⟩, fun q => by omega⟩
  · rename_i x e
    cases h
    exact ⟨_, e, (fun q => by cases q), rfl, fun q => by omega, fun q => by omega, fun _ => Or.inl ⟨_, rfl⟩⟩
  · rename_i k e
    split at h
    · rename_i hk
      cases h
      exact ⟨_, e, (fun q => by cases q; omega), rfl, fun q => by omega, fun q => by omega, fun _ => Or.inr ⟨_, rfl⟩⟩
    · cases h
  · cases h
theorem sto_inv {ty pc i : Nat} {L S : List Value} {z : SS} {o : Cfg} (h : sto ty pc i L S z = some (.inl o)) : (ty = 0 → ∃ x r, S = .int x :: r ∧ i < L.length ∧ o = (pc, stL L i (.int x), r, z)) ∧ (ty = 1 → ∃ x r, S = .long x :: r ∧ i + 1 < L.length ∧ o = (pc, stL2 L i (.long x), r, z)) ∧ (ty = 2 → ∃ x r, S = .ref x :: r ∧ i < L.length ∧ o = (pc, stL L i (.ref x), r, z)) := by
  unfold sto at h
  split at h
  · split at h
    · cases h
      exact ⟨fun _ => ⟨_, _, rfl, by assumption, rfl⟩, fun q => by omega, fun q => by omega⟩
    · cases h
  · split at h
    · cases h
      exact ⟨fun q => by omega, fun _ => ⟨_, _, rfl, by assumption, rfl⟩, fun q => by omega⟩
    · cases h
  · split at h
    · cases h
      exact ⟨fun q => by omega, fun q => by omega, fun _ => ⟨_, _, rfl, by assumption, rfl⟩⟩
    · cases h
  · cases h
def sim1 (i : Instr) : Bool := match i with
  | .iconst _ | .bipush _ | .sipush _ | .lconst _ | .iload_n _ | .iload _ | .lload_n _ | .lload _ | .aload_n _ | .aload _ => true
  | .istore_n _ | .istore _ | .lstore_n _ | .lstore _ | .astore_n _ | .astore _ | .iinc _ _ => true
  | .iadd | .isub | .imul | .iand | .ior | .ixor | .ishl | .ishr | .iushr | .idiv | .irem | .ineg => true
  | .ladd | .lsub | .lmul | .land | .lor | .lneg | .lshl | .lcmp | .i2l | .l2i | .i2b | .dup | .dup2 => true
  | _ => false
section SD
variable {p : Program} {l : Launch} {e : Env} {R : Room} {s : State} {m : MethodId} {args : Array Value} {below : List Frame} {meth : Method} {c : Code} {H : Heap} {locs : List Loc} {cells slots : Nat} {Q : State → Prop} {cc : ByteArray}
set_option maxHeartbeats 2000000 in
theorem sd1 (hx : p.tables.exec = Jvm.exec) (hb : c.code = cc) {g : PG} {mid pc : Nat} {i : Instr} {L S : List Value} {z : SS} {o : Cfg} (hd : decode cc pc = .ok (i, ilen i)) (hi : sim1 i = true) (h : exec1 g mid pc i L S z = some (.inl o))
    {al sp : Nat → Nat} {nL : Nat} {ls : Array Slot} (hL : LR al sp L ls nL) (kk : ∀ ls' : Array Slot, LR al sp o.2.1 ls' nL → o.2.2.2 = z → W p l e R s m args below meth c H locs cells slots Q (F0 m o.1 ls' (o.2.2.1.map (tV al sp)))) :
    W p l e R s m args below meth c H locs cells slots Q (F0 m pc ls (S.map (tV al sp))) := by
  have hn := hL.2.2.1
  cases i with
  | iconst n => cases h; exact lv_iconst hx hb hd rfl (kk ls hL rfl)
  | bipush n => cases h; exact lv_bipush hx hb hd rfl (kk ls hL rfl)
  | sipush n => cases h; exact lv_sipush hx hb hd rfl (kk ls hL rfl)
  | lconst n => cases h; exact lv_lconst hx hb hd rfl (kk ls hL rfl)
  | iload_n k =>
    obtain ⟨v, h1, h2, rfl, h3, -, -⟩ := ldL_inv (ty := 0) h
    obtain ⟨x, rfl⟩ := h3 rfl
    exact lv_iload_n hx hb hd rfl (hL.2.2.2 _ _ h1 h2) (kk ls hL rfl)
  | iload k =>
    obtain ⟨v, h1, h2, rfl, h3, -, -⟩ := ldL_inv (ty := 0) h
    obtain ⟨x, rfl⟩ := h3 rfl
    exact lv_iload hx hb hd (hL.2.2.2 _ _ h1 h2) (kk ls hL rfl)
  | lload_n k =>
    obtain ⟨v, h1, h2, rfl, -, h3, -⟩ := ldL_inv (ty := 1) h
    obtain ⟨x, rfl⟩ := h3 rfl
    exact lv_lload_n hx hb hd rfl (hL.2.2.2 _ _ h1 h2) (kk ls hL rfl)
  | lload k =>
    obtain ⟨v, h1, h2, rfl, -, h3, -⟩ := ldL_inv (ty := 1) h
    obtain ⟨x, rfl⟩ := h3 rfl
    exact lv_lload hx hb hd (hL.2.2.2 _ _ h1 h2) (kk ls hL rfl)
  | aload_n k =>
    obtain ⟨v, h1, h2, rfl, -, -, h3⟩ := ldL_inv (ty := 2) h
    rcases h3 rfl with ⟨x, rfl⟩ | ⟨x, rfl⟩
    · exact lv_aload_n hx hb hd rfl (hL.2.2.2 _ _ h1 h2) (kk ls hL rfl)
    · exact lv_aload_n hx hb hd rfl (hL.2.2.2 _ _ h1 h2) (kk ls hL rfl)
  | aload k =>
    obtain ⟨v, h1, h2, rfl, -, -, h3⟩ := ldL_inv (ty := 2) h
    rcases h3 rfl with ⟨x, rfl⟩ | ⟨x, rfl⟩
    · exact lv_aload hx hb hd (hL.2.2.2 _ _ h1 h2) (kk ls hL rfl)
    · exact lv_aload hx hb hd (hL.2.2.2 _ _ h1 h2) (kk ls hL rfl)
  | istore_n k =>
    obtain ⟨x, r, rfl, hk, rfl⟩ := (sto_inv (ty := 0) h).1 rfl
    exact lv_istore_n hx hb hd rfl hL.has (by omega) rfl (fun ls' h' => kk ls' (LR.st1 (v := .int x) hn (by omega) (fun _ q => q) h') rfl)
  | istore k =>
    obtain ⟨x, r, rfl, hk, rfl⟩ := (sto_inv (ty := 0) h).1 rfl
    exact lv_istore hx hb hd hL.has (by omega) rfl (fun ls' h' => kk ls' (LR.st1 (v := .int x) hn (by omega) (fun _ q => q) h') rfl)
  | astore_n k =>
    obtain ⟨x, r, rfl, hk, rfl⟩ := (sto_inv (ty := 2) h).2.2 rfl
    exact lv_astore_n hx hb hd rfl hL.has (by omega) rfl (fun ls' h' => kk ls' (LR.st1 (v := .ref x) hn (by omega) (fun _ q => q) h') rfl)
  | astore k =>
    obtain ⟨x, r, rfl, hk, rfl⟩ := (sto_inv (ty := 2) h).2.2 rfl
    exact lv_astore hx hb hd hL.has (by omega) rfl (fun ls' h' => kk ls' (LR.st1 (v := .ref x) hn (by omega) (fun _ q => q) h') rfl)
  | lstore_n k =>
    obtain ⟨x, r, rfl, hk, rfl⟩ := (sto_inv (ty := 1) h).2.1 rfl
    exact lv_lstore_n hx hb hd rfl hL.has (by omega) rfl (fun ls' h' => kk ls' (LR.st2 (v := .long x) hn (by omega) (fun _ q => q) h') rfl)
  | lstore k =>
    obtain ⟨x, r, rfl, hk, rfl⟩ := (sto_inv (ty := 1) h).2.1 rfl
    exact lv_lstore hx hb hd hL.has (by omega) rfl (fun ls' h' => kk ls' (LR.st2 (v := .long x) hn (by omega) (fun _ q => q) h') rfl)
  | iinc k n =>
    replace h : (match L[k]? with
      | some (.int x) => nx (pc + 3) (stL L k (.int (x + Int32.ofInt n))) S z
      | _ => none) = some (.inl o) := h
    split at h
    · rename_i x hx0
      cases h
      have hh : lv_has ls nL ((k, .int x) :: prs al sp L) := ⟨hL.1, hL.2.1, fun q hq => by
        rcases List.mem_cons.mp hq with rfl | hq
        · exact hL.2.2.2 k _ hx0 (fun q => by cases q)
        · exact hL.has.2.2 q hq⟩
      have hk := (List.getElem?_eq_some_iff.mp hx0).1
      exact lv_iinc (k := 0) hx hb hd hh rfl rfl (by omega) rfl (fun ls' h' => kk ls' (LR.st1 (v := .int (x + Int32.ofInt n)) hn (by omega) (fun _ q => List.mem_cons_of_mem _ q) h') rfl)
    · cases h
  | iadd => obtain ⟨x, y, r, rfl, rfl⟩ := b2_inv h; exact lv_iadd hx hb hd (kk ls hL rfl)
  | isub => obtain ⟨x, y, r, rfl, rfl⟩ := b2_inv h; exact lv_isub hx hb hd (kk ls hL rfl)
  | imul => obtain ⟨x, y, r, rfl, rfl⟩ := b2_inv h; exact lv_imul hx hb hd (kk ls hL rfl)
  | iand => obtain ⟨x, y, r, rfl, rfl⟩ := b2_inv h; exact lv_iand hx hb hd (kk ls hL rfl)
  | ior => obtain ⟨x, y, r, rfl, rfl⟩ := b2_inv h; exact lv_ior hx hb hd (kk ls hL rfl)
  | ixor => obtain ⟨x, y, r, rfl, rfl⟩ := b2_inv h; exact lv_ixor hx hb hd (kk ls hL rfl)
  | ishl => obtain ⟨x, y, r, rfl, rfl⟩ := b2_inv h; exact lv_ishl hx hb hd (kk ls hL rfl)
  | ishr => obtain ⟨x, y, r, rfl, rfl⟩ := b2_inv h; exact lv_ishr hx hb hd (kk ls hL rfl)
  | iushr => obtain ⟨x, y, r, rfl, rfl⟩ := b2_inv h; exact lv_iushr hx hb hd rfl (kk ls hL rfl)
  | ladd => obtain ⟨x, y, r, rfl, rfl⟩ := l2_inv h; exact lv_ladd hx hb hd (kk ls hL rfl)
  | lsub => obtain ⟨x, y, r, rfl, rfl⟩ := l2_inv h; exact lv_lsub hx hb hd (kk ls hL rfl)
  | lmul => obtain ⟨x, y, r, rfl, rfl⟩ := l2_inv h; exact lv_lmul hx hb hd (kk ls hL rfl)
  | land => obtain ⟨x, y, r, rfl, rfl⟩ := l2_inv h; exact lv_land hx hb hd (kk ls hL rfl)
  | lor => obtain ⟨x, y, r, rfl, rfl⟩ := l2_inv h; exact lv_lor hx hb hd (kk ls hL rfl)
  | idiv =>
    replace h : (match S with
      | .int y :: .int x :: r => if y = 0 then none else nx (pc + 1) L (.int (x / y) :: r) z
      | _ => none) = some (.inl o) := h
    split at h
    · split at h
      · cases h
      · rename_i hy; cases h; exact lv_idiv hx hb hd hy (kk ls hL rfl)
    · cases h
  | irem =>
    replace h : (match S with
      | .int y :: .int x :: r => if y = 0 then none else nx (pc + 1) L (.int (x - x / y * y) :: r) z
      | _ => none) = some (.inl o) := h
    split at h
    · split at h
      · cases h
      · rename_i hy; cases h; exact lv_irem hx hb hd hy (kk ls hL rfl)
    · cases h
  | ineg =>
    replace h : (match S with
      | .int x :: r => nx (pc + 1) L (.int (-x) :: r) z
      | _ => none) = some (.inl o) := h
    split at h
    · cases h; exact lv_ineg hx hb hd (kk ls hL rfl)
    · cases h
  | lneg =>
    replace h : (match S with
      | .long x :: r => nx (pc + 1) L (.long (-x) :: r) z
      | _ => none) = some (.inl o) := h
    split at h
    · cases h; exact lv_lneg hx hb hd (kk ls hL rfl)
    · cases h
  | lshl =>
    replace h : (match S with
      | .int y :: .long x :: r => nx (pc + 1) L (.long (x <<< (y.toInt64 &&& 63)) :: r) z
      | _ => none) = some (.inl o) := h
    split at h
    · cases h; exact lv_lshl hx hb hd rfl (kk ls hL rfl)
    · cases h
  | lcmp =>
    replace h : (match S with
      | .long y :: .long x :: r => nx (pc + 1) L (.int (lg_cmp x y) :: r) z
      | _ => none) = some (.inl o) := h
    split at h
    · cases h; exact W.lcmp hx hb hd (kk ls hL rfl)
    · cases h
  | i2l =>
    replace h : (match S with
      | .int x :: r => nx (pc + 1) L (.long x.toInt64 :: r) z
      | _ => none) = some (.inl o) := h
    split at h
    · cases h; exact lv_i2l hx hb hd rfl (kk ls hL rfl)
    · cases h
  | l2i =>
    replace h : (match S with
      | .long x :: r => nx (pc + 1) L (.int x.toInt32 :: r) z
      | _ => none) = some (.inl o) := h
    split at h
    · cases h; exact lv_l2i hx hb hd rfl (kk ls hL rfl)
    · cases h
  | i2b =>
    replace h : (match S with
      | .int x :: r => nx (pc + 1) L (.int x.toInt8.toInt32 :: r) z
      | _ => none) = some (.inl o) := h
    split at h
    · cases h; exact lv_i2b hx hb hd rfl (kk ls hL rfl)
    · cases h
  | dup =>
    replace h : (match S with
      | .int x :: r => nx (pc + 1) L (.int x :: .int x :: r) z
      | .ref x :: r => nx (pc + 1) L (.ref x :: .ref x :: r) z
      | _ => none) = some (.inl o) := h
    split at h
    · cases h; exact lv_dup hx hb hd rfl (kk ls hL rfl)
    · cases h; exact lv_dup hx hb hd rfl (kk ls hL rfl)
    · cases h
  | dup2 =>
    replace h : (match S with
      | .int x :: .ref y :: r => nx (pc + 1) L (.int x :: .ref y :: .int x :: .ref y :: r) z
      | _ => none) = some (.inl o) := h
    split at h
    · cases h; exact lv_dup2_11 hx hb hd rfl rfl (kk ls hL rfl)
    · cases h
  | _ => cases hi
end SD
