theorem b2_wk (f : Int32 → Int32 → Int32) (pc : Nat) (L L' S : List Value) (z : SS) {o : Out} (h : b2 f pc L S z = some o) : b2 f pc L' S z = some (wk L' o) := by
  unfold b2 at h ⊢
  split at h
  · cases h; rfl
  · cases h
theorem l2_wk (f : Int64 → Int64 → Int64) (pc : Nat) (L L' S : List Value) (z : SS) {o : Out} (h : l2 f pc L S z = some o) : l2 f pc L' S z = some (wk L' o) := by
  unfold l2 at h ⊢
  split at h
  · cases h; rfl
  · cases h
theorem ald_wk (g : PG) (ty pc : Nat) (L L' S : List Value) (z : SS) {o : Out} (h : ald g ty pc L S z = some o) : ald g ty pc L' S z = some (wk L' o) := by
  unfold ald nx at h ⊢
  repeat' split at h
  all_goals first | cases h; done | skip
  all_goals cases h
  all_goals simp_all [wk]
theorem ast_wk (ty pc : Nat) (L L' S : List Value) (z : SS) {o : Out} (h : ast ty pc L S z = some o) : ast ty pc L' S z = some (wk L' o) := by
  unfold ast nx at h ⊢
  repeat' split at h
  all_goals first | cases h; done | skip
  all_goals cases h
  all_goals simp_all [wk]
theorem built_wk (g : PG) (b pc : Nat) (L L' S : List Value) (z : SS) {o : Out} (h : built g b pc L S z = some o) : built g b pc L' S z = some (wk L' o) := by
  unfold built at h ⊢
  split at h
  all_goals first
    | (cases h; done)
    | (split at h
       · rename_i hr
         cases h
         try dsimp only
         rw [if_pos hr]
         rfl
       · cases h)
theorem ald_L {g : PG} {ty pc : Nat} {L S : List Value} {z : SS} {c : Cfg} (h : ald g ty pc L S z = some (.inl c)) : c.2.1 = L := by
  unfold ald at h
  repeat' split at h
  all_goals first | (cases h; rfl) | cases h
theorem ast_L {ty pc : Nat} {L S : List Value} {z : SS} {c : Cfg} (h : ast ty pc L S z = some (.inl c)) : c.2.1 = L := by
  unfold ast at h
  repeat' split at h
  all_goals first | (cases h; rfl) | cases h
theorem built_L {g : PG} {b pc : Nat} {L S : List Value} {z : SS} {c : Cfg} (h : built g b pc L S z = some (.inl c)) : c.2.1 = L := by
  unfold built at h
  repeat' split at h
  all_goals first | (cases h; rfl) | cases h
def WK (g : PG) (mid pc : Nat) (i : Instr) (L' S : List Value) (z : SS) (o : Out) : Prop := ∃ L1, (∀ c : Cfg, o = .inl c → Lle c.2.1 L1) ∧ exec1 g mid pc i L' S z = some (wk L1 o)
theorem ldL_no {ty pc i : Nat} {L S : List Value} {z : SS} {q : (Option Value × SS) ⊕ (Nat × List Value × List Value)} : ¬ ldL ty pc i L S z = some (.inr q) := by
  intro h; unfold ldL nx at h; repeat' split at h
  all_goals cases h
theorem sto_no {ty pc i : Nat} {L S : List Value} {z : SS} {q : (Option Value × SS) ⊕ (Nat × List Value × List Value)} : ¬ sto ty pc i L S z = some (.inr q) := by
  intro h; unfold sto nx at h; repeat' split at h
  all_goals cases h
theorem WK.ld {g : PG} {mid pc pc' ty k : Nat} {i : Instr} {L L' S : List Value} {z : SS} {o : Out} (hL : Lle L L') (e : ∀ X, exec1 g mid pc i X S z = ldL ty pc' k X S z) (h : ldL ty pc' k L S z = some o) : WK g mid pc i L' S z o := by
  cases o with
  | inl c =>
    obtain ⟨h1, h2⟩ := ldL_weak hL h
    exact ⟨L', fun c' q => by cases q; rw [h1]; exact hL, by rw [e, h2]; rfl⟩
  | inr q => exact absurd h ldL_no
theorem WK.sto {g : PG} {mid pc pc' ty k : Nat} {i : Instr} {L L' S : List Value} {z : SS} {o : Out} (hL : Lle L L') (e : ∀ X, exec1 g mid pc i X S z = sto ty pc' k X S z) (h : sto ty pc' k L S z = some o) : WK g mid pc i L' S z o := by
  cases o with
  | inl c =>
    obtain ⟨L1, h1, h2⟩ := sto_weak hL h
    exact ⟨L1, fun c' q => by cases q; exact h1, by rw [e, h2]; rfl⟩
  | inr q => exact absurd h sto_no
theorem WK.keep {g : PG} {mid pc : Nat} {i : Instr} {L L' S : List Value} {z : SS} {o : Out} (hL : Lle L L') (h1 : ∀ c : Cfg, o = .inl c → c.2.1 = L) (h2 : exec1 g mid pc i L' S z = some (wk L' o)) : WK g mid pc i L' S z o := ⟨L', fun c q => by rw [h1 c q]; exact hL, h2⟩
theorem wk_iconst {g : PG} {mid pc : Nat} {n : Int} {L L' S : List Value} {z : SS} {o : Out} (hL : Lle L L') (h : exec1 g mid pc (.iconst n) L S z = some o) : WK g mid pc (.iconst n) L' S z o := by
  cases h; exact WK.keep hL (fun c q => by cases q; rfl) rfl
theorem wk_bipush {g : PG} {mid pc : Nat} {n : Int} {L L' S : List Value} {z : SS} {o : Out} (hL : Lle L L') (h : exec1 g mid pc (.bipush n) L S z = some o) : WK g mid pc (.bipush n) L' S z o := by
  cases h; exact WK.keep hL (fun c q => by cases q; rfl) rfl
theorem wk_sipush {g : PG} {mid pc : Nat} {n : Int} {L L' S : List Value} {z : SS} {o : Out} (hL : Lle L L') (h : exec1 g mid pc (.sipush n) L S z = some o) : WK g mid pc (.sipush n) L' S z o := by
  cases h; exact WK.keep hL (fun c q => by cases q; rfl) rfl
theorem wk_lconst {g : PG} {mid pc : Nat} {n : Fin 2} {L L' S : List Value} {z : SS} {o : Out} (hL : Lle L L') (h : exec1 g mid pc (.lconst n) L S z = some o) : WK g mid pc (.lconst n) L' S z o := by
  cases h; exact WK.keep hL (fun c q => by cases q; rfl) rfl
theorem wk_getstatic {g : PG} {mid pc : Nat} {n : Nat} {L L' S : List Value} {z : SS} {o : Out} (hL : Lle L L') (h : exec1 g mid pc (.getstatic n) L S z = some o) : WK g mid pc (.getstatic n) L' S z o := by
  cases h; exact WK.keep hL (fun c q => by cases q; rfl) rfl
theorem wk_goto {g : PG} {mid pc : Nat} {n : Int} {L L' S : List Value} {z : SS} {o : Out} (hL : Lle L L') (h : exec1 g mid pc (.goto n) L S z = some o) : WK g mid pc (.goto n) L' S z o := by
  cases h; exact WK.keep hL (fun c q => by cases q; rfl) rfl
theorem wk_new {g : PG} {mid pc : Nat} {n : Nat} {L L' S : List Value} {z : SS} {o : Out} (hL : Lle L L') (h : exec1 g mid pc (.new n) L S z = some o) : WK g mid pc (.new n) L' S z o := by
  cases h; exact WK.keep hL (fun c q => by cases q; rfl) rfl
theorem wk_iadd {g : PG} {mid pc : Nat} {L L' S : List Value} {z : SS} {o : Out} (hL : Lle L L') (h : exec1 g mid pc .iadd L S z = some o) : WK g mid pc .iadd L' S z o := by
  exact WK.keep hL (fun c q => by subst q; obtain ⟨_, _, _, _, e⟩ := b2_inv h; rw [e]) (b2_wk _ pc L L' S z h)
theorem wk_isub {g : PG} {mid pc : Nat} {L L' S : List Value} {z : SS} {o : Out} (hL : Lle L L') (h : exec1 g mid pc .isub L S z = some o) : WK g mid pc .isub L' S z o := by
  exact WK.keep hL (fun c q => by subst q; obtain ⟨_, _, _, _, e⟩ := b2_inv h; rw [e]) (b2_wk _ pc L L' S z h)
theorem wk_imul {g : PG} {mid pc : Nat} {L L' S : List Value} {z : SS} {o : Out} (hL : Lle L L') (h : exec1 g mid pc .imul L S z = some o) : WK g mid pc .imul L' S z o := by
  exact WK.keep hL (fun c q => by subst q; obtain ⟨_, _, _, _, e⟩ := b2_inv h; rw [e]) (b2_wk _ pc L L' S z h)
theorem wk_iand {g : PG} {mid pc : Nat} {L L' S : List Value} {z : SS} {o : Out} (hL : Lle L L') (h : exec1 g mid pc .iand L S z = some o) : WK g mid pc .iand L' S z o := by
  exact WK.keep hL (fun c q => by subst q; obtain ⟨_, _, _, _, e⟩ := b2_inv h; rw [e]) (b2_wk _ pc L L' S z h)
theorem wk_ior {g : PG} {mid pc : Nat} {L L' S : List Value} {z : SS} {o : Out} (hL : Lle L L') (h : exec1 g mid pc .ior L S z = some o) : WK g mid pc .ior L' S z o := by
  exact WK.keep hL (fun c q => by subst q; obtain ⟨_, _, _, _, e⟩ := b2_inv h; rw [e]) (b2_wk _ pc L L' S z h)
theorem wk_ixor {g : PG} {mid pc : Nat} {L L' S : List Value} {z : SS} {o : Out} (hL : Lle L L') (h : exec1 g mid pc .ixor L S z = some o) : WK g mid pc .ixor L' S z o := by
  exact WK.keep hL (fun c q => by subst q; obtain ⟨_, _, _, _, e⟩ := b2_inv h; rw [e]) (b2_wk _ pc L L' S z h)
theorem wk_ishl {g : PG} {mid pc : Nat} {L L' S : List Value} {z : SS} {o : Out} (hL : Lle L L') (h : exec1 g mid pc .ishl L S z = some o) : WK g mid pc .ishl L' S z o := by
  exact WK.keep hL (fun c q => by subst q; obtain ⟨_, _, _, _, e⟩ := b2_inv h; rw [e]) (b2_wk _ pc L L' S z h)
theorem wk_ishr {g : PG} {mid pc : Nat} {L L' S : List Value} {z : SS} {o : Out} (hL : Lle L L') (h : exec1 g mid pc .ishr L S z = some o) : WK g mid pc .ishr L' S z o := by
  exact WK.keep hL (fun c q => by subst q; obtain ⟨_, _, _, _, e⟩ := b2_inv h; rw [e]) (b2_wk _ pc L L' S z h)
theorem wk_iushr {g : PG} {mid pc : Nat} {L L' S : List Value} {z : SS} {o : Out} (hL : Lle L L') (h : exec1 g mid pc .iushr L S z = some o) : WK g mid pc .iushr L' S z o := by
  exact WK.keep hL (fun c q => by subst q; obtain ⟨_, _, _, _, e⟩ := b2_inv h; rw [e]) (b2_wk _ pc L L' S z h)
theorem wk_ladd {g : PG} {mid pc : Nat} {L L' S : List Value} {z : SS} {o : Out} (hL : Lle L L') (h : exec1 g mid pc .ladd L S z = some o) : WK g mid pc .ladd L' S z o := by
  exact WK.keep hL (fun c q => by subst q; obtain ⟨_, _, _, _, e⟩ := l2_inv h; rw [e]) (l2_wk _ pc L L' S z h)
theorem wk_lsub {g : PG} {mid pc : Nat} {L L' S : List Value} {z : SS} {o : Out} (hL : Lle L L') (h : exec1 g mid pc .lsub L S z = some o) : WK g mid pc .lsub L' S z o := by
  exact WK.keep hL (fun c q => by subst q; obtain ⟨_, _, _, _, e⟩ := l2_inv h; rw [e]) (l2_wk _ pc L L' S z h)
theorem wk_lmul {g : PG} {mid pc : Nat} {L L' S : List Value} {z : SS} {o : Out} (hL : Lle L L') (h : exec1 g mid pc .lmul L S z = some o) : WK g mid pc .lmul L' S z o := by
  exact WK.keep hL (fun c q => by subst q; obtain ⟨_, _, _, _, e⟩ := l2_inv h; rw [e]) (l2_wk _ pc L L' S z h)
theorem wk_land {g : PG} {mid pc : Nat} {L L' S : List Value} {z : SS} {o : Out} (hL : Lle L L') (h : exec1 g mid pc .land L S z = some o) : WK g mid pc .land L' S z o := by
  exact WK.keep hL (fun c q => by subst q; obtain ⟨_, _, _, _, e⟩ := l2_inv h; rw [e]) (l2_wk _ pc L L' S z h)
theorem wk_lor {g : PG} {mid pc : Nat} {L L' S : List Value} {z : SS} {o : Out} (hL : Lle L L') (h : exec1 g mid pc .lor L S z = some o) : WK g mid pc .lor L' S z o := by
  exact WK.keep hL (fun c q => by subst q; obtain ⟨_, _, _, _, e⟩ := l2_inv h; rw [e]) (l2_wk _ pc L L' S z h)
theorem wk_ineg {g : PG} {mid pc : Nat} {L L' S : List Value} {z : SS} {o : Out} (hL : Lle L L') (h : exec1 g mid pc .ineg L S z = some o) : WK g mid pc .ineg L' S z o := by
  replace h : (match (generalizing := false) S with
    | .int x :: r => nx (pc + 1) L (.int (-x) :: r) z
    | _ => none) = some o := h
  split at h
  · cases h; exact WK.keep hL (fun c q => by cases q; rfl) rfl
  · cases h
theorem wk_lneg {g : PG} {mid pc : Nat} {L L' S : List Value} {z : SS} {o : Out} (hL : Lle L L') (h : exec1 g mid pc .lneg L S z = some o) : WK g mid pc .lneg L' S z o := by
  replace h : (match (generalizing := false) S with
    | .long x :: r => nx (pc + 1) L (.long (-x) :: r) z
    | _ => none) = some o := h
  split at h
  · cases h; exact WK.keep hL (fun c q => by cases q; rfl) rfl
  · cases h
theorem wk_lshl {g : PG} {mid pc : Nat} {L L' S : List Value} {z : SS} {o : Out} (hL : Lle L L') (h : exec1 g mid pc .lshl L S z = some o) : WK g mid pc .lshl L' S z o := by
  replace h : (match (generalizing := false) S with
    | .int y :: .long x :: r => nx (pc + 1) L (.long (x <<< (y.toInt64 &&& 63)) :: r) z
    | _ => none) = some o := h
  split at h
  · cases h; exact WK.keep hL (fun c q => by cases q; rfl) rfl
  · cases h
theorem wk_lcmp {g : PG} {mid pc : Nat} {L L' S : List Value} {z : SS} {o : Out} (hL : Lle L L') (h : exec1 g mid pc .lcmp L S z = some o) : WK g mid pc .lcmp L' S z o := by
  replace h : (match (generalizing := false) S with
    | .long y :: .long x :: r => nx (pc + 1) L (.int (lg_cmp x y) :: r) z
    | _ => none) = some o := h
  split at h
  · cases h; exact WK.keep hL (fun c q => by cases q; rfl) rfl
  · cases h
theorem wk_i2l {g : PG} {mid pc : Nat} {L L' S : List Value} {z : SS} {o : Out} (hL : Lle L L') (h : exec1 g mid pc .i2l L S z = some o) : WK g mid pc .i2l L' S z o := by
  replace h : (match (generalizing := false) S with
    | .int x :: r => nx (pc + 1) L (.long x.toInt64 :: r) z
    | _ => none) = some o := h
  split at h
  · cases h; exact WK.keep hL (fun c q => by cases q; rfl) rfl
  · cases h
theorem wk_l2i {g : PG} {mid pc : Nat} {L L' S : List Value} {z : SS} {o : Out} (hL : Lle L L') (h : exec1 g mid pc .l2i L S z = some o) : WK g mid pc .l2i L' S z o := by
  replace h : (match (generalizing := false) S with
    | .long x :: r => nx (pc + 1) L (.int x.toInt32 :: r) z
    | _ => none) = some o := h
  split at h
  · cases h; exact WK.keep hL (fun c q => by cases q; rfl) rfl
  · cases h
theorem wk_i2b {g : PG} {mid pc : Nat} {L L' S : List Value} {z : SS} {o : Out} (hL : Lle L L') (h : exec1 g mid pc .i2b L S z = some o) : WK g mid pc .i2b L' S z o := by
  replace h : (match (generalizing := false) S with
    | .int x :: r => nx (pc + 1) L (.int x.toInt8.toInt32 :: r) z
    | _ => none) = some o := h
  split at h
  · cases h; exact WK.keep hL (fun c q => by cases q; rfl) rfl
  · cases h
theorem wk_dup {g : PG} {mid pc : Nat} {L L' S : List Value} {z : SS} {o : Out} (hL : Lle L L') (h : exec1 g mid pc .dup L S z = some o) : WK g mid pc .dup L' S z o := by
  replace h : (match (generalizing := false) S with
    | .int x :: r => nx (pc + 1) L (.int x :: .int x :: r) z
    | .ref x :: r => nx (pc + 1) L (.ref x :: .ref x :: r) z
    | _ => none) = some o := h
  split at h
  · cases h; exact WK.keep hL (fun c q => by cases q; rfl) rfl
  · cases h; exact WK.keep hL (fun c q => by cases q; rfl) rfl
  · cases h
theorem wk_dup2 {g : PG} {mid pc : Nat} {L L' S : List Value} {z : SS} {o : Out} (hL : Lle L L') (h : exec1 g mid pc .dup2 L S z = some o) : WK g mid pc .dup2 L' S z o := by
  replace h : (match (generalizing := false) S with
    | .int x :: .ref y :: r => nx (pc + 1) L (.int x :: .ref y :: .int x :: .ref y :: r) z
    | _ => none) = some o := h
  split at h
  · cases h; exact WK.keep hL (fun c q => by cases q; rfl) rfl
  · cases h
theorem wk_ifCond {g : PG} {mid pc : Nat} {k : Jvm.ClassFile.Cond} {n : Int} {L L' S : List Value} {z : SS} {o : Out} (hL : Lle L L') (h : exec1 g mid pc (.ifCond k n) L S z = some o) : WK g mid pc (.ifCond k n) L' S z o := by
  replace h : (match (generalizing := false) S with
    | .int x :: r => nx (cmpI k x 0 (g.2.1 mid pc).1 (pc + 3)) L r z
    | _ => none) = some o := h
  split at h
  · cases h; exact WK.keep hL (fun c q => by cases q; rfl) rfl
  · cases h
theorem wk_if_icmp {g : PG} {mid pc : Nat} {k : Jvm.ClassFile.Cond} {n : Int} {L L' S : List Value} {z : SS} {o : Out} (hL : Lle L L') (h : exec1 g mid pc (.if_icmp k n) L S z = some o) : WK g mid pc (.if_icmp k n) L' S z o := by
  replace h : (match (generalizing := false) S with
    | .int y :: .int x :: r => nx (cmpI k x y (g.2.1 mid pc).1 (pc + 3)) L r z
    | _ => none) = some o := h
  split at h
  · cases h; exact WK.keep hL (fun c q => by cases q; rfl) rfl
  · cases h
theorem wk_tableswitch {g : PG} {mid pc : Nat} {a1 a2 a3 : Int} {a4 : Array Int} {L L' S : List Value} {z : SS} {o : Out} (hL : Lle L L') (h : exec1 g mid pc (.tableswitch a1 a2 a3 a4) L S z = some o) : WK g mid pc (.tableswitch a1 a2 a3 a4) L' S z o := by
  replace h : (match (generalizing := false) S with
    | .int x :: r => nx (if x.toInt < (g.2.2.2.1 mid pc).1 ∨ (g.2.2.2.1 mid pc).2.1 < x.toInt then (g.2.2.2.1 mid pc).2.2.2 else (g.2.2.2.1 mid pc).2.2.1.getD (x.toInt - (g.2.2.2.1 mid pc).1).toNat 0) L r z
    | _ => none) = some o := h
  split at h
  · cases h; exact WK.keep hL (fun c q => by cases q; rfl) rfl
  · cases h
theorem wk_idiv {g : PG} {mid pc : Nat} {L L' S : List Value} {z : SS} {o : Out} (hL : Lle L L') (h : exec1 g mid pc .idiv L S z = some o) : WK g mid pc .idiv L' S z o := by
  replace h : (match (generalizing := false) S with
    | .int y :: .int x :: r => if y = 0 then none else nx (pc + 1) L (.int (x / y) :: r) z
    | _ => none) = some o := h
  split at h
  · rename_i y x r
    split at h
    · cases h
    · rename_i hy
      cases h
      refine WK.keep hL (fun c q => by cases q; rfl) ?_
      show (if y = 0 then none else nx (pc + 1) L' (.int (x / y) :: r) z) = _
      rw [if_neg hy]; rfl
  · cases h
theorem wk_irem {g : PG} {mid pc : Nat} {L L' S : List Value} {z : SS} {o : Out} (hL : Lle L L') (h : exec1 g mid pc .irem L S z = some o) : WK g mid pc .irem L' S z o := by
  replace h : (match (generalizing := false) S with
    | .int y :: .int x :: r => if y = 0 then none else nx (pc + 1) L (.int (x - x / y * y) :: r) z
    | _ => none) = some o := h
  split at h
  · rename_i y x r
    split at h
    · cases h
    · rename_i hy
      cases h
      refine WK.keep hL (fun c q => by cases q; rfl) ?_
      show (if y = 0 then none else nx (pc + 1) L' (.int (x - x / y * y) :: r) z) = _
      rw [if_neg hy]; rfl
  · cases h
theorem wk_ldc {g : PG} {mid pc : Nat} {n : Nat} {L L' S : List Value} {z : SS} {o : Out} (hL : Lle L L') (h : exec1 g mid pc (.ldc n) L S z = some o) : WK g mid pc (.ldc n) L' S z o := by
  replace h : (match (generalizing := false) g.2.2.1 mid pc with
    | .int x => nx (pc + 2) L (.int x :: S) z
    | .retAddr 2 => nx (pc + 2) L (.retAddr 2 :: S) z
    | _ => none) = some o := h
  split at h
  · rename_i hq
    cases h
    refine WK.keep hL (fun c q => by cases q; rfl) ?_
    show (match (generalizing := false) g.2.2.1 mid pc with
    | .int x => nx (pc + 2) L' (.int x :: S) z
    | .retAddr 2 => nx (pc + 2) L' (.retAddr 2 :: S) z
    | _ => none) = _
    rw [hq]; rfl
  · rename_i hq
    cases h
    refine WK.keep hL (fun c q => by cases q; rfl) ?_
    show (match (generalizing := false) g.2.2.1 mid pc with
    | .int x => nx (pc + 2) L' (.int x :: S) z
    | .retAddr 2 => nx (pc + 2) L' (.retAddr 2 :: S) z
    | _ => none) = _
    rw [hq]; rfl
  · cases h
theorem wk_ldc_w {g : PG} {mid pc : Nat} {n : Nat} {L L' S : List Value} {z : SS} {o : Out} (hL : Lle L L') (h : exec1 g mid pc (.ldc_w n) L S z = some o) : WK g mid pc (.ldc_w n) L' S z o := by
  replace h : (match (generalizing := false) g.2.2.1 mid pc with
    | .int x => nx (pc + 3) L (.int x :: S) z
    | _ => none) = some o := h
  split at h
  · rename_i hq
    cases h
    refine WK.keep hL (fun c q => by cases q; rfl) ?_
    show (match (generalizing := false) g.2.2.1 mid pc with
    | .int x => nx (pc + 3) L' (.int x :: S) z
    | _ => none) = _
    rw [hq]; rfl
  · cases h
theorem wk_ldc2_w {g : PG} {mid pc : Nat} {n : Nat} {L L' S : List Value} {z : SS} {o : Out} (hL : Lle L L') (h : exec1 g mid pc (.ldc2_w n) L S z = some o) : WK g mid pc (.ldc2_w n) L' S z o := by
  replace h : (match (generalizing := false) g.2.2.1 mid pc with
    | .long x => nx (pc + 3) L (.long x :: S) z
    | _ => none) = some o := h
  split at h
  · rename_i hq
    cases h
    refine WK.keep hL (fun c q => by cases q; rfl) ?_
    show (match (generalizing := false) g.2.2.1 mid pc with
    | .long x => nx (pc + 3) L' (.long x :: S) z
    | _ => none) = _
    rw [hq]; rfl
  · cases h
theorem wk_getfield {g : PG} {mid pc : Nat} {n : Nat} {L L' S : List Value} {z : SS} {o : Out} (hL : Lle L L') (h : exec1 g mid pc (.getfield n) L S z = some o) : WK g mid pc (.getfield n) L' S z o := by
  replace h : (match (generalizing := false) S with
    | .ref c :: r => if c < z.1 ∧ (z.2.2.1 c).1 = (g.2.1 mid pc).1 then nx (pc + 3) L (fget (g.2.2.2.2.2.1 (g.2.1 mid pc).1 (g.2.1 mid pc).2.1) z c (g.2.1 mid pc).2.1 :: r) z else none
    | _ => none) = some o := h
  split at h
  · rename_i c r
    split at h
    · rename_i hq
      cases h
      refine WK.keep hL (fun c q => by cases q; rfl) ?_
      show (if c < z.1 ∧ (z.2.2.1 c).1 = (g.2.1 mid pc).1 then nx (pc + 3) L' (fget (g.2.2.2.2.2.1 (g.2.1 mid pc).1 (g.2.1 mid pc).2.1) z c (g.2.1 mid pc).2.1 :: r) z else none) = _
      rw [if_pos hq]; rfl
    · cases h
  · cases h
theorem wk_putfield {g : PG} {mid pc : Nat} {n : Nat} {L L' S : List Value} {z : SS} {o : Out} (hL : Lle L L') (h : exec1 g mid pc (.putfield n) L S z = some o) : WK g mid pc (.putfield n) L' S z o := by
  replace h : (match (generalizing := false) S with
    | v :: .ref c :: r => if c < z.1 ∧ (z.2.2.1 c).1 = (g.2.1 mid pc).1 then (match fput (g.2.2.2.2.2.1 (g.2.1 mid pc).1 (g.2.1 mid pc).2.1) z c (g.2.1 mid pc).2.1 v with
      | some z' => nx (pc + 3) L r z'
      | none => none) else none
    | _ => none) = some o := h
  split at h
  · rename_i v c r
    split at h
    · rename_i hq
      split at h
      · rename_i z' hf
        cases h
        refine WK.keep hL (fun c q => by cases q; rfl) ?_
        show (if c < z.1 ∧ (z.2.2.1 c).1 = (g.2.1 mid pc).1 then (match fput (g.2.2.2.2.2.1 (g.2.1 mid pc).1 (g.2.1 mid pc).2.1) z c (g.2.1 mid pc).2.1 v with
          | some z' => nx (pc + 3) L' r z'
          | none => none) else none) = _
        rw [if_pos hq, hf]; rfl
      · cases h
    · cases h
  · cases h
theorem wk_arraylength {g : PG} {mid pc : Nat} {L L' S : List Value} {z : SS} {o : Out} (hL : Lle L L') (h : exec1 g mid pc .arraylength L S z = some o) : WK g mid pc .arraylength L' S z o := by
  replace h : (match (generalizing := false) S with
    | .ref c :: r => if c < z.1 ∧ 100 ≤ (z.2.2.1 c).1 then nx (pc + 1) L (.int (nI (z.2.2.1 c).2) :: r) z else none
    | .retAddr k :: r => if k = 0 then nx (pc + 1) L (.int (nI (g.2.2.2.2.2.2 k).1) :: r) z else none
    | _ => none) = some o := h
  split at h
  · rename_i c r
    split at h
    · rename_i hq
      cases h
      refine WK.keep hL (fun c q => by cases q; rfl) ?_
      show (if c < z.1 ∧ 100 ≤ (z.2.2.1 c).1 then nx (pc + 1) L' (.int (nI (z.2.2.1 c).2) :: r) z else none) = _
      rw [if_pos hq]; rfl
    · cases h
  · rename_i k r
    split at h
    · rename_i hq
      cases h
      refine WK.keep hL (fun c q => by cases q; rfl) ?_
      show (if k = 0 then nx (pc + 1) L' (.int (nI (g.2.2.2.2.2.2 k).1) :: r) z else none) = _
      rw [if_pos hq]; rfl
    · cases h
  · cases h
theorem wk_newarray {g : PG} {mid pc : Nat} {t : ArrayType} {L L' S : List Value} {z : SS} {o : Out} (hL : Lle L L') (h : exec1 g mid pc (.newarray t) L S z = some o) : WK g mid pc (.newarray t) L' S z o := by
  replace h : (match (generalizing := false) S with
    | .int n :: r => if n < 0 ∨ 100000 ≤ n.toNatClampNeg then none else (match (generalizing := false) t with
      | .int => nx (pc + 2) L (.ref z.1 :: r) (alloc z 100 n.toNatClampNeg)
      | .boolean => nx (pc + 2) L (.ref z.1 :: r) (alloc z 101 n.toNatClampNeg)
      | .byte => nx (pc + 2) L (.ref z.1 :: r) (alloc z 102 n.toNatClampNeg)
      | .long => nx (pc + 2) L (.ref z.1 :: r) (alloc z 103 n.toNatClampNeg)
      | _ => none)
    | _ => none) = some o := h
  split at h
  · rename_i n r
    split at h
    · cases h
    · rename_i hn
      cases t <;> first | (cases h; done) | (cases h; refine WK.keep hL (fun c q => by cases q; rfl) ?_; show (if n < 0 ∨ 100000 ≤ n.toNatClampNeg then none else _) = _; rw [if_neg hn]; rfl)
  · cases h
theorem wk_anewarray {g : PG} {mid pc : Nat} {k : Nat} {L L' S : List Value} {z : SS} {o : Out} (hL : Lle L L') (h : exec1 g mid pc (.anewarray k) L S z = some o) : WK g mid pc (.anewarray k) L' S z o := by
  replace h : (match (generalizing := false) S with
    | .int n :: r => if n < 0 ∨ 100000 ≤ n.toNatClampNeg then none else nx (pc + 3) L (.ref z.1 :: r) (alloc z (200 + (g.2.1 mid pc).1) n.toNatClampNeg)
    | _ => none) = some o := h
  split at h
  · rename_i n r
    split at h
    · cases h
    · rename_i hn
      cases h
      refine WK.keep hL (fun c q => by cases q; rfl) ?_
      show (if n < 0 ∨ 100000 ≤ n.toNatClampNeg then none else nx (pc + 3) L' (.ref z.1 :: r) (alloc z (200 + (g.2.1 mid pc).1) n.toNatClampNeg)) = _
      rw [if_neg hn]; rfl
  · cases h
theorem wk_invokestatic {g : PG} {mid pc : Nat} {k : Nat} {L L' S : List Value} {z : SS} {o : Out} (hL : Lle L L') (h : exec1 g mid pc (.invokestatic k) L S z = some o) : WK g mid pc (.invokestatic k) L' S z o := by
  replace h : (if (g.2.1 mid pc).2.2.2 = 0 then (if (g.2.1 mid pc).2.1 ≤ S.length ∧ catS (S.drop (g.2.1 mid pc).2.1) ≤ 8 then some (.inr (.inr ((g.2.1 mid pc).1, (S.take (g.2.1 mid pc).2.1).reverse, S.drop (g.2.1 mid pc).2.1))) else none) else built g (g.2.1 mid pc).2.2.2 pc L S z : Option Out) = some o := h
  by_cases q0 : (g.2.1 mid pc).2.2.2 = 0
  · rw [if_pos q0] at h
    split at h
    · rename_i hq
      cases h
      refine WK.keep hL (fun c q => by cases q) ?_
      show (if (g.2.1 mid pc).2.2.2 = 0 then (if (g.2.1 mid pc).2.1 ≤ S.length ∧ catS (S.drop (g.2.1 mid pc).2.1) ≤ 8 then some (.inr (.inr ((g.2.1 mid pc).1, (S.take (g.2.1 mid pc).2.1).reverse, S.drop (g.2.1 mid pc).2.1))) else none) else built g (g.2.1 mid pc).2.2.2 pc L' S z : Option Out) = _
      rw [if_pos q0, if_pos hq]; rfl
    · cases h
  · rw [if_neg q0] at h
    refine WK.keep hL (fun c q => by subst q; exact built_L h) ?_
    show (if (g.2.1 mid pc).2.2.2 = 0 then (if (g.2.1 mid pc).2.1 ≤ S.length ∧ catS (S.drop (g.2.1 mid pc).2.1) ≤ 8 then some (.inr (.inr ((g.2.1 mid pc).1, (S.take (g.2.1 mid pc).2.1).reverse, S.drop (g.2.1 mid pc).2.1))) else none) else built g (g.2.1 mid pc).2.2.2 pc L' S z : Option Out) = _
    rw [if_neg q0]; exact built_wk _ _ _ L L' _ _ h
theorem wk_invokevirtual {g : PG} {mid pc : Nat} {k : Nat} {L L' S : List Value} {z : SS} {o : Out} (hL : Lle L L') (h : exec1 g mid pc (.invokevirtual k) L S z = some o) : WK g mid pc (.invokevirtual k) L' S z o := by
  replace h : (if (g.2.1 mid pc).2.2.2 = 0 then (match (generalizing := false) S.drop (g.2.1 mid pc).2.1 with
      | .ref c :: r => if catS r ≤ 8 ∧ c < z.1 ∧ (z.2.2.1 c).1 = (g.2.1 mid pc).2.2.1 then some (.inr (.inr ((g.2.1 mid pc).1, .ref c :: (S.take (g.2.1 mid pc).2.1).reverse, r))) else none
      | _ => none) else built g (g.2.1 mid pc).2.2.2 pc L S z : Option Out) = some o := h
  by_cases q0 : (g.2.1 mid pc).2.2.2 = 0
  · rw [if_pos q0] at h
    split at h
    · rename_i hS
      split at h
      · rename_i hq
        cases h
        refine WK.keep hL (fun c q => by cases q) ?_
        show (if (g.2.1 mid pc).2.2.2 = 0 then (match (generalizing := false) S.drop (g.2.1 mid pc).2.1 with
      | .ref c :: r => if catS r ≤ 8 ∧ c < z.1 ∧ (z.2.2.1 c).1 = (g.2.1 mid pc).2.2.1 then some (.inr (.inr ((g.2.1 mid pc).1, .ref c :: (S.take (g.2.1 mid pc).2.1).reverse, r))) else none
      | _ => none) else built g (g.2.1 mid pc).2.2.2 pc L' S z : Option Out) = _
        rw [if_pos q0, hS]
        dsimp only
        rw [if_pos hq]; rfl
      · cases h
    · cases h
  · rw [if_neg q0] at h
    refine WK.keep hL (fun c q => by subst q; exact built_L h) ?_
    show (if (g.2.1 mid pc).2.2.2 = 0 then (match (generalizing := false) S.drop (g.2.1 mid pc).2.1 with
      | .ref c :: r => if catS r ≤ 8 ∧ c < z.1 ∧ (z.2.2.1 c).1 = (g.2.1 mid pc).2.2.1 then some (.inr (.inr ((g.2.1 mid pc).1, .ref c :: (S.take (g.2.1 mid pc).2.1).reverse, r))) else none
      | _ => none) else built g (g.2.1 mid pc).2.2.2 pc L' S z : Option Out) = _
    rw [if_neg q0]; exact built_wk _ _ _ L L' _ _ h
theorem wk_invokespecial {g : PG} {mid pc : Nat} {k : Nat} {L L' S : List Value} {z : SS} {o : Out} (hL : Lle L L') (h : exec1 g mid pc (.invokespecial k) L S z = some o) : WK g mid pc (.invokespecial k) L' S z o := by
  replace h : (if (g.2.1 mid pc).2.2.2 = 0 then (match (generalizing := false) S.drop (g.2.1 mid pc).2.1 with
      | .ref c :: r => if catS r ≤ 8 ∧ c < z.1 ∧ (z.2.2.1 c).1 = (g.2.1 mid pc).2.2.1 then some (.inr (.inr ((g.2.1 mid pc).1, .ref c :: (S.take (g.2.1 mid pc).2.1).reverse, r))) else none
      | _ => none) else built g (g.2.1 mid pc).2.2.2 pc L S z : Option Out) = some o := h
  by_cases q0 : (g.2.1 mid pc).2.2.2 = 0
  · rw [if_pos q0] at h
    split at h
    · rename_i hS
      split at h
      · rename_i hq
        cases h
        refine WK.keep hL (fun c q => by cases q) ?_
        show (if (g.2.1 mid pc).2.2.2 = 0 then (match (generalizing := false) S.drop (g.2.1 mid pc).2.1 with
      | .ref c :: r => if catS r ≤ 8 ∧ c < z.1 ∧ (z.2.2.1 c).1 = (g.2.1 mid pc).2.2.1 then some (.inr (.inr ((g.2.1 mid pc).1, .ref c :: (S.take (g.2.1 mid pc).2.1).reverse, r))) else none
      | _ => none) else built g (g.2.1 mid pc).2.2.2 pc L' S z : Option Out) = _
        rw [if_pos q0, hS]
        dsimp only
        rw [if_pos hq]; rfl
      · cases h
    · cases h
  · rw [if_neg q0] at h
    refine WK.keep hL (fun c q => by subst q; exact built_L h) ?_
    show (if (g.2.1 mid pc).2.2.2 = 0 then (match (generalizing := false) S.drop (g.2.1 mid pc).2.1 with
      | .ref c :: r => if catS r ≤ 8 ∧ c < z.1 ∧ (z.2.2.1 c).1 = (g.2.1 mid pc).2.2.1 then some (.inr (.inr ((g.2.1 mid pc).1, .ref c :: (S.take (g.2.1 mid pc).2.1).reverse, r))) else none
      | _ => none) else built g (g.2.1 mid pc).2.2.2 pc L' S z : Option Out) = _
    rw [if_neg q0]; exact built_wk _ _ _ L L' _ _ h
theorem wk_ireturn {g : PG} {mid pc : Nat} {L L' S : List Value} {z : SS} {o : Out} (hL : Lle L L') (h : exec1 g mid pc .ireturn L S z = some o) : WK g mid pc .ireturn L' S z o := by
  unfold exec1 at h
  dsimp only at h
  split at h
  · split at h
    · rename_i hq
      cases h
      refine WK.keep hL (fun c q => by cases q) ?_
      unfold exec1
      dsimp only
      rw [if_pos hq]; rfl
    · cases h
  · cases h
theorem wk_lreturn {g : PG} {mid pc : Nat} {L L' S : List Value} {z : SS} {o : Out} (hL : Lle L L') (h : exec1 g mid pc .lreturn L S z = some o) : WK g mid pc .lreturn L' S z o := by
  unfold exec1 at h
  dsimp only at h
  split at h
  · split at h
    · rename_i hq
      cases h
      refine WK.keep hL (fun c q => by cases q) ?_
      unfold exec1
      dsimp only
      rw [if_pos hq]; rfl
    · cases h
  · cases h
theorem wk_areturn {g : PG} {mid pc : Nat} {L L' S : List Value} {z : SS} {o : Out} (hL : Lle L L') (h : exec1 g mid pc .areturn L S z = some o) : WK g mid pc .areturn L' S z o := by
  unfold exec1 at h
  dsimp only at h
  split at h
  · split at h
    · rename_i hq
      cases h
      refine WK.keep hL (fun c q => by cases q) ?_
      unfold exec1
      dsimp only
      rw [if_pos hq]; rfl
    · cases h
  · cases h
theorem wk_return_ {g : PG} {mid pc : Nat} {L L' S : List Value} {z : SS} {o : Out} (hL : Lle L L') (h : exec1 g mid pc .return_ L S z = some o) : WK g mid pc .return_ L' S z o := by
  unfold exec1 at h
  dsimp only at h
  split at h
  · split at h
    · rename_i hq
      cases h
      refine WK.keep hL (fun c q => by cases q) ?_
      unfold exec1
      dsimp only
      rw [if_pos hq]; rfl
    · cases h
  · cases h
set_option maxHeartbeats 4000000 in
theorem exec1_wk {g : PG} {mid pc : Nat} {i : Instr} {L L' S : List Value} {z : SS} {o : Out} (hL : Lle L L') (h : exec1 g mid pc i L S z = some o) : WK g mid pc i L' S z o := by
  cases i with
  | iload_n k => exact WK.ld hL (fun _ => rfl) h
  | iload k => exact WK.ld hL (fun _ => rfl) h
  | lload_n k => exact WK.ld hL (fun _ => rfl) h
  | lload k => exact WK.ld hL (fun _ => rfl) h
  | aload_n k => exact WK.ld hL (fun _ => rfl) h
  | aload k => exact WK.ld hL (fun _ => rfl) h
  | istore_n k => exact WK.sto hL (fun _ => rfl) h
  | istore k => exact WK.sto hL (fun _ => rfl) h
  | lstore_n k => exact WK.sto hL (fun _ => rfl) h
  | lstore k => exact WK.sto hL (fun _ => rfl) h
  | astore_n k => exact WK.sto hL (fun _ => rfl) h
  | astore k => exact WK.sto hL (fun _ => rfl) h
  | iinc k n =>
    replace h : (match L[k]? with
      | some (.int x) => nx (pc + 3) (stL L k (.int (x + Int32.ofInt n))) S z
      | _ => none) = some o := h
    split at h
    · rename_i x hx
      cases h
      refine ⟨stL L' k (.int (x + Int32.ofInt n)), fun c q => by cases q; exact hL.st _ _, ?_⟩
      show (match L'[k]? with
        | some (.int x) => nx (pc + 3) (stL L' k (.int (x + Int32.ofInt n))) S z
        | _ => none) = _
      rw [hL.at k hx (fun q => by cases q)]
      rfl
    · cases h
  | iaload => exact WK.keep hL (fun c q => by subst q; exact ald_L (g := g) (ty := 0) (pc := pc) (S := S) (z := z) h) (ald_wk g 0 pc L L' S z h)
  | baload => exact WK.keep hL (fun c q => by subst q; exact ald_L (g := g) (ty := 1) (pc := pc) (S := S) (z := z) h) (ald_wk g 1 pc L L' S z h)
  | laload => exact WK.keep hL (fun c q => by subst q; exact ald_L (g := g) (ty := 2) (pc := pc) (S := S) (z := z) h) (ald_wk g 2 pc L L' S z h)
  | aaload => exact WK.keep hL (fun c q => by subst q; exact ald_L (g := g) (ty := 3) (pc := pc) (S := S) (z := z) h) (ald_wk g 3 pc L L' S z h)
  | iastore => exact WK.keep hL (fun c q => by subst q; exact ast_L (ty := 0) (pc := pc) (S := S) (z := z) h) (ast_wk 0 pc L L' S z h)
  | bastore => exact WK.keep hL (fun c q => by subst q; exact ast_L (ty := 1) (pc := pc) (S := S) (z := z) h) (ast_wk 1 pc L L' S z h)
  | lastore => exact WK.keep hL (fun c q => by subst q; exact ast_L (ty := 2) (pc := pc) (S := S) (z := z) h) (ast_wk 2 pc L L' S z h)
  | aastore => exact WK.keep hL (fun c q => by subst q; exact ast_L (ty := 3) (pc := pc) (S := S) (z := z) h) (ast_wk 3 pc L L' S z h)
  | iconst _ => exact wk_iconst hL h
  | bipush _ => exact wk_bipush hL h
  | sipush _ => exact wk_sipush hL h
  | lconst _ => exact wk_lconst hL h
  | getstatic _ => exact wk_getstatic hL h
  | goto _ => exact wk_goto hL h
  | new _ => exact wk_new hL h
  | iadd => exact wk_iadd hL h
  | isub => exact wk_isub hL h
  | imul => exact wk_imul hL h
  | iand => exact wk_iand hL h
  | ior => exact wk_ior hL h
  | ixor => exact wk_ixor hL h
  | ishl => exact wk_ishl hL h
  | ishr => exact wk_ishr hL h
  | iushr => exact wk_iushr hL h
  | ladd => exact wk_ladd hL h
  | lsub => exact wk_lsub hL h
  | lmul => exact wk_lmul hL h
  | land => exact wk_land hL h
  | lor => exact wk_lor hL h
  | ineg => exact wk_ineg hL h
  | lneg => exact wk_lneg hL h
  | lshl => exact wk_lshl hL h
  | lcmp => exact wk_lcmp hL h
  | i2l => exact wk_i2l hL h
  | l2i => exact wk_l2i hL h
  | i2b => exact wk_i2b hL h
  | dup => exact wk_dup hL h
  | dup2 => exact wk_dup2 hL h
  | ifCond _ _ => exact wk_ifCond hL h
  | if_icmp _ _ => exact wk_if_icmp hL h
  | tableswitch _ _ _ _ => exact wk_tableswitch hL h
  | idiv => exact wk_idiv hL h
  | irem => exact wk_irem hL h
  | ldc _ => exact wk_ldc hL h
  | ldc_w _ => exact wk_ldc_w hL h
  | ldc2_w _ => exact wk_ldc2_w hL h
  | getfield _ => exact wk_getfield hL h
  | putfield _ => exact wk_putfield hL h
  | arraylength => exact wk_arraylength hL h
  | newarray _ => exact wk_newarray hL h
  | anewarray _ => exact wk_anewarray hL h
  | invokestatic _ => exact wk_invokestatic hL h
  | invokevirtual _ => exact wk_invokevirtual hL h
  | invokespecial _ => exact wk_invokespecial hL h
  | ireturn => exact wk_ireturn hL h
  | lreturn => exact wk_lreturn hL h
  | areturn => exact wk_areturn hL h
  | return_ => exact wk_return_ hL h
  | _ => cases h
