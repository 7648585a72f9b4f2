/-! The calls that are one step: Math.min, Math.max, System.arraycopy, Object's constructor. -/
def okB (Ts : List Cond) (own : String) (idx b : Nat) : Prop :=
  (b = 1 → Cond.methodLink own idx Lib.Math.min.name ∈ Ts ∧ Cond.static Lib.Math.min.name ∈ Ts ∧ Cond.initialized "java/lang/Math" ∈ Ts ∧ Cond.code Lib.Math.min.name Lib.Math.min.code 2 (some .int) ∈ Ts) ∧
  (b = 2 → Cond.methodLink own idx Lib.Math.max.name ∈ Ts ∧ Cond.static Lib.Math.max.name ∈ Ts ∧ Cond.initialized "java/lang/Math" ∈ Ts ∧ Cond.code Lib.Math.max.name Lib.Math.max.code 2 (some .int) ∈ Ts) ∧
  (b = 3 → Cond.methodLink own idx Lib.MathLoose.min_long.x ∈ Ts ∧ Cond.static Lib.MathLoose.min_long.x ∈ Ts ∧ Cond.initialized "java/lang/Math" ∈ Ts ∧ Cond.code Lib.MathLoose.min_long.x Lib.MathLoose.min_long.code 4 (some .long) ∈ Ts) ∧
  (b = 4 → Cond.methodLink own idx Lib.MathLoose.max_long.x ∈ Ts ∧ Cond.static Lib.MathLoose.max_long.x ∈ Ts ∧ Cond.initialized "java/lang/Math" ∈ Ts ∧ Cond.code Lib.MathLoose.max_long.x Lib.MathLoose.max_long.code 4 (some .long) ∈ Ts) ∧
  (b = 5 → Cond.methodLink own idx arraycopyName ∈ Ts ∧ Cond.native arraycopyName ∈ Ts ∧ Cond.static arraycopyName ∈ Ts ∧ Cond.initialized "java/lang/System" ∈ Ts) ∧
  (b = 8 → Cond.methodLink own idx objectInit ∈ Ts ∧ Cond.instanceMethod objectInit ∈ Ts ∧ Cond.code objectInit ⟨#[0xb1]⟩ 1 none ∈ Ts)
section SD
variable {p : Program} {l : Launch} {e : Env} {R : Room} {s : State} {m : MethodId} {args : Array Value} {below : List Frame} {meth : Method} {c : Code} {H : Heap} {locs : List Loc} {cells slots : Nat} {Q : State → Prop} {cc : ByteArray}
variable {D : va_G} {cl : List vw_C} {nm : Nat → String} {g : PG} {al : Nat → Nat} {cy : Nat → ClassId} {sp : Nat → Nat} {A : Nat → Prop} {z : SS} {Ts : List Cond} {own : String} {pc : Nat} {ls : Array Slot} {rest : List Value}
theorem bool_fits {x : Int32} (h : x = 0 ∨ x = 1) : fits .boolean (.int x) = true := by rcases h with rfl | rfl <;> rfl
theorem one_R (z : SS) (c : Nat) (f : Nat → Int32) : one z (z.1, z.2.1, z.2.2.1, upR z.2.2.2.1 c f, z.2.2.2.2) c := ⟨rfl, rfl, rfl, fun j h => ⟨upR_ne h, rfl, rfl⟩⟩
theorem WF_R {z : SS} {c0 : Nat} {f : Nat → Int32} (h : WF cl z) (hv : (z.2.2.1 c0).1 = 101 → ∀ k, f k = 0 ∨ f k = 1) : WF cl (z.1, z.2.1, z.2.2.1, upR z.2.2.2.1 c0 f, z.2.2.2.2) := by
  obtain ⟨h1, h2, h3⟩ := h
  refine ⟨h1, fun c' k' hc hk => ?_, h3⟩
  show upR z.2.2.2.1 c0 f c' k' = 0 ∨ upR z.2.2.2.1 c0 f c' k' = 1
  by_cases q : c' = c0
  · subst q; rw [upR_at]; exact hv hk k'
  · rw [upR_ne q]; exact h2 _ _ hc hk
theorem sd_static (hW : Wd D cl nm g al cy sp A z s H locs) (hx : p.tables.exec = Jvm.exec) (hb : c.code = cc) (hts : ∀ w ∈ Ts, w.before args s = true) (hown : s.vm.findClass own = some m.cls) (hml : c.maxLocals = ls.size) {b idx : Nat} (hB : okB Ts own idx b) (hb5 : b ≤ 5) (hfr : 1 ≤ R.frames) (hlo : 60 ≤ R.locals) (hce : cells ≤ R.cells) (hsl : slots ≤ R.slots)
    {L S : List Value} {o : Cfg} (hd : decode cc pc = .ok (.invokestatic idx, 3)) (h : built g b pc L S z = some (.inl o))
    (kk : ∀ (z' : SS) (S' : List Value) (H1 : Heap) (locs1 : List Loc), o = (pc + 3, L, S', z') → z'.1 = z.1 → z'.2.1 = z.2.1 → (∀ v ∈ S', v ∈ S ∨ vOK 0 v) → Wd D cl nm g al cy sp A z' s H1 locs1 → W p l e R s m args below meth c H1 locs1 cells slots Q (F0 m (pc + 3) ls (S'.map (tV al sp)))) :
    W p l e R s m args below meth c H locs cells slots Q (F0 m pc ls (S.map (tV al sp))) := by
  unfold built at h
  obtain ⟨b1, b2, b3, b4, b5, -⟩ := hB
  have hcat : ∀ {r : List Value}, catS r ≤ 8 → ((r.map (tV al sp)).map fun v => v.category).sum ≤ 8 := fun q => cat_sum4 q
  split at h
  · split at h
    · rename_i hr
      cases h
      obtain ⟨w1, w2, w3, w4⟩ := b1 rfl
      have := hcat hr
      exact va_mmin hx hb hml hown (hts _ w1) (hts _ w2) (hts _ w3) (hts _ w4) hfr (by omega) hce hsl hd (kk _ _ H locs rfl rfl rfl (fun v hv => by
        rcases List.mem_cons.mp hv with rfl | hv
        · exact Or.inr trivial
        · exact Or.inl (List.mem_cons_of_mem _ (List.mem_cons_of_mem _ hv))) hW)
    · cases h
  · split at h
    · rename_i hr
      cases h
      obtain ⟨w1, w2, w3, w4⟩ := b2 rfl
      have := hcat hr
      exact va_mmax hx hb hml hown (hts _ w1) (hts _ w2) (hts _ w3) (hts _ w4) hfr (by omega) hce hsl hd (kk _ _ H locs rfl rfl rfl (fun v hv => by
        rcases List.mem_cons.mp hv with rfl | hv
        · exact Or.inr trivial
        · exact Or.inl (List.mem_cons_of_mem _ (List.mem_cons_of_mem _ hv))) hW)
    · cases h
  · split at h
    · rename_i hr
      cases h
      obtain ⟨w1, w2, w3, w4⟩ := b3 rfl
      have := hcat hr
      exact va_mmin_long hx hb hml hown (hts _ w1) (hts _ w2) (hts _ w3) (hts _ w4) hfr (by omega) hce hsl hd (kk _ _ H locs rfl rfl rfl (fun v hv => by
        rcases List.mem_cons.mp hv with rfl | hv
        · exact Or.inr trivial
        · exact Or.inl (List.mem_cons_of_mem _ (List.mem_cons_of_mem _ hv))) hW)
    · cases h
  · split at h
    · rename_i hr
      cases h
      obtain ⟨w1, w2, w3, w4⟩ := b4 rfl
      have := hcat hr
      exact va_mmax_long hx hb hml hown (hts _ w1) (hts _ w2) (hts _ w3) (hts _ w4) hfr (by omega) hce hsl hd (kk _ _ H locs rfl rfl rfl (fun v hv => by
        rcases List.mem_cons.mp hv with rfl | hv
        · exact Or.inr trivial
        · exact Or.inl (List.mem_cons_of_mem _ (List.mem_cons_of_mem _ hv))) hW)
    · cases h
  · rename_i n dp d sp0 s0 r
    split at h
    · rename_i hr
      obtain ⟨hr, hd0, hs0, hkd, hks, q1, q2, q3, q4, q5⟩ := hr
      cases h
      obtain ⟨w1, w2, w3, w4⟩ := b5 rfl
      have := hcat hr
      have hW0 := hW
      obtain ⟨k1, k2, hP, hD, hS, k6, k7, k8⟩ := hW
      have he1 := wl_get (f := fun c => (al c, cE g.2.2.2.2.2.1 al cy z c)) hd0
      have he0 := wl_get (f := fun c => (al c, cE g.2.2.2.2.2.1 al cy z c)) hs0
      have hkd3 : (z.2.2.1 d).1 = 100 ∨ (z.2.2.1 d).1 = 101 ∨ (z.2.2.1 d).1 = 102 := by omega
      have hks3 : (z.2.2.1 s0).1 = 100 ∨ (z.2.2.1 s0).1 = 101 ∨ (z.2.2.1 s0).1 = 102 := by omega
      rw [cE_int hkd3] at he1
      rw [cE_int hks3] at he0
      have hKK : va_K D cl [(cy s0, aT nm (z.2.2.1 d).1), (cy d, aT nm (z.2.2.1 d).1)] s := (hW0.KA hs0 (by omega) (ty := aT nm (z.2.2.1 d).1) (by rw [hks])).app (hW0.KA hd0 (by omega) rfl)
      have hprim : refKind (aT nm (z.2.2.1 d).1) = false := by
        rcases hkd with q | q <;> rw [q] <;> rfl
      have hfit : ∀ i, i < n.toNatClampNeg → fits (aT nm (z.2.2.1 d).1) (.int (z.2.2.2.1 s0 (sp0.toNatClampNeg + i))) = true := by
        intro i _
        rcases hkd with q | q
        · rw [q]; rfl
        · rw [q]; exact bool_fits (k8.2.1 _ _ hs0 (by rw [hks, q]))
      refine va_copyi hx hb hml hown (hts _ w1) (hts _ w2) (hts _ w3) (hts _ w4) hKK hP hD hS s0 d 0 1 he0 he1 rfl rfl hprim q1 q2 q3 q4 q5 hfit hfr ?_ hd (fun H1 l1 a1 a2 a3 => kk _ _ H1 l1 rfl rfl rfl (fun v hv => Or.inl ?_) (hW0.wr (one_R _ _ _) hd0 ?_ (WF_R k8 (fun q k => ?_)) a1 a2 a3))
      · have : nativeFrameWords "java/lang/System" "arraycopy" 5 = 7 := by decide +kernel
        omega
      · exact List.mem_cons_of_mem _ (List.mem_cons_of_mem _ (List.mem_cons_of_mem _ (List.mem_cons_of_mem _ (List.mem_cons_of_mem _ hv))))
      · rw [cE_int (z := (z.1, z.2.1, z.2.2.1, upR z.2.2.2.1 d _, z.2.2.2.2)) hkd3]
        show (Sum.inl (cy d, (z.2.2.1 d).2, .inl (upR z.2.2.2.1 d _ d)) : va_E) = _
        rw [upR_at]
      · unfold va_cpy
        split
        · exact k8.2.1 _ _ hs0 (by rw [hks]; exact q)
        · exact k8.2.1 _ _ hd0 q
    · cases h
  · omega
  · omega
  · omega
  · cases h
theorem sd_obj (hx : p.tables.exec = Jvm.exec) (hb : c.code = cc) (hts : ∀ w ∈ Ts, w.before args s = true) (hown : s.vm.findClass own = some m.cls) (hml : c.maxLocals = ls.size) {idx : Nat} (hB : okB Ts own idx 8) (hfr : 1 ≤ R.frames) (hlo : 60 ≤ R.locals)
    {L S : List Value} {o : Cfg} (hd : decode cc pc = .ok (.invokespecial idx, 3)) (h : built g 8 pc L S z = some (.inl o))
    (kk : ∀ (S' : List Value), o = (pc + 3, L, S', z) → (∀ v ∈ S', v ∈ S) → W p l e R s m args below meth c H locs cells slots Q (F0 m (pc + 3) ls (S'.map (tV al sp)))) :
    W p l e R s m args below meth c H locs cells slots Q (F0 m pc ls (S.map (tV al sp))) := by
  obtain ⟨-, -, -, -, -, w⟩ := hB
  obtain ⟨w1, w2, w3⟩ := w rfl
  unfold built at h
  split at h
  all_goals first | (exfalso; omega) | skip
  · rename_i a r _
    split at h
    · rename_i hr
      cases h
      have := cat_sum4 (al := al) (sp := sp) hr
      have h2 := lv_room (m := m) (pc := pc) (ls := ls) (rest := (Value.ref a :: r).map (tV al sp)) this
      exact W.objInit hx hb hown (hts _ w1) (hts _ w2) (hts _ w3) rfl hml.symm rfl hd hfr (by omega) (kk _ rfl (fun v hv => List.mem_cons_of_mem _ hv))
    · cases h
  · cases h
end SD
