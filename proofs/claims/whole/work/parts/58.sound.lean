/-! What the small machine runs, the machine runs. -/
def GOOD (Ts Nw : List Cond) (AO : List String) (cl : List vw_C) (nm : Nat → String) (g : PG) (mY : Nat → MethodName) (mC : Nat → ByteArray) (rT : Nat → Option FieldType) : Prop :=
  okCl Ts g.2.2.2.2.2.1 cl ∧ (∀ (ci : Nat) (q : vw_C), cl[ci]? = some q → nm ci = q.1) ∧ (∀ w ∈ Ts, goodWord w = true) ∧
  ∀ (mid pc : Nat) (i : Instr) (ln : Nat), g.1 mid pc = some (i, ln) → decode (mC mid) pc = .ok (i, ln) ∧ lnOK i ln ∧ okP Ts Nw AO cl nm g (mY mid).cls (mY mid).name mid pc i ∧ okQ Ts Nw cl g mY mC rT (mY mid).cls mid pc i
set_option maxHeartbeats 2000000 in
theorem sound {l : Launch} {D : va_G} {cl : List vw_C} {nm : Nat → String} {g : PG} {sp : Nat → Nat} {Ts Nw : List Cond} {AO : List String} {mY : Nat → MethodName} {mC : Nat → ByteArray} {rT : Nat → Option FieldType} {SX : (Nat → Prop) → State → Prop} (hG : GOOD Ts Nw AO cl nm g mY mC rT) (hSX : SXok l Ts Nw AO g sp mY mC SX) :
    ∀ (f d mid : Nat) (cf : Cfg) (r : Option Value × SS), RR g f d mid cf = some r → GoesW l D cl nm g sp Ts mY mC SX d mid cf r := by
  obtain ⟨hC, hN, hTs, hI⟩ := hG
  intro f
  induction f with
  | zero => intro d mid cf r h; cases h
  | succ f ih =>
    intro d mid cf r h p e R s m args below meth c H locs cells slots Q ls al cy A hc hfr hlo hce hsl hW hE hL hv hret
    unfold RR at h
    split at h
    · rename_i c' hs
      unfold step at hs
      split at hs
      · rename_i i ln hg
        obtain ⟨hd, hln, hp, hq⟩ := hI _ _ _ _ hg
        have m1 := exec1_mono hs
        have m2 := RR_mono f d mid c' r h
        refine sd_step hC hN hSX hc hW hE hg hd hln hp hs hL hv (by omega) (by omega) (by omega) (by omega) (fun al' cy' H1 l1 ls' hext hW1 hL1 hv1 => ?_)
        refine ih d mid c' r h p e R s m args below meth c H1 l1 _ _ Q ls' al' cy' A hc hfr hlo (by omega) (by omega) hW1 hE hL1 hv1 (fun al2 cy2 H2 l2 pc2 ls2 hext2 hW2 hr hvk hdec => ?_)
        have k := hret al2 cy2 H2 l2 pc2 ls2 (ext_tr hext m1.1 hext2) hW2 hr hvk hdec
        have e1 : cells + (c'.2.2.2.1 - cf.2.2.2.1) + (r.2.1 - c'.2.2.2.1) = cells + (r.2.1 - cf.2.2.2.1) := by omega
        have e2 : slots + (c'.2.2.2.2.1 - cf.2.2.2.2.1) + (r.2.2.1 - c'.2.2.2.2.1) = slots + (r.2.2.1 - cf.2.2.2.2.1) := by omega
        rw [e1, e2]
        exact k
      · cases hs
    · rename_i r' hs
      unfold step at hs
      split at hs
      · rename_i i ln hg
        cases h
        obtain ⟨hd, hln, -, -⟩ := hI _ _ _ _ hg
        obtain ⟨e1, e2, e3, e4⟩ := ret_inv hs
        obtain ⟨v0, z'⟩ := r
        dsimp only at e1 e2 e3 e4 hret
        subst e1
        subst e2
        have hln' : ln = 1 := by
          cases v0 with
          | none => exact hln
          | some w => cases w <;> exact hln
        subst hln'
        have k := hret al cy H locs cf.1 ls (ext_rf _ _ _) hW e4 (fun v hq => hv.2 v (by rw [e3, hq]; exact List.mem_cons_self)) hd
        rw [Nat.sub_self, Nat.sub_self, Nat.add_zero, Nat.add_zero] at k
        rw [e3]
        exact k
      · cases hs
    · rename_i cm as rest hs
      unfold step at hs
      split at hs
      · rename_i i ln hg
        obtain ⟨hd, hln, hp, hq⟩ := hI _ _ _ _ hg
        have hcall := call_inv hs
        have hln3 : ln = 3 := by
          rcases hcall.2.2.2 with ⟨idx, rfl, -⟩ | ⟨idx, b0, as', rfl | rfl, -⟩
          · exact hln
          · exact hln
          · exact hln
        subst hln3
        split at h
        · cases h
        · rename_i d'
          split at h
          · rename_i hlen
            split at h
            · rename_i r' hr'
              have hgo := ih _ _ _ _ hr'
              have m1 := RR_mono _ _ _ _ _ hr'
              have m2 := RR_mono _ _ _ _ _ h
              dsimp only at m1 m2
              refine sd_call hTs hSX hc hW hE hcall hd hq hgo hlen hL hv (by omega) (by omega) (by omega) (by omega) (fun al' cy' H1 l1 hext hW1 hvk hrest => ?_)
              refine ih (d' + 1) mid _ r h p e R s m args below meth c H1 l1 _ _ Q ls al' cy' A hc hfr hlo (by dsimp only; omega) (by dsimp only; omega) hW1 hE (LR_ext hext hv.1 hL) ⟨fun v q => vOK_mono m1.1 (hv.1 v q), fun v q => ?_⟩ (fun al2 cy2 H2 l2 pc2 ls2 hext2 hW2 hr hvk2 hdec => ?_)
              · rcases List.mem_append.mp q with q | q
                · refine hvk v ?_
                  revert q
                  cases r'.1 with
                  | none => intro q; cases q
                  | some w => intro q; rw [List.mem_singleton.mp q]
                · exact vOK_mono m1.1 (hv.2 v (hrest v q))
              · have k := hret al2 cy2 H2 l2 pc2 ls2 (ext_tr hext m1.1 hext2) hW2 hr hvk2 hdec
                dsimp only
                have e1 : cells + (r'.2.1 - cf.2.2.2.1) + (r.2.1 - r'.2.1) = cells + (r.2.1 - cf.2.2.2.1) := by omega
                have e2 : slots + (r'.2.2.1 - cf.2.2.2.2.1) + (r.2.2.1 - r'.2.2.1) = slots + (r.2.2.1 - cf.2.2.2.2.1) := by omega
                rw [e1, e2]
                exact k
            · cases h
          · cases h
      · cases hs
    · cases h
