/-! What holds of the machine at every TOKEN. -/
def BNq (N p : Nat) (st sd : Int) (ws : List Int) (br mi : Nat) (cu : Cd) (cl : List (Int × Cd)) (hc : Int) : Prop := p ≤ N ∧ (cu ++ fl cl).length + ws.length + mi ≤ p ∧ wsO ws ∧ brC ws = br ∧ br + mi ≤ 8 ∧ cl.length ≤ 10 ∧ (st ≠ 0 → cl.length < 10) ∧ (0 ≤ st ∧ st ≤ 4) ∧ (st = 2 ∨ st = 3 → 0 ≤ sd ∧ sd ≤ 2) ∧ (-1 ≤ hc ∧ hc ≤ 10)
def BNs (N : Nat) (s : PMt) : Prop := BNq N s.1 s.2.1 s.2.2.1 s.2.2.2.1 s.2.2.2.2.1 s.2.2.2.2.2.1 s.2.2.2.2.2.2.1 s.2.2.2.2.2.2.2.1 s.2.2.2.2.2.2.2.2.2
section BN
variable {N p T : Nat} {k v sd : Int} {ws : List Int} {br mi : Nat} {cu : Cd} {cl : List (Int × Cd)} {kd hc : Int} {s' : PMt}
theorem rl_fa {l : Int} (h1 : 1 ≤ l) (ho : wsO ws) : wsO (rl l ws cu).1 ∧ brC (rl l ws cu).1 = brC ws ∧ (rl l ws cu).1.length + ((rl l ws cu).2 ++ fl cl).length = ws.length + (cu ++ fl cl).length := by
  refine ⟨fun o q => ho o (relP_sub ws cu o q), br_rw (decide_eq_false (by have : rkO 40 = 0 := rfl; omega)) ws cu, ?_⟩
  have := (relP_len (P := fun o => decide (l ≤ rkO o)) ws cu).1
  rw [List.length_append, List.length_append]
  unfold rl
  omega
theorem wsO.co {o : Int} {l : List Int} (h : wsO l) (ho : (3 ≤ o ∧ o ≤ 5) ∨ (10 ≤ o ∧ o ≤ 15) ∨ o = 21 ∨ o = 22 ∨ o = 40) : wsO (o :: l) := fun x hx => by
  rcases List.mem_cons.mp hx with e | e
  · rw [e]; exact ho
  · exact h x e
theorem bn_ask (hl : (cu ++ fl cl).length + ws.length + mi ≤ p) (hT : p < T ∧ T ≤ N) (ho : wsO ws) (hbr : brC ws = br) (hbm : br + mi ≤ 8) (hcl : cl.length < 10) (hhc : -1 ≤ hc ∧ hc ≤ 10) (h : fAsk k T sd ws br mi cu cl kd hc = (s', 0)) : BNs N s' ∧ s'.1 = T := by
  unfold fAsk at h
  by_cases c78 : k = 7 ∨ k = 8
  · rw [if_pos c78] at h
    obtain ⟨h1, -⟩ := Prod.mk.inj h
    subst h1
    obtain ⟨o1, o2⟩ := op_cc (k := k) (by omega)
    have hcr := cc_rg (o := opT k) (by omega)
    obtain ⟨g1, g2, g3⟩ := rl_fa (l := rkO (opT k)) (cu := cu) (cl := cl) (by omega) ho
    refine ⟨?_, rfl⟩
    show BNq N T 1 sd (opT k :: (rl (rkO (opT k)) ws cu).1) br mi (rl (rkO (opT k)) ws cu).2 cl hc
    refine ⟨by omega, by rw [List.length_cons]; omega, g1.co (by omega), by rw [brC, if_neg (by omega), g2]; exact hbr, hbm, by omega, fun _ => hcl, by decide, fun z => by omega, hhc⟩
  · rw [if_neg c78] at h
    obtain ⟨g1, g2, g3⟩ := rl_fa (l := 1) (cu := cu) (cl := cl) (by decide) ho
    by_cases c19 : k = 19 ∧ 0 < br
    · rw [if_pos c19] at h
      obtain ⟨h1, -⟩ := Prod.mk.inj h
      subst h1
      refine ⟨?_, rfl⟩
      show BNq N T 4 sd (rl 1 ws cu).1.tail (br - 1) mi (rl 1 ws cu).2 cl hc
      rcases relP_top (P := fun o => decide ((1 : Int) ≤ rkO o)) ws cu with hz | ⟨o, l, hz, hP⟩
      · have hz : (rl 1 ws cu).1 = [] := hz
        rw [hz] at g2
        have : brC [] = 0 := rfl
        omega
      · have hz : (rl 1 ws cu).1 = o :: l := hz
        have hP := of_decide_eq_false hP
        rw [hz] at g1 g2 g3 ⊢
        have ho1 := g1 o (List.mem_cons_self ..)
        have hcr := cc_rg ho1
        rw [brC, if_pos (by omega)] at g2
        rw [List.length_cons] at g3
        show BNq N T 4 sd l (br - 1) mi (rl 1 ws cu).2 cl hc
        refine ⟨by omega, by omega, fun x hx => g1 x (List.mem_cons_of_mem _ hx), by omega, by omega, by omega, fun _ => hcl, by decide, fun z => by omega, hhc⟩
    · rw [if_neg c19] at h
      by_cases c20 : k = 20 ∧ br = 0
      · rw [if_pos c20] at h
        obtain ⟨h1, -⟩ := Prod.mk.inj h
        subst h1
        refine ⟨?_, rfl⟩
        show BNq N T 0 sd (rl 1 ws cu).1 br mi [] ((kd, (rl 1 ws cu).2) :: cl) hc
        refine ⟨by omega, ?_, g1, by rw [g2]; exact hbr, hbm, by rw [List.length_cons]; omega, fun z => absurd rfl z, by decide, fun z => by omega, hhc⟩
        show ((rl 1 ws cu).2 ++ fl cl).length + (rl 1 ws cu).1.length + mi ≤ T
        omega
      · rw [if_neg c20] at h
        obtain ⟨-, h2⟩ := Prod.mk.inj h
        exact absurd h2 (by decide)
theorem bn_fone (hl : (cu ++ fl cl).length + ws.length + mi ≤ p) (hT : p < T ∧ T ≤ N) (ho : wsO ws) (hbr : brC ws = br) (hbm : br + mi ≤ 8) (hcl : cl.length < 10) (hsd : 0 ≤ sd ∧ sd ≤ 2) (hhc : -1 ≤ hc ∧ hc ≤ 10) (h : fOne k T sd ws br mi cu cl kd hc = (s', 0)) : BNs N s' ∧ s'.1 = T := by
  unfold fOne at h
  by_cases c15 : 15 ≤ k ∧ k ≤ 17
  · rw [if_pos c15] at h
    obtain ⟨h1, -⟩ := Prod.mk.inj h
    subst h1
    obtain ⟨o1, o2⟩ := op_cc (k := k) (by omega)
    have hcr := cc_rg (o := opT k) (by omega)
    obtain ⟨g1, g2, g3⟩ := rl_fa (l := rkO (opT k)) (cu := cu) (cl := cl) (by omega) ho
    refine ⟨?_, rfl⟩
    show BNq N T 2 sd (opT k :: (rl (rkO (opT k)) ws cu).1) br mi (rl (rkO (opT k)) ws cu).2 cl hc
    refine ⟨by omega, by rw [List.length_cons]; omega, g1.co (by omega), by rw [brC, if_neg (by omega), g2]; exact hbr, hbm, by omega, fun _ => hcl, by decide, fun _ => hsd, hhc⟩
  · rw [if_neg c15] at h
    by_cases c0 : sd = 0
    · rw [if_pos c0] at h
      by_cases c9 : 9 ≤ k ∧ k ≤ 14
      · rw [if_pos c9] at h
        obtain ⟨h1, -⟩ := Prod.mk.inj h
        subst h1
        obtain ⟨o1, o2⟩ := op_cc (k := k) (by omega)
        have hcr := cc_rg (o := opT k) (by omega)
        obtain ⟨g1, g2, g3⟩ := rl_fa (l := 3) (cu := cu) (cl := cl) (by decide) ho
        refine ⟨?_, rfl⟩
        show BNq N T 2 1 (opT k :: (rl 3 ws cu).1) br mi (rl 3 ws cu).2 cl hc
        refine ⟨by omega, by rw [List.length_cons]; omega, g1.co (by omega), by rw [brC, if_neg (by omega), g2]; exact hbr, hbm, by omega, fun _ => hcl, by decide, fun _ => by decide, hhc⟩
      · rw [if_neg c9] at h
        obtain ⟨-, h2⟩ := Prod.mk.inj h
        exact absurd h2 (by decide)
    · rw [if_neg c0] at h
      by_cases c1 : sd = 1 ∨ k = 20
      · rw [if_pos c1] at h
        exact bn_ask hl hT ho hbr hbm hcl hhc h
      · rw [if_neg c1] at h
        obtain ⟨-, h2⟩ := Prod.mk.inj h
        exact absurd h2 (by decide)
theorem bn_one (hl : (cu ++ fl cl).length + ws.length + mi ≤ p) (hT : p < T ∧ T ≤ N) (ho : wsO ws) (hbr : brC ws = br) (hbm : br + mi ≤ 8) (hcl : cl.length < 10) (hsd : 0 ≤ sd ∧ sd ≤ 2) (hhc : -1 ≤ hc ∧ hc ≤ 10) (h : sOne k v T sd ws br mi cu cl kd hc = (s', 0)) : BNs N s' ∧ s'.1 = T := by
  have val : ∀ x : Int × Int, BNs N (T, 3, sd, ws, br, 0, List.replicate mi (2, 0) ++ x :: cu, cl, kd, hc) := fun x => by
    show BNq N T 3 sd ws br 0 (List.replicate mi (2, 0) ++ x :: cu) cl hc
    have e : ((List.replicate mi ((2 : Int), (0 : Int)) ++ x :: cu) ++ fl cl).length = mi + 1 + (cu ++ fl cl).length := by
      rw [List.length_append, List.length_append, List.length_replicate, List.length_cons, List.length_append]; omega
    exact ⟨by omega, by rw [e]; omega, ho, hbr, by omega, by omega, fun _ => hcl, by decide, fun _ => hsd, hhc⟩
  unfold sOne at h
  by_cases c2 : k = 2
  · rw [if_pos c2] at h
    by_cases c9 : 9999 < v
    · rw [if_pos c9] at h
      obtain ⟨-, h2⟩ := Prod.mk.inj h
      exact absurd h2 (by decide)
    · rw [if_neg c9] at h
      obtain ⟨h1, -⟩ := Prod.mk.inj h
      subst h1
      exact ⟨val _, rfl⟩
  · rw [if_neg c2] at h
    by_cases c3 : k = 3
    · rw [if_pos c3] at h
      by_cases c8 : 8 ≤ v ∧ sd ≠ 2
      · rw [if_pos c8] at h
        obtain ⟨-, h2⟩ := Prod.mk.inj h
        exact absurd h2 (by decide)
      · rw [if_neg c8] at h
        obtain ⟨h1, -⟩ := Prod.mk.inj h
        subst h1
        exact ⟨val _, rfl⟩
    · rw [if_neg c3] at h
      by_cases c16 : k ≠ 16
      · rw [if_pos c16] at h
        obtain ⟨-, h2⟩ := Prod.mk.inj h
        exact absurd h2 (by decide)
      · rw [if_neg c16] at h
        by_cases c8 : 8 ≤ br + mi
        · rw [if_pos c8] at h
          obtain ⟨-, h2⟩ := Prod.mk.inj h
          exact absurd h2 (by decide)
        · rw [if_neg c8] at h
          obtain ⟨h1, -⟩ := Prod.mk.inj h
          subst h1
          refine ⟨?_, rfl⟩
          show BNq N T 2 sd ws br (mi + 1) cu cl hc
          exact ⟨by omega, by omega, ho, hbr, by omega, by omega, fun _ => hcl, by decide, fun _ => hsd, hhc⟩
theorem bn_sask (hl : (cu ++ fl cl).length + ws.length + mi ≤ p) (hT : p < T ∧ T ≤ N) (ho : wsO ws) (hbr : brC ws = br) (hbm : br + mi ≤ 8) (hcl : cl.length < 10) (hhc : -1 ≤ hc ∧ hc ≤ 10) (h : sAsk k v T sd ws br mi cu cl kd hc = (s', 0)) : BNs N s' ∧ s'.1 = T := by
  unfold sAsk at h
  by_cases c18 : k ≠ 18
  · rw [if_pos c18] at h
    exact bn_one hl hT ho hbr hbm hcl (by decide) hhc h
  · rw [if_neg c18] at h
    by_cases c8 : 8 ≤ br + mi
    · rw [if_pos c8] at h
      obtain ⟨-, h2⟩ := Prod.mk.inj h
      exact absurd h2 (by decide)
    · rw [if_neg c8] at h
      obtain ⟨h1, -⟩ := Prod.mk.inj h
      subst h1
      refine ⟨?_, rfl⟩
      show BNq N T 1 sd (40 :: ws) (br + 1) mi cu cl hc
      exact ⟨by omega, by rw [List.length_cons]; omega, ho.co (by omega), by rw [brC, if_pos rfl, hbr], by omega, by omega, fun _ => hcl, by decide, fun z => by omega, hhc⟩
theorem bn_cl (hl : (cu ++ fl cl).length + ws.length + mi ≤ p) (hT : p ≤ T ∧ T ≤ N) (ho : wsO ws) (hbr : brC ws = br) (hbm : br + mi ≤ 8) (hcl : cl.length ≤ 10) (hhc : -1 ≤ hc ∧ hc ≤ 10) (h : sCl k T sd ws br mi cu cl kd hc = (s', 0)) : BNs N s' ∧ s'.1 = T := by
  unfold sCl at h
  by_cases c0 : k = 0
  · rw [if_pos c0] at h
    obtain ⟨h1, -⟩ := Prod.mk.inj h
    subst h1
    refine ⟨?_, rfl⟩
    show BNq N T 0 sd ws br mi cu cl hc
    exact ⟨by omega, by omega, ho, hbr, hbm, hcl, fun z => absurd rfl z, by decide, fun z => by omega, hhc⟩
  · rw [if_neg c0] at h
    by_cases c46 : ¬ (4 ≤ k ∧ k ≤ 6)
    · rw [if_pos c46] at h
      obtain ⟨-, h2⟩ := Prod.mk.inj h
      exact absurd h2 (by decide)
    · rw [if_neg c46] at h
      by_cases c6 : k = 6 ∧ hc ≠ -1
      · rw [if_pos c6] at h
        obtain ⟨-, h2⟩ := Prod.mk.inj h
        exact absurd h2 (by decide)
      · rw [if_neg c6] at h
        by_cases c10 : 10 ≤ cl.length
        · rw [if_pos c10] at h
          obtain ⟨-, h2⟩ := Prod.mk.inj h
          exact absurd h2 (by decide)
        · rw [if_neg c10] at h
          by_cases z : k = 6
          · rw [if_pos z] at h
            obtain ⟨h1, -⟩ := Prod.mk.inj h
            subst h1
            refine ⟨?_, rfl⟩
            show BNq N T 2 2 ws br mi cu cl (cl.length : Int)
            exact ⟨by omega, by omega, ho, hbr, hbm, hcl, fun _ => by omega, by decide, fun _ => by decide, by omega⟩
          · rw [if_neg z] at h
            obtain ⟨h1, -⟩ := Prod.mk.inj h
            subst h1
            refine ⟨?_, rfl⟩
            show BNq N T 1 sd ws br mi cu cl hc
            exact ⟨by omega, by omega, ho, hbr, hbm, hcl, fun _ => by omega, by decide, fun z => by omega, hhc⟩
end BN
theorem lx_3L {b : Nat → Int} {N f : Nat} (h : lxK b N f = 3) : isL (b f) = true := by
  have hc := rk_lx (b := b) (N := N) (f := f)
  rcases hc with h | ⟨h0, ⟨h1, h2, h3⟩ | ⟨h1, h2, h3, h4⟩ | h⟩
  · omega
  · omega
  · exact h4
  · omega
section FV
variable {T : Nat} {k v sd : Int} {ws : List Int} {br mi : Nat} {cu : Cd} {cl : List (Int × Cd)} {kd hc : Int}
theorem fv_ask : 0 ≤ (fAsk k T sd ws br mi cu cl kd hc).2 ∧ (fAsk k T sd ws br mi cu cl kd hc).2 ≤ 6 ∧ (k = 0 → (fAsk k T sd ws br mi cu cl kd hc).2 = 1) := by
  unfold fAsk; (repeat' split) <;> (dsimp only; omega)
theorem fv_fone : 0 ≤ (fOne k T sd ws br mi cu cl kd hc).2 ∧ (fOne k T sd ws br mi cu cl kd hc).2 ≤ 6 ∧ (k = 0 → (fOne k T sd ws br mi cu cl kd hc).2 = 1) := by
  have h := fv_ask (T := T) (k := k) (sd := sd) (ws := ws) (br := br) (mi := mi) (cu := cu) (cl := cl) (kd := kd) (hc := hc)
  unfold fOne; (repeat' split) <;> (first | exact h | (dsimp only; omega))
theorem fv_one : 0 ≤ (sOne k v T sd ws br mi cu cl kd hc).2 ∧ (sOne k v T sd ws br mi cu cl kd hc).2 ≤ 6 ∧ (k = 0 → (sOne k v T sd ws br mi cu cl kd hc).2 = 1) := by
  unfold sOne; (repeat' split) <;> (dsimp only; omega)
theorem fv_sask : 0 ≤ (sAsk k v T sd ws br mi cu cl kd hc).2 ∧ (sAsk k v T sd ws br mi cu cl kd hc).2 ≤ 6 ∧ (k = 0 → (sAsk k v T sd ws br mi cu cl kd hc).2 = 1) := by
  have h := fv_one (T := T) (k := k) (v := v) (sd := 0) (ws := ws) (br := br) (mi := mi) (cu := cu) (cl := cl) (kd := kd) (hc := hc)
  unfold sAsk; (repeat' split) <;> (first | exact h | (dsimp only; omega))
theorem fv_cl : 0 ≤ (sCl k T sd ws br mi cu cl kd hc).2 ∧ (sCl k T sd ws br mi cu cl kd hc).2 ≤ 6 := by
  unfold sCl; (repeat' split) <;> (dsimp only; omega)
end FV
