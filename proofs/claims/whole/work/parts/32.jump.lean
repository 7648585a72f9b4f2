/-! Jumps and constants. -/
section SD
variable {p : Program} {l : Launch} {e : Env} {R : Room} {s : State} {m : MethodId} {args : Array Value} {below : List Frame} {meth : Method} {c : Code} {H : Heap} {locs : List Loc} {cells slots : Nat} {Q : State → Prop} {cc : ByteArray}
theorem sd_if (hx : p.tables.exec = Jvm.exec) (hb : c.code = cc) {pc tgt : Nat} {k : Jvm.ClassFile.Cond} {off : Int} {x : Int32} {rest : List Value} {ls : Array Slot} (hd : decode cc pc = .ok (.ifCond k off, 3)) (ht : (pc : Int) + off = (tgt : Int))
    (kk : W p l e R s m args below meth c H locs cells slots Q (F0 m (cmpI k x 0 tgt (pc + 3)) ls rest)) : W p l e R s m args below meth c H locs cells slots Q (F0 m pc ls (.int x :: rest)) := by
  cases k with
  | eq => exact lv_if_eq hx hb hd ht (fun q => by rwa [cmpI, if_pos q] at kk) (fun q => by rwa [cmpI, if_neg q] at kk)
  | ne => exact lv_if_ne hx hb hd ht (fun q => by rwa [cmpI, if_neg q] at kk) (fun q => by rwa [cmpI, if_pos (Decidable.not_not.mp (fun z => z q))] at kk)
  | lt => exact lv_if_lt hx hb hd ht (fun q => by rwa [cmpI, if_pos q] at kk) (fun q => by rwa [cmpI, if_neg q] at kk)
  | ge => exact lv_if_ge hx hb hd ht (fun q => by rwa [cmpI, if_pos q] at kk) (fun q => by rwa [cmpI, if_neg q] at kk)
  | gt => exact lv_if_gt hx hb hd ht (fun q => by rwa [cmpI, if_pos q] at kk) (fun q => by rwa [cmpI, if_neg q] at kk)
  | le => exact lv_if_le hx hb hd ht (fun q => by rwa [cmpI, if_pos q] at kk) (fun q => by rwa [cmpI, if_neg q] at kk)
theorem sd_icmp (hx : p.tables.exec = Jvm.exec) (hb : c.code = cc) {pc tgt : Nat} {k : Jvm.ClassFile.Cond} {off : Int} {x y : Int32} {rest : List Value} {ls : Array Slot} (hd : decode cc pc = .ok (.if_icmp k off, 3)) (ht : (pc : Int) + off = (tgt : Int))
    (kk : W p l e R s m args below meth c H locs cells slots Q (F0 m (cmpI k x y tgt (pc + 3)) ls rest)) : W p l e R s m args below meth c H locs cells slots Q (F0 m pc ls (.int y :: .int x :: rest)) := by
  cases k with
  | eq => exact lv_icmp_eq hx hb hd ht (fun q => by rwa [cmpI, if_pos q] at kk) (fun q => by rwa [cmpI, if_neg q] at kk)
  | ne => exact lv_icmp_ne hx hb hd ht (fun q => by rwa [cmpI, if_neg q] at kk) (fun q => by rwa [cmpI, if_pos (Decidable.not_not.mp (fun z => z q))] at kk)
  | lt => exact lv_icmp_lt hx hb hd ht (fun q => by rwa [cmpI, if_pos q] at kk) (fun q => by rwa [cmpI, if_neg q] at kk)
  | ge => exact lv_icmp_ge hx hb hd ht (fun q => by rwa [cmpI, if_pos q] at kk) (fun q => by rwa [cmpI, if_neg q] at kk)
  | gt => exact lv_icmp_gt hx hb hd ht (fun q => by rwa [cmpI, if_pos q] at kk) (fun q => by rwa [cmpI, if_neg q] at kk)
  | le => exact lv_icmp_le hx hb hd ht (fun q => by rwa [cmpI, if_pos q] at kk) (fun q => by rwa [cmpI, if_neg q] at kk)
theorem sd_switch (hx : p.tables.exec = Jvm.exec) (hb : c.code = cc) {pc len : Nat} {d lo hi : Int} {offs : Array Int} {w : Int × Int × List Nat × Nat} {x : Int32} {rest : List Value} {ls : Array Slot} (hd : decode cc pc = .ok (.tableswitch d lo hi offs, len))
    (h1 : w.1 = lo) (h2 : w.2.1 = hi) (h3 : (pc : Int) + d = (w.2.2.2 : Int)) (h4 : ∀ (j : Nat) (o : Int), offs[j]? = some o → (pc : Int) + o = (w.2.2.1.getD j 0 : Int)) (h5 : (hi - lo + 1).toNat = offs.size)
    (kk : W p l e R s m args below meth c H locs cells slots Q (F0 m (if x.toInt < w.1 ∨ w.2.1 < x.toInt then w.2.2.2 else w.2.2.1.getD (x.toInt - w.1).toNat 0) ls rest)) : W p l e R s m args below meth c H locs cells slots Q (F0 m pc ls (.int x :: rest)) := by
  subst h1; subst h2
  by_cases q : x.toInt < w.1 ∨ w.2.1 < x.toInt
  · rw [if_pos q] at kk
    exact lv_tableOut hx hb hd q h3 kk
  · rw [if_neg q] at kk
    have hlt : (x.toInt - w.1).toNat < offs.size := by omega
    have he : offs[(x.toInt - w.1).toNat]? = some offs[(x.toInt - w.1).toNat] := Array.getElem?_eq_getElem hlt
    exact lv_tableIn hx hb hd (fun z => q (Or.inl z)) (fun z => q (Or.inr z)) he (h4 _ _ he) kk
end SD
