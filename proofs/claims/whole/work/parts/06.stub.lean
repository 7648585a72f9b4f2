def PC (k : Nat) : Prop := lw_tbl[(mP k).1]? = some (.code (mY k) (mC k) (gNl k).1 (rT k)) ∧ chkM k = true
theorem mcA_302 : ∀ a, a < 302 → PC a := sorry
theorem ckA_303 : ∀ a, a < 303 → chkMid a = true := sorry
