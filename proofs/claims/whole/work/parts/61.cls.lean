def okTb (t : Nat) (ty : FieldType) : Bool := match t, ty with
  | 0, .int => true
  | 1, .boolean => true
  | 2, .long => true
  | 3, .object _ => true
  | 3, .array _ => true
  | _, _ => false
theorem okTb_ok {t : Nat} {ty : FieldType} (h : okTb t ty = true) : okT t ty := by
  unfold okTb at h
  split at h
  · exact Or.inl ⟨rfl, rfl⟩
  · exact Or.inr (Or.inl ⟨rfl, rfl⟩)
  · exact Or.inr (Or.inr (Or.inl ⟨rfl, rfl⟩))
  · exact Or.inr (Or.inr (Or.inr ⟨rfl, Or.inl ⟨_, rfl⟩⟩))
  · exact Or.inr (Or.inr (Or.inr ⟨rfl, Or.inr ⟨_, rfl⟩⟩))
  · cases h
theorem in_Ts {ws : List Cond} (h1 : ∀ w ∈ ws, w ∈ lw_tbl) (h2 : ws.all goodWord = true) : ∀ w ∈ ws, w ∈ Ts0 := fun w hw => List.mem_filter.mpr ⟨h1 w hw, List.all_eq_true.mp h2 w hw⟩
set_option maxRecDepth 100000 in
theorem iw_0 : ∀ w ∈ u_ws RX0 TX0 15, w ∈ lw_tbl := by decide +kernel
set_option maxRecDepth 100000 in
theorem gw_0 : (u_ws RX0 TX0 15).all goodWord = true := by decide +kernel
theorem ow_0 : ∀ k, k < 15 → okTb (gFt 0 k) (tyX0 k) = true := by decide +kernel
theorem oc_0 : 0 < 100 ∧ (∀ w ∈ u_ws RX0 TX0 15, w ∈ Ts0) ∧ (∃ ty0 : Nat → FieldType, ∀ k, k < 15 → parseFieldDescriptor (TX0 k).2.2.1 = some (ty0 k) ∧ okT (gFt 0 k) (ty0 k)) ∧ (∀ a, a < 15 → ∀ b, b < 15 → a ≠ b → (TX0 a).2.1 ≠ (TX0 b).2.1) := ⟨by omega, in_Ts iw_0 gw_0, ⟨tyX0, fun k hk => ⟨tyX0_ok k hk, okTb_ok (ow_0 k hk)⟩⟩, nmX0⟩
set_option maxRecDepth 100000 in
theorem iw_1 : ∀ w ∈ u_ws RX1 TX1 9, w ∈ lw_tbl := by decide +kernel
set_option maxRecDepth 100000 in
theorem gw_1 : (u_ws RX1 TX1 9).all goodWord = true := by decide +kernel
theorem ow_1 : ∀ k, k < 9 → okTb (gFt 1 k) (tyX1 k) = true := by decide +kernel
theorem oc_1 : 1 < 100 ∧ (∀ w ∈ u_ws RX1 TX1 9, w ∈ Ts0) ∧ (∃ ty0 : Nat → FieldType, ∀ k, k < 9 → parseFieldDescriptor (TX1 k).2.2.1 = some (ty0 k) ∧ okT (gFt 1 k) (ty0 k)) ∧ (∀ a, a < 9 → ∀ b, b < 9 → a ≠ b → (TX1 a).2.1 ≠ (TX1 b).2.1) := ⟨by omega, in_Ts iw_1 gw_1, ⟨tyX1, fun k hk => ⟨tyX1_ok k hk, okTb_ok (ow_1 k hk)⟩⟩, nmX1⟩
set_option maxRecDepth 100000 in
theorem iw_2 : ∀ w ∈ u_ws RX2 TX2 7, w ∈ lw_tbl := by decide +kernel
set_option maxRecDepth 100000 in
theorem gw_2 : (u_ws RX2 TX2 7).all goodWord = true := by decide +kernel
theorem ow_2 : ∀ k, k < 7 → okTb (gFt 2 k) (tyX2 k) = true := by decide +kernel
theorem oc_2 : 2 < 100 ∧ (∀ w ∈ u_ws RX2 TX2 7, w ∈ Ts0) ∧ (∃ ty0 : Nat → FieldType, ∀ k, k < 7 → parseFieldDescriptor (TX2 k).2.2.1 = some (ty0 k) ∧ okT (gFt 2 k) (ty0 k)) ∧ (∀ a, a < 7 → ∀ b, b < 7 → a ≠ b → (TX2 a).2.1 ≠ (TX2 b).2.1) := ⟨by omega, in_Ts iw_2 gw_2, ⟨tyX2, fun k hk => ⟨tyX2_ok k hk, okTb_ok (ow_2 k hk)⟩⟩, nmX2⟩
set_option maxRecDepth 100000 in
theorem iw_3 : ∀ w ∈ u_ws RX3 TX3 9, w ∈ lw_tbl := by decide +kernel
set_option maxRecDepth 100000 in
theorem gw_3 : (u_ws RX3 TX3 9).all goodWord = true := by decide +kernel
theorem ow_3 : ∀ k, k < 9 → okTb (gFt 3 k) (tyX3 k) = true := by decide +kernel
theorem oc_3 : 3 < 100 ∧ (∀ w ∈ u_ws RX3 TX3 9, w ∈ Ts0) ∧ (∃ ty0 : Nat → FieldType, ∀ k, k < 9 → parseFieldDescriptor (TX3 k).2.2.1 = some (ty0 k) ∧ okT (gFt 3 k) (ty0 k)) ∧ (∀ a, a < 9 → ∀ b, b < 9 → a ≠ b → (TX3 a).2.1 ≠ (TX3 b).2.1) := ⟨by omega, in_Ts iw_3 gw_3, ⟨tyX3, fun k hk => ⟨tyX3_ok k hk, okTb_ok (ow_3 k hk)⟩⟩, nmX3⟩
set_option maxRecDepth 100000 in
theorem iw_4 : ∀ w ∈ u_ws RX4 TX4 8, w ∈ lw_tbl := by decide +kernel
set_option maxRecDepth 100000 in
theorem gw_4 : (u_ws RX4 TX4 8).all goodWord = true := by decide +kernel
theorem ow_4 : ∀ k, k < 8 → okTb (gFt 4 k) (tyX4 k) = true := by decide +kernel
theorem oc_4 : 4 < 100 ∧ (∀ w ∈ u_ws RX4 TX4 8, w ∈ Ts0) ∧ (∃ ty0 : Nat → FieldType, ∀ k, k < 8 → parseFieldDescriptor (TX4 k).2.2.1 = some (ty0 k) ∧ okT (gFt 4 k) (ty0 k)) ∧ (∀ a, a < 8 → ∀ b, b < 8 → a ≠ b → (TX4 a).2.1 ≠ (TX4 b).2.1) := ⟨by omega, in_Ts iw_4 gw_4, ⟨tyX4, fun k hk => ⟨tyX4_ok k hk, okTb_ok (ow_4 k hk)⟩⟩, nmX4⟩
set_option maxRecDepth 100000 in
theorem iw_5 : ∀ w ∈ u_ws RX5 TX5 11, w ∈ lw_tbl := by decide +kernel
set_option maxRecDepth 100000 in
theorem gw_5 : (u_ws RX5 TX5 11).all goodWord = true := by decide +kernel
theorem ow_5 : ∀ k, k < 11 → okTb (gFt 5 k) (tyX5 k) = true := by decide +kernel
theorem oc_5 : 5 < 100 ∧ (∀ w ∈ u_ws RX5 TX5 11, w ∈ Ts0) ∧ (∃ ty0 : Nat → FieldType, ∀ k, k < 11 → parseFieldDescriptor (TX5 k).2.2.1 = some (ty0 k) ∧ okT (gFt 5 k) (ty0 k)) ∧ (∀ a, a < 11 → ∀ b, b < 11 → a ≠ b → (TX5 a).2.1 ≠ (TX5 b).2.1) := ⟨by omega, in_Ts iw_5 gw_5, ⟨tyX5, fun k hk => ⟨tyX5_ok k hk, okTb_ok (ow_5 k hk)⟩⟩, nmX5⟩
set_option maxRecDepth 100000 in
theorem iw_6 : ∀ w ∈ u_ws RX6 TX6 8, w ∈ lw_tbl := by decide +kernel
set_option maxRecDepth 100000 in
theorem gw_6 : (u_ws RX6 TX6 8).all goodWord = true := by decide +kernel
theorem ow_6 : ∀ k, k < 8 → okTb (gFt 6 k) (tyX6 k) = true := by decide +kernel
theorem oc_6 : 6 < 100 ∧ (∀ w ∈ u_ws RX6 TX6 8, w ∈ Ts0) ∧ (∃ ty0 : Nat → FieldType, ∀ k, k < 8 → parseFieldDescriptor (TX6 k).2.2.1 = some (ty0 k) ∧ okT (gFt 6 k) (ty0 k)) ∧ (∀ a, a < 8 → ∀ b, b < 8 → a ≠ b → (TX6 a).2.1 ≠ (TX6 b).2.1) := ⟨by omega, in_Ts iw_6 gw_6, ⟨tyX6, fun k hk => ⟨tyX6_ok k hk, okTb_ok (ow_6 k hk)⟩⟩, nmX6⟩
set_option maxRecDepth 100000 in
theorem iw_7 : ∀ w ∈ u_ws RX7 TX7 5, w ∈ lw_tbl := by decide +kernel
set_option maxRecDepth 100000 in
theorem gw_7 : (u_ws RX7 TX7 5).all goodWord = true := by decide +kernel
theorem ow_7 : ∀ k, k < 5 → okTb (gFt 7 k) (tyX7 k) = true := by decide +kernel
theorem oc_7 : 7 < 100 ∧ (∀ w ∈ u_ws RX7 TX7 5, w ∈ Ts0) ∧ (∃ ty0 : Nat → FieldType, ∀ k, k < 5 → parseFieldDescriptor (TX7 k).2.2.1 = some (ty0 k) ∧ okT (gFt 7 k) (ty0 k)) ∧ (∀ a, a < 5 → ∀ b, b < 5 → a ≠ b → (TX7 a).2.1 ≠ (TX7 b).2.1) := ⟨by omega, in_Ts iw_7 gw_7, ⟨tyX7, fun k hk => ⟨tyX7_ok k hk, okTb_ok (ow_7 k hk)⟩⟩, nmX7⟩
set_option maxRecDepth 100000 in
theorem iw_8 : ∀ w ∈ u_ws RX8 TX8 16, w ∈ lw_tbl := by decide +kernel
set_option maxRecDepth 100000 in
theorem gw_8 : (u_ws RX8 TX8 16).all goodWord = true := by decide +kernel
theorem ow_8 : ∀ k, k < 16 → okTb (gFt 8 k) (tyX8 k) = true := by decide +kernel
theorem oc_8 : 8 < 100 ∧ (∀ w ∈ u_ws RX8 TX8 16, w ∈ Ts0) ∧ (∃ ty0 : Nat → FieldType, ∀ k, k < 16 → parseFieldDescriptor (TX8 k).2.2.1 = some (ty0 k) ∧ okT (gFt 8 k) (ty0 k)) ∧ (∀ a, a < 16 → ∀ b, b < 16 → a ≠ b → (TX8 a).2.1 ≠ (TX8 b).2.1) := ⟨by omega, in_Ts iw_8 gw_8, ⟨tyX8, fun k hk => ⟨tyX8_ok k hk, okTb_ok (ow_8 k hk)⟩⟩, nmX8⟩
set_option maxRecDepth 100000 in
theorem iw_9 : ∀ w ∈ u_ws RX9 TX9 13, w ∈ lw_tbl := by decide +kernel
set_option maxRecDepth 100000 in
theorem gw_9 : (u_ws RX9 TX9 13).all goodWord = true := by decide +kernel
theorem ow_9 : ∀ k, k < 13 → okTb (gFt 9 k) (tyX9 k) = true := by decide +kernel
theorem oc_9 : 9 < 100 ∧ (∀ w ∈ u_ws RX9 TX9 13, w ∈ Ts0) ∧ (∃ ty0 : Nat → FieldType, ∀ k, k < 13 → parseFieldDescriptor (TX9 k).2.2.1 = some (ty0 k) ∧ okT (gFt 9 k) (ty0 k)) ∧ (∀ a, a < 13 → ∀ b, b < 13 → a ≠ b → (TX9 a).2.1 ≠ (TX9 b).2.1) := ⟨by omega, in_Ts iw_9 gw_9, ⟨tyX9, fun k hk => ⟨tyX9_ok k hk, okTb_ok (ow_9 k hk)⟩⟩, nmX9⟩
set_option maxRecDepth 100000 in
theorem iw_10 : ∀ w ∈ u_ws RX10 TX10 16, w ∈ lw_tbl := by decide +kernel
set_option maxRecDepth 100000 in
theorem gw_10 : (u_ws RX10 TX10 16).all goodWord = true := by decide +kernel
theorem ow_10 : ∀ k, k < 16 → okTb (gFt 10 k) (tyX10 k) = true := by decide +kernel
theorem oc_10 : 10 < 100 ∧ (∀ w ∈ u_ws RX10 TX10 16, w ∈ Ts0) ∧ (∃ ty0 : Nat → FieldType, ∀ k, k < 16 → parseFieldDescriptor (TX10 k).2.2.1 = some (ty0 k) ∧ okT (gFt 10 k) (ty0 k)) ∧ (∀ a, a < 16 → ∀ b, b < 16 → a ≠ b → (TX10 a).2.1 ≠ (TX10 b).2.1) := ⟨by omega, in_Ts iw_10 gw_10, ⟨tyX10, fun k hk => ⟨tyX10_ok k hk, okTb_ok (ow_10 k hk)⟩⟩, nmX10⟩
set_option maxRecDepth 100000 in
theorem iw_11 : ∀ w ∈ u_ws RX11 TX11 14, w ∈ lw_tbl := by decide +kernel
set_option maxRecDepth 100000 in
theorem gw_11 : (u_ws RX11 TX11 14).all goodWord = true := by decide +kernel
theorem ow_11 : ∀ k, k < 14 → okTb (gFt 11 k) (tyX11 k) = true := by decide +kernel
theorem oc_11 : 11 < 100 ∧ (∀ w ∈ u_ws RX11 TX11 14, w ∈ Ts0) ∧ (∃ ty0 : Nat → FieldType, ∀ k, k < 14 → parseFieldDescriptor (TX11 k).2.2.1 = some (ty0 k) ∧ okT (gFt 11 k) (ty0 k)) ∧ (∀ a, a < 14 → ∀ b, b < 14 → a ≠ b → (TX11 a).2.1 ≠ (TX11 b).2.1) := ⟨by omega, in_Ts iw_11 gw_11, ⟨tyX11, fun k hk => ⟨tyX11_ok k hk, okTb_ok (ow_11 k hk)⟩⟩, nmX11⟩
set_option maxRecDepth 100000 in
theorem iw_12 : ∀ w ∈ u_ws RX12 TX12 40, w ∈ lw_tbl := by decide +kernel
set_option maxRecDepth 100000 in
theorem gw_12 : (u_ws RX12 TX12 40).all goodWord = true := by decide +kernel
theorem ow_12 : ∀ k, k < 40 → okTb (gFt 12 k) (tyX12 k) = true := by decide +kernel
theorem oc_12 : 12 < 100 ∧ (∀ w ∈ u_ws RX12 TX12 40, w ∈ Ts0) ∧ (∃ ty0 : Nat → FieldType, ∀ k, k < 40 → parseFieldDescriptor (TX12 k).2.2.1 = some (ty0 k) ∧ okT (gFt 12 k) (ty0 k)) ∧ (∀ a, a < 40 → ∀ b, b < 40 → a ≠ b → (TX12 a).2.1 ≠ (TX12 b).2.1) := ⟨by omega, in_Ts iw_12 gw_12, ⟨tyX12, fun k hk => ⟨tyX12_ok k hk, okTb_ok (ow_12 k hk)⟩⟩, nmX12⟩
theorem okCl0 : okCl Ts0 gFt vwCl := by
  intro ci q h
  have hlt : ci < 13 := (List.getElem?_eq_some_iff.mp h).1
  match ci, hlt with
  | 0, _ => cases h; exact oc_0
  | 1, _ => cases h; exact oc_1
  | 2, _ => cases h; exact oc_2
  | 3, _ => cases h; exact oc_3
  | 4, _ => cases h; exact oc_4
  | 5, _ => cases h; exact oc_5
  | 6, _ => cases h; exact oc_6
  | 7, _ => cases h; exact oc_7
  | 8, _ => cases h; exact oc_8
  | 9, _ => cases h; exact oc_9
  | 10, _ => cases h; exact oc_10
  | 11, _ => cases h; exact oc_11
  | 12, _ => cases h; exact oc_12
theorem nm0_ok : ∀ (ci : Nat) (q : vw_C), vwCl[ci]? = some q → nm0 ci = q.1 := fun ci q h => by unfold nm0; rw [h]
theorem Ts0_good : ∀ w ∈ Ts0, goodWord w = true := fun w h => (List.mem_filter.mp h).2
theorem GOOD0 (L : Nat) (xs : Nat → Int32) : GOOD Ts0 Nw0 AO0 vwCl nm0 (GW L xs) mY mC rT := by
  refine ⟨okCl0, nm0_ok, Ts0_good, fun mid pc i ln h => ?_⟩
  obtain ⟨a, rfl, rfl, rfl, h4, h5⟩ := row_chk h
  unfold chk at h4
  simp only [Bool.and_eq_true] at h4
  obtain ⟨⟨h6, h7⟩, h8⟩ := h4
  exact ⟨of_decide_eq_true h6, chkL_ok h7, chkI_okP h8 h5, chkI_okQ h8 h5⟩
