set_option maxRecDepth 20000 in
theorem ggX9_base_X9_isWithin : GoodIn wsX9_base wsX9_isWithin := goodIn_r _ [6] (by decide +kernel) (by decide +kernel)
set_option maxRecDepth 20000 in
theorem gX9_base_X9_isWithin : GoodIn wsX9_base (va_wsS RX9 105 yX9_isWithin wsX9_isWithin) := goodIn_app (goodIn_of _ (by decide +kernel)) ggX9_base_X9_isWithin
theorem dX9_base_0 : decode cX9_base 0 = .ok (.iload_n 1, 1) := by decide +kernel
theorem dX9_base_1 : decode cX9_base 1 = .ok (.bipush 10, 2) := by decide +kernel
theorem dX9_base_3 : decode cX9_base 3 = .ok (.ldc 104, 2) := by decide +kernel
theorem dX9_base_5 : decode cX9_base 5 = .ok (.invokestatic 105, 3) := by decide +kernel
theorem dX9_base_8 : decode cX9_base 8 = .ok (.ifCond .eq 14, 3) := by decide +kernel
theorem dX9_base_11 : decode cX9_base 11 = .ok (.iload_n 2, 1) := by decide +kernel
theorem dX9_base_12 : decode cX9_base 12 = .ok (.iconst 0, 1) := by decide +kernel
theorem dX9_base_13 : decode cX9_base 13 = .ok (.sipush 1000, 3) := by decide +kernel
theorem dX9_base_16 : decode cX9_base 16 = .ok (.invokestatic 105, 3) := by decide +kernel
theorem dX9_base_19 : decode cX9_base 19 = .ok (.ifCond .ne 6, 3) := by decide +kernel
theorem dX9_base_22 : decode cX9_base 22 = .ok (.bipush (-2), 2) := by decide +kernel
theorem dX9_base_24 : decode cX9_base 24 = .ok (.ireturn, 1) := by decide +kernel
theorem dX9_base_25 : decode cX9_base 25 = .ok (.aload_n 0, 1) := by decide +kernel
theorem dX9_base_26 : decode cX9_base 26 = .ok (.getfield 19, 3) := by decide +kernel
theorem dX9_base_29 : decode cX9_base 29 = .ok (.iload_n 1, 1) := by decide +kernel
theorem dX9_base_30 : decode cX9_base 30 = .ok (.putfield 109, 3) := by decide +kernel
theorem dX9_base_33 : decode cX9_base 33 = .ok (.aload_n 0, 1) := by decide +kernel
theorem dX9_base_34 : decode cX9_base 34 = .ok (.getfield 19, 3) := by decide +kernel
theorem dX9_base_37 : decode cX9_base 37 = .ok (.iload_n 2, 1) := by decide +kernel
theorem dX9_base_38 : decode cX9_base 38 = .ok (.putfield 113, 3) := by decide +kernel
theorem dX9_base_41 : decode cX9_base 41 = .ok (.iconst 1, 1) := by decide +kernel
theorem dX9_base_42 : decode cX9_base 42 = .ok (.ireturn, 1) := by decide +kernel
set_option maxRecDepth 100000 in
def fX9_base (x1 : Int32) (x2 : Int32) (t_settings_base : Int32) (t_settings_slip : Int32) : Option (Int32 × Int32 × Int32) :=
  ob (fX9_isWithin x1 10 100000) fun r1 =>
  if (b2i r1) = 0 then
    some ((-2), t_settings_base, t_settings_slip)
  else
    ob (fX9_isWithin x2 0 1000) fun r4 =>
    if (b2i r4) = 0 then
      some ((-2), t_settings_base, t_settings_slip)
    else
      some (1, x1, x2)
abbrev rmX9_base : Room := { frames := 1, cells := 0, slots := 0, locals := 22 }
theorem iwX9_base_X4 : ∀ w ∈ u_ws RX4 TX4 6, w ∈ wsX9_base := by decide +kernel
theorem iwX9_base_X9 : ∀ w ∈ u_ws RX9 TX9 17, w ∈ wsX9_base := by decide +kernel
set_option maxHeartbeats 4000000 in
set_option maxRecDepth 100000 in
theorem k_X9_base (l : Launch) (G : va_G) (cI cJ : ClassId) (t_h t_fraction_h t_settings_h t_firstEdges_h t_secondEdges_h t_layers_h t_sights_h t_shadows_h t_heights_h t_pairs_h t_rows_h t_notes_h t_matching_h t_speeds_h t_layering_h t_boards_h t_years_h t_sheets_h : Nat) (sz : Nat) (t_settings_base : Int32) (t_settings_slip : Int32) (t_settings_low : Int32) (t_settings_high : Int32) (t_settings_unlike : Int32) (t_settings_alone : Int32) (x1 : Int32) (x2 : Int32) {o_r : Int32} {o_t_settings_base : Int32} {o_t_settings_slip : Int32} (hf : fX9_base x1 x2 t_settings_base t_settings_slip = some (o_r, o_t_settings_base, o_t_settings_slip)) : MetI l yX9_base wsX9_base rmX9_base [.ref t_h, .int x1, .int x2] G cI cJ [(t_h, .inr (9, [.ref t_fraction_h, .ref t_settings_h, .ref t_firstEdges_h, .ref t_secondEdges_h, .ref t_layers_h, .ref t_sights_h, .ref t_shadows_h, .ref t_heights_h, .ref t_pairs_h, .ref t_rows_h, .ref t_notes_h, .ref t_matching_h, .ref t_speeds_h, .ref t_layering_h, .ref t_boards_h, .ref t_years_h, .ref t_sheets_h])), (t_settings_h, .inr (4, [.int t_settings_base, .int t_settings_slip, .int t_settings_low, .int t_settings_high, .int t_settings_unlike, .int t_settings_alone]))] [(t_h, .inr (9, [.ref t_fraction_h, .ref t_settings_h, .ref t_firstEdges_h, .ref t_secondEdges_h, .ref t_layers_h, .ref t_sights_h, .ref t_shadows_h, .ref t_heights_h, .ref t_pairs_h, .ref t_rows_h, .ref t_notes_h, .ref t_matching_h, .ref t_speeds_h, .ref t_layering_h, .ref t_boards_h, .ref t_years_h, .ref t_sheets_h])), (t_settings_h, .inr (4, [.int o_t_settings_base, .int o_t_settings_slip, .int t_settings_low, .int t_settings_high, .int t_settings_unlike, .int t_settings_alone]))] sz o_r := by
  refine en_0 (l := l) (y := yX9_base) (wsl := wsX9_base) (rm := rmX9_base) (av := [.ref t_h, .int x1, .int x2]) (G := G) (cI := cI) (cJ := cJ) (w0 := [(t_h, .inr (9, [.ref t_fraction_h, .ref t_settings_h, .ref t_firstEdges_h, .ref t_secondEdges_h, .ref t_layers_h, .ref t_sights_h, .ref t_shadows_h, .ref t_heights_h, .ref t_pairs_h, .ref t_rows_h, .ref t_notes_h, .ref t_matching_h, .ref t_speeds_h, .ref t_layering_h, .ref t_boards_h, .ref t_years_h, .ref t_sheets_h])), (t_settings_h, .inr (4, [.int t_settings_base, .int t_settings_slip, .int t_settings_low, .int t_settings_high, .int t_settings_unlike, .int t_settings_alone]))]) (sz := sz) (Qf := fun A => Qi0 G cI cJ [(t_h, .inr (9, [.ref t_fraction_h, .ref t_settings_h, .ref t_firstEdges_h, .ref t_secondEdges_h, .ref t_layers_h, .ref t_sights_h, .ref t_shadows_h, .ref t_heights_h, .ref t_pairs_h, .ref t_rows_h, .ref t_notes_h, .ref t_matching_h, .ref t_speeds_h, .ref t_layering_h, .ref t_boards_h, .ref t_years_h, .ref t_sheets_h])), (t_settings_h, .inr (4, [.int o_t_settings_base, .int o_t_settings_slip, .int t_settings_low, .int t_settings_high, .int t_settings_unlike, .int t_settings_alone]))] o_r A) (cc := cX9_base) (maxL := 3) (ret := (some .int)) RX9 (by decide +kernel) rfl rfl (Nat.le_of_ble_eq_true rfl) ?_
  intro p e s m args below meth c A ls Q hQ hx hb hr hts hown hlocks hml hN hK hP hD hS hA hl
  have hl : lv_has ls 3 [(0, .ref t_h), (1, .int x1), (2, .int x2)] := hl
  have iwX4 := iwX9_base_X4
  have iwX9 := iwX9_base_X9
  have fl_19 := hts (.fieldLink RX9 19 "CloudOffice" "settings" "LCloudOffice$Settings;") (by decide +kernel)
  have fl_109 : (Cond.fieldLinkNest RX9 109 "CloudOffice$Settings" "base" "I" "CloudOffice").before args s = true := nst_get hN 0 rfl rfl
  have fl_113 : (Cond.fieldLinkNest RX9 113 "CloudOffice$Settings" "slip" "I" "CloudOffice").before args s = true := nst_get hN 1 rfl rfl
  have kc_104 := hts (.constant RX9 104 (100000)) (by decide +kernel)
  have hret : ∀ (o_r9 : Int32) (o_t_settings_base9 : Int32) (o_t_settings_slip9 : Int32) (pc : Nat) (H : Heap) (locs : List Loc) (ls : Array Slot), decode cX9_base pc = .ok (.ireturn, 1) → some (o_r9, o_t_settings_base9, o_t_settings_slip9) = some (o_r, o_t_settings_base, o_t_settings_slip) → va_P G vwCl [(t_h, .inr (9, [.ref t_fraction_h, .ref t_settings_h, .ref t_firstEdges_h, .ref t_secondEdges_h, .ref t_layers_h, .ref t_sights_h, .ref t_shadows_h, .ref t_heights_h, .ref t_pairs_h, .ref t_rows_h, .ref t_notes_h, .ref t_matching_h, .ref t_speeds_h, .ref t_layering_h, .ref t_boards_h, .ref t_years_h, .ref t_sheets_h])), (t_settings_h, .inr (4, [.int o_t_settings_base9, .int o_t_settings_slip9, .int t_settings_low, .int t_settings_high, .int t_settings_unlike, .int t_settings_alone]))] H → va_D A [(t_h, .inr (9, [.ref t_fraction_h, .ref t_settings_h, .ref t_firstEdges_h, .ref t_secondEdges_h, .ref t_layers_h, .ref t_sights_h, .ref t_shadows_h, .ref t_heights_h, .ref t_pairs_h, .ref t_rows_h, .ref t_notes_h, .ref t_matching_h, .ref t_speeds_h, .ref t_layering_h, .ref t_boards_h, .ref t_years_h, .ref t_sheets_h])), (t_settings_h, .inr (4, [.int o_t_settings_base9, .int o_t_settings_slip9, .int t_settings_low, .int t_settings_high, .int t_settings_unlike, .int t_settings_alone]))] → va_S A s.heap H locs → W p l e rmX9_base s m args below meth c H locs 0 0 Q (F0 m pc ls [.int o_r9]) := by
    intro o_r9 o_t_settings_base9 o_t_settings_slip9 pc H locs ls hdg he hP hD hS
    cases he
    subst hQ
    exact rt_i hx hb hr hlocks hK hP hD hS rfl hdg
  clear hQ
  unfold fX9_base at hf
  refine lv_iload_n hx hb dX9_base_0 rfl (lv_at hl 1 rfl) ?_
  refine lv_bipush (v := 10) hx hb dX9_base_1 (by decide) ?_
  refine lv_ldc (v := 100000) hx hb hown kc_104 dX9_base_3 ?_
  obtain ⟨r1, hc2, hf⟩ := ob_some hf
  refine af_iR (va_runS (As := [.int x1, .int 10, .int 100000]) (rest := []) ⟨hx, hb, hml, hown, hts⟩ (k_X9_isWithin l G cI cJ (x0 := x1) (x1 := 10) (x2 := 100000) (sz := _) (hf := hc2)) (va_cwS 3 hts gX9_base_X9_isWithin rfl rfl rfl (by decide +kernel) ⟨Nat.le_of_ble_eq_true rfl, Nat.le_of_ble_eq_true rfl⟩) (preS0 (wc := []) hK hP hD hN [] rfl rfl (by decide)) rfl rfl hl.1 rfl (lv_room (Nat.le_of_ble_eq_true rfl)) dX9_base_5 ⟨Nat.zero_le _, Nat.zero_le _⟩) hP hD hS hA [] rfl (fun H locs hP hS => ?_)
  refine lv_if_eq (tgt := 22) hx hb dX9_base_8 (by decide) (fun c3 => ?_) (fun c3 => ?_)
  · have hf := ift hf c3
    refine lv_bipush (v := (-2)) hx hb dX9_base_22 (by decide) ?_
    exact hret (-2) t_settings_base t_settings_slip 24 _ _ _ dX9_base_24 hf hP hD hS
  · have hf := iff_ hf c3
    refine lv_iload_n hx hb dX9_base_11 rfl (lv_at hl 2 rfl) ?_
    refine lv_iconst (v := 0) hx hb dX9_base_12 (by decide) ?_
    refine lv_sipush (v := 1000) hx hb dX9_base_13 (by decide) ?_
    obtain ⟨r4, hc5, hf⟩ := ob_some hf
    refine af_iR (va_runS (As := [.int x2, .int 0, .int 1000]) (rest := []) ⟨hx, hb, hml, hown, hts⟩ (k_X9_isWithin l G cI cJ (x0 := x2) (x1 := 0) (x2 := 1000) (sz := _) (hf := hc5)) (va_cwS 3 hts gX9_base_X9_isWithin rfl rfl rfl (by decide +kernel) ⟨Nat.le_of_ble_eq_true rfl, Nat.le_of_ble_eq_true rfl⟩) (preS0 (wc := []) hK hP hD hN [] rfl rfl (by decide)) rfl rfl hl.1 rfl (lv_room (Nat.le_of_ble_eq_true rfl)) dX9_base_16 ⟨Nat.zero_le _, Nat.zero_le _⟩) hP hD hS hA [] rfl (fun H locs hP hS => ?_)
    refine lv_if_ne (tgt := 25) hx hb dX9_base_19 (by decide) (fun c6 => ?_) (fun c6 => ?_)
    · have hf := iff_ hf c6
      refine lv_aload_n hx hb dX9_base_25 rfl (lv_at hl 0 rfl) ?_
      refine va_get (D := G) (ci := 9) (v := .ref t_settings_h) (C := RX9) (T := TX9) (N := 17) hx hb hts iwX9 hown hK hP 0 rfl rfl 1 (by decide) fl_19 (fun _ h9 => h9) rfl dX9_base_26 ?_
      refine lv_iload_n hx hb dX9_base_29 rfl (lv_at hl 1 rfl) ?_
      refine va_putN (D := G) (ci := 4) (v := .int x1) (ty := .int) (C := RX4) (T := TX4) (N := 6) hx hb hts iwX4 tyX4 tyX4_ok nmX4 hown hK hP hD hS 1 rfl rfl 0 (by decide) fl_109 (fun _ h9 => h9) rfl (by decide +kernel) rfl rfl (Nat.le_of_ble_eq_true rfl) dX9_base_30 (fun H locs hP hD hS => ?_)
      have hP : va_P G vwCl [(t_h, .inr (9, [.ref t_fraction_h, .ref t_settings_h, .ref t_firstEdges_h, .ref t_secondEdges_h, .ref t_layers_h, .ref t_sights_h, .ref t_shadows_h, .ref t_heights_h, .ref t_pairs_h, .ref t_rows_h, .ref t_notes_h, .ref t_matching_h, .ref t_speeds_h, .ref t_layering_h, .ref t_boards_h, .ref t_years_h, .ref t_sheets_h])), (t_settings_h, .inr (4, [.int x1, .int t_settings_slip, .int t_settings_low, .int t_settings_high, .int t_settings_unlike, .int t_settings_alone]))] H := hP
      have hD : va_D A [(t_h, .inr (9, [.ref t_fraction_h, .ref t_settings_h, .ref t_firstEdges_h, .ref t_secondEdges_h, .ref t_layers_h, .ref t_sights_h, .ref t_shadows_h, .ref t_heights_h, .ref t_pairs_h, .ref t_rows_h, .ref t_notes_h, .ref t_matching_h, .ref t_speeds_h, .ref t_layering_h, .ref t_boards_h, .ref t_years_h, .ref t_sheets_h])), (t_settings_h, .inr (4, [.int x1, .int t_settings_slip, .int t_settings_low, .int t_settings_high, .int t_settings_unlike, .int t_settings_alone]))] := hD
      refine lv_aload_n hx hb dX9_base_33 rfl (lv_at hl 0 rfl) ?_
      refine va_get (D := G) (ci := 9) (v := .ref t_settings_h) (C := RX9) (T := TX9) (N := 17) hx hb hts iwX9 hown hK hP 0 rfl rfl 1 (by decide) fl_19 (fun _ h9 => h9) rfl dX9_base_34 ?_
      refine lv_iload_n hx hb dX9_base_37 rfl (lv_at hl 2 rfl) ?_
      refine va_putN (D := G) (ci := 4) (v := .int x2) (ty := .int) (C := RX4) (T := TX4) (N := 6) hx hb hts iwX4 tyX4 tyX4_ok nmX4 hown hK hP hD hS 1 rfl rfl 1 (by decide) fl_113 (fun _ h9 => h9) rfl (by decide +kernel) rfl rfl (Nat.le_of_ble_eq_true rfl) dX9_base_38 (fun H locs hP hD hS => ?_)
      have hP : va_P G vwCl [(t_h, .inr (9, [.ref t_fraction_h, .ref t_settings_h, .ref t_firstEdges_h, .ref t_secondEdges_h, .ref t_layers_h, .ref t_sights_h, .ref t_shadows_h, .ref t_heights_h, .ref t_pairs_h, .ref t_rows_h, .ref t_notes_h, .ref t_matching_h, .ref t_speeds_h, .ref t_layering_h, .ref t_boards_h, .ref t_years_h, .ref t_sheets_h])), (t_settings_h, .inr (4, [.int x1, .int x2, .int t_settings_low, .int t_settings_high, .int t_settings_unlike, .int t_settings_alone]))] H := hP
      have hD : va_D A [(t_h, .inr (9, [.ref t_fraction_h, .ref t_settings_h, .ref t_firstEdges_h, .ref t_secondEdges_h, .ref t_layers_h, .ref t_sights_h, .ref t_shadows_h, .ref t_heights_h, .ref t_pairs_h, .ref t_rows_h, .ref t_notes_h, .ref t_matching_h, .ref t_speeds_h, .ref t_layering_h, .ref t_boards_h, .ref t_years_h, .ref t_sheets_h])), (t_settings_h, .inr (4, [.int x1, .int x2, .int t_settings_low, .int t_settings_high, .int t_settings_unlike, .int t_settings_alone]))] := hD
      refine lv_iconst (v := 1) hx hb dX9_base_41 (by decide) ?_
      exact hret 1 x1 x2 42 _ _ _ dX9_base_42 hf hP hD hS
    · have hf := ift hf c6
      refine lv_bipush (v := (-2)) hx hb dX9_base_22 (by decide) ?_
      exact hret (-2) t_settings_base t_settings_slip 24 _ _ _ dX9_base_24 hf hP hD hS
set_option maxRecDepth 20000 in
theorem ggX9_edge_X9_isWithin : GoodIn wsX9_edge wsX9_isWithin := goodIn_r _ [6] (by decide +kernel) (by decide +kernel)
set_option maxRecDepth 20000 in
theorem gX9_edge_X9_isWithin : GoodIn wsX9_edge (va_wsS RX9 105 yX9_isWithin wsX9_isWithin) := goodIn_app (goodIn_of _ (by decide +kernel)) ggX9_edge_X9_isWithin
set_option maxRecDepth 20000 in
theorem ggX9_edge_X9_isLean : GoodIn wsX9_edge wsX9_isLean := goodIn_r _ [9, 3, 4, 5, 6] (by decide +kernel) (by decide +kernel)
set_option maxRecDepth 20000 in
theorem gX9_edge_X9_isLean : GoodIn wsX9_edge (va_wsS RX9 116 yX9_isLean wsX9_isLean) := goodIn_app (goodIn_of _ (by decide +kernel)) ggX9_edge_X9_isLean
set_option maxRecDepth 20000 in
theorem ggX9_edge_X7_add : GoodIn wsX9_edge wsX7_add := goodIn_r _ [14, 15, 16, 17, 18, 19, 13, 20, 21, 22, 40, 41, 42, 43] (by decide +kernel) (by decide +kernel)
set_option maxRecDepth 20000 in
theorem gX9_edge_X7_add : GoodIn wsX9_edge (wsV RX9 120 RX7 yX7_add wsX7_add) := goodIn_app (goodIn_of _ (by decide +kernel)) ggX9_edge_X7_add
theorem dX9_edge_0 : decode cX9_edge 0 = .ok (.iload_n 1, 1) := by decide +kernel
theorem dX9_edge_1 : decode cX9_edge 1 = .ok (.iconst 0, 1) := by decide +kernel
theorem dX9_edge_2 : decode cX9_edge 2 = .ok (.iconst 1, 1) := by decide +kernel
theorem dX9_edge_3 : decode cX9_edge 3 = .ok (.invokestatic 105, 3) := by decide +kernel
theorem dX9_edge_6 : decode cX9_edge 6 = .ok (.ifCond .eq 20, 3) := by decide +kernel
theorem dX9_edge_9 : decode cX9_edge 9 = .ok (.iload_n 2, 1) := by decide +kernel
theorem dX9_edge_10 : decode cX9_edge 10 = .ok (.invokestatic 116, 3) := by decide +kernel
theorem dX9_edge_13 : decode cX9_edge 13 = .ok (.ifCond .eq 13, 3) := by decide +kernel
theorem dX9_edge_16 : decode cX9_edge 16 = .ok (.iload_n 3, 1) := by decide +kernel
theorem dX9_edge_17 : decode cX9_edge 17 = .ok (.iconst 0, 1) := by decide +kernel
theorem dX9_edge_18 : decode cX9_edge 18 = .ok (.bipush 9, 2) := by decide +kernel
theorem dX9_edge_20 : decode cX9_edge 20 = .ok (.invokestatic 105, 3) := by decide +kernel
theorem dX9_edge_23 : decode cX9_edge 23 = .ok (.ifCond .ne 6, 3) := by decide +kernel
theorem dX9_edge_26 : decode cX9_edge 26 = .ok (.bipush (-2), 2) := by decide +kernel
theorem dX9_edge_28 : decode cX9_edge 28 = .ok (.ireturn, 1) := by decide +kernel
theorem dX9_edge_29 : decode cX9_edge 29 = .ok (.iload_n 1, 1) := by decide +kernel
theorem dX9_edge_30 : decode cX9_edge 30 = .ok (.ifCond .ne 10, 3) := by decide +kernel
theorem dX9_edge_33 : decode cX9_edge 33 = .ok (.aload_n 0, 1) := by decide +kernel
theorem dX9_edge_34 : decode cX9_edge 34 = .ok (.getfield 28, 3) := by decide +kernel
theorem dX9_edge_37 : decode cX9_edge 37 = .ok (.goto 7, 3) := by decide +kernel
theorem dX9_edge_40 : decode cX9_edge 40 = .ok (.aload_n 0, 1) := by decide +kernel
theorem dX9_edge_41 : decode cX9_edge 41 = .ok (.getfield 32, 3) := by decide +kernel
theorem dX9_edge_44 : decode cX9_edge 44 = .ok (.astore 4, 2) := by decide +kernel
theorem dX9_edge_46 : decode cX9_edge 46 = .ok (.aload 4, 2) := by decide +kernel
theorem dX9_edge_48 : decode cX9_edge 48 = .ok (.iload_n 2, 1) := by decide +kernel
theorem dX9_edge_49 : decode cX9_edge 49 = .ok (.iload_n 3, 1) := by decide +kernel
theorem dX9_edge_50 : decode cX9_edge 50 = .ok (.iconst 0, 1) := by decide +kernel
theorem dX9_edge_51 : decode cX9_edge 51 = .ok (.iconst 0, 1) := by decide +kernel
theorem dX9_edge_52 : decode cX9_edge 52 = .ok (.invokevirtual 120, 3) := by decide +kernel
theorem dX9_edge_55 : decode cX9_edge 55 = .ok (.ireturn, 1) := by decide +kernel
set_option maxRecDepth 100000 in
def fX9_edge (x1 : Int32) (x2 : Int32) (x3 : Int32) (t_firstEdges_width : Int32) (t_firstEdges_most : Int32) (t_firstEdges_lines : Int32) (t_secondEdges_width : Int32) (t_secondEdges_most : Int32) (t_secondEdges_lines : Int32) (t_firstEdges_cells_n : Nat) (t_firstEdges_cells_a : Nat → Int32) (t_secondEdges_cells_n : Nat) (t_secondEdges_cells_a : Nat → Int32) : Option (Int32 × Int32 × Int32 × (Nat → Int32) × (Nat → Int32)) :=
  ob (fX9_isWithin x1 0 1) fun r1 =>
  if (b2i r1) = 0 then
    some ((-2), t_firstEdges_lines, t_secondEdges_lines, t_firstEdges_cells_a, t_secondEdges_cells_a)
  else
    ob (fX9_isLean x2) fun r4 =>
    if (b2i r4) = 0 then
      some ((-2), t_firstEdges_lines, t_secondEdges_lines, t_firstEdges_cells_a, t_secondEdges_cells_a)
    else
      ob (fX9_isWithin x3 0 9) fun r7 =>
      if (b2i r7) = 0 then
        some ((-2), t_firstEdges_lines, t_secondEdges_lines, t_firstEdges_cells_a, t_secondEdges_cells_a)
      else
        if x1 = 0 then
          ob3 (fX7_add x2 x3 0 0 t_firstEdges_width t_firstEdges_most t_firstEdges_lines t_firstEdges_cells_n t_firstEdges_cells_a) fun r15 w16 w17 =>
          some (r15, w16, t_secondEdges_lines, w17, t_secondEdges_cells_a)
        else
          ob3 (fX7_add x2 x3 0 0 t_secondEdges_width t_secondEdges_most t_secondEdges_lines t_secondEdges_cells_n t_secondEdges_cells_a) fun r11 w12 w13 =>
          some (r11, t_firstEdges_lines, w12, t_firstEdges_cells_a, w13)
abbrev rmX9_edge : Room := { frames := 2, cells := 0, slots := 0, locals := 47 }
theorem iwX9_edge_X9 : ∀ w ∈ u_ws RX9 TX9 17, w ∈ wsX9_edge := by decide +kernel
set_option maxHeartbeats 4000000 in
set_option maxRecDepth 100000 in
theorem k_X9_edge (l : Launch) (G : va_G) (cI cJ : ClassId) (t_h t_fraction_h t_settings_h t_firstEdges_h t_secondEdges_h t_layers_h t_sights_h t_shadows_h t_heights_h t_pairs_h t_rows_h t_notes_h t_matching_h t_speeds_h t_layering_h t_boards_h t_years_h t_sheets_h t_firstEdges_cells_h t_secondEdges_cells_h : Nat) (sz : Nat) (t_firstEdges_width : Int32) (t_firstEdges_most : Int32) (t_firstEdges_lines : Int32) (t_secondEdges_width : Int32) (t_secondEdges_most : Int32) (t_secondEdges_lines : Int32) (t_firstEdges_cells_n : Nat) (t_firstEdges_cells_a : Nat → Int32) (t_secondEdges_cells_n : Nat) (t_secondEdges_cells_a : Nat → Int32) (x1 : Int32) (x2 : Int32) (x3 : Int32) {o_r : Int32} {o_t_firstEdges_lines : Int32} {o_t_secondEdges_lines : Int32} {o_t_firstEdges_cells_a : Nat → Int32} {o_t_secondEdges_cells_a : Nat → Int32} (hf : fX9_edge x1 x2 x3 t_firstEdges_width t_firstEdges_most t_firstEdges_lines t_secondEdges_width t_secondEdges_most t_secondEdges_lines t_firstEdges_cells_n t_firstEdges_cells_a t_secondEdges_cells_n t_secondEdges_cells_a = some (o_r, o_t_firstEdges_lines, o_t_secondEdges_lines, o_t_firstEdges_cells_a, o_t_secondEdges_cells_a)) : MetI l yX9_edge wsX9_edge rmX9_edge [.ref t_h, .int x1, .int x2, .int x3] G cI cJ [(t_h, .inr (9, [.ref t_fraction_h, .ref t_settings_h, .ref t_firstEdges_h, .ref t_secondEdges_h, .ref t_layers_h, .ref t_sights_h, .ref t_shadows_h, .ref t_heights_h, .ref t_pairs_h, .ref t_rows_h, .ref t_notes_h, .ref t_matching_h, .ref t_speeds_h, .ref t_layering_h, .ref t_boards_h, .ref t_years_h, .ref t_sheets_h])), (t_firstEdges_h, .inr (7, [.int t_firstEdges_width, .int t_firstEdges_most, .ref t_firstEdges_cells_h, .int t_firstEdges_lines])), (t_secondEdges_h, .inr (7, [.int t_secondEdges_width, .int t_secondEdges_most, .ref t_secondEdges_cells_h, .int t_secondEdges_lines])), (t_firstEdges_cells_h, .inl (cI, t_firstEdges_cells_n, .inl t_firstEdges_cells_a)), (t_secondEdges_cells_h, .inl (cI, t_secondEdges_cells_n, .inl t_secondEdges_cells_a))] [(t_h, .inr (9, [.ref t_fraction_h, .ref t_settings_h, .ref t_firstEdges_h, .ref t_secondEdges_h, .ref t_layers_h, .ref t_sights_h, .ref t_shadows_h, .ref t_heights_h, .ref t_pairs_h, .ref t_rows_h, .ref t_notes_h, .ref t_matching_h, .ref t_speeds_h, .ref t_layering_h, .ref t_boards_h, .ref t_years_h, .ref t_sheets_h])), (t_firstEdges_h, .inr (7, [.int t_firstEdges_width, .int t_firstEdges_most, .ref t_firstEdges_cells_h, .int o_t_firstEdges_lines])), (t_secondEdges_h, .inr (7, [.int t_secondEdges_width, .int t_secondEdges_most, .ref t_secondEdges_cells_h, .int o_t_secondEdges_lines])), (t_firstEdges_cells_h, .inl (cI, t_firstEdges_cells_n, .inl o_t_firstEdges_cells_a)), (t_secondEdges_cells_h, .inl (cI, t_secondEdges_cells_n, .inl o_t_secondEdges_cells_a))] sz o_r := by
  refine en_0 (l := l) (y := yX9_edge) (wsl := wsX9_edge) (rm := rmX9_edge) (av := [.ref t_h, .int x1, .int x2, .int x3]) (G := G) (cI := cI) (cJ := cJ) (w0 := [(t_h, .inr (9, [.ref t_fraction_h, .ref t_settings_h, .ref t_firstEdges_h, .ref t_secondEdges_h, .ref t_layers_h, .ref t_sights_h, .ref t_shadows_h, .ref t_heights_h, .ref t_pairs_h, .ref t_rows_h, .ref t_notes_h, .ref t_matching_h, .ref t_speeds_h, .ref t_layering_h, .ref t_boards_h, .ref t_years_h, .ref t_sheets_h])), (t_firstEdges_h, .inr (7, [.int t_firstEdges_width, .int t_firstEdges_most, .ref t_firstEdges_cells_h, .int t_firstEdges_lines])), (t_secondEdges_h, .inr (7, [.int t_secondEdges_width, .int t_secondEdges_most, .ref t_secondEdges_cells_h, .int t_secondEdges_lines])), (t_firstEdges_cells_h, .inl (cI, t_firstEdges_cells_n, .inl t_firstEdges_cells_a)), (t_secondEdges_cells_h, .inl (cI, t_secondEdges_cells_n, .inl t_secondEdges_cells_a))]) (sz := sz) (Qf := fun A => Qi0 G cI cJ [(t_h, .inr (9, [.ref t_fraction_h, .ref t_settings_h, .ref t_firstEdges_h, .ref t_secondEdges_h, .ref t_layers_h, .ref t_sights_h, .ref t_shadows_h, .ref t_heights_h, .ref t_pairs_h, .ref t_rows_h, .ref t_notes_h, .ref t_matching_h, .ref t_speeds_h, .ref t_layering_h, .ref t_boards_h, .ref t_years_h, .ref t_sheets_h])), (t_firstEdges_h, .inr (7, [.int t_firstEdges_width, .int t_firstEdges_most, .ref t_firstEdges_cells_h, .int o_t_firstEdges_lines])), (t_secondEdges_h, .inr (7, [.int t_secondEdges_width, .int t_secondEdges_most, .ref t_secondEdges_cells_h, .int o_t_secondEdges_lines])), (t_firstEdges_cells_h, .inl (cI, t_firstEdges_cells_n, .inl o_t_firstEdges_cells_a)), (t_secondEdges_cells_h, .inl (cI, t_secondEdges_cells_n, .inl o_t_secondEdges_cells_a))] o_r A) (cc := cX9_edge) (maxL := 5) (ret := (some .int)) RX9 (by decide +kernel) rfl rfl (Nat.le_of_ble_eq_true rfl) ?_
  intro p e s m args below meth c A ls Q hQ hx hb hr hts hown hlocks hml hN hK hP hD hS hA hl
  have hl : lv_has ls 5 [(0, .ref t_h), (1, .int x1), (2, .int x2), (3, .int x3)] := hl
  have iwX9 := iwX9_edge_X9
  have fl_28 := hts (.fieldLink RX9 28 "CloudOffice" "firstEdges" "LCloudOffice$Table;") (by decide +kernel)
  have fl_32 := hts (.fieldLink RX9 32 "CloudOffice" "secondEdges" "LCloudOffice$Table;") (by decide +kernel)
  have hret : ∀ (o_r9 : Int32) (o_t_firstEdges_lines9 : Int32) (o_t_secondEdges_lines9 : Int32) (o_t_firstEdges_cells_a9 : Nat → Int32) (o_t_secondEdges_cells_a9 : Nat → Int32) (pc : Nat) (H : Heap) (locs : List Loc) (ls : Array Slot), decode cX9_edge pc = .ok (.ireturn, 1) → some (o_r9, o_t_firstEdges_lines9, o_t_secondEdges_lines9, o_t_firstEdges_cells_a9, o_t_secondEdges_cells_a9) = some (o_r, o_t_firstEdges_lines, o_t_secondEdges_lines, o_t_firstEdges_cells_a, o_t_secondEdges_cells_a) → va_P G vwCl [(t_h, .inr (9, [.ref t_fraction_h, .ref t_settings_h, .ref t_firstEdges_h, .ref t_secondEdges_h, .ref t_layers_h, .ref t_sights_h, .ref t_shadows_h, .ref t_heights_h, .ref t_pairs_h, .ref t_rows_h, .ref t_notes_h, .ref t_matching_h, .ref t_speeds_h, .ref t_layering_h, .ref t_boards_h, .ref t_years_h, .ref t_sheets_h])), (t_firstEdges_h, .inr (7, [.int t_firstEdges_width, .int t_firstEdges_most, .ref t_firstEdges_cells_h, .int o_t_firstEdges_lines9])), (t_secondEdges_h, .inr (7, [.int t_secondEdges_width, .int t_secondEdges_most, .ref t_secondEdges_cells_h, .int o_t_secondEdges_lines9])), (t_firstEdges_cells_h, .inl (cI, t_firstEdges_cells_n, .inl o_t_firstEdges_cells_a9)), (t_secondEdges_cells_h, .inl (cI, t_secondEdges_cells_n, .inl o_t_secondEdges_cells_a9))] H → va_D A [(t_h, .inr (9, [.ref t_fraction_h, .ref t_settings_h, .ref t_firstEdges_h, .ref t_secondEdges_h, .ref t_layers_h, .ref t_sights_h, .ref t_shadows_h, .ref t_heights_h, .ref t_pairs_h, .ref t_rows_h, .ref t_notes_h, .ref t_matching_h, .ref t_speeds_h, .ref t_layering_h, .ref t_boards_h, .ref t_years_h, .ref t_sheets_h])), (t_firstEdges_h, .inr (7, [.int t_firstEdges_width, .int t_firstEdges_most, .ref t_firstEdges_cells_h, .int o_t_firstEdges_lines9])), (t_secondEdges_h, .inr (7, [.int t_secondEdges_width, .int t_secondEdges_most, .ref t_secondEdges_cells_h, .int o_t_secondEdges_lines9])), (t_firstEdges_cells_h, .inl (cI, t_firstEdges_cells_n, .inl o_t_firstEdges_cells_a9)), (t_secondEdges_cells_h, .inl (cI, t_secondEdges_cells_n, .inl o_t_secondEdges_cells_a9))] → va_S A s.heap H locs → W p l e rmX9_edge s m args below meth c H locs 0 0 Q (F0 m pc ls [.int o_r9]) := by
    intro o_r9 o_t_firstEdges_lines9 o_t_secondEdges_lines9 o_t_firstEdges_cells_a9 o_t_secondEdges_cells_a9 pc H locs ls hdg he hP hD hS
    cases he
    subst hQ
    exact rt_i hx hb hr hlocks hK hP hD hS rfl hdg
  clear hQ
  unfold fX9_edge at hf
  refine lv_iload_n hx hb dX9_edge_0 rfl (lv_at hl 1 rfl) ?_
  refine lv_iconst (v := 0) hx hb dX9_edge_1 (by decide) ?_
  refine lv_iconst (v := 1) hx hb dX9_edge_2 (by decide) ?_
  obtain ⟨r1, hc2, hf⟩ := ob_some hf
  refine af_iR (va_runS (As := [.int x1, .int 0, .int 1]) (rest := []) ⟨hx, hb, hml, hown, hts⟩ (k_X9_isWithin l G cI cJ (x0 := x1) (x1 := 0) (x2 := 1) (sz := _) (hf := hc2)) (va_cwS 3 hts gX9_edge_X9_isWithin rfl rfl rfl (by decide +kernel) ⟨Nat.le_of_ble_eq_true rfl, Nat.le_of_ble_eq_true rfl⟩) (preS0 (wc := []) hK hP hD hN [] rfl rfl (by decide)) rfl rfl hl.1 rfl (lv_room (Nat.le_of_ble_eq_true rfl)) dX9_edge_3 ⟨Nat.zero_le _, Nat.zero_le _⟩) hP hD hS hA [] rfl (fun H locs hP hS => ?_)
  refine lv_if_eq (tgt := 26) hx hb dX9_edge_6 (by decide) (fun c3 => ?_) (fun c3 => ?_)
  · have hf := ift hf c3
    refine lv_bipush (v := (-2)) hx hb dX9_edge_26 (by decide) ?_
    exact hret (-2) t_firstEdges_lines t_secondEdges_lines t_firstEdges_cells_a t_secondEdges_cells_a 28 _ _ _ dX9_edge_28 hf hP hD hS
  · have hf := iff_ hf c3
    refine lv_iload_n hx hb dX9_edge_9 rfl (lv_at hl 2 rfl) ?_
    obtain ⟨r4, hc5, hf⟩ := ob_some hf
    refine af_iR (va_runS (As := [.int x2]) (rest := []) ⟨hx, hb, hml, hown, hts⟩ (k_X9_isLean l G cI cJ (x0 := x2) (sz := _) (hf := hc5)) (va_cwS 1 hts gX9_edge_X9_isLean rfl rfl rfl (by decide +kernel) ⟨Nat.le_of_ble_eq_true rfl, Nat.le_of_ble_eq_true rfl⟩) (preS0 (wc := []) hK hP hD hN [] rfl rfl (by decide)) rfl rfl hl.1 rfl (lv_room (Nat.le_of_ble_eq_true rfl)) dX9_edge_10 ⟨Nat.zero_le _, Nat.zero_le _⟩) hP hD hS hA [] rfl (fun H locs hP hS => ?_)
    refine lv_if_eq (tgt := 26) hx hb dX9_edge_13 (by decide) (fun c6 => ?_) (fun c6 => ?_)
    · have hf := ift hf c6
      refine lv_bipush (v := (-2)) hx hb dX9_edge_26 (by decide) ?_
      exact hret (-2) t_firstEdges_lines t_secondEdges_lines t_firstEdges_cells_a t_secondEdges_cells_a 28 _ _ _ dX9_edge_28 hf hP hD hS
    · have hf := iff_ hf c6
      refine lv_iload_n hx hb dX9_edge_16 rfl (lv_at hl 3 rfl) ?_
      refine lv_iconst (v := 0) hx hb dX9_edge_17 (by decide) ?_
      refine lv_bipush (v := 9) hx hb dX9_edge_18 (by decide) ?_
      obtain ⟨r7, hc8, hf⟩ := ob_some hf
      refine af_iR (va_runS (As := [.int x3, .int 0, .int 9]) (rest := []) ⟨hx, hb, hml, hown, hts⟩ (k_X9_isWithin l G cI cJ (x0 := x3) (x1 := 0) (x2 := 9) (sz := _) (hf := hc8)) (va_cwS 3 hts gX9_edge_X9_isWithin rfl rfl rfl (by decide +kernel) ⟨Nat.le_of_ble_eq_true rfl, Nat.le_of_ble_eq_true rfl⟩) (preS0 (wc := []) hK hP hD hN [] rfl rfl (by decide)) rfl rfl hl.1 rfl (lv_room (Nat.le_of_ble_eq_true rfl)) dX9_edge_20 ⟨Nat.zero_le _, Nat.zero_le _⟩) hP hD hS hA [] rfl (fun H locs hP hS => ?_)
      refine lv_if_ne (tgt := 29) hx hb dX9_edge_23 (by decide) (fun c9 => ?_) (fun c9 => ?_)
      · have hf := iff_ hf c9
        refine lv_iload_n hx hb dX9_edge_29 rfl (lv_at hl 1 rfl) ?_
        refine lv_if_ne (tgt := 40) hx hb dX9_edge_30 (by decide) (fun c10 => ?_) (fun c10 => ?_)
        · have hf := iff_ hf c10
          refine lv_aload_n hx hb dX9_edge_40 rfl (lv_at hl 0 rfl) ?_
          refine va_get (D := G) (ci := 9) (v := .ref t_secondEdges_h) (C := RX9) (T := TX9) (N := 17) hx hb hts iwX9 hown hK hP 0 rfl rfl 3 (by decide) fl_32 (fun _ h9 => h9) rfl dX9_edge_41 ?_
          refine lv_astore (lv' := [(4, .ref t_secondEdges_h), (0, .ref t_h), (1, .int x1), (2, .int x2), (3, .int x3)]) hx hb dX9_edge_44 hl (by decide) rfl (fun ls hl => ?_)
          refine lv_aload hx hb dX9_edge_46 (lv_at hl 0 rfl) ?_
          refine lv_iload_n hx hb dX9_edge_48 rfl (lv_at hl 3 rfl) ?_
          refine lv_iload_n hx hb dX9_edge_49 rfl (lv_at hl 4 rfl) ?_
          refine lv_iconst (v := 0) hx hb dX9_edge_50 (by decide) ?_
          refine lv_iconst (v := 0) hx hb dX9_edge_51 (by decide) ?_
          obtain ⟨r11, w12, w13, hc14, hf⟩ := ob3_some hf
          refine af_iW (wr := [(t_h, .inr (9, [.ref t_fraction_h, .ref t_settings_h, .ref t_firstEdges_h, .ref t_secondEdges_h, .ref t_layers_h, .ref t_sights_h, .ref t_shadows_h, .ref t_heights_h, .ref t_pairs_h, .ref t_rows_h, .ref t_notes_h, .ref t_matching_h, .ref t_speeds_h, .ref t_layering_h, .ref t_boards_h, .ref t_years_h, .ref t_sheets_h])), (t_firstEdges_h, .inr (7, [.int t_firstEdges_width, .int t_firstEdges_most, .ref t_firstEdges_cells_h, .int t_firstEdges_lines])), (t_firstEdges_cells_h, .inl (cI, t_firstEdges_cells_n, .inl t_firstEdges_cells_a))]) (ws2 := [(t_h, .inr (9, [.ref t_fraction_h, .ref t_settings_h, .ref t_firstEdges_h, .ref t_secondEdges_h, .ref t_layers_h, .ref t_sights_h, .ref t_shadows_h, .ref t_heights_h, .ref t_pairs_h, .ref t_rows_h, .ref t_notes_h, .ref t_matching_h, .ref t_speeds_h, .ref t_layering_h, .ref t_boards_h, .ref t_years_h, .ref t_sheets_h])), (t_firstEdges_h, .inr (7, [.int t_firstEdges_width, .int t_firstEdges_most, .ref t_firstEdges_cells_h, .int t_firstEdges_lines])), (t_secondEdges_h, .inr (7, [.int t_secondEdges_width, .int t_secondEdges_most, .ref t_secondEdges_cells_h, .int w12])), (t_firstEdges_cells_h, .inl (cI, t_firstEdges_cells_n, .inl t_firstEdges_cells_a)), (t_secondEdges_cells_h, .inl (cI, t_secondEdges_cells_n, .inl w13))]) (va_runV (As := [.int x2, .int x3, .int 0, .int 0]) (rest := []) ⟨hx, hb, hml, hown, hts⟩ (k_X7_add l G cI cJ (t_h := t_secondEdges_h) (t_cells_h := t_secondEdges_cells_h) (t_width := t_secondEdges_width) (t_most := t_secondEdges_most) (t_lines := t_secondEdges_lines) (t_cells_n := t_secondEdges_cells_n) (t_cells_a := t_secondEdges_cells_a) (x1 := x2) (x2 := x3) (x3 := 0) (x4 := 0) (sz := _) (hf := hc14)) (cwV 4 hts gX9_edge_X7_add rfl rfl rfl (by decide +kernel) ⟨Nat.le_of_ble_eq_true rfl, Nat.le_of_ble_eq_true rfl⟩) (preV0 (ci := 7) (q0 := 0) (C := RX7) (wc := [(t_secondEdges_h, .inr (7, [.int t_secondEdges_width, .int t_secondEdges_most, .ref t_secondEdges_cells_h, .int t_secondEdges_lines])), (t_secondEdges_cells_h, .inl (cI, t_secondEdges_cells_n, .inl t_secondEdges_cells_a))]) hK hP hD hN [2, 4] rfl rfl (by decide) rfl rfl) rfl rfl hl.1 rfl (lv_room (Nat.le_of_ble_eq_true rfl)) dX9_edge_52 ⟨Nat.zero_le _, Nat.zero_le _⟩) hP hD hS hA [2, 4] [0, 1, 3] [0, 1, 3, 2, 4] rfl rfl (by decide) (by decide) rfl rfl (by decide) (fun H locs hP hD hS => ?_)
          exact hret r11 t_firstEdges_lines w12 t_firstEdges_cells_a w13 55 _ _ _ dX9_edge_55 hf hP hD hS
        · have hf := ift hf c10
          refine lv_aload_n hx hb dX9_edge_33 rfl (lv_at hl 0 rfl) ?_
          refine va_get (D := G) (ci := 9) (v := .ref t_firstEdges_h) (C := RX9) (T := TX9) (N := 17) hx hb hts iwX9 hown hK hP 0 rfl rfl 2 (by decide) fl_28 (fun _ h9 => h9) rfl dX9_edge_34 ?_
          refine lv_goto (tgt := 44) hx hb dX9_edge_37 (by decide) ?_
          refine lv_astore (lv' := [(4, .ref t_firstEdges_h), (0, .ref t_h), (1, .int x1), (2, .int x2), (3, .int x3)]) hx hb dX9_edge_44 hl (by decide) rfl (fun ls hl => ?_)
          refine lv_aload hx hb dX9_edge_46 (lv_at hl 0 rfl) ?_
          refine lv_iload_n hx hb dX9_edge_48 rfl (lv_at hl 3 rfl) ?_
          refine lv_iload_n hx hb dX9_edge_49 rfl (lv_at hl 4 rfl) ?_
          refine lv_iconst (v := 0) hx hb dX9_edge_50 (by decide) ?_
          refine lv_iconst (v := 0) hx hb dX9_edge_51 (by decide) ?_
          obtain ⟨r15, w16, w17, hc18, hf⟩ := ob3_some hf
          refine af_iW (wr := [(t_h, .inr (9, [.ref t_fraction_h, .ref t_settings_h, .ref t_firstEdges_h, .ref t_secondEdges_h, .ref t_layers_h, .ref t_sights_h, .ref t_shadows_h, .ref t_heights_h, .ref t_pairs_h, .ref t_rows_h, .ref t_notes_h, .ref t_matching_h, .ref t_speeds_h, .ref t_layering_h, .ref t_boards_h, .ref t_years_h, .ref t_sheets_h])), (t_secondEdges_h, .inr (7, [.int t_secondEdges_width, .int t_secondEdges_most, .ref t_secondEdges_cells_h, .int t_secondEdges_lines])), (t_secondEdges_cells_h, .inl (cI, t_secondEdges_cells_n, .inl t_secondEdges_cells_a))]) (ws2 := [(t_h, .inr (9, [.ref t_fraction_h, .ref t_settings_h, .ref t_firstEdges_h, .ref t_secondEdges_h, .ref t_layers_h, .ref t_sights_h, .ref t_shadows_h, .ref t_heights_h, .ref t_pairs_h, .ref t_rows_h, .ref t_notes_h, .ref t_matching_h, .ref t_speeds_h, .ref t_layering_h, .ref t_boards_h, .ref t_years_h, .ref t_sheets_h])), (t_firstEdges_h, .inr (7, [.int t_firstEdges_width, .int t_firstEdges_most, .ref t_firstEdges_cells_h, .int w16])), (t_secondEdges_h, .inr (7, [.int t_secondEdges_width, .int t_secondEdges_most, .ref t_secondEdges_cells_h, .int t_secondEdges_lines])), (t_firstEdges_cells_h, .inl (cI, t_firstEdges_cells_n, .inl w17)), (t_secondEdges_cells_h, .inl (cI, t_secondEdges_cells_n, .inl t_secondEdges_cells_a))]) (va_runV (As := [.int x2, .int x3, .int 0, .int 0]) (rest := []) ⟨hx, hb, hml, hown, hts⟩ (k_X7_add l G cI cJ (t_h := t_firstEdges_h) (t_cells_h := t_firstEdges_cells_h) (t_width := t_firstEdges_width) (t_most := t_firstEdges_most) (t_lines := t_firstEdges_lines) (t_cells_n := t_firstEdges_cells_n) (t_cells_a := t_firstEdges_cells_a) (x1 := x2) (x2 := x3) (x3 := 0) (x4 := 0) (sz := _) (hf := hc18)) (cwV 4 hts gX9_edge_X7_add rfl rfl rfl (by decide +kernel) ⟨Nat.le_of_ble_eq_true rfl, Nat.le_of_ble_eq_true rfl⟩) (preV0 (ci := 7) (q0 := 0) (C := RX7) (wc := [(t_firstEdges_h, .inr (7, [.int t_firstEdges_width, .int t_firstEdges_most, .ref t_firstEdges_cells_h, .int t_firstEdges_lines])), (t_firstEdges_cells_h, .inl (cI, t_firstEdges_cells_n, .inl t_firstEdges_cells_a))]) hK hP hD hN [1, 3] rfl rfl (by decide) rfl rfl) rfl rfl hl.1 rfl (lv_room (Nat.le_of_ble_eq_true rfl)) dX9_edge_52 ⟨Nat.zero_le _, Nat.zero_le _⟩) hP hD hS hA [1, 3] [0, 2, 4] [0, 3, 1, 4, 2] rfl rfl (by decide) (by decide) rfl rfl (by decide) (fun H locs hP hD hS => ?_)
          exact hret r15 w16 t_secondEdges_lines w17 t_secondEdges_cells_a 55 _ _ _ dX9_edge_55 hf hP hD hS
      · have hf := ift hf c9
        refine lv_bipush (v := (-2)) hx hb dX9_edge_26 (by decide) ?_
        exact hret (-2) t_firstEdges_lines t_secondEdges_lines t_firstEdges_cells_a t_secondEdges_cells_a 28 _ _ _ dX9_edge_28 hf hP hD hS
set_option maxRecDepth 20000 in
theorem ggX9_clear_X7_empty : GoodIn wsX9_clear wsX7_empty := goodIn_r _ [7, 8, 26, 27, 28, 29] (by decide +kernel) (by decide +kernel)
set_option maxRecDepth 20000 in
theorem gX9_clear_X7_empty : GoodIn wsX9_clear (wsV RX9 124 RX7 yX7_empty wsX7_empty) := goodIn_app (goodIn_of _ (by decide +kernel)) ggX9_clear_X7_empty
theorem dX9_clear_0 : decode cX9_clear 0 = .ok (.aload_n 0, 1) := by decide +kernel
theorem dX9_clear_1 : decode cX9_clear 1 = .ok (.getfield 28, 3) := by decide +kernel
theorem dX9_clear_4 : decode cX9_clear 4 = .ok (.invokevirtual 124, 3) := by decide +kernel
theorem dX9_clear_7 : decode cX9_clear 7 = .ok (.aload_n 0, 1) := by decide +kernel
theorem dX9_clear_8 : decode cX9_clear 8 = .ok (.getfield 32, 3) := by decide +kernel
theorem dX9_clear_11 : decode cX9_clear 11 = .ok (.invokevirtual 124, 3) := by decide +kernel
theorem dX9_clear_14 : decode cX9_clear 14 = .ok (.iadd, 1) := by decide +kernel
theorem dX9_clear_15 : decode cX9_clear 15 = .ok (.ireturn, 1) := by decide +kernel
set_option maxRecDepth 100000 in
def fX9_clear (t_firstEdges_lines : Int32) (t_secondEdges_lines : Int32) : Option (Int32 × Int32 × Int32) :=
  ob2 (fX7_empty t_firstEdges_lines) fun r1 w2 =>
  ob2 (fX7_empty t_secondEdges_lines) fun r4 w5 =>
  some (r1 + r4, w2, w5)
abbrev rmX9_clear : Room := { frames := 1, cells := 0, slots := 0, locals := 21 }
theorem iwX9_clear_X9 : ∀ w ∈ u_ws RX9 TX9 17, w ∈ wsX9_clear := by decide +kernel
set_option maxHeartbeats 4000000 in
set_option maxRecDepth 100000 in
theorem k_X9_clear (l : Launch) (G : va_G) (cI cJ : ClassId) (t_h t_fraction_h t_settings_h t_firstEdges_h t_secondEdges_h t_layers_h t_sights_h t_shadows_h t_heights_h t_pairs_h t_rows_h t_notes_h t_matching_h t_speeds_h t_layering_h t_boards_h t_years_h t_sheets_h t_firstEdges_cells_h t_secondEdges_cells_h : Nat) (sz : Nat) (t_firstEdges_width : Int32) (t_firstEdges_most : Int32) (t_firstEdges_lines : Int32) (t_secondEdges_width : Int32) (t_secondEdges_most : Int32) (t_secondEdges_lines : Int32) {o_r : Int32} {o_t_firstEdges_lines : Int32} {o_t_secondEdges_lines : Int32} (hf : fX9_clear t_firstEdges_lines t_secondEdges_lines = some (o_r, o_t_firstEdges_lines, o_t_secondEdges_lines)) : MetI l yX9_clear wsX9_clear rmX9_clear [.ref t_h] G cI cJ [(t_h, .inr (9, [.ref t_fraction_h, .ref t_settings_h, .ref t_firstEdges_h, .ref t_secondEdges_h, .ref t_layers_h, .ref t_sights_h, .ref t_shadows_h, .ref t_heights_h, .ref t_pairs_h, .ref t_rows_h, .ref t_notes_h, .ref t_matching_h, .ref t_speeds_h, .ref t_layering_h, .ref t_boards_h, .ref t_years_h, .ref t_sheets_h])), (t_firstEdges_h, .inr (7, [.int t_firstEdges_width, .int t_firstEdges_most, .ref t_firstEdges_cells_h, .int t_firstEdges_lines])), (t_secondEdges_h, .inr (7, [.int t_secondEdges_width, .int t_secondEdges_most, .ref t_secondEdges_cells_h, .int t_secondEdges_lines]))] [(t_h, .inr (9, [.ref t_fraction_h, .ref t_settings_h, .ref t_firstEdges_h, .ref t_secondEdges_h, .ref t_layers_h, .ref t_sights_h, .ref t_shadows_h, .ref t_heights_h, .ref t_pairs_h, .ref t_rows_h, .ref t_notes_h, .ref t_matching_h, .ref t_speeds_h, .ref t_layering_h, .ref t_boards_h, .ref t_years_h, .ref t_sheets_h])), (t_firstEdges_h, .inr (7, [.int t_firstEdges_width, .int t_firstEdges_most, .ref t_firstEdges_cells_h, .int o_t_firstEdges_lines])), (t_secondEdges_h, .inr (7, [.int t_secondEdges_width, .int t_secondEdges_most, .ref t_secondEdges_cells_h, .int o_t_secondEdges_lines]))] sz o_r := by
  refine en_0 (l := l) (y := yX9_clear) (wsl := wsX9_clear) (rm := rmX9_clear) (av := [.ref t_h]) (G := G) (cI := cI) (cJ := cJ) (w0 := [(t_h, .inr (9, [.ref t_fraction_h, .ref t_settings_h, .ref t_firstEdges_h, .ref t_secondEdges_h, .ref t_layers_h, .ref t_sights_h, .ref t_shadows_h, .ref t_heights_h, .ref t_pairs_h, .ref t_rows_h, .ref t_notes_h, .ref t_matching_h, .ref t_speeds_h, .ref t_layering_h, .ref t_boards_h, .ref t_years_h, .ref t_sheets_h])), (t_firstEdges_h, .inr (7, [.int t_firstEdges_width, .int t_firstEdges_most, .ref t_firstEdges_cells_h, .int t_firstEdges_lines])), (t_secondEdges_h, .inr (7, [.int t_secondEdges_width, .int t_secondEdges_most, .ref t_secondEdges_cells_h, .int t_secondEdges_lines]))]) (sz := sz) (Qf := fun A => Qi0 G cI cJ [(t_h, .inr (9, [.ref t_fraction_h, .ref t_settings_h, .ref t_firstEdges_h, .ref t_secondEdges_h, .ref t_layers_h, .ref t_sights_h, .ref t_shadows_h, .ref t_heights_h, .ref t_pairs_h, .ref t_rows_h, .ref t_notes_h, .ref t_matching_h, .ref t_speeds_h, .ref t_layering_h, .ref t_boards_h, .ref t_years_h, .ref t_sheets_h])), (t_firstEdges_h, .inr (7, [.int t_firstEdges_width, .int t_firstEdges_most, .ref t_firstEdges_cells_h, .int o_t_firstEdges_lines])), (t_secondEdges_h, .inr (7, [.int t_secondEdges_width, .int t_secondEdges_most, .ref t_secondEdges_cells_h, .int o_t_secondEdges_lines]))] o_r A) (cc := cX9_clear) (maxL := 1) (ret := (some .int)) RX9 (by decide +kernel) rfl rfl (Nat.le_of_ble_eq_true rfl) ?_
  intro p e s m args below meth c A ls Q hQ hx hb hr hts hown hlocks hml hN hK hP hD hS hA hl
  have hl : lv_has ls 1 [(0, .ref t_h)] := hl
  have iwX9 := iwX9_clear_X9
  have fl_28 := hts (.fieldLink RX9 28 "CloudOffice" "firstEdges" "LCloudOffice$Table;") (by decide +kernel)
  have fl_32 := hts (.fieldLink RX9 32 "CloudOffice" "secondEdges" "LCloudOffice$Table;") (by decide +kernel)
  have hret : ∀ (o_r9 : Int32) (o_t_firstEdges_lines9 : Int32) (o_t_secondEdges_lines9 : Int32) (pc : Nat) (H : Heap) (locs : List Loc) (ls : Array Slot), decode cX9_clear pc = .ok (.ireturn, 1) → some (o_r9, o_t_firstEdges_lines9, o_t_secondEdges_lines9) = some (o_r, o_t_firstEdges_lines, o_t_secondEdges_lines) → va_P G vwCl [(t_h, .inr (9, [.ref t_fraction_h, .ref t_settings_h, .ref t_firstEdges_h, .ref t_secondEdges_h, .ref t_layers_h, .ref t_sights_h, .ref t_shadows_h, .ref t_heights_h, .ref t_pairs_h, .ref t_rows_h, .ref t_notes_h, .ref t_matching_h, .ref t_speeds_h, .ref t_layering_h, .ref t_boards_h, .ref t_years_h, .ref t_sheets_h])), (t_firstEdges_h, .inr (7, [.int t_firstEdges_width, .int t_firstEdges_most, .ref t_firstEdges_cells_h, .int o_t_firstEdges_lines9])), (t_secondEdges_h, .inr (7, [.int t_secondEdges_width, .int t_secondEdges_most, .ref t_secondEdges_cells_h, .int o_t_secondEdges_lines9]))] H → va_D A [(t_h, .inr (9, [.ref t_fraction_h, .ref t_settings_h, .ref t_firstEdges_h, .ref t_secondEdges_h, .ref t_layers_h, .ref t_sights_h, .ref t_shadows_h, .ref t_heights_h, .ref t_pairs_h, .ref t_rows_h, .ref t_notes_h, .ref t_matching_h, .ref t_speeds_h, .ref t_layering_h, .ref t_boards_h, .ref t_years_h, .ref t_sheets_h])), (t_firstEdges_h, .inr (7, [.int t_firstEdges_width, .int t_firstEdges_most, .ref t_firstEdges_cells_h, .int o_t_firstEdges_lines9])), (t_secondEdges_h, .inr (7, [.int t_secondEdges_width, .int t_secondEdges_most, .ref t_secondEdges_cells_h, .int o_t_secondEdges_lines9]))] → va_S A s.heap H locs → W p l e rmX9_clear s m args below meth c H locs 0 0 Q (F0 m pc ls [.int o_r9]) := by
    intro o_r9 o_t_firstEdges_lines9 o_t_secondEdges_lines9 pc H locs ls hdg he hP hD hS
    cases he
    subst hQ
    exact rt_i hx hb hr hlocks hK hP hD hS rfl hdg
  clear hQ
  unfold fX9_clear at hf
  refine lv_aload_n hx hb dX9_clear_0 rfl (lv_at hl 0 rfl) ?_
  refine va_get (D := G) (ci := 9) (v := .ref t_firstEdges_h) (C := RX9) (T := TX9) (N := 17) hx hb hts iwX9 hown hK hP 0 rfl rfl 2 (by decide) fl_28 (fun _ h9 => h9) rfl dX9_clear_1 ?_
  obtain ⟨r1, w2, hc3, hf⟩ := ob2_some hf
  refine af_iW (wr := [(t_h, .inr (9, [.ref t_fraction_h, .ref t_settings_h, .ref t_firstEdges_h, .ref t_secondEdges_h, .ref t_layers_h, .ref t_sights_h, .ref t_shadows_h, .ref t_heights_h, .ref t_pairs_h, .ref t_rows_h, .ref t_notes_h, .ref t_matching_h, .ref t_speeds_h, .ref t_layering_h, .ref t_boards_h, .ref t_years_h, .ref t_sheets_h])), (t_secondEdges_h, .inr (7, [.int t_secondEdges_width, .int t_secondEdges_most, .ref t_secondEdges_cells_h, .int t_secondEdges_lines]))]) (ws2 := [(t_h, .inr (9, [.ref t_fraction_h, .ref t_settings_h, .ref t_firstEdges_h, .ref t_secondEdges_h, .ref t_layers_h, .ref t_sights_h, .ref t_shadows_h, .ref t_heights_h, .ref t_pairs_h, .ref t_rows_h, .ref t_notes_h, .ref t_matching_h, .ref t_speeds_h, .ref t_layering_h, .ref t_boards_h, .ref t_years_h, .ref t_sheets_h])), (t_firstEdges_h, .inr (7, [.int t_firstEdges_width, .int t_firstEdges_most, .ref t_firstEdges_cells_h, .int w2])), (t_secondEdges_h, .inr (7, [.int t_secondEdges_width, .int t_secondEdges_most, .ref t_secondEdges_cells_h, .int t_secondEdges_lines]))]) (va_runV (As := []) (rest := []) ⟨hx, hb, hml, hown, hts⟩ (k_X7_empty l G cI cJ (t_h := t_firstEdges_h) (t_cells_h := t_firstEdges_cells_h) (t_width := t_firstEdges_width) (t_most := t_firstEdges_most) (t_lines := t_firstEdges_lines) (sz := _) (hf := hc3)) (cwV 0 hts gX9_clear_X7_empty rfl rfl rfl (by decide +kernel) ⟨Nat.le_of_ble_eq_true rfl, Nat.le_of_ble_eq_true rfl⟩) (preV0 (ci := 7) (q0 := 0) (C := RX7) (wc := [(t_firstEdges_h, .inr (7, [.int t_firstEdges_width, .int t_firstEdges_most, .ref t_firstEdges_cells_h, .int t_firstEdges_lines]))]) hK hP hD hN [1] rfl rfl (by decide) rfl rfl) rfl rfl hl.1 rfl (lv_room (Nat.le_of_ble_eq_true rfl)) dX9_clear_4 ⟨Nat.zero_le _, Nat.zero_le _⟩) hP hD hS hA [1] [0, 2] [0, 2, 1] rfl rfl (by decide) (by decide) rfl rfl (by decide) (fun H locs hP hD hS => ?_)
  refine lv_aload_n hx hb dX9_clear_7 rfl (lv_at hl 0 rfl) ?_
  refine va_get (D := G) (ci := 9) (v := .ref t_secondEdges_h) (C := RX9) (T := TX9) (N := 17) hx hb hts iwX9 hown hK hP 0 rfl rfl 3 (by decide) fl_32 (fun _ h9 => h9) rfl dX9_clear_8 ?_
  obtain ⟨r4, w5, hc6, hf⟩ := ob2_some hf
  refine af_iW (wr := [(t_h, .inr (9, [.ref t_fraction_h, .ref t_settings_h, .ref t_firstEdges_h, .ref t_secondEdges_h, .ref t_layers_h, .ref t_sights_h, .ref t_shadows_h, .ref t_heights_h, .ref t_pairs_h, .ref t_rows_h, .ref t_notes_h, .ref t_matching_h, .ref t_speeds_h, .ref t_layering_h, .ref t_boards_h, .ref t_years_h, .ref t_sheets_h])), (t_firstEdges_h, .inr (7, [.int t_firstEdges_width, .int t_firstEdges_most, .ref t_firstEdges_cells_h, .int w2]))]) (ws2 := [(t_h, .inr (9, [.ref t_fraction_h, .ref t_settings_h, .ref t_firstEdges_h, .ref t_secondEdges_h, .ref t_layers_h, .ref t_sights_h, .ref t_shadows_h, .ref t_heights_h, .ref t_pairs_h, .ref t_rows_h, .ref t_notes_h, .ref t_matching_h, .ref t_speeds_h, .ref t_layering_h, .ref t_boards_h, .ref t_years_h, .ref t_sheets_h])), (t_firstEdges_h, .inr (7, [.int t_firstEdges_width, .int t_firstEdges_most, .ref t_firstEdges_cells_h, .int w2])), (t_secondEdges_h, .inr (7, [.int t_secondEdges_width, .int t_secondEdges_most, .ref t_secondEdges_cells_h, .int w5]))]) (va_runV (As := []) (rest := [.int r1]) ⟨hx, hb, hml, hown, hts⟩ (k_X7_empty l G cI cJ (t_h := t_secondEdges_h) (t_cells_h := t_secondEdges_cells_h) (t_width := t_secondEdges_width) (t_most := t_secondEdges_most) (t_lines := t_secondEdges_lines) (sz := _) (hf := hc6)) (cwV 0 hts gX9_clear_X7_empty rfl rfl rfl (by decide +kernel) ⟨Nat.le_of_ble_eq_true rfl, Nat.le_of_ble_eq_true rfl⟩) (preV0 (ci := 7) (q0 := 0) (C := RX7) (wc := [(t_secondEdges_h, .inr (7, [.int t_secondEdges_width, .int t_secondEdges_most, .ref t_secondEdges_cells_h, .int t_secondEdges_lines]))]) hK hP hD hN [2] rfl rfl (by decide) rfl rfl) rfl rfl hl.1 rfl (lv_room (Nat.le_of_ble_eq_true rfl)) dX9_clear_11 ⟨Nat.zero_le _, Nat.zero_le _⟩) hP hD hS hA [2] [0, 1] [0, 1, 2] rfl rfl (by decide) (by decide) rfl rfl (by decide) (fun H locs hP hD hS => ?_)
  refine lv_iadd hx hb dX9_clear_14 ?_
  exact hret (r1 + r4) w2 w5 15 _ _ _ dX9_clear_15 hf hP hD hS
set_option maxRecDepth 20000 in
theorem ggX9_height_X9_isLean : GoodIn wsX9_height wsX9_isLean := goodIn_r _ [8, 9, 10, 7, 11] (by decide +kernel) (by decide +kernel)
set_option maxRecDepth 20000 in
theorem gX9_height_X9_isLean : GoodIn wsX9_height (va_wsS RX9 116 yX9_isLean wsX9_isLean) := goodIn_app (goodIn_of _ (by decide +kernel)) ggX9_height_X9_isLean
set_option maxRecDepth 20000 in
theorem ggX9_height_X9_isWithin : GoodIn wsX9_height wsX9_isWithin := goodIn_r _ [11] (by decide +kernel) (by decide +kernel)
set_option maxRecDepth 20000 in
theorem gX9_height_X9_isWithin : GoodIn wsX9_height (va_wsS RX9 105 yX9_isWithin wsX9_isWithin) := goodIn_app (goodIn_of _ (by decide +kernel)) ggX9_height_X9_isWithin
set_option maxRecDepth 20000 in
theorem ggX9_height_X1_put : GoodIn wsX9_height wsX1_put := goodIn_r _ [16, 17, 18, 19, 20, 21, 22, 23, 24, 15, 25, 49, 50] (by decide +kernel) (by decide +kernel)
set_option maxRecDepth 20000 in
theorem gX9_height_X1_put : GoodIn wsX9_height (wsV RX9 132 RX1 yX1_put wsX1_put) := goodIn_app (goodIn_of _ (by decide +kernel)) ggX9_height_X1_put
theorem dX9_height_0 : decode cX9_height 0 = .ok (.iload_n 1, 1) := by decide +kernel
theorem dX9_height_1 : decode cX9_height 1 = .ok (.invokestatic 116, 3) := by decide +kernel
theorem dX9_height_4 : decode cX9_height 4 = .ok (.ifCond .eq 19, 3) := by decide +kernel
theorem dX9_height_7 : decode cX9_height 7 = .ok (.iload_n 2, 1) := by decide +kernel
theorem dX9_height_8 : decode cX9_height 8 = .ok (.invokestatic 116, 3) := by decide +kernel
theorem dX9_height_11 : decode cX9_height 11 = .ok (.ifCond .eq 12, 3) := by decide +kernel
theorem dX9_height_14 : decode cX9_height 14 = .ok (.iload_n 3, 1) := by decide +kernel
theorem dX9_height_15 : decode cX9_height 15 = .ok (.iconst 0, 1) := by decide +kernel
theorem dX9_height_16 : decode cX9_height 16 = .ok (.iconst 3, 1) := by decide +kernel
theorem dX9_height_17 : decode cX9_height 17 = .ok (.invokestatic 105, 3) := by decide +kernel
theorem dX9_height_20 : decode cX9_height 20 = .ok (.ifCond .ne 6, 3) := by decide +kernel
theorem dX9_height_23 : decode cX9_height 23 = .ok (.bipush (-2), 2) := by decide +kernel
theorem dX9_height_25 : decode cX9_height 25 = .ok (.ireturn, 1) := by decide +kernel
theorem dX9_height_26 : decode cX9_height 26 = .ok (.iload_n 1, 1) := by decide +kernel
theorem dX9_height_27 : decode cX9_height 27 = .ok (.iload_n 2, 1) := by decide +kernel
theorem dX9_height_28 : decode cX9_height 28 = .ok (.isub, 1) := by decide +kernel
theorem dX9_height_29 : decode cX9_height 29 = .ok (.i2l, 1) := by decide +kernel
theorem dX9_height_30 : decode cX9_height 30 = .ok (.lstore 4, 2) := by decide +kernel
theorem dX9_height_32 : decode cX9_height 32 = .ok (.iload_n 3, 1) := by decide +kernel
theorem dX9_height_33 : decode cX9_height 33 = .ok (.iconst 2, 1) := by decide +kernel
theorem dX9_height_34 : decode cX9_height 34 = .ok (.if_icmp .ne 23, 3) := by decide +kernel
theorem dX9_height_37 : decode cX9_height 37 = .ok (.lload 4, 2) := by decide +kernel
theorem dX9_height_39 : decode cX9_height 39 = .ok (.ldc2_w 128, 3) := by decide +kernel
theorem dX9_height_42 : decode cX9_height 42 = .ok (.aload_n 0, 1) := by decide +kernel
theorem dX9_height_43 : decode cX9_height 43 = .ok (.getfield 19, 3) := by decide +kernel
theorem dX9_height_46 : decode cX9_height 46 = .ok (.getfield 113, 3) := by decide +kernel
theorem dX9_height_49 : decode cX9_height 49 = .ok (.i2l, 1) := by decide +kernel
theorem dX9_height_50 : decode cX9_height 50 = .ok (.lmul, 1) := by decide +kernel
theorem dX9_height_51 : decode cX9_height 51 = .ok (.ladd, 1) := by decide +kernel
theorem dX9_height_52 : decode cX9_height 52 = .ok (.lstore 4, 2) := by decide +kernel
theorem dX9_height_54 : decode cX9_height 54 = .ok (.goto 25, 3) := by decide +kernel
theorem dX9_height_57 : decode cX9_height 57 = .ok (.iload_n 3, 1) := by decide +kernel
theorem dX9_height_58 : decode cX9_height 58 = .ok (.iconst 3, 1) := by decide +kernel
theorem dX9_height_59 : decode cX9_height 59 = .ok (.if_icmp .ne 20, 3) := by decide +kernel
theorem dX9_height_62 : decode cX9_height 62 = .ok (.lload 4, 2) := by decide +kernel
theorem dX9_height_64 : decode cX9_height 64 = .ok (.ldc2_w 128, 3) := by decide +kernel
theorem dX9_height_67 : decode cX9_height 67 = .ok (.aload_n 0, 1) := by decide +kernel
theorem dX9_height_68 : decode cX9_height 68 = .ok (.getfield 19, 3) := by decide +kernel
theorem dX9_height_71 : decode cX9_height 71 = .ok (.getfield 113, 3) := by decide +kernel
theorem dX9_height_74 : decode cX9_height 74 = .ok (.i2l, 1) := by decide +kernel
theorem dX9_height_75 : decode cX9_height 75 = .ok (.lmul, 1) := by decide +kernel
theorem dX9_height_76 : decode cX9_height 76 = .ok (.lsub, 1) := by decide +kernel
theorem dX9_height_77 : decode cX9_height 77 = .ok (.lstore 4, 2) := by decide +kernel
theorem dX9_height_79 : decode cX9_height 79 = .ok (.lload 4, 2) := by decide +kernel
theorem dX9_height_81 : decode cX9_height 81 = .ok (.lconst 0, 1) := by decide +kernel
theorem dX9_height_82 : decode cX9_height 82 = .ok (.lcmp, 1) := by decide +kernel
theorem dX9_height_83 : decode cX9_height 83 = .ok (.ifCond .gt 5, 3) := by decide +kernel
theorem dX9_height_86 : decode cX9_height 86 = .ok (.iconst 0, 1) := by decide +kernel
theorem dX9_height_87 : decode cX9_height 87 = .ok (.ireturn, 1) := by decide +kernel
theorem dX9_height_88 : decode cX9_height 88 = .ok (.aload_n 0, 1) := by decide +kernel
theorem dX9_height_89 : decode cX9_height 89 = .ok (.getfield 19, 3) := by decide +kernel
theorem dX9_height_92 : decode cX9_height 92 = .ok (.getfield 109, 3) := by decide +kernel
theorem dX9_height_95 : decode cX9_height 95 = .ok (.i2l, 1) := by decide +kernel
theorem dX9_height_96 : decode cX9_height 96 = .ok (.iload_n 3, 1) := by decide +kernel
theorem dX9_height_97 : decode cX9_height 97 = .ok (.iconst 1, 1) := by decide +kernel
theorem dX9_height_98 : decode cX9_height 98 = .ok (.if_icmp .ne 8, 3) := by decide +kernel
theorem dX9_height_101 : decode cX9_height 101 = .ok (.iload_n 1, 1) := by decide +kernel
theorem dX9_height_102 : decode cX9_height 102 = .ok (.i2l, 1) := by decide +kernel
theorem dX9_height_103 : decode cX9_height 103 = .ok (.goto 6, 3) := by decide +kernel
theorem dX9_height_106 : decode cX9_height 106 = .ok (.ldc2_w 130, 3) := by decide +kernel
theorem dX9_height_109 : decode cX9_height 109 = .ok (.lmul, 1) := by decide +kernel
theorem dX9_height_110 : decode cX9_height 110 = .ok (.lstore 6, 2) := by decide +kernel
theorem dX9_height_112 : decode cX9_height 112 = .ok (.aload_n 0, 1) := by decide +kernel
theorem dX9_height_113 : decode cX9_height 113 = .ok (.getfield 10, 3) := by decide +kernel
theorem dX9_height_116 : decode cX9_height 116 = .ok (.lload 6, 2) := by decide +kernel
theorem dX9_height_118 : decode cX9_height 118 = .ok (.lload 4, 2) := by decide +kernel
theorem dX9_height_120 : decode cX9_height 120 = .ok (.invokevirtual 132, 3) := by decide +kernel
theorem dX9_height_123 : decode cX9_height 123 = .ok (.iconst 1, 1) := by decide +kernel
theorem dX9_height_124 : decode cX9_height 124 = .ok (.ireturn, 1) := by decide +kernel
set_option maxRecDepth 100000 in
def fX9_height (x1 : Int32) (x2 : Int32) (x3 : Int32) (t_fraction_above : Int64) (t_fraction_below : Int64) (t_settings_base : Int32) (t_settings_slip : Int32) : Option (Int32 × Int64 × Int64) :=
  ob (fX9_isLean x1) fun r1 =>
  if (b2i r1) = 0 then
    some ((-2), t_fraction_above, t_fraction_below)
  else
    ob (fX9_isLean x2) fun r4 =>
    if (b2i r4) = 0 then
      some ((-2), t_fraction_above, t_fraction_below)
    else
      ob (fX9_isWithin x3 0 3) fun r7 =>
      if (b2i r7) = 0 then
        some ((-2), t_fraction_above, t_fraction_below)
      else
        bv (Int32.toInt64 (x1 - x2)) fun v10 =>
        ob (α := Int64) (
            if x3 = 2 then
              bv (v10 + (2 * (Int32.toInt64 t_settings_slip))) fun v17 =>
              some v17
            else
              if x3 = 3 then
                bv (v10 - (2 * (Int32.toInt64 t_settings_slip))) fun v16 =>
                some v16
              else
                some v10
          ) fun m11 =>
        if 0 < (lg_cmp m11 0) then
          ob (α := Int64) (
              if x3 = 1 then
                some (Int32.toInt64 x1)
              else
                some 1000
            ) fun m19 =>
          bv ((Int32.toInt64 t_settings_base) * m19) fun v23 =>
          ob2 (fX1_put v23 m11 t_fraction_above t_fraction_below) fun w24 w25 =>
          some (1, w24, w25)
        else
          some (0, t_fraction_above, t_fraction_below)
abbrev rmX9_height : Room := { frames := 2, cells := 0, slots := 0, locals := 56 }
theorem iwX9_height_X4 : ∀ w ∈ u_ws RX4 TX4 6, w ∈ wsX9_height := by decide +kernel
theorem iwX9_height_X9 : ∀ w ∈ u_ws RX9 TX9 17, w ∈ wsX9_height := by decide +kernel
set_option maxHeartbeats 4000000 in
set_option maxRecDepth 100000 in
theorem k_X9_height (l : Launch) (G : va_G) (cI cJ : ClassId) (t_h t_fraction_h t_settings_h t_firstEdges_h t_secondEdges_h t_layers_h t_sights_h t_shadows_h t_heights_h t_pairs_h t_rows_h t_notes_h t_matching_h t_speeds_h t_layering_h t_boards_h t_years_h t_sheets_h : Nat) (sz : Nat) (t_fraction_above : Int64) (t_fraction_below : Int64) (t_settings_base : Int32) (t_settings_slip : Int32) (t_settings_low : Int32) (t_settings_high : Int32) (t_settings_unlike : Int32) (t_settings_alone : Int32) (x1 : Int32) (x2 : Int32) (x3 : Int32) {o_r : Int32} {o_t_fraction_above : Int64} {o_t_fraction_below : Int64} (hf : fX9_height x1 x2 x3 t_fraction_above t_fraction_below t_settings_base t_settings_slip = some (o_r, o_t_fraction_above, o_t_fraction_below)) : MetI l yX9_height wsX9_height rmX9_height [.ref t_h, .int x1, .int x2, .int x3] G cI cJ [(t_h, .inr (9, [.ref t_fraction_h, .ref t_settings_h, .ref t_firstEdges_h, .ref t_secondEdges_h, .ref t_layers_h, .ref t_sights_h, .ref t_shadows_h, .ref t_heights_h, .ref t_pairs_h, .ref t_rows_h, .ref t_notes_h, .ref t_matching_h, .ref t_speeds_h, .ref t_layering_h, .ref t_boards_h, .ref t_years_h, .ref t_sheets_h])), (t_fraction_h, .inr (1, [.long t_fraction_above, .long t_fraction_below])), (t_settings_h, .inr (4, [.int t_settings_base, .int t_settings_slip, .int t_settings_low, .int t_settings_high, .int t_settings_unlike, .int t_settings_alone]))] [(t_h, .inr (9, [.ref t_fraction_h, .ref t_settings_h, .ref t_firstEdges_h, .ref t_secondEdges_h, .ref t_layers_h, .ref t_sights_h, .ref t_shadows_h, .ref t_heights_h, .ref t_pairs_h, .ref t_rows_h, .ref t_notes_h, .ref t_matching_h, .ref t_speeds_h, .ref t_layering_h, .ref t_boards_h, .ref t_years_h, .ref t_sheets_h])), (t_fraction_h, .inr (1, [.long o_t_fraction_above, .long o_t_fraction_below])), (t_settings_h, .inr (4, [.int t_settings_base, .int t_settings_slip, .int t_settings_low, .int t_settings_high, .int t_settings_unlike, .int t_settings_alone]))] sz o_r := by
  refine en_0 (l := l) (y := yX9_height) (wsl := wsX9_height) (rm := rmX9_height) (av := [.ref t_h, .int x1, .int x2, .int x3]) (G := G) (cI := cI) (cJ := cJ) (w0 := [(t_h, .inr (9, [.ref t_fraction_h, .ref t_settings_h, .ref t_firstEdges_h, .ref t_secondEdges_h, .ref t_layers_h, .ref t_sights_h, .ref t_shadows_h, .ref t_heights_h, .ref t_pairs_h, .ref t_rows_h, .ref t_notes_h, .ref t_matching_h, .ref t_speeds_h, .ref t_layering_h, .ref t_boards_h, .ref t_years_h, .ref t_sheets_h])), (t_fraction_h, .inr (1, [.long t_fraction_above, .long t_fraction_below])), (t_settings_h, .inr (4, [.int t_settings_base, .int t_settings_slip, .int t_settings_low, .int t_settings_high, .int t_settings_unlike, .int t_settings_alone]))]) (sz := sz) (Qf := fun A => Qi0 G cI cJ [(t_h, .inr (9, [.ref t_fraction_h, .ref t_settings_h, .ref t_firstEdges_h, .ref t_secondEdges_h, .ref t_layers_h, .ref t_sights_h, .ref t_shadows_h, .ref t_heights_h, .ref t_pairs_h, .ref t_rows_h, .ref t_notes_h, .ref t_matching_h, .ref t_speeds_h, .ref t_layering_h, .ref t_boards_h, .ref t_years_h, .ref t_sheets_h])), (t_fraction_h, .inr (1, [.long o_t_fraction_above, .long o_t_fraction_below])), (t_settings_h, .inr (4, [.int t_settings_base, .int t_settings_slip, .int t_settings_low, .int t_settings_high, .int t_settings_unlike, .int t_settings_alone]))] o_r A) (cc := cX9_height) (maxL := 8) (ret := (some .int)) RX9 (by decide +kernel) rfl rfl (Nat.le_of_ble_eq_true rfl) ?_
  intro p e s m args below meth c A ls Q hQ hx hb hr hts hown hlocks hml hN hK hP hD hS hA hl
  have hl : lv_has ls 8 [(0, .ref t_h), (1, .int x1), (2, .int x2), (3, .int x3)] := hl
  have iwX4 := iwX9_height_X4
  have iwX9 := iwX9_height_X9
  have fl_10 := hts (.fieldLink RX9 10 "CloudOffice" "fraction" "LCloudOffice$Fraction;") (by decide +kernel)
  have fl_19 := hts (.fieldLink RX9 19 "CloudOffice" "settings" "LCloudOffice$Settings;") (by decide +kernel)
  have fl_109 : (Cond.fieldLinkNest RX9 109 "CloudOffice$Settings" "base" "I" "CloudOffice").before args s = true := nst_get hN 0 rfl rfl
  have fl_113 : (Cond.fieldLinkNest RX9 113 "CloudOffice$Settings" "slip" "I" "CloudOffice").before args s = true := nst_get hN 1 rfl rfl
  have kc_128 := hts (.constantLong RX9 128 (2)) (by decide +kernel)
  have kc_130 := hts (.constantLong RX9 130 (1000)) (by decide +kernel)
  have hret : ∀ (o_r9 : Int32) (o_t_fraction_above9 : Int64) (o_t_fraction_below9 : Int64) (pc : Nat) (H : Heap) (locs : List Loc) (ls : Array Slot), decode cX9_height pc = .ok (.ireturn, 1) → some (o_r9, o_t_fraction_above9, o_t_fraction_below9) = some (o_r, o_t_fraction_above, o_t_fraction_below) → va_P G vwCl [(t_h, .inr (9, [.ref t_fraction_h, .ref t_settings_h, .ref t_firstEdges_h, .ref t_secondEdges_h, .ref t_layers_h, .ref t_sights_h, .ref t_shadows_h, .ref t_heights_h, .ref t_pairs_h, .ref t_rows_h, .ref t_notes_h, .ref t_matching_h, .ref t_speeds_h, .ref t_layering_h, .ref t_boards_h, .ref t_years_h, .ref t_sheets_h])), (t_fraction_h, .inr (1, [.long o_t_fraction_above9, .long o_t_fraction_below9])), (t_settings_h, .inr (4, [.int t_settings_base, .int t_settings_slip, .int t_settings_low, .int t_settings_high, .int t_settings_unlike, .int t_settings_alone]))] H → va_D A [(t_h, .inr (9, [.ref t_fraction_h, .ref t_settings_h, .ref t_firstEdges_h, .ref t_secondEdges_h, .ref t_layers_h, .ref t_sights_h, .ref t_shadows_h, .ref t_heights_h, .ref t_pairs_h, .ref t_rows_h, .ref t_notes_h, .ref t_matching_h, .ref t_speeds_h, .ref t_layering_h, .ref t_boards_h, .ref t_years_h, .ref t_sheets_h])), (t_fraction_h, .inr (1, [.long o_t_fraction_above9, .long o_t_fraction_below9])), (t_settings_h, .inr (4, [.int t_settings_base, .int t_settings_slip, .int t_settings_low, .int t_settings_high, .int t_settings_unlike, .int t_settings_alone]))] → va_S A s.heap H locs → W p l e rmX9_height s m args below meth c H locs 0 0 Q (F0 m pc ls [.int o_r9]) := by
    intro o_r9 o_t_fraction_above9 o_t_fraction_below9 pc H locs ls hdg he hP hD hS
    cases he
    subst hQ
    exact rt_i hx hb hr hlocks hK hP hD hS rfl hdg
  clear hQ
  unfold fX9_height at hf
  refine lv_iload_n hx hb dX9_height_0 rfl (lv_at hl 1 rfl) ?_
  obtain ⟨r1, hc2, hf⟩ := ob_some hf
  refine af_iR (va_runS (As := [.int x1]) (rest := []) ⟨hx, hb, hml, hown, hts⟩ (k_X9_isLean l G cI cJ (x0 := x1) (sz := _) (hf := hc2)) (va_cwS 1 hts gX9_height_X9_isLean rfl rfl rfl (by decide +kernel) ⟨Nat.le_of_ble_eq_true rfl, Nat.le_of_ble_eq_true rfl⟩) (preS0 (wc := []) hK hP hD hN [] rfl rfl (by decide)) rfl rfl hl.1 rfl (lv_room (Nat.le_of_ble_eq_true rfl)) dX9_height_1 ⟨Nat.zero_le _, Nat.zero_le _⟩) hP hD hS hA [] rfl (fun H locs hP hS => ?_)
  refine lv_if_eq (tgt := 23) hx hb dX9_height_4 (by decide) (fun c3 => ?_) (fun c3 => ?_)
  · have hf := ift hf c3
    refine lv_bipush (v := (-2)) hx hb dX9_height_23 (by decide) ?_
    exact hret (-2) t_fraction_above t_fraction_below 25 _ _ _ dX9_height_25 hf hP hD hS
  · have hf := iff_ hf c3
    refine lv_iload_n hx hb dX9_height_7 rfl (lv_at hl 2 rfl) ?_
    obtain ⟨r4, hc5, hf⟩ := ob_some hf
    refine af_iR (va_runS (As := [.int x2]) (rest := []) ⟨hx, hb, hml, hown, hts⟩ (k_X9_isLean l G cI cJ (x0 := x2) (sz := _) (hf := hc5)) (va_cwS 1 hts gX9_height_X9_isLean rfl rfl rfl (by decide +kernel) ⟨Nat.le_of_ble_eq_true rfl, Nat.le_of_ble_eq_true rfl⟩) (preS0 (wc := []) hK hP hD hN [] rfl rfl (by decide)) rfl rfl hl.1 rfl (lv_room (Nat.le_of_ble_eq_true rfl)) dX9_height_8 ⟨Nat.zero_le _, Nat.zero_le _⟩) hP hD hS hA [] rfl (fun H locs hP hS => ?_)
    refine lv_if_eq (tgt := 23) hx hb dX9_height_11 (by decide) (fun c6 => ?_) (fun c6 => ?_)
    · have hf := ift hf c6
      refine lv_bipush (v := (-2)) hx hb dX9_height_23 (by decide) ?_
      exact hret (-2) t_fraction_above t_fraction_below 25 _ _ _ dX9_height_25 hf hP hD hS
    · have hf := iff_ hf c6
      refine lv_iload_n hx hb dX9_height_14 rfl (lv_at hl 3 rfl) ?_
      refine lv_iconst (v := 0) hx hb dX9_height_15 (by decide) ?_
      refine lv_iconst (v := 3) hx hb dX9_height_16 (by decide) ?_
      obtain ⟨r7, hc8, hf⟩ := ob_some hf
      refine af_iR (va_runS (As := [.int x3, .int 0, .int 3]) (rest := []) ⟨hx, hb, hml, hown, hts⟩ (k_X9_isWithin l G cI cJ (x0 := x3) (x1 := 0) (x2 := 3) (sz := _) (hf := hc8)) (va_cwS 3 hts gX9_height_X9_isWithin rfl rfl rfl (by decide +kernel) ⟨Nat.le_of_ble_eq_true rfl, Nat.le_of_ble_eq_true rfl⟩) (preS0 (wc := []) hK hP hD hN [] rfl rfl (by decide)) rfl rfl hl.1 rfl (lv_room (Nat.le_of_ble_eq_true rfl)) dX9_height_17 ⟨Nat.zero_le _, Nat.zero_le _⟩) hP hD hS hA [] rfl (fun H locs hP hS => ?_)
      refine lv_if_ne (tgt := 26) hx hb dX9_height_20 (by decide) (fun c9 => ?_) (fun c9 => ?_)
      · have hf := iff_ hf c9
        refine lv_iload_n hx hb dX9_height_26 rfl (lv_at hl 1 rfl) ?_
        refine lv_iload_n hx hb dX9_height_27 rfl (lv_at hl 2 rfl) ?_
        refine lv_isub hx hb dX9_height_28 ?_
        refine lv_i2l (v := Int32.toInt64 (x1 - x2)) hx hb dX9_height_29 rfl ?_
        refine lv_topl (fun v10 ev10 => ?_)
        have hf := bv_at ev10 hf
        refine lv_lstore (lv' := [(4, .long v10), (0, .ref t_h), (1, .int x1), (2, .int x2), (3, .int x3)]) hx hb dX9_height_30 hl (by decide) rfl (fun ls hl => ?_)
        refine lv_iload_n hx hb dX9_height_32 rfl (lv_at hl 4 rfl) ?_
        refine lv_iconst (v := 2) hx hb dX9_height_33 (by decide) ?_
        obtain ⟨m11, hr12, hf⟩ := ob_some hf
        have hj13 : ∀ (m119 : Int64), some m119 = some m11 → ∀ (H : Heap) (locs : List Loc) (ls : Array Slot), va_P G vwCl [(t_h, .inr (9, [.ref t_fraction_h, .ref t_settings_h, .ref t_firstEdges_h, .ref t_secondEdges_h, .ref t_layers_h, .ref t_sights_h, .ref t_shadows_h, .ref t_heights_h, .ref t_pairs_h, .ref t_rows_h, .ref t_notes_h, .ref t_matching_h, .ref t_speeds_h, .ref t_layering_h, .ref t_boards_h, .ref t_years_h, .ref t_sheets_h])), (t_fraction_h, .inr (1, [.long t_fraction_above, .long t_fraction_below])), (t_settings_h, .inr (4, [.int t_settings_base, .int t_settings_slip, .int t_settings_low, .int t_settings_high, .int t_settings_unlike, .int t_settings_alone]))] H → va_D A [(t_h, .inr (9, [.ref t_fraction_h, .ref t_settings_h, .ref t_firstEdges_h, .ref t_secondEdges_h, .ref t_layers_h, .ref t_sights_h, .ref t_shadows_h, .ref t_heights_h, .ref t_pairs_h, .ref t_rows_h, .ref t_notes_h, .ref t_matching_h, .ref t_speeds_h, .ref t_layering_h, .ref t_boards_h, .ref t_years_h, .ref t_sheets_h])), (t_fraction_h, .inr (1, [.long t_fraction_above, .long t_fraction_below])), (t_settings_h, .inr (4, [.int t_settings_base, .int t_settings_slip, .int t_settings_low, .int t_settings_high, .int t_settings_unlike, .int t_settings_alone]))] → va_S A s.heap H locs → lv_has ls 8 [(0, .ref t_h), (1, .int x1), (3, .int x3), (4, .long m119)] → W p l e rmX9_height s m args below meth c H locs 0 0 Q (F0 m 79 ls []) := by
          intro m119 he H locs ls hP hD hS hl
          cases he
          refine lv_lload hx hb dX9_height_79 (lv_at hl 3 rfl) ?_
          refine lv_lconst (v := 0) hx hb dX9_height_81 (by decide) ?_
          refine W.lcmp hx hb dX9_height_82 ?_
          refine lv_if_gt (tgt := 88) hx hb dX9_height_83 (by decide) (fun c18 => ?_) (fun c18 => ?_)
          · have hf := ift hf c18
            refine lv_aload_n hx hb dX9_height_88 rfl (lv_at hl 0 rfl) ?_
            refine va_get (D := G) (ci := 9) (v := .ref t_settings_h) (C := RX9) (T := TX9) (N := 17) hx hb hts iwX9 hown hK hP 0 rfl rfl 1 (by decide) fl_19 (fun _ h9 => h9) rfl dX9_height_89 ?_
            refine va_getN (D := G) (ci := 4) (v := .int t_settings_base) (C := RX4) (T := TX4) (N := 6) hx hb hts iwX4 hown hK hP 2 rfl rfl 0 (by decide) fl_109 (fun _ h9 => h9) rfl dX9_height_92 ?_
            refine lv_i2l (v := Int32.toInt64 t_settings_base) hx hb dX9_height_95 rfl ?_
            refine lv_iload_n hx hb dX9_height_96 rfl (lv_at hl 2 rfl) ?_
            refine lv_iconst (v := 1) hx hb dX9_height_97 (by decide) ?_
            obtain ⟨m19, hr20, hf⟩ := ob_some hf
            have hj21 : ∀ (m199 : Int64), some m199 = some m19 → ∀ (H : Heap) (locs : List Loc) (ls : Array Slot), va_P G vwCl [(t_h, .inr (9, [.ref t_fraction_h, .ref t_settings_h, .ref t_firstEdges_h, .ref t_secondEdges_h, .ref t_layers_h, .ref t_sights_h, .ref t_shadows_h, .ref t_heights_h, .ref t_pairs_h, .ref t_rows_h, .ref t_notes_h, .ref t_matching_h, .ref t_speeds_h, .ref t_layering_h, .ref t_boards_h, .ref t_years_h, .ref t_sheets_h])), (t_fraction_h, .inr (1, [.long t_fraction_above, .long t_fraction_below])), (t_settings_h, .inr (4, [.int t_settings_base, .int t_settings_slip, .int t_settings_low, .int t_settings_high, .int t_settings_unlike, .int t_settings_alone]))] H → va_D A [(t_h, .inr (9, [.ref t_fraction_h, .ref t_settings_h, .ref t_firstEdges_h, .ref t_secondEdges_h, .ref t_layers_h, .ref t_sights_h, .ref t_shadows_h, .ref t_heights_h, .ref t_pairs_h, .ref t_rows_h, .ref t_notes_h, .ref t_matching_h, .ref t_speeds_h, .ref t_layering_h, .ref t_boards_h, .ref t_years_h, .ref t_sheets_h])), (t_fraction_h, .inr (1, [.long t_fraction_above, .long t_fraction_below])), (t_settings_h, .inr (4, [.int t_settings_base, .int t_settings_slip, .int t_settings_low, .int t_settings_high, .int t_settings_unlike, .int t_settings_alone]))] → va_S A s.heap H locs → lv_has ls 8 [(0, .ref t_h), (4, .long m11)] → W p l e rmX9_height s m args below meth c H locs 0 0 Q (F0 m 109 ls [.long m199, .long (Int32.toInt64 t_settings_base)]) := by
              intro m199 he H locs ls hP hD hS hl
              cases he
              refine lv_lmul hx hb dX9_height_109 ?_
              refine lv_topl (fun v23 ev23 => ?_)
              have hf := bv_at ev23 hf
              refine lv_lstore (lv' := [(6, .long v23), (0, .ref t_h), (4, .long m11)]) hx hb dX9_height_110 hl (by decide) rfl (fun ls hl => ?_)
              refine lv_aload_n hx hb dX9_height_112 rfl (lv_at hl 1 rfl) ?_
              refine va_get (D := G) (ci := 9) (v := .ref t_fraction_h) (C := RX9) (T := TX9) (N := 17) hx hb hts iwX9 hown hK hP 0 rfl rfl 0 (by decide) fl_10 (fun _ h9 => h9) rfl dX9_height_113 ?_
              refine lv_lload hx hb dX9_height_116 (lv_at hl 0 rfl) ?_
              refine lv_lload hx hb dX9_height_118 (lv_at hl 2 rfl) ?_
              obtain ⟨w24, w25, hc26, hf⟩ := ob2_some hf
              refine af_vW (wr := [(t_h, .inr (9, [.ref t_fraction_h, .ref t_settings_h, .ref t_firstEdges_h, .ref t_secondEdges_h, .ref t_layers_h, .ref t_sights_h, .ref t_shadows_h, .ref t_heights_h, .ref t_pairs_h, .ref t_rows_h, .ref t_notes_h, .ref t_matching_h, .ref t_speeds_h, .ref t_layering_h, .ref t_boards_h, .ref t_years_h, .ref t_sheets_h])), (t_settings_h, .inr (4, [.int t_settings_base, .int t_settings_slip, .int t_settings_low, .int t_settings_high, .int t_settings_unlike, .int t_settings_alone]))]) (ws2 := [(t_h, .inr (9, [.ref t_fraction_h, .ref t_settings_h, .ref t_firstEdges_h, .ref t_secondEdges_h, .ref t_layers_h, .ref t_sights_h, .ref t_shadows_h, .ref t_heights_h, .ref t_pairs_h, .ref t_rows_h, .ref t_notes_h, .ref t_matching_h, .ref t_speeds_h, .ref t_layering_h, .ref t_boards_h, .ref t_years_h, .ref t_sheets_h])), (t_fraction_h, .inr (1, [.long w24, .long w25])), (t_settings_h, .inr (4, [.int t_settings_base, .int t_settings_slip, .int t_settings_low, .int t_settings_high, .int t_settings_unlike, .int t_settings_alone]))]) (va_runV (As := [.long v23, .long m11]) (rest := []) ⟨hx, hb, hml, hown, hts⟩ (k_X1_put l G cI cJ (t_h := t_fraction_h) (t_above := t_fraction_above) (t_below := t_fraction_below) (x1 := v23) (x3 := m11) (sz := _) (hf := hc26)) (cwV 2 hts gX9_height_X1_put rfl rfl rfl (by decide +kernel) ⟨Nat.le_of_ble_eq_true rfl, Nat.le_of_ble_eq_true rfl⟩) (preV0 (ci := 1) (q0 := 0) (C := RX1) (wc := [(t_fraction_h, .inr (1, [.long t_fraction_above, .long t_fraction_below]))]) hK hP hD hN [1] rfl rfl (by decide) rfl rfl) rfl rfl hl.1 rfl (lv_room (Nat.le_of_ble_eq_true rfl)) dX9_height_120 ⟨Nat.zero_le _, Nat.zero_le _⟩) hP hD hS hA [1] [0, 2] [0, 2, 1] rfl rfl (by decide) (by decide) rfl rfl (by decide) (fun H locs hP hD hS => ?_)
              refine lv_iconst (v := 1) hx hb dX9_height_123 (by decide) ?_
              exact hret 1 w24 w25 124 _ _ _ dX9_height_124 hf hP hD hS
            replace hf := hr20
            refine lv_icmp_ne (tgt := 106) hx hb dX9_height_98 (by decide) (fun c22 => ?_) (fun c22 => ?_)
            · have hf := iff_ hf c22
              refine lv_ldc2 (v := 1000) hx hb hown kc_130 dX9_height_106 ?_
              exact hj21 _ hf _ _ _ hP hD hS (lv_sub hl [0, 3] rfl)
            · have hf := ift hf c22
              refine lv_iload_n hx hb dX9_height_101 rfl (lv_at hl 1 rfl) ?_
              refine lv_i2l (v := Int32.toInt64 x1) hx hb dX9_height_102 rfl ?_
              refine lv_goto (tgt := 109) hx hb dX9_height_103 (by decide) ?_
              exact hj21 _ hf _ _ _ hP hD hS (lv_sub hl [0, 3] rfl)
          · have hf := iff_ hf c18
            refine lv_iconst (v := 0) hx hb dX9_height_86 (by decide) ?_
            exact hret 0 t_fraction_above t_fraction_below 87 _ _ _ dX9_height_87 hf hP hD hS
        replace hf := hr12
        refine lv_icmp_ne (tgt := 57) hx hb dX9_height_34 (by decide) (fun c14 => ?_) (fun c14 => ?_)
        · have hf := iff_ hf c14
          refine lv_iload_n hx hb dX9_height_57 rfl (lv_at hl 4 rfl) ?_
          refine lv_iconst (v := 3) hx hb dX9_height_58 (by decide) ?_
          refine lv_icmp_ne (tgt := 79) hx hb dX9_height_59 (by decide) (fun c15 => ?_) (fun c15 => ?_)
          · have hf := iff_ hf c15
            exact hj13 _ hf _ _ _ hP hD hS (lv_sub hl [1, 2, 4, 0] rfl)
          · have hf := ift hf c15
            refine lv_lload hx hb dX9_height_62 (lv_at hl 0 rfl) ?_
            refine lv_ldc2 (v := 2) hx hb hown kc_128 dX9_height_64 ?_
            refine lv_aload_n hx hb dX9_height_67 rfl (lv_at hl 1 rfl) ?_
            refine va_get (D := G) (ci := 9) (v := .ref t_settings_h) (C := RX9) (T := TX9) (N := 17) hx hb hts iwX9 hown hK hP 0 rfl rfl 1 (by decide) fl_19 (fun _ h9 => h9) rfl dX9_height_68 ?_
            refine va_getN (D := G) (ci := 4) (v := .int t_settings_slip) (C := RX4) (T := TX4) (N := 6) hx hb hts iwX4 hown hK hP 2 rfl rfl 1 (by decide) fl_113 (fun _ h9 => h9) rfl dX9_height_71 ?_
            refine lv_i2l (v := Int32.toInt64 t_settings_slip) hx hb dX9_height_74 rfl ?_
            refine lv_lmul hx hb dX9_height_75 ?_
            refine lv_lsub hx hb dX9_height_76 ?_
            refine lv_topl (fun v16 ev16 => ?_)
            have hf := bv_at ev16 hf
            refine lv_lstore (lv' := [(4, .long v16), (0, .ref t_h), (1, .int x1), (2, .int x2), (3, .int x3)]) hx hb dX9_height_77 hl (by decide) rfl (fun ls hl => ?_)
            exact hj13 _ hf _ _ _ hP hD hS (lv_sub hl [1, 2, 4, 0] rfl)
        · have hf := ift hf c14
          refine lv_lload hx hb dX9_height_37 (lv_at hl 0 rfl) ?_
          refine lv_ldc2 (v := 2) hx hb hown kc_128 dX9_height_39 ?_
          refine lv_aload_n hx hb dX9_height_42 rfl (lv_at hl 1 rfl) ?_
          refine va_get (D := G) (ci := 9) (v := .ref t_settings_h) (C := RX9) (T := TX9) (N := 17) hx hb hts iwX9 hown hK hP 0 rfl rfl 1 (by decide) fl_19 (fun _ h9 => h9) rfl dX9_height_43 ?_
          refine va_getN (D := G) (ci := 4) (v := .int t_settings_slip) (C := RX4) (T := TX4) (N := 6) hx hb hts iwX4 hown hK hP 2 rfl rfl 1 (by decide) fl_113 (fun _ h9 => h9) rfl dX9_height_46 ?_
          refine lv_i2l (v := Int32.toInt64 t_settings_slip) hx hb dX9_height_49 rfl ?_
          refine lv_lmul hx hb dX9_height_50 ?_
          refine lv_ladd hx hb dX9_height_51 ?_
          refine lv_topl (fun v17 ev17 => ?_)
          have hf := bv_at ev17 hf
          refine lv_lstore (lv' := [(4, .long v17), (0, .ref t_h), (1, .int x1), (2, .int x2), (3, .int x3)]) hx hb dX9_height_52 hl (by decide) rfl (fun ls hl => ?_)
          refine lv_goto (tgt := 79) hx hb dX9_height_54 (by decide) ?_
          exact hj13 _ hf _ _ _ hP hD hS (lv_sub hl [1, 2, 4, 0] rfl)
      · have hf := ift hf c9
        refine lv_bipush (v := (-2)) hx hb dX9_height_23 (by decide) ?_
        exact hret (-2) t_fraction_above t_fraction_below 25 _ _ _ dX9_height_25 hf hP hD hS
theorem dX9_part_0 : decode cX9_part 0 = .ok (.iload_n 1, 1) := by decide +kernel
theorem dX9_part_1 : decode cX9_part 1 = .ok (.ifCond .ne 11, 3) := by decide +kernel
theorem dX9_part_4 : decode cX9_part 4 = .ok (.aload_n 0, 1) := by decide +kernel
theorem dX9_part_5 : decode cX9_part 5 = .ok (.getfield 10, 3) := by decide +kernel
theorem dX9_part_8 : decode cX9_part 8 = .ok (.getfield 136, 3) := by decide +kernel
theorem dX9_part_11 : decode cX9_part 11 = .ok (.lreturn, 1) := by decide +kernel
theorem dX9_part_12 : decode cX9_part 12 = .ok (.iload_n 1, 1) := by decide +kernel
theorem dX9_part_13 : decode cX9_part 13 = .ok (.iconst 1, 1) := by decide +kernel
theorem dX9_part_14 : decode cX9_part 14 = .ok (.if_icmp .ne 13, 3) := by decide +kernel
theorem dX9_part_17 : decode cX9_part 17 = .ok (.aload_n 0, 1) := by decide +kernel
theorem dX9_part_18 : decode cX9_part 18 = .ok (.getfield 10, 3) := by decide +kernel
theorem dX9_part_21 : decode cX9_part 21 = .ok (.getfield 140, 3) := by decide +kernel
theorem dX9_part_24 : decode cX9_part 24 = .ok (.goto 6, 3) := by decide +kernel
theorem dX9_part_27 : decode cX9_part 27 = .ok (.ldc2_w 143, 3) := by decide +kernel
theorem dX9_part_30 : decode cX9_part 30 = .ok (.lreturn, 1) := by decide +kernel
set_option maxRecDepth 100000 in
def fX9_part (x1 : Int32) (t_fraction_above : Int64) (t_fraction_below : Int64) : Option (Int64) :=
  if x1 = 0 then
    some t_fraction_above
  else
    if x1 = 1 then
      some t_fraction_below
    else
      some (-9000000000000000000)
abbrev rmX9_part : Room := { frames := 0, cells := 0, slots := 0, locals := 0 }
theorem iwX9_part_X1 : ∀ w ∈ u_ws RX1 TX1 2, w ∈ wsX9_part := by decide +kernel
theorem iwX9_part_X9 : ∀ w ∈ u_ws RX9 TX9 17, w ∈ wsX9_part := by decide +kernel
set_option maxHeartbeats 4000000 in
set_option maxRecDepth 100000 in
theorem k_X9_part (l : Launch) (G : va_G) (cI cJ : ClassId) (t_h t_fraction_h t_settings_h t_firstEdges_h t_secondEdges_h t_layers_h t_sights_h t_shadows_h t_heights_h t_pairs_h t_rows_h t_notes_h t_matching_h t_speeds_h t_layering_h t_boards_h t_years_h t_sheets_h : Nat) (sz : Nat) (t_fraction_above : Int64) (t_fraction_below : Int64) (x1 : Int32) {o_r : Int64} (hf : fX9_part x1 t_fraction_above t_fraction_below = some o_r) : MetL l yX9_part wsX9_part rmX9_part [.ref t_h, .int x1] G cI cJ [(t_h, .inr (9, [.ref t_fraction_h, .ref t_settings_h, .ref t_firstEdges_h, .ref t_secondEdges_h, .ref t_layers_h, .ref t_sights_h, .ref t_shadows_h, .ref t_heights_h, .ref t_pairs_h, .ref t_rows_h, .ref t_notes_h, .ref t_matching_h, .ref t_speeds_h, .ref t_layering_h, .ref t_boards_h, .ref t_years_h, .ref t_sheets_h])), (t_fraction_h, .inr (1, [.long t_fraction_above, .long t_fraction_below]))] [(t_h, .inr (9, [.ref t_fraction_h, .ref t_settings_h, .ref t_firstEdges_h, .ref t_secondEdges_h, .ref t_layers_h, .ref t_sights_h, .ref t_shadows_h, .ref t_heights_h, .ref t_pairs_h, .ref t_rows_h, .ref t_notes_h, .ref t_matching_h, .ref t_speeds_h, .ref t_layering_h, .ref t_boards_h, .ref t_years_h, .ref t_sheets_h])), (t_fraction_h, .inr (1, [.long t_fraction_above, .long t_fraction_below]))] sz o_r := by
  refine en_0 (l := l) (y := yX9_part) (wsl := wsX9_part) (rm := rmX9_part) (av := [.ref t_h, .int x1]) (G := G) (cI := cI) (cJ := cJ) (w0 := [(t_h, .inr (9, [.ref t_fraction_h, .ref t_settings_h, .ref t_firstEdges_h, .ref t_secondEdges_h, .ref t_layers_h, .ref t_sights_h, .ref t_shadows_h, .ref t_heights_h, .ref t_pairs_h, .ref t_rows_h, .ref t_notes_h, .ref t_matching_h, .ref t_speeds_h, .ref t_layering_h, .ref t_boards_h, .ref t_years_h, .ref t_sheets_h])), (t_fraction_h, .inr (1, [.long t_fraction_above, .long t_fraction_below]))]) (sz := sz) (Qf := fun A => Ql0 G cI cJ [(t_h, .inr (9, [.ref t_fraction_h, .ref t_settings_h, .ref t_firstEdges_h, .ref t_secondEdges_h, .ref t_layers_h, .ref t_sights_h, .ref t_shadows_h, .ref t_heights_h, .ref t_pairs_h, .ref t_rows_h, .ref t_notes_h, .ref t_matching_h, .ref t_speeds_h, .ref t_layering_h, .ref t_boards_h, .ref t_years_h, .ref t_sheets_h])), (t_fraction_h, .inr (1, [.long t_fraction_above, .long t_fraction_below]))] o_r A) (cc := cX9_part) (maxL := 2) (ret := (some .long)) RX9 (by decide +kernel) rfl rfl (Nat.le_of_ble_eq_true rfl) ?_
  intro p e s m args below meth c A ls Q hQ hx hb hr hts hown hlocks hml hN hK hP hD hS hA hl
  have hl : lv_has ls 2 [(0, .ref t_h), (1, .int x1)] := hl
  have iwX1 := iwX9_part_X1
  have iwX9 := iwX9_part_X9
  have fl_10 := hts (.fieldLink RX9 10 "CloudOffice" "fraction" "LCloudOffice$Fraction;") (by decide +kernel)
  have fl_136 : (Cond.fieldLinkNest RX9 136 "CloudOffice$Fraction" "above" "J" "CloudOffice").before args s = true := nst_get hN 2 rfl rfl
  have fl_140 : (Cond.fieldLinkNest RX9 140 "CloudOffice$Fraction" "below" "J" "CloudOffice").before args s = true := nst_get hN 3 rfl rfl
  have kc_143 := hts (.constantLong RX9 143 (-9000000000000000000)) (by decide +kernel)
  have hret : ∀ (o_r9 : Int64) (pc : Nat) (H : Heap) (locs : List Loc) (ls : Array Slot), decode cX9_part pc = .ok (.lreturn, 1) → some o_r9 = some o_r → va_P G vwCl [(t_h, .inr (9, [.ref t_fraction_h, .ref t_settings_h, .ref t_firstEdges_h, .ref t_secondEdges_h, .ref t_layers_h, .ref t_sights_h, .ref t_shadows_h, .ref t_heights_h, .ref t_pairs_h, .ref t_rows_h, .ref t_notes_h, .ref t_matching_h, .ref t_speeds_h, .ref t_layering_h, .ref t_boards_h, .ref t_years_h, .ref t_sheets_h])), (t_fraction_h, .inr (1, [.long t_fraction_above, .long t_fraction_below]))] H → va_D A [(t_h, .inr (9, [.ref t_fraction_h, .ref t_settings_h, .ref t_firstEdges_h, .ref t_secondEdges_h, .ref t_layers_h, .ref t_sights_h, .ref t_shadows_h, .ref t_heights_h, .ref t_pairs_h, .ref t_rows_h, .ref t_notes_h, .ref t_matching_h, .ref t_speeds_h, .ref t_layering_h, .ref t_boards_h, .ref t_years_h, .ref t_sheets_h])), (t_fraction_h, .inr (1, [.long t_fraction_above, .long t_fraction_below]))] → va_S A s.heap H locs → W p l e rmX9_part s m args below meth c H locs 0 0 Q (F0 m pc ls [.long o_r9]) := by
    intro o_r9 pc H locs ls hdg he hP hD hS
    cases he
    subst hQ
    exact rt_l hx hb hr hlocks hK hP hD hS rfl hdg
  clear hQ
  unfold fX9_part at hf
  refine lv_iload_n hx hb dX9_part_0 rfl (lv_at hl 1 rfl) ?_
  refine lv_if_ne (tgt := 12) hx hb dX9_part_1 (by decide) (fun c1 => ?_) (fun c1 => ?_)
  · have hf := iff_ hf c1
    refine lv_iload_n hx hb dX9_part_12 rfl (lv_at hl 1 rfl) ?_
    refine lv_iconst (v := 1) hx hb dX9_part_13 (by decide) ?_
    refine lv_icmp_ne (tgt := 27) hx hb dX9_part_14 (by decide) (fun c2 => ?_) (fun c2 => ?_)
    · have hf := iff_ hf c2
      refine lv_ldc2 (v := (-9000000000000000000)) hx hb hown kc_143 dX9_part_27 ?_
      exact hret (-9000000000000000000) 30 _ _ _ dX9_part_30 hf hP hD hS
    · have hf := ift hf c2
      refine lv_aload_n hx hb dX9_part_17 rfl (lv_at hl 0 rfl) ?_
      refine va_get (D := G) (ci := 9) (v := .ref t_fraction_h) (C := RX9) (T := TX9) (N := 17) hx hb hts iwX9 hown hK hP 0 rfl rfl 0 (by decide) fl_10 (fun _ h9 => h9) rfl dX9_part_18 ?_
      refine va_getN (D := G) (ci := 1) (v := .long t_fraction_below) (C := RX1) (T := TX1) (N := 2) hx hb hts iwX1 hown hK hP 1 rfl rfl 1 (by decide) fl_140 (fun _ h9 => h9) rfl dX9_part_21 ?_
      refine lv_goto (tgt := 30) hx hb dX9_part_24 (by decide) ?_
      exact hret t_fraction_below 30 _ _ _ dX9_part_30 hf hP hD hS
  · have hf := ift hf c1
    refine lv_aload_n hx hb dX9_part_4 rfl (lv_at hl 0 rfl) ?_
    refine va_get (D := G) (ci := 9) (v := .ref t_fraction_h) (C := RX9) (T := TX9) (N := 17) hx hb hts iwX9 hown hK hP 0 rfl rfl 0 (by decide) fl_10 (fun _ h9 => h9) rfl dX9_part_5 ?_
    refine va_getN (D := G) (ci := 1) (v := .long t_fraction_above) (C := RX1) (T := TX1) (N := 2) hx hb hts iwX1 hown hK hP 1 rfl rfl 0 (by decide) fl_136 (fun _ h9 => h9) rfl dX9_part_8 ?_
    exact hret t_fraction_above 11 _ _ _ dX9_part_11 hf hP hD hS
set_option maxRecDepth 20000 in
theorem ggX9_floor_X1_cutDown : GoodIn wsX9_floor wsX1_cutDown := goodIn_r _ [6, 7, 8, 9, 10, 11, 12, 30, 31] (by decide +kernel) (by decide +kernel)
set_option maxRecDepth 20000 in
theorem gX9_floor_X1_cutDown : GoodIn wsX9_floor (wsV RX9 145 RX1 yX1_cutDown wsX1_cutDown) := goodIn_app (goodIn_of _ (by decide +kernel)) ggX9_floor_X1_cutDown
theorem dX9_floor_0 : decode cX9_floor 0 = .ok (.aload_n 0, 1) := by decide +kernel
theorem dX9_floor_1 : decode cX9_floor 1 = .ok (.getfield 10, 3) := by decide +kernel
theorem dX9_floor_4 : decode cX9_floor 4 = .ok (.invokevirtual 145, 3) := by decide +kernel
theorem dX9_floor_7 : decode cX9_floor 7 = .ok (.lreturn, 1) := by decide +kernel
set_option maxRecDepth 100000 in
def fX9_floor (t_fraction_above : Int64) (t_fraction_below : Int64) : Option (Int64) :=
  ob (fX1_cutDown t_fraction_above t_fraction_below) fun r1 =>
  some r1
abbrev rmX9_floor : Room := { frames := 2, cells := 0, slots := 0, locals := 45 }
theorem iwX9_floor_X9 : ∀ w ∈ u_ws RX9 TX9 17, w ∈ wsX9_floor := by decide +kernel
set_option maxHeartbeats 4000000 in
set_option maxRecDepth 100000 in
theorem k_X9_floor (l : Launch) (G : va_G) (cI cJ : ClassId) (t_h t_fraction_h t_settings_h t_firstEdges_h t_secondEdges_h t_layers_h t_sights_h t_shadows_h t_heights_h t_pairs_h t_rows_h t_notes_h t_matching_h t_speeds_h t_layering_h t_boards_h t_years_h t_sheets_h : Nat) (sz : Nat) (t_fraction_above : Int64) (t_fraction_below : Int64) {o_r : Int64} (hf : fX9_floor t_fraction_above t_fraction_below = some o_r) : MetL l yX9_floor wsX9_floor rmX9_floor [.ref t_h] G cI cJ [(t_h, .inr (9, [.ref t_fraction_h, .ref t_settings_h, .ref t_firstEdges_h, .ref t_secondEdges_h, .ref t_layers_h, .ref t_sights_h, .ref t_shadows_h, .ref t_heights_h, .ref t_pairs_h, .ref t_rows_h, .ref t_notes_h, .ref t_matching_h, .ref t_speeds_h, .ref t_layering_h, .ref t_boards_h, .ref t_years_h, .ref t_sheets_h])), (t_fraction_h, .inr (1, [.long t_fraction_above, .long t_fraction_below]))] [(t_h, .inr (9, [.ref t_fraction_h, .ref t_settings_h, .ref t_firstEdges_h, .ref t_secondEdges_h, .ref t_layers_h, .ref t_sights_h, .ref t_shadows_h, .ref t_heights_h, .ref t_pairs_h, .ref t_rows_h, .ref t_notes_h, .ref t_matching_h, .ref t_speeds_h, .ref t_layering_h, .ref t_boards_h, .ref t_years_h, .ref t_sheets_h])), (t_fraction_h, .inr (1, [.long t_fraction_above, .long t_fraction_below]))] sz o_r := by
  refine en_0 (l := l) (y := yX9_floor) (wsl := wsX9_floor) (rm := rmX9_floor) (av := [.ref t_h]) (G := G) (cI := cI) (cJ := cJ) (w0 := [(t_h, .inr (9, [.ref t_fraction_h, .ref t_settings_h, .ref t_firstEdges_h, .ref t_secondEdges_h, .ref t_layers_h, .ref t_sights_h, .ref t_shadows_h, .ref t_heights_h, .ref t_pairs_h, .ref t_rows_h, .ref t_notes_h, .ref t_matching_h, .ref t_speeds_h, .ref t_layering_h, .ref t_boards_h, .ref t_years_h, .ref t_sheets_h])), (t_fraction_h, .inr (1, [.long t_fraction_above, .long t_fraction_below]))]) (sz := sz) (Qf := fun A => Ql0 G cI cJ [(t_h, .inr (9, [.ref t_fraction_h, .ref t_settings_h, .ref t_firstEdges_h, .ref t_secondEdges_h, .ref t_layers_h, .ref t_sights_h, .ref t_shadows_h, .ref t_heights_h, .ref t_pairs_h, .ref t_rows_h, .ref t_notes_h, .ref t_matching_h, .ref t_speeds_h, .ref t_layering_h, .ref t_boards_h, .ref t_years_h, .ref t_sheets_h])), (t_fraction_h, .inr (1, [.long t_fraction_above, .long t_fraction_below]))] o_r A) (cc := cX9_floor) (maxL := 1) (ret := (some .long)) RX9 (by decide +kernel) rfl rfl (Nat.le_of_ble_eq_true rfl) ?_
  intro p e s m args below meth c A ls Q hQ hx hb hr hts hown hlocks hml hN hK hP hD hS hA hl
  have hl : lv_has ls 1 [(0, .ref t_h)] := hl
  have iwX9 := iwX9_floor_X9
  have fl_10 := hts (.fieldLink RX9 10 "CloudOffice" "fraction" "LCloudOffice$Fraction;") (by decide +kernel)
  have hret : ∀ (o_r9 : Int64) (pc : Nat) (H : Heap) (locs : List Loc) (ls : Array Slot), decode cX9_floor pc = .ok (.lreturn, 1) → some o_r9 = some o_r → va_P G vwCl [(t_h, .inr (9, [.ref t_fraction_h, .ref t_settings_h, .ref t_firstEdges_h, .ref t_secondEdges_h, .ref t_layers_h, .ref t_sights_h, .ref t_shadows_h, .ref t_heights_h, .ref t_pairs_h, .ref t_rows_h, .ref t_notes_h, .ref t_matching_h, .ref t_speeds_h, .ref t_layering_h, .ref t_boards_h, .ref t_years_h, .ref t_sheets_h])), (t_fraction_h, .inr (1, [.long t_fraction_above, .long t_fraction_below]))] H → va_D A [(t_h, .inr (9, [.ref t_fraction_h, .ref t_settings_h, .ref t_firstEdges_h, .ref t_secondEdges_h, .ref t_layers_h, .ref t_sights_h, .ref t_shadows_h, .ref t_heights_h, .ref t_pairs_h, .ref t_rows_h, .ref t_notes_h, .ref t_matching_h, .ref t_speeds_h, .ref t_layering_h, .ref t_boards_h, .ref t_years_h, .ref t_sheets_h])), (t_fraction_h, .inr (1, [.long t_fraction_above, .long t_fraction_below]))] → va_S A s.heap H locs → W p l e rmX9_floor s m args below meth c H locs 0 0 Q (F0 m pc ls [.long o_r9]) := by
    intro o_r9 pc H locs ls hdg he hP hD hS
    cases he
    subst hQ
    exact rt_l hx hb hr hlocks hK hP hD hS rfl hdg
  clear hQ
  unfold fX9_floor at hf
  refine lv_aload_n hx hb dX9_floor_0 rfl (lv_at hl 0 rfl) ?_
  refine va_get (D := G) (ci := 9) (v := .ref t_fraction_h) (C := RX9) (T := TX9) (N := 17) hx hb hts iwX9 hown hK hP 0 rfl rfl 0 (by decide) fl_10 (fun _ h9 => h9) rfl dX9_floor_1 ?_
  obtain ⟨r1, hc2, hf⟩ := ob_some hf
  refine af_lR (va_runV (As := []) (rest := []) ⟨hx, hb, hml, hown, hts⟩ (k_X1_cutDown l G cI cJ (t_h := t_fraction_h) (t_above := t_fraction_above) (t_below := t_fraction_below) (sz := _) (hf := hc2)) (cwV 0 hts gX9_floor_X1_cutDown rfl rfl rfl (by decide +kernel) ⟨Nat.le_of_ble_eq_true rfl, Nat.le_of_ble_eq_true rfl⟩) (preV0 (ci := 1) (q0 := 0) (C := RX1) (wc := [(t_fraction_h, .inr (1, [.long t_fraction_above, .long t_fraction_below]))]) hK hP hD hN [1] rfl rfl (by decide) rfl rfl) rfl rfl hl.1 rfl (lv_room (Nat.le_of_ble_eq_true rfl)) dX9_floor_4 ⟨Nat.zero_le _, Nat.zero_le _⟩) hP hD hS hA [1] rfl (fun H locs hP hS => ?_)
  exact hret r1 7 _ _ _ dX9_floor_7 hf hP hD hS
set_option maxRecDepth 20000 in
theorem ggX9_layer_X9_isWithin : GoodIn wsX9_layer wsX9_isWithin := goodIn_r _ [6] (by decide +kernel) (by decide +kernel)
set_option maxRecDepth 20000 in
theorem gX9_layer_X9_isWithin : GoodIn wsX9_layer (va_wsS RX9 105 yX9_isWithin wsX9_isWithin) := goodIn_app (goodIn_of _ (by decide +kernel)) ggX9_layer_X9_isWithin
set_option maxRecDepth 20000 in
theorem ggX9_layer_X7_add : GoodIn wsX9_layer wsX7_add := goodIn_r _ [11, 12, 13, 14, 15, 16, 10, 17, 18, 19, 37, 38, 39, 40] (by decide +kernel) (by decide +kernel)
set_option maxRecDepth 20000 in
theorem gX9_layer_X7_add : GoodIn wsX9_layer (wsV RX9 120 RX7 yX7_add wsX7_add) := goodIn_app (goodIn_of _ (by decide +kernel)) ggX9_layer_X7_add
theorem dX9_layer_0 : decode cX9_layer 0 = .ok (.iload_n 1, 1) := by decide +kernel
theorem dX9_layer_1 : decode cX9_layer 1 = .ok (.iconst 1, 1) := by decide +kernel
theorem dX9_layer_2 : decode cX9_layer 2 = .ok (.ldc 104, 2) := by decide +kernel
theorem dX9_layer_4 : decode cX9_layer 4 = .ok (.invokestatic 105, 3) := by decide +kernel
theorem dX9_layer_7 : decode cX9_layer 7 = .ok (.ifCond .ne 6, 3) := by decide +kernel
theorem dX9_layer_10 : decode cX9_layer 10 = .ok (.bipush (-2), 2) := by decide +kernel
theorem dX9_layer_12 : decode cX9_layer 12 = .ok (.ireturn, 1) := by decide +kernel
theorem dX9_layer_13 : decode cX9_layer 13 = .ok (.aload_n 0, 1) := by decide +kernel
theorem dX9_layer_14 : decode cX9_layer 14 = .ok (.getfield 35, 3) := by decide +kernel
theorem dX9_layer_17 : decode cX9_layer 17 = .ok (.iload_n 1, 1) := by decide +kernel
theorem dX9_layer_18 : decode cX9_layer 18 = .ok (.iconst 0, 1) := by decide +kernel
theorem dX9_layer_19 : decode cX9_layer 19 = .ok (.iconst 0, 1) := by decide +kernel
theorem dX9_layer_20 : decode cX9_layer 20 = .ok (.iconst 0, 1) := by decide +kernel
theorem dX9_layer_21 : decode cX9_layer 21 = .ok (.invokevirtual 120, 3) := by decide +kernel
theorem dX9_layer_24 : decode cX9_layer 24 = .ok (.ireturn, 1) := by decide +kernel
set_option maxRecDepth 100000 in
def fX9_layer (x1 : Int32) (t_layers_width : Int32) (t_layers_most : Int32) (t_layers_lines : Int32) (t_layers_cells_n : Nat) (t_layers_cells_a : Nat → Int32) : Option (Int32 × Int32 × (Nat → Int32)) :=
  ob (fX9_isWithin x1 1 100000) fun r1 =>
  if (b2i r1) = 0 then
    some ((-2), t_layers_lines, t_layers_cells_a)
  else
    ob3 (fX7_add x1 0 0 0 t_layers_width t_layers_most t_layers_lines t_layers_cells_n t_layers_cells_a) fun r4 w5 w6 =>
    some (r4, w5, w6)
abbrev rmX9_layer : Room := { frames := 2, cells := 0, slots := 0, locals := 47 }
theorem iwX9_layer_X9 : ∀ w ∈ u_ws RX9 TX9 17, w ∈ wsX9_layer := by decide +kernel
set_option maxHeartbeats 4000000 in
set_option maxRecDepth 100000 in
theorem k_X9_layer (l : Launch) (G : va_G) (cI cJ : ClassId) (t_h t_fraction_h t_settings_h t_firstEdges_h t_secondEdges_h t_layers_h t_sights_h t_shadows_h t_heights_h t_pairs_h t_rows_h t_notes_h t_matching_h t_speeds_h t_layering_h t_boards_h t_years_h t_sheets_h t_layers_cells_h : Nat) (sz : Nat) (t_layers_width : Int32) (t_layers_most : Int32) (t_layers_lines : Int32) (t_layers_cells_n : Nat) (t_layers_cells_a : Nat → Int32) (x1 : Int32) {o_r : Int32} {o_t_layers_lines : Int32} {o_t_layers_cells_a : Nat → Int32} (hf : fX9_layer x1 t_layers_width t_layers_most t_layers_lines t_layers_cells_n t_layers_cells_a = some (o_r, o_t_layers_lines, o_t_layers_cells_a)) : MetI l yX9_layer wsX9_layer rmX9_layer [.ref t_h, .int x1] G cI cJ [(t_h, .inr (9, [.ref t_fraction_h, .ref t_settings_h, .ref t_firstEdges_h, .ref t_secondEdges_h, .ref t_layers_h, .ref t_sights_h, .ref t_shadows_h, .ref t_heights_h, .ref t_pairs_h, .ref t_rows_h, .ref t_notes_h, .ref t_matching_h, .ref t_speeds_h, .ref t_layering_h, .ref t_boards_h, .ref t_years_h, .ref t_sheets_h])), (t_layers_h, .inr (7, [.int t_layers_width, .int t_layers_most, .ref t_layers_cells_h, .int t_layers_lines])), (t_layers_cells_h, .inl (cI, t_layers_cells_n, .inl t_layers_cells_a))] [(t_h, .inr (9, [.ref t_fraction_h, .ref t_settings_h, .ref t_firstEdges_h, .ref t_secondEdges_h, .ref t_layers_h, .ref t_sights_h, .ref t_shadows_h, .ref t_heights_h, .ref t_pairs_h, .ref t_rows_h, .ref t_notes_h, .ref t_matching_h, .ref t_speeds_h, .ref t_layering_h, .ref t_boards_h, .ref t_years_h, .ref t_sheets_h])), (t_layers_h, .inr (7, [.int t_layers_width, .int t_layers_most, .ref t_layers_cells_h, .int o_t_layers_lines])), (t_layers_cells_h, .inl (cI, t_layers_cells_n, .inl o_t_layers_cells_a))] sz o_r := by
  refine en_0 (l := l) (y := yX9_layer) (wsl := wsX9_layer) (rm := rmX9_layer) (av := [.ref t_h, .int x1]) (G := G) (cI := cI) (cJ := cJ) (w0 := [(t_h, .inr (9, [.ref t_fraction_h, .ref t_settings_h, .ref t_firstEdges_h, .ref t_secondEdges_h, .ref t_layers_h, .ref t_sights_h, .ref t_shadows_h, .ref t_heights_h, .ref t_pairs_h, .ref t_rows_h, .ref t_notes_h, .ref t_matching_h, .ref t_speeds_h, .ref t_layering_h, .ref t_boards_h, .ref t_years_h, .ref t_sheets_h])), (t_layers_h, .inr (7, [.int t_layers_width, .int t_layers_most, .ref t_layers_cells_h, .int t_layers_lines])), (t_layers_cells_h, .inl (cI, t_layers_cells_n, .inl t_layers_cells_a))]) (sz := sz) (Qf := fun A => Qi0 G cI cJ [(t_h, .inr (9, [.ref t_fraction_h, .ref t_settings_h, .ref t_firstEdges_h, .ref t_secondEdges_h, .ref t_layers_h, .ref t_sights_h, .ref t_shadows_h, .ref t_heights_h, .ref t_pairs_h, .ref t_rows_h, .ref t_notes_h, .ref t_matching_h, .ref t_speeds_h, .ref t_layering_h, .ref t_boards_h, .ref t_years_h, .ref t_sheets_h])), (t_layers_h, .inr (7, [.int t_layers_width, .int t_layers_most, .ref t_layers_cells_h, .int o_t_layers_lines])), (t_layers_cells_h, .inl (cI, t_layers_cells_n, .inl o_t_layers_cells_a))] o_r A) (cc := cX9_layer) (maxL := 2) (ret := (some .int)) RX9 (by decide +kernel) rfl rfl (Nat.le_of_ble_eq_true rfl) ?_
  intro p e s m args below meth c A ls Q hQ hx hb hr hts hown hlocks hml hN hK hP hD hS hA hl
  have hl : lv_has ls 2 [(0, .ref t_h), (1, .int x1)] := hl
  have iwX9 := iwX9_layer_X9
  have fl_35 := hts (.fieldLink RX9 35 "CloudOffice" "layers" "LCloudOffice$Table;") (by decide +kernel)
  have kc_104 := hts (.constant RX9 104 (100000)) (by decide +kernel)
  have hret : ∀ (o_r9 : Int32) (o_t_layers_lines9 : Int32) (o_t_layers_cells_a9 : Nat → Int32) (pc : Nat) (H : Heap) (locs : List Loc) (ls : Array Slot), decode cX9_layer pc = .ok (.ireturn, 1) → some (o_r9, o_t_layers_lines9, o_t_layers_cells_a9) = some (o_r, o_t_layers_lines, o_t_layers_cells_a) → va_P G vwCl [(t_h, .inr (9, [.ref t_fraction_h, .ref t_settings_h, .ref t_firstEdges_h, .ref t_secondEdges_h, .ref t_layers_h, .ref t_sights_h, .ref t_shadows_h, .ref t_heights_h, .ref t_pairs_h, .ref t_rows_h, .ref t_notes_h, .ref t_matching_h, .ref t_speeds_h, .ref t_layering_h, .ref t_boards_h, .ref t_years_h, .ref t_sheets_h])), (t_layers_h, .inr (7, [.int t_layers_width, .int t_layers_most, .ref t_layers_cells_h, .int o_t_layers_lines9])), (t_layers_cells_h, .inl (cI, t_layers_cells_n, .inl o_t_layers_cells_a9))] H → va_D A [(t_h, .inr (9, [.ref t_fraction_h, .ref t_settings_h, .ref t_firstEdges_h, .ref t_secondEdges_h, .ref t_layers_h, .ref t_sights_h, .ref t_shadows_h, .ref t_heights_h, .ref t_pairs_h, .ref t_rows_h, .ref t_notes_h, .ref t_matching_h, .ref t_speeds_h, .ref t_layering_h, .ref t_boards_h, .ref t_years_h, .ref t_sheets_h])), (t_layers_h, .inr (7, [.int t_layers_width, .int t_layers_most, .ref t_layers_cells_h, .int o_t_layers_lines9])), (t_layers_cells_h, .inl (cI, t_layers_cells_n, .inl o_t_layers_cells_a9))] → va_S A s.heap H locs → W p l e rmX9_layer s m args below meth c H locs 0 0 Q (F0 m pc ls [.int o_r9]) := by
    intro o_r9 o_t_layers_lines9 o_t_layers_cells_a9 pc H locs ls hdg he hP hD hS
    cases he
    subst hQ
    exact rt_i hx hb hr hlocks hK hP hD hS rfl hdg
  clear hQ
  unfold fX9_layer at hf
  refine lv_iload_n hx hb dX9_layer_0 rfl (lv_at hl 1 rfl) ?_
  refine lv_iconst (v := 1) hx hb dX9_layer_1 (by decide) ?_
  refine lv_ldc (v := 100000) hx hb hown kc_104 dX9_layer_2 ?_
  obtain ⟨r1, hc2, hf⟩ := ob_some hf
  refine af_iR (va_runS (As := [.int x1, .int 1, .int 100000]) (rest := []) ⟨hx, hb, hml, hown, hts⟩ (k_X9_isWithin l G cI cJ (x0 := x1) (x1 := 1) (x2 := 100000) (sz := _) (hf := hc2)) (va_cwS 3 hts gX9_layer_X9_isWithin rfl rfl rfl (by decide +kernel) ⟨Nat.le_of_ble_eq_true rfl, Nat.le_of_ble_eq_true rfl⟩) (preS0 (wc := []) hK hP hD hN [] rfl rfl (by decide)) rfl rfl hl.1 rfl (lv_room (Nat.le_of_ble_eq_true rfl)) dX9_layer_4 ⟨Nat.zero_le _, Nat.zero_le _⟩) hP hD hS hA [] rfl (fun H locs hP hS => ?_)
  refine lv_if_ne (tgt := 13) hx hb dX9_layer_7 (by decide) (fun c3 => ?_) (fun c3 => ?_)
  · have hf := iff_ hf c3
    refine lv_aload_n hx hb dX9_layer_13 rfl (lv_at hl 0 rfl) ?_
    refine va_get (D := G) (ci := 9) (v := .ref t_layers_h) (C := RX9) (T := TX9) (N := 17) hx hb hts iwX9 hown hK hP 0 rfl rfl 4 (by decide) fl_35 (fun _ h9 => h9) rfl dX9_layer_14 ?_
    refine lv_iload_n hx hb dX9_layer_17 rfl (lv_at hl 1 rfl) ?_
    refine lv_iconst (v := 0) hx hb dX9_layer_18 (by decide) ?_
    refine lv_iconst (v := 0) hx hb dX9_layer_19 (by decide) ?_
    refine lv_iconst (v := 0) hx hb dX9_layer_20 (by decide) ?_
    obtain ⟨r4, w5, w6, hc7, hf⟩ := ob3_some hf
    refine af_iW (wr := [(t_h, .inr (9, [.ref t_fraction_h, .ref t_settings_h, .ref t_firstEdges_h, .ref t_secondEdges_h, .ref t_layers_h, .ref t_sights_h, .ref t_shadows_h, .ref t_heights_h, .ref t_pairs_h, .ref t_rows_h, .ref t_notes_h, .ref t_matching_h, .ref t_speeds_h, .ref t_layering_h, .ref t_boards_h, .ref t_years_h, .ref t_sheets_h]))]) (ws2 := [(t_h, .inr (9, [.ref t_fraction_h, .ref t_settings_h, .ref t_firstEdges_h, .ref t_secondEdges_h, .ref t_layers_h, .ref t_sights_h, .ref t_shadows_h, .ref t_heights_h, .ref t_pairs_h, .ref t_rows_h, .ref t_notes_h, .ref t_matching_h, .ref t_speeds_h, .ref t_layering_h, .ref t_boards_h, .ref t_years_h, .ref t_sheets_h])), (t_layers_h, .inr (7, [.int t_layers_width, .int t_layers_most, .ref t_layers_cells_h, .int w5])), (t_layers_cells_h, .inl (cI, t_layers_cells_n, .inl w6))]) (va_runV (As := [.int x1, .int 0, .int 0, .int 0]) (rest := []) ⟨hx, hb, hml, hown, hts⟩ (k_X7_add l G cI cJ (t_h := t_layers_h) (t_cells_h := t_layers_cells_h) (t_width := t_layers_width) (t_most := t_layers_most) (t_lines := t_layers_lines) (t_cells_n := t_layers_cells_n) (t_cells_a := t_layers_cells_a) (x1 := x1) (x2 := 0) (x3 := 0) (x4 := 0) (sz := _) (hf := hc7)) (cwV 4 hts gX9_layer_X7_add rfl rfl rfl (by decide +kernel) ⟨Nat.le_of_ble_eq_true rfl, Nat.le_of_ble_eq_true rfl⟩) (preV0 (ci := 7) (q0 := 0) (C := RX7) (wc := [(t_layers_h, .inr (7, [.int t_layers_width, .int t_layers_most, .ref t_layers_cells_h, .int t_layers_lines])), (t_layers_cells_h, .inl (cI, t_layers_cells_n, .inl t_layers_cells_a))]) hK hP hD hN [1, 2] rfl rfl (by decide) rfl rfl) rfl rfl hl.1 rfl (lv_room (Nat.le_of_ble_eq_true rfl)) dX9_layer_21 ⟨Nat.zero_le _, Nat.zero_le _⟩) hP hD hS hA [1, 2] [0] [0, 1, 2] rfl rfl (by decide) (by decide) rfl rfl (by decide) (fun H locs hP hD hS => ?_)
    exact hret r4 w5 w6 24 _ _ _ dX9_layer_24 hf hP hD hS
  · have hf := ift hf c3
    refine lv_bipush (v := (-2)) hx hb dX9_layer_10 (by decide) ?_
    exact hret (-2) t_layers_lines t_layers_cells_a 12 _ _ _ dX9_layer_12 hf hP hD hS
set_option maxRecDepth 20000 in
theorem ggX9_rules_X9_isWithin : GoodIn wsX9_rules wsX9_isWithin := goodIn_r _ [6] (by decide +kernel) (by decide +kernel)
set_option maxRecDepth 20000 in
theorem gX9_rules_X9_isWithin : GoodIn wsX9_rules (va_wsS RX9 105 yX9_isWithin wsX9_isWithin) := goodIn_app (goodIn_of _ (by decide +kernel)) ggX9_rules_X9_isWithin
theorem dX9_rules_0 : decode cX9_rules 0 = .ok (.iload_n 1, 1) := by decide +kernel
theorem dX9_rules_1 : decode cX9_rules 1 = .ok (.iconst 1, 1) := by decide +kernel
theorem dX9_rules_2 : decode cX9_rules 2 = .ok (.ldc 104, 2) := by decide +kernel
theorem dX9_rules_4 : decode cX9_rules 4 = .ok (.invokestatic 105, 3) := by decide +kernel
theorem dX9_rules_7 : decode cX9_rules 7 = .ok (.ifCond .eq 13, 3) := by decide +kernel
theorem dX9_rules_10 : decode cX9_rules 10 = .ok (.iload_n 2, 1) := by decide +kernel
theorem dX9_rules_11 : decode cX9_rules 11 = .ok (.iload_n 1, 1) := by decide +kernel
theorem dX9_rules_12 : decode cX9_rules 12 = .ok (.ldc 104, 2) := by decide +kernel
theorem dX9_rules_14 : decode cX9_rules 14 = .ok (.invokestatic 105, 3) := by decide +kernel
theorem dX9_rules_17 : decode cX9_rules 17 = .ok (.ifCond .ne 6, 3) := by decide +kernel
theorem dX9_rules_20 : decode cX9_rules 20 = .ok (.bipush (-2), 2) := by decide +kernel
theorem dX9_rules_22 : decode cX9_rules 22 = .ok (.ireturn, 1) := by decide +kernel
theorem dX9_rules_23 : decode cX9_rules 23 = .ok (.iload_n 3, 1) := by decide +kernel
theorem dX9_rules_24 : decode cX9_rules 24 = .ok (.iconst 0, 1) := by decide +kernel
theorem dX9_rules_25 : decode cX9_rules 25 = .ok (.sipush 1000, 3) := by decide +kernel
theorem dX9_rules_28 : decode cX9_rules 28 = .ok (.invokestatic 105, 3) := by decide +kernel
theorem dX9_rules_31 : decode cX9_rules 31 = .ok (.ifCond .eq 15, 3) := by decide +kernel
theorem dX9_rules_34 : decode cX9_rules 34 = .ok (.iload 4, 2) := by decide +kernel
theorem dX9_rules_36 : decode cX9_rules 36 = .ok (.iconst 0, 1) := by decide +kernel
theorem dX9_rules_37 : decode cX9_rules 37 = .ok (.sipush 1000, 3) := by decide +kernel
theorem dX9_rules_40 : decode cX9_rules 40 = .ok (.invokestatic 105, 3) := by decide +kernel
theorem dX9_rules_43 : decode cX9_rules 43 = .ok (.ifCond .ne 6, 3) := by decide +kernel
theorem dX9_rules_46 : decode cX9_rules 46 = .ok (.bipush (-2), 2) := by decide +kernel
theorem dX9_rules_48 : decode cX9_rules 48 = .ok (.ireturn, 1) := by decide +kernel
theorem dX9_rules_49 : decode cX9_rules 49 = .ok (.aload_n 0, 1) := by decide +kernel
theorem dX9_rules_50 : decode cX9_rules 50 = .ok (.getfield 19, 3) := by decide +kernel
theorem dX9_rules_53 : decode cX9_rules 53 = .ok (.iload_n 1, 1) := by decide +kernel
theorem dX9_rules_54 : decode cX9_rules 54 = .ok (.putfield 149, 3) := by decide +kernel
theorem dX9_rules_57 : decode cX9_rules 57 = .ok (.aload_n 0, 1) := by decide +kernel
theorem dX9_rules_58 : decode cX9_rules 58 = .ok (.getfield 19, 3) := by decide +kernel
theorem dX9_rules_61 : decode cX9_rules 61 = .ok (.iload_n 2, 1) := by decide +kernel
theorem dX9_rules_62 : decode cX9_rules 62 = .ok (.putfield 152, 3) := by decide +kernel
theorem dX9_rules_65 : decode cX9_rules 65 = .ok (.aload_n 0, 1) := by decide +kernel
theorem dX9_rules_66 : decode cX9_rules 66 = .ok (.getfield 19, 3) := by decide +kernel
theorem dX9_rules_69 : decode cX9_rules 69 = .ok (.iload_n 3, 1) := by decide +kernel
theorem dX9_rules_70 : decode cX9_rules 70 = .ok (.putfield 155, 3) := by decide +kernel
theorem dX9_rules_73 : decode cX9_rules 73 = .ok (.aload_n 0, 1) := by decide +kernel
theorem dX9_rules_74 : decode cX9_rules 74 = .ok (.getfield 19, 3) := by decide +kernel
theorem dX9_rules_77 : decode cX9_rules 77 = .ok (.iload 4, 2) := by decide +kernel
theorem dX9_rules_79 : decode cX9_rules 79 = .ok (.putfield 158, 3) := by decide +kernel
theorem dX9_rules_82 : decode cX9_rules 82 = .ok (.iconst 1, 1) := by decide +kernel
theorem dX9_rules_83 : decode cX9_rules 83 = .ok (.ireturn, 1) := by decide +kernel
set_option maxRecDepth 100000 in
def fX9_rules (x1 : Int32) (x2 : Int32) (x3 : Int32) (x4 : Int32) (t_settings_low : Int32) (t_settings_high : Int32) (t_settings_unlike : Int32) (t_settings_alone : Int32) : Option (Int32 × Int32 × Int32 × Int32 × Int32) :=
  ob (fX9_isWithin x1 1 100000) fun r1 =>
  if (b2i r1) = 0 then
    some ((-2), t_settings_low, t_settings_high, t_settings_unlike, t_settings_alone)
  else
    ob (fX9_isWithin x2 x1 100000) fun r4 =>
    if (b2i r4) = 0 then
      some ((-2), t_settings_low, t_settings_high, t_settings_unlike, t_settings_alone)
    else
      ob (fX9_isWithin x3 0 1000) fun r7 =>
      if (b2i r7) = 0 then
        some ((-2), t_settings_low, t_settings_high, t_settings_unlike, t_settings_alone)
      else
        ob (fX9_isWithin x4 0 1000) fun r10 =>
        if (b2i r10) = 0 then
          some ((-2), t_settings_low, t_settings_high, t_settings_unlike, t_settings_alone)
        else
          some (1, x1, x2, x3, x4)
abbrev rmX9_rules : Room := { frames := 1, cells := 0, slots := 0, locals := 22 }
theorem iwX9_rules_X4 : ∀ w ∈ u_ws RX4 TX4 6, w ∈ wsX9_rules := by decide +kernel
theorem iwX9_rules_X9 : ∀ w ∈ u_ws RX9 TX9 17, w ∈ wsX9_rules := by decide +kernel
set_option maxHeartbeats 4000000 in
set_option maxRecDepth 100000 in
theorem k_X9_rules (l : Launch) (G : va_G) (cI cJ : ClassId) (t_h t_fraction_h t_settings_h t_firstEdges_h t_secondEdges_h t_layers_h t_sights_h t_shadows_h t_heights_h t_pairs_h t_rows_h t_notes_h t_matching_h t_speeds_h t_layering_h t_boards_h t_years_h t_sheets_h : Nat) (sz : Nat) (t_settings_base : Int32) (t_settings_slip : Int32) (t_settings_low : Int32) (t_settings_high : Int32) (t_settings_unlike : Int32) (t_settings_alone : Int32) (x1 : Int32) (x2 : Int32) (x3 : Int32) (x4 : Int32) {o_r : Int32} {o_t_settings_low : Int32} {o_t_settings_high : Int32} {o_t_settings_unlike : Int32} {o_t_settings_alone : Int32} (hf : fX9_rules x1 x2 x3 x4 t_settings_low t_settings_high t_settings_unlike t_settings_alone = some (o_r, o_t_settings_low, o_t_settings_high, o_t_settings_unlike, o_t_settings_alone)) : MetI l yX9_rules wsX9_rules rmX9_rules [.ref t_h, .int x1, .int x2, .int x3, .int x4] G cI cJ [(t_h, .inr (9, [.ref t_fraction_h, .ref t_settings_h, .ref t_firstEdges_h, .ref t_secondEdges_h, .ref t_layers_h, .ref t_sights_h, .ref t_shadows_h, .ref t_heights_h, .ref t_pairs_h, .ref t_rows_h, .ref t_notes_h, .ref t_matching_h, .ref t_speeds_h, .ref t_layering_h, .ref t_boards_h, .ref t_years_h, .ref t_sheets_h])), (t_settings_h, .inr (4, [.int t_settings_base, .int t_settings_slip, .int t_settings_low, .int t_settings_high, .int t_settings_unlike, .int t_settings_alone]))] [(t_h, .inr (9, [.ref t_fraction_h, .ref t_settings_h, .ref t_firstEdges_h, .ref t_secondEdges_h, .ref t_layers_h, .ref t_sights_h, .ref t_shadows_h, .ref t_heights_h, .ref t_pairs_h, .ref t_rows_h, .ref t_notes_h, .ref t_matching_h, .ref t_speeds_h, .ref t_layering_h, .ref t_boards_h, .ref t_years_h, .ref t_sheets_h])), (t_settings_h, .inr (4, [.int t_settings_base, .int t_settings_slip, .int o_t_settings_low, .int o_t_settings_high, .int o_t_settings_unlike, .int o_t_settings_alone]))] sz o_r := by
  refine en_0 (l := l) (y := yX9_rules) (wsl := wsX9_rules) (rm := rmX9_rules) (av := [.ref t_h, .int x1, .int x2, .int x3, .int x4]) (G := G) (cI := cI) (cJ := cJ) (w0 := [(t_h, .inr (9, [.ref t_fraction_h, .ref t_settings_h, .ref t_firstEdges_h, .ref t_secondEdges_h, .ref t_layers_h, .ref t_sights_h, .ref t_shadows_h, .ref t_heights_h, .ref t_pairs_h, .ref t_rows_h, .ref t_notes_h, .ref t_matching_h, .ref t_speeds_h, .ref t_layering_h, .ref t_boards_h, .ref t_years_h, .ref t_sheets_h])), (t_settings_h, .inr (4, [.int t_settings_base, .int t_settings_slip, .int t_settings_low, .int t_settings_high, .int t_settings_unlike, .int t_settings_alone]))]) (sz := sz) (Qf := fun A => Qi0 G cI cJ [(t_h, .inr (9, [.ref t_fraction_h, .ref t_settings_h, .ref t_firstEdges_h, .ref t_secondEdges_h, .ref t_layers_h, .ref t_sights_h, .ref t_shadows_h, .ref t_heights_h, .ref t_pairs_h, .ref t_rows_h, .ref t_notes_h, .ref t_matching_h, .ref t_speeds_h, .ref t_layering_h, .ref t_boards_h, .ref t_years_h, .ref t_sheets_h])), (t_settings_h, .inr (4, [.int t_settings_base, .int t_settings_slip, .int o_t_settings_low, .int o_t_settings_high, .int o_t_settings_unlike, .int o_t_settings_alone]))] o_r A) (cc := cX9_rules) (maxL := 5) (ret := (some .int)) RX9 (by decide +kernel) rfl rfl (Nat.le_of_ble_eq_true rfl) ?_
  intro p e s m args below meth c A ls Q hQ hx hb hr hts hown hlocks hml hN hK hP hD hS hA hl
  have hl : lv_has ls 5 [(0, .ref t_h), (1, .int x1), (2, .int x2), (3, .int x3), (4, .int x4)] := hl
  have iwX4 := iwX9_rules_X4
  have iwX9 := iwX9_rules_X9
  have fl_19 := hts (.fieldLink RX9 19 "CloudOffice" "settings" "LCloudOffice$Settings;") (by decide +kernel)
  have fl_149 : (Cond.fieldLinkNest RX9 149 "CloudOffice$Settings" "low" "I" "CloudOffice").before args s = true := nst_get hN 4 rfl rfl
  have fl_152 : (Cond.fieldLinkNest RX9 152 "CloudOffice$Settings" "high" "I" "CloudOffice").before args s = true := nst_get hN 5 rfl rfl
  have fl_155 : (Cond.fieldLinkNest RX9 155 "CloudOffice$Settings" "unlike" "I" "CloudOffice").before args s = true := nst_get hN 6 rfl rfl
  have fl_158 : (Cond.fieldLinkNest RX9 158 "CloudOffice$Settings" "alone" "I" "CloudOffice").before args s = true := nst_get hN 7 rfl rfl
  have kc_104 := hts (.constant RX9 104 (100000)) (by decide +kernel)
  have hret : ∀ (o_r9 : Int32) (o_t_settings_low9 : Int32) (o_t_settings_high9 : Int32) (o_t_settings_unlike9 : Int32) (o_t_settings_alone9 : Int32) (pc : Nat) (H : Heap) (locs : List Loc) (ls : Array Slot), decode cX9_rules pc = .ok (.ireturn, 1) → some (o_r9, o_t_settings_low9, o_t_settings_high9, o_t_settings_unlike9, o_t_settings_alone9) = some (o_r, o_t_settings_low, o_t_settings_high, o_t_settings_unlike, o_t_settings_alone) → va_P G vwCl [(t_h, .inr (9, [.ref t_fraction_h, .ref t_settings_h, .ref t_firstEdges_h, .ref t_secondEdges_h, .ref t_layers_h, .ref t_sights_h, .ref t_shadows_h, .ref t_heights_h, .ref t_pairs_h, .ref t_rows_h, .ref t_notes_h, .ref t_matching_h, .ref t_speeds_h, .ref t_layering_h, .ref t_boards_h, .ref t_years_h, .ref t_sheets_h])), (t_settings_h, .inr (4, [.int t_settings_base, .int t_settings_slip, .int o_t_settings_low9, .int o_t_settings_high9, .int o_t_settings_unlike9, .int o_t_settings_alone9]))] H → va_D A [(t_h, .inr (9, [.ref t_fraction_h, .ref t_settings_h, .ref t_firstEdges_h, .ref t_secondEdges_h, .ref t_layers_h, .ref t_sights_h, .ref t_shadows_h, .ref t_heights_h, .ref t_pairs_h, .ref t_rows_h, .ref t_notes_h, .ref t_matching_h, .ref t_speeds_h, .ref t_layering_h, .ref t_boards_h, .ref t_years_h, .ref t_sheets_h])), (t_settings_h, .inr (4, [.int t_settings_base, .int t_settings_slip, .int o_t_settings_low9, .int o_t_settings_high9, .int o_t_settings_unlike9, .int o_t_settings_alone9]))] → va_S A s.heap H locs → W p l e rmX9_rules s m args below meth c H locs 0 0 Q (F0 m pc ls [.int o_r9]) := by
    intro o_r9 o_t_settings_low9 o_t_settings_high9 o_t_settings_unlike9 o_t_settings_alone9 pc H locs ls hdg he hP hD hS
    cases he
    subst hQ
    exact rt_i hx hb hr hlocks hK hP hD hS rfl hdg
  clear hQ
  unfold fX9_rules at hf
  refine lv_iload_n hx hb dX9_rules_0 rfl (lv_at hl 1 rfl) ?_
  refine lv_iconst (v := 1) hx hb dX9_rules_1 (by decide) ?_
  refine lv_ldc (v := 100000) hx hb hown kc_104 dX9_rules_2 ?_
  obtain ⟨r1, hc2, hf⟩ := ob_some hf
  refine af_iR (va_runS (As := [.int x1, .int 1, .int 100000]) (rest := []) ⟨hx, hb, hml, hown, hts⟩ (k_X9_isWithin l G cI cJ (x0 := x1) (x1 := 1) (x2 := 100000) (sz := _) (hf := hc2)) (va_cwS 3 hts gX9_rules_X9_isWithin rfl rfl rfl (by decide +kernel) ⟨Nat.le_of_ble_eq_true rfl, Nat.le_of_ble_eq_true rfl⟩) (preS0 (wc := []) hK hP hD hN [] rfl rfl (by decide)) rfl rfl hl.1 rfl (lv_room (Nat.le_of_ble_eq_true rfl)) dX9_rules_4 ⟨Nat.zero_le _, Nat.zero_le _⟩) hP hD hS hA [] rfl (fun H locs hP hS => ?_)
  refine lv_if_eq (tgt := 20) hx hb dX9_rules_7 (by decide) (fun c3 => ?_) (fun c3 => ?_)
  · have hf := ift hf c3
    refine lv_bipush (v := (-2)) hx hb dX9_rules_20 (by decide) ?_
    exact hret (-2) t_settings_low t_settings_high t_settings_unlike t_settings_alone 22 _ _ _ dX9_rules_22 hf hP hD hS
  · have hf := iff_ hf c3
    refine lv_iload_n hx hb dX9_rules_10 rfl (lv_at hl 2 rfl) ?_
    refine lv_iload_n hx hb dX9_rules_11 rfl (lv_at hl 1 rfl) ?_
    refine lv_ldc (v := 100000) hx hb hown kc_104 dX9_rules_12 ?_
    obtain ⟨r4, hc5, hf⟩ := ob_some hf
    refine af_iR (va_runS (As := [.int x2, .int x1, .int 100000]) (rest := []) ⟨hx, hb, hml, hown, hts⟩ (k_X9_isWithin l G cI cJ (x0 := x2) (x1 := x1) (x2 := 100000) (sz := _) (hf := hc5)) (va_cwS 3 hts gX9_rules_X9_isWithin rfl rfl rfl (by decide +kernel) ⟨Nat.le_of_ble_eq_true rfl, Nat.le_of_ble_eq_true rfl⟩) (preS0 (wc := []) hK hP hD hN [] rfl rfl (by decide)) rfl rfl hl.1 rfl (lv_room (Nat.le_of_ble_eq_true rfl)) dX9_rules_14 ⟨Nat.zero_le _, Nat.zero_le _⟩) hP hD hS hA [] rfl (fun H locs hP hS => ?_)
    refine lv_if_ne (tgt := 23) hx hb dX9_rules_17 (by decide) (fun c6 => ?_) (fun c6 => ?_)
    · have hf := iff_ hf c6
      refine lv_iload_n hx hb dX9_rules_23 rfl (lv_at hl 3 rfl) ?_
      refine lv_iconst (v := 0) hx hb dX9_rules_24 (by decide) ?_
      refine lv_sipush (v := 1000) hx hb dX9_rules_25 (by decide) ?_
      obtain ⟨r7, hc8, hf⟩ := ob_some hf
      refine af_iR (va_runS (As := [.int x3, .int 0, .int 1000]) (rest := []) ⟨hx, hb, hml, hown, hts⟩ (k_X9_isWithin l G cI cJ (x0 := x3) (x1 := 0) (x2 := 1000) (sz := _) (hf := hc8)) (va_cwS 3 hts gX9_rules_X9_isWithin rfl rfl rfl (by decide +kernel) ⟨Nat.le_of_ble_eq_true rfl, Nat.le_of_ble_eq_true rfl⟩) (preS0 (wc := []) hK hP hD hN [] rfl rfl (by decide)) rfl rfl hl.1 rfl (lv_room (Nat.le_of_ble_eq_true rfl)) dX9_rules_28 ⟨Nat.zero_le _, Nat.zero_le _⟩) hP hD hS hA [] rfl (fun H locs hP hS => ?_)
      refine lv_if_eq (tgt := 46) hx hb dX9_rules_31 (by decide) (fun c9 => ?_) (fun c9 => ?_)
      · have hf := ift hf c9
        refine lv_bipush (v := (-2)) hx hb dX9_rules_46 (by decide) ?_
        exact hret (-2) t_settings_low t_settings_high t_settings_unlike t_settings_alone 48 _ _ _ dX9_rules_48 hf hP hD hS
      · have hf := iff_ hf c9
        refine lv_iload hx hb dX9_rules_34 (lv_at hl 4 rfl) ?_
        refine lv_iconst (v := 0) hx hb dX9_rules_36 (by decide) ?_
        refine lv_sipush (v := 1000) hx hb dX9_rules_37 (by decide) ?_
        obtain ⟨r10, hc11, hf⟩ := ob_some hf
        refine af_iR (va_runS (As := [.int x4, .int 0, .int 1000]) (rest := []) ⟨hx, hb, hml, hown, hts⟩ (k_X9_isWithin l G cI cJ (x0 := x4) (x1 := 0) (x2 := 1000) (sz := _) (hf := hc11)) (va_cwS 3 hts gX9_rules_X9_isWithin rfl rfl rfl (by decide +kernel) ⟨Nat.le_of_ble_eq_true rfl, Nat.le_of_ble_eq_true rfl⟩) (preS0 (wc := []) hK hP hD hN [] rfl rfl (by decide)) rfl rfl hl.1 rfl (lv_room (Nat.le_of_ble_eq_true rfl)) dX9_rules_40 ⟨Nat.zero_le _, Nat.zero_le _⟩) hP hD hS hA [] rfl (fun H locs hP hS => ?_)
        refine lv_if_ne (tgt := 49) hx hb dX9_rules_43 (by decide) (fun c12 => ?_) (fun c12 => ?_)
        · have hf := iff_ hf c12
          refine lv_aload_n hx hb dX9_rules_49 rfl (lv_at hl 0 rfl) ?_
          refine va_get (D := G) (ci := 9) (v := .ref t_settings_h) (C := RX9) (T := TX9) (N := 17) hx hb hts iwX9 hown hK hP 0 rfl rfl 1 (by decide) fl_19 (fun _ h9 => h9) rfl dX9_rules_50 ?_
          refine lv_iload_n hx hb dX9_rules_53 rfl (lv_at hl 1 rfl) ?_
          refine va_putN (D := G) (ci := 4) (v := .int x1) (ty := .int) (C := RX4) (T := TX4) (N := 6) hx hb hts iwX4 tyX4 tyX4_ok nmX4 hown hK hP hD hS 1 rfl rfl 2 (by decide) fl_149 (fun _ h9 => h9) rfl (by decide +kernel) rfl rfl (Nat.le_of_ble_eq_true rfl) dX9_rules_54 (fun H locs hP hD hS => ?_)
          have hP : va_P G vwCl [(t_h, .inr (9, [.ref t_fraction_h, .ref t_settings_h, .ref t_firstEdges_h, .ref t_secondEdges_h, .ref t_layers_h, .ref t_sights_h, .ref t_shadows_h, .ref t_heights_h, .ref t_pairs_h, .ref t_rows_h, .ref t_notes_h, .ref t_matching_h, .ref t_speeds_h, .ref t_layering_h, .ref t_boards_h, .ref t_years_h, .ref t_sheets_h])), (t_settings_h, .inr (4, [.int t_settings_base, .int t_settings_slip, .int x1, .int t_settings_high, .int t_settings_unlike, .int t_settings_alone]))] H := hP
          have hD : va_D A [(t_h, .inr (9, [.ref t_fraction_h, .ref t_settings_h, .ref t_firstEdges_h, .ref t_secondEdges_h, .ref t_layers_h, .ref t_sights_h, .ref t_shadows_h, .ref t_heights_h, .ref t_pairs_h, .ref t_rows_h, .ref t_notes_h, .ref t_matching_h, .ref t_speeds_h, .ref t_layering_h, .ref t_boards_h, .ref t_years_h, .ref t_sheets_h])), (t_settings_h, .inr (4, [.int t_settings_base, .int t_settings_slip, .int x1, .int t_settings_high, .int t_settings_unlike, .int t_settings_alone]))] := hD
          refine lv_aload_n hx hb dX9_rules_57 rfl (lv_at hl 0 rfl) ?_
          refine va_get (D := G) (ci := 9) (v := .ref t_settings_h) (C := RX9) (T := TX9) (N := 17) hx hb hts iwX9 hown hK hP 0 rfl rfl 1 (by decide) fl_19 (fun _ h9 => h9) rfl dX9_rules_58 ?_
          refine lv_iload_n hx hb dX9_rules_61 rfl (lv_at hl 2 rfl) ?_
          refine va_putN (D := G) (ci := 4) (v := .int x2) (ty := .int) (C := RX4) (T := TX4) (N := 6) hx hb hts iwX4 tyX4 tyX4_ok nmX4 hown hK hP hD hS 1 rfl rfl 3 (by decide) fl_152 (fun _ h9 => h9) rfl (by decide +kernel) rfl rfl (Nat.le_of_ble_eq_true rfl) dX9_rules_62 (fun H locs hP hD hS => ?_)
          have hP : va_P G vwCl [(t_h, .inr (9, [.ref t_fraction_h, .ref t_settings_h, .ref t_firstEdges_h, .ref t_secondEdges_h, .ref t_layers_h, .ref t_sights_h, .ref t_shadows_h, .ref t_heights_h, .ref t_pairs_h, .ref t_rows_h, .ref t_notes_h, .ref t_matching_h, .ref t_speeds_h, .ref t_layering_h, .ref t_boards_h, .ref t_years_h, .ref t_sheets_h])), (t_settings_h, .inr (4, [.int t_settings_base, .int t_settings_slip, .int x1, .int x2, .int t_settings_unlike, .int t_settings_alone]))] H := hP
          have hD : va_D A [(t_h, .inr (9, [.ref t_fraction_h, .ref t_settings_h, .ref t_firstEdges_h, .ref t_secondEdges_h, .ref t_layers_h, .ref t_sights_h, .ref t_shadows_h, .ref t_heights_h, .ref t_pairs_h, .ref t_rows_h, .ref t_notes_h, .ref t_matching_h, .ref t_speeds_h, .ref t_layering_h, .ref t_boards_h, .ref t_years_h, .ref t_sheets_h])), (t_settings_h, .inr (4, [.int t_settings_base, .int t_settings_slip, .int x1, .int x2, .int t_settings_unlike, .int t_settings_alone]))] := hD
          refine lv_aload_n hx hb dX9_rules_65 rfl (lv_at hl 0 rfl) ?_
          refine va_get (D := G) (ci := 9) (v := .ref t_settings_h) (C := RX9) (T := TX9) (N := 17) hx hb hts iwX9 hown hK hP 0 rfl rfl 1 (by decide) fl_19 (fun _ h9 => h9) rfl dX9_rules_66 ?_
          refine lv_iload_n hx hb dX9_rules_69 rfl (lv_at hl 3 rfl) ?_
          refine va_putN (D := G) (ci := 4) (v := .int x3) (ty := .int) (C := RX4) (T := TX4) (N := 6) hx hb hts iwX4 tyX4 tyX4_ok nmX4 hown hK hP hD hS 1 rfl rfl 4 (by decide) fl_155 (fun _ h9 => h9) rfl (by decide +kernel) rfl rfl (Nat.le_of_ble_eq_true rfl) dX9_rules_70 (fun H locs hP hD hS => ?_)
          have hP : va_P G vwCl [(t_h, .inr (9, [.ref t_fraction_h, .ref t_settings_h, .ref t_firstEdges_h, .ref t_secondEdges_h, .ref t_layers_h, .ref t_sights_h, .ref t_shadows_h, .ref t_heights_h, .ref t_pairs_h, .ref t_rows_h, .ref t_notes_h, .ref t_matching_h, .ref t_speeds_h, .ref t_layering_h, .ref t_boards_h, .ref t_years_h, .ref t_sheets_h])), (t_settings_h, .inr (4, [.int t_settings_base, .int t_settings_slip, .int x1, .int x2, .int x3, .int t_settings_alone]))] H := hP
          have hD : va_D A [(t_h, .inr (9, [.ref t_fraction_h, .ref t_settings_h, .ref t_firstEdges_h, .ref t_secondEdges_h, .ref t_layers_h, .ref t_sights_h, .ref t_shadows_h, .ref t_heights_h, .ref t_pairs_h, .ref t_rows_h, .ref t_notes_h, .ref t_matching_h, .ref t_speeds_h, .ref t_layering_h, .ref t_boards_h, .ref t_years_h, .ref t_sheets_h])), (t_settings_h, .inr (4, [.int t_settings_base, .int t_settings_slip, .int x1, .int x2, .int x3, .int t_settings_alone]))] := hD
          refine lv_aload_n hx hb dX9_rules_73 rfl (lv_at hl 0 rfl) ?_
          refine va_get (D := G) (ci := 9) (v := .ref t_settings_h) (C := RX9) (T := TX9) (N := 17) hx hb hts iwX9 hown hK hP 0 rfl rfl 1 (by decide) fl_19 (fun _ h9 => h9) rfl dX9_rules_74 ?_
          refine lv_iload hx hb dX9_rules_77 (lv_at hl 4 rfl) ?_
          refine va_putN (D := G) (ci := 4) (v := .int x4) (ty := .int) (C := RX4) (T := TX4) (N := 6) hx hb hts iwX4 tyX4 tyX4_ok nmX4 hown hK hP hD hS 1 rfl rfl 5 (by decide) fl_158 (fun _ h9 => h9) rfl (by decide +kernel) rfl rfl (Nat.le_of_ble_eq_true rfl) dX9_rules_79 (fun H locs hP hD hS => ?_)
          have hP : va_P G vwCl [(t_h, .inr (9, [.ref t_fraction_h, .ref t_settings_h, .ref t_firstEdges_h, .ref t_secondEdges_h, .ref t_layers_h, .ref t_sights_h, .ref t_shadows_h, .ref t_heights_h, .ref t_pairs_h, .ref t_rows_h, .ref t_notes_h, .ref t_matching_h, .ref t_speeds_h, .ref t_layering_h, .ref t_boards_h, .ref t_years_h, .ref t_sheets_h])), (t_settings_h, .inr (4, [.int t_settings_base, .int t_settings_slip, .int x1, .int x2, .int x3, .int x4]))] H := hP
          have hD : va_D A [(t_h, .inr (9, [.ref t_fraction_h, .ref t_settings_h, .ref t_firstEdges_h, .ref t_secondEdges_h, .ref t_layers_h, .ref t_sights_h, .ref t_shadows_h, .ref t_heights_h, .ref t_pairs_h, .ref t_rows_h, .ref t_notes_h, .ref t_matching_h, .ref t_speeds_h, .ref t_layering_h, .ref t_boards_h, .ref t_years_h, .ref t_sheets_h])), (t_settings_h, .inr (4, [.int t_settings_base, .int t_settings_slip, .int x1, .int x2, .int x3, .int x4]))] := hD
          refine lv_iconst (v := 1) hx hb dX9_rules_82 (by decide) ?_
          exact hret 1 x1 x2 x3 x4 83 _ _ _ dX9_rules_83 hf hP hD hS
        · have hf := ift hf c12
          refine lv_bipush (v := (-2)) hx hb dX9_rules_46 (by decide) ?_
          exact hret (-2) t_settings_low t_settings_high t_settings_unlike t_settings_alone 48 _ _ _ dX9_rules_48 hf hP hD hS
    · have hf := ift hf c6
      refine lv_bipush (v := (-2)) hx hb dX9_rules_20 (by decide) ?_
      exact hret (-2) t_settings_low t_settings_high t_settings_unlike t_settings_alone 22 _ _ _ dX9_rules_22 hf hP hD hS
set_option maxRecDepth 20000 in
theorem ggX9_cost_X7_has : GoodIn wsX9_cost wsX7_has := goodIn_r _ [8, 9, 59, 60, 61, 62] (by decide +kernel) (by decide +kernel)
set_option maxRecDepth 20000 in
theorem gX9_cost_X7_has : GoodIn wsX9_cost (wsV RX9 161 RX7 yX7_has wsX7_has) := goodIn_app (goodIn_of _ (by decide +kernel)) ggX9_cost_X7_has
set_option maxRecDepth 20000 in
theorem ggX9_cost_X3_costOf : GoodIn wsX9_cost wsX3_costOf := goodIn_r _ [14, 15, 16, 17, 18, 19, 20, 21, 7, 22, 23, 24, 25, 26, 27, 13, 28, 29, 30, 31, 32, 33, 34, 35, 36, 37, 38, 39, 40, 41, 9, 63, 64, 65, 66, 67, 68, 69, 70, 71, 72, 73, 74, 59, 60, 61, 62] (by decide +kernel) (by decide +kernel)
set_option maxRecDepth 20000 in
theorem gX9_cost_X3_costOf : GoodIn wsX9_cost (wsV RX9 164 RX3 yX3_costOf wsX3_costOf) := goodIn_app (goodIn_of _ (by decide +kernel)) ggX9_cost_X3_costOf
theorem dX9_cost_0 : decode cX9_cost 0 = .ok (.aload_n 0, 1) := by decide +kernel
theorem dX9_cost_1 : decode cX9_cost 1 = .ok (.getfield 28, 3) := by decide +kernel
theorem dX9_cost_4 : decode cX9_cost 4 = .ok (.iload_n 1, 1) := by decide +kernel
theorem dX9_cost_5 : decode cX9_cost 5 = .ok (.invokevirtual 161, 3) := by decide +kernel
theorem dX9_cost_8 : decode cX9_cost 8 = .ok (.ifCond .eq 14, 3) := by decide +kernel
theorem dX9_cost_11 : decode cX9_cost 11 = .ok (.aload_n 0, 1) := by decide +kernel
theorem dX9_cost_12 : decode cX9_cost 12 = .ok (.getfield 32, 3) := by decide +kernel
theorem dX9_cost_15 : decode cX9_cost 15 = .ok (.iload_n 2, 1) := by decide +kernel
theorem dX9_cost_16 : decode cX9_cost 16 = .ok (.invokevirtual 161, 3) := by decide +kernel
theorem dX9_cost_19 : decode cX9_cost 19 = .ok (.ifCond .ne 6, 3) := by decide +kernel
theorem dX9_cost_22 : decode cX9_cost 22 = .ok (.bipush (-2), 2) := by decide +kernel
theorem dX9_cost_24 : decode cX9_cost 24 = .ok (.ireturn, 1) := by decide +kernel
theorem dX9_cost_25 : decode cX9_cost 25 = .ok (.aload_n 0, 1) := by decide +kernel
theorem dX9_cost_26 : decode cX9_cost 26 = .ok (.getfield 61, 3) := by decide +kernel
theorem dX9_cost_29 : decode cX9_cost 29 = .ok (.iload_n 1, 1) := by decide +kernel
theorem dX9_cost_30 : decode cX9_cost 30 = .ok (.iload_n 2, 1) := by decide +kernel
theorem dX9_cost_31 : decode cX9_cost 31 = .ok (.invokevirtual 164, 3) := by decide +kernel
theorem dX9_cost_34 : decode cX9_cost 34 = .ok (.ireturn, 1) := by decide +kernel
set_option maxRecDepth 100000 in
def fX9_cost (x1 : Int32) (x2 : Int32) (t_settings_base : Int32) (t_settings_low : Int32) (t_settings_high : Int32) (t_settings_unlike : Int32) (t_firstEdges_width : Int32) (t_firstEdges_lines : Int32) (t_secondEdges_width : Int32) (t_secondEdges_lines : Int32) (t_layers_width : Int32) (t_layers_lines : Int32) (t_firstEdges_cells_n : Nat) (t_firstEdges_cells_a : Nat → Int32) (t_secondEdges_cells_n : Nat) (t_secondEdges_cells_a : Nat → Int32) (t_layers_cells_n : Nat) (t_layers_cells_a : Nat → Int32) : Option (Int32) :=
  ob (fX7_has x1 t_firstEdges_lines) fun r1 =>
  if (b2i r1) = 0 then
    some (-2)
  else
    ob (fX7_has x2 t_secondEdges_lines) fun r4 =>
    if (b2i r4) = 0 then
      some (-2)
    else
      ob (fX3_costOf x1 x2 t_settings_base t_settings_low t_settings_high t_settings_unlike t_firstEdges_width t_secondEdges_width t_layers_width t_layers_lines t_firstEdges_cells_n t_firstEdges_cells_a t_secondEdges_cells_n t_secondEdges_cells_a t_layers_cells_n t_layers_cells_a) fun r7 =>
      some r7
abbrev rmX9_cost : Room := { frames := 3, cells := 0, slots := 0, locals := 73 }
theorem iwX9_cost_X9 : ∀ w ∈ u_ws RX9 TX9 17, w ∈ wsX9_cost := by decide +kernel
set_option maxHeartbeats 4000000 in
set_option maxRecDepth 100000 in
theorem k_X9_cost (l : Launch) (G : va_G) (cI cJ : ClassId) (t_h t_fraction_h t_settings_h t_firstEdges_h t_secondEdges_h t_layers_h t_sights_h t_shadows_h t_heights_h t_pairs_h t_rows_h t_notes_h t_matching_h t_speeds_h t_layering_h t_boards_h t_years_h t_sheets_h t_firstEdges_cells_h t_secondEdges_cells_h t_layers_cells_h t_matching_costs_h t_matching_keys_h : Nat) (sz : Nat) (t_settings_base : Int32) (t_settings_slip : Int32) (t_settings_low : Int32) (t_settings_high : Int32) (t_settings_unlike : Int32) (t_settings_alone : Int32) (t_firstEdges_width : Int32) (t_firstEdges_most : Int32) (t_firstEdges_lines : Int32) (t_secondEdges_width : Int32) (t_secondEdges_most : Int32) (t_secondEdges_lines : Int32) (t_layers_width : Int32) (t_layers_most : Int32) (t_layers_lines : Int32) (t_firstEdges_cells_n : Nat) (t_firstEdges_cells_a : Nat → Int32) (t_secondEdges_cells_n : Nat) (t_secondEdges_cells_a : Nat → Int32) (t_layers_cells_n : Nat) (t_layers_cells_a : Nat → Int32) (x1 : Int32) (x2 : Int32) {o_r : Int32} (hf : fX9_cost x1 x2 t_settings_base t_settings_low t_settings_high t_settings_unlike t_firstEdges_width t_firstEdges_lines t_secondEdges_width t_secondEdges_lines t_layers_width t_layers_lines t_firstEdges_cells_n t_firstEdges_cells_a t_secondEdges_cells_n t_secondEdges_cells_a t_layers_cells_n t_layers_cells_a = some o_r) : MetI l yX9_cost wsX9_cost rmX9_cost [.ref t_h, .int x1, .int x2] G cI cJ [(t_h, .inr (9, [.ref t_fraction_h, .ref t_settings_h, .ref t_firstEdges_h, .ref t_secondEdges_h, .ref t_layers_h, .ref t_sights_h, .ref t_shadows_h, .ref t_heights_h, .ref t_pairs_h, .ref t_rows_h, .ref t_notes_h, .ref t_matching_h, .ref t_speeds_h, .ref t_layering_h, .ref t_boards_h, .ref t_years_h, .ref t_sheets_h])), (t_settings_h, .inr (4, [.int t_settings_base, .int t_settings_slip, .int t_settings_low, .int t_settings_high, .int t_settings_unlike, .int t_settings_alone])), (t_firstEdges_h, .inr (7, [.int t_firstEdges_width, .int t_firstEdges_most, .ref t_firstEdges_cells_h, .int t_firstEdges_lines])), (t_secondEdges_h, .inr (7, [.int t_secondEdges_width, .int t_secondEdges_most, .ref t_secondEdges_cells_h, .int t_secondEdges_lines])), (t_layers_h, .inr (7, [.int t_layers_width, .int t_layers_most, .ref t_layers_cells_h, .int t_layers_lines])), (t_matching_h, .inr (3, [.ref t_settings_h, .ref t_firstEdges_h, .ref t_secondEdges_h, .ref t_layers_h, .ref t_matching_costs_h, .ref t_matching_keys_h])), (t_firstEdges_cells_h, .inl (cI, t_firstEdges_cells_n, .inl t_firstEdges_cells_a)), (t_secondEdges_cells_h, .inl (cI, t_secondEdges_cells_n, .inl t_secondEdges_cells_a)), (t_layers_cells_h, .inl (cI, t_layers_cells_n, .inl t_layers_cells_a))] [(t_h, .inr (9, [.ref t_fraction_h, .ref t_settings_h, .ref t_firstEdges_h, .ref t_secondEdges_h, .ref t_layers_h, .ref t_sights_h, .ref t_shadows_h, .ref t_heights_h, .ref t_pairs_h, .ref t_rows_h, .ref t_notes_h, .ref t_matching_h, .ref t_speeds_h, .ref t_layering_h, .ref t_boards_h, .ref t_years_h, .ref t_sheets_h])), (t_settings_h, .inr (4, [.int t_settings_base, .int t_settings_slip, .int t_settings_low, .int t_settings_high, .int t_settings_unlike, .int t_settings_alone])), (t_firstEdges_h, .inr (7, [.int t_firstEdges_width, .int t_firstEdges_most, .ref t_firstEdges_cells_h, .int t_firstEdges_lines])), (t_secondEdges_h, .inr (7, [.int t_secondEdges_width, .int t_secondEdges_most, .ref t_secondEdges_cells_h, .int t_secondEdges_lines])), (t_layers_h, .inr (7, [.int t_layers_width, .int t_layers_most, .ref t_layers_cells_h, .int t_layers_lines])), (t_matching_h, .inr (3, [.ref t_settings_h, .ref t_firstEdges_h, .ref t_secondEdges_h, .ref t_layers_h, .ref t_matching_costs_h, .ref t_matching_keys_h])), (t_firstEdges_cells_h, .inl (cI, t_firstEdges_cells_n, .inl t_firstEdges_cells_a)), (t_secondEdges_cells_h, .inl (cI, t_secondEdges_cells_n, .inl t_secondEdges_cells_a)), (t_layers_cells_h, .inl (cI, t_layers_cells_n, .inl t_layers_cells_a))] sz o_r := by
  refine en_0 (l := l) (y := yX9_cost) (wsl := wsX9_cost) (rm := rmX9_cost) (av := [.ref t_h, .int x1, .int x2]) (G := G) (cI := cI) (cJ := cJ) (w0 := [(t_h, .inr (9, [.ref t_fraction_h, .ref t_settings_h, .ref t_firstEdges_h, .ref t_secondEdges_h, .ref t_layers_h, .ref t_sights_h, .ref t_shadows_h, .ref t_heights_h, .ref t_pairs_h, .ref t_rows_h, .ref t_notes_h, .ref t_matching_h, .ref t_speeds_h, .ref t_layering_h, .ref t_boards_h, .ref t_years_h, .ref t_sheets_h])), (t_settings_h, .inr (4, [.int t_settings_base, .int t_settings_slip, .int t_settings_low, .int t_settings_high, .int t_settings_unlike, .int t_settings_alone])), (t_firstEdges_h, .inr (7, [.int t_firstEdges_width, .int t_firstEdges_most, .ref t_firstEdges_cells_h, .int t_firstEdges_lines])), (t_secondEdges_h, .inr (7, [.int t_secondEdges_width, .int t_secondEdges_most, .ref t_secondEdges_cells_h, .int t_secondEdges_lines])), (t_layers_h, .inr (7, [.int t_layers_width, .int t_layers_most, .ref t_layers_cells_h, .int t_layers_lines])), (t_matching_h, .inr (3, [.ref t_settings_h, .ref t_firstEdges_h, .ref t_secondEdges_h, .ref t_layers_h, .ref t_matching_costs_h, .ref t_matching_keys_h])), (t_firstEdges_cells_h, .inl (cI, t_firstEdges_cells_n, .inl t_firstEdges_cells_a)), (t_secondEdges_cells_h, .inl (cI, t_secondEdges_cells_n, .inl t_secondEdges_cells_a)), (t_layers_cells_h, .inl (cI, t_layers_cells_n, .inl t_layers_cells_a))]) (sz := sz) (Qf := fun A => Qi0 G cI cJ [(t_h, .inr (9, [.ref t_fraction_h, .ref t_settings_h, .ref t_firstEdges_h, .ref t_secondEdges_h, .ref t_layers_h, .ref t_sights_h, .ref t_shadows_h, .ref t_heights_h, .ref t_pairs_h, .ref t_rows_h, .ref t_notes_h, .ref t_matching_h, .ref t_speeds_h, .ref t_layering_h, .ref t_boards_h, .ref t_years_h, .ref t_sheets_h])), (t_settings_h, .inr (4, [.int t_settings_base, .int t_settings_slip, .int t_settings_low, .int t_settings_high, .int t_settings_unlike, .int t_settings_alone])), (t_firstEdges_h, .inr (7, [.int t_firstEdges_width, .int t_firstEdges_most, .ref t_firstEdges_cells_h, .int t_firstEdges_lines])), (t_secondEdges_h, .inr (7, [.int t_secondEdges_width, .int t_secondEdges_most, .ref t_secondEdges_cells_h, .int t_secondEdges_lines])), (t_layers_h, .inr (7, [.int t_layers_width, .int t_layers_most, .ref t_layers_cells_h, .int t_layers_lines])), (t_matching_h, .inr (3, [.ref t_settings_h, .ref t_firstEdges_h, .ref t_secondEdges_h, .ref t_layers_h, .ref t_matching_costs_h, .ref t_matching_keys_h])), (t_firstEdges_cells_h, .inl (cI, t_firstEdges_cells_n, .inl t_firstEdges_cells_a)), (t_secondEdges_cells_h, .inl (cI, t_secondEdges_cells_n, .inl t_secondEdges_cells_a)), (t_layers_cells_h, .inl (cI, t_layers_cells_n, .inl t_layers_cells_a))] o_r A) (cc := cX9_cost) (maxL := 3) (ret := (some .int)) RX9 (by decide +kernel) rfl rfl (Nat.le_of_ble_eq_true rfl) ?_
  intro p e s m args below meth c A ls Q hQ hx hb hr hts hown hlocks hml hN hK hP hD hS hA hl
  have hl : lv_has ls 3 [(0, .ref t_h), (1, .int x1), (2, .int x2)] := hl
  have iwX9 := iwX9_cost_X9
  have fl_28 := hts (.fieldLink RX9 28 "CloudOffice" "firstEdges" "LCloudOffice$Table;") (by decide +kernel)
  have fl_32 := hts (.fieldLink RX9 32 "CloudOffice" "secondEdges" "LCloudOffice$Table;") (by decide +kernel)
  have fl_61 := hts (.fieldLink RX9 61 "CloudOffice" "matching" "LCloudOffice$Matching;") (by decide +kernel)
  have hret : ∀ (o_r9 : Int32) (pc : Nat) (H : Heap) (locs : List Loc) (ls : Array Slot), decode cX9_cost pc = .ok (.ireturn, 1) → some o_r9 = some o_r → va_P G vwCl [(t_h, .inr (9, [.ref t_fraction_h, .ref t_settings_h, .ref t_firstEdges_h, .ref t_secondEdges_h, .ref t_layers_h, .ref t_sights_h, .ref t_shadows_h, .ref t_heights_h, .ref t_pairs_h, .ref t_rows_h, .ref t_notes_h, .ref t_matching_h, .ref t_speeds_h, .ref t_layering_h, .ref t_boards_h, .ref t_years_h, .ref t_sheets_h])), (t_settings_h, .inr (4, [.int t_settings_base, .int t_settings_slip, .int t_settings_low, .int t_settings_high, .int t_settings_unlike, .int t_settings_alone])), (t_firstEdges_h, .inr (7, [.int t_firstEdges_width, .int t_firstEdges_most, .ref t_firstEdges_cells_h, .int t_firstEdges_lines])), (t_secondEdges_h, .inr (7, [.int t_secondEdges_width, .int t_secondEdges_most, .ref t_secondEdges_cells_h, .int t_secondEdges_lines])), (t_layers_h, .inr (7, [.int t_layers_width, .int t_layers_most, .ref t_layers_cells_h, .int t_layers_lines])), (t_matching_h, .inr (3, [.ref t_settings_h, .ref t_firstEdges_h, .ref t_secondEdges_h, .ref t_layers_h, .ref t_matching_costs_h, .ref t_matching_keys_h])), (t_firstEdges_cells_h, .inl (cI, t_firstEdges_cells_n, .inl t_firstEdges_cells_a)), (t_secondEdges_cells_h, .inl (cI, t_secondEdges_cells_n, .inl t_secondEdges_cells_a)), (t_layers_cells_h, .inl (cI, t_layers_cells_n, .inl t_layers_cells_a))] H → va_D A [(t_h, .inr (9, [.ref t_fraction_h, .ref t_settings_h, .ref t_firstEdges_h, .ref t_secondEdges_h, .ref t_layers_h, .ref t_sights_h, .ref t_shadows_h, .ref t_heights_h, .ref t_pairs_h, .ref t_rows_h, .ref t_notes_h, .ref t_matching_h, .ref t_speeds_h, .ref t_layering_h, .ref t_boards_h, .ref t_years_h, .ref t_sheets_h])), (t_settings_h, .inr (4, [.int t_settings_base, .int t_settings_slip, .int t_settings_low, .int t_settings_high, .int t_settings_unlike, .int t_settings_alone])), (t_firstEdges_h, .inr (7, [.int t_firstEdges_width, .int t_firstEdges_most, .ref t_firstEdges_cells_h, .int t_firstEdges_lines])), (t_secondEdges_h, .inr (7, [.int t_secondEdges_width, .int t_secondEdges_most, .ref t_secondEdges_cells_h, .int t_secondEdges_lines])), (t_layers_h, .inr (7, [.int t_layers_width, .int t_layers_most, .ref t_layers_cells_h, .int t_layers_lines])), (t_matching_h, .inr (3, [.ref t_settings_h, .ref t_firstEdges_h, .ref t_secondEdges_h, .ref t_layers_h, .ref t_matching_costs_h, .ref t_matching_keys_h])), (t_firstEdges_cells_h, .inl (cI, t_firstEdges_cells_n, .inl t_firstEdges_cells_a)), (t_secondEdges_cells_h, .inl (cI, t_secondEdges_cells_n, .inl t_secondEdges_cells_a)), (t_layers_cells_h, .inl (cI, t_layers_cells_n, .inl t_layers_cells_a))] → va_S A s.heap H locs → W p l e rmX9_cost s m args below meth c H locs 0 0 Q (F0 m pc ls [.int o_r9]) := by
    intro o_r9 pc H locs ls hdg he hP hD hS
    cases he
    subst hQ
    exact rt_i hx hb hr hlocks hK hP hD hS rfl hdg
  clear hQ
  unfold fX9_cost at hf
  refine lv_aload_n hx hb dX9_cost_0 rfl (lv_at hl 0 rfl) ?_
  refine va_get (D := G) (ci := 9) (v := .ref t_firstEdges_h) (C := RX9) (T := TX9) (N := 17) hx hb hts iwX9 hown hK hP 0 rfl rfl 2 (by decide) fl_28 (fun _ h9 => h9) rfl dX9_cost_1 ?_
  refine lv_iload_n hx hb dX9_cost_4 rfl (lv_at hl 1 rfl) ?_
  obtain ⟨r1, hc2, hf⟩ := ob_some hf
  refine af_iR (va_runV (As := [.int x1]) (rest := []) ⟨hx, hb, hml, hown, hts⟩ (k_X7_has l G cI cJ (t_h := t_firstEdges_h) (t_cells_h := t_firstEdges_cells_h) (t_width := t_firstEdges_width) (t_most := t_firstEdges_most) (t_lines := t_firstEdges_lines) (x1 := x1) (sz := _) (hf := hc2)) (cwV 1 hts gX9_cost_X7_has rfl rfl rfl (by decide +kernel) ⟨Nat.le_of_ble_eq_true rfl, Nat.le_of_ble_eq_true rfl⟩) (preV0 (ci := 7) (q0 := 0) (C := RX7) (wc := [(t_firstEdges_h, .inr (7, [.int t_firstEdges_width, .int t_firstEdges_most, .ref t_firstEdges_cells_h, .int t_firstEdges_lines]))]) hK hP hD hN [2] rfl rfl (by decide) rfl rfl) rfl rfl hl.1 rfl (lv_room (Nat.le_of_ble_eq_true rfl)) dX9_cost_5 ⟨Nat.zero_le _, Nat.zero_le _⟩) hP hD hS hA [2] rfl (fun H locs hP hS => ?_)
  refine lv_if_eq (tgt := 22) hx hb dX9_cost_8 (by decide) (fun c3 => ?_) (fun c3 => ?_)
  · have hf := ift hf c3
    refine lv_bipush (v := (-2)) hx hb dX9_cost_22 (by decide) ?_
    exact hret (-2) 24 _ _ _ dX9_cost_24 hf hP hD hS
  · have hf := iff_ hf c3
    refine lv_aload_n hx hb dX9_cost_11 rfl (lv_at hl 0 rfl) ?_
    refine va_get (D := G) (ci := 9) (v := .ref t_secondEdges_h) (C := RX9) (T := TX9) (N := 17) hx hb hts iwX9 hown hK hP 0 rfl rfl 3 (by decide) fl_32 (fun _ h9 => h9) rfl dX9_cost_12 ?_
    refine lv_iload_n hx hb dX9_cost_15 rfl (lv_at hl 2 rfl) ?_
    obtain ⟨r4, hc5, hf⟩ := ob_some hf
    refine af_iR (va_runV (As := [.int x2]) (rest := []) ⟨hx, hb, hml, hown, hts⟩ (k_X7_has l G cI cJ (t_h := t_secondEdges_h) (t_cells_h := t_secondEdges_cells_h) (t_width := t_secondEdges_width) (t_most := t_secondEdges_most) (t_lines := t_secondEdges_lines) (x1 := x2) (sz := _) (hf := hc5)) (cwV 1 hts gX9_cost_X7_has rfl rfl rfl (by decide +kernel) ⟨Nat.le_of_ble_eq_true rfl, Nat.le_of_ble_eq_true rfl⟩) (preV0 (ci := 7) (q0 := 0) (C := RX7) (wc := [(t_secondEdges_h, .inr (7, [.int t_secondEdges_width, .int t_secondEdges_most, .ref t_secondEdges_cells_h, .int t_secondEdges_lines]))]) hK hP hD hN [3] rfl rfl (by decide) rfl rfl) rfl rfl hl.1 rfl (lv_room (Nat.le_of_ble_eq_true rfl)) dX9_cost_16 ⟨Nat.zero_le _, Nat.zero_le _⟩) hP hD hS hA [3] rfl (fun H locs hP hS => ?_)
    refine lv_if_ne (tgt := 25) hx hb dX9_cost_19 (by decide) (fun c6 => ?_) (fun c6 => ?_)
    · have hf := iff_ hf c6
      refine lv_aload_n hx hb dX9_cost_25 rfl (lv_at hl 0 rfl) ?_
      refine va_get (D := G) (ci := 9) (v := .ref t_matching_h) (C := RX9) (T := TX9) (N := 17) hx hb hts iwX9 hown hK hP 0 rfl rfl 11 (by decide) fl_61 (fun _ h9 => h9) rfl dX9_cost_26 ?_
      refine lv_iload_n hx hb dX9_cost_29 rfl (lv_at hl 1 rfl) ?_
      refine lv_iload_n hx hb dX9_cost_30 rfl (lv_at hl 2 rfl) ?_
      obtain ⟨r7, hc8, hf⟩ := ob_some hf
      refine af_iR (va_runV (As := [.int x1, .int x2]) (rest := []) ⟨hx, hb, hml, hown, hts⟩ (k_X3_costOf l G cI cJ (t_h := t_matching_h) (t_settings_h := t_settings_h) (t_first_h := t_firstEdges_h) (t_second_h := t_secondEdges_h) (t_layers_h := t_layers_h) (t_costs_h := t_matching_costs_h) (t_keys_h := t_matching_keys_h) (t_first_cells_h := t_firstEdges_cells_h) (t_second_cells_h := t_secondEdges_cells_h) (t_layers_cells_h := t_layers_cells_h) (t_settings_base := t_settings_base) (t_settings_slip := t_settings_slip) (t_settings_low := t_settings_low) (t_settings_high := t_settings_high) (t_settings_unlike := t_settings_unlike) (t_settings_alone := t_settings_alone) (t_first_width := t_firstEdges_width) (t_first_most := t_firstEdges_most) (t_first_lines := t_firstEdges_lines) (t_second_width := t_secondEdges_width) (t_second_most := t_secondEdges_most) (t_second_lines := t_secondEdges_lines) (t_layers_width := t_layers_width) (t_layers_most := t_layers_most) (t_layers_lines := t_layers_lines) (t_first_cells_n := t_firstEdges_cells_n) (t_first_cells_a := t_firstEdges_cells_a) (t_second_cells_n := t_secondEdges_cells_n) (t_second_cells_a := t_secondEdges_cells_a) (t_layers_cells_n := t_layers_cells_n) (t_layers_cells_a := t_layers_cells_a) (x1 := x1) (x2 := x2) (sz := _) (hf := hc8)) (cwV 2 hts gX9_cost_X3_costOf rfl rfl rfl (by decide +kernel) ⟨Nat.le_of_ble_eq_true rfl, Nat.le_of_ble_eq_true rfl⟩) (preV0 (ci := 3) (q0 := 0) (C := RX3) (wc := [(t_matching_h, .inr (3, [.ref t_settings_h, .ref t_firstEdges_h, .ref t_secondEdges_h, .ref t_layers_h, .ref t_matching_costs_h, .ref t_matching_keys_h])), (t_settings_h, .inr (4, [.int t_settings_base, .int t_settings_slip, .int t_settings_low, .int t_settings_high, .int t_settings_unlike, .int t_settings_alone])), (t_firstEdges_h, .inr (7, [.int t_firstEdges_width, .int t_firstEdges_most, .ref t_firstEdges_cells_h, .int t_firstEdges_lines])), (t_secondEdges_h, .inr (7, [.int t_secondEdges_width, .int t_secondEdges_most, .ref t_secondEdges_cells_h, .int t_secondEdges_lines])), (t_layers_h, .inr (7, [.int t_layers_width, .int t_layers_most, .ref t_layers_cells_h, .int t_layers_lines])), (t_firstEdges_cells_h, .inl (cI, t_firstEdges_cells_n, .inl t_firstEdges_cells_a)), (t_secondEdges_cells_h, .inl (cI, t_secondEdges_cells_n, .inl t_secondEdges_cells_a)), (t_layers_cells_h, .inl (cI, t_layers_cells_n, .inl t_layers_cells_a))]) hK hP hD hN [5, 1, 2, 3, 4, 6, 7, 8] rfl rfl (by decide) rfl rfl) rfl rfl hl.1 rfl (lv_room (Nat.le_of_ble_eq_true rfl)) dX9_cost_31 ⟨Nat.zero_le _, Nat.zero_le _⟩) hP hD hS hA [5, 1, 2, 3, 4, 6, 7, 8] rfl (fun H locs hP hS => ?_)
      exact hret r7 34 _ _ _ dX9_cost_34 hf hP hD hS
    · have hf := ift hf c6
      refine lv_bipush (v := (-2)) hx hb dX9_cost_22 (by decide) ?_
      exact hret (-2) 24 _ _ _ dX9_cost_24 hf hP hD hS
set_option maxRecDepth 20000 in
theorem ggX9_matched_X3_bestKey : GoodIn wsX9_matched wsX3_bestKey := goodIn_r _ [7, 8, 9, 10, 11, 12, 13, 14, 15, 16, 17, 18, 19, 6, 20, 21, 22, 23, 24, 25, 26, 27, 28, 29, 30, 31, 32, 33, 34, 35, 36, 37, 38, 39, 40, 41, 42, 43, 44, 45, 46, 47, 48, 49, 50, 51, 52, 53, 54, 55, 56, 57, 58, 59, 60, 61, 62, 63, 64, 65, 96, 97, 98, 99, 100, 101, 102, 103, 104, 105, 106, 107, 108, 109, 110, 111] (by decide +kernel) (by decide +kernel)
set_option maxRecDepth 20000 in
theorem gX9_matched_X3_bestKey : GoodIn wsX9_matched (wsV RX9 168 RX3 yX3_bestKey wsX3_bestKey) := goodIn_app (goodIn_of _ (by decide +kernel)) ggX9_matched_X3_bestKey
set_option maxRecDepth 20000 in
theorem ggX9_matched_X3_sumOf : GoodIn wsX9_matched wsX3_sumOf := goodIn_r _ [69] (by decide +kernel) (by decide +kernel)
set_option maxRecDepth 20000 in
theorem gX9_matched_X3_sumOf : GoodIn wsX9_matched (wsV RX9 171 RX3 yX3_sumOf wsX3_sumOf) := goodIn_app (goodIn_of _ (by decide +kernel)) ggX9_matched_X3_sumOf
set_option maxRecDepth 20000 in
theorem ggX9_matched_X7_has : GoodIn wsX9_matched wsX7_has := goodIn_r _ [73, 16, 102, 103, 104, 105] (by decide +kernel) (by decide +kernel)
set_option maxRecDepth 20000 in
theorem gX9_matched_X7_has : GoodIn wsX9_matched (wsV RX9 161 RX7 yX7_has wsX7_has) := goodIn_app (goodIn_of _ (by decide +kernel)) ggX9_matched_X7_has
set_option maxRecDepth 20000 in
theorem ggX9_matched_X3_partnerOf : GoodIn wsX9_matched wsX3_partnerOf := goodIn_r _ [77, 78] (by decide +kernel) (by decide +kernel)
set_option maxRecDepth 20000 in
theorem gX9_matched_X3_partnerOf : GoodIn wsX9_matched (wsV RX9 175 RX3 yX3_partnerOf wsX3_partnerOf) := goodIn_app (goodIn_of _ (by decide +kernel)) ggX9_matched_X3_partnerOf
theorem dX9_matched_0 : decode cX9_matched 0 = .ok (.iload_n 1, 1) := by decide +kernel
theorem dX9_matched_1 : decode cX9_matched 1 = .ok (.iconst (-1), 1) := by decide +kernel
theorem dX9_matched_2 : decode cX9_matched 2 = .ok (.if_icmp .ne 18, 3) := by decide +kernel
theorem dX9_matched_5 : decode cX9_matched 5 = .ok (.aload_n 0, 1) := by decide +kernel
theorem dX9_matched_6 : decode cX9_matched 6 = .ok (.getfield 61, 3) := by decide +kernel
theorem dX9_matched_9 : decode cX9_matched 9 = .ok (.aload_n 0, 1) := by decide +kernel
theorem dX9_matched_10 : decode cX9_matched 10 = .ok (.getfield 61, 3) := by decide +kernel
theorem dX9_matched_13 : decode cX9_matched 13 = .ok (.invokevirtual 168, 3) := by decide +kernel
theorem dX9_matched_16 : decode cX9_matched 16 = .ok (.invokevirtual 171, 3) := by decide +kernel
theorem dX9_matched_19 : decode cX9_matched 19 = .ok (.ireturn, 1) := by decide +kernel
theorem dX9_matched_20 : decode cX9_matched 20 = .ok (.aload_n 0, 1) := by decide +kernel
theorem dX9_matched_21 : decode cX9_matched 21 = .ok (.getfield 28, 3) := by decide +kernel
theorem dX9_matched_24 : decode cX9_matched 24 = .ok (.iload_n 1, 1) := by decide +kernel
theorem dX9_matched_25 : decode cX9_matched 25 = .ok (.invokevirtual 161, 3) := by decide +kernel
theorem dX9_matched_28 : decode cX9_matched 28 = .ok (.ifCond .ne 6, 3) := by decide +kernel
theorem dX9_matched_31 : decode cX9_matched 31 = .ok (.bipush (-10), 2) := by decide +kernel
theorem dX9_matched_33 : decode cX9_matched 33 = .ok (.ireturn, 1) := by decide +kernel
theorem dX9_matched_34 : decode cX9_matched 34 = .ok (.aload_n 0, 1) := by decide +kernel
theorem dX9_matched_35 : decode cX9_matched 35 = .ok (.getfield 61, 3) := by decide +kernel
theorem dX9_matched_38 : decode cX9_matched 38 = .ok (.aload_n 0, 1) := by decide +kernel
theorem dX9_matched_39 : decode cX9_matched 39 = .ok (.getfield 61, 3) := by decide +kernel
theorem dX9_matched_42 : decode cX9_matched 42 = .ok (.invokevirtual 168, 3) := by decide +kernel
theorem dX9_matched_45 : decode cX9_matched 45 = .ok (.iload_n 1, 1) := by decide +kernel
theorem dX9_matched_46 : decode cX9_matched 46 = .ok (.invokevirtual 175, 3) := by decide +kernel
theorem dX9_matched_49 : decode cX9_matched 49 = .ok (.ireturn, 1) := by decide +kernel
set_option maxRecDepth 100000 in
def fX9_matched (x1 : Int32) (t_settings_base : Int32) (t_settings_low : Int32) (t_settings_high : Int32) (t_settings_unlike : Int32) (t_settings_alone : Int32) (t_firstEdges_width : Int32) (t_firstEdges_lines : Int32) (t_secondEdges_width : Int32) (t_secondEdges_lines : Int32) (t_layers_width : Int32) (t_layers_lines : Int32) (t_firstEdges_cells_n : Nat) (t_firstEdges_cells_a : Nat → Int32) (t_secondEdges_cells_n : Nat) (t_secondEdges_cells_a : Nat → Int32) (t_layers_cells_n : Nat) (t_layers_cells_a : Nat → Int32) (t_matching_costs_a : Nat → Int32) (t_matching_keys_a : Nat → Int64) : Option (Int32 × (Nat → Int32) × (Nat → Int64)) :=
  if x1 = (-1) then
    ob3 (fX3_bestKey t_settings_base t_settings_low t_settings_high t_settings_unlike t_settings_alone t_firstEdges_width t_firstEdges_lines t_secondEdges_width t_secondEdges_lines t_layers_width t_layers_lines t_matching_costs_a t_matching_keys_a t_firstEdges_cells_n t_firstEdges_cells_a t_secondEdges_cells_n t_secondEdges_cells_a t_layers_cells_n t_layers_cells_a) fun r11 w12 w13 =>
    ob (fX3_sumOf r11) fun r15 =>
    some (r15, w12, w13)
  else
    ob (fX7_has x1 t_firstEdges_lines) fun r2 =>
    if (b2i r2) = 0 then
      some ((-10), t_matching_costs_a, t_matching_keys_a)
    else
      ob3 (fX3_bestKey t_settings_base t_settings_low t_settings_high t_settings_unlike t_settings_alone t_firstEdges_width t_firstEdges_lines t_secondEdges_width t_secondEdges_lines t_layers_width t_layers_lines t_matching_costs_a t_matching_keys_a t_firstEdges_cells_n t_firstEdges_cells_a t_secondEdges_cells_n t_secondEdges_cells_a t_layers_cells_n t_layers_cells_a) fun r5 w6 w7 =>
      ob (fX3_partnerOf r5 x1) fun r9 =>
      some (r9, w6, w7)
abbrev rmX9_matched : Room := { frames := 5, cells := 0, slots := 0, locals := 116 }
theorem iwX9_matched_X9 : ∀ w ∈ u_ws RX9 TX9 17, w ∈ wsX9_matched := by decide +kernel
set_option maxHeartbeats 4000000 in
set_option maxRecDepth 100000 in
theorem k_X9_matched (l : Launch) (G : va_G) (cI cJ : ClassId) (t_h t_fraction_h t_settings_h t_firstEdges_h t_secondEdges_h t_layers_h t_sights_h t_shadows_h t_heights_h t_pairs_h t_rows_h t_notes_h t_matching_h t_speeds_h t_layering_h t_boards_h t_years_h t_sheets_h t_firstEdges_cells_h t_secondEdges_cells_h t_layers_cells_h t_matching_costs_h t_matching_keys_h : Nat) (sz : Nat) (t_settings_base : Int32) (t_settings_slip : Int32) (t_settings_low : Int32) (t_settings_high : Int32) (t_settings_unlike : Int32) (t_settings_alone : Int32) (t_firstEdges_width : Int32) (t_firstEdges_most : Int32) (t_firstEdges_lines : Int32) (t_secondEdges_width : Int32) (t_secondEdges_most : Int32) (t_secondEdges_lines : Int32) (t_layers_width : Int32) (t_layers_most : Int32) (t_layers_lines : Int32) (t_firstEdges_cells_n : Nat) (t_firstEdges_cells_a : Nat → Int32) (t_secondEdges_cells_n : Nat) (t_secondEdges_cells_a : Nat → Int32) (t_layers_cells_n : Nat) (t_layers_cells_a : Nat → Int32) (t_matching_costs_a : Nat → Int32) (t_matching_keys_a : Nat → Int64) (x1 : Int32) {o_r : Int32} {o_t_matching_costs_a : Nat → Int32} {o_t_matching_keys_a : Nat → Int64} (hf : fX9_matched x1 t_settings_base t_settings_low t_settings_high t_settings_unlike t_settings_alone t_firstEdges_width t_firstEdges_lines t_secondEdges_width t_secondEdges_lines t_layers_width t_layers_lines t_firstEdges_cells_n t_firstEdges_cells_a t_secondEdges_cells_n t_secondEdges_cells_a t_layers_cells_n t_layers_cells_a t_matching_costs_a t_matching_keys_a = some (o_r, o_t_matching_costs_a, o_t_matching_keys_a)) : MetI l yX9_matched wsX9_matched rmX9_matched [.ref t_h, .int x1] G cI cJ [(t_h, .inr (9, [.ref t_fraction_h, .ref t_settings_h, .ref t_firstEdges_h, .ref t_secondEdges_h, .ref t_layers_h, .ref t_sights_h, .ref t_shadows_h, .ref t_heights_h, .ref t_pairs_h, .ref t_rows_h, .ref t_notes_h, .ref t_matching_h, .ref t_speeds_h, .ref t_layering_h, .ref t_boards_h, .ref t_years_h, .ref t_sheets_h])), (t_settings_h, .inr (4, [.int t_settings_base, .int t_settings_slip, .int t_settings_low, .int t_settings_high, .int t_settings_unlike, .int t_settings_alone])), (t_firstEdges_h, .inr (7, [.int t_firstEdges_width, .int t_firstEdges_most, .ref t_firstEdges_cells_h, .int t_firstEdges_lines])), (t_secondEdges_h, .inr (7, [.int t_secondEdges_width, .int t_secondEdges_most, .ref t_secondEdges_cells_h, .int t_secondEdges_lines])), (t_layers_h, .inr (7, [.int t_layers_width, .int t_layers_most, .ref t_layers_cells_h, .int t_layers_lines])), (t_matching_h, .inr (3, [.ref t_settings_h, .ref t_firstEdges_h, .ref t_secondEdges_h, .ref t_layers_h, .ref t_matching_costs_h, .ref t_matching_keys_h])), (t_firstEdges_cells_h, .inl (cI, t_firstEdges_cells_n, .inl t_firstEdges_cells_a)), (t_secondEdges_cells_h, .inl (cI, t_secondEdges_cells_n, .inl t_secondEdges_cells_a)), (t_layers_cells_h, .inl (cI, t_layers_cells_n, .inl t_layers_cells_a)), (t_matching_costs_h, .inl (cI, 8, .inl t_matching_costs_a)), (t_matching_keys_h, .inl (cJ, 256, .inr (.inl t_matching_keys_a)))] [(t_h, .inr (9, [.ref t_fraction_h, .ref t_settings_h, .ref t_firstEdges_h, .ref t_secondEdges_h, .ref t_layers_h, .ref t_sights_h, .ref t_shadows_h, .ref t_heights_h, .ref t_pairs_h, .ref t_rows_h, .ref t_notes_h, .ref t_matching_h, .ref t_speeds_h, .ref t_layering_h, .ref t_boards_h, .ref t_years_h, .ref t_sheets_h])), (t_settings_h, .inr (4, [.int t_settings_base, .int t_settings_slip, .int t_settings_low, .int t_settings_high, .int t_settings_unlike, .int t_settings_alone])), (t_firstEdges_h, .inr (7, [.int t_firstEdges_width, .int t_firstEdges_most, .ref t_firstEdges_cells_h, .int t_firstEdges_lines])), (t_secondEdges_h, .inr (7, [.int t_secondEdges_width, .int t_secondEdges_most, .ref t_secondEdges_cells_h, .int t_secondEdges_lines])), (t_layers_h, .inr (7, [.int t_layers_width, .int t_layers_most, .ref t_layers_cells_h, .int t_layers_lines])), (t_matching_h, .inr (3, [.ref t_settings_h, .ref t_firstEdges_h, .ref t_secondEdges_h, .ref t_layers_h, .ref t_matching_costs_h, .ref t_matching_keys_h])), (t_firstEdges_cells_h, .inl (cI, t_firstEdges_cells_n, .inl t_firstEdges_cells_a)), (t_secondEdges_cells_h, .inl (cI, t_secondEdges_cells_n, .inl t_secondEdges_cells_a)), (t_layers_cells_h, .inl (cI, t_layers_cells_n, .inl t_layers_cells_a)), (t_matching_costs_h, .inl (cI, 8, .inl o_t_matching_costs_a)), (t_matching_keys_h, .inl (cJ, 256, .inr (.inl o_t_matching_keys_a)))] sz o_r := by
  refine en_0 (l := l) (y := yX9_matched) (wsl := wsX9_matched) (rm := rmX9_matched) (av := [.ref t_h, .int x1]) (G := G) (cI := cI) (cJ := cJ) (w0 := [(t_h, .inr (9, [.ref t_fraction_h, .ref t_settings_h, .ref t_firstEdges_h, .ref t_secondEdges_h, .ref t_layers_h, .ref t_sights_h, .ref t_shadows_h, .ref t_heights_h, .ref t_pairs_h, .ref t_rows_h, .ref t_notes_h, .ref t_matching_h, .ref t_speeds_h, .ref t_layering_h, .ref t_boards_h, .ref t_years_h, .ref t_sheets_h])), (t_settings_h, .inr (4, [.int t_settings_base, .int t_settings_slip, .int t_settings_low, .int t_settings_high, .int t_settings_unlike, .int t_settings_alone])), (t_firstEdges_h, .inr (7, [.int t_firstEdges_width, .int t_firstEdges_most, .ref t_firstEdges_cells_h, .int t_firstEdges_lines])), (t_secondEdges_h, .inr (7, [.int t_secondEdges_width, .int t_secondEdges_most, .ref t_secondEdges_cells_h, .int t_secondEdges_lines])), (t_layers_h, .inr (7, [.int t_layers_width, .int t_layers_most, .ref t_layers_cells_h, .int t_layers_lines])), (t_matching_h, .inr (3, [.ref t_settings_h, .ref t_firstEdges_h, .ref t_secondEdges_h, .ref t_layers_h, .ref t_matching_costs_h, .ref t_matching_keys_h])), (t_firstEdges_cells_h, .inl (cI, t_firstEdges_cells_n, .inl t_firstEdges_cells_a)), (t_secondEdges_cells_h, .inl (cI, t_secondEdges_cells_n, .inl t_secondEdges_cells_a)), (t_layers_cells_h, .inl (cI, t_layers_cells_n, .inl t_layers_cells_a)), (t_matching_costs_h, .inl (cI, 8, .inl t_matching_costs_a)), (t_matching_keys_h, .inl (cJ, 256, .inr (.inl t_matching_keys_a)))]) (sz := sz) (Qf := fun A => Qi0 G cI cJ [(t_h, .inr (9, [.ref t_fraction_h, .ref t_settings_h, .ref t_firstEdges_h, .ref t_secondEdges_h, .ref t_layers_h, .ref t_sights_h, .ref t_shadows_h, .ref t_heights_h, .ref t_pairs_h, .ref t_rows_h, .ref t_notes_h, .ref t_matching_h, .ref t_speeds_h, .ref t_layering_h, .ref t_boards_h, .ref t_years_h, .ref t_sheets_h])), (t_settings_h, .inr (4, [.int t_settings_base, .int t_settings_slip, .int t_settings_low, .int t_settings_high, .int t_settings_unlike, .int t_settings_alone])), (t_firstEdges_h, .inr (7, [.int t_firstEdges_width, .int t_firstEdges_most, .ref t_firstEdges_cells_h, .int t_firstEdges_lines])), (t_secondEdges_h, .inr (7, [.int t_secondEdges_width, .int t_secondEdges_most, .ref t_secondEdges_cells_h, .int t_secondEdges_lines])), (t_layers_h, .inr (7, [.int t_layers_width, .int t_layers_most, .ref t_layers_cells_h, .int t_layers_lines])), (t_matching_h, .inr (3, [.ref t_settings_h, .ref t_firstEdges_h, .ref t_secondEdges_h, .ref t_layers_h, .ref t_matching_costs_h, .ref t_matching_keys_h])), (t_firstEdges_cells_h, .inl (cI, t_firstEdges_cells_n, .inl t_firstEdges_cells_a)), (t_secondEdges_cells_h, .inl (cI, t_secondEdges_cells_n, .inl t_secondEdges_cells_a)), (t_layers_cells_h, .inl (cI, t_layers_cells_n, .inl t_layers_cells_a)), (t_matching_costs_h, .inl (cI, 8, .inl o_t_matching_costs_a)), (t_matching_keys_h, .inl (cJ, 256, .inr (.inl o_t_matching_keys_a)))] o_r A) (cc := cX9_matched) (maxL := 2) (ret := (some .int)) RX9 (by decide +kernel) rfl rfl (Nat.le_of_ble_eq_true rfl) ?_
  intro p e s m args below meth c A ls Q hQ hx hb hr hts hown hlocks hml hN hK hP hD hS hA hl
  have hl : lv_has ls 2 [(0, .ref t_h), (1, .int x1)] := hl
  have iwX9 := iwX9_matched_X9
  have fl_28 := hts (.fieldLink RX9 28 "CloudOffice" "firstEdges" "LCloudOffice$Table;") (by decide +kernel)
  have fl_61 := hts (.fieldLink RX9 61 "CloudOffice" "matching" "LCloudOffice$Matching;") (by decide +kernel)
  have hret : ∀ (o_r9 : Int32) (o_t_matching_costs_a9 : Nat → Int32) (o_t_matching_keys_a9 : Nat → Int64) (pc : Nat) (H : Heap) (locs : List Loc) (ls : Array Slot), decode cX9_matched pc = .ok (.ireturn, 1) → some (o_r9, o_t_matching_costs_a9, o_t_matching_keys_a9) = some (o_r, o_t_matching_costs_a, o_t_matching_keys_a) → va_P G vwCl [(t_h, .inr (9, [.ref t_fraction_h, .ref t_settings_h, .ref t_firstEdges_h, .ref t_secondEdges_h, .ref t_layers_h, .ref t_sights_h, .ref t_shadows_h, .ref t_heights_h, .ref t_pairs_h, .ref t_rows_h, .ref t_notes_h, .ref t_matching_h, .ref t_speeds_h, .ref t_layering_h, .ref t_boards_h, .ref t_years_h, .ref t_sheets_h])), (t_settings_h, .inr (4, [.int t_settings_base, .int t_settings_slip, .int t_settings_low, .int t_settings_high, .int t_settings_unlike, .int t_settings_alone])), (t_firstEdges_h, .inr (7, [.int t_firstEdges_width, .int t_firstEdges_most, .ref t_firstEdges_cells_h, .int t_firstEdges_lines])), (t_secondEdges_h, .inr (7, [.int t_secondEdges_width, .int t_secondEdges_most, .ref t_secondEdges_cells_h, .int t_secondEdges_lines])), (t_layers_h, .inr (7, [.int t_layers_width, .int t_layers_most, .ref t_layers_cells_h, .int t_layers_lines])), (t_matching_h, .inr (3, [.ref t_settings_h, .ref t_firstEdges_h, .ref t_secondEdges_h, .ref t_layers_h, .ref t_matching_costs_h, .ref t_matching_keys_h])), (t_firstEdges_cells_h, .inl (cI, t_firstEdges_cells_n, .inl t_firstEdges_cells_a)), (t_secondEdges_cells_h, .inl (cI, t_secondEdges_cells_n, .inl t_secondEdges_cells_a)), (t_layers_cells_h, .inl (cI, t_layers_cells_n, .inl t_layers_cells_a)), (t_matching_costs_h, .inl (cI, 8, .inl o_t_matching_costs_a9)), (t_matching_keys_h, .inl (cJ, 256, .inr (.inl o_t_matching_keys_a9)))] H → va_D A [(t_h, .inr (9, [.ref t_fraction_h, .ref t_settings_h, .ref t_firstEdges_h, .ref t_secondEdges_h, .ref t_layers_h, .ref t_sights_h, .ref t_shadows_h, .ref t_heights_h, .ref t_pairs_h, .ref t_rows_h, .ref t_notes_h, .ref t_matching_h, .ref t_speeds_h, .ref t_layering_h, .ref t_boards_h, .ref t_years_h, .ref t_sheets_h])), (t_settings_h, .inr (4, [.int t_settings_base, .int t_settings_slip, .int t_settings_low, .int t_settings_high, .int t_settings_unlike, .int t_settings_alone])), (t_firstEdges_h, .inr (7, [.int t_firstEdges_width, .int t_firstEdges_most, .ref t_firstEdges_cells_h, .int t_firstEdges_lines])), (t_secondEdges_h, .inr (7, [.int t_secondEdges_width, .int t_secondEdges_most, .ref t_secondEdges_cells_h, .int t_secondEdges_lines])), (t_layers_h, .inr (7, [.int t_layers_width, .int t_layers_most, .ref t_layers_cells_h, .int t_layers_lines])), (t_matching_h, .inr (3, [.ref t_settings_h, .ref t_firstEdges_h, .ref t_secondEdges_h, .ref t_layers_h, .ref t_matching_costs_h, .ref t_matching_keys_h])), (t_firstEdges_cells_h, .inl (cI, t_firstEdges_cells_n, .inl t_firstEdges_cells_a)), (t_secondEdges_cells_h, .inl (cI, t_secondEdges_cells_n, .inl t_secondEdges_cells_a)), (t_layers_cells_h, .inl (cI, t_layers_cells_n, .inl t_layers_cells_a)), (t_matching_costs_h, .inl (cI, 8, .inl o_t_matching_costs_a9)), (t_matching_keys_h, .inl (cJ, 256, .inr (.inl o_t_matching_keys_a9)))] → va_S A s.heap H locs → W p l e rmX9_matched s m args below meth c H locs 0 0 Q (F0 m pc ls [.int o_r9]) := by
    intro o_r9 o_t_matching_costs_a9 o_t_matching_keys_a9 pc H locs ls hdg he hP hD hS
    cases he
    subst hQ
    exact rt_i hx hb hr hlocks hK hP hD hS rfl hdg
  clear hQ
  unfold fX9_matched at hf
  refine lv_iload_n hx hb dX9_matched_0 rfl (lv_at hl 1 rfl) ?_
  refine lv_iconst (v := (-1)) hx hb dX9_matched_1 (by decide) ?_
  refine lv_icmp_ne (tgt := 20) hx hb dX9_matched_2 (by decide) (fun c1 => ?_) (fun c1 => ?_)
  · have hf := iff_ hf c1
    refine lv_aload_n hx hb dX9_matched_20 rfl (lv_at hl 0 rfl) ?_
    refine va_get (D := G) (ci := 9) (v := .ref t_firstEdges_h) (C := RX9) (T := TX9) (N := 17) hx hb hts iwX9 hown hK hP 0 rfl rfl 2 (by decide) fl_28 (fun _ h9 => h9) rfl dX9_matched_21 ?_
    refine lv_iload_n hx hb dX9_matched_24 rfl (lv_at hl 1 rfl) ?_
    obtain ⟨r2, hc3, hf⟩ := ob_some hf
    refine af_iR (va_runV (As := [.int x1]) (rest := []) ⟨hx, hb, hml, hown, hts⟩ (k_X7_has l G cI cJ (t_h := t_firstEdges_h) (t_cells_h := t_firstEdges_cells_h) (t_width := t_firstEdges_width) (t_most := t_firstEdges_most) (t_lines := t_firstEdges_lines) (x1 := x1) (sz := _) (hf := hc3)) (cwV 1 hts gX9_matched_X7_has rfl rfl rfl (by decide +kernel) ⟨Nat.le_of_ble_eq_true rfl, Nat.le_of_ble_eq_true rfl⟩) (preV0 (ci := 7) (q0 := 0) (C := RX7) (wc := [(t_firstEdges_h, .inr (7, [.int t_firstEdges_width, .int t_firstEdges_most, .ref t_firstEdges_cells_h, .int t_firstEdges_lines]))]) hK hP hD hN [2] rfl rfl (by decide) rfl rfl) rfl rfl hl.1 rfl (lv_room (Nat.le_of_ble_eq_true rfl)) dX9_matched_25 ⟨Nat.zero_le _, Nat.zero_le _⟩) hP hD hS hA [2] rfl (fun H locs hP hS => ?_)
    refine lv_if_ne (tgt := 34) hx hb dX9_matched_28 (by decide) (fun c4 => ?_) (fun c4 => ?_)
    · have hf := iff_ hf c4
      refine lv_aload_n hx hb dX9_matched_34 rfl (lv_at hl 0 rfl) ?_
      refine va_get (D := G) (ci := 9) (v := .ref t_matching_h) (C := RX9) (T := TX9) (N := 17) hx hb hts iwX9 hown hK hP 0 rfl rfl 11 (by decide) fl_61 (fun _ h9 => h9) rfl dX9_matched_35 ?_
      refine lv_aload_n hx hb dX9_matched_38 rfl (lv_at hl 0 rfl) ?_
      refine va_get (D := G) (ci := 9) (v := .ref t_matching_h) (C := RX9) (T := TX9) (N := 17) hx hb hts iwX9 hown hK hP 0 rfl rfl 11 (by decide) fl_61 (fun _ h9 => h9) rfl dX9_matched_39 ?_
      obtain ⟨r5, w6, w7, hc8, hf⟩ := ob3_some hf
      refine af_lW (wr := [(t_h, .inr (9, [.ref t_fraction_h, .ref t_settings_h, .ref t_firstEdges_h, .ref t_secondEdges_h, .ref t_layers_h, .ref t_sights_h, .ref t_shadows_h, .ref t_heights_h, .ref t_pairs_h, .ref t_rows_h, .ref t_notes_h, .ref t_matching_h, .ref t_speeds_h, .ref t_layering_h, .ref t_boards_h, .ref t_years_h, .ref t_sheets_h]))]) (ws2 := [(t_h, .inr (9, [.ref t_fraction_h, .ref t_settings_h, .ref t_firstEdges_h, .ref t_secondEdges_h, .ref t_layers_h, .ref t_sights_h, .ref t_shadows_h, .ref t_heights_h, .ref t_pairs_h, .ref t_rows_h, .ref t_notes_h, .ref t_matching_h, .ref t_speeds_h, .ref t_layering_h, .ref t_boards_h, .ref t_years_h, .ref t_sheets_h])), (t_settings_h, .inr (4, [.int t_settings_base, .int t_settings_slip, .int t_settings_low, .int t_settings_high, .int t_settings_unlike, .int t_settings_alone])), (t_firstEdges_h, .inr (7, [.int t_firstEdges_width, .int t_firstEdges_most, .ref t_firstEdges_cells_h, .int t_firstEdges_lines])), (t_secondEdges_h, .inr (7, [.int t_secondEdges_width, .int t_secondEdges_most, .ref t_secondEdges_cells_h, .int t_secondEdges_lines])), (t_layers_h, .inr (7, [.int t_layers_width, .int t_layers_most, .ref t_layers_cells_h, .int t_layers_lines])), (t_matching_h, .inr (3, [.ref t_settings_h, .ref t_firstEdges_h, .ref t_secondEdges_h, .ref t_layers_h, .ref t_matching_costs_h, .ref t_matching_keys_h])), (t_firstEdges_cells_h, .inl (cI, t_firstEdges_cells_n, .inl t_firstEdges_cells_a)), (t_secondEdges_cells_h, .inl (cI, t_secondEdges_cells_n, .inl t_secondEdges_cells_a)), (t_layers_cells_h, .inl (cI, t_layers_cells_n, .inl t_layers_cells_a)), (t_matching_costs_h, .inl (cI, 8, .inl w6)), (t_matching_keys_h, .inl (cJ, 256, .inr (.inl w7)))]) (va_runV (As := []) (rest := [.ref t_matching_h]) ⟨hx, hb, hml, hown, hts⟩ (k_X3_bestKey l G cI cJ (t_h := t_matching_h) (t_settings_h := t_settings_h) (t_first_h := t_firstEdges_h) (t_second_h := t_secondEdges_h) (t_layers_h := t_layers_h) (t_costs_h := t_matching_costs_h) (t_keys_h := t_matching_keys_h) (t_first_cells_h := t_firstEdges_cells_h) (t_second_cells_h := t_secondEdges_cells_h) (t_layers_cells_h := t_layers_cells_h) (t_settings_base := t_settings_base) (t_settings_slip := t_settings_slip) (t_settings_low := t_settings_low) (t_settings_high := t_settings_high) (t_settings_unlike := t_settings_unlike) (t_settings_alone := t_settings_alone) (t_first_width := t_firstEdges_width) (t_first_most := t_firstEdges_most) (t_first_lines := t_firstEdges_lines) (t_second_width := t_secondEdges_width) (t_second_most := t_secondEdges_most) (t_second_lines := t_secondEdges_lines) (t_layers_width := t_layers_width) (t_layers_most := t_layers_most) (t_layers_lines := t_layers_lines) (t_costs_a := t_matching_costs_a) (t_keys_a := t_matching_keys_a) (t_first_cells_n := t_firstEdges_cells_n) (t_first_cells_a := t_firstEdges_cells_a) (t_second_cells_n := t_secondEdges_cells_n) (t_second_cells_a := t_secondEdges_cells_a) (t_layers_cells_n := t_layers_cells_n) (t_layers_cells_a := t_layers_cells_a) (sz := _) (hf := hc8)) (cwV 0 hts gX9_matched_X3_bestKey rfl rfl rfl (by decide +kernel) ⟨Nat.le_of_ble_eq_true rfl, Nat.le_of_ble_eq_true rfl⟩) (preV0 (ci := 3) (q0 := 0) (C := RX3) (wc := [(t_matching_h, .inr (3, [.ref t_settings_h, .ref t_firstEdges_h, .ref t_secondEdges_h, .ref t_layers_h, .ref t_matching_costs_h, .ref t_matching_keys_h])), (t_settings_h, .inr (4, [.int t_settings_base, .int t_settings_slip, .int t_settings_low, .int t_settings_high, .int t_settings_unlike, .int t_settings_alone])), (t_firstEdges_h, .inr (7, [.int t_firstEdges_width, .int t_firstEdges_most, .ref t_firstEdges_cells_h, .int t_firstEdges_lines])), (t_secondEdges_h, .inr (7, [.int t_secondEdges_width, .int t_secondEdges_most, .ref t_secondEdges_cells_h, .int t_secondEdges_lines])), (t_layers_h, .inr (7, [.int t_layers_width, .int t_layers_most, .ref t_layers_cells_h, .int t_layers_lines])), (t_matching_costs_h, .inl (cI, 8, .inl t_matching_costs_a)), (t_matching_keys_h, .inl (cJ, 256, .inr (.inl t_matching_keys_a))), (t_firstEdges_cells_h, .inl (cI, t_firstEdges_cells_n, .inl t_firstEdges_cells_a)), (t_secondEdges_cells_h, .inl (cI, t_secondEdges_cells_n, .inl t_secondEdges_cells_a)), (t_layers_cells_h, .inl (cI, t_layers_cells_n, .inl t_layers_cells_a))]) hK hP hD hN [5, 1, 2, 3, 4, 9, 10, 6, 7, 8] rfl rfl (by decide) rfl rfl) rfl rfl hl.1 rfl (lv_room (Nat.le_of_ble_eq_true rfl)) dX9_matched_42 ⟨Nat.zero_le _, Nat.zero_le _⟩) hP hD hS hA [5, 1, 2, 3, 4, 9, 10, 6, 7, 8] [0] [0, 2, 3, 4, 5, 1, 8, 9, 10, 6, 7] rfl rfl (by decide) (by decide) rfl rfl (by decide) (fun H locs hP hD hS => ?_)
      refine lv_iload_n hx hb dX9_matched_45 rfl (lv_at hl 1 rfl) ?_
      obtain ⟨r9, hc10, hf⟩ := ob_some hf
      refine af_iR (va_runV (As := [.long r5, .int x1]) (rest := []) ⟨hx, hb, hml, hown, hts⟩ (k_X3_partnerOf l G cI cJ (t_h := t_matching_h) (t_settings_h := t_settings_h) (t_first_h := t_firstEdges_h) (t_second_h := t_secondEdges_h) (t_layers_h := t_layers_h) (t_costs_h := t_matching_costs_h) (t_keys_h := t_matching_keys_h) (x1 := r5) (x3 := x1) (sz := _) (hf := hc10)) (cwV 2 hts gX9_matched_X3_partnerOf rfl rfl rfl (by decide +kernel) ⟨Nat.le_of_ble_eq_true rfl, Nat.le_of_ble_eq_true rfl⟩) (preV0 (ci := 3) (q0 := 0) (C := RX3) (wc := [(t_matching_h, .inr (3, [.ref t_settings_h, .ref t_firstEdges_h, .ref t_secondEdges_h, .ref t_layers_h, .ref t_matching_costs_h, .ref t_matching_keys_h]))]) hK hP hD hN [5] rfl rfl (by decide) rfl rfl) rfl rfl hl.1 rfl (lv_room (Nat.le_of_ble_eq_true rfl)) dX9_matched_46 ⟨Nat.zero_le _, Nat.zero_le _⟩) hP hD hS hA [5] rfl (fun H locs hP hS => ?_)
      exact hret r9 w6 w7 49 _ _ _ dX9_matched_49 hf hP hD hS
    · have hf := ift hf c4
      refine lv_bipush (v := (-10)) hx hb dX9_matched_31 (by decide) ?_
      exact hret (-10) t_matching_costs_a t_matching_keys_a 33 _ _ _ dX9_matched_33 hf hP hD hS
  · have hf := ift hf c1
    refine lv_aload_n hx hb dX9_matched_5 rfl (lv_at hl 0 rfl) ?_
    refine va_get (D := G) (ci := 9) (v := .ref t_matching_h) (C := RX9) (T := TX9) (N := 17) hx hb hts iwX9 hown hK hP 0 rfl rfl 11 (by decide) fl_61 (fun _ h9 => h9) rfl dX9_matched_6 ?_
    refine lv_aload_n hx hb dX9_matched_9 rfl (lv_at hl 0 rfl) ?_
    refine va_get (D := G) (ci := 9) (v := .ref t_matching_h) (C := RX9) (T := TX9) (N := 17) hx hb hts iwX9 hown hK hP 0 rfl rfl 11 (by decide) fl_61 (fun _ h9 => h9) rfl dX9_matched_10 ?_
    obtain ⟨r11, w12, w13, hc14, hf⟩ := ob3_some hf
    refine af_lW (wr := [(t_h, .inr (9, [.ref t_fraction_h, .ref t_settings_h, .ref t_firstEdges_h, .ref t_secondEdges_h, .ref t_layers_h, .ref t_sights_h, .ref t_shadows_h, .ref t_heights_h, .ref t_pairs_h, .ref t_rows_h, .ref t_notes_h, .ref t_matching_h, .ref t_speeds_h, .ref t_layering_h, .ref t_boards_h, .ref t_years_h, .ref t_sheets_h]))]) (ws2 := [(t_h, .inr (9, [.ref t_fraction_h, .ref t_settings_h, .ref t_firstEdges_h, .ref t_secondEdges_h, .ref t_layers_h, .ref t_sights_h, .ref t_shadows_h, .ref t_heights_h, .ref t_pairs_h, .ref t_rows_h, .ref t_notes_h, .ref t_matching_h, .ref t_speeds_h, .ref t_layering_h, .ref t_boards_h, .ref t_years_h, .ref t_sheets_h])), (t_settings_h, .inr (4, [.int t_settings_base, .int t_settings_slip, .int t_settings_low, .int t_settings_high, .int t_settings_unlike, .int t_settings_alone])), (t_firstEdges_h, .inr (7, [.int t_firstEdges_width, .int t_firstEdges_most, .ref t_firstEdges_cells_h, .int t_firstEdges_lines])), (t_secondEdges_h, .inr (7, [.int t_secondEdges_width, .int t_secondEdges_most, .ref t_secondEdges_cells_h, .int t_secondEdges_lines])), (t_layers_h, .inr (7, [.int t_layers_width, .int t_layers_most, .ref t_layers_cells_h, .int t_layers_lines])), (t_matching_h, .inr (3, [.ref t_settings_h, .ref t_firstEdges_h, .ref t_secondEdges_h, .ref t_layers_h, .ref t_matching_costs_h, .ref t_matching_keys_h])), (t_firstEdges_cells_h, .inl (cI, t_firstEdges_cells_n, .inl t_firstEdges_cells_a)), (t_secondEdges_cells_h, .inl (cI, t_secondEdges_cells_n, .inl t_secondEdges_cells_a)), (t_layers_cells_h, .inl (cI, t_layers_cells_n, .inl t_layers_cells_a)), (t_matching_costs_h, .inl (cI, 8, .inl w12)), (t_matching_keys_h, .inl (cJ, 256, .inr (.inl w13)))]) (va_runV (As := []) (rest := [.ref t_matching_h]) ⟨hx, hb, hml, hown, hts⟩ (k_X3_bestKey l G cI cJ (t_h := t_matching_h) (t_settings_h := t_settings_h) (t_first_h := t_firstEdges_h) (t_second_h := t_secondEdges_h) (t_layers_h := t_layers_h) (t_costs_h := t_matching_costs_h) (t_keys_h := t_matching_keys_h) (t_first_cells_h := t_firstEdges_cells_h) (t_second_cells_h := t_secondEdges_cells_h) (t_layers_cells_h := t_layers_cells_h) (t_settings_base := t_settings_base) (t_settings_slip := t_settings_slip) (t_settings_low := t_settings_low) (t_settings_high := t_settings_high) (t_settings_unlike := t_settings_unlike) (t_settings_alone := t_settings_alone) (t_first_width := t_firstEdges_width) (t_first_most := t_firstEdges_most) (t_first_lines := t_firstEdges_lines) (t_second_width := t_secondEdges_width) (t_second_most := t_secondEdges_most) (t_second_lines := t_secondEdges_lines) (t_layers_width := t_layers_width) (t_layers_most := t_layers_most) (t_layers_lines := t_layers_lines) (t_costs_a := t_matching_costs_a) (t_keys_a := t_matching_keys_a) (t_first_cells_n := t_firstEdges_cells_n) (t_first_cells_a := t_firstEdges_cells_a) (t_second_cells_n := t_secondEdges_cells_n) (t_second_cells_a := t_secondEdges_cells_a) (t_layers_cells_n := t_layers_cells_n) (t_layers_cells_a := t_layers_cells_a) (sz := _) (hf := hc14)) (cwV 0 hts gX9_matched_X3_bestKey rfl rfl rfl (by decide +kernel) ⟨Nat.le_of_ble_eq_true rfl, Nat.le_of_ble_eq_true rfl⟩) (preV0 (ci := 3) (q0 := 0) (C := RX3) (wc := [(t_matching_h, .inr (3, [.ref t_settings_h, .ref t_firstEdges_h, .ref t_secondEdges_h, .ref t_layers_h, .ref t_matching_costs_h, .ref t_matching_keys_h])), (t_settings_h, .inr (4, [.int t_settings_base, .int t_settings_slip, .int t_settings_low, .int t_settings_high, .int t_settings_unlike, .int t_settings_alone])), (t_firstEdges_h, .inr (7, [.int t_firstEdges_width, .int t_firstEdges_most, .ref t_firstEdges_cells_h, .int t_firstEdges_lines])), (t_secondEdges_h, .inr (7, [.int t_secondEdges_width, .int t_secondEdges_most, .ref t_secondEdges_cells_h, .int t_secondEdges_lines])), (t_layers_h, .inr (7, [.int t_layers_width, .int t_layers_most, .ref t_layers_cells_h, .int t_layers_lines])), (t_matching_costs_h, .inl (cI, 8, .inl t_matching_costs_a)), (t_matching_keys_h, .inl (cJ, 256, .inr (.inl t_matching_keys_a))), (t_firstEdges_cells_h, .inl (cI, t_firstEdges_cells_n, .inl t_firstEdges_cells_a)), (t_secondEdges_cells_h, .inl (cI, t_secondEdges_cells_n, .inl t_secondEdges_cells_a)), (t_layers_cells_h, .inl (cI, t_layers_cells_n, .inl t_layers_cells_a))]) hK hP hD hN [5, 1, 2, 3, 4, 9, 10, 6, 7, 8] rfl rfl (by decide) rfl rfl) rfl rfl hl.1 rfl (lv_room (Nat.le_of_ble_eq_true rfl)) dX9_matched_13 ⟨Nat.zero_le _, Nat.zero_le _⟩) hP hD hS hA [5, 1, 2, 3, 4, 9, 10, 6, 7, 8] [0] [0, 2, 3, 4, 5, 1, 8, 9, 10, 6, 7] rfl rfl (by decide) (by decide) rfl rfl (by decide) (fun H locs hP hD hS => ?_)
    obtain ⟨r15, hc16, hf⟩ := ob_some hf
    refine af_iR (va_runV (As := [.long r11]) (rest := []) ⟨hx, hb, hml, hown, hts⟩ (k_X3_sumOf l G cI cJ (t_h := t_matching_h) (t_settings_h := t_settings_h) (t_first_h := t_firstEdges_h) (t_second_h := t_secondEdges_h) (t_layers_h := t_layers_h) (t_costs_h := t_matching_costs_h) (t_keys_h := t_matching_keys_h) (x1 := r11) (sz := _) (hf := hc16)) (cwV 1 hts gX9_matched_X3_sumOf rfl rfl rfl (by decide +kernel) ⟨Nat.le_of_ble_eq_true rfl, Nat.le_of_ble_eq_true rfl⟩) (preV0 (ci := 3) (q0 := 0) (C := RX3) (wc := [(t_matching_h, .inr (3, [.ref t_settings_h, .ref t_firstEdges_h, .ref t_secondEdges_h, .ref t_layers_h, .ref t_matching_costs_h, .ref t_matching_keys_h]))]) hK hP hD hN [5] rfl rfl (by decide) rfl rfl) rfl rfl hl.1 rfl (lv_room (Nat.le_of_ble_eq_true rfl)) dX9_matched_16 ⟨Nat.zero_le _, Nat.zero_le _⟩) hP hD hS hA [5] rfl (fun H locs hP hS => ?_)
    exact hret r15 w12 w13 19 _ _ _ dX9_matched_19 hf hP hD hS
set_option maxRecDepth 20000 in
theorem ggX9_sight_X9_isPuffAndMinute : GoodIn wsX9_sight wsX9_isPuffAndMinute := goodIn_r _ [5, 6, 7, 4, 8] (by decide +kernel) (by decide +kernel)
set_option maxRecDepth 20000 in
theorem gX9_sight_X9_isPuffAndMinute : GoodIn wsX9_sight (va_wsS RX9 179 yX9_isPuffAndMinute wsX9_isPuffAndMinute) := goodIn_app (goodIn_of _ (by decide +kernel)) ggX9_sight_X9_isPuffAndMinute
set_option maxRecDepth 20000 in
theorem ggX9_sight_X9_isLean : GoodIn wsX9_sight wsX9_isLean := goodIn_r _ [11, 6, 7, 4, 8] (by decide +kernel) (by decide +kernel)
set_option maxRecDepth 20000 in
theorem gX9_sight_X9_isLean : GoodIn wsX9_sight (va_wsS RX9 116 yX9_isLean wsX9_isLean) := goodIn_app (goodIn_of _ (by decide +kernel)) ggX9_sight_X9_isLean
set_option maxRecDepth 20000 in
theorem ggX9_sight_X7_addNumbered : GoodIn wsX9_sight wsX7_addNumbered := goodIn_r _ [16, 17, 18, 19, 15, 20, 21, 22, 23, 24, 25, 26, 27, 28, 46, 47, 48, 49] (by decide +kernel) (by decide +kernel)
set_option maxRecDepth 20000 in
theorem gX9_sight_X7_addNumbered : GoodIn wsX9_sight (wsV RX9 183 RX7 yX7_addNumbered wsX7_addNumbered) := goodIn_app (goodIn_of _ (by decide +kernel)) ggX9_sight_X7_addNumbered
theorem dX9_sight_0 : decode cX9_sight 0 = .ok (.iload_n 1, 1) := by decide +kernel
theorem dX9_sight_1 : decode cX9_sight 1 = .ok (.iload_n 2, 1) := by decide +kernel
theorem dX9_sight_2 : decode cX9_sight 2 = .ok (.invokestatic 179, 3) := by decide +kernel
theorem dX9_sight_5 : decode cX9_sight 5 = .ok (.ifCond .eq 18, 3) := by decide +kernel
theorem dX9_sight_8 : decode cX9_sight 8 = .ok (.iload_n 3, 1) := by decide +kernel
theorem dX9_sight_9 : decode cX9_sight 9 = .ok (.invokestatic 116, 3) := by decide +kernel
theorem dX9_sight_12 : decode cX9_sight 12 = .ok (.ifCond .eq 11, 3) := by decide +kernel
theorem dX9_sight_15 : decode cX9_sight 15 = .ok (.iload 4, 2) := by decide +kernel
theorem dX9_sight_17 : decode cX9_sight 17 = .ok (.invokestatic 116, 3) := by decide +kernel
theorem dX9_sight_20 : decode cX9_sight 20 = .ok (.ifCond .ne 6, 3) := by decide +kernel
theorem dX9_sight_23 : decode cX9_sight 23 = .ok (.bipush (-2), 2) := by decide +kernel
theorem dX9_sight_25 : decode cX9_sight 25 = .ok (.ireturn, 1) := by decide +kernel
theorem dX9_sight_26 : decode cX9_sight 26 = .ok (.aload_n 0, 1) := by decide +kernel
theorem dX9_sight_27 : decode cX9_sight 27 = .ok (.getfield 38, 3) := by decide +kernel
theorem dX9_sight_30 : decode cX9_sight 30 = .ok (.iload_n 1, 1) := by decide +kernel
theorem dX9_sight_31 : decode cX9_sight 31 = .ok (.iload_n 2, 1) := by decide +kernel
theorem dX9_sight_32 : decode cX9_sight 32 = .ok (.iload_n 3, 1) := by decide +kernel
theorem dX9_sight_33 : decode cX9_sight 33 = .ok (.iload 4, 2) := by decide +kernel
theorem dX9_sight_35 : decode cX9_sight 35 = .ok (.invokevirtual 183, 3) := by decide +kernel
theorem dX9_sight_38 : decode cX9_sight 38 = .ok (.ireturn, 1) := by decide +kernel
set_option maxRecDepth 100000 in
def fX9_sight (x1 : Int32) (x2 : Int32) (x3 : Int32) (x4 : Int32) (t_sights_width : Int32) (t_sights_most : Int32) (t_sights_lines : Int32) (t_sights_cells_n : Nat) (t_sights_cells_a : Nat → Int32) : Option (Int32 × Int32 × (Nat → Int32)) :=
  ob (fX9_isPuffAndMinute x1 x2) fun r1 =>
  if (b2i r1) = 0 then
    some ((-2), t_sights_lines, t_sights_cells_a)
  else
    ob (fX9_isLean x3) fun r4 =>
    if (b2i r4) = 0 then
      some ((-2), t_sights_lines, t_sights_cells_a)
    else
      ob (fX9_isLean x4) fun r7 =>
      if (b2i r7) = 0 then
        some ((-2), t_sights_lines, t_sights_cells_a)
      else
        ob3 (fX7_addNumbered x1 x2 x3 x4 t_sights_width t_sights_most t_sights_lines t_sights_cells_n t_sights_cells_a) fun r10 w11 w12 =>
        some (r10, w11, w12)
abbrev rmX9_sight : Room := { frames := 3, cells := 0, slots := 0, locals := 72 }
theorem iwX9_sight_X9 : ∀ w ∈ u_ws RX9 TX9 17, w ∈ wsX9_sight := by decide +kernel
set_option maxHeartbeats 4000000 in
set_option maxRecDepth 100000 in
theorem k_X9_sight (l : Launch) (G : va_G) (cI cJ : ClassId) (t_h t_fraction_h t_settings_h t_firstEdges_h t_secondEdges_h t_layers_h t_sights_h t_shadows_h t_heights_h t_pairs_h t_rows_h t_notes_h t_matching_h t_speeds_h t_layering_h t_boards_h t_years_h t_sheets_h t_sights_cells_h : Nat) (sz : Nat) (t_sights_width : Int32) (t_sights_most : Int32) (t_sights_lines : Int32) (t_sights_cells_n : Nat) (t_sights_cells_a : Nat → Int32) (x1 : Int32) (x2 : Int32) (x3 : Int32) (x4 : Int32) {o_r : Int32} {o_t_sights_lines : Int32} {o_t_sights_cells_a : Nat → Int32} (hf : fX9_sight x1 x2 x3 x4 t_sights_width t_sights_most t_sights_lines t_sights_cells_n t_sights_cells_a = some (o_r, o_t_sights_lines, o_t_sights_cells_a)) : MetI l yX9_sight wsX9_sight rmX9_sight [.ref t_h, .int x1, .int x2, .int x3, .int x4] G cI cJ [(t_h, .inr (9, [.ref t_fraction_h, .ref t_settings_h, .ref t_firstEdges_h, .ref t_secondEdges_h, .ref t_layers_h, .ref t_sights_h, .ref t_shadows_h, .ref t_heights_h, .ref t_pairs_h, .ref t_rows_h, .ref t_notes_h, .ref t_matching_h, .ref t_speeds_h, .ref t_layering_h, .ref t_boards_h, .ref t_years_h, .ref t_sheets_h])), (t_sights_h, .inr (7, [.int t_sights_width, .int t_sights_most, .ref t_sights_cells_h, .int t_sights_lines])), (t_sights_cells_h, .inl (cI, t_sights_cells_n, .inl t_sights_cells_a))] [(t_h, .inr (9, [.ref t_fraction_h, .ref t_settings_h, .ref t_firstEdges_h, .ref t_secondEdges_h, .ref t_layers_h, .ref t_sights_h, .ref t_shadows_h, .ref t_heights_h, .ref t_pairs_h, .ref t_rows_h, .ref t_notes_h, .ref t_matching_h, .ref t_speeds_h, .ref t_layering_h, .ref t_boards_h, .ref t_years_h, .ref t_sheets_h])), (t_sights_h, .inr (7, [.int t_sights_width, .int t_sights_most, .ref t_sights_cells_h, .int o_t_sights_lines])), (t_sights_cells_h, .inl (cI, t_sights_cells_n, .inl o_t_sights_cells_a))] sz o_r := by
  refine en_0 (l := l) (y := yX9_sight) (wsl := wsX9_sight) (rm := rmX9_sight) (av := [.ref t_h, .int x1, .int x2, .int x3, .int x4]) (G := G) (cI := cI) (cJ := cJ) (w0 := [(t_h, .inr (9, [.ref t_fraction_h, .ref t_settings_h, .ref t_firstEdges_h, .ref t_secondEdges_h, .ref t_layers_h, .ref t_sights_h, .ref t_shadows_h, .ref t_heights_h, .ref t_pairs_h, .ref t_rows_h, .ref t_notes_h, .ref t_matching_h, .ref t_speeds_h, .ref t_layering_h, .ref t_boards_h, .ref t_years_h, .ref t_sheets_h])), (t_sights_h, .inr (7, [.int t_sights_width, .int t_sights_most, .ref t_sights_cells_h, .int t_sights_lines])), (t_sights_cells_h, .inl (cI, t_sights_cells_n, .inl t_sights_cells_a))]) (sz := sz) (Qf := fun A => Qi0 G cI cJ [(t_h, .inr (9, [.ref t_fraction_h, .ref t_settings_h, .ref t_firstEdges_h, .ref t_secondEdges_h, .ref t_layers_h, .ref t_sights_h, .ref t_shadows_h, .ref t_heights_h, .ref t_pairs_h, .ref t_rows_h, .ref t_notes_h, .ref t_matching_h, .ref t_speeds_h, .ref t_layering_h, .ref t_boards_h, .ref t_years_h, .ref t_sheets_h])), (t_sights_h, .inr (7, [.int t_sights_width, .int t_sights_most, .ref t_sights_cells_h, .int o_t_sights_lines])), (t_sights_cells_h, .inl (cI, t_sights_cells_n, .inl o_t_sights_cells_a))] o_r A) (cc := cX9_sight) (maxL := 5) (ret := (some .int)) RX9 (by decide +kernel) rfl rfl (Nat.le_of_ble_eq_true rfl) ?_
  intro p e s m args below meth c A ls Q hQ hx hb hr hts hown hlocks hml hN hK hP hD hS hA hl
  have hl : lv_has ls 5 [(0, .ref t_h), (1, .int x1), (2, .int x2), (3, .int x3), (4, .int x4)] := hl
  have iwX9 := iwX9_sight_X9
  have fl_38 := hts (.fieldLink RX9 38 "CloudOffice" "sights" "LCloudOffice$Table;") (by decide +kernel)
  have hret : ∀ (o_r9 : Int32) (o_t_sights_lines9 : Int32) (o_t_sights_cells_a9 : Nat → Int32) (pc : Nat) (H : Heap) (locs : List Loc) (ls : Array Slot), decode cX9_sight pc = .ok (.ireturn, 1) → some (o_r9, o_t_sights_lines9, o_t_sights_cells_a9) = some (o_r, o_t_sights_lines, o_t_sights_cells_a) → va_P G vwCl [(t_h, .inr (9, [.ref t_fraction_h, .ref t_settings_h, .ref t_firstEdges_h, .ref t_secondEdges_h, .ref t_layers_h, .ref t_sights_h, .ref t_shadows_h, .ref t_heights_h, .ref t_pairs_h, .ref t_rows_h, .ref t_notes_h, .ref t_matching_h, .ref t_speeds_h, .ref t_layering_h, .ref t_boards_h, .ref t_years_h, .ref t_sheets_h])), (t_sights_h, .inr (7, [.int t_sights_width, .int t_sights_most, .ref t_sights_cells_h, .int o_t_sights_lines9])), (t_sights_cells_h, .inl (cI, t_sights_cells_n, .inl o_t_sights_cells_a9))] H → va_D A [(t_h, .inr (9, [.ref t_fraction_h, .ref t_settings_h, .ref t_firstEdges_h, .ref t_secondEdges_h, .ref t_layers_h, .ref t_sights_h, .ref t_shadows_h, .ref t_heights_h, .ref t_pairs_h, .ref t_rows_h, .ref t_notes_h, .ref t_matching_h, .ref t_speeds_h, .ref t_layering_h, .ref t_boards_h, .ref t_years_h, .ref t_sheets_h])), (t_sights_h, .inr (7, [.int t_sights_width, .int t_sights_most, .ref t_sights_cells_h, .int o_t_sights_lines9])), (t_sights_cells_h, .inl (cI, t_sights_cells_n, .inl o_t_sights_cells_a9))] → va_S A s.heap H locs → W p l e rmX9_sight s m args below meth c H locs 0 0 Q (F0 m pc ls [.int o_r9]) := by
    intro o_r9 o_t_sights_lines9 o_t_sights_cells_a9 pc H locs ls hdg he hP hD hS
    cases he
    subst hQ
    exact rt_i hx hb hr hlocks hK hP hD hS rfl hdg
  clear hQ
  unfold fX9_sight at hf
  refine lv_iload_n hx hb dX9_sight_0 rfl (lv_at hl 1 rfl) ?_
  refine lv_iload_n hx hb dX9_sight_1 rfl (lv_at hl 2 rfl) ?_
  obtain ⟨r1, hc2, hf⟩ := ob_some hf
  refine af_iR (va_runS (As := [.int x1, .int x2]) (rest := []) ⟨hx, hb, hml, hown, hts⟩ (k_X9_isPuffAndMinute l G cI cJ (x0 := x1) (x1 := x2) (sz := _) (hf := hc2)) (va_cwS 2 hts gX9_sight_X9_isPuffAndMinute rfl rfl rfl (by decide +kernel) ⟨Nat.le_of_ble_eq_true rfl, Nat.le_of_ble_eq_true rfl⟩) (preS0 (wc := []) hK hP hD hN [] rfl rfl (by decide)) rfl rfl hl.1 rfl (lv_room (Nat.le_of_ble_eq_true rfl)) dX9_sight_2 ⟨Nat.zero_le _, Nat.zero_le _⟩) hP hD hS hA [] rfl (fun H locs hP hS => ?_)
  refine lv_if_eq (tgt := 23) hx hb dX9_sight_5 (by decide) (fun c3 => ?_) (fun c3 => ?_)
  · have hf := ift hf c3
    refine lv_bipush (v := (-2)) hx hb dX9_sight_23 (by decide) ?_
    exact hret (-2) t_sights_lines t_sights_cells_a 25 _ _ _ dX9_sight_25 hf hP hD hS
  · have hf := iff_ hf c3
    refine lv_iload_n hx hb dX9_sight_8 rfl (lv_at hl 3 rfl) ?_
    obtain ⟨r4, hc5, hf⟩ := ob_some hf
    refine af_iR (va_runS (As := [.int x3]) (rest := []) ⟨hx, hb, hml, hown, hts⟩ (k_X9_isLean l G cI cJ (x0 := x3) (sz := _) (hf := hc5)) (va_cwS 1 hts gX9_sight_X9_isLean rfl rfl rfl (by decide +kernel) ⟨Nat.le_of_ble_eq_true rfl, Nat.le_of_ble_eq_true rfl⟩) (preS0 (wc := []) hK hP hD hN [] rfl rfl (by decide)) rfl rfl hl.1 rfl (lv_room (Nat.le_of_ble_eq_true rfl)) dX9_sight_9 ⟨Nat.zero_le _, Nat.zero_le _⟩) hP hD hS hA [] rfl (fun H locs hP hS => ?_)
    refine lv_if_eq (tgt := 23) hx hb dX9_sight_12 (by decide) (fun c6 => ?_) (fun c6 => ?_)
    · have hf := ift hf c6
      refine lv_bipush (v := (-2)) hx hb dX9_sight_23 (by decide) ?_
      exact hret (-2) t_sights_lines t_sights_cells_a 25 _ _ _ dX9_sight_25 hf hP hD hS
    · have hf := iff_ hf c6
      refine lv_iload hx hb dX9_sight_15 (lv_at hl 4 rfl) ?_
      obtain ⟨r7, hc8, hf⟩ := ob_some hf
      refine af_iR (va_runS (As := [.int x4]) (rest := []) ⟨hx, hb, hml, hown, hts⟩ (k_X9_isLean l G cI cJ (x0 := x4) (sz := _) (hf := hc8)) (va_cwS 1 hts gX9_sight_X9_isLean rfl rfl rfl (by decide +kernel) ⟨Nat.le_of_ble_eq_true rfl, Nat.le_of_ble_eq_true rfl⟩) (preS0 (wc := []) hK hP hD hN [] rfl rfl (by decide)) rfl rfl hl.1 rfl (lv_room (Nat.le_of_ble_eq_true rfl)) dX9_sight_17 ⟨Nat.zero_le _, Nat.zero_le _⟩) hP hD hS hA [] rfl (fun H locs hP hS => ?_)
      refine lv_if_ne (tgt := 26) hx hb dX9_sight_20 (by decide) (fun c9 => ?_) (fun c9 => ?_)
      · have hf := iff_ hf c9
        refine lv_aload_n hx hb dX9_sight_26 rfl (lv_at hl 0 rfl) ?_
        refine va_get (D := G) (ci := 9) (v := .ref t_sights_h) (C := RX9) (T := TX9) (N := 17) hx hb hts iwX9 hown hK hP 0 rfl rfl 5 (by decide) fl_38 (fun _ h9 => h9) rfl dX9_sight_27 ?_
        refine lv_iload_n hx hb dX9_sight_30 rfl (lv_at hl 1 rfl) ?_
        refine lv_iload_n hx hb dX9_sight_31 rfl (lv_at hl 2 rfl) ?_
        refine lv_iload_n hx hb dX9_sight_32 rfl (lv_at hl 3 rfl) ?_
        refine lv_iload hx hb dX9_sight_33 (lv_at hl 4 rfl) ?_
        obtain ⟨r10, w11, w12, hc13, hf⟩ := ob3_some hf
        refine af_iW (wr := [(t_h, .inr (9, [.ref t_fraction_h, .ref t_settings_h, .ref t_firstEdges_h, .ref t_secondEdges_h, .ref t_layers_h, .ref t_sights_h, .ref t_shadows_h, .ref t_heights_h, .ref t_pairs_h, .ref t_rows_h, .ref t_notes_h, .ref t_matching_h, .ref t_speeds_h, .ref t_layering_h, .ref t_boards_h, .ref t_years_h, .ref t_sheets_h]))]) (ws2 := [(t_h, .inr (9, [.ref t_fraction_h, .ref t_settings_h, .ref t_firstEdges_h, .ref t_secondEdges_h, .ref t_layers_h, .ref t_sights_h, .ref t_shadows_h, .ref t_heights_h, .ref t_pairs_h, .ref t_rows_h, .ref t_notes_h, .ref t_matching_h, .ref t_speeds_h, .ref t_layering_h, .ref t_boards_h, .ref t_years_h, .ref t_sheets_h])), (t_sights_h, .inr (7, [.int t_sights_width, .int t_sights_most, .ref t_sights_cells_h, .int w11])), (t_sights_cells_h, .inl (cI, t_sights_cells_n, .inl w12))]) (va_runV (As := [.int x1, .int x2, .int x3, .int x4]) (rest := []) ⟨hx, hb, hml, hown, hts⟩ (k_X7_addNumbered l G cI cJ (t_h := t_sights_h) (t_cells_h := t_sights_cells_h) (t_width := t_sights_width) (t_most := t_sights_most) (t_lines := t_sights_lines) (t_cells_n := t_sights_cells_n) (t_cells_a := t_sights_cells_a) (x1 := x1) (x2 := x2) (x3 := x3) (x4 := x4) (sz := _) (hf := hc13)) (cwV 4 hts gX9_sight_X7_addNumbered rfl rfl rfl (by decide +kernel) ⟨Nat.le_of_ble_eq_true rfl, Nat.le_of_ble_eq_true rfl⟩) (preV0 (ci := 7) (q0 := 0) (C := RX7) (wc := [(t_sights_h, .inr (7, [.int t_sights_width, .int t_sights_most, .ref t_sights_cells_h, .int t_sights_lines])), (t_sights_cells_h, .inl (cI, t_sights_cells_n, .inl t_sights_cells_a))]) hK hP hD hN [1, 2] rfl rfl (by decide) rfl rfl) rfl rfl hl.1 rfl (lv_room (Nat.le_of_ble_eq_true rfl)) dX9_sight_35 ⟨Nat.zero_le _, Nat.zero_le _⟩) hP hD hS hA [1, 2] [0] [0, 1, 2] rfl rfl (by decide) (by decide) rfl rfl (by decide) (fun H locs hP hD hS => ?_)
        exact hret r10 w11 w12 38 _ _ _ dX9_sight_38 hf hP hD hS
      · have hf := ift hf c9
        refine lv_bipush (v := (-2)) hx hb dX9_sight_23 (by decide) ?_
        exact hret (-2) t_sights_lines t_sights_cells_a 25 _ _ _ dX9_sight_25 hf hP hD hS
set_option maxRecDepth 20000 in
theorem ggX9_shadow_X9_isPuffAndMinute : GoodIn wsX9_shadow wsX9_isPuffAndMinute := goodIn_r _ [7, 8, 9, 6, 10] (by decide +kernel) (by decide +kernel)
set_option maxRecDepth 20000 in
theorem gX9_shadow_X9_isPuffAndMinute : GoodIn wsX9_shadow (va_wsS RX9 179 yX9_isPuffAndMinute wsX9_isPuffAndMinute) := goodIn_app (goodIn_of _ (by decide +kernel)) ggX9_shadow_X9_isPuffAndMinute
set_option maxRecDepth 20000 in
theorem ggX9_shadow_X9_isWithin : GoodIn wsX9_shadow wsX9_isWithin := goodIn_r _ [10] (by decide +kernel) (by decide +kernel)
set_option maxRecDepth 20000 in
theorem gX9_shadow_X9_isWithin : GoodIn wsX9_shadow (va_wsS RX9 105 yX9_isWithin wsX9_isWithin) := goodIn_app (goodIn_of _ (by decide +kernel)) ggX9_shadow_X9_isWithin
set_option maxRecDepth 20000 in
theorem ggX9_shadow_X7_addNumbered : GoodIn wsX9_shadow wsX7_addNumbered := goodIn_r _ [15, 16, 17, 18, 14, 19, 20, 21, 22, 23, 24, 25, 26, 27, 45, 46, 47, 48] (by decide +kernel) (by decide +kernel)
set_option maxRecDepth 20000 in
theorem gX9_shadow_X7_addNumbered : GoodIn wsX9_shadow (wsV RX9 183 RX7 yX7_addNumbered wsX7_addNumbered) := goodIn_app (goodIn_of _ (by decide +kernel)) ggX9_shadow_X7_addNumbered
theorem dX9_shadow_0 : decode cX9_shadow 0 = .ok (.iload_n 1, 1) := by decide +kernel
theorem dX9_shadow_1 : decode cX9_shadow 1 = .ok (.iload_n 2, 1) := by decide +kernel
theorem dX9_shadow_2 : decode cX9_shadow 2 = .ok (.invokestatic 179, 3) := by decide +kernel
theorem dX9_shadow_5 : decode cX9_shadow 5 = .ok (.ifCond .eq 26, 3) := by decide +kernel
theorem dX9_shadow_8 : decode cX9_shadow 8 = .ok (.iload_n 3, 1) := by decide +kernel
theorem dX9_shadow_9 : decode cX9_shadow 9 = .ok (.ldc 186, 2) := by decide +kernel
theorem dX9_shadow_11 : decode cX9_shadow 11 = .ok (.ldc 187, 2) := by decide +kernel
theorem dX9_shadow_13 : decode cX9_shadow 13 = .ok (.invokestatic 105, 3) := by decide +kernel
theorem dX9_shadow_16 : decode cX9_shadow 16 = .ok (.ifCond .eq 15, 3) := by decide +kernel
theorem dX9_shadow_19 : decode cX9_shadow 19 = .ok (.iload 4, 2) := by decide +kernel
theorem dX9_shadow_21 : decode cX9_shadow 21 = .ok (.iconst 0, 1) := by decide +kernel
theorem dX9_shadow_22 : decode cX9_shadow 22 = .ok (.sipush 10000, 3) := by decide +kernel
theorem dX9_shadow_25 : decode cX9_shadow 25 = .ok (.invokestatic 105, 3) := by decide +kernel
theorem dX9_shadow_28 : decode cX9_shadow 28 = .ok (.ifCond .ne 6, 3) := by decide +kernel
theorem dX9_shadow_31 : decode cX9_shadow 31 = .ok (.bipush (-2), 2) := by decide +kernel
theorem dX9_shadow_33 : decode cX9_shadow 33 = .ok (.ireturn, 1) := by decide +kernel
theorem dX9_shadow_34 : decode cX9_shadow 34 = .ok (.aload_n 0, 1) := by decide +kernel
theorem dX9_shadow_35 : decode cX9_shadow 35 = .ok (.getfield 41, 3) := by decide +kernel
theorem dX9_shadow_38 : decode cX9_shadow 38 = .ok (.iload_n 1, 1) := by decide +kernel
theorem dX9_shadow_39 : decode cX9_shadow 39 = .ok (.iload_n 2, 1) := by decide +kernel
theorem dX9_shadow_40 : decode cX9_shadow 40 = .ok (.iload_n 3, 1) := by decide +kernel
theorem dX9_shadow_41 : decode cX9_shadow 41 = .ok (.iload 4, 2) := by decide +kernel
theorem dX9_shadow_43 : decode cX9_shadow 43 = .ok (.invokevirtual 183, 3) := by decide +kernel
theorem dX9_shadow_46 : decode cX9_shadow 46 = .ok (.ireturn, 1) := by decide +kernel
set_option maxRecDepth 100000 in
def fX9_shadow (x1 : Int32) (x2 : Int32) (x3 : Int32) (x4 : Int32) (t_shadows_width : Int32) (t_shadows_most : Int32) (t_shadows_lines : Int32) (t_shadows_cells_n : Nat) (t_shadows_cells_a : Nat → Int32) : Option (Int32 × Int32 × (Nat → Int32)) :=
  ob (fX9_isPuffAndMinute x1 x2) fun r1 =>
  if (b2i r1) = 0 then
    some ((-2), t_shadows_lines, t_shadows_cells_a)
  else
    ob (fX9_isWithin x3 (-1000000) 1000000) fun r4 =>
    if (b2i r4) = 0 then
      some ((-2), t_shadows_lines, t_shadows_cells_a)
    else
      ob (fX9_isWithin x4 0 10000) fun r7 =>
      if (b2i r7) = 0 then
        some ((-2), t_shadows_lines, t_shadows_cells_a)
      else
        ob3 (fX7_addNumbered x1 x2 x3 x4 t_shadows_width t_shadows_most t_shadows_lines t_shadows_cells_n t_shadows_cells_a) fun r10 w11 w12 =>
        some (r10, w11, w12)
abbrev rmX9_shadow : Room := { frames := 3, cells := 0, slots := 0, locals := 72 }
theorem iwX9_shadow_X9 : ∀ w ∈ u_ws RX9 TX9 17, w ∈ wsX9_shadow := by decide +kernel
set_option maxHeartbeats 4000000 in
set_option maxRecDepth 100000 in
theorem k_X9_shadow (l : Launch) (G : va_G) (cI cJ : ClassId) (t_h t_fraction_h t_settings_h t_firstEdges_h t_secondEdges_h t_layers_h t_sights_h t_shadows_h t_heights_h t_pairs_h t_rows_h t_notes_h t_matching_h t_speeds_h t_layering_h t_boards_h t_years_h t_sheets_h t_shadows_cells_h : Nat) (sz : Nat) (t_shadows_width : Int32) (t_shadows_most : Int32) (t_shadows_lines : Int32) (t_shadows_cells_n : Nat) (t_shadows_cells_a : Nat → Int32) (x1 : Int32) (x2 : Int32) (x3 : Int32) (x4 : Int32) {o_r : Int32} {o_t_shadows_lines : Int32} {o_t_shadows_cells_a : Nat → Int32} (hf : fX9_shadow x1 x2 x3 x4 t_shadows_width t_shadows_most t_shadows_lines t_shadows_cells_n t_shadows_cells_a = some (o_r, o_t_shadows_lines, o_t_shadows_cells_a)) : MetI l yX9_shadow wsX9_shadow rmX9_shadow [.ref t_h, .int x1, .int x2, .int x3, .int x4] G cI cJ [(t_h, .inr (9, [.ref t_fraction_h, .ref t_settings_h, .ref t_firstEdges_h, .ref t_secondEdges_h, .ref t_layers_h, .ref t_sights_h, .ref t_shadows_h, .ref t_heights_h, .ref t_pairs_h, .ref t_rows_h, .ref t_notes_h, .ref t_matching_h, .ref t_speeds_h, .ref t_layering_h, .ref t_boards_h, .ref t_years_h, .ref t_sheets_h])), (t_shadows_h, .inr (7, [.int t_shadows_width, .int t_shadows_most, .ref t_shadows_cells_h, .int t_shadows_lines])), (t_shadows_cells_h, .inl (cI, t_shadows_cells_n, .inl t_shadows_cells_a))] [(t_h, .inr (9, [.ref t_fraction_h, .ref t_settings_h, .ref t_firstEdges_h, .ref t_secondEdges_h, .ref t_layers_h, .ref t_sights_h, .ref t_shadows_h, .ref t_heights_h, .ref t_pairs_h, .ref t_rows_h, .ref t_notes_h, .ref t_matching_h, .ref t_speeds_h, .ref t_layering_h, .ref t_boards_h, .ref t_years_h, .ref t_sheets_h])), (t_shadows_h, .inr (7, [.int t_shadows_width, .int t_shadows_most, .ref t_shadows_cells_h, .int o_t_shadows_lines])), (t_shadows_cells_h, .inl (cI, t_shadows_cells_n, .inl o_t_shadows_cells_a))] sz o_r := by
  refine en_0 (l := l) (y := yX9_shadow) (wsl := wsX9_shadow) (rm := rmX9_shadow) (av := [.ref t_h, .int x1, .int x2, .int x3, .int x4]) (G := G) (cI := cI) (cJ := cJ) (w0 := [(t_h, .inr (9, [.ref t_fraction_h, .ref t_settings_h, .ref t_firstEdges_h, .ref t_secondEdges_h, .ref t_layers_h, .ref t_sights_h, .ref t_shadows_h, .ref t_heights_h, .ref t_pairs_h, .ref t_rows_h, .ref t_notes_h, .ref t_matching_h, .ref t_speeds_h, .ref t_layering_h, .ref t_boards_h, .ref t_years_h, .ref t_sheets_h])), (t_shadows_h, .inr (7, [.int t_shadows_width, .int t_shadows_most, .ref t_shadows_cells_h, .int t_shadows_lines])), (t_shadows_cells_h, .inl (cI, t_shadows_cells_n, .inl t_shadows_cells_a))]) (sz := sz) (Qf := fun A => Qi0 G cI cJ [(t_h, .inr (9, [.ref t_fraction_h, .ref t_settings_h, .ref t_firstEdges_h, .ref t_secondEdges_h, .ref t_layers_h, .ref t_sights_h, .ref t_shadows_h, .ref t_heights_h, .ref t_pairs_h, .ref t_rows_h, .ref t_notes_h, .ref t_matching_h, .ref t_speeds_h, .ref t_layering_h, .ref t_boards_h, .ref t_years_h, .ref t_sheets_h])), (t_shadows_h, .inr (7, [.int t_shadows_width, .int t_shadows_most, .ref t_shadows_cells_h, .int o_t_shadows_lines])), (t_shadows_cells_h, .inl (cI, t_shadows_cells_n, .inl o_t_shadows_cells_a))] o_r A) (cc := cX9_shadow) (maxL := 5) (ret := (some .int)) RX9 (by decide +kernel) rfl rfl (Nat.le_of_ble_eq_true rfl) ?_
  intro p e s m args below meth c A ls Q hQ hx hb hr hts hown hlocks hml hN hK hP hD hS hA hl
  have hl : lv_has ls 5 [(0, .ref t_h), (1, .int x1), (2, .int x2), (3, .int x3), (4, .int x4)] := hl
  have iwX9 := iwX9_shadow_X9
  have fl_41 := hts (.fieldLink RX9 41 "CloudOffice" "shadows" "LCloudOffice$Table;") (by decide +kernel)
  have kc_186 := hts (.constant RX9 186 (-1000000)) (by decide +kernel)
  have kc_187 := hts (.constant RX9 187 (1000000)) (by decide +kernel)
  have hret : ∀ (o_r9 : Int32) (o_t_shadows_lines9 : Int32) (o_t_shadows_cells_a9 : Nat → Int32) (pc : Nat) (H : Heap) (locs : List Loc) (ls : Array Slot), decode cX9_shadow pc = .ok (.ireturn, 1) → some (o_r9, o_t_shadows_lines9, o_t_shadows_cells_a9) = some (o_r, o_t_shadows_lines, o_t_shadows_cells_a) → va_P G vwCl [(t_h, .inr (9, [.ref t_fraction_h, .ref t_settings_h, .ref t_firstEdges_h, .ref t_secondEdges_h, .ref t_layers_h, .ref t_sights_h, .ref t_shadows_h, .ref t_heights_h, .ref t_pairs_h, .ref t_rows_h, .ref t_notes_h, .ref t_matching_h, .ref t_speeds_h, .ref t_layering_h, .ref t_boards_h, .ref t_years_h, .ref t_sheets_h])), (t_shadows_h, .inr (7, [.int t_shadows_width, .int t_shadows_most, .ref t_shadows_cells_h, .int o_t_shadows_lines9])), (t_shadows_cells_h, .inl (cI, t_shadows_cells_n, .inl o_t_shadows_cells_a9))] H → va_D A [(t_h, .inr (9, [.ref t_fraction_h, .ref t_settings_h, .ref t_firstEdges_h, .ref t_secondEdges_h, .ref t_layers_h, .ref t_sights_h, .ref t_shadows_h, .ref t_heights_h, .ref t_pairs_h, .ref t_rows_h, .ref t_notes_h, .ref t_matching_h, .ref t_speeds_h, .ref t_layering_h, .ref t_boards_h, .ref t_years_h, .ref t_sheets_h])), (t_shadows_h, .inr (7, [.int t_shadows_width, .int t_shadows_most, .ref t_shadows_cells_h, .int o_t_shadows_lines9])), (t_shadows_cells_h, .inl (cI, t_shadows_cells_n, .inl o_t_shadows_cells_a9))] → va_S A s.heap H locs → W p l e rmX9_shadow s m args below meth c H locs 0 0 Q (F0 m pc ls [.int o_r9]) := by
    intro o_r9 o_t_shadows_lines9 o_t_shadows_cells_a9 pc H locs ls hdg he hP hD hS
    cases he
    subst hQ
    exact rt_i hx hb hr hlocks hK hP hD hS rfl hdg
  clear hQ
  unfold fX9_shadow at hf
  refine lv_iload_n hx hb dX9_shadow_0 rfl (lv_at hl 1 rfl) ?_
  refine lv_iload_n hx hb dX9_shadow_1 rfl (lv_at hl 2 rfl) ?_
  obtain ⟨r1, hc2, hf⟩ := ob_some hf
  refine af_iR (va_runS (As := [.int x1, .int x2]) (rest := []) ⟨hx, hb, hml, hown, hts⟩ (k_X9_isPuffAndMinute l G cI cJ (x0 := x1) (x1 := x2) (sz := _) (hf := hc2)) (va_cwS 2 hts gX9_shadow_X9_isPuffAndMinute rfl rfl rfl (by decide +kernel) ⟨Nat.le_of_ble_eq_true rfl, Nat.le_of_ble_eq_true rfl⟩) (preS0 (wc := []) hK hP hD hN [] rfl rfl (by decide)) rfl rfl hl.1 rfl (lv_room (Nat.le_of_ble_eq_true rfl)) dX9_shadow_2 ⟨Nat.zero_le _, Nat.zero_le _⟩) hP hD hS hA [] rfl (fun H locs hP hS => ?_)
  refine lv_if_eq (tgt := 31) hx hb dX9_shadow_5 (by decide) (fun c3 => ?_) (fun c3 => ?_)
  · have hf := ift hf c3
    refine lv_bipush (v := (-2)) hx hb dX9_shadow_31 (by decide) ?_
    exact hret (-2) t_shadows_lines t_shadows_cells_a 33 _ _ _ dX9_shadow_33 hf hP hD hS
  · have hf := iff_ hf c3
    refine lv_iload_n hx hb dX9_shadow_8 rfl (lv_at hl 3 rfl) ?_
    refine lv_ldc (v := (-1000000)) hx hb hown kc_186 dX9_shadow_9 ?_
    refine lv_ldc (v := 1000000) hx hb hown kc_187 dX9_shadow_11 ?_
    obtain ⟨r4, hc5, hf⟩ := ob_some hf
    refine af_iR (va_runS (As := [.int x3, .int (-1000000), .int 1000000]) (rest := []) ⟨hx, hb, hml, hown, hts⟩ (k_X9_isWithin l G cI cJ (x0 := x3) (x1 := (-1000000)) (x2 := 1000000) (sz := _) (hf := hc5)) (va_cwS 3 hts gX9_shadow_X9_isWithin rfl rfl rfl (by decide +kernel) ⟨Nat.le_of_ble_eq_true rfl, Nat.le_of_ble_eq_true rfl⟩) (preS0 (wc := []) hK hP hD hN [] rfl rfl (by decide)) rfl rfl hl.1 rfl (lv_room (Nat.le_of_ble_eq_true rfl)) dX9_shadow_13 ⟨Nat.zero_le _, Nat.zero_le _⟩) hP hD hS hA [] rfl (fun H locs hP hS => ?_)
    refine lv_if_eq (tgt := 31) hx hb dX9_shadow_16 (by decide) (fun c6 => ?_) (fun c6 => ?_)
    · have hf := ift hf c6
      refine lv_bipush (v := (-2)) hx hb dX9_shadow_31 (by decide) ?_
      exact hret (-2) t_shadows_lines t_shadows_cells_a 33 _ _ _ dX9_shadow_33 hf hP hD hS
    · have hf := iff_ hf c6
      refine lv_iload hx hb dX9_shadow_19 (lv_at hl 4 rfl) ?_
      refine lv_iconst (v := 0) hx hb dX9_shadow_21 (by decide) ?_
      refine lv_sipush (v := 10000) hx hb dX9_shadow_22 (by decide) ?_
      obtain ⟨r7, hc8, hf⟩ := ob_some hf
      refine af_iR (va_runS (As := [.int x4, .int 0, .int 10000]) (rest := []) ⟨hx, hb, hml, hown, hts⟩ (k_X9_isWithin l G cI cJ (x0 := x4) (x1 := 0) (x2 := 10000) (sz := _) (hf := hc8)) (va_cwS 3 hts gX9_shadow_X9_isWithin rfl rfl rfl (by decide +kernel) ⟨Nat.le_of_ble_eq_true rfl, Nat.le_of_ble_eq_true rfl⟩) (preS0 (wc := []) hK hP hD hN [] rfl rfl (by decide)) rfl rfl hl.1 rfl (lv_room (Nat.le_of_ble_eq_true rfl)) dX9_shadow_25 ⟨Nat.zero_le _, Nat.zero_le _⟩) hP hD hS hA [] rfl (fun H locs hP hS => ?_)
      refine lv_if_ne (tgt := 34) hx hb dX9_shadow_28 (by decide) (fun c9 => ?_) (fun c9 => ?_)
      · have hf := iff_ hf c9
        refine lv_aload_n hx hb dX9_shadow_34 rfl (lv_at hl 0 rfl) ?_
        refine va_get (D := G) (ci := 9) (v := .ref t_shadows_h) (C := RX9) (T := TX9) (N := 17) hx hb hts iwX9 hown hK hP 0 rfl rfl 6 (by decide) fl_41 (fun _ h9 => h9) rfl dX9_shadow_35 ?_
        refine lv_iload_n hx hb dX9_shadow_38 rfl (lv_at hl 1 rfl) ?_
        refine lv_iload_n hx hb dX9_shadow_39 rfl (lv_at hl 2 rfl) ?_
        refine lv_iload_n hx hb dX9_shadow_40 rfl (lv_at hl 3 rfl) ?_
        refine lv_iload hx hb dX9_shadow_41 (lv_at hl 4 rfl) ?_
        obtain ⟨r10, w11, w12, hc13, hf⟩ := ob3_some hf
        refine af_iW (wr := [(t_h, .inr (9, [.ref t_fraction_h, .ref t_settings_h, .ref t_firstEdges_h, .ref t_secondEdges_h, .ref t_layers_h, .ref t_sights_h, .ref t_shadows_h, .ref t_heights_h, .ref t_pairs_h, .ref t_rows_h, .ref t_notes_h, .ref t_matching_h, .ref t_speeds_h, .ref t_layering_h, .ref t_boards_h, .ref t_years_h, .ref t_sheets_h]))]) (ws2 := [(t_h, .inr (9, [.ref t_fraction_h, .ref t_settings_h, .ref t_firstEdges_h, .ref t_secondEdges_h, .ref t_layers_h, .ref t_sights_h, .ref t_shadows_h, .ref t_heights_h, .ref t_pairs_h, .ref t_rows_h, .ref t_notes_h, .ref t_matching_h, .ref t_speeds_h, .ref t_layering_h, .ref t_boards_h, .ref t_years_h, .ref t_sheets_h])), (t_shadows_h, .inr (7, [.int t_shadows_width, .int t_shadows_most, .ref t_shadows_cells_h, .int w11])), (t_shadows_cells_h, .inl (cI, t_shadows_cells_n, .inl w12))]) (va_runV (As := [.int x1, .int x2, .int x3, .int x4]) (rest := []) ⟨hx, hb, hml, hown, hts⟩ (k_X7_addNumbered l G cI cJ (t_h := t_shadows_h) (t_cells_h := t_shadows_cells_h) (t_width := t_shadows_width) (t_most := t_shadows_most) (t_lines := t_shadows_lines) (t_cells_n := t_shadows_cells_n) (t_cells_a := t_shadows_cells_a) (x1 := x1) (x2 := x2) (x3 := x3) (x4 := x4) (sz := _) (hf := hc13)) (cwV 4 hts gX9_shadow_X7_addNumbered rfl rfl rfl (by decide +kernel) ⟨Nat.le_of_ble_eq_true rfl, Nat.le_of_ble_eq_true rfl⟩) (preV0 (ci := 7) (q0 := 0) (C := RX7) (wc := [(t_shadows_h, .inr (7, [.int t_shadows_width, .int t_shadows_most, .ref t_shadows_cells_h, .int t_shadows_lines])), (t_shadows_cells_h, .inl (cI, t_shadows_cells_n, .inl t_shadows_cells_a))]) hK hP hD hN [1, 2] rfl rfl (by decide) rfl rfl) rfl rfl hl.1 rfl (lv_room (Nat.le_of_ble_eq_true rfl)) dX9_shadow_43 ⟨Nat.zero_le _, Nat.zero_le _⟩) hP hD hS hA [1, 2] [0] [0, 1, 2] rfl rfl (by decide) (by decide) rfl rfl (by decide) (fun H locs hP hD hS => ?_)
        exact hret r10 w11 w12 46 _ _ _ dX9_shadow_46 hf hP hD hS
      · have hf := ift hf c9
        refine lv_bipush (v := (-2)) hx hb dX9_shadow_31 (by decide) ?_
        exact hret (-2) t_shadows_lines t_shadows_cells_a 33 _ _ _ dX9_shadow_33 hf hP hD hS
set_option maxRecDepth 20000 in
theorem ggX9_speed_X6_areOfOnePuff : GoodIn wsX9_speed wsX6_areOfOnePuff := goodIn_r _ [7, 8, 9, 10, 11, 12, 13, 14, 15, 16, 17, 18, 19, 90, 91, 92, 93] (by decide +kernel) (by decide +kernel)
set_option maxRecDepth 20000 in
theorem gX9_speed_X6_areOfOnePuff : GoodIn wsX9_speed (va_wsS RX9 188 yX6_areOfOnePuff wsX6_areOfOnePuff) := goodIn_app (goodIn_of _ (by decide +kernel)) ggX9_speed_X6_areOfOnePuff
set_option maxRecDepth 20000 in
theorem ggX9_speed_X9_isWithin : GoodIn wsX9_speed wsX9_isWithin := goodIn_r _ [23] (by decide +kernel) (by decide +kernel)
set_option maxRecDepth 20000 in
theorem gX9_speed_X9_isWithin : GoodIn wsX9_speed (va_wsS RX9 105 yX9_isWithin wsX9_isWithin) := goodIn_app (goodIn_of _ (by decide +kernel)) ggX9_speed_X9_isWithin
set_option maxRecDepth 20000 in
theorem ggX9_speed_X6_putSightSpeed : GoodIn wsX9_speed wsX6_putSightSpeed := goodIn_r _ [27, 28, 29, 30, 31, 32, 6, 33, 14, 15, 16, 11, 17, 18, 19, 34, 35, 36, 37, 38, 39, 40, 41, 42, 43, 44, 45, 46, 47, 48, 49, 50, 51, 52, 53, 54, 55, 56, 57, 58, 59, 60, 61, 62, 63, 64, 65, 66, 67, 68, 69, 70, 71, 72, 94, 95, 96, 97, 98, 99, 100, 101, 102, 103, 104, 105, 106, 90, 91, 92, 93, 107, 108] (by decide +kernel) (by decide +kernel)
set_option maxRecDepth 20000 in
theorem gX9_speed_X6_putSightSpeed : GoodIn wsX9_speed (wsV RX9 192 RX6 yX6_putSightSpeed wsX6_putSightSpeed) := goodIn_app (goodIn_of _ (by decide +kernel)) ggX9_speed_X6_putSightSpeed
theorem dX9_speed_0 : decode cX9_speed 0 = .ok (.aload_n 0, 1) := by decide +kernel
theorem dX9_speed_1 : decode cX9_speed 1 = .ok (.getfield 38, 3) := by decide +kernel
theorem dX9_speed_4 : decode cX9_speed 4 = .ok (.iload_n 1, 1) := by decide +kernel
theorem dX9_speed_5 : decode cX9_speed 5 = .ok (.iload_n 2, 1) := by decide +kernel
theorem dX9_speed_6 : decode cX9_speed 6 = .ok (.invokestatic 188, 3) := by decide +kernel
theorem dX9_speed_9 : decode cX9_speed 9 = .ok (.ifCond .eq 12, 3) := by decide +kernel
theorem dX9_speed_12 : decode cX9_speed 12 = .ok (.iload_n 3, 1) := by decide +kernel
theorem dX9_speed_13 : decode cX9_speed 13 = .ok (.iconst 0, 1) := by decide +kernel
theorem dX9_speed_14 : decode cX9_speed 14 = .ok (.iconst 2, 1) := by decide +kernel
theorem dX9_speed_15 : decode cX9_speed 15 = .ok (.invokestatic 105, 3) := by decide +kernel
theorem dX9_speed_18 : decode cX9_speed 18 = .ok (.ifCond .ne 6, 3) := by decide +kernel
theorem dX9_speed_21 : decode cX9_speed 21 = .ok (.bipush (-2), 2) := by decide +kernel
theorem dX9_speed_23 : decode cX9_speed 23 = .ok (.ireturn, 1) := by decide +kernel
theorem dX9_speed_24 : decode cX9_speed 24 = .ok (.aload_n 0, 1) := by decide +kernel
theorem dX9_speed_25 : decode cX9_speed 25 = .ok (.getfield 70, 3) := by decide +kernel
theorem dX9_speed_28 : decode cX9_speed 28 = .ok (.iload_n 1, 1) := by decide +kernel
theorem dX9_speed_29 : decode cX9_speed 29 = .ok (.iload_n 2, 1) := by decide +kernel
theorem dX9_speed_30 : decode cX9_speed 30 = .ok (.iload_n 3, 1) := by decide +kernel
theorem dX9_speed_31 : decode cX9_speed 31 = .ok (.aload_n 0, 1) := by decide +kernel
theorem dX9_speed_32 : decode cX9_speed 32 = .ok (.getfield 10, 3) := by decide +kernel
theorem dX9_speed_35 : decode cX9_speed 35 = .ok (.invokevirtual 192, 3) := by decide +kernel
theorem dX9_speed_38 : decode cX9_speed 38 = .ok (.ifCond .eq 7, 3) := by decide +kernel
theorem dX9_speed_41 : decode cX9_speed 41 = .ok (.iconst 1, 1) := by decide +kernel
theorem dX9_speed_42 : decode cX9_speed 42 = .ok (.goto 4, 3) := by decide +kernel
theorem dX9_speed_45 : decode cX9_speed 45 = .ok (.iconst 0, 1) := by decide +kernel
theorem dX9_speed_46 : decode cX9_speed 46 = .ok (.ireturn, 1) := by decide +kernel
set_option maxRecDepth 100000 in
def fX9_speed (x1 : Int32) (x2 : Int32) (x3 : Int32) (t_fraction_above : Int64) (t_fraction_below : Int64) (t_settings_base : Int32) (t_settings_slip : Int32) (t_sights_width : Int32) (t_sights_lines : Int32) (t_sights_cells_n : Nat) (t_sights_cells_a : Nat → Int32) : Option (Int32 × Int64 × Int64) :=
  ob (fX6_areOfOnePuff x1 x2 t_sights_width t_sights_lines t_sights_cells_n t_sights_cells_a) fun r1 =>
  if (b2i r1) = 0 then
    some ((-2), t_fraction_above, t_fraction_below)
  else
    ob (fX9_isWithin x3 0 2) fun r4 =>
    if (b2i r4) = 0 then
      some ((-2), t_fraction_above, t_fraction_below)
    else
      ob3 (fX6_putSightSpeed x1 x2 x3 t_settings_base t_settings_slip t_sights_width t_sights_cells_n t_sights_cells_a t_fraction_above t_fraction_below) fun r7 w8 w9 =>
      if (b2i r7) = 0 then
        some (0, w8, w9)
      else
        some (1, w8, w9)
abbrev rmX9_speed : Room := { frames := 4, cells := 0, slots := 0, locals := 102 }
theorem iwX9_speed_X9 : ∀ w ∈ u_ws RX9 TX9 17, w ∈ wsX9_speed := by decide +kernel
set_option maxHeartbeats 4000000 in
set_option maxRecDepth 100000 in
theorem k_X9_speed (l : Launch) (G : va_G) (cI cJ : ClassId) (t_h t_fraction_h t_settings_h t_firstEdges_h t_secondEdges_h t_layers_h t_sights_h t_shadows_h t_heights_h t_pairs_h t_rows_h t_notes_h t_matching_h t_speeds_h t_layering_h t_boards_h t_years_h t_sheets_h t_sights_cells_h t_speeds_sightLow_h t_speeds_sightHigh_h t_speeds_shadowLow_h t_speeds_shadowHigh_h : Nat) (sz : Nat) (t_fraction_above : Int64) (t_fraction_below : Int64) (t_settings_base : Int32) (t_settings_slip : Int32) (t_settings_low : Int32) (t_settings_high : Int32) (t_settings_unlike : Int32) (t_settings_alone : Int32) (t_sights_width : Int32) (t_sights_most : Int32) (t_sights_lines : Int32) (t_sights_cells_n : Nat) (t_sights_cells_a : Nat → Int32) (x1 : Int32) (x2 : Int32) (x3 : Int32) {o_r : Int32} {o_t_fraction_above : Int64} {o_t_fraction_below : Int64} (hf : fX9_speed x1 x2 x3 t_fraction_above t_fraction_below t_settings_base t_settings_slip t_sights_width t_sights_lines t_sights_cells_n t_sights_cells_a = some (o_r, o_t_fraction_above, o_t_fraction_below)) : MetI l yX9_speed wsX9_speed rmX9_speed [.ref t_h, .int x1, .int x2, .int x3] G cI cJ [(t_h, .inr (9, [.ref t_fraction_h, .ref t_settings_h, .ref t_firstEdges_h, .ref t_secondEdges_h, .ref t_layers_h, .ref t_sights_h, .ref t_shadows_h, .ref t_heights_h, .ref t_pairs_h, .ref t_rows_h, .ref t_notes_h, .ref t_matching_h, .ref t_speeds_h, .ref t_layering_h, .ref t_boards_h, .ref t_years_h, .ref t_sheets_h])), (t_fraction_h, .inr (1, [.long t_fraction_above, .long t_fraction_below])), (t_settings_h, .inr (4, [.int t_settings_base, .int t_settings_slip, .int t_settings_low, .int t_settings_high, .int t_settings_unlike, .int t_settings_alone])), (t_sights_h, .inr (7, [.int t_sights_width, .int t_sights_most, .ref t_sights_cells_h, .int t_sights_lines])), (t_speeds_h, .inr (6, [.ref t_settings_h, .ref t_sights_h, .ref t_shadows_h, .ref t_speeds_sightLow_h, .ref t_speeds_sightHigh_h, .ref t_speeds_shadowLow_h, .ref t_speeds_shadowHigh_h])), (t_sights_cells_h, .inl (cI, t_sights_cells_n, .inl t_sights_cells_a))] [(t_h, .inr (9, [.ref t_fraction_h, .ref t_settings_h, .ref t_firstEdges_h, .ref t_secondEdges_h, .ref t_layers_h, .ref t_sights_h, .ref t_shadows_h, .ref t_heights_h, .ref t_pairs_h, .ref t_rows_h, .ref t_notes_h, .ref t_matching_h, .ref t_speeds_h, .ref t_layering_h, .ref t_boards_h, .ref t_years_h, .ref t_sheets_h])), (t_fraction_h, .inr (1, [.long o_t_fraction_above, .long o_t_fraction_below])), (t_settings_h, .inr (4, [.int t_settings_base, .int t_settings_slip, .int t_settings_low, .int t_settings_high, .int t_settings_unlike, .int t_settings_alone])), (t_sights_h, .inr (7, [.int t_sights_width, .int t_sights_most, .ref t_sights_cells_h, .int t_sights_lines])), (t_speeds_h, .inr (6, [.ref t_settings_h, .ref t_sights_h, .ref t_shadows_h, .ref t_speeds_sightLow_h, .ref t_speeds_sightHigh_h, .ref t_speeds_shadowLow_h, .ref t_speeds_shadowHigh_h])), (t_sights_cells_h, .inl (cI, t_sights_cells_n, .inl t_sights_cells_a))] sz o_r := by
  refine en_0 (l := l) (y := yX9_speed) (wsl := wsX9_speed) (rm := rmX9_speed) (av := [.ref t_h, .int x1, .int x2, .int x3]) (G := G) (cI := cI) (cJ := cJ) (w0 := [(t_h, .inr (9, [.ref t_fraction_h, .ref t_settings_h, .ref t_firstEdges_h, .ref t_secondEdges_h, .ref t_layers_h, .ref t_sights_h, .ref t_shadows_h, .ref t_heights_h, .ref t_pairs_h, .ref t_rows_h, .ref t_notes_h, .ref t_matching_h, .ref t_speeds_h, .ref t_layering_h, .ref t_boards_h, .ref t_years_h, .ref t_sheets_h])), (t_fraction_h, .inr (1, [.long t_fraction_above, .long t_fraction_below])), (t_settings_h, .inr (4, [.int t_settings_base, .int t_settings_slip, .int t_settings_low, .int t_settings_high, .int t_settings_unlike, .int t_settings_alone])), (t_sights_h, .inr (7, [.int t_sights_width, .int t_sights_most, .ref t_sights_cells_h, .int t_sights_lines])), (t_speeds_h, .inr (6, [.ref t_settings_h, .ref t_sights_h, .ref t_shadows_h, .ref t_speeds_sightLow_h, .ref t_speeds_sightHigh_h, .ref t_speeds_shadowLow_h, .ref t_speeds_shadowHigh_h])), (t_sights_cells_h, .inl (cI, t_sights_cells_n, .inl t_sights_cells_a))]) (sz := sz) (Qf := fun A => Qi0 G cI cJ [(t_h, .inr (9, [.ref t_fraction_h, .ref t_settings_h, .ref t_firstEdges_h, .ref t_secondEdges_h, .ref t_layers_h, .ref t_sights_h, .ref t_shadows_h, .ref t_heights_h, .ref t_pairs_h, .ref t_rows_h, .ref t_notes_h, .ref t_matching_h, .ref t_speeds_h, .ref t_layering_h, .ref t_boards_h, .ref t_years_h, .ref t_sheets_h])), (t_fraction_h, .inr (1, [.long o_t_fraction_above, .long o_t_fraction_below])), (t_settings_h, .inr (4, [.int t_settings_base, .int t_settings_slip, .int t_settings_low, .int t_settings_high, .int t_settings_unlike, .int t_settings_alone])), (t_sights_h, .inr (7, [.int t_sights_width, .int t_sights_most, .ref t_sights_cells_h, .int t_sights_lines])), (t_speeds_h, .inr (6, [.ref t_settings_h, .ref t_sights_h, .ref t_shadows_h, .ref t_speeds_sightLow_h, .ref t_speeds_sightHigh_h, .ref t_speeds_shadowLow_h, .ref t_speeds_shadowHigh_h])), (t_sights_cells_h, .inl (cI, t_sights_cells_n, .inl t_sights_cells_a))] o_r A) (cc := cX9_speed) (maxL := 4) (ret := (some .int)) RX9 (by decide +kernel) rfl rfl (Nat.le_of_ble_eq_true rfl) ?_
  intro p e s m args below meth c A ls Q hQ hx hb hr hts hown hlocks hml hN hK hP hD hS hA hl
  have hl : lv_has ls 4 [(0, .ref t_h), (1, .int x1), (2, .int x2), (3, .int x3)] := hl
  have iwX9 := iwX9_speed_X9
  have fl_10 := hts (.fieldLink RX9 10 "CloudOffice" "fraction" "LCloudOffice$Fraction;") (by decide +kernel)
  have fl_38 := hts (.fieldLink RX9 38 "CloudOffice" "sights" "LCloudOffice$Table;") (by decide +kernel)
  have fl_70 := hts (.fieldLink RX9 70 "CloudOffice" "speeds" "LCloudOffice$Speeds;") (by decide +kernel)
  have hret : ∀ (o_r9 : Int32) (o_t_fraction_above9 : Int64) (o_t_fraction_below9 : Int64) (pc : Nat) (H : Heap) (locs : List Loc) (ls : Array Slot), decode cX9_speed pc = .ok (.ireturn, 1) → some (o_r9, o_t_fraction_above9, o_t_fraction_below9) = some (o_r, o_t_fraction_above, o_t_fraction_below) → va_P G vwCl [(t_h, .inr (9, [.ref t_fraction_h, .ref t_settings_h, .ref t_firstEdges_h, .ref t_secondEdges_h, .ref t_layers_h, .ref t_sights_h, .ref t_shadows_h, .ref t_heights_h, .ref t_pairs_h, .ref t_rows_h, .ref t_notes_h, .ref t_matching_h, .ref t_speeds_h, .ref t_layering_h, .ref t_boards_h, .ref t_years_h, .ref t_sheets_h])), (t_fraction_h, .inr (1, [.long o_t_fraction_above9, .long o_t_fraction_below9])), (t_settings_h, .inr (4, [.int t_settings_base, .int t_settings_slip, .int t_settings_low, .int t_settings_high, .int t_settings_unlike, .int t_settings_alone])), (t_sights_h, .inr (7, [.int t_sights_width, .int t_sights_most, .ref t_sights_cells_h, .int t_sights_lines])), (t_speeds_h, .inr (6, [.ref t_settings_h, .ref t_sights_h, .ref t_shadows_h, .ref t_speeds_sightLow_h, .ref t_speeds_sightHigh_h, .ref t_speeds_shadowLow_h, .ref t_speeds_shadowHigh_h])), (t_sights_cells_h, .inl (cI, t_sights_cells_n, .inl t_sights_cells_a))] H → va_D A [(t_h, .inr (9, [.ref t_fraction_h, .ref t_settings_h, .ref t_firstEdges_h, .ref t_secondEdges_h, .ref t_layers_h, .ref t_sights_h, .ref t_shadows_h, .ref t_heights_h, .ref t_pairs_h, .ref t_rows_h, .ref t_notes_h, .ref t_matching_h, .ref t_speeds_h, .ref t_layering_h, .ref t_boards_h, .ref t_years_h, .ref t_sheets_h])), (t_fraction_h, .inr (1, [.long o_t_fraction_above9, .long o_t_fraction_below9])), (t_settings_h, .inr (4, [.int t_settings_base, .int t_settings_slip, .int t_settings_low, .int t_settings_high, .int t_settings_unlike, .int t_settings_alone])), (t_sights_h, .inr (7, [.int t_sights_width, .int t_sights_most, .ref t_sights_cells_h, .int t_sights_lines])), (t_speeds_h, .inr (6, [.ref t_settings_h, .ref t_sights_h, .ref t_shadows_h, .ref t_speeds_sightLow_h, .ref t_speeds_sightHigh_h, .ref t_speeds_shadowLow_h, .ref t_speeds_shadowHigh_h])), (t_sights_cells_h, .inl (cI, t_sights_cells_n, .inl t_sights_cells_a))] → va_S A s.heap H locs → W p l e rmX9_speed s m args below meth c H locs 0 0 Q (F0 m pc ls [.int o_r9]) := by
    intro o_r9 o_t_fraction_above9 o_t_fraction_below9 pc H locs ls hdg he hP hD hS
    cases he
    subst hQ
    exact rt_i hx hb hr hlocks hK hP hD hS rfl hdg
  clear hQ
  unfold fX9_speed at hf
  refine lv_aload_n hx hb dX9_speed_0 rfl (lv_at hl 0 rfl) ?_
  refine va_get (D := G) (ci := 9) (v := .ref t_sights_h) (C := RX9) (T := TX9) (N := 17) hx hb hts iwX9 hown hK hP 0 rfl rfl 5 (by decide) fl_38 (fun _ h9 => h9) rfl dX9_speed_1 ?_
  refine lv_iload_n hx hb dX9_speed_4 rfl (lv_at hl 1 rfl) ?_
  refine lv_iload_n hx hb dX9_speed_5 rfl (lv_at hl 2 rfl) ?_
  obtain ⟨r1, hc2, hf⟩ := ob_some hf
  refine af_iR (va_runS (As := [.ref t_sights_h, .int x1, .int x2]) (rest := []) ⟨hx, hb, hml, hown, hts⟩ (k_X6_areOfOnePuff l G cI cJ (L0_h := t_sights_h) (L0_cells_h := t_sights_cells_h) (L0_width := t_sights_width) (L0_most := t_sights_most) (L0_lines := t_sights_lines) (L0_cells_n := t_sights_cells_n) (L0_cells_a := t_sights_cells_a) (x1 := x1) (x2 := x2) (sz := _) (hf := hc2)) (va_cwS 3 hts gX9_speed_X6_areOfOnePuff rfl rfl rfl (by decide +kernel) ⟨Nat.le_of_ble_eq_true rfl, Nat.le_of_ble_eq_true rfl⟩) (preS0 (wc := [(t_sights_h, .inr (7, [.int t_sights_width, .int t_sights_most, .ref t_sights_cells_h, .int t_sights_lines])), (t_sights_cells_h, .inl (cI, t_sights_cells_n, .inl t_sights_cells_a))]) hK hP hD hN [3, 5] rfl rfl (by decide)) rfl rfl hl.1 rfl (lv_room (Nat.le_of_ble_eq_true rfl)) dX9_speed_6 ⟨Nat.zero_le _, Nat.zero_le _⟩) hP hD hS hA [3, 5] rfl (fun H locs hP hS => ?_)
  refine lv_if_eq (tgt := 21) hx hb dX9_speed_9 (by decide) (fun c3 => ?_) (fun c3 => ?_)
  · have hf := ift hf c3
    refine lv_bipush (v := (-2)) hx hb dX9_speed_21 (by decide) ?_
    exact hret (-2) t_fraction_above t_fraction_below 23 _ _ _ dX9_speed_23 hf hP hD hS
  · have hf := iff_ hf c3
    refine lv_iload_n hx hb dX9_speed_12 rfl (lv_at hl 3 rfl) ?_
    refine lv_iconst (v := 0) hx hb dX9_speed_13 (by decide) ?_
    refine lv_iconst (v := 2) hx hb dX9_speed_14 (by decide) ?_
    obtain ⟨r4, hc5, hf⟩ := ob_some hf
    refine af_iR (va_runS (As := [.int x3, .int 0, .int 2]) (rest := []) ⟨hx, hb, hml, hown, hts⟩ (k_X9_isWithin l G cI cJ (x0 := x3) (x1 := 0) (x2 := 2) (sz := _) (hf := hc5)) (va_cwS 3 hts gX9_speed_X9_isWithin rfl rfl rfl (by decide +kernel) ⟨Nat.le_of_ble_eq_true rfl, Nat.le_of_ble_eq_true rfl⟩) (preS0 (wc := []) hK hP hD hN [] rfl rfl (by decide)) rfl rfl hl.1 rfl (lv_room (Nat.le_of_ble_eq_true rfl)) dX9_speed_15 ⟨Nat.zero_le _, Nat.zero_le _⟩) hP hD hS hA [] rfl (fun H locs hP hS => ?_)
    refine lv_if_ne (tgt := 24) hx hb dX9_speed_18 (by decide) (fun c6 => ?_) (fun c6 => ?_)
    · have hf := iff_ hf c6
      refine lv_aload_n hx hb dX9_speed_24 rfl (lv_at hl 0 rfl) ?_
      refine va_get (D := G) (ci := 9) (v := .ref t_speeds_h) (C := RX9) (T := TX9) (N := 17) hx hb hts iwX9 hown hK hP 0 rfl rfl 12 (by decide) fl_70 (fun _ h9 => h9) rfl dX9_speed_25 ?_
      refine lv_iload_n hx hb dX9_speed_28 rfl (lv_at hl 1 rfl) ?_
      refine lv_iload_n hx hb dX9_speed_29 rfl (lv_at hl 2 rfl) ?_
      refine lv_iload_n hx hb dX9_speed_30 rfl (lv_at hl 3 rfl) ?_
      refine lv_aload_n hx hb dX9_speed_31 rfl (lv_at hl 0 rfl) ?_
      refine va_get (D := G) (ci := 9) (v := .ref t_fraction_h) (C := RX9) (T := TX9) (N := 17) hx hb hts iwX9 hown hK hP 0 rfl rfl 0 (by decide) fl_10 (fun _ h9 => h9) rfl dX9_speed_32 ?_
      obtain ⟨r7, w8, w9, hc10, hf⟩ := ob3_some hf
      refine af_iW (wr := [(t_h, .inr (9, [.ref t_fraction_h, .ref t_settings_h, .ref t_firstEdges_h, .ref t_secondEdges_h, .ref t_layers_h, .ref t_sights_h, .ref t_shadows_h, .ref t_heights_h, .ref t_pairs_h, .ref t_rows_h, .ref t_notes_h, .ref t_matching_h, .ref t_speeds_h, .ref t_layering_h, .ref t_boards_h, .ref t_years_h, .ref t_sheets_h]))]) (ws2 := [(t_h, .inr (9, [.ref t_fraction_h, .ref t_settings_h, .ref t_firstEdges_h, .ref t_secondEdges_h, .ref t_layers_h, .ref t_sights_h, .ref t_shadows_h, .ref t_heights_h, .ref t_pairs_h, .ref t_rows_h, .ref t_notes_h, .ref t_matching_h, .ref t_speeds_h, .ref t_layering_h, .ref t_boards_h, .ref t_years_h, .ref t_sheets_h])), (t_fraction_h, .inr (1, [.long w8, .long w9])), (t_settings_h, .inr (4, [.int t_settings_base, .int t_settings_slip, .int t_settings_low, .int t_settings_high, .int t_settings_unlike, .int t_settings_alone])), (t_sights_h, .inr (7, [.int t_sights_width, .int t_sights_most, .ref t_sights_cells_h, .int t_sights_lines])), (t_speeds_h, .inr (6, [.ref t_settings_h, .ref t_sights_h, .ref t_shadows_h, .ref t_speeds_sightLow_h, .ref t_speeds_sightHigh_h, .ref t_speeds_shadowLow_h, .ref t_speeds_shadowHigh_h])), (t_sights_cells_h, .inl (cI, t_sights_cells_n, .inl t_sights_cells_a))]) (va_runV (As := [.int x1, .int x2, .int x3, .ref t_fraction_h]) (rest := []) ⟨hx, hb, hml, hown, hts⟩ (k_X6_putSightSpeed l G cI cJ (t_h := t_speeds_h) (t_settings_h := t_settings_h) (t_sights_h := t_sights_h) (t_shadows_h := t_shadows_h) (t_sightLow_h := t_speeds_sightLow_h) (t_sightHigh_h := t_speeds_sightHigh_h) (t_shadowLow_h := t_speeds_shadowLow_h) (t_shadowHigh_h := t_speeds_shadowHigh_h) (t_sights_cells_h := t_sights_cells_h) (L4_h := t_fraction_h) (t_settings_base := t_settings_base) (t_settings_slip := t_settings_slip) (t_settings_low := t_settings_low) (t_settings_high := t_settings_high) (t_settings_unlike := t_settings_unlike) (t_settings_alone := t_settings_alone) (t_sights_width := t_sights_width) (t_sights_most := t_sights_most) (t_sights_lines := t_sights_lines) (t_sights_cells_n := t_sights_cells_n) (t_sights_cells_a := t_sights_cells_a) (L4_above := t_fraction_above) (L4_below := t_fraction_below) (x1 := x1) (x2 := x2) (x3 := x3) (sz := _) (hf := hc10)) (cwV 4 hts gX9_speed_X6_putSightSpeed rfl rfl rfl (by decide +kernel) ⟨Nat.le_of_ble_eq_true rfl, Nat.le_of_ble_eq_true rfl⟩) (preV0 (ci := 6) (q0 := 0) (C := RX6) (wc := [(t_speeds_h, .inr (6, [.ref t_settings_h, .ref t_sights_h, .ref t_shadows_h, .ref t_speeds_sightLow_h, .ref t_speeds_sightHigh_h, .ref t_speeds_shadowLow_h, .ref t_speeds_shadowHigh_h])), (t_settings_h, .inr (4, [.int t_settings_base, .int t_settings_slip, .int t_settings_low, .int t_settings_high, .int t_settings_unlike, .int t_settings_alone])), (t_sights_h, .inr (7, [.int t_sights_width, .int t_sights_most, .ref t_sights_cells_h, .int t_sights_lines])), (t_sights_cells_h, .inl (cI, t_sights_cells_n, .inl t_sights_cells_a)), (t_fraction_h, .inr (1, [.long t_fraction_above, .long t_fraction_below]))]) hK hP hD hN [4, 2, 3, 5, 1] rfl rfl (by decide) rfl rfl) rfl rfl hl.1 rfl (lv_room (Nat.le_of_ble_eq_true rfl)) dX9_speed_35 ⟨Nat.zero_le _, Nat.zero_le _⟩) hP hD hS hA [4, 2, 3, 5, 1] [0] [0, 5, 2, 3, 1, 4] rfl rfl (by decide) (by decide) rfl rfl (by decide) (fun H locs hP hD hS => ?_)
      refine lv_if_eq (tgt := 45) hx hb dX9_speed_38 (by decide) (fun c11 => ?_) (fun c11 => ?_)
      · have hf := ift hf c11
        refine lv_iconst (v := 0) hx hb dX9_speed_45 (by decide) ?_
        exact hret 0 w8 w9 46 _ _ _ dX9_speed_46 hf hP hD hS
      · have hf := iff_ hf c11
        refine lv_iconst (v := 1) hx hb dX9_speed_41 (by decide) ?_
        refine lv_goto (tgt := 46) hx hb dX9_speed_42 (by decide) ?_
        exact hret 1 w8 w9 46 _ _ _ dX9_speed_46 hf hP hD hS
    · have hf := ift hf c6
      refine lv_bipush (v := (-2)) hx hb dX9_speed_21 (by decide) ?_
      exact hret (-2) t_fraction_above t_fraction_below 23 _ _ _ dX9_speed_23 hf hP hD hS
set_option maxRecDepth 20000 in
theorem ggX9_shade_X6_areOfOnePuff : GoodIn wsX9_shade wsX6_areOfOnePuff := goodIn_r _ [7, 8, 9, 10, 11, 12, 13, 14, 15, 16, 17, 18, 19, 72, 73, 74, 75] (by decide +kernel) (by decide +kernel)
set_option maxRecDepth 20000 in
theorem gX9_shade_X6_areOfOnePuff : GoodIn wsX9_shade (va_wsS RX9 188 yX6_areOfOnePuff wsX6_areOfOnePuff) := goodIn_app (goodIn_of _ (by decide +kernel)) ggX9_shade_X6_areOfOnePuff
set_option maxRecDepth 20000 in
theorem ggX9_shade_X9_isWithin : GoodIn wsX9_shade wsX9_isWithin := goodIn_r _ [23] (by decide +kernel) (by decide +kernel)
set_option maxRecDepth 20000 in
theorem gX9_shade_X9_isWithin : GoodIn wsX9_shade (va_wsS RX9 105 yX9_isWithin wsX9_isWithin) := goodIn_app (goodIn_of _ (by decide +kernel)) ggX9_shade_X9_isWithin
set_option maxRecDepth 20000 in
theorem ggX9_shade_X6_putShadowSpeed : GoodIn wsX9_shade wsX6_putShadowSpeed := goodIn_r _ [27, 28, 29, 30, 6, 31, 14, 15, 16, 11, 17, 18, 19, 32, 33, 34, 35, 36, 37, 38, 39, 40, 41, 42, 43, 44, 45, 46, 47, 48, 49, 50, 51, 52, 53, 54, 76, 77, 78, 79, 80, 81, 82, 72, 73, 74, 75, 83, 84] (by decide +kernel) (by decide +kernel)
set_option maxRecDepth 20000 in
theorem gX9_shade_X6_putShadowSpeed : GoodIn wsX9_shade (wsV RX9 196 RX6 yX6_putShadowSpeed wsX6_putShadowSpeed) := goodIn_app (goodIn_of _ (by decide +kernel)) ggX9_shade_X6_putShadowSpeed
theorem dX9_shade_0 : decode cX9_shade 0 = .ok (.aload_n 0, 1) := by decide +kernel
theorem dX9_shade_1 : decode cX9_shade 1 = .ok (.getfield 41, 3) := by decide +kernel
theorem dX9_shade_4 : decode cX9_shade 4 = .ok (.iload_n 1, 1) := by decide +kernel
theorem dX9_shade_5 : decode cX9_shade 5 = .ok (.iload_n 2, 1) := by decide +kernel
theorem dX9_shade_6 : decode cX9_shade 6 = .ok (.invokestatic 188, 3) := by decide +kernel
theorem dX9_shade_9 : decode cX9_shade 9 = .ok (.ifCond .eq 12, 3) := by decide +kernel
theorem dX9_shade_12 : decode cX9_shade 12 = .ok (.iload_n 3, 1) := by decide +kernel
theorem dX9_shade_13 : decode cX9_shade 13 = .ok (.iconst 0, 1) := by decide +kernel
theorem dX9_shade_14 : decode cX9_shade 14 = .ok (.iconst 2, 1) := by decide +kernel
theorem dX9_shade_15 : decode cX9_shade 15 = .ok (.invokestatic 105, 3) := by decide +kernel
theorem dX9_shade_18 : decode cX9_shade 18 = .ok (.ifCond .ne 6, 3) := by decide +kernel
theorem dX9_shade_21 : decode cX9_shade 21 = .ok (.bipush (-2), 2) := by decide +kernel
theorem dX9_shade_23 : decode cX9_shade 23 = .ok (.ireturn, 1) := by decide +kernel
theorem dX9_shade_24 : decode cX9_shade 24 = .ok (.aload_n 0, 1) := by decide +kernel
theorem dX9_shade_25 : decode cX9_shade 25 = .ok (.getfield 70, 3) := by decide +kernel
theorem dX9_shade_28 : decode cX9_shade 28 = .ok (.iload_n 1, 1) := by decide +kernel
theorem dX9_shade_29 : decode cX9_shade 29 = .ok (.iload_n 2, 1) := by decide +kernel
theorem dX9_shade_30 : decode cX9_shade 30 = .ok (.iload_n 3, 1) := by decide +kernel
theorem dX9_shade_31 : decode cX9_shade 31 = .ok (.aload_n 0, 1) := by decide +kernel
theorem dX9_shade_32 : decode cX9_shade 32 = .ok (.getfield 10, 3) := by decide +kernel
theorem dX9_shade_35 : decode cX9_shade 35 = .ok (.invokevirtual 196, 3) := by decide +kernel
theorem dX9_shade_38 : decode cX9_shade 38 = .ok (.iconst 1, 1) := by decide +kernel
theorem dX9_shade_39 : decode cX9_shade 39 = .ok (.ireturn, 1) := by decide +kernel
set_option maxRecDepth 100000 in
def fX9_shade (x1 : Int32) (x2 : Int32) (x3 : Int32) (t_fraction_above : Int64) (t_fraction_below : Int64) (t_shadows_width : Int32) (t_shadows_lines : Int32) (t_shadows_cells_n : Nat) (t_shadows_cells_a : Nat → Int32) : Option (Int32 × Int64 × Int64) :=
  ob (fX6_areOfOnePuff x1 x2 t_shadows_width t_shadows_lines t_shadows_cells_n t_shadows_cells_a) fun r1 =>
  if (b2i r1) = 0 then
    some ((-2), t_fraction_above, t_fraction_below)
  else
    ob (fX9_isWithin x3 0 2) fun r4 =>
    if (b2i r4) = 0 then
      some ((-2), t_fraction_above, t_fraction_below)
    else
      ob2 (fX6_putShadowSpeed x1 x2 x3 t_shadows_width t_shadows_cells_n t_shadows_cells_a t_fraction_above t_fraction_below) fun w7 w8 =>
      some (1, w7, w8)
abbrev rmX9_shade : Room := { frames := 3, cells := 0, slots := 0, locals := 84 }
theorem iwX9_shade_X9 : ∀ w ∈ u_ws RX9 TX9 17, w ∈ wsX9_shade := by decide +kernel
set_option maxHeartbeats 4000000 in
set_option maxRecDepth 100000 in
theorem k_X9_shade (l : Launch) (G : va_G) (cI cJ : ClassId) (t_h t_fraction_h t_settings_h t_firstEdges_h t_secondEdges_h t_layers_h t_sights_h t_shadows_h t_heights_h t_pairs_h t_rows_h t_notes_h t_matching_h t_speeds_h t_layering_h t_boards_h t_years_h t_sheets_h t_shadows_cells_h t_speeds_sightLow_h t_speeds_sightHigh_h t_speeds_shadowLow_h t_speeds_shadowHigh_h : Nat) (sz : Nat) (t_fraction_above : Int64) (t_fraction_below : Int64) (t_shadows_width : Int32) (t_shadows_most : Int32) (t_shadows_lines : Int32) (t_shadows_cells_n : Nat) (t_shadows_cells_a : Nat → Int32) (x1 : Int32) (x2 : Int32) (x3 : Int32) {o_r : Int32} {o_t_fraction_above : Int64} {o_t_fraction_below : Int64} (hf : fX9_shade x1 x2 x3 t_fraction_above t_fraction_below t_shadows_width t_shadows_lines t_shadows_cells_n t_shadows_cells_a = some (o_r, o_t_fraction_above, o_t_fraction_below)) : MetI l yX9_shade wsX9_shade rmX9_shade [.ref t_h, .int x1, .int x2, .int x3] G cI cJ [(t_h, .inr (9, [.ref t_fraction_h, .ref t_settings_h, .ref t_firstEdges_h, .ref t_secondEdges_h, .ref t_layers_h, .ref t_sights_h, .ref t_shadows_h, .ref t_heights_h, .ref t_pairs_h, .ref t_rows_h, .ref t_notes_h, .ref t_matching_h, .ref t_speeds_h, .ref t_layering_h, .ref t_boards_h, .ref t_years_h, .ref t_sheets_h])), (t_fraction_h, .inr (1, [.long t_fraction_above, .long t_fraction_below])), (t_shadows_h, .inr (7, [.int t_shadows_width, .int t_shadows_most, .ref t_shadows_cells_h, .int t_shadows_lines])), (t_speeds_h, .inr (6, [.ref t_settings_h, .ref t_sights_h, .ref t_shadows_h, .ref t_speeds_sightLow_h, .ref t_speeds_sightHigh_h, .ref t_speeds_shadowLow_h, .ref t_speeds_shadowHigh_h])), (t_shadows_cells_h, .inl (cI, t_shadows_cells_n, .inl t_shadows_cells_a))] [(t_h, .inr (9, [.ref t_fraction_h, .ref t_settings_h, .ref t_firstEdges_h, .ref t_secondEdges_h, .ref t_layers_h, .ref t_sights_h, .ref t_shadows_h, .ref t_heights_h, .ref t_pairs_h, .ref t_rows_h, .ref t_notes_h, .ref t_matching_h, .ref t_speeds_h, .ref t_layering_h, .ref t_boards_h, .ref t_years_h, .ref t_sheets_h])), (t_fraction_h, .inr (1, [.long o_t_fraction_above, .long o_t_fraction_below])), (t_shadows_h, .inr (7, [.int t_shadows_width, .int t_shadows_most, .ref t_shadows_cells_h, .int t_shadows_lines])), (t_speeds_h, .inr (6, [.ref t_settings_h, .ref t_sights_h, .ref t_shadows_h, .ref t_speeds_sightLow_h, .ref t_speeds_sightHigh_h, .ref t_speeds_shadowLow_h, .ref t_speeds_shadowHigh_h])), (t_shadows_cells_h, .inl (cI, t_shadows_cells_n, .inl t_shadows_cells_a))] sz o_r := by
  refine en_0 (l := l) (y := yX9_shade) (wsl := wsX9_shade) (rm := rmX9_shade) (av := [.ref t_h, .int x1, .int x2, .int x3]) (G := G) (cI := cI) (cJ := cJ) (w0 := [(t_h, .inr (9, [.ref t_fraction_h, .ref t_settings_h, .ref t_firstEdges_h, .ref t_secondEdges_h, .ref t_layers_h, .ref t_sights_h, .ref t_shadows_h, .ref t_heights_h, .ref t_pairs_h, .ref t_rows_h, .ref t_notes_h, .ref t_matching_h, .ref t_speeds_h, .ref t_layering_h, .ref t_boards_h, .ref t_years_h, .ref t_sheets_h])), (t_fraction_h, .inr (1, [.long t_fraction_above, .long t_fraction_below])), (t_shadows_h, .inr (7, [.int t_shadows_width, .int t_shadows_most, .ref t_shadows_cells_h, .int t_shadows_lines])), (t_speeds_h, .inr (6, [.ref t_settings_h, .ref t_sights_h, .ref t_shadows_h, .ref t_speeds_sightLow_h, .ref t_speeds_sightHigh_h, .ref t_speeds_shadowLow_h, .ref t_speeds_shadowHigh_h])), (t_shadows_cells_h, .inl (cI, t_shadows_cells_n, .inl t_shadows_cells_a))]) (sz := sz) (Qf := fun A => Qi0 G cI cJ [(t_h, .inr (9, [.ref t_fraction_h, .ref t_settings_h, .ref t_firstEdges_h, .ref t_secondEdges_h, .ref t_layers_h, .ref t_sights_h, .ref t_shadows_h, .ref t_heights_h, .ref t_pairs_h, .ref t_rows_h, .ref t_notes_h, .ref t_matching_h, .ref t_speeds_h, .ref t_layering_h, .ref t_boards_h, .ref t_years_h, .ref t_sheets_h])), (t_fraction_h, .inr (1, [.long o_t_fraction_above, .long o_t_fraction_below])), (t_shadows_h, .inr (7, [.int t_shadows_width, .int t_shadows_most, .ref t_shadows_cells_h, .int t_shadows_lines])), (t_speeds_h, .inr (6, [.ref t_settings_h, .ref t_sights_h, .ref t_shadows_h, .ref t_speeds_sightLow_h, .ref t_speeds_sightHigh_h, .ref t_speeds_shadowLow_h, .ref t_speeds_shadowHigh_h])), (t_shadows_cells_h, .inl (cI, t_shadows_cells_n, .inl t_shadows_cells_a))] o_r A) (cc := cX9_shade) (maxL := 4) (ret := (some .int)) RX9 (by decide +kernel) rfl rfl (Nat.le_of_ble_eq_true rfl) ?_
  intro p e s m args below meth c A ls Q hQ hx hb hr hts hown hlocks hml hN hK hP hD hS hA hl
  have hl : lv_has ls 4 [(0, .ref t_h), (1, .int x1), (2, .int x2), (3, .int x3)] := hl
  have iwX9 := iwX9_shade_X9
  have fl_10 := hts (.fieldLink RX9 10 "CloudOffice" "fraction" "LCloudOffice$Fraction;") (by decide +kernel)
  have fl_41 := hts (.fieldLink RX9 41 "CloudOffice" "shadows" "LCloudOffice$Table;") (by decide +kernel)
  have fl_70 := hts (.fieldLink RX9 70 "CloudOffice" "speeds" "LCloudOffice$Speeds;") (by decide +kernel)
  have hret : ∀ (o_r9 : Int32) (o_t_fraction_above9 : Int64) (o_t_fraction_below9 : Int64) (pc : Nat) (H : Heap) (locs : List Loc) (ls : Array Slot), decode cX9_shade pc = .ok (.ireturn, 1) → some (o_r9, o_t_fraction_above9, o_t_fraction_below9) = some (o_r, o_t_fraction_above, o_t_fraction_below) → va_P G vwCl [(t_h, .inr (9, [.ref t_fraction_h, .ref t_settings_h, .ref t_firstEdges_h, .ref t_secondEdges_h, .ref t_layers_h, .ref t_sights_h, .ref t_shadows_h, .ref t_heights_h, .ref t_pairs_h, .ref t_rows_h, .ref t_notes_h, .ref t_matching_h, .ref t_speeds_h, .ref t_layering_h, .ref t_boards_h, .ref t_years_h, .ref t_sheets_h])), (t_fraction_h, .inr (1, [.long o_t_fraction_above9, .long o_t_fraction_below9])), (t_shadows_h, .inr (7, [.int t_shadows_width, .int t_shadows_most, .ref t_shadows_cells_h, .int t_shadows_lines])), (t_speeds_h, .inr (6, [.ref t_settings_h, .ref t_sights_h, .ref t_shadows_h, .ref t_speeds_sightLow_h, .ref t_speeds_sightHigh_h, .ref t_speeds_shadowLow_h, .ref t_speeds_shadowHigh_h])), (t_shadows_cells_h, .inl (cI, t_shadows_cells_n, .inl t_shadows_cells_a))] H → va_D A [(t_h, .inr (9, [.ref t_fraction_h, .ref t_settings_h, .ref t_firstEdges_h, .ref t_secondEdges_h, .ref t_layers_h, .ref t_sights_h, .ref t_shadows_h, .ref t_heights_h, .ref t_pairs_h, .ref t_rows_h, .ref t_notes_h, .ref t_matching_h, .ref t_speeds_h, .ref t_layering_h, .ref t_boards_h, .ref t_years_h, .ref t_sheets_h])), (t_fraction_h, .inr (1, [.long o_t_fraction_above9, .long o_t_fraction_below9])), (t_shadows_h, .inr (7, [.int t_shadows_width, .int t_shadows_most, .ref t_shadows_cells_h, .int t_shadows_lines])), (t_speeds_h, .inr (6, [.ref t_settings_h, .ref t_sights_h, .ref t_shadows_h, .ref t_speeds_sightLow_h, .ref t_speeds_sightHigh_h, .ref t_speeds_shadowLow_h, .ref t_speeds_shadowHigh_h])), (t_shadows_cells_h, .inl (cI, t_shadows_cells_n, .inl t_shadows_cells_a))] → va_S A s.heap H locs → W p l e rmX9_shade s m args below meth c H locs 0 0 Q (F0 m pc ls [.int o_r9]) := by
    intro o_r9 o_t_fraction_above9 o_t_fraction_below9 pc H locs ls hdg he hP hD hS
    cases he
    subst hQ
    exact rt_i hx hb hr hlocks hK hP hD hS rfl hdg
  clear hQ
  unfold fX9_shade at hf
  refine lv_aload_n hx hb dX9_shade_0 rfl (lv_at hl 0 rfl) ?_
  refine va_get (D := G) (ci := 9) (v := .ref t_shadows_h) (C := RX9) (T := TX9) (N := 17) hx hb hts iwX9 hown hK hP 0 rfl rfl 6 (by decide) fl_41 (fun _ h9 => h9) rfl dX9_shade_1 ?_
  refine lv_iload_n hx hb dX9_shade_4 rfl (lv_at hl 1 rfl) ?_
  refine lv_iload_n hx hb dX9_shade_5 rfl (lv_at hl 2 rfl) ?_
  obtain ⟨r1, hc2, hf⟩ := ob_some hf
  refine af_iR (va_runS (As := [.ref t_shadows_h, .int x1, .int x2]) (rest := []) ⟨hx, hb, hml, hown, hts⟩ (k_X6_areOfOnePuff l G cI cJ (L0_h := t_shadows_h) (L0_cells_h := t_shadows_cells_h) (L0_width := t_shadows_width) (L0_most := t_shadows_most) (L0_lines := t_shadows_lines) (L0_cells_n := t_shadows_cells_n) (L0_cells_a := t_shadows_cells_a) (x1 := x1) (x2 := x2) (sz := _) (hf := hc2)) (va_cwS 3 hts gX9_shade_X6_areOfOnePuff rfl rfl rfl (by decide +kernel) ⟨Nat.le_of_ble_eq_true rfl, Nat.le_of_ble_eq_true rfl⟩) (preS0 (wc := [(t_shadows_h, .inr (7, [.int t_shadows_width, .int t_shadows_most, .ref t_shadows_cells_h, .int t_shadows_lines])), (t_shadows_cells_h, .inl (cI, t_shadows_cells_n, .inl t_shadows_cells_a))]) hK hP hD hN [2, 4] rfl rfl (by decide)) rfl rfl hl.1 rfl (lv_room (Nat.le_of_ble_eq_true rfl)) dX9_shade_6 ⟨Nat.zero_le _, Nat.zero_le _⟩) hP hD hS hA [2, 4] rfl (fun H locs hP hS => ?_)
  refine lv_if_eq (tgt := 21) hx hb dX9_shade_9 (by decide) (fun c3 => ?_) (fun c3 => ?_)
  · have hf := ift hf c3
    refine lv_bipush (v := (-2)) hx hb dX9_shade_21 (by decide) ?_
    exact hret (-2) t_fraction_above t_fraction_below 23 _ _ _ dX9_shade_23 hf hP hD hS
  · have hf := iff_ hf c3
    refine lv_iload_n hx hb dX9_shade_12 rfl (lv_at hl 3 rfl) ?_
    refine lv_iconst (v := 0) hx hb dX9_shade_13 (by decide) ?_
    refine lv_iconst (v := 2) hx hb dX9_shade_14 (by decide) ?_
    obtain ⟨r4, hc5, hf⟩ := ob_some hf
    refine af_iR (va_runS (As := [.int x3, .int 0, .int 2]) (rest := []) ⟨hx, hb, hml, hown, hts⟩ (k_X9_isWithin l G cI cJ (x0 := x3) (x1 := 0) (x2 := 2) (sz := _) (hf := hc5)) (va_cwS 3 hts gX9_shade_X9_isWithin rfl rfl rfl (by decide +kernel) ⟨Nat.le_of_ble_eq_true rfl, Nat.le_of_ble_eq_true rfl⟩) (preS0 (wc := []) hK hP hD hN [] rfl rfl (by decide)) rfl rfl hl.1 rfl (lv_room (Nat.le_of_ble_eq_true rfl)) dX9_shade_15 ⟨Nat.zero_le _, Nat.zero_le _⟩) hP hD hS hA [] rfl (fun H locs hP hS => ?_)
    refine lv_if_ne (tgt := 24) hx hb dX9_shade_18 (by decide) (fun c6 => ?_) (fun c6 => ?_)
    · have hf := iff_ hf c6
      refine lv_aload_n hx hb dX9_shade_24 rfl (lv_at hl 0 rfl) ?_
      refine va_get (D := G) (ci := 9) (v := .ref t_speeds_h) (C := RX9) (T := TX9) (N := 17) hx hb hts iwX9 hown hK hP 0 rfl rfl 12 (by decide) fl_70 (fun _ h9 => h9) rfl dX9_shade_25 ?_
      refine lv_iload_n hx hb dX9_shade_28 rfl (lv_at hl 1 rfl) ?_
      refine lv_iload_n hx hb dX9_shade_29 rfl (lv_at hl 2 rfl) ?_
      refine lv_iload_n hx hb dX9_shade_30 rfl (lv_at hl 3 rfl) ?_
      refine lv_aload_n hx hb dX9_shade_31 rfl (lv_at hl 0 rfl) ?_
      refine va_get (D := G) (ci := 9) (v := .ref t_fraction_h) (C := RX9) (T := TX9) (N := 17) hx hb hts iwX9 hown hK hP 0 rfl rfl 0 (by decide) fl_10 (fun _ h9 => h9) rfl dX9_shade_32 ?_
      obtain ⟨w7, w8, hc9, hf⟩ := ob2_some hf
      refine af_vW (wr := [(t_h, .inr (9, [.ref t_fraction_h, .ref t_settings_h, .ref t_firstEdges_h, .ref t_secondEdges_h, .ref t_layers_h, .ref t_sights_h, .ref t_shadows_h, .ref t_heights_h, .ref t_pairs_h, .ref t_rows_h, .ref t_notes_h, .ref t_matching_h, .ref t_speeds_h, .ref t_layering_h, .ref t_boards_h, .ref t_years_h, .ref t_sheets_h]))]) (ws2 := [(t_h, .inr (9, [.ref t_fraction_h, .ref t_settings_h, .ref t_firstEdges_h, .ref t_secondEdges_h, .ref t_layers_h, .ref t_sights_h, .ref t_shadows_h, .ref t_heights_h, .ref t_pairs_h, .ref t_rows_h, .ref t_notes_h, .ref t_matching_h, .ref t_speeds_h, .ref t_layering_h, .ref t_boards_h, .ref t_years_h, .ref t_sheets_h])), (t_fraction_h, .inr (1, [.long w7, .long w8])), (t_shadows_h, .inr (7, [.int t_shadows_width, .int t_shadows_most, .ref t_shadows_cells_h, .int t_shadows_lines])), (t_speeds_h, .inr (6, [.ref t_settings_h, .ref t_sights_h, .ref t_shadows_h, .ref t_speeds_sightLow_h, .ref t_speeds_sightHigh_h, .ref t_speeds_shadowLow_h, .ref t_speeds_shadowHigh_h])), (t_shadows_cells_h, .inl (cI, t_shadows_cells_n, .inl t_shadows_cells_a))]) (va_runV (As := [.int x1, .int x2, .int x3, .ref t_fraction_h]) (rest := []) ⟨hx, hb, hml, hown, hts⟩ (k_X6_putShadowSpeed l G cI cJ (t_h := t_speeds_h) (t_settings_h := t_settings_h) (t_sights_h := t_sights_h) (t_shadows_h := t_shadows_h) (t_sightLow_h := t_speeds_sightLow_h) (t_sightHigh_h := t_speeds_sightHigh_h) (t_shadowLow_h := t_speeds_shadowLow_h) (t_shadowHigh_h := t_speeds_shadowHigh_h) (t_shadows_cells_h := t_shadows_cells_h) (L4_h := t_fraction_h) (t_shadows_width := t_shadows_width) (t_shadows_most := t_shadows_most) (t_shadows_lines := t_shadows_lines) (t_shadows_cells_n := t_shadows_cells_n) (t_shadows_cells_a := t_shadows_cells_a) (L4_above := t_fraction_above) (L4_below := t_fraction_below) (x1 := x1) (x2 := x2) (x3 := x3) (sz := _) (hf := hc9)) (cwV 4 hts gX9_shade_X6_putShadowSpeed rfl rfl rfl (by decide +kernel) ⟨Nat.le_of_ble_eq_true rfl, Nat.le_of_ble_eq_true rfl⟩) (preV0 (ci := 6) (q0 := 0) (C := RX6) (wc := [(t_speeds_h, .inr (6, [.ref t_settings_h, .ref t_sights_h, .ref t_shadows_h, .ref t_speeds_sightLow_h, .ref t_speeds_sightHigh_h, .ref t_speeds_shadowLow_h, .ref t_speeds_shadowHigh_h])), (t_shadows_h, .inr (7, [.int t_shadows_width, .int t_shadows_most, .ref t_shadows_cells_h, .int t_shadows_lines])), (t_shadows_cells_h, .inl (cI, t_shadows_cells_n, .inl t_shadows_cells_a)), (t_fraction_h, .inr (1, [.long t_fraction_above, .long t_fraction_below]))]) hK hP hD hN [3, 2, 4, 1] rfl rfl (by decide) rfl rfl) rfl rfl hl.1 rfl (lv_room (Nat.le_of_ble_eq_true rfl)) dX9_shade_35 ⟨Nat.zero_le _, Nat.zero_le _⟩) hP hD hS hA [3, 2, 4, 1] [0] [0, 4, 2, 1, 3] rfl rfl (by decide) (by decide) rfl rfl (by decide) (fun H locs hP hD hS => ?_)
      refine lv_iconst (v := 1) hx hb dX9_shade_38 (by decide) ?_
      exact hret 1 w7 w8 39 _ _ _ dX9_shade_39 hf hP hD hS
    · have hf := ift hf c6
      refine lv_bipush (v := (-2)) hx hb dX9_shade_21 (by decide) ?_
      exact hret (-2) t_fraction_above t_fraction_below 23 _ _ _ dX9_shade_23 hf hP hD hS
set_option maxRecDepth 20000 in
theorem ggX9_agree_X6_areOfOnePuff : GoodIn wsX9_agree wsX6_areOfOnePuff := goodIn_r _ [7, 8, 9, 10, 11, 12, 13, 14, 15, 16, 17, 18, 19, 105, 106, 107, 108] (by decide +kernel) (by decide +kernel)
set_option maxRecDepth 20000 in
theorem gX9_agree_X6_areOfOnePuff : GoodIn wsX9_agree (va_wsS RX9 188 yX6_areOfOnePuff wsX6_areOfOnePuff) := goodIn_app (goodIn_of _ (by decide +kernel)) ggX9_agree_X6_areOfOnePuff
set_option maxRecDepth 20000 in
theorem ggX9_agree_X7_at : GoodIn wsX9_agree wsX7_at := goodIn_r _ [17, 18, 19, 105, 106, 107, 108] (by decide +kernel) (by decide +kernel)
set_option maxRecDepth 20000 in
theorem gX9_agree_X7_at : GoodIn wsX9_agree (wsV RX9 200 RX7 yX7_at wsX7_at) := goodIn_app (goodIn_of _ (by decide +kernel)) ggX9_agree_X7_at
set_option maxRecDepth 20000 in
theorem ggX9_agree_X6_haveSpan : GoodIn wsX9_agree wsX6_haveSpan := goodIn_r _ [24, 25, 26, 27, 28, 6, 29, 30, 14, 15, 16, 11, 17, 18, 19, 109, 110, 111, 112, 113, 114, 115, 116, 117, 118, 119, 120, 121, 105, 106, 107, 108] (by decide +kernel) (by decide +kernel)
set_option maxRecDepth 20000 in
theorem gX9_agree_X6_haveSpan : GoodIn wsX9_agree (wsV RX9 203 RX6 yX6_haveSpan wsX6_haveSpan) := goodIn_app (goodIn_of _ (by decide +kernel)) ggX9_agree_X6_haveSpan
set_option maxRecDepth 20000 in
theorem ggX9_agree_X6_spansMeet : GoodIn wsX9_agree wsX6_spansMeet := goodIn_r _ [34, 35, 36, 37, 38, 39, 40, 41, 6, 42, 30, 25, 26, 27, 28, 29, 14, 15, 16, 11, 17, 18, 19, 43, 22, 23, 24, 44, 45, 46, 47, 48, 49, 50, 51, 52, 53, 54, 55, 56, 57, 58, 59, 60, 61, 62, 63, 64, 65, 66, 67, 68, 69, 70, 71, 72, 73, 74, 75, 76, 77, 78, 79, 80, 81, 82, 83, 84, 85, 86, 87, 109, 110, 111, 112, 113, 114, 115, 116, 117, 118, 119, 120, 121, 105, 106, 107, 108, 122, 123] (by decide +kernel) (by decide +kernel)
set_option maxRecDepth 20000 in
theorem gX9_agree_X6_spansMeet : GoodIn wsX9_agree (wsV RX9 206 RX6 yX6_spansMeet wsX6_spansMeet) := goodIn_app (goodIn_of _ (by decide +kernel)) ggX9_agree_X6_spansMeet
theorem dX9_agree_0 : decode cX9_agree 0 = .ok (.aload_n 0, 1) := by decide +kernel
theorem dX9_agree_1 : decode cX9_agree 1 = .ok (.getfield 38, 3) := by decide +kernel
theorem dX9_agree_4 : decode cX9_agree 4 = .ok (.iload_n 1, 1) := by decide +kernel
theorem dX9_agree_5 : decode cX9_agree 5 = .ok (.iload_n 2, 1) := by decide +kernel
theorem dX9_agree_6 : decode cX9_agree 6 = .ok (.invokestatic 188, 3) := by decide +kernel
theorem dX9_agree_9 : decode cX9_agree 9 = .ok (.ifCond .eq 16, 3) := by decide +kernel
theorem dX9_agree_12 : decode cX9_agree 12 = .ok (.aload_n 0, 1) := by decide +kernel
theorem dX9_agree_13 : decode cX9_agree 13 = .ok (.getfield 41, 3) := by decide +kernel
theorem dX9_agree_16 : decode cX9_agree 16 = .ok (.iload_n 3, 1) := by decide +kernel
theorem dX9_agree_17 : decode cX9_agree 17 = .ok (.iload 4, 2) := by decide +kernel
theorem dX9_agree_19 : decode cX9_agree 19 = .ok (.invokestatic 188, 3) := by decide +kernel
theorem dX9_agree_22 : decode cX9_agree 22 = .ok (.ifCond .ne 6, 3) := by decide +kernel
theorem dX9_agree_25 : decode cX9_agree 25 = .ok (.bipush (-2), 2) := by decide +kernel
theorem dX9_agree_27 : decode cX9_agree 27 = .ok (.ireturn, 1) := by decide +kernel
theorem dX9_agree_28 : decode cX9_agree 28 = .ok (.aload_n 0, 1) := by decide +kernel
theorem dX9_agree_29 : decode cX9_agree 29 = .ok (.getfield 38, 3) := by decide +kernel
theorem dX9_agree_32 : decode cX9_agree 32 = .ok (.iload_n 1, 1) := by decide +kernel
theorem dX9_agree_33 : decode cX9_agree 33 = .ok (.iconst 0, 1) := by decide +kernel
theorem dX9_agree_34 : decode cX9_agree 34 = .ok (.invokevirtual 200, 3) := by decide +kernel
theorem dX9_agree_37 : decode cX9_agree 37 = .ok (.aload_n 0, 1) := by decide +kernel
theorem dX9_agree_38 : decode cX9_agree 38 = .ok (.getfield 41, 3) := by decide +kernel
theorem dX9_agree_41 : decode cX9_agree 41 = .ok (.iload_n 3, 1) := by decide +kernel
theorem dX9_agree_42 : decode cX9_agree 42 = .ok (.iconst 0, 1) := by decide +kernel
theorem dX9_agree_43 : decode cX9_agree 43 = .ok (.invokevirtual 200, 3) := by decide +kernel
theorem dX9_agree_46 : decode cX9_agree 46 = .ok (.if_icmp .eq 6, 3) := by decide +kernel
theorem dX9_agree_49 : decode cX9_agree 49 = .ok (.bipush (-2), 2) := by decide +kernel
theorem dX9_agree_51 : decode cX9_agree 51 = .ok (.ireturn, 1) := by decide +kernel
theorem dX9_agree_52 : decode cX9_agree 52 = .ok (.aload_n 0, 1) := by decide +kernel
theorem dX9_agree_53 : decode cX9_agree 53 = .ok (.getfield 70, 3) := by decide +kernel
theorem dX9_agree_56 : decode cX9_agree 56 = .ok (.iload_n 1, 1) := by decide +kernel
theorem dX9_agree_57 : decode cX9_agree 57 = .ok (.iload_n 2, 1) := by decide +kernel
theorem dX9_agree_58 : decode cX9_agree 58 = .ok (.invokevirtual 203, 3) := by decide +kernel
theorem dX9_agree_61 : decode cX9_agree 61 = .ok (.ifCond .ne 6, 3) := by decide +kernel
theorem dX9_agree_64 : decode cX9_agree 64 = .ok (.bipush (-3), 2) := by decide +kernel
theorem dX9_agree_66 : decode cX9_agree 66 = .ok (.ireturn, 1) := by decide +kernel
theorem dX9_agree_67 : decode cX9_agree 67 = .ok (.aload_n 0, 1) := by decide +kernel
theorem dX9_agree_68 : decode cX9_agree 68 = .ok (.getfield 70, 3) := by decide +kernel
theorem dX9_agree_71 : decode cX9_agree 71 = .ok (.iload_n 1, 1) := by decide +kernel
theorem dX9_agree_72 : decode cX9_agree 72 = .ok (.iload_n 2, 1) := by decide +kernel
theorem dX9_agree_73 : decode cX9_agree 73 = .ok (.iload_n 3, 1) := by decide +kernel
theorem dX9_agree_74 : decode cX9_agree 74 = .ok (.iload 4, 2) := by decide +kernel
theorem dX9_agree_76 : decode cX9_agree 76 = .ok (.invokevirtual 206, 3) := by decide +kernel
theorem dX9_agree_79 : decode cX9_agree 79 = .ok (.ifCond .eq 7, 3) := by decide +kernel
theorem dX9_agree_82 : decode cX9_agree 82 = .ok (.iconst 1, 1) := by decide +kernel
theorem dX9_agree_83 : decode cX9_agree 83 = .ok (.goto 4, 3) := by decide +kernel
theorem dX9_agree_86 : decode cX9_agree 86 = .ok (.iconst 0, 1) := by decide +kernel
theorem dX9_agree_87 : decode cX9_agree 87 = .ok (.ireturn, 1) := by decide +kernel
set_option maxRecDepth 100000 in
def fX9_agree (x1 : Int32) (x2 : Int32) (x3 : Int32) (x4 : Int32) (t_settings_base : Int32) (t_settings_slip : Int32) (t_sights_width : Int32) (t_sights_lines : Int32) (t_shadows_width : Int32) (t_shadows_lines : Int32) (t_sights_cells_n : Nat) (t_sights_cells_a : Nat → Int32) (t_shadows_cells_n : Nat) (t_shadows_cells_a : Nat → Int32) (t_speeds_sightLow_above : Int64) (t_speeds_sightLow_below : Int64) (t_speeds_sightHigh_above : Int64) (t_speeds_sightHigh_below : Int64) (t_speeds_shadowLow_above : Int64) (t_speeds_shadowLow_below : Int64) (t_speeds_shadowHigh_above : Int64) (t_speeds_shadowHigh_below : Int64) : Option (Int32 × Int64 × Int64 × Int64 × Int64 × Int64 × Int64 × Int64 × Int64) :=
  ob (fX6_areOfOnePuff x1 x2 t_sights_width t_sights_lines t_sights_cells_n t_sights_cells_a) fun r1 =>
  if (b2i r1) = 0 then
    some ((-2), t_speeds_sightLow_above, t_speeds_sightLow_below, t_speeds_sightHigh_above, t_speeds_sightHigh_below, t_speeds_shadowLow_above, t_speeds_shadowLow_below, t_speeds_shadowHigh_above, t_speeds_shadowHigh_below)
  else
    ob (fX6_areOfOnePuff x3 x4 t_shadows_width t_shadows_lines t_shadows_cells_n t_shadows_cells_a) fun r4 =>
    if (b2i r4) = 0 then
      some ((-2), t_speeds_sightLow_above, t_speeds_sightLow_below, t_speeds_sightHigh_above, t_speeds_sightHigh_below, t_speeds_shadowLow_above, t_speeds_shadowLow_below, t_speeds_shadowHigh_above, t_speeds_shadowHigh_below)
    else
      ob (fX7_at x1 0 t_sights_width t_sights_cells_n t_sights_cells_a) fun r7 =>
      ob (fX7_at x3 0 t_shadows_width t_shadows_cells_n t_shadows_cells_a) fun r9 =>
      if r7 = r9 then
        ob (fX6_haveSpan x1 x2 t_settings_slip t_sights_width t_sights_cells_n t_sights_cells_a) fun r12 =>
        if (b2i r12) = 0 then
          some ((-3), t_speeds_sightLow_above, t_speeds_sightLow_below, t_speeds_sightHigh_above, t_speeds_sightHigh_below, t_speeds_shadowLow_above, t_speeds_shadowLow_below, t_speeds_shadowHigh_above, t_speeds_shadowHigh_below)
        else
          ob9 (fX6_spansMeet x1 x2 x3 x4 t_settings_base t_settings_slip t_sights_width t_shadows_width t_speeds_sightLow_above t_speeds_sightLow_below t_speeds_sightHigh_above t_speeds_sightHigh_below t_speeds_shadowLow_above t_speeds_shadowLow_below t_speeds_shadowHigh_above t_speeds_shadowHigh_below t_sights_cells_n t_sights_cells_a t_shadows_cells_n t_shadows_cells_a) fun r15 w16 w17 w18 w19 w20 w21 w22 w23 =>
          if (b2i r15) = 0 then
            some (0, w16, w17, w18, w19, w20, w21, w22, w23)
          else
            some (1, w16, w17, w18, w19, w20, w21, w22, w23)
      else
        some ((-2), t_speeds_sightLow_above, t_speeds_sightLow_below, t_speeds_sightHigh_above, t_speeds_sightHigh_below, t_speeds_shadowLow_above, t_speeds_shadowLow_below, t_speeds_shadowHigh_above, t_speeds_shadowHigh_below)
abbrev rmX9_agree : Room := { frames := 5, cells := 0, slots := 0, locals := 126 }
theorem iwX9_agree_X9 : ∀ w ∈ u_ws RX9 TX9 17, w ∈ wsX9_agree := by decide +kernel
set_option maxHeartbeats 4000000 in
set_option maxRecDepth 100000 in
theorem k_X9_agree (l : Launch) (G : va_G) (cI cJ : ClassId) (t_h t_fraction_h t_settings_h t_firstEdges_h t_secondEdges_h t_layers_h t_sights_h t_shadows_h t_heights_h t_pairs_h t_rows_h t_notes_h t_matching_h t_speeds_h t_layering_h t_boards_h t_years_h t_sheets_h t_sights_cells_h t_shadows_cells_h t_speeds_sightLow_h t_speeds_sightHigh_h t_speeds_shadowLow_h t_speeds_shadowHigh_h : Nat) (sz : Nat) (t_settings_base : Int32) (t_settings_slip : Int32) (t_settings_low : Int32) (t_settings_high : Int32) (t_settings_unlike : Int32) (t_settings_alone : Int32) (t_sights_width : Int32) (t_sights_most : Int32) (t_sights_lines : Int32) (t_shadows_width : Int32) (t_shadows_most : Int32) (t_shadows_lines : Int32) (t_sights_cells_n : Nat) (t_sights_cells_a : Nat → Int32) (t_shadows_cells_n : Nat) (t_shadows_cells_a : Nat → Int32) (t_speeds_sightLow_above : Int64) (t_speeds_sightLow_below : Int64) (t_speeds_sightHigh_above : Int64) (t_speeds_sightHigh_below : Int64) (t_speeds_shadowLow_above : Int64) (t_speeds_shadowLow_below : Int64) (t_speeds_shadowHigh_above : Int64) (t_speeds_shadowHigh_below : Int64) (x1 : Int32) (x2 : Int32) (x3 : Int32) (x4 : Int32) {o_r : Int32} {o_t_speeds_sightLow_above : Int64} {o_t_speeds_sightLow_below : Int64} {o_t_speeds_sightHigh_above : Int64} {o_t_speeds_sightHigh_below : Int64} {o_t_speeds_shadowLow_above : Int64} {o_t_speeds_shadowLow_below : Int64} {o_t_speeds_shadowHigh_above : Int64} {o_t_speeds_shadowHigh_below : Int64} (hf : fX9_agree x1 x2 x3 x4 t_settings_base t_settings_slip t_sights_width t_sights_lines t_shadows_width t_shadows_lines t_sights_cells_n t_sights_cells_a t_shadows_cells_n t_shadows_cells_a t_speeds_sightLow_above t_speeds_sightLow_below t_speeds_sightHigh_above t_speeds_sightHigh_below t_speeds_shadowLow_above t_speeds_shadowLow_below t_speeds_shadowHigh_above t_speeds_shadowHigh_below = some (o_r, o_t_speeds_sightLow_above, o_t_speeds_sightLow_below, o_t_speeds_sightHigh_above, o_t_speeds_sightHigh_below, o_t_speeds_shadowLow_above, o_t_speeds_shadowLow_below, o_t_speeds_shadowHigh_above, o_t_speeds_shadowHigh_below)) : MetI l yX9_agree wsX9_agree rmX9_agree [.ref t_h, .int x1, .int x2, .int x3, .int x4] G cI cJ [(t_h, .inr (9, [.ref t_fraction_h, .ref t_settings_h, .ref t_firstEdges_h, .ref t_secondEdges_h, .ref t_layers_h, .ref t_sights_h, .ref t_shadows_h, .ref t_heights_h, .ref t_pairs_h, .ref t_rows_h, .ref t_notes_h, .ref t_matching_h, .ref t_speeds_h, .ref t_layering_h, .ref t_boards_h, .ref t_years_h, .ref t_sheets_h])), (t_settings_h, .inr (4, [.int t_settings_base, .int t_settings_slip, .int t_settings_low, .int t_settings_high, .int t_settings_unlike, .int t_settings_alone])), (t_sights_h, .inr (7, [.int t_sights_width, .int t_sights_most, .ref t_sights_cells_h, .int t_sights_lines])), (t_shadows_h, .inr (7, [.int t_shadows_width, .int t_shadows_most, .ref t_shadows_cells_h, .int t_shadows_lines])), (t_speeds_h, .inr (6, [.ref t_settings_h, .ref t_sights_h, .ref t_shadows_h, .ref t_speeds_sightLow_h, .ref t_speeds_sightHigh_h, .ref t_speeds_shadowLow_h, .ref t_speeds_shadowHigh_h])), (t_sights_cells_h, .inl (cI, t_sights_cells_n, .inl t_sights_cells_a)), (t_shadows_cells_h, .inl (cI, t_shadows_cells_n, .inl t_shadows_cells_a)), (t_speeds_sightLow_h, .inr (1, [.long t_speeds_sightLow_above, .long t_speeds_sightLow_below])), (t_speeds_sightHigh_h, .inr (1, [.long t_speeds_sightHigh_above, .long t_speeds_sightHigh_below])), (t_speeds_shadowLow_h, .inr (1, [.long t_speeds_shadowLow_above, .long t_speeds_shadowLow_below])), (t_speeds_shadowHigh_h, .inr (1, [.long t_speeds_shadowHigh_above, .long t_speeds_shadowHigh_below]))] [(t_h, .inr (9, [.ref t_fraction_h, .ref t_settings_h, .ref t_firstEdges_h, .ref t_secondEdges_h, .ref t_layers_h, .ref t_sights_h, .ref t_shadows_h, .ref t_heights_h, .ref t_pairs_h, .ref t_rows_h, .ref t_notes_h, .ref t_matching_h, .ref t_speeds_h, .ref t_layering_h, .ref t_boards_h, .ref t_years_h, .ref t_sheets_h])), (t_settings_h, .inr (4, [.int t_settings_base, .int t_settings_slip, .int t_settings_low, .int t_settings_high, .int t_settings_unlike, .int t_settings_alone])), (t_sights_h, .inr (7, [.int t_sights_width, .int t_sights_most, .ref t_sights_cells_h, .int t_sights_lines])), (t_shadows_h, .inr (7, [.int t_shadows_width, .int t_shadows_most, .ref t_shadows_cells_h, .int t_shadows_lines])), (t_speeds_h, .inr (6, [.ref t_settings_h, .ref t_sights_h, .ref t_shadows_h, .ref t_speeds_sightLow_h, .ref t_speeds_sightHigh_h, .ref t_speeds_shadowLow_h, .ref t_speeds_shadowHigh_h])), (t_sights_cells_h, .inl (cI, t_sights_cells_n, .inl t_sights_cells_a)), (t_shadows_cells_h, .inl (cI, t_shadows_cells_n, .inl t_shadows_cells_a)), (t_speeds_sightLow_h, .inr (1, [.long o_t_speeds_sightLow_above, .long o_t_speeds_sightLow_below])), (t_speeds_sightHigh_h, .inr (1, [.long o_t_speeds_sightHigh_above, .long o_t_speeds_sightHigh_below])), (t_speeds_shadowLow_h, .inr (1, [.long o_t_speeds_shadowLow_above, .long o_t_speeds_shadowLow_below])), (t_speeds_shadowHigh_h, .inr (1, [.long o_t_speeds_shadowHigh_above, .long o_t_speeds_shadowHigh_below]))] sz o_r := by
  refine en_0 (l := l) (y := yX9_agree) (wsl := wsX9_agree) (rm := rmX9_agree) (av := [.ref t_h, .int x1, .int x2, .int x3, .int x4]) (G := G) (cI := cI) (cJ := cJ) (w0 := [(t_h, .inr (9, [.ref t_fraction_h, .ref t_settings_h, .ref t_firstEdges_h, .ref t_secondEdges_h, .ref t_layers_h, .ref t_sights_h, .ref t_shadows_h, .ref t_heights_h, .ref t_pairs_h, .ref t_rows_h, .ref t_notes_h, .ref t_matching_h, .ref t_speeds_h, .ref t_layering_h, .ref t_boards_h, .ref t_years_h, .ref t_sheets_h])), (t_settings_h, .inr (4, [.int t_settings_base, .int t_settings_slip, .int t_settings_low, .int t_settings_high, .int t_settings_unlike, .int t_settings_alone])), (t_sights_h, .inr (7, [.int t_sights_width, .int t_sights_most, .ref t_sights_cells_h, .int t_sights_lines])), (t_shadows_h, .inr (7, [.int t_shadows_width, .int t_shadows_most, .ref t_shadows_cells_h, .int t_shadows_lines])), (t_speeds_h, .inr (6, [.ref t_settings_h, .ref t_sights_h, .ref t_shadows_h, .ref t_speeds_sightLow_h, .ref t_speeds_sightHigh_h, .ref t_speeds_shadowLow_h, .ref t_speeds_shadowHigh_h])), (t_sights_cells_h, .inl (cI, t_sights_cells_n, .inl t_sights_cells_a)), (t_shadows_cells_h, .inl (cI, t_shadows_cells_n, .inl t_shadows_cells_a)), (t_speeds_sightLow_h, .inr (1, [.long t_speeds_sightLow_above, .long t_speeds_sightLow_below])), (t_speeds_sightHigh_h, .inr (1, [.long t_speeds_sightHigh_above, .long t_speeds_sightHigh_below])), (t_speeds_shadowLow_h, .inr (1, [.long t_speeds_shadowLow_above, .long t_speeds_shadowLow_below])), (t_speeds_shadowHigh_h, .inr (1, [.long t_speeds_shadowHigh_above, .long t_speeds_shadowHigh_below]))]) (sz := sz) (Qf := fun A => Qi0 G cI cJ [(t_h, .inr (9, [.ref t_fraction_h, .ref t_settings_h, .ref t_firstEdges_h, .ref t_secondEdges_h, .ref t_layers_h, .ref t_sights_h, .ref t_shadows_h, .ref t_heights_h, .ref t_pairs_h, .ref t_rows_h, .ref t_notes_h, .ref t_matching_h, .ref t_speeds_h, .ref t_layering_h, .ref t_boards_h, .ref t_years_h, .ref t_sheets_h])), (t_settings_h, .inr (4, [.int t_settings_base, .int t_settings_slip, .int t_settings_low, .int t_settings_high, .int t_settings_unlike, .int t_settings_alone])), (t_sights_h, .inr (7, [.int t_sights_width, .int t_sights_most, .ref t_sights_cells_h, .int t_sights_lines])), (t_shadows_h, .inr (7, [.int t_shadows_width, .int t_shadows_most, .ref t_shadows_cells_h, .int t_shadows_lines])), (t_speeds_h, .inr (6, [.ref t_settings_h, .ref t_sights_h, .ref t_shadows_h, .ref t_speeds_sightLow_h, .ref t_speeds_sightHigh_h, .ref t_speeds_shadowLow_h, .ref t_speeds_shadowHigh_h])), (t_sights_cells_h, .inl (cI, t_sights_cells_n, .inl t_sights_cells_a)), (t_shadows_cells_h, .inl (cI, t_shadows_cells_n, .inl t_shadows_cells_a)), (t_speeds_sightLow_h, .inr (1, [.long o_t_speeds_sightLow_above, .long o_t_speeds_sightLow_below])), (t_speeds_sightHigh_h, .inr (1, [.long o_t_speeds_sightHigh_above, .long o_t_speeds_sightHigh_below])), (t_speeds_shadowLow_h, .inr (1, [.long o_t_speeds_shadowLow_above, .long o_t_speeds_shadowLow_below])), (t_speeds_shadowHigh_h, .inr (1, [.long o_t_speeds_shadowHigh_above, .long o_t_speeds_shadowHigh_below]))] o_r A) (cc := cX9_agree) (maxL := 5) (ret := (some .int)) RX9 (by decide +kernel) rfl rfl (Nat.le_of_ble_eq_true rfl) ?_
  intro p e s m args below meth c A ls Q hQ hx hb hr hts hown hlocks hml hN hK hP hD hS hA hl
  have hl : lv_has ls 5 [(0, .ref t_h), (1, .int x1), (2, .int x2), (3, .int x3), (4, .int x4)] := hl
  have iwX9 := iwX9_agree_X9
  have fl_38 := hts (.fieldLink RX9 38 "CloudOffice" "sights" "LCloudOffice$Table;") (by decide +kernel)
  have fl_41 := hts (.fieldLink RX9 41 "CloudOffice" "shadows" "LCloudOffice$Table;") (by decide +kernel)
  have fl_70 := hts (.fieldLink RX9 70 "CloudOffice" "speeds" "LCloudOffice$Speeds;") (by decide +kernel)
  have hret : ∀ (o_r9 : Int32) (o_t_speeds_sightLow_above9 : Int64) (o_t_speeds_sightLow_below9 : Int64) (o_t_speeds_sightHigh_above9 : Int64) (o_t_speeds_sightHigh_below9 : Int64) (o_t_speeds_shadowLow_above9 : Int64) (o_t_speeds_shadowLow_below9 : Int64) (o_t_speeds_shadowHigh_above9 : Int64) (o_t_speeds_shadowHigh_below9 : Int64) (pc : Nat) (H : Heap) (locs : List Loc) (ls : Array Slot), decode cX9_agree pc = .ok (.ireturn, 1) → some (o_r9, o_t_speeds_sightLow_above9, o_t_speeds_sightLow_below9, o_t_speeds_sightHigh_above9, o_t_speeds_sightHigh_below9, o_t_speeds_shadowLow_above9, o_t_speeds_shadowLow_below9, o_t_speeds_shadowHigh_above9, o_t_speeds_shadowHigh_below9) = some (o_r, o_t_speeds_sightLow_above, o_t_speeds_sightLow_below, o_t_speeds_sightHigh_above, o_t_speeds_sightHigh_below, o_t_speeds_shadowLow_above, o_t_speeds_shadowLow_below, o_t_speeds_shadowHigh_above, o_t_speeds_shadowHigh_below) → va_P G vwCl [(t_h, .inr (9, [.ref t_fraction_h, .ref t_settings_h, .ref t_firstEdges_h, .ref t_secondEdges_h, .ref t_layers_h, .ref t_sights_h, .ref t_shadows_h, .ref t_heights_h, .ref t_pairs_h, .ref t_rows_h, .ref t_notes_h, .ref t_matching_h, .ref t_speeds_h, .ref t_layering_h, .ref t_boards_h, .ref t_years_h, .ref t_sheets_h])), (t_settings_h, .inr (4, [.int t_settings_base, .int t_settings_slip, .int t_settings_low, .int t_settings_high, .int t_settings_unlike, .int t_settings_alone])), (t_sights_h, .inr (7, [.int t_sights_width, .int t_sights_most, .ref t_sights_cells_h, .int t_sights_lines])), (t_shadows_h, .inr (7, [.int t_shadows_width, .int t_shadows_most, .ref t_shadows_cells_h, .int t_shadows_lines])), (t_speeds_h, .inr (6, [.ref t_settings_h, .ref t_sights_h, .ref t_shadows_h, .ref t_speeds_sightLow_h, .ref t_speeds_sightHigh_h, .ref t_speeds_shadowLow_h, .ref t_speeds_shadowHigh_h])), (t_sights_cells_h, .inl (cI, t_sights_cells_n, .inl t_sights_cells_a)), (t_shadows_cells_h, .inl (cI, t_shadows_cells_n, .inl t_shadows_cells_a)), (t_speeds_sightLow_h, .inr (1, [.long o_t_speeds_sightLow_above9, .long o_t_speeds_sightLow_below9])), (t_speeds_sightHigh_h, .inr (1, [.long o_t_speeds_sightHigh_above9, .long o_t_speeds_sightHigh_below9])), (t_speeds_shadowLow_h, .inr (1, [.long o_t_speeds_shadowLow_above9, .long o_t_speeds_shadowLow_below9])), (t_speeds_shadowHigh_h, .inr (1, [.long o_t_speeds_shadowHigh_above9, .long o_t_speeds_shadowHigh_below9]))] H → va_D A [(t_h, .inr (9, [.ref t_fraction_h, .ref t_settings_h, .ref t_firstEdges_h, .ref t_secondEdges_h, .ref t_layers_h, .ref t_sights_h, .ref t_shadows_h, .ref t_heights_h, .ref t_pairs_h, .ref t_rows_h, .ref t_notes_h, .ref t_matching_h, .ref t_speeds_h, .ref t_layering_h, .ref t_boards_h, .ref t_years_h, .ref t_sheets_h])), (t_settings_h, .inr (4, [.int t_settings_base, .int t_settings_slip, .int t_settings_low, .int t_settings_high, .int t_settings_unlike, .int t_settings_alone])), (t_sights_h, .inr (7, [.int t_sights_width, .int t_sights_most, .ref t_sights_cells_h, .int t_sights_lines])), (t_shadows_h, .inr (7, [.int t_shadows_width, .int t_shadows_most, .ref t_shadows_cells_h, .int t_shadows_lines])), (t_speeds_h, .inr (6, [.ref t_settings_h, .ref t_sights_h, .ref t_shadows_h, .ref t_speeds_sightLow_h, .ref t_speeds_sightHigh_h, .ref t_speeds_shadowLow_h, .ref t_speeds_shadowHigh_h])), (t_sights_cells_h, .inl (cI, t_sights_cells_n, .inl t_sights_cells_a)), (t_shadows_cells_h, .inl (cI, t_shadows_cells_n, .inl t_shadows_cells_a)), (t_speeds_sightLow_h, .inr (1, [.long o_t_speeds_sightLow_above9, .long o_t_speeds_sightLow_below9])), (t_speeds_sightHigh_h, .inr (1, [.long o_t_speeds_sightHigh_above9, .long o_t_speeds_sightHigh_below9])), (t_speeds_shadowLow_h, .inr (1, [.long o_t_speeds_shadowLow_above9, .long o_t_speeds_shadowLow_below9])), (t_speeds_shadowHigh_h, .inr (1, [.long o_t_speeds_shadowHigh_above9, .long o_t_speeds_shadowHigh_below9]))] → va_S A s.heap H locs → W p l e rmX9_agree s m args below meth c H locs 0 0 Q (F0 m pc ls [.int o_r9]) := by
    intro o_r9 o_t_speeds_sightLow_above9 o_t_speeds_sightLow_below9 o_t_speeds_sightHigh_above9 o_t_speeds_sightHigh_below9 o_t_speeds_shadowLow_above9 o_t_speeds_shadowLow_below9 o_t_speeds_shadowHigh_above9 o_t_speeds_shadowHigh_below9 pc H locs ls hdg he hP hD hS
    cases he
    subst hQ
    exact rt_i hx hb hr hlocks hK hP hD hS rfl hdg
  clear hQ
  unfold fX9_agree at hf
  refine lv_aload_n hx hb dX9_agree_0 rfl (lv_at hl 0 rfl) ?_
  refine va_get (D := G) (ci := 9) (v := .ref t_sights_h) (C := RX9) (T := TX9) (N := 17) hx hb hts iwX9 hown hK hP 0 rfl rfl 5 (by decide) fl_38 (fun _ h9 => h9) rfl dX9_agree_1 ?_
  refine lv_iload_n hx hb dX9_agree_4 rfl (lv_at hl 1 rfl) ?_
  refine lv_iload_n hx hb dX9_agree_5 rfl (lv_at hl 2 rfl) ?_
  obtain ⟨r1, hc2, hf⟩ := ob_some hf
  refine af_iR (va_runS (As := [.ref t_sights_h, .int x1, .int x2]) (rest := []) ⟨hx, hb, hml, hown, hts⟩ (k_X6_areOfOnePuff l G cI cJ (L0_h := t_sights_h) (L0_cells_h := t_sights_cells_h) (L0_width := t_sights_width) (L0_most := t_sights_most) (L0_lines := t_sights_lines) (L0_cells_n := t_sights_cells_n) (L0_cells_a := t_sights_cells_a) (x1 := x1) (x2 := x2) (sz := _) (hf := hc2)) (va_cwS 3 hts gX9_agree_X6_areOfOnePuff rfl rfl rfl (by decide +kernel) ⟨Nat.le_of_ble_eq_true rfl, Nat.le_of_ble_eq_true rfl⟩) (preS0 (wc := [(t_sights_h, .inr (7, [.int t_sights_width, .int t_sights_most, .ref t_sights_cells_h, .int t_sights_lines])), (t_sights_cells_h, .inl (cI, t_sights_cells_n, .inl t_sights_cells_a))]) hK hP hD hN [2, 5] rfl rfl (by decide)) rfl rfl hl.1 rfl (lv_room (Nat.le_of_ble_eq_true rfl)) dX9_agree_6 ⟨Nat.zero_le _, Nat.zero_le _⟩) hP hD hS hA [2, 5] rfl (fun H locs hP hS => ?_)
  refine lv_if_eq (tgt := 25) hx hb dX9_agree_9 (by decide) (fun c3 => ?_) (fun c3 => ?_)
  · have hf := ift hf c3
    refine lv_bipush (v := (-2)) hx hb dX9_agree_25 (by decide) ?_
    exact hret (-2) t_speeds_sightLow_above t_speeds_sightLow_below t_speeds_sightHigh_above t_speeds_sightHigh_below t_speeds_shadowLow_above t_speeds_shadowLow_below t_speeds_shadowHigh_above t_speeds_shadowHigh_below 27 _ _ _ dX9_agree_27 hf hP hD hS
  · have hf := iff_ hf c3
    refine lv_aload_n hx hb dX9_agree_12 rfl (lv_at hl 0 rfl) ?_
    refine va_get (D := G) (ci := 9) (v := .ref t_shadows_h) (C := RX9) (T := TX9) (N := 17) hx hb hts iwX9 hown hK hP 0 rfl rfl 6 (by decide) fl_41 (fun _ h9 => h9) rfl dX9_agree_13 ?_
    refine lv_iload_n hx hb dX9_agree_16 rfl (lv_at hl 3 rfl) ?_
    refine lv_iload hx hb dX9_agree_17 (lv_at hl 4 rfl) ?_
    obtain ⟨r4, hc5, hf⟩ := ob_some hf
    refine af_iR (va_runS (As := [.ref t_shadows_h, .int x3, .int x4]) (rest := []) ⟨hx, hb, hml, hown, hts⟩ (k_X6_areOfOnePuff l G cI cJ (L0_h := t_shadows_h) (L0_cells_h := t_shadows_cells_h) (L0_width := t_shadows_width) (L0_most := t_shadows_most) (L0_lines := t_shadows_lines) (L0_cells_n := t_shadows_cells_n) (L0_cells_a := t_shadows_cells_a) (x1 := x3) (x2 := x4) (sz := _) (hf := hc5)) (va_cwS 3 hts gX9_agree_X6_areOfOnePuff rfl rfl rfl (by decide +kernel) ⟨Nat.le_of_ble_eq_true rfl, Nat.le_of_ble_eq_true rfl⟩) (preS0 (wc := [(t_shadows_h, .inr (7, [.int t_shadows_width, .int t_shadows_most, .ref t_shadows_cells_h, .int t_shadows_lines])), (t_shadows_cells_h, .inl (cI, t_shadows_cells_n, .inl t_shadows_cells_a))]) hK hP hD hN [3, 6] rfl rfl (by decide)) rfl rfl hl.1 rfl (lv_room (Nat.le_of_ble_eq_true rfl)) dX9_agree_19 ⟨Nat.zero_le _, Nat.zero_le _⟩) hP hD hS hA [3, 6] rfl (fun H locs hP hS => ?_)
    refine lv_if_ne (tgt := 28) hx hb dX9_agree_22 (by decide) (fun c6 => ?_) (fun c6 => ?_)
    · have hf := iff_ hf c6
      refine lv_aload_n hx hb dX9_agree_28 rfl (lv_at hl 0 rfl) ?_
      refine va_get (D := G) (ci := 9) (v := .ref t_sights_h) (C := RX9) (T := TX9) (N := 17) hx hb hts iwX9 hown hK hP 0 rfl rfl 5 (by decide) fl_38 (fun _ h9 => h9) rfl dX9_agree_29 ?_
      refine lv_iload_n hx hb dX9_agree_32 rfl (lv_at hl 1 rfl) ?_
      refine lv_iconst (v := 0) hx hb dX9_agree_33 (by decide) ?_
      obtain ⟨r7, hc8, hf⟩ := ob_some hf
      refine af_iR (va_runV (As := [.int x1, .int 0]) (rest := []) ⟨hx, hb, hml, hown, hts⟩ (k_X7_at l G cI cJ (t_h := t_sights_h) (t_cells_h := t_sights_cells_h) (t_width := t_sights_width) (t_most := t_sights_most) (t_lines := t_sights_lines) (t_cells_n := t_sights_cells_n) (t_cells_a := t_sights_cells_a) (x1 := x1) (x2 := 0) (sz := _) (hf := hc8)) (cwV 2 hts gX9_agree_X7_at rfl rfl rfl (by decide +kernel) ⟨Nat.le_of_ble_eq_true rfl, Nat.le_of_ble_eq_true rfl⟩) (preV0 (ci := 7) (q0 := 0) (C := RX7) (wc := [(t_sights_h, .inr (7, [.int t_sights_width, .int t_sights_most, .ref t_sights_cells_h, .int t_sights_lines])), (t_sights_cells_h, .inl (cI, t_sights_cells_n, .inl t_sights_cells_a))]) hK hP hD hN [2, 5] rfl rfl (by decide) rfl rfl) rfl rfl hl.1 rfl (lv_room (Nat.le_of_ble_eq_true rfl)) dX9_agree_34 ⟨Nat.zero_le _, Nat.zero_le _⟩) hP hD hS hA [2, 5] rfl (fun H locs hP hS => ?_)
      refine lv_aload_n hx hb dX9_agree_37 rfl (lv_at hl 0 rfl) ?_
      refine va_get (D := G) (ci := 9) (v := .ref t_shadows_h) (C := RX9) (T := TX9) (N := 17) hx hb hts iwX9 hown hK hP 0 rfl rfl 6 (by decide) fl_41 (fun _ h9 => h9) rfl dX9_agree_38 ?_
      refine lv_iload_n hx hb dX9_agree_41 rfl (lv_at hl 3 rfl) ?_
      refine lv_iconst (v := 0) hx hb dX9_agree_42 (by decide) ?_
      obtain ⟨r9, hc10, hf⟩ := ob_some hf
      refine af_iR (va_runV (As := [.int x3, .int 0]) (rest := [.int r7]) ⟨hx, hb, hml, hown, hts⟩ (k_X7_at l G cI cJ (t_h := t_shadows_h) (t_cells_h := t_shadows_cells_h) (t_width := t_shadows_width) (t_most := t_shadows_most) (t_lines := t_shadows_lines) (t_cells_n := t_shadows_cells_n) (t_cells_a := t_shadows_cells_a) (x1 := x3) (x2 := 0) (sz := _) (hf := hc10)) (cwV 2 hts gX9_agree_X7_at rfl rfl rfl (by decide +kernel) ⟨Nat.le_of_ble_eq_true rfl, Nat.le_of_ble_eq_true rfl⟩) (preV0 (ci := 7) (q0 := 0) (C := RX7) (wc := [(t_shadows_h, .inr (7, [.int t_shadows_width, .int t_shadows_most, .ref t_shadows_cells_h, .int t_shadows_lines])), (t_shadows_cells_h, .inl (cI, t_shadows_cells_n, .inl t_shadows_cells_a))]) hK hP hD hN [3, 6] rfl rfl (by decide) rfl rfl) rfl rfl hl.1 rfl (lv_room (Nat.le_of_ble_eq_true rfl)) dX9_agree_43 ⟨Nat.zero_le _, Nat.zero_le _⟩) hP hD hS hA [3, 6] rfl (fun H locs hP hS => ?_)
      refine lv_icmp_eq (tgt := 52) hx hb dX9_agree_46 (by decide) (fun c11 => ?_) (fun c11 => ?_)
      · have hf := ift hf c11
        refine lv_aload_n hx hb dX9_agree_52 rfl (lv_at hl 0 rfl) ?_
        refine va_get (D := G) (ci := 9) (v := .ref t_speeds_h) (C := RX9) (T := TX9) (N := 17) hx hb hts iwX9 hown hK hP 0 rfl rfl 12 (by decide) fl_70 (fun _ h9 => h9) rfl dX9_agree_53 ?_
        refine lv_iload_n hx hb dX9_agree_56 rfl (lv_at hl 1 rfl) ?_
        refine lv_iload_n hx hb dX9_agree_57 rfl (lv_at hl 2 rfl) ?_
        obtain ⟨r12, hc13, hf⟩ := ob_some hf
        refine af_iR (va_runV (As := [.int x1, .int x2]) (rest := []) ⟨hx, hb, hml, hown, hts⟩ (k_X6_haveSpan l G cI cJ (t_h := t_speeds_h) (t_settings_h := t_settings_h) (t_sights_h := t_sights_h) (t_shadows_h := t_shadows_h) (t_sightLow_h := t_speeds_sightLow_h) (t_sightHigh_h := t_speeds_sightHigh_h) (t_shadowLow_h := t_speeds_shadowLow_h) (t_shadowHigh_h := t_speeds_shadowHigh_h) (t_sights_cells_h := t_sights_cells_h) (t_settings_base := t_settings_base) (t_settings_slip := t_settings_slip) (t_settings_low := t_settings_low) (t_settings_high := t_settings_high) (t_settings_unlike := t_settings_unlike) (t_settings_alone := t_settings_alone) (t_sights_width := t_sights_width) (t_sights_most := t_sights_most) (t_sights_lines := t_sights_lines) (t_sights_cells_n := t_sights_cells_n) (t_sights_cells_a := t_sights_cells_a) (x1 := x1) (x2 := x2) (sz := _) (hf := hc13)) (cwV 2 hts gX9_agree_X6_haveSpan rfl rfl rfl (by decide +kernel) ⟨Nat.le_of_ble_eq_true rfl, Nat.le_of_ble_eq_true rfl⟩) (preV0 (ci := 6) (q0 := 0) (C := RX6) (wc := [(t_speeds_h, .inr (6, [.ref t_settings_h, .ref t_sights_h, .ref t_shadows_h, .ref t_speeds_sightLow_h, .ref t_speeds_sightHigh_h, .ref t_speeds_shadowLow_h, .ref t_speeds_shadowHigh_h])), (t_settings_h, .inr (4, [.int t_settings_base, .int t_settings_slip, .int t_settings_low, .int t_settings_high, .int t_settings_unlike, .int t_settings_alone])), (t_sights_h, .inr (7, [.int t_sights_width, .int t_sights_most, .ref t_sights_cells_h, .int t_sights_lines])), (t_sights_cells_h, .inl (cI, t_sights_cells_n, .inl t_sights_cells_a))]) hK hP hD hN [4, 1, 2, 5] rfl rfl (by decide) rfl rfl) rfl rfl hl.1 rfl (lv_room (Nat.le_of_ble_eq_true rfl)) dX9_agree_58 ⟨Nat.zero_le _, Nat.zero_le _⟩) hP hD hS hA [4, 1, 2, 5] rfl (fun H locs hP hS => ?_)
        refine lv_if_ne (tgt := 67) hx hb dX9_agree_61 (by decide) (fun c14 => ?_) (fun c14 => ?_)
        · have hf := iff_ hf c14
          refine lv_aload_n hx hb dX9_agree_67 rfl (lv_at hl 0 rfl) ?_
          refine va_get (D := G) (ci := 9) (v := .ref t_speeds_h) (C := RX9) (T := TX9) (N := 17) hx hb hts iwX9 hown hK hP 0 rfl rfl 12 (by decide) fl_70 (fun _ h9 => h9) rfl dX9_agree_68 ?_
          refine lv_iload_n hx hb dX9_agree_71 rfl (lv_at hl 1 rfl) ?_
          refine lv_iload_n hx hb dX9_agree_72 rfl (lv_at hl 2 rfl) ?_
          refine lv_iload_n hx hb dX9_agree_73 rfl (lv_at hl 3 rfl) ?_
          refine lv_iload hx hb dX9_agree_74 (lv_at hl 4 rfl) ?_
          obtain ⟨r15, w16, w17, w18, w19, w20, w21, w22, w23, hc24, hf⟩ := ob9_some hf
          refine af_iW (wr := [(t_h, .inr (9, [.ref t_fraction_h, .ref t_settings_h, .ref t_firstEdges_h, .ref t_secondEdges_h, .ref t_layers_h, .ref t_sights_h, .ref t_shadows_h, .ref t_heights_h, .ref t_pairs_h, .ref t_rows_h, .ref t_notes_h, .ref t_matching_h, .ref t_speeds_h, .ref t_layering_h, .ref t_boards_h, .ref t_years_h, .ref t_sheets_h]))]) (ws2 := [(t_h, .inr (9, [.ref t_fraction_h, .ref t_settings_h, .ref t_firstEdges_h, .ref t_secondEdges_h, .ref t_layers_h, .ref t_sights_h, .ref t_shadows_h, .ref t_heights_h, .ref t_pairs_h, .ref t_rows_h, .ref t_notes_h, .ref t_matching_h, .ref t_speeds_h, .ref t_layering_h, .ref t_boards_h, .ref t_years_h, .ref t_sheets_h])), (t_settings_h, .inr (4, [.int t_settings_base, .int t_settings_slip, .int t_settings_low, .int t_settings_high, .int t_settings_unlike, .int t_settings_alone])), (t_sights_h, .inr (7, [.int t_sights_width, .int t_sights_most, .ref t_sights_cells_h, .int t_sights_lines])), (t_shadows_h, .inr (7, [.int t_shadows_width, .int t_shadows_most, .ref t_shadows_cells_h, .int t_shadows_lines])), (t_speeds_h, .inr (6, [.ref t_settings_h, .ref t_sights_h, .ref t_shadows_h, .ref t_speeds_sightLow_h, .ref t_speeds_sightHigh_h, .ref t_speeds_shadowLow_h, .ref t_speeds_shadowHigh_h])), (t_sights_cells_h, .inl (cI, t_sights_cells_n, .inl t_sights_cells_a)), (t_shadows_cells_h, .inl (cI, t_shadows_cells_n, .inl t_shadows_cells_a)), (t_speeds_sightLow_h, .inr (1, [.long w16, .long w17])), (t_speeds_sightHigh_h, .inr (1, [.long w18, .long w19])), (t_speeds_shadowLow_h, .inr (1, [.long w20, .long w21])), (t_speeds_shadowHigh_h, .inr (1, [.long w22, .long w23]))]) (va_runV (As := [.int x1, .int x2, .int x3, .int x4]) (rest := []) ⟨hx, hb, hml, hown, hts⟩ (k_X6_spansMeet l G cI cJ (t_h := t_speeds_h) (t_settings_h := t_settings_h) (t_sights_h := t_sights_h) (t_shadows_h := t_shadows_h) (t_sightLow_h := t_speeds_sightLow_h) (t_sightHigh_h := t_speeds_sightHigh_h) (t_shadowLow_h := t_speeds_shadowLow_h) (t_shadowHigh_h := t_speeds_shadowHigh_h) (t_sights_cells_h := t_sights_cells_h) (t_shadows_cells_h := t_shadows_cells_h) (t_settings_base := t_settings_base) (t_settings_slip := t_settings_slip) (t_settings_low := t_settings_low) (t_settings_high := t_settings_high) (t_settings_unlike := t_settings_unlike) (t_settings_alone := t_settings_alone) (t_sights_width := t_sights_width) (t_sights_most := t_sights_most) (t_sights_lines := t_sights_lines) (t_shadows_width := t_shadows_width) (t_shadows_most := t_shadows_most) (t_shadows_lines := t_shadows_lines) (t_sightLow_above := t_speeds_sightLow_above) (t_sightLow_below := t_speeds_sightLow_below) (t_sightHigh_above := t_speeds_sightHigh_above) (t_sightHigh_below := t_speeds_sightHigh_below) (t_shadowLow_above := t_speeds_shadowLow_above) (t_shadowLow_below := t_speeds_shadowLow_below) (t_shadowHigh_above := t_speeds_shadowHigh_above) (t_shadowHigh_below := t_speeds_shadowHigh_below) (t_sights_cells_n := t_sights_cells_n) (t_sights_cells_a := t_sights_cells_a) (t_shadows_cells_n := t_shadows_cells_n) (t_shadows_cells_a := t_shadows_cells_a) (x1 := x1) (x2 := x2) (x3 := x3) (x4 := x4) (sz := _) (hf := hc24)) (cwV 4 hts gX9_agree_X6_spansMeet rfl rfl rfl (by decide +kernel) ⟨Nat.le_of_ble_eq_true rfl, Nat.le_of_ble_eq_true rfl⟩) (preV0 (ci := 6) (q0 := 0) (C := RX6) (wc := [(t_speeds_h, .inr (6, [.ref t_settings_h, .ref t_sights_h, .ref t_shadows_h, .ref t_speeds_sightLow_h, .ref t_speeds_sightHigh_h, .ref t_speeds_shadowLow_h, .ref t_speeds_shadowHigh_h])), (t_settings_h, .inr (4, [.int t_settings_base, .int t_settings_slip, .int t_settings_low, .int t_settings_high, .int t_settings_unlike, .int t_settings_alone])), (t_sights_h, .inr (7, [.int t_sights_width, .int t_sights_most, .ref t_sights_cells_h, .int t_sights_lines])), (t_shadows_h, .inr (7, [.int t_shadows_width, .int t_shadows_most, .ref t_shadows_cells_h, .int t_shadows_lines])), (t_speeds_sightLow_h, .inr (1, [.long t_speeds_sightLow_above, .long t_speeds_sightLow_below])), (t_speeds_sightHigh_h, .inr (1, [.long t_speeds_sightHigh_above, .long t_speeds_sightHigh_below])), (t_speeds_shadowLow_h, .inr (1, [.long t_speeds_shadowLow_above, .long t_speeds_shadowLow_below])), (t_speeds_shadowHigh_h, .inr (1, [.long t_speeds_shadowHigh_above, .long t_speeds_shadowHigh_below])), (t_sights_cells_h, .inl (cI, t_sights_cells_n, .inl t_sights_cells_a)), (t_shadows_cells_h, .inl (cI, t_shadows_cells_n, .inl t_shadows_cells_a))]) hK hP hD hN [4, 1, 2, 3, 7, 8, 9, 10, 5, 6] rfl rfl (by decide) rfl rfl) rfl rfl hl.1 rfl (lv_room (Nat.le_of_ble_eq_true rfl)) dX9_agree_76 ⟨Nat.zero_le _, Nat.zero_le _⟩) hP hD hS hA [4, 1, 2, 3, 7, 8, 9, 10, 5, 6] [0] [0, 2, 3, 4, 1, 9, 10, 5, 6, 7, 8] rfl rfl (by decide) (by decide) rfl rfl (by decide) (fun H locs hP hD hS => ?_)
          refine lv_if_eq (tgt := 86) hx hb dX9_agree_79 (by decide) (fun c25 => ?_) (fun c25 => ?_)
          · have hf := ift hf c25
            refine lv_iconst (v := 0) hx hb dX9_agree_86 (by decide) ?_
            exact hret 0 w16 w17 w18 w19 w20 w21 w22 w23 87 _ _ _ dX9_agree_87 hf hP hD hS
          · have hf := iff_ hf c25
            refine lv_iconst (v := 1) hx hb dX9_agree_82 (by decide) ?_
            refine lv_goto (tgt := 87) hx hb dX9_agree_83 (by decide) ?_
            exact hret 1 w16 w17 w18 w19 w20 w21 w22 w23 87 _ _ _ dX9_agree_87 hf hP hD hS
        · have hf := ift hf c14
          refine lv_bipush (v := (-3)) hx hb dX9_agree_64 (by decide) ?_
          exact hret (-3) t_speeds_sightLow_above t_speeds_sightLow_below t_speeds_sightHigh_above t_speeds_sightHigh_below t_speeds_shadowLow_above t_speeds_shadowLow_below t_speeds_shadowHigh_above t_speeds_shadowHigh_below 66 _ _ _ dX9_agree_66 hf hP hD hS
      · have hf := iff_ hf c11
        refine lv_bipush (v := (-2)) hx hb dX9_agree_49 (by decide) ?_
        exact hret (-2) t_speeds_sightLow_above t_speeds_sightLow_below t_speeds_sightHigh_above t_speeds_sightHigh_below t_speeds_shadowLow_above t_speeds_shadowLow_below t_speeds_shadowHigh_above t_speeds_shadowHigh_below 51 _ _ _ dX9_agree_51 hf hP hD hS
    · have hf := ift hf c6
      refine lv_bipush (v := (-2)) hx hb dX9_agree_25 (by decide) ?_
      exact hret (-2) t_speeds_sightLow_above t_speeds_sightLow_below t_speeds_sightHigh_above t_speeds_sightHigh_below t_speeds_shadowLow_above t_speeds_shadowLow_below t_speeds_shadowHigh_above t_speeds_shadowHigh_below 27 _ _ _ dX9_agree_27 hf hP hD hS
set_option maxRecDepth 20000 in
theorem ggX9_balloon_X9_isWithin : GoodIn wsX9_balloon wsX9_isWithin := goodIn_r _ [4] (by decide +kernel) (by decide +kernel)
set_option maxRecDepth 20000 in
theorem gX9_balloon_X9_isWithin : GoodIn wsX9_balloon (va_wsS RX9 105 yX9_isWithin wsX9_isWithin) := goodIn_app (goodIn_of _ (by decide +kernel)) ggX9_balloon_X9_isWithin
theorem dX9_balloon_0 : decode cX9_balloon 0 = .ok (.iload_n 1, 1) := by decide +kernel
theorem dX9_balloon_1 : decode cX9_balloon 1 = .ok (.iconst 1, 1) := by decide +kernel
theorem dX9_balloon_2 : decode cX9_balloon 2 = .ok (.sipush 1000, 3) := by decide +kernel
theorem dX9_balloon_5 : decode cX9_balloon 5 = .ok (.invokestatic 105, 3) := by decide +kernel
theorem dX9_balloon_8 : decode cX9_balloon 8 = .ok (.ifCond .eq 14, 3) := by decide +kernel
theorem dX9_balloon_11 : decode cX9_balloon 11 = .ok (.iload_n 2, 1) := by decide +kernel
theorem dX9_balloon_12 : decode cX9_balloon 12 = .ok (.iconst 0, 1) := by decide +kernel
theorem dX9_balloon_13 : decode cX9_balloon 13 = .ok (.iload_n 1, 1) := by decide +kernel
theorem dX9_balloon_14 : decode cX9_balloon 14 = .ok (.iconst 1, 1) := by decide +kernel
theorem dX9_balloon_15 : decode cX9_balloon 15 = .ok (.isub, 1) := by decide +kernel
theorem dX9_balloon_16 : decode cX9_balloon 16 = .ok (.invokestatic 105, 3) := by decide +kernel
theorem dX9_balloon_19 : decode cX9_balloon 19 = .ok (.ifCond .ne 6, 3) := by decide +kernel
theorem dX9_balloon_22 : decode cX9_balloon 22 = .ok (.bipush (-2), 2) := by decide +kernel
theorem dX9_balloon_24 : decode cX9_balloon 24 = .ok (.ireturn, 1) := by decide +kernel
theorem dX9_balloon_25 : decode cX9_balloon 25 = .ok (.iload_n 3, 1) := by decide +kernel
theorem dX9_balloon_26 : decode cX9_balloon 26 = .ok (.iconst 1, 1) := by decide +kernel
theorem dX9_balloon_27 : decode cX9_balloon 27 = .ok (.sipush 1000, 3) := by decide +kernel
theorem dX9_balloon_30 : decode cX9_balloon 30 = .ok (.invokestatic 105, 3) := by decide +kernel
theorem dX9_balloon_33 : decode cX9_balloon 33 = .ok (.ifCond .eq 13, 3) := by decide +kernel
theorem dX9_balloon_36 : decode cX9_balloon 36 = .ok (.iload 4, 2) := by decide +kernel
theorem dX9_balloon_38 : decode cX9_balloon 38 = .ok (.iconst 0, 1) := by decide +kernel
theorem dX9_balloon_39 : decode cX9_balloon 39 = .ok (.iconst 1, 1) := by decide +kernel
theorem dX9_balloon_40 : decode cX9_balloon 40 = .ok (.invokestatic 105, 3) := by decide +kernel
theorem dX9_balloon_43 : decode cX9_balloon 43 = .ok (.ifCond .ne 6, 3) := by decide +kernel
theorem dX9_balloon_46 : decode cX9_balloon 46 = .ok (.bipush (-2), 2) := by decide +kernel
theorem dX9_balloon_48 : decode cX9_balloon 48 = .ok (.ireturn, 1) := by decide +kernel
theorem dX9_balloon_49 : decode cX9_balloon 49 = .ok (.iload 4, 2) := by decide +kernel
theorem dX9_balloon_51 : decode cX9_balloon 51 = .ok (.ifCond .ne 13, 3) := by decide +kernel
theorem dX9_balloon_54 : decode cX9_balloon 54 = .ok (.iload_n 1, 1) := by decide +kernel
theorem dX9_balloon_55 : decode cX9_balloon 55 = .ok (.iload_n 2, 1) := by decide +kernel
theorem dX9_balloon_56 : decode cX9_balloon 56 = .ok (.isub, 1) := by decide +kernel
theorem dX9_balloon_57 : decode cX9_balloon 57 = .ok (.iload_n 3, 1) := by decide +kernel
theorem dX9_balloon_58 : decode cX9_balloon 58 = .ok (.iconst 1, 1) := by decide +kernel
theorem dX9_balloon_59 : decode cX9_balloon 59 = .ok (.isub, 1) := by decide +kernel
theorem dX9_balloon_60 : decode cX9_balloon 60 = .ok (.imul, 1) := by decide +kernel
theorem dX9_balloon_61 : decode cX9_balloon 61 = .ok (.goto 8, 3) := by decide +kernel
theorem dX9_balloon_64 : decode cX9_balloon 64 = .ok (.iload_n 1, 1) := by decide +kernel
theorem dX9_balloon_65 : decode cX9_balloon 65 = .ok (.iload_n 2, 1) := by decide +kernel
theorem dX9_balloon_66 : decode cX9_balloon 66 = .ok (.iadd, 1) := by decide +kernel
theorem dX9_balloon_67 : decode cX9_balloon 67 = .ok (.iload_n 3, 1) := by decide +kernel
theorem dX9_balloon_68 : decode cX9_balloon 68 = .ok (.imul, 1) := by decide +kernel
theorem dX9_balloon_69 : decode cX9_balloon 69 = .ok (.ireturn, 1) := by decide +kernel
set_option maxRecDepth 100000 in
def fX9_balloon (x1 : Int32) (x2 : Int32) (x3 : Int32) (x4 : Int32) : Option (Int32) :=
  ob (fX9_isWithin x1 1 1000) fun r1 =>
  if (b2i r1) = 0 then
    some (-2)
  else
    ob (fX9_isWithin x2 0 (x1 - 1)) fun r4 =>
    if (b2i r4) = 0 then
      some (-2)
    else
      ob (fX9_isWithin x3 1 1000) fun r7 =>
      if (b2i r7) = 0 then
        some (-2)
      else
        ob (fX9_isWithin x4 0 1) fun r10 =>
        if (b2i r10) = 0 then
          some (-2)
        else
          if x4 = 0 then
            some ((x1 - x2) * (x3 - 1))
          else
            some ((x1 + x2) * x3)
abbrev rmX9_balloon : Room := { frames := 1, cells := 0, slots := 0, locals := 22 }
set_option maxHeartbeats 4000000 in
set_option maxRecDepth 100000 in
theorem k_X9_balloon (l : Launch) (G : va_G) (cI cJ : ClassId) (t_h t_fraction_h t_settings_h t_firstEdges_h t_secondEdges_h t_layers_h t_sights_h t_shadows_h t_heights_h t_pairs_h t_rows_h t_notes_h t_matching_h t_speeds_h t_layering_h t_boards_h t_years_h t_sheets_h : Nat) (sz : Nat) (x1 : Int32) (x2 : Int32) (x3 : Int32) (x4 : Int32) {o_r : Int32} (hf : fX9_balloon x1 x2 x3 x4 = some o_r) : MetI l yX9_balloon wsX9_balloon rmX9_balloon [.ref t_h, .int x1, .int x2, .int x3, .int x4] G cI cJ [(t_h, .inr (9, [.ref t_fraction_h, .ref t_settings_h, .ref t_firstEdges_h, .ref t_secondEdges_h, .ref t_layers_h, .ref t_sights_h, .ref t_shadows_h, .ref t_heights_h, .ref t_pairs_h, .ref t_rows_h, .ref t_notes_h, .ref t_matching_h, .ref t_speeds_h, .ref t_layering_h, .ref t_boards_h, .ref t_years_h, .ref t_sheets_h]))] [(t_h, .inr (9, [.ref t_fraction_h, .ref t_settings_h, .ref t_firstEdges_h, .ref t_secondEdges_h, .ref t_layers_h, .ref t_sights_h, .ref t_shadows_h, .ref t_heights_h, .ref t_pairs_h, .ref t_rows_h, .ref t_notes_h, .ref t_matching_h, .ref t_speeds_h, .ref t_layering_h, .ref t_boards_h, .ref t_years_h, .ref t_sheets_h]))] sz o_r := by
  refine en_0 (l := l) (y := yX9_balloon) (wsl := wsX9_balloon) (rm := rmX9_balloon) (av := [.ref t_h, .int x1, .int x2, .int x3, .int x4]) (G := G) (cI := cI) (cJ := cJ) (w0 := [(t_h, .inr (9, [.ref t_fraction_h, .ref t_settings_h, .ref t_firstEdges_h, .ref t_secondEdges_h, .ref t_layers_h, .ref t_sights_h, .ref t_shadows_h, .ref t_heights_h, .ref t_pairs_h, .ref t_rows_h, .ref t_notes_h, .ref t_matching_h, .ref t_speeds_h, .ref t_layering_h, .ref t_boards_h, .ref t_years_h, .ref t_sheets_h]))]) (sz := sz) (Qf := fun A => Qi0 G cI cJ [(t_h, .inr (9, [.ref t_fraction_h, .ref t_settings_h, .ref t_firstEdges_h, .ref t_secondEdges_h, .ref t_layers_h, .ref t_sights_h, .ref t_shadows_h, .ref t_heights_h, .ref t_pairs_h, .ref t_rows_h, .ref t_notes_h, .ref t_matching_h, .ref t_speeds_h, .ref t_layering_h, .ref t_boards_h, .ref t_years_h, .ref t_sheets_h]))] o_r A) (cc := cX9_balloon) (maxL := 5) (ret := (some .int)) RX9 (by decide +kernel) rfl rfl (Nat.le_of_ble_eq_true rfl) ?_
  intro p e s m args below meth c A ls Q hQ hx hb hr hts hown hlocks hml hN hK hP hD hS hA hl
  have hl : lv_has ls 5 [(0, .ref t_h), (1, .int x1), (2, .int x2), (3, .int x3), (4, .int x4)] := hl
  have hret : ∀ (o_r9 : Int32) (pc : Nat) (H : Heap) (locs : List Loc) (ls : Array Slot), decode cX9_balloon pc = .ok (.ireturn, 1) → some o_r9 = some o_r → va_P G vwCl [(t_h, .inr (9, [.ref t_fraction_h, .ref t_settings_h, .ref t_firstEdges_h, .ref t_secondEdges_h, .ref t_layers_h, .ref t_sights_h, .ref t_shadows_h, .ref t_heights_h, .ref t_pairs_h, .ref t_rows_h, .ref t_notes_h, .ref t_matching_h, .ref t_speeds_h, .ref t_layering_h, .ref t_boards_h, .ref t_years_h, .ref t_sheets_h]))] H → va_D A [(t_h, .inr (9, [.ref t_fraction_h, .ref t_settings_h, .ref t_firstEdges_h, .ref t_secondEdges_h, .ref t_layers_h, .ref t_sights_h, .ref t_shadows_h, .ref t_heights_h, .ref t_pairs_h, .ref t_rows_h, .ref t_notes_h, .ref t_matching_h, .ref t_speeds_h, .ref t_layering_h, .ref t_boards_h, .ref t_years_h, .ref t_sheets_h]))] → va_S A s.heap H locs → W p l e rmX9_balloon s m args below meth c H locs 0 0 Q (F0 m pc ls [.int o_r9]) := by
    intro o_r9 pc H locs ls hdg he hP hD hS
    cases he
    subst hQ
    exact rt_i hx hb hr hlocks hK hP hD hS rfl hdg
  clear hQ
  unfold fX9_balloon at hf
  refine lv_iload_n hx hb dX9_balloon_0 rfl (lv_at hl 1 rfl) ?_
  refine lv_iconst (v := 1) hx hb dX9_balloon_1 (by decide) ?_
  refine lv_sipush (v := 1000) hx hb dX9_balloon_2 (by decide) ?_
  obtain ⟨r1, hc2, hf⟩ := ob_some hf
  refine af_iR (va_runS (As := [.int x1, .int 1, .int 1000]) (rest := []) ⟨hx, hb, hml, hown, hts⟩ (k_X9_isWithin l G cI cJ (x0 := x1) (x1 := 1) (x2 := 1000) (sz := _) (hf := hc2)) (va_cwS 3 hts gX9_balloon_X9_isWithin rfl rfl rfl (by decide +kernel) ⟨Nat.le_of_ble_eq_true rfl, Nat.le_of_ble_eq_true rfl⟩) (preS0 (wc := []) hK hP hD hN [] rfl rfl (by decide)) rfl rfl hl.1 rfl (lv_room (Nat.le_of_ble_eq_true rfl)) dX9_balloon_5 ⟨Nat.zero_le _, Nat.zero_le _⟩) hP hD hS hA [] rfl (fun H locs hP hS => ?_)
  refine lv_if_eq (tgt := 22) hx hb dX9_balloon_8 (by decide) (fun c3 => ?_) (fun c3 => ?_)
  · have hf := ift hf c3
    refine lv_bipush (v := (-2)) hx hb dX9_balloon_22 (by decide) ?_
    exact hret (-2) 24 _ _ _ dX9_balloon_24 hf hP hD hS
  · have hf := iff_ hf c3
    refine lv_iload_n hx hb dX9_balloon_11 rfl (lv_at hl 2 rfl) ?_
    refine lv_iconst (v := 0) hx hb dX9_balloon_12 (by decide) ?_
    refine lv_iload_n hx hb dX9_balloon_13 rfl (lv_at hl 1 rfl) ?_
    refine lv_iconst (v := 1) hx hb dX9_balloon_14 (by decide) ?_
    refine lv_isub hx hb dX9_balloon_15 ?_
    obtain ⟨r4, hc5, hf⟩ := ob_some hf
    refine af_iR (va_runS (As := [.int x2, .int 0, .int (x1 - 1)]) (rest := []) ⟨hx, hb, hml, hown, hts⟩ (k_X9_isWithin l G cI cJ (x0 := x2) (x1 := 0) (x2 := (x1 - 1)) (sz := _) (hf := hc5)) (va_cwS 3 hts gX9_balloon_X9_isWithin rfl rfl rfl (by decide +kernel) ⟨Nat.le_of_ble_eq_true rfl, Nat.le_of_ble_eq_true rfl⟩) (preS0 (wc := []) hK hP hD hN [] rfl rfl (by decide)) rfl rfl hl.1 rfl (lv_room (Nat.le_of_ble_eq_true rfl)) dX9_balloon_16 ⟨Nat.zero_le _, Nat.zero_le _⟩) hP hD hS hA [] rfl (fun H locs hP hS => ?_)
    refine lv_if_ne (tgt := 25) hx hb dX9_balloon_19 (by decide) (fun c6 => ?_) (fun c6 => ?_)
    · have hf := iff_ hf c6
      refine lv_iload_n hx hb dX9_balloon_25 rfl (lv_at hl 3 rfl) ?_
      refine lv_iconst (v := 1) hx hb dX9_balloon_26 (by decide) ?_
      refine lv_sipush (v := 1000) hx hb dX9_balloon_27 (by decide) ?_
      obtain ⟨r7, hc8, hf⟩ := ob_some hf
      refine af_iR (va_runS (As := [.int x3, .int 1, .int 1000]) (rest := []) ⟨hx, hb, hml, hown, hts⟩ (k_X9_isWithin l G cI cJ (x0 := x3) (x1 := 1) (x2 := 1000) (sz := _) (hf := hc8)) (va_cwS 3 hts gX9_balloon_X9_isWithin rfl rfl rfl (by decide +kernel) ⟨Nat.le_of_ble_eq_true rfl, Nat.le_of_ble_eq_true rfl⟩) (preS0 (wc := []) hK hP hD hN [] rfl rfl (by decide)) rfl rfl hl.1 rfl (lv_room (Nat.le_of_ble_eq_true rfl)) dX9_balloon_30 ⟨Nat.zero_le _, Nat.zero_le _⟩) hP hD hS hA [] rfl (fun H locs hP hS => ?_)
      refine lv_if_eq (tgt := 46) hx hb dX9_balloon_33 (by decide) (fun c9 => ?_) (fun c9 => ?_)
      · have hf := ift hf c9
        refine lv_bipush (v := (-2)) hx hb dX9_balloon_46 (by decide) ?_
        exact hret (-2) 48 _ _ _ dX9_balloon_48 hf hP hD hS
      · have hf := iff_ hf c9
        refine lv_iload hx hb dX9_balloon_36 (lv_at hl 4 rfl) ?_
        refine lv_iconst (v := 0) hx hb dX9_balloon_38 (by decide) ?_
        refine lv_iconst (v := 1) hx hb dX9_balloon_39 (by decide) ?_
        obtain ⟨r10, hc11, hf⟩ := ob_some hf
        refine af_iR (va_runS (As := [.int x4, .int 0, .int 1]) (rest := []) ⟨hx, hb, hml, hown, hts⟩ (k_X9_isWithin l G cI cJ (x0 := x4) (x1 := 0) (x2 := 1) (sz := _) (hf := hc11)) (va_cwS 3 hts gX9_balloon_X9_isWithin rfl rfl rfl (by decide +kernel) ⟨Nat.le_of_ble_eq_true rfl, Nat.le_of_ble_eq_true rfl⟩) (preS0 (wc := []) hK hP hD hN [] rfl rfl (by decide)) rfl rfl hl.1 rfl (lv_room (Nat.le_of_ble_eq_true rfl)) dX9_balloon_40 ⟨Nat.zero_le _, Nat.zero_le _⟩) hP hD hS hA [] rfl (fun H locs hP hS => ?_)
        refine lv_if_ne (tgt := 49) hx hb dX9_balloon_43 (by decide) (fun c12 => ?_) (fun c12 => ?_)
        · have hf := iff_ hf c12
          refine lv_iload hx hb dX9_balloon_49 (lv_at hl 4 rfl) ?_
          refine lv_if_ne (tgt := 64) hx hb dX9_balloon_51 (by decide) (fun c13 => ?_) (fun c13 => ?_)
          · have hf := iff_ hf c13
            refine lv_iload_n hx hb dX9_balloon_64 rfl (lv_at hl 1 rfl) ?_
            refine lv_iload_n hx hb dX9_balloon_65 rfl (lv_at hl 2 rfl) ?_
            refine lv_iadd hx hb dX9_balloon_66 ?_
            refine lv_iload_n hx hb dX9_balloon_67 rfl (lv_at hl 3 rfl) ?_
            refine lv_imul hx hb dX9_balloon_68 ?_
            exact hret ((x1 + x2) * x3) 69 _ _ _ dX9_balloon_69 hf hP hD hS
          · have hf := ift hf c13
            refine lv_iload_n hx hb dX9_balloon_54 rfl (lv_at hl 1 rfl) ?_
            refine lv_iload_n hx hb dX9_balloon_55 rfl (lv_at hl 2 rfl) ?_
            refine lv_isub hx hb dX9_balloon_56 ?_
            refine lv_iload_n hx hb dX9_balloon_57 rfl (lv_at hl 3 rfl) ?_
            refine lv_iconst (v := 1) hx hb dX9_balloon_58 (by decide) ?_
            refine lv_isub hx hb dX9_balloon_59 ?_
            refine lv_imul hx hb dX9_balloon_60 ?_
            refine lv_goto (tgt := 69) hx hb dX9_balloon_61 (by decide) ?_
            exact hret ((x1 - x2) * (x3 - 1)) 69 _ _ _ dX9_balloon_69 hf hP hD hS
        · have hf := ift hf c12
          refine lv_bipush (v := (-2)) hx hb dX9_balloon_46 (by decide) ?_
          exact hret (-2) 48 _ _ _ dX9_balloon_48 hf hP hD hS
    · have hf := ift hf c6
      refine lv_bipush (v := (-2)) hx hb dX9_balloon_22 (by decide) ?_
      exact hret (-2) 24 _ _ _ dX9_balloon_24 hf hP hD hS
set_option maxRecDepth 20000 in
theorem ggX9_light_X9_isWithin : GoodIn wsX9_light wsX9_isWithin := goodIn_r _ [7] (by decide +kernel) (by decide +kernel)
set_option maxRecDepth 20000 in
theorem gX9_light_X9_isWithin : GoodIn wsX9_light (va_wsS RX9 105 yX9_isWithin wsX9_isWithin) := goodIn_app (goodIn_of _ (by decide +kernel)) ggX9_light_X9_isWithin
set_option maxRecDepth 20000 in
theorem ggX9_light_X9_isLean : GoodIn wsX9_light wsX9_isLean := goodIn_r _ [10, 4, 5, 6, 7] (by decide +kernel) (by decide +kernel)
set_option maxRecDepth 20000 in
theorem gX9_light_X9_isLean : GoodIn wsX9_light (va_wsS RX9 116 yX9_isLean wsX9_isLean) := goodIn_app (goodIn_of _ (by decide +kernel)) ggX9_light_X9_isLean
set_option maxRecDepth 20000 in
theorem ggX9_light_X1_put : GoodIn wsX9_light wsX1_put := goodIn_r _ [15, 16, 17, 18, 19, 20, 21, 22, 23, 14, 24, 42, 43] (by decide +kernel) (by decide +kernel)
set_option maxRecDepth 20000 in
theorem gX9_light_X1_put : GoodIn wsX9_light (wsV RX9 132 RX1 yX1_put wsX1_put) := goodIn_app (goodIn_of _ (by decide +kernel)) ggX9_light_X1_put
theorem dX9_light_0 : decode cX9_light 0 = .ok (.iload_n 1, 1) := by decide +kernel
theorem dX9_light_1 : decode cX9_light 1 = .ok (.iconst 1, 1) := by decide +kernel
theorem dX9_light_2 : decode cX9_light 2 = .ok (.ldc 104, 2) := by decide +kernel
theorem dX9_light_4 : decode cX9_light 4 = .ok (.invokestatic 105, 3) := by decide +kernel
theorem dX9_light_7 : decode cX9_light 7 = .ok (.ifCond .eq 10, 3) := by decide +kernel
theorem dX9_light_10 : decode cX9_light 10 = .ok (.iload_n 2, 1) := by decide +kernel
theorem dX9_light_11 : decode cX9_light 11 = .ok (.invokestatic 116, 3) := by decide +kernel
theorem dX9_light_14 : decode cX9_light 14 = .ok (.ifCond .ne 6, 3) := by decide +kernel
theorem dX9_light_17 : decode cX9_light 17 = .ok (.bipush (-2), 2) := by decide +kernel
theorem dX9_light_19 : decode cX9_light 19 = .ok (.ireturn, 1) := by decide +kernel
theorem dX9_light_20 : decode cX9_light 20 = .ok (.iload_n 2, 1) := by decide +kernel
theorem dX9_light_21 : decode cX9_light 21 = .ok (.ifCond .gt 5, 3) := by decide +kernel
theorem dX9_light_24 : decode cX9_light 24 = .ok (.iconst 0, 1) := by decide +kernel
theorem dX9_light_25 : decode cX9_light 25 = .ok (.ireturn, 1) := by decide +kernel
theorem dX9_light_26 : decode cX9_light 26 = .ok (.aload_n 0, 1) := by decide +kernel
theorem dX9_light_27 : decode cX9_light 27 = .ok (.getfield 10, 3) := by decide +kernel
theorem dX9_light_30 : decode cX9_light 30 = .ok (.ldc2_w 130, 3) := by decide +kernel
theorem dX9_light_33 : decode cX9_light 33 = .ok (.iload_n 1, 1) := by decide +kernel
theorem dX9_light_34 : decode cX9_light 34 = .ok (.i2l, 1) := by decide +kernel
theorem dX9_light_35 : decode cX9_light 35 = .ok (.lmul, 1) := by decide +kernel
theorem dX9_light_36 : decode cX9_light 36 = .ok (.iload_n 2, 1) := by decide +kernel
theorem dX9_light_37 : decode cX9_light 37 = .ok (.i2l, 1) := by decide +kernel
theorem dX9_light_38 : decode cX9_light 38 = .ok (.invokevirtual 132, 3) := by decide +kernel
theorem dX9_light_41 : decode cX9_light 41 = .ok (.iconst 1, 1) := by decide +kernel
theorem dX9_light_42 : decode cX9_light 42 = .ok (.ireturn, 1) := by decide +kernel
set_option maxRecDepth 100000 in
def fX9_light (x1 : Int32) (x2 : Int32) (t_fraction_above : Int64) (t_fraction_below : Int64) : Option (Int32 × Int64 × Int64) :=
  ob (fX9_isWithin x1 1 100000) fun r1 =>
  if (b2i r1) = 0 then
    some ((-2), t_fraction_above, t_fraction_below)
  else
    ob (fX9_isLean x2) fun r4 =>
    if (b2i r4) = 0 then
      some ((-2), t_fraction_above, t_fraction_below)
    else
      if 0 < x2 then
        ob2 (fX1_put (1000 * (Int32.toInt64 x1)) (Int32.toInt64 x2) t_fraction_above t_fraction_below) fun w8 w9 =>
        some (1, w8, w9)
      else
        some (0, t_fraction_above, t_fraction_below)
abbrev rmX9_light : Room := { frames := 2, cells := 0, slots := 0, locals := 56 }
theorem iwX9_light_X9 : ∀ w ∈ u_ws RX9 TX9 17, w ∈ wsX9_light := by decide +kernel
set_option maxHeartbeats 4000000 in
set_option maxRecDepth 100000 in
theorem k_X9_light (l : Launch) (G : va_G) (cI cJ : ClassId) (t_h t_fraction_h t_settings_h t_firstEdges_h t_secondEdges_h t_layers_h t_sights_h t_shadows_h t_heights_h t_pairs_h t_rows_h t_notes_h t_matching_h t_speeds_h t_layering_h t_boards_h t_years_h t_sheets_h : Nat) (sz : Nat) (t_fraction_above : Int64) (t_fraction_below : Int64) (x1 : Int32) (x2 : Int32) {o_r : Int32} {o_t_fraction_above : Int64} {o_t_fraction_below : Int64} (hf : fX9_light x1 x2 t_fraction_above t_fraction_below = some (o_r, o_t_fraction_above, o_t_fraction_below)) : MetI l yX9_light wsX9_light rmX9_light [.ref t_h, .int x1, .int x2] G cI cJ [(t_h, .inr (9, [.ref t_fraction_h, .ref t_settings_h, .ref t_firstEdges_h, .ref t_secondEdges_h, .ref t_layers_h, .ref t_sights_h, .ref t_shadows_h, .ref t_heights_h, .ref t_pairs_h, .ref t_rows_h, .ref t_notes_h, .ref t_matching_h, .ref t_speeds_h, .ref t_layering_h, .ref t_boards_h, .ref t_years_h, .ref t_sheets_h])), (t_fraction_h, .inr (1, [.long t_fraction_above, .long t_fraction_below]))] [(t_h, .inr (9, [.ref t_fraction_h, .ref t_settings_h, .ref t_firstEdges_h, .ref t_secondEdges_h, .ref t_layers_h, .ref t_sights_h, .ref t_shadows_h, .ref t_heights_h, .ref t_pairs_h, .ref t_rows_h, .ref t_notes_h, .ref t_matching_h, .ref t_speeds_h, .ref t_layering_h, .ref t_boards_h, .ref t_years_h, .ref t_sheets_h])), (t_fraction_h, .inr (1, [.long o_t_fraction_above, .long o_t_fraction_below]))] sz o_r := by
  refine en_0 (l := l) (y := yX9_light) (wsl := wsX9_light) (rm := rmX9_light) (av := [.ref t_h, .int x1, .int x2]) (G := G) (cI := cI) (cJ := cJ) (w0 := [(t_h, .inr (9, [.ref t_fraction_h, .ref t_settings_h, .ref t_firstEdges_h, .ref t_secondEdges_h, .ref t_layers_h, .ref t_sights_h, .ref t_shadows_h, .ref t_heights_h, .ref t_pairs_h, .ref t_rows_h, .ref t_notes_h, .ref t_matching_h, .ref t_speeds_h, .ref t_layering_h, .ref t_boards_h, .ref t_years_h, .ref t_sheets_h])), (t_fraction_h, .inr (1, [.long t_fraction_above, .long t_fraction_below]))]) (sz := sz) (Qf := fun A => Qi0 G cI cJ [(t_h, .inr (9, [.ref t_fraction_h, .ref t_settings_h, .ref t_firstEdges_h, .ref t_secondEdges_h, .ref t_layers_h, .ref t_sights_h, .ref t_shadows_h, .ref t_heights_h, .ref t_pairs_h, .ref t_rows_h, .ref t_notes_h, .ref t_matching_h, .ref t_speeds_h, .ref t_layering_h, .ref t_boards_h, .ref t_years_h, .ref t_sheets_h])), (t_fraction_h, .inr (1, [.long o_t_fraction_above, .long o_t_fraction_below]))] o_r A) (cc := cX9_light) (maxL := 3) (ret := (some .int)) RX9 (by decide +kernel) rfl rfl (Nat.le_of_ble_eq_true rfl) ?_
  intro p e s m args below meth c A ls Q hQ hx hb hr hts hown hlocks hml hN hK hP hD hS hA hl
  have hl : lv_has ls 3 [(0, .ref t_h), (1, .int x1), (2, .int x2)] := hl
  have iwX9 := iwX9_light_X9
  have fl_10 := hts (.fieldLink RX9 10 "CloudOffice" "fraction" "LCloudOffice$Fraction;") (by decide +kernel)
  have kc_104 := hts (.constant RX9 104 (100000)) (by decide +kernel)
  have kc_130 := hts (.constantLong RX9 130 (1000)) (by decide +kernel)
  have hret : ∀ (o_r9 : Int32) (o_t_fraction_above9 : Int64) (o_t_fraction_below9 : Int64) (pc : Nat) (H : Heap) (locs : List Loc) (ls : Array Slot), decode cX9_light pc = .ok (.ireturn, 1) → some (o_r9, o_t_fraction_above9, o_t_fraction_below9) = some (o_r, o_t_fraction_above, o_t_fraction_below) → va_P G vwCl [(t_h, .inr (9, [.ref t_fraction_h, .ref t_settings_h, .ref t_firstEdges_h, .ref t_secondEdges_h, .ref t_layers_h, .ref t_sights_h, .ref t_shadows_h, .ref t_heights_h, .ref t_pairs_h, .ref t_rows_h, .ref t_notes_h, .ref t_matching_h, .ref t_speeds_h, .ref t_layering_h, .ref t_boards_h, .ref t_years_h, .ref t_sheets_h])), (t_fraction_h, .inr (1, [.long o_t_fraction_above9, .long o_t_fraction_below9]))] H → va_D A [(t_h, .inr (9, [.ref t_fraction_h, .ref t_settings_h, .ref t_firstEdges_h, .ref t_secondEdges_h, .ref t_layers_h, .ref t_sights_h, .ref t_shadows_h, .ref t_heights_h, .ref t_pairs_h, .ref t_rows_h, .ref t_notes_h, .ref t_matching_h, .ref t_speeds_h, .ref t_layering_h, .ref t_boards_h, .ref t_years_h, .ref t_sheets_h])), (t_fraction_h, .inr (1, [.long o_t_fraction_above9, .long o_t_fraction_below9]))] → va_S A s.heap H locs → W p l e rmX9_light s m args below meth c H locs 0 0 Q (F0 m pc ls [.int o_r9]) := by
    intro o_r9 o_t_fraction_above9 o_t_fraction_below9 pc H locs ls hdg he hP hD hS
    cases he
    subst hQ
    exact rt_i hx hb hr hlocks hK hP hD hS rfl hdg
  clear hQ
  unfold fX9_light at hf
  refine lv_iload_n hx hb dX9_light_0 rfl (lv_at hl 1 rfl) ?_
  refine lv_iconst (v := 1) hx hb dX9_light_1 (by decide) ?_
  refine lv_ldc (v := 100000) hx hb hown kc_104 dX9_light_2 ?_
  obtain ⟨r1, hc2, hf⟩ := ob_some hf
  refine af_iR (va_runS (As := [.int x1, .int 1, .int 100000]) (rest := []) ⟨hx, hb, hml, hown, hts⟩ (k_X9_isWithin l G cI cJ (x0 := x1) (x1 := 1) (x2 := 100000) (sz := _) (hf := hc2)) (va_cwS 3 hts gX9_light_X9_isWithin rfl rfl rfl (by decide +kernel) ⟨Nat.le_of_ble_eq_true rfl, Nat.le_of_ble_eq_true rfl⟩) (preS0 (wc := []) hK hP hD hN [] rfl rfl (by decide)) rfl rfl hl.1 rfl (lv_room (Nat.le_of_ble_eq_true rfl)) dX9_light_4 ⟨Nat.zero_le _, Nat.zero_le _⟩) hP hD hS hA [] rfl (fun H locs hP hS => ?_)
  refine lv_if_eq (tgt := 17) hx hb dX9_light_7 (by decide) (fun c3 => ?_) (fun c3 => ?_)
  · have hf := ift hf c3
    refine lv_bipush (v := (-2)) hx hb dX9_light_17 (by decide) ?_
    exact hret (-2) t_fraction_above t_fraction_below 19 _ _ _ dX9_light_19 hf hP hD hS
  · have hf := iff_ hf c3
    refine lv_iload_n hx hb dX9_light_10 rfl (lv_at hl 2 rfl) ?_
    obtain ⟨r4, hc5, hf⟩ := ob_some hf
    refine af_iR (va_runS (As := [.int x2]) (rest := []) ⟨hx, hb, hml, hown, hts⟩ (k_X9_isLean l G cI cJ (x0 := x2) (sz := _) (hf := hc5)) (va_cwS 1 hts gX9_light_X9_isLean rfl rfl rfl (by decide +kernel) ⟨Nat.le_of_ble_eq_true rfl, Nat.le_of_ble_eq_true rfl⟩) (preS0 (wc := []) hK hP hD hN [] rfl rfl (by decide)) rfl rfl hl.1 rfl (lv_room (Nat.le_of_ble_eq_true rfl)) dX9_light_11 ⟨Nat.zero_le _, Nat.zero_le _⟩) hP hD hS hA [] rfl (fun H locs hP hS => ?_)
    refine lv_if_ne (tgt := 20) hx hb dX9_light_14 (by decide) (fun c6 => ?_) (fun c6 => ?_)
    · have hf := iff_ hf c6
      refine lv_iload_n hx hb dX9_light_20 rfl (lv_at hl 2 rfl) ?_
      refine lv_if_gt (tgt := 26) hx hb dX9_light_21 (by decide) (fun c7 => ?_) (fun c7 => ?_)
      · have hf := ift hf c7
        refine lv_aload_n hx hb dX9_light_26 rfl (lv_at hl 0 rfl) ?_
        refine va_get (D := G) (ci := 9) (v := .ref t_fraction_h) (C := RX9) (T := TX9) (N := 17) hx hb hts iwX9 hown hK hP 0 rfl rfl 0 (by decide) fl_10 (fun _ h9 => h9) rfl dX9_light_27 ?_
        refine lv_ldc2 (v := 1000) hx hb hown kc_130 dX9_light_30 ?_
        refine lv_iload_n hx hb dX9_light_33 rfl (lv_at hl 1 rfl) ?_
        refine lv_i2l (v := Int32.toInt64 x1) hx hb dX9_light_34 rfl ?_
        refine lv_lmul hx hb dX9_light_35 ?_
        refine lv_iload_n hx hb dX9_light_36 rfl (lv_at hl 2 rfl) ?_
        refine lv_i2l (v := Int32.toInt64 x2) hx hb dX9_light_37 rfl ?_
        obtain ⟨w8, w9, hc10, hf⟩ := ob2_some hf
        refine af_vW (wr := [(t_h, .inr (9, [.ref t_fraction_h, .ref t_settings_h, .ref t_firstEdges_h, .ref t_secondEdges_h, .ref t_layers_h, .ref t_sights_h, .ref t_shadows_h, .ref t_heights_h, .ref t_pairs_h, .ref t_rows_h, .ref t_notes_h, .ref t_matching_h, .ref t_speeds_h, .ref t_layering_h, .ref t_boards_h, .ref t_years_h, .ref t_sheets_h]))]) (ws2 := [(t_h, .inr (9, [.ref t_fraction_h, .ref t_settings_h, .ref t_firstEdges_h, .ref t_secondEdges_h, .ref t_layers_h, .ref t_sights_h, .ref t_shadows_h, .ref t_heights_h, .ref t_pairs_h, .ref t_rows_h, .ref t_notes_h, .ref t_matching_h, .ref t_speeds_h, .ref t_layering_h, .ref t_boards_h, .ref t_years_h, .ref t_sheets_h])), (t_fraction_h, .inr (1, [.long w8, .long w9]))]) (va_runV (As := [.long (1000 * (Int32.toInt64 x1)), .long (Int32.toInt64 x2)]) (rest := []) ⟨hx, hb, hml, hown, hts⟩ (k_X1_put l G cI cJ (t_h := t_fraction_h) (t_above := t_fraction_above) (t_below := t_fraction_below) (x1 := (1000 * (Int32.toInt64 x1))) (x3 := (Int32.toInt64 x2)) (sz := _) (hf := hc10)) (cwV 2 hts gX9_light_X1_put rfl rfl rfl (by decide +kernel) ⟨Nat.le_of_ble_eq_true rfl, Nat.le_of_ble_eq_true rfl⟩) (preV0 (ci := 1) (q0 := 0) (C := RX1) (wc := [(t_fraction_h, .inr (1, [.long t_fraction_above, .long t_fraction_below]))]) hK hP hD hN [1] rfl rfl (by decide) rfl rfl) rfl rfl hl.1 rfl (lv_room (Nat.le_of_ble_eq_true rfl)) dX9_light_38 ⟨Nat.zero_le _, Nat.zero_le _⟩) hP hD hS hA [1] [0] [0, 1] rfl rfl (by decide) (by decide) rfl rfl (by decide) (fun H locs hP hD hS => ?_)
        refine lv_iconst (v := 1) hx hb dX9_light_41 (by decide) ?_
        exact hret 1 w8 w9 42 _ _ _ dX9_light_42 hf hP hD hS
      · have hf := iff_ hf c7
        refine lv_iconst (v := 0) hx hb dX9_light_24 (by decide) ?_
        exact hret 0 t_fraction_above t_fraction_below 25 _ _ _ dX9_light_25 hf hP hD hS
    · have hf := ift hf c6
      refine lv_bipush (v := (-2)) hx hb dX9_light_17 (by decide) ?_
      exact hret (-2) t_fraction_above t_fraction_below 19 _ _ _ dX9_light_19 hf hP hD hS
set_option maxRecDepth 20000 in
theorem ggX9_span_X9_isWithin : GoodIn wsX9_span wsX9_isWithin := goodIn_r _ [6] (by decide +kernel) (by decide +kernel)
set_option maxRecDepth 20000 in
theorem gX9_span_X9_isWithin : GoodIn wsX9_span (va_wsS RX9 105 yX9_isWithin wsX9_isWithin) := goodIn_app (goodIn_of _ (by decide +kernel)) ggX9_span_X9_isWithin
set_option maxRecDepth 20000 in
theorem ggX9_span_X7_add : GoodIn wsX9_span wsX7_add := goodIn_r _ [11, 12, 13, 14, 15, 16, 10, 17, 18, 19, 37, 38, 39, 40] (by decide +kernel) (by decide +kernel)
set_option maxRecDepth 20000 in
theorem gX9_span_X7_add : GoodIn wsX9_span (wsV RX9 120 RX7 yX7_add wsX7_add) := goodIn_app (goodIn_of _ (by decide +kernel)) ggX9_span_X7_add
theorem dX9_span_0 : decode cX9_span 0 = .ok (.iload_n 1, 1) := by decide +kernel
theorem dX9_span_1 : decode cX9_span 1 = .ok (.iconst 0, 1) := by decide +kernel
theorem dX9_span_2 : decode cX9_span 2 = .ok (.ldc 104, 2) := by decide +kernel
theorem dX9_span_4 : decode cX9_span 4 = .ok (.invokestatic 105, 3) := by decide +kernel
theorem dX9_span_7 : decode cX9_span 7 = .ok (.ifCond .eq 26, 3) := by decide +kernel
theorem dX9_span_10 : decode cX9_span 10 = .ok (.iload_n 2, 1) := by decide +kernel
theorem dX9_span_11 : decode cX9_span 11 = .ok (.iload_n 1, 1) := by decide +kernel
theorem dX9_span_12 : decode cX9_span 12 = .ok (.ldc 104, 2) := by decide +kernel
theorem dX9_span_14 : decode cX9_span 14 = .ok (.invokestatic 105, 3) := by decide +kernel
theorem dX9_span_17 : decode cX9_span 17 = .ok (.ifCond .eq 16, 3) := by decide +kernel
theorem dX9_span_20 : decode cX9_span 20 = .ok (.iload_n 3, 1) := by decide +kernel
theorem dX9_span_21 : decode cX9_span 21 = .ok (.sipush (-10000), 3) := by decide +kernel
theorem dX9_span_24 : decode cX9_span 24 = .ok (.sipush 10000, 3) := by decide +kernel
theorem dX9_span_27 : decode cX9_span 27 = .ok (.invokestatic 105, 3) := by decide +kernel
theorem dX9_span_30 : decode cX9_span 30 = .ok (.ifCond .ne 6, 3) := by decide +kernel
theorem dX9_span_33 : decode cX9_span 33 = .ok (.bipush (-2), 2) := by decide +kernel
theorem dX9_span_35 : decode cX9_span 35 = .ok (.ireturn, 1) := by decide +kernel
theorem dX9_span_36 : decode cX9_span 36 = .ok (.aload_n 0, 1) := by decide +kernel
theorem dX9_span_37 : decode cX9_span 37 = .ok (.getfield 44, 3) := by decide +kernel
theorem dX9_span_40 : decode cX9_span 40 = .ok (.iload_n 1, 1) := by decide +kernel
theorem dX9_span_41 : decode cX9_span 41 = .ok (.iload_n 2, 1) := by decide +kernel
theorem dX9_span_42 : decode cX9_span 42 = .ok (.iload_n 3, 1) := by decide +kernel
theorem dX9_span_43 : decode cX9_span 43 = .ok (.iconst 0, 1) := by decide +kernel
theorem dX9_span_44 : decode cX9_span 44 = .ok (.invokevirtual 120, 3) := by decide +kernel
theorem dX9_span_47 : decode cX9_span 47 = .ok (.ireturn, 1) := by decide +kernel
set_option maxRecDepth 100000 in
def fX9_span (x1 : Int32) (x2 : Int32) (x3 : Int32) (t_heights_width : Int32) (t_heights_most : Int32) (t_heights_lines : Int32) (t_heights_cells_n : Nat) (t_heights_cells_a : Nat → Int32) : Option (Int32 × Int32 × (Nat → Int32)) :=
  ob (fX9_isWithin x1 0 100000) fun r1 =>
  if (b2i r1) = 0 then
    some ((-2), t_heights_lines, t_heights_cells_a)
  else
    ob (fX9_isWithin x2 x1 100000) fun r4 =>
    if (b2i r4) = 0 then
      some ((-2), t_heights_lines, t_heights_cells_a)
    else
      ob (fX9_isWithin x3 (-10000) 10000) fun r7 =>
      if (b2i r7) = 0 then
        some ((-2), t_heights_lines, t_heights_cells_a)
      else
        ob3 (fX7_add x1 x2 x3 0 t_heights_width t_heights_most t_heights_lines t_heights_cells_n t_heights_cells_a) fun r10 w11 w12 =>
        some (r10, w11, w12)
abbrev rmX9_span : Room := { frames := 2, cells := 0, slots := 0, locals := 47 }
theorem iwX9_span_X9 : ∀ w ∈ u_ws RX9 TX9 17, w ∈ wsX9_span := by decide +kernel
set_option maxHeartbeats 4000000 in
set_option maxRecDepth 100000 in
theorem k_X9_span (l : Launch) (G : va_G) (cI cJ : ClassId) (t_h t_fraction_h t_settings_h t_firstEdges_h t_secondEdges_h t_layers_h t_sights_h t_shadows_h t_heights_h t_pairs_h t_rows_h t_notes_h t_matching_h t_speeds_h t_layering_h t_boards_h t_years_h t_sheets_h t_heights_cells_h : Nat) (sz : Nat) (t_heights_width : Int32) (t_heights_most : Int32) (t_heights_lines : Int32) (t_heights_cells_n : Nat) (t_heights_cells_a : Nat → Int32) (x1 : Int32) (x2 : Int32) (x3 : Int32) {o_r : Int32} {o_t_heights_lines : Int32} {o_t_heights_cells_a : Nat → Int32} (hf : fX9_span x1 x2 x3 t_heights_width t_heights_most t_heights_lines t_heights_cells_n t_heights_cells_a = some (o_r, o_t_heights_lines, o_t_heights_cells_a)) : MetI l yX9_span wsX9_span rmX9_span [.ref t_h, .int x1, .int x2, .int x3] G cI cJ [(t_h, .inr (9, [.ref t_fraction_h, .ref t_settings_h, .ref t_firstEdges_h, .ref t_secondEdges_h, .ref t_layers_h, .ref t_sights_h, .ref t_shadows_h, .ref t_heights_h, .ref t_pairs_h, .ref t_rows_h, .ref t_notes_h, .ref t_matching_h, .ref t_speeds_h, .ref t_layering_h, .ref t_boards_h, .ref t_years_h, .ref t_sheets_h])), (t_heights_h, .inr (7, [.int t_heights_width, .int t_heights_most, .ref t_heights_cells_h, .int t_heights_lines])), (t_heights_cells_h, .inl (cI, t_heights_cells_n, .inl t_heights_cells_a))] [(t_h, .inr (9, [.ref t_fraction_h, .ref t_settings_h, .ref t_firstEdges_h, .ref t_secondEdges_h, .ref t_layers_h, .ref t_sights_h, .ref t_shadows_h, .ref t_heights_h, .ref t_pairs_h, .ref t_rows_h, .ref t_notes_h, .ref t_matching_h, .ref t_speeds_h, .ref t_layering_h, .ref t_boards_h, .ref t_years_h, .ref t_sheets_h])), (t_heights_h, .inr (7, [.int t_heights_width, .int t_heights_most, .ref t_heights_cells_h, .int o_t_heights_lines])), (t_heights_cells_h, .inl (cI, t_heights_cells_n, .inl o_t_heights_cells_a))] sz o_r := by
  refine en_0 (l := l) (y := yX9_span) (wsl := wsX9_span) (rm := rmX9_span) (av := [.ref t_h, .int x1, .int x2, .int x3]) (G := G) (cI := cI) (cJ := cJ) (w0 := [(t_h, .inr (9, [.ref t_fraction_h, .ref t_settings_h, .ref t_firstEdges_h, .ref t_secondEdges_h, .ref t_layers_h, .ref t_sights_h, .ref t_shadows_h, .ref t_heights_h, .ref t_pairs_h, .ref t_rows_h, .ref t_notes_h, .ref t_matching_h, .ref t_speeds_h, .ref t_layering_h, .ref t_boards_h, .ref t_years_h, .ref t_sheets_h])), (t_heights_h, .inr (7, [.int t_heights_width, .int t_heights_most, .ref t_heights_cells_h, .int t_heights_lines])), (t_heights_cells_h, .inl (cI, t_heights_cells_n, .inl t_heights_cells_a))]) (sz := sz) (Qf := fun A => Qi0 G cI cJ [(t_h, .inr (9, [.ref t_fraction_h, .ref t_settings_h, .ref t_firstEdges_h, .ref t_secondEdges_h, .ref t_layers_h, .ref t_sights_h, .ref t_shadows_h, .ref t_heights_h, .ref t_pairs_h, .ref t_rows_h, .ref t_notes_h, .ref t_matching_h, .ref t_speeds_h, .ref t_layering_h, .ref t_boards_h, .ref t_years_h, .ref t_sheets_h])), (t_heights_h, .inr (7, [.int t_heights_width, .int t_heights_most, .ref t_heights_cells_h, .int o_t_heights_lines])), (t_heights_cells_h, .inl (cI, t_heights_cells_n, .inl o_t_heights_cells_a))] o_r A) (cc := cX9_span) (maxL := 4) (ret := (some .int)) RX9 (by decide +kernel) rfl rfl (Nat.le_of_ble_eq_true rfl) ?_
  intro p e s m args below meth c A ls Q hQ hx hb hr hts hown hlocks hml hN hK hP hD hS hA hl
  have hl : lv_has ls 4 [(0, .ref t_h), (1, .int x1), (2, .int x2), (3, .int x3)] := hl
  have iwX9 := iwX9_span_X9
  have fl_44 := hts (.fieldLink RX9 44 "CloudOffice" "heights" "LCloudOffice$Table;") (by decide +kernel)
  have kc_104 := hts (.constant RX9 104 (100000)) (by decide +kernel)
  have hret : ∀ (o_r9 : Int32) (o_t_heights_lines9 : Int32) (o_t_heights_cells_a9 : Nat → Int32) (pc : Nat) (H : Heap) (locs : List Loc) (ls : Array Slot), decode cX9_span pc = .ok (.ireturn, 1) → some (o_r9, o_t_heights_lines9, o_t_heights_cells_a9) = some (o_r, o_t_heights_lines, o_t_heights_cells_a) → va_P G vwCl [(t_h, .inr (9, [.ref t_fraction_h, .ref t_settings_h, .ref t_firstEdges_h, .ref t_secondEdges_h, .ref t_layers_h, .ref t_sights_h, .ref t_shadows_h, .ref t_heights_h, .ref t_pairs_h, .ref t_rows_h, .ref t_notes_h, .ref t_matching_h, .ref t_speeds_h, .ref t_layering_h, .ref t_boards_h, .ref t_years_h, .ref t_sheets_h])), (t_heights_h, .inr (7, [.int t_heights_width, .int t_heights_most, .ref t_heights_cells_h, .int o_t_heights_lines9])), (t_heights_cells_h, .inl (cI, t_heights_cells_n, .inl o_t_heights_cells_a9))] H → va_D A [(t_h, .inr (9, [.ref t_fraction_h, .ref t_settings_h, .ref t_firstEdges_h, .ref t_secondEdges_h, .ref t_layers_h, .ref t_sights_h, .ref t_shadows_h, .ref t_heights_h, .ref t_pairs_h, .ref t_rows_h, .ref t_notes_h, .ref t_matching_h, .ref t_speeds_h, .ref t_layering_h, .ref t_boards_h, .ref t_years_h, .ref t_sheets_h])), (t_heights_h, .inr (7, [.int t_heights_width, .int t_heights_most, .ref t_heights_cells_h, .int o_t_heights_lines9])), (t_heights_cells_h, .inl (cI, t_heights_cells_n, .inl o_t_heights_cells_a9))] → va_S A s.heap H locs → W p l e rmX9_span s m args below meth c H locs 0 0 Q (F0 m pc ls [.int o_r9]) := by
    intro o_r9 o_t_heights_lines9 o_t_heights_cells_a9 pc H locs ls hdg he hP hD hS
    cases he
    subst hQ
    exact rt_i hx hb hr hlocks hK hP hD hS rfl hdg
  clear hQ
  unfold fX9_span at hf
  refine lv_iload_n hx hb dX9_span_0 rfl (lv_at hl 1 rfl) ?_
  refine lv_iconst (v := 0) hx hb dX9_span_1 (by decide) ?_
  refine lv_ldc (v := 100000) hx hb hown kc_104 dX9_span_2 ?_
  obtain ⟨r1, hc2, hf⟩ := ob_some hf
  refine af_iR (va_runS (As := [.int x1, .int 0, .int 100000]) (rest := []) ⟨hx, hb, hml, hown, hts⟩ (k_X9_isWithin l G cI cJ (x0 := x1) (x1 := 0) (x2 := 100000) (sz := _) (hf := hc2)) (va_cwS 3 hts gX9_span_X9_isWithin rfl rfl rfl (by decide +kernel) ⟨Nat.le_of_ble_eq_true rfl, Nat.le_of_ble_eq_true rfl⟩) (preS0 (wc := []) hK hP hD hN [] rfl rfl (by decide)) rfl rfl hl.1 rfl (lv_room (Nat.le_of_ble_eq_true rfl)) dX9_span_4 ⟨Nat.zero_le _, Nat.zero_le _⟩) hP hD hS hA [] rfl (fun H locs hP hS => ?_)
  refine lv_if_eq (tgt := 33) hx hb dX9_span_7 (by decide) (fun c3 => ?_) (fun c3 => ?_)
  · have hf := ift hf c3
    refine lv_bipush (v := (-2)) hx hb dX9_span_33 (by decide) ?_
    exact hret (-2) t_heights_lines t_heights_cells_a 35 _ _ _ dX9_span_35 hf hP hD hS
  · have hf := iff_ hf c3
    refine lv_iload_n hx hb dX9_span_10 rfl (lv_at hl 2 rfl) ?_
    refine lv_iload_n hx hb dX9_span_11 rfl (lv_at hl 1 rfl) ?_
    refine lv_ldc (v := 100000) hx hb hown kc_104 dX9_span_12 ?_
    obtain ⟨r4, hc5, hf⟩ := ob_some hf
    refine af_iR (va_runS (As := [.int x2, .int x1, .int 100000]) (rest := []) ⟨hx, hb, hml, hown, hts⟩ (k_X9_isWithin l G cI cJ (x0 := x2) (x1 := x1) (x2 := 100000) (sz := _) (hf := hc5)) (va_cwS 3 hts gX9_span_X9_isWithin rfl rfl rfl (by decide +kernel) ⟨Nat.le_of_ble_eq_true rfl, Nat.le_of_ble_eq_true rfl⟩) (preS0 (wc := []) hK hP hD hN [] rfl rfl (by decide)) rfl rfl hl.1 rfl (lv_room (Nat.le_of_ble_eq_true rfl)) dX9_span_14 ⟨Nat.zero_le _, Nat.zero_le _⟩) hP hD hS hA [] rfl (fun H locs hP hS => ?_)
    refine lv_if_eq (tgt := 33) hx hb dX9_span_17 (by decide) (fun c6 => ?_) (fun c6 => ?_)
    · have hf := ift hf c6
      refine lv_bipush (v := (-2)) hx hb dX9_span_33 (by decide) ?_
      exact hret (-2) t_heights_lines t_heights_cells_a 35 _ _ _ dX9_span_35 hf hP hD hS
    · have hf := iff_ hf c6
      refine lv_iload_n hx hb dX9_span_20 rfl (lv_at hl 3 rfl) ?_
      refine lv_sipush (v := (-10000)) hx hb dX9_span_21 (by decide) ?_
      refine lv_sipush (v := 10000) hx hb dX9_span_24 (by decide) ?_
      obtain ⟨r7, hc8, hf⟩ := ob_some hf
      refine af_iR (va_runS (As := [.int x3, .int (-10000), .int 10000]) (rest := []) ⟨hx, hb, hml, hown, hts⟩ (k_X9_isWithin l G cI cJ (x0 := x3) (x1 := (-10000)) (x2 := 10000) (sz := _) (hf := hc8)) (va_cwS 3 hts gX9_span_X9_isWithin rfl rfl rfl (by decide +kernel) ⟨Nat.le_of_ble_eq_true rfl, Nat.le_of_ble_eq_true rfl⟩) (preS0 (wc := []) hK hP hD hN [] rfl rfl (by decide)) rfl rfl hl.1 rfl (lv_room (Nat.le_of_ble_eq_true rfl)) dX9_span_27 ⟨Nat.zero_le _, Nat.zero_le _⟩) hP hD hS hA [] rfl (fun H locs hP hS => ?_)
      refine lv_if_ne (tgt := 36) hx hb dX9_span_30 (by decide) (fun c9 => ?_) (fun c9 => ?_)
      · have hf := iff_ hf c9
        refine lv_aload_n hx hb dX9_span_36 rfl (lv_at hl 0 rfl) ?_
        refine va_get (D := G) (ci := 9) (v := .ref t_heights_h) (C := RX9) (T := TX9) (N := 17) hx hb hts iwX9 hown hK hP 0 rfl rfl 7 (by decide) fl_44 (fun _ h9 => h9) rfl dX9_span_37 ?_
        refine lv_iload_n hx hb dX9_span_40 rfl (lv_at hl 1 rfl) ?_
        refine lv_iload_n hx hb dX9_span_41 rfl (lv_at hl 2 rfl) ?_
        refine lv_iload_n hx hb dX9_span_42 rfl (lv_at hl 3 rfl) ?_
        refine lv_iconst (v := 0) hx hb dX9_span_43 (by decide) ?_
        obtain ⟨r10, w11, w12, hc13, hf⟩ := ob3_some hf
        refine af_iW (wr := [(t_h, .inr (9, [.ref t_fraction_h, .ref t_settings_h, .ref t_firstEdges_h, .ref t_secondEdges_h, .ref t_layers_h, .ref t_sights_h, .ref t_shadows_h, .ref t_heights_h, .ref t_pairs_h, .ref t_rows_h, .ref t_notes_h, .ref t_matching_h, .ref t_speeds_h, .ref t_layering_h, .ref t_boards_h, .ref t_years_h, .ref t_sheets_h]))]) (ws2 := [(t_h, .inr (9, [.ref t_fraction_h, .ref t_settings_h, .ref t_firstEdges_h, .ref t_secondEdges_h, .ref t_layers_h, .ref t_sights_h, .ref t_shadows_h, .ref t_heights_h, .ref t_pairs_h, .ref t_rows_h, .ref t_notes_h, .ref t_matching_h, .ref t_speeds_h, .ref t_layering_h, .ref t_boards_h, .ref t_years_h, .ref t_sheets_h])), (t_heights_h, .inr (7, [.int t_heights_width, .int t_heights_most, .ref t_heights_cells_h, .int w11])), (t_heights_cells_h, .inl (cI, t_heights_cells_n, .inl w12))]) (va_runV (As := [.int x1, .int x2, .int x3, .int 0]) (rest := []) ⟨hx, hb, hml, hown, hts⟩ (k_X7_add l G cI cJ (t_h := t_heights_h) (t_cells_h := t_heights_cells_h) (t_width := t_heights_width) (t_most := t_heights_most) (t_lines := t_heights_lines) (t_cells_n := t_heights_cells_n) (t_cells_a := t_heights_cells_a) (x1 := x1) (x2 := x2) (x3 := x3) (x4 := 0) (sz := _) (hf := hc13)) (cwV 4 hts gX9_span_X7_add rfl rfl rfl (by decide +kernel) ⟨Nat.le_of_ble_eq_true rfl, Nat.le_of_ble_eq_true rfl⟩) (preV0 (ci := 7) (q0 := 0) (C := RX7) (wc := [(t_heights_h, .inr (7, [.int t_heights_width, .int t_heights_most, .ref t_heights_cells_h, .int t_heights_lines])), (t_heights_cells_h, .inl (cI, t_heights_cells_n, .inl t_heights_cells_a))]) hK hP hD hN [1, 2] rfl rfl (by decide) rfl rfl) rfl rfl hl.1 rfl (lv_room (Nat.le_of_ble_eq_true rfl)) dX9_span_44 ⟨Nat.zero_le _, Nat.zero_le _⟩) hP hD hS hA [1, 2] [0] [0, 1, 2] rfl rfl (by decide) (by decide) rfl rfl (by decide) (fun H locs hP hD hS => ?_)
        exact hret r10 w11 w12 47 _ _ _ dX9_span_47 hf hP hD hS
      · have hf := ift hf c9
        refine lv_bipush (v := (-2)) hx hb dX9_span_33 (by decide) ?_
        exact hret (-2) t_heights_lines t_heights_cells_a 35 _ _ _ dX9_span_35 hf hP hD hS
set_option maxRecDepth 20000 in
theorem ggX9_sweep_X7_empty : GoodIn wsX9_sweep wsX7_empty := goodIn_r _ [6, 7, 25, 26, 27, 28] (by decide +kernel) (by decide +kernel)
set_option maxRecDepth 20000 in
theorem gX9_sweep_X7_empty : GoodIn wsX9_sweep (wsV RX9 124 RX7 yX7_empty wsX7_empty) := goodIn_app (goodIn_of _ (by decide +kernel)) ggX9_sweep_X7_empty
theorem dX9_sweep_0 : decode cX9_sweep 0 = .ok (.aload_n 0, 1) := by decide +kernel
theorem dX9_sweep_1 : decode cX9_sweep 1 = .ok (.getfield 44, 3) := by decide +kernel
theorem dX9_sweep_4 : decode cX9_sweep 4 = .ok (.invokevirtual 124, 3) := by decide +kernel
theorem dX9_sweep_7 : decode cX9_sweep 7 = .ok (.ireturn, 1) := by decide +kernel
set_option maxRecDepth 100000 in
def fX9_sweep (t_heights_lines : Int32) : Option (Int32 × Int32) :=
  ob2 (fX7_empty t_heights_lines) fun r1 w2 =>
  some (r1, w2)
abbrev rmX9_sweep : Room := { frames := 1, cells := 0, slots := 0, locals := 21 }
theorem iwX9_sweep_X9 : ∀ w ∈ u_ws RX9 TX9 17, w ∈ wsX9_sweep := by decide +kernel
set_option maxHeartbeats 4000000 in
set_option maxRecDepth 100000 in
theorem k_X9_sweep (l : Launch) (G : va_G) (cI cJ : ClassId) (t_h t_fraction_h t_settings_h t_firstEdges_h t_secondEdges_h t_layers_h t_sights_h t_shadows_h t_heights_h t_pairs_h t_rows_h t_notes_h t_matching_h t_speeds_h t_layering_h t_boards_h t_years_h t_sheets_h t_heights_cells_h : Nat) (sz : Nat) (t_heights_width : Int32) (t_heights_most : Int32) (t_heights_lines : Int32) {o_r : Int32} {o_t_heights_lines : Int32} (hf : fX9_sweep t_heights_lines = some (o_r, o_t_heights_lines)) : MetI l yX9_sweep wsX9_sweep rmX9_sweep [.ref t_h] G cI cJ [(t_h, .inr (9, [.ref t_fraction_h, .ref t_settings_h, .ref t_firstEdges_h, .ref t_secondEdges_h, .ref t_layers_h, .ref t_sights_h, .ref t_shadows_h, .ref t_heights_h, .ref t_pairs_h, .ref t_rows_h, .ref t_notes_h, .ref t_matching_h, .ref t_speeds_h, .ref t_layering_h, .ref t_boards_h, .ref t_years_h, .ref t_sheets_h])), (t_heights_h, .inr (7, [.int t_heights_width, .int t_heights_most, .ref t_heights_cells_h, .int t_heights_lines]))] [(t_h, .inr (9, [.ref t_fraction_h, .ref t_settings_h, .ref t_firstEdges_h, .ref t_secondEdges_h, .ref t_layers_h, .ref t_sights_h, .ref t_shadows_h, .ref t_heights_h, .ref t_pairs_h, .ref t_rows_h, .ref t_notes_h, .ref t_matching_h, .ref t_speeds_h, .ref t_layering_h, .ref t_boards_h, .ref t_years_h, .ref t_sheets_h])), (t_heights_h, .inr (7, [.int t_heights_width, .int t_heights_most, .ref t_heights_cells_h, .int o_t_heights_lines]))] sz o_r := by
  refine en_0 (l := l) (y := yX9_sweep) (wsl := wsX9_sweep) (rm := rmX9_sweep) (av := [.ref t_h]) (G := G) (cI := cI) (cJ := cJ) (w0 := [(t_h, .inr (9, [.ref t_fraction_h, .ref t_settings_h, .ref t_firstEdges_h, .ref t_secondEdges_h, .ref t_layers_h, .ref t_sights_h, .ref t_shadows_h, .ref t_heights_h, .ref t_pairs_h, .ref t_rows_h, .ref t_notes_h, .ref t_matching_h, .ref t_speeds_h, .ref t_layering_h, .ref t_boards_h, .ref t_years_h, .ref t_sheets_h])), (t_heights_h, .inr (7, [.int t_heights_width, .int t_heights_most, .ref t_heights_cells_h, .int t_heights_lines]))]) (sz := sz) (Qf := fun A => Qi0 G cI cJ [(t_h, .inr (9, [.ref t_fraction_h, .ref t_settings_h, .ref t_firstEdges_h, .ref t_secondEdges_h, .ref t_layers_h, .ref t_sights_h, .ref t_shadows_h, .ref t_heights_h, .ref t_pairs_h, .ref t_rows_h, .ref t_notes_h, .ref t_matching_h, .ref t_speeds_h, .ref t_layering_h, .ref t_boards_h, .ref t_years_h, .ref t_sheets_h])), (t_heights_h, .inr (7, [.int t_heights_width, .int t_heights_most, .ref t_heights_cells_h, .int o_t_heights_lines]))] o_r A) (cc := cX9_sweep) (maxL := 1) (ret := (some .int)) RX9 (by decide +kernel) rfl rfl (Nat.le_of_ble_eq_true rfl) ?_
  intro p e s m args below meth c A ls Q hQ hx hb hr hts hown hlocks hml hN hK hP hD hS hA hl
  have hl : lv_has ls 1 [(0, .ref t_h)] := hl
  have iwX9 := iwX9_sweep_X9
  have fl_44 := hts (.fieldLink RX9 44 "CloudOffice" "heights" "LCloudOffice$Table;") (by decide +kernel)
  have hret : ∀ (o_r9 : Int32) (o_t_heights_lines9 : Int32) (pc : Nat) (H : Heap) (locs : List Loc) (ls : Array Slot), decode cX9_sweep pc = .ok (.ireturn, 1) → some (o_r9, o_t_heights_lines9) = some (o_r, o_t_heights_lines) → va_P G vwCl [(t_h, .inr (9, [.ref t_fraction_h, .ref t_settings_h, .ref t_firstEdges_h, .ref t_secondEdges_h, .ref t_layers_h, .ref t_sights_h, .ref t_shadows_h, .ref t_heights_h, .ref t_pairs_h, .ref t_rows_h, .ref t_notes_h, .ref t_matching_h, .ref t_speeds_h, .ref t_layering_h, .ref t_boards_h, .ref t_years_h, .ref t_sheets_h])), (t_heights_h, .inr (7, [.int t_heights_width, .int t_heights_most, .ref t_heights_cells_h, .int o_t_heights_lines9]))] H → va_D A [(t_h, .inr (9, [.ref t_fraction_h, .ref t_settings_h, .ref t_firstEdges_h, .ref t_secondEdges_h, .ref t_layers_h, .ref t_sights_h, .ref t_shadows_h, .ref t_heights_h, .ref t_pairs_h, .ref t_rows_h, .ref t_notes_h, .ref t_matching_h, .ref t_speeds_h, .ref t_layering_h, .ref t_boards_h, .ref t_years_h, .ref t_sheets_h])), (t_heights_h, .inr (7, [.int t_heights_width, .int t_heights_most, .ref t_heights_cells_h, .int o_t_heights_lines9]))] → va_S A s.heap H locs → W p l e rmX9_sweep s m args below meth c H locs 0 0 Q (F0 m pc ls [.int o_r9]) := by
    intro o_r9 o_t_heights_lines9 pc H locs ls hdg he hP hD hS
    cases he
    subst hQ
    exact rt_i hx hb hr hlocks hK hP hD hS rfl hdg
  clear hQ
  unfold fX9_sweep at hf
  refine lv_aload_n hx hb dX9_sweep_0 rfl (lv_at hl 0 rfl) ?_
  refine va_get (D := G) (ci := 9) (v := .ref t_heights_h) (C := RX9) (T := TX9) (N := 17) hx hb hts iwX9 hown hK hP 0 rfl rfl 7 (by decide) fl_44 (fun _ h9 => h9) rfl dX9_sweep_1 ?_
  obtain ⟨r1, w2, hc3, hf⟩ := ob2_some hf
  refine af_iW (wr := [(t_h, .inr (9, [.ref t_fraction_h, .ref t_settings_h, .ref t_firstEdges_h, .ref t_secondEdges_h, .ref t_layers_h, .ref t_sights_h, .ref t_shadows_h, .ref t_heights_h, .ref t_pairs_h, .ref t_rows_h, .ref t_notes_h, .ref t_matching_h, .ref t_speeds_h, .ref t_layering_h, .ref t_boards_h, .ref t_years_h, .ref t_sheets_h]))]) (ws2 := [(t_h, .inr (9, [.ref t_fraction_h, .ref t_settings_h, .ref t_firstEdges_h, .ref t_secondEdges_h, .ref t_layers_h, .ref t_sights_h, .ref t_shadows_h, .ref t_heights_h, .ref t_pairs_h, .ref t_rows_h, .ref t_notes_h, .ref t_matching_h, .ref t_speeds_h, .ref t_layering_h, .ref t_boards_h, .ref t_years_h, .ref t_sheets_h])), (t_heights_h, .inr (7, [.int t_heights_width, .int t_heights_most, .ref t_heights_cells_h, .int w2]))]) (va_runV (As := []) (rest := []) ⟨hx, hb, hml, hown, hts⟩ (k_X7_empty l G cI cJ (t_h := t_heights_h) (t_cells_h := t_heights_cells_h) (t_width := t_heights_width) (t_most := t_heights_most) (t_lines := t_heights_lines) (sz := _) (hf := hc3)) (cwV 0 hts gX9_sweep_X7_empty rfl rfl rfl (by decide +kernel) ⟨Nat.le_of_ble_eq_true rfl, Nat.le_of_ble_eq_true rfl⟩) (preV0 (ci := 7) (q0 := 0) (C := RX7) (wc := [(t_heights_h, .inr (7, [.int t_heights_width, .int t_heights_most, .ref t_heights_cells_h, .int t_heights_lines]))]) hK hP hD hN [1] rfl rfl (by decide) rfl rfl) rfl rfl hl.1 rfl (lv_room (Nat.le_of_ble_eq_true rfl)) dX9_sweep_4 ⟨Nat.zero_le _, Nat.zero_le _⟩) hP hD hS hA [1] [0] [0, 1] rfl rfl (by decide) (by decide) rfl rfl (by decide) (fun H locs hP hD hS => ?_)
  exact hret r1 w2 7 _ _ _ dX9_sweep_7 hf hP hD hS
set_option maxRecDepth 20000 in
theorem ggX9_must_X9_isWithin : GoodIn wsX9_must wsX9_isWithin := goodIn_r _ [6] (by decide +kernel) (by decide +kernel)
set_option maxRecDepth 20000 in
theorem gX9_must_X9_isWithin : GoodIn wsX9_must (va_wsS RX9 105 yX9_isWithin wsX9_isWithin) := goodIn_app (goodIn_of _ (by decide +kernel)) ggX9_must_X9_isWithin
set_option maxRecDepth 20000 in
theorem ggX9_must_X2_fill : GoodIn wsX9_must wsX2_fill := goodIn_r _ [11, 12, 13, 14, 15, 16, 17, 10, 18, 19, 20, 21, 22, 23, 24, 25, 26, 27, 28, 29, 30, 31, 32, 33, 34, 35, 36, 37, 59, 60, 61, 62, 63, 64, 65, 66] (by decide +kernel) (by decide +kernel)
set_option maxRecDepth 20000 in
theorem gX9_must_X2_fill : GoodIn wsX9_must (wsV RX9 211 RX2 yX2_fill wsX2_fill) := goodIn_app (goodIn_of _ (by decide +kernel)) ggX9_must_X2_fill
set_option maxRecDepth 20000 in
theorem ggX9_must_X2_layerAt : GoodIn wsX9_must wsX2_layerAt := goodIn_r _ [41, 14, 59, 60, 61, 62] (by decide +kernel) (by decide +kernel)
set_option maxRecDepth 20000 in
theorem gX9_must_X2_layerAt : GoodIn wsX9_must (wsV RX9 214 RX2 yX2_layerAt wsX2_layerAt) := goodIn_app (goodIn_of _ (by decide +kernel)) ggX9_must_X2_layerAt
theorem dX9_must_0 : decode cX9_must 0 = .ok (.iload_n 1, 1) := by decide +kernel
theorem dX9_must_1 : decode cX9_must 1 = .ok (.bipush (-50), 2) := by decide +kernel
theorem dX9_must_3 : decode cX9_must 3 = .ok (.bipush 50, 2) := by decide +kernel
theorem dX9_must_5 : decode cX9_must 5 = .ok (.invokestatic 105, 3) := by decide +kernel
theorem dX9_must_8 : decode cX9_must 8 = .ok (.ifCond .eq 8, 3) := by decide +kernel
theorem dX9_must_11 : decode cX9_must 11 = .ok (.iload_n 2, 1) := by decide +kernel
theorem dX9_must_12 : decode cX9_must 12 = .ok (.iconst (-1), 1) := by decide +kernel
theorem dX9_must_13 : decode cX9_must 13 = .ok (.if_icmp .ge 6, 3) := by decide +kernel
theorem dX9_must_16 : decode cX9_must 16 = .ok (.ldc 210, 2) := by decide +kernel
theorem dX9_must_18 : decode cX9_must 18 = .ok (.ireturn, 1) := by decide +kernel
theorem dX9_must_19 : decode cX9_must 19 = .ok (.aload_n 0, 1) := by decide +kernel
theorem dX9_must_20 : decode cX9_must 20 = .ok (.getfield 79, 3) := by decide +kernel
theorem dX9_must_23 : decode cX9_must 23 = .ok (.iload_n 1, 1) := by decide +kernel
theorem dX9_must_24 : decode cX9_must 24 = .ok (.bipush 24, 2) := by decide +kernel
theorem dX9_must_26 : decode cX9_must 26 = .ok (.invokevirtual 211, 3) := by decide +kernel
theorem dX9_must_29 : decode cX9_must 29 = .ok (.istore_n 3, 1) := by decide +kernel
theorem dX9_must_30 : decode cX9_must 30 = .ok (.iload_n 2, 1) := by decide +kernel
theorem dX9_must_31 : decode cX9_must 31 = .ok (.iconst (-1), 1) := by decide +kernel
theorem dX9_must_32 : decode cX9_must 32 = .ok (.if_icmp .ne 5, 3) := by decide +kernel
theorem dX9_must_35 : decode cX9_must 35 = .ok (.iload_n 3, 1) := by decide +kernel
theorem dX9_must_36 : decode cX9_must 36 = .ok (.ireturn, 1) := by decide +kernel
theorem dX9_must_37 : decode cX9_must 37 = .ok (.iload_n 2, 1) := by decide +kernel
theorem dX9_must_38 : decode cX9_must 38 = .ok (.iload_n 3, 1) := by decide +kernel
theorem dX9_must_39 : decode cX9_must 39 = .ok (.if_icmp .ge 14, 3) := by decide +kernel
theorem dX9_must_42 : decode cX9_must 42 = .ok (.aload_n 0, 1) := by decide +kernel
theorem dX9_must_43 : decode cX9_must 43 = .ok (.getfield 79, 3) := by decide +kernel
theorem dX9_must_46 : decode cX9_must 46 = .ok (.iload_n 2, 1) := by decide +kernel
theorem dX9_must_47 : decode cX9_must 47 = .ok (.invokevirtual 214, 3) := by decide +kernel
theorem dX9_must_50 : decode cX9_must 50 = .ok (.goto 4, 3) := by decide +kernel
theorem dX9_must_53 : decode cX9_must 53 = .ok (.iconst (-1), 1) := by decide +kernel
theorem dX9_must_54 : decode cX9_must 54 = .ok (.ireturn, 1) := by decide +kernel
set_option maxRecDepth 100000 in
def fX9_must (x1 : Int32) (x2 : Int32) (t_heights_width : Int32) (t_heights_lines : Int32) (t_heights_cells_n : Nat) (t_heights_cells_a : Nat → Int32) (t_layering_lows_a : Nat → Int32) (t_layering_highs_a : Nat → Int32) (t_layering_found_a : Nat → Int32) : Option (Int32 × (Nat → Int32) × (Nat → Int32) × (Nat → Int32)) :=
  ob (fX9_isWithin x1 (-50) 50) fun r1 =>
  if (b2i r1) = 0 then
    some ((-2000000), t_layering_lows_a, t_layering_highs_a, t_layering_found_a)
  else
    if (-1) ≤ x2 then
      ob4 (fX2_fill x1 24 t_heights_width t_heights_lines t_layering_lows_a t_layering_highs_a t_layering_found_a t_heights_cells_n t_heights_cells_a) fun r5 w6 w7 w8 =>
      if x2 = (-1) then
        some (r5, w6, w7, w8)
      else
        if r5 ≤ x2 then
          some ((-1), w6, w7, w8)
        else
          ob (fX2_layerAt x2 w8) fun r12 =>
          some (r12, w6, w7, w8)
    else
      some ((-2000000), t_layering_lows_a, t_layering_highs_a, t_layering_found_a)
abbrev rmX9_must : Room := { frames := 3, cells := 0, slots := 0, locals := 71 }
theorem iwX9_must_X9 : ∀ w ∈ u_ws RX9 TX9 17, w ∈ wsX9_must := by decide +kernel
set_option maxHeartbeats 4000000 in
set_option maxRecDepth 100000 in
theorem k_X9_must (l : Launch) (G : va_G) (cI cJ : ClassId) (t_h t_fraction_h t_settings_h t_firstEdges_h t_secondEdges_h t_layers_h t_sights_h t_shadows_h t_heights_h t_pairs_h t_rows_h t_notes_h t_matching_h t_speeds_h t_layering_h t_boards_h t_years_h t_sheets_h t_heights_cells_h t_layering_lows_h t_layering_highs_h t_layering_found_h : Nat) (sz : Nat) (t_heights_width : Int32) (t_heights_most : Int32) (t_heights_lines : Int32) (t_heights_cells_n : Nat) (t_heights_cells_a : Nat → Int32) (t_layering_lows_a : Nat → Int32) (t_layering_highs_a : Nat → Int32) (t_layering_found_a : Nat → Int32) (x1 : Int32) (x2 : Int32) {o_r : Int32} {o_t_layering_lows_a : Nat → Int32} {o_t_layering_highs_a : Nat → Int32} {o_t_layering_found_a : Nat → Int32} (hf : fX9_must x1 x2 t_heights_width t_heights_lines t_heights_cells_n t_heights_cells_a t_layering_lows_a t_layering_highs_a t_layering_found_a = some (o_r, o_t_layering_lows_a, o_t_layering_highs_a, o_t_layering_found_a)) : MetI l yX9_must wsX9_must rmX9_must [.ref t_h, .int x1, .int x2] G cI cJ [(t_h, .inr (9, [.ref t_fraction_h, .ref t_settings_h, .ref t_firstEdges_h, .ref t_secondEdges_h, .ref t_layers_h, .ref t_sights_h, .ref t_shadows_h, .ref t_heights_h, .ref t_pairs_h, .ref t_rows_h, .ref t_notes_h, .ref t_matching_h, .ref t_speeds_h, .ref t_layering_h, .ref t_boards_h, .ref t_years_h, .ref t_sheets_h])), (t_heights_h, .inr (7, [.int t_heights_width, .int t_heights_most, .ref t_heights_cells_h, .int t_heights_lines])), (t_layering_h, .inr (2, [.ref t_heights_h, .ref t_layering_lows_h, .ref t_layering_highs_h, .ref t_layering_found_h])), (t_heights_cells_h, .inl (cI, t_heights_cells_n, .inl t_heights_cells_a)), (t_layering_lows_h, .inl (cI, 24, .inl t_layering_lows_a)), (t_layering_highs_h, .inl (cI, 24, .inl t_layering_highs_a)), (t_layering_found_h, .inl (cI, 24, .inl t_layering_found_a))] [(t_h, .inr (9, [.ref t_fraction_h, .ref t_settings_h, .ref t_firstEdges_h, .ref t_secondEdges_h, .ref t_layers_h, .ref t_sights_h, .ref t_shadows_h, .ref t_heights_h, .ref t_pairs_h, .ref t_rows_h, .ref t_notes_h, .ref t_matching_h, .ref t_speeds_h, .ref t_layering_h, .ref t_boards_h, .ref t_years_h, .ref t_sheets_h])), (t_heights_h, .inr (7, [.int t_heights_width, .int t_heights_most, .ref t_heights_cells_h, .int t_heights_lines])), (t_layering_h, .inr (2, [.ref t_heights_h, .ref t_layering_lows_h, .ref t_layering_highs_h, .ref t_layering_found_h])), (t_heights_cells_h, .inl (cI, t_heights_cells_n, .inl t_heights_cells_a)), (t_layering_lows_h, .inl (cI, 24, .inl o_t_layering_lows_a)), (t_layering_highs_h, .inl (cI, 24, .inl o_t_layering_highs_a)), (t_layering_found_h, .inl (cI, 24, .inl o_t_layering_found_a))] sz o_r := by
  refine en_0 (l := l) (y := yX9_must) (wsl := wsX9_must) (rm := rmX9_must) (av := [.ref t_h, .int x1, .int x2]) (G := G) (cI := cI) (cJ := cJ) (w0 := [(t_h, .inr (9, [.ref t_fraction_h, .ref t_settings_h, .ref t_firstEdges_h, .ref t_secondEdges_h, .ref t_layers_h, .ref t_sights_h, .ref t_shadows_h, .ref t_heights_h, .ref t_pairs_h, .ref t_rows_h, .ref t_notes_h, .ref t_matching_h, .ref t_speeds_h, .ref t_layering_h, .ref t_boards_h, .ref t_years_h, .ref t_sheets_h])), (t_heights_h, .inr (7, [.int t_heights_width, .int t_heights_most, .ref t_heights_cells_h, .int t_heights_lines])), (t_layering_h, .inr (2, [.ref t_heights_h, .ref t_layering_lows_h, .ref t_layering_highs_h, .ref t_layering_found_h])), (t_heights_cells_h, .inl (cI, t_heights_cells_n, .inl t_heights_cells_a)), (t_layering_lows_h, .inl (cI, 24, .inl t_layering_lows_a)), (t_layering_highs_h, .inl (cI, 24, .inl t_layering_highs_a)), (t_layering_found_h, .inl (cI, 24, .inl t_layering_found_a))]) (sz := sz) (Qf := fun A => Qi0 G cI cJ [(t_h, .inr (9, [.ref t_fraction_h, .ref t_settings_h, .ref t_firstEdges_h, .ref t_secondEdges_h, .ref t_layers_h, .ref t_sights_h, .ref t_shadows_h, .ref t_heights_h, .ref t_pairs_h, .ref t_rows_h, .ref t_notes_h, .ref t_matching_h, .ref t_speeds_h, .ref t_layering_h, .ref t_boards_h, .ref t_years_h, .ref t_sheets_h])), (t_heights_h, .inr (7, [.int t_heights_width, .int t_heights_most, .ref t_heights_cells_h, .int t_heights_lines])), (t_layering_h, .inr (2, [.ref t_heights_h, .ref t_layering_lows_h, .ref t_layering_highs_h, .ref t_layering_found_h])), (t_heights_cells_h, .inl (cI, t_heights_cells_n, .inl t_heights_cells_a)), (t_layering_lows_h, .inl (cI, 24, .inl o_t_layering_lows_a)), (t_layering_highs_h, .inl (cI, 24, .inl o_t_layering_highs_a)), (t_layering_found_h, .inl (cI, 24, .inl o_t_layering_found_a))] o_r A) (cc := cX9_must) (maxL := 4) (ret := (some .int)) RX9 (by decide +kernel) rfl rfl (Nat.le_of_ble_eq_true rfl) ?_
  intro p e s m args below meth c A ls Q hQ hx hb hr hts hown hlocks hml hN hK hP hD hS hA hl
  have hl : lv_has ls 4 [(0, .ref t_h), (1, .int x1), (2, .int x2)] := hl
  have iwX9 := iwX9_must_X9
  have fl_79 := hts (.fieldLink RX9 79 "CloudOffice" "layering" "LCloudOffice$Layering;") (by decide +kernel)
  have kc_210 := hts (.constant RX9 210 (-2000000)) (by decide +kernel)
  have hret : ∀ (o_r9 : Int32) (o_t_layering_lows_a9 : Nat → Int32) (o_t_layering_highs_a9 : Nat → Int32) (o_t_layering_found_a9 : Nat → Int32) (pc : Nat) (H : Heap) (locs : List Loc) (ls : Array Slot), decode cX9_must pc = .ok (.ireturn, 1) → some (o_r9, o_t_layering_lows_a9, o_t_layering_highs_a9, o_t_layering_found_a9) = some (o_r, o_t_layering_lows_a, o_t_layering_highs_a, o_t_layering_found_a) → va_P G vwCl [(t_h, .inr (9, [.ref t_fraction_h, .ref t_settings_h, .ref t_firstEdges_h, .ref t_secondEdges_h, .ref t_layers_h, .ref t_sights_h, .ref t_shadows_h, .ref t_heights_h, .ref t_pairs_h, .ref t_rows_h, .ref t_notes_h, .ref t_matching_h, .ref t_speeds_h, .ref t_layering_h, .ref t_boards_h, .ref t_years_h, .ref t_sheets_h])), (t_heights_h, .inr (7, [.int t_heights_width, .int t_heights_most, .ref t_heights_cells_h, .int t_heights_lines])), (t_layering_h, .inr (2, [.ref t_heights_h, .ref t_layering_lows_h, .ref t_layering_highs_h, .ref t_layering_found_h])), (t_heights_cells_h, .inl (cI, t_heights_cells_n, .inl t_heights_cells_a)), (t_layering_lows_h, .inl (cI, 24, .inl o_t_layering_lows_a9)), (t_layering_highs_h, .inl (cI, 24, .inl o_t_layering_highs_a9)), (t_layering_found_h, .inl (cI, 24, .inl o_t_layering_found_a9))] H → va_D A [(t_h, .inr (9, [.ref t_fraction_h, .ref t_settings_h, .ref t_firstEdges_h, .ref t_secondEdges_h, .ref t_layers_h, .ref t_sights_h, .ref t_shadows_h, .ref t_heights_h, .ref t_pairs_h, .ref t_rows_h, .ref t_notes_h, .ref t_matching_h, .ref t_speeds_h, .ref t_layering_h, .ref t_boards_h, .ref t_years_h, .ref t_sheets_h])), (t_heights_h, .inr (7, [.int t_heights_width, .int t_heights_most, .ref t_heights_cells_h, .int t_heights_lines])), (t_layering_h, .inr (2, [.ref t_heights_h, .ref t_layering_lows_h, .ref t_layering_highs_h, .ref t_layering_found_h])), (t_heights_cells_h, .inl (cI, t_heights_cells_n, .inl t_heights_cells_a)), (t_layering_lows_h, .inl (cI, 24, .inl o_t_layering_lows_a9)), (t_layering_highs_h, .inl (cI, 24, .inl o_t_layering_highs_a9)), (t_layering_found_h, .inl (cI, 24, .inl o_t_layering_found_a9))] → va_S A s.heap H locs → W p l e rmX9_must s m args below meth c H locs 0 0 Q (F0 m pc ls [.int o_r9]) := by
    intro o_r9 o_t_layering_lows_a9 o_t_layering_highs_a9 o_t_layering_found_a9 pc H locs ls hdg he hP hD hS
    cases he
    subst hQ
    exact rt_i hx hb hr hlocks hK hP hD hS rfl hdg
  clear hQ
  unfold fX9_must at hf
  refine lv_iload_n hx hb dX9_must_0 rfl (lv_at hl 1 rfl) ?_
  refine lv_bipush (v := (-50)) hx hb dX9_must_1 (by decide) ?_
  refine lv_bipush (v := 50) hx hb dX9_must_3 (by decide) ?_
  obtain ⟨r1, hc2, hf⟩ := ob_some hf
  refine af_iR (va_runS (As := [.int x1, .int (-50), .int 50]) (rest := []) ⟨hx, hb, hml, hown, hts⟩ (k_X9_isWithin l G cI cJ (x0 := x1) (x1 := (-50)) (x2 := 50) (sz := _) (hf := hc2)) (va_cwS 3 hts gX9_must_X9_isWithin rfl rfl rfl (by decide +kernel) ⟨Nat.le_of_ble_eq_true rfl, Nat.le_of_ble_eq_true rfl⟩) (preS0 (wc := []) hK hP hD hN [] rfl rfl (by decide)) rfl rfl hl.1 rfl (lv_room (Nat.le_of_ble_eq_true rfl)) dX9_must_5 ⟨Nat.zero_le _, Nat.zero_le _⟩) hP hD hS hA [] rfl (fun H locs hP hS => ?_)
  refine lv_if_eq (tgt := 16) hx hb dX9_must_8 (by decide) (fun c3 => ?_) (fun c3 => ?_)
  · have hf := ift hf c3
    refine lv_ldc (v := (-2000000)) hx hb hown kc_210 dX9_must_16 ?_
    exact hret (-2000000) t_layering_lows_a t_layering_highs_a t_layering_found_a 18 _ _ _ dX9_must_18 hf hP hD hS
  · have hf := iff_ hf c3
    refine lv_iload_n hx hb dX9_must_11 rfl (lv_at hl 2 rfl) ?_
    refine lv_iconst (v := (-1)) hx hb dX9_must_12 (by decide) ?_
    refine lv_icmp_ge (tgt := 19) hx hb dX9_must_13 (by decide) (fun c4 => ?_) (fun c4 => ?_)
    · have hf := ift hf c4
      refine lv_aload_n hx hb dX9_must_19 rfl (lv_at hl 0 rfl) ?_
      refine va_get (D := G) (ci := 9) (v := .ref t_layering_h) (C := RX9) (T := TX9) (N := 17) hx hb hts iwX9 hown hK hP 0 rfl rfl 13 (by decide) fl_79 (fun _ h9 => h9) rfl dX9_must_20 ?_
      refine lv_iload_n hx hb dX9_must_23 rfl (lv_at hl 1 rfl) ?_
      refine lv_bipush (v := 24) hx hb dX9_must_24 (by decide) ?_
      obtain ⟨r5, w6, w7, w8, hc9, hf⟩ := ob4_some hf
      refine af_iW (wr := [(t_h, .inr (9, [.ref t_fraction_h, .ref t_settings_h, .ref t_firstEdges_h, .ref t_secondEdges_h, .ref t_layers_h, .ref t_sights_h, .ref t_shadows_h, .ref t_heights_h, .ref t_pairs_h, .ref t_rows_h, .ref t_notes_h, .ref t_matching_h, .ref t_speeds_h, .ref t_layering_h, .ref t_boards_h, .ref t_years_h, .ref t_sheets_h]))]) (ws2 := [(t_h, .inr (9, [.ref t_fraction_h, .ref t_settings_h, .ref t_firstEdges_h, .ref t_secondEdges_h, .ref t_layers_h, .ref t_sights_h, .ref t_shadows_h, .ref t_heights_h, .ref t_pairs_h, .ref t_rows_h, .ref t_notes_h, .ref t_matching_h, .ref t_speeds_h, .ref t_layering_h, .ref t_boards_h, .ref t_years_h, .ref t_sheets_h])), (t_heights_h, .inr (7, [.int t_heights_width, .int t_heights_most, .ref t_heights_cells_h, .int t_heights_lines])), (t_layering_h, .inr (2, [.ref t_heights_h, .ref t_layering_lows_h, .ref t_layering_highs_h, .ref t_layering_found_h])), (t_heights_cells_h, .inl (cI, t_heights_cells_n, .inl t_heights_cells_a)), (t_layering_lows_h, .inl (cI, 24, .inl w6)), (t_layering_highs_h, .inl (cI, 24, .inl w7)), (t_layering_found_h, .inl (cI, 24, .inl w8))]) (va_runV (As := [.int x1, .int 24]) (rest := []) ⟨hx, hb, hml, hown, hts⟩ (k_X2_fill l G cI cJ (t_h := t_layering_h) (t_heights_h := t_heights_h) (t_lows_h := t_layering_lows_h) (t_highs_h := t_layering_highs_h) (t_found_h := t_layering_found_h) (t_heights_cells_h := t_heights_cells_h) (t_heights_width := t_heights_width) (t_heights_most := t_heights_most) (t_heights_lines := t_heights_lines) (t_lows_a := t_layering_lows_a) (t_highs_a := t_layering_highs_a) (t_found_a := t_layering_found_a) (t_heights_cells_n := t_heights_cells_n) (t_heights_cells_a := t_heights_cells_a) (x1 := x1) (x2 := 24) (sz := _) (hf := hc9)) (cwV 2 hts gX9_must_X2_fill rfl rfl rfl (by decide +kernel) ⟨Nat.le_of_ble_eq_true rfl, Nat.le_of_ble_eq_true rfl⟩) (preV0 (ci := 2) (q0 := 0) (C := RX2) (wc := [(t_layering_h, .inr (2, [.ref t_heights_h, .ref t_layering_lows_h, .ref t_layering_highs_h, .ref t_layering_found_h])), (t_heights_h, .inr (7, [.int t_heights_width, .int t_heights_most, .ref t_heights_cells_h, .int t_heights_lines])), (t_layering_lows_h, .inl (cI, 24, .inl t_layering_lows_a)), (t_layering_highs_h, .inl (cI, 24, .inl t_layering_highs_a)), (t_layering_found_h, .inl (cI, 24, .inl t_layering_found_a)), (t_heights_cells_h, .inl (cI, t_heights_cells_n, .inl t_heights_cells_a))]) hK hP hD hN [2, 1, 4, 5, 6, 3] rfl rfl (by decide) rfl rfl) rfl rfl hl.1 rfl (lv_room (Nat.le_of_ble_eq_true rfl)) dX9_must_26 ⟨Nat.zero_le _, Nat.zero_le _⟩) hP hD hS hA [2, 1, 4, 5, 6, 3] [0] [0, 2, 1, 6, 3, 4, 5] rfl rfl (by decide) (by decide) rfl rfl (by decide) (fun H locs hP hD hS => ?_)
      refine lv_istore_n (lv' := [(3, .int r5), (0, .ref t_h), (1, .int x1), (2, .int x2)]) hx hb dX9_must_29 rfl hl (by decide) rfl (fun ls hl => ?_)
      refine lv_iload_n hx hb dX9_must_30 rfl (lv_at hl 3 rfl) ?_
      refine lv_iconst (v := (-1)) hx hb dX9_must_31 (by decide) ?_
      refine lv_icmp_ne (tgt := 37) hx hb dX9_must_32 (by decide) (fun c10 => ?_) (fun c10 => ?_)
      · have hf := iff_ hf c10
        refine lv_iload_n hx hb dX9_must_37 rfl (lv_at hl 3 rfl) ?_
        refine lv_iload_n hx hb dX9_must_38 rfl (lv_at hl 0 rfl) ?_
        refine lv_icmp_ge (tgt := 53) hx hb dX9_must_39 (by decide) (fun c11 => ?_) (fun c11 => ?_)
        · have hf := ift hf c11
          refine lv_iconst (v := (-1)) hx hb dX9_must_53 (by decide) ?_
          exact hret (-1) w6 w7 w8 54 _ _ _ dX9_must_54 hf hP hD hS
        · have hf := iff_ hf c11
          refine lv_aload_n hx hb dX9_must_42 rfl (lv_at hl 1 rfl) ?_
          refine va_get (D := G) (ci := 9) (v := .ref t_layering_h) (C := RX9) (T := TX9) (N := 17) hx hb hts iwX9 hown hK hP 0 rfl rfl 13 (by decide) fl_79 (fun _ h9 => h9) rfl dX9_must_43 ?_
          refine lv_iload_n hx hb dX9_must_46 rfl (lv_at hl 3 rfl) ?_
          obtain ⟨r12, hc13, hf⟩ := ob_some hf
          refine af_iR (va_runV (As := [.int x2]) (rest := []) ⟨hx, hb, hml, hown, hts⟩ (k_X2_layerAt l G cI cJ (t_h := t_layering_h) (t_heights_h := t_heights_h) (t_lows_h := t_layering_lows_h) (t_highs_h := t_layering_highs_h) (t_found_h := t_layering_found_h) (t_found_a := w8) (x1 := x2) (sz := _) (hf := hc13)) (cwV 1 hts gX9_must_X2_layerAt rfl rfl rfl (by decide +kernel) ⟨Nat.le_of_ble_eq_true rfl, Nat.le_of_ble_eq_true rfl⟩) (preV0 (ci := 2) (q0 := 0) (C := RX2) (wc := [(t_layering_h, .inr (2, [.ref t_heights_h, .ref t_layering_lows_h, .ref t_layering_highs_h, .ref t_layering_found_h])), (t_layering_found_h, .inl (cI, 24, .inl w8))]) hK hP hD hN [2, 6] rfl rfl (by decide) rfl rfl) rfl rfl hl.1 rfl (lv_room (Nat.le_of_ble_eq_true rfl)) dX9_must_47 ⟨Nat.zero_le _, Nat.zero_le _⟩) hP hD hS hA [2, 6] rfl (fun H locs hP hS => ?_)
          refine lv_goto (tgt := 54) hx hb dX9_must_50 (by decide) ?_
          exact hret r12 w6 w7 w8 54 _ _ _ dX9_must_54 hf hP hD hS
      · have hf := ift hf c10
        refine lv_iload_n hx hb dX9_must_35 rfl (lv_at hl 0 rfl) ?_
        exact hret r5 w6 w7 w8 36 _ _ _ dX9_must_36 hf hP hD hS
    · have hf := iff_ hf c4
      refine lv_ldc (v := (-2000000)) hx hb hown kc_210 dX9_must_16 ?_
      exact hret (-2000000) t_layering_lows_a t_layering_highs_a t_layering_found_a 18 _ _ _ dX9_must_18 hf hP hD hS
set_option maxRecDepth 20000 in
theorem ggX9_tilted_X9_isWithin : GoodIn wsX9_tilted wsX9_isWithin := goodIn_r _ [5] (by decide +kernel) (by decide +kernel)
set_option maxRecDepth 20000 in
theorem gX9_tilted_X9_isWithin : GoodIn wsX9_tilted (va_wsS RX9 105 yX9_isWithin wsX9_isWithin) := goodIn_app (goodIn_of _ (by decide +kernel)) ggX9_tilted_X9_isWithin
set_option maxRecDepth 20000 in
theorem ggX9_tilted_X2_bestTilt : GoodIn wsX9_tilted wsX2_bestTilt := goodIn_r _ [10, 11, 12, 13, 9, 14, 15, 16, 17, 18, 19, 20, 21, 22, 23, 24, 25, 26, 27, 28, 29, 30, 31, 32, 33, 34, 35, 36, 37, 38, 39, 40, 59, 60, 61, 62, 63, 64, 65, 66] (by decide +kernel) (by decide +kernel)
set_option maxRecDepth 20000 in
theorem gX9_tilted_X2_bestTilt : GoodIn wsX9_tilted (wsV RX9 218 RX2 yX2_bestTilt wsX2_bestTilt) := goodIn_app (goodIn_of _ (by decide +kernel)) ggX9_tilted_X2_bestTilt
set_option maxRecDepth 20000 in
theorem ggX9_tilted_X2_fill : GoodIn wsX9_tilted wsX2_fill := goodIn_r _ [14, 15, 16, 17, 18, 19, 20, 9, 21, 22, 23, 24, 25, 26, 27, 28, 29, 30, 31, 32, 33, 34, 35, 36, 37, 38, 39, 40, 59, 60, 61, 62, 63, 64, 65, 66] (by decide +kernel) (by decide +kernel)
set_option maxRecDepth 20000 in
theorem gX9_tilted_X2_fill : GoodIn wsX9_tilted (wsV RX9 211 RX2 yX2_fill wsX2_fill) := goodIn_app (goodIn_of _ (by decide +kernel)) ggX9_tilted_X2_fill
theorem dX9_tilted_0 : decode cX9_tilted 0 = .ok (.iload_n 1, 1) := by decide +kernel
theorem dX9_tilted_1 : decode cX9_tilted 1 = .ok (.iconst 0, 1) := by decide +kernel
theorem dX9_tilted_2 : decode cX9_tilted 2 = .ok (.iconst 1, 1) := by decide +kernel
theorem dX9_tilted_3 : decode cX9_tilted 3 = .ok (.invokestatic 105, 3) := by decide +kernel
theorem dX9_tilted_6 : decode cX9_tilted 6 = .ok (.ifCond .ne 6, 3) := by decide +kernel
theorem dX9_tilted_9 : decode cX9_tilted 9 = .ok (.bipush (-100), 2) := by decide +kernel
theorem dX9_tilted_11 : decode cX9_tilted 11 = .ok (.ireturn, 1) := by decide +kernel
theorem dX9_tilted_12 : decode cX9_tilted 12 = .ok (.aload_n 0, 1) := by decide +kernel
theorem dX9_tilted_13 : decode cX9_tilted 13 = .ok (.getfield 79, 3) := by decide +kernel
theorem dX9_tilted_16 : decode cX9_tilted 16 = .ok (.invokevirtual 218, 3) := by decide +kernel
theorem dX9_tilted_19 : decode cX9_tilted 19 = .ok (.istore_n 2, 1) := by decide +kernel
theorem dX9_tilted_20 : decode cX9_tilted 20 = .ok (.iload_n 1, 1) := by decide +kernel
theorem dX9_tilted_21 : decode cX9_tilted 21 = .ok (.ifCond .ne 7, 3) := by decide +kernel
theorem dX9_tilted_24 : decode cX9_tilted 24 = .ok (.iload_n 2, 1) := by decide +kernel
theorem dX9_tilted_25 : decode cX9_tilted 25 = .ok (.goto 13, 3) := by decide +kernel
theorem dX9_tilted_28 : decode cX9_tilted 28 = .ok (.aload_n 0, 1) := by decide +kernel
theorem dX9_tilted_29 : decode cX9_tilted 29 = .ok (.getfield 79, 3) := by decide +kernel
theorem dX9_tilted_32 : decode cX9_tilted 32 = .ok (.iload_n 2, 1) := by decide +kernel
theorem dX9_tilted_33 : decode cX9_tilted 33 = .ok (.bipush 24, 2) := by decide +kernel
theorem dX9_tilted_35 : decode cX9_tilted 35 = .ok (.invokevirtual 211, 3) := by decide +kernel
theorem dX9_tilted_38 : decode cX9_tilted 38 = .ok (.ireturn, 1) := by decide +kernel
set_option maxRecDepth 100000 in
def fX9_tilted (x1 : Int32) (t_heights_width : Int32) (t_heights_lines : Int32) (t_heights_cells_n : Nat) (t_heights_cells_a : Nat → Int32) (t_layering_lows_a : Nat → Int32) (t_layering_highs_a : Nat → Int32) (t_layering_found_a : Nat → Int32) : Option (Int32 × (Nat → Int32) × (Nat → Int32) × (Nat → Int32)) :=
  ob (fX9_isWithin x1 0 1) fun r1 =>
  if (b2i r1) = 0 then
    some ((-100), t_layering_lows_a, t_layering_highs_a, t_layering_found_a)
  else
    ob4 (fX2_bestTilt t_heights_width t_heights_lines t_layering_lows_a t_layering_highs_a t_layering_found_a t_heights_cells_n t_heights_cells_a) fun r4 w5 w6 w7 =>
    if x1 = 0 then
      some (r4, w5, w6, w7)
    else
      ob4 (fX2_fill r4 24 t_heights_width t_heights_lines w5 w6 w7 t_heights_cells_n t_heights_cells_a) fun r10 w11 w12 w13 =>
      some (r10, w11, w12, w13)
abbrev rmX9_tilted : Room := { frames := 4, cells := 0, slots := 0, locals := 96 }
theorem iwX9_tilted_X9 : ∀ w ∈ u_ws RX9 TX9 17, w ∈ wsX9_tilted := by decide +kernel
set_option maxHeartbeats 4000000 in
set_option maxRecDepth 100000 in
theorem k_X9_tilted (l : Launch) (G : va_G) (cI cJ : ClassId) (t_h t_fraction_h t_settings_h t_firstEdges_h t_secondEdges_h t_layers_h t_sights_h t_shadows_h t_heights_h t_pairs_h t_rows_h t_notes_h t_matching_h t_speeds_h t_layering_h t_boards_h t_years_h t_sheets_h t_heights_cells_h t_layering_lows_h t_layering_highs_h t_layering_found_h : Nat) (sz : Nat) (t_heights_width : Int32) (t_heights_most : Int32) (t_heights_lines : Int32) (t_heights_cells_n : Nat) (t_heights_cells_a : Nat → Int32) (t_layering_lows_a : Nat → Int32) (t_layering_highs_a : Nat → Int32) (t_layering_found_a : Nat → Int32) (x1 : Int32) {o_r : Int32} {o_t_layering_lows_a : Nat → Int32} {o_t_layering_highs_a : Nat → Int32} {o_t_layering_found_a : Nat → Int32} (hf : fX9_tilted x1 t_heights_width t_heights_lines t_heights_cells_n t_heights_cells_a t_layering_lows_a t_layering_highs_a t_layering_found_a = some (o_r, o_t_layering_lows_a, o_t_layering_highs_a, o_t_layering_found_a)) : MetI l yX9_tilted wsX9_tilted rmX9_tilted [.ref t_h, .int x1] G cI cJ [(t_h, .inr (9, [.ref t_fraction_h, .ref t_settings_h, .ref t_firstEdges_h, .ref t_secondEdges_h, .ref t_layers_h, .ref t_sights_h, .ref t_shadows_h, .ref t_heights_h, .ref t_pairs_h, .ref t_rows_h, .ref t_notes_h, .ref t_matching_h, .ref t_speeds_h, .ref t_layering_h, .ref t_boards_h, .ref t_years_h, .ref t_sheets_h])), (t_heights_h, .inr (7, [.int t_heights_width, .int t_heights_most, .ref t_heights_cells_h, .int t_heights_lines])), (t_layering_h, .inr (2, [.ref t_heights_h, .ref t_layering_lows_h, .ref t_layering_highs_h, .ref t_layering_found_h])), (t_heights_cells_h, .inl (cI, t_heights_cells_n, .inl t_heights_cells_a)), (t_layering_lows_h, .inl (cI, 24, .inl t_layering_lows_a)), (t_layering_highs_h, .inl (cI, 24, .inl t_layering_highs_a)), (t_layering_found_h, .inl (cI, 24, .inl t_layering_found_a))] [(t_h, .inr (9, [.ref t_fraction_h, .ref t_settings_h, .ref t_firstEdges_h, .ref t_secondEdges_h, .ref t_layers_h, .ref t_sights_h, .ref t_shadows_h, .ref t_heights_h, .ref t_pairs_h, .ref t_rows_h, .ref t_notes_h, .ref t_matching_h, .ref t_speeds_h, .ref t_layering_h, .ref t_boards_h, .ref t_years_h, .ref t_sheets_h])), (t_heights_h, .inr (7, [.int t_heights_width, .int t_heights_most, .ref t_heights_cells_h, .int t_heights_lines])), (t_layering_h, .inr (2, [.ref t_heights_h, .ref t_layering_lows_h, .ref t_layering_highs_h, .ref t_layering_found_h])), (t_heights_cells_h, .inl (cI, t_heights_cells_n, .inl t_heights_cells_a)), (t_layering_lows_h, .inl (cI, 24, .inl o_t_layering_lows_a)), (t_layering_highs_h, .inl (cI, 24, .inl o_t_layering_highs_a)), (t_layering_found_h, .inl (cI, 24, .inl o_t_layering_found_a))] sz o_r := by
  refine en_0 (l := l) (y := yX9_tilted) (wsl := wsX9_tilted) (rm := rmX9_tilted) (av := [.ref t_h, .int x1]) (G := G) (cI := cI) (cJ := cJ) (w0 := [(t_h, .inr (9, [.ref t_fraction_h, .ref t_settings_h, .ref t_firstEdges_h, .ref t_secondEdges_h, .ref t_layers_h, .ref t_sights_h, .ref t_shadows_h, .ref t_heights_h, .ref t_pairs_h, .ref t_rows_h, .ref t_notes_h, .ref t_matching_h, .ref t_speeds_h, .ref t_layering_h, .ref t_boards_h, .ref t_years_h, .ref t_sheets_h])), (t_heights_h, .inr (7, [.int t_heights_width, .int t_heights_most, .ref t_heights_cells_h, .int t_heights_lines])), (t_layering_h, .inr (2, [.ref t_heights_h, .ref t_layering_lows_h, .ref t_layering_highs_h, .ref t_layering_found_h])), (t_heights_cells_h, .inl (cI, t_heights_cells_n, .inl t_heights_cells_a)), (t_layering_lows_h, .inl (cI, 24, .inl t_layering_lows_a)), (t_layering_highs_h, .inl (cI, 24, .inl t_layering_highs_a)), (t_layering_found_h, .inl (cI, 24, .inl t_layering_found_a))]) (sz := sz) (Qf := fun A => Qi0 G cI cJ [(t_h, .inr (9, [.ref t_fraction_h, .ref t_settings_h, .ref t_firstEdges_h, .ref t_secondEdges_h, .ref t_layers_h, .ref t_sights_h, .ref t_shadows_h, .ref t_heights_h, .ref t_pairs_h, .ref t_rows_h, .ref t_notes_h, .ref t_matching_h, .ref t_speeds_h, .ref t_layering_h, .ref t_boards_h, .ref t_years_h, .ref t_sheets_h])), (t_heights_h, .inr (7, [.int t_heights_width, .int t_heights_most, .ref t_heights_cells_h, .int t_heights_lines])), (t_layering_h, .inr (2, [.ref t_heights_h, .ref t_layering_lows_h, .ref t_layering_highs_h, .ref t_layering_found_h])), (t_heights_cells_h, .inl (cI, t_heights_cells_n, .inl t_heights_cells_a)), (t_layering_lows_h, .inl (cI, 24, .inl o_t_layering_lows_a)), (t_layering_highs_h, .inl (cI, 24, .inl o_t_layering_highs_a)), (t_layering_found_h, .inl (cI, 24, .inl o_t_layering_found_a))] o_r A) (cc := cX9_tilted) (maxL := 3) (ret := (some .int)) RX9 (by decide +kernel) rfl rfl (Nat.le_of_ble_eq_true rfl) ?_
  intro p e s m args below meth c A ls Q hQ hx hb hr hts hown hlocks hml hN hK hP hD hS hA hl
  have hl : lv_has ls 3 [(0, .ref t_h), (1, .int x1)] := hl
  have iwX9 := iwX9_tilted_X9
  have fl_79 := hts (.fieldLink RX9 79 "CloudOffice" "layering" "LCloudOffice$Layering;") (by decide +kernel)
  have hret : ∀ (o_r9 : Int32) (o_t_layering_lows_a9 : Nat → Int32) (o_t_layering_highs_a9 : Nat → Int32) (o_t_layering_found_a9 : Nat → Int32) (pc : Nat) (H : Heap) (locs : List Loc) (ls : Array Slot), decode cX9_tilted pc = .ok (.ireturn, 1) → some (o_r9, o_t_layering_lows_a9, o_t_layering_highs_a9, o_t_layering_found_a9) = some (o_r, o_t_layering_lows_a, o_t_layering_highs_a, o_t_layering_found_a) → va_P G vwCl [(t_h, .inr (9, [.ref t_fraction_h, .ref t_settings_h, .ref t_firstEdges_h, .ref t_secondEdges_h, .ref t_layers_h, .ref t_sights_h, .ref t_shadows_h, .ref t_heights_h, .ref t_pairs_h, .ref t_rows_h, .ref t_notes_h, .ref t_matching_h, .ref t_speeds_h, .ref t_layering_h, .ref t_boards_h, .ref t_years_h, .ref t_sheets_h])), (t_heights_h, .inr (7, [.int t_heights_width, .int t_heights_most, .ref t_heights_cells_h, .int t_heights_lines])), (t_layering_h, .inr (2, [.ref t_heights_h, .ref t_layering_lows_h, .ref t_layering_highs_h, .ref t_layering_found_h])), (t_heights_cells_h, .inl (cI, t_heights_cells_n, .inl t_heights_cells_a)), (t_layering_lows_h, .inl (cI, 24, .inl o_t_layering_lows_a9)), (t_layering_highs_h, .inl (cI, 24, .inl o_t_layering_highs_a9)), (t_layering_found_h, .inl (cI, 24, .inl o_t_layering_found_a9))] H → va_D A [(t_h, .inr (9, [.ref t_fraction_h, .ref t_settings_h, .ref t_firstEdges_h, .ref t_secondEdges_h, .ref t_layers_h, .ref t_sights_h, .ref t_shadows_h, .ref t_heights_h, .ref t_pairs_h, .ref t_rows_h, .ref t_notes_h, .ref t_matching_h, .ref t_speeds_h, .ref t_layering_h, .ref t_boards_h, .ref t_years_h, .ref t_sheets_h])), (t_heights_h, .inr (7, [.int t_heights_width, .int t_heights_most, .ref t_heights_cells_h, .int t_heights_lines])), (t_layering_h, .inr (2, [.ref t_heights_h, .ref t_layering_lows_h, .ref t_layering_highs_h, .ref t_layering_found_h])), (t_heights_cells_h, .inl (cI, t_heights_cells_n, .inl t_heights_cells_a)), (t_layering_lows_h, .inl (cI, 24, .inl o_t_layering_lows_a9)), (t_layering_highs_h, .inl (cI, 24, .inl o_t_layering_highs_a9)), (t_layering_found_h, .inl (cI, 24, .inl o_t_layering_found_a9))] → va_S A s.heap H locs → W p l e rmX9_tilted s m args below meth c H locs 0 0 Q (F0 m pc ls [.int o_r9]) := by
    intro o_r9 o_t_layering_lows_a9 o_t_layering_highs_a9 o_t_layering_found_a9 pc H locs ls hdg he hP hD hS
    cases he
    subst hQ
    exact rt_i hx hb hr hlocks hK hP hD hS rfl hdg
  clear hQ
  unfold fX9_tilted at hf
  refine lv_iload_n hx hb dX9_tilted_0 rfl (lv_at hl 1 rfl) ?_
  refine lv_iconst (v := 0) hx hb dX9_tilted_1 (by decide) ?_
  refine lv_iconst (v := 1) hx hb dX9_tilted_2 (by decide) ?_
  obtain ⟨r1, hc2, hf⟩ := ob_some hf
  refine af_iR (va_runS (As := [.int x1, .int 0, .int 1]) (rest := []) ⟨hx, hb, hml, hown, hts⟩ (k_X9_isWithin l G cI cJ (x0 := x1) (x1 := 0) (x2 := 1) (sz := _) (hf := hc2)) (va_cwS 3 hts gX9_tilted_X9_isWithin rfl rfl rfl (by decide +kernel) ⟨Nat.le_of_ble_eq_true rfl, Nat.le_of_ble_eq_true rfl⟩) (preS0 (wc := []) hK hP hD hN [] rfl rfl (by decide)) rfl rfl hl.1 rfl (lv_room (Nat.le_of_ble_eq_true rfl)) dX9_tilted_3 ⟨Nat.zero_le _, Nat.zero_le _⟩) hP hD hS hA [] rfl (fun H locs hP hS => ?_)
  refine lv_if_ne (tgt := 12) hx hb dX9_tilted_6 (by decide) (fun c3 => ?_) (fun c3 => ?_)
  · have hf := iff_ hf c3
    refine lv_aload_n hx hb dX9_tilted_12 rfl (lv_at hl 0 rfl) ?_
    refine va_get (D := G) (ci := 9) (v := .ref t_layering_h) (C := RX9) (T := TX9) (N := 17) hx hb hts iwX9 hown hK hP 0 rfl rfl 13 (by decide) fl_79 (fun _ h9 => h9) rfl dX9_tilted_13 ?_
    obtain ⟨r4, w5, w6, w7, hc8, hf⟩ := ob4_some hf
    refine af_iW (wr := [(t_h, .inr (9, [.ref t_fraction_h, .ref t_settings_h, .ref t_firstEdges_h, .ref t_secondEdges_h, .ref t_layers_h, .ref t_sights_h, .ref t_shadows_h, .ref t_heights_h, .ref t_pairs_h, .ref t_rows_h, .ref t_notes_h, .ref t_matching_h, .ref t_speeds_h, .ref t_layering_h, .ref t_boards_h, .ref t_years_h, .ref t_sheets_h]))]) (ws2 := [(t_h, .inr (9, [.ref t_fraction_h, .ref t_settings_h, .ref t_firstEdges_h, .ref t_secondEdges_h, .ref t_layers_h, .ref t_sights_h, .ref t_shadows_h, .ref t_heights_h, .ref t_pairs_h, .ref t_rows_h, .ref t_notes_h, .ref t_matching_h, .ref t_speeds_h, .ref t_layering_h, .ref t_boards_h, .ref t_years_h, .ref t_sheets_h])), (t_heights_h, .inr (7, [.int t_heights_width, .int t_heights_most, .ref t_heights_cells_h, .int t_heights_lines])), (t_layering_h, .inr (2, [.ref t_heights_h, .ref t_layering_lows_h, .ref t_layering_highs_h, .ref t_layering_found_h])), (t_heights_cells_h, .inl (cI, t_heights_cells_n, .inl t_heights_cells_a)), (t_layering_lows_h, .inl (cI, 24, .inl w5)), (t_layering_highs_h, .inl (cI, 24, .inl w6)), (t_layering_found_h, .inl (cI, 24, .inl w7))]) (va_runV (As := []) (rest := []) ⟨hx, hb, hml, hown, hts⟩ (k_X2_bestTilt l G cI cJ (t_h := t_layering_h) (t_heights_h := t_heights_h) (t_lows_h := t_layering_lows_h) (t_highs_h := t_layering_highs_h) (t_found_h := t_layering_found_h) (t_heights_cells_h := t_heights_cells_h) (t_heights_width := t_heights_width) (t_heights_most := t_heights_most) (t_heights_lines := t_heights_lines) (t_lows_a := t_layering_lows_a) (t_highs_a := t_layering_highs_a) (t_found_a := t_layering_found_a) (t_heights_cells_n := t_heights_cells_n) (t_heights_cells_a := t_heights_cells_a) (sz := _) (hf := hc8)) (cwV 0 hts gX9_tilted_X2_bestTilt rfl rfl rfl (by decide +kernel) ⟨Nat.le_of_ble_eq_true rfl, Nat.le_of_ble_eq_true rfl⟩) (preV0 (ci := 2) (q0 := 0) (C := RX2) (wc := [(t_layering_h, .inr (2, [.ref t_heights_h, .ref t_layering_lows_h, .ref t_layering_highs_h, .ref t_layering_found_h])), (t_heights_h, .inr (7, [.int t_heights_width, .int t_heights_most, .ref t_heights_cells_h, .int t_heights_lines])), (t_layering_lows_h, .inl (cI, 24, .inl t_layering_lows_a)), (t_layering_highs_h, .inl (cI, 24, .inl t_layering_highs_a)), (t_layering_found_h, .inl (cI, 24, .inl t_layering_found_a)), (t_heights_cells_h, .inl (cI, t_heights_cells_n, .inl t_heights_cells_a))]) hK hP hD hN [2, 1, 4, 5, 6, 3] rfl rfl (by decide) rfl rfl) rfl rfl hl.1 rfl (lv_room (Nat.le_of_ble_eq_true rfl)) dX9_tilted_16 ⟨Nat.zero_le _, Nat.zero_le _⟩) hP hD hS hA [2, 1, 4, 5, 6, 3] [0] [0, 2, 1, 6, 3, 4, 5] rfl rfl (by decide) (by decide) rfl rfl (by decide) (fun H locs hP hD hS => ?_)
    refine lv_istore_n (lv' := [(2, .int r4), (0, .ref t_h), (1, .int x1)]) hx hb dX9_tilted_19 rfl hl (by decide) rfl (fun ls hl => ?_)
    refine lv_iload_n hx hb dX9_tilted_20 rfl (lv_at hl 2 rfl) ?_
    refine lv_if_ne (tgt := 28) hx hb dX9_tilted_21 (by decide) (fun c9 => ?_) (fun c9 => ?_)
    · have hf := iff_ hf c9
      refine lv_aload_n hx hb dX9_tilted_28 rfl (lv_at hl 1 rfl) ?_
      refine va_get (D := G) (ci := 9) (v := .ref t_layering_h) (C := RX9) (T := TX9) (N := 17) hx hb hts iwX9 hown hK hP 0 rfl rfl 13 (by decide) fl_79 (fun _ h9 => h9) rfl dX9_tilted_29 ?_
      refine lv_iload_n hx hb dX9_tilted_32 rfl (lv_at hl 0 rfl) ?_
      refine lv_bipush (v := 24) hx hb dX9_tilted_33 (by decide) ?_
      obtain ⟨r10, w11, w12, w13, hc14, hf⟩ := ob4_some hf
      refine af_iW (wr := [(t_h, .inr (9, [.ref t_fraction_h, .ref t_settings_h, .ref t_firstEdges_h, .ref t_secondEdges_h, .ref t_layers_h, .ref t_sights_h, .ref t_shadows_h, .ref t_heights_h, .ref t_pairs_h, .ref t_rows_h, .ref t_notes_h, .ref t_matching_h, .ref t_speeds_h, .ref t_layering_h, .ref t_boards_h, .ref t_years_h, .ref t_sheets_h]))]) (ws2 := [(t_h, .inr (9, [.ref t_fraction_h, .ref t_settings_h, .ref t_firstEdges_h, .ref t_secondEdges_h, .ref t_layers_h, .ref t_sights_h, .ref t_shadows_h, .ref t_heights_h, .ref t_pairs_h, .ref t_rows_h, .ref t_notes_h, .ref t_matching_h, .ref t_speeds_h, .ref t_layering_h, .ref t_boards_h, .ref t_years_h, .ref t_sheets_h])), (t_heights_h, .inr (7, [.int t_heights_width, .int t_heights_most, .ref t_heights_cells_h, .int t_heights_lines])), (t_layering_h, .inr (2, [.ref t_heights_h, .ref t_layering_lows_h, .ref t_layering_highs_h, .ref t_layering_found_h])), (t_heights_cells_h, .inl (cI, t_heights_cells_n, .inl t_heights_cells_a)), (t_layering_lows_h, .inl (cI, 24, .inl w11)), (t_layering_highs_h, .inl (cI, 24, .inl w12)), (t_layering_found_h, .inl (cI, 24, .inl w13))]) (va_runV (As := [.int r4, .int 24]) (rest := []) ⟨hx, hb, hml, hown, hts⟩ (k_X2_fill l G cI cJ (t_h := t_layering_h) (t_heights_h := t_heights_h) (t_lows_h := t_layering_lows_h) (t_highs_h := t_layering_highs_h) (t_found_h := t_layering_found_h) (t_heights_cells_h := t_heights_cells_h) (t_heights_width := t_heights_width) (t_heights_most := t_heights_most) (t_heights_lines := t_heights_lines) (t_lows_a := w5) (t_highs_a := w6) (t_found_a := w7) (t_heights_cells_n := t_heights_cells_n) (t_heights_cells_a := t_heights_cells_a) (x1 := r4) (x2 := 24) (sz := _) (hf := hc14)) (cwV 2 hts gX9_tilted_X2_fill rfl rfl rfl (by decide +kernel) ⟨Nat.le_of_ble_eq_true rfl, Nat.le_of_ble_eq_true rfl⟩) (preV0 (ci := 2) (q0 := 0) (C := RX2) (wc := [(t_layering_h, .inr (2, [.ref t_heights_h, .ref t_layering_lows_h, .ref t_layering_highs_h, .ref t_layering_found_h])), (t_heights_h, .inr (7, [.int t_heights_width, .int t_heights_most, .ref t_heights_cells_h, .int t_heights_lines])), (t_layering_lows_h, .inl (cI, 24, .inl w5)), (t_layering_highs_h, .inl (cI, 24, .inl w6)), (t_layering_found_h, .inl (cI, 24, .inl w7)), (t_heights_cells_h, .inl (cI, t_heights_cells_n, .inl t_heights_cells_a))]) hK hP hD hN [2, 1, 4, 5, 6, 3] rfl rfl (by decide) rfl rfl) rfl rfl hl.1 rfl (lv_room (Nat.le_of_ble_eq_true rfl)) dX9_tilted_35 ⟨Nat.zero_le _, Nat.zero_le _⟩) hP hD hS hA [2, 1, 4, 5, 6, 3] [0] [0, 2, 1, 6, 3, 4, 5] rfl rfl (by decide) (by decide) rfl rfl (by decide) (fun H locs hP hD hS => ?_)
      exact hret r10 w11 w12 w13 38 _ _ _ dX9_tilted_38 hf hP hD hS
    · have hf := ift hf c9
      refine lv_iload_n hx hb dX9_tilted_24 rfl (lv_at hl 0 rfl) ?_
      refine lv_goto (tgt := 38) hx hb dX9_tilted_25 (by decide) ?_
      exact hret r4 w5 w6 w7 38 _ _ _ dX9_tilted_38 hf hP hD hS
  · have hf := ift hf c3
    refine lv_bipush (v := (-100)) hx hb dX9_tilted_9 (by decide) ?_
    exact hret (-100) t_layering_lows_a t_layering_highs_a t_layering_found_a 11 _ _ _ dX9_tilted_11 hf hP hD hS
set_option maxRecDepth 20000 in
theorem ggX9_pair_X9_isWithin : GoodIn wsX9_pair wsX9_isWithin := goodIn_r _ [5] (by decide +kernel) (by decide +kernel)
set_option maxRecDepth 20000 in
theorem gX9_pair_X9_isWithin : GoodIn wsX9_pair (va_wsS RX9 105 yX9_isWithin wsX9_isWithin) := goodIn_app (goodIn_of _ (by decide +kernel)) ggX9_pair_X9_isWithin
set_option maxRecDepth 20000 in
theorem ggX9_pair_X7_add : GoodIn wsX9_pair wsX7_add := goodIn_r _ [10, 11, 12, 13, 14, 15, 9, 16, 17, 18, 36, 37, 38, 39] (by decide +kernel) (by decide +kernel)
set_option maxRecDepth 20000 in
theorem gX9_pair_X7_add : GoodIn wsX9_pair (wsV RX9 120 RX7 yX7_add wsX7_add) := goodIn_app (goodIn_of _ (by decide +kernel)) ggX9_pair_X7_add
theorem dX9_pair_0 : decode cX9_pair 0 = .ok (.iload_n 1, 1) := by decide +kernel
theorem dX9_pair_1 : decode cX9_pair 1 = .ok (.iconst 0, 1) := by decide +kernel
theorem dX9_pair_2 : decode cX9_pair 2 = .ok (.iconst 5, 1) := by decide +kernel
theorem dX9_pair_3 : decode cX9_pair 3 = .ok (.invokestatic 105, 3) := by decide +kernel
theorem dX9_pair_6 : decode cX9_pair 6 = .ok (.ifCond .eq 17, 3) := by decide +kernel
theorem dX9_pair_9 : decode cX9_pair 9 = .ok (.iload_n 2, 1) := by decide +kernel
theorem dX9_pair_10 : decode cX9_pair 10 = .ok (.iconst 0, 1) := by decide +kernel
theorem dX9_pair_11 : decode cX9_pair 11 = .ok (.iconst 5, 1) := by decide +kernel
theorem dX9_pair_12 : decode cX9_pair 12 = .ok (.invokestatic 105, 3) := by decide +kernel
theorem dX9_pair_15 : decode cX9_pair 15 = .ok (.ifCond .eq 8, 3) := by decide +kernel
theorem dX9_pair_18 : decode cX9_pair 18 = .ok (.iload_n 1, 1) := by decide +kernel
theorem dX9_pair_19 : decode cX9_pair 19 = .ok (.iload_n 2, 1) := by decide +kernel
theorem dX9_pair_20 : decode cX9_pair 20 = .ok (.if_icmp .ne 6, 3) := by decide +kernel
theorem dX9_pair_23 : decode cX9_pair 23 = .ok (.bipush (-2), 2) := by decide +kernel
theorem dX9_pair_25 : decode cX9_pair 25 = .ok (.ireturn, 1) := by decide +kernel
theorem dX9_pair_26 : decode cX9_pair 26 = .ok (.iload_n 3, 1) := by decide +kernel
theorem dX9_pair_27 : decode cX9_pair 27 = .ok (.sipush (-2000), 3) := by decide +kernel
theorem dX9_pair_30 : decode cX9_pair 30 = .ok (.sipush 2000, 3) := by decide +kernel
theorem dX9_pair_33 : decode cX9_pair 33 = .ok (.invokestatic 105, 3) := by decide +kernel
theorem dX9_pair_36 : decode cX9_pair 36 = .ok (.ifCond .ne 6, 3) := by decide +kernel
theorem dX9_pair_39 : decode cX9_pair 39 = .ok (.bipush (-2), 2) := by decide +kernel
theorem dX9_pair_41 : decode cX9_pair 41 = .ok (.ireturn, 1) := by decide +kernel
theorem dX9_pair_42 : decode cX9_pair 42 = .ok (.aload_n 0, 1) := by decide +kernel
theorem dX9_pair_43 : decode cX9_pair 43 = .ok (.getfield 47, 3) := by decide +kernel
theorem dX9_pair_46 : decode cX9_pair 46 = .ok (.iload_n 1, 1) := by decide +kernel
theorem dX9_pair_47 : decode cX9_pair 47 = .ok (.iload_n 2, 1) := by decide +kernel
theorem dX9_pair_48 : decode cX9_pair 48 = .ok (.iload_n 3, 1) := by decide +kernel
theorem dX9_pair_49 : decode cX9_pair 49 = .ok (.iconst 0, 1) := by decide +kernel
theorem dX9_pair_50 : decode cX9_pair 50 = .ok (.invokevirtual 120, 3) := by decide +kernel
theorem dX9_pair_53 : decode cX9_pair 53 = .ok (.ireturn, 1) := by decide +kernel
set_option maxRecDepth 100000 in
def fX9_pair (x1 : Int32) (x2 : Int32) (x3 : Int32) (t_pairs_width : Int32) (t_pairs_most : Int32) (t_pairs_lines : Int32) (t_pairs_cells_n : Nat) (t_pairs_cells_a : Nat → Int32) : Option (Int32 × Int32 × (Nat → Int32)) :=
  ob (fX9_isWithin x1 0 5) fun r1 =>
  if (b2i r1) = 0 then
    some ((-2), t_pairs_lines, t_pairs_cells_a)
  else
    ob (fX9_isWithin x2 0 5) fun r4 =>
    if (b2i r4) = 0 then
      some ((-2), t_pairs_lines, t_pairs_cells_a)
    else
      if x1 = x2 then
        some ((-2), t_pairs_lines, t_pairs_cells_a)
      else
        ob (fX9_isWithin x3 (-2000) 2000) fun r8 =>
        if (b2i r8) = 0 then
          some ((-2), t_pairs_lines, t_pairs_cells_a)
        else
          ob3 (fX7_add x1 x2 x3 0 t_pairs_width t_pairs_most t_pairs_lines t_pairs_cells_n t_pairs_cells_a) fun r11 w12 w13 =>
          some (r11, w12, w13)
abbrev rmX9_pair : Room := { frames := 2, cells := 0, slots := 0, locals := 47 }
theorem iwX9_pair_X9 : ∀ w ∈ u_ws RX9 TX9 17, w ∈ wsX9_pair := by decide +kernel
set_option maxHeartbeats 4000000 in
set_option maxRecDepth 100000 in
theorem k_X9_pair (l : Launch) (G : va_G) (cI cJ : ClassId) (t_h t_fraction_h t_settings_h t_firstEdges_h t_secondEdges_h t_layers_h t_sights_h t_shadows_h t_heights_h t_pairs_h t_rows_h t_notes_h t_matching_h t_speeds_h t_layering_h t_boards_h t_years_h t_sheets_h t_pairs_cells_h : Nat) (sz : Nat) (t_pairs_width : Int32) (t_pairs_most : Int32) (t_pairs_lines : Int32) (t_pairs_cells_n : Nat) (t_pairs_cells_a : Nat → Int32) (x1 : Int32) (x2 : Int32) (x3 : Int32) {o_r : Int32} {o_t_pairs_lines : Int32} {o_t_pairs_cells_a : Nat → Int32} (hf : fX9_pair x1 x2 x3 t_pairs_width t_pairs_most t_pairs_lines t_pairs_cells_n t_pairs_cells_a = some (o_r, o_t_pairs_lines, o_t_pairs_cells_a)) : MetI l yX9_pair wsX9_pair rmX9_pair [.ref t_h, .int x1, .int x2, .int x3] G cI cJ [(t_h, .inr (9, [.ref t_fraction_h, .ref t_settings_h, .ref t_firstEdges_h, .ref t_secondEdges_h, .ref t_layers_h, .ref t_sights_h, .ref t_shadows_h, .ref t_heights_h, .ref t_pairs_h, .ref t_rows_h, .ref t_notes_h, .ref t_matching_h, .ref t_speeds_h, .ref t_layering_h, .ref t_boards_h, .ref t_years_h, .ref t_sheets_h])), (t_pairs_h, .inr (7, [.int t_pairs_width, .int t_pairs_most, .ref t_pairs_cells_h, .int t_pairs_lines])), (t_pairs_cells_h, .inl (cI, t_pairs_cells_n, .inl t_pairs_cells_a))] [(t_h, .inr (9, [.ref t_fraction_h, .ref t_settings_h, .ref t_firstEdges_h, .ref t_secondEdges_h, .ref t_layers_h, .ref t_sights_h, .ref t_shadows_h, .ref t_heights_h, .ref t_pairs_h, .ref t_rows_h, .ref t_notes_h, .ref t_matching_h, .ref t_speeds_h, .ref t_layering_h, .ref t_boards_h, .ref t_years_h, .ref t_sheets_h])), (t_pairs_h, .inr (7, [.int t_pairs_width, .int t_pairs_most, .ref t_pairs_cells_h, .int o_t_pairs_lines])), (t_pairs_cells_h, .inl (cI, t_pairs_cells_n, .inl o_t_pairs_cells_a))] sz o_r := by
  refine en_0 (l := l) (y := yX9_pair) (wsl := wsX9_pair) (rm := rmX9_pair) (av := [.ref t_h, .int x1, .int x2, .int x3]) (G := G) (cI := cI) (cJ := cJ) (w0 := [(t_h, .inr (9, [.ref t_fraction_h, .ref t_settings_h, .ref t_firstEdges_h, .ref t_secondEdges_h, .ref t_layers_h, .ref t_sights_h, .ref t_shadows_h, .ref t_heights_h, .ref t_pairs_h, .ref t_rows_h, .ref t_notes_h, .ref t_matching_h, .ref t_speeds_h, .ref t_layering_h, .ref t_boards_h, .ref t_years_h, .ref t_sheets_h])), (t_pairs_h, .inr (7, [.int t_pairs_width, .int t_pairs_most, .ref t_pairs_cells_h, .int t_pairs_lines])), (t_pairs_cells_h, .inl (cI, t_pairs_cells_n, .inl t_pairs_cells_a))]) (sz := sz) (Qf := fun A => Qi0 G cI cJ [(t_h, .inr (9, [.ref t_fraction_h, .ref t_settings_h, .ref t_firstEdges_h, .ref t_secondEdges_h, .ref t_layers_h, .ref t_sights_h, .ref t_shadows_h, .ref t_heights_h, .ref t_pairs_h, .ref t_rows_h, .ref t_notes_h, .ref t_matching_h, .ref t_speeds_h, .ref t_layering_h, .ref t_boards_h, .ref t_years_h, .ref t_sheets_h])), (t_pairs_h, .inr (7, [.int t_pairs_width, .int t_pairs_most, .ref t_pairs_cells_h, .int o_t_pairs_lines])), (t_pairs_cells_h, .inl (cI, t_pairs_cells_n, .inl o_t_pairs_cells_a))] o_r A) (cc := cX9_pair) (maxL := 4) (ret := (some .int)) RX9 (by decide +kernel) rfl rfl (Nat.le_of_ble_eq_true rfl) ?_
  intro p e s m args below meth c A ls Q hQ hx hb hr hts hown hlocks hml hN hK hP hD hS hA hl
  have hl : lv_has ls 4 [(0, .ref t_h), (1, .int x1), (2, .int x2), (3, .int x3)] := hl
  have iwX9 := iwX9_pair_X9
  have fl_47 := hts (.fieldLink RX9 47 "CloudOffice" "pairs" "LCloudOffice$Table;") (by decide +kernel)
  have hret : ∀ (o_r9 : Int32) (o_t_pairs_lines9 : Int32) (o_t_pairs_cells_a9 : Nat → Int32) (pc : Nat) (H : Heap) (locs : List Loc) (ls : Array Slot), decode cX9_pair pc = .ok (.ireturn, 1) → some (o_r9, o_t_pairs_lines9, o_t_pairs_cells_a9) = some (o_r, o_t_pairs_lines, o_t_pairs_cells_a) → va_P G vwCl [(t_h, .inr (9, [.ref t_fraction_h, .ref t_settings_h, .ref t_firstEdges_h, .ref t_secondEdges_h, .ref t_layers_h, .ref t_sights_h, .ref t_shadows_h, .ref t_heights_h, .ref t_pairs_h, .ref t_rows_h, .ref t_notes_h, .ref t_matching_h, .ref t_speeds_h, .ref t_layering_h, .ref t_boards_h, .ref t_years_h, .ref t_sheets_h])), (t_pairs_h, .inr (7, [.int t_pairs_width, .int t_pairs_most, .ref t_pairs_cells_h, .int o_t_pairs_lines9])), (t_pairs_cells_h, .inl (cI, t_pairs_cells_n, .inl o_t_pairs_cells_a9))] H → va_D A [(t_h, .inr (9, [.ref t_fraction_h, .ref t_settings_h, .ref t_firstEdges_h, .ref t_secondEdges_h, .ref t_layers_h, .ref t_sights_h, .ref t_shadows_h, .ref t_heights_h, .ref t_pairs_h, .ref t_rows_h, .ref t_notes_h, .ref t_matching_h, .ref t_speeds_h, .ref t_layering_h, .ref t_boards_h, .ref t_years_h, .ref t_sheets_h])), (t_pairs_h, .inr (7, [.int t_pairs_width, .int t_pairs_most, .ref t_pairs_cells_h, .int o_t_pairs_lines9])), (t_pairs_cells_h, .inl (cI, t_pairs_cells_n, .inl o_t_pairs_cells_a9))] → va_S A s.heap H locs → W p l e rmX9_pair s m args below meth c H locs 0 0 Q (F0 m pc ls [.int o_r9]) := by
    intro o_r9 o_t_pairs_lines9 o_t_pairs_cells_a9 pc H locs ls hdg he hP hD hS
    cases he
    subst hQ
    exact rt_i hx hb hr hlocks hK hP hD hS rfl hdg
  clear hQ
  unfold fX9_pair at hf
  refine lv_iload_n hx hb dX9_pair_0 rfl (lv_at hl 1 rfl) ?_
  refine lv_iconst (v := 0) hx hb dX9_pair_1 (by decide) ?_
  refine lv_iconst (v := 5) hx hb dX9_pair_2 (by decide) ?_
  obtain ⟨r1, hc2, hf⟩ := ob_some hf
  refine af_iR (va_runS (As := [.int x1, .int 0, .int 5]) (rest := []) ⟨hx, hb, hml, hown, hts⟩ (k_X9_isWithin l G cI cJ (x0 := x1) (x1 := 0) (x2 := 5) (sz := _) (hf := hc2)) (va_cwS 3 hts gX9_pair_X9_isWithin rfl rfl rfl (by decide +kernel) ⟨Nat.le_of_ble_eq_true rfl, Nat.le_of_ble_eq_true rfl⟩) (preS0 (wc := []) hK hP hD hN [] rfl rfl (by decide)) rfl rfl hl.1 rfl (lv_room (Nat.le_of_ble_eq_true rfl)) dX9_pair_3 ⟨Nat.zero_le _, Nat.zero_le _⟩) hP hD hS hA [] rfl (fun H locs hP hS => ?_)
  refine lv_if_eq (tgt := 23) hx hb dX9_pair_6 (by decide) (fun c3 => ?_) (fun c3 => ?_)
  · have hf := ift hf c3
    refine lv_bipush (v := (-2)) hx hb dX9_pair_23 (by decide) ?_
    exact hret (-2) t_pairs_lines t_pairs_cells_a 25 _ _ _ dX9_pair_25 hf hP hD hS
  · have hf := iff_ hf c3
    refine lv_iload_n hx hb dX9_pair_9 rfl (lv_at hl 2 rfl) ?_
    refine lv_iconst (v := 0) hx hb dX9_pair_10 (by decide) ?_
    refine lv_iconst (v := 5) hx hb dX9_pair_11 (by decide) ?_
    obtain ⟨r4, hc5, hf⟩ := ob_some hf
    refine af_iR (va_runS (As := [.int x2, .int 0, .int 5]) (rest := []) ⟨hx, hb, hml, hown, hts⟩ (k_X9_isWithin l G cI cJ (x0 := x2) (x1 := 0) (x2 := 5) (sz := _) (hf := hc5)) (va_cwS 3 hts gX9_pair_X9_isWithin rfl rfl rfl (by decide +kernel) ⟨Nat.le_of_ble_eq_true rfl, Nat.le_of_ble_eq_true rfl⟩) (preS0 (wc := []) hK hP hD hN [] rfl rfl (by decide)) rfl rfl hl.1 rfl (lv_room (Nat.le_of_ble_eq_true rfl)) dX9_pair_12 ⟨Nat.zero_le _, Nat.zero_le _⟩) hP hD hS hA [] rfl (fun H locs hP hS => ?_)
    refine lv_if_eq (tgt := 23) hx hb dX9_pair_15 (by decide) (fun c6 => ?_) (fun c6 => ?_)
    · have hf := ift hf c6
      refine lv_bipush (v := (-2)) hx hb dX9_pair_23 (by decide) ?_
      exact hret (-2) t_pairs_lines t_pairs_cells_a 25 _ _ _ dX9_pair_25 hf hP hD hS
    · have hf := iff_ hf c6
      refine lv_iload_n hx hb dX9_pair_18 rfl (lv_at hl 1 rfl) ?_
      refine lv_iload_n hx hb dX9_pair_19 rfl (lv_at hl 2 rfl) ?_
      refine lv_icmp_ne (tgt := 26) hx hb dX9_pair_20 (by decide) (fun c7 => ?_) (fun c7 => ?_)
      · have hf := iff_ hf c7
        refine lv_iload_n hx hb dX9_pair_26 rfl (lv_at hl 3 rfl) ?_
        refine lv_sipush (v := (-2000)) hx hb dX9_pair_27 (by decide) ?_
        refine lv_sipush (v := 2000) hx hb dX9_pair_30 (by decide) ?_
        obtain ⟨r8, hc9, hf⟩ := ob_some hf
        refine af_iR (va_runS (As := [.int x3, .int (-2000), .int 2000]) (rest := []) ⟨hx, hb, hml, hown, hts⟩ (k_X9_isWithin l G cI cJ (x0 := x3) (x1 := (-2000)) (x2 := 2000) (sz := _) (hf := hc9)) (va_cwS 3 hts gX9_pair_X9_isWithin rfl rfl rfl (by decide +kernel) ⟨Nat.le_of_ble_eq_true rfl, Nat.le_of_ble_eq_true rfl⟩) (preS0 (wc := []) hK hP hD hN [] rfl rfl (by decide)) rfl rfl hl.1 rfl (lv_room (Nat.le_of_ble_eq_true rfl)) dX9_pair_33 ⟨Nat.zero_le _, Nat.zero_le _⟩) hP hD hS hA [] rfl (fun H locs hP hS => ?_)
        refine lv_if_ne (tgt := 42) hx hb dX9_pair_36 (by decide) (fun c10 => ?_) (fun c10 => ?_)
        · have hf := iff_ hf c10
          refine lv_aload_n hx hb dX9_pair_42 rfl (lv_at hl 0 rfl) ?_
          refine va_get (D := G) (ci := 9) (v := .ref t_pairs_h) (C := RX9) (T := TX9) (N := 17) hx hb hts iwX9 hown hK hP 0 rfl rfl 8 (by decide) fl_47 (fun _ h9 => h9) rfl dX9_pair_43 ?_
          refine lv_iload_n hx hb dX9_pair_46 rfl (lv_at hl 1 rfl) ?_
          refine lv_iload_n hx hb dX9_pair_47 rfl (lv_at hl 2 rfl) ?_
          refine lv_iload_n hx hb dX9_pair_48 rfl (lv_at hl 3 rfl) ?_
          refine lv_iconst (v := 0) hx hb dX9_pair_49 (by decide) ?_
          obtain ⟨r11, w12, w13, hc14, hf⟩ := ob3_some hf
          refine af_iW (wr := [(t_h, .inr (9, [.ref t_fraction_h, .ref t_settings_h, .ref t_firstEdges_h, .ref t_secondEdges_h, .ref t_layers_h, .ref t_sights_h, .ref t_shadows_h, .ref t_heights_h, .ref t_pairs_h, .ref t_rows_h, .ref t_notes_h, .ref t_matching_h, .ref t_speeds_h, .ref t_layering_h, .ref t_boards_h, .ref t_years_h, .ref t_sheets_h]))]) (ws2 := [(t_h, .inr (9, [.ref t_fraction_h, .ref t_settings_h, .ref t_firstEdges_h, .ref t_secondEdges_h, .ref t_layers_h, .ref t_sights_h, .ref t_shadows_h, .ref t_heights_h, .ref t_pairs_h, .ref t_rows_h, .ref t_notes_h, .ref t_matching_h, .ref t_speeds_h, .ref t_layering_h, .ref t_boards_h, .ref t_years_h, .ref t_sheets_h])), (t_pairs_h, .inr (7, [.int t_pairs_width, .int t_pairs_most, .ref t_pairs_cells_h, .int w12])), (t_pairs_cells_h, .inl (cI, t_pairs_cells_n, .inl w13))]) (va_runV (As := [.int x1, .int x2, .int x3, .int 0]) (rest := []) ⟨hx, hb, hml, hown, hts⟩ (k_X7_add l G cI cJ (t_h := t_pairs_h) (t_cells_h := t_pairs_cells_h) (t_width := t_pairs_width) (t_most := t_pairs_most) (t_lines := t_pairs_lines) (t_cells_n := t_pairs_cells_n) (t_cells_a := t_pairs_cells_a) (x1 := x1) (x2 := x2) (x3 := x3) (x4 := 0) (sz := _) (hf := hc14)) (cwV 4 hts gX9_pair_X7_add rfl rfl rfl (by decide +kernel) ⟨Nat.le_of_ble_eq_true rfl, Nat.le_of_ble_eq_true rfl⟩) (preV0 (ci := 7) (q0 := 0) (C := RX7) (wc := [(t_pairs_h, .inr (7, [.int t_pairs_width, .int t_pairs_most, .ref t_pairs_cells_h, .int t_pairs_lines])), (t_pairs_cells_h, .inl (cI, t_pairs_cells_n, .inl t_pairs_cells_a))]) hK hP hD hN [1, 2] rfl rfl (by decide) rfl rfl) rfl rfl hl.1 rfl (lv_room (Nat.le_of_ble_eq_true rfl)) dX9_pair_50 ⟨Nat.zero_le _, Nat.zero_le _⟩) hP hD hS hA [1, 2] [0] [0, 1, 2] rfl rfl (by decide) (by decide) rfl rfl (by decide) (fun H locs hP hD hS => ?_)
          exact hret r11 w12 w13 53 _ _ _ dX9_pair_53 hf hP hD hS
        · have hf := ift hf c10
          refine lv_bipush (v := (-2)) hx hb dX9_pair_39 (by decide) ?_
          exact hret (-2) t_pairs_lines t_pairs_cells_a 41 _ _ _ dX9_pair_41 hf hP hD hS
      · have hf := ift hf c7
        refine lv_bipush (v := (-2)) hx hb dX9_pair_23 (by decide) ?_
        exact hret (-2) t_pairs_lines t_pairs_cells_a 25 _ _ _ dX9_pair_25 hf hP hD hS
set_option maxRecDepth 20000 in
theorem ggX9_worst_X0_leastWorst : GoodIn wsX9_worst wsX0_leastWorst := goodIn_r _ [6, 7, 8, 9, 10, 5, 11, 12, 13, 14, 15, 16, 17, 18, 19, 20, 21, 22, 23, 24, 25, 26, 27, 28, 29, 30, 31, 32, 33, 34, 35, 36, 37, 38, 39, 40, 41, 42, 43, 44, 62, 63, 64, 65, 66, 67] (by decide +kernel) (by decide +kernel)
set_option maxRecDepth 20000 in
theorem gX9_worst_X0_leastWorst : GoodIn wsX9_worst (wsV RX9 221 RX0 yX0_leastWorst wsX0_leastWorst) := goodIn_app (goodIn_of _ (by decide +kernel)) ggX9_worst_X0_leastWorst
theorem dX9_worst_0 : decode cX9_worst 0 = .ok (.aload_n 0, 1) := by decide +kernel
theorem dX9_worst_1 : decode cX9_worst 1 = .ok (.getfield 86, 3) := by decide +kernel
theorem dX9_worst_4 : decode cX9_worst 4 = .ok (.invokevirtual 221, 3) := by decide +kernel
theorem dX9_worst_7 : decode cX9_worst 7 = .ok (.ireturn, 1) := by decide +kernel
set_option maxRecDepth 100000 in
def fX9_worst (t_pairs_width : Int32) (t_pairs_lines : Int32) (t_pairs_cells_n : Nat) (t_pairs_cells_a : Nat → Int32) (t_boards_bents_a : Nat → Int32) : Option (Int32 × (Nat → Int32)) :=
  ob2 (fX0_leastWorst t_pairs_width t_pairs_lines t_boards_bents_a t_pairs_cells_n t_pairs_cells_a) fun r1 w2 =>
  some (r1, w2)
abbrev rmX9_worst : Room := { frames := 6, cells := 0, slots := 0, locals := 139 }
theorem iwX9_worst_X9 : ∀ w ∈ u_ws RX9 TX9 17, w ∈ wsX9_worst := by decide +kernel
set_option maxHeartbeats 4000000 in
set_option maxRecDepth 100000 in
theorem k_X9_worst (l : Launch) (G : va_G) (cI cJ : ClassId) (t_h t_fraction_h t_settings_h t_firstEdges_h t_secondEdges_h t_layers_h t_sights_h t_shadows_h t_heights_h t_pairs_h t_rows_h t_notes_h t_matching_h t_speeds_h t_layering_h t_boards_h t_years_h t_sheets_h t_pairs_cells_h t_boards_bents_h : Nat) (sz : Nat) (t_pairs_width : Int32) (t_pairs_most : Int32) (t_pairs_lines : Int32) (t_pairs_cells_n : Nat) (t_pairs_cells_a : Nat → Int32) (t_boards_bents_a : Nat → Int32) {o_r : Int32} {o_t_boards_bents_a : Nat → Int32} (hf : fX9_worst t_pairs_width t_pairs_lines t_pairs_cells_n t_pairs_cells_a t_boards_bents_a = some (o_r, o_t_boards_bents_a)) : MetI l yX9_worst wsX9_worst rmX9_worst [.ref t_h] G cI cJ [(t_h, .inr (9, [.ref t_fraction_h, .ref t_settings_h, .ref t_firstEdges_h, .ref t_secondEdges_h, .ref t_layers_h, .ref t_sights_h, .ref t_shadows_h, .ref t_heights_h, .ref t_pairs_h, .ref t_rows_h, .ref t_notes_h, .ref t_matching_h, .ref t_speeds_h, .ref t_layering_h, .ref t_boards_h, .ref t_years_h, .ref t_sheets_h])), (t_pairs_h, .inr (7, [.int t_pairs_width, .int t_pairs_most, .ref t_pairs_cells_h, .int t_pairs_lines])), (t_boards_h, .inr (0, [.ref t_pairs_h, .ref t_boards_bents_h])), (t_pairs_cells_h, .inl (cI, t_pairs_cells_n, .inl t_pairs_cells_a)), (t_boards_bents_h, .inl (cI, 6, .inl t_boards_bents_a))] [(t_h, .inr (9, [.ref t_fraction_h, .ref t_settings_h, .ref t_firstEdges_h, .ref t_secondEdges_h, .ref t_layers_h, .ref t_sights_h, .ref t_shadows_h, .ref t_heights_h, .ref t_pairs_h, .ref t_rows_h, .ref t_notes_h, .ref t_matching_h, .ref t_speeds_h, .ref t_layering_h, .ref t_boards_h, .ref t_years_h, .ref t_sheets_h])), (t_pairs_h, .inr (7, [.int t_pairs_width, .int t_pairs_most, .ref t_pairs_cells_h, .int t_pairs_lines])), (t_boards_h, .inr (0, [.ref t_pairs_h, .ref t_boards_bents_h])), (t_pairs_cells_h, .inl (cI, t_pairs_cells_n, .inl t_pairs_cells_a)), (t_boards_bents_h, .inl (cI, 6, .inl o_t_boards_bents_a))] sz o_r := by
  refine en_0 (l := l) (y := yX9_worst) (wsl := wsX9_worst) (rm := rmX9_worst) (av := [.ref t_h]) (G := G) (cI := cI) (cJ := cJ) (w0 := [(t_h, .inr (9, [.ref t_fraction_h, .ref t_settings_h, .ref t_firstEdges_h, .ref t_secondEdges_h, .ref t_layers_h, .ref t_sights_h, .ref t_shadows_h, .ref t_heights_h, .ref t_pairs_h, .ref t_rows_h, .ref t_notes_h, .ref t_matching_h, .ref t_speeds_h, .ref t_layering_h, .ref t_boards_h, .ref t_years_h, .ref t_sheets_h])), (t_pairs_h, .inr (7, [.int t_pairs_width, .int t_pairs_most, .ref t_pairs_cells_h, .int t_pairs_lines])), (t_boards_h, .inr (0, [.ref t_pairs_h, .ref t_boards_bents_h])), (t_pairs_cells_h, .inl (cI, t_pairs_cells_n, .inl t_pairs_cells_a)), (t_boards_bents_h, .inl (cI, 6, .inl t_boards_bents_a))]) (sz := sz) (Qf := fun A => Qi0 G cI cJ [(t_h, .inr (9, [.ref t_fraction_h, .ref t_settings_h, .ref t_firstEdges_h, .ref t_secondEdges_h, .ref t_layers_h, .ref t_sights_h, .ref t_shadows_h, .ref t_heights_h, .ref t_pairs_h, .ref t_rows_h, .ref t_notes_h, .ref t_matching_h, .ref t_speeds_h, .ref t_layering_h, .ref t_boards_h, .ref t_years_h, .ref t_sheets_h])), (t_pairs_h, .inr (7, [.int t_pairs_width, .int t_pairs_most, .ref t_pairs_cells_h, .int t_pairs_lines])), (t_boards_h, .inr (0, [.ref t_pairs_h, .ref t_boards_bents_h])), (t_pairs_cells_h, .inl (cI, t_pairs_cells_n, .inl t_pairs_cells_a)), (t_boards_bents_h, .inl (cI, 6, .inl o_t_boards_bents_a))] o_r A) (cc := cX9_worst) (maxL := 1) (ret := (some .int)) RX9 (by decide +kernel) rfl rfl (Nat.le_of_ble_eq_true rfl) ?_
  intro p e s m args below meth c A ls Q hQ hx hb hr hts hown hlocks hml hN hK hP hD hS hA hl
  have hl : lv_has ls 1 [(0, .ref t_h)] := hl
  have iwX9 := iwX9_worst_X9
  have fl_86 := hts (.fieldLink RX9 86 "CloudOffice" "boards" "LCloudOffice$Boards;") (by decide +kernel)
  have hret : ∀ (o_r9 : Int32) (o_t_boards_bents_a9 : Nat → Int32) (pc : Nat) (H : Heap) (locs : List Loc) (ls : Array Slot), decode cX9_worst pc = .ok (.ireturn, 1) → some (o_r9, o_t_boards_bents_a9) = some (o_r, o_t_boards_bents_a) → va_P G vwCl [(t_h, .inr (9, [.ref t_fraction_h, .ref t_settings_h, .ref t_firstEdges_h, .ref t_secondEdges_h, .ref t_layers_h, .ref t_sights_h, .ref t_shadows_h, .ref t_heights_h, .ref t_pairs_h, .ref t_rows_h, .ref t_notes_h, .ref t_matching_h, .ref t_speeds_h, .ref t_layering_h, .ref t_boards_h, .ref t_years_h, .ref t_sheets_h])), (t_pairs_h, .inr (7, [.int t_pairs_width, .int t_pairs_most, .ref t_pairs_cells_h, .int t_pairs_lines])), (t_boards_h, .inr (0, [.ref t_pairs_h, .ref t_boards_bents_h])), (t_pairs_cells_h, .inl (cI, t_pairs_cells_n, .inl t_pairs_cells_a)), (t_boards_bents_h, .inl (cI, 6, .inl o_t_boards_bents_a9))] H → va_D A [(t_h, .inr (9, [.ref t_fraction_h, .ref t_settings_h, .ref t_firstEdges_h, .ref t_secondEdges_h, .ref t_layers_h, .ref t_sights_h, .ref t_shadows_h, .ref t_heights_h, .ref t_pairs_h, .ref t_rows_h, .ref t_notes_h, .ref t_matching_h, .ref t_speeds_h, .ref t_layering_h, .ref t_boards_h, .ref t_years_h, .ref t_sheets_h])), (t_pairs_h, .inr (7, [.int t_pairs_width, .int t_pairs_most, .ref t_pairs_cells_h, .int t_pairs_lines])), (t_boards_h, .inr (0, [.ref t_pairs_h, .ref t_boards_bents_h])), (t_pairs_cells_h, .inl (cI, t_pairs_cells_n, .inl t_pairs_cells_a)), (t_boards_bents_h, .inl (cI, 6, .inl o_t_boards_bents_a9))] → va_S A s.heap H locs → W p l e rmX9_worst s m args below meth c H locs 0 0 Q (F0 m pc ls [.int o_r9]) := by
    intro o_r9 o_t_boards_bents_a9 pc H locs ls hdg he hP hD hS
    cases he
    subst hQ
    exact rt_i hx hb hr hlocks hK hP hD hS rfl hdg
  clear hQ
  unfold fX9_worst at hf
  refine lv_aload_n hx hb dX9_worst_0 rfl (lv_at hl 0 rfl) ?_
  refine va_get (D := G) (ci := 9) (v := .ref t_boards_h) (C := RX9) (T := TX9) (N := 17) hx hb hts iwX9 hown hK hP 0 rfl rfl 14 (by decide) fl_86 (fun _ h9 => h9) rfl dX9_worst_1 ?_
  obtain ⟨r1, w2, hc3, hf⟩ := ob2_some hf
  refine af_iW (wr := [(t_h, .inr (9, [.ref t_fraction_h, .ref t_settings_h, .ref t_firstEdges_h, .ref t_secondEdges_h, .ref t_layers_h, .ref t_sights_h, .ref t_shadows_h, .ref t_heights_h, .ref t_pairs_h, .ref t_rows_h, .ref t_notes_h, .ref t_matching_h, .ref t_speeds_h, .ref t_layering_h, .ref t_boards_h, .ref t_years_h, .ref t_sheets_h]))]) (ws2 := [(t_h, .inr (9, [.ref t_fraction_h, .ref t_settings_h, .ref t_firstEdges_h, .ref t_secondEdges_h, .ref t_layers_h, .ref t_sights_h, .ref t_shadows_h, .ref t_heights_h, .ref t_pairs_h, .ref t_rows_h, .ref t_notes_h, .ref t_matching_h, .ref t_speeds_h, .ref t_layering_h, .ref t_boards_h, .ref t_years_h, .ref t_sheets_h])), (t_pairs_h, .inr (7, [.int t_pairs_width, .int t_pairs_most, .ref t_pairs_cells_h, .int t_pairs_lines])), (t_boards_h, .inr (0, [.ref t_pairs_h, .ref t_boards_bents_h])), (t_pairs_cells_h, .inl (cI, t_pairs_cells_n, .inl t_pairs_cells_a)), (t_boards_bents_h, .inl (cI, 6, .inl w2))]) (va_runV (As := []) (rest := []) ⟨hx, hb, hml, hown, hts⟩ (k_X0_leastWorst l G cI cJ (t_h := t_boards_h) (t_pairs_h := t_pairs_h) (t_bents_h := t_boards_bents_h) (t_pairs_cells_h := t_pairs_cells_h) (t_pairs_width := t_pairs_width) (t_pairs_most := t_pairs_most) (t_pairs_lines := t_pairs_lines) (t_bents_a := t_boards_bents_a) (t_pairs_cells_n := t_pairs_cells_n) (t_pairs_cells_a := t_pairs_cells_a) (sz := _) (hf := hc3)) (cwV 0 hts gX9_worst_X0_leastWorst rfl rfl rfl (by decide +kernel) ⟨Nat.le_of_ble_eq_true rfl, Nat.le_of_ble_eq_true rfl⟩) (preV0 (ci := 0) (q0 := 0) (C := RX0) (wc := [(t_boards_h, .inr (0, [.ref t_pairs_h, .ref t_boards_bents_h])), (t_pairs_h, .inr (7, [.int t_pairs_width, .int t_pairs_most, .ref t_pairs_cells_h, .int t_pairs_lines])), (t_boards_bents_h, .inl (cI, 6, .inl t_boards_bents_a)), (t_pairs_cells_h, .inl (cI, t_pairs_cells_n, .inl t_pairs_cells_a))]) hK hP hD hN [2, 1, 4, 3] rfl rfl (by decide) rfl rfl) rfl rfl hl.1 rfl (lv_room (Nat.le_of_ble_eq_true rfl)) dX9_worst_4 ⟨Nat.zero_le _, Nat.zero_le _⟩) hP hD hS hA [2, 1, 4, 3] [0] [0, 2, 1, 4, 3] rfl rfl (by decide) (by decide) rfl rfl (by decide) (fun H locs hP hD hS => ?_)
  exact hret r1 w2 7 _ _ _ dX9_worst_7 hf hP hD hS
set_option maxRecDepth 20000 in
theorem ggX9_bent_X9_isWithin : GoodIn wsX9_bent wsX9_isWithin := goodIn_r _ [7] (by decide +kernel) (by decide +kernel)
set_option maxRecDepth 20000 in
theorem gX9_bent_X9_isWithin : GoodIn wsX9_bent (va_wsS RX9 105 yX9_isWithin wsX9_isWithin) := goodIn_app (goodIn_of _ (by decide +kernel)) ggX9_bent_X9_isWithin
set_option maxRecDepth 20000 in
theorem ggX9_bent_X0_leastWorst : GoodIn wsX9_bent wsX0_leastWorst := goodIn_r _ [12, 13, 14, 15, 16, 11, 17, 18, 19, 20, 21, 22, 23, 24, 25, 26, 27, 28, 29, 30, 31, 32, 33, 34, 35, 36, 37, 38, 39, 5, 6, 7, 40, 41, 42, 43, 44, 45, 46, 47, 70, 71, 72, 73, 74, 75] (by decide +kernel) (by decide +kernel)
set_option maxRecDepth 20000 in
theorem gX9_bent_X0_leastWorst : GoodIn wsX9_bent (wsV RX9 221 RX0 yX0_leastWorst wsX0_leastWorst) := goodIn_app (goodIn_of _ (by decide +kernel)) ggX9_bent_X0_leastWorst
set_option maxRecDepth 20000 in
theorem ggX9_bent_X0_isJoined : GoodIn wsX9_bent wsX0_isJoined := goodIn_r _ [43, 18, 19, 5, 6, 7, 70, 71] (by decide +kernel) (by decide +kernel)
set_option maxRecDepth 20000 in
theorem gX9_bent_X0_isJoined : GoodIn wsX9_bent (wsV RX9 225 RX0 yX0_isJoined wsX0_isJoined) := goodIn_app (goodIn_of _ (by decide +kernel)) ggX9_bent_X0_isJoined
set_option maxRecDepth 20000 in
theorem ggX9_bent_X0_bentOf : GoodIn wsX9_bent wsX0_bentOf := goodIn_r _ [52, 18, 5, 6, 7, 70, 71] (by decide +kernel) (by decide +kernel)
set_option maxRecDepth 20000 in
theorem gX9_bent_X0_bentOf : GoodIn wsX9_bent (wsV RX9 229 RX0 yX0_bentOf wsX0_bentOf) := goodIn_app (goodIn_of _ (by decide +kernel)) ggX9_bent_X0_bentOf
theorem dX9_bent_0 : decode cX9_bent 0 = .ok (.iload_n 1, 1) := by decide +kernel
theorem dX9_bent_1 : decode cX9_bent 1 = .ok (.iconst 0, 1) := by decide +kernel
theorem dX9_bent_2 : decode cX9_bent 2 = .ok (.iconst 5, 1) := by decide +kernel
theorem dX9_bent_3 : decode cX9_bent 3 = .ok (.invokestatic 105, 3) := by decide +kernel
theorem dX9_bent_6 : decode cX9_bent 6 = .ok (.ifCond .ne 6, 3) := by decide +kernel
theorem dX9_bent_9 : decode cX9_bent 9 = .ok (.ldc 224, 2) := by decide +kernel
theorem dX9_bent_11 : decode cX9_bent 11 = .ok (.ireturn, 1) := by decide +kernel
theorem dX9_bent_12 : decode cX9_bent 12 = .ok (.iload_n 1, 1) := by decide +kernel
theorem dX9_bent_13 : decode cX9_bent 13 = .ok (.ifCond .ne 5, 3) := by decide +kernel
theorem dX9_bent_16 : decode cX9_bent 16 = .ok (.iconst 0, 1) := by decide +kernel
theorem dX9_bent_17 : decode cX9_bent 17 = .ok (.ireturn, 1) := by decide +kernel
theorem dX9_bent_18 : decode cX9_bent 18 = .ok (.aload_n 0, 1) := by decide +kernel
theorem dX9_bent_19 : decode cX9_bent 19 = .ok (.getfield 86, 3) := by decide +kernel
theorem dX9_bent_22 : decode cX9_bent 22 = .ok (.invokevirtual 221, 3) := by decide +kernel
theorem dX9_bent_25 : decode cX9_bent 25 = .ok (.iconst (-1), 1) := by decide +kernel
theorem dX9_bent_26 : decode cX9_bent 26 = .ok (.if_icmp .eq 14, 3) := by decide +kernel
theorem dX9_bent_29 : decode cX9_bent 29 = .ok (.aload_n 0, 1) := by decide +kernel
theorem dX9_bent_30 : decode cX9_bent 30 = .ok (.getfield 86, 3) := by decide +kernel
theorem dX9_bent_33 : decode cX9_bent 33 = .ok (.iload_n 1, 1) := by decide +kernel
theorem dX9_bent_34 : decode cX9_bent 34 = .ok (.invokevirtual 225, 3) := by decide +kernel
theorem dX9_bent_37 : decode cX9_bent 37 = .ok (.ifCond .ne 6, 3) := by decide +kernel
theorem dX9_bent_40 : decode cX9_bent 40 = .ok (.ldc 228, 2) := by decide +kernel
theorem dX9_bent_42 : decode cX9_bent 42 = .ok (.ireturn, 1) := by decide +kernel
theorem dX9_bent_43 : decode cX9_bent 43 = .ok (.aload_n 0, 1) := by decide +kernel
theorem dX9_bent_44 : decode cX9_bent 44 = .ok (.getfield 86, 3) := by decide +kernel
theorem dX9_bent_47 : decode cX9_bent 47 = .ok (.iload_n 1, 1) := by decide +kernel
theorem dX9_bent_48 : decode cX9_bent 48 = .ok (.invokevirtual 229, 3) := by decide +kernel
theorem dX9_bent_51 : decode cX9_bent 51 = .ok (.ireturn, 1) := by decide +kernel
set_option maxRecDepth 100000 in
def fX9_bent (x1 : Int32) (t_pairs_width : Int32) (t_pairs_lines : Int32) (t_pairs_cells_n : Nat) (t_pairs_cells_a : Nat → Int32) (t_boards_bents_a : Nat → Int32) : Option (Int32 × (Nat → Int32)) :=
  ob (fX9_isWithin x1 0 5) fun r1 =>
  if (b2i r1) = 0 then
    some ((-100000), t_boards_bents_a)
  else
    if x1 = 0 then
      some (0, t_boards_bents_a)
    else
      ob2 (fX0_leastWorst t_pairs_width t_pairs_lines t_boards_bents_a t_pairs_cells_n t_pairs_cells_a) fun r5 w6 =>
      if r5 = (-1) then
        some ((-200000), w6)
      else
        ob (fX0_isJoined x1 w6) fun r9 =>
        if (b2i r9) = 0 then
          some ((-200000), w6)
        else
          ob (fX0_bentOf x1 w6) fun r12 =>
          some (r12, w6)
abbrev rmX9_bent : Room := { frames := 6, cells := 0, slots := 0, locals := 139 }
theorem iwX9_bent_X9 : ∀ w ∈ u_ws RX9 TX9 17, w ∈ wsX9_bent := by decide +kernel
set_option maxHeartbeats 4000000 in
set_option maxRecDepth 100000 in
theorem k_X9_bent (l : Launch) (G : va_G) (cI cJ : ClassId) (t_h t_fraction_h t_settings_h t_firstEdges_h t_secondEdges_h t_layers_h t_sights_h t_shadows_h t_heights_h t_pairs_h t_rows_h t_notes_h t_matching_h t_speeds_h t_layering_h t_boards_h t_years_h t_sheets_h t_pairs_cells_h t_boards_bents_h : Nat) (sz : Nat) (t_pairs_width : Int32) (t_pairs_most : Int32) (t_pairs_lines : Int32) (t_pairs_cells_n : Nat) (t_pairs_cells_a : Nat → Int32) (t_boards_bents_a : Nat → Int32) (x1 : Int32) {o_r : Int32} {o_t_boards_bents_a : Nat → Int32} (hf : fX9_bent x1 t_pairs_width t_pairs_lines t_pairs_cells_n t_pairs_cells_a t_boards_bents_a = some (o_r, o_t_boards_bents_a)) : MetI l yX9_bent wsX9_bent rmX9_bent [.ref t_h, .int x1] G cI cJ [(t_h, .inr (9, [.ref t_fraction_h, .ref t_settings_h, .ref t_firstEdges_h, .ref t_secondEdges_h, .ref t_layers_h, .ref t_sights_h, .ref t_shadows_h, .ref t_heights_h, .ref t_pairs_h, .ref t_rows_h, .ref t_notes_h, .ref t_matching_h, .ref t_speeds_h, .ref t_layering_h, .ref t_boards_h, .ref t_years_h, .ref t_sheets_h])), (t_pairs_h, .inr (7, [.int t_pairs_width, .int t_pairs_most, .ref t_pairs_cells_h, .int t_pairs_lines])), (t_boards_h, .inr (0, [.ref t_pairs_h, .ref t_boards_bents_h])), (t_pairs_cells_h, .inl (cI, t_pairs_cells_n, .inl t_pairs_cells_a)), (t_boards_bents_h, .inl (cI, 6, .inl t_boards_bents_a))] [(t_h, .inr (9, [.ref t_fraction_h, .ref t_settings_h, .ref t_firstEdges_h, .ref t_secondEdges_h, .ref t_layers_h, .ref t_sights_h, .ref t_shadows_h, .ref t_heights_h, .ref t_pairs_h, .ref t_rows_h, .ref t_notes_h, .ref t_matching_h, .ref t_speeds_h, .ref t_layering_h, .ref t_boards_h, .ref t_years_h, .ref t_sheets_h])), (t_pairs_h, .inr (7, [.int t_pairs_width, .int t_pairs_most, .ref t_pairs_cells_h, .int t_pairs_lines])), (t_boards_h, .inr (0, [.ref t_pairs_h, .ref t_boards_bents_h])), (t_pairs_cells_h, .inl (cI, t_pairs_cells_n, .inl t_pairs_cells_a)), (t_boards_bents_h, .inl (cI, 6, .inl o_t_boards_bents_a))] sz o_r := by
  refine en_0 (l := l) (y := yX9_bent) (wsl := wsX9_bent) (rm := rmX9_bent) (av := [.ref t_h, .int x1]) (G := G) (cI := cI) (cJ := cJ) (w0 := [(t_h, .inr (9, [.ref t_fraction_h, .ref t_settings_h, .ref t_firstEdges_h, .ref t_secondEdges_h, .ref t_layers_h, .ref t_sights_h, .ref t_shadows_h, .ref t_heights_h, .ref t_pairs_h, .ref t_rows_h, .ref t_notes_h, .ref t_matching_h, .ref t_speeds_h, .ref t_layering_h, .ref t_boards_h, .ref t_years_h, .ref t_sheets_h])), (t_pairs_h, .inr (7, [.int t_pairs_width, .int t_pairs_most, .ref t_pairs_cells_h, .int t_pairs_lines])), (t_boards_h, .inr (0, [.ref t_pairs_h, .ref t_boards_bents_h])), (t_pairs_cells_h, .inl (cI, t_pairs_cells_n, .inl t_pairs_cells_a)), (t_boards_bents_h, .inl (cI, 6, .inl t_boards_bents_a))]) (sz := sz) (Qf := fun A => Qi0 G cI cJ [(t_h, .inr (9, [.ref t_fraction_h, .ref t_settings_h, .ref t_firstEdges_h, .ref t_secondEdges_h, .ref t_layers_h, .ref t_sights_h, .ref t_shadows_h, .ref t_heights_h, .ref t_pairs_h, .ref t_rows_h, .ref t_notes_h, .ref t_matching_h, .ref t_speeds_h, .ref t_layering_h, .ref t_boards_h, .ref t_years_h, .ref t_sheets_h])), (t_pairs_h, .inr (7, [.int t_pairs_width, .int t_pairs_most, .ref t_pairs_cells_h, .int t_pairs_lines])), (t_boards_h, .inr (0, [.ref t_pairs_h, .ref t_boards_bents_h])), (t_pairs_cells_h, .inl (cI, t_pairs_cells_n, .inl t_pairs_cells_a)), (t_boards_bents_h, .inl (cI, 6, .inl o_t_boards_bents_a))] o_r A) (cc := cX9_bent) (maxL := 2) (ret := (some .int)) RX9 (by decide +kernel) rfl rfl (Nat.le_of_ble_eq_true rfl) ?_
  intro p e s m args below meth c A ls Q hQ hx hb hr hts hown hlocks hml hN hK hP hD hS hA hl
  have hl : lv_has ls 2 [(0, .ref t_h), (1, .int x1)] := hl
  have iwX9 := iwX9_bent_X9
  have fl_86 := hts (.fieldLink RX9 86 "CloudOffice" "boards" "LCloudOffice$Boards;") (by decide +kernel)
  have kc_224 := hts (.constant RX9 224 (-100000)) (by decide +kernel)
  have kc_228 := hts (.constant RX9 228 (-200000)) (by decide +kernel)
  have hret : ∀ (o_r9 : Int32) (o_t_boards_bents_a9 : Nat → Int32) (pc : Nat) (H : Heap) (locs : List Loc) (ls : Array Slot), decode cX9_bent pc = .ok (.ireturn, 1) → some (o_r9, o_t_boards_bents_a9) = some (o_r, o_t_boards_bents_a) → va_P G vwCl [(t_h, .inr (9, [.ref t_fraction_h, .ref t_settings_h, .ref t_firstEdges_h, .ref t_secondEdges_h, .ref t_layers_h, .ref t_sights_h, .ref t_shadows_h, .ref t_heights_h, .ref t_pairs_h, .ref t_rows_h, .ref t_notes_h, .ref t_matching_h, .ref t_speeds_h, .ref t_layering_h, .ref t_boards_h, .ref t_years_h, .ref t_sheets_h])), (t_pairs_h, .inr (7, [.int t_pairs_width, .int t_pairs_most, .ref t_pairs_cells_h, .int t_pairs_lines])), (t_boards_h, .inr (0, [.ref t_pairs_h, .ref t_boards_bents_h])), (t_pairs_cells_h, .inl (cI, t_pairs_cells_n, .inl t_pairs_cells_a)), (t_boards_bents_h, .inl (cI, 6, .inl o_t_boards_bents_a9))] H → va_D A [(t_h, .inr (9, [.ref t_fraction_h, .ref t_settings_h, .ref t_firstEdges_h, .ref t_secondEdges_h, .ref t_layers_h, .ref t_sights_h, .ref t_shadows_h, .ref t_heights_h, .ref t_pairs_h, .ref t_rows_h, .ref t_notes_h, .ref t_matching_h, .ref t_speeds_h, .ref t_layering_h, .ref t_boards_h, .ref t_years_h, .ref t_sheets_h])), (t_pairs_h, .inr (7, [.int t_pairs_width, .int t_pairs_most, .ref t_pairs_cells_h, .int t_pairs_lines])), (t_boards_h, .inr (0, [.ref t_pairs_h, .ref t_boards_bents_h])), (t_pairs_cells_h, .inl (cI, t_pairs_cells_n, .inl t_pairs_cells_a)), (t_boards_bents_h, .inl (cI, 6, .inl o_t_boards_bents_a9))] → va_S A s.heap H locs → W p l e rmX9_bent s m args below meth c H locs 0 0 Q (F0 m pc ls [.int o_r9]) := by
    intro o_r9 o_t_boards_bents_a9 pc H locs ls hdg he hP hD hS
    cases he
    subst hQ
    exact rt_i hx hb hr hlocks hK hP hD hS rfl hdg
  clear hQ
  unfold fX9_bent at hf
  refine lv_iload_n hx hb dX9_bent_0 rfl (lv_at hl 1 rfl) ?_
  refine lv_iconst (v := 0) hx hb dX9_bent_1 (by decide) ?_
  refine lv_iconst (v := 5) hx hb dX9_bent_2 (by decide) ?_
  obtain ⟨r1, hc2, hf⟩ := ob_some hf
  refine af_iR (va_runS (As := [.int x1, .int 0, .int 5]) (rest := []) ⟨hx, hb, hml, hown, hts⟩ (k_X9_isWithin l G cI cJ (x0 := x1) (x1 := 0) (x2 := 5) (sz := _) (hf := hc2)) (va_cwS 3 hts gX9_bent_X9_isWithin rfl rfl rfl (by decide +kernel) ⟨Nat.le_of_ble_eq_true rfl, Nat.le_of_ble_eq_true rfl⟩) (preS0 (wc := []) hK hP hD hN [] rfl rfl (by decide)) rfl rfl hl.1 rfl (lv_room (Nat.le_of_ble_eq_true rfl)) dX9_bent_3 ⟨Nat.zero_le _, Nat.zero_le _⟩) hP hD hS hA [] rfl (fun H locs hP hS => ?_)
  refine lv_if_ne (tgt := 12) hx hb dX9_bent_6 (by decide) (fun c3 => ?_) (fun c3 => ?_)
  · have hf := iff_ hf c3
    refine lv_iload_n hx hb dX9_bent_12 rfl (lv_at hl 1 rfl) ?_
    refine lv_if_ne (tgt := 18) hx hb dX9_bent_13 (by decide) (fun c4 => ?_) (fun c4 => ?_)
    · have hf := iff_ hf c4
      refine lv_aload_n hx hb dX9_bent_18 rfl (lv_at hl 0 rfl) ?_
      refine va_get (D := G) (ci := 9) (v := .ref t_boards_h) (C := RX9) (T := TX9) (N := 17) hx hb hts iwX9 hown hK hP 0 rfl rfl 14 (by decide) fl_86 (fun _ h9 => h9) rfl dX9_bent_19 ?_
      obtain ⟨r5, w6, hc7, hf⟩ := ob2_some hf
      refine af_iW (wr := [(t_h, .inr (9, [.ref t_fraction_h, .ref t_settings_h, .ref t_firstEdges_h, .ref t_secondEdges_h, .ref t_layers_h, .ref t_sights_h, .ref t_shadows_h, .ref t_heights_h, .ref t_pairs_h, .ref t_rows_h, .ref t_notes_h, .ref t_matching_h, .ref t_speeds_h, .ref t_layering_h, .ref t_boards_h, .ref t_years_h, .ref t_sheets_h]))]) (ws2 := [(t_h, .inr (9, [.ref t_fraction_h, .ref t_settings_h, .ref t_firstEdges_h, .ref t_secondEdges_h, .ref t_layers_h, .ref t_sights_h, .ref t_shadows_h, .ref t_heights_h, .ref t_pairs_h, .ref t_rows_h, .ref t_notes_h, .ref t_matching_h, .ref t_speeds_h, .ref t_layering_h, .ref t_boards_h, .ref t_years_h, .ref t_sheets_h])), (t_pairs_h, .inr (7, [.int t_pairs_width, .int t_pairs_most, .ref t_pairs_cells_h, .int t_pairs_lines])), (t_boards_h, .inr (0, [.ref t_pairs_h, .ref t_boards_bents_h])), (t_pairs_cells_h, .inl (cI, t_pairs_cells_n, .inl t_pairs_cells_a)), (t_boards_bents_h, .inl (cI, 6, .inl w6))]) (va_runV (As := []) (rest := []) ⟨hx, hb, hml, hown, hts⟩ (k_X0_leastWorst l G cI cJ (t_h := t_boards_h) (t_pairs_h := t_pairs_h) (t_bents_h := t_boards_bents_h) (t_pairs_cells_h := t_pairs_cells_h) (t_pairs_width := t_pairs_width) (t_pairs_most := t_pairs_most) (t_pairs_lines := t_pairs_lines) (t_bents_a := t_boards_bents_a) (t_pairs_cells_n := t_pairs_cells_n) (t_pairs_cells_a := t_pairs_cells_a) (sz := _) (hf := hc7)) (cwV 0 hts gX9_bent_X0_leastWorst rfl rfl rfl (by decide +kernel) ⟨Nat.le_of_ble_eq_true rfl, Nat.le_of_ble_eq_true rfl⟩) (preV0 (ci := 0) (q0 := 0) (C := RX0) (wc := [(t_boards_h, .inr (0, [.ref t_pairs_h, .ref t_boards_bents_h])), (t_pairs_h, .inr (7, [.int t_pairs_width, .int t_pairs_most, .ref t_pairs_cells_h, .int t_pairs_lines])), (t_boards_bents_h, .inl (cI, 6, .inl t_boards_bents_a)), (t_pairs_cells_h, .inl (cI, t_pairs_cells_n, .inl t_pairs_cells_a))]) hK hP hD hN [2, 1, 4, 3] rfl rfl (by decide) rfl rfl) rfl rfl hl.1 rfl (lv_room (Nat.le_of_ble_eq_true rfl)) dX9_bent_22 ⟨Nat.zero_le _, Nat.zero_le _⟩) hP hD hS hA [2, 1, 4, 3] [0] [0, 2, 1, 4, 3] rfl rfl (by decide) (by decide) rfl rfl (by decide) (fun H locs hP hD hS => ?_)
      refine lv_iconst (v := (-1)) hx hb dX9_bent_25 (by decide) ?_
      refine lv_icmp_eq (tgt := 40) hx hb dX9_bent_26 (by decide) (fun c8 => ?_) (fun c8 => ?_)
      · have hf := ift hf c8
        refine lv_ldc (v := (-200000)) hx hb hown kc_228 dX9_bent_40 ?_
        exact hret (-200000) w6 42 _ _ _ dX9_bent_42 hf hP hD hS
      · have hf := iff_ hf c8
        refine lv_aload_n hx hb dX9_bent_29 rfl (lv_at hl 0 rfl) ?_
        refine va_get (D := G) (ci := 9) (v := .ref t_boards_h) (C := RX9) (T := TX9) (N := 17) hx hb hts iwX9 hown hK hP 0 rfl rfl 14 (by decide) fl_86 (fun _ h9 => h9) rfl dX9_bent_30 ?_
        refine lv_iload_n hx hb dX9_bent_33 rfl (lv_at hl 1 rfl) ?_
        obtain ⟨r9, hc10, hf⟩ := ob_some hf
        refine af_iR (va_runV (As := [.int x1]) (rest := []) ⟨hx, hb, hml, hown, hts⟩ (k_X0_isJoined l G cI cJ (t_h := t_boards_h) (t_pairs_h := t_pairs_h) (t_bents_h := t_boards_bents_h) (t_bents_a := w6) (x1 := x1) (sz := _) (hf := hc10)) (cwV 1 hts gX9_bent_X0_isJoined rfl rfl rfl (by decide +kernel) ⟨Nat.le_of_ble_eq_true rfl, Nat.le_of_ble_eq_true rfl⟩) (preV0 (ci := 0) (q0 := 0) (C := RX0) (wc := [(t_boards_h, .inr (0, [.ref t_pairs_h, .ref t_boards_bents_h])), (t_boards_bents_h, .inl (cI, 6, .inl w6))]) hK hP hD hN [2, 4] rfl rfl (by decide) rfl rfl) rfl rfl hl.1 rfl (lv_room (Nat.le_of_ble_eq_true rfl)) dX9_bent_34 ⟨Nat.zero_le _, Nat.zero_le _⟩) hP hD hS hA [2, 4] rfl (fun H locs hP hS => ?_)
        refine lv_if_ne (tgt := 43) hx hb dX9_bent_37 (by decide) (fun c11 => ?_) (fun c11 => ?_)
        · have hf := iff_ hf c11
          refine lv_aload_n hx hb dX9_bent_43 rfl (lv_at hl 0 rfl) ?_
          refine va_get (D := G) (ci := 9) (v := .ref t_boards_h) (C := RX9) (T := TX9) (N := 17) hx hb hts iwX9 hown hK hP 0 rfl rfl 14 (by decide) fl_86 (fun _ h9 => h9) rfl dX9_bent_44 ?_
          refine lv_iload_n hx hb dX9_bent_47 rfl (lv_at hl 1 rfl) ?_
          obtain ⟨r12, hc13, hf⟩ := ob_some hf
          refine af_iR (va_runV (As := [.int x1]) (rest := []) ⟨hx, hb, hml, hown, hts⟩ (k_X0_bentOf l G cI cJ (t_h := t_boards_h) (t_pairs_h := t_pairs_h) (t_bents_h := t_boards_bents_h) (t_bents_a := w6) (x1 := x1) (sz := _) (hf := hc13)) (cwV 1 hts gX9_bent_X0_bentOf rfl rfl rfl (by decide +kernel) ⟨Nat.le_of_ble_eq_true rfl, Nat.le_of_ble_eq_true rfl⟩) (preV0 (ci := 0) (q0 := 0) (C := RX0) (wc := [(t_boards_h, .inr (0, [.ref t_pairs_h, .ref t_boards_bents_h])), (t_boards_bents_h, .inl (cI, 6, .inl w6))]) hK hP hD hN [2, 4] rfl rfl (by decide) rfl rfl) rfl rfl hl.1 rfl (lv_room (Nat.le_of_ble_eq_true rfl)) dX9_bent_48 ⟨Nat.zero_le _, Nat.zero_le _⟩) hP hD hS hA [2, 4] rfl (fun H locs hP hS => ?_)
          exact hret r12 w6 51 _ _ _ dX9_bent_51 hf hP hD hS
        · have hf := ift hf c11
          refine lv_ldc (v := (-200000)) hx hb hown kc_228 dX9_bent_40 ?_
          exact hret (-200000) w6 42 _ _ _ dX9_bent_42 hf hP hD hS
    · have hf := ift hf c4
      refine lv_iconst (v := 0) hx hb dX9_bent_16 (by decide) ?_
      exact hret 0 t_boards_bents_a 17 _ _ _ dX9_bent_17 hf hP hD hS
  · have hf := ift hf c3
    refine lv_ldc (v := (-100000)) hx hb hown kc_224 dX9_bent_9 ?_
    exact hret (-100000) t_boards_bents_a 11 _ _ _ dX9_bent_11 hf hP hD hS
set_option maxRecDepth 20000 in
theorem ggX9_row_X9_isFormHourWind : GoodIn wsX9_row wsX9_isFormHourWind := goodIn_r _ [6, 7, 8, 5, 9, 10, 11, 12] (by decide +kernel) (by decide +kernel)
set_option maxRecDepth 20000 in
theorem gX9_row_X9_isFormHourWind : GoodIn wsX9_row (va_wsS RX9 232 yX9_isFormHourWind wsX9_isFormHourWind) := goodIn_app (goodIn_of _ (by decide +kernel)) ggX9_row_X9_isFormHourWind
set_option maxRecDepth 20000 in
theorem ggX9_row_X9_isWithin : GoodIn wsX9_row wsX9_isWithin := goodIn_r _ [12] (by decide +kernel) (by decide +kernel)
set_option maxRecDepth 20000 in
theorem gX9_row_X9_isWithin : GoodIn wsX9_row (va_wsS RX9 105 yX9_isWithin wsX9_isWithin) := goodIn_app (goodIn_of _ (by decide +kernel)) ggX9_row_X9_isWithin
set_option maxRecDepth 20000 in
theorem ggX9_row_X7_addNumbered : GoodIn wsX9_row wsX7_addNumbered := goodIn_r _ [17, 18, 19, 20, 16, 21, 22, 23, 24, 25, 26, 27, 28, 29, 47, 48, 49, 50] (by decide +kernel) (by decide +kernel)
set_option maxRecDepth 20000 in
theorem gX9_row_X7_addNumbered : GoodIn wsX9_row (wsV RX9 183 RX7 yX7_addNumbered wsX7_addNumbered) := goodIn_app (goodIn_of _ (by decide +kernel)) ggX9_row_X7_addNumbered
theorem dX9_row_0 : decode cX9_row 0 = .ok (.iload_n 1, 1) := by decide +kernel
theorem dX9_row_1 : decode cX9_row 1 = .ok (.iload_n 2, 1) := by decide +kernel
theorem dX9_row_2 : decode cX9_row 2 = .ok (.iload_n 3, 1) := by decide +kernel
theorem dX9_row_3 : decode cX9_row 3 = .ok (.invokestatic 232, 3) := by decide +kernel
theorem dX9_row_6 : decode cX9_row 6 = .ok (.ifCond .eq 14, 3) := by decide +kernel
theorem dX9_row_9 : decode cX9_row 9 = .ok (.iload 4, 2) := by decide +kernel
theorem dX9_row_11 : decode cX9_row 11 = .ok (.iconst (-1), 1) := by decide +kernel
theorem dX9_row_12 : decode cX9_row 12 = .ok (.ldc 104, 2) := by decide +kernel
theorem dX9_row_14 : decode cX9_row 14 = .ok (.invokestatic 105, 3) := by decide +kernel
theorem dX9_row_17 : decode cX9_row 17 = .ok (.ifCond .ne 6, 3) := by decide +kernel
theorem dX9_row_20 : decode cX9_row 20 = .ok (.bipush (-2), 2) := by decide +kernel
theorem dX9_row_22 : decode cX9_row 22 = .ok (.ireturn, 1) := by decide +kernel
theorem dX9_row_23 : decode cX9_row 23 = .ok (.aload_n 0, 1) := by decide +kernel
theorem dX9_row_24 : decode cX9_row 24 = .ok (.getfield 50, 3) := by decide +kernel
theorem dX9_row_27 : decode cX9_row 27 = .ok (.iload_n 1, 1) := by decide +kernel
theorem dX9_row_28 : decode cX9_row 28 = .ok (.iload_n 2, 1) := by decide +kernel
theorem dX9_row_29 : decode cX9_row 29 = .ok (.iload_n 3, 1) := by decide +kernel
theorem dX9_row_30 : decode cX9_row 30 = .ok (.iload 4, 2) := by decide +kernel
theorem dX9_row_32 : decode cX9_row 32 = .ok (.invokevirtual 183, 3) := by decide +kernel
theorem dX9_row_35 : decode cX9_row 35 = .ok (.ireturn, 1) := by decide +kernel
set_option maxRecDepth 100000 in
def fX9_row (x1 : Int32) (x2 : Int32) (x3 : Int32) (x4 : Int32) (t_rows_width : Int32) (t_rows_most : Int32) (t_rows_lines : Int32) (t_rows_cells_n : Nat) (t_rows_cells_a : Nat → Int32) : Option (Int32 × Int32 × (Nat → Int32)) :=
  ob (fX9_isFormHourWind x1 x2 x3) fun r1 =>
  if (b2i r1) = 0 then
    some ((-2), t_rows_lines, t_rows_cells_a)
  else
    ob (fX9_isWithin x4 (-1) 100000) fun r4 =>
    if (b2i r4) = 0 then
      some ((-2), t_rows_lines, t_rows_cells_a)
    else
      ob3 (fX7_addNumbered x1 x2 x3 x4 t_rows_width t_rows_most t_rows_lines t_rows_cells_n t_rows_cells_a) fun r7 w8 w9 =>
      some (r7, w8, w9)
abbrev rmX9_row : Room := { frames := 3, cells := 0, slots := 0, locals := 72 }
theorem iwX9_row_X9 : ∀ w ∈ u_ws RX9 TX9 17, w ∈ wsX9_row := by decide +kernel
set_option maxHeartbeats 4000000 in
set_option maxRecDepth 100000 in
theorem k_X9_row (l : Launch) (G : va_G) (cI cJ : ClassId) (t_h t_fraction_h t_settings_h t_firstEdges_h t_secondEdges_h t_layers_h t_sights_h t_shadows_h t_heights_h t_pairs_h t_rows_h t_notes_h t_matching_h t_speeds_h t_layering_h t_boards_h t_years_h t_sheets_h t_rows_cells_h : Nat) (sz : Nat) (t_rows_width : Int32) (t_rows_most : Int32) (t_rows_lines : Int32) (t_rows_cells_n : Nat) (t_rows_cells_a : Nat → Int32) (x1 : Int32) (x2 : Int32) (x3 : Int32) (x4 : Int32) {o_r : Int32} {o_t_rows_lines : Int32} {o_t_rows_cells_a : Nat → Int32} (hf : fX9_row x1 x2 x3 x4 t_rows_width t_rows_most t_rows_lines t_rows_cells_n t_rows_cells_a = some (o_r, o_t_rows_lines, o_t_rows_cells_a)) : MetI l yX9_row wsX9_row rmX9_row [.ref t_h, .int x1, .int x2, .int x3, .int x4] G cI cJ [(t_h, .inr (9, [.ref t_fraction_h, .ref t_settings_h, .ref t_firstEdges_h, .ref t_secondEdges_h, .ref t_layers_h, .ref t_sights_h, .ref t_shadows_h, .ref t_heights_h, .ref t_pairs_h, .ref t_rows_h, .ref t_notes_h, .ref t_matching_h, .ref t_speeds_h, .ref t_layering_h, .ref t_boards_h, .ref t_years_h, .ref t_sheets_h])), (t_rows_h, .inr (7, [.int t_rows_width, .int t_rows_most, .ref t_rows_cells_h, .int t_rows_lines])), (t_rows_cells_h, .inl (cI, t_rows_cells_n, .inl t_rows_cells_a))] [(t_h, .inr (9, [.ref t_fraction_h, .ref t_settings_h, .ref t_firstEdges_h, .ref t_secondEdges_h, .ref t_layers_h, .ref t_sights_h, .ref t_shadows_h, .ref t_heights_h, .ref t_pairs_h, .ref t_rows_h, .ref t_notes_h, .ref t_matching_h, .ref t_speeds_h, .ref t_layering_h, .ref t_boards_h, .ref t_years_h, .ref t_sheets_h])), (t_rows_h, .inr (7, [.int t_rows_width, .int t_rows_most, .ref t_rows_cells_h, .int o_t_rows_lines])), (t_rows_cells_h, .inl (cI, t_rows_cells_n, .inl o_t_rows_cells_a))] sz o_r := by
  refine en_0 (l := l) (y := yX9_row) (wsl := wsX9_row) (rm := rmX9_row) (av := [.ref t_h, .int x1, .int x2, .int x3, .int x4]) (G := G) (cI := cI) (cJ := cJ) (w0 := [(t_h, .inr (9, [.ref t_fraction_h, .ref t_settings_h, .ref t_firstEdges_h, .ref t_secondEdges_h, .ref t_layers_h, .ref t_sights_h, .ref t_shadows_h, .ref t_heights_h, .ref t_pairs_h, .ref t_rows_h, .ref t_notes_h, .ref t_matching_h, .ref t_speeds_h, .ref t_layering_h, .ref t_boards_h, .ref t_years_h, .ref t_sheets_h])), (t_rows_h, .inr (7, [.int t_rows_width, .int t_rows_most, .ref t_rows_cells_h, .int t_rows_lines])), (t_rows_cells_h, .inl (cI, t_rows_cells_n, .inl t_rows_cells_a))]) (sz := sz) (Qf := fun A => Qi0 G cI cJ [(t_h, .inr (9, [.ref t_fraction_h, .ref t_settings_h, .ref t_firstEdges_h, .ref t_secondEdges_h, .ref t_layers_h, .ref t_sights_h, .ref t_shadows_h, .ref t_heights_h, .ref t_pairs_h, .ref t_rows_h, .ref t_notes_h, .ref t_matching_h, .ref t_speeds_h, .ref t_layering_h, .ref t_boards_h, .ref t_years_h, .ref t_sheets_h])), (t_rows_h, .inr (7, [.int t_rows_width, .int t_rows_most, .ref t_rows_cells_h, .int o_t_rows_lines])), (t_rows_cells_h, .inl (cI, t_rows_cells_n, .inl o_t_rows_cells_a))] o_r A) (cc := cX9_row) (maxL := 5) (ret := (some .int)) RX9 (by decide +kernel) rfl rfl (Nat.le_of_ble_eq_true rfl) ?_
  intro p e s m args below meth c A ls Q hQ hx hb hr hts hown hlocks hml hN hK hP hD hS hA hl
  have hl : lv_has ls 5 [(0, .ref t_h), (1, .int x1), (2, .int x2), (3, .int x3), (4, .int x4)] := hl
  have iwX9 := iwX9_row_X9
  have fl_50 := hts (.fieldLink RX9 50 "CloudOffice" "rows" "LCloudOffice$Table;") (by decide +kernel)
  have kc_104 := hts (.constant RX9 104 (100000)) (by decide +kernel)
  have hret : ∀ (o_r9 : Int32) (o_t_rows_lines9 : Int32) (o_t_rows_cells_a9 : Nat → Int32) (pc : Nat) (H : Heap) (locs : List Loc) (ls : Array Slot), decode cX9_row pc = .ok (.ireturn, 1) → some (o_r9, o_t_rows_lines9, o_t_rows_cells_a9) = some (o_r, o_t_rows_lines, o_t_rows_cells_a) → va_P G vwCl [(t_h, .inr (9, [.ref t_fraction_h, .ref t_settings_h, .ref t_firstEdges_h, .ref t_secondEdges_h, .ref t_layers_h, .ref t_sights_h, .ref t_shadows_h, .ref t_heights_h, .ref t_pairs_h, .ref t_rows_h, .ref t_notes_h, .ref t_matching_h, .ref t_speeds_h, .ref t_layering_h, .ref t_boards_h, .ref t_years_h, .ref t_sheets_h])), (t_rows_h, .inr (7, [.int t_rows_width, .int t_rows_most, .ref t_rows_cells_h, .int o_t_rows_lines9])), (t_rows_cells_h, .inl (cI, t_rows_cells_n, .inl o_t_rows_cells_a9))] H → va_D A [(t_h, .inr (9, [.ref t_fraction_h, .ref t_settings_h, .ref t_firstEdges_h, .ref t_secondEdges_h, .ref t_layers_h, .ref t_sights_h, .ref t_shadows_h, .ref t_heights_h, .ref t_pairs_h, .ref t_rows_h, .ref t_notes_h, .ref t_matching_h, .ref t_speeds_h, .ref t_layering_h, .ref t_boards_h, .ref t_years_h, .ref t_sheets_h])), (t_rows_h, .inr (7, [.int t_rows_width, .int t_rows_most, .ref t_rows_cells_h, .int o_t_rows_lines9])), (t_rows_cells_h, .inl (cI, t_rows_cells_n, .inl o_t_rows_cells_a9))] → va_S A s.heap H locs → W p l e rmX9_row s m args below meth c H locs 0 0 Q (F0 m pc ls [.int o_r9]) := by
    intro o_r9 o_t_rows_lines9 o_t_rows_cells_a9 pc H locs ls hdg he hP hD hS
    cases he
    subst hQ
    exact rt_i hx hb hr hlocks hK hP hD hS rfl hdg
  clear hQ
  unfold fX9_row at hf
  refine lv_iload_n hx hb dX9_row_0 rfl (lv_at hl 1 rfl) ?_
  refine lv_iload_n hx hb dX9_row_1 rfl (lv_at hl 2 rfl) ?_
  refine lv_iload_n hx hb dX9_row_2 rfl (lv_at hl 3 rfl) ?_
  obtain ⟨r1, hc2, hf⟩ := ob_some hf
  refine af_iR (va_runS (As := [.int x1, .int x2, .int x3]) (rest := []) ⟨hx, hb, hml, hown, hts⟩ (k_X9_isFormHourWind l G cI cJ (x0 := x1) (x1 := x2) (x2 := x3) (sz := _) (hf := hc2)) (va_cwS 3 hts gX9_row_X9_isFormHourWind rfl rfl rfl (by decide +kernel) ⟨Nat.le_of_ble_eq_true rfl, Nat.le_of_ble_eq_true rfl⟩) (preS0 (wc := []) hK hP hD hN [] rfl rfl (by decide)) rfl rfl hl.1 rfl (lv_room (Nat.le_of_ble_eq_true rfl)) dX9_row_3 ⟨Nat.zero_le _, Nat.zero_le _⟩) hP hD hS hA [] rfl (fun H locs hP hS => ?_)
  refine lv_if_eq (tgt := 20) hx hb dX9_row_6 (by decide) (fun c3 => ?_) (fun c3 => ?_)
  · have hf := ift hf c3
    refine lv_bipush (v := (-2)) hx hb dX9_row_20 (by decide) ?_
    exact hret (-2) t_rows_lines t_rows_cells_a 22 _ _ _ dX9_row_22 hf hP hD hS
  · have hf := iff_ hf c3
    refine lv_iload hx hb dX9_row_9 (lv_at hl 4 rfl) ?_
    refine lv_iconst (v := (-1)) hx hb dX9_row_11 (by decide) ?_
    refine lv_ldc (v := 100000) hx hb hown kc_104 dX9_row_12 ?_
    obtain ⟨r4, hc5, hf⟩ := ob_some hf
    refine af_iR (va_runS (As := [.int x4, .int (-1), .int 100000]) (rest := []) ⟨hx, hb, hml, hown, hts⟩ (k_X9_isWithin l G cI cJ (x0 := x4) (x1 := (-1)) (x2 := 100000) (sz := _) (hf := hc5)) (va_cwS 3 hts gX9_row_X9_isWithin rfl rfl rfl (by decide +kernel) ⟨Nat.le_of_ble_eq_true rfl, Nat.le_of_ble_eq_true rfl⟩) (preS0 (wc := []) hK hP hD hN [] rfl rfl (by decide)) rfl rfl hl.1 rfl (lv_room (Nat.le_of_ble_eq_true rfl)) dX9_row_14 ⟨Nat.zero_le _, Nat.zero_le _⟩) hP hD hS hA [] rfl (fun H locs hP hS => ?_)
    refine lv_if_ne (tgt := 23) hx hb dX9_row_17 (by decide) (fun c6 => ?_) (fun c6 => ?_)
    · have hf := iff_ hf c6
      refine lv_aload_n hx hb dX9_row_23 rfl (lv_at hl 0 rfl) ?_
      refine va_get (D := G) (ci := 9) (v := .ref t_rows_h) (C := RX9) (T := TX9) (N := 17) hx hb hts iwX9 hown hK hP 0 rfl rfl 9 (by decide) fl_50 (fun _ h9 => h9) rfl dX9_row_24 ?_
      refine lv_iload_n hx hb dX9_row_27 rfl (lv_at hl 1 rfl) ?_
      refine lv_iload_n hx hb dX9_row_28 rfl (lv_at hl 2 rfl) ?_
      refine lv_iload_n hx hb dX9_row_29 rfl (lv_at hl 3 rfl) ?_
      refine lv_iload hx hb dX9_row_30 (lv_at hl 4 rfl) ?_
      obtain ⟨r7, w8, w9, hc10, hf⟩ := ob3_some hf
      refine af_iW (wr := [(t_h, .inr (9, [.ref t_fraction_h, .ref t_settings_h, .ref t_firstEdges_h, .ref t_secondEdges_h, .ref t_layers_h, .ref t_sights_h, .ref t_shadows_h, .ref t_heights_h, .ref t_pairs_h, .ref t_rows_h, .ref t_notes_h, .ref t_matching_h, .ref t_speeds_h, .ref t_layering_h, .ref t_boards_h, .ref t_years_h, .ref t_sheets_h]))]) (ws2 := [(t_h, .inr (9, [.ref t_fraction_h, .ref t_settings_h, .ref t_firstEdges_h, .ref t_secondEdges_h, .ref t_layers_h, .ref t_sights_h, .ref t_shadows_h, .ref t_heights_h, .ref t_pairs_h, .ref t_rows_h, .ref t_notes_h, .ref t_matching_h, .ref t_speeds_h, .ref t_layering_h, .ref t_boards_h, .ref t_years_h, .ref t_sheets_h])), (t_rows_h, .inr (7, [.int t_rows_width, .int t_rows_most, .ref t_rows_cells_h, .int w8])), (t_rows_cells_h, .inl (cI, t_rows_cells_n, .inl w9))]) (va_runV (As := [.int x1, .int x2, .int x3, .int x4]) (rest := []) ⟨hx, hb, hml, hown, hts⟩ (k_X7_addNumbered l G cI cJ (t_h := t_rows_h) (t_cells_h := t_rows_cells_h) (t_width := t_rows_width) (t_most := t_rows_most) (t_lines := t_rows_lines) (t_cells_n := t_rows_cells_n) (t_cells_a := t_rows_cells_a) (x1 := x1) (x2 := x2) (x3 := x3) (x4 := x4) (sz := _) (hf := hc10)) (cwV 4 hts gX9_row_X7_addNumbered rfl rfl rfl (by decide +kernel) ⟨Nat.le_of_ble_eq_true rfl, Nat.le_of_ble_eq_true rfl⟩) (preV0 (ci := 7) (q0 := 0) (C := RX7) (wc := [(t_rows_h, .inr (7, [.int t_rows_width, .int t_rows_most, .ref t_rows_cells_h, .int t_rows_lines])), (t_rows_cells_h, .inl (cI, t_rows_cells_n, .inl t_rows_cells_a))]) hK hP hD hN [1, 2] rfl rfl (by decide) rfl rfl) rfl rfl hl.1 rfl (lv_room (Nat.le_of_ble_eq_true rfl)) dX9_row_32 ⟨Nat.zero_le _, Nat.zero_le _⟩) hP hD hS hA [1, 2] [0] [0, 1, 2] rfl rfl (by decide) (by decide) rfl rfl (by decide) (fun H locs hP hD hS => ?_)
      exact hret r7 w8 w9 35 _ _ _ dX9_row_35 hf hP hD hS
    · have hf := ift hf c6
      refine lv_bipush (v := (-2)) hx hb dX9_row_20 (by decide) ?_
      exact hret (-2) t_rows_lines t_rows_cells_a 22 _ _ _ dX9_row_22 hf hP hD hS
set_option maxRecDepth 20000 in
theorem ggX9_guess_X9_isFormHourWind : GoodIn wsX9_guess wsX9_isFormHourWind := goodIn_r _ [5, 6, 7, 4, 8, 9, 10, 11] (by decide +kernel) (by decide +kernel)
set_option maxRecDepth 20000 in
theorem gX9_guess_X9_isFormHourWind : GoodIn wsX9_guess (va_wsS RX9 232 yX9_isFormHourWind wsX9_isFormHourWind) := goodIn_app (goodIn_of _ (by decide +kernel)) ggX9_guess_X9_isFormHourWind
set_option maxRecDepth 20000 in
theorem ggX9_guess_X9_isWithin : GoodIn wsX9_guess wsX9_isWithin := goodIn_r _ [11] (by decide +kernel) (by decide +kernel)
set_option maxRecDepth 20000 in
theorem gX9_guess_X9_isWithin : GoodIn wsX9_guess (va_wsS RX9 105 yX9_isWithin wsX9_isWithin) := goodIn_app (goodIn_of _ (by decide +kernel)) ggX9_guess_X9_isWithin
set_option maxRecDepth 20000 in
theorem ggX9_guess_X8_look : GoodIn wsX9_guess wsX8_look := goodIn_r _ [16, 17, 18, 19, 20, 21, 22, 23, 24, 25, 26, 27, 28, 29, 30, 31, 32, 33, 34, 15, 35, 36, 37, 38, 39, 40, 41, 42, 43, 44, 45, 46, 68, 69, 70, 71, 72, 73, 74, 75] (by decide +kernel) (by decide +kernel)
set_option maxRecDepth 20000 in
theorem gX9_guess_X8_look : GoodIn wsX9_guess (wsV RX9 235 RX8 yX8_look wsX8_look) := goodIn_app (goodIn_of _ (by decide +kernel)) ggX9_guess_X8_look
set_option maxRecDepth 20000 in
theorem ggX9_guess_X8_mean : GoodIn wsX9_guess wsX8_mean := goodIn_r _ [50, 18, 17, 68, 69, 70, 71] (by decide +kernel) (by decide +kernel)
set_option maxRecDepth 20000 in
theorem gX9_guess_X8_mean : GoodIn wsX9_guess (wsV RX9 239 RX8 yX8_mean wsX8_mean) := goodIn_app (goodIn_of _ (by decide +kernel)) ggX9_guess_X8_mean
theorem dX9_guess_0 : decode cX9_guess 0 = .ok (.iload_n 1, 1) := by decide +kernel
theorem dX9_guess_1 : decode cX9_guess 1 = .ok (.iload_n 2, 1) := by decide +kernel
theorem dX9_guess_2 : decode cX9_guess 2 = .ok (.iload_n 3, 1) := by decide +kernel
theorem dX9_guess_3 : decode cX9_guess 3 = .ok (.invokestatic 232, 3) := by decide +kernel
theorem dX9_guess_6 : decode cX9_guess 6 = .ok (.ifCond .eq 13, 3) := by decide +kernel
theorem dX9_guess_9 : decode cX9_guess 9 = .ok (.iload 4, 2) := by decide +kernel
theorem dX9_guess_11 : decode cX9_guess 11 = .ok (.iconst 0, 1) := by decide +kernel
theorem dX9_guess_12 : decode cX9_guess 12 = .ok (.iconst 2, 1) := by decide +kernel
theorem dX9_guess_13 : decode cX9_guess 13 = .ok (.invokestatic 105, 3) := by decide +kernel
theorem dX9_guess_16 : decode cX9_guess 16 = .ok (.ifCond .ne 6, 3) := by decide +kernel
theorem dX9_guess_19 : decode cX9_guess 19 = .ok (.bipush (-2), 2) := by decide +kernel
theorem dX9_guess_21 : decode cX9_guess 21 = .ok (.ireturn, 1) := by decide +kernel
theorem dX9_guess_22 : decode cX9_guess 22 = .ok (.aload_n 0, 1) := by decide +kernel
theorem dX9_guess_23 : decode cX9_guess 23 = .ok (.getfield 93, 3) := by decide +kernel
theorem dX9_guess_26 : decode cX9_guess 26 = .ok (.iload_n 1, 1) := by decide +kernel
theorem dX9_guess_27 : decode cX9_guess 27 = .ok (.iload_n 2, 1) := by decide +kernel
theorem dX9_guess_28 : decode cX9_guess 28 = .ok (.iload_n 3, 1) := by decide +kernel
theorem dX9_guess_29 : decode cX9_guess 29 = .ok (.invokevirtual 235, 3) := by decide +kernel
theorem dX9_guess_32 : decode cX9_guess 32 = .ok (.iload 4, 2) := by decide +kernel
theorem dX9_guess_34 : decode cX9_guess 34 = .ok (.ifCond .ne 11, 3) := by decide +kernel
theorem dX9_guess_37 : decode cX9_guess 37 = .ok (.aload_n 0, 1) := by decide +kernel
theorem dX9_guess_38 : decode cX9_guess 38 = .ok (.getfield 93, 3) := by decide +kernel
theorem dX9_guess_41 : decode cX9_guess 41 = .ok (.invokevirtual 239, 3) := by decide +kernel
theorem dX9_guess_44 : decode cX9_guess 44 = .ok (.ireturn, 1) := by decide +kernel
theorem dX9_guess_45 : decode cX9_guess 45 = .ok (.iload 4, 2) := by decide +kernel
theorem dX9_guess_47 : decode cX9_guess 47 = .ok (.iconst 1, 1) := by decide +kernel
theorem dX9_guess_48 : decode cX9_guess 48 = .ok (.if_icmp .ne 13, 3) := by decide +kernel
theorem dX9_guess_51 : decode cX9_guess 51 = .ok (.aload_n 0, 1) := by decide +kernel
theorem dX9_guess_52 : decode cX9_guess 52 = .ok (.getfield 93, 3) := by decide +kernel
theorem dX9_guess_55 : decode cX9_guess 55 = .ok (.getfield 242, 3) := by decide +kernel
theorem dX9_guess_58 : decode cX9_guess 58 = .ok (.goto 10, 3) := by decide +kernel
theorem dX9_guess_61 : decode cX9_guess 61 = .ok (.aload_n 0, 1) := by decide +kernel
theorem dX9_guess_62 : decode cX9_guess 62 = .ok (.getfield 93, 3) := by decide +kernel
theorem dX9_guess_65 : decode cX9_guess 65 = .ok (.getfield 245, 3) := by decide +kernel
theorem dX9_guess_68 : decode cX9_guess 68 = .ok (.ireturn, 1) := by decide +kernel
set_option maxRecDepth 100000 in
def fX9_guess (x1 : Int32) (x2 : Int32) (x3 : Int32) (x4 : Int32) (t_rows_width : Int32) (t_rows_lines : Int32) (t_years_sum : Int32) (t_years_many : Int32) (t_years_distance : Int32) (t_rows_cells_n : Nat) (t_rows_cells_a : Nat → Int32) : Option (Int32 × Int32 × Int32 × Int32) :=
  ob (fX9_isFormHourWind x1 x2 x3) fun r1 =>
  if (b2i r1) = 0 then
    some ((-2), t_years_sum, t_years_many, t_years_distance)
  else
    ob (fX9_isWithin x4 0 2) fun r4 =>
    if (b2i r4) = 0 then
      some ((-2), t_years_sum, t_years_many, t_years_distance)
    else
      ob3 (fX8_look x1 x2 x3 t_years_sum t_years_many t_years_distance t_rows_width t_rows_lines t_rows_cells_n t_rows_cells_a) fun w7 w8 w9 =>
      if x4 = 0 then
        ob (fX8_mean w7 w8) fun r13 =>
        some (r13, w7, w8, w9)
      else
        if x4 = 1 then
          some (w8, w7, w8, w9)
        else
          some (w9, w7, w8, w9)
abbrev rmX9_guess : Room := { frames := 3, cells := 0, slots := 0, locals := 72 }
theorem iwX9_guess_X8 : ∀ w ∈ u_ws RX8 TX8 4, w ∈ wsX9_guess := by decide +kernel
theorem iwX9_guess_X9 : ∀ w ∈ u_ws RX9 TX9 17, w ∈ wsX9_guess := by decide +kernel
set_option maxHeartbeats 4000000 in
set_option maxRecDepth 100000 in
theorem k_X9_guess (l : Launch) (G : va_G) (cI cJ : ClassId) (t_h t_fraction_h t_settings_h t_firstEdges_h t_secondEdges_h t_layers_h t_sights_h t_shadows_h t_heights_h t_pairs_h t_rows_h t_notes_h t_matching_h t_speeds_h t_layering_h t_boards_h t_years_h t_sheets_h t_rows_cells_h : Nat) (sz : Nat) (t_rows_width : Int32) (t_rows_most : Int32) (t_rows_lines : Int32) (t_years_sum : Int32) (t_years_many : Int32) (t_years_distance : Int32) (t_rows_cells_n : Nat) (t_rows_cells_a : Nat → Int32) (x1 : Int32) (x2 : Int32) (x3 : Int32) (x4 : Int32) {o_r : Int32} {o_t_years_sum : Int32} {o_t_years_many : Int32} {o_t_years_distance : Int32} (hf : fX9_guess x1 x2 x3 x4 t_rows_width t_rows_lines t_years_sum t_years_many t_years_distance t_rows_cells_n t_rows_cells_a = some (o_r, o_t_years_sum, o_t_years_many, o_t_years_distance)) : MetI l yX9_guess wsX9_guess rmX9_guess [.ref t_h, .int x1, .int x2, .int x3, .int x4] G cI cJ [(t_h, .inr (9, [.ref t_fraction_h, .ref t_settings_h, .ref t_firstEdges_h, .ref t_secondEdges_h, .ref t_layers_h, .ref t_sights_h, .ref t_shadows_h, .ref t_heights_h, .ref t_pairs_h, .ref t_rows_h, .ref t_notes_h, .ref t_matching_h, .ref t_speeds_h, .ref t_layering_h, .ref t_boards_h, .ref t_years_h, .ref t_sheets_h])), (t_rows_h, .inr (7, [.int t_rows_width, .int t_rows_most, .ref t_rows_cells_h, .int t_rows_lines])), (t_years_h, .inr (8, [.ref t_rows_h, .int t_years_sum, .int t_years_many, .int t_years_distance])), (t_rows_cells_h, .inl (cI, t_rows_cells_n, .inl t_rows_cells_a))] [(t_h, .inr (9, [.ref t_fraction_h, .ref t_settings_h, .ref t_firstEdges_h, .ref t_secondEdges_h, .ref t_layers_h, .ref t_sights_h, .ref t_shadows_h, .ref t_heights_h, .ref t_pairs_h, .ref t_rows_h, .ref t_notes_h, .ref t_matching_h, .ref t_speeds_h, .ref t_layering_h, .ref t_boards_h, .ref t_years_h, .ref t_sheets_h])), (t_rows_h, .inr (7, [.int t_rows_width, .int t_rows_most, .ref t_rows_cells_h, .int t_rows_lines])), (t_years_h, .inr (8, [.ref t_rows_h, .int o_t_years_sum, .int o_t_years_many, .int o_t_years_distance])), (t_rows_cells_h, .inl (cI, t_rows_cells_n, .inl t_rows_cells_a))] sz o_r := by
  refine en_0 (l := l) (y := yX9_guess) (wsl := wsX9_guess) (rm := rmX9_guess) (av := [.ref t_h, .int x1, .int x2, .int x3, .int x4]) (G := G) (cI := cI) (cJ := cJ) (w0 := [(t_h, .inr (9, [.ref t_fraction_h, .ref t_settings_h, .ref t_firstEdges_h, .ref t_secondEdges_h, .ref t_layers_h, .ref t_sights_h, .ref t_shadows_h, .ref t_heights_h, .ref t_pairs_h, .ref t_rows_h, .ref t_notes_h, .ref t_matching_h, .ref t_speeds_h, .ref t_layering_h, .ref t_boards_h, .ref t_years_h, .ref t_sheets_h])), (t_rows_h, .inr (7, [.int t_rows_width, .int t_rows_most, .ref t_rows_cells_h, .int t_rows_lines])), (t_years_h, .inr (8, [.ref t_rows_h, .int t_years_sum, .int t_years_many, .int t_years_distance])), (t_rows_cells_h, .inl (cI, t_rows_cells_n, .inl t_rows_cells_a))]) (sz := sz) (Qf := fun A => Qi0 G cI cJ [(t_h, .inr (9, [.ref t_fraction_h, .ref t_settings_h, .ref t_firstEdges_h, .ref t_secondEdges_h, .ref t_layers_h, .ref t_sights_h, .ref t_shadows_h, .ref t_heights_h, .ref t_pairs_h, .ref t_rows_h, .ref t_notes_h, .ref t_matching_h, .ref t_speeds_h, .ref t_layering_h, .ref t_boards_h, .ref t_years_h, .ref t_sheets_h])), (t_rows_h, .inr (7, [.int t_rows_width, .int t_rows_most, .ref t_rows_cells_h, .int t_rows_lines])), (t_years_h, .inr (8, [.ref t_rows_h, .int o_t_years_sum, .int o_t_years_many, .int o_t_years_distance])), (t_rows_cells_h, .inl (cI, t_rows_cells_n, .inl t_rows_cells_a))] o_r A) (cc := cX9_guess) (maxL := 5) (ret := (some .int)) RX9 (by decide +kernel) rfl rfl (Nat.le_of_ble_eq_true rfl) ?_
  intro p e s m args below meth c A ls Q hQ hx hb hr hts hown hlocks hml hN hK hP hD hS hA hl
  have hl : lv_has ls 5 [(0, .ref t_h), (1, .int x1), (2, .int x2), (3, .int x3), (4, .int x4)] := hl
  have iwX8 := iwX9_guess_X8
  have iwX9 := iwX9_guess_X9
  have fl_93 := hts (.fieldLink RX9 93 "CloudOffice" "years" "LCloudOffice$Years;") (by decide +kernel)
  have fl_242 : (Cond.fieldLinkNest RX9 242 "CloudOffice$Years" "many" "I" "CloudOffice").before args s = true := nst_get hN 8 rfl rfl
  have fl_245 : (Cond.fieldLinkNest RX9 245 "CloudOffice$Years" "distance" "I" "CloudOffice").before args s = true := nst_get hN 9 rfl rfl
  have hret : ∀ (o_r9 : Int32) (o_t_years_sum9 : Int32) (o_t_years_many9 : Int32) (o_t_years_distance9 : Int32) (pc : Nat) (H : Heap) (locs : List Loc) (ls : Array Slot), decode cX9_guess pc = .ok (.ireturn, 1) → some (o_r9, o_t_years_sum9, o_t_years_many9, o_t_years_distance9) = some (o_r, o_t_years_sum, o_t_years_many, o_t_years_distance) → va_P G vwCl [(t_h, .inr (9, [.ref t_fraction_h, .ref t_settings_h, .ref t_firstEdges_h, .ref t_secondEdges_h, .ref t_layers_h, .ref t_sights_h, .ref t_shadows_h, .ref t_heights_h, .ref t_pairs_h, .ref t_rows_h, .ref t_notes_h, .ref t_matching_h, .ref t_speeds_h, .ref t_layering_h, .ref t_boards_h, .ref t_years_h, .ref t_sheets_h])), (t_rows_h, .inr (7, [.int t_rows_width, .int t_rows_most, .ref t_rows_cells_h, .int t_rows_lines])), (t_years_h, .inr (8, [.ref t_rows_h, .int o_t_years_sum9, .int o_t_years_many9, .int o_t_years_distance9])), (t_rows_cells_h, .inl (cI, t_rows_cells_n, .inl t_rows_cells_a))] H → va_D A [(t_h, .inr (9, [.ref t_fraction_h, .ref t_settings_h, .ref t_firstEdges_h, .ref t_secondEdges_h, .ref t_layers_h, .ref t_sights_h, .ref t_shadows_h, .ref t_heights_h, .ref t_pairs_h, .ref t_rows_h, .ref t_notes_h, .ref t_matching_h, .ref t_speeds_h, .ref t_layering_h, .ref t_boards_h, .ref t_years_h, .ref t_sheets_h])), (t_rows_h, .inr (7, [.int t_rows_width, .int t_rows_most, .ref t_rows_cells_h, .int t_rows_lines])), (t_years_h, .inr (8, [.ref t_rows_h, .int o_t_years_sum9, .int o_t_years_many9, .int o_t_years_distance9])), (t_rows_cells_h, .inl (cI, t_rows_cells_n, .inl t_rows_cells_a))] → va_S A s.heap H locs → W p l e rmX9_guess s m args below meth c H locs 0 0 Q (F0 m pc ls [.int o_r9]) := by
    intro o_r9 o_t_years_sum9 o_t_years_many9 o_t_years_distance9 pc H locs ls hdg he hP hD hS
    cases he
    subst hQ
    exact rt_i hx hb hr hlocks hK hP hD hS rfl hdg
  clear hQ
  unfold fX9_guess at hf
  refine lv_iload_n hx hb dX9_guess_0 rfl (lv_at hl 1 rfl) ?_
  refine lv_iload_n hx hb dX9_guess_1 rfl (lv_at hl 2 rfl) ?_
  refine lv_iload_n hx hb dX9_guess_2 rfl (lv_at hl 3 rfl) ?_
  obtain ⟨r1, hc2, hf⟩ := ob_some hf
  refine af_iR (va_runS (As := [.int x1, .int x2, .int x3]) (rest := []) ⟨hx, hb, hml, hown, hts⟩ (k_X9_isFormHourWind l G cI cJ (x0 := x1) (x1 := x2) (x2 := x3) (sz := _) (hf := hc2)) (va_cwS 3 hts gX9_guess_X9_isFormHourWind rfl rfl rfl (by decide +kernel) ⟨Nat.le_of_ble_eq_true rfl, Nat.le_of_ble_eq_true rfl⟩) (preS0 (wc := []) hK hP hD hN [] rfl rfl (by decide)) rfl rfl hl.1 rfl (lv_room (Nat.le_of_ble_eq_true rfl)) dX9_guess_3 ⟨Nat.zero_le _, Nat.zero_le _⟩) hP hD hS hA [] rfl (fun H locs hP hS => ?_)
  refine lv_if_eq (tgt := 19) hx hb dX9_guess_6 (by decide) (fun c3 => ?_) (fun c3 => ?_)
  · have hf := ift hf c3
    refine lv_bipush (v := (-2)) hx hb dX9_guess_19 (by decide) ?_
    exact hret (-2) t_years_sum t_years_many t_years_distance 21 _ _ _ dX9_guess_21 hf hP hD hS
  · have hf := iff_ hf c3
    refine lv_iload hx hb dX9_guess_9 (lv_at hl 4 rfl) ?_
    refine lv_iconst (v := 0) hx hb dX9_guess_11 (by decide) ?_
    refine lv_iconst (v := 2) hx hb dX9_guess_12 (by decide) ?_
    obtain ⟨r4, hc5, hf⟩ := ob_some hf
    refine af_iR (va_runS (As := [.int x4, .int 0, .int 2]) (rest := []) ⟨hx, hb, hml, hown, hts⟩ (k_X9_isWithin l G cI cJ (x0 := x4) (x1 := 0) (x2 := 2) (sz := _) (hf := hc5)) (va_cwS 3 hts gX9_guess_X9_isWithin rfl rfl rfl (by decide +kernel) ⟨Nat.le_of_ble_eq_true rfl, Nat.le_of_ble_eq_true rfl⟩) (preS0 (wc := []) hK hP hD hN [] rfl rfl (by decide)) rfl rfl hl.1 rfl (lv_room (Nat.le_of_ble_eq_true rfl)) dX9_guess_13 ⟨Nat.zero_le _, Nat.zero_le _⟩) hP hD hS hA [] rfl (fun H locs hP hS => ?_)
    refine lv_if_ne (tgt := 22) hx hb dX9_guess_16 (by decide) (fun c6 => ?_) (fun c6 => ?_)
    · have hf := iff_ hf c6
      refine lv_aload_n hx hb dX9_guess_22 rfl (lv_at hl 0 rfl) ?_
      refine va_get (D := G) (ci := 9) (v := .ref t_years_h) (C := RX9) (T := TX9) (N := 17) hx hb hts iwX9 hown hK hP 0 rfl rfl 15 (by decide) fl_93 (fun _ h9 => h9) rfl dX9_guess_23 ?_
      refine lv_iload_n hx hb dX9_guess_26 rfl (lv_at hl 1 rfl) ?_
      refine lv_iload_n hx hb dX9_guess_27 rfl (lv_at hl 2 rfl) ?_
      refine lv_iload_n hx hb dX9_guess_28 rfl (lv_at hl 3 rfl) ?_
      obtain ⟨w7, w8, w9, hc10, hf⟩ := ob3_some hf
      refine af_vW (wr := [(t_h, .inr (9, [.ref t_fraction_h, .ref t_settings_h, .ref t_firstEdges_h, .ref t_secondEdges_h, .ref t_layers_h, .ref t_sights_h, .ref t_shadows_h, .ref t_heights_h, .ref t_pairs_h, .ref t_rows_h, .ref t_notes_h, .ref t_matching_h, .ref t_speeds_h, .ref t_layering_h, .ref t_boards_h, .ref t_years_h, .ref t_sheets_h]))]) (ws2 := [(t_h, .inr (9, [.ref t_fraction_h, .ref t_settings_h, .ref t_firstEdges_h, .ref t_secondEdges_h, .ref t_layers_h, .ref t_sights_h, .ref t_shadows_h, .ref t_heights_h, .ref t_pairs_h, .ref t_rows_h, .ref t_notes_h, .ref t_matching_h, .ref t_speeds_h, .ref t_layering_h, .ref t_boards_h, .ref t_years_h, .ref t_sheets_h])), (t_rows_h, .inr (7, [.int t_rows_width, .int t_rows_most, .ref t_rows_cells_h, .int t_rows_lines])), (t_years_h, .inr (8, [.ref t_rows_h, .int w7, .int w8, .int w9])), (t_rows_cells_h, .inl (cI, t_rows_cells_n, .inl t_rows_cells_a))]) (va_runV (As := [.int x1, .int x2, .int x3]) (rest := []) ⟨hx, hb, hml, hown, hts⟩ (k_X8_look l G cI cJ (t_h := t_years_h) (t_rows_h := t_rows_h) (t_rows_cells_h := t_rows_cells_h) (t_sum := t_years_sum) (t_many := t_years_many) (t_distance := t_years_distance) (t_rows_width := t_rows_width) (t_rows_most := t_rows_most) (t_rows_lines := t_rows_lines) (t_rows_cells_n := t_rows_cells_n) (t_rows_cells_a := t_rows_cells_a) (x1 := x1) (x2 := x2) (x3 := x3) (sz := _) (hf := hc10)) (cwV 3 hts gX9_guess_X8_look rfl rfl rfl (by decide +kernel) ⟨Nat.le_of_ble_eq_true rfl, Nat.le_of_ble_eq_true rfl⟩) (preV0 (ci := 8) (q0 := 0) (C := RX8) (wc := [(t_years_h, .inr (8, [.ref t_rows_h, .int t_years_sum, .int t_years_many, .int t_years_distance])), (t_rows_h, .inr (7, [.int t_rows_width, .int t_rows_most, .ref t_rows_cells_h, .int t_rows_lines])), (t_rows_cells_h, .inl (cI, t_rows_cells_n, .inl t_rows_cells_a))]) hK hP hD hN [2, 1, 3] rfl rfl (by decide) rfl rfl) rfl rfl hl.1 rfl (lv_room (Nat.le_of_ble_eq_true rfl)) dX9_guess_29 ⟨Nat.zero_le _, Nat.zero_le _⟩) hP hD hS hA [2, 1, 3] [0] [0, 2, 1, 3] rfl rfl (by decide) (by decide) rfl rfl (by decide) (fun H locs hP hD hS => ?_)
      refine lv_iload hx hb dX9_guess_32 (lv_at hl 4 rfl) ?_
      refine lv_if_ne (tgt := 45) hx hb dX9_guess_34 (by decide) (fun c11 => ?_) (fun c11 => ?_)
      · have hf := iff_ hf c11
        refine lv_iload hx hb dX9_guess_45 (lv_at hl 4 rfl) ?_
        refine lv_iconst (v := 1) hx hb dX9_guess_47 (by decide) ?_
        refine lv_icmp_ne (tgt := 61) hx hb dX9_guess_48 (by decide) (fun c12 => ?_) (fun c12 => ?_)
        · have hf := iff_ hf c12
          refine lv_aload_n hx hb dX9_guess_61 rfl (lv_at hl 0 rfl) ?_
          refine va_get (D := G) (ci := 9) (v := .ref t_years_h) (C := RX9) (T := TX9) (N := 17) hx hb hts iwX9 hown hK hP 0 rfl rfl 15 (by decide) fl_93 (fun _ h9 => h9) rfl dX9_guess_62 ?_
          refine va_getN (D := G) (ci := 8) (v := .int w9) (C := RX8) (T := TX8) (N := 4) hx hb hts iwX8 hown hK hP 2 rfl rfl 3 (by decide) fl_245 (fun _ h9 => h9) rfl dX9_guess_65 ?_
          exact hret w9 w7 w8 w9 68 _ _ _ dX9_guess_68 hf hP hD hS
        · have hf := ift hf c12
          refine lv_aload_n hx hb dX9_guess_51 rfl (lv_at hl 0 rfl) ?_
          refine va_get (D := G) (ci := 9) (v := .ref t_years_h) (C := RX9) (T := TX9) (N := 17) hx hb hts iwX9 hown hK hP 0 rfl rfl 15 (by decide) fl_93 (fun _ h9 => h9) rfl dX9_guess_52 ?_
          refine va_getN (D := G) (ci := 8) (v := .int w8) (C := RX8) (T := TX8) (N := 4) hx hb hts iwX8 hown hK hP 2 rfl rfl 2 (by decide) fl_242 (fun _ h9 => h9) rfl dX9_guess_55 ?_
          refine lv_goto (tgt := 68) hx hb dX9_guess_58 (by decide) ?_
          exact hret w8 w7 w8 w9 68 _ _ _ dX9_guess_68 hf hP hD hS
      · have hf := ift hf c11
        refine lv_aload_n hx hb dX9_guess_37 rfl (lv_at hl 0 rfl) ?_
        refine va_get (D := G) (ci := 9) (v := .ref t_years_h) (C := RX9) (T := TX9) (N := 17) hx hb hts iwX9 hown hK hP 0 rfl rfl 15 (by decide) fl_93 (fun _ h9 => h9) rfl dX9_guess_38 ?_
        obtain ⟨r13, hc14, hf⟩ := ob_some hf
        refine af_iR (va_runV (As := []) (rest := []) ⟨hx, hb, hml, hown, hts⟩ (k_X8_mean l G cI cJ (t_h := t_years_h) (t_rows_h := t_rows_h) (t_sum := w7) (t_many := w8) (t_distance := w9) (sz := _) (hf := hc14)) (cwV 0 hts gX9_guess_X8_mean rfl rfl rfl (by decide +kernel) ⟨Nat.le_of_ble_eq_true rfl, Nat.le_of_ble_eq_true rfl⟩) (preV0 (ci := 8) (q0 := 0) (C := RX8) (wc := [(t_years_h, .inr (8, [.ref t_rows_h, .int w7, .int w8, .int w9]))]) hK hP hD hN [2] rfl rfl (by decide) rfl rfl) rfl rfl hl.1 rfl (lv_room (Nat.le_of_ble_eq_true rfl)) dX9_guess_41 ⟨Nat.zero_le _, Nat.zero_le _⟩) hP hD hS hA [2] rfl (fun H locs hP hS => ?_)
        exact hret r13 w7 w8 w9 44 _ _ _ dX9_guess_44 hf hP hD hS
    · have hf := ift hf c6
      refine lv_bipush (v := (-2)) hx hb dX9_guess_19 (by decide) ?_
      exact hret (-2) t_years_sum t_years_many t_years_distance 21 _ _ _ dX9_guess_21 hf hP hD hS
set_option maxRecDepth 20000 in
theorem ggX9_under_X9_isForm : GoodIn wsX9_under wsX9_isForm := goodIn_r _ [5, 6, 7, 4, 8] (by decide +kernel) (by decide +kernel)
set_option maxRecDepth 20000 in
theorem gX9_under_X9_isForm : GoodIn wsX9_under (va_wsS RX9 248 yX9_isForm wsX9_isForm) := goodIn_app (goodIn_of _ (by decide +kernel)) ggX9_under_X9_isForm
set_option maxRecDepth 20000 in
theorem ggX9_under_X7_add : GoodIn wsX9_under wsX7_add := goodIn_r _ [13, 14, 15, 16, 17, 18, 12, 19, 20, 21, 39, 40, 41, 42] (by decide +kernel) (by decide +kernel)
set_option maxRecDepth 20000 in
theorem gX9_under_X7_add : GoodIn wsX9_under (wsV RX9 120 RX7 yX7_add wsX7_add) := goodIn_app (goodIn_of _ (by decide +kernel)) ggX9_under_X7_add
theorem dX9_under_0 : decode cX9_under 0 = .ok (.iload_n 1, 1) := by decide +kernel
theorem dX9_under_1 : decode cX9_under 1 = .ok (.invokestatic 248, 3) := by decide +kernel
theorem dX9_under_4 : decode cX9_under 4 = .ok (.ifCond .eq 15, 3) := by decide +kernel
theorem dX9_under_7 : decode cX9_under 7 = .ok (.iload_n 2, 1) := by decide +kernel
theorem dX9_under_8 : decode cX9_under 8 = .ok (.invokestatic 248, 3) := by decide +kernel
theorem dX9_under_11 : decode cX9_under 11 = .ok (.ifCond .eq 8, 3) := by decide +kernel
theorem dX9_under_14 : decode cX9_under 14 = .ok (.iload_n 1, 1) := by decide +kernel
theorem dX9_under_15 : decode cX9_under 15 = .ok (.iload_n 2, 1) := by decide +kernel
theorem dX9_under_16 : decode cX9_under 16 = .ok (.if_icmp .ne 6, 3) := by decide +kernel
theorem dX9_under_19 : decode cX9_under 19 = .ok (.bipush (-2), 2) := by decide +kernel
theorem dX9_under_21 : decode cX9_under 21 = .ok (.ireturn, 1) := by decide +kernel
theorem dX9_under_22 : decode cX9_under 22 = .ok (.aload_n 0, 1) := by decide +kernel
theorem dX9_under_23 : decode cX9_under 23 = .ok (.getfield 53, 3) := by decide +kernel
theorem dX9_under_26 : decode cX9_under 26 = .ok (.iload_n 1, 1) := by decide +kernel
theorem dX9_under_27 : decode cX9_under 27 = .ok (.iload_n 2, 1) := by decide +kernel
theorem dX9_under_28 : decode cX9_under 28 = .ok (.iconst 0, 1) := by decide +kernel
theorem dX9_under_29 : decode cX9_under 29 = .ok (.iconst 0, 1) := by decide +kernel
theorem dX9_under_30 : decode cX9_under 30 = .ok (.invokevirtual 120, 3) := by decide +kernel
theorem dX9_under_33 : decode cX9_under 33 = .ok (.ireturn, 1) := by decide +kernel
set_option maxRecDepth 100000 in
def fX9_under (x1 : Int32) (x2 : Int32) (t_notes_width : Int32) (t_notes_most : Int32) (t_notes_lines : Int32) (t_notes_cells_n : Nat) (t_notes_cells_a : Nat → Int32) : Option (Int32 × Int32 × (Nat → Int32)) :=
  ob (fX9_isForm x1) fun r1 =>
  if (b2i r1) = 0 then
    some ((-2), t_notes_lines, t_notes_cells_a)
  else
    ob (fX9_isForm x2) fun r4 =>
    if (b2i r4) = 0 then
      some ((-2), t_notes_lines, t_notes_cells_a)
    else
      if x1 = x2 then
        some ((-2), t_notes_lines, t_notes_cells_a)
      else
        ob3 (fX7_add x1 x2 0 0 t_notes_width t_notes_most t_notes_lines t_notes_cells_n t_notes_cells_a) fun r8 w9 w10 =>
        some (r8, w9, w10)
abbrev rmX9_under : Room := { frames := 2, cells := 0, slots := 0, locals := 47 }
theorem iwX9_under_X9 : ∀ w ∈ u_ws RX9 TX9 17, w ∈ wsX9_under := by decide +kernel
set_option maxHeartbeats 4000000 in
set_option maxRecDepth 100000 in
theorem k_X9_under (l : Launch) (G : va_G) (cI cJ : ClassId) (t_h t_fraction_h t_settings_h t_firstEdges_h t_secondEdges_h t_layers_h t_sights_h t_shadows_h t_heights_h t_pairs_h t_rows_h t_notes_h t_matching_h t_speeds_h t_layering_h t_boards_h t_years_h t_sheets_h t_notes_cells_h : Nat) (sz : Nat) (t_notes_width : Int32) (t_notes_most : Int32) (t_notes_lines : Int32) (t_notes_cells_n : Nat) (t_notes_cells_a : Nat → Int32) (x1 : Int32) (x2 : Int32) {o_r : Int32} {o_t_notes_lines : Int32} {o_t_notes_cells_a : Nat → Int32} (hf : fX9_under x1 x2 t_notes_width t_notes_most t_notes_lines t_notes_cells_n t_notes_cells_a = some (o_r, o_t_notes_lines, o_t_notes_cells_a)) : MetI l yX9_under wsX9_under rmX9_under [.ref t_h, .int x1, .int x2] G cI cJ [(t_h, .inr (9, [.ref t_fraction_h, .ref t_settings_h, .ref t_firstEdges_h, .ref t_secondEdges_h, .ref t_layers_h, .ref t_sights_h, .ref t_shadows_h, .ref t_heights_h, .ref t_pairs_h, .ref t_rows_h, .ref t_notes_h, .ref t_matching_h, .ref t_speeds_h, .ref t_layering_h, .ref t_boards_h, .ref t_years_h, .ref t_sheets_h])), (t_notes_h, .inr (7, [.int t_notes_width, .int t_notes_most, .ref t_notes_cells_h, .int t_notes_lines])), (t_notes_cells_h, .inl (cI, t_notes_cells_n, .inl t_notes_cells_a))] [(t_h, .inr (9, [.ref t_fraction_h, .ref t_settings_h, .ref t_firstEdges_h, .ref t_secondEdges_h, .ref t_layers_h, .ref t_sights_h, .ref t_shadows_h, .ref t_heights_h, .ref t_pairs_h, .ref t_rows_h, .ref t_notes_h, .ref t_matching_h, .ref t_speeds_h, .ref t_layering_h, .ref t_boards_h, .ref t_years_h, .ref t_sheets_h])), (t_notes_h, .inr (7, [.int t_notes_width, .int t_notes_most, .ref t_notes_cells_h, .int o_t_notes_lines])), (t_notes_cells_h, .inl (cI, t_notes_cells_n, .inl o_t_notes_cells_a))] sz o_r := by
  refine en_0 (l := l) (y := yX9_under) (wsl := wsX9_under) (rm := rmX9_under) (av := [.ref t_h, .int x1, .int x2]) (G := G) (cI := cI) (cJ := cJ) (w0 := [(t_h, .inr (9, [.ref t_fraction_h, .ref t_settings_h, .ref t_firstEdges_h, .ref t_secondEdges_h, .ref t_layers_h, .ref t_sights_h, .ref t_shadows_h, .ref t_heights_h, .ref t_pairs_h, .ref t_rows_h, .ref t_notes_h, .ref t_matching_h, .ref t_speeds_h, .ref t_layering_h, .ref t_boards_h, .ref t_years_h, .ref t_sheets_h])), (t_notes_h, .inr (7, [.int t_notes_width, .int t_notes_most, .ref t_notes_cells_h, .int t_notes_lines])), (t_notes_cells_h, .inl (cI, t_notes_cells_n, .inl t_notes_cells_a))]) (sz := sz) (Qf := fun A => Qi0 G cI cJ [(t_h, .inr (9, [.ref t_fraction_h, .ref t_settings_h, .ref t_firstEdges_h, .ref t_secondEdges_h, .ref t_layers_h, .ref t_sights_h, .ref t_shadows_h, .ref t_heights_h, .ref t_pairs_h, .ref t_rows_h, .ref t_notes_h, .ref t_matching_h, .ref t_speeds_h, .ref t_layering_h, .ref t_boards_h, .ref t_years_h, .ref t_sheets_h])), (t_notes_h, .inr (7, [.int t_notes_width, .int t_notes_most, .ref t_notes_cells_h, .int o_t_notes_lines])), (t_notes_cells_h, .inl (cI, t_notes_cells_n, .inl o_t_notes_cells_a))] o_r A) (cc := cX9_under) (maxL := 3) (ret := (some .int)) RX9 (by decide +kernel) rfl rfl (Nat.le_of_ble_eq_true rfl) ?_
  intro p e s m args below meth c A ls Q hQ hx hb hr hts hown hlocks hml hN hK hP hD hS hA hl
  have hl : lv_has ls 3 [(0, .ref t_h), (1, .int x1), (2, .int x2)] := hl
  have iwX9 := iwX9_under_X9
  have fl_53 := hts (.fieldLink RX9 53 "CloudOffice" "notes" "LCloudOffice$Table;") (by decide +kernel)
  have hret : ∀ (o_r9 : Int32) (o_t_notes_lines9 : Int32) (o_t_notes_cells_a9 : Nat → Int32) (pc : Nat) (H : Heap) (locs : List Loc) (ls : Array Slot), decode cX9_under pc = .ok (.ireturn, 1) → some (o_r9, o_t_notes_lines9, o_t_notes_cells_a9) = some (o_r, o_t_notes_lines, o_t_notes_cells_a) → va_P G vwCl [(t_h, .inr (9, [.ref t_fraction_h, .ref t_settings_h, .ref t_firstEdges_h, .ref t_secondEdges_h, .ref t_layers_h, .ref t_sights_h, .ref t_shadows_h, .ref t_heights_h, .ref t_pairs_h, .ref t_rows_h, .ref t_notes_h, .ref t_matching_h, .ref t_speeds_h, .ref t_layering_h, .ref t_boards_h, .ref t_years_h, .ref t_sheets_h])), (t_notes_h, .inr (7, [.int t_notes_width, .int t_notes_most, .ref t_notes_cells_h, .int o_t_notes_lines9])), (t_notes_cells_h, .inl (cI, t_notes_cells_n, .inl o_t_notes_cells_a9))] H → va_D A [(t_h, .inr (9, [.ref t_fraction_h, .ref t_settings_h, .ref t_firstEdges_h, .ref t_secondEdges_h, .ref t_layers_h, .ref t_sights_h, .ref t_shadows_h, .ref t_heights_h, .ref t_pairs_h, .ref t_rows_h, .ref t_notes_h, .ref t_matching_h, .ref t_speeds_h, .ref t_layering_h, .ref t_boards_h, .ref t_years_h, .ref t_sheets_h])), (t_notes_h, .inr (7, [.int t_notes_width, .int t_notes_most, .ref t_notes_cells_h, .int o_t_notes_lines9])), (t_notes_cells_h, .inl (cI, t_notes_cells_n, .inl o_t_notes_cells_a9))] → va_S A s.heap H locs → W p l e rmX9_under s m args below meth c H locs 0 0 Q (F0 m pc ls [.int o_r9]) := by
    intro o_r9 o_t_notes_lines9 o_t_notes_cells_a9 pc H locs ls hdg he hP hD hS
    cases he
    subst hQ
    exact rt_i hx hb hr hlocks hK hP hD hS rfl hdg
  clear hQ
  unfold fX9_under at hf
  refine lv_iload_n hx hb dX9_under_0 rfl (lv_at hl 1 rfl) ?_
  obtain ⟨r1, hc2, hf⟩ := ob_some hf
  refine af_iR (va_runS (As := [.int x1]) (rest := []) ⟨hx, hb, hml, hown, hts⟩ (k_X9_isForm l G cI cJ (x0 := x1) (sz := _) (hf := hc2)) (va_cwS 1 hts gX9_under_X9_isForm rfl rfl rfl (by decide +kernel) ⟨Nat.le_of_ble_eq_true rfl, Nat.le_of_ble_eq_true rfl⟩) (preS0 (wc := []) hK hP hD hN [] rfl rfl (by decide)) rfl rfl hl.1 rfl (lv_room (Nat.le_of_ble_eq_true rfl)) dX9_under_1 ⟨Nat.zero_le _, Nat.zero_le _⟩) hP hD hS hA [] rfl (fun H locs hP hS => ?_)
  refine lv_if_eq (tgt := 19) hx hb dX9_under_4 (by decide) (fun c3 => ?_) (fun c3 => ?_)
  · have hf := ift hf c3
    refine lv_bipush (v := (-2)) hx hb dX9_under_19 (by decide) ?_
    exact hret (-2) t_notes_lines t_notes_cells_a 21 _ _ _ dX9_under_21 hf hP hD hS
  · have hf := iff_ hf c3
    refine lv_iload_n hx hb dX9_under_7 rfl (lv_at hl 2 rfl) ?_
    obtain ⟨r4, hc5, hf⟩ := ob_some hf
    refine af_iR (va_runS (As := [.int x2]) (rest := []) ⟨hx, hb, hml, hown, hts⟩ (k_X9_isForm l G cI cJ (x0 := x2) (sz := _) (hf := hc5)) (va_cwS 1 hts gX9_under_X9_isForm rfl rfl rfl (by decide +kernel) ⟨Nat.le_of_ble_eq_true rfl, Nat.le_of_ble_eq_true rfl⟩) (preS0 (wc := []) hK hP hD hN [] rfl rfl (by decide)) rfl rfl hl.1 rfl (lv_room (Nat.le_of_ble_eq_true rfl)) dX9_under_8 ⟨Nat.zero_le _, Nat.zero_le _⟩) hP hD hS hA [] rfl (fun H locs hP hS => ?_)
    refine lv_if_eq (tgt := 19) hx hb dX9_under_11 (by decide) (fun c6 => ?_) (fun c6 => ?_)
    · have hf := ift hf c6
      refine lv_bipush (v := (-2)) hx hb dX9_under_19 (by decide) ?_
      exact hret (-2) t_notes_lines t_notes_cells_a 21 _ _ _ dX9_under_21 hf hP hD hS
    · have hf := iff_ hf c6
      refine lv_iload_n hx hb dX9_under_14 rfl (lv_at hl 1 rfl) ?_
      refine lv_iload_n hx hb dX9_under_15 rfl (lv_at hl 2 rfl) ?_
      refine lv_icmp_ne (tgt := 22) hx hb dX9_under_16 (by decide) (fun c7 => ?_) (fun c7 => ?_)
      · have hf := iff_ hf c7
        refine lv_aload_n hx hb dX9_under_22 rfl (lv_at hl 0 rfl) ?_
        refine va_get (D := G) (ci := 9) (v := .ref t_notes_h) (C := RX9) (T := TX9) (N := 17) hx hb hts iwX9 hown hK hP 0 rfl rfl 10 (by decide) fl_53 (fun _ h9 => h9) rfl dX9_under_23 ?_
        refine lv_iload_n hx hb dX9_under_26 rfl (lv_at hl 1 rfl) ?_
        refine lv_iload_n hx hb dX9_under_27 rfl (lv_at hl 2 rfl) ?_
        refine lv_iconst (v := 0) hx hb dX9_under_28 (by decide) ?_
        refine lv_iconst (v := 0) hx hb dX9_under_29 (by decide) ?_
        obtain ⟨r8, w9, w10, hc11, hf⟩ := ob3_some hf
        refine af_iW (wr := [(t_h, .inr (9, [.ref t_fraction_h, .ref t_settings_h, .ref t_firstEdges_h, .ref t_secondEdges_h, .ref t_layers_h, .ref t_sights_h, .ref t_shadows_h, .ref t_heights_h, .ref t_pairs_h, .ref t_rows_h, .ref t_notes_h, .ref t_matching_h, .ref t_speeds_h, .ref t_layering_h, .ref t_boards_h, .ref t_years_h, .ref t_sheets_h]))]) (ws2 := [(t_h, .inr (9, [.ref t_fraction_h, .ref t_settings_h, .ref t_firstEdges_h, .ref t_secondEdges_h, .ref t_layers_h, .ref t_sights_h, .ref t_shadows_h, .ref t_heights_h, .ref t_pairs_h, .ref t_rows_h, .ref t_notes_h, .ref t_matching_h, .ref t_speeds_h, .ref t_layering_h, .ref t_boards_h, .ref t_years_h, .ref t_sheets_h])), (t_notes_h, .inr (7, [.int t_notes_width, .int t_notes_most, .ref t_notes_cells_h, .int w9])), (t_notes_cells_h, .inl (cI, t_notes_cells_n, .inl w10))]) (va_runV (As := [.int x1, .int x2, .int 0, .int 0]) (rest := []) ⟨hx, hb, hml, hown, hts⟩ (k_X7_add l G cI cJ (t_h := t_notes_h) (t_cells_h := t_notes_cells_h) (t_width := t_notes_width) (t_most := t_notes_most) (t_lines := t_notes_lines) (t_cells_n := t_notes_cells_n) (t_cells_a := t_notes_cells_a) (x1 := x1) (x2 := x2) (x3 := 0) (x4 := 0) (sz := _) (hf := hc11)) (cwV 4 hts gX9_under_X7_add rfl rfl rfl (by decide +kernel) ⟨Nat.le_of_ble_eq_true rfl, Nat.le_of_ble_eq_true rfl⟩) (preV0 (ci := 7) (q0 := 0) (C := RX7) (wc := [(t_notes_h, .inr (7, [.int t_notes_width, .int t_notes_most, .ref t_notes_cells_h, .int t_notes_lines])), (t_notes_cells_h, .inl (cI, t_notes_cells_n, .inl t_notes_cells_a))]) hK hP hD hN [1, 2] rfl rfl (by decide) rfl rfl) rfl rfl hl.1 rfl (lv_room (Nat.le_of_ble_eq_true rfl)) dX9_under_30 ⟨Nat.zero_le _, Nat.zero_le _⟩) hP hD hS hA [1, 2] [0] [0, 1, 2] rfl rfl (by decide) (by decide) rfl rfl (by decide) (fun H locs hP hD hS => ?_)
        exact hret r8 w9 w10 33 _ _ _ dX9_under_33 hf hP hD hS
      · have hf := ift hf c7
        refine lv_bipush (v := (-2)) hx hb dX9_under_19 (by decide) ?_
        exact hret (-2) t_notes_lines t_notes_cells_a 21 _ _ _ dX9_under_21 hf hP hD hS
set_option maxRecDepth 20000 in
theorem ggX9_order_X9_isWithin : GoodIn wsX9_order wsX9_isWithin := goodIn_r _ [5] (by decide +kernel) (by decide +kernel)
set_option maxRecDepth 20000 in
theorem gX9_order_X9_isWithin : GoodIn wsX9_order (va_wsS RX9 105 yX9_isWithin wsX9_isWithin) := goodIn_app (goodIn_of _ (by decide +kernel)) ggX9_order_X9_isWithin
set_option maxRecDepth 20000 in
theorem ggX9_order_X5_bestKey : GoodIn wsX9_order wsX5_bestKey := goodIn_r _ [10, 11, 12, 13, 14, 9, 15, 16, 17, 18, 19, 20, 21, 22, 23, 24, 25, 26, 27, 28, 29, 30, 31, 32, 33, 34, 35, 36, 37, 38, 39, 40, 41, 42, 43, 44, 45, 46, 47, 48, 49, 76, 77, 78, 79, 80, 81, 82] (by decide +kernel) (by decide +kernel)
set_option maxRecDepth 20000 in
theorem gX9_order_X5_bestKey : GoodIn wsX9_order (wsV RX9 251 RX5 yX5_bestKey wsX5_bestKey) := goodIn_app (goodIn_of _ (by decide +kernel)) ggX9_order_X5_bestKey
set_option maxRecDepth 20000 in
theorem ggX9_order_X5_quarrelOf : GoodIn wsX9_order wsX5_quarrelOf := goodIn_r _ [53] (by decide +kernel) (by decide +kernel)
set_option maxRecDepth 20000 in
theorem gX9_order_X5_quarrelOf : GoodIn wsX9_order (wsV RX9 252 RX5 yX5_quarrelOf wsX5_quarrelOf) := goodIn_app (goodIn_of _ (by decide +kernel)) ggX9_order_X5_quarrelOf
set_option maxRecDepth 20000 in
theorem ggX9_order_X5_formAt : GoodIn wsX9_order wsX5_formAt := goodIn_r _ [57, 58] (by decide +kernel) (by decide +kernel)
set_option maxRecDepth 20000 in
theorem gX9_order_X5_formAt : GoodIn wsX9_order (wsV RX9 255 RX5 yX5_formAt wsX5_formAt) := goodIn_app (goodIn_of _ (by decide +kernel)) ggX9_order_X5_formAt
theorem dX9_order_0 : decode cX9_order 0 = .ok (.iload_n 1, 1) := by decide +kernel
theorem dX9_order_1 : decode cX9_order 1 = .ok (.iconst 0, 1) := by decide +kernel
theorem dX9_order_2 : decode cX9_order 2 = .ok (.bipush 8, 2) := by decide +kernel
theorem dX9_order_4 : decode cX9_order 4 = .ok (.invokestatic 105, 3) := by decide +kernel
theorem dX9_order_7 : decode cX9_order 7 = .ok (.ifCond .ne 6, 3) := by decide +kernel
theorem dX9_order_10 : decode cX9_order 10 = .ok (.bipush (-2), 2) := by decide +kernel
theorem dX9_order_12 : decode cX9_order 12 = .ok (.ireturn, 1) := by decide +kernel
theorem dX9_order_13 : decode cX9_order 13 = .ok (.aload_n 0, 1) := by decide +kernel
theorem dX9_order_14 : decode cX9_order 14 = .ok (.getfield 100, 3) := by decide +kernel
theorem dX9_order_17 : decode cX9_order 17 = .ok (.invokevirtual 251, 3) := by decide +kernel
theorem dX9_order_20 : decode cX9_order 20 = .ok (.lstore_n 2, 1) := by decide +kernel
theorem dX9_order_21 : decode cX9_order 21 = .ok (.iload_n 1, 1) := by decide +kernel
theorem dX9_order_22 : decode cX9_order 22 = .ok (.bipush 8, 2) := by decide +kernel
theorem dX9_order_24 : decode cX9_order 24 = .ok (.if_icmp .ne 14, 3) := by decide +kernel
theorem dX9_order_27 : decode cX9_order 27 = .ok (.aload_n 0, 1) := by decide +kernel
theorem dX9_order_28 : decode cX9_order 28 = .ok (.getfield 100, 3) := by decide +kernel
theorem dX9_order_31 : decode cX9_order 31 = .ok (.lload_n 2, 1) := by decide +kernel
theorem dX9_order_32 : decode cX9_order 32 = .ok (.invokevirtual 252, 3) := by decide +kernel
theorem dX9_order_35 : decode cX9_order 35 = .ok (.goto 12, 3) := by decide +kernel
theorem dX9_order_38 : decode cX9_order 38 = .ok (.aload_n 0, 1) := by decide +kernel
theorem dX9_order_39 : decode cX9_order 39 = .ok (.getfield 100, 3) := by decide +kernel
theorem dX9_order_42 : decode cX9_order 42 = .ok (.lload_n 2, 1) := by decide +kernel
theorem dX9_order_43 : decode cX9_order 43 = .ok (.iload_n 1, 1) := by decide +kernel
theorem dX9_order_44 : decode cX9_order 44 = .ok (.invokevirtual 255, 3) := by decide +kernel
theorem dX9_order_47 : decode cX9_order 47 = .ok (.ireturn, 1) := by decide +kernel
set_option maxRecDepth 100000 in
def fX9_order (x1 : Int32) (t_notes_width : Int32) (t_notes_lines : Int32) (t_notes_cells_n : Nat) (t_notes_cells_a : Nat → Int32) (t_sheets_votes_a : Nat → Int32) (t_sheets_keys_a : Nat → Int64) : Option (Int32 × (Nat → Int32) × (Nat → Int64)) :=
  ob (fX9_isWithin x1 0 8) fun r1 =>
  if (b2i r1) = 0 then
    some ((-2), t_sheets_votes_a, t_sheets_keys_a)
  else
    ob3 (fX5_bestKey t_notes_width t_notes_lines t_sheets_votes_a t_sheets_keys_a t_notes_cells_n t_notes_cells_a) fun r4 w5 w6 =>
    if x1 = 8 then
      ob (fX5_quarrelOf r4) fun r11 =>
      some (r11, w5, w6)
    else
      ob (fX5_formAt r4 x1) fun r9 =>
      some (r9, w5, w6)
abbrev rmX9_order : Room := { frames := 3, cells := 0, slots := 0, locals := 74 }
theorem iwX9_order_X9 : ∀ w ∈ u_ws RX9 TX9 17, w ∈ wsX9_order := by decide +kernel
set_option maxHeartbeats 4000000 in
set_option maxRecDepth 100000 in
theorem k_X9_order (l : Launch) (G : va_G) (cI cJ : ClassId) (t_h t_fraction_h t_settings_h t_firstEdges_h t_secondEdges_h t_layers_h t_sights_h t_shadows_h t_heights_h t_pairs_h t_rows_h t_notes_h t_matching_h t_speeds_h t_layering_h t_boards_h t_years_h t_sheets_h t_notes_cells_h t_sheets_votes_h t_sheets_keys_h : Nat) (sz : Nat) (t_notes_width : Int32) (t_notes_most : Int32) (t_notes_lines : Int32) (t_notes_cells_n : Nat) (t_notes_cells_a : Nat → Int32) (t_sheets_votes_a : Nat → Int32) (t_sheets_keys_a : Nat → Int64) (x1 : Int32) {o_r : Int32} {o_t_sheets_votes_a : Nat → Int32} {o_t_sheets_keys_a : Nat → Int64} (hf : fX9_order x1 t_notes_width t_notes_lines t_notes_cells_n t_notes_cells_a t_sheets_votes_a t_sheets_keys_a = some (o_r, o_t_sheets_votes_a, o_t_sheets_keys_a)) : MetI l yX9_order wsX9_order rmX9_order [.ref t_h, .int x1] G cI cJ [(t_h, .inr (9, [.ref t_fraction_h, .ref t_settings_h, .ref t_firstEdges_h, .ref t_secondEdges_h, .ref t_layers_h, .ref t_sights_h, .ref t_shadows_h, .ref t_heights_h, .ref t_pairs_h, .ref t_rows_h, .ref t_notes_h, .ref t_matching_h, .ref t_speeds_h, .ref t_layering_h, .ref t_boards_h, .ref t_years_h, .ref t_sheets_h])), (t_notes_h, .inr (7, [.int t_notes_width, .int t_notes_most, .ref t_notes_cells_h, .int t_notes_lines])), (t_sheets_h, .inr (5, [.ref t_notes_h, .ref t_sheets_votes_h, .ref t_sheets_keys_h])), (t_notes_cells_h, .inl (cI, t_notes_cells_n, .inl t_notes_cells_a)), (t_sheets_votes_h, .inl (cI, 64, .inl t_sheets_votes_a)), (t_sheets_keys_h, .inl (cJ, 256, .inr (.inl t_sheets_keys_a)))] [(t_h, .inr (9, [.ref t_fraction_h, .ref t_settings_h, .ref t_firstEdges_h, .ref t_secondEdges_h, .ref t_layers_h, .ref t_sights_h, .ref t_shadows_h, .ref t_heights_h, .ref t_pairs_h, .ref t_rows_h, .ref t_notes_h, .ref t_matching_h, .ref t_speeds_h, .ref t_layering_h, .ref t_boards_h, .ref t_years_h, .ref t_sheets_h])), (t_notes_h, .inr (7, [.int t_notes_width, .int t_notes_most, .ref t_notes_cells_h, .int t_notes_lines])), (t_sheets_h, .inr (5, [.ref t_notes_h, .ref t_sheets_votes_h, .ref t_sheets_keys_h])), (t_notes_cells_h, .inl (cI, t_notes_cells_n, .inl t_notes_cells_a)), (t_sheets_votes_h, .inl (cI, 64, .inl o_t_sheets_votes_a)), (t_sheets_keys_h, .inl (cJ, 256, .inr (.inl o_t_sheets_keys_a)))] sz o_r := by
  refine en_0 (l := l) (y := yX9_order) (wsl := wsX9_order) (rm := rmX9_order) (av := [.ref t_h, .int x1]) (G := G) (cI := cI) (cJ := cJ) (w0 := [(t_h, .inr (9, [.ref t_fraction_h, .ref t_settings_h, .ref t_firstEdges_h, .ref t_secondEdges_h, .ref t_layers_h, .ref t_sights_h, .ref t_shadows_h, .ref t_heights_h, .ref t_pairs_h, .ref t_rows_h, .ref t_notes_h, .ref t_matching_h, .ref t_speeds_h, .ref t_layering_h, .ref t_boards_h, .ref t_years_h, .ref t_sheets_h])), (t_notes_h, .inr (7, [.int t_notes_width, .int t_notes_most, .ref t_notes_cells_h, .int t_notes_lines])), (t_sheets_h, .inr (5, [.ref t_notes_h, .ref t_sheets_votes_h, .ref t_sheets_keys_h])), (t_notes_cells_h, .inl (cI, t_notes_cells_n, .inl t_notes_cells_a)), (t_sheets_votes_h, .inl (cI, 64, .inl t_sheets_votes_a)), (t_sheets_keys_h, .inl (cJ, 256, .inr (.inl t_sheets_keys_a)))]) (sz := sz) (Qf := fun A => Qi0 G cI cJ [(t_h, .inr (9, [.ref t_fraction_h, .ref t_settings_h, .ref t_firstEdges_h, .ref t_secondEdges_h, .ref t_layers_h, .ref t_sights_h, .ref t_shadows_h, .ref t_heights_h, .ref t_pairs_h, .ref t_rows_h, .ref t_notes_h, .ref t_matching_h, .ref t_speeds_h, .ref t_layering_h, .ref t_boards_h, .ref t_years_h, .ref t_sheets_h])), (t_notes_h, .inr (7, [.int t_notes_width, .int t_notes_most, .ref t_notes_cells_h, .int t_notes_lines])), (t_sheets_h, .inr (5, [.ref t_notes_h, .ref t_sheets_votes_h, .ref t_sheets_keys_h])), (t_notes_cells_h, .inl (cI, t_notes_cells_n, .inl t_notes_cells_a)), (t_sheets_votes_h, .inl (cI, 64, .inl o_t_sheets_votes_a)), (t_sheets_keys_h, .inl (cJ, 256, .inr (.inl o_t_sheets_keys_a)))] o_r A) (cc := cX9_order) (maxL := 4) (ret := (some .int)) RX9 (by decide +kernel) rfl rfl (Nat.le_of_ble_eq_true rfl) ?_
  intro p e s m args below meth c A ls Q hQ hx hb hr hts hown hlocks hml hN hK hP hD hS hA hl
  have hl : lv_has ls 4 [(0, .ref t_h), (1, .int x1)] := hl
  have iwX9 := iwX9_order_X9
  have fl_100 := hts (.fieldLink RX9 100 "CloudOffice" "sheets" "LCloudOffice$Sheets;") (by decide +kernel)
  have hret : ∀ (o_r9 : Int32) (o_t_sheets_votes_a9 : Nat → Int32) (o_t_sheets_keys_a9 : Nat → Int64) (pc : Nat) (H : Heap) (locs : List Loc) (ls : Array Slot), decode cX9_order pc = .ok (.ireturn, 1) → some (o_r9, o_t_sheets_votes_a9, o_t_sheets_keys_a9) = some (o_r, o_t_sheets_votes_a, o_t_sheets_keys_a) → va_P G vwCl [(t_h, .inr (9, [.ref t_fraction_h, .ref t_settings_h, .ref t_firstEdges_h, .ref t_secondEdges_h, .ref t_layers_h, .ref t_sights_h, .ref t_shadows_h, .ref t_heights_h, .ref t_pairs_h, .ref t_rows_h, .ref t_notes_h, .ref t_matching_h, .ref t_speeds_h, .ref t_layering_h, .ref t_boards_h, .ref t_years_h, .ref t_sheets_h])), (t_notes_h, .inr (7, [.int t_notes_width, .int t_notes_most, .ref t_notes_cells_h, .int t_notes_lines])), (t_sheets_h, .inr (5, [.ref t_notes_h, .ref t_sheets_votes_h, .ref t_sheets_keys_h])), (t_notes_cells_h, .inl (cI, t_notes_cells_n, .inl t_notes_cells_a)), (t_sheets_votes_h, .inl (cI, 64, .inl o_t_sheets_votes_a9)), (t_sheets_keys_h, .inl (cJ, 256, .inr (.inl o_t_sheets_keys_a9)))] H → va_D A [(t_h, .inr (9, [.ref t_fraction_h, .ref t_settings_h, .ref t_firstEdges_h, .ref t_secondEdges_h, .ref t_layers_h, .ref t_sights_h, .ref t_shadows_h, .ref t_heights_h, .ref t_pairs_h, .ref t_rows_h, .ref t_notes_h, .ref t_matching_h, .ref t_speeds_h, .ref t_layering_h, .ref t_boards_h, .ref t_years_h, .ref t_sheets_h])), (t_notes_h, .inr (7, [.int t_notes_width, .int t_notes_most, .ref t_notes_cells_h, .int t_notes_lines])), (t_sheets_h, .inr (5, [.ref t_notes_h, .ref t_sheets_votes_h, .ref t_sheets_keys_h])), (t_notes_cells_h, .inl (cI, t_notes_cells_n, .inl t_notes_cells_a)), (t_sheets_votes_h, .inl (cI, 64, .inl o_t_sheets_votes_a9)), (t_sheets_keys_h, .inl (cJ, 256, .inr (.inl o_t_sheets_keys_a9)))] → va_S A s.heap H locs → W p l e rmX9_order s m args below meth c H locs 0 0 Q (F0 m pc ls [.int o_r9]) := by
    intro o_r9 o_t_sheets_votes_a9 o_t_sheets_keys_a9 pc H locs ls hdg he hP hD hS
    cases he
    subst hQ
    exact rt_i hx hb hr hlocks hK hP hD hS rfl hdg
  clear hQ
  unfold fX9_order at hf
  refine lv_iload_n hx hb dX9_order_0 rfl (lv_at hl 1 rfl) ?_
  refine lv_iconst (v := 0) hx hb dX9_order_1 (by decide) ?_
  refine lv_bipush (v := 8) hx hb dX9_order_2 (by decide) ?_
  obtain ⟨r1, hc2, hf⟩ := ob_some hf
  refine af_iR (va_runS (As := [.int x1, .int 0, .int 8]) (rest := []) ⟨hx, hb, hml, hown, hts⟩ (k_X9_isWithin l G cI cJ (x0 := x1) (x1 := 0) (x2 := 8) (sz := _) (hf := hc2)) (va_cwS 3 hts gX9_order_X9_isWithin rfl rfl rfl (by decide +kernel) ⟨Nat.le_of_ble_eq_true rfl, Nat.le_of_ble_eq_true rfl⟩) (preS0 (wc := []) hK hP hD hN [] rfl rfl (by decide)) rfl rfl hl.1 rfl (lv_room (Nat.le_of_ble_eq_true rfl)) dX9_order_4 ⟨Nat.zero_le _, Nat.zero_le _⟩) hP hD hS hA [] rfl (fun H locs hP hS => ?_)
  refine lv_if_ne (tgt := 13) hx hb dX9_order_7 (by decide) (fun c3 => ?_) (fun c3 => ?_)
  · have hf := iff_ hf c3
    refine lv_aload_n hx hb dX9_order_13 rfl (lv_at hl 0 rfl) ?_
    refine va_get (D := G) (ci := 9) (v := .ref t_sheets_h) (C := RX9) (T := TX9) (N := 17) hx hb hts iwX9 hown hK hP 0 rfl rfl 16 (by decide) fl_100 (fun _ h9 => h9) rfl dX9_order_14 ?_
    obtain ⟨r4, w5, w6, hc7, hf⟩ := ob3_some hf
    refine af_lW (wr := [(t_h, .inr (9, [.ref t_fraction_h, .ref t_settings_h, .ref t_firstEdges_h, .ref t_secondEdges_h, .ref t_layers_h, .ref t_sights_h, .ref t_shadows_h, .ref t_heights_h, .ref t_pairs_h, .ref t_rows_h, .ref t_notes_h, .ref t_matching_h, .ref t_speeds_h, .ref t_layering_h, .ref t_boards_h, .ref t_years_h, .ref t_sheets_h]))]) (ws2 := [(t_h, .inr (9, [.ref t_fraction_h, .ref t_settings_h, .ref t_firstEdges_h, .ref t_secondEdges_h, .ref t_layers_h, .ref t_sights_h, .ref t_shadows_h, .ref t_heights_h, .ref t_pairs_h, .ref t_rows_h, .ref t_notes_h, .ref t_matching_h, .ref t_speeds_h, .ref t_layering_h, .ref t_boards_h, .ref t_years_h, .ref t_sheets_h])), (t_notes_h, .inr (7, [.int t_notes_width, .int t_notes_most, .ref t_notes_cells_h, .int t_notes_lines])), (t_sheets_h, .inr (5, [.ref t_notes_h, .ref t_sheets_votes_h, .ref t_sheets_keys_h])), (t_notes_cells_h, .inl (cI, t_notes_cells_n, .inl t_notes_cells_a)), (t_sheets_votes_h, .inl (cI, 64, .inl w5)), (t_sheets_keys_h, .inl (cJ, 256, .inr (.inl w6)))]) (va_runV (As := []) (rest := []) ⟨hx, hb, hml, hown, hts⟩ (k_X5_bestKey l G cI cJ (t_h := t_sheets_h) (t_notes_h := t_notes_h) (t_votes_h := t_sheets_votes_h) (t_keys_h := t_sheets_keys_h) (t_notes_cells_h := t_notes_cells_h) (t_notes_width := t_notes_width) (t_notes_most := t_notes_most) (t_notes_lines := t_notes_lines) (t_votes_a := t_sheets_votes_a) (t_keys_a := t_sheets_keys_a) (t_notes_cells_n := t_notes_cells_n) (t_notes_cells_a := t_notes_cells_a) (sz := _) (hf := hc7)) (cwV 0 hts gX9_order_X5_bestKey rfl rfl rfl (by decide +kernel) ⟨Nat.le_of_ble_eq_true rfl, Nat.le_of_ble_eq_true rfl⟩) (preV0 (ci := 5) (q0 := 0) (C := RX5) (wc := [(t_sheets_h, .inr (5, [.ref t_notes_h, .ref t_sheets_votes_h, .ref t_sheets_keys_h])), (t_notes_h, .inr (7, [.int t_notes_width, .int t_notes_most, .ref t_notes_cells_h, .int t_notes_lines])), (t_sheets_votes_h, .inl (cI, 64, .inl t_sheets_votes_a)), (t_sheets_keys_h, .inl (cJ, 256, .inr (.inl t_sheets_keys_a))), (t_notes_cells_h, .inl (cI, t_notes_cells_n, .inl t_notes_cells_a))]) hK hP hD hN [2, 1, 4, 5, 3] rfl rfl (by decide) rfl rfl) rfl rfl hl.1 rfl (lv_room (Nat.le_of_ble_eq_true rfl)) dX9_order_17 ⟨Nat.zero_le _, Nat.zero_le _⟩) hP hD hS hA [2, 1, 4, 5, 3] [0] [0, 2, 1, 5, 3, 4] rfl rfl (by decide) (by decide) rfl rfl (by decide) (fun H locs hP hD hS => ?_)
    refine lv_lstore_n (lv' := [(2, .long r4), (0, .ref t_h), (1, .int x1)]) hx hb dX9_order_20 rfl hl (by decide) rfl (fun ls hl => ?_)
    refine lv_iload_n hx hb dX9_order_21 rfl (lv_at hl 2 rfl) ?_
    refine lv_bipush (v := 8) hx hb dX9_order_22 (by decide) ?_
    refine lv_icmp_ne (tgt := 38) hx hb dX9_order_24 (by decide) (fun c8 => ?_) (fun c8 => ?_)
    · have hf := iff_ hf c8
      refine lv_aload_n hx hb dX9_order_38 rfl (lv_at hl 1 rfl) ?_
      refine va_get (D := G) (ci := 9) (v := .ref t_sheets_h) (C := RX9) (T := TX9) (N := 17) hx hb hts iwX9 hown hK hP 0 rfl rfl 16 (by decide) fl_100 (fun _ h9 => h9) rfl dX9_order_39 ?_
      refine lv_lload_n hx hb dX9_order_42 rfl (lv_at hl 0 rfl) ?_
      refine lv_iload_n hx hb dX9_order_43 rfl (lv_at hl 2 rfl) ?_
      obtain ⟨r9, hc10, hf⟩ := ob_some hf
      refine af_iR (va_runV (As := [.long r4, .int x1]) (rest := []) ⟨hx, hb, hml, hown, hts⟩ (k_X5_formAt l G cI cJ (t_h := t_sheets_h) (t_notes_h := t_notes_h) (t_votes_h := t_sheets_votes_h) (t_keys_h := t_sheets_keys_h) (x1 := r4) (x3 := x1) (sz := _) (hf := hc10)) (cwV 2 hts gX9_order_X5_formAt rfl rfl rfl (by decide +kernel) ⟨Nat.le_of_ble_eq_true rfl, Nat.le_of_ble_eq_true rfl⟩) (preV0 (ci := 5) (q0 := 0) (C := RX5) (wc := [(t_sheets_h, .inr (5, [.ref t_notes_h, .ref t_sheets_votes_h, .ref t_sheets_keys_h]))]) hK hP hD hN [2] rfl rfl (by decide) rfl rfl) rfl rfl hl.1 rfl (lv_room (Nat.le_of_ble_eq_true rfl)) dX9_order_44 ⟨Nat.zero_le _, Nat.zero_le _⟩) hP hD hS hA [2] rfl (fun H locs hP hS => ?_)
      exact hret r9 w5 w6 47 _ _ _ dX9_order_47 hf hP hD hS
    · have hf := ift hf c8
      refine lv_aload_n hx hb dX9_order_27 rfl (lv_at hl 1 rfl) ?_
      refine va_get (D := G) (ci := 9) (v := .ref t_sheets_h) (C := RX9) (T := TX9) (N := 17) hx hb hts iwX9 hown hK hP 0 rfl rfl 16 (by decide) fl_100 (fun _ h9 => h9) rfl dX9_order_28 ?_
      refine lv_lload_n hx hb dX9_order_31 rfl (lv_at hl 0 rfl) ?_
      obtain ⟨r11, hc12, hf⟩ := ob_some hf
      refine af_iR (va_runV (As := [.long r4]) (rest := []) ⟨hx, hb, hml, hown, hts⟩ (k_X5_quarrelOf l G cI cJ (t_h := t_sheets_h) (t_notes_h := t_notes_h) (t_votes_h := t_sheets_votes_h) (t_keys_h := t_sheets_keys_h) (x1 := r4) (sz := _) (hf := hc12)) (cwV 1 hts gX9_order_X5_quarrelOf rfl rfl rfl (by decide +kernel) ⟨Nat.le_of_ble_eq_true rfl, Nat.le_of_ble_eq_true rfl⟩) (preV0 (ci := 5) (q0 := 0) (C := RX5) (wc := [(t_sheets_h, .inr (5, [.ref t_notes_h, .ref t_sheets_votes_h, .ref t_sheets_keys_h]))]) hK hP hD hN [2] rfl rfl (by decide) rfl rfl) rfl rfl hl.1 rfl (lv_room (Nat.le_of_ble_eq_true rfl)) dX9_order_32 ⟨Nat.zero_le _, Nat.zero_le _⟩) hP hD hS hA [2] rfl (fun H locs hP hS => ?_)
      refine lv_goto (tgt := 47) hx hb dX9_order_35 (by decide) ?_
      exact hret r11 w5 w6 47 _ _ _ dX9_order_47 hf hP hD hS
  · have hf := ift hf c3
    refine lv_bipush (v := (-2)) hx hb dX9_order_10 (by decide) ?_
    exact hret (-2) t_sheets_votes_a t_sheets_keys_a 12 _ _ _ dX9_order_12 hf hP hD hS
set_option maxRecDepth 20000 in
theorem ggX9_count_X7_size : GoodIn wsX9_count wsX7_size := goodIn_r _ [14, 15, 33, 34, 35, 36] (by decide +kernel) (by decide +kernel)
set_option maxRecDepth 20000 in
theorem gX9_count_X7_size : GoodIn wsX9_count (wsV RX9 258 RX7 yX7_size wsX7_size) := goodIn_app (goodIn_of _ (by decide +kernel)) ggX9_count_X7_size
theorem dX9_count_0 : decode cX9_count 0 = .ok (.iload_n 1, 1) := by decide +kernel
theorem dX9_count_1 : decode cX9_count 1 = .ok (.tableswitch 123 0 8 #[51, 59, 67, 75, 83, 91, 99, 107, 115], 51) := by decide +kernel
theorem dX9_count_52 : decode cX9_count 52 = .ok (.aload_n 0, 1) := by decide +kernel
theorem dX9_count_53 : decode cX9_count 53 = .ok (.getfield 28, 3) := by decide +kernel
theorem dX9_count_56 : decode cX9_count 56 = .ok (.invokevirtual 258, 3) := by decide +kernel
theorem dX9_count_59 : decode cX9_count 59 = .ok (.ireturn, 1) := by decide +kernel
theorem dX9_count_60 : decode cX9_count 60 = .ok (.aload_n 0, 1) := by decide +kernel
theorem dX9_count_61 : decode cX9_count 61 = .ok (.getfield 32, 3) := by decide +kernel
theorem dX9_count_64 : decode cX9_count 64 = .ok (.invokevirtual 258, 3) := by decide +kernel
theorem dX9_count_67 : decode cX9_count 67 = .ok (.ireturn, 1) := by decide +kernel
theorem dX9_count_68 : decode cX9_count 68 = .ok (.aload_n 0, 1) := by decide +kernel
theorem dX9_count_69 : decode cX9_count 69 = .ok (.getfield 35, 3) := by decide +kernel
theorem dX9_count_72 : decode cX9_count 72 = .ok (.invokevirtual 258, 3) := by decide +kernel
theorem dX9_count_75 : decode cX9_count 75 = .ok (.ireturn, 1) := by decide +kernel
theorem dX9_count_76 : decode cX9_count 76 = .ok (.aload_n 0, 1) := by decide +kernel
theorem dX9_count_77 : decode cX9_count 77 = .ok (.getfield 38, 3) := by decide +kernel
theorem dX9_count_80 : decode cX9_count 80 = .ok (.invokevirtual 258, 3) := by decide +kernel
theorem dX9_count_83 : decode cX9_count 83 = .ok (.ireturn, 1) := by decide +kernel
theorem dX9_count_84 : decode cX9_count 84 = .ok (.aload_n 0, 1) := by decide +kernel
theorem dX9_count_85 : decode cX9_count 85 = .ok (.getfield 41, 3) := by decide +kernel
theorem dX9_count_88 : decode cX9_count 88 = .ok (.invokevirtual 258, 3) := by decide +kernel
theorem dX9_count_91 : decode cX9_count 91 = .ok (.ireturn, 1) := by decide +kernel
theorem dX9_count_92 : decode cX9_count 92 = .ok (.aload_n 0, 1) := by decide +kernel
theorem dX9_count_93 : decode cX9_count 93 = .ok (.getfield 44, 3) := by decide +kernel
theorem dX9_count_96 : decode cX9_count 96 = .ok (.invokevirtual 258, 3) := by decide +kernel
theorem dX9_count_99 : decode cX9_count 99 = .ok (.ireturn, 1) := by decide +kernel
theorem dX9_count_100 : decode cX9_count 100 = .ok (.aload_n 0, 1) := by decide +kernel
theorem dX9_count_101 : decode cX9_count 101 = .ok (.getfield 47, 3) := by decide +kernel
theorem dX9_count_104 : decode cX9_count 104 = .ok (.invokevirtual 258, 3) := by decide +kernel
theorem dX9_count_107 : decode cX9_count 107 = .ok (.ireturn, 1) := by decide +kernel
theorem dX9_count_108 : decode cX9_count 108 = .ok (.aload_n 0, 1) := by decide +kernel
theorem dX9_count_109 : decode cX9_count 109 = .ok (.getfield 50, 3) := by decide +kernel
theorem dX9_count_112 : decode cX9_count 112 = .ok (.invokevirtual 258, 3) := by decide +kernel
theorem dX9_count_115 : decode cX9_count 115 = .ok (.ireturn, 1) := by decide +kernel
theorem dX9_count_116 : decode cX9_count 116 = .ok (.aload_n 0, 1) := by decide +kernel
theorem dX9_count_117 : decode cX9_count 117 = .ok (.getfield 53, 3) := by decide +kernel
theorem dX9_count_120 : decode cX9_count 120 = .ok (.invokevirtual 258, 3) := by decide +kernel
theorem dX9_count_123 : decode cX9_count 123 = .ok (.ireturn, 1) := by decide +kernel
theorem dX9_count_124 : decode cX9_count 124 = .ok (.bipush (-2), 2) := by decide +kernel
theorem dX9_count_126 : decode cX9_count 126 = .ok (.ireturn, 1) := by decide +kernel
set_option maxRecDepth 100000 in
def fX9_count (x1 : Int32) (t_firstEdges_lines : Int32) (t_secondEdges_lines : Int32) (t_layers_lines : Int32) (t_sights_lines : Int32) (t_shadows_lines : Int32) (t_heights_lines : Int32) (t_pairs_lines : Int32) (t_rows_lines : Int32) (t_notes_lines : Int32) : Option (Int32) :=
  if x1 = 0 then
    ob (fX7_size t_firstEdges_lines) fun r2 =>
    some r2
  else
  if x1 = 1 then
    ob (fX7_size t_secondEdges_lines) fun r5 =>
    some r5
  else
  if x1 = 2 then
    ob (fX7_size t_layers_lines) fun r8 =>
    some r8
  else
  if x1 = 3 then
    ob (fX7_size t_sights_lines) fun r11 =>
    some r11
  else
  if x1 = 4 then
    ob (fX7_size t_shadows_lines) fun r14 =>
    some r14
  else
  if x1 = 5 then
    ob (fX7_size t_heights_lines) fun r17 =>
    some r17
  else
  if x1 = 6 then
    ob (fX7_size t_pairs_lines) fun r20 =>
    some r20
  else
  if x1 = 7 then
    ob (fX7_size t_rows_lines) fun r23 =>
    some r23
  else
  if x1 = 8 then
    ob (fX7_size t_notes_lines) fun r26 =>
    some r26
  else
  some (-2)
abbrev rmX9_count : Room := { frames := 1, cells := 0, slots := 0, locals := 20 }
theorem iwX9_count_X9 : ∀ w ∈ u_ws RX9 TX9 17, w ∈ wsX9_count := by decide +kernel
set_option maxHeartbeats 4000000 in
set_option maxRecDepth 100000 in
theorem k_X9_count (l : Launch) (G : va_G) (cI cJ : ClassId) (t_h t_fraction_h t_settings_h t_firstEdges_h t_secondEdges_h t_layers_h t_sights_h t_shadows_h t_heights_h t_pairs_h t_rows_h t_notes_h t_matching_h t_speeds_h t_layering_h t_boards_h t_years_h t_sheets_h t_firstEdges_cells_h t_secondEdges_cells_h t_layers_cells_h t_sights_cells_h t_shadows_cells_h t_heights_cells_h t_pairs_cells_h t_rows_cells_h t_notes_cells_h : Nat) (sz : Nat) (t_firstEdges_width : Int32) (t_firstEdges_most : Int32) (t_firstEdges_lines : Int32) (t_secondEdges_width : Int32) (t_secondEdges_most : Int32) (t_secondEdges_lines : Int32) (t_layers_width : Int32) (t_layers_most : Int32) (t_layers_lines : Int32) (t_sights_width : Int32) (t_sights_most : Int32) (t_sights_lines : Int32) (t_shadows_width : Int32) (t_shadows_most : Int32) (t_shadows_lines : Int32) (t_heights_width : Int32) (t_heights_most : Int32) (t_heights_lines : Int32) (t_pairs_width : Int32) (t_pairs_most : Int32) (t_pairs_lines : Int32) (t_rows_width : Int32) (t_rows_most : Int32) (t_rows_lines : Int32) (t_notes_width : Int32) (t_notes_most : Int32) (t_notes_lines : Int32) (x1 : Int32) {o_r : Int32} (hf : fX9_count x1 t_firstEdges_lines t_secondEdges_lines t_layers_lines t_sights_lines t_shadows_lines t_heights_lines t_pairs_lines t_rows_lines t_notes_lines = some o_r) : MetI l yX9_count wsX9_count rmX9_count [.ref t_h, .int x1] G cI cJ [(t_h, .inr (9, [.ref t_fraction_h, .ref t_settings_h, .ref t_firstEdges_h, .ref t_secondEdges_h, .ref t_layers_h, .ref t_sights_h, .ref t_shadows_h, .ref t_heights_h, .ref t_pairs_h, .ref t_rows_h, .ref t_notes_h, .ref t_matching_h, .ref t_speeds_h, .ref t_layering_h, .ref t_boards_h, .ref t_years_h, .ref t_sheets_h])), (t_firstEdges_h, .inr (7, [.int t_firstEdges_width, .int t_firstEdges_most, .ref t_firstEdges_cells_h, .int t_firstEdges_lines])), (t_secondEdges_h, .inr (7, [.int t_secondEdges_width, .int t_secondEdges_most, .ref t_secondEdges_cells_h, .int t_secondEdges_lines])), (t_layers_h, .inr (7, [.int t_layers_width, .int t_layers_most, .ref t_layers_cells_h, .int t_layers_lines])), (t_sights_h, .inr (7, [.int t_sights_width, .int t_sights_most, .ref t_sights_cells_h, .int t_sights_lines])), (t_shadows_h, .inr (7, [.int t_shadows_width, .int t_shadows_most, .ref t_shadows_cells_h, .int t_shadows_lines])), (t_heights_h, .inr (7, [.int t_heights_width, .int t_heights_most, .ref t_heights_cells_h, .int t_heights_lines])), (t_pairs_h, .inr (7, [.int t_pairs_width, .int t_pairs_most, .ref t_pairs_cells_h, .int t_pairs_lines])), (t_rows_h, .inr (7, [.int t_rows_width, .int t_rows_most, .ref t_rows_cells_h, .int t_rows_lines])), (t_notes_h, .inr (7, [.int t_notes_width, .int t_notes_most, .ref t_notes_cells_h, .int t_notes_lines]))] [(t_h, .inr (9, [.ref t_fraction_h, .ref t_settings_h, .ref t_firstEdges_h, .ref t_secondEdges_h, .ref t_layers_h, .ref t_sights_h, .ref t_shadows_h, .ref t_heights_h, .ref t_pairs_h, .ref t_rows_h, .ref t_notes_h, .ref t_matching_h, .ref t_speeds_h, .ref t_layering_h, .ref t_boards_h, .ref t_years_h, .ref t_sheets_h])), (t_firstEdges_h, .inr (7, [.int t_firstEdges_width, .int t_firstEdges_most, .ref t_firstEdges_cells_h, .int t_firstEdges_lines])), (t_secondEdges_h, .inr (7, [.int t_secondEdges_width, .int t_secondEdges_most, .ref t_secondEdges_cells_h, .int t_secondEdges_lines])), (t_layers_h, .inr (7, [.int t_layers_width, .int t_layers_most, .ref t_layers_cells_h, .int t_layers_lines])), (t_sights_h, .inr (7, [.int t_sights_width, .int t_sights_most, .ref t_sights_cells_h, .int t_sights_lines])), (t_shadows_h, .inr (7, [.int t_shadows_width, .int t_shadows_most, .ref t_shadows_cells_h, .int t_shadows_lines])), (t_heights_h, .inr (7, [.int t_heights_width, .int t_heights_most, .ref t_heights_cells_h, .int t_heights_lines])), (t_pairs_h, .inr (7, [.int t_pairs_width, .int t_pairs_most, .ref t_pairs_cells_h, .int t_pairs_lines])), (t_rows_h, .inr (7, [.int t_rows_width, .int t_rows_most, .ref t_rows_cells_h, .int t_rows_lines])), (t_notes_h, .inr (7, [.int t_notes_width, .int t_notes_most, .ref t_notes_cells_h, .int t_notes_lines]))] sz o_r := by
  refine en_0 (l := l) (y := yX9_count) (wsl := wsX9_count) (rm := rmX9_count) (av := [.ref t_h, .int x1]) (G := G) (cI := cI) (cJ := cJ) (w0 := [(t_h, .inr (9, [.ref t_fraction_h, .ref t_settings_h, .ref t_firstEdges_h, .ref t_secondEdges_h, .ref t_layers_h, .ref t_sights_h, .ref t_shadows_h, .ref t_heights_h, .ref t_pairs_h, .ref t_rows_h, .ref t_notes_h, .ref t_matching_h, .ref t_speeds_h, .ref t_layering_h, .ref t_boards_h, .ref t_years_h, .ref t_sheets_h])), (t_firstEdges_h, .inr (7, [.int t_firstEdges_width, .int t_firstEdges_most, .ref t_firstEdges_cells_h, .int t_firstEdges_lines])), (t_secondEdges_h, .inr (7, [.int t_secondEdges_width, .int t_secondEdges_most, .ref t_secondEdges_cells_h, .int t_secondEdges_lines])), (t_layers_h, .inr (7, [.int t_layers_width, .int t_layers_most, .ref t_layers_cells_h, .int t_layers_lines])), (t_sights_h, .inr (7, [.int t_sights_width, .int t_sights_most, .ref t_sights_cells_h, .int t_sights_lines])), (t_shadows_h, .inr (7, [.int t_shadows_width, .int t_shadows_most, .ref t_shadows_cells_h, .int t_shadows_lines])), (t_heights_h, .inr (7, [.int t_heights_width, .int t_heights_most, .ref t_heights_cells_h, .int t_heights_lines])), (t_pairs_h, .inr (7, [.int t_pairs_width, .int t_pairs_most, .ref t_pairs_cells_h, .int t_pairs_lines])), (t_rows_h, .inr (7, [.int t_rows_width, .int t_rows_most, .ref t_rows_cells_h, .int t_rows_lines])), (t_notes_h, .inr (7, [.int t_notes_width, .int t_notes_most, .ref t_notes_cells_h, .int t_notes_lines]))]) (sz := sz) (Qf := fun A => Qi0 G cI cJ [(t_h, .inr (9, [.ref t_fraction_h, .ref t_settings_h, .ref t_firstEdges_h, .ref t_secondEdges_h, .ref t_layers_h, .ref t_sights_h, .ref t_shadows_h, .ref t_heights_h, .ref t_pairs_h, .ref t_rows_h, .ref t_notes_h, .ref t_matching_h, .ref t_speeds_h, .ref t_layering_h, .ref t_boards_h, .ref t_years_h, .ref t_sheets_h])), (t_firstEdges_h, .inr (7, [.int t_firstEdges_width, .int t_firstEdges_most, .ref t_firstEdges_cells_h, .int t_firstEdges_lines])), (t_secondEdges_h, .inr (7, [.int t_secondEdges_width, .int t_secondEdges_most, .ref t_secondEdges_cells_h, .int t_secondEdges_lines])), (t_layers_h, .inr (7, [.int t_layers_width, .int t_layers_most, .ref t_layers_cells_h, .int t_layers_lines])), (t_sights_h, .inr (7, [.int t_sights_width, .int t_sights_most, .ref t_sights_cells_h, .int t_sights_lines])), (t_shadows_h, .inr (7, [.int t_shadows_width, .int t_shadows_most, .ref t_shadows_cells_h, .int t_shadows_lines])), (t_heights_h, .inr (7, [.int t_heights_width, .int t_heights_most, .ref t_heights_cells_h, .int t_heights_lines])), (t_pairs_h, .inr (7, [.int t_pairs_width, .int t_pairs_most, .ref t_pairs_cells_h, .int t_pairs_lines])), (t_rows_h, .inr (7, [.int t_rows_width, .int t_rows_most, .ref t_rows_cells_h, .int t_rows_lines])), (t_notes_h, .inr (7, [.int t_notes_width, .int t_notes_most, .ref t_notes_cells_h, .int t_notes_lines]))] o_r A) (cc := cX9_count) (maxL := 2) (ret := (some .int)) RX9 (by decide +kernel) rfl rfl (Nat.le_of_ble_eq_true rfl) ?_
  intro p e s m args below meth c A ls Q hQ hx hb hr hts hown hlocks hml hN hK hP hD hS hA hl
  have hl : lv_has ls 2 [(0, .ref t_h), (1, .int x1)] := hl
  have iwX9 := iwX9_count_X9
  have fl_28 := hts (.fieldLink RX9 28 "CloudOffice" "firstEdges" "LCloudOffice$Table;") (by decide +kernel)
  have fl_32 := hts (.fieldLink RX9 32 "CloudOffice" "secondEdges" "LCloudOffice$Table;") (by decide +kernel)
  have fl_35 := hts (.fieldLink RX9 35 "CloudOffice" "layers" "LCloudOffice$Table;") (by decide +kernel)
  have fl_38 := hts (.fieldLink RX9 38 "CloudOffice" "sights" "LCloudOffice$Table;") (by decide +kernel)
  have fl_41 := hts (.fieldLink RX9 41 "CloudOffice" "shadows" "LCloudOffice$Table;") (by decide +kernel)
  have fl_44 := hts (.fieldLink RX9 44 "CloudOffice" "heights" "LCloudOffice$Table;") (by decide +kernel)
  have fl_47 := hts (.fieldLink RX9 47 "CloudOffice" "pairs" "LCloudOffice$Table;") (by decide +kernel)
  have fl_50 := hts (.fieldLink RX9 50 "CloudOffice" "rows" "LCloudOffice$Table;") (by decide +kernel)
  have fl_53 := hts (.fieldLink RX9 53 "CloudOffice" "notes" "LCloudOffice$Table;") (by decide +kernel)
  have hret : ∀ (o_r9 : Int32) (pc : Nat) (H : Heap) (locs : List Loc) (ls : Array Slot), decode cX9_count pc = .ok (.ireturn, 1) → some o_r9 = some o_r → va_P G vwCl [(t_h, .inr (9, [.ref t_fraction_h, .ref t_settings_h, .ref t_firstEdges_h, .ref t_secondEdges_h, .ref t_layers_h, .ref t_sights_h, .ref t_shadows_h, .ref t_heights_h, .ref t_pairs_h, .ref t_rows_h, .ref t_notes_h, .ref t_matching_h, .ref t_speeds_h, .ref t_layering_h, .ref t_boards_h, .ref t_years_h, .ref t_sheets_h])), (t_firstEdges_h, .inr (7, [.int t_firstEdges_width, .int t_firstEdges_most, .ref t_firstEdges_cells_h, .int t_firstEdges_lines])), (t_secondEdges_h, .inr (7, [.int t_secondEdges_width, .int t_secondEdges_most, .ref t_secondEdges_cells_h, .int t_secondEdges_lines])), (t_layers_h, .inr (7, [.int t_layers_width, .int t_layers_most, .ref t_layers_cells_h, .int t_layers_lines])), (t_sights_h, .inr (7, [.int t_sights_width, .int t_sights_most, .ref t_sights_cells_h, .int t_sights_lines])), (t_shadows_h, .inr (7, [.int t_shadows_width, .int t_shadows_most, .ref t_shadows_cells_h, .int t_shadows_lines])), (t_heights_h, .inr (7, [.int t_heights_width, .int t_heights_most, .ref t_heights_cells_h, .int t_heights_lines])), (t_pairs_h, .inr (7, [.int t_pairs_width, .int t_pairs_most, .ref t_pairs_cells_h, .int t_pairs_lines])), (t_rows_h, .inr (7, [.int t_rows_width, .int t_rows_most, .ref t_rows_cells_h, .int t_rows_lines])), (t_notes_h, .inr (7, [.int t_notes_width, .int t_notes_most, .ref t_notes_cells_h, .int t_notes_lines]))] H → va_D A [(t_h, .inr (9, [.ref t_fraction_h, .ref t_settings_h, .ref t_firstEdges_h, .ref t_secondEdges_h, .ref t_layers_h, .ref t_sights_h, .ref t_shadows_h, .ref t_heights_h, .ref t_pairs_h, .ref t_rows_h, .ref t_notes_h, .ref t_matching_h, .ref t_speeds_h, .ref t_layering_h, .ref t_boards_h, .ref t_years_h, .ref t_sheets_h])), (t_firstEdges_h, .inr (7, [.int t_firstEdges_width, .int t_firstEdges_most, .ref t_firstEdges_cells_h, .int t_firstEdges_lines])), (t_secondEdges_h, .inr (7, [.int t_secondEdges_width, .int t_secondEdges_most, .ref t_secondEdges_cells_h, .int t_secondEdges_lines])), (t_layers_h, .inr (7, [.int t_layers_width, .int t_layers_most, .ref t_layers_cells_h, .int t_layers_lines])), (t_sights_h, .inr (7, [.int t_sights_width, .int t_sights_most, .ref t_sights_cells_h, .int t_sights_lines])), (t_shadows_h, .inr (7, [.int t_shadows_width, .int t_shadows_most, .ref t_shadows_cells_h, .int t_shadows_lines])), (t_heights_h, .inr (7, [.int t_heights_width, .int t_heights_most, .ref t_heights_cells_h, .int t_heights_lines])), (t_pairs_h, .inr (7, [.int t_pairs_width, .int t_pairs_most, .ref t_pairs_cells_h, .int t_pairs_lines])), (t_rows_h, .inr (7, [.int t_rows_width, .int t_rows_most, .ref t_rows_cells_h, .int t_rows_lines])), (t_notes_h, .inr (7, [.int t_notes_width, .int t_notes_most, .ref t_notes_cells_h, .int t_notes_lines]))] → va_S A s.heap H locs → W p l e rmX9_count s m args below meth c H locs 0 0 Q (F0 m pc ls [.int o_r9]) := by
    intro o_r9 pc H locs ls hdg he hP hD hS
    cases he
    subst hQ
    exact rt_i hx hb hr hlocks hK hP hD hS rfl hdg
  clear hQ
  unfold fX9_count at hf
  refine lv_iload_n hx hb dX9_count_0 rfl (lv_at hl 1 rfl) ?_
  by_cases c1 : x1 = 0
  · have hf := ift hf c1
    refine lv_tableIn (off := 51) (tgt := 52) hx hb dX9_count_1 (by rw [c1]; decide) (by rw [c1]; decide) (by rw [c1]; rfl) (by decide) ?_
    refine lv_aload_n hx hb dX9_count_52 rfl (lv_at hl 0 rfl) ?_
    refine va_get (D := G) (ci := 9) (v := .ref t_firstEdges_h) (C := RX9) (T := TX9) (N := 17) hx hb hts iwX9 hown hK hP 0 rfl rfl 2 (by decide) fl_28 (fun _ h9 => h9) rfl dX9_count_53 ?_
    obtain ⟨r2, hc3, hf⟩ := ob_some hf
    refine af_iR (va_runV (As := []) (rest := []) ⟨hx, hb, hml, hown, hts⟩ (k_X7_size l G cI cJ (t_h := t_firstEdges_h) (t_cells_h := t_firstEdges_cells_h) (t_width := t_firstEdges_width) (t_most := t_firstEdges_most) (t_lines := t_firstEdges_lines) (sz := _) (hf := hc3)) (cwV 0 hts gX9_count_X7_size rfl rfl rfl (by decide +kernel) ⟨Nat.le_of_ble_eq_true rfl, Nat.le_of_ble_eq_true rfl⟩) (preV0 (ci := 7) (q0 := 0) (C := RX7) (wc := [(t_firstEdges_h, .inr (7, [.int t_firstEdges_width, .int t_firstEdges_most, .ref t_firstEdges_cells_h, .int t_firstEdges_lines]))]) hK hP hD hN [1] rfl rfl (by decide) rfl rfl) rfl rfl hl.1 rfl (lv_room (Nat.le_of_ble_eq_true rfl)) dX9_count_56 ⟨Nat.zero_le _, Nat.zero_le _⟩) hP hD hS hA [1] rfl (fun H locs hP hS => ?_)
    exact hret r2 59 _ _ _ dX9_count_59 hf hP hD hS
  have hf := iff_ hf c1
  by_cases c4 : x1 = 1
  · have hf := ift hf c4
    refine lv_tableIn (off := 59) (tgt := 60) hx hb dX9_count_1 (by rw [c4]; decide) (by rw [c4]; decide) (by rw [c4]; rfl) (by decide) ?_
    refine lv_aload_n hx hb dX9_count_60 rfl (lv_at hl 0 rfl) ?_
    refine va_get (D := G) (ci := 9) (v := .ref t_secondEdges_h) (C := RX9) (T := TX9) (N := 17) hx hb hts iwX9 hown hK hP 0 rfl rfl 3 (by decide) fl_32 (fun _ h9 => h9) rfl dX9_count_61 ?_
    obtain ⟨r5, hc6, hf⟩ := ob_some hf
    refine af_iR (va_runV (As := []) (rest := []) ⟨hx, hb, hml, hown, hts⟩ (k_X7_size l G cI cJ (t_h := t_secondEdges_h) (t_cells_h := t_secondEdges_cells_h) (t_width := t_secondEdges_width) (t_most := t_secondEdges_most) (t_lines := t_secondEdges_lines) (sz := _) (hf := hc6)) (cwV 0 hts gX9_count_X7_size rfl rfl rfl (by decide +kernel) ⟨Nat.le_of_ble_eq_true rfl, Nat.le_of_ble_eq_true rfl⟩) (preV0 (ci := 7) (q0 := 0) (C := RX7) (wc := [(t_secondEdges_h, .inr (7, [.int t_secondEdges_width, .int t_secondEdges_most, .ref t_secondEdges_cells_h, .int t_secondEdges_lines]))]) hK hP hD hN [2] rfl rfl (by decide) rfl rfl) rfl rfl hl.1 rfl (lv_room (Nat.le_of_ble_eq_true rfl)) dX9_count_64 ⟨Nat.zero_le _, Nat.zero_le _⟩) hP hD hS hA [2] rfl (fun H locs hP hS => ?_)
    exact hret r5 67 _ _ _ dX9_count_67 hf hP hD hS
  have hf := iff_ hf c4
  by_cases c7 : x1 = 2
  · have hf := ift hf c7
    refine lv_tableIn (off := 67) (tgt := 68) hx hb dX9_count_1 (by rw [c7]; decide) (by rw [c7]; decide) (by rw [c7]; rfl) (by decide) ?_
    refine lv_aload_n hx hb dX9_count_68 rfl (lv_at hl 0 rfl) ?_
    refine va_get (D := G) (ci := 9) (v := .ref t_layers_h) (C := RX9) (T := TX9) (N := 17) hx hb hts iwX9 hown hK hP 0 rfl rfl 4 (by decide) fl_35 (fun _ h9 => h9) rfl dX9_count_69 ?_
    obtain ⟨r8, hc9, hf⟩ := ob_some hf
    refine af_iR (va_runV (As := []) (rest := []) ⟨hx, hb, hml, hown, hts⟩ (k_X7_size l G cI cJ (t_h := t_layers_h) (t_cells_h := t_layers_cells_h) (t_width := t_layers_width) (t_most := t_layers_most) (t_lines := t_layers_lines) (sz := _) (hf := hc9)) (cwV 0 hts gX9_count_X7_size rfl rfl rfl (by decide +kernel) ⟨Nat.le_of_ble_eq_true rfl, Nat.le_of_ble_eq_true rfl⟩) (preV0 (ci := 7) (q0 := 0) (C := RX7) (wc := [(t_layers_h, .inr (7, [.int t_layers_width, .int t_layers_most, .ref t_layers_cells_h, .int t_layers_lines]))]) hK hP hD hN [3] rfl rfl (by decide) rfl rfl) rfl rfl hl.1 rfl (lv_room (Nat.le_of_ble_eq_true rfl)) dX9_count_72 ⟨Nat.zero_le _, Nat.zero_le _⟩) hP hD hS hA [3] rfl (fun H locs hP hS => ?_)
    exact hret r8 75 _ _ _ dX9_count_75 hf hP hD hS
  have hf := iff_ hf c7
  by_cases c10 : x1 = 3
  · have hf := ift hf c10
    refine lv_tableIn (off := 75) (tgt := 76) hx hb dX9_count_1 (by rw [c10]; decide) (by rw [c10]; decide) (by rw [c10]; rfl) (by decide) ?_
    refine lv_aload_n hx hb dX9_count_76 rfl (lv_at hl 0 rfl) ?_
    refine va_get (D := G) (ci := 9) (v := .ref t_sights_h) (C := RX9) (T := TX9) (N := 17) hx hb hts iwX9 hown hK hP 0 rfl rfl 5 (by decide) fl_38 (fun _ h9 => h9) rfl dX9_count_77 ?_
    obtain ⟨r11, hc12, hf⟩ := ob_some hf
    refine af_iR (va_runV (As := []) (rest := []) ⟨hx, hb, hml, hown, hts⟩ (k_X7_size l G cI cJ (t_h := t_sights_h) (t_cells_h := t_sights_cells_h) (t_width := t_sights_width) (t_most := t_sights_most) (t_lines := t_sights_lines) (sz := _) (hf := hc12)) (cwV 0 hts gX9_count_X7_size rfl rfl rfl (by decide +kernel) ⟨Nat.le_of_ble_eq_true rfl, Nat.le_of_ble_eq_true rfl⟩) (preV0 (ci := 7) (q0 := 0) (C := RX7) (wc := [(t_sights_h, .inr (7, [.int t_sights_width, .int t_sights_most, .ref t_sights_cells_h, .int t_sights_lines]))]) hK hP hD hN [4] rfl rfl (by decide) rfl rfl) rfl rfl hl.1 rfl (lv_room (Nat.le_of_ble_eq_true rfl)) dX9_count_80 ⟨Nat.zero_le _, Nat.zero_le _⟩) hP hD hS hA [4] rfl (fun H locs hP hS => ?_)
    exact hret r11 83 _ _ _ dX9_count_83 hf hP hD hS
  have hf := iff_ hf c10
  by_cases c13 : x1 = 4
  · have hf := ift hf c13
    refine lv_tableIn (off := 83) (tgt := 84) hx hb dX9_count_1 (by rw [c13]; decide) (by rw [c13]; decide) (by rw [c13]; rfl) (by decide) ?_
    refine lv_aload_n hx hb dX9_count_84 rfl (lv_at hl 0 rfl) ?_
    refine va_get (D := G) (ci := 9) (v := .ref t_shadows_h) (C := RX9) (T := TX9) (N := 17) hx hb hts iwX9 hown hK hP 0 rfl rfl 6 (by decide) fl_41 (fun _ h9 => h9) rfl dX9_count_85 ?_
    obtain ⟨r14, hc15, hf⟩ := ob_some hf
    refine af_iR (va_runV (As := []) (rest := []) ⟨hx, hb, hml, hown, hts⟩ (k_X7_size l G cI cJ (t_h := t_shadows_h) (t_cells_h := t_shadows_cells_h) (t_width := t_shadows_width) (t_most := t_shadows_most) (t_lines := t_shadows_lines) (sz := _) (hf := hc15)) (cwV 0 hts gX9_count_X7_size rfl rfl rfl (by decide +kernel) ⟨Nat.le_of_ble_eq_true rfl, Nat.le_of_ble_eq_true rfl⟩) (preV0 (ci := 7) (q0 := 0) (C := RX7) (wc := [(t_shadows_h, .inr (7, [.int t_shadows_width, .int t_shadows_most, .ref t_shadows_cells_h, .int t_shadows_lines]))]) hK hP hD hN [5] rfl rfl (by decide) rfl rfl) rfl rfl hl.1 rfl (lv_room (Nat.le_of_ble_eq_true rfl)) dX9_count_88 ⟨Nat.zero_le _, Nat.zero_le _⟩) hP hD hS hA [5] rfl (fun H locs hP hS => ?_)
    exact hret r14 91 _ _ _ dX9_count_91 hf hP hD hS
  have hf := iff_ hf c13
  by_cases c16 : x1 = 5
  · have hf := ift hf c16
    refine lv_tableIn (off := 91) (tgt := 92) hx hb dX9_count_1 (by rw [c16]; decide) (by rw [c16]; decide) (by rw [c16]; rfl) (by decide) ?_
    refine lv_aload_n hx hb dX9_count_92 rfl (lv_at hl 0 rfl) ?_
    refine va_get (D := G) (ci := 9) (v := .ref t_heights_h) (C := RX9) (T := TX9) (N := 17) hx hb hts iwX9 hown hK hP 0 rfl rfl 7 (by decide) fl_44 (fun _ h9 => h9) rfl dX9_count_93 ?_
    obtain ⟨r17, hc18, hf⟩ := ob_some hf
    refine af_iR (va_runV (As := []) (rest := []) ⟨hx, hb, hml, hown, hts⟩ (k_X7_size l G cI cJ (t_h := t_heights_h) (t_cells_h := t_heights_cells_h) (t_width := t_heights_width) (t_most := t_heights_most) (t_lines := t_heights_lines) (sz := _) (hf := hc18)) (cwV 0 hts gX9_count_X7_size rfl rfl rfl (by decide +kernel) ⟨Nat.le_of_ble_eq_true rfl, Nat.le_of_ble_eq_true rfl⟩) (preV0 (ci := 7) (q0 := 0) (C := RX7) (wc := [(t_heights_h, .inr (7, [.int t_heights_width, .int t_heights_most, .ref t_heights_cells_h, .int t_heights_lines]))]) hK hP hD hN [6] rfl rfl (by decide) rfl rfl) rfl rfl hl.1 rfl (lv_room (Nat.le_of_ble_eq_true rfl)) dX9_count_96 ⟨Nat.zero_le _, Nat.zero_le _⟩) hP hD hS hA [6] rfl (fun H locs hP hS => ?_)
    exact hret r17 99 _ _ _ dX9_count_99 hf hP hD hS
  have hf := iff_ hf c16
  by_cases c19 : x1 = 6
  · have hf := ift hf c19
    refine lv_tableIn (off := 99) (tgt := 100) hx hb dX9_count_1 (by rw [c19]; decide) (by rw [c19]; decide) (by rw [c19]; rfl) (by decide) ?_
    refine lv_aload_n hx hb dX9_count_100 rfl (lv_at hl 0 rfl) ?_
    refine va_get (D := G) (ci := 9) (v := .ref t_pairs_h) (C := RX9) (T := TX9) (N := 17) hx hb hts iwX9 hown hK hP 0 rfl rfl 8 (by decide) fl_47 (fun _ h9 => h9) rfl dX9_count_101 ?_
    obtain ⟨r20, hc21, hf⟩ := ob_some hf
    refine af_iR (va_runV (As := []) (rest := []) ⟨hx, hb, hml, hown, hts⟩ (k_X7_size l G cI cJ (t_h := t_pairs_h) (t_cells_h := t_pairs_cells_h) (t_width := t_pairs_width) (t_most := t_pairs_most) (t_lines := t_pairs_lines) (sz := _) (hf := hc21)) (cwV 0 hts gX9_count_X7_size rfl rfl rfl (by decide +kernel) ⟨Nat.le_of_ble_eq_true rfl, Nat.le_of_ble_eq_true rfl⟩) (preV0 (ci := 7) (q0 := 0) (C := RX7) (wc := [(t_pairs_h, .inr (7, [.int t_pairs_width, .int t_pairs_most, .ref t_pairs_cells_h, .int t_pairs_lines]))]) hK hP hD hN [7] rfl rfl (by decide) rfl rfl) rfl rfl hl.1 rfl (lv_room (Nat.le_of_ble_eq_true rfl)) dX9_count_104 ⟨Nat.zero_le _, Nat.zero_le _⟩) hP hD hS hA [7] rfl (fun H locs hP hS => ?_)
    exact hret r20 107 _ _ _ dX9_count_107 hf hP hD hS
  have hf := iff_ hf c19
  by_cases c22 : x1 = 7
  · have hf := ift hf c22
    refine lv_tableIn (off := 107) (tgt := 108) hx hb dX9_count_1 (by rw [c22]; decide) (by rw [c22]; decide) (by rw [c22]; rfl) (by decide) ?_
    refine lv_aload_n hx hb dX9_count_108 rfl (lv_at hl 0 rfl) ?_
    refine va_get (D := G) (ci := 9) (v := .ref t_rows_h) (C := RX9) (T := TX9) (N := 17) hx hb hts iwX9 hown hK hP 0 rfl rfl 9 (by decide) fl_50 (fun _ h9 => h9) rfl dX9_count_109 ?_
    obtain ⟨r23, hc24, hf⟩ := ob_some hf
    refine af_iR (va_runV (As := []) (rest := []) ⟨hx, hb, hml, hown, hts⟩ (k_X7_size l G cI cJ (t_h := t_rows_h) (t_cells_h := t_rows_cells_h) (t_width := t_rows_width) (t_most := t_rows_most) (t_lines := t_rows_lines) (sz := _) (hf := hc24)) (cwV 0 hts gX9_count_X7_size rfl rfl rfl (by decide +kernel) ⟨Nat.le_of_ble_eq_true rfl, Nat.le_of_ble_eq_true rfl⟩) (preV0 (ci := 7) (q0 := 0) (C := RX7) (wc := [(t_rows_h, .inr (7, [.int t_rows_width, .int t_rows_most, .ref t_rows_cells_h, .int t_rows_lines]))]) hK hP hD hN [8] rfl rfl (by decide) rfl rfl) rfl rfl hl.1 rfl (lv_room (Nat.le_of_ble_eq_true rfl)) dX9_count_112 ⟨Nat.zero_le _, Nat.zero_le _⟩) hP hD hS hA [8] rfl (fun H locs hP hS => ?_)
    exact hret r23 115 _ _ _ dX9_count_115 hf hP hD hS
  have hf := iff_ hf c22
  by_cases c25 : x1 = 8
  · have hf := ift hf c25
    refine lv_tableIn (off := 115) (tgt := 116) hx hb dX9_count_1 (by rw [c25]; decide) (by rw [c25]; decide) (by rw [c25]; rfl) (by decide) ?_
    refine lv_aload_n hx hb dX9_count_116 rfl (lv_at hl 0 rfl) ?_
    refine va_get (D := G) (ci := 9) (v := .ref t_notes_h) (C := RX9) (T := TX9) (N := 17) hx hb hts iwX9 hown hK hP 0 rfl rfl 10 (by decide) fl_53 (fun _ h9 => h9) rfl dX9_count_117 ?_
    obtain ⟨r26, hc27, hf⟩ := ob_some hf
    refine af_iR (va_runV (As := []) (rest := []) ⟨hx, hb, hml, hown, hts⟩ (k_X7_size l G cI cJ (t_h := t_notes_h) (t_cells_h := t_notes_cells_h) (t_width := t_notes_width) (t_most := t_notes_most) (t_lines := t_notes_lines) (sz := _) (hf := hc27)) (cwV 0 hts gX9_count_X7_size rfl rfl rfl (by decide +kernel) ⟨Nat.le_of_ble_eq_true rfl, Nat.le_of_ble_eq_true rfl⟩) (preV0 (ci := 7) (q0 := 0) (C := RX7) (wc := [(t_notes_h, .inr (7, [.int t_notes_width, .int t_notes_most, .ref t_notes_cells_h, .int t_notes_lines]))]) hK hP hD hN [9] rfl rfl (by decide) rfl rfl) rfl rfl hl.1 rfl (lv_room (Nat.le_of_ble_eq_true rfl)) dX9_count_120 ⟨Nat.zero_le _, Nat.zero_le _⟩) hP hD hS hA [9] rfl (fun H locs hP hS => ?_)
    exact hret r26 123 _ _ _ dX9_count_123 hf hP hD hS
  have hf := iff_ hf c25
  refine lv_tableOut (tgt := 124) hx hb dX9_count_1 (sw_out 8 (by intro k hk; rcases (show k = 0 ∨ k = 1 ∨ k = 2 ∨ k = 3 ∨ k = 4 ∨ k = 5 ∨ k = 6 ∨ k = 7 ∨ k = 8 by omega) with rfl | rfl | rfl | rfl | rfl | rfl | rfl | rfl | rfl <;> assumption)) (by decide) ?_
  refine lv_bipush (v := (-2)) hx hb dX9_count_124 (by decide) ?_
  exact hret (-2) 126 _ _ _ dX9_count_126 hf hP hD hS
set_option maxRecDepth 20000 in
theorem ggX9_digest_X9_count : GoodIn wsX9_digest wsX9_count := goodIn_r _ [18, 4, 5, 6, 7, 8, 9, 10, 11, 12, 19, 20, 21, 22, 23, 24, 56, 57, 58, 59, 60, 61, 62, 63, 64, 65, 66, 67, 68, 69, 70, 71, 72, 73, 74, 75, 76] (by decide +kernel) (by decide +kernel)
set_option maxRecDepth 20000 in
theorem gX9_digest_X9_count : GoodIn wsX9_digest (wsV RX9 265 RX9 yX9_count wsX9_count) := goodIn_app (goodIn_of _ (by decide +kernel)) ggX9_digest_X9_count
set_option maxRecDepth 20000 in
theorem ggX9_digest_X4_mixInto : GoodIn wsX9_digest wsX4_mixInto := goodIn_r _ [29, 30, 31, 32, 33, 34, 35, 36, 77, 78, 79, 80, 81, 82] (by decide +kernel) (by decide +kernel)
set_option maxRecDepth 20000 in
theorem gX9_digest_X4_mixInto : GoodIn wsX9_digest (wsV RX9 268 RX4 yX4_mixInto wsX4_mixInto) := goodIn_app (goodIn_of _ (by decide +kernel)) ggX9_digest_X4_mixInto
set_option maxRecDepth 20000 in
theorem ggX9_digest_X7_mixInto : GoodIn wsX9_digest wsX7_mixInto := goodIn_r _ [40, 24, 41, 42, 43, 44, 45, 46, 47, 73, 74, 75, 76] (by decide +kernel) (by decide +kernel)
set_option maxRecDepth 20000 in
theorem gX9_digest_X7_mixInto : GoodIn wsX9_digest (wsV RX9 272 RX7 yX7_mixInto wsX7_mixInto) := goodIn_app (goodIn_of _ (by decide +kernel)) ggX9_digest_X7_mixInto
set_option maxRecDepth 20000 in
theorem ggX9_digest_X1_mixInto : GoodIn wsX9_digest wsX1_mixInto := goodIn_r _ [52, 53, 54, 55, 83, 84] (by decide +kernel) (by decide +kernel)
set_option maxRecDepth 20000 in
theorem gX9_digest_X1_mixInto : GoodIn wsX9_digest (wsV RX9 273 RX1 yX1_mixInto wsX1_mixInto) := goodIn_app (goodIn_of _ (by decide +kernel)) ggX9_digest_X1_mixInto
theorem dX9_digest_0 : decode cX9_digest 0 = .ok (.ldc2_w 261, 3) := by decide +kernel
theorem dX9_digest_3 : decode cX9_digest 3 = .ok (.lstore_n 1, 1) := by decide +kernel
theorem dX9_digest_4 : decode cX9_digest 4 = .ok (.iconst 0, 1) := by decide +kernel
theorem dX9_digest_5 : decode cX9_digest 5 = .ok (.istore_n 3, 1) := by decide +kernel
theorem dX9_digest_6 : decode cX9_digest 6 = .ok (.iload_n 3, 1) := by decide +kernel
theorem dX9_digest_7 : decode cX9_digest 7 = .ok (.bipush 8, 2) := by decide +kernel
theorem dX9_digest_9 : decode cX9_digest 9 = .ok (.if_icmp .gt 22, 3) := by decide +kernel
theorem dX9_digest_12 : decode cX9_digest 12 = .ok (.ldc2_w 263, 3) := by decide +kernel
theorem dX9_digest_15 : decode cX9_digest 15 = .ok (.lload_n 1, 1) := by decide +kernel
theorem dX9_digest_16 : decode cX9_digest 16 = .ok (.lmul, 1) := by decide +kernel
theorem dX9_digest_17 : decode cX9_digest 17 = .ok (.aload_n 0, 1) := by decide +kernel
theorem dX9_digest_18 : decode cX9_digest 18 = .ok (.iload_n 3, 1) := by decide +kernel
theorem dX9_digest_19 : decode cX9_digest 19 = .ok (.invokevirtual 265, 3) := by decide +kernel
theorem dX9_digest_22 : decode cX9_digest 22 = .ok (.i2l, 1) := by decide +kernel
theorem dX9_digest_23 : decode cX9_digest 23 = .ok (.ladd, 1) := by decide +kernel
theorem dX9_digest_24 : decode cX9_digest 24 = .ok (.lstore_n 1, 1) := by decide +kernel
theorem dX9_digest_25 : decode cX9_digest 25 = .ok (.iinc 3 1, 3) := by decide +kernel
theorem dX9_digest_28 : decode cX9_digest 28 = .ok (.goto (-22), 3) := by decide +kernel
theorem dX9_digest_31 : decode cX9_digest 31 = .ok (.aload_n 0, 1) := by decide +kernel
theorem dX9_digest_32 : decode cX9_digest 32 = .ok (.getfield 19, 3) := by decide +kernel
theorem dX9_digest_35 : decode cX9_digest 35 = .ok (.lload_n 1, 1) := by decide +kernel
theorem dX9_digest_36 : decode cX9_digest 36 = .ok (.invokevirtual 268, 3) := by decide +kernel
theorem dX9_digest_39 : decode cX9_digest 39 = .ok (.lstore_n 1, 1) := by decide +kernel
theorem dX9_digest_40 : decode cX9_digest 40 = .ok (.aload_n 0, 1) := by decide +kernel
theorem dX9_digest_41 : decode cX9_digest 41 = .ok (.getfield 28, 3) := by decide +kernel
theorem dX9_digest_44 : decode cX9_digest 44 = .ok (.lload_n 1, 1) := by decide +kernel
theorem dX9_digest_45 : decode cX9_digest 45 = .ok (.invokevirtual 272, 3) := by decide +kernel
theorem dX9_digest_48 : decode cX9_digest 48 = .ok (.lstore_n 1, 1) := by decide +kernel
theorem dX9_digest_49 : decode cX9_digest 49 = .ok (.aload_n 0, 1) := by decide +kernel
theorem dX9_digest_50 : decode cX9_digest 50 = .ok (.getfield 32, 3) := by decide +kernel
theorem dX9_digest_53 : decode cX9_digest 53 = .ok (.lload_n 1, 1) := by decide +kernel
theorem dX9_digest_54 : decode cX9_digest 54 = .ok (.invokevirtual 272, 3) := by decide +kernel
theorem dX9_digest_57 : decode cX9_digest 57 = .ok (.lstore_n 1, 1) := by decide +kernel
theorem dX9_digest_58 : decode cX9_digest 58 = .ok (.aload_n 0, 1) := by decide +kernel
theorem dX9_digest_59 : decode cX9_digest 59 = .ok (.getfield 35, 3) := by decide +kernel
theorem dX9_digest_62 : decode cX9_digest 62 = .ok (.lload_n 1, 1) := by decide +kernel
theorem dX9_digest_63 : decode cX9_digest 63 = .ok (.invokevirtual 272, 3) := by decide +kernel
theorem dX9_digest_66 : decode cX9_digest 66 = .ok (.lstore_n 1, 1) := by decide +kernel
theorem dX9_digest_67 : decode cX9_digest 67 = .ok (.aload_n 0, 1) := by decide +kernel
theorem dX9_digest_68 : decode cX9_digest 68 = .ok (.getfield 38, 3) := by decide +kernel
theorem dX9_digest_71 : decode cX9_digest 71 = .ok (.lload_n 1, 1) := by decide +kernel
theorem dX9_digest_72 : decode cX9_digest 72 = .ok (.invokevirtual 272, 3) := by decide +kernel
theorem dX9_digest_75 : decode cX9_digest 75 = .ok (.lstore_n 1, 1) := by decide +kernel
theorem dX9_digest_76 : decode cX9_digest 76 = .ok (.aload_n 0, 1) := by decide +kernel
theorem dX9_digest_77 : decode cX9_digest 77 = .ok (.getfield 41, 3) := by decide +kernel
theorem dX9_digest_80 : decode cX9_digest 80 = .ok (.lload_n 1, 1) := by decide +kernel
theorem dX9_digest_81 : decode cX9_digest 81 = .ok (.invokevirtual 272, 3) := by decide +kernel
theorem dX9_digest_84 : decode cX9_digest 84 = .ok (.lstore_n 1, 1) := by decide +kernel
theorem dX9_digest_85 : decode cX9_digest 85 = .ok (.aload_n 0, 1) := by decide +kernel
theorem dX9_digest_86 : decode cX9_digest 86 = .ok (.getfield 44, 3) := by decide +kernel
theorem dX9_digest_89 : decode cX9_digest 89 = .ok (.lload_n 1, 1) := by decide +kernel
theorem dX9_digest_90 : decode cX9_digest 90 = .ok (.invokevirtual 272, 3) := by decide +kernel
theorem dX9_digest_93 : decode cX9_digest 93 = .ok (.lstore_n 1, 1) := by decide +kernel
theorem dX9_digest_94 : decode cX9_digest 94 = .ok (.aload_n 0, 1) := by decide +kernel
theorem dX9_digest_95 : decode cX9_digest 95 = .ok (.getfield 47, 3) := by decide +kernel
theorem dX9_digest_98 : decode cX9_digest 98 = .ok (.lload_n 1, 1) := by decide +kernel
theorem dX9_digest_99 : decode cX9_digest 99 = .ok (.invokevirtual 272, 3) := by decide +kernel
theorem dX9_digest_102 : decode cX9_digest 102 = .ok (.lstore_n 1, 1) := by decide +kernel
theorem dX9_digest_103 : decode cX9_digest 103 = .ok (.aload_n 0, 1) := by decide +kernel
theorem dX9_digest_104 : decode cX9_digest 104 = .ok (.getfield 50, 3) := by decide +kernel
theorem dX9_digest_107 : decode cX9_digest 107 = .ok (.lload_n 1, 1) := by decide +kernel
theorem dX9_digest_108 : decode cX9_digest 108 = .ok (.invokevirtual 272, 3) := by decide +kernel
theorem dX9_digest_111 : decode cX9_digest 111 = .ok (.lstore_n 1, 1) := by decide +kernel
theorem dX9_digest_112 : decode cX9_digest 112 = .ok (.aload_n 0, 1) := by decide +kernel
theorem dX9_digest_113 : decode cX9_digest 113 = .ok (.getfield 53, 3) := by decide +kernel
theorem dX9_digest_116 : decode cX9_digest 116 = .ok (.lload_n 1, 1) := by decide +kernel
theorem dX9_digest_117 : decode cX9_digest 117 = .ok (.invokevirtual 272, 3) := by decide +kernel
theorem dX9_digest_120 : decode cX9_digest 120 = .ok (.lstore_n 1, 1) := by decide +kernel
theorem dX9_digest_121 : decode cX9_digest 121 = .ok (.aload_n 0, 1) := by decide +kernel
theorem dX9_digest_122 : decode cX9_digest 122 = .ok (.getfield 10, 3) := by decide +kernel
theorem dX9_digest_125 : decode cX9_digest 125 = .ok (.lload_n 1, 1) := by decide +kernel
theorem dX9_digest_126 : decode cX9_digest 126 = .ok (.invokevirtual 273, 3) := by decide +kernel
theorem dX9_digest_129 : decode cX9_digest 129 = .ok (.lreturn, 1) := by decide +kernel
set_option maxRecDepth 100000 in
def fX9_digest_L1 (t_firstEdges_lines : Int32) (t_secondEdges_lines : Int32) (t_layers_lines : Int32) (t_sights_lines : Int32) (t_shadows_lines : Int32) (t_heights_lines : Int32) (t_pairs_lines : Int32) (t_rows_lines : Int32) (t_notes_lines : Int32) : (Int64 × Int32) → Option ((Int64) ⊕ (Int64 × Int32)) := un2 fun (u1 : Int64) (u2 : Int32) =>
  if 8 < u2 then
    some (.inl u1)
  else
    ob (fX9_count u2 t_firstEdges_lines t_secondEdges_lines t_layers_lines t_sights_lines t_shadows_lines t_heights_lines t_pairs_lines t_rows_lines t_notes_lines) fun r4 =>
    bv ((31 * u1) + (Int32.toInt64 r4)) fun v6 =>
    bv (u2 + 1) fun v7 =>
    some (.inr (v6, v7))
set_option maxRecDepth 100000 in
def fX9_digest (t_fraction_above : Int64) (t_fraction_below : Int64) (t_settings_base : Int32) (t_settings_slip : Int32) (t_settings_low : Int32) (t_settings_high : Int32) (t_settings_unlike : Int32) (t_settings_alone : Int32) (t_firstEdges_width : Int32) (t_firstEdges_lines : Int32) (t_secondEdges_width : Int32) (t_secondEdges_lines : Int32) (t_layers_width : Int32) (t_layers_lines : Int32) (t_sights_width : Int32) (t_sights_lines : Int32) (t_shadows_width : Int32) (t_shadows_lines : Int32) (t_heights_width : Int32) (t_heights_lines : Int32) (t_pairs_width : Int32) (t_pairs_lines : Int32) (t_rows_width : Int32) (t_rows_lines : Int32) (t_notes_width : Int32) (t_notes_lines : Int32) (t_firstEdges_cells_n : Nat) (t_firstEdges_cells_a : Nat → Int32) (t_secondEdges_cells_n : Nat) (t_secondEdges_cells_a : Nat → Int32) (t_layers_cells_n : Nat) (t_layers_cells_a : Nat → Int32) (t_sights_cells_n : Nat) (t_sights_cells_a : Nat → Int32) (t_shadows_cells_n : Nat) (t_shadows_cells_a : Nat → Int32) (t_heights_cells_n : Nat) (t_heights_cells_a : Nat → Int32) (t_pairs_cells_n : Nat) (t_pairs_cells_a : Nat → Int32) (t_rows_cells_n : Nat) (t_rows_cells_a : Nat → Int32) (t_notes_cells_n : Nat) (t_notes_cells_a : Nat → Int32) : Option (Int64) :=
  ob (it (fX9_digest_L1 t_firstEdges_lines t_secondEdges_lines t_layers_lines t_sights_lines t_shadows_lines t_heights_lines t_pairs_lines t_rows_lines t_notes_lines) 100000 (317, 0)) fun x8 =>
  ob (fX4_mixInto x8 t_settings_base t_settings_slip t_settings_low t_settings_high t_settings_unlike t_settings_alone) fun r9 =>
  ob (fX7_mixInto r9 t_firstEdges_width t_firstEdges_lines t_firstEdges_cells_n t_firstEdges_cells_a) fun r11 =>
  ob (fX7_mixInto r11 t_secondEdges_width t_secondEdges_lines t_secondEdges_cells_n t_secondEdges_cells_a) fun r13 =>
  ob (fX7_mixInto r13 t_layers_width t_layers_lines t_layers_cells_n t_layers_cells_a) fun r15 =>
  ob (fX7_mixInto r15 t_sights_width t_sights_lines t_sights_cells_n t_sights_cells_a) fun r17 =>
  ob (fX7_mixInto r17 t_shadows_width t_shadows_lines t_shadows_cells_n t_shadows_cells_a) fun r19 =>
  ob (fX7_mixInto r19 t_heights_width t_heights_lines t_heights_cells_n t_heights_cells_a) fun r21 =>
  ob (fX7_mixInto r21 t_pairs_width t_pairs_lines t_pairs_cells_n t_pairs_cells_a) fun r23 =>
  ob (fX7_mixInto r23 t_rows_width t_rows_lines t_rows_cells_n t_rows_cells_a) fun r25 =>
  ob (fX7_mixInto r25 t_notes_width t_notes_lines t_notes_cells_n t_notes_cells_a) fun r27 =>
  ob (fX1_mixInto r27 t_fraction_above t_fraction_below) fun r29 =>
  some r29
abbrev rmX9_digest : Room := { frames := 2, cells := 0, slots := 0, locals := 49 }
theorem iwX9_digest_X9 : ∀ w ∈ u_ws RX9 TX9 17, w ∈ wsX9_digest := by decide +kernel
set_option maxHeartbeats 4000000 in
set_option maxRecDepth 100000 in
theorem k_X9_digest (l : Launch) (G : va_G) (cI cJ : ClassId) (t_h t_fraction_h t_settings_h t_firstEdges_h t_secondEdges_h t_layers_h t_sights_h t_shadows_h t_heights_h t_pairs_h t_rows_h t_notes_h t_matching_h t_speeds_h t_layering_h t_boards_h t_years_h t_sheets_h t_firstEdges_cells_h t_secondEdges_cells_h t_layers_cells_h t_sights_cells_h t_shadows_cells_h t_heights_cells_h t_pairs_cells_h t_rows_cells_h t_notes_cells_h : Nat) (sz : Nat) (t_fraction_above : Int64) (t_fraction_below : Int64) (t_settings_base : Int32) (t_settings_slip : Int32) (t_settings_low : Int32) (t_settings_high : Int32) (t_settings_unlike : Int32) (t_settings_alone : Int32) (t_firstEdges_width : Int32) (t_firstEdges_most : Int32) (t_firstEdges_lines : Int32) (t_secondEdges_width : Int32) (t_secondEdges_most : Int32) (t_secondEdges_lines : Int32) (t_layers_width : Int32) (t_layers_most : Int32) (t_layers_lines : Int32) (t_sights_width : Int32) (t_sights_most : Int32) (t_sights_lines : Int32) (t_shadows_width : Int32) (t_shadows_most : Int32) (t_shadows_lines : Int32) (t_heights_width : Int32) (t_heights_most : Int32) (t_heights_lines : Int32) (t_pairs_width : Int32) (t_pairs_most : Int32) (t_pairs_lines : Int32) (t_rows_width : Int32) (t_rows_most : Int32) (t_rows_lines : Int32) (t_notes_width : Int32) (t_notes_most : Int32) (t_notes_lines : Int32) (t_firstEdges_cells_n : Nat) (t_firstEdges_cells_a : Nat → Int32) (t_secondEdges_cells_n : Nat) (t_secondEdges_cells_a : Nat → Int32) (t_layers_cells_n : Nat) (t_layers_cells_a : Nat → Int32) (t_sights_cells_n : Nat) (t_sights_cells_a : Nat → Int32) (t_shadows_cells_n : Nat) (t_shadows_cells_a : Nat → Int32) (t_heights_cells_n : Nat) (t_heights_cells_a : Nat → Int32) (t_pairs_cells_n : Nat) (t_pairs_cells_a : Nat → Int32) (t_rows_cells_n : Nat) (t_rows_cells_a : Nat → Int32) (t_notes_cells_n : Nat) (t_notes_cells_a : Nat → Int32) {o_r : Int64} (hf : fX9_digest t_fraction_above t_fraction_below t_settings_base t_settings_slip t_settings_low t_settings_high t_settings_unlike t_settings_alone t_firstEdges_width t_firstEdges_lines t_secondEdges_width t_secondEdges_lines t_layers_width t_layers_lines t_sights_width t_sights_lines t_shadows_width t_shadows_lines t_heights_width t_heights_lines t_pairs_width t_pairs_lines t_rows_width t_rows_lines t_notes_width t_notes_lines t_firstEdges_cells_n t_firstEdges_cells_a t_secondEdges_cells_n t_secondEdges_cells_a t_layers_cells_n t_layers_cells_a t_sights_cells_n t_sights_cells_a t_shadows_cells_n t_shadows_cells_a t_heights_cells_n t_heights_cells_a t_pairs_cells_n t_pairs_cells_a t_rows_cells_n t_rows_cells_a t_notes_cells_n t_notes_cells_a = some o_r) : MetL l yX9_digest wsX9_digest rmX9_digest [.ref t_h] G cI cJ [(t_h, .inr (9, [.ref t_fraction_h, .ref t_settings_h, .ref t_firstEdges_h, .ref t_secondEdges_h, .ref t_layers_h, .ref t_sights_h, .ref t_shadows_h, .ref t_heights_h, .ref t_pairs_h, .ref t_rows_h, .ref t_notes_h, .ref t_matching_h, .ref t_speeds_h, .ref t_layering_h, .ref t_boards_h, .ref t_years_h, .ref t_sheets_h])), (t_fraction_h, .inr (1, [.long t_fraction_above, .long t_fraction_below])), (t_settings_h, .inr (4, [.int t_settings_base, .int t_settings_slip, .int t_settings_low, .int t_settings_high, .int t_settings_unlike, .int t_settings_alone])), (t_firstEdges_h, .inr (7, [.int t_firstEdges_width, .int t_firstEdges_most, .ref t_firstEdges_cells_h, .int t_firstEdges_lines])), (t_secondEdges_h, .inr (7, [.int t_secondEdges_width, .int t_secondEdges_most, .ref t_secondEdges_cells_h, .int t_secondEdges_lines])), (t_layers_h, .inr (7, [.int t_layers_width, .int t_layers_most, .ref t_layers_cells_h, .int t_layers_lines])), (t_sights_h, .inr (7, [.int t_sights_width, .int t_sights_most, .ref t_sights_cells_h, .int t_sights_lines])), (t_shadows_h, .inr (7, [.int t_shadows_width, .int t_shadows_most, .ref t_shadows_cells_h, .int t_shadows_lines])), (t_heights_h, .inr (7, [.int t_heights_width, .int t_heights_most, .ref t_heights_cells_h, .int t_heights_lines])), (t_pairs_h, .inr (7, [.int t_pairs_width, .int t_pairs_most, .ref t_pairs_cells_h, .int t_pairs_lines])), (t_rows_h, .inr (7, [.int t_rows_width, .int t_rows_most, .ref t_rows_cells_h, .int t_rows_lines])), (t_notes_h, .inr (7, [.int t_notes_width, .int t_notes_most, .ref t_notes_cells_h, .int t_notes_lines])), (t_firstEdges_cells_h, .inl (cI, t_firstEdges_cells_n, .inl t_firstEdges_cells_a)), (t_secondEdges_cells_h, .inl (cI, t_secondEdges_cells_n, .inl t_secondEdges_cells_a)), (t_layers_cells_h, .inl (cI, t_layers_cells_n, .inl t_layers_cells_a)), (t_sights_cells_h, .inl (cI, t_sights_cells_n, .inl t_sights_cells_a)), (t_shadows_cells_h, .inl (cI, t_shadows_cells_n, .inl t_shadows_cells_a)), (t_heights_cells_h, .inl (cI, t_heights_cells_n, .inl t_heights_cells_a)), (t_pairs_cells_h, .inl (cI, t_pairs_cells_n, .inl t_pairs_cells_a)), (t_rows_cells_h, .inl (cI, t_rows_cells_n, .inl t_rows_cells_a)), (t_notes_cells_h, .inl (cI, t_notes_cells_n, .inl t_notes_cells_a))] [(t_h, .inr (9, [.ref t_fraction_h, .ref t_settings_h, .ref t_firstEdges_h, .ref t_secondEdges_h, .ref t_layers_h, .ref t_sights_h, .ref t_shadows_h, .ref t_heights_h, .ref t_pairs_h, .ref t_rows_h, .ref t_notes_h, .ref t_matching_h, .ref t_speeds_h, .ref t_layering_h, .ref t_boards_h, .ref t_years_h, .ref t_sheets_h])), (t_fraction_h, .inr (1, [.long t_fraction_above, .long t_fraction_below])), (t_settings_h, .inr (4, [.int t_settings_base, .int t_settings_slip, .int t_settings_low, .int t_settings_high, .int t_settings_unlike, .int t_settings_alone])), (t_firstEdges_h, .inr (7, [.int t_firstEdges_width, .int t_firstEdges_most, .ref t_firstEdges_cells_h, .int t_firstEdges_lines])), (t_secondEdges_h, .inr (7, [.int t_secondEdges_width, .int t_secondEdges_most, .ref t_secondEdges_cells_h, .int t_secondEdges_lines])), (t_layers_h, .inr (7, [.int t_layers_width, .int t_layers_most, .ref t_layers_cells_h, .int t_layers_lines])), (t_sights_h, .inr (7, [.int t_sights_width, .int t_sights_most, .ref t_sights_cells_h, .int t_sights_lines])), (t_shadows_h, .inr (7, [.int t_shadows_width, .int t_shadows_most, .ref t_shadows_cells_h, .int t_shadows_lines])), (t_heights_h, .inr (7, [.int t_heights_width, .int t_heights_most, .ref t_heights_cells_h, .int t_heights_lines])), (t_pairs_h, .inr (7, [.int t_pairs_width, .int t_pairs_most, .ref t_pairs_cells_h, .int t_pairs_lines])), (t_rows_h, .inr (7, [.int t_rows_width, .int t_rows_most, .ref t_rows_cells_h, .int t_rows_lines])), (t_notes_h, .inr (7, [.int t_notes_width, .int t_notes_most, .ref t_notes_cells_h, .int t_notes_lines])), (t_firstEdges_cells_h, .inl (cI, t_firstEdges_cells_n, .inl t_firstEdges_cells_a)), (t_secondEdges_cells_h, .inl (cI, t_secondEdges_cells_n, .inl t_secondEdges_cells_a)), (t_layers_cells_h, .inl (cI, t_layers_cells_n, .inl t_layers_cells_a)), (t_sights_cells_h, .inl (cI, t_sights_cells_n, .inl t_sights_cells_a)), (t_shadows_cells_h, .inl (cI, t_shadows_cells_n, .inl t_shadows_cells_a)), (t_heights_cells_h, .inl (cI, t_heights_cells_n, .inl t_heights_cells_a)), (t_pairs_cells_h, .inl (cI, t_pairs_cells_n, .inl t_pairs_cells_a)), (t_rows_cells_h, .inl (cI, t_rows_cells_n, .inl t_rows_cells_a)), (t_notes_cells_h, .inl (cI, t_notes_cells_n, .inl t_notes_cells_a))] sz o_r := by
  refine en_0 (l := l) (y := yX9_digest) (wsl := wsX9_digest) (rm := rmX9_digest) (av := [.ref t_h]) (G := G) (cI := cI) (cJ := cJ) (w0 := [(t_h, .inr (9, [.ref t_fraction_h, .ref t_settings_h, .ref t_firstEdges_h, .ref t_secondEdges_h, .ref t_layers_h, .ref t_sights_h, .ref t_shadows_h, .ref t_heights_h, .ref t_pairs_h, .ref t_rows_h, .ref t_notes_h, .ref t_matching_h, .ref t_speeds_h, .ref t_layering_h, .ref t_boards_h, .ref t_years_h, .ref t_sheets_h])), (t_fraction_h, .inr (1, [.long t_fraction_above, .long t_fraction_below])), (t_settings_h, .inr (4, [.int t_settings_base, .int t_settings_slip, .int t_settings_low, .int t_settings_high, .int t_settings_unlike, .int t_settings_alone])), (t_firstEdges_h, .inr (7, [.int t_firstEdges_width, .int t_firstEdges_most, .ref t_firstEdges_cells_h, .int t_firstEdges_lines])), (t_secondEdges_h, .inr (7, [.int t_secondEdges_width, .int t_secondEdges_most, .ref t_secondEdges_cells_h, .int t_secondEdges_lines])), (t_layers_h, .inr (7, [.int t_layers_width, .int t_layers_most, .ref t_layers_cells_h, .int t_layers_lines])), (t_sights_h, .inr (7, [.int t_sights_width, .int t_sights_most, .ref t_sights_cells_h, .int t_sights_lines])), (t_shadows_h, .inr (7, [.int t_shadows_width, .int t_shadows_most, .ref t_shadows_cells_h, .int t_shadows_lines])), (t_heights_h, .inr (7, [.int t_heights_width, .int t_heights_most, .ref t_heights_cells_h, .int t_heights_lines])), (t_pairs_h, .inr (7, [.int t_pairs_width, .int t_pairs_most, .ref t_pairs_cells_h, .int t_pairs_lines])), (t_rows_h, .inr (7, [.int t_rows_width, .int t_rows_most, .ref t_rows_cells_h, .int t_rows_lines])), (t_notes_h, .inr (7, [.int t_notes_width, .int t_notes_most, .ref t_notes_cells_h, .int t_notes_lines])), (t_firstEdges_cells_h, .inl (cI, t_firstEdges_cells_n, .inl t_firstEdges_cells_a)), (t_secondEdges_cells_h, .inl (cI, t_secondEdges_cells_n, .inl t_secondEdges_cells_a)), (t_layers_cells_h, .inl (cI, t_layers_cells_n, .inl t_layers_cells_a)), (t_sights_cells_h, .inl (cI, t_sights_cells_n, .inl t_sights_cells_a)), (t_shadows_cells_h, .inl (cI, t_shadows_cells_n, .inl t_shadows_cells_a)), (t_heights_cells_h, .inl (cI, t_heights_cells_n, .inl t_heights_cells_a)), (t_pairs_cells_h, .inl (cI, t_pairs_cells_n, .inl t_pairs_cells_a)), (t_rows_cells_h, .inl (cI, t_rows_cells_n, .inl t_rows_cells_a)), (t_notes_cells_h, .inl (cI, t_notes_cells_n, .inl t_notes_cells_a))]) (sz := sz) (Qf := fun A => Ql0 G cI cJ [(t_h, .inr (9, [.ref t_fraction_h, .ref t_settings_h, .ref t_firstEdges_h, .ref t_secondEdges_h, .ref t_layers_h, .ref t_sights_h, .ref t_shadows_h, .ref t_heights_h, .ref t_pairs_h, .ref t_rows_h, .ref t_notes_h, .ref t_matching_h, .ref t_speeds_h, .ref t_layering_h, .ref t_boards_h, .ref t_years_h, .ref t_sheets_h])), (t_fraction_h, .inr (1, [.long t_fraction_above, .long t_fraction_below])), (t_settings_h, .inr (4, [.int t_settings_base, .int t_settings_slip, .int t_settings_low, .int t_settings_high, .int t_settings_unlike, .int t_settings_alone])), (t_firstEdges_h, .inr (7, [.int t_firstEdges_width, .int t_firstEdges_most, .ref t_firstEdges_cells_h, .int t_firstEdges_lines])), (t_secondEdges_h, .inr (7, [.int t_secondEdges_width, .int t_secondEdges_most, .ref t_secondEdges_cells_h, .int t_secondEdges_lines])), (t_layers_h, .inr (7, [.int t_layers_width, .int t_layers_most, .ref t_layers_cells_h, .int t_layers_lines])), (t_sights_h, .inr (7, [.int t_sights_width, .int t_sights_most, .ref t_sights_cells_h, .int t_sights_lines])), (t_shadows_h, .inr (7, [.int t_shadows_width, .int t_shadows_most, .ref t_shadows_cells_h, .int t_shadows_lines])), (t_heights_h, .inr (7, [.int t_heights_width, .int t_heights_most, .ref t_heights_cells_h, .int t_heights_lines])), (t_pairs_h, .inr (7, [.int t_pairs_width, .int t_pairs_most, .ref t_pairs_cells_h, .int t_pairs_lines])), (t_rows_h, .inr (7, [.int t_rows_width, .int t_rows_most, .ref t_rows_cells_h, .int t_rows_lines])), (t_notes_h, .inr (7, [.int t_notes_width, .int t_notes_most, .ref t_notes_cells_h, .int t_notes_lines])), (t_firstEdges_cells_h, .inl (cI, t_firstEdges_cells_n, .inl t_firstEdges_cells_a)), (t_secondEdges_cells_h, .inl (cI, t_secondEdges_cells_n, .inl t_secondEdges_cells_a)), (t_layers_cells_h, .inl (cI, t_layers_cells_n, .inl t_layers_cells_a)), (t_sights_cells_h, .inl (cI, t_sights_cells_n, .inl t_sights_cells_a)), (t_shadows_cells_h, .inl (cI, t_shadows_cells_n, .inl t_shadows_cells_a)), (t_heights_cells_h, .inl (cI, t_heights_cells_n, .inl t_heights_cells_a)), (t_pairs_cells_h, .inl (cI, t_pairs_cells_n, .inl t_pairs_cells_a)), (t_rows_cells_h, .inl (cI, t_rows_cells_n, .inl t_rows_cells_a)), (t_notes_cells_h, .inl (cI, t_notes_cells_n, .inl t_notes_cells_a))] o_r A) (cc := cX9_digest) (maxL := 4) (ret := (some .long)) RX9 (by decide +kernel) rfl rfl (Nat.le_of_ble_eq_true rfl) ?_
  intro p e s m args below meth c A ls Q hQ hx hb hr hts hown hlocks hml hN hK hP hD hS hA hl
  have hl : lv_has ls 4 [(0, .ref t_h)] := hl
  have iwX9 := iwX9_digest_X9
  have fl_10 := hts (.fieldLink RX9 10 "CloudOffice" "fraction" "LCloudOffice$Fraction;") (by decide +kernel)
  have fl_19 := hts (.fieldLink RX9 19 "CloudOffice" "settings" "LCloudOffice$Settings;") (by decide +kernel)
  have fl_28 := hts (.fieldLink RX9 28 "CloudOffice" "firstEdges" "LCloudOffice$Table;") (by decide +kernel)
  have fl_32 := hts (.fieldLink RX9 32 "CloudOffice" "secondEdges" "LCloudOffice$Table;") (by decide +kernel)
  have fl_35 := hts (.fieldLink RX9 35 "CloudOffice" "layers" "LCloudOffice$Table;") (by decide +kernel)
  have fl_38 := hts (.fieldLink RX9 38 "CloudOffice" "sights" "LCloudOffice$Table;") (by decide +kernel)
  have fl_41 := hts (.fieldLink RX9 41 "CloudOffice" "shadows" "LCloudOffice$Table;") (by decide +kernel)
  have fl_44 := hts (.fieldLink RX9 44 "CloudOffice" "heights" "LCloudOffice$Table;") (by decide +kernel)
  have fl_47 := hts (.fieldLink RX9 47 "CloudOffice" "pairs" "LCloudOffice$Table;") (by decide +kernel)
  have fl_50 := hts (.fieldLink RX9 50 "CloudOffice" "rows" "LCloudOffice$Table;") (by decide +kernel)
  have fl_53 := hts (.fieldLink RX9 53 "CloudOffice" "notes" "LCloudOffice$Table;") (by decide +kernel)
  have kc_261 := hts (.constantLong RX9 261 (317)) (by decide +kernel)
  have kc_263 := hts (.constantLong RX9 263 (31)) (by decide +kernel)
  have hret : ∀ (o_r9 : Int64) (pc : Nat) (H : Heap) (locs : List Loc) (ls : Array Slot), decode cX9_digest pc = .ok (.lreturn, 1) → some o_r9 = some o_r → va_P G vwCl [(t_h, .inr (9, [.ref t_fraction_h, .ref t_settings_h, .ref t_firstEdges_h, .ref t_secondEdges_h, .ref t_layers_h, .ref t_sights_h, .ref t_shadows_h, .ref t_heights_h, .ref t_pairs_h, .ref t_rows_h, .ref t_notes_h, .ref t_matching_h, .ref t_speeds_h, .ref t_layering_h, .ref t_boards_h, .ref t_years_h, .ref t_sheets_h])), (t_fraction_h, .inr (1, [.long t_fraction_above, .long t_fraction_below])), (t_settings_h, .inr (4, [.int t_settings_base, .int t_settings_slip, .int t_settings_low, .int t_settings_high, .int t_settings_unlike, .int t_settings_alone])), (t_firstEdges_h, .inr (7, [.int t_firstEdges_width, .int t_firstEdges_most, .ref t_firstEdges_cells_h, .int t_firstEdges_lines])), (t_secondEdges_h, .inr (7, [.int t_secondEdges_width, .int t_secondEdges_most, .ref t_secondEdges_cells_h, .int t_secondEdges_lines])), (t_layers_h, .inr (7, [.int t_layers_width, .int t_layers_most, .ref t_layers_cells_h, .int t_layers_lines])), (t_sights_h, .inr (7, [.int t_sights_width, .int t_sights_most, .ref t_sights_cells_h, .int t_sights_lines])), (t_shadows_h, .inr (7, [.int t_shadows_width, .int t_shadows_most, .ref t_shadows_cells_h, .int t_shadows_lines])), (t_heights_h, .inr (7, [.int t_heights_width, .int t_heights_most, .ref t_heights_cells_h, .int t_heights_lines])), (t_pairs_h, .inr (7, [.int t_pairs_width, .int t_pairs_most, .ref t_pairs_cells_h, .int t_pairs_lines])), (t_rows_h, .inr (7, [.int t_rows_width, .int t_rows_most, .ref t_rows_cells_h, .int t_rows_lines])), (t_notes_h, .inr (7, [.int t_notes_width, .int t_notes_most, .ref t_notes_cells_h, .int t_notes_lines])), (t_firstEdges_cells_h, .inl (cI, t_firstEdges_cells_n, .inl t_firstEdges_cells_a)), (t_secondEdges_cells_h, .inl (cI, t_secondEdges_cells_n, .inl t_secondEdges_cells_a)), (t_layers_cells_h, .inl (cI, t_layers_cells_n, .inl t_layers_cells_a)), (t_sights_cells_h, .inl (cI, t_sights_cells_n, .inl t_sights_cells_a)), (t_shadows_cells_h, .inl (cI, t_shadows_cells_n, .inl t_shadows_cells_a)), (t_heights_cells_h, .inl (cI, t_heights_cells_n, .inl t_heights_cells_a)), (t_pairs_cells_h, .inl (cI, t_pairs_cells_n, .inl t_pairs_cells_a)), (t_rows_cells_h, .inl (cI, t_rows_cells_n, .inl t_rows_cells_a)), (t_notes_cells_h, .inl (cI, t_notes_cells_n, .inl t_notes_cells_a))] H → va_D A [(t_h, .inr (9, [.ref t_fraction_h, .ref t_settings_h, .ref t_firstEdges_h, .ref t_secondEdges_h, .ref t_layers_h, .ref t_sights_h, .ref t_shadows_h, .ref t_heights_h, .ref t_pairs_h, .ref t_rows_h, .ref t_notes_h, .ref t_matching_h, .ref t_speeds_h, .ref t_layering_h, .ref t_boards_h, .ref t_years_h, .ref t_sheets_h])), (t_fraction_h, .inr (1, [.long t_fraction_above, .long t_fraction_below])), (t_settings_h, .inr (4, [.int t_settings_base, .int t_settings_slip, .int t_settings_low, .int t_settings_high, .int t_settings_unlike, .int t_settings_alone])), (t_firstEdges_h, .inr (7, [.int t_firstEdges_width, .int t_firstEdges_most, .ref t_firstEdges_cells_h, .int t_firstEdges_lines])), (t_secondEdges_h, .inr (7, [.int t_secondEdges_width, .int t_secondEdges_most, .ref t_secondEdges_cells_h, .int t_secondEdges_lines])), (t_layers_h, .inr (7, [.int t_layers_width, .int t_layers_most, .ref t_layers_cells_h, .int t_layers_lines])), (t_sights_h, .inr (7, [.int t_sights_width, .int t_sights_most, .ref t_sights_cells_h, .int t_sights_lines])), (t_shadows_h, .inr (7, [.int t_shadows_width, .int t_shadows_most, .ref t_shadows_cells_h, .int t_shadows_lines])), (t_heights_h, .inr (7, [.int t_heights_width, .int t_heights_most, .ref t_heights_cells_h, .int t_heights_lines])), (t_pairs_h, .inr (7, [.int t_pairs_width, .int t_pairs_most, .ref t_pairs_cells_h, .int t_pairs_lines])), (t_rows_h, .inr (7, [.int t_rows_width, .int t_rows_most, .ref t_rows_cells_h, .int t_rows_lines])), (t_notes_h, .inr (7, [.int t_notes_width, .int t_notes_most, .ref t_notes_cells_h, .int t_notes_lines])), (t_firstEdges_cells_h, .inl (cI, t_firstEdges_cells_n, .inl t_firstEdges_cells_a)), (t_secondEdges_cells_h, .inl (cI, t_secondEdges_cells_n, .inl t_secondEdges_cells_a)), (t_layers_cells_h, .inl (cI, t_layers_cells_n, .inl t_layers_cells_a)), (t_sights_cells_h, .inl (cI, t_sights_cells_n, .inl t_sights_cells_a)), (t_shadows_cells_h, .inl (cI, t_shadows_cells_n, .inl t_shadows_cells_a)), (t_heights_cells_h, .inl (cI, t_heights_cells_n, .inl t_heights_cells_a)), (t_pairs_cells_h, .inl (cI, t_pairs_cells_n, .inl t_pairs_cells_a)), (t_rows_cells_h, .inl (cI, t_rows_cells_n, .inl t_rows_cells_a)), (t_notes_cells_h, .inl (cI, t_notes_cells_n, .inl t_notes_cells_a))] → va_S A s.heap H locs → W p l e rmX9_digest s m args below meth c H locs 0 0 Q (F0 m pc ls [.long o_r9]) := by
    intro o_r9 pc H locs ls hdg he hP hD hS
    cases he
    subst hQ
    exact rt_l hx hb hr hlocks hK hP hD hS rfl hdg
  clear hQ
  unfold fX9_digest at hf
  refine lv_ldc2 (v := 317) hx hb hown kc_261 dX9_digest_0 ?_
  refine lv_lstore_n (lv' := [(1, .long 317), (0, .ref t_h)]) hx hb dX9_digest_3 rfl hl (by decide) rfl (fun ls hl => ?_)
  refine lv_iconst (v := 0) hx hb dX9_digest_4 (by decide) ?_
  refine lv_istore_n (lv' := [(3, .int 0), (1, .long 317), (0, .ref t_h)]) hx hb dX9_digest_5 rfl hl (by decide) rfl (fun ls hl => ?_)
  obtain ⟨x8, ht1, hf⟩ := ob_some hf
  have hx1_0 : ∀ (x89 : Int64), x89 = x8 → ∀ (H : Heap) (locs : List Loc) (ls : Array Slot), va_P G vwCl [(t_h, .inr (9, [.ref t_fraction_h, .ref t_settings_h, .ref t_firstEdges_h, .ref t_secondEdges_h, .ref t_layers_h, .ref t_sights_h, .ref t_shadows_h, .ref t_heights_h, .ref t_pairs_h, .ref t_rows_h, .ref t_notes_h, .ref t_matching_h, .ref t_speeds_h, .ref t_layering_h, .ref t_boards_h, .ref t_years_h, .ref t_sheets_h])), (t_fraction_h, .inr (1, [.long t_fraction_above, .long t_fraction_below])), (t_settings_h, .inr (4, [.int t_settings_base, .int t_settings_slip, .int t_settings_low, .int t_settings_high, .int t_settings_unlike, .int t_settings_alone])), (t_firstEdges_h, .inr (7, [.int t_firstEdges_width, .int t_firstEdges_most, .ref t_firstEdges_cells_h, .int t_firstEdges_lines])), (t_secondEdges_h, .inr (7, [.int t_secondEdges_width, .int t_secondEdges_most, .ref t_secondEdges_cells_h, .int t_secondEdges_lines])), (t_layers_h, .inr (7, [.int t_layers_width, .int t_layers_most, .ref t_layers_cells_h, .int t_layers_lines])), (t_sights_h, .inr (7, [.int t_sights_width, .int t_sights_most, .ref t_sights_cells_h, .int t_sights_lines])), (t_shadows_h, .inr (7, [.int t_shadows_width, .int t_shadows_most, .ref t_shadows_cells_h, .int t_shadows_lines])), (t_heights_h, .inr (7, [.int t_heights_width, .int t_heights_most, .ref t_heights_cells_h, .int t_heights_lines])), (t_pairs_h, .inr (7, [.int t_pairs_width, .int t_pairs_most, .ref t_pairs_cells_h, .int t_pairs_lines])), (t_rows_h, .inr (7, [.int t_rows_width, .int t_rows_most, .ref t_rows_cells_h, .int t_rows_lines])), (t_notes_h, .inr (7, [.int t_notes_width, .int t_notes_most, .ref t_notes_cells_h, .int t_notes_lines])), (t_firstEdges_cells_h, .inl (cI, t_firstEdges_cells_n, .inl t_firstEdges_cells_a)), (t_secondEdges_cells_h, .inl (cI, t_secondEdges_cells_n, .inl t_secondEdges_cells_a)), (t_layers_cells_h, .inl (cI, t_layers_cells_n, .inl t_layers_cells_a)), (t_sights_cells_h, .inl (cI, t_sights_cells_n, .inl t_sights_cells_a)), (t_shadows_cells_h, .inl (cI, t_shadows_cells_n, .inl t_shadows_cells_a)), (t_heights_cells_h, .inl (cI, t_heights_cells_n, .inl t_heights_cells_a)), (t_pairs_cells_h, .inl (cI, t_pairs_cells_n, .inl t_pairs_cells_a)), (t_rows_cells_h, .inl (cI, t_rows_cells_n, .inl t_rows_cells_a)), (t_notes_cells_h, .inl (cI, t_notes_cells_n, .inl t_notes_cells_a))] H → va_D A [(t_h, .inr (9, [.ref t_fraction_h, .ref t_settings_h, .ref t_firstEdges_h, .ref t_secondEdges_h, .ref t_layers_h, .ref t_sights_h, .ref t_shadows_h, .ref t_heights_h, .ref t_pairs_h, .ref t_rows_h, .ref t_notes_h, .ref t_matching_h, .ref t_speeds_h, .ref t_layering_h, .ref t_boards_h, .ref t_years_h, .ref t_sheets_h])), (t_fraction_h, .inr (1, [.long t_fraction_above, .long t_fraction_below])), (t_settings_h, .inr (4, [.int t_settings_base, .int t_settings_slip, .int t_settings_low, .int t_settings_high, .int t_settings_unlike, .int t_settings_alone])), (t_firstEdges_h, .inr (7, [.int t_firstEdges_width, .int t_firstEdges_most, .ref t_firstEdges_cells_h, .int t_firstEdges_lines])), (t_secondEdges_h, .inr (7, [.int t_secondEdges_width, .int t_secondEdges_most, .ref t_secondEdges_cells_h, .int t_secondEdges_lines])), (t_layers_h, .inr (7, [.int t_layers_width, .int t_layers_most, .ref t_layers_cells_h, .int t_layers_lines])), (t_sights_h, .inr (7, [.int t_sights_width, .int t_sights_most, .ref t_sights_cells_h, .int t_sights_lines])), (t_shadows_h, .inr (7, [.int t_shadows_width, .int t_shadows_most, .ref t_shadows_cells_h, .int t_shadows_lines])), (t_heights_h, .inr (7, [.int t_heights_width, .int t_heights_most, .ref t_heights_cells_h, .int t_heights_lines])), (t_pairs_h, .inr (7, [.int t_pairs_width, .int t_pairs_most, .ref t_pairs_cells_h, .int t_pairs_lines])), (t_rows_h, .inr (7, [.int t_rows_width, .int t_rows_most, .ref t_rows_cells_h, .int t_rows_lines])), (t_notes_h, .inr (7, [.int t_notes_width, .int t_notes_most, .ref t_notes_cells_h, .int t_notes_lines])), (t_firstEdges_cells_h, .inl (cI, t_firstEdges_cells_n, .inl t_firstEdges_cells_a)), (t_secondEdges_cells_h, .inl (cI, t_secondEdges_cells_n, .inl t_secondEdges_cells_a)), (t_layers_cells_h, .inl (cI, t_layers_cells_n, .inl t_layers_cells_a)), (t_sights_cells_h, .inl (cI, t_sights_cells_n, .inl t_sights_cells_a)), (t_shadows_cells_h, .inl (cI, t_shadows_cells_n, .inl t_shadows_cells_a)), (t_heights_cells_h, .inl (cI, t_heights_cells_n, .inl t_heights_cells_a)), (t_pairs_cells_h, .inl (cI, t_pairs_cells_n, .inl t_pairs_cells_a)), (t_rows_cells_h, .inl (cI, t_rows_cells_n, .inl t_rows_cells_a)), (t_notes_cells_h, .inl (cI, t_notes_cells_n, .inl t_notes_cells_a))] → va_S A s.heap H locs → lv_has ls 4 [(0, .ref t_h), (1, .long x89)] → W p l e rmX9_digest s m args below meth c H locs 0 0 Q (F0 m 31 ls []) := by
    intro x89 he H locs ls hP hD hS hl
    cases he
    refine lv_aload_n hx hb dX9_digest_31 rfl (lv_at hl 0 rfl) ?_
    refine va_get (D := G) (ci := 9) (v := .ref t_settings_h) (C := RX9) (T := TX9) (N := 17) hx hb hts iwX9 hown hK hP 0 rfl rfl 1 (by decide) fl_19 (fun _ h9 => h9) rfl dX9_digest_32 ?_
    refine lv_lload_n hx hb dX9_digest_35 rfl (lv_at hl 1 rfl) ?_
    obtain ⟨r9, hc10, hf⟩ := ob_some hf
    refine af_lR (va_runV (As := [.long x8]) (rest := []) ⟨hx, hb, hml, hown, hts⟩ (k_X4_mixInto l G cI cJ (t_h := t_settings_h) (t_base := t_settings_base) (t_slip := t_settings_slip) (t_low := t_settings_low) (t_high := t_settings_high) (t_unlike := t_settings_unlike) (t_alone := t_settings_alone) (x1 := x8) (sz := _) (hf := hc10)) (cwV 1 hts gX9_digest_X4_mixInto rfl rfl rfl (by decide +kernel) ⟨Nat.le_of_ble_eq_true rfl, Nat.le_of_ble_eq_true rfl⟩) (preV0 (ci := 4) (q0 := 0) (C := RX4) (wc := [(t_settings_h, .inr (4, [.int t_settings_base, .int t_settings_slip, .int t_settings_low, .int t_settings_high, .int t_settings_unlike, .int t_settings_alone]))]) hK hP hD hN [2] rfl rfl (by decide) rfl rfl) rfl rfl hl.1 rfl (lv_room (Nat.le_of_ble_eq_true rfl)) dX9_digest_36 ⟨Nat.zero_le _, Nat.zero_le _⟩) hP hD hS hA [2] rfl (fun H locs hP hS => ?_)
    refine lv_lstore_n (lv' := [(1, .long r9), (0, .ref t_h)]) hx hb dX9_digest_39 rfl hl (by decide) rfl (fun ls hl => ?_)
    refine lv_aload_n hx hb dX9_digest_40 rfl (lv_at hl 1 rfl) ?_
    refine va_get (D := G) (ci := 9) (v := .ref t_firstEdges_h) (C := RX9) (T := TX9) (N := 17) hx hb hts iwX9 hown hK hP 0 rfl rfl 2 (by decide) fl_28 (fun _ h9 => h9) rfl dX9_digest_41 ?_
    refine lv_lload_n hx hb dX9_digest_44 rfl (lv_at hl 0 rfl) ?_
    obtain ⟨r11, hc12, hf⟩ := ob_some hf
    refine af_lR (va_runV (As := [.long r9]) (rest := []) ⟨hx, hb, hml, hown, hts⟩ (k_X7_mixInto l G cI cJ (t_h := t_firstEdges_h) (t_cells_h := t_firstEdges_cells_h) (t_width := t_firstEdges_width) (t_most := t_firstEdges_most) (t_lines := t_firstEdges_lines) (t_cells_n := t_firstEdges_cells_n) (t_cells_a := t_firstEdges_cells_a) (x1 := r9) (sz := _) (hf := hc12)) (cwV 1 hts gX9_digest_X7_mixInto rfl rfl rfl (by decide +kernel) ⟨Nat.le_of_ble_eq_true rfl, Nat.le_of_ble_eq_true rfl⟩) (preV0 (ci := 7) (q0 := 0) (C := RX7) (wc := [(t_firstEdges_h, .inr (7, [.int t_firstEdges_width, .int t_firstEdges_most, .ref t_firstEdges_cells_h, .int t_firstEdges_lines])), (t_firstEdges_cells_h, .inl (cI, t_firstEdges_cells_n, .inl t_firstEdges_cells_a))]) hK hP hD hN [3, 12] rfl rfl (by decide) rfl rfl) rfl rfl hl.1 rfl (lv_room (Nat.le_of_ble_eq_true rfl)) dX9_digest_45 ⟨Nat.zero_le _, Nat.zero_le _⟩) hP hD hS hA [3, 12] rfl (fun H locs hP hS => ?_)
    refine lv_lstore_n (lv' := [(1, .long r11), (0, .ref t_h)]) hx hb dX9_digest_48 rfl hl (by decide) rfl (fun ls hl => ?_)
    refine lv_aload_n hx hb dX9_digest_49 rfl (lv_at hl 1 rfl) ?_
    refine va_get (D := G) (ci := 9) (v := .ref t_secondEdges_h) (C := RX9) (T := TX9) (N := 17) hx hb hts iwX9 hown hK hP 0 rfl rfl 3 (by decide) fl_32 (fun _ h9 => h9) rfl dX9_digest_50 ?_
    refine lv_lload_n hx hb dX9_digest_53 rfl (lv_at hl 0 rfl) ?_
    obtain ⟨r13, hc14, hf⟩ := ob_some hf
    refine af_lR (va_runV (As := [.long r11]) (rest := []) ⟨hx, hb, hml, hown, hts⟩ (k_X7_mixInto l G cI cJ (t_h := t_secondEdges_h) (t_cells_h := t_secondEdges_cells_h) (t_width := t_secondEdges_width) (t_most := t_secondEdges_most) (t_lines := t_secondEdges_lines) (t_cells_n := t_secondEdges_cells_n) (t_cells_a := t_secondEdges_cells_a) (x1 := r11) (sz := _) (hf := hc14)) (cwV 1 hts gX9_digest_X7_mixInto rfl rfl rfl (by decide +kernel) ⟨Nat.le_of_ble_eq_true rfl, Nat.le_of_ble_eq_true rfl⟩) (preV0 (ci := 7) (q0 := 0) (C := RX7) (wc := [(t_secondEdges_h, .inr (7, [.int t_secondEdges_width, .int t_secondEdges_most, .ref t_secondEdges_cells_h, .int t_secondEdges_lines])), (t_secondEdges_cells_h, .inl (cI, t_secondEdges_cells_n, .inl t_secondEdges_cells_a))]) hK hP hD hN [4, 13] rfl rfl (by decide) rfl rfl) rfl rfl hl.1 rfl (lv_room (Nat.le_of_ble_eq_true rfl)) dX9_digest_54 ⟨Nat.zero_le _, Nat.zero_le _⟩) hP hD hS hA [4, 13] rfl (fun H locs hP hS => ?_)
    refine lv_lstore_n (lv' := [(1, .long r13), (0, .ref t_h)]) hx hb dX9_digest_57 rfl hl (by decide) rfl (fun ls hl => ?_)
    refine lv_aload_n hx hb dX9_digest_58 rfl (lv_at hl 1 rfl) ?_
    refine va_get (D := G) (ci := 9) (v := .ref t_layers_h) (C := RX9) (T := TX9) (N := 17) hx hb hts iwX9 hown hK hP 0 rfl rfl 4 (by decide) fl_35 (fun _ h9 => h9) rfl dX9_digest_59 ?_
    refine lv_lload_n hx hb dX9_digest_62 rfl (lv_at hl 0 rfl) ?_
    obtain ⟨r15, hc16, hf⟩ := ob_some hf
    refine af_lR (va_runV (As := [.long r13]) (rest := []) ⟨hx, hb, hml, hown, hts⟩ (k_X7_mixInto l G cI cJ (t_h := t_layers_h) (t_cells_h := t_layers_cells_h) (t_width := t_layers_width) (t_most := t_layers_most) (t_lines := t_layers_lines) (t_cells_n := t_layers_cells_n) (t_cells_a := t_layers_cells_a) (x1 := r13) (sz := _) (hf := hc16)) (cwV 1 hts gX9_digest_X7_mixInto rfl rfl rfl (by decide +kernel) ⟨Nat.le_of_ble_eq_true rfl, Nat.le_of_ble_eq_true rfl⟩) (preV0 (ci := 7) (q0 := 0) (C := RX7) (wc := [(t_layers_h, .inr (7, [.int t_layers_width, .int t_layers_most, .ref t_layers_cells_h, .int t_layers_lines])), (t_layers_cells_h, .inl (cI, t_layers_cells_n, .inl t_layers_cells_a))]) hK hP hD hN [5, 14] rfl rfl (by decide) rfl rfl) rfl rfl hl.1 rfl (lv_room (Nat.le_of_ble_eq_true rfl)) dX9_digest_63 ⟨Nat.zero_le _, Nat.zero_le _⟩) hP hD hS hA [5, 14] rfl (fun H locs hP hS => ?_)
    refine lv_lstore_n (lv' := [(1, .long r15), (0, .ref t_h)]) hx hb dX9_digest_66 rfl hl (by decide) rfl (fun ls hl => ?_)
    refine lv_aload_n hx hb dX9_digest_67 rfl (lv_at hl 1 rfl) ?_
    refine va_get (D := G) (ci := 9) (v := .ref t_sights_h) (C := RX9) (T := TX9) (N := 17) hx hb hts iwX9 hown hK hP 0 rfl rfl 5 (by decide) fl_38 (fun _ h9 => h9) rfl dX9_digest_68 ?_
    refine lv_lload_n hx hb dX9_digest_71 rfl (lv_at hl 0 rfl) ?_
    obtain ⟨r17, hc18, hf⟩ := ob_some hf
    refine af_lR (va_runV (As := [.long r15]) (rest := []) ⟨hx, hb, hml, hown, hts⟩ (k_X7_mixInto l G cI cJ (t_h := t_sights_h) (t_cells_h := t_sights_cells_h) (t_width := t_sights_width) (t_most := t_sights_most) (t_lines := t_sights_lines) (t_cells_n := t_sights_cells_n) (t_cells_a := t_sights_cells_a) (x1 := r15) (sz := _) (hf := hc18)) (cwV 1 hts gX9_digest_X7_mixInto rfl rfl rfl (by decide +kernel) ⟨Nat.le_of_ble_eq_true rfl, Nat.le_of_ble_eq_true rfl⟩) (preV0 (ci := 7) (q0 := 0) (C := RX7) (wc := [(t_sights_h, .inr (7, [.int t_sights_width, .int t_sights_most, .ref t_sights_cells_h, .int t_sights_lines])), (t_sights_cells_h, .inl (cI, t_sights_cells_n, .inl t_sights_cells_a))]) hK hP hD hN [6, 15] rfl rfl (by decide) rfl rfl) rfl rfl hl.1 rfl (lv_room (Nat.le_of_ble_eq_true rfl)) dX9_digest_72 ⟨Nat.zero_le _, Nat.zero_le _⟩) hP hD hS hA [6, 15] rfl (fun H locs hP hS => ?_)
    refine lv_lstore_n (lv' := [(1, .long r17), (0, .ref t_h)]) hx hb dX9_digest_75 rfl hl (by decide) rfl (fun ls hl => ?_)
    refine lv_aload_n hx hb dX9_digest_76 rfl (lv_at hl 1 rfl) ?_
    refine va_get (D := G) (ci := 9) (v := .ref t_shadows_h) (C := RX9) (T := TX9) (N := 17) hx hb hts iwX9 hown hK hP 0 rfl rfl 6 (by decide) fl_41 (fun _ h9 => h9) rfl dX9_digest_77 ?_
    refine lv_lload_n hx hb dX9_digest_80 rfl (lv_at hl 0 rfl) ?_
    obtain ⟨r19, hc20, hf⟩ := ob_some hf
    refine af_lR (va_runV (As := [.long r17]) (rest := []) ⟨hx, hb, hml, hown, hts⟩ (k_X7_mixInto l G cI cJ (t_h := t_shadows_h) (t_cells_h := t_shadows_cells_h) (t_width := t_shadows_width) (t_most := t_shadows_most) (t_lines := t_shadows_lines) (t_cells_n := t_shadows_cells_n) (t_cells_a := t_shadows_cells_a) (x1 := r17) (sz := _) (hf := hc20)) (cwV 1 hts gX9_digest_X7_mixInto rfl rfl rfl (by decide +kernel) ⟨Nat.le_of_ble_eq_true rfl, Nat.le_of_ble_eq_true rfl⟩) (preV0 (ci := 7) (q0 := 0) (C := RX7) (wc := [(t_shadows_h, .inr (7, [.int t_shadows_width, .int t_shadows_most, .ref t_shadows_cells_h, .int t_shadows_lines])), (t_shadows_cells_h, .inl (cI, t_shadows_cells_n, .inl t_shadows_cells_a))]) hK hP hD hN [7, 16] rfl rfl (by decide) rfl rfl) rfl rfl hl.1 rfl (lv_room (Nat.le_of_ble_eq_true rfl)) dX9_digest_81 ⟨Nat.zero_le _, Nat.zero_le _⟩) hP hD hS hA [7, 16] rfl (fun H locs hP hS => ?_)
    refine lv_lstore_n (lv' := [(1, .long r19), (0, .ref t_h)]) hx hb dX9_digest_84 rfl hl (by decide) rfl (fun ls hl => ?_)
    refine lv_aload_n hx hb dX9_digest_85 rfl (lv_at hl 1 rfl) ?_
    refine va_get (D := G) (ci := 9) (v := .ref t_heights_h) (C := RX9) (T := TX9) (N := 17) hx hb hts iwX9 hown hK hP 0 rfl rfl 7 (by decide) fl_44 (fun _ h9 => h9) rfl dX9_digest_86 ?_
    refine lv_lload_n hx hb dX9_digest_89 rfl (lv_at hl 0 rfl) ?_
    obtain ⟨r21, hc22, hf⟩ := ob_some hf
    refine af_lR (va_runV (As := [.long r19]) (rest := []) ⟨hx, hb, hml, hown, hts⟩ (k_X7_mixInto l G cI cJ (t_h := t_heights_h) (t_cells_h := t_heights_cells_h) (t_width := t_heights_width) (t_most := t_heights_most) (t_lines := t_heights_lines) (t_cells_n := t_heights_cells_n) (t_cells_a := t_heights_cells_a) (x1 := r19) (sz := _) (hf := hc22)) (cwV 1 hts gX9_digest_X7_mixInto rfl rfl rfl (by decide +kernel) ⟨Nat.le_of_ble_eq_true rfl, Nat.le_of_ble_eq_true rfl⟩) (preV0 (ci := 7) (q0 := 0) (C := RX7) (wc := [(t_heights_h, .inr (7, [.int t_heights_width, .int t_heights_most, .ref t_heights_cells_h, .int t_heights_lines])), (t_heights_cells_h, .inl (cI, t_heights_cells_n, .inl t_heights_cells_a))]) hK hP hD hN [8, 17] rfl rfl (by decide) rfl rfl) rfl rfl hl.1 rfl (lv_room (Nat.le_of_ble_eq_true rfl)) dX9_digest_90 ⟨Nat.zero_le _, Nat.zero_le _⟩) hP hD hS hA [8, 17] rfl (fun H locs hP hS => ?_)
    refine lv_lstore_n (lv' := [(1, .long r21), (0, .ref t_h)]) hx hb dX9_digest_93 rfl hl (by decide) rfl (fun ls hl => ?_)
    refine lv_aload_n hx hb dX9_digest_94 rfl (lv_at hl 1 rfl) ?_
    refine va_get (D := G) (ci := 9) (v := .ref t_pairs_h) (C := RX9) (T := TX9) (N := 17) hx hb hts iwX9 hown hK hP 0 rfl rfl 8 (by decide) fl_47 (fun _ h9 => h9) rfl dX9_digest_95 ?_
    refine lv_lload_n hx hb dX9_digest_98 rfl (lv_at hl 0 rfl) ?_
    obtain ⟨r23, hc24, hf⟩ := ob_some hf
    refine af_lR (va_runV (As := [.long r21]) (rest := []) ⟨hx, hb, hml, hown, hts⟩ (k_X7_mixInto l G cI cJ (t_h := t_pairs_h) (t_cells_h := t_pairs_cells_h) (t_width := t_pairs_width) (t_most := t_pairs_most) (t_lines := t_pairs_lines) (t_cells_n := t_pairs_cells_n) (t_cells_a := t_pairs_cells_a) (x1 := r21) (sz := _) (hf := hc24)) (cwV 1 hts gX9_digest_X7_mixInto rfl rfl rfl (by decide +kernel) ⟨Nat.le_of_ble_eq_true rfl, Nat.le_of_ble_eq_true rfl⟩) (preV0 (ci := 7) (q0 := 0) (C := RX7) (wc := [(t_pairs_h, .inr (7, [.int t_pairs_width, .int t_pairs_most, .ref t_pairs_cells_h, .int t_pairs_lines])), (t_pairs_cells_h, .inl (cI, t_pairs_cells_n, .inl t_pairs_cells_a))]) hK hP hD hN [9, 18] rfl rfl (by decide) rfl rfl) rfl rfl hl.1 rfl (lv_room (Nat.le_of_ble_eq_true rfl)) dX9_digest_99 ⟨Nat.zero_le _, Nat.zero_le _⟩) hP hD hS hA [9, 18] rfl (fun H locs hP hS => ?_)
    refine lv_lstore_n (lv' := [(1, .long r23), (0, .ref t_h)]) hx hb dX9_digest_102 rfl hl (by decide) rfl (fun ls hl => ?_)
    refine lv_aload_n hx hb dX9_digest_103 rfl (lv_at hl 1 rfl) ?_
    refine va_get (D := G) (ci := 9) (v := .ref t_rows_h) (C := RX9) (T := TX9) (N := 17) hx hb hts iwX9 hown hK hP 0 rfl rfl 9 (by decide) fl_50 (fun _ h9 => h9) rfl dX9_digest_104 ?_
    refine lv_lload_n hx hb dX9_digest_107 rfl (lv_at hl 0 rfl) ?_
    obtain ⟨r25, hc26, hf⟩ := ob_some hf
    refine af_lR (va_runV (As := [.long r23]) (rest := []) ⟨hx, hb, hml, hown, hts⟩ (k_X7_mixInto l G cI cJ (t_h := t_rows_h) (t_cells_h := t_rows_cells_h) (t_width := t_rows_width) (t_most := t_rows_most) (t_lines := t_rows_lines) (t_cells_n := t_rows_cells_n) (t_cells_a := t_rows_cells_a) (x1 := r23) (sz := _) (hf := hc26)) (cwV 1 hts gX9_digest_X7_mixInto rfl rfl rfl (by decide +kernel) ⟨Nat.le_of_ble_eq_true rfl, Nat.le_of_ble_eq_true rfl⟩) (preV0 (ci := 7) (q0 := 0) (C := RX7) (wc := [(t_rows_h, .inr (7, [.int t_rows_width, .int t_rows_most, .ref t_rows_cells_h, .int t_rows_lines])), (t_rows_cells_h, .inl (cI, t_rows_cells_n, .inl t_rows_cells_a))]) hK hP hD hN [10, 19] rfl rfl (by decide) rfl rfl) rfl rfl hl.1 rfl (lv_room (Nat.le_of_ble_eq_true rfl)) dX9_digest_108 ⟨Nat.zero_le _, Nat.zero_le _⟩) hP hD hS hA [10, 19] rfl (fun H locs hP hS => ?_)
    refine lv_lstore_n (lv' := [(1, .long r25), (0, .ref t_h)]) hx hb dX9_digest_111 rfl hl (by decide) rfl (fun ls hl => ?_)
    refine lv_aload_n hx hb dX9_digest_112 rfl (lv_at hl 1 rfl) ?_
    refine va_get (D := G) (ci := 9) (v := .ref t_notes_h) (C := RX9) (T := TX9) (N := 17) hx hb hts iwX9 hown hK hP 0 rfl rfl 10 (by decide) fl_53 (fun _ h9 => h9) rfl dX9_digest_113 ?_
    refine lv_lload_n hx hb dX9_digest_116 rfl (lv_at hl 0 rfl) ?_
    obtain ⟨r27, hc28, hf⟩ := ob_some hf
    refine af_lR (va_runV (As := [.long r25]) (rest := []) ⟨hx, hb, hml, hown, hts⟩ (k_X7_mixInto l G cI cJ (t_h := t_notes_h) (t_cells_h := t_notes_cells_h) (t_width := t_notes_width) (t_most := t_notes_most) (t_lines := t_notes_lines) (t_cells_n := t_notes_cells_n) (t_cells_a := t_notes_cells_a) (x1 := r25) (sz := _) (hf := hc28)) (cwV 1 hts gX9_digest_X7_mixInto rfl rfl rfl (by decide +kernel) ⟨Nat.le_of_ble_eq_true rfl, Nat.le_of_ble_eq_true rfl⟩) (preV0 (ci := 7) (q0 := 0) (C := RX7) (wc := [(t_notes_h, .inr (7, [.int t_notes_width, .int t_notes_most, .ref t_notes_cells_h, .int t_notes_lines])), (t_notes_cells_h, .inl (cI, t_notes_cells_n, .inl t_notes_cells_a))]) hK hP hD hN [11, 20] rfl rfl (by decide) rfl rfl) rfl rfl hl.1 rfl (lv_room (Nat.le_of_ble_eq_true rfl)) dX9_digest_117 ⟨Nat.zero_le _, Nat.zero_le _⟩) hP hD hS hA [11, 20] rfl (fun H locs hP hS => ?_)
    refine lv_lstore_n (lv' := [(1, .long r27), (0, .ref t_h)]) hx hb dX9_digest_120 rfl hl (by decide) rfl (fun ls hl => ?_)
    refine lv_aload_n hx hb dX9_digest_121 rfl (lv_at hl 1 rfl) ?_
    refine va_get (D := G) (ci := 9) (v := .ref t_fraction_h) (C := RX9) (T := TX9) (N := 17) hx hb hts iwX9 hown hK hP 0 rfl rfl 0 (by decide) fl_10 (fun _ h9 => h9) rfl dX9_digest_122 ?_
    refine lv_lload_n hx hb dX9_digest_125 rfl (lv_at hl 0 rfl) ?_
    obtain ⟨r29, hc30, hf⟩ := ob_some hf
    refine af_lR (va_runV (As := [.long r27]) (rest := []) ⟨hx, hb, hml, hown, hts⟩ (k_X1_mixInto l G cI cJ (t_h := t_fraction_h) (t_above := t_fraction_above) (t_below := t_fraction_below) (x1 := r27) (sz := _) (hf := hc30)) (cwV 1 hts gX9_digest_X1_mixInto rfl rfl rfl (by decide +kernel) ⟨Nat.le_of_ble_eq_true rfl, Nat.le_of_ble_eq_true rfl⟩) (preV0 (ci := 1) (q0 := 0) (C := RX1) (wc := [(t_fraction_h, .inr (1, [.long t_fraction_above, .long t_fraction_below]))]) hK hP hD hN [1] rfl rfl (by decide) rfl rfl) rfl rfl hl.1 rfl (lv_room (Nat.le_of_ble_eq_true rfl)) dX9_digest_126 ⟨Nat.zero_le _, Nat.zero_le _⟩) hP hD hS hA [1] rfl (fun H locs hP hS => ?_)
    exact hret r29 129 _ _ _ dX9_digest_129 hf hP hD hS
  clear hf
  have hl1 : ∀ (n : Nat) (u1 : Int64) (u2 : Int32), it (fX9_digest_L1 t_firstEdges_lines t_secondEdges_lines t_layers_lines t_sights_lines t_shadows_lines t_heights_lines t_pairs_lines t_rows_lines t_notes_lines) n (u1, u2) = some x8 → ∀ (H : Heap) (locs : List Loc) (ls : Array Slot), va_P G vwCl [(t_h, .inr (9, [.ref t_fraction_h, .ref t_settings_h, .ref t_firstEdges_h, .ref t_secondEdges_h, .ref t_layers_h, .ref t_sights_h, .ref t_shadows_h, .ref t_heights_h, .ref t_pairs_h, .ref t_rows_h, .ref t_notes_h, .ref t_matching_h, .ref t_speeds_h, .ref t_layering_h, .ref t_boards_h, .ref t_years_h, .ref t_sheets_h])), (t_fraction_h, .inr (1, [.long t_fraction_above, .long t_fraction_below])), (t_settings_h, .inr (4, [.int t_settings_base, .int t_settings_slip, .int t_settings_low, .int t_settings_high, .int t_settings_unlike, .int t_settings_alone])), (t_firstEdges_h, .inr (7, [.int t_firstEdges_width, .int t_firstEdges_most, .ref t_firstEdges_cells_h, .int t_firstEdges_lines])), (t_secondEdges_h, .inr (7, [.int t_secondEdges_width, .int t_secondEdges_most, .ref t_secondEdges_cells_h, .int t_secondEdges_lines])), (t_layers_h, .inr (7, [.int t_layers_width, .int t_layers_most, .ref t_layers_cells_h, .int t_layers_lines])), (t_sights_h, .inr (7, [.int t_sights_width, .int t_sights_most, .ref t_sights_cells_h, .int t_sights_lines])), (t_shadows_h, .inr (7, [.int t_shadows_width, .int t_shadows_most, .ref t_shadows_cells_h, .int t_shadows_lines])), (t_heights_h, .inr (7, [.int t_heights_width, .int t_heights_most, .ref t_heights_cells_h, .int t_heights_lines])), (t_pairs_h, .inr (7, [.int t_pairs_width, .int t_pairs_most, .ref t_pairs_cells_h, .int t_pairs_lines])), (t_rows_h, .inr (7, [.int t_rows_width, .int t_rows_most, .ref t_rows_cells_h, .int t_rows_lines])), (t_notes_h, .inr (7, [.int t_notes_width, .int t_notes_most, .ref t_notes_cells_h, .int t_notes_lines])), (t_firstEdges_cells_h, .inl (cI, t_firstEdges_cells_n, .inl t_firstEdges_cells_a)), (t_secondEdges_cells_h, .inl (cI, t_secondEdges_cells_n, .inl t_secondEdges_cells_a)), (t_layers_cells_h, .inl (cI, t_layers_cells_n, .inl t_layers_cells_a)), (t_sights_cells_h, .inl (cI, t_sights_cells_n, .inl t_sights_cells_a)), (t_shadows_cells_h, .inl (cI, t_shadows_cells_n, .inl t_shadows_cells_a)), (t_heights_cells_h, .inl (cI, t_heights_cells_n, .inl t_heights_cells_a)), (t_pairs_cells_h, .inl (cI, t_pairs_cells_n, .inl t_pairs_cells_a)), (t_rows_cells_h, .inl (cI, t_rows_cells_n, .inl t_rows_cells_a)), (t_notes_cells_h, .inl (cI, t_notes_cells_n, .inl t_notes_cells_a))] H → va_D A [(t_h, .inr (9, [.ref t_fraction_h, .ref t_settings_h, .ref t_firstEdges_h, .ref t_secondEdges_h, .ref t_layers_h, .ref t_sights_h, .ref t_shadows_h, .ref t_heights_h, .ref t_pairs_h, .ref t_rows_h, .ref t_notes_h, .ref t_matching_h, .ref t_speeds_h, .ref t_layering_h, .ref t_boards_h, .ref t_years_h, .ref t_sheets_h])), (t_fraction_h, .inr (1, [.long t_fraction_above, .long t_fraction_below])), (t_settings_h, .inr (4, [.int t_settings_base, .int t_settings_slip, .int t_settings_low, .int t_settings_high, .int t_settings_unlike, .int t_settings_alone])), (t_firstEdges_h, .inr (7, [.int t_firstEdges_width, .int t_firstEdges_most, .ref t_firstEdges_cells_h, .int t_firstEdges_lines])), (t_secondEdges_h, .inr (7, [.int t_secondEdges_width, .int t_secondEdges_most, .ref t_secondEdges_cells_h, .int t_secondEdges_lines])), (t_layers_h, .inr (7, [.int t_layers_width, .int t_layers_most, .ref t_layers_cells_h, .int t_layers_lines])), (t_sights_h, .inr (7, [.int t_sights_width, .int t_sights_most, .ref t_sights_cells_h, .int t_sights_lines])), (t_shadows_h, .inr (7, [.int t_shadows_width, .int t_shadows_most, .ref t_shadows_cells_h, .int t_shadows_lines])), (t_heights_h, .inr (7, [.int t_heights_width, .int t_heights_most, .ref t_heights_cells_h, .int t_heights_lines])), (t_pairs_h, .inr (7, [.int t_pairs_width, .int t_pairs_most, .ref t_pairs_cells_h, .int t_pairs_lines])), (t_rows_h, .inr (7, [.int t_rows_width, .int t_rows_most, .ref t_rows_cells_h, .int t_rows_lines])), (t_notes_h, .inr (7, [.int t_notes_width, .int t_notes_most, .ref t_notes_cells_h, .int t_notes_lines])), (t_firstEdges_cells_h, .inl (cI, t_firstEdges_cells_n, .inl t_firstEdges_cells_a)), (t_secondEdges_cells_h, .inl (cI, t_secondEdges_cells_n, .inl t_secondEdges_cells_a)), (t_layers_cells_h, .inl (cI, t_layers_cells_n, .inl t_layers_cells_a)), (t_sights_cells_h, .inl (cI, t_sights_cells_n, .inl t_sights_cells_a)), (t_shadows_cells_h, .inl (cI, t_shadows_cells_n, .inl t_shadows_cells_a)), (t_heights_cells_h, .inl (cI, t_heights_cells_n, .inl t_heights_cells_a)), (t_pairs_cells_h, .inl (cI, t_pairs_cells_n, .inl t_pairs_cells_a)), (t_rows_cells_h, .inl (cI, t_rows_cells_n, .inl t_rows_cells_a)), (t_notes_cells_h, .inl (cI, t_notes_cells_n, .inl t_notes_cells_a))] → va_S A s.heap H locs → lv_has ls 4 [(0, .ref t_h), (1, .long u1), (3, .int u2)] → W p l e rmX9_digest s m args below meth c H locs 0 0 Q (F0 m 6 ls []) := by
    intro n
    induction n with
    | zero => intro u1 u2 hz; exact (it_zero hz).elim
    | succ n ih =>
      intro u1 u2 hz H locs ls hP hD hS hl
      obtain ⟨x9, hf, hq⟩ := it_succ hz
      unfold fX9_digest_L1 at hf
      dsimp only [un2] at hf
      refine lv_iload_n hx hb dX9_digest_6 rfl (lv_at hl 2 rfl) ?_
      refine lv_bipush (v := 8) hx hb dX9_digest_7 (by decide) ?_
      refine lv_icmp_gt (tgt := 31) hx hb dX9_digest_9 (by decide) (fun c3 => ?_) (fun c3 => ?_)
      · have hf := ift hf c3
        cases hf
        exact hx1_0 _ hq _ _ _ hP hD hS (lv_sub hl [0, 1] rfl)
      · have hf := iff_ hf c3
        refine lv_ldc2 (v := 31) hx hb hown kc_263 dX9_digest_12 ?_
        refine lv_lload_n hx hb dX9_digest_15 rfl (lv_at hl 1 rfl) ?_
        refine lv_lmul hx hb dX9_digest_16 ?_
        refine lv_aload_n hx hb dX9_digest_17 rfl (lv_at hl 0 rfl) ?_
        refine lv_iload_n hx hb dX9_digest_18 rfl (lv_at hl 2 rfl) ?_
        obtain ⟨r4, hc5, hf⟩ := ob_some hf
        refine af_iR (va_runV (As := [.int u2]) (rest := [.long (31 * u1)]) ⟨hx, hb, hml, hown, hts⟩ (k_X9_count l G cI cJ (t_h := t_h) (t_fraction_h := t_fraction_h) (t_settings_h := t_settings_h) (t_firstEdges_h := t_firstEdges_h) (t_secondEdges_h := t_secondEdges_h) (t_layers_h := t_layers_h) (t_sights_h := t_sights_h) (t_shadows_h := t_shadows_h) (t_heights_h := t_heights_h) (t_pairs_h := t_pairs_h) (t_rows_h := t_rows_h) (t_notes_h := t_notes_h) (t_matching_h := t_matching_h) (t_speeds_h := t_speeds_h) (t_layering_h := t_layering_h) (t_boards_h := t_boards_h) (t_years_h := t_years_h) (t_sheets_h := t_sheets_h) (t_firstEdges_cells_h := t_firstEdges_cells_h) (t_secondEdges_cells_h := t_secondEdges_cells_h) (t_layers_cells_h := t_layers_cells_h) (t_sights_cells_h := t_sights_cells_h) (t_shadows_cells_h := t_shadows_cells_h) (t_heights_cells_h := t_heights_cells_h) (t_pairs_cells_h := t_pairs_cells_h) (t_rows_cells_h := t_rows_cells_h) (t_notes_cells_h := t_notes_cells_h) (t_firstEdges_width := t_firstEdges_width) (t_firstEdges_most := t_firstEdges_most) (t_firstEdges_lines := t_firstEdges_lines) (t_secondEdges_width := t_secondEdges_width) (t_secondEdges_most := t_secondEdges_most) (t_secondEdges_lines := t_secondEdges_lines) (t_layers_width := t_layers_width) (t_layers_most := t_layers_most) (t_layers_lines := t_layers_lines) (t_sights_width := t_sights_width) (t_sights_most := t_sights_most) (t_sights_lines := t_sights_lines) (t_shadows_width := t_shadows_width) (t_shadows_most := t_shadows_most) (t_shadows_lines := t_shadows_lines) (t_heights_width := t_heights_width) (t_heights_most := t_heights_most) (t_heights_lines := t_heights_lines) (t_pairs_width := t_pairs_width) (t_pairs_most := t_pairs_most) (t_pairs_lines := t_pairs_lines) (t_rows_width := t_rows_width) (t_rows_most := t_rows_most) (t_rows_lines := t_rows_lines) (t_notes_width := t_notes_width) (t_notes_most := t_notes_most) (t_notes_lines := t_notes_lines) (x1 := u2) (sz := _) (hf := hc5)) (cwV 1 hts gX9_digest_X9_count rfl rfl rfl (by decide +kernel) ⟨Nat.le_of_ble_eq_true rfl, Nat.le_of_ble_eq_true rfl⟩) (preV0 (ci := 9) (q0 := 0) (C := RX9) (wc := [(t_h, .inr (9, [.ref t_fraction_h, .ref t_settings_h, .ref t_firstEdges_h, .ref t_secondEdges_h, .ref t_layers_h, .ref t_sights_h, .ref t_shadows_h, .ref t_heights_h, .ref t_pairs_h, .ref t_rows_h, .ref t_notes_h, .ref t_matching_h, .ref t_speeds_h, .ref t_layering_h, .ref t_boards_h, .ref t_years_h, .ref t_sheets_h])), (t_firstEdges_h, .inr (7, [.int t_firstEdges_width, .int t_firstEdges_most, .ref t_firstEdges_cells_h, .int t_firstEdges_lines])), (t_secondEdges_h, .inr (7, [.int t_secondEdges_width, .int t_secondEdges_most, .ref t_secondEdges_cells_h, .int t_secondEdges_lines])), (t_layers_h, .inr (7, [.int t_layers_width, .int t_layers_most, .ref t_layers_cells_h, .int t_layers_lines])), (t_sights_h, .inr (7, [.int t_sights_width, .int t_sights_most, .ref t_sights_cells_h, .int t_sights_lines])), (t_shadows_h, .inr (7, [.int t_shadows_width, .int t_shadows_most, .ref t_shadows_cells_h, .int t_shadows_lines])), (t_heights_h, .inr (7, [.int t_heights_width, .int t_heights_most, .ref t_heights_cells_h, .int t_heights_lines])), (t_pairs_h, .inr (7, [.int t_pairs_width, .int t_pairs_most, .ref t_pairs_cells_h, .int t_pairs_lines])), (t_rows_h, .inr (7, [.int t_rows_width, .int t_rows_most, .ref t_rows_cells_h, .int t_rows_lines])), (t_notes_h, .inr (7, [.int t_notes_width, .int t_notes_most, .ref t_notes_cells_h, .int t_notes_lines]))]) hK hP hD hN [0, 3, 4, 5, 6, 7, 8, 9, 10, 11] rfl rfl (by decide) rfl rfl) rfl rfl hl.1 rfl (lv_room (Nat.le_of_ble_eq_true rfl)) dX9_digest_19 ⟨Nat.zero_le _, Nat.zero_le _⟩) hP hD hS hA [0, 3, 4, 5, 6, 7, 8, 9, 10, 11] rfl (fun H locs hP hS => ?_)
        refine lv_i2l (v := Int32.toInt64 r4) hx hb dX9_digest_22 rfl ?_
        refine lv_ladd hx hb dX9_digest_23 ?_
        refine lv_topl (fun v6 ev6 => ?_)
        have hf := bv_at ev6 hf
        refine lv_lstore_n (lv' := [(1, .long v6), (0, .ref t_h), (3, .int u2)]) hx hb dX9_digest_24 rfl hl (by decide) rfl (fun ls hl => ?_)
        obtain ⟨v7, ev7⟩ : ∃ y : Int32, y = u2 + 1 := ⟨_, rfl⟩
        have hf := bv_at ev7 hf
        refine lv_iinc (v := v7) (lv' := [(3, .int v7), (1, .long v6), (0, .ref t_h)]) hx hb dX9_digest_25 hl (k := 2) rfl (by rw [ev7]; rfl) (by decide) rfl (fun ls hl => ?_)
        refine lv_goto (tgt := 6) hx hb dX9_digest_28 (by decide) ?_
        cases hf
        exact ih _ _ hq _ _ _ hP hD hS (lv_sub hl [2, 1, 0] rfl)
  exact hl1 _ _ _ ht1 _ _ _ hP hD hS (lv_sub hl [2, 1, 0] rfl)
