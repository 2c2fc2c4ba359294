set_option maxRecDepth 20000 in
theorem ggX10_row_X10_in : GoodIn wsX10_row wsX10_in := goodIn_r _ [7] (by decide +kernel) (by decide +kernel)
set_option maxRecDepth 20000 in
theorem gX10_row_X10_in : GoodIn wsX10_row (va_wsS RX10 89 yX10_in wsX10_in) := goodIn_app (goodIn_of _ (by decide +kernel)) ggX10_row_X10_in
theorem dX10_row_0 : decode cX10_row 0 = .ok (.iload_n 1, 1) := by decide +kernel
theorem dX10_row_1 : decode cX10_row 1 = .ok (.iconst 0, 1) := by decide +kernel
theorem dX10_row_2 : decode cX10_row 2 = .ok (.bipush 7, 2) := by decide +kernel
theorem dX10_row_4 : decode cX10_row 4 = .ok (.invokestatic 89, 3) := by decide +kernel
theorem dX10_row_7 : decode cX10_row 7 = .ok (.ifCond .eq 34, 3) := by decide +kernel
theorem dX10_row_10 : decode cX10_row 10 = .ok (.iload_n 2, 1) := by decide +kernel
theorem dX10_row_11 : decode cX10_row 11 = .ok (.iconst 0, 1) := by decide +kernel
theorem dX10_row_12 : decode cX10_row 12 = .ok (.bipush 23, 2) := by decide +kernel
theorem dX10_row_14 : decode cX10_row 14 = .ok (.invokestatic 89, 3) := by decide +kernel
theorem dX10_row_17 : decode cX10_row 17 = .ok (.ifCond .eq 24, 3) := by decide +kernel
theorem dX10_row_20 : decode cX10_row 20 = .ok (.iload_n 3, 1) := by decide +kernel
theorem dX10_row_21 : decode cX10_row 21 = .ok (.iconst 0, 1) := by decide +kernel
theorem dX10_row_22 : decode cX10_row 22 = .ok (.bipush 7, 2) := by decide +kernel
theorem dX10_row_24 : decode cX10_row 24 = .ok (.invokestatic 89, 3) := by decide +kernel
theorem dX10_row_27 : decode cX10_row 27 = .ok (.ifCond .eq 14, 3) := by decide +kernel
theorem dX10_row_30 : decode cX10_row 30 = .ok (.iload 4, 2) := by decide +kernel
theorem dX10_row_32 : decode cX10_row 32 = .ok (.iconst (-1), 1) := by decide +kernel
theorem dX10_row_33 : decode cX10_row 33 = .ok (.ldc 88, 2) := by decide +kernel
theorem dX10_row_35 : decode cX10_row 35 = .ok (.invokestatic 89, 3) := by decide +kernel
theorem dX10_row_38 : decode cX10_row 38 = .ok (.ifCond .ne 6, 3) := by decide +kernel
theorem dX10_row_41 : decode cX10_row 41 = .ok (.bipush (-2), 2) := by decide +kernel
theorem dX10_row_43 : decode cX10_row 43 = .ok (.ireturn, 1) := by decide +kernel
theorem dX10_row_44 : decode cX10_row 44 = .ok (.aload_n 0, 1) := by decide +kernel
theorem dX10_row_45 : decode cX10_row 45 = .ok (.getfield 196, 3) := by decide +kernel
theorem dX10_row_48 : decode cX10_row 48 = .ok (.sipush 200, 3) := by decide +kernel
theorem dX10_row_51 : decode cX10_row 51 = .ok (.if_icmp .ne 6, 3) := by decide +kernel
theorem dX10_row_54 : decode cX10_row 54 = .ok (.bipush (-4), 2) := by decide +kernel
theorem dX10_row_56 : decode cX10_row 56 = .ok (.ireturn, 1) := by decide +kernel
theorem dX10_row_57 : decode cX10_row 57 = .ok (.aload_n 0, 1) := by decide +kernel
theorem dX10_row_58 : decode cX10_row 58 = .ok (.getfield 49, 3) := by decide +kernel
theorem dX10_row_61 : decode cX10_row 61 = .ok (.iconst 4, 1) := by decide +kernel
theorem dX10_row_62 : decode cX10_row 62 = .ok (.aload_n 0, 1) := by decide +kernel
theorem dX10_row_63 : decode cX10_row 63 = .ok (.getfield 196, 3) := by decide +kernel
theorem dX10_row_66 : decode cX10_row 66 = .ok (.imul, 1) := by decide +kernel
theorem dX10_row_67 : decode cX10_row 67 = .ok (.iload_n 1, 1) := by decide +kernel
theorem dX10_row_68 : decode cX10_row 68 = .ok (.iastore, 1) := by decide +kernel
theorem dX10_row_69 : decode cX10_row 69 = .ok (.aload_n 0, 1) := by decide +kernel
theorem dX10_row_70 : decode cX10_row 70 = .ok (.getfield 49, 3) := by decide +kernel
theorem dX10_row_73 : decode cX10_row 73 = .ok (.iconst 4, 1) := by decide +kernel
theorem dX10_row_74 : decode cX10_row 74 = .ok (.aload_n 0, 1) := by decide +kernel
theorem dX10_row_75 : decode cX10_row 75 = .ok (.getfield 196, 3) := by decide +kernel
theorem dX10_row_78 : decode cX10_row 78 = .ok (.imul, 1) := by decide +kernel
theorem dX10_row_79 : decode cX10_row 79 = .ok (.iconst 1, 1) := by decide +kernel
theorem dX10_row_80 : decode cX10_row 80 = .ok (.iadd, 1) := by decide +kernel
theorem dX10_row_81 : decode cX10_row 81 = .ok (.iload_n 2, 1) := by decide +kernel
theorem dX10_row_82 : decode cX10_row 82 = .ok (.iastore, 1) := by decide +kernel
theorem dX10_row_83 : decode cX10_row 83 = .ok (.aload_n 0, 1) := by decide +kernel
theorem dX10_row_84 : decode cX10_row 84 = .ok (.getfield 49, 3) := by decide +kernel
theorem dX10_row_87 : decode cX10_row 87 = .ok (.iconst 4, 1) := by decide +kernel
theorem dX10_row_88 : decode cX10_row 88 = .ok (.aload_n 0, 1) := by decide +kernel
theorem dX10_row_89 : decode cX10_row 89 = .ok (.getfield 196, 3) := by decide +kernel
theorem dX10_row_92 : decode cX10_row 92 = .ok (.imul, 1) := by decide +kernel
theorem dX10_row_93 : decode cX10_row 93 = .ok (.iconst 2, 1) := by decide +kernel
theorem dX10_row_94 : decode cX10_row 94 = .ok (.iadd, 1) := by decide +kernel
theorem dX10_row_95 : decode cX10_row 95 = .ok (.iload_n 3, 1) := by decide +kernel
theorem dX10_row_96 : decode cX10_row 96 = .ok (.iastore, 1) := by decide +kernel
theorem dX10_row_97 : decode cX10_row 97 = .ok (.aload_n 0, 1) := by decide +kernel
theorem dX10_row_98 : decode cX10_row 98 = .ok (.getfield 49, 3) := by decide +kernel
theorem dX10_row_101 : decode cX10_row 101 = .ok (.iconst 4, 1) := by decide +kernel
theorem dX10_row_102 : decode cX10_row 102 = .ok (.aload_n 0, 1) := by decide +kernel
theorem dX10_row_103 : decode cX10_row 103 = .ok (.getfield 196, 3) := by decide +kernel
theorem dX10_row_106 : decode cX10_row 106 = .ok (.imul, 1) := by decide +kernel
theorem dX10_row_107 : decode cX10_row 107 = .ok (.iconst 3, 1) := by decide +kernel
theorem dX10_row_108 : decode cX10_row 108 = .ok (.iadd, 1) := by decide +kernel
theorem dX10_row_109 : decode cX10_row 109 = .ok (.iload 4, 2) := by decide +kernel
theorem dX10_row_111 : decode cX10_row 111 = .ok (.iastore, 1) := by decide +kernel
theorem dX10_row_112 : decode cX10_row 112 = .ok (.aload_n 0, 1) := by decide +kernel
theorem dX10_row_113 : decode cX10_row 113 = .ok (.dup, 1) := by decide +kernel
theorem dX10_row_114 : decode cX10_row 114 = .ok (.getfield 196, 3) := by decide +kernel
theorem dX10_row_117 : decode cX10_row 117 = .ok (.iconst 1, 1) := by decide +kernel
theorem dX10_row_118 : decode cX10_row 118 = .ok (.iadd, 1) := by decide +kernel
theorem dX10_row_119 : decode cX10_row 119 = .ok (.putfield 196, 3) := by decide +kernel
theorem dX10_row_122 : decode cX10_row 122 = .ok (.aload_n 0, 1) := by decide +kernel
theorem dX10_row_123 : decode cX10_row 123 = .ok (.getfield 196, 3) := by decide +kernel
theorem dX10_row_126 : decode cX10_row 126 = .ok (.iconst 1, 1) := by decide +kernel
theorem dX10_row_127 : decode cX10_row 127 = .ok (.isub, 1) := by decide +kernel
theorem dX10_row_128 : decode cX10_row 128 = .ok (.ireturn, 1) := by decide +kernel
set_option maxRecDepth 100000 in
def fX10_row (x1 : Int32) (x2 : Int32) (x3 : Int32) (x4 : Int32) (t_rows : Int32) (t_row_a : Nat → Int32) : Option (Int32 × Int32 × (Nat → Int32)) :=
  ob (fX10_in x1 0 7) fun r1 =>
  if (b2i r1) = 0 then
    some ((-2), t_rows, t_row_a)
  else
    ob (fX10_in x2 0 23) fun r4 =>
    if (b2i r4) = 0 then
      some ((-2), t_rows, t_row_a)
    else
      ob (fX10_in x3 0 7) fun r7 =>
      if (b2i r7) = 0 then
        some ((-2), t_rows, t_row_a)
      else
        ob (fX10_in x4 (-1) 100000) fun r10 =>
        if (b2i r10) = 0 then
          some ((-2), t_rows, t_row_a)
        else
          if t_rows = 200 then
            some ((-4), t_rows, t_row_a)
          else
            gd (bnd (4 * t_rows) 800) <|
            bv (upd t_row_a (Int32.toNatClampNeg (4 * t_rows)) x1) fun a15 =>
            gd (bnd ((4 * t_rows) + 1) 800) <|
            bv (upd a15 (Int32.toNatClampNeg ((4 * t_rows) + 1)) x2) fun a17 =>
            gd (bnd ((4 * t_rows) + 2) 800) <|
            bv (upd a17 (Int32.toNatClampNeg ((4 * t_rows) + 2)) x3) fun a19 =>
            gd (bnd ((4 * t_rows) + 3) 800) <|
            bv (upd a19 (Int32.toNatClampNeg ((4 * t_rows) + 3)) x4) fun a21 =>
            bv (t_rows + 1) fun v22 =>
            some (v22 - 1, v22, a21)
abbrev rmX10_row : Room := { frames := 1, cells := 0, slots := 0, locals := 22 }
theorem iwX10_row_X10 : ∀ w ∈ u_ws RX10 TX10 36, w ∈ wsX10_row := by decide +kernel
set_option maxHeartbeats 4000000 in
set_option maxRecDepth 100000 in
theorem k_X10_row (l : Launch) (G : va_G) (cI cJ : ClassId) (t_h t_edges_h t_lean_h t_word_h t_layer_h t_least_h t_sight_h t_shadow_h t_spanLow_h t_spanHigh_h t_spanAt_h t_numbers_h t_pair_h t_most_h t_row_h t_under_h t_agreed_h : Nat) (sz : Nat) (t_baseWay : Int32) (t_slip : Int32) (t_low : Int32) (t_high : Int32) (t_unlike : Int32) (t_alone : Int32) (t_above : Int64) (t_below : Int64) (t_layers : Int32) (t_sights : Int32) (t_shadows : Int32) (t_endAbove : Int64) (t_endBelow : Int64) (t_speedAbove : Int64) (t_speedBelow : Int64) (t_spans : Int32) (t_found : Int32) (t_pairs : Int32) (t_rows : Int32) (t_notes : Int32) (t_row_a : Nat → Int32) (x1 : Int32) (x2 : Int32) (x3 : Int32) (x4 : Int32) {o_r : Int32} {o_t_rows : Int32} {o_t_row_a : Nat → Int32} (hf : fX10_row x1 x2 x3 x4 t_rows t_row_a = some (o_r, o_t_rows, o_t_row_a)) : MetI l yX10_row wsX10_row rmX10_row [.ref t_h, .int x1, .int x2, .int x3, .int x4] G cI cJ [(t_h, .inr (10, [.int t_baseWay, .int t_slip, .int t_low, .int t_high, .int t_unlike, .int t_alone, .long t_above, .long t_below, .ref t_edges_h, .ref t_lean_h, .ref t_word_h, .int t_layers, .ref t_layer_h, .ref t_least_h, .int t_sights, .ref t_sight_h, .int t_shadows, .ref t_shadow_h, .long t_endAbove, .long t_endBelow, .long t_speedAbove, .long t_speedBelow, .int t_spans, .ref t_spanLow_h, .ref t_spanHigh_h, .ref t_spanAt_h, .int t_found, .ref t_numbers_h, .int t_pairs, .ref t_pair_h, .ref t_most_h, .int t_rows, .ref t_row_h, .int t_notes, .ref t_under_h, .ref t_agreed_h])), (t_row_h, .inl (cI, 800, .inl t_row_a))] [(t_h, .inr (10, [.int t_baseWay, .int t_slip, .int t_low, .int t_high, .int t_unlike, .int t_alone, .long t_above, .long t_below, .ref t_edges_h, .ref t_lean_h, .ref t_word_h, .int t_layers, .ref t_layer_h, .ref t_least_h, .int t_sights, .ref t_sight_h, .int t_shadows, .ref t_shadow_h, .long t_endAbove, .long t_endBelow, .long t_speedAbove, .long t_speedBelow, .int t_spans, .ref t_spanLow_h, .ref t_spanHigh_h, .ref t_spanAt_h, .int t_found, .ref t_numbers_h, .int t_pairs, .ref t_pair_h, .ref t_most_h, .int o_t_rows, .ref t_row_h, .int t_notes, .ref t_under_h, .ref t_agreed_h])), (t_row_h, .inl (cI, 800, .inl o_t_row_a))] sz o_r := by
  refine en_0 (l := l) (y := yX10_row) (wsl := wsX10_row) (rm := rmX10_row) (av := [.ref t_h, .int x1, .int x2, .int x3, .int x4]) (G := G) (cI := cI) (cJ := cJ) (w0 := [(t_h, .inr (10, [.int t_baseWay, .int t_slip, .int t_low, .int t_high, .int t_unlike, .int t_alone, .long t_above, .long t_below, .ref t_edges_h, .ref t_lean_h, .ref t_word_h, .int t_layers, .ref t_layer_h, .ref t_least_h, .int t_sights, .ref t_sight_h, .int t_shadows, .ref t_shadow_h, .long t_endAbove, .long t_endBelow, .long t_speedAbove, .long t_speedBelow, .int t_spans, .ref t_spanLow_h, .ref t_spanHigh_h, .ref t_spanAt_h, .int t_found, .ref t_numbers_h, .int t_pairs, .ref t_pair_h, .ref t_most_h, .int t_rows, .ref t_row_h, .int t_notes, .ref t_under_h, .ref t_agreed_h])), (t_row_h, .inl (cI, 800, .inl t_row_a))]) (sz := sz) (Qf := fun A => Qi0 G cI cJ [(t_h, .inr (10, [.int t_baseWay, .int t_slip, .int t_low, .int t_high, .int t_unlike, .int t_alone, .long t_above, .long t_below, .ref t_edges_h, .ref t_lean_h, .ref t_word_h, .int t_layers, .ref t_layer_h, .ref t_least_h, .int t_sights, .ref t_sight_h, .int t_shadows, .ref t_shadow_h, .long t_endAbove, .long t_endBelow, .long t_speedAbove, .long t_speedBelow, .int t_spans, .ref t_spanLow_h, .ref t_spanHigh_h, .ref t_spanAt_h, .int t_found, .ref t_numbers_h, .int t_pairs, .ref t_pair_h, .ref t_most_h, .int o_t_rows, .ref t_row_h, .int t_notes, .ref t_under_h, .ref t_agreed_h])), (t_row_h, .inl (cI, 800, .inl o_t_row_a))] o_r A) (cc := cX10_row) (maxL := 5) (ret := (some .int)) RX10 (by decide +kernel) rfl rfl (Nat.le_of_ble_eq_true rfl) ?_
  intro p e s m args below meth c A ls Q hQ hx hb hr hts hown hlocks hml hN hK hP hD hS hA hl
  have hl : lv_has ls 5 [(0, .ref t_h), (1, .int x1), (2, .int x2), (3, .int x3), (4, .int x4)] := hl
  have iwX10 := iwX10_row_X10
  have fl_49 := hts (.fieldLink RX10 49 "CloudOfficeModel" "row" "[I") (by decide +kernel)
  have fl_196 := hts (.fieldLink RX10 196 "CloudOfficeModel" "rows" "I") (by decide +kernel)
  have kc_88 := hts (.constant RX10 88 (100000)) (by decide +kernel)
  have hret : ∀ (o_r9 : Int32) (o_t_rows9 : Int32) (o_t_row_a9 : Nat → Int32) (pc : Nat) (H : Heap) (locs : List Loc) (ls : Array Slot), decode cX10_row pc = .ok (.ireturn, 1) → some (o_r9, o_t_rows9, o_t_row_a9) = some (o_r, o_t_rows, o_t_row_a) → va_P G vwCl [(t_h, .inr (10, [.int t_baseWay, .int t_slip, .int t_low, .int t_high, .int t_unlike, .int t_alone, .long t_above, .long t_below, .ref t_edges_h, .ref t_lean_h, .ref t_word_h, .int t_layers, .ref t_layer_h, .ref t_least_h, .int t_sights, .ref t_sight_h, .int t_shadows, .ref t_shadow_h, .long t_endAbove, .long t_endBelow, .long t_speedAbove, .long t_speedBelow, .int t_spans, .ref t_spanLow_h, .ref t_spanHigh_h, .ref t_spanAt_h, .int t_found, .ref t_numbers_h, .int t_pairs, .ref t_pair_h, .ref t_most_h, .int o_t_rows9, .ref t_row_h, .int t_notes, .ref t_under_h, .ref t_agreed_h])), (t_row_h, .inl (cI, 800, .inl o_t_row_a9))] H → va_D A [(t_h, .inr (10, [.int t_baseWay, .int t_slip, .int t_low, .int t_high, .int t_unlike, .int t_alone, .long t_above, .long t_below, .ref t_edges_h, .ref t_lean_h, .ref t_word_h, .int t_layers, .ref t_layer_h, .ref t_least_h, .int t_sights, .ref t_sight_h, .int t_shadows, .ref t_shadow_h, .long t_endAbove, .long t_endBelow, .long t_speedAbove, .long t_speedBelow, .int t_spans, .ref t_spanLow_h, .ref t_spanHigh_h, .ref t_spanAt_h, .int t_found, .ref t_numbers_h, .int t_pairs, .ref t_pair_h, .ref t_most_h, .int o_t_rows9, .ref t_row_h, .int t_notes, .ref t_under_h, .ref t_agreed_h])), (t_row_h, .inl (cI, 800, .inl o_t_row_a9))] → va_S A s.heap H locs → W p l e rmX10_row s m args below meth c H locs 0 0 Q (F0 m pc ls [.int o_r9]) := by
    intro o_r9 o_t_rows9 o_t_row_a9 pc H locs ls hdg he hP hD hS
    cases he
    subst hQ
    exact rt_i hx hb hr hlocks hK hP hD hS rfl hdg
  clear hQ
  unfold fX10_row at hf
  refine lv_iload_n hx hb dX10_row_0 rfl (lv_at hl 1 rfl) ?_
  refine lv_iconst (v := 0) hx hb dX10_row_1 (by decide) ?_
  refine lv_bipush (v := 7) hx hb dX10_row_2 (by decide) ?_
  obtain ⟨r1, hc2, hf⟩ := ob_some hf
  refine af_iR (va_runS (As := [.int x1, .int 0, .int 7]) (rest := []) ⟨hx, hb, hml, hown, hts⟩ (k_X10_in l G cI cJ (x0 := x1) (x1 := 0) (x2 := 7) (sz := _) (hf := hc2)) (va_cwS 3 hts gX10_row_X10_in rfl rfl rfl (by decide +kernel) ⟨Nat.le_of_ble_eq_true rfl, Nat.le_of_ble_eq_true rfl⟩) (preS0 (wc := []) hK hP hD hN [] rfl rfl (by decide)) rfl rfl hl.1 rfl (lv_room (Nat.le_of_ble_eq_true rfl)) dX10_row_4 ⟨Nat.zero_le _, Nat.zero_le _⟩) hP hD hS hA [] rfl (fun H locs hP hS => ?_)
  refine lv_if_eq (tgt := 41) hx hb dX10_row_7 (by decide) (fun c3 => ?_) (fun c3 => ?_)
  · have hf := ift hf c3
    refine lv_bipush (v := (-2)) hx hb dX10_row_41 (by decide) ?_
    exact hret (-2) t_rows t_row_a 43 _ _ _ dX10_row_43 hf hP hD hS
  · have hf := iff_ hf c3
    refine lv_iload_n hx hb dX10_row_10 rfl (lv_at hl 2 rfl) ?_
    refine lv_iconst (v := 0) hx hb dX10_row_11 (by decide) ?_
    refine lv_bipush (v := 23) hx hb dX10_row_12 (by decide) ?_
    obtain ⟨r4, hc5, hf⟩ := ob_some hf
    refine af_iR (va_runS (As := [.int x2, .int 0, .int 23]) (rest := []) ⟨hx, hb, hml, hown, hts⟩ (k_X10_in l G cI cJ (x0 := x2) (x1 := 0) (x2 := 23) (sz := _) (hf := hc5)) (va_cwS 3 hts gX10_row_X10_in rfl rfl rfl (by decide +kernel) ⟨Nat.le_of_ble_eq_true rfl, Nat.le_of_ble_eq_true rfl⟩) (preS0 (wc := []) hK hP hD hN [] rfl rfl (by decide)) rfl rfl hl.1 rfl (lv_room (Nat.le_of_ble_eq_true rfl)) dX10_row_14 ⟨Nat.zero_le _, Nat.zero_le _⟩) hP hD hS hA [] rfl (fun H locs hP hS => ?_)
    refine lv_if_eq (tgt := 41) hx hb dX10_row_17 (by decide) (fun c6 => ?_) (fun c6 => ?_)
    · have hf := ift hf c6
      refine lv_bipush (v := (-2)) hx hb dX10_row_41 (by decide) ?_
      exact hret (-2) t_rows t_row_a 43 _ _ _ dX10_row_43 hf hP hD hS
    · have hf := iff_ hf c6
      refine lv_iload_n hx hb dX10_row_20 rfl (lv_at hl 3 rfl) ?_
      refine lv_iconst (v := 0) hx hb dX10_row_21 (by decide) ?_
      refine lv_bipush (v := 7) hx hb dX10_row_22 (by decide) ?_
      obtain ⟨r7, hc8, hf⟩ := ob_some hf
      refine af_iR (va_runS (As := [.int x3, .int 0, .int 7]) (rest := []) ⟨hx, hb, hml, hown, hts⟩ (k_X10_in l G cI cJ (x0 := x3) (x1 := 0) (x2 := 7) (sz := _) (hf := hc8)) (va_cwS 3 hts gX10_row_X10_in rfl rfl rfl (by decide +kernel) ⟨Nat.le_of_ble_eq_true rfl, Nat.le_of_ble_eq_true rfl⟩) (preS0 (wc := []) hK hP hD hN [] rfl rfl (by decide)) rfl rfl hl.1 rfl (lv_room (Nat.le_of_ble_eq_true rfl)) dX10_row_24 ⟨Nat.zero_le _, Nat.zero_le _⟩) hP hD hS hA [] rfl (fun H locs hP hS => ?_)
      refine lv_if_eq (tgt := 41) hx hb dX10_row_27 (by decide) (fun c9 => ?_) (fun c9 => ?_)
      · have hf := ift hf c9
        refine lv_bipush (v := (-2)) hx hb dX10_row_41 (by decide) ?_
        exact hret (-2) t_rows t_row_a 43 _ _ _ dX10_row_43 hf hP hD hS
      · have hf := iff_ hf c9
        refine lv_iload hx hb dX10_row_30 (lv_at hl 4 rfl) ?_
        refine lv_iconst (v := (-1)) hx hb dX10_row_32 (by decide) ?_
        refine lv_ldc (v := 100000) hx hb hown kc_88 dX10_row_33 ?_
        obtain ⟨r10, hc11, hf⟩ := ob_some hf
        refine af_iR (va_runS (As := [.int x4, .int (-1), .int 100000]) (rest := []) ⟨hx, hb, hml, hown, hts⟩ (k_X10_in l G cI cJ (x0 := x4) (x1 := (-1)) (x2 := 100000) (sz := _) (hf := hc11)) (va_cwS 3 hts gX10_row_X10_in rfl rfl rfl (by decide +kernel) ⟨Nat.le_of_ble_eq_true rfl, Nat.le_of_ble_eq_true rfl⟩) (preS0 (wc := []) hK hP hD hN [] rfl rfl (by decide)) rfl rfl hl.1 rfl (lv_room (Nat.le_of_ble_eq_true rfl)) dX10_row_35 ⟨Nat.zero_le _, Nat.zero_le _⟩) hP hD hS hA [] rfl (fun H locs hP hS => ?_)
        refine lv_if_ne (tgt := 44) hx hb dX10_row_38 (by decide) (fun c12 => ?_) (fun c12 => ?_)
        · have hf := iff_ hf c12
          refine lv_aload_n hx hb dX10_row_44 rfl (lv_at hl 0 rfl) ?_
          refine va_get (D := G) (ci := 10) (v := .int t_rows) (C := RX10) (T := TX10) (N := 36) hx hb hts iwX10 hown hK hP 0 rfl rfl 31 (by decide) fl_196 (fun _ h9 => h9) rfl dX10_row_45 ?_
          refine lv_sipush (v := 200) hx hb dX10_row_48 (by decide) ?_
          refine lv_icmp_ne (tgt := 57) hx hb dX10_row_51 (by decide) (fun c13 => ?_) (fun c13 => ?_)
          · have hf := iff_ hf c13
            refine lv_aload_n hx hb dX10_row_57 rfl (lv_at hl 0 rfl) ?_
            refine va_get (D := G) (ci := 10) (v := .ref t_row_h) (C := RX10) (T := TX10) (N := 36) hx hb hts iwX10 hown hK hP 0 rfl rfl 32 (by decide) fl_49 (fun _ h9 => h9) rfl dX10_row_58 ?_
            refine lv_iconst (v := 4) hx hb dX10_row_61 (by decide) ?_
            refine lv_aload_n hx hb dX10_row_62 rfl (lv_at hl 0 rfl) ?_
            refine va_get (D := G) (ci := 10) (v := .int t_rows) (C := RX10) (T := TX10) (N := 36) hx hb hts iwX10 hown hK hP 0 rfl rfl 31 (by decide) fl_196 (fun _ h9 => h9) rfl dX10_row_63 ?_
            refine lv_imul hx hb dX10_row_66 ?_
            refine lv_iload_n hx hb dX10_row_67 rfl (lv_at hl 1 rfl) ?_
            obtain ⟨h14, hf⟩ := gd_some hf
            obtain ⟨a15, ea15⟩ : ∃ y : Nat → Int32, y = upd t_row_a (Int32.toNatClampNeg (4 * t_rows)) x1 := ⟨_, rfl⟩
            have hf := bv_at ea15 hf
            refine va_iast hx hb hK hP hD hS 1 0 rfl rfl (bnd_in h14) dX10_row_68 (fun H locs hP hD hS => ?_)
            have hP : va_P G vwCl [(t_h, .inr (10, [.int t_baseWay, .int t_slip, .int t_low, .int t_high, .int t_unlike, .int t_alone, .long t_above, .long t_below, .ref t_edges_h, .ref t_lean_h, .ref t_word_h, .int t_layers, .ref t_layer_h, .ref t_least_h, .int t_sights, .ref t_sight_h, .int t_shadows, .ref t_shadow_h, .long t_endAbove, .long t_endBelow, .long t_speedAbove, .long t_speedBelow, .int t_spans, .ref t_spanLow_h, .ref t_spanHigh_h, .ref t_spanAt_h, .int t_found, .ref t_numbers_h, .int t_pairs, .ref t_pair_h, .ref t_most_h, .int t_rows, .ref t_row_h, .int t_notes, .ref t_under_h, .ref t_agreed_h])), (t_row_h, .inl (cI, 800, .inl a15))] H := by rw [ea15]; exact hP
            have hD : va_D A [(t_h, .inr (10, [.int t_baseWay, .int t_slip, .int t_low, .int t_high, .int t_unlike, .int t_alone, .long t_above, .long t_below, .ref t_edges_h, .ref t_lean_h, .ref t_word_h, .int t_layers, .ref t_layer_h, .ref t_least_h, .int t_sights, .ref t_sight_h, .int t_shadows, .ref t_shadow_h, .long t_endAbove, .long t_endBelow, .long t_speedAbove, .long t_speedBelow, .int t_spans, .ref t_spanLow_h, .ref t_spanHigh_h, .ref t_spanAt_h, .int t_found, .ref t_numbers_h, .int t_pairs, .ref t_pair_h, .ref t_most_h, .int t_rows, .ref t_row_h, .int t_notes, .ref t_under_h, .ref t_agreed_h])), (t_row_h, .inl (cI, 800, .inl a15))] := by rw [ea15]; exact hD
            refine lv_aload_n hx hb dX10_row_69 rfl (lv_at hl 0 rfl) ?_
            refine va_get (D := G) (ci := 10) (v := .ref t_row_h) (C := RX10) (T := TX10) (N := 36) hx hb hts iwX10 hown hK hP 0 rfl rfl 32 (by decide) fl_49 (fun _ h9 => h9) rfl dX10_row_70 ?_
            refine lv_iconst (v := 4) hx hb dX10_row_73 (by decide) ?_
            refine lv_aload_n hx hb dX10_row_74 rfl (lv_at hl 0 rfl) ?_
            refine va_get (D := G) (ci := 10) (v := .int t_rows) (C := RX10) (T := TX10) (N := 36) hx hb hts iwX10 hown hK hP 0 rfl rfl 31 (by decide) fl_196 (fun _ h9 => h9) rfl dX10_row_75 ?_
            refine lv_imul hx hb dX10_row_78 ?_
            refine lv_iconst (v := 1) hx hb dX10_row_79 (by decide) ?_
            refine lv_iadd hx hb dX10_row_80 ?_
            refine lv_iload_n hx hb dX10_row_81 rfl (lv_at hl 2 rfl) ?_
            obtain ⟨h16, hf⟩ := gd_some hf
            obtain ⟨a17, ea17⟩ : ∃ y : Nat → Int32, y = upd a15 (Int32.toNatClampNeg ((4 * t_rows) + 1)) x2 := ⟨_, rfl⟩
            have hf := bv_at ea17 hf
            refine va_iast hx hb hK hP hD hS 1 0 rfl rfl (bnd_in h16) dX10_row_82 (fun H locs hP hD hS => ?_)
            have hP : va_P G vwCl [(t_h, .inr (10, [.int t_baseWay, .int t_slip, .int t_low, .int t_high, .int t_unlike, .int t_alone, .long t_above, .long t_below, .ref t_edges_h, .ref t_lean_h, .ref t_word_h, .int t_layers, .ref t_layer_h, .ref t_least_h, .int t_sights, .ref t_sight_h, .int t_shadows, .ref t_shadow_h, .long t_endAbove, .long t_endBelow, .long t_speedAbove, .long t_speedBelow, .int t_spans, .ref t_spanLow_h, .ref t_spanHigh_h, .ref t_spanAt_h, .int t_found, .ref t_numbers_h, .int t_pairs, .ref t_pair_h, .ref t_most_h, .int t_rows, .ref t_row_h, .int t_notes, .ref t_under_h, .ref t_agreed_h])), (t_row_h, .inl (cI, 800, .inl a17))] H := by rw [ea17]; exact hP
            have hD : va_D A [(t_h, .inr (10, [.int t_baseWay, .int t_slip, .int t_low, .int t_high, .int t_unlike, .int t_alone, .long t_above, .long t_below, .ref t_edges_h, .ref t_lean_h, .ref t_word_h, .int t_layers, .ref t_layer_h, .ref t_least_h, .int t_sights, .ref t_sight_h, .int t_shadows, .ref t_shadow_h, .long t_endAbove, .long t_endBelow, .long t_speedAbove, .long t_speedBelow, .int t_spans, .ref t_spanLow_h, .ref t_spanHigh_h, .ref t_spanAt_h, .int t_found, .ref t_numbers_h, .int t_pairs, .ref t_pair_h, .ref t_most_h, .int t_rows, .ref t_row_h, .int t_notes, .ref t_under_h, .ref t_agreed_h])), (t_row_h, .inl (cI, 800, .inl a17))] := by rw [ea17]; exact hD
            refine lv_aload_n hx hb dX10_row_83 rfl (lv_at hl 0 rfl) ?_
            refine va_get (D := G) (ci := 10) (v := .ref t_row_h) (C := RX10) (T := TX10) (N := 36) hx hb hts iwX10 hown hK hP 0 rfl rfl 32 (by decide) fl_49 (fun _ h9 => h9) rfl dX10_row_84 ?_
            refine lv_iconst (v := 4) hx hb dX10_row_87 (by decide) ?_
            refine lv_aload_n hx hb dX10_row_88 rfl (lv_at hl 0 rfl) ?_
            refine va_get (D := G) (ci := 10) (v := .int t_rows) (C := RX10) (T := TX10) (N := 36) hx hb hts iwX10 hown hK hP 0 rfl rfl 31 (by decide) fl_196 (fun _ h9 => h9) rfl dX10_row_89 ?_
            refine lv_imul hx hb dX10_row_92 ?_
            refine lv_iconst (v := 2) hx hb dX10_row_93 (by decide) ?_
            refine lv_iadd hx hb dX10_row_94 ?_
            refine lv_iload_n hx hb dX10_row_95 rfl (lv_at hl 3 rfl) ?_
            obtain ⟨h18, hf⟩ := gd_some hf
            obtain ⟨a19, ea19⟩ : ∃ y : Nat → Int32, y = upd a17 (Int32.toNatClampNeg ((4 * t_rows) + 2)) x3 := ⟨_, rfl⟩
            have hf := bv_at ea19 hf
            refine va_iast hx hb hK hP hD hS 1 0 rfl rfl (bnd_in h18) dX10_row_96 (fun H locs hP hD hS => ?_)
            have hP : va_P G vwCl [(t_h, .inr (10, [.int t_baseWay, .int t_slip, .int t_low, .int t_high, .int t_unlike, .int t_alone, .long t_above, .long t_below, .ref t_edges_h, .ref t_lean_h, .ref t_word_h, .int t_layers, .ref t_layer_h, .ref t_least_h, .int t_sights, .ref t_sight_h, .int t_shadows, .ref t_shadow_h, .long t_endAbove, .long t_endBelow, .long t_speedAbove, .long t_speedBelow, .int t_spans, .ref t_spanLow_h, .ref t_spanHigh_h, .ref t_spanAt_h, .int t_found, .ref t_numbers_h, .int t_pairs, .ref t_pair_h, .ref t_most_h, .int t_rows, .ref t_row_h, .int t_notes, .ref t_under_h, .ref t_agreed_h])), (t_row_h, .inl (cI, 800, .inl a19))] H := by rw [ea19]; exact hP
            have hD : va_D A [(t_h, .inr (10, [.int t_baseWay, .int t_slip, .int t_low, .int t_high, .int t_unlike, .int t_alone, .long t_above, .long t_below, .ref t_edges_h, .ref t_lean_h, .ref t_word_h, .int t_layers, .ref t_layer_h, .ref t_least_h, .int t_sights, .ref t_sight_h, .int t_shadows, .ref t_shadow_h, .long t_endAbove, .long t_endBelow, .long t_speedAbove, .long t_speedBelow, .int t_spans, .ref t_spanLow_h, .ref t_spanHigh_h, .ref t_spanAt_h, .int t_found, .ref t_numbers_h, .int t_pairs, .ref t_pair_h, .ref t_most_h, .int t_rows, .ref t_row_h, .int t_notes, .ref t_under_h, .ref t_agreed_h])), (t_row_h, .inl (cI, 800, .inl a19))] := by rw [ea19]; exact hD
            refine lv_aload_n hx hb dX10_row_97 rfl (lv_at hl 0 rfl) ?_
            refine va_get (D := G) (ci := 10) (v := .ref t_row_h) (C := RX10) (T := TX10) (N := 36) hx hb hts iwX10 hown hK hP 0 rfl rfl 32 (by decide) fl_49 (fun _ h9 => h9) rfl dX10_row_98 ?_
            refine lv_iconst (v := 4) hx hb dX10_row_101 (by decide) ?_
            refine lv_aload_n hx hb dX10_row_102 rfl (lv_at hl 0 rfl) ?_
            refine va_get (D := G) (ci := 10) (v := .int t_rows) (C := RX10) (T := TX10) (N := 36) hx hb hts iwX10 hown hK hP 0 rfl rfl 31 (by decide) fl_196 (fun _ h9 => h9) rfl dX10_row_103 ?_
            refine lv_imul hx hb dX10_row_106 ?_
            refine lv_iconst (v := 3) hx hb dX10_row_107 (by decide) ?_
            refine lv_iadd hx hb dX10_row_108 ?_
            refine lv_iload hx hb dX10_row_109 (lv_at hl 4 rfl) ?_
            obtain ⟨h20, hf⟩ := gd_some hf
            obtain ⟨a21, ea21⟩ : ∃ y : Nat → Int32, y = upd a19 (Int32.toNatClampNeg ((4 * t_rows) + 3)) x4 := ⟨_, rfl⟩
            have hf := bv_at ea21 hf
            refine va_iast hx hb hK hP hD hS 1 0 rfl rfl (bnd_in h20) dX10_row_111 (fun H locs hP hD hS => ?_)
            have hP : va_P G vwCl [(t_h, .inr (10, [.int t_baseWay, .int t_slip, .int t_low, .int t_high, .int t_unlike, .int t_alone, .long t_above, .long t_below, .ref t_edges_h, .ref t_lean_h, .ref t_word_h, .int t_layers, .ref t_layer_h, .ref t_least_h, .int t_sights, .ref t_sight_h, .int t_shadows, .ref t_shadow_h, .long t_endAbove, .long t_endBelow, .long t_speedAbove, .long t_speedBelow, .int t_spans, .ref t_spanLow_h, .ref t_spanHigh_h, .ref t_spanAt_h, .int t_found, .ref t_numbers_h, .int t_pairs, .ref t_pair_h, .ref t_most_h, .int t_rows, .ref t_row_h, .int t_notes, .ref t_under_h, .ref t_agreed_h])), (t_row_h, .inl (cI, 800, .inl a21))] H := by rw [ea21]; exact hP
            have hD : va_D A [(t_h, .inr (10, [.int t_baseWay, .int t_slip, .int t_low, .int t_high, .int t_unlike, .int t_alone, .long t_above, .long t_below, .ref t_edges_h, .ref t_lean_h, .ref t_word_h, .int t_layers, .ref t_layer_h, .ref t_least_h, .int t_sights, .ref t_sight_h, .int t_shadows, .ref t_shadow_h, .long t_endAbove, .long t_endBelow, .long t_speedAbove, .long t_speedBelow, .int t_spans, .ref t_spanLow_h, .ref t_spanHigh_h, .ref t_spanAt_h, .int t_found, .ref t_numbers_h, .int t_pairs, .ref t_pair_h, .ref t_most_h, .int t_rows, .ref t_row_h, .int t_notes, .ref t_under_h, .ref t_agreed_h])), (t_row_h, .inl (cI, 800, .inl a21))] := by rw [ea21]; exact hD
            refine lv_aload_n hx hb dX10_row_112 rfl (lv_at hl 0 rfl) ?_
            refine lv_dup hx hb dX10_row_113 rfl ?_
            refine va_get (D := G) (ci := 10) (v := .int t_rows) (C := RX10) (T := TX10) (N := 36) hx hb hts iwX10 hown hK hP 0 rfl rfl 31 (by decide) fl_196 (fun _ h9 => h9) rfl dX10_row_114 ?_
            refine lv_iconst (v := 1) hx hb dX10_row_117 (by decide) ?_
            refine lv_iadd hx hb dX10_row_118 ?_
            refine lv_topi (fun v22 ev22 => ?_)
            have hf := bv_at ev22 hf
            refine va_put (D := G) (ci := 10) (v := .int v22) (ty := .int) (C := RX10) (T := TX10) (N := 36) hx hb hts iwX10 tyX10 tyX10_ok nmX10 hown hK hP hD hS 0 rfl rfl 31 (by decide) fl_196 (fun _ h9 => h9) rfl (by decide +kernel) rfl rfl (Nat.le_of_ble_eq_true rfl) dX10_row_119 (fun H locs hP hD hS => ?_)
            have hP : va_P G vwCl [(t_h, .inr (10, [.int t_baseWay, .int t_slip, .int t_low, .int t_high, .int t_unlike, .int t_alone, .long t_above, .long t_below, .ref t_edges_h, .ref t_lean_h, .ref t_word_h, .int t_layers, .ref t_layer_h, .ref t_least_h, .int t_sights, .ref t_sight_h, .int t_shadows, .ref t_shadow_h, .long t_endAbove, .long t_endBelow, .long t_speedAbove, .long t_speedBelow, .int t_spans, .ref t_spanLow_h, .ref t_spanHigh_h, .ref t_spanAt_h, .int t_found, .ref t_numbers_h, .int t_pairs, .ref t_pair_h, .ref t_most_h, .int v22, .ref t_row_h, .int t_notes, .ref t_under_h, .ref t_agreed_h])), (t_row_h, .inl (cI, 800, .inl a21))] H := hP
            have hD : va_D A [(t_h, .inr (10, [.int t_baseWay, .int t_slip, .int t_low, .int t_high, .int t_unlike, .int t_alone, .long t_above, .long t_below, .ref t_edges_h, .ref t_lean_h, .ref t_word_h, .int t_layers, .ref t_layer_h, .ref t_least_h, .int t_sights, .ref t_sight_h, .int t_shadows, .ref t_shadow_h, .long t_endAbove, .long t_endBelow, .long t_speedAbove, .long t_speedBelow, .int t_spans, .ref t_spanLow_h, .ref t_spanHigh_h, .ref t_spanAt_h, .int t_found, .ref t_numbers_h, .int t_pairs, .ref t_pair_h, .ref t_most_h, .int v22, .ref t_row_h, .int t_notes, .ref t_under_h, .ref t_agreed_h])), (t_row_h, .inl (cI, 800, .inl a21))] := hD
            refine lv_aload_n hx hb dX10_row_122 rfl (lv_at hl 0 rfl) ?_
            refine va_get (D := G) (ci := 10) (v := .int v22) (C := RX10) (T := TX10) (N := 36) hx hb hts iwX10 hown hK hP 0 rfl rfl 31 (by decide) fl_196 (fun _ h9 => h9) rfl dX10_row_123 ?_
            refine lv_iconst (v := 1) hx hb dX10_row_126 (by decide) ?_
            refine lv_isub hx hb dX10_row_127 ?_
            exact hret (v22 - 1) v22 a21 128 _ _ _ dX10_row_128 hf hP hD hS
          · have hf := ift hf c13
            refine lv_bipush (v := (-4)) hx hb dX10_row_54 (by decide) ?_
            exact hret (-4) t_rows t_row_a 56 _ _ _ dX10_row_56 hf hP hD hS
        · have hf := ift hf c12
          refine lv_bipush (v := (-2)) hx hb dX10_row_41 (by decide) ?_
          exact hret (-2) t_rows t_row_a 43 _ _ _ dX10_row_43 hf hP hD hS
theorem dX10_round_0 : decode cX10_round 0 = .ok (.iload_n 0, 1) := by decide +kernel
theorem dX10_round_1 : decode cX10_round 1 = .ok (.iload_n 1, 1) := by decide +kernel
theorem dX10_round_2 : decode cX10_round 2 = .ok (.if_icmp .ge 9, 3) := by decide +kernel
theorem dX10_round_5 : decode cX10_round 5 = .ok (.iload_n 1, 1) := by decide +kernel
theorem dX10_round_6 : decode cX10_round 6 = .ok (.iload_n 0, 1) := by decide +kernel
theorem dX10_round_7 : decode cX10_round 7 = .ok (.isub, 1) := by decide +kernel
theorem dX10_round_8 : decode cX10_round 8 = .ok (.goto 6, 3) := by decide +kernel
theorem dX10_round_11 : decode cX10_round 11 = .ok (.iload_n 0, 1) := by decide +kernel
theorem dX10_round_12 : decode cX10_round 12 = .ok (.iload_n 1, 1) := by decide +kernel
theorem dX10_round_13 : decode cX10_round 13 = .ok (.isub, 1) := by decide +kernel
theorem dX10_round_14 : decode cX10_round 14 = .ok (.istore_n 3, 1) := by decide +kernel
theorem dX10_round_15 : decode cX10_round 15 = .ok (.iload_n 3, 1) := by decide +kernel
theorem dX10_round_16 : decode cX10_round 16 = .ok (.iload_n 2, 1) := by decide +kernel
theorem dX10_round_17 : decode cX10_round 17 = .ok (.iload_n 3, 1) := by decide +kernel
theorem dX10_round_18 : decode cX10_round 18 = .ok (.isub, 1) := by decide +kernel
theorem dX10_round_19 : decode cX10_round 19 = .ok (.if_icmp .le 9, 3) := by decide +kernel
theorem dX10_round_22 : decode cX10_round 22 = .ok (.iload_n 2, 1) := by decide +kernel
theorem dX10_round_23 : decode cX10_round 23 = .ok (.iload_n 3, 1) := by decide +kernel
theorem dX10_round_24 : decode cX10_round 24 = .ok (.isub, 1) := by decide +kernel
theorem dX10_round_25 : decode cX10_round 25 = .ok (.goto 4, 3) := by decide +kernel
theorem dX10_round_28 : decode cX10_round 28 = .ok (.iload_n 3, 1) := by decide +kernel
theorem dX10_round_29 : decode cX10_round 29 = .ok (.ireturn, 1) := by decide +kernel
set_option maxRecDepth 100000 in
def fX10_round (x0 : Int32) (x1 : Int32) (x2 : Int32) : Option (Int32) :=
  ob (α := Int32) (
      if x1 ≤ x0 then
        some (x0 - x1)
      else
        some (x1 - x0)
    ) fun m1 =>
  if m1 ≤ (x2 - m1) then
    some m1
  else
    some (x2 - m1)
abbrev rmX10_round : Room := { frames := 0, cells := 0, slots := 0, locals := 0 }
set_option maxHeartbeats 4000000 in
set_option maxRecDepth 100000 in
theorem k_X10_round (l : Launch) (G : va_G) (cI cJ : ClassId) (sz : Nat) (x0 : Int32) (x1 : Int32) (x2 : Int32) {o_r : Int32} (hf : fX10_round x0 x1 x2 = some o_r) : MetI l yX10_round wsX10_round rmX10_round [.int x0, .int x1, .int x2] G cI cJ [] [] sz o_r := by
  refine en_0 (l := l) (y := yX10_round) (wsl := wsX10_round) (rm := rmX10_round) (av := [.int x0, .int x1, .int x2]) (G := G) (cI := cI) (cJ := cJ) (w0 := []) (sz := sz) (Qf := fun A => Qi0 G cI cJ [] o_r A) (cc := cX10_round) (maxL := 4) (ret := (some .int)) RX10 (by decide +kernel) rfl rfl (Nat.le_of_ble_eq_true rfl) ?_
  intro p e s m args below meth c A ls Q hQ hx hb hr hts hown hlocks hml hN hK hP hD hS hA hl
  have hl : lv_has ls 4 [(0, .int x0), (1, .int x1), (2, .int x2)] := hl
  have hret : ∀ (o_r9 : Int32) (pc : Nat) (H : Heap) (locs : List Loc) (ls : Array Slot), decode cX10_round pc = .ok (.ireturn, 1) → some o_r9 = some o_r → va_P G vwCl [] H → va_D A [] → va_S A s.heap H locs → W p l e rmX10_round s m args below meth c H locs 0 0 Q (F0 m pc ls [.int o_r9]) := by
    intro o_r9 pc H locs ls hdg he hP hD hS
    cases he
    subst hQ
    exact rt_i hx hb hr hlocks hK hP hD hS rfl hdg
  clear hQ
  unfold fX10_round at hf
  refine lv_iload_n hx hb dX10_round_0 rfl (lv_at hl 0 rfl) ?_
  refine lv_iload_n hx hb dX10_round_1 rfl (lv_at hl 1 rfl) ?_
  obtain ⟨m1, hr2, hf⟩ := ob_some hf
  have hj3 : ∀ (m19 : Int32), some m19 = some m1 → ∀ (H : Heap) (locs : List Loc) (ls : Array Slot), va_P G vwCl [] H → va_D A [] → va_S A s.heap H locs → lv_has ls 4 [(2, .int x2)] → W p l e rmX10_round s m args below meth c H locs 0 0 Q (F0 m 14 ls [.int m19]) := by
    intro m19 he H locs ls hP hD hS hl
    cases he
    refine lv_istore_n (lv' := [(3, .int m1), (2, .int x2)]) hx hb dX10_round_14 rfl hl (by decide) rfl (fun ls hl => ?_)
    refine lv_iload_n hx hb dX10_round_15 rfl (lv_at hl 0 rfl) ?_
    refine lv_iload_n hx hb dX10_round_16 rfl (lv_at hl 1 rfl) ?_
    refine lv_iload_n hx hb dX10_round_17 rfl (lv_at hl 0 rfl) ?_
    refine lv_isub hx hb dX10_round_18 ?_
    refine lv_icmp_le (tgt := 28) hx hb dX10_round_19 (by decide) (fun c5 => ?_) (fun c5 => ?_)
    · have hf := ift hf c5
      refine lv_iload_n hx hb dX10_round_28 rfl (lv_at hl 0 rfl) ?_
      exact hret m1 29 _ _ _ dX10_round_29 hf hP hD hS
    · have hf := iff_ hf c5
      refine lv_iload_n hx hb dX10_round_22 rfl (lv_at hl 1 rfl) ?_
      refine lv_iload_n hx hb dX10_round_23 rfl (lv_at hl 0 rfl) ?_
      refine lv_isub hx hb dX10_round_24 ?_
      refine lv_goto (tgt := 29) hx hb dX10_round_25 (by decide) ?_
      exact hret (x2 - m1) 29 _ _ _ dX10_round_29 hf hP hD hS
  replace hf := hr2
  refine lv_icmp_ge (tgt := 11) hx hb dX10_round_2 (by decide) (fun c4 => ?_) (fun c4 => ?_)
  · have hf := ift hf c4
    refine lv_iload_n hx hb dX10_round_11 rfl (lv_at hl 0 rfl) ?_
    refine lv_iload_n hx hb dX10_round_12 rfl (lv_at hl 1 rfl) ?_
    refine lv_isub hx hb dX10_round_13 ?_
    exact hj3 _ hf _ _ _ hP hD hS (lv_sub hl [2] rfl)
  · have hf := iff_ hf c4
    refine lv_iload_n hx hb dX10_round_5 rfl (lv_at hl 1 rfl) ?_
    refine lv_iload_n hx hb dX10_round_6 rfl (lv_at hl 0 rfl) ?_
    refine lv_isub hx hb dX10_round_7 ?_
    refine lv_goto (tgt := 14) hx hb dX10_round_8 (by decide) ?_
    exact hj3 _ hf _ _ _ hP hD hS (lv_sub hl [2] rfl)
set_option maxRecDepth 20000 in
theorem ggX10_guess_X10_in : GoodIn wsX10_guess wsX10_in := goodIn_r _ [6] (by decide +kernel) (by decide +kernel)
set_option maxRecDepth 20000 in
theorem gX10_guess_X10_in : GoodIn wsX10_guess (va_wsS RX10 89 yX10_in wsX10_in) := goodIn_app (goodIn_of _ (by decide +kernel)) ggX10_guess_X10_in
set_option maxRecDepth 20000 in
theorem ggX10_guess_X10_round : GoodIn wsX10_guess wsX10_round := goodIn_r _ [9] (by decide +kernel) (by decide +kernel)
set_option maxRecDepth 20000 in
theorem gX10_guess_X10_round : GoodIn wsX10_guess (va_wsS RX10 199 yX10_round wsX10_round) := goodIn_app (goodIn_of _ (by decide +kernel)) ggX10_guess_X10_round
theorem dX10_guess_0 : decode cX10_guess 0 = .ok (.iload_n 1, 1) := by decide +kernel
theorem dX10_guess_1 : decode cX10_guess 1 = .ok (.iconst 0, 1) := by decide +kernel
theorem dX10_guess_2 : decode cX10_guess 2 = .ok (.bipush 7, 2) := by decide +kernel
theorem dX10_guess_4 : decode cX10_guess 4 = .ok (.invokestatic 89, 3) := by decide +kernel
theorem dX10_guess_7 : decode cX10_guess 7 = .ok (.ifCond .eq 33, 3) := by decide +kernel
theorem dX10_guess_10 : decode cX10_guess 10 = .ok (.iload_n 2, 1) := by decide +kernel
theorem dX10_guess_11 : decode cX10_guess 11 = .ok (.iconst 0, 1) := by decide +kernel
theorem dX10_guess_12 : decode cX10_guess 12 = .ok (.bipush 23, 2) := by decide +kernel
theorem dX10_guess_14 : decode cX10_guess 14 = .ok (.invokestatic 89, 3) := by decide +kernel
theorem dX10_guess_17 : decode cX10_guess 17 = .ok (.ifCond .eq 23, 3) := by decide +kernel
theorem dX10_guess_20 : decode cX10_guess 20 = .ok (.iload_n 3, 1) := by decide +kernel
theorem dX10_guess_21 : decode cX10_guess 21 = .ok (.iconst 0, 1) := by decide +kernel
theorem dX10_guess_22 : decode cX10_guess 22 = .ok (.bipush 7, 2) := by decide +kernel
theorem dX10_guess_24 : decode cX10_guess 24 = .ok (.invokestatic 89, 3) := by decide +kernel
theorem dX10_guess_27 : decode cX10_guess 27 = .ok (.ifCond .eq 13, 3) := by decide +kernel
theorem dX10_guess_30 : decode cX10_guess 30 = .ok (.iload 4, 2) := by decide +kernel
theorem dX10_guess_32 : decode cX10_guess 32 = .ok (.iconst 0, 1) := by decide +kernel
theorem dX10_guess_33 : decode cX10_guess 33 = .ok (.iconst 2, 1) := by decide +kernel
theorem dX10_guess_34 : decode cX10_guess 34 = .ok (.invokestatic 89, 3) := by decide +kernel
theorem dX10_guess_37 : decode cX10_guess 37 = .ok (.ifCond .ne 6, 3) := by decide +kernel
theorem dX10_guess_40 : decode cX10_guess 40 = .ok (.bipush (-2), 2) := by decide +kernel
theorem dX10_guess_42 : decode cX10_guess 42 = .ok (.ireturn, 1) := by decide +kernel
theorem dX10_guess_43 : decode cX10_guess 43 = .ok (.iconst (-1), 1) := by decide +kernel
theorem dX10_guess_44 : decode cX10_guess 44 = .ok (.istore 5, 2) := by decide +kernel
theorem dX10_guess_46 : decode cX10_guess 46 = .ok (.iconst 0, 1) := by decide +kernel
theorem dX10_guess_47 : decode cX10_guess 47 = .ok (.istore 6, 2) := by decide +kernel
theorem dX10_guess_49 : decode cX10_guess 49 = .ok (.iconst 0, 1) := by decide +kernel
theorem dX10_guess_50 : decode cX10_guess 50 = .ok (.istore 7, 2) := by decide +kernel
theorem dX10_guess_52 : decode cX10_guess 52 = .ok (.iconst 0, 1) := by decide +kernel
theorem dX10_guess_53 : decode cX10_guess 53 = .ok (.istore 8, 2) := by decide +kernel
theorem dX10_guess_55 : decode cX10_guess 55 = .ok (.iload 8, 2) := by decide +kernel
theorem dX10_guess_57 : decode cX10_guess 57 = .ok (.aload_n 0, 1) := by decide +kernel
theorem dX10_guess_58 : decode cX10_guess 58 = .ok (.getfield 196, 3) := by decide +kernel
theorem dX10_guess_61 : decode cX10_guess 61 = .ok (.if_icmp .ge 161, 3) := by decide +kernel
theorem dX10_guess_64 : decode cX10_guess 64 = .ok (.aload_n 0, 1) := by decide +kernel
theorem dX10_guess_65 : decode cX10_guess 65 = .ok (.getfield 49, 3) := by decide +kernel
theorem dX10_guess_68 : decode cX10_guess 68 = .ok (.iconst 4, 1) := by decide +kernel
theorem dX10_guess_69 : decode cX10_guess 69 = .ok (.iload 8, 2) := by decide +kernel
theorem dX10_guess_71 : decode cX10_guess 71 = .ok (.imul, 1) := by decide +kernel
theorem dX10_guess_72 : decode cX10_guess 72 = .ok (.iconst 1, 1) := by decide +kernel
theorem dX10_guess_73 : decode cX10_guess 73 = .ok (.iadd, 1) := by decide +kernel
theorem dX10_guess_74 : decode cX10_guess 74 = .ok (.iaload, 1) := by decide +kernel
theorem dX10_guess_75 : decode cX10_guess 75 = .ok (.iload_n 2, 1) := by decide +kernel
theorem dX10_guess_76 : decode cX10_guess 76 = .ok (.bipush 24, 2) := by decide +kernel
theorem dX10_guess_78 : decode cX10_guess 78 = .ok (.invokestatic 199, 3) := by decide +kernel
theorem dX10_guess_81 : decode cX10_guess 81 = .ok (.aload_n 0, 1) := by decide +kernel
theorem dX10_guess_82 : decode cX10_guess 82 = .ok (.getfield 49, 3) := by decide +kernel
theorem dX10_guess_85 : decode cX10_guess 85 = .ok (.iconst 4, 1) := by decide +kernel
theorem dX10_guess_86 : decode cX10_guess 86 = .ok (.iload 8, 2) := by decide +kernel
theorem dX10_guess_88 : decode cX10_guess 88 = .ok (.imul, 1) := by decide +kernel
theorem dX10_guess_89 : decode cX10_guess 89 = .ok (.iconst 2, 1) := by decide +kernel
theorem dX10_guess_90 : decode cX10_guess 90 = .ok (.iadd, 1) := by decide +kernel
theorem dX10_guess_91 : decode cX10_guess 91 = .ok (.iaload, 1) := by decide +kernel
theorem dX10_guess_92 : decode cX10_guess 92 = .ok (.iload_n 3, 1) := by decide +kernel
theorem dX10_guess_93 : decode cX10_guess 93 = .ok (.bipush 8, 2) := by decide +kernel
theorem dX10_guess_95 : decode cX10_guess 95 = .ok (.invokestatic 199, 3) := by decide +kernel
theorem dX10_guess_98 : decode cX10_guess 98 = .ok (.iadd, 1) := by decide +kernel
theorem dX10_guess_99 : decode cX10_guess 99 = .ok (.istore 9, 2) := by decide +kernel
theorem dX10_guess_101 : decode cX10_guess 101 = .ok (.aload_n 0, 1) := by decide +kernel
theorem dX10_guess_102 : decode cX10_guess 102 = .ok (.getfield 49, 3) := by decide +kernel
theorem dX10_guess_105 : decode cX10_guess 105 = .ok (.iconst 4, 1) := by decide +kernel
theorem dX10_guess_106 : decode cX10_guess 106 = .ok (.iload 8, 2) := by decide +kernel
theorem dX10_guess_108 : decode cX10_guess 108 = .ok (.imul, 1) := by decide +kernel
theorem dX10_guess_109 : decode cX10_guess 109 = .ok (.iaload, 1) := by decide +kernel
theorem dX10_guess_110 : decode cX10_guess 110 = .ok (.iload_n 1, 1) := by decide +kernel
theorem dX10_guess_111 : decode cX10_guess 111 = .ok (.if_icmp .ne 105, 3) := by decide +kernel
theorem dX10_guess_114 : decode cX10_guess 114 = .ok (.aload_n 0, 1) := by decide +kernel
theorem dX10_guess_115 : decode cX10_guess 115 = .ok (.getfield 49, 3) := by decide +kernel
theorem dX10_guess_118 : decode cX10_guess 118 = .ok (.iconst 4, 1) := by decide +kernel
theorem dX10_guess_119 : decode cX10_guess 119 = .ok (.iload 8, 2) := by decide +kernel
theorem dX10_guess_121 : decode cX10_guess 121 = .ok (.imul, 1) := by decide +kernel
theorem dX10_guess_122 : decode cX10_guess 122 = .ok (.iconst 3, 1) := by decide +kernel
theorem dX10_guess_123 : decode cX10_guess 123 = .ok (.iadd, 1) := by decide +kernel
theorem dX10_guess_124 : decode cX10_guess 124 = .ok (.iaload, 1) := by decide +kernel
theorem dX10_guess_125 : decode cX10_guess 125 = .ok (.iconst (-1), 1) := by decide +kernel
theorem dX10_guess_126 : decode cX10_guess 126 = .ok (.if_icmp .eq 90, 3) := by decide +kernel
theorem dX10_guess_129 : decode cX10_guess 129 = .ok (.iload 5, 2) := by decide +kernel
theorem dX10_guess_131 : decode cX10_guess 131 = .ok (.iconst (-1), 1) := by decide +kernel
theorem dX10_guess_132 : decode cX10_guess 132 = .ok (.if_icmp .eq 10, 3) := by decide +kernel
theorem dX10_guess_135 : decode cX10_guess 135 = .ok (.iload 9, 2) := by decide +kernel
theorem dX10_guess_137 : decode cX10_guess 137 = .ok (.iload 5, 2) := by decide +kernel
theorem dX10_guess_139 : decode cX10_guess 139 = .ok (.if_icmp .gt 77, 3) := by decide +kernel
theorem dX10_guess_142 : decode cX10_guess 142 = .ok (.iload 5, 2) := by decide +kernel
theorem dX10_guess_144 : decode cX10_guess 144 = .ok (.iconst (-1), 1) := by decide +kernel
theorem dX10_guess_145 : decode cX10_guess 145 = .ok (.if_icmp .eq 10, 3) := by decide +kernel
theorem dX10_guess_148 : decode cX10_guess 148 = .ok (.iload 9, 2) := by decide +kernel
theorem dX10_guess_150 : decode cX10_guess 150 = .ok (.iload 5, 2) := by decide +kernel
theorem dX10_guess_152 : decode cX10_guess 152 = .ok (.if_icmp .ge 7, 3) := by decide +kernel
theorem dX10_guess_155 : decode cX10_guess 155 = .ok (.iconst 1, 1) := by decide +kernel
theorem dX10_guess_156 : decode cX10_guess 156 = .ok (.goto 4, 3) := by decide +kernel
theorem dX10_guess_159 : decode cX10_guess 159 = .ok (.iconst 0, 1) := by decide +kernel
theorem dX10_guess_160 : decode cX10_guess 160 = .ok (.istore 10, 2) := by decide +kernel
theorem dX10_guess_162 : decode cX10_guess 162 = .ok (.iload 10, 2) := by decide +kernel
theorem dX10_guess_164 : decode cX10_guess 164 = .ok (.ifCond .eq 7, 3) := by decide +kernel
theorem dX10_guess_167 : decode cX10_guess 167 = .ok (.iconst 1, 1) := by decide +kernel
theorem dX10_guess_168 : decode cX10_guess 168 = .ok (.goto 7, 3) := by decide +kernel
theorem dX10_guess_171 : decode cX10_guess 171 = .ok (.iload 6, 2) := by decide +kernel
theorem dX10_guess_173 : decode cX10_guess 173 = .ok (.iconst 1, 1) := by decide +kernel
theorem dX10_guess_174 : decode cX10_guess 174 = .ok (.iadd, 1) := by decide +kernel
theorem dX10_guess_175 : decode cX10_guess 175 = .ok (.istore 6, 2) := by decide +kernel
theorem dX10_guess_177 : decode cX10_guess 177 = .ok (.iload 10, 2) := by decide +kernel
theorem dX10_guess_179 : decode cX10_guess 179 = .ok (.ifCond .eq 17, 3) := by decide +kernel
theorem dX10_guess_182 : decode cX10_guess 182 = .ok (.aload_n 0, 1) := by decide +kernel
theorem dX10_guess_183 : decode cX10_guess 183 = .ok (.getfield 49, 3) := by decide +kernel
theorem dX10_guess_186 : decode cX10_guess 186 = .ok (.iconst 4, 1) := by decide +kernel
theorem dX10_guess_187 : decode cX10_guess 187 = .ok (.iload 8, 2) := by decide +kernel
theorem dX10_guess_189 : decode cX10_guess 189 = .ok (.imul, 1) := by decide +kernel
theorem dX10_guess_190 : decode cX10_guess 190 = .ok (.iconst 3, 1) := by decide +kernel
theorem dX10_guess_191 : decode cX10_guess 191 = .ok (.iadd, 1) := by decide +kernel
theorem dX10_guess_192 : decode cX10_guess 192 = .ok (.iaload, 1) := by decide +kernel
theorem dX10_guess_193 : decode cX10_guess 193 = .ok (.goto 17, 3) := by decide +kernel
theorem dX10_guess_196 : decode cX10_guess 196 = .ok (.iload 7, 2) := by decide +kernel
theorem dX10_guess_198 : decode cX10_guess 198 = .ok (.aload_n 0, 1) := by decide +kernel
theorem dX10_guess_199 : decode cX10_guess 199 = .ok (.getfield 49, 3) := by decide +kernel
theorem dX10_guess_202 : decode cX10_guess 202 = .ok (.iconst 4, 1) := by decide +kernel
theorem dX10_guess_203 : decode cX10_guess 203 = .ok (.iload 8, 2) := by decide +kernel
theorem dX10_guess_205 : decode cX10_guess 205 = .ok (.imul, 1) := by decide +kernel
theorem dX10_guess_206 : decode cX10_guess 206 = .ok (.iconst 3, 1) := by decide +kernel
theorem dX10_guess_207 : decode cX10_guess 207 = .ok (.iadd, 1) := by decide +kernel
theorem dX10_guess_208 : decode cX10_guess 208 = .ok (.iaload, 1) := by decide +kernel
theorem dX10_guess_209 : decode cX10_guess 209 = .ok (.iadd, 1) := by decide +kernel
theorem dX10_guess_210 : decode cX10_guess 210 = .ok (.istore 7, 2) := by decide +kernel
theorem dX10_guess_212 : decode cX10_guess 212 = .ok (.iload 9, 2) := by decide +kernel
theorem dX10_guess_214 : decode cX10_guess 214 = .ok (.istore 5, 2) := by decide +kernel
theorem dX10_guess_216 : decode cX10_guess 216 = .ok (.iinc 8 1, 3) := by decide +kernel
theorem dX10_guess_219 : decode cX10_guess 219 = .ok (.goto (-164), 3) := by decide +kernel
theorem dX10_guess_222 : decode cX10_guess 222 = .ok (.iload 4, 2) := by decide +kernel
theorem dX10_guess_224 : decode cX10_guess 224 = .ok (.ifCond .ne 20, 3) := by decide +kernel
theorem dX10_guess_227 : decode cX10_guess 227 = .ok (.iload 6, 2) := by decide +kernel
theorem dX10_guess_229 : decode cX10_guess 229 = .ok (.ifCond .ne 7, 3) := by decide +kernel
theorem dX10_guess_232 : decode cX10_guess 232 = .ok (.iconst (-1), 1) := by decide +kernel
theorem dX10_guess_233 : decode cX10_guess 233 = .ok (.goto 24, 3) := by decide +kernel
theorem dX10_guess_236 : decode cX10_guess 236 = .ok (.iload 7, 2) := by decide +kernel
theorem dX10_guess_238 : decode cX10_guess 238 = .ok (.iload 6, 2) := by decide +kernel
theorem dX10_guess_240 : decode cX10_guess 240 = .ok (.idiv, 1) := by decide +kernel
theorem dX10_guess_241 : decode cX10_guess 241 = .ok (.goto 16, 3) := by decide +kernel
theorem dX10_guess_244 : decode cX10_guess 244 = .ok (.iload 4, 2) := by decide +kernel
theorem dX10_guess_246 : decode cX10_guess 246 = .ok (.iconst 1, 1) := by decide +kernel
theorem dX10_guess_247 : decode cX10_guess 247 = .ok (.if_icmp .ne 8, 3) := by decide +kernel
theorem dX10_guess_250 : decode cX10_guess 250 = .ok (.iload 6, 2) := by decide +kernel
theorem dX10_guess_252 : decode cX10_guess 252 = .ok (.goto 5, 3) := by decide +kernel
theorem dX10_guess_255 : decode cX10_guess 255 = .ok (.iload 5, 2) := by decide +kernel
theorem dX10_guess_257 : decode cX10_guess 257 = .ok (.ireturn, 1) := by decide +kernel
set_option maxRecDepth 100000 in
def fX10_guess_L1 (t_rows : Int32) (t_row_a : Nat → Int32) (x2 : Int32) (x3 : Int32) (x1 : Int32) : (Int32 × Int32 × Int32 × Int32) → Option ((Int32 × Int32 × Int32) ⊕ (Int32 × Int32 × Int32 × Int32)) := un4 fun (u13 : Int32) (u14 : Int32) (u15 : Int32) (u16 : Int32) =>
  if t_rows ≤ u16 then
    some (.inl (u13, u14, u15))
  else
    gd (bnd ((4 * u16) + 1) 800) <|
    ob (fX10_round (t_row_a (Int32.toNatClampNeg ((4 * u16) + 1))) x2 24) fun r19 =>
    gd (bnd ((4 * u16) + 2) 800) <|
    ob (fX10_round (t_row_a (Int32.toNatClampNeg ((4 * u16) + 2))) x3 8) fun r22 =>
    bv (r19 + r22) fun v24 =>
    gd (bnd (4 * u16) 800) <|
    ob3 (α0 := Int32) (α1 := Int32) (α2 := Int32) (
        if (t_row_a (Int32.toNatClampNeg (4 * u16))) = x1 then
          gd (bnd ((4 * u16) + 3) 800) <|
          if (t_row_a (Int32.toNatClampNeg ((4 * u16) + 3))) = (-1) then
            some (u13, u14, u15)
          else
            if u13 = (-1) then
              ob (α := Int32) (
                  if u13 = (-1) then
                    some 1
                  else
                    if u13 ≤ v24 then
                      some 0
                    else
                      some 1
                ) fun m35 =>
              ob (α := Int32) (
                  if m35 = 0 then
                    some (u14 + 1)
                  else
                    some 1
                ) fun m40 =>
              ob (α := Int32) (
                  if m35 = 0 then
                    gd (bnd ((4 * u16) + 3) 800) <|
                    some (u15 + (t_row_a (Int32.toNatClampNeg ((4 * u16) + 3))))
                  else
                    gd (bnd ((4 * u16) + 3) 800) <|
                    some (t_row_a (Int32.toNatClampNeg ((4 * u16) + 3)))
                ) fun m44 =>
              some (v24, m40, m44)
            else
              if u13 < v24 then
                some (u13, u14, u15)
              else
                ob (α := Int32) (
                    if u13 = (-1) then
                      some 1
                    else
                      if u13 ≤ v24 then
                        some 0
                      else
                        some 1
                  ) fun m51 =>
                ob (α := Int32) (
                    if m51 = 0 then
                      some (u14 + 1)
                    else
                      some 1
                  ) fun m56 =>
                ob (α := Int32) (
                    if m51 = 0 then
                      gd (bnd ((4 * u16) + 3) 800) <|
                      some (u15 + (t_row_a (Int32.toNatClampNeg ((4 * u16) + 3))))
                    else
                      gd (bnd ((4 * u16) + 3) 800) <|
                      some (t_row_a (Int32.toNatClampNeg ((4 * u16) + 3)))
                  ) fun m60 =>
                some (v24, m56, m60)
        else
          some (u13, u14, u15)
      ) fun m26 m27 m28 =>
    bv (u16 + 1) fun v66 =>
    some (.inr (m26, m27, m28, v66))
set_option maxRecDepth 100000 in
def fX10_guess (x1 : Int32) (x2 : Int32) (x3 : Int32) (x4 : Int32) (t_rows : Int32) (t_row_a : Nat → Int32) : Option (Int32) :=
  ob (fX10_in x1 0 7) fun r1 =>
  if (b2i r1) = 0 then
    some (-2)
  else
    ob (fX10_in x2 0 23) fun r4 =>
    if (b2i r4) = 0 then
      some (-2)
    else
      ob (fX10_in x3 0 7) fun r7 =>
      if (b2i r7) = 0 then
        some (-2)
      else
        ob (fX10_in x4 0 2) fun r10 =>
        if (b2i r10) = 0 then
          some (-2)
        else
          ob3 (it (fX10_guess_L1 t_rows t_row_a x2 x3 x1) 100000 ((-1), 0, 0, 0)) fun x67 x68 x69 =>
          if x4 = 0 then
            if x68 = 0 then
              some (-1)
            else
              gd (decide (¬ x68 = 0)) <|
              some (x69 / x68)
          else
            if x4 = 1 then
              some x68
            else
              some x67
abbrev rmX10_guess : Room := { frames := 1, cells := 0, slots := 0, locals := 23 }
theorem iwX10_guess_X10 : ∀ w ∈ u_ws RX10 TX10 36, w ∈ wsX10_guess := by decide +kernel
set_option maxHeartbeats 4000000 in
set_option maxRecDepth 100000 in
theorem k_X10_guess (l : Launch) (G : va_G) (cI cJ : ClassId) (t_h t_edges_h t_lean_h t_word_h t_layer_h t_least_h t_sight_h t_shadow_h t_spanLow_h t_spanHigh_h t_spanAt_h t_numbers_h t_pair_h t_most_h t_row_h t_under_h t_agreed_h : Nat) (sz : Nat) (t_baseWay : Int32) (t_slip : Int32) (t_low : Int32) (t_high : Int32) (t_unlike : Int32) (t_alone : Int32) (t_above : Int64) (t_below : Int64) (t_layers : Int32) (t_sights : Int32) (t_shadows : Int32) (t_endAbove : Int64) (t_endBelow : Int64) (t_speedAbove : Int64) (t_speedBelow : Int64) (t_spans : Int32) (t_found : Int32) (t_pairs : Int32) (t_rows : Int32) (t_notes : Int32) (t_row_a : Nat → Int32) (x1 : Int32) (x2 : Int32) (x3 : Int32) (x4 : Int32) {o_r : Int32} (hf : fX10_guess x1 x2 x3 x4 t_rows t_row_a = some o_r) : MetI l yX10_guess wsX10_guess rmX10_guess [.ref t_h, .int x1, .int x2, .int x3, .int x4] G cI cJ [(t_h, .inr (10, [.int t_baseWay, .int t_slip, .int t_low, .int t_high, .int t_unlike, .int t_alone, .long t_above, .long t_below, .ref t_edges_h, .ref t_lean_h, .ref t_word_h, .int t_layers, .ref t_layer_h, .ref t_least_h, .int t_sights, .ref t_sight_h, .int t_shadows, .ref t_shadow_h, .long t_endAbove, .long t_endBelow, .long t_speedAbove, .long t_speedBelow, .int t_spans, .ref t_spanLow_h, .ref t_spanHigh_h, .ref t_spanAt_h, .int t_found, .ref t_numbers_h, .int t_pairs, .ref t_pair_h, .ref t_most_h, .int t_rows, .ref t_row_h, .int t_notes, .ref t_under_h, .ref t_agreed_h])), (t_row_h, .inl (cI, 800, .inl t_row_a))] [(t_h, .inr (10, [.int t_baseWay, .int t_slip, .int t_low, .int t_high, .int t_unlike, .int t_alone, .long t_above, .long t_below, .ref t_edges_h, .ref t_lean_h, .ref t_word_h, .int t_layers, .ref t_layer_h, .ref t_least_h, .int t_sights, .ref t_sight_h, .int t_shadows, .ref t_shadow_h, .long t_endAbove, .long t_endBelow, .long t_speedAbove, .long t_speedBelow, .int t_spans, .ref t_spanLow_h, .ref t_spanHigh_h, .ref t_spanAt_h, .int t_found, .ref t_numbers_h, .int t_pairs, .ref t_pair_h, .ref t_most_h, .int t_rows, .ref t_row_h, .int t_notes, .ref t_under_h, .ref t_agreed_h])), (t_row_h, .inl (cI, 800, .inl t_row_a))] sz o_r := by
  refine en_0 (l := l) (y := yX10_guess) (wsl := wsX10_guess) (rm := rmX10_guess) (av := [.ref t_h, .int x1, .int x2, .int x3, .int x4]) (G := G) (cI := cI) (cJ := cJ) (w0 := [(t_h, .inr (10, [.int t_baseWay, .int t_slip, .int t_low, .int t_high, .int t_unlike, .int t_alone, .long t_above, .long t_below, .ref t_edges_h, .ref t_lean_h, .ref t_word_h, .int t_layers, .ref t_layer_h, .ref t_least_h, .int t_sights, .ref t_sight_h, .int t_shadows, .ref t_shadow_h, .long t_endAbove, .long t_endBelow, .long t_speedAbove, .long t_speedBelow, .int t_spans, .ref t_spanLow_h, .ref t_spanHigh_h, .ref t_spanAt_h, .int t_found, .ref t_numbers_h, .int t_pairs, .ref t_pair_h, .ref t_most_h, .int t_rows, .ref t_row_h, .int t_notes, .ref t_under_h, .ref t_agreed_h])), (t_row_h, .inl (cI, 800, .inl t_row_a))]) (sz := sz) (Qf := fun A => Qi0 G cI cJ [(t_h, .inr (10, [.int t_baseWay, .int t_slip, .int t_low, .int t_high, .int t_unlike, .int t_alone, .long t_above, .long t_below, .ref t_edges_h, .ref t_lean_h, .ref t_word_h, .int t_layers, .ref t_layer_h, .ref t_least_h, .int t_sights, .ref t_sight_h, .int t_shadows, .ref t_shadow_h, .long t_endAbove, .long t_endBelow, .long t_speedAbove, .long t_speedBelow, .int t_spans, .ref t_spanLow_h, .ref t_spanHigh_h, .ref t_spanAt_h, .int t_found, .ref t_numbers_h, .int t_pairs, .ref t_pair_h, .ref t_most_h, .int t_rows, .ref t_row_h, .int t_notes, .ref t_under_h, .ref t_agreed_h])), (t_row_h, .inl (cI, 800, .inl t_row_a))] o_r A) (cc := cX10_guess) (maxL := 11) (ret := (some .int)) RX10 (by decide +kernel) rfl rfl (Nat.le_of_ble_eq_true rfl) ?_
  intro p e s m args below meth c A ls Q hQ hx hb hr hts hown hlocks hml hN hK hP hD hS hA hl
  have hl : lv_has ls 11 [(0, .ref t_h), (1, .int x1), (2, .int x2), (3, .int x3), (4, .int x4)] := hl
  have iwX10 := iwX10_guess_X10
  have fl_49 := hts (.fieldLink RX10 49 "CloudOfficeModel" "row" "[I") (by decide +kernel)
  have fl_196 := hts (.fieldLink RX10 196 "CloudOfficeModel" "rows" "I") (by decide +kernel)
  have hret : ∀ (o_r9 : Int32) (pc : Nat) (H : Heap) (locs : List Loc) (ls : Array Slot), decode cX10_guess pc = .ok (.ireturn, 1) → some o_r9 = some o_r → va_P G vwCl [(t_h, .inr (10, [.int t_baseWay, .int t_slip, .int t_low, .int t_high, .int t_unlike, .int t_alone, .long t_above, .long t_below, .ref t_edges_h, .ref t_lean_h, .ref t_word_h, .int t_layers, .ref t_layer_h, .ref t_least_h, .int t_sights, .ref t_sight_h, .int t_shadows, .ref t_shadow_h, .long t_endAbove, .long t_endBelow, .long t_speedAbove, .long t_speedBelow, .int t_spans, .ref t_spanLow_h, .ref t_spanHigh_h, .ref t_spanAt_h, .int t_found, .ref t_numbers_h, .int t_pairs, .ref t_pair_h, .ref t_most_h, .int t_rows, .ref t_row_h, .int t_notes, .ref t_under_h, .ref t_agreed_h])), (t_row_h, .inl (cI, 800, .inl t_row_a))] H → va_D A [(t_h, .inr (10, [.int t_baseWay, .int t_slip, .int t_low, .int t_high, .int t_unlike, .int t_alone, .long t_above, .long t_below, .ref t_edges_h, .ref t_lean_h, .ref t_word_h, .int t_layers, .ref t_layer_h, .ref t_least_h, .int t_sights, .ref t_sight_h, .int t_shadows, .ref t_shadow_h, .long t_endAbove, .long t_endBelow, .long t_speedAbove, .long t_speedBelow, .int t_spans, .ref t_spanLow_h, .ref t_spanHigh_h, .ref t_spanAt_h, .int t_found, .ref t_numbers_h, .int t_pairs, .ref t_pair_h, .ref t_most_h, .int t_rows, .ref t_row_h, .int t_notes, .ref t_under_h, .ref t_agreed_h])), (t_row_h, .inl (cI, 800, .inl t_row_a))] → va_S A s.heap H locs → W p l e rmX10_guess s m args below meth c H locs 0 0 Q (F0 m pc ls [.int o_r9]) := by
    intro o_r9 pc H locs ls hdg he hP hD hS
    cases he
    subst hQ
    exact rt_i hx hb hr hlocks hK hP hD hS rfl hdg
  clear hQ
  unfold fX10_guess at hf
  refine lv_iload_n hx hb dX10_guess_0 rfl (lv_at hl 1 rfl) ?_
  refine lv_iconst (v := 0) hx hb dX10_guess_1 (by decide) ?_
  refine lv_bipush (v := 7) hx hb dX10_guess_2 (by decide) ?_
  obtain ⟨r1, hc2, hf⟩ := ob_some hf
  refine af_iR (va_runS (As := [.int x1, .int 0, .int 7]) (rest := []) ⟨hx, hb, hml, hown, hts⟩ (k_X10_in l G cI cJ (x0 := x1) (x1 := 0) (x2 := 7) (sz := _) (hf := hc2)) (va_cwS 3 hts gX10_guess_X10_in rfl rfl rfl (by decide +kernel) ⟨Nat.le_of_ble_eq_true rfl, Nat.le_of_ble_eq_true rfl⟩) (preS0 (wc := []) hK hP hD hN [] rfl rfl (by decide)) rfl rfl hl.1 rfl (lv_room (Nat.le_of_ble_eq_true rfl)) dX10_guess_4 ⟨Nat.zero_le _, Nat.zero_le _⟩) hP hD hS hA [] rfl (fun H locs hP hS => ?_)
  refine lv_if_eq (tgt := 40) hx hb dX10_guess_7 (by decide) (fun c3 => ?_) (fun c3 => ?_)
  · have hf := ift hf c3
    refine lv_bipush (v := (-2)) hx hb dX10_guess_40 (by decide) ?_
    exact hret (-2) 42 _ _ _ dX10_guess_42 hf hP hD hS
  · have hf := iff_ hf c3
    refine lv_iload_n hx hb dX10_guess_10 rfl (lv_at hl 2 rfl) ?_
    refine lv_iconst (v := 0) hx hb dX10_guess_11 (by decide) ?_
    refine lv_bipush (v := 23) hx hb dX10_guess_12 (by decide) ?_
    obtain ⟨r4, hc5, hf⟩ := ob_some hf
    refine af_iR (va_runS (As := [.int x2, .int 0, .int 23]) (rest := []) ⟨hx, hb, hml, hown, hts⟩ (k_X10_in l G cI cJ (x0 := x2) (x1 := 0) (x2 := 23) (sz := _) (hf := hc5)) (va_cwS 3 hts gX10_guess_X10_in rfl rfl rfl (by decide +kernel) ⟨Nat.le_of_ble_eq_true rfl, Nat.le_of_ble_eq_true rfl⟩) (preS0 (wc := []) hK hP hD hN [] rfl rfl (by decide)) rfl rfl hl.1 rfl (lv_room (Nat.le_of_ble_eq_true rfl)) dX10_guess_14 ⟨Nat.zero_le _, Nat.zero_le _⟩) hP hD hS hA [] rfl (fun H locs hP hS => ?_)
    refine lv_if_eq (tgt := 40) hx hb dX10_guess_17 (by decide) (fun c6 => ?_) (fun c6 => ?_)
    · have hf := ift hf c6
      refine lv_bipush (v := (-2)) hx hb dX10_guess_40 (by decide) ?_
      exact hret (-2) 42 _ _ _ dX10_guess_42 hf hP hD hS
    · have hf := iff_ hf c6
      refine lv_iload_n hx hb dX10_guess_20 rfl (lv_at hl 3 rfl) ?_
      refine lv_iconst (v := 0) hx hb dX10_guess_21 (by decide) ?_
      refine lv_bipush (v := 7) hx hb dX10_guess_22 (by decide) ?_
      obtain ⟨r7, hc8, hf⟩ := ob_some hf
      refine af_iR (va_runS (As := [.int x3, .int 0, .int 7]) (rest := []) ⟨hx, hb, hml, hown, hts⟩ (k_X10_in l G cI cJ (x0 := x3) (x1 := 0) (x2 := 7) (sz := _) (hf := hc8)) (va_cwS 3 hts gX10_guess_X10_in rfl rfl rfl (by decide +kernel) ⟨Nat.le_of_ble_eq_true rfl, Nat.le_of_ble_eq_true rfl⟩) (preS0 (wc := []) hK hP hD hN [] rfl rfl (by decide)) rfl rfl hl.1 rfl (lv_room (Nat.le_of_ble_eq_true rfl)) dX10_guess_24 ⟨Nat.zero_le _, Nat.zero_le _⟩) hP hD hS hA [] rfl (fun H locs hP hS => ?_)
      refine lv_if_eq (tgt := 40) hx hb dX10_guess_27 (by decide) (fun c9 => ?_) (fun c9 => ?_)
      · have hf := ift hf c9
        refine lv_bipush (v := (-2)) hx hb dX10_guess_40 (by decide) ?_
        exact hret (-2) 42 _ _ _ dX10_guess_42 hf hP hD hS
      · have hf := iff_ hf c9
        refine lv_iload hx hb dX10_guess_30 (lv_at hl 4 rfl) ?_
        refine lv_iconst (v := 0) hx hb dX10_guess_32 (by decide) ?_
        refine lv_iconst (v := 2) hx hb dX10_guess_33 (by decide) ?_
        obtain ⟨r10, hc11, hf⟩ := ob_some hf
        refine af_iR (va_runS (As := [.int x4, .int 0, .int 2]) (rest := []) ⟨hx, hb, hml, hown, hts⟩ (k_X10_in l G cI cJ (x0 := x4) (x1 := 0) (x2 := 2) (sz := _) (hf := hc11)) (va_cwS 3 hts gX10_guess_X10_in rfl rfl rfl (by decide +kernel) ⟨Nat.le_of_ble_eq_true rfl, Nat.le_of_ble_eq_true rfl⟩) (preS0 (wc := []) hK hP hD hN [] rfl rfl (by decide)) rfl rfl hl.1 rfl (lv_room (Nat.le_of_ble_eq_true rfl)) dX10_guess_34 ⟨Nat.zero_le _, Nat.zero_le _⟩) hP hD hS hA [] rfl (fun H locs hP hS => ?_)
        refine lv_if_ne (tgt := 43) hx hb dX10_guess_37 (by decide) (fun c12 => ?_) (fun c12 => ?_)
        · have hf := iff_ hf c12
          refine lv_iconst (v := (-1)) hx hb dX10_guess_43 (by decide) ?_
          refine lv_istore (lv' := [(5, .int (-1)), (0, .ref t_h), (1, .int x1), (2, .int x2), (3, .int x3), (4, .int x4)]) hx hb dX10_guess_44 hl (by decide) rfl (fun ls hl => ?_)
          refine lv_iconst (v := 0) hx hb dX10_guess_46 (by decide) ?_
          refine lv_istore (lv' := [(6, .int 0), (5, .int (-1)), (0, .ref t_h), (1, .int x1), (2, .int x2), (3, .int x3), (4, .int x4)]) hx hb dX10_guess_47 hl (by decide) rfl (fun ls hl => ?_)
          refine lv_iconst (v := 0) hx hb dX10_guess_49 (by decide) ?_
          refine lv_istore (lv' := [(7, .int 0), (6, .int 0), (5, .int (-1)), (0, .ref t_h), (1, .int x1), (2, .int x2), (3, .int x3), (4, .int x4)]) hx hb dX10_guess_50 hl (by decide) rfl (fun ls hl => ?_)
          refine lv_iconst (v := 0) hx hb dX10_guess_52 (by decide) ?_
          refine lv_istore (lv' := [(8, .int 0), (7, .int 0), (6, .int 0), (5, .int (-1)), (0, .ref t_h), (1, .int x1), (2, .int x2), (3, .int x3), (4, .int x4)]) hx hb dX10_guess_53 hl (by decide) rfl (fun ls hl => ?_)
          obtain ⟨x67, x68, x69, ht1, hf⟩ := ob3_some hf
          have hx1_0 : ∀ (x679 : Int32) (x689 : Int32) (x699 : Int32), (x679, x689, x699) = (x67, x68, x69) → ∀ (H : Heap) (locs : List Loc) (ls : Array Slot), va_P G vwCl [(t_h, .inr (10, [.int t_baseWay, .int t_slip, .int t_low, .int t_high, .int t_unlike, .int t_alone, .long t_above, .long t_below, .ref t_edges_h, .ref t_lean_h, .ref t_word_h, .int t_layers, .ref t_layer_h, .ref t_least_h, .int t_sights, .ref t_sight_h, .int t_shadows, .ref t_shadow_h, .long t_endAbove, .long t_endBelow, .long t_speedAbove, .long t_speedBelow, .int t_spans, .ref t_spanLow_h, .ref t_spanHigh_h, .ref t_spanAt_h, .int t_found, .ref t_numbers_h, .int t_pairs, .ref t_pair_h, .ref t_most_h, .int t_rows, .ref t_row_h, .int t_notes, .ref t_under_h, .ref t_agreed_h])), (t_row_h, .inl (cI, 800, .inl t_row_a))] H → va_D A [(t_h, .inr (10, [.int t_baseWay, .int t_slip, .int t_low, .int t_high, .int t_unlike, .int t_alone, .long t_above, .long t_below, .ref t_edges_h, .ref t_lean_h, .ref t_word_h, .int t_layers, .ref t_layer_h, .ref t_least_h, .int t_sights, .ref t_sight_h, .int t_shadows, .ref t_shadow_h, .long t_endAbove, .long t_endBelow, .long t_speedAbove, .long t_speedBelow, .int t_spans, .ref t_spanLow_h, .ref t_spanHigh_h, .ref t_spanAt_h, .int t_found, .ref t_numbers_h, .int t_pairs, .ref t_pair_h, .ref t_most_h, .int t_rows, .ref t_row_h, .int t_notes, .ref t_under_h, .ref t_agreed_h])), (t_row_h, .inl (cI, 800, .inl t_row_a))] → va_S A s.heap H locs → lv_has ls 11 [(4, .int x4), (5, .int x679), (6, .int x689), (7, .int x699)] → W p l e rmX10_guess s m args below meth c H locs 0 0 Q (F0 m 222 ls []) := by
            intro x679 x689 x699 he H locs ls hP hD hS hl
            cases he
            refine lv_iload hx hb dX10_guess_222 (lv_at hl 0 rfl) ?_
            refine lv_if_ne (tgt := 244) hx hb dX10_guess_224 (by decide) (fun c70 => ?_) (fun c70 => ?_)
            · have hf := iff_ hf c70
              refine lv_iload hx hb dX10_guess_244 (lv_at hl 0 rfl) ?_
              refine lv_iconst (v := 1) hx hb dX10_guess_246 (by decide) ?_
              refine lv_icmp_ne (tgt := 255) hx hb dX10_guess_247 (by decide) (fun c71 => ?_) (fun c71 => ?_)
              · have hf := iff_ hf c71
                refine lv_iload hx hb dX10_guess_255 (lv_at hl 1 rfl) ?_
                exact hret x67 257 _ _ _ dX10_guess_257 hf hP hD hS
              · have hf := ift hf c71
                refine lv_iload hx hb dX10_guess_250 (lv_at hl 2 rfl) ?_
                refine lv_goto (tgt := 257) hx hb dX10_guess_252 (by decide) ?_
                exact hret x68 257 _ _ _ dX10_guess_257 hf hP hD hS
            · have hf := ift hf c70
              refine lv_iload hx hb dX10_guess_227 (lv_at hl 2 rfl) ?_
              refine lv_if_ne (tgt := 236) hx hb dX10_guess_229 (by decide) (fun c72 => ?_) (fun c72 => ?_)
              · have hf := iff_ hf c72
                refine lv_iload hx hb dX10_guess_236 (lv_at hl 3 rfl) ?_
                refine lv_iload hx hb dX10_guess_238 (lv_at hl 2 rfl) ?_
                obtain ⟨h73, hf⟩ := gd_some hf
                refine lv_idiv hx hb dX10_guess_240 (of_decide_eq_true h73) ?_
                refine lv_goto (tgt := 257) hx hb dX10_guess_241 (by decide) ?_
                exact hret (x69 / x68) 257 _ _ _ dX10_guess_257 hf hP hD hS
              · have hf := ift hf c72
                refine lv_iconst (v := (-1)) hx hb dX10_guess_232 (by decide) ?_
                refine lv_goto (tgt := 257) hx hb dX10_guess_233 (by decide) ?_
                exact hret (-1) 257 _ _ _ dX10_guess_257 hf hP hD hS
          clear hf
          have hl1 : ∀ (n : Nat) (u13 : Int32) (u14 : Int32) (u15 : Int32) (u16 : Int32), it (fX10_guess_L1 t_rows t_row_a x2 x3 x1) n (u13, u14, u15, u16) = some (x67, x68, x69) → ∀ (H : Heap) (locs : List Loc) (ls : Array Slot), va_P G vwCl [(t_h, .inr (10, [.int t_baseWay, .int t_slip, .int t_low, .int t_high, .int t_unlike, .int t_alone, .long t_above, .long t_below, .ref t_edges_h, .ref t_lean_h, .ref t_word_h, .int t_layers, .ref t_layer_h, .ref t_least_h, .int t_sights, .ref t_sight_h, .int t_shadows, .ref t_shadow_h, .long t_endAbove, .long t_endBelow, .long t_speedAbove, .long t_speedBelow, .int t_spans, .ref t_spanLow_h, .ref t_spanHigh_h, .ref t_spanAt_h, .int t_found, .ref t_numbers_h, .int t_pairs, .ref t_pair_h, .ref t_most_h, .int t_rows, .ref t_row_h, .int t_notes, .ref t_under_h, .ref t_agreed_h])), (t_row_h, .inl (cI, 800, .inl t_row_a))] H → va_D A [(t_h, .inr (10, [.int t_baseWay, .int t_slip, .int t_low, .int t_high, .int t_unlike, .int t_alone, .long t_above, .long t_below, .ref t_edges_h, .ref t_lean_h, .ref t_word_h, .int t_layers, .ref t_layer_h, .ref t_least_h, .int t_sights, .ref t_sight_h, .int t_shadows, .ref t_shadow_h, .long t_endAbove, .long t_endBelow, .long t_speedAbove, .long t_speedBelow, .int t_spans, .ref t_spanLow_h, .ref t_spanHigh_h, .ref t_spanAt_h, .int t_found, .ref t_numbers_h, .int t_pairs, .ref t_pair_h, .ref t_most_h, .int t_rows, .ref t_row_h, .int t_notes, .ref t_under_h, .ref t_agreed_h])), (t_row_h, .inl (cI, 800, .inl t_row_a))] → va_S A s.heap H locs → lv_has ls 11 [(0, .ref t_h), (1, .int x1), (2, .int x2), (3, .int x3), (4, .int x4), (5, .int u13), (6, .int u14), (7, .int u15), (8, .int u16)] → W p l e rmX10_guess s m args below meth c H locs 0 0 Q (F0 m 55 ls []) := by
            intro n
            induction n with
            | zero => intro u13 u14 u15 u16 hz; exact (it_zero hz).elim
            | succ n ih =>
              intro u13 u14 u15 u16 hz H locs ls hP hD hS hl
              obtain ⟨x9, hf, hq⟩ := it_succ hz
              unfold fX10_guess_L1 at hf
              dsimp only [un4] at hf
              refine lv_iload hx hb dX10_guess_55 (lv_at hl 8 rfl) ?_
              refine lv_aload_n hx hb dX10_guess_57 rfl (lv_at hl 0 rfl) ?_
              refine va_get (D := G) (ci := 10) (v := .int t_rows) (C := RX10) (T := TX10) (N := 36) hx hb hts iwX10 hown hK hP 0 rfl rfl 31 (by decide) fl_196 (fun _ h9 => h9) rfl dX10_guess_58 ?_
              refine lv_icmp_ge (tgt := 222) hx hb dX10_guess_61 (by decide) (fun c17 => ?_) (fun c17 => ?_)
              · have hf := ift hf c17
                cases hf
                exact hx1_0 _ _ _ hq _ _ _ hP hD hS (lv_sub hl [4, 5, 6, 7] rfl)
              · have hf := iff_ hf c17
                refine lv_aload_n hx hb dX10_guess_64 rfl (lv_at hl 0 rfl) ?_
                refine va_get (D := G) (ci := 10) (v := .ref t_row_h) (C := RX10) (T := TX10) (N := 36) hx hb hts iwX10 hown hK hP 0 rfl rfl 32 (by decide) fl_49 (fun _ h9 => h9) rfl dX10_guess_65 ?_
                refine lv_iconst (v := 4) hx hb dX10_guess_68 (by decide) ?_
                refine lv_iload hx hb dX10_guess_69 (lv_at hl 8 rfl) ?_
                refine lv_imul hx hb dX10_guess_71 ?_
                refine lv_iconst (v := 1) hx hb dX10_guess_72 (by decide) ?_
                refine lv_iadd hx hb dX10_guess_73 ?_
                obtain ⟨h18, hf⟩ := gd_some hf
                refine va_iald hx hb hK hP 1 0 rfl rfl (bnd_in h18) dX10_guess_74 ?_
                refine lv_iload_n hx hb dX10_guess_75 rfl (lv_at hl 2 rfl) ?_
                refine lv_bipush (v := 24) hx hb dX10_guess_76 (by decide) ?_
                obtain ⟨r19, hc20, hf⟩ := ob_some hf
                refine af_iR (va_runS (As := [.int (t_row_a (Int32.toNatClampNeg ((4 * u16) + 1))), .int x2, .int 24]) (rest := []) ⟨hx, hb, hml, hown, hts⟩ (k_X10_round l G cI cJ (x0 := (t_row_a (Int32.toNatClampNeg ((4 * u16) + 1)))) (x1 := x2) (x2 := 24) (sz := _) (hf := hc20)) (va_cwS 3 hts gX10_guess_X10_round rfl rfl rfl (by decide +kernel) ⟨Nat.le_of_ble_eq_true rfl, Nat.le_of_ble_eq_true rfl⟩) (preS0 (wc := []) hK hP hD hN [] rfl rfl (by decide)) rfl rfl hl.1 rfl (lv_room (Nat.le_of_ble_eq_true rfl)) dX10_guess_78 ⟨Nat.zero_le _, Nat.zero_le _⟩) hP hD hS hA [] rfl (fun H locs hP hS => ?_)
                refine lv_aload_n hx hb dX10_guess_81 rfl (lv_at hl 0 rfl) ?_
                refine va_get (D := G) (ci := 10) (v := .ref t_row_h) (C := RX10) (T := TX10) (N := 36) hx hb hts iwX10 hown hK hP 0 rfl rfl 32 (by decide) fl_49 (fun _ h9 => h9) rfl dX10_guess_82 ?_
                refine lv_iconst (v := 4) hx hb dX10_guess_85 (by decide) ?_
                refine lv_iload hx hb dX10_guess_86 (lv_at hl 8 rfl) ?_
                refine lv_imul hx hb dX10_guess_88 ?_
                refine lv_iconst (v := 2) hx hb dX10_guess_89 (by decide) ?_
                refine lv_iadd hx hb dX10_guess_90 ?_
                obtain ⟨h21, hf⟩ := gd_some hf
                refine va_iald hx hb hK hP 1 0 rfl rfl (bnd_in h21) dX10_guess_91 ?_
                refine lv_iload_n hx hb dX10_guess_92 rfl (lv_at hl 3 rfl) ?_
                refine lv_bipush (v := 8) hx hb dX10_guess_93 (by decide) ?_
                obtain ⟨r22, hc23, hf⟩ := ob_some hf
                refine af_iR (va_runS (As := [.int (t_row_a (Int32.toNatClampNeg ((4 * u16) + 2))), .int x3, .int 8]) (rest := [.int r19]) ⟨hx, hb, hml, hown, hts⟩ (k_X10_round l G cI cJ (x0 := (t_row_a (Int32.toNatClampNeg ((4 * u16) + 2)))) (x1 := x3) (x2 := 8) (sz := _) (hf := hc23)) (va_cwS 3 hts gX10_guess_X10_round rfl rfl rfl (by decide +kernel) ⟨Nat.le_of_ble_eq_true rfl, Nat.le_of_ble_eq_true rfl⟩) (preS0 (wc := []) hK hP hD hN [] rfl rfl (by decide)) rfl rfl hl.1 rfl (lv_room (Nat.le_of_ble_eq_true rfl)) dX10_guess_95 ⟨Nat.zero_le _, Nat.zero_le _⟩) hP hD hS hA [] rfl (fun H locs hP hS => ?_)
                refine lv_iadd hx hb dX10_guess_98 ?_
                refine lv_topi (fun v24 ev24 => ?_)
                have hf := bv_at ev24 hf
                refine lv_istore (lv' := [(9, .int v24), (0, .ref t_h), (1, .int x1), (2, .int x2), (3, .int x3), (4, .int x4), (5, .int u13), (6, .int u14), (7, .int u15), (8, .int u16)]) hx hb dX10_guess_99 hl (by decide) rfl (fun ls hl => ?_)
                refine lv_aload_n hx hb dX10_guess_101 rfl (lv_at hl 1 rfl) ?_
                refine va_get (D := G) (ci := 10) (v := .ref t_row_h) (C := RX10) (T := TX10) (N := 36) hx hb hts iwX10 hown hK hP 0 rfl rfl 32 (by decide) fl_49 (fun _ h9 => h9) rfl dX10_guess_102 ?_
                refine lv_iconst (v := 4) hx hb dX10_guess_105 (by decide) ?_
                refine lv_iload hx hb dX10_guess_106 (lv_at hl 9 rfl) ?_
                refine lv_imul hx hb dX10_guess_108 ?_
                obtain ⟨h25, hf⟩ := gd_some hf
                refine va_iald hx hb hK hP 1 0 rfl rfl (bnd_in h25) dX10_guess_109 ?_
                refine lv_iload_n hx hb dX10_guess_110 rfl (lv_at hl 2 rfl) ?_
                obtain ⟨m26, m27, m28, hr29, hf⟩ := ob3_some hf
                have hj30 : ∀ (m269 : Int32) (m279 : Int32) (m289 : Int32), some (m269, m279, m289) = some (m26, m27, m28) → ∀ (H : Heap) (locs : List Loc) (ls : Array Slot), va_P G vwCl [(t_h, .inr (10, [.int t_baseWay, .int t_slip, .int t_low, .int t_high, .int t_unlike, .int t_alone, .long t_above, .long t_below, .ref t_edges_h, .ref t_lean_h, .ref t_word_h, .int t_layers, .ref t_layer_h, .ref t_least_h, .int t_sights, .ref t_sight_h, .int t_shadows, .ref t_shadow_h, .long t_endAbove, .long t_endBelow, .long t_speedAbove, .long t_speedBelow, .int t_spans, .ref t_spanLow_h, .ref t_spanHigh_h, .ref t_spanAt_h, .int t_found, .ref t_numbers_h, .int t_pairs, .ref t_pair_h, .ref t_most_h, .int t_rows, .ref t_row_h, .int t_notes, .ref t_under_h, .ref t_agreed_h])), (t_row_h, .inl (cI, 800, .inl t_row_a))] H → va_D A [(t_h, .inr (10, [.int t_baseWay, .int t_slip, .int t_low, .int t_high, .int t_unlike, .int t_alone, .long t_above, .long t_below, .ref t_edges_h, .ref t_lean_h, .ref t_word_h, .int t_layers, .ref t_layer_h, .ref t_least_h, .int t_sights, .ref t_sight_h, .int t_shadows, .ref t_shadow_h, .long t_endAbove, .long t_endBelow, .long t_speedAbove, .long t_speedBelow, .int t_spans, .ref t_spanLow_h, .ref t_spanHigh_h, .ref t_spanAt_h, .int t_found, .ref t_numbers_h, .int t_pairs, .ref t_pair_h, .ref t_most_h, .int t_rows, .ref t_row_h, .int t_notes, .ref t_under_h, .ref t_agreed_h])), (t_row_h, .inl (cI, 800, .inl t_row_a))] → va_S A s.heap H locs → lv_has ls 11 [(0, .ref t_h), (1, .int x1), (2, .int x2), (3, .int x3), (4, .int x4), (5, .int m269), (6, .int m279), (7, .int m289), (8, .int u16)] → W p l e rmX10_guess s m args below meth c H locs 0 0 Q (F0 m 216 ls []) := by
                  intro m269 m279 m289 he H locs ls hP hD hS hl
                  cases he
                  obtain ⟨v66, ev66⟩ : ∃ y : Int32, y = u16 + 1 := ⟨_, rfl⟩
                  have hf := bv_at ev66 hf
                  refine lv_iinc (v := v66) (lv' := [(8, .int v66), (0, .ref t_h), (1, .int x1), (2, .int x2), (3, .int x3), (4, .int x4), (5, .int m26), (6, .int m27), (7, .int m28)]) hx hb dX10_guess_216 hl (k := 8) rfl (by rw [ev66]; rfl) (by decide) rfl (fun ls hl => ?_)
                  refine lv_goto (tgt := 55) hx hb dX10_guess_219 (by decide) ?_
                  cases hf
                  exact ih _ _ _ _ hq _ _ _ hP hD hS (lv_sub hl [1, 2, 3, 4, 5, 6, 7, 8, 0] rfl)
                replace hf := hr29
                refine lv_icmp_ne (tgt := 216) hx hb dX10_guess_111 (by decide) (fun c31 => ?_) (fun c31 => ?_)
                · have hf := iff_ hf c31
                  exact hj30 _ _ _ hf _ _ _ hP hD hS (lv_sub hl [1, 2, 3, 4, 5, 6, 7, 8, 9] rfl)
                · have hf := ift hf c31
                  refine lv_aload_n hx hb dX10_guess_114 rfl (lv_at hl 1 rfl) ?_
                  refine va_get (D := G) (ci := 10) (v := .ref t_row_h) (C := RX10) (T := TX10) (N := 36) hx hb hts iwX10 hown hK hP 0 rfl rfl 32 (by decide) fl_49 (fun _ h9 => h9) rfl dX10_guess_115 ?_
                  refine lv_iconst (v := 4) hx hb dX10_guess_118 (by decide) ?_
                  refine lv_iload hx hb dX10_guess_119 (lv_at hl 9 rfl) ?_
                  refine lv_imul hx hb dX10_guess_121 ?_
                  refine lv_iconst (v := 3) hx hb dX10_guess_122 (by decide) ?_
                  refine lv_iadd hx hb dX10_guess_123 ?_
                  obtain ⟨h32, hf⟩ := gd_some hf
                  refine va_iald hx hb hK hP 1 0 rfl rfl (bnd_in h32) dX10_guess_124 ?_
                  refine lv_iconst (v := (-1)) hx hb dX10_guess_125 (by decide) ?_
                  refine lv_icmp_eq (tgt := 216) hx hb dX10_guess_126 (by decide) (fun c33 => ?_) (fun c33 => ?_)
                  · have hf := ift hf c33
                    exact hj30 _ _ _ hf _ _ _ hP hD hS (lv_sub hl [1, 2, 3, 4, 5, 6, 7, 8, 9] rfl)
                  · have hf := iff_ hf c33
                    refine lv_iload hx hb dX10_guess_129 (lv_at hl 6 rfl) ?_
                    refine lv_iconst (v := (-1)) hx hb dX10_guess_131 (by decide) ?_
                    refine lv_icmp_eq (tgt := 142) hx hb dX10_guess_132 (by decide) (fun c34 => ?_) (fun c34 => ?_)
                    · have hf := ift hf c34
                      refine lv_iload hx hb dX10_guess_142 (lv_at hl 6 rfl) ?_
                      refine lv_iconst (v := (-1)) hx hb dX10_guess_144 (by decide) ?_
                      obtain ⟨m35, hr36, hf⟩ := ob_some hf
                      have hj37 : ∀ (m359 : Int32), some m359 = some m35 → ∀ (H : Heap) (locs : List Loc) (ls : Array Slot), va_P G vwCl [(t_h, .inr (10, [.int t_baseWay, .int t_slip, .int t_low, .int t_high, .int t_unlike, .int t_alone, .long t_above, .long t_below, .ref t_edges_h, .ref t_lean_h, .ref t_word_h, .int t_layers, .ref t_layer_h, .ref t_least_h, .int t_sights, .ref t_sight_h, .int t_shadows, .ref t_shadow_h, .long t_endAbove, .long t_endBelow, .long t_speedAbove, .long t_speedBelow, .int t_spans, .ref t_spanLow_h, .ref t_spanHigh_h, .ref t_spanAt_h, .int t_found, .ref t_numbers_h, .int t_pairs, .ref t_pair_h, .ref t_most_h, .int t_rows, .ref t_row_h, .int t_notes, .ref t_under_h, .ref t_agreed_h])), (t_row_h, .inl (cI, 800, .inl t_row_a))] H → va_D A [(t_h, .inr (10, [.int t_baseWay, .int t_slip, .int t_low, .int t_high, .int t_unlike, .int t_alone, .long t_above, .long t_below, .ref t_edges_h, .ref t_lean_h, .ref t_word_h, .int t_layers, .ref t_layer_h, .ref t_least_h, .int t_sights, .ref t_sight_h, .int t_shadows, .ref t_shadow_h, .long t_endAbove, .long t_endBelow, .long t_speedAbove, .long t_speedBelow, .int t_spans, .ref t_spanLow_h, .ref t_spanHigh_h, .ref t_spanAt_h, .int t_found, .ref t_numbers_h, .int t_pairs, .ref t_pair_h, .ref t_most_h, .int t_rows, .ref t_row_h, .int t_notes, .ref t_under_h, .ref t_agreed_h])), (t_row_h, .inl (cI, 800, .inl t_row_a))] → va_S A s.heap H locs → lv_has ls 11 [(0, .ref t_h), (1, .int x1), (2, .int x2), (3, .int x3), (4, .int x4), (6, .int u14), (7, .int u15), (8, .int u16), (9, .int v24)] → W p l e rmX10_guess s m args below meth c H locs 0 0 Q (F0 m 160 ls [.int m359]) := by
                        intro m359 he H locs ls hP hD hS hl
                        cases he
                        refine lv_istore (lv' := [(10, .int m35), (0, .ref t_h), (1, .int x1), (2, .int x2), (3, .int x3), (4, .int x4), (6, .int u14), (7, .int u15), (8, .int u16), (9, .int v24)]) hx hb dX10_guess_160 hl (by decide) rfl (fun ls hl => ?_)
                        refine lv_iload hx hb dX10_guess_162 (lv_at hl 0 rfl) ?_
                        obtain ⟨m40, hr41, hf⟩ := ob_some hf
                        have hj42 : ∀ (m409 : Int32), some m409 = some m40 → ∀ (H : Heap) (locs : List Loc) (ls : Array Slot), va_P G vwCl [(t_h, .inr (10, [.int t_baseWay, .int t_slip, .int t_low, .int t_high, .int t_unlike, .int t_alone, .long t_above, .long t_below, .ref t_edges_h, .ref t_lean_h, .ref t_word_h, .int t_layers, .ref t_layer_h, .ref t_least_h, .int t_sights, .ref t_sight_h, .int t_shadows, .ref t_shadow_h, .long t_endAbove, .long t_endBelow, .long t_speedAbove, .long t_speedBelow, .int t_spans, .ref t_spanLow_h, .ref t_spanHigh_h, .ref t_spanAt_h, .int t_found, .ref t_numbers_h, .int t_pairs, .ref t_pair_h, .ref t_most_h, .int t_rows, .ref t_row_h, .int t_notes, .ref t_under_h, .ref t_agreed_h])), (t_row_h, .inl (cI, 800, .inl t_row_a))] H → va_D A [(t_h, .inr (10, [.int t_baseWay, .int t_slip, .int t_low, .int t_high, .int t_unlike, .int t_alone, .long t_above, .long t_below, .ref t_edges_h, .ref t_lean_h, .ref t_word_h, .int t_layers, .ref t_layer_h, .ref t_least_h, .int t_sights, .ref t_sight_h, .int t_shadows, .ref t_shadow_h, .long t_endAbove, .long t_endBelow, .long t_speedAbove, .long t_speedBelow, .int t_spans, .ref t_spanLow_h, .ref t_spanHigh_h, .ref t_spanAt_h, .int t_found, .ref t_numbers_h, .int t_pairs, .ref t_pair_h, .ref t_most_h, .int t_rows, .ref t_row_h, .int t_notes, .ref t_under_h, .ref t_agreed_h])), (t_row_h, .inl (cI, 800, .inl t_row_a))] → va_S A s.heap H locs → lv_has ls 11 [(0, .ref t_h), (1, .int x1), (2, .int x2), (3, .int x3), (4, .int x4), (7, .int u15), (8, .int u16), (9, .int v24), (10, .int m35)] → W p l e rmX10_guess s m args below meth c H locs 0 0 Q (F0 m 175 ls [.int m409]) := by
                          intro m409 he H locs ls hP hD hS hl
                          cases he
                          refine lv_istore (lv' := [(6, .int m40), (0, .ref t_h), (1, .int x1), (2, .int x2), (3, .int x3), (4, .int x4), (7, .int u15), (8, .int u16), (9, .int v24), (10, .int m35)]) hx hb dX10_guess_175 hl (by decide) rfl (fun ls hl => ?_)
                          refine lv_iload hx hb dX10_guess_177 (lv_at hl 9 rfl) ?_
                          obtain ⟨m44, hr45, hf⟩ := ob_some hf
                          have hj46 : ∀ (m449 : Int32), some m449 = some m44 → ∀ (H : Heap) (locs : List Loc) (ls : Array Slot), va_P G vwCl [(t_h, .inr (10, [.int t_baseWay, .int t_slip, .int t_low, .int t_high, .int t_unlike, .int t_alone, .long t_above, .long t_below, .ref t_edges_h, .ref t_lean_h, .ref t_word_h, .int t_layers, .ref t_layer_h, .ref t_least_h, .int t_sights, .ref t_sight_h, .int t_shadows, .ref t_shadow_h, .long t_endAbove, .long t_endBelow, .long t_speedAbove, .long t_speedBelow, .int t_spans, .ref t_spanLow_h, .ref t_spanHigh_h, .ref t_spanAt_h, .int t_found, .ref t_numbers_h, .int t_pairs, .ref t_pair_h, .ref t_most_h, .int t_rows, .ref t_row_h, .int t_notes, .ref t_under_h, .ref t_agreed_h])), (t_row_h, .inl (cI, 800, .inl t_row_a))] H → va_D A [(t_h, .inr (10, [.int t_baseWay, .int t_slip, .int t_low, .int t_high, .int t_unlike, .int t_alone, .long t_above, .long t_below, .ref t_edges_h, .ref t_lean_h, .ref t_word_h, .int t_layers, .ref t_layer_h, .ref t_least_h, .int t_sights, .ref t_sight_h, .int t_shadows, .ref t_shadow_h, .long t_endAbove, .long t_endBelow, .long t_speedAbove, .long t_speedBelow, .int t_spans, .ref t_spanLow_h, .ref t_spanHigh_h, .ref t_spanAt_h, .int t_found, .ref t_numbers_h, .int t_pairs, .ref t_pair_h, .ref t_most_h, .int t_rows, .ref t_row_h, .int t_notes, .ref t_under_h, .ref t_agreed_h])), (t_row_h, .inl (cI, 800, .inl t_row_a))] → va_S A s.heap H locs → lv_has ls 11 [(0, .ref t_h), (1, .int x1), (2, .int x2), (3, .int x3), (4, .int x4), (6, .int m40), (8, .int u16), (9, .int v24)] → W p l e rmX10_guess s m args below meth c H locs 0 0 Q (F0 m 210 ls [.int m449]) := by
                            intro m449 he H locs ls hP hD hS hl
                            cases he
                            refine lv_istore (lv' := [(7, .int m44), (0, .ref t_h), (1, .int x1), (2, .int x2), (3, .int x3), (4, .int x4), (6, .int m40), (8, .int u16), (9, .int v24)]) hx hb dX10_guess_210 hl (by decide) rfl (fun ls hl => ?_)
                            refine lv_iload hx hb dX10_guess_212 (lv_at hl 8 rfl) ?_
                            refine lv_istore (lv' := [(5, .int v24), (7, .int m44), (0, .ref t_h), (1, .int x1), (2, .int x2), (3, .int x3), (4, .int x4), (6, .int m40), (8, .int u16), (9, .int v24)]) hx hb dX10_guess_214 hl (by decide) rfl (fun ls hl => ?_)
                            exact hj30 _ _ _ hf _ _ _ hP hD hS (lv_sub hl [2, 3, 4, 5, 6, 0, 7, 1, 8] rfl)
                          replace hf := hr45
                          refine lv_if_eq (tgt := 196) hx hb dX10_guess_179 (by decide) (fun c47 => ?_) (fun c47 => ?_)
                          · have hf := ift hf c47
                            refine lv_iload hx hb dX10_guess_196 (lv_at hl 6 rfl) ?_
                            refine lv_aload_n hx hb dX10_guess_198 rfl (lv_at hl 1 rfl) ?_
                            refine va_get (D := G) (ci := 10) (v := .ref t_row_h) (C := RX10) (T := TX10) (N := 36) hx hb hts iwX10 hown hK hP 0 rfl rfl 32 (by decide) fl_49 (fun _ h9 => h9) rfl dX10_guess_199 ?_
                            refine lv_iconst (v := 4) hx hb dX10_guess_202 (by decide) ?_
                            refine lv_iload hx hb dX10_guess_203 (lv_at hl 7 rfl) ?_
                            refine lv_imul hx hb dX10_guess_205 ?_
                            refine lv_iconst (v := 3) hx hb dX10_guess_206 (by decide) ?_
                            refine lv_iadd hx hb dX10_guess_207 ?_
                            obtain ⟨h48, hf⟩ := gd_some hf
                            refine va_iald hx hb hK hP 1 0 rfl rfl (bnd_in h48) dX10_guess_208 ?_
                            refine lv_iadd hx hb dX10_guess_209 ?_
                            exact hj46 _ hf _ _ _ hP hD hS (lv_sub hl [1, 2, 3, 4, 5, 0, 7, 8] rfl)
                          · have hf := iff_ hf c47
                            refine lv_aload_n hx hb dX10_guess_182 rfl (lv_at hl 1 rfl) ?_
                            refine va_get (D := G) (ci := 10) (v := .ref t_row_h) (C := RX10) (T := TX10) (N := 36) hx hb hts iwX10 hown hK hP 0 rfl rfl 32 (by decide) fl_49 (fun _ h9 => h9) rfl dX10_guess_183 ?_
                            refine lv_iconst (v := 4) hx hb dX10_guess_186 (by decide) ?_
                            refine lv_iload hx hb dX10_guess_187 (lv_at hl 7 rfl) ?_
                            refine lv_imul hx hb dX10_guess_189 ?_
                            refine lv_iconst (v := 3) hx hb dX10_guess_190 (by decide) ?_
                            refine lv_iadd hx hb dX10_guess_191 ?_
                            obtain ⟨h49, hf⟩ := gd_some hf
                            refine va_iald hx hb hK hP 1 0 rfl rfl (bnd_in h49) dX10_guess_192 ?_
                            refine lv_goto (tgt := 210) hx hb dX10_guess_193 (by decide) ?_
                            exact hj46 _ hf _ _ _ hP hD hS (lv_sub hl [1, 2, 3, 4, 5, 0, 7, 8] rfl)
                        replace hf := hr41
                        refine lv_if_eq (tgt := 171) hx hb dX10_guess_164 (by decide) (fun c43 => ?_) (fun c43 => ?_)
                        · have hf := ift hf c43
                          refine lv_iload hx hb dX10_guess_171 (lv_at hl 6 rfl) ?_
                          refine lv_iconst (v := 1) hx hb dX10_guess_173 (by decide) ?_
                          refine lv_iadd hx hb dX10_guess_174 ?_
                          exact hj42 _ hf _ _ _ hP hD hS (lv_sub hl [1, 2, 3, 4, 5, 7, 8, 9, 0] rfl)
                        · have hf := iff_ hf c43
                          refine lv_iconst (v := 1) hx hb dX10_guess_167 (by decide) ?_
                          refine lv_goto (tgt := 175) hx hb dX10_guess_168 (by decide) ?_
                          exact hj42 _ hf _ _ _ hP hD hS (lv_sub hl [1, 2, 3, 4, 5, 7, 8, 9, 0] rfl)
                      replace hf := hr36
                      refine lv_icmp_eq (tgt := 155) hx hb dX10_guess_145 (by decide) (fun c38 => ?_) (fun c38 => ?_)
                      · have hf := ift hf c38
                        refine lv_iconst (v := 1) hx hb dX10_guess_155 (by decide) ?_
                        refine lv_goto (tgt := 160) hx hb dX10_guess_156 (by decide) ?_
                        exact hj37 _ hf _ _ _ hP hD hS (lv_sub hl [1, 2, 3, 4, 5, 7, 8, 9, 0] rfl)
                      · have hf := iff_ hf c38
                        refine lv_iload hx hb dX10_guess_148 (lv_at hl 0 rfl) ?_
                        refine lv_iload hx hb dX10_guess_150 (lv_at hl 6 rfl) ?_
                        refine lv_icmp_ge (tgt := 159) hx hb dX10_guess_152 (by decide) (fun c39 => ?_) (fun c39 => ?_)
                        · have hf := ift hf c39
                          refine lv_iconst (v := 0) hx hb dX10_guess_159 (by decide) ?_
                          exact hj37 _ hf _ _ _ hP hD hS (lv_sub hl [1, 2, 3, 4, 5, 7, 8, 9, 0] rfl)
                        · have hf := iff_ hf c39
                          refine lv_iconst (v := 1) hx hb dX10_guess_155 (by decide) ?_
                          refine lv_goto (tgt := 160) hx hb dX10_guess_156 (by decide) ?_
                          exact hj37 _ hf _ _ _ hP hD hS (lv_sub hl [1, 2, 3, 4, 5, 7, 8, 9, 0] rfl)
                    · have hf := iff_ hf c34
                      refine lv_iload hx hb dX10_guess_135 (lv_at hl 0 rfl) ?_
                      refine lv_iload hx hb dX10_guess_137 (lv_at hl 6 rfl) ?_
                      refine lv_icmp_gt (tgt := 216) hx hb dX10_guess_139 (by decide) (fun c50 => ?_) (fun c50 => ?_)
                      · have hf := ift hf c50
                        exact hj30 _ _ _ hf _ _ _ hP hD hS (lv_sub hl [1, 2, 3, 4, 5, 6, 7, 8, 9] rfl)
                      · have hf := iff_ hf c50
                        refine lv_iload hx hb dX10_guess_142 (lv_at hl 6 rfl) ?_
                        refine lv_iconst (v := (-1)) hx hb dX10_guess_144 (by decide) ?_
                        obtain ⟨m51, hr52, hf⟩ := ob_some hf
                        have hj53 : ∀ (m519 : Int32), some m519 = some m51 → ∀ (H : Heap) (locs : List Loc) (ls : Array Slot), va_P G vwCl [(t_h, .inr (10, [.int t_baseWay, .int t_slip, .int t_low, .int t_high, .int t_unlike, .int t_alone, .long t_above, .long t_below, .ref t_edges_h, .ref t_lean_h, .ref t_word_h, .int t_layers, .ref t_layer_h, .ref t_least_h, .int t_sights, .ref t_sight_h, .int t_shadows, .ref t_shadow_h, .long t_endAbove, .long t_endBelow, .long t_speedAbove, .long t_speedBelow, .int t_spans, .ref t_spanLow_h, .ref t_spanHigh_h, .ref t_spanAt_h, .int t_found, .ref t_numbers_h, .int t_pairs, .ref t_pair_h, .ref t_most_h, .int t_rows, .ref t_row_h, .int t_notes, .ref t_under_h, .ref t_agreed_h])), (t_row_h, .inl (cI, 800, .inl t_row_a))] H → va_D A [(t_h, .inr (10, [.int t_baseWay, .int t_slip, .int t_low, .int t_high, .int t_unlike, .int t_alone, .long t_above, .long t_below, .ref t_edges_h, .ref t_lean_h, .ref t_word_h, .int t_layers, .ref t_layer_h, .ref t_least_h, .int t_sights, .ref t_sight_h, .int t_shadows, .ref t_shadow_h, .long t_endAbove, .long t_endBelow, .long t_speedAbove, .long t_speedBelow, .int t_spans, .ref t_spanLow_h, .ref t_spanHigh_h, .ref t_spanAt_h, .int t_found, .ref t_numbers_h, .int t_pairs, .ref t_pair_h, .ref t_most_h, .int t_rows, .ref t_row_h, .int t_notes, .ref t_under_h, .ref t_agreed_h])), (t_row_h, .inl (cI, 800, .inl t_row_a))] → va_S A s.heap H locs → lv_has ls 11 [(0, .ref t_h), (1, .int x1), (2, .int x2), (3, .int x3), (4, .int x4), (6, .int u14), (7, .int u15), (8, .int u16), (9, .int v24)] → W p l e rmX10_guess s m args below meth c H locs 0 0 Q (F0 m 160 ls [.int m519]) := by
                          intro m519 he H locs ls hP hD hS hl
                          cases he
                          refine lv_istore (lv' := [(10, .int m51), (0, .ref t_h), (1, .int x1), (2, .int x2), (3, .int x3), (4, .int x4), (6, .int u14), (7, .int u15), (8, .int u16), (9, .int v24)]) hx hb dX10_guess_160 hl (by decide) rfl (fun ls hl => ?_)
                          refine lv_iload hx hb dX10_guess_162 (lv_at hl 0 rfl) ?_
                          obtain ⟨m56, hr57, hf⟩ := ob_some hf
                          have hj58 : ∀ (m569 : Int32), some m569 = some m56 → ∀ (H : Heap) (locs : List Loc) (ls : Array Slot), va_P G vwCl [(t_h, .inr (10, [.int t_baseWay, .int t_slip, .int t_low, .int t_high, .int t_unlike, .int t_alone, .long t_above, .long t_below, .ref t_edges_h, .ref t_lean_h, .ref t_word_h, .int t_layers, .ref t_layer_h, .ref t_least_h, .int t_sights, .ref t_sight_h, .int t_shadows, .ref t_shadow_h, .long t_endAbove, .long t_endBelow, .long t_speedAbove, .long t_speedBelow, .int t_spans, .ref t_spanLow_h, .ref t_spanHigh_h, .ref t_spanAt_h, .int t_found, .ref t_numbers_h, .int t_pairs, .ref t_pair_h, .ref t_most_h, .int t_rows, .ref t_row_h, .int t_notes, .ref t_under_h, .ref t_agreed_h])), (t_row_h, .inl (cI, 800, .inl t_row_a))] H → va_D A [(t_h, .inr (10, [.int t_baseWay, .int t_slip, .int t_low, .int t_high, .int t_unlike, .int t_alone, .long t_above, .long t_below, .ref t_edges_h, .ref t_lean_h, .ref t_word_h, .int t_layers, .ref t_layer_h, .ref t_least_h, .int t_sights, .ref t_sight_h, .int t_shadows, .ref t_shadow_h, .long t_endAbove, .long t_endBelow, .long t_speedAbove, .long t_speedBelow, .int t_spans, .ref t_spanLow_h, .ref t_spanHigh_h, .ref t_spanAt_h, .int t_found, .ref t_numbers_h, .int t_pairs, .ref t_pair_h, .ref t_most_h, .int t_rows, .ref t_row_h, .int t_notes, .ref t_under_h, .ref t_agreed_h])), (t_row_h, .inl (cI, 800, .inl t_row_a))] → va_S A s.heap H locs → lv_has ls 11 [(0, .ref t_h), (1, .int x1), (2, .int x2), (3, .int x3), (4, .int x4), (7, .int u15), (8, .int u16), (9, .int v24), (10, .int m51)] → W p l e rmX10_guess s m args below meth c H locs 0 0 Q (F0 m 175 ls [.int m569]) := by
                            intro m569 he H locs ls hP hD hS hl
                            cases he
                            refine lv_istore (lv' := [(6, .int m56), (0, .ref t_h), (1, .int x1), (2, .int x2), (3, .int x3), (4, .int x4), (7, .int u15), (8, .int u16), (9, .int v24), (10, .int m51)]) hx hb dX10_guess_175 hl (by decide) rfl (fun ls hl => ?_)
                            refine lv_iload hx hb dX10_guess_177 (lv_at hl 9 rfl) ?_
                            obtain ⟨m60, hr61, hf⟩ := ob_some hf
                            have hj62 : ∀ (m609 : Int32), some m609 = some m60 → ∀ (H : Heap) (locs : List Loc) (ls : Array Slot), va_P G vwCl [(t_h, .inr (10, [.int t_baseWay, .int t_slip, .int t_low, .int t_high, .int t_unlike, .int t_alone, .long t_above, .long t_below, .ref t_edges_h, .ref t_lean_h, .ref t_word_h, .int t_layers, .ref t_layer_h, .ref t_least_h, .int t_sights, .ref t_sight_h, .int t_shadows, .ref t_shadow_h, .long t_endAbove, .long t_endBelow, .long t_speedAbove, .long t_speedBelow, .int t_spans, .ref t_spanLow_h, .ref t_spanHigh_h, .ref t_spanAt_h, .int t_found, .ref t_numbers_h, .int t_pairs, .ref t_pair_h, .ref t_most_h, .int t_rows, .ref t_row_h, .int t_notes, .ref t_under_h, .ref t_agreed_h])), (t_row_h, .inl (cI, 800, .inl t_row_a))] H → va_D A [(t_h, .inr (10, [.int t_baseWay, .int t_slip, .int t_low, .int t_high, .int t_unlike, .int t_alone, .long t_above, .long t_below, .ref t_edges_h, .ref t_lean_h, .ref t_word_h, .int t_layers, .ref t_layer_h, .ref t_least_h, .int t_sights, .ref t_sight_h, .int t_shadows, .ref t_shadow_h, .long t_endAbove, .long t_endBelow, .long t_speedAbove, .long t_speedBelow, .int t_spans, .ref t_spanLow_h, .ref t_spanHigh_h, .ref t_spanAt_h, .int t_found, .ref t_numbers_h, .int t_pairs, .ref t_pair_h, .ref t_most_h, .int t_rows, .ref t_row_h, .int t_notes, .ref t_under_h, .ref t_agreed_h])), (t_row_h, .inl (cI, 800, .inl t_row_a))] → va_S A s.heap H locs → lv_has ls 11 [(0, .ref t_h), (1, .int x1), (2, .int x2), (3, .int x3), (4, .int x4), (6, .int m56), (8, .int u16), (9, .int v24)] → W p l e rmX10_guess s m args below meth c H locs 0 0 Q (F0 m 210 ls [.int m609]) := by
                              intro m609 he H locs ls hP hD hS hl
                              cases he
                              refine lv_istore (lv' := [(7, .int m60), (0, .ref t_h), (1, .int x1), (2, .int x2), (3, .int x3), (4, .int x4), (6, .int m56), (8, .int u16), (9, .int v24)]) hx hb dX10_guess_210 hl (by decide) rfl (fun ls hl => ?_)
                              refine lv_iload hx hb dX10_guess_212 (lv_at hl 8 rfl) ?_
                              refine lv_istore (lv' := [(5, .int v24), (7, .int m60), (0, .ref t_h), (1, .int x1), (2, .int x2), (3, .int x3), (4, .int x4), (6, .int m56), (8, .int u16), (9, .int v24)]) hx hb dX10_guess_214 hl (by decide) rfl (fun ls hl => ?_)
                              exact hj30 _ _ _ hf _ _ _ hP hD hS (lv_sub hl [2, 3, 4, 5, 6, 0, 7, 1, 8] rfl)
                            replace hf := hr61
                            refine lv_if_eq (tgt := 196) hx hb dX10_guess_179 (by decide) (fun c63 => ?_) (fun c63 => ?_)
                            · have hf := ift hf c63
                              refine lv_iload hx hb dX10_guess_196 (lv_at hl 6 rfl) ?_
                              refine lv_aload_n hx hb dX10_guess_198 rfl (lv_at hl 1 rfl) ?_
                              refine va_get (D := G) (ci := 10) (v := .ref t_row_h) (C := RX10) (T := TX10) (N := 36) hx hb hts iwX10 hown hK hP 0 rfl rfl 32 (by decide) fl_49 (fun _ h9 => h9) rfl dX10_guess_199 ?_
                              refine lv_iconst (v := 4) hx hb dX10_guess_202 (by decide) ?_
                              refine lv_iload hx hb dX10_guess_203 (lv_at hl 7 rfl) ?_
                              refine lv_imul hx hb dX10_guess_205 ?_
                              refine lv_iconst (v := 3) hx hb dX10_guess_206 (by decide) ?_
                              refine lv_iadd hx hb dX10_guess_207 ?_
                              obtain ⟨h64, hf⟩ := gd_some hf
                              refine va_iald hx hb hK hP 1 0 rfl rfl (bnd_in h64) dX10_guess_208 ?_
                              refine lv_iadd hx hb dX10_guess_209 ?_
                              exact hj62 _ hf _ _ _ hP hD hS (lv_sub hl [1, 2, 3, 4, 5, 0, 7, 8] rfl)
                            · have hf := iff_ hf c63
                              refine lv_aload_n hx hb dX10_guess_182 rfl (lv_at hl 1 rfl) ?_
                              refine va_get (D := G) (ci := 10) (v := .ref t_row_h) (C := RX10) (T := TX10) (N := 36) hx hb hts iwX10 hown hK hP 0 rfl rfl 32 (by decide) fl_49 (fun _ h9 => h9) rfl dX10_guess_183 ?_
                              refine lv_iconst (v := 4) hx hb dX10_guess_186 (by decide) ?_
                              refine lv_iload hx hb dX10_guess_187 (lv_at hl 7 rfl) ?_
                              refine lv_imul hx hb dX10_guess_189 ?_
                              refine lv_iconst (v := 3) hx hb dX10_guess_190 (by decide) ?_
                              refine lv_iadd hx hb dX10_guess_191 ?_
                              obtain ⟨h65, hf⟩ := gd_some hf
                              refine va_iald hx hb hK hP 1 0 rfl rfl (bnd_in h65) dX10_guess_192 ?_
                              refine lv_goto (tgt := 210) hx hb dX10_guess_193 (by decide) ?_
                              exact hj62 _ hf _ _ _ hP hD hS (lv_sub hl [1, 2, 3, 4, 5, 0, 7, 8] rfl)
                          replace hf := hr57
                          refine lv_if_eq (tgt := 171) hx hb dX10_guess_164 (by decide) (fun c59 => ?_) (fun c59 => ?_)
                          · have hf := ift hf c59
                            refine lv_iload hx hb dX10_guess_171 (lv_at hl 6 rfl) ?_
                            refine lv_iconst (v := 1) hx hb dX10_guess_173 (by decide) ?_
                            refine lv_iadd hx hb dX10_guess_174 ?_
                            exact hj58 _ hf _ _ _ hP hD hS (lv_sub hl [1, 2, 3, 4, 5, 7, 8, 9, 0] rfl)
                          · have hf := iff_ hf c59
                            refine lv_iconst (v := 1) hx hb dX10_guess_167 (by decide) ?_
                            refine lv_goto (tgt := 175) hx hb dX10_guess_168 (by decide) ?_
                            exact hj58 _ hf _ _ _ hP hD hS (lv_sub hl [1, 2, 3, 4, 5, 7, 8, 9, 0] rfl)
                        replace hf := hr52
                        refine lv_icmp_eq (tgt := 155) hx hb dX10_guess_145 (by decide) (fun c54 => ?_) (fun c54 => ?_)
                        · have hf := ift hf c54
                          refine lv_iconst (v := 1) hx hb dX10_guess_155 (by decide) ?_
                          refine lv_goto (tgt := 160) hx hb dX10_guess_156 (by decide) ?_
                          exact hj53 _ hf _ _ _ hP hD hS (lv_sub hl [1, 2, 3, 4, 5, 7, 8, 9, 0] rfl)
                        · have hf := iff_ hf c54
                          refine lv_iload hx hb dX10_guess_148 (lv_at hl 0 rfl) ?_
                          refine lv_iload hx hb dX10_guess_150 (lv_at hl 6 rfl) ?_
                          refine lv_icmp_ge (tgt := 159) hx hb dX10_guess_152 (by decide) (fun c55 => ?_) (fun c55 => ?_)
                          · have hf := ift hf c55
                            refine lv_iconst (v := 0) hx hb dX10_guess_159 (by decide) ?_
                            exact hj53 _ hf _ _ _ hP hD hS (lv_sub hl [1, 2, 3, 4, 5, 7, 8, 9, 0] rfl)
                          · have hf := iff_ hf c55
                            refine lv_iconst (v := 1) hx hb dX10_guess_155 (by decide) ?_
                            refine lv_goto (tgt := 160) hx hb dX10_guess_156 (by decide) ?_
                            exact hj53 _ hf _ _ _ hP hD hS (lv_sub hl [1, 2, 3, 4, 5, 7, 8, 9, 0] rfl)
          exact hl1 _ _ _ _ _ ht1 _ _ _ hP hD hS (lv_sub hl [4, 5, 6, 7, 8, 3, 2, 1, 0] rfl)
        · have hf := ift hf c12
          refine lv_bipush (v := (-2)) hx hb dX10_guess_40 (by decide) ?_
          exact hret (-2) 42 _ _ _ dX10_guess_42 hf hP hD hS
set_option maxRecDepth 20000 in
theorem ggX10_under_X10_in : GoodIn wsX10_under wsX10_in := goodIn_r _ [6] (by decide +kernel) (by decide +kernel)
set_option maxRecDepth 20000 in
theorem gX10_under_X10_in : GoodIn wsX10_under (va_wsS RX10 89 yX10_in wsX10_in) := goodIn_app (goodIn_of _ (by decide +kernel)) ggX10_under_X10_in
theorem dX10_under_0 : decode cX10_under 0 = .ok (.iload_n 1, 1) := by decide +kernel
theorem dX10_under_1 : decode cX10_under 1 = .ok (.iconst 0, 1) := by decide +kernel
theorem dX10_under_2 : decode cX10_under 2 = .ok (.bipush 7, 2) := by decide +kernel
theorem dX10_under_4 : decode cX10_under 4 = .ok (.invokestatic 89, 3) := by decide +kernel
theorem dX10_under_7 : decode cX10_under 7 = .ok (.ifCond .eq 18, 3) := by decide +kernel
theorem dX10_under_10 : decode cX10_under 10 = .ok (.iload_n 2, 1) := by decide +kernel
theorem dX10_under_11 : decode cX10_under 11 = .ok (.iconst 0, 1) := by decide +kernel
theorem dX10_under_12 : decode cX10_under 12 = .ok (.bipush 7, 2) := by decide +kernel
theorem dX10_under_14 : decode cX10_under 14 = .ok (.invokestatic 89, 3) := by decide +kernel
theorem dX10_under_17 : decode cX10_under 17 = .ok (.ifCond .eq 8, 3) := by decide +kernel
theorem dX10_under_20 : decode cX10_under 20 = .ok (.iload_n 1, 1) := by decide +kernel
theorem dX10_under_21 : decode cX10_under 21 = .ok (.iload_n 2, 1) := by decide +kernel
theorem dX10_under_22 : decode cX10_under 22 = .ok (.if_icmp .ne 6, 3) := by decide +kernel
theorem dX10_under_25 : decode cX10_under 25 = .ok (.bipush (-2), 2) := by decide +kernel
theorem dX10_under_27 : decode cX10_under 27 = .ok (.ireturn, 1) := by decide +kernel
theorem dX10_under_28 : decode cX10_under 28 = .ok (.aload_n 0, 1) := by decide +kernel
theorem dX10_under_29 : decode cX10_under 29 = .ok (.getfield 203, 3) := by decide +kernel
theorem dX10_under_32 : decode cX10_under 32 = .ok (.bipush 100, 2) := by decide +kernel
theorem dX10_under_34 : decode cX10_under 34 = .ok (.if_icmp .ne 6, 3) := by decide +kernel
theorem dX10_under_37 : decode cX10_under 37 = .ok (.bipush (-4), 2) := by decide +kernel
theorem dX10_under_39 : decode cX10_under 39 = .ok (.ireturn, 1) := by decide +kernel
theorem dX10_under_40 : decode cX10_under 40 = .ok (.aload_n 0, 1) := by decide +kernel
theorem dX10_under_41 : decode cX10_under 41 = .ok (.getfield 52, 3) := by decide +kernel
theorem dX10_under_44 : decode cX10_under 44 = .ok (.iconst 2, 1) := by decide +kernel
theorem dX10_under_45 : decode cX10_under 45 = .ok (.aload_n 0, 1) := by decide +kernel
theorem dX10_under_46 : decode cX10_under 46 = .ok (.getfield 203, 3) := by decide +kernel
theorem dX10_under_49 : decode cX10_under 49 = .ok (.imul, 1) := by decide +kernel
theorem dX10_under_50 : decode cX10_under 50 = .ok (.iload_n 1, 1) := by decide +kernel
theorem dX10_under_51 : decode cX10_under 51 = .ok (.iastore, 1) := by decide +kernel
theorem dX10_under_52 : decode cX10_under 52 = .ok (.aload_n 0, 1) := by decide +kernel
theorem dX10_under_53 : decode cX10_under 53 = .ok (.getfield 52, 3) := by decide +kernel
theorem dX10_under_56 : decode cX10_under 56 = .ok (.iconst 2, 1) := by decide +kernel
theorem dX10_under_57 : decode cX10_under 57 = .ok (.aload_n 0, 1) := by decide +kernel
theorem dX10_under_58 : decode cX10_under 58 = .ok (.getfield 203, 3) := by decide +kernel
theorem dX10_under_61 : decode cX10_under 61 = .ok (.imul, 1) := by decide +kernel
theorem dX10_under_62 : decode cX10_under 62 = .ok (.iconst 1, 1) := by decide +kernel
theorem dX10_under_63 : decode cX10_under 63 = .ok (.iadd, 1) := by decide +kernel
theorem dX10_under_64 : decode cX10_under 64 = .ok (.iload_n 2, 1) := by decide +kernel
theorem dX10_under_65 : decode cX10_under 65 = .ok (.iastore, 1) := by decide +kernel
theorem dX10_under_66 : decode cX10_under 66 = .ok (.aload_n 0, 1) := by decide +kernel
theorem dX10_under_67 : decode cX10_under 67 = .ok (.dup, 1) := by decide +kernel
theorem dX10_under_68 : decode cX10_under 68 = .ok (.getfield 203, 3) := by decide +kernel
theorem dX10_under_71 : decode cX10_under 71 = .ok (.iconst 1, 1) := by decide +kernel
theorem dX10_under_72 : decode cX10_under 72 = .ok (.iadd, 1) := by decide +kernel
theorem dX10_under_73 : decode cX10_under 73 = .ok (.putfield 203, 3) := by decide +kernel
theorem dX10_under_76 : decode cX10_under 76 = .ok (.aload_n 0, 1) := by decide +kernel
theorem dX10_under_77 : decode cX10_under 77 = .ok (.getfield 203, 3) := by decide +kernel
theorem dX10_under_80 : decode cX10_under 80 = .ok (.ireturn, 1) := by decide +kernel
set_option maxRecDepth 100000 in
def fX10_under (x1 : Int32) (x2 : Int32) (t_notes : Int32) (t_under_a : Nat → Int32) : Option (Int32 × Int32 × (Nat → Int32)) :=
  ob (fX10_in x1 0 7) fun r1 =>
  if (b2i r1) = 0 then
    some ((-2), t_notes, t_under_a)
  else
    ob (fX10_in x2 0 7) fun r4 =>
    if (b2i r4) = 0 then
      some ((-2), t_notes, t_under_a)
    else
      if x1 = x2 then
        some ((-2), t_notes, t_under_a)
      else
        if t_notes = 100 then
          some ((-4), t_notes, t_under_a)
        else
          gd (bnd (2 * t_notes) 200) <|
          bv (upd t_under_a (Int32.toNatClampNeg (2 * t_notes)) x1) fun a10 =>
          gd (bnd ((2 * t_notes) + 1) 200) <|
          bv (upd a10 (Int32.toNatClampNeg ((2 * t_notes) + 1)) x2) fun a12 =>
          bv (t_notes + 1) fun v13 =>
          some (v13, v13, a12)
abbrev rmX10_under : Room := { frames := 1, cells := 0, slots := 0, locals := 22 }
theorem iwX10_under_X10 : ∀ w ∈ u_ws RX10 TX10 36, w ∈ wsX10_under := by decide +kernel
set_option maxHeartbeats 4000000 in
set_option maxRecDepth 100000 in
theorem k_X10_under (l : Launch) (G : va_G) (cI cJ : ClassId) (t_h t_edges_h t_lean_h t_word_h t_layer_h t_least_h t_sight_h t_shadow_h t_spanLow_h t_spanHigh_h t_spanAt_h t_numbers_h t_pair_h t_most_h t_row_h t_under_h t_agreed_h : Nat) (sz : Nat) (t_baseWay : Int32) (t_slip : Int32) (t_low : Int32) (t_high : Int32) (t_unlike : Int32) (t_alone : Int32) (t_above : Int64) (t_below : Int64) (t_layers : Int32) (t_sights : Int32) (t_shadows : Int32) (t_endAbove : Int64) (t_endBelow : Int64) (t_speedAbove : Int64) (t_speedBelow : Int64) (t_spans : Int32) (t_found : Int32) (t_pairs : Int32) (t_rows : Int32) (t_notes : Int32) (t_under_a : Nat → Int32) (x1 : Int32) (x2 : Int32) {o_r : Int32} {o_t_notes : Int32} {o_t_under_a : Nat → Int32} (hf : fX10_under x1 x2 t_notes t_under_a = some (o_r, o_t_notes, o_t_under_a)) : MetI l yX10_under wsX10_under rmX10_under [.ref t_h, .int x1, .int x2] G cI cJ [(t_h, .inr (10, [.int t_baseWay, .int t_slip, .int t_low, .int t_high, .int t_unlike, .int t_alone, .long t_above, .long t_below, .ref t_edges_h, .ref t_lean_h, .ref t_word_h, .int t_layers, .ref t_layer_h, .ref t_least_h, .int t_sights, .ref t_sight_h, .int t_shadows, .ref t_shadow_h, .long t_endAbove, .long t_endBelow, .long t_speedAbove, .long t_speedBelow, .int t_spans, .ref t_spanLow_h, .ref t_spanHigh_h, .ref t_spanAt_h, .int t_found, .ref t_numbers_h, .int t_pairs, .ref t_pair_h, .ref t_most_h, .int t_rows, .ref t_row_h, .int t_notes, .ref t_under_h, .ref t_agreed_h])), (t_under_h, .inl (cI, 200, .inl t_under_a))] [(t_h, .inr (10, [.int t_baseWay, .int t_slip, .int t_low, .int t_high, .int t_unlike, .int t_alone, .long t_above, .long t_below, .ref t_edges_h, .ref t_lean_h, .ref t_word_h, .int t_layers, .ref t_layer_h, .ref t_least_h, .int t_sights, .ref t_sight_h, .int t_shadows, .ref t_shadow_h, .long t_endAbove, .long t_endBelow, .long t_speedAbove, .long t_speedBelow, .int t_spans, .ref t_spanLow_h, .ref t_spanHigh_h, .ref t_spanAt_h, .int t_found, .ref t_numbers_h, .int t_pairs, .ref t_pair_h, .ref t_most_h, .int t_rows, .ref t_row_h, .int o_t_notes, .ref t_under_h, .ref t_agreed_h])), (t_under_h, .inl (cI, 200, .inl o_t_under_a))] sz o_r := by
  refine en_0 (l := l) (y := yX10_under) (wsl := wsX10_under) (rm := rmX10_under) (av := [.ref t_h, .int x1, .int x2]) (G := G) (cI := cI) (cJ := cJ) (w0 := [(t_h, .inr (10, [.int t_baseWay, .int t_slip, .int t_low, .int t_high, .int t_unlike, .int t_alone, .long t_above, .long t_below, .ref t_edges_h, .ref t_lean_h, .ref t_word_h, .int t_layers, .ref t_layer_h, .ref t_least_h, .int t_sights, .ref t_sight_h, .int t_shadows, .ref t_shadow_h, .long t_endAbove, .long t_endBelow, .long t_speedAbove, .long t_speedBelow, .int t_spans, .ref t_spanLow_h, .ref t_spanHigh_h, .ref t_spanAt_h, .int t_found, .ref t_numbers_h, .int t_pairs, .ref t_pair_h, .ref t_most_h, .int t_rows, .ref t_row_h, .int t_notes, .ref t_under_h, .ref t_agreed_h])), (t_under_h, .inl (cI, 200, .inl t_under_a))]) (sz := sz) (Qf := fun A => Qi0 G cI cJ [(t_h, .inr (10, [.int t_baseWay, .int t_slip, .int t_low, .int t_high, .int t_unlike, .int t_alone, .long t_above, .long t_below, .ref t_edges_h, .ref t_lean_h, .ref t_word_h, .int t_layers, .ref t_layer_h, .ref t_least_h, .int t_sights, .ref t_sight_h, .int t_shadows, .ref t_shadow_h, .long t_endAbove, .long t_endBelow, .long t_speedAbove, .long t_speedBelow, .int t_spans, .ref t_spanLow_h, .ref t_spanHigh_h, .ref t_spanAt_h, .int t_found, .ref t_numbers_h, .int t_pairs, .ref t_pair_h, .ref t_most_h, .int t_rows, .ref t_row_h, .int o_t_notes, .ref t_under_h, .ref t_agreed_h])), (t_under_h, .inl (cI, 200, .inl o_t_under_a))] o_r A) (cc := cX10_under) (maxL := 3) (ret := (some .int)) RX10 (by decide +kernel) rfl rfl (Nat.le_of_ble_eq_true rfl) ?_
  intro p e s m args below meth c A ls Q hQ hx hb hr hts hown hlocks hml hN hK hP hD hS hA hl
  have hl : lv_has ls 3 [(0, .ref t_h), (1, .int x1), (2, .int x2)] := hl
  have iwX10 := iwX10_under_X10
  have fl_52 := hts (.fieldLink RX10 52 "CloudOfficeModel" "under" "[I") (by decide +kernel)
  have fl_203 := hts (.fieldLink RX10 203 "CloudOfficeModel" "notes" "I") (by decide +kernel)
  have hret : ∀ (o_r9 : Int32) (o_t_notes9 : Int32) (o_t_under_a9 : Nat → Int32) (pc : Nat) (H : Heap) (locs : List Loc) (ls : Array Slot), decode cX10_under pc = .ok (.ireturn, 1) → some (o_r9, o_t_notes9, o_t_under_a9) = some (o_r, o_t_notes, o_t_under_a) → va_P G vwCl [(t_h, .inr (10, [.int t_baseWay, .int t_slip, .int t_low, .int t_high, .int t_unlike, .int t_alone, .long t_above, .long t_below, .ref t_edges_h, .ref t_lean_h, .ref t_word_h, .int t_layers, .ref t_layer_h, .ref t_least_h, .int t_sights, .ref t_sight_h, .int t_shadows, .ref t_shadow_h, .long t_endAbove, .long t_endBelow, .long t_speedAbove, .long t_speedBelow, .int t_spans, .ref t_spanLow_h, .ref t_spanHigh_h, .ref t_spanAt_h, .int t_found, .ref t_numbers_h, .int t_pairs, .ref t_pair_h, .ref t_most_h, .int t_rows, .ref t_row_h, .int o_t_notes9, .ref t_under_h, .ref t_agreed_h])), (t_under_h, .inl (cI, 200, .inl o_t_under_a9))] H → va_D A [(t_h, .inr (10, [.int t_baseWay, .int t_slip, .int t_low, .int t_high, .int t_unlike, .int t_alone, .long t_above, .long t_below, .ref t_edges_h, .ref t_lean_h, .ref t_word_h, .int t_layers, .ref t_layer_h, .ref t_least_h, .int t_sights, .ref t_sight_h, .int t_shadows, .ref t_shadow_h, .long t_endAbove, .long t_endBelow, .long t_speedAbove, .long t_speedBelow, .int t_spans, .ref t_spanLow_h, .ref t_spanHigh_h, .ref t_spanAt_h, .int t_found, .ref t_numbers_h, .int t_pairs, .ref t_pair_h, .ref t_most_h, .int t_rows, .ref t_row_h, .int o_t_notes9, .ref t_under_h, .ref t_agreed_h])), (t_under_h, .inl (cI, 200, .inl o_t_under_a9))] → va_S A s.heap H locs → W p l e rmX10_under s m args below meth c H locs 0 0 Q (F0 m pc ls [.int o_r9]) := by
    intro o_r9 o_t_notes9 o_t_under_a9 pc H locs ls hdg he hP hD hS
    cases he
    subst hQ
    exact rt_i hx hb hr hlocks hK hP hD hS rfl hdg
  clear hQ
  unfold fX10_under at hf
  refine lv_iload_n hx hb dX10_under_0 rfl (lv_at hl 1 rfl) ?_
  refine lv_iconst (v := 0) hx hb dX10_under_1 (by decide) ?_
  refine lv_bipush (v := 7) hx hb dX10_under_2 (by decide) ?_
  obtain ⟨r1, hc2, hf⟩ := ob_some hf
  refine af_iR (va_runS (As := [.int x1, .int 0, .int 7]) (rest := []) ⟨hx, hb, hml, hown, hts⟩ (k_X10_in l G cI cJ (x0 := x1) (x1 := 0) (x2 := 7) (sz := _) (hf := hc2)) (va_cwS 3 hts gX10_under_X10_in rfl rfl rfl (by decide +kernel) ⟨Nat.le_of_ble_eq_true rfl, Nat.le_of_ble_eq_true rfl⟩) (preS0 (wc := []) hK hP hD hN [] rfl rfl (by decide)) rfl rfl hl.1 rfl (lv_room (Nat.le_of_ble_eq_true rfl)) dX10_under_4 ⟨Nat.zero_le _, Nat.zero_le _⟩) hP hD hS hA [] rfl (fun H locs hP hS => ?_)
  refine lv_if_eq (tgt := 25) hx hb dX10_under_7 (by decide) (fun c3 => ?_) (fun c3 => ?_)
  · have hf := ift hf c3
    refine lv_bipush (v := (-2)) hx hb dX10_under_25 (by decide) ?_
    exact hret (-2) t_notes t_under_a 27 _ _ _ dX10_under_27 hf hP hD hS
  · have hf := iff_ hf c3
    refine lv_iload_n hx hb dX10_under_10 rfl (lv_at hl 2 rfl) ?_
    refine lv_iconst (v := 0) hx hb dX10_under_11 (by decide) ?_
    refine lv_bipush (v := 7) hx hb dX10_under_12 (by decide) ?_
    obtain ⟨r4, hc5, hf⟩ := ob_some hf
    refine af_iR (va_runS (As := [.int x2, .int 0, .int 7]) (rest := []) ⟨hx, hb, hml, hown, hts⟩ (k_X10_in l G cI cJ (x0 := x2) (x1 := 0) (x2 := 7) (sz := _) (hf := hc5)) (va_cwS 3 hts gX10_under_X10_in rfl rfl rfl (by decide +kernel) ⟨Nat.le_of_ble_eq_true rfl, Nat.le_of_ble_eq_true rfl⟩) (preS0 (wc := []) hK hP hD hN [] rfl rfl (by decide)) rfl rfl hl.1 rfl (lv_room (Nat.le_of_ble_eq_true rfl)) dX10_under_14 ⟨Nat.zero_le _, Nat.zero_le _⟩) hP hD hS hA [] rfl (fun H locs hP hS => ?_)
    refine lv_if_eq (tgt := 25) hx hb dX10_under_17 (by decide) (fun c6 => ?_) (fun c6 => ?_)
    · have hf := ift hf c6
      refine lv_bipush (v := (-2)) hx hb dX10_under_25 (by decide) ?_
      exact hret (-2) t_notes t_under_a 27 _ _ _ dX10_under_27 hf hP hD hS
    · have hf := iff_ hf c6
      refine lv_iload_n hx hb dX10_under_20 rfl (lv_at hl 1 rfl) ?_
      refine lv_iload_n hx hb dX10_under_21 rfl (lv_at hl 2 rfl) ?_
      refine lv_icmp_ne (tgt := 28) hx hb dX10_under_22 (by decide) (fun c7 => ?_) (fun c7 => ?_)
      · have hf := iff_ hf c7
        refine lv_aload_n hx hb dX10_under_28 rfl (lv_at hl 0 rfl) ?_
        refine va_get (D := G) (ci := 10) (v := .int t_notes) (C := RX10) (T := TX10) (N := 36) hx hb hts iwX10 hown hK hP 0 rfl rfl 33 (by decide) fl_203 (fun _ h9 => h9) rfl dX10_under_29 ?_
        refine lv_bipush (v := 100) hx hb dX10_under_32 (by decide) ?_
        refine lv_icmp_ne (tgt := 40) hx hb dX10_under_34 (by decide) (fun c8 => ?_) (fun c8 => ?_)
        · have hf := iff_ hf c8
          refine lv_aload_n hx hb dX10_under_40 rfl (lv_at hl 0 rfl) ?_
          refine va_get (D := G) (ci := 10) (v := .ref t_under_h) (C := RX10) (T := TX10) (N := 36) hx hb hts iwX10 hown hK hP 0 rfl rfl 34 (by decide) fl_52 (fun _ h9 => h9) rfl dX10_under_41 ?_
          refine lv_iconst (v := 2) hx hb dX10_under_44 (by decide) ?_
          refine lv_aload_n hx hb dX10_under_45 rfl (lv_at hl 0 rfl) ?_
          refine va_get (D := G) (ci := 10) (v := .int t_notes) (C := RX10) (T := TX10) (N := 36) hx hb hts iwX10 hown hK hP 0 rfl rfl 33 (by decide) fl_203 (fun _ h9 => h9) rfl dX10_under_46 ?_
          refine lv_imul hx hb dX10_under_49 ?_
          refine lv_iload_n hx hb dX10_under_50 rfl (lv_at hl 1 rfl) ?_
          obtain ⟨h9, hf⟩ := gd_some hf
          obtain ⟨a10, ea10⟩ : ∃ y : Nat → Int32, y = upd t_under_a (Int32.toNatClampNeg (2 * t_notes)) x1 := ⟨_, rfl⟩
          have hf := bv_at ea10 hf
          refine va_iast hx hb hK hP hD hS 1 0 rfl rfl (bnd_in h9) dX10_under_51 (fun H locs hP hD hS => ?_)
          have hP : va_P G vwCl [(t_h, .inr (10, [.int t_baseWay, .int t_slip, .int t_low, .int t_high, .int t_unlike, .int t_alone, .long t_above, .long t_below, .ref t_edges_h, .ref t_lean_h, .ref t_word_h, .int t_layers, .ref t_layer_h, .ref t_least_h, .int t_sights, .ref t_sight_h, .int t_shadows, .ref t_shadow_h, .long t_endAbove, .long t_endBelow, .long t_speedAbove, .long t_speedBelow, .int t_spans, .ref t_spanLow_h, .ref t_spanHigh_h, .ref t_spanAt_h, .int t_found, .ref t_numbers_h, .int t_pairs, .ref t_pair_h, .ref t_most_h, .int t_rows, .ref t_row_h, .int t_notes, .ref t_under_h, .ref t_agreed_h])), (t_under_h, .inl (cI, 200, .inl a10))] H := by rw [ea10]; exact hP
          have hD : va_D A [(t_h, .inr (10, [.int t_baseWay, .int t_slip, .int t_low, .int t_high, .int t_unlike, .int t_alone, .long t_above, .long t_below, .ref t_edges_h, .ref t_lean_h, .ref t_word_h, .int t_layers, .ref t_layer_h, .ref t_least_h, .int t_sights, .ref t_sight_h, .int t_shadows, .ref t_shadow_h, .long t_endAbove, .long t_endBelow, .long t_speedAbove, .long t_speedBelow, .int t_spans, .ref t_spanLow_h, .ref t_spanHigh_h, .ref t_spanAt_h, .int t_found, .ref t_numbers_h, .int t_pairs, .ref t_pair_h, .ref t_most_h, .int t_rows, .ref t_row_h, .int t_notes, .ref t_under_h, .ref t_agreed_h])), (t_under_h, .inl (cI, 200, .inl a10))] := by rw [ea10]; exact hD
          refine lv_aload_n hx hb dX10_under_52 rfl (lv_at hl 0 rfl) ?_
          refine va_get (D := G) (ci := 10) (v := .ref t_under_h) (C := RX10) (T := TX10) (N := 36) hx hb hts iwX10 hown hK hP 0 rfl rfl 34 (by decide) fl_52 (fun _ h9 => h9) rfl dX10_under_53 ?_
          refine lv_iconst (v := 2) hx hb dX10_under_56 (by decide) ?_
          refine lv_aload_n hx hb dX10_under_57 rfl (lv_at hl 0 rfl) ?_
          refine va_get (D := G) (ci := 10) (v := .int t_notes) (C := RX10) (T := TX10) (N := 36) hx hb hts iwX10 hown hK hP 0 rfl rfl 33 (by decide) fl_203 (fun _ h9 => h9) rfl dX10_under_58 ?_
          refine lv_imul hx hb dX10_under_61 ?_
          refine lv_iconst (v := 1) hx hb dX10_under_62 (by decide) ?_
          refine lv_iadd hx hb dX10_under_63 ?_
          refine lv_iload_n hx hb dX10_under_64 rfl (lv_at hl 2 rfl) ?_
          obtain ⟨h11, hf⟩ := gd_some hf
          obtain ⟨a12, ea12⟩ : ∃ y : Nat → Int32, y = upd a10 (Int32.toNatClampNeg ((2 * t_notes) + 1)) x2 := ⟨_, rfl⟩
          have hf := bv_at ea12 hf
          refine va_iast hx hb hK hP hD hS 1 0 rfl rfl (bnd_in h11) dX10_under_65 (fun H locs hP hD hS => ?_)
          have hP : va_P G vwCl [(t_h, .inr (10, [.int t_baseWay, .int t_slip, .int t_low, .int t_high, .int t_unlike, .int t_alone, .long t_above, .long t_below, .ref t_edges_h, .ref t_lean_h, .ref t_word_h, .int t_layers, .ref t_layer_h, .ref t_least_h, .int t_sights, .ref t_sight_h, .int t_shadows, .ref t_shadow_h, .long t_endAbove, .long t_endBelow, .long t_speedAbove, .long t_speedBelow, .int t_spans, .ref t_spanLow_h, .ref t_spanHigh_h, .ref t_spanAt_h, .int t_found, .ref t_numbers_h, .int t_pairs, .ref t_pair_h, .ref t_most_h, .int t_rows, .ref t_row_h, .int t_notes, .ref t_under_h, .ref t_agreed_h])), (t_under_h, .inl (cI, 200, .inl a12))] H := by rw [ea12]; exact hP
          have hD : va_D A [(t_h, .inr (10, [.int t_baseWay, .int t_slip, .int t_low, .int t_high, .int t_unlike, .int t_alone, .long t_above, .long t_below, .ref t_edges_h, .ref t_lean_h, .ref t_word_h, .int t_layers, .ref t_layer_h, .ref t_least_h, .int t_sights, .ref t_sight_h, .int t_shadows, .ref t_shadow_h, .long t_endAbove, .long t_endBelow, .long t_speedAbove, .long t_speedBelow, .int t_spans, .ref t_spanLow_h, .ref t_spanHigh_h, .ref t_spanAt_h, .int t_found, .ref t_numbers_h, .int t_pairs, .ref t_pair_h, .ref t_most_h, .int t_rows, .ref t_row_h, .int t_notes, .ref t_under_h, .ref t_agreed_h])), (t_under_h, .inl (cI, 200, .inl a12))] := by rw [ea12]; exact hD
          refine lv_aload_n hx hb dX10_under_66 rfl (lv_at hl 0 rfl) ?_
          refine lv_dup hx hb dX10_under_67 rfl ?_
          refine va_get (D := G) (ci := 10) (v := .int t_notes) (C := RX10) (T := TX10) (N := 36) hx hb hts iwX10 hown hK hP 0 rfl rfl 33 (by decide) fl_203 (fun _ h9 => h9) rfl dX10_under_68 ?_
          refine lv_iconst (v := 1) hx hb dX10_under_71 (by decide) ?_
          refine lv_iadd hx hb dX10_under_72 ?_
          refine lv_topi (fun v13 ev13 => ?_)
          have hf := bv_at ev13 hf
          refine va_put (D := G) (ci := 10) (v := .int v13) (ty := .int) (C := RX10) (T := TX10) (N := 36) hx hb hts iwX10 tyX10 tyX10_ok nmX10 hown hK hP hD hS 0 rfl rfl 33 (by decide) fl_203 (fun _ h9 => h9) rfl (by decide +kernel) rfl rfl (Nat.le_of_ble_eq_true rfl) dX10_under_73 (fun H locs hP hD hS => ?_)
          have hP : va_P G vwCl [(t_h, .inr (10, [.int t_baseWay, .int t_slip, .int t_low, .int t_high, .int t_unlike, .int t_alone, .long t_above, .long t_below, .ref t_edges_h, .ref t_lean_h, .ref t_word_h, .int t_layers, .ref t_layer_h, .ref t_least_h, .int t_sights, .ref t_sight_h, .int t_shadows, .ref t_shadow_h, .long t_endAbove, .long t_endBelow, .long t_speedAbove, .long t_speedBelow, .int t_spans, .ref t_spanLow_h, .ref t_spanHigh_h, .ref t_spanAt_h, .int t_found, .ref t_numbers_h, .int t_pairs, .ref t_pair_h, .ref t_most_h, .int t_rows, .ref t_row_h, .int v13, .ref t_under_h, .ref t_agreed_h])), (t_under_h, .inl (cI, 200, .inl a12))] H := hP
          have hD : va_D A [(t_h, .inr (10, [.int t_baseWay, .int t_slip, .int t_low, .int t_high, .int t_unlike, .int t_alone, .long t_above, .long t_below, .ref t_edges_h, .ref t_lean_h, .ref t_word_h, .int t_layers, .ref t_layer_h, .ref t_least_h, .int t_sights, .ref t_sight_h, .int t_shadows, .ref t_shadow_h, .long t_endAbove, .long t_endBelow, .long t_speedAbove, .long t_speedBelow, .int t_spans, .ref t_spanLow_h, .ref t_spanHigh_h, .ref t_spanAt_h, .int t_found, .ref t_numbers_h, .int t_pairs, .ref t_pair_h, .ref t_most_h, .int t_rows, .ref t_row_h, .int v13, .ref t_under_h, .ref t_agreed_h])), (t_under_h, .inl (cI, 200, .inl a12))] := hD
          refine lv_aload_n hx hb dX10_under_76 rfl (lv_at hl 0 rfl) ?_
          refine va_get (D := G) (ci := 10) (v := .int v13) (C := RX10) (T := TX10) (N := 36) hx hb hts iwX10 hown hK hP 0 rfl rfl 33 (by decide) fl_203 (fun _ h9 => h9) rfl dX10_under_77 ?_
          exact hret v13 v13 a12 80 _ _ _ dX10_under_80 hf hP hD hS
        · have hf := ift hf c8
          refine lv_bipush (v := (-4)) hx hb dX10_under_37 (by decide) ?_
          exact hret (-4) t_notes t_under_a 39 _ _ _ dX10_under_39 hf hP hD hS
      · have hf := ift hf c7
        refine lv_bipush (v := (-2)) hx hb dX10_under_25 (by decide) ?_
        exact hret (-2) t_notes t_under_a 27 _ _ _ dX10_under_27 hf hP hD hS
theorem dX10_gain_0 : decode cX10_gain 0 = .ok (.iconst 0, 1) := by decide +kernel
theorem dX10_gain_1 : decode cX10_gain 1 = .ok (.istore_n 3, 1) := by decide +kernel
theorem dX10_gain_2 : decode cX10_gain 2 = .ok (.iconst 0, 1) := by decide +kernel
theorem dX10_gain_3 : decode cX10_gain 3 = .ok (.istore 4, 2) := by decide +kernel
theorem dX10_gain_5 : decode cX10_gain 5 = .ok (.iload 4, 2) := by decide +kernel
theorem dX10_gain_7 : decode cX10_gain 7 = .ok (.aload_n 0, 1) := by decide +kernel
theorem dX10_gain_8 : decode cX10_gain 8 = .ok (.getfield 203, 3) := by decide +kernel
theorem dX10_gain_11 : decode cX10_gain 11 = .ok (.if_icmp .ge 48, 3) := by decide +kernel
theorem dX10_gain_14 : decode cX10_gain 14 = .ok (.iload_n 3, 1) := by decide +kernel
theorem dX10_gain_15 : decode cX10_gain 15 = .ok (.aload_n 0, 1) := by decide +kernel
theorem dX10_gain_16 : decode cX10_gain 16 = .ok (.getfield 52, 3) := by decide +kernel
theorem dX10_gain_19 : decode cX10_gain 19 = .ok (.iconst 2, 1) := by decide +kernel
theorem dX10_gain_20 : decode cX10_gain 20 = .ok (.iload 4, 2) := by decide +kernel
theorem dX10_gain_22 : decode cX10_gain 22 = .ok (.imul, 1) := by decide +kernel
theorem dX10_gain_23 : decode cX10_gain 23 = .ok (.iaload, 1) := by decide +kernel
theorem dX10_gain_24 : decode cX10_gain 24 = .ok (.iload_n 1, 1) := by decide +kernel
theorem dX10_gain_25 : decode cX10_gain 25 = .ok (.if_icmp .ne 25, 3) := by decide +kernel
theorem dX10_gain_28 : decode cX10_gain 28 = .ok (.iload_n 2, 1) := by decide +kernel
theorem dX10_gain_29 : decode cX10_gain 29 = .ok (.aload_n 0, 1) := by decide +kernel
theorem dX10_gain_30 : decode cX10_gain 30 = .ok (.getfield 52, 3) := by decide +kernel
theorem dX10_gain_33 : decode cX10_gain 33 = .ok (.iconst 2, 1) := by decide +kernel
theorem dX10_gain_34 : decode cX10_gain 34 = .ok (.iload 4, 2) := by decide +kernel
theorem dX10_gain_36 : decode cX10_gain 36 = .ok (.imul, 1) := by decide +kernel
theorem dX10_gain_37 : decode cX10_gain 37 = .ok (.iconst 1, 1) := by decide +kernel
theorem dX10_gain_38 : decode cX10_gain 38 = .ok (.iadd, 1) := by decide +kernel
theorem dX10_gain_39 : decode cX10_gain 39 = .ok (.iaload, 1) := by decide +kernel
theorem dX10_gain_40 : decode cX10_gain 40 = .ok (.ishr, 1) := by decide +kernel
theorem dX10_gain_41 : decode cX10_gain 41 = .ok (.iconst 1, 1) := by decide +kernel
theorem dX10_gain_42 : decode cX10_gain 42 = .ok (.iand, 1) := by decide +kernel
theorem dX10_gain_43 : decode cX10_gain 43 = .ok (.ifCond .ne 7, 3) := by decide +kernel
theorem dX10_gain_46 : decode cX10_gain 46 = .ok (.iconst 1, 1) := by decide +kernel
theorem dX10_gain_47 : decode cX10_gain 47 = .ok (.goto 4, 3) := by decide +kernel
theorem dX10_gain_50 : decode cX10_gain 50 = .ok (.iconst 0, 1) := by decide +kernel
theorem dX10_gain_51 : decode cX10_gain 51 = .ok (.iadd, 1) := by decide +kernel
theorem dX10_gain_52 : decode cX10_gain 52 = .ok (.istore_n 3, 1) := by decide +kernel
theorem dX10_gain_53 : decode cX10_gain 53 = .ok (.iinc 4 1, 3) := by decide +kernel
theorem dX10_gain_56 : decode cX10_gain 56 = .ok (.goto (-51), 3) := by decide +kernel
theorem dX10_gain_59 : decode cX10_gain 59 = .ok (.iload_n 3, 1) := by decide +kernel
theorem dX10_gain_60 : decode cX10_gain 60 = .ok (.ireturn, 1) := by decide +kernel
set_option maxRecDepth 100000 in
def fX10_gain_L1 (t_notes : Int32) (t_under_a : Nat → Int32) (x1 : Int32) (x2 : Int32) : (Int32 × Int32) → Option ((Int32) ⊕ (Int32 × Int32)) := un2 fun (u1 : Int32) (u2 : Int32) =>
  if t_notes ≤ u2 then
    some (.inl u1)
  else
    gd (bnd (2 * u2) 200) <|
    ob (α := Int32) (
        if (t_under_a (Int32.toNatClampNeg (2 * u2))) = x1 then
          gd (bnd ((2 * u2) + 1) 200) <|
          if ((x2 >>> ((t_under_a (Int32.toNatClampNeg ((2 * u2) + 1))) &&& 31)) &&& 1) = 0 then
            some 1
          else
            some 0
        else
          some 0
      ) fun m5 =>
    bv (u1 + m5) fun v11 =>
    bv (u2 + 1) fun v12 =>
    some (.inr (v11, v12))
set_option maxRecDepth 100000 in
def fX10_gain (x1 : Int32) (x2 : Int32) (t_notes : Int32) (t_under_a : Nat → Int32) : Option (Int32) :=
  ob (it (fX10_gain_L1 t_notes t_under_a x1 x2) 100000 (0, 0)) fun x13 =>
  some x13
abbrev rmX10_gain : Room := { frames := 0, cells := 0, slots := 0, locals := 0 }
theorem iwX10_gain_X10 : ∀ w ∈ u_ws RX10 TX10 36, w ∈ wsX10_gain := by decide +kernel
set_option maxHeartbeats 4000000 in
set_option maxRecDepth 100000 in
theorem k_X10_gain (l : Launch) (G : va_G) (cI cJ : ClassId) (t_h t_edges_h t_lean_h t_word_h t_layer_h t_least_h t_sight_h t_shadow_h t_spanLow_h t_spanHigh_h t_spanAt_h t_numbers_h t_pair_h t_most_h t_row_h t_under_h t_agreed_h : Nat) (sz : Nat) (t_baseWay : Int32) (t_slip : Int32) (t_low : Int32) (t_high : Int32) (t_unlike : Int32) (t_alone : Int32) (t_above : Int64) (t_below : Int64) (t_layers : Int32) (t_sights : Int32) (t_shadows : Int32) (t_endAbove : Int64) (t_endBelow : Int64) (t_speedAbove : Int64) (t_speedBelow : Int64) (t_spans : Int32) (t_found : Int32) (t_pairs : Int32) (t_rows : Int32) (t_notes : Int32) (t_under_a : Nat → Int32) (x1 : Int32) (x2 : Int32) {o_r : Int32} (hf : fX10_gain x1 x2 t_notes t_under_a = some o_r) : MetI l yX10_gain wsX10_gain rmX10_gain [.ref t_h, .int x1, .int x2] G cI cJ [(t_h, .inr (10, [.int t_baseWay, .int t_slip, .int t_low, .int t_high, .int t_unlike, .int t_alone, .long t_above, .long t_below, .ref t_edges_h, .ref t_lean_h, .ref t_word_h, .int t_layers, .ref t_layer_h, .ref t_least_h, .int t_sights, .ref t_sight_h, .int t_shadows, .ref t_shadow_h, .long t_endAbove, .long t_endBelow, .long t_speedAbove, .long t_speedBelow, .int t_spans, .ref t_spanLow_h, .ref t_spanHigh_h, .ref t_spanAt_h, .int t_found, .ref t_numbers_h, .int t_pairs, .ref t_pair_h, .ref t_most_h, .int t_rows, .ref t_row_h, .int t_notes, .ref t_under_h, .ref t_agreed_h])), (t_under_h, .inl (cI, 200, .inl t_under_a))] [(t_h, .inr (10, [.int t_baseWay, .int t_slip, .int t_low, .int t_high, .int t_unlike, .int t_alone, .long t_above, .long t_below, .ref t_edges_h, .ref t_lean_h, .ref t_word_h, .int t_layers, .ref t_layer_h, .ref t_least_h, .int t_sights, .ref t_sight_h, .int t_shadows, .ref t_shadow_h, .long t_endAbove, .long t_endBelow, .long t_speedAbove, .long t_speedBelow, .int t_spans, .ref t_spanLow_h, .ref t_spanHigh_h, .ref t_spanAt_h, .int t_found, .ref t_numbers_h, .int t_pairs, .ref t_pair_h, .ref t_most_h, .int t_rows, .ref t_row_h, .int t_notes, .ref t_under_h, .ref t_agreed_h])), (t_under_h, .inl (cI, 200, .inl t_under_a))] sz o_r := by
  refine en_0 (l := l) (y := yX10_gain) (wsl := wsX10_gain) (rm := rmX10_gain) (av := [.ref t_h, .int x1, .int x2]) (G := G) (cI := cI) (cJ := cJ) (w0 := [(t_h, .inr (10, [.int t_baseWay, .int t_slip, .int t_low, .int t_high, .int t_unlike, .int t_alone, .long t_above, .long t_below, .ref t_edges_h, .ref t_lean_h, .ref t_word_h, .int t_layers, .ref t_layer_h, .ref t_least_h, .int t_sights, .ref t_sight_h, .int t_shadows, .ref t_shadow_h, .long t_endAbove, .long t_endBelow, .long t_speedAbove, .long t_speedBelow, .int t_spans, .ref t_spanLow_h, .ref t_spanHigh_h, .ref t_spanAt_h, .int t_found, .ref t_numbers_h, .int t_pairs, .ref t_pair_h, .ref t_most_h, .int t_rows, .ref t_row_h, .int t_notes, .ref t_under_h, .ref t_agreed_h])), (t_under_h, .inl (cI, 200, .inl t_under_a))]) (sz := sz) (Qf := fun A => Qi0 G cI cJ [(t_h, .inr (10, [.int t_baseWay, .int t_slip, .int t_low, .int t_high, .int t_unlike, .int t_alone, .long t_above, .long t_below, .ref t_edges_h, .ref t_lean_h, .ref t_word_h, .int t_layers, .ref t_layer_h, .ref t_least_h, .int t_sights, .ref t_sight_h, .int t_shadows, .ref t_shadow_h, .long t_endAbove, .long t_endBelow, .long t_speedAbove, .long t_speedBelow, .int t_spans, .ref t_spanLow_h, .ref t_spanHigh_h, .ref t_spanAt_h, .int t_found, .ref t_numbers_h, .int t_pairs, .ref t_pair_h, .ref t_most_h, .int t_rows, .ref t_row_h, .int t_notes, .ref t_under_h, .ref t_agreed_h])), (t_under_h, .inl (cI, 200, .inl t_under_a))] o_r A) (cc := cX10_gain) (maxL := 5) (ret := (some .int)) RX10 (by decide +kernel) rfl rfl (Nat.le_of_ble_eq_true rfl) ?_
  intro p e s m args below meth c A ls Q hQ hx hb hr hts hown hlocks hml hN hK hP hD hS hA hl
  have hl : lv_has ls 5 [(0, .ref t_h), (1, .int x1), (2, .int x2)] := hl
  have iwX10 := iwX10_gain_X10
  have fl_52 := hts (.fieldLink RX10 52 "CloudOfficeModel" "under" "[I") (by decide +kernel)
  have fl_203 := hts (.fieldLink RX10 203 "CloudOfficeModel" "notes" "I") (by decide +kernel)
  have hret : ∀ (o_r9 : Int32) (pc : Nat) (H : Heap) (locs : List Loc) (ls : Array Slot), decode cX10_gain pc = .ok (.ireturn, 1) → some o_r9 = some o_r → va_P G vwCl [(t_h, .inr (10, [.int t_baseWay, .int t_slip, .int t_low, .int t_high, .int t_unlike, .int t_alone, .long t_above, .long t_below, .ref t_edges_h, .ref t_lean_h, .ref t_word_h, .int t_layers, .ref t_layer_h, .ref t_least_h, .int t_sights, .ref t_sight_h, .int t_shadows, .ref t_shadow_h, .long t_endAbove, .long t_endBelow, .long t_speedAbove, .long t_speedBelow, .int t_spans, .ref t_spanLow_h, .ref t_spanHigh_h, .ref t_spanAt_h, .int t_found, .ref t_numbers_h, .int t_pairs, .ref t_pair_h, .ref t_most_h, .int t_rows, .ref t_row_h, .int t_notes, .ref t_under_h, .ref t_agreed_h])), (t_under_h, .inl (cI, 200, .inl t_under_a))] H → va_D A [(t_h, .inr (10, [.int t_baseWay, .int t_slip, .int t_low, .int t_high, .int t_unlike, .int t_alone, .long t_above, .long t_below, .ref t_edges_h, .ref t_lean_h, .ref t_word_h, .int t_layers, .ref t_layer_h, .ref t_least_h, .int t_sights, .ref t_sight_h, .int t_shadows, .ref t_shadow_h, .long t_endAbove, .long t_endBelow, .long t_speedAbove, .long t_speedBelow, .int t_spans, .ref t_spanLow_h, .ref t_spanHigh_h, .ref t_spanAt_h, .int t_found, .ref t_numbers_h, .int t_pairs, .ref t_pair_h, .ref t_most_h, .int t_rows, .ref t_row_h, .int t_notes, .ref t_under_h, .ref t_agreed_h])), (t_under_h, .inl (cI, 200, .inl t_under_a))] → va_S A s.heap H locs → W p l e rmX10_gain s m args below meth c H locs 0 0 Q (F0 m pc ls [.int o_r9]) := by
    intro o_r9 pc H locs ls hdg he hP hD hS
    cases he
    subst hQ
    exact rt_i hx hb hr hlocks hK hP hD hS rfl hdg
  clear hQ
  unfold fX10_gain at hf
  refine lv_iconst (v := 0) hx hb dX10_gain_0 (by decide) ?_
  refine lv_istore_n (lv' := [(3, .int 0), (0, .ref t_h), (1, .int x1), (2, .int x2)]) hx hb dX10_gain_1 rfl hl (by decide) rfl (fun ls hl => ?_)
  refine lv_iconst (v := 0) hx hb dX10_gain_2 (by decide) ?_
  refine lv_istore (lv' := [(4, .int 0), (3, .int 0), (0, .ref t_h), (1, .int x1), (2, .int x2)]) hx hb dX10_gain_3 hl (by decide) rfl (fun ls hl => ?_)
  obtain ⟨x13, ht1, hf⟩ := ob_some hf
  have hx1_0 : ∀ (x139 : Int32), x139 = x13 → ∀ (H : Heap) (locs : List Loc) (ls : Array Slot), va_P G vwCl [(t_h, .inr (10, [.int t_baseWay, .int t_slip, .int t_low, .int t_high, .int t_unlike, .int t_alone, .long t_above, .long t_below, .ref t_edges_h, .ref t_lean_h, .ref t_word_h, .int t_layers, .ref t_layer_h, .ref t_least_h, .int t_sights, .ref t_sight_h, .int t_shadows, .ref t_shadow_h, .long t_endAbove, .long t_endBelow, .long t_speedAbove, .long t_speedBelow, .int t_spans, .ref t_spanLow_h, .ref t_spanHigh_h, .ref t_spanAt_h, .int t_found, .ref t_numbers_h, .int t_pairs, .ref t_pair_h, .ref t_most_h, .int t_rows, .ref t_row_h, .int t_notes, .ref t_under_h, .ref t_agreed_h])), (t_under_h, .inl (cI, 200, .inl t_under_a))] H → va_D A [(t_h, .inr (10, [.int t_baseWay, .int t_slip, .int t_low, .int t_high, .int t_unlike, .int t_alone, .long t_above, .long t_below, .ref t_edges_h, .ref t_lean_h, .ref t_word_h, .int t_layers, .ref t_layer_h, .ref t_least_h, .int t_sights, .ref t_sight_h, .int t_shadows, .ref t_shadow_h, .long t_endAbove, .long t_endBelow, .long t_speedAbove, .long t_speedBelow, .int t_spans, .ref t_spanLow_h, .ref t_spanHigh_h, .ref t_spanAt_h, .int t_found, .ref t_numbers_h, .int t_pairs, .ref t_pair_h, .ref t_most_h, .int t_rows, .ref t_row_h, .int t_notes, .ref t_under_h, .ref t_agreed_h])), (t_under_h, .inl (cI, 200, .inl t_under_a))] → va_S A s.heap H locs → lv_has ls 5 [(3, .int x139)] → W p l e rmX10_gain s m args below meth c H locs 0 0 Q (F0 m 59 ls []) := by
    intro x139 he H locs ls hP hD hS hl
    cases he
    refine lv_iload_n hx hb dX10_gain_59 rfl (lv_at hl 0 rfl) ?_
    exact hret x13 60 _ _ _ dX10_gain_60 hf hP hD hS
  clear hf
  have hl1 : ∀ (n : Nat) (u1 : Int32) (u2 : Int32), it (fX10_gain_L1 t_notes t_under_a x1 x2) n (u1, u2) = some x13 → ∀ (H : Heap) (locs : List Loc) (ls : Array Slot), va_P G vwCl [(t_h, .inr (10, [.int t_baseWay, .int t_slip, .int t_low, .int t_high, .int t_unlike, .int t_alone, .long t_above, .long t_below, .ref t_edges_h, .ref t_lean_h, .ref t_word_h, .int t_layers, .ref t_layer_h, .ref t_least_h, .int t_sights, .ref t_sight_h, .int t_shadows, .ref t_shadow_h, .long t_endAbove, .long t_endBelow, .long t_speedAbove, .long t_speedBelow, .int t_spans, .ref t_spanLow_h, .ref t_spanHigh_h, .ref t_spanAt_h, .int t_found, .ref t_numbers_h, .int t_pairs, .ref t_pair_h, .ref t_most_h, .int t_rows, .ref t_row_h, .int t_notes, .ref t_under_h, .ref t_agreed_h])), (t_under_h, .inl (cI, 200, .inl t_under_a))] H → va_D A [(t_h, .inr (10, [.int t_baseWay, .int t_slip, .int t_low, .int t_high, .int t_unlike, .int t_alone, .long t_above, .long t_below, .ref t_edges_h, .ref t_lean_h, .ref t_word_h, .int t_layers, .ref t_layer_h, .ref t_least_h, .int t_sights, .ref t_sight_h, .int t_shadows, .ref t_shadow_h, .long t_endAbove, .long t_endBelow, .long t_speedAbove, .long t_speedBelow, .int t_spans, .ref t_spanLow_h, .ref t_spanHigh_h, .ref t_spanAt_h, .int t_found, .ref t_numbers_h, .int t_pairs, .ref t_pair_h, .ref t_most_h, .int t_rows, .ref t_row_h, .int t_notes, .ref t_under_h, .ref t_agreed_h])), (t_under_h, .inl (cI, 200, .inl t_under_a))] → va_S A s.heap H locs → lv_has ls 5 [(0, .ref t_h), (1, .int x1), (2, .int x2), (3, .int u1), (4, .int u2)] → W p l e rmX10_gain s m args below meth c H locs 0 0 Q (F0 m 5 ls []) := by
    intro n
    induction n with
    | zero => intro u1 u2 hz; exact (it_zero hz).elim
    | succ n ih =>
      intro u1 u2 hz H locs ls hP hD hS hl
      obtain ⟨x9, hf, hq⟩ := it_succ hz
      unfold fX10_gain_L1 at hf
      dsimp only [un2] at hf
      refine lv_iload hx hb dX10_gain_5 (lv_at hl 4 rfl) ?_
      refine lv_aload_n hx hb dX10_gain_7 rfl (lv_at hl 0 rfl) ?_
      refine va_get (D := G) (ci := 10) (v := .int t_notes) (C := RX10) (T := TX10) (N := 36) hx hb hts iwX10 hown hK hP 0 rfl rfl 33 (by decide) fl_203 (fun _ h9 => h9) rfl dX10_gain_8 ?_
      refine lv_icmp_ge (tgt := 59) hx hb dX10_gain_11 (by decide) (fun c3 => ?_) (fun c3 => ?_)
      · have hf := ift hf c3
        cases hf
        exact hx1_0 _ hq _ _ _ hP hD hS (lv_sub hl [3] rfl)
      · have hf := iff_ hf c3
        refine lv_iload_n hx hb dX10_gain_14 rfl (lv_at hl 3 rfl) ?_
        refine lv_aload_n hx hb dX10_gain_15 rfl (lv_at hl 0 rfl) ?_
        refine va_get (D := G) (ci := 10) (v := .ref t_under_h) (C := RX10) (T := TX10) (N := 36) hx hb hts iwX10 hown hK hP 0 rfl rfl 34 (by decide) fl_52 (fun _ h9 => h9) rfl dX10_gain_16 ?_
        refine lv_iconst (v := 2) hx hb dX10_gain_19 (by decide) ?_
        refine lv_iload hx hb dX10_gain_20 (lv_at hl 4 rfl) ?_
        refine lv_imul hx hb dX10_gain_22 ?_
        obtain ⟨h4, hf⟩ := gd_some hf
        refine va_iald hx hb hK hP 1 0 rfl rfl (bnd_in h4) dX10_gain_23 ?_
        refine lv_iload_n hx hb dX10_gain_24 rfl (lv_at hl 1 rfl) ?_
        obtain ⟨m5, hr6, hf⟩ := ob_some hf
        have hj7 : ∀ (m59 : Int32), some m59 = some m5 → ∀ (H : Heap) (locs : List Loc) (ls : Array Slot), va_P G vwCl [(t_h, .inr (10, [.int t_baseWay, .int t_slip, .int t_low, .int t_high, .int t_unlike, .int t_alone, .long t_above, .long t_below, .ref t_edges_h, .ref t_lean_h, .ref t_word_h, .int t_layers, .ref t_layer_h, .ref t_least_h, .int t_sights, .ref t_sight_h, .int t_shadows, .ref t_shadow_h, .long t_endAbove, .long t_endBelow, .long t_speedAbove, .long t_speedBelow, .int t_spans, .ref t_spanLow_h, .ref t_spanHigh_h, .ref t_spanAt_h, .int t_found, .ref t_numbers_h, .int t_pairs, .ref t_pair_h, .ref t_most_h, .int t_rows, .ref t_row_h, .int t_notes, .ref t_under_h, .ref t_agreed_h])), (t_under_h, .inl (cI, 200, .inl t_under_a))] H → va_D A [(t_h, .inr (10, [.int t_baseWay, .int t_slip, .int t_low, .int t_high, .int t_unlike, .int t_alone, .long t_above, .long t_below, .ref t_edges_h, .ref t_lean_h, .ref t_word_h, .int t_layers, .ref t_layer_h, .ref t_least_h, .int t_sights, .ref t_sight_h, .int t_shadows, .ref t_shadow_h, .long t_endAbove, .long t_endBelow, .long t_speedAbove, .long t_speedBelow, .int t_spans, .ref t_spanLow_h, .ref t_spanHigh_h, .ref t_spanAt_h, .int t_found, .ref t_numbers_h, .int t_pairs, .ref t_pair_h, .ref t_most_h, .int t_rows, .ref t_row_h, .int t_notes, .ref t_under_h, .ref t_agreed_h])), (t_under_h, .inl (cI, 200, .inl t_under_a))] → va_S A s.heap H locs → lv_has ls 5 [(0, .ref t_h), (1, .int x1), (2, .int x2), (4, .int u2)] → W p l e rmX10_gain s m args below meth c H locs 0 0 Q (F0 m 51 ls [.int m59, .int u1]) := by
          intro m59 he H locs ls hP hD hS hl
          cases he
          refine lv_iadd hx hb dX10_gain_51 ?_
          refine lv_topi (fun v11 ev11 => ?_)
          have hf := bv_at ev11 hf
          refine lv_istore_n (lv' := [(3, .int v11), (0, .ref t_h), (1, .int x1), (2, .int x2), (4, .int u2)]) hx hb dX10_gain_52 rfl hl (by decide) rfl (fun ls hl => ?_)
          obtain ⟨v12, ev12⟩ : ∃ y : Int32, y = u2 + 1 := ⟨_, rfl⟩
          have hf := bv_at ev12 hf
          refine lv_iinc (v := v12) (lv' := [(4, .int v12), (3, .int v11), (0, .ref t_h), (1, .int x1), (2, .int x2)]) hx hb dX10_gain_53 hl (k := 4) rfl (by rw [ev12]; rfl) (by decide) rfl (fun ls hl => ?_)
          refine lv_goto (tgt := 5) hx hb dX10_gain_56 (by decide) ?_
          cases hf
          exact ih _ _ hq _ _ _ hP hD hS (lv_sub hl [2, 3, 4, 1, 0] rfl)
        replace hf := hr6
        refine lv_icmp_ne (tgt := 50) hx hb dX10_gain_25 (by decide) (fun c8 => ?_) (fun c8 => ?_)
        · have hf := iff_ hf c8
          refine lv_iconst (v := 0) hx hb dX10_gain_50 (by decide) ?_
          exact hj7 _ hf _ _ _ hP hD hS (lv_sub hl [0, 1, 2, 4] rfl)
        · have hf := ift hf c8
          refine lv_iload_n hx hb dX10_gain_28 rfl (lv_at hl 2 rfl) ?_
          refine lv_aload_n hx hb dX10_gain_29 rfl (lv_at hl 0 rfl) ?_
          refine va_get (D := G) (ci := 10) (v := .ref t_under_h) (C := RX10) (T := TX10) (N := 36) hx hb hts iwX10 hown hK hP 0 rfl rfl 34 (by decide) fl_52 (fun _ h9 => h9) rfl dX10_gain_30 ?_
          refine lv_iconst (v := 2) hx hb dX10_gain_33 (by decide) ?_
          refine lv_iload hx hb dX10_gain_34 (lv_at hl 4 rfl) ?_
          refine lv_imul hx hb dX10_gain_36 ?_
          refine lv_iconst (v := 1) hx hb dX10_gain_37 (by decide) ?_
          refine lv_iadd hx hb dX10_gain_38 ?_
          obtain ⟨h9, hf⟩ := gd_some hf
          refine va_iald hx hb hK hP 1 0 rfl rfl (bnd_in h9) dX10_gain_39 ?_
          refine lv_ishr hx hb dX10_gain_40 ?_
          refine lv_iconst (v := 1) hx hb dX10_gain_41 (by decide) ?_
          refine lv_iand hx hb dX10_gain_42 ?_
          refine lv_if_ne (tgt := 50) hx hb dX10_gain_43 (by decide) (fun c10 => ?_) (fun c10 => ?_)
          · have hf := iff_ hf c10
            refine lv_iconst (v := 0) hx hb dX10_gain_50 (by decide) ?_
            exact hj7 _ hf _ _ _ hP hD hS (lv_sub hl [0, 1, 2, 4] rfl)
          · have hf := ift hf c10
            refine lv_iconst (v := 1) hx hb dX10_gain_46 (by decide) ?_
            refine lv_goto (tgt := 51) hx hb dX10_gain_47 (by decide) ?_
            exact hj7 _ hf _ _ _ hP hD hS (lv_sub hl [0, 1, 2, 4] rfl)
  exact hl1 _ _ _ ht1 _ _ _ hP hD hS (lv_sub hl [2, 3, 4, 1, 0] rfl)
set_option maxRecDepth 20000 in
theorem ggX10_order_X10_in : GoodIn wsX10_order wsX10_in := goodIn_r _ [6] (by decide +kernel) (by decide +kernel)
set_option maxRecDepth 20000 in
theorem gX10_order_X10_in : GoodIn wsX10_order (va_wsS RX10 89 yX10_in wsX10_in) := goodIn_app (goodIn_of _ (by decide +kernel)) ggX10_order_X10_in
set_option maxRecDepth 20000 in
theorem ggX10_order_X10_gain : GoodIn wsX10_order wsX10_gain := goodIn_r _ [10, 2, 11, 12, 13, 14, 15, 16, 17, 18, 19, 20, 21, 22, 23, 24, 25, 26, 27, 28, 29, 30, 31, 32, 33, 34, 35, 36, 37, 38, 39, 40, 41, 42, 43, 44, 45, 46, 47] (by decide +kernel) (by decide +kernel)
set_option maxRecDepth 20000 in
theorem gX10_order_X10_gain : GoodIn wsX10_order (wsV RX10 206 RX10 yX10_gain wsX10_gain) := goodIn_app (goodIn_of _ (by decide +kernel)) ggX10_order_X10_gain
theorem dX10_order_0 : decode cX10_order 0 = .ok (.iload_n 1, 1) := by decide +kernel
theorem dX10_order_1 : decode cX10_order 1 = .ok (.iconst 0, 1) := by decide +kernel
theorem dX10_order_2 : decode cX10_order 2 = .ok (.bipush 8, 2) := by decide +kernel
theorem dX10_order_4 : decode cX10_order 4 = .ok (.invokestatic 89, 3) := by decide +kernel
theorem dX10_order_7 : decode cX10_order 7 = .ok (.ifCond .ne 6, 3) := by decide +kernel
theorem dX10_order_10 : decode cX10_order 10 = .ok (.bipush (-2), 2) := by decide +kernel
theorem dX10_order_12 : decode cX10_order 12 = .ok (.ireturn, 1) := by decide +kernel
theorem dX10_order_13 : decode cX10_order 13 = .ok (.aload_n 0, 1) := by decide +kernel
theorem dX10_order_14 : decode cX10_order 14 = .ok (.getfield 55, 3) := by decide +kernel
theorem dX10_order_17 : decode cX10_order 17 = .ok (.sipush 255, 3) := by decide +kernel
theorem dX10_order_20 : decode cX10_order 20 = .ok (.iconst 0, 1) := by decide +kernel
theorem dX10_order_21 : decode cX10_order 21 = .ok (.iastore, 1) := by decide +kernel
theorem dX10_order_22 : decode cX10_order 22 = .ok (.sipush 254, 3) := by decide +kernel
theorem dX10_order_25 : decode cX10_order 25 = .ok (.istore_n 2, 1) := by decide +kernel
theorem dX10_order_26 : decode cX10_order 26 = .ok (.iload_n 2, 1) := by decide +kernel
theorem dX10_order_27 : decode cX10_order 27 = .ok (.ifCond .lt 81, 3) := by decide +kernel
theorem dX10_order_30 : decode cX10_order 30 = .ok (.iconst 0, 1) := by decide +kernel
theorem dX10_order_31 : decode cX10_order 31 = .ok (.istore_n 3, 1) := by decide +kernel
theorem dX10_order_32 : decode cX10_order 32 = .ok (.iconst 0, 1) := by decide +kernel
theorem dX10_order_33 : decode cX10_order 33 = .ok (.istore 4, 2) := by decide +kernel
theorem dX10_order_35 : decode cX10_order 35 = .ok (.iload 4, 2) := by decide +kernel
theorem dX10_order_37 : decode cX10_order 37 = .ok (.bipush 8, 2) := by decide +kernel
theorem dX10_order_39 : decode cX10_order 39 = .ok (.if_icmp .ge 56, 3) := by decide +kernel
theorem dX10_order_42 : decode cX10_order 42 = .ok (.iload_n 2, 1) := by decide +kernel
theorem dX10_order_43 : decode cX10_order 43 = .ok (.iload 4, 2) := by decide +kernel
theorem dX10_order_45 : decode cX10_order 45 = .ok (.ishr, 1) := by decide +kernel
theorem dX10_order_46 : decode cX10_order 46 = .ok (.iconst 1, 1) := by decide +kernel
theorem dX10_order_47 : decode cX10_order 47 = .ok (.iand, 1) := by decide +kernel
theorem dX10_order_48 : decode cX10_order 48 = .ok (.ifCond .ne 25, 3) := by decide +kernel
theorem dX10_order_51 : decode cX10_order 51 = .ok (.aload_n 0, 1) := by decide +kernel
theorem dX10_order_52 : decode cX10_order 52 = .ok (.iload 4, 2) := by decide +kernel
theorem dX10_order_54 : decode cX10_order 54 = .ok (.iload_n 2, 1) := by decide +kernel
theorem dX10_order_55 : decode cX10_order 55 = .ok (.invokevirtual 206, 3) := by decide +kernel
theorem dX10_order_58 : decode cX10_order 58 = .ok (.aload_n 0, 1) := by decide +kernel
theorem dX10_order_59 : decode cX10_order 59 = .ok (.getfield 55, 3) := by decide +kernel
theorem dX10_order_62 : decode cX10_order 62 = .ok (.iload_n 2, 1) := by decide +kernel
theorem dX10_order_63 : decode cX10_order 63 = .ok (.iconst 1, 1) := by decide +kernel
theorem dX10_order_64 : decode cX10_order 64 = .ok (.iload 4, 2) := by decide +kernel
theorem dX10_order_66 : decode cX10_order 66 = .ok (.ishl, 1) := by decide +kernel
theorem dX10_order_67 : decode cX10_order 67 = .ok (.ior, 1) := by decide +kernel
theorem dX10_order_68 : decode cX10_order 68 = .ok (.iaload, 1) := by decide +kernel
theorem dX10_order_69 : decode cX10_order 69 = .ok (.iadd, 1) := by decide +kernel
theorem dX10_order_70 : decode cX10_order 70 = .ok (.goto 4, 3) := by decide +kernel
theorem dX10_order_73 : decode cX10_order 73 = .ok (.iconst 0, 1) := by decide +kernel
theorem dX10_order_74 : decode cX10_order 74 = .ok (.istore 5, 2) := by decide +kernel
theorem dX10_order_76 : decode cX10_order 76 = .ok (.iload 5, 2) := by decide +kernel
theorem dX10_order_78 : decode cX10_order 78 = .ok (.iload_n 3, 1) := by decide +kernel
theorem dX10_order_79 : decode cX10_order 79 = .ok (.if_icmp .le 8, 3) := by decide +kernel
theorem dX10_order_82 : decode cX10_order 82 = .ok (.iload 5, 2) := by decide +kernel
theorem dX10_order_84 : decode cX10_order 84 = .ok (.goto 4, 3) := by decide +kernel
theorem dX10_order_87 : decode cX10_order 87 = .ok (.iload_n 3, 1) := by decide +kernel
theorem dX10_order_88 : decode cX10_order 88 = .ok (.istore_n 3, 1) := by decide +kernel
theorem dX10_order_89 : decode cX10_order 89 = .ok (.iinc 4 1, 3) := by decide +kernel
theorem dX10_order_92 : decode cX10_order 92 = .ok (.goto (-57), 3) := by decide +kernel
theorem dX10_order_95 : decode cX10_order 95 = .ok (.aload_n 0, 1) := by decide +kernel
theorem dX10_order_96 : decode cX10_order 96 = .ok (.getfield 55, 3) := by decide +kernel
theorem dX10_order_99 : decode cX10_order 99 = .ok (.iload_n 2, 1) := by decide +kernel
theorem dX10_order_100 : decode cX10_order 100 = .ok (.iload_n 3, 1) := by decide +kernel
theorem dX10_order_101 : decode cX10_order 101 = .ok (.iastore, 1) := by decide +kernel
theorem dX10_order_102 : decode cX10_order 102 = .ok (.iinc 2 (-1), 3) := by decide +kernel
theorem dX10_order_105 : decode cX10_order 105 = .ok (.goto (-79), 3) := by decide +kernel
theorem dX10_order_108 : decode cX10_order 108 = .ok (.iload_n 1, 1) := by decide +kernel
theorem dX10_order_109 : decode cX10_order 109 = .ok (.bipush 8, 2) := by decide +kernel
theorem dX10_order_111 : decode cX10_order 111 = .ok (.if_icmp .ne 15, 3) := by decide +kernel
theorem dX10_order_114 : decode cX10_order 114 = .ok (.aload_n 0, 1) := by decide +kernel
theorem dX10_order_115 : decode cX10_order 115 = .ok (.getfield 203, 3) := by decide +kernel
theorem dX10_order_118 : decode cX10_order 118 = .ok (.aload_n 0, 1) := by decide +kernel
theorem dX10_order_119 : decode cX10_order 119 = .ok (.getfield 55, 3) := by decide +kernel
theorem dX10_order_122 : decode cX10_order 122 = .ok (.iconst 0, 1) := by decide +kernel
theorem dX10_order_123 : decode cX10_order 123 = .ok (.iaload, 1) := by decide +kernel
theorem dX10_order_124 : decode cX10_order 124 = .ok (.isub, 1) := by decide +kernel
theorem dX10_order_125 : decode cX10_order 125 = .ok (.ireturn, 1) := by decide +kernel
theorem dX10_order_126 : decode cX10_order 126 = .ok (.iconst 0, 1) := by decide +kernel
theorem dX10_order_127 : decode cX10_order 127 = .ok (.istore_n 2, 1) := by decide +kernel
theorem dX10_order_128 : decode cX10_order 128 = .ok (.iconst 0, 1) := by decide +kernel
theorem dX10_order_129 : decode cX10_order 129 = .ok (.istore_n 3, 1) := by decide +kernel
theorem dX10_order_130 : decode cX10_order 130 = .ok (.iconst 0, 1) := by decide +kernel
theorem dX10_order_131 : decode cX10_order 131 = .ok (.istore 4, 2) := by decide +kernel
theorem dX10_order_133 : decode cX10_order 133 = .ok (.iload 4, 2) := by decide +kernel
theorem dX10_order_135 : decode cX10_order 135 = .ok (.iload_n 1, 1) := by decide +kernel
theorem dX10_order_136 : decode cX10_order 136 = .ok (.if_icmp .gt 58, 3) := by decide +kernel
theorem dX10_order_139 : decode cX10_order 139 = .ok (.iconst 0, 1) := by decide +kernel
theorem dX10_order_140 : decode cX10_order 140 = .ok (.istore_n 3, 1) := by decide +kernel
theorem dX10_order_141 : decode cX10_order 141 = .ok (.iload_n 2, 1) := by decide +kernel
theorem dX10_order_142 : decode cX10_order 142 = .ok (.iload_n 3, 1) := by decide +kernel
theorem dX10_order_143 : decode cX10_order 143 = .ok (.ishr, 1) := by decide +kernel
theorem dX10_order_144 : decode cX10_order 144 = .ok (.iconst 1, 1) := by decide +kernel
theorem dX10_order_145 : decode cX10_order 145 = .ok (.iand, 1) := by decide +kernel
theorem dX10_order_146 : decode cX10_order 146 = .ok (.iconst 1, 1) := by decide +kernel
theorem dX10_order_147 : decode cX10_order 147 = .ok (.if_icmp .eq 29, 3) := by decide +kernel
theorem dX10_order_150 : decode cX10_order 150 = .ok (.aload_n 0, 1) := by decide +kernel
theorem dX10_order_151 : decode cX10_order 151 = .ok (.iload_n 3, 1) := by decide +kernel
theorem dX10_order_152 : decode cX10_order 152 = .ok (.iload_n 2, 1) := by decide +kernel
theorem dX10_order_153 : decode cX10_order 153 = .ok (.invokevirtual 206, 3) := by decide +kernel
theorem dX10_order_156 : decode cX10_order 156 = .ok (.aload_n 0, 1) := by decide +kernel
theorem dX10_order_157 : decode cX10_order 157 = .ok (.getfield 55, 3) := by decide +kernel
theorem dX10_order_160 : decode cX10_order 160 = .ok (.iload_n 2, 1) := by decide +kernel
theorem dX10_order_161 : decode cX10_order 161 = .ok (.iconst 1, 1) := by decide +kernel
theorem dX10_order_162 : decode cX10_order 162 = .ok (.iload_n 3, 1) := by decide +kernel
theorem dX10_order_163 : decode cX10_order 163 = .ok (.ishl, 1) := by decide +kernel
theorem dX10_order_164 : decode cX10_order 164 = .ok (.ior, 1) := by decide +kernel
theorem dX10_order_165 : decode cX10_order 165 = .ok (.iaload, 1) := by decide +kernel
theorem dX10_order_166 : decode cX10_order 166 = .ok (.iadd, 1) := by decide +kernel
theorem dX10_order_167 : decode cX10_order 167 = .ok (.aload_n 0, 1) := by decide +kernel
theorem dX10_order_168 : decode cX10_order 168 = .ok (.getfield 55, 3) := by decide +kernel
theorem dX10_order_171 : decode cX10_order 171 = .ok (.iload_n 2, 1) := by decide +kernel
theorem dX10_order_172 : decode cX10_order 172 = .ok (.iaload, 1) := by decide +kernel
theorem dX10_order_173 : decode cX10_order 173 = .ok (.if_icmp .eq 9, 3) := by decide +kernel
theorem dX10_order_176 : decode cX10_order 176 = .ok (.iinc 3 1, 3) := by decide +kernel
theorem dX10_order_179 : decode cX10_order 179 = .ok (.goto (-38), 3) := by decide +kernel
theorem dX10_order_182 : decode cX10_order 182 = .ok (.iload_n 2, 1) := by decide +kernel
theorem dX10_order_183 : decode cX10_order 183 = .ok (.iconst 1, 1) := by decide +kernel
theorem dX10_order_184 : decode cX10_order 184 = .ok (.iload_n 3, 1) := by decide +kernel
theorem dX10_order_185 : decode cX10_order 185 = .ok (.ishl, 1) := by decide +kernel
theorem dX10_order_186 : decode cX10_order 186 = .ok (.ior, 1) := by decide +kernel
theorem dX10_order_187 : decode cX10_order 187 = .ok (.istore_n 2, 1) := by decide +kernel
theorem dX10_order_188 : decode cX10_order 188 = .ok (.iinc 4 1, 3) := by decide +kernel
theorem dX10_order_191 : decode cX10_order 191 = .ok (.goto (-58), 3) := by decide +kernel
theorem dX10_order_194 : decode cX10_order 194 = .ok (.iload_n 3, 1) := by decide +kernel
theorem dX10_order_195 : decode cX10_order 195 = .ok (.ireturn, 1) := by decide +kernel
set_option maxRecDepth 100000 in
def fX10_order_L2 (u6 : Int32) (t_notes : Int32) (t_under_a : Nat → Int32) (u7 : Nat → Int32) : (Int32 × Int32) → Option ((Int32) ⊕ (Int32 × Int32)) := un2 fun (u9 : Int32) (u10 : Int32) =>
  if 8 ≤ u10 then
    some (.inl u9)
  else
    ob (α := Int32) (
        if ((u6 >>> (u10 &&& 31)) &&& 1) = 0 then
          ob (fX10_gain u10 u6 t_notes t_under_a) fun r16 =>
          gd (bnd (u6 ||| ((1 : Int32) <<< (u10 &&& 31))) 256) <|
          some (r16 + (u7 (Int32.toNatClampNeg (u6 ||| ((1 : Int32) <<< (u10 &&& 31))))))
        else
          some 0
      ) fun m12 =>
    ob (α := Int32) (
        if m12 ≤ u9 then
          some u9
        else
          some m12
      ) fun m19 =>
    bv (u10 + 1) fun v23 =>
    some (.inr (m19, v23))
set_option maxRecDepth 100000 in
def fX10_order_L1 (t_notes : Int32) (t_under_a : Nat → Int32) : (Int32 × (Nat → Int32)) → Option (((Nat → Int32)) ⊕ (Int32 × (Nat → Int32))) := un2 fun (u6 : Int32) (u7 : Nat → Int32) =>
  if u6 < 0 then
    some (.inl u7)
  else
    ob (it (fX10_order_L2 u6 t_notes t_under_a u7) 100000 (0, 0)) fun x24 =>
    gd (bnd u6 256) <|
    bv (upd u7 (Int32.toNatClampNeg u6) x24) fun a26 =>
    bv (u6 + (-1)) fun v27 =>
    some (.inr (v27, a26))
set_option maxRecDepth 100000 in
def fX10_order_L4 (u30 : Int32) (t_notes : Int32) (t_under_a : Nat → Int32) (x28 : Nat → Int32) : Int32 → Option ((Int32) ⊕ (Int32)) := fun (u34 : Int32) =>
  if ((u30 >>> (u34 &&& 31)) &&& 1) = 1 then
    bv (u34 + 1) fun v36 =>
    some (.inr v36)
  else
    ob (fX10_gain u34 u30 t_notes t_under_a) fun r37 =>
    gd (bnd (u30 ||| ((1 : Int32) <<< (u34 &&& 31))) 256) <|
    gd (bnd u30 256) <|
    if (r37 + (x28 (Int32.toNatClampNeg (u30 ||| ((1 : Int32) <<< (u34 &&& 31)))))) = (x28 (Int32.toNatClampNeg u30)) then
      some (.inl u34)
    else
      bv (u34 + 1) fun v42 =>
      some (.inr v42)
set_option maxRecDepth 100000 in
def fX10_order_L3 (x1 : Int32) (t_notes : Int32) (t_under_a : Nat → Int32) (x28 : Nat → Int32) : (Int32 × Int32 × Int32) → Option ((Int32) ⊕ (Int32 × Int32 × Int32)) := un3 fun (u30 : Int32) (u31 : Int32) (u32 : Int32) =>
  if x1 < u32 then
    some (.inl u31)
  else
    ob (it (fX10_order_L4 u30 t_notes t_under_a x28) 100000 0) fun x43 =>
    bv (u30 ||| ((1 : Int32) <<< (x43 &&& 31))) fun v44 =>
    bv (u32 + 1) fun v45 =>
    some (.inr (v44, x43, v45))
set_option maxRecDepth 100000 in
def fX10_order (x1 : Int32) (t_notes : Int32) (t_under_a : Nat → Int32) (t_agreed_a : Nat → Int32) : Option (Int32 × (Nat → Int32)) :=
  ob (fX10_in x1 0 8) fun r1 =>
  if (b2i r1) = 0 then
    some ((-2), t_agreed_a)
  else
    gd (bnd 255 256) <|
    bv (upd t_agreed_a (Int32.toNatClampNeg 255) 0) fun a5 =>
    ob (it (fX10_order_L1 t_notes t_under_a) 100000 (254, a5)) fun x28 =>
    if x1 = 8 then
      gd (bnd 0 256) <|
      some (t_notes - (x28 (Int32.toNatClampNeg 0)), x28)
    else
      ob (it (fX10_order_L3 x1 t_notes t_under_a x28) 100000 (0, 0, 0)) fun x46 =>
      some (x46, x28)
abbrev rmX10_order : Room := { frames := 1, cells := 0, slots := 0, locals := 24 }
theorem iwX10_order_X10 : ∀ w ∈ u_ws RX10 TX10 36, w ∈ wsX10_order := by decide +kernel
set_option maxHeartbeats 4000000 in
set_option maxRecDepth 100000 in
theorem k_X10_order (l : Launch) (G : va_G) (cI cJ : ClassId) (t_h t_edges_h t_lean_h t_word_h t_layer_h t_least_h t_sight_h t_shadow_h t_spanLow_h t_spanHigh_h t_spanAt_h t_numbers_h t_pair_h t_most_h t_row_h t_under_h t_agreed_h : Nat) (sz : Nat) (t_baseWay : Int32) (t_slip : Int32) (t_low : Int32) (t_high : Int32) (t_unlike : Int32) (t_alone : Int32) (t_above : Int64) (t_below : Int64) (t_layers : Int32) (t_sights : Int32) (t_shadows : Int32) (t_endAbove : Int64) (t_endBelow : Int64) (t_speedAbove : Int64) (t_speedBelow : Int64) (t_spans : Int32) (t_found : Int32) (t_pairs : Int32) (t_rows : Int32) (t_notes : Int32) (t_under_a : Nat → Int32) (t_agreed_a : Nat → Int32) (x1 : Int32) {o_r : Int32} {o_t_agreed_a : Nat → Int32} (hf : fX10_order x1 t_notes t_under_a t_agreed_a = some (o_r, o_t_agreed_a)) : MetI l yX10_order wsX10_order rmX10_order [.ref t_h, .int x1] G cI cJ [(t_h, .inr (10, [.int t_baseWay, .int t_slip, .int t_low, .int t_high, .int t_unlike, .int t_alone, .long t_above, .long t_below, .ref t_edges_h, .ref t_lean_h, .ref t_word_h, .int t_layers, .ref t_layer_h, .ref t_least_h, .int t_sights, .ref t_sight_h, .int t_shadows, .ref t_shadow_h, .long t_endAbove, .long t_endBelow, .long t_speedAbove, .long t_speedBelow, .int t_spans, .ref t_spanLow_h, .ref t_spanHigh_h, .ref t_spanAt_h, .int t_found, .ref t_numbers_h, .int t_pairs, .ref t_pair_h, .ref t_most_h, .int t_rows, .ref t_row_h, .int t_notes, .ref t_under_h, .ref t_agreed_h])), (t_under_h, .inl (cI, 200, .inl t_under_a)), (t_agreed_h, .inl (cI, 256, .inl t_agreed_a))] [(t_h, .inr (10, [.int t_baseWay, .int t_slip, .int t_low, .int t_high, .int t_unlike, .int t_alone, .long t_above, .long t_below, .ref t_edges_h, .ref t_lean_h, .ref t_word_h, .int t_layers, .ref t_layer_h, .ref t_least_h, .int t_sights, .ref t_sight_h, .int t_shadows, .ref t_shadow_h, .long t_endAbove, .long t_endBelow, .long t_speedAbove, .long t_speedBelow, .int t_spans, .ref t_spanLow_h, .ref t_spanHigh_h, .ref t_spanAt_h, .int t_found, .ref t_numbers_h, .int t_pairs, .ref t_pair_h, .ref t_most_h, .int t_rows, .ref t_row_h, .int t_notes, .ref t_under_h, .ref t_agreed_h])), (t_under_h, .inl (cI, 200, .inl t_under_a)), (t_agreed_h, .inl (cI, 256, .inl o_t_agreed_a))] sz o_r := by
  refine en_0 (l := l) (y := yX10_order) (wsl := wsX10_order) (rm := rmX10_order) (av := [.ref t_h, .int x1]) (G := G) (cI := cI) (cJ := cJ) (w0 := [(t_h, .inr (10, [.int t_baseWay, .int t_slip, .int t_low, .int t_high, .int t_unlike, .int t_alone, .long t_above, .long t_below, .ref t_edges_h, .ref t_lean_h, .ref t_word_h, .int t_layers, .ref t_layer_h, .ref t_least_h, .int t_sights, .ref t_sight_h, .int t_shadows, .ref t_shadow_h, .long t_endAbove, .long t_endBelow, .long t_speedAbove, .long t_speedBelow, .int t_spans, .ref t_spanLow_h, .ref t_spanHigh_h, .ref t_spanAt_h, .int t_found, .ref t_numbers_h, .int t_pairs, .ref t_pair_h, .ref t_most_h, .int t_rows, .ref t_row_h, .int t_notes, .ref t_under_h, .ref t_agreed_h])), (t_under_h, .inl (cI, 200, .inl t_under_a)), (t_agreed_h, .inl (cI, 256, .inl t_agreed_a))]) (sz := sz) (Qf := fun A => Qi0 G cI cJ [(t_h, .inr (10, [.int t_baseWay, .int t_slip, .int t_low, .int t_high, .int t_unlike, .int t_alone, .long t_above, .long t_below, .ref t_edges_h, .ref t_lean_h, .ref t_word_h, .int t_layers, .ref t_layer_h, .ref t_least_h, .int t_sights, .ref t_sight_h, .int t_shadows, .ref t_shadow_h, .long t_endAbove, .long t_endBelow, .long t_speedAbove, .long t_speedBelow, .int t_spans, .ref t_spanLow_h, .ref t_spanHigh_h, .ref t_spanAt_h, .int t_found, .ref t_numbers_h, .int t_pairs, .ref t_pair_h, .ref t_most_h, .int t_rows, .ref t_row_h, .int t_notes, .ref t_under_h, .ref t_agreed_h])), (t_under_h, .inl (cI, 200, .inl t_under_a)), (t_agreed_h, .inl (cI, 256, .inl o_t_agreed_a))] o_r A) (cc := cX10_order) (maxL := 6) (ret := (some .int)) RX10 (by decide +kernel) rfl rfl (Nat.le_of_ble_eq_true rfl) ?_
  intro p e s m args below meth c A ls Q hQ hx hb hr hts hown hlocks hml hN hK hP hD hS hA hl
  have hl : lv_has ls 6 [(0, .ref t_h), (1, .int x1)] := hl
  have iwX10 := iwX10_order_X10
  have fl_55 := hts (.fieldLink RX10 55 "CloudOfficeModel" "agreed" "[I") (by decide +kernel)
  have fl_203 := hts (.fieldLink RX10 203 "CloudOfficeModel" "notes" "I") (by decide +kernel)
  have hret : ∀ (o_r9 : Int32) (o_t_agreed_a9 : Nat → Int32) (pc : Nat) (H : Heap) (locs : List Loc) (ls : Array Slot), decode cX10_order pc = .ok (.ireturn, 1) → some (o_r9, o_t_agreed_a9) = some (o_r, o_t_agreed_a) → va_P G vwCl [(t_h, .inr (10, [.int t_baseWay, .int t_slip, .int t_low, .int t_high, .int t_unlike, .int t_alone, .long t_above, .long t_below, .ref t_edges_h, .ref t_lean_h, .ref t_word_h, .int t_layers, .ref t_layer_h, .ref t_least_h, .int t_sights, .ref t_sight_h, .int t_shadows, .ref t_shadow_h, .long t_endAbove, .long t_endBelow, .long t_speedAbove, .long t_speedBelow, .int t_spans, .ref t_spanLow_h, .ref t_spanHigh_h, .ref t_spanAt_h, .int t_found, .ref t_numbers_h, .int t_pairs, .ref t_pair_h, .ref t_most_h, .int t_rows, .ref t_row_h, .int t_notes, .ref t_under_h, .ref t_agreed_h])), (t_under_h, .inl (cI, 200, .inl t_under_a)), (t_agreed_h, .inl (cI, 256, .inl o_t_agreed_a9))] H → va_D A [(t_h, .inr (10, [.int t_baseWay, .int t_slip, .int t_low, .int t_high, .int t_unlike, .int t_alone, .long t_above, .long t_below, .ref t_edges_h, .ref t_lean_h, .ref t_word_h, .int t_layers, .ref t_layer_h, .ref t_least_h, .int t_sights, .ref t_sight_h, .int t_shadows, .ref t_shadow_h, .long t_endAbove, .long t_endBelow, .long t_speedAbove, .long t_speedBelow, .int t_spans, .ref t_spanLow_h, .ref t_spanHigh_h, .ref t_spanAt_h, .int t_found, .ref t_numbers_h, .int t_pairs, .ref t_pair_h, .ref t_most_h, .int t_rows, .ref t_row_h, .int t_notes, .ref t_under_h, .ref t_agreed_h])), (t_under_h, .inl (cI, 200, .inl t_under_a)), (t_agreed_h, .inl (cI, 256, .inl o_t_agreed_a9))] → va_S A s.heap H locs → W p l e rmX10_order s m args below meth c H locs 0 0 Q (F0 m pc ls [.int o_r9]) := by
    intro o_r9 o_t_agreed_a9 pc H locs ls hdg he hP hD hS
    cases he
    subst hQ
    exact rt_i hx hb hr hlocks hK hP hD hS rfl hdg
  clear hQ
  unfold fX10_order at hf
  refine lv_iload_n hx hb dX10_order_0 rfl (lv_at hl 1 rfl) ?_
  refine lv_iconst (v := 0) hx hb dX10_order_1 (by decide) ?_
  refine lv_bipush (v := 8) hx hb dX10_order_2 (by decide) ?_
  obtain ⟨r1, hc2, hf⟩ := ob_some hf
  refine af_iR (va_runS (As := [.int x1, .int 0, .int 8]) (rest := []) ⟨hx, hb, hml, hown, hts⟩ (k_X10_in l G cI cJ (x0 := x1) (x1 := 0) (x2 := 8) (sz := _) (hf := hc2)) (va_cwS 3 hts gX10_order_X10_in rfl rfl rfl (by decide +kernel) ⟨Nat.le_of_ble_eq_true rfl, Nat.le_of_ble_eq_true rfl⟩) (preS0 (wc := []) hK hP hD hN [] rfl rfl (by decide)) rfl rfl hl.1 rfl (lv_room (Nat.le_of_ble_eq_true rfl)) dX10_order_4 ⟨Nat.zero_le _, Nat.zero_le _⟩) hP hD hS hA [] rfl (fun H locs hP hS => ?_)
  refine lv_if_ne (tgt := 13) hx hb dX10_order_7 (by decide) (fun c3 => ?_) (fun c3 => ?_)
  · have hf := iff_ hf c3
    refine lv_aload_n hx hb dX10_order_13 rfl (lv_at hl 0 rfl) ?_
    refine va_get (D := G) (ci := 10) (v := .ref t_agreed_h) (C := RX10) (T := TX10) (N := 36) hx hb hts iwX10 hown hK hP 0 rfl rfl 35 (by decide) fl_55 (fun _ h9 => h9) rfl dX10_order_14 ?_
    refine lv_sipush (v := 255) hx hb dX10_order_17 (by decide) ?_
    refine lv_iconst (v := 0) hx hb dX10_order_20 (by decide) ?_
    obtain ⟨h4, hf⟩ := gd_some hf
    obtain ⟨a5, ea5⟩ : ∃ y : Nat → Int32, y = upd t_agreed_a (Int32.toNatClampNeg 255) 0 := ⟨_, rfl⟩
    have hf := bv_at ea5 hf
    refine va_iast hx hb hK hP hD hS 2 0 rfl rfl (bnd_in h4) dX10_order_21 (fun H locs hP hD hS => ?_)
    have hP : va_P G vwCl [(t_h, .inr (10, [.int t_baseWay, .int t_slip, .int t_low, .int t_high, .int t_unlike, .int t_alone, .long t_above, .long t_below, .ref t_edges_h, .ref t_lean_h, .ref t_word_h, .int t_layers, .ref t_layer_h, .ref t_least_h, .int t_sights, .ref t_sight_h, .int t_shadows, .ref t_shadow_h, .long t_endAbove, .long t_endBelow, .long t_speedAbove, .long t_speedBelow, .int t_spans, .ref t_spanLow_h, .ref t_spanHigh_h, .ref t_spanAt_h, .int t_found, .ref t_numbers_h, .int t_pairs, .ref t_pair_h, .ref t_most_h, .int t_rows, .ref t_row_h, .int t_notes, .ref t_under_h, .ref t_agreed_h])), (t_under_h, .inl (cI, 200, .inl t_under_a)), (t_agreed_h, .inl (cI, 256, .inl a5))] H := by rw [ea5]; exact hP
    have hD : va_D A [(t_h, .inr (10, [.int t_baseWay, .int t_slip, .int t_low, .int t_high, .int t_unlike, .int t_alone, .long t_above, .long t_below, .ref t_edges_h, .ref t_lean_h, .ref t_word_h, .int t_layers, .ref t_layer_h, .ref t_least_h, .int t_sights, .ref t_sight_h, .int t_shadows, .ref t_shadow_h, .long t_endAbove, .long t_endBelow, .long t_speedAbove, .long t_speedBelow, .int t_spans, .ref t_spanLow_h, .ref t_spanHigh_h, .ref t_spanAt_h, .int t_found, .ref t_numbers_h, .int t_pairs, .ref t_pair_h, .ref t_most_h, .int t_rows, .ref t_row_h, .int t_notes, .ref t_under_h, .ref t_agreed_h])), (t_under_h, .inl (cI, 200, .inl t_under_a)), (t_agreed_h, .inl (cI, 256, .inl a5))] := by rw [ea5]; exact hD
    refine lv_sipush (v := 254) hx hb dX10_order_22 (by decide) ?_
    refine lv_istore_n (lv' := [(2, .int 254), (0, .ref t_h), (1, .int x1)]) hx hb dX10_order_25 rfl hl (by decide) rfl (fun ls hl => ?_)
    obtain ⟨x28, ht1, hf⟩ := ob_some hf
    have hx1_0 : ∀ (x289 : Nat → Int32), x289 = x28 → ∀ (H : Heap) (locs : List Loc) (ls : Array Slot), va_P G vwCl [(t_h, .inr (10, [.int t_baseWay, .int t_slip, .int t_low, .int t_high, .int t_unlike, .int t_alone, .long t_above, .long t_below, .ref t_edges_h, .ref t_lean_h, .ref t_word_h, .int t_layers, .ref t_layer_h, .ref t_least_h, .int t_sights, .ref t_sight_h, .int t_shadows, .ref t_shadow_h, .long t_endAbove, .long t_endBelow, .long t_speedAbove, .long t_speedBelow, .int t_spans, .ref t_spanLow_h, .ref t_spanHigh_h, .ref t_spanAt_h, .int t_found, .ref t_numbers_h, .int t_pairs, .ref t_pair_h, .ref t_most_h, .int t_rows, .ref t_row_h, .int t_notes, .ref t_under_h, .ref t_agreed_h])), (t_under_h, .inl (cI, 200, .inl t_under_a)), (t_agreed_h, .inl (cI, 256, .inl x289))] H → va_D A [(t_h, .inr (10, [.int t_baseWay, .int t_slip, .int t_low, .int t_high, .int t_unlike, .int t_alone, .long t_above, .long t_below, .ref t_edges_h, .ref t_lean_h, .ref t_word_h, .int t_layers, .ref t_layer_h, .ref t_least_h, .int t_sights, .ref t_sight_h, .int t_shadows, .ref t_shadow_h, .long t_endAbove, .long t_endBelow, .long t_speedAbove, .long t_speedBelow, .int t_spans, .ref t_spanLow_h, .ref t_spanHigh_h, .ref t_spanAt_h, .int t_found, .ref t_numbers_h, .int t_pairs, .ref t_pair_h, .ref t_most_h, .int t_rows, .ref t_row_h, .int t_notes, .ref t_under_h, .ref t_agreed_h])), (t_under_h, .inl (cI, 200, .inl t_under_a)), (t_agreed_h, .inl (cI, 256, .inl x289))] → va_S A s.heap H locs → lv_has ls 6 [(0, .ref t_h), (1, .int x1)] → W p l e rmX10_order s m args below meth c H locs 0 0 Q (F0 m 108 ls []) := by
      intro x289 he H locs ls hP hD hS hl
      cases he
      refine lv_iload_n hx hb dX10_order_108 rfl (lv_at hl 1 rfl) ?_
      refine lv_bipush (v := 8) hx hb dX10_order_109 (by decide) ?_
      refine lv_icmp_ne (tgt := 126) hx hb dX10_order_111 (by decide) (fun c29 => ?_) (fun c29 => ?_)
      · have hf := iff_ hf c29
        refine lv_iconst (v := 0) hx hb dX10_order_126 (by decide) ?_
        refine lv_istore_n (lv' := [(2, .int 0), (0, .ref t_h), (1, .int x1)]) hx hb dX10_order_127 rfl hl (by decide) rfl (fun ls hl => ?_)
        refine lv_iconst (v := 0) hx hb dX10_order_128 (by decide) ?_
        refine lv_istore_n (lv' := [(3, .int 0), (2, .int 0), (0, .ref t_h), (1, .int x1)]) hx hb dX10_order_129 rfl hl (by decide) rfl (fun ls hl => ?_)
        refine lv_iconst (v := 0) hx hb dX10_order_130 (by decide) ?_
        refine lv_istore (lv' := [(4, .int 0), (3, .int 0), (2, .int 0), (0, .ref t_h), (1, .int x1)]) hx hb dX10_order_131 hl (by decide) rfl (fun ls hl => ?_)
        obtain ⟨x46, ht3, hf⟩ := ob_some hf
        have hx3_0 : ∀ (x469 : Int32), x469 = x46 → ∀ (H : Heap) (locs : List Loc) (ls : Array Slot), va_P G vwCl [(t_h, .inr (10, [.int t_baseWay, .int t_slip, .int t_low, .int t_high, .int t_unlike, .int t_alone, .long t_above, .long t_below, .ref t_edges_h, .ref t_lean_h, .ref t_word_h, .int t_layers, .ref t_layer_h, .ref t_least_h, .int t_sights, .ref t_sight_h, .int t_shadows, .ref t_shadow_h, .long t_endAbove, .long t_endBelow, .long t_speedAbove, .long t_speedBelow, .int t_spans, .ref t_spanLow_h, .ref t_spanHigh_h, .ref t_spanAt_h, .int t_found, .ref t_numbers_h, .int t_pairs, .ref t_pair_h, .ref t_most_h, .int t_rows, .ref t_row_h, .int t_notes, .ref t_under_h, .ref t_agreed_h])), (t_under_h, .inl (cI, 200, .inl t_under_a)), (t_agreed_h, .inl (cI, 256, .inl x28))] H → va_D A [(t_h, .inr (10, [.int t_baseWay, .int t_slip, .int t_low, .int t_high, .int t_unlike, .int t_alone, .long t_above, .long t_below, .ref t_edges_h, .ref t_lean_h, .ref t_word_h, .int t_layers, .ref t_layer_h, .ref t_least_h, .int t_sights, .ref t_sight_h, .int t_shadows, .ref t_shadow_h, .long t_endAbove, .long t_endBelow, .long t_speedAbove, .long t_speedBelow, .int t_spans, .ref t_spanLow_h, .ref t_spanHigh_h, .ref t_spanAt_h, .int t_found, .ref t_numbers_h, .int t_pairs, .ref t_pair_h, .ref t_most_h, .int t_rows, .ref t_row_h, .int t_notes, .ref t_under_h, .ref t_agreed_h])), (t_under_h, .inl (cI, 200, .inl t_under_a)), (t_agreed_h, .inl (cI, 256, .inl x28))] → va_S A s.heap H locs → lv_has ls 6 [(3, .int x469)] → W p l e rmX10_order s m args below meth c H locs 0 0 Q (F0 m 194 ls []) := by
          intro x469 he H locs ls hP hD hS hl
          cases he
          refine lv_iload_n hx hb dX10_order_194 rfl (lv_at hl 0 rfl) ?_
          exact hret x46 x28 195 _ _ _ dX10_order_195 hf hP hD hS
        clear hf
        have hl3 : ∀ (n : Nat) (u30 : Int32) (u31 : Int32) (u32 : Int32), it (fX10_order_L3 x1 t_notes t_under_a x28) n (u30, u31, u32) = some x46 → ∀ (H : Heap) (locs : List Loc) (ls : Array Slot), va_P G vwCl [(t_h, .inr (10, [.int t_baseWay, .int t_slip, .int t_low, .int t_high, .int t_unlike, .int t_alone, .long t_above, .long t_below, .ref t_edges_h, .ref t_lean_h, .ref t_word_h, .int t_layers, .ref t_layer_h, .ref t_least_h, .int t_sights, .ref t_sight_h, .int t_shadows, .ref t_shadow_h, .long t_endAbove, .long t_endBelow, .long t_speedAbove, .long t_speedBelow, .int t_spans, .ref t_spanLow_h, .ref t_spanHigh_h, .ref t_spanAt_h, .int t_found, .ref t_numbers_h, .int t_pairs, .ref t_pair_h, .ref t_most_h, .int t_rows, .ref t_row_h, .int t_notes, .ref t_under_h, .ref t_agreed_h])), (t_under_h, .inl (cI, 200, .inl t_under_a)), (t_agreed_h, .inl (cI, 256, .inl x28))] H → va_D A [(t_h, .inr (10, [.int t_baseWay, .int t_slip, .int t_low, .int t_high, .int t_unlike, .int t_alone, .long t_above, .long t_below, .ref t_edges_h, .ref t_lean_h, .ref t_word_h, .int t_layers, .ref t_layer_h, .ref t_least_h, .int t_sights, .ref t_sight_h, .int t_shadows, .ref t_shadow_h, .long t_endAbove, .long t_endBelow, .long t_speedAbove, .long t_speedBelow, .int t_spans, .ref t_spanLow_h, .ref t_spanHigh_h, .ref t_spanAt_h, .int t_found, .ref t_numbers_h, .int t_pairs, .ref t_pair_h, .ref t_most_h, .int t_rows, .ref t_row_h, .int t_notes, .ref t_under_h, .ref t_agreed_h])), (t_under_h, .inl (cI, 200, .inl t_under_a)), (t_agreed_h, .inl (cI, 256, .inl x28))] → va_S A s.heap H locs → lv_has ls 6 [(0, .ref t_h), (1, .int x1), (2, .int u30), (3, .int u31), (4, .int u32)] → W p l e rmX10_order s m args below meth c H locs 0 0 Q (F0 m 133 ls []) := by
          intro n
          induction n with
          | zero => intro u30 u31 u32 hz; exact (it_zero hz).elim
          | succ n ih =>
            intro u30 u31 u32 hz H locs ls hP hD hS hl
            obtain ⟨x9, hf, hq⟩ := it_succ hz
            unfold fX10_order_L3 at hf
            dsimp only [un3] at hf
            refine lv_iload hx hb dX10_order_133 (lv_at hl 4 rfl) ?_
            refine lv_iload_n hx hb dX10_order_135 rfl (lv_at hl 1 rfl) ?_
            refine lv_icmp_gt (tgt := 194) hx hb dX10_order_136 (by decide) (fun c33 => ?_) (fun c33 => ?_)
            · have hf := ift hf c33
              cases hf
              exact hx3_0 _ hq _ _ _ hP hD hS (lv_sub hl [3] rfl)
            · have hf := iff_ hf c33
              refine lv_iconst (v := 0) hx hb dX10_order_139 (by decide) ?_
              refine lv_istore_n (lv' := [(3, .int 0), (0, .ref t_h), (1, .int x1), (2, .int u30), (4, .int u32)]) hx hb dX10_order_140 rfl hl (by decide) rfl (fun ls hl => ?_)
              obtain ⟨x43, ht4, hf⟩ := ob_some hf
              have hx4_0 : ∀ (x439 : Int32), x439 = x43 → ∀ (H : Heap) (locs : List Loc) (ls : Array Slot), va_P G vwCl [(t_h, .inr (10, [.int t_baseWay, .int t_slip, .int t_low, .int t_high, .int t_unlike, .int t_alone, .long t_above, .long t_below, .ref t_edges_h, .ref t_lean_h, .ref t_word_h, .int t_layers, .ref t_layer_h, .ref t_least_h, .int t_sights, .ref t_sight_h, .int t_shadows, .ref t_shadow_h, .long t_endAbove, .long t_endBelow, .long t_speedAbove, .long t_speedBelow, .int t_spans, .ref t_spanLow_h, .ref t_spanHigh_h, .ref t_spanAt_h, .int t_found, .ref t_numbers_h, .int t_pairs, .ref t_pair_h, .ref t_most_h, .int t_rows, .ref t_row_h, .int t_notes, .ref t_under_h, .ref t_agreed_h])), (t_under_h, .inl (cI, 200, .inl t_under_a)), (t_agreed_h, .inl (cI, 256, .inl x28))] H → va_D A [(t_h, .inr (10, [.int t_baseWay, .int t_slip, .int t_low, .int t_high, .int t_unlike, .int t_alone, .long t_above, .long t_below, .ref t_edges_h, .ref t_lean_h, .ref t_word_h, .int t_layers, .ref t_layer_h, .ref t_least_h, .int t_sights, .ref t_sight_h, .int t_shadows, .ref t_shadow_h, .long t_endAbove, .long t_endBelow, .long t_speedAbove, .long t_speedBelow, .int t_spans, .ref t_spanLow_h, .ref t_spanHigh_h, .ref t_spanAt_h, .int t_found, .ref t_numbers_h, .int t_pairs, .ref t_pair_h, .ref t_most_h, .int t_rows, .ref t_row_h, .int t_notes, .ref t_under_h, .ref t_agreed_h])), (t_under_h, .inl (cI, 200, .inl t_under_a)), (t_agreed_h, .inl (cI, 256, .inl x28))] → va_S A s.heap H locs → lv_has ls 6 [(0, .ref t_h), (1, .int x1), (2, .int u30), (3, .int x439), (4, .int u32)] → W p l e rmX10_order s m args below meth c H locs 0 0 Q (F0 m 182 ls []) := by
                intro x439 he H locs ls hP hD hS hl
                cases he
                refine lv_iload_n hx hb dX10_order_182 rfl (lv_at hl 2 rfl) ?_
                refine lv_iconst (v := 1) hx hb dX10_order_183 (by decide) ?_
                refine lv_iload_n hx hb dX10_order_184 rfl (lv_at hl 3 rfl) ?_
                refine lv_ishl hx hb dX10_order_185 ?_
                refine lv_ior hx hb dX10_order_186 ?_
                refine lv_topi (fun v44 ev44 => ?_)
                have hf := bv_at ev44 hf
                refine lv_istore_n (lv' := [(2, .int v44), (0, .ref t_h), (1, .int x1), (3, .int x43), (4, .int u32)]) hx hb dX10_order_187 rfl hl (by decide) rfl (fun ls hl => ?_)
                obtain ⟨v45, ev45⟩ : ∃ y : Int32, y = u32 + 1 := ⟨_, rfl⟩
                have hf := bv_at ev45 hf
                refine lv_iinc (v := v45) (lv' := [(4, .int v45), (2, .int v44), (0, .ref t_h), (1, .int x1), (3, .int x43)]) hx hb dX10_order_188 hl (k := 4) rfl (by rw [ev45]; rfl) (by decide) rfl (fun ls hl => ?_)
                refine lv_goto (tgt := 133) hx hb dX10_order_191 (by decide) ?_
                cases hf
                exact ih _ _ _ hq _ _ _ hP hD hS (lv_sub hl [2, 3, 1, 4, 0] rfl)
              clear hf
              have hl4 : ∀ (n : Nat) (u34 : Int32), it (fX10_order_L4 u30 t_notes t_under_a x28) n u34 = some x43 → ∀ (H : Heap) (locs : List Loc) (ls : Array Slot), va_P G vwCl [(t_h, .inr (10, [.int t_baseWay, .int t_slip, .int t_low, .int t_high, .int t_unlike, .int t_alone, .long t_above, .long t_below, .ref t_edges_h, .ref t_lean_h, .ref t_word_h, .int t_layers, .ref t_layer_h, .ref t_least_h, .int t_sights, .ref t_sight_h, .int t_shadows, .ref t_shadow_h, .long t_endAbove, .long t_endBelow, .long t_speedAbove, .long t_speedBelow, .int t_spans, .ref t_spanLow_h, .ref t_spanHigh_h, .ref t_spanAt_h, .int t_found, .ref t_numbers_h, .int t_pairs, .ref t_pair_h, .ref t_most_h, .int t_rows, .ref t_row_h, .int t_notes, .ref t_under_h, .ref t_agreed_h])), (t_under_h, .inl (cI, 200, .inl t_under_a)), (t_agreed_h, .inl (cI, 256, .inl x28))] H → va_D A [(t_h, .inr (10, [.int t_baseWay, .int t_slip, .int t_low, .int t_high, .int t_unlike, .int t_alone, .long t_above, .long t_below, .ref t_edges_h, .ref t_lean_h, .ref t_word_h, .int t_layers, .ref t_layer_h, .ref t_least_h, .int t_sights, .ref t_sight_h, .int t_shadows, .ref t_shadow_h, .long t_endAbove, .long t_endBelow, .long t_speedAbove, .long t_speedBelow, .int t_spans, .ref t_spanLow_h, .ref t_spanHigh_h, .ref t_spanAt_h, .int t_found, .ref t_numbers_h, .int t_pairs, .ref t_pair_h, .ref t_most_h, .int t_rows, .ref t_row_h, .int t_notes, .ref t_under_h, .ref t_agreed_h])), (t_under_h, .inl (cI, 200, .inl t_under_a)), (t_agreed_h, .inl (cI, 256, .inl x28))] → va_S A s.heap H locs → lv_has ls 6 [(0, .ref t_h), (1, .int x1), (2, .int u30), (3, .int u34), (4, .int u32)] → W p l e rmX10_order s m args below meth c H locs 0 0 Q (F0 m 141 ls []) := by
                intro n
                induction n with
                | zero => intro u34 hz; exact (it_zero hz).elim
                | succ n ih =>
                  intro u34 hz H locs ls hP hD hS hl
                  obtain ⟨x9, hf, hq⟩ := it_succ hz
                  unfold fX10_order_L4 at hf
                  refine lv_iload_n hx hb dX10_order_141 rfl (lv_at hl 2 rfl) ?_
                  refine lv_iload_n hx hb dX10_order_142 rfl (lv_at hl 3 rfl) ?_
                  refine lv_ishr hx hb dX10_order_143 ?_
                  refine lv_iconst (v := 1) hx hb dX10_order_144 (by decide) ?_
                  refine lv_iand hx hb dX10_order_145 ?_
                  refine lv_iconst (v := 1) hx hb dX10_order_146 (by decide) ?_
                  refine lv_icmp_eq (tgt := 176) hx hb dX10_order_147 (by decide) (fun c35 => ?_) (fun c35 => ?_)
                  · have hf := ift hf c35
                    obtain ⟨v36, ev36⟩ : ∃ y : Int32, y = u34 + 1 := ⟨_, rfl⟩
                    have hf := bv_at ev36 hf
                    refine lv_iinc (v := v36) (lv' := [(3, .int v36), (0, .ref t_h), (1, .int x1), (2, .int u30), (4, .int u32)]) hx hb dX10_order_176 hl (k := 3) rfl (by rw [ev36]; rfl) (by decide) rfl (fun ls hl => ?_)
                    refine lv_goto (tgt := 141) hx hb dX10_order_179 (by decide) ?_
                    cases hf
                    exact ih _ hq _ _ _ hP hD hS (lv_sub hl [1, 2, 3, 0, 4] rfl)
                  · have hf := iff_ hf c35
                    refine lv_aload_n hx hb dX10_order_150 rfl (lv_at hl 0 rfl) ?_
                    refine lv_iload_n hx hb dX10_order_151 rfl (lv_at hl 3 rfl) ?_
                    refine lv_iload_n hx hb dX10_order_152 rfl (lv_at hl 2 rfl) ?_
                    obtain ⟨r37, hc38, hf⟩ := ob_some hf
                    refine af_iR (va_runV (As := [.int u34, .int u30]) (rest := []) ⟨hx, hb, hml, hown, hts⟩ (k_X10_gain l G cI cJ (t_h := t_h) (t_edges_h := t_edges_h) (t_lean_h := t_lean_h) (t_word_h := t_word_h) (t_layer_h := t_layer_h) (t_least_h := t_least_h) (t_sight_h := t_sight_h) (t_shadow_h := t_shadow_h) (t_spanLow_h := t_spanLow_h) (t_spanHigh_h := t_spanHigh_h) (t_spanAt_h := t_spanAt_h) (t_numbers_h := t_numbers_h) (t_pair_h := t_pair_h) (t_most_h := t_most_h) (t_row_h := t_row_h) (t_under_h := t_under_h) (t_agreed_h := t_agreed_h) (t_baseWay := t_baseWay) (t_slip := t_slip) (t_low := t_low) (t_high := t_high) (t_unlike := t_unlike) (t_alone := t_alone) (t_above := t_above) (t_below := t_below) (t_layers := t_layers) (t_sights := t_sights) (t_shadows := t_shadows) (t_endAbove := t_endAbove) (t_endBelow := t_endBelow) (t_speedAbove := t_speedAbove) (t_speedBelow := t_speedBelow) (t_spans := t_spans) (t_found := t_found) (t_pairs := t_pairs) (t_rows := t_rows) (t_notes := t_notes) (t_under_a := t_under_a) (x1 := u34) (x2 := u30) (sz := _) (hf := hc38)) (cwV 2 hts gX10_order_X10_gain rfl rfl rfl (by decide +kernel) ⟨Nat.le_of_ble_eq_true rfl, Nat.le_of_ble_eq_true rfl⟩) (preV0 (ci := 10) (q0 := 0) (C := RX10) (wc := [(t_h, .inr (10, [.int t_baseWay, .int t_slip, .int t_low, .int t_high, .int t_unlike, .int t_alone, .long t_above, .long t_below, .ref t_edges_h, .ref t_lean_h, .ref t_word_h, .int t_layers, .ref t_layer_h, .ref t_least_h, .int t_sights, .ref t_sight_h, .int t_shadows, .ref t_shadow_h, .long t_endAbove, .long t_endBelow, .long t_speedAbove, .long t_speedBelow, .int t_spans, .ref t_spanLow_h, .ref t_spanHigh_h, .ref t_spanAt_h, .int t_found, .ref t_numbers_h, .int t_pairs, .ref t_pair_h, .ref t_most_h, .int t_rows, .ref t_row_h, .int t_notes, .ref t_under_h, .ref t_agreed_h])), (t_under_h, .inl (cI, 200, .inl t_under_a))]) hK hP hD hN [0, 1] rfl rfl (by decide) rfl rfl) rfl rfl hl.1 rfl (lv_room (Nat.le_of_ble_eq_true rfl)) dX10_order_153 ⟨Nat.zero_le _, Nat.zero_le _⟩) hP hD hS hA [0, 1] rfl (fun H locs hP hS => ?_)
                    refine lv_aload_n hx hb dX10_order_156 rfl (lv_at hl 0 rfl) ?_
                    refine va_get (D := G) (ci := 10) (v := .ref t_agreed_h) (C := RX10) (T := TX10) (N := 36) hx hb hts iwX10 hown hK hP 0 rfl rfl 35 (by decide) fl_55 (fun _ h9 => h9) rfl dX10_order_157 ?_
                    refine lv_iload_n hx hb dX10_order_160 rfl (lv_at hl 2 rfl) ?_
                    refine lv_iconst (v := 1) hx hb dX10_order_161 (by decide) ?_
                    refine lv_iload_n hx hb dX10_order_162 rfl (lv_at hl 3 rfl) ?_
                    refine lv_ishl hx hb dX10_order_163 ?_
                    refine lv_ior hx hb dX10_order_164 ?_
                    obtain ⟨h39, hf⟩ := gd_some hf
                    refine va_iald hx hb hK hP 2 0 rfl rfl (bnd_in h39) dX10_order_165 ?_
                    refine lv_iadd hx hb dX10_order_166 ?_
                    refine lv_aload_n hx hb dX10_order_167 rfl (lv_at hl 0 rfl) ?_
                    refine va_get (D := G) (ci := 10) (v := .ref t_agreed_h) (C := RX10) (T := TX10) (N := 36) hx hb hts iwX10 hown hK hP 0 rfl rfl 35 (by decide) fl_55 (fun _ h9 => h9) rfl dX10_order_168 ?_
                    refine lv_iload_n hx hb dX10_order_171 rfl (lv_at hl 2 rfl) ?_
                    obtain ⟨h40, hf⟩ := gd_some hf
                    refine va_iald hx hb hK hP 2 0 rfl rfl (bnd_in h40) dX10_order_172 ?_
                    refine lv_icmp_eq (tgt := 182) hx hb dX10_order_173 (by decide) (fun c41 => ?_) (fun c41 => ?_)
                    · have hf := ift hf c41
                      cases hf
                      exact hx4_0 _ hq _ _ _ hP hD hS (lv_sub hl [0, 1, 2, 3, 4] rfl)
                    · have hf := iff_ hf c41
                      obtain ⟨v42, ev42⟩ : ∃ y : Int32, y = u34 + 1 := ⟨_, rfl⟩
                      have hf := bv_at ev42 hf
                      refine lv_iinc (v := v42) (lv' := [(3, .int v42), (0, .ref t_h), (1, .int x1), (2, .int u30), (4, .int u32)]) hx hb dX10_order_176 hl (k := 3) rfl (by rw [ev42]; rfl) (by decide) rfl (fun ls hl => ?_)
                      refine lv_goto (tgt := 141) hx hb dX10_order_179 (by decide) ?_
                      cases hf
                      exact ih _ hq _ _ _ hP hD hS (lv_sub hl [1, 2, 3, 0, 4] rfl)
              exact hl4 _ _ ht4 _ _ _ hP hD hS (lv_sub hl [1, 2, 3, 0, 4] rfl)
        exact hl3 _ _ _ _ ht3 _ _ _ hP hD hS (lv_sub hl [3, 4, 2, 1, 0] rfl)
      · have hf := ift hf c29
        refine lv_aload_n hx hb dX10_order_114 rfl (lv_at hl 0 rfl) ?_
        refine va_get (D := G) (ci := 10) (v := .int t_notes) (C := RX10) (T := TX10) (N := 36) hx hb hts iwX10 hown hK hP 0 rfl rfl 33 (by decide) fl_203 (fun _ h9 => h9) rfl dX10_order_115 ?_
        refine lv_aload_n hx hb dX10_order_118 rfl (lv_at hl 0 rfl) ?_
        refine va_get (D := G) (ci := 10) (v := .ref t_agreed_h) (C := RX10) (T := TX10) (N := 36) hx hb hts iwX10 hown hK hP 0 rfl rfl 35 (by decide) fl_55 (fun _ h9 => h9) rfl dX10_order_119 ?_
        refine lv_iconst (v := 0) hx hb dX10_order_122 (by decide) ?_
        obtain ⟨h47, hf⟩ := gd_some hf
        refine va_iald hx hb hK hP 2 0 rfl rfl (bnd_in h47) dX10_order_123 ?_
        refine lv_isub hx hb dX10_order_124 ?_
        exact hret (t_notes - (x28 (Int32.toNatClampNeg 0))) x28 125 _ _ _ dX10_order_125 hf hP hD hS
    clear hf
    have hl1 : ∀ (n : Nat) (u6 : Int32) (u7 : Nat → Int32), it (fX10_order_L1 t_notes t_under_a) n (u6, u7) = some x28 → ∀ (H : Heap) (locs : List Loc) (ls : Array Slot), va_P G vwCl [(t_h, .inr (10, [.int t_baseWay, .int t_slip, .int t_low, .int t_high, .int t_unlike, .int t_alone, .long t_above, .long t_below, .ref t_edges_h, .ref t_lean_h, .ref t_word_h, .int t_layers, .ref t_layer_h, .ref t_least_h, .int t_sights, .ref t_sight_h, .int t_shadows, .ref t_shadow_h, .long t_endAbove, .long t_endBelow, .long t_speedAbove, .long t_speedBelow, .int t_spans, .ref t_spanLow_h, .ref t_spanHigh_h, .ref t_spanAt_h, .int t_found, .ref t_numbers_h, .int t_pairs, .ref t_pair_h, .ref t_most_h, .int t_rows, .ref t_row_h, .int t_notes, .ref t_under_h, .ref t_agreed_h])), (t_under_h, .inl (cI, 200, .inl t_under_a)), (t_agreed_h, .inl (cI, 256, .inl u7))] H → va_D A [(t_h, .inr (10, [.int t_baseWay, .int t_slip, .int t_low, .int t_high, .int t_unlike, .int t_alone, .long t_above, .long t_below, .ref t_edges_h, .ref t_lean_h, .ref t_word_h, .int t_layers, .ref t_layer_h, .ref t_least_h, .int t_sights, .ref t_sight_h, .int t_shadows, .ref t_shadow_h, .long t_endAbove, .long t_endBelow, .long t_speedAbove, .long t_speedBelow, .int t_spans, .ref t_spanLow_h, .ref t_spanHigh_h, .ref t_spanAt_h, .int t_found, .ref t_numbers_h, .int t_pairs, .ref t_pair_h, .ref t_most_h, .int t_rows, .ref t_row_h, .int t_notes, .ref t_under_h, .ref t_agreed_h])), (t_under_h, .inl (cI, 200, .inl t_under_a)), (t_agreed_h, .inl (cI, 256, .inl u7))] → va_S A s.heap H locs → lv_has ls 6 [(0, .ref t_h), (1, .int x1), (2, .int u6)] → W p l e rmX10_order s m args below meth c H locs 0 0 Q (F0 m 26 ls []) := by
      intro n
      induction n with
      | zero => intro u6 u7 hz; exact (it_zero hz).elim
      | succ n ih =>
        intro u6 u7 hz H locs ls hP hD hS hl
        obtain ⟨x9, hf, hq⟩ := it_succ hz
        unfold fX10_order_L1 at hf
        dsimp only [un2] at hf
        refine lv_iload_n hx hb dX10_order_26 rfl (lv_at hl 2 rfl) ?_
        refine lv_if_lt (tgt := 108) hx hb dX10_order_27 (by decide) (fun c8 => ?_) (fun c8 => ?_)
        · have hf := ift hf c8
          cases hf
          exact hx1_0 _ hq _ _ _ hP hD hS (lv_sub hl [0, 1] rfl)
        · have hf := iff_ hf c8
          refine lv_iconst (v := 0) hx hb dX10_order_30 (by decide) ?_
          refine lv_istore_n (lv' := [(3, .int 0), (0, .ref t_h), (1, .int x1), (2, .int u6)]) hx hb dX10_order_31 rfl hl (by decide) rfl (fun ls hl => ?_)
          refine lv_iconst (v := 0) hx hb dX10_order_32 (by decide) ?_
          refine lv_istore (lv' := [(4, .int 0), (3, .int 0), (0, .ref t_h), (1, .int x1), (2, .int u6)]) hx hb dX10_order_33 hl (by decide) rfl (fun ls hl => ?_)
          obtain ⟨x24, ht2, hf⟩ := ob_some hf
          have hx2_0 : ∀ (x249 : Int32), x249 = x24 → ∀ (H : Heap) (locs : List Loc) (ls : Array Slot), va_P G vwCl [(t_h, .inr (10, [.int t_baseWay, .int t_slip, .int t_low, .int t_high, .int t_unlike, .int t_alone, .long t_above, .long t_below, .ref t_edges_h, .ref t_lean_h, .ref t_word_h, .int t_layers, .ref t_layer_h, .ref t_least_h, .int t_sights, .ref t_sight_h, .int t_shadows, .ref t_shadow_h, .long t_endAbove, .long t_endBelow, .long t_speedAbove, .long t_speedBelow, .int t_spans, .ref t_spanLow_h, .ref t_spanHigh_h, .ref t_spanAt_h, .int t_found, .ref t_numbers_h, .int t_pairs, .ref t_pair_h, .ref t_most_h, .int t_rows, .ref t_row_h, .int t_notes, .ref t_under_h, .ref t_agreed_h])), (t_under_h, .inl (cI, 200, .inl t_under_a)), (t_agreed_h, .inl (cI, 256, .inl u7))] H → va_D A [(t_h, .inr (10, [.int t_baseWay, .int t_slip, .int t_low, .int t_high, .int t_unlike, .int t_alone, .long t_above, .long t_below, .ref t_edges_h, .ref t_lean_h, .ref t_word_h, .int t_layers, .ref t_layer_h, .ref t_least_h, .int t_sights, .ref t_sight_h, .int t_shadows, .ref t_shadow_h, .long t_endAbove, .long t_endBelow, .long t_speedAbove, .long t_speedBelow, .int t_spans, .ref t_spanLow_h, .ref t_spanHigh_h, .ref t_spanAt_h, .int t_found, .ref t_numbers_h, .int t_pairs, .ref t_pair_h, .ref t_most_h, .int t_rows, .ref t_row_h, .int t_notes, .ref t_under_h, .ref t_agreed_h])), (t_under_h, .inl (cI, 200, .inl t_under_a)), (t_agreed_h, .inl (cI, 256, .inl u7))] → va_S A s.heap H locs → lv_has ls 6 [(0, .ref t_h), (1, .int x1), (2, .int u6), (3, .int x249)] → W p l e rmX10_order s m args below meth c H locs 0 0 Q (F0 m 95 ls []) := by
            intro x249 he H locs ls hP hD hS hl
            cases he
            refine lv_aload_n hx hb dX10_order_95 rfl (lv_at hl 0 rfl) ?_
            refine va_get (D := G) (ci := 10) (v := .ref t_agreed_h) (C := RX10) (T := TX10) (N := 36) hx hb hts iwX10 hown hK hP 0 rfl rfl 35 (by decide) fl_55 (fun _ h9 => h9) rfl dX10_order_96 ?_
            refine lv_iload_n hx hb dX10_order_99 rfl (lv_at hl 2 rfl) ?_
            refine lv_iload_n hx hb dX10_order_100 rfl (lv_at hl 3 rfl) ?_
            obtain ⟨h25, hf⟩ := gd_some hf
            obtain ⟨a26, ea26⟩ : ∃ y : Nat → Int32, y = upd u7 (Int32.toNatClampNeg u6) x24 := ⟨_, rfl⟩
            have hf := bv_at ea26 hf
            refine va_iast hx hb hK hP hD hS 2 0 rfl rfl (bnd_in h25) dX10_order_101 (fun H locs hP hD hS => ?_)
            have hP : va_P G vwCl [(t_h, .inr (10, [.int t_baseWay, .int t_slip, .int t_low, .int t_high, .int t_unlike, .int t_alone, .long t_above, .long t_below, .ref t_edges_h, .ref t_lean_h, .ref t_word_h, .int t_layers, .ref t_layer_h, .ref t_least_h, .int t_sights, .ref t_sight_h, .int t_shadows, .ref t_shadow_h, .long t_endAbove, .long t_endBelow, .long t_speedAbove, .long t_speedBelow, .int t_spans, .ref t_spanLow_h, .ref t_spanHigh_h, .ref t_spanAt_h, .int t_found, .ref t_numbers_h, .int t_pairs, .ref t_pair_h, .ref t_most_h, .int t_rows, .ref t_row_h, .int t_notes, .ref t_under_h, .ref t_agreed_h])), (t_under_h, .inl (cI, 200, .inl t_under_a)), (t_agreed_h, .inl (cI, 256, .inl a26))] H := by rw [ea26]; exact hP
            have hD : va_D A [(t_h, .inr (10, [.int t_baseWay, .int t_slip, .int t_low, .int t_high, .int t_unlike, .int t_alone, .long t_above, .long t_below, .ref t_edges_h, .ref t_lean_h, .ref t_word_h, .int t_layers, .ref t_layer_h, .ref t_least_h, .int t_sights, .ref t_sight_h, .int t_shadows, .ref t_shadow_h, .long t_endAbove, .long t_endBelow, .long t_speedAbove, .long t_speedBelow, .int t_spans, .ref t_spanLow_h, .ref t_spanHigh_h, .ref t_spanAt_h, .int t_found, .ref t_numbers_h, .int t_pairs, .ref t_pair_h, .ref t_most_h, .int t_rows, .ref t_row_h, .int t_notes, .ref t_under_h, .ref t_agreed_h])), (t_under_h, .inl (cI, 200, .inl t_under_a)), (t_agreed_h, .inl (cI, 256, .inl a26))] := by rw [ea26]; exact hD
            obtain ⟨v27, ev27⟩ : ∃ y : Int32, y = u6 + (-1) := ⟨_, rfl⟩
            have hf := bv_at ev27 hf
            refine lv_iinc (v := v27) (lv' := [(2, .int v27), (0, .ref t_h), (1, .int x1), (3, .int x24)]) hx hb dX10_order_102 hl (k := 2) rfl (by rw [ev27]; rfl) (by decide) rfl (fun ls hl => ?_)
            refine lv_goto (tgt := 26) hx hb dX10_order_105 (by decide) ?_
            cases hf
            exact ih _ _ hq _ _ _ hP hD hS (lv_sub hl [1, 2, 0] rfl)
          clear hf
          have hl2 : ∀ (n : Nat) (u9 : Int32) (u10 : Int32), it (fX10_order_L2 u6 t_notes t_under_a u7) n (u9, u10) = some x24 → ∀ (H : Heap) (locs : List Loc) (ls : Array Slot), va_P G vwCl [(t_h, .inr (10, [.int t_baseWay, .int t_slip, .int t_low, .int t_high, .int t_unlike, .int t_alone, .long t_above, .long t_below, .ref t_edges_h, .ref t_lean_h, .ref t_word_h, .int t_layers, .ref t_layer_h, .ref t_least_h, .int t_sights, .ref t_sight_h, .int t_shadows, .ref t_shadow_h, .long t_endAbove, .long t_endBelow, .long t_speedAbove, .long t_speedBelow, .int t_spans, .ref t_spanLow_h, .ref t_spanHigh_h, .ref t_spanAt_h, .int t_found, .ref t_numbers_h, .int t_pairs, .ref t_pair_h, .ref t_most_h, .int t_rows, .ref t_row_h, .int t_notes, .ref t_under_h, .ref t_agreed_h])), (t_under_h, .inl (cI, 200, .inl t_under_a)), (t_agreed_h, .inl (cI, 256, .inl u7))] H → va_D A [(t_h, .inr (10, [.int t_baseWay, .int t_slip, .int t_low, .int t_high, .int t_unlike, .int t_alone, .long t_above, .long t_below, .ref t_edges_h, .ref t_lean_h, .ref t_word_h, .int t_layers, .ref t_layer_h, .ref t_least_h, .int t_sights, .ref t_sight_h, .int t_shadows, .ref t_shadow_h, .long t_endAbove, .long t_endBelow, .long t_speedAbove, .long t_speedBelow, .int t_spans, .ref t_spanLow_h, .ref t_spanHigh_h, .ref t_spanAt_h, .int t_found, .ref t_numbers_h, .int t_pairs, .ref t_pair_h, .ref t_most_h, .int t_rows, .ref t_row_h, .int t_notes, .ref t_under_h, .ref t_agreed_h])), (t_under_h, .inl (cI, 200, .inl t_under_a)), (t_agreed_h, .inl (cI, 256, .inl u7))] → va_S A s.heap H locs → lv_has ls 6 [(0, .ref t_h), (1, .int x1), (2, .int u6), (3, .int u9), (4, .int u10)] → W p l e rmX10_order s m args below meth c H locs 0 0 Q (F0 m 35 ls []) := by
            intro n
            induction n with
            | zero => intro u9 u10 hz; exact (it_zero hz).elim
            | succ n ih =>
              intro u9 u10 hz H locs ls hP hD hS hl
              obtain ⟨x9, hf, hq⟩ := it_succ hz
              unfold fX10_order_L2 at hf
              dsimp only [un2] at hf
              refine lv_iload hx hb dX10_order_35 (lv_at hl 4 rfl) ?_
              refine lv_bipush (v := 8) hx hb dX10_order_37 (by decide) ?_
              refine lv_icmp_ge (tgt := 95) hx hb dX10_order_39 (by decide) (fun c11 => ?_) (fun c11 => ?_)
              · have hf := ift hf c11
                cases hf
                exact hx2_0 _ hq _ _ _ hP hD hS (lv_sub hl [0, 1, 2, 3] rfl)
              · have hf := iff_ hf c11
                refine lv_iload_n hx hb dX10_order_42 rfl (lv_at hl 2 rfl) ?_
                refine lv_iload hx hb dX10_order_43 (lv_at hl 4 rfl) ?_
                refine lv_ishr hx hb dX10_order_45 ?_
                refine lv_iconst (v := 1) hx hb dX10_order_46 (by decide) ?_
                refine lv_iand hx hb dX10_order_47 ?_
                obtain ⟨m12, hr13, hf⟩ := ob_some hf
                have hj14 : ∀ (m129 : Int32), some m129 = some m12 → ∀ (H : Heap) (locs : List Loc) (ls : Array Slot), va_P G vwCl [(t_h, .inr (10, [.int t_baseWay, .int t_slip, .int t_low, .int t_high, .int t_unlike, .int t_alone, .long t_above, .long t_below, .ref t_edges_h, .ref t_lean_h, .ref t_word_h, .int t_layers, .ref t_layer_h, .ref t_least_h, .int t_sights, .ref t_sight_h, .int t_shadows, .ref t_shadow_h, .long t_endAbove, .long t_endBelow, .long t_speedAbove, .long t_speedBelow, .int t_spans, .ref t_spanLow_h, .ref t_spanHigh_h, .ref t_spanAt_h, .int t_found, .ref t_numbers_h, .int t_pairs, .ref t_pair_h, .ref t_most_h, .int t_rows, .ref t_row_h, .int t_notes, .ref t_under_h, .ref t_agreed_h])), (t_under_h, .inl (cI, 200, .inl t_under_a)), (t_agreed_h, .inl (cI, 256, .inl u7))] H → va_D A [(t_h, .inr (10, [.int t_baseWay, .int t_slip, .int t_low, .int t_high, .int t_unlike, .int t_alone, .long t_above, .long t_below, .ref t_edges_h, .ref t_lean_h, .ref t_word_h, .int t_layers, .ref t_layer_h, .ref t_least_h, .int t_sights, .ref t_sight_h, .int t_shadows, .ref t_shadow_h, .long t_endAbove, .long t_endBelow, .long t_speedAbove, .long t_speedBelow, .int t_spans, .ref t_spanLow_h, .ref t_spanHigh_h, .ref t_spanAt_h, .int t_found, .ref t_numbers_h, .int t_pairs, .ref t_pair_h, .ref t_most_h, .int t_rows, .ref t_row_h, .int t_notes, .ref t_under_h, .ref t_agreed_h])), (t_under_h, .inl (cI, 200, .inl t_under_a)), (t_agreed_h, .inl (cI, 256, .inl u7))] → va_S A s.heap H locs → lv_has ls 6 [(0, .ref t_h), (1, .int x1), (2, .int u6), (3, .int u9), (4, .int u10)] → W p l e rmX10_order s m args below meth c H locs 0 0 Q (F0 m 74 ls [.int m129]) := by
                  intro m129 he H locs ls hP hD hS hl
                  cases he
                  refine lv_istore (lv' := [(5, .int m12), (0, .ref t_h), (1, .int x1), (2, .int u6), (3, .int u9), (4, .int u10)]) hx hb dX10_order_74 hl (by decide) rfl (fun ls hl => ?_)
                  refine lv_iload hx hb dX10_order_76 (lv_at hl 0 rfl) ?_
                  refine lv_iload_n hx hb dX10_order_78 rfl (lv_at hl 4 rfl) ?_
                  obtain ⟨m19, hr20, hf⟩ := ob_some hf
                  have hj21 : ∀ (m199 : Int32), some m199 = some m19 → ∀ (H : Heap) (locs : List Loc) (ls : Array Slot), va_P G vwCl [(t_h, .inr (10, [.int t_baseWay, .int t_slip, .int t_low, .int t_high, .int t_unlike, .int t_alone, .long t_above, .long t_below, .ref t_edges_h, .ref t_lean_h, .ref t_word_h, .int t_layers, .ref t_layer_h, .ref t_least_h, .int t_sights, .ref t_sight_h, .int t_shadows, .ref t_shadow_h, .long t_endAbove, .long t_endBelow, .long t_speedAbove, .long t_speedBelow, .int t_spans, .ref t_spanLow_h, .ref t_spanHigh_h, .ref t_spanAt_h, .int t_found, .ref t_numbers_h, .int t_pairs, .ref t_pair_h, .ref t_most_h, .int t_rows, .ref t_row_h, .int t_notes, .ref t_under_h, .ref t_agreed_h])), (t_under_h, .inl (cI, 200, .inl t_under_a)), (t_agreed_h, .inl (cI, 256, .inl u7))] H → va_D A [(t_h, .inr (10, [.int t_baseWay, .int t_slip, .int t_low, .int t_high, .int t_unlike, .int t_alone, .long t_above, .long t_below, .ref t_edges_h, .ref t_lean_h, .ref t_word_h, .int t_layers, .ref t_layer_h, .ref t_least_h, .int t_sights, .ref t_sight_h, .int t_shadows, .ref t_shadow_h, .long t_endAbove, .long t_endBelow, .long t_speedAbove, .long t_speedBelow, .int t_spans, .ref t_spanLow_h, .ref t_spanHigh_h, .ref t_spanAt_h, .int t_found, .ref t_numbers_h, .int t_pairs, .ref t_pair_h, .ref t_most_h, .int t_rows, .ref t_row_h, .int t_notes, .ref t_under_h, .ref t_agreed_h])), (t_under_h, .inl (cI, 200, .inl t_under_a)), (t_agreed_h, .inl (cI, 256, .inl u7))] → va_S A s.heap H locs → lv_has ls 6 [(0, .ref t_h), (1, .int x1), (2, .int u6), (4, .int u10)] → W p l e rmX10_order s m args below meth c H locs 0 0 Q (F0 m 88 ls [.int m199]) := by
                    intro m199 he H locs ls hP hD hS hl
                    cases he
                    refine lv_istore_n (lv' := [(3, .int m19), (0, .ref t_h), (1, .int x1), (2, .int u6), (4, .int u10)]) hx hb dX10_order_88 rfl hl (by decide) rfl (fun ls hl => ?_)
                    obtain ⟨v23, ev23⟩ : ∃ y : Int32, y = u10 + 1 := ⟨_, rfl⟩
                    have hf := bv_at ev23 hf
                    refine lv_iinc (v := v23) (lv' := [(4, .int v23), (3, .int m19), (0, .ref t_h), (1, .int x1), (2, .int u6)]) hx hb dX10_order_89 hl (k := 4) rfl (by rw [ev23]; rfl) (by decide) rfl (fun ls hl => ?_)
                    refine lv_goto (tgt := 35) hx hb dX10_order_92 (by decide) ?_
                    cases hf
                    exact ih _ _ hq _ _ _ hP hD hS (lv_sub hl [2, 3, 4, 1, 0] rfl)
                  replace hf := hr20
                  refine lv_icmp_le (tgt := 87) hx hb dX10_order_79 (by decide) (fun c22 => ?_) (fun c22 => ?_)
                  · have hf := ift hf c22
                    refine lv_iload_n hx hb dX10_order_87 rfl (lv_at hl 4 rfl) ?_
                    exact hj21 _ hf _ _ _ hP hD hS (lv_sub hl [1, 2, 3, 5] rfl)
                  · have hf := iff_ hf c22
                    refine lv_iload hx hb dX10_order_82 (lv_at hl 0 rfl) ?_
                    refine lv_goto (tgt := 88) hx hb dX10_order_84 (by decide) ?_
                    exact hj21 _ hf _ _ _ hP hD hS (lv_sub hl [1, 2, 3, 5] rfl)
                replace hf := hr13
                refine lv_if_ne (tgt := 73) hx hb dX10_order_48 (by decide) (fun c15 => ?_) (fun c15 => ?_)
                · have hf := iff_ hf c15
                  refine lv_iconst (v := 0) hx hb dX10_order_73 (by decide) ?_
                  exact hj14 _ hf _ _ _ hP hD hS (lv_sub hl [0, 1, 2, 3, 4] rfl)
                · have hf := ift hf c15
                  refine lv_aload_n hx hb dX10_order_51 rfl (lv_at hl 0 rfl) ?_
                  refine lv_iload hx hb dX10_order_52 (lv_at hl 4 rfl) ?_
                  refine lv_iload_n hx hb dX10_order_54 rfl (lv_at hl 2 rfl) ?_
                  obtain ⟨r16, hc17, hf⟩ := ob_some hf
                  refine af_iR (va_runV (As := [.int u10, .int u6]) (rest := []) ⟨hx, hb, hml, hown, hts⟩ (k_X10_gain l G cI cJ (t_h := t_h) (t_edges_h := t_edges_h) (t_lean_h := t_lean_h) (t_word_h := t_word_h) (t_layer_h := t_layer_h) (t_least_h := t_least_h) (t_sight_h := t_sight_h) (t_shadow_h := t_shadow_h) (t_spanLow_h := t_spanLow_h) (t_spanHigh_h := t_spanHigh_h) (t_spanAt_h := t_spanAt_h) (t_numbers_h := t_numbers_h) (t_pair_h := t_pair_h) (t_most_h := t_most_h) (t_row_h := t_row_h) (t_under_h := t_under_h) (t_agreed_h := t_agreed_h) (t_baseWay := t_baseWay) (t_slip := t_slip) (t_low := t_low) (t_high := t_high) (t_unlike := t_unlike) (t_alone := t_alone) (t_above := t_above) (t_below := t_below) (t_layers := t_layers) (t_sights := t_sights) (t_shadows := t_shadows) (t_endAbove := t_endAbove) (t_endBelow := t_endBelow) (t_speedAbove := t_speedAbove) (t_speedBelow := t_speedBelow) (t_spans := t_spans) (t_found := t_found) (t_pairs := t_pairs) (t_rows := t_rows) (t_notes := t_notes) (t_under_a := t_under_a) (x1 := u10) (x2 := u6) (sz := _) (hf := hc17)) (cwV 2 hts gX10_order_X10_gain rfl rfl rfl (by decide +kernel) ⟨Nat.le_of_ble_eq_true rfl, Nat.le_of_ble_eq_true rfl⟩) (preV0 (ci := 10) (q0 := 0) (C := RX10) (wc := [(t_h, .inr (10, [.int t_baseWay, .int t_slip, .int t_low, .int t_high, .int t_unlike, .int t_alone, .long t_above, .long t_below, .ref t_edges_h, .ref t_lean_h, .ref t_word_h, .int t_layers, .ref t_layer_h, .ref t_least_h, .int t_sights, .ref t_sight_h, .int t_shadows, .ref t_shadow_h, .long t_endAbove, .long t_endBelow, .long t_speedAbove, .long t_speedBelow, .int t_spans, .ref t_spanLow_h, .ref t_spanHigh_h, .ref t_spanAt_h, .int t_found, .ref t_numbers_h, .int t_pairs, .ref t_pair_h, .ref t_most_h, .int t_rows, .ref t_row_h, .int t_notes, .ref t_under_h, .ref t_agreed_h])), (t_under_h, .inl (cI, 200, .inl t_under_a))]) hK hP hD hN [0, 1] rfl rfl (by decide) rfl rfl) rfl rfl hl.1 rfl (lv_room (Nat.le_of_ble_eq_true rfl)) dX10_order_55 ⟨Nat.zero_le _, Nat.zero_le _⟩) hP hD hS hA [0, 1] rfl (fun H locs hP hS => ?_)
                  refine lv_aload_n hx hb dX10_order_58 rfl (lv_at hl 0 rfl) ?_
                  refine va_get (D := G) (ci := 10) (v := .ref t_agreed_h) (C := RX10) (T := TX10) (N := 36) hx hb hts iwX10 hown hK hP 0 rfl rfl 35 (by decide) fl_55 (fun _ h9 => h9) rfl dX10_order_59 ?_
                  refine lv_iload_n hx hb dX10_order_62 rfl (lv_at hl 2 rfl) ?_
                  refine lv_iconst (v := 1) hx hb dX10_order_63 (by decide) ?_
                  refine lv_iload hx hb dX10_order_64 (lv_at hl 4 rfl) ?_
                  refine lv_ishl hx hb dX10_order_66 ?_
                  refine lv_ior hx hb dX10_order_67 ?_
                  obtain ⟨h18, hf⟩ := gd_some hf
                  refine va_iald hx hb hK hP 2 0 rfl rfl (bnd_in h18) dX10_order_68 ?_
                  refine lv_iadd hx hb dX10_order_69 ?_
                  refine lv_goto (tgt := 74) hx hb dX10_order_70 (by decide) ?_
                  exact hj14 _ hf _ _ _ hP hD hS (lv_sub hl [0, 1, 2, 3, 4] rfl)
          exact hl2 _ _ _ ht2 _ _ _ hP hD hS (lv_sub hl [2, 3, 4, 1, 0] rfl)
    exact hl1 _ _ _ ht1 _ _ _ hP hD hS (lv_sub hl [1, 2, 0] rfl)
  · have hf := ift hf c3
    refine lv_bipush (v := (-2)) hx hb dX10_order_10 (by decide) ?_
    exact hret (-2) t_agreed_a 12 _ _ _ dX10_order_12 hf hP hD hS
theorem dX10_countOf_0 : decode cX10_countOf 0 = .ok (.iload_n 1, 1) := by decide +kernel
theorem dX10_countOf_1 : decode cX10_countOf 1 = .ok (.tableswitch 91 0 7 #[47, 54, 61, 66, 71, 76, 81, 86], 47) := by decide +kernel
theorem dX10_countOf_48 : decode cX10_countOf 48 = .ok (.aload_n 0, 1) := by decide +kernel
theorem dX10_countOf_49 : decode cX10_countOf 49 = .ok (.getfield 7, 3) := by decide +kernel
theorem dX10_countOf_52 : decode cX10_countOf 52 = .ok (.iconst 0, 1) := by decide +kernel
theorem dX10_countOf_53 : decode cX10_countOf 53 = .ok (.iaload, 1) := by decide +kernel
theorem dX10_countOf_54 : decode cX10_countOf 54 = .ok (.ireturn, 1) := by decide +kernel
theorem dX10_countOf_55 : decode cX10_countOf 55 = .ok (.aload_n 0, 1) := by decide +kernel
theorem dX10_countOf_56 : decode cX10_countOf 56 = .ok (.getfield 7, 3) := by decide +kernel
theorem dX10_countOf_59 : decode cX10_countOf 59 = .ok (.iconst 1, 1) := by decide +kernel
theorem dX10_countOf_60 : decode cX10_countOf 60 = .ok (.iaload, 1) := by decide +kernel
theorem dX10_countOf_61 : decode cX10_countOf 61 = .ok (.ireturn, 1) := by decide +kernel
theorem dX10_countOf_62 : decode cX10_countOf 62 = .ok (.aload_n 0, 1) := by decide +kernel
theorem dX10_countOf_63 : decode cX10_countOf 63 = .ok (.getfield 105, 3) := by decide +kernel
theorem dX10_countOf_66 : decode cX10_countOf 66 = .ok (.ireturn, 1) := by decide +kernel
theorem dX10_countOf_67 : decode cX10_countOf 67 = .ok (.aload_n 0, 1) := by decide +kernel
theorem dX10_countOf_68 : decode cX10_countOf 68 = .ok (.getfield 119, 3) := by decide +kernel
theorem dX10_countOf_71 : decode cX10_countOf 71 = .ok (.ireturn, 1) := by decide +kernel
theorem dX10_countOf_72 : decode cX10_countOf 72 = .ok (.aload_n 0, 1) := by decide +kernel
theorem dX10_countOf_73 : decode cX10_countOf 73 = .ok (.getfield 124, 3) := by decide +kernel
theorem dX10_countOf_76 : decode cX10_countOf 76 = .ok (.ireturn, 1) := by decide +kernel
theorem dX10_countOf_77 : decode cX10_countOf 77 = .ok (.aload_n 0, 1) := by decide +kernel
theorem dX10_countOf_78 : decode cX10_countOf 78 = .ok (.getfield 165, 3) := by decide +kernel
theorem dX10_countOf_81 : decode cX10_countOf 81 = .ok (.ireturn, 1) := by decide +kernel
theorem dX10_countOf_82 : decode cX10_countOf 82 = .ok (.aload_n 0, 1) := by decide +kernel
theorem dX10_countOf_83 : decode cX10_countOf 83 = .ok (.getfield 176, 3) := by decide +kernel
theorem dX10_countOf_86 : decode cX10_countOf 86 = .ok (.ireturn, 1) := by decide +kernel
theorem dX10_countOf_87 : decode cX10_countOf 87 = .ok (.aload_n 0, 1) := by decide +kernel
theorem dX10_countOf_88 : decode cX10_countOf 88 = .ok (.getfield 196, 3) := by decide +kernel
theorem dX10_countOf_91 : decode cX10_countOf 91 = .ok (.ireturn, 1) := by decide +kernel
theorem dX10_countOf_92 : decode cX10_countOf 92 = .ok (.aload_n 0, 1) := by decide +kernel
theorem dX10_countOf_93 : decode cX10_countOf 93 = .ok (.getfield 203, 3) := by decide +kernel
theorem dX10_countOf_96 : decode cX10_countOf 96 = .ok (.ireturn, 1) := by decide +kernel
set_option maxRecDepth 100000 in
def fX10_countOf (x1 : Int32) (t_layers : Int32) (t_sights : Int32) (t_shadows : Int32) (t_spans : Int32) (t_pairs : Int32) (t_rows : Int32) (t_notes : Int32) (t_edges_a : Nat → Int32) : Option (Int32) :=
  if x1 = 0 then
    gd (bnd 0 2) <|
    some (t_edges_a (Int32.toNatClampNeg 0))
  else
  if x1 = 1 then
    gd (bnd 1 2) <|
    some (t_edges_a (Int32.toNatClampNeg 1))
  else
  if x1 = 2 then
    some t_layers
  else
  if x1 = 3 then
    some t_sights
  else
  if x1 = 4 then
    some t_shadows
  else
  if x1 = 5 then
    some t_spans
  else
  if x1 = 6 then
    some t_pairs
  else
  if x1 = 7 then
    some t_rows
  else
  some t_notes
abbrev rmX10_countOf : Room := { frames := 0, cells := 0, slots := 0, locals := 0 }
theorem iwX10_countOf_X10 : ∀ w ∈ u_ws RX10 TX10 36, w ∈ wsX10_countOf := by decide +kernel
set_option maxHeartbeats 4000000 in
set_option maxRecDepth 100000 in
theorem k_X10_countOf (l : Launch) (G : va_G) (cI cJ : ClassId) (t_h t_edges_h t_lean_h t_word_h t_layer_h t_least_h t_sight_h t_shadow_h t_spanLow_h t_spanHigh_h t_spanAt_h t_numbers_h t_pair_h t_most_h t_row_h t_under_h t_agreed_h : Nat) (sz : Nat) (t_baseWay : Int32) (t_slip : Int32) (t_low : Int32) (t_high : Int32) (t_unlike : Int32) (t_alone : Int32) (t_above : Int64) (t_below : Int64) (t_layers : Int32) (t_sights : Int32) (t_shadows : Int32) (t_endAbove : Int64) (t_endBelow : Int64) (t_speedAbove : Int64) (t_speedBelow : Int64) (t_spans : Int32) (t_found : Int32) (t_pairs : Int32) (t_rows : Int32) (t_notes : Int32) (t_edges_a : Nat → Int32) (x1 : Int32) {o_r : Int32} (hf : fX10_countOf x1 t_layers t_sights t_shadows t_spans t_pairs t_rows t_notes t_edges_a = some o_r) : MetI l yX10_countOf wsX10_countOf rmX10_countOf [.ref t_h, .int x1] G cI cJ [(t_h, .inr (10, [.int t_baseWay, .int t_slip, .int t_low, .int t_high, .int t_unlike, .int t_alone, .long t_above, .long t_below, .ref t_edges_h, .ref t_lean_h, .ref t_word_h, .int t_layers, .ref t_layer_h, .ref t_least_h, .int t_sights, .ref t_sight_h, .int t_shadows, .ref t_shadow_h, .long t_endAbove, .long t_endBelow, .long t_speedAbove, .long t_speedBelow, .int t_spans, .ref t_spanLow_h, .ref t_spanHigh_h, .ref t_spanAt_h, .int t_found, .ref t_numbers_h, .int t_pairs, .ref t_pair_h, .ref t_most_h, .int t_rows, .ref t_row_h, .int t_notes, .ref t_under_h, .ref t_agreed_h])), (t_edges_h, .inl (cI, 2, .inl t_edges_a))] [(t_h, .inr (10, [.int t_baseWay, .int t_slip, .int t_low, .int t_high, .int t_unlike, .int t_alone, .long t_above, .long t_below, .ref t_edges_h, .ref t_lean_h, .ref t_word_h, .int t_layers, .ref t_layer_h, .ref t_least_h, .int t_sights, .ref t_sight_h, .int t_shadows, .ref t_shadow_h, .long t_endAbove, .long t_endBelow, .long t_speedAbove, .long t_speedBelow, .int t_spans, .ref t_spanLow_h, .ref t_spanHigh_h, .ref t_spanAt_h, .int t_found, .ref t_numbers_h, .int t_pairs, .ref t_pair_h, .ref t_most_h, .int t_rows, .ref t_row_h, .int t_notes, .ref t_under_h, .ref t_agreed_h])), (t_edges_h, .inl (cI, 2, .inl t_edges_a))] sz o_r := by
  refine en_0 (l := l) (y := yX10_countOf) (wsl := wsX10_countOf) (rm := rmX10_countOf) (av := [.ref t_h, .int x1]) (G := G) (cI := cI) (cJ := cJ) (w0 := [(t_h, .inr (10, [.int t_baseWay, .int t_slip, .int t_low, .int t_high, .int t_unlike, .int t_alone, .long t_above, .long t_below, .ref t_edges_h, .ref t_lean_h, .ref t_word_h, .int t_layers, .ref t_layer_h, .ref t_least_h, .int t_sights, .ref t_sight_h, .int t_shadows, .ref t_shadow_h, .long t_endAbove, .long t_endBelow, .long t_speedAbove, .long t_speedBelow, .int t_spans, .ref t_spanLow_h, .ref t_spanHigh_h, .ref t_spanAt_h, .int t_found, .ref t_numbers_h, .int t_pairs, .ref t_pair_h, .ref t_most_h, .int t_rows, .ref t_row_h, .int t_notes, .ref t_under_h, .ref t_agreed_h])), (t_edges_h, .inl (cI, 2, .inl t_edges_a))]) (sz := sz) (Qf := fun A => Qi0 G cI cJ [(t_h, .inr (10, [.int t_baseWay, .int t_slip, .int t_low, .int t_high, .int t_unlike, .int t_alone, .long t_above, .long t_below, .ref t_edges_h, .ref t_lean_h, .ref t_word_h, .int t_layers, .ref t_layer_h, .ref t_least_h, .int t_sights, .ref t_sight_h, .int t_shadows, .ref t_shadow_h, .long t_endAbove, .long t_endBelow, .long t_speedAbove, .long t_speedBelow, .int t_spans, .ref t_spanLow_h, .ref t_spanHigh_h, .ref t_spanAt_h, .int t_found, .ref t_numbers_h, .int t_pairs, .ref t_pair_h, .ref t_most_h, .int t_rows, .ref t_row_h, .int t_notes, .ref t_under_h, .ref t_agreed_h])), (t_edges_h, .inl (cI, 2, .inl t_edges_a))] o_r A) (cc := cX10_countOf) (maxL := 2) (ret := (some .int)) RX10 (by decide +kernel) rfl rfl (Nat.le_of_ble_eq_true rfl) ?_
  intro p e s m args below meth c A ls Q hQ hx hb hr hts hown hlocks hml hN hK hP hD hS hA hl
  have hl : lv_has ls 2 [(0, .ref t_h), (1, .int x1)] := hl
  have iwX10 := iwX10_countOf_X10
  have fl_7 := hts (.fieldLink RX10 7 "CloudOfficeModel" "edges" "[I") (by decide +kernel)
  have fl_105 := hts (.fieldLink RX10 105 "CloudOfficeModel" "layers" "I") (by decide +kernel)
  have fl_119 := hts (.fieldLink RX10 119 "CloudOfficeModel" "sights" "I") (by decide +kernel)
  have fl_124 := hts (.fieldLink RX10 124 "CloudOfficeModel" "shadows" "I") (by decide +kernel)
  have fl_165 := hts (.fieldLink RX10 165 "CloudOfficeModel" "spans" "I") (by decide +kernel)
  have fl_176 := hts (.fieldLink RX10 176 "CloudOfficeModel" "pairs" "I") (by decide +kernel)
  have fl_196 := hts (.fieldLink RX10 196 "CloudOfficeModel" "rows" "I") (by decide +kernel)
  have fl_203 := hts (.fieldLink RX10 203 "CloudOfficeModel" "notes" "I") (by decide +kernel)
  have hret : ∀ (o_r9 : Int32) (pc : Nat) (H : Heap) (locs : List Loc) (ls : Array Slot), decode cX10_countOf pc = .ok (.ireturn, 1) → some o_r9 = some o_r → va_P G vwCl [(t_h, .inr (10, [.int t_baseWay, .int t_slip, .int t_low, .int t_high, .int t_unlike, .int t_alone, .long t_above, .long t_below, .ref t_edges_h, .ref t_lean_h, .ref t_word_h, .int t_layers, .ref t_layer_h, .ref t_least_h, .int t_sights, .ref t_sight_h, .int t_shadows, .ref t_shadow_h, .long t_endAbove, .long t_endBelow, .long t_speedAbove, .long t_speedBelow, .int t_spans, .ref t_spanLow_h, .ref t_spanHigh_h, .ref t_spanAt_h, .int t_found, .ref t_numbers_h, .int t_pairs, .ref t_pair_h, .ref t_most_h, .int t_rows, .ref t_row_h, .int t_notes, .ref t_under_h, .ref t_agreed_h])), (t_edges_h, .inl (cI, 2, .inl t_edges_a))] H → va_D A [(t_h, .inr (10, [.int t_baseWay, .int t_slip, .int t_low, .int t_high, .int t_unlike, .int t_alone, .long t_above, .long t_below, .ref t_edges_h, .ref t_lean_h, .ref t_word_h, .int t_layers, .ref t_layer_h, .ref t_least_h, .int t_sights, .ref t_sight_h, .int t_shadows, .ref t_shadow_h, .long t_endAbove, .long t_endBelow, .long t_speedAbove, .long t_speedBelow, .int t_spans, .ref t_spanLow_h, .ref t_spanHigh_h, .ref t_spanAt_h, .int t_found, .ref t_numbers_h, .int t_pairs, .ref t_pair_h, .ref t_most_h, .int t_rows, .ref t_row_h, .int t_notes, .ref t_under_h, .ref t_agreed_h])), (t_edges_h, .inl (cI, 2, .inl t_edges_a))] → va_S A s.heap H locs → W p l e rmX10_countOf s m args below meth c H locs 0 0 Q (F0 m pc ls [.int o_r9]) := by
    intro o_r9 pc H locs ls hdg he hP hD hS
    cases he
    subst hQ
    exact rt_i hx hb hr hlocks hK hP hD hS rfl hdg
  clear hQ
  unfold fX10_countOf at hf
  refine lv_iload_n hx hb dX10_countOf_0 rfl (lv_at hl 1 rfl) ?_
  by_cases c1 : x1 = 0
  · have hf := ift hf c1
    refine lv_tableIn (off := 47) (tgt := 48) hx hb dX10_countOf_1 (by rw [c1]; decide) (by rw [c1]; decide) (by rw [c1]; rfl) (by decide) ?_
    refine lv_aload_n hx hb dX10_countOf_48 rfl (lv_at hl 0 rfl) ?_
    refine va_get (D := G) (ci := 10) (v := .ref t_edges_h) (C := RX10) (T := TX10) (N := 36) hx hb hts iwX10 hown hK hP 0 rfl rfl 8 (by decide) fl_7 (fun _ h9 => h9) rfl dX10_countOf_49 ?_
    refine lv_iconst (v := 0) hx hb dX10_countOf_52 (by decide) ?_
    obtain ⟨h2, hf⟩ := gd_some hf
    refine va_iald hx hb hK hP 1 0 rfl rfl (bnd_in h2) dX10_countOf_53 ?_
    exact hret (t_edges_a (Int32.toNatClampNeg 0)) 54 _ _ _ dX10_countOf_54 hf hP hD hS
  have hf := iff_ hf c1
  by_cases c3 : x1 = 1
  · have hf := ift hf c3
    refine lv_tableIn (off := 54) (tgt := 55) hx hb dX10_countOf_1 (by rw [c3]; decide) (by rw [c3]; decide) (by rw [c3]; rfl) (by decide) ?_
    refine lv_aload_n hx hb dX10_countOf_55 rfl (lv_at hl 0 rfl) ?_
    refine va_get (D := G) (ci := 10) (v := .ref t_edges_h) (C := RX10) (T := TX10) (N := 36) hx hb hts iwX10 hown hK hP 0 rfl rfl 8 (by decide) fl_7 (fun _ h9 => h9) rfl dX10_countOf_56 ?_
    refine lv_iconst (v := 1) hx hb dX10_countOf_59 (by decide) ?_
    obtain ⟨h4, hf⟩ := gd_some hf
    refine va_iald hx hb hK hP 1 0 rfl rfl (bnd_in h4) dX10_countOf_60 ?_
    exact hret (t_edges_a (Int32.toNatClampNeg 1)) 61 _ _ _ dX10_countOf_61 hf hP hD hS
  have hf := iff_ hf c3
  by_cases c5 : x1 = 2
  · have hf := ift hf c5
    refine lv_tableIn (off := 61) (tgt := 62) hx hb dX10_countOf_1 (by rw [c5]; decide) (by rw [c5]; decide) (by rw [c5]; rfl) (by decide) ?_
    refine lv_aload_n hx hb dX10_countOf_62 rfl (lv_at hl 0 rfl) ?_
    refine va_get (D := G) (ci := 10) (v := .int t_layers) (C := RX10) (T := TX10) (N := 36) hx hb hts iwX10 hown hK hP 0 rfl rfl 11 (by decide) fl_105 (fun _ h9 => h9) rfl dX10_countOf_63 ?_
    exact hret t_layers 66 _ _ _ dX10_countOf_66 hf hP hD hS
  have hf := iff_ hf c5
  by_cases c6 : x1 = 3
  · have hf := ift hf c6
    refine lv_tableIn (off := 66) (tgt := 67) hx hb dX10_countOf_1 (by rw [c6]; decide) (by rw [c6]; decide) (by rw [c6]; rfl) (by decide) ?_
    refine lv_aload_n hx hb dX10_countOf_67 rfl (lv_at hl 0 rfl) ?_
    refine va_get (D := G) (ci := 10) (v := .int t_sights) (C := RX10) (T := TX10) (N := 36) hx hb hts iwX10 hown hK hP 0 rfl rfl 14 (by decide) fl_119 (fun _ h9 => h9) rfl dX10_countOf_68 ?_
    exact hret t_sights 71 _ _ _ dX10_countOf_71 hf hP hD hS
  have hf := iff_ hf c6
  by_cases c7 : x1 = 4
  · have hf := ift hf c7
    refine lv_tableIn (off := 71) (tgt := 72) hx hb dX10_countOf_1 (by rw [c7]; decide) (by rw [c7]; decide) (by rw [c7]; rfl) (by decide) ?_
    refine lv_aload_n hx hb dX10_countOf_72 rfl (lv_at hl 0 rfl) ?_
    refine va_get (D := G) (ci := 10) (v := .int t_shadows) (C := RX10) (T := TX10) (N := 36) hx hb hts iwX10 hown hK hP 0 rfl rfl 16 (by decide) fl_124 (fun _ h9 => h9) rfl dX10_countOf_73 ?_
    exact hret t_shadows 76 _ _ _ dX10_countOf_76 hf hP hD hS
  have hf := iff_ hf c7
  by_cases c8 : x1 = 5
  · have hf := ift hf c8
    refine lv_tableIn (off := 76) (tgt := 77) hx hb dX10_countOf_1 (by rw [c8]; decide) (by rw [c8]; decide) (by rw [c8]; rfl) (by decide) ?_
    refine lv_aload_n hx hb dX10_countOf_77 rfl (lv_at hl 0 rfl) ?_
    refine va_get (D := G) (ci := 10) (v := .int t_spans) (C := RX10) (T := TX10) (N := 36) hx hb hts iwX10 hown hK hP 0 rfl rfl 22 (by decide) fl_165 (fun _ h9 => h9) rfl dX10_countOf_78 ?_
    exact hret t_spans 81 _ _ _ dX10_countOf_81 hf hP hD hS
  have hf := iff_ hf c8
  by_cases c9 : x1 = 6
  · have hf := ift hf c9
    refine lv_tableIn (off := 81) (tgt := 82) hx hb dX10_countOf_1 (by rw [c9]; decide) (by rw [c9]; decide) (by rw [c9]; rfl) (by decide) ?_
    refine lv_aload_n hx hb dX10_countOf_82 rfl (lv_at hl 0 rfl) ?_
    refine va_get (D := G) (ci := 10) (v := .int t_pairs) (C := RX10) (T := TX10) (N := 36) hx hb hts iwX10 hown hK hP 0 rfl rfl 28 (by decide) fl_176 (fun _ h9 => h9) rfl dX10_countOf_83 ?_
    exact hret t_pairs 86 _ _ _ dX10_countOf_86 hf hP hD hS
  have hf := iff_ hf c9
  by_cases c10 : x1 = 7
  · have hf := ift hf c10
    refine lv_tableIn (off := 86) (tgt := 87) hx hb dX10_countOf_1 (by rw [c10]; decide) (by rw [c10]; decide) (by rw [c10]; rfl) (by decide) ?_
    refine lv_aload_n hx hb dX10_countOf_87 rfl (lv_at hl 0 rfl) ?_
    refine va_get (D := G) (ci := 10) (v := .int t_rows) (C := RX10) (T := TX10) (N := 36) hx hb hts iwX10 hown hK hP 0 rfl rfl 31 (by decide) fl_196 (fun _ h9 => h9) rfl dX10_countOf_88 ?_
    exact hret t_rows 91 _ _ _ dX10_countOf_91 hf hP hD hS
  have hf := iff_ hf c10
  refine lv_tableOut (tgt := 92) hx hb dX10_countOf_1 (sw_out 7 (by intro k hk; rcases (show k = 0 ∨ k = 1 ∨ k = 2 ∨ k = 3 ∨ k = 4 ∨ k = 5 ∨ k = 6 ∨ k = 7 by omega) with rfl | rfl | rfl | rfl | rfl | rfl | rfl | rfl <;> assumption)) (by decide) ?_
  refine lv_aload_n hx hb dX10_countOf_92 rfl (lv_at hl 0 rfl) ?_
  refine va_get (D := G) (ci := 10) (v := .int t_notes) (C := RX10) (T := TX10) (N := 36) hx hb hts iwX10 hown hK hP 0 rfl rfl 33 (by decide) fl_203 (fun _ h9 => h9) rfl dX10_countOf_93 ?_
  exact hret t_notes 96 _ _ _ dX10_countOf_96 hf hP hD hS
set_option maxRecDepth 20000 in
theorem ggX10_count_X10_in : GoodIn wsX10_count wsX10_in := goodIn_r _ [4] (by decide +kernel) (by decide +kernel)
set_option maxRecDepth 20000 in
theorem gX10_count_X10_in : GoodIn wsX10_count (va_wsS RX10 89 yX10_in wsX10_in) := goodIn_app (goodIn_of _ (by decide +kernel)) ggX10_count_X10_in
set_option maxRecDepth 20000 in
theorem ggX10_count_X10_countOf : GoodIn wsX10_count wsX10_countOf := goodIn_r _ [8, 9, 10, 11, 12, 13, 14, 15, 16, 17, 18, 19, 20, 21, 22, 23, 24, 25, 26, 27, 28, 29, 30, 31, 32, 33, 34, 35, 36, 37, 38, 39, 40, 41, 42, 43, 44, 45, 46, 47, 48, 49, 50, 51, 52] (by decide +kernel) (by decide +kernel)
set_option maxRecDepth 20000 in
theorem gX10_count_X10_countOf : GoodIn wsX10_count (wsV RX10 209 RX10 yX10_countOf wsX10_countOf) := goodIn_app (goodIn_of _ (by decide +kernel)) ggX10_count_X10_countOf
theorem dX10_count_0 : decode cX10_count 0 = .ok (.iload_n 1, 1) := by decide +kernel
theorem dX10_count_1 : decode cX10_count 1 = .ok (.iconst 0, 1) := by decide +kernel
theorem dX10_count_2 : decode cX10_count 2 = .ok (.bipush 8, 2) := by decide +kernel
theorem dX10_count_4 : decode cX10_count 4 = .ok (.invokestatic 89, 3) := by decide +kernel
theorem dX10_count_7 : decode cX10_count 7 = .ok (.ifCond .eq 11, 3) := by decide +kernel
theorem dX10_count_10 : decode cX10_count 10 = .ok (.aload_n 0, 1) := by decide +kernel
theorem dX10_count_11 : decode cX10_count 11 = .ok (.iload_n 1, 1) := by decide +kernel
theorem dX10_count_12 : decode cX10_count 12 = .ok (.invokevirtual 209, 3) := by decide +kernel
theorem dX10_count_15 : decode cX10_count 15 = .ok (.goto 5, 3) := by decide +kernel
theorem dX10_count_18 : decode cX10_count 18 = .ok (.bipush (-2), 2) := by decide +kernel
theorem dX10_count_20 : decode cX10_count 20 = .ok (.ireturn, 1) := by decide +kernel
set_option maxRecDepth 100000 in
def fX10_count (x1 : Int32) (t_layers : Int32) (t_sights : Int32) (t_shadows : Int32) (t_spans : Int32) (t_pairs : Int32) (t_rows : Int32) (t_notes : Int32) (t_edges_a : Nat → Int32) : Option (Int32) :=
  ob (fX10_in x1 0 8) fun r1 =>
  if (b2i r1) = 0 then
    some (-2)
  else
    ob (fX10_countOf x1 t_layers t_sights t_shadows t_spans t_pairs t_rows t_notes t_edges_a) fun r4 =>
    some r4
abbrev rmX10_count : Room := { frames := 1, cells := 0, slots := 0, locals := 22 }
set_option maxHeartbeats 4000000 in
set_option maxRecDepth 100000 in
theorem k_X10_count (l : Launch) (G : va_G) (cI cJ : ClassId) (t_h t_edges_h t_lean_h t_word_h t_layer_h t_least_h t_sight_h t_shadow_h t_spanLow_h t_spanHigh_h t_spanAt_h t_numbers_h t_pair_h t_most_h t_row_h t_under_h t_agreed_h : Nat) (sz : Nat) (t_baseWay : Int32) (t_slip : Int32) (t_low : Int32) (t_high : Int32) (t_unlike : Int32) (t_alone : Int32) (t_above : Int64) (t_below : Int64) (t_layers : Int32) (t_sights : Int32) (t_shadows : Int32) (t_endAbove : Int64) (t_endBelow : Int64) (t_speedAbove : Int64) (t_speedBelow : Int64) (t_spans : Int32) (t_found : Int32) (t_pairs : Int32) (t_rows : Int32) (t_notes : Int32) (t_edges_a : Nat → Int32) (x1 : Int32) {o_r : Int32} (hf : fX10_count x1 t_layers t_sights t_shadows t_spans t_pairs t_rows t_notes t_edges_a = some o_r) : MetI l yX10_count wsX10_count rmX10_count [.ref t_h, .int x1] G cI cJ [(t_h, .inr (10, [.int t_baseWay, .int t_slip, .int t_low, .int t_high, .int t_unlike, .int t_alone, .long t_above, .long t_below, .ref t_edges_h, .ref t_lean_h, .ref t_word_h, .int t_layers, .ref t_layer_h, .ref t_least_h, .int t_sights, .ref t_sight_h, .int t_shadows, .ref t_shadow_h, .long t_endAbove, .long t_endBelow, .long t_speedAbove, .long t_speedBelow, .int t_spans, .ref t_spanLow_h, .ref t_spanHigh_h, .ref t_spanAt_h, .int t_found, .ref t_numbers_h, .int t_pairs, .ref t_pair_h, .ref t_most_h, .int t_rows, .ref t_row_h, .int t_notes, .ref t_under_h, .ref t_agreed_h])), (t_edges_h, .inl (cI, 2, .inl t_edges_a))] [(t_h, .inr (10, [.int t_baseWay, .int t_slip, .int t_low, .int t_high, .int t_unlike, .int t_alone, .long t_above, .long t_below, .ref t_edges_h, .ref t_lean_h, .ref t_word_h, .int t_layers, .ref t_layer_h, .ref t_least_h, .int t_sights, .ref t_sight_h, .int t_shadows, .ref t_shadow_h, .long t_endAbove, .long t_endBelow, .long t_speedAbove, .long t_speedBelow, .int t_spans, .ref t_spanLow_h, .ref t_spanHigh_h, .ref t_spanAt_h, .int t_found, .ref t_numbers_h, .int t_pairs, .ref t_pair_h, .ref t_most_h, .int t_rows, .ref t_row_h, .int t_notes, .ref t_under_h, .ref t_agreed_h])), (t_edges_h, .inl (cI, 2, .inl t_edges_a))] sz o_r := by
  refine en_0 (l := l) (y := yX10_count) (wsl := wsX10_count) (rm := rmX10_count) (av := [.ref t_h, .int x1]) (G := G) (cI := cI) (cJ := cJ) (w0 := [(t_h, .inr (10, [.int t_baseWay, .int t_slip, .int t_low, .int t_high, .int t_unlike, .int t_alone, .long t_above, .long t_below, .ref t_edges_h, .ref t_lean_h, .ref t_word_h, .int t_layers, .ref t_layer_h, .ref t_least_h, .int t_sights, .ref t_sight_h, .int t_shadows, .ref t_shadow_h, .long t_endAbove, .long t_endBelow, .long t_speedAbove, .long t_speedBelow, .int t_spans, .ref t_spanLow_h, .ref t_spanHigh_h, .ref t_spanAt_h, .int t_found, .ref t_numbers_h, .int t_pairs, .ref t_pair_h, .ref t_most_h, .int t_rows, .ref t_row_h, .int t_notes, .ref t_under_h, .ref t_agreed_h])), (t_edges_h, .inl (cI, 2, .inl t_edges_a))]) (sz := sz) (Qf := fun A => Qi0 G cI cJ [(t_h, .inr (10, [.int t_baseWay, .int t_slip, .int t_low, .int t_high, .int t_unlike, .int t_alone, .long t_above, .long t_below, .ref t_edges_h, .ref t_lean_h, .ref t_word_h, .int t_layers, .ref t_layer_h, .ref t_least_h, .int t_sights, .ref t_sight_h, .int t_shadows, .ref t_shadow_h, .long t_endAbove, .long t_endBelow, .long t_speedAbove, .long t_speedBelow, .int t_spans, .ref t_spanLow_h, .ref t_spanHigh_h, .ref t_spanAt_h, .int t_found, .ref t_numbers_h, .int t_pairs, .ref t_pair_h, .ref t_most_h, .int t_rows, .ref t_row_h, .int t_notes, .ref t_under_h, .ref t_agreed_h])), (t_edges_h, .inl (cI, 2, .inl t_edges_a))] o_r A) (cc := cX10_count) (maxL := 2) (ret := (some .int)) RX10 (by decide +kernel) rfl rfl (Nat.le_of_ble_eq_true rfl) ?_
  intro p e s m args below meth c A ls Q hQ hx hb hr hts hown hlocks hml hN hK hP hD hS hA hl
  have hl : lv_has ls 2 [(0, .ref t_h), (1, .int x1)] := hl
  have hret : ∀ (o_r9 : Int32) (pc : Nat) (H : Heap) (locs : List Loc) (ls : Array Slot), decode cX10_count pc = .ok (.ireturn, 1) → some o_r9 = some o_r → va_P G vwCl [(t_h, .inr (10, [.int t_baseWay, .int t_slip, .int t_low, .int t_high, .int t_unlike, .int t_alone, .long t_above, .long t_below, .ref t_edges_h, .ref t_lean_h, .ref t_word_h, .int t_layers, .ref t_layer_h, .ref t_least_h, .int t_sights, .ref t_sight_h, .int t_shadows, .ref t_shadow_h, .long t_endAbove, .long t_endBelow, .long t_speedAbove, .long t_speedBelow, .int t_spans, .ref t_spanLow_h, .ref t_spanHigh_h, .ref t_spanAt_h, .int t_found, .ref t_numbers_h, .int t_pairs, .ref t_pair_h, .ref t_most_h, .int t_rows, .ref t_row_h, .int t_notes, .ref t_under_h, .ref t_agreed_h])), (t_edges_h, .inl (cI, 2, .inl t_edges_a))] H → va_D A [(t_h, .inr (10, [.int t_baseWay, .int t_slip, .int t_low, .int t_high, .int t_unlike, .int t_alone, .long t_above, .long t_below, .ref t_edges_h, .ref t_lean_h, .ref t_word_h, .int t_layers, .ref t_layer_h, .ref t_least_h, .int t_sights, .ref t_sight_h, .int t_shadows, .ref t_shadow_h, .long t_endAbove, .long t_endBelow, .long t_speedAbove, .long t_speedBelow, .int t_spans, .ref t_spanLow_h, .ref t_spanHigh_h, .ref t_spanAt_h, .int t_found, .ref t_numbers_h, .int t_pairs, .ref t_pair_h, .ref t_most_h, .int t_rows, .ref t_row_h, .int t_notes, .ref t_under_h, .ref t_agreed_h])), (t_edges_h, .inl (cI, 2, .inl t_edges_a))] → va_S A s.heap H locs → W p l e rmX10_count s m args below meth c H locs 0 0 Q (F0 m pc ls [.int o_r9]) := by
    intro o_r9 pc H locs ls hdg he hP hD hS
    cases he
    subst hQ
    exact rt_i hx hb hr hlocks hK hP hD hS rfl hdg
  clear hQ
  unfold fX10_count at hf
  refine lv_iload_n hx hb dX10_count_0 rfl (lv_at hl 1 rfl) ?_
  refine lv_iconst (v := 0) hx hb dX10_count_1 (by decide) ?_
  refine lv_bipush (v := 8) hx hb dX10_count_2 (by decide) ?_
  obtain ⟨r1, hc2, hf⟩ := ob_some hf
  refine af_iR (va_runS (As := [.int x1, .int 0, .int 8]) (rest := []) ⟨hx, hb, hml, hown, hts⟩ (k_X10_in l G cI cJ (x0 := x1) (x1 := 0) (x2 := 8) (sz := _) (hf := hc2)) (va_cwS 3 hts gX10_count_X10_in rfl rfl rfl (by decide +kernel) ⟨Nat.le_of_ble_eq_true rfl, Nat.le_of_ble_eq_true rfl⟩) (preS0 (wc := []) hK hP hD hN [] rfl rfl (by decide)) rfl rfl hl.1 rfl (lv_room (Nat.le_of_ble_eq_true rfl)) dX10_count_4 ⟨Nat.zero_le _, Nat.zero_le _⟩) hP hD hS hA [] rfl (fun H locs hP hS => ?_)
  refine lv_if_eq (tgt := 18) hx hb dX10_count_7 (by decide) (fun c3 => ?_) (fun c3 => ?_)
  · have hf := ift hf c3
    refine lv_bipush (v := (-2)) hx hb dX10_count_18 (by decide) ?_
    exact hret (-2) 20 _ _ _ dX10_count_20 hf hP hD hS
  · have hf := iff_ hf c3
    refine lv_aload_n hx hb dX10_count_10 rfl (lv_at hl 0 rfl) ?_
    refine lv_iload_n hx hb dX10_count_11 rfl (lv_at hl 1 rfl) ?_
    obtain ⟨r4, hc5, hf⟩ := ob_some hf
    refine af_iR (va_runV (As := [.int x1]) (rest := []) ⟨hx, hb, hml, hown, hts⟩ (k_X10_countOf l G cI cJ (t_h := t_h) (t_edges_h := t_edges_h) (t_lean_h := t_lean_h) (t_word_h := t_word_h) (t_layer_h := t_layer_h) (t_least_h := t_least_h) (t_sight_h := t_sight_h) (t_shadow_h := t_shadow_h) (t_spanLow_h := t_spanLow_h) (t_spanHigh_h := t_spanHigh_h) (t_spanAt_h := t_spanAt_h) (t_numbers_h := t_numbers_h) (t_pair_h := t_pair_h) (t_most_h := t_most_h) (t_row_h := t_row_h) (t_under_h := t_under_h) (t_agreed_h := t_agreed_h) (t_baseWay := t_baseWay) (t_slip := t_slip) (t_low := t_low) (t_high := t_high) (t_unlike := t_unlike) (t_alone := t_alone) (t_above := t_above) (t_below := t_below) (t_layers := t_layers) (t_sights := t_sights) (t_shadows := t_shadows) (t_endAbove := t_endAbove) (t_endBelow := t_endBelow) (t_speedAbove := t_speedAbove) (t_speedBelow := t_speedBelow) (t_spans := t_spans) (t_found := t_found) (t_pairs := t_pairs) (t_rows := t_rows) (t_notes := t_notes) (t_edges_a := t_edges_a) (x1 := x1) (sz := _) (hf := hc5)) (cwV 1 hts gX10_count_X10_countOf rfl rfl rfl (by decide +kernel) ⟨Nat.le_of_ble_eq_true rfl, Nat.le_of_ble_eq_true rfl⟩) (preV0 (ci := 10) (q0 := 0) (C := RX10) (wc := [(t_h, .inr (10, [.int t_baseWay, .int t_slip, .int t_low, .int t_high, .int t_unlike, .int t_alone, .long t_above, .long t_below, .ref t_edges_h, .ref t_lean_h, .ref t_word_h, .int t_layers, .ref t_layer_h, .ref t_least_h, .int t_sights, .ref t_sight_h, .int t_shadows, .ref t_shadow_h, .long t_endAbove, .long t_endBelow, .long t_speedAbove, .long t_speedBelow, .int t_spans, .ref t_spanLow_h, .ref t_spanHigh_h, .ref t_spanAt_h, .int t_found, .ref t_numbers_h, .int t_pairs, .ref t_pair_h, .ref t_most_h, .int t_rows, .ref t_row_h, .int t_notes, .ref t_under_h, .ref t_agreed_h])), (t_edges_h, .inl (cI, 2, .inl t_edges_a))]) hK hP hD hN [0, 1] rfl rfl (by decide) rfl rfl) rfl rfl hl.1 rfl (lv_room (Nat.le_of_ble_eq_true rfl)) dX10_count_12 ⟨Nat.zero_le _, Nat.zero_le _⟩) hP hD hS hA [0, 1] rfl (fun H locs hP hS => ?_)
    refine lv_goto (tgt := 20) hx hb dX10_count_15 (by decide) ?_
    exact hret r4 20 _ _ _ dX10_count_20 hf hP hD hS
theorem dX10_mixed_0 : decode cX10_mixed 0 = .ok (.lload_n 0, 1) := by decide +kernel
theorem dX10_mixed_1 : decode cX10_mixed 1 = .ok (.lstore 4, 2) := by decide +kernel
theorem dX10_mixed_3 : decode cX10_mixed 3 = .ok (.iconst 0, 1) := by decide +kernel
theorem dX10_mixed_4 : decode cX10_mixed 4 = .ok (.istore 6, 2) := by decide +kernel
theorem dX10_mixed_6 : decode cX10_mixed 6 = .ok (.iload 6, 2) := by decide +kernel
theorem dX10_mixed_8 : decode cX10_mixed 8 = .ok (.iload_n 3, 1) := by decide +kernel
theorem dX10_mixed_9 : decode cX10_mixed 9 = .ok (.if_icmp .ge 23, 3) := by decide +kernel
theorem dX10_mixed_12 : decode cX10_mixed 12 = .ok (.ldc2_w 212, 3) := by decide +kernel
theorem dX10_mixed_15 : decode cX10_mixed 15 = .ok (.lload 4, 2) := by decide +kernel
theorem dX10_mixed_17 : decode cX10_mixed 17 = .ok (.lmul, 1) := by decide +kernel
theorem dX10_mixed_18 : decode cX10_mixed 18 = .ok (.aload_n 2, 1) := by decide +kernel
theorem dX10_mixed_19 : decode cX10_mixed 19 = .ok (.iload 6, 2) := by decide +kernel
theorem dX10_mixed_21 : decode cX10_mixed 21 = .ok (.iaload, 1) := by decide +kernel
theorem dX10_mixed_22 : decode cX10_mixed 22 = .ok (.i2l, 1) := by decide +kernel
theorem dX10_mixed_23 : decode cX10_mixed 23 = .ok (.ladd, 1) := by decide +kernel
theorem dX10_mixed_24 : decode cX10_mixed 24 = .ok (.lstore 4, 2) := by decide +kernel
theorem dX10_mixed_26 : decode cX10_mixed 26 = .ok (.iinc 6 1, 3) := by decide +kernel
theorem dX10_mixed_29 : decode cX10_mixed 29 = .ok (.goto (-23), 3) := by decide +kernel
theorem dX10_mixed_32 : decode cX10_mixed 32 = .ok (.lload 4, 2) := by decide +kernel
theorem dX10_mixed_34 : decode cX10_mixed 34 = .ok (.lreturn, 1) := by decide +kernel
set_option maxRecDepth 100000 in
def fX10_mixed_L1 (x3 : Int32) (L2_n : Nat) (L2_a : Nat → Int32) : (Int64 × Int32) → Option ((Int64) ⊕ (Int64 × Int32)) := un2 fun (u1 : Int64) (u2 : Int32) =>
  if x3 ≤ u2 then
    some (.inl u1)
  else
    gd (bnd u2 L2_n) <|
    bv ((31 * u1) + (Int32.toInt64 (L2_a (Int32.toNatClampNeg u2)))) fun v5 =>
    bv (u2 + 1) fun v6 =>
    some (.inr (v5, v6))
set_option maxRecDepth 100000 in
def fX10_mixed (x0 : Int64) (x3 : Int32) (L2_n : Nat) (L2_a : Nat → Int32) : Option (Int64) :=
  ob (it (fX10_mixed_L1 x3 L2_n L2_a) 100000 (x0, 0)) fun x7 =>
  some x7
abbrev rmX10_mixed : Room := { frames := 0, cells := 0, slots := 0, locals := 0 }
set_option maxHeartbeats 4000000 in
set_option maxRecDepth 100000 in
theorem k_X10_mixed (l : Launch) (G : va_G) (cI cJ : ClassId) (L2_h : Nat) (sz : Nat) (L2_n : Nat) (L2_a : Nat → Int32) (x0 : Int64) (x3 : Int32) {o_r : Int64} (hf : fX10_mixed x0 x3 L2_n L2_a = some o_r) : MetL l yX10_mixed wsX10_mixed rmX10_mixed [.long x0, .ref L2_h, .int x3] G cI cJ [(L2_h, .inl (cI, L2_n, .inl L2_a))] [(L2_h, .inl (cI, L2_n, .inl L2_a))] sz o_r := by
  refine en_0 (l := l) (y := yX10_mixed) (wsl := wsX10_mixed) (rm := rmX10_mixed) (av := [.long x0, .ref L2_h, .int x3]) (G := G) (cI := cI) (cJ := cJ) (w0 := [(L2_h, .inl (cI, L2_n, .inl L2_a))]) (sz := sz) (Qf := fun A => Ql0 G cI cJ [(L2_h, .inl (cI, L2_n, .inl L2_a))] o_r A) (cc := cX10_mixed) (maxL := 7) (ret := (some .long)) RX10 (by decide +kernel) rfl rfl (Nat.le_of_ble_eq_true rfl) ?_
  intro p e s m args below meth c A ls Q hQ hx hb hr hts hown hlocks hml hN hK hP hD hS hA hl
  have hl : lv_has ls 7 [(0, .long x0), (2, .ref L2_h), (3, .int x3)] := hl
  have kc_212 := hts (.constantLong RX10 212 (31)) (by decide +kernel)
  have hret : ∀ (o_r9 : Int64) (pc : Nat) (H : Heap) (locs : List Loc) (ls : Array Slot), decode cX10_mixed pc = .ok (.lreturn, 1) → some o_r9 = some o_r → va_P G vwCl [(L2_h, .inl (cI, L2_n, .inl L2_a))] H → va_D A [(L2_h, .inl (cI, L2_n, .inl L2_a))] → va_S A s.heap H locs → W p l e rmX10_mixed s m args below meth c H locs 0 0 Q (F0 m pc ls [.long o_r9]) := by
    intro o_r9 pc H locs ls hdg he hP hD hS
    cases he
    subst hQ
    exact rt_l hx hb hr hlocks hK hP hD hS rfl hdg
  clear hQ
  unfold fX10_mixed at hf
  refine lv_lload_n hx hb dX10_mixed_0 rfl (lv_at hl 0 rfl) ?_
  refine lv_lstore (lv' := [(4, .long x0), (0, .long x0), (2, .ref L2_h), (3, .int x3)]) hx hb dX10_mixed_1 hl (by decide) rfl (fun ls hl => ?_)
  refine lv_iconst (v := 0) hx hb dX10_mixed_3 (by decide) ?_
  refine lv_istore (lv' := [(6, .int 0), (4, .long x0), (0, .long x0), (2, .ref L2_h), (3, .int x3)]) hx hb dX10_mixed_4 hl (by decide) rfl (fun ls hl => ?_)
  obtain ⟨x7, ht1, hf⟩ := ob_some hf
  have hx1_0 : ∀ (x79 : Int64), x79 = x7 → ∀ (H : Heap) (locs : List Loc) (ls : Array Slot), va_P G vwCl [(L2_h, .inl (cI, L2_n, .inl L2_a))] H → va_D A [(L2_h, .inl (cI, L2_n, .inl L2_a))] → va_S A s.heap H locs → lv_has ls 7 [(4, .long x79)] → W p l e rmX10_mixed s m args below meth c H locs 0 0 Q (F0 m 32 ls []) := by
    intro x79 he H locs ls hP hD hS hl
    cases he
    refine lv_lload hx hb dX10_mixed_32 (lv_at hl 0 rfl) ?_
    exact hret x7 34 _ _ _ dX10_mixed_34 hf hP hD hS
  clear hf
  have hl1 : ∀ (n : Nat) (u1 : Int64) (u2 : Int32), it (fX10_mixed_L1 x3 L2_n L2_a) n (u1, u2) = some x7 → ∀ (H : Heap) (locs : List Loc) (ls : Array Slot), va_P G vwCl [(L2_h, .inl (cI, L2_n, .inl L2_a))] H → va_D A [(L2_h, .inl (cI, L2_n, .inl L2_a))] → va_S A s.heap H locs → lv_has ls 7 [(2, .ref L2_h), (3, .int x3), (4, .long u1), (6, .int u2)] → W p l e rmX10_mixed s m args below meth c H locs 0 0 Q (F0 m 6 ls []) := by
    intro n
    induction n with
    | zero => intro u1 u2 hz; exact (it_zero hz).elim
    | succ n ih =>
      intro u1 u2 hz H locs ls hP hD hS hl
      obtain ⟨x9, hf, hq⟩ := it_succ hz
      unfold fX10_mixed_L1 at hf
      dsimp only [un2] at hf
      refine lv_iload hx hb dX10_mixed_6 (lv_at hl 3 rfl) ?_
      refine lv_iload_n hx hb dX10_mixed_8 rfl (lv_at hl 1 rfl) ?_
      refine lv_icmp_ge (tgt := 32) hx hb dX10_mixed_9 (by decide) (fun c3 => ?_) (fun c3 => ?_)
      · have hf := ift hf c3
        cases hf
        exact hx1_0 _ hq _ _ _ hP hD hS (lv_sub hl [2] rfl)
      · have hf := iff_ hf c3
        refine lv_ldc2 (v := 31) hx hb hown kc_212 dX10_mixed_12 ?_
        refine lv_lload hx hb dX10_mixed_15 (lv_at hl 2 rfl) ?_
        refine lv_lmul hx hb dX10_mixed_17 ?_
        refine lv_aload_n hx hb dX10_mixed_18 rfl (lv_at hl 0 rfl) ?_
        refine lv_iload hx hb dX10_mixed_19 (lv_at hl 3 rfl) ?_
        obtain ⟨h4, hf⟩ := gd_some hf
        refine va_iald hx hb hK hP 0 0 rfl rfl (bnd_in h4) dX10_mixed_21 ?_
        refine lv_i2l (v := Int32.toInt64 (L2_a (Int32.toNatClampNeg u2))) hx hb dX10_mixed_22 rfl ?_
        refine lv_ladd hx hb dX10_mixed_23 ?_
        refine lv_topl (fun v5 ev5 => ?_)
        have hf := bv_at ev5 hf
        refine lv_lstore (lv' := [(4, .long v5), (2, .ref L2_h), (3, .int x3), (6, .int u2)]) hx hb dX10_mixed_24 hl (by decide) rfl (fun ls hl => ?_)
        obtain ⟨v6, ev6⟩ : ∃ y : Int32, y = u2 + 1 := ⟨_, rfl⟩
        have hf := bv_at ev6 hf
        refine lv_iinc (v := v6) (lv' := [(6, .int v6), (4, .long v5), (2, .ref L2_h), (3, .int x3)]) hx hb dX10_mixed_26 hl (k := 3) rfl (by rw [ev6]; rfl) (by decide) rfl (fun ls hl => ?_)
        refine lv_goto (tgt := 6) hx hb dX10_mixed_29 (by decide) ?_
        cases hf
        exact ih _ _ hq _ _ _ hP hD hS (lv_sub hl [2, 3, 1, 0] rfl)
  exact hl1 _ _ _ ht1 _ _ _ hP hD hS (lv_sub hl [3, 4, 1, 0] rfl)
set_option maxRecDepth 20000 in
theorem ggX10_digest_X10_countOf : GoodIn wsX10_digest wsX10_countOf := goodIn_r _ [34, 9, 13, 15, 17, 18, 23, 25, 27, 38, 39, 40, 41, 42, 43, 44, 45, 46, 47, 48, 49, 50, 51, 52, 53, 54, 55, 56, 57, 58, 59, 60, 61, 62, 63, 64, 65, 66, 67, 68, 69, 70, 71, 72, 73] (by decide +kernel) (by decide +kernel)
set_option maxRecDepth 20000 in
theorem gX10_digest_X10_countOf : GoodIn wsX10_digest (wsV RX10 209 RX10 yX10_countOf wsX10_countOf) := goodIn_app (goodIn_of _ (by decide +kernel)) ggX10_digest_X10_countOf
set_option maxRecDepth 20000 in
theorem ggX10_digest_X10_mixed : GoodIn wsX10_digest wsX10_mixed := goodIn_r _ [37, 2] (by decide +kernel) (by decide +kernel)
set_option maxRecDepth 20000 in
theorem gX10_digest_X10_mixed : GoodIn wsX10_digest (va_wsS RX10 216 yX10_mixed wsX10_mixed) := goodIn_app (goodIn_of _ (by decide +kernel)) ggX10_digest_X10_mixed
theorem dX10_digest_0 : decode cX10_digest 0 = .ok (.ldc2_w 214, 3) := by decide +kernel
theorem dX10_digest_3 : decode cX10_digest 3 = .ok (.lstore_n 1, 1) := by decide +kernel
theorem dX10_digest_4 : decode cX10_digest 4 = .ok (.iconst 0, 1) := by decide +kernel
theorem dX10_digest_5 : decode cX10_digest 5 = .ok (.istore_n 3, 1) := by decide +kernel
theorem dX10_digest_6 : decode cX10_digest 6 = .ok (.iload_n 3, 1) := by decide +kernel
theorem dX10_digest_7 : decode cX10_digest 7 = .ok (.bipush 9, 2) := by decide +kernel
theorem dX10_digest_9 : decode cX10_digest 9 = .ok (.if_icmp .ge 22, 3) := by decide +kernel
theorem dX10_digest_12 : decode cX10_digest 12 = .ok (.ldc2_w 212, 3) := by decide +kernel
theorem dX10_digest_15 : decode cX10_digest 15 = .ok (.lload_n 1, 1) := by decide +kernel
theorem dX10_digest_16 : decode cX10_digest 16 = .ok (.lmul, 1) := by decide +kernel
theorem dX10_digest_17 : decode cX10_digest 17 = .ok (.aload_n 0, 1) := by decide +kernel
theorem dX10_digest_18 : decode cX10_digest 18 = .ok (.iload_n 3, 1) := by decide +kernel
theorem dX10_digest_19 : decode cX10_digest 19 = .ok (.invokevirtual 209, 3) := by decide +kernel
theorem dX10_digest_22 : decode cX10_digest 22 = .ok (.i2l, 1) := by decide +kernel
theorem dX10_digest_23 : decode cX10_digest 23 = .ok (.ladd, 1) := by decide +kernel
theorem dX10_digest_24 : decode cX10_digest 24 = .ok (.lstore_n 1, 1) := by decide +kernel
theorem dX10_digest_25 : decode cX10_digest 25 = .ok (.iinc 3 1, 3) := by decide +kernel
theorem dX10_digest_28 : decode cX10_digest 28 = .ok (.goto (-22), 3) := by decide +kernel
theorem dX10_digest_31 : decode cX10_digest 31 = .ok (.ldc2_w 212, 3) := by decide +kernel
theorem dX10_digest_34 : decode cX10_digest 34 = .ok (.ldc2_w 212, 3) := by decide +kernel
theorem dX10_digest_37 : decode cX10_digest 37 = .ok (.ldc2_w 212, 3) := by decide +kernel
theorem dX10_digest_40 : decode cX10_digest 40 = .ok (.lload_n 1, 1) := by decide +kernel
theorem dX10_digest_41 : decode cX10_digest 41 = .ok (.lmul, 1) := by decide +kernel
theorem dX10_digest_42 : decode cX10_digest 42 = .ok (.aload_n 0, 1) := by decide +kernel
theorem dX10_digest_43 : decode cX10_digest 43 = .ok (.getfield 58, 3) := by decide +kernel
theorem dX10_digest_46 : decode cX10_digest 46 = .ok (.i2l, 1) := by decide +kernel
theorem dX10_digest_47 : decode cX10_digest 47 = .ok (.ladd, 1) := by decide +kernel
theorem dX10_digest_48 : decode cX10_digest 48 = .ok (.lmul, 1) := by decide +kernel
theorem dX10_digest_49 : decode cX10_digest 49 = .ok (.aload_n 0, 1) := by decide +kernel
theorem dX10_digest_50 : decode cX10_digest 50 = .ok (.getfield 62, 3) := by decide +kernel
theorem dX10_digest_53 : decode cX10_digest 53 = .ok (.i2l, 1) := by decide +kernel
theorem dX10_digest_54 : decode cX10_digest 54 = .ok (.ladd, 1) := by decide +kernel
theorem dX10_digest_55 : decode cX10_digest 55 = .ok (.lmul, 1) := by decide +kernel
theorem dX10_digest_56 : decode cX10_digest 56 = .ok (.aload_n 0, 1) := by decide +kernel
theorem dX10_digest_57 : decode cX10_digest 57 = .ok (.getfield 65, 3) := by decide +kernel
theorem dX10_digest_60 : decode cX10_digest 60 = .ok (.i2l, 1) := by decide +kernel
theorem dX10_digest_61 : decode cX10_digest 61 = .ok (.ladd, 1) := by decide +kernel
theorem dX10_digest_62 : decode cX10_digest 62 = .ok (.lstore_n 1, 1) := by decide +kernel
theorem dX10_digest_63 : decode cX10_digest 63 = .ok (.ldc2_w 212, 3) := by decide +kernel
theorem dX10_digest_66 : decode cX10_digest 66 = .ok (.ldc2_w 212, 3) := by decide +kernel
theorem dX10_digest_69 : decode cX10_digest 69 = .ok (.ldc2_w 212, 3) := by decide +kernel
theorem dX10_digest_72 : decode cX10_digest 72 = .ok (.lload_n 1, 1) := by decide +kernel
theorem dX10_digest_73 : decode cX10_digest 73 = .ok (.lmul, 1) := by decide +kernel
theorem dX10_digest_74 : decode cX10_digest 74 = .ok (.aload_n 0, 1) := by decide +kernel
theorem dX10_digest_75 : decode cX10_digest 75 = .ok (.getfield 68, 3) := by decide +kernel
theorem dX10_digest_78 : decode cX10_digest 78 = .ok (.i2l, 1) := by decide +kernel
theorem dX10_digest_79 : decode cX10_digest 79 = .ok (.ladd, 1) := by decide +kernel
theorem dX10_digest_80 : decode cX10_digest 80 = .ok (.lmul, 1) := by decide +kernel
theorem dX10_digest_81 : decode cX10_digest 81 = .ok (.aload_n 0, 1) := by decide +kernel
theorem dX10_digest_82 : decode cX10_digest 82 = .ok (.getfield 71, 3) := by decide +kernel
theorem dX10_digest_85 : decode cX10_digest 85 = .ok (.i2l, 1) := by decide +kernel
theorem dX10_digest_86 : decode cX10_digest 86 = .ok (.ladd, 1) := by decide +kernel
theorem dX10_digest_87 : decode cX10_digest 87 = .ok (.lmul, 1) := by decide +kernel
theorem dX10_digest_88 : decode cX10_digest 88 = .ok (.aload_n 0, 1) := by decide +kernel
theorem dX10_digest_89 : decode cX10_digest 89 = .ok (.getfield 74, 3) := by decide +kernel
theorem dX10_digest_92 : decode cX10_digest 92 = .ok (.i2l, 1) := by decide +kernel
theorem dX10_digest_93 : decode cX10_digest 93 = .ok (.ladd, 1) := by decide +kernel
theorem dX10_digest_94 : decode cX10_digest 94 = .ok (.lstore_n 1, 1) := by decide +kernel
theorem dX10_digest_95 : decode cX10_digest 95 = .ok (.iconst 0, 1) := by decide +kernel
theorem dX10_digest_96 : decode cX10_digest 96 = .ok (.istore_n 3, 1) := by decide +kernel
theorem dX10_digest_97 : decode cX10_digest 97 = .ok (.iload_n 3, 1) := by decide +kernel
theorem dX10_digest_98 : decode cX10_digest 98 = .ok (.iconst 2, 1) := by decide +kernel
theorem dX10_digest_99 : decode cX10_digest 99 = .ok (.if_icmp .ge 67, 3) := by decide +kernel
theorem dX10_digest_102 : decode cX10_digest 102 = .ok (.iconst 0, 1) := by decide +kernel
theorem dX10_digest_103 : decode cX10_digest 103 = .ok (.istore 4, 2) := by decide +kernel
theorem dX10_digest_105 : decode cX10_digest 105 = .ok (.iload 4, 2) := by decide +kernel
theorem dX10_digest_107 : decode cX10_digest 107 = .ok (.aload_n 0, 1) := by decide +kernel
theorem dX10_digest_108 : decode cX10_digest 108 = .ok (.getfield 7, 3) := by decide +kernel
theorem dX10_digest_111 : decode cX10_digest 111 = .ok (.iload_n 3, 1) := by decide +kernel
theorem dX10_digest_112 : decode cX10_digest 112 = .ok (.iaload, 1) := by decide +kernel
theorem dX10_digest_113 : decode cX10_digest 113 = .ok (.if_icmp .ge 47, 3) := by decide +kernel
theorem dX10_digest_116 : decode cX10_digest 116 = .ok (.ldc2_w 212, 3) := by decide +kernel
theorem dX10_digest_119 : decode cX10_digest 119 = .ok (.ldc2_w 212, 3) := by decide +kernel
theorem dX10_digest_122 : decode cX10_digest 122 = .ok (.lload_n 1, 1) := by decide +kernel
theorem dX10_digest_123 : decode cX10_digest 123 = .ok (.lmul, 1) := by decide +kernel
theorem dX10_digest_124 : decode cX10_digest 124 = .ok (.aload_n 0, 1) := by decide +kernel
theorem dX10_digest_125 : decode cX10_digest 125 = .ok (.getfield 13, 3) := by decide +kernel
theorem dX10_digest_128 : decode cX10_digest 128 = .ok (.bipush 8, 2) := by decide +kernel
theorem dX10_digest_130 : decode cX10_digest 130 = .ok (.iload_n 3, 1) := by decide +kernel
theorem dX10_digest_131 : decode cX10_digest 131 = .ok (.imul, 1) := by decide +kernel
theorem dX10_digest_132 : decode cX10_digest 132 = .ok (.iload 4, 2) := by decide +kernel
theorem dX10_digest_134 : decode cX10_digest 134 = .ok (.iadd, 1) := by decide +kernel
theorem dX10_digest_135 : decode cX10_digest 135 = .ok (.iaload, 1) := by decide +kernel
theorem dX10_digest_136 : decode cX10_digest 136 = .ok (.i2l, 1) := by decide +kernel
theorem dX10_digest_137 : decode cX10_digest 137 = .ok (.ladd, 1) := by decide +kernel
theorem dX10_digest_138 : decode cX10_digest 138 = .ok (.lmul, 1) := by decide +kernel
theorem dX10_digest_139 : decode cX10_digest 139 = .ok (.aload_n 0, 1) := by decide +kernel
theorem dX10_digest_140 : decode cX10_digest 140 = .ok (.getfield 16, 3) := by decide +kernel
theorem dX10_digest_143 : decode cX10_digest 143 = .ok (.bipush 8, 2) := by decide +kernel
theorem dX10_digest_145 : decode cX10_digest 145 = .ok (.iload_n 3, 1) := by decide +kernel
theorem dX10_digest_146 : decode cX10_digest 146 = .ok (.imul, 1) := by decide +kernel
theorem dX10_digest_147 : decode cX10_digest 147 = .ok (.iload 4, 2) := by decide +kernel
theorem dX10_digest_149 : decode cX10_digest 149 = .ok (.iadd, 1) := by decide +kernel
theorem dX10_digest_150 : decode cX10_digest 150 = .ok (.iaload, 1) := by decide +kernel
theorem dX10_digest_151 : decode cX10_digest 151 = .ok (.i2l, 1) := by decide +kernel
theorem dX10_digest_152 : decode cX10_digest 152 = .ok (.ladd, 1) := by decide +kernel
theorem dX10_digest_153 : decode cX10_digest 153 = .ok (.lstore_n 1, 1) := by decide +kernel
theorem dX10_digest_154 : decode cX10_digest 154 = .ok (.iinc 4 1, 3) := by decide +kernel
theorem dX10_digest_157 : decode cX10_digest 157 = .ok (.goto (-52), 3) := by decide +kernel
theorem dX10_digest_160 : decode cX10_digest 160 = .ok (.iinc 3 1, 3) := by decide +kernel
theorem dX10_digest_163 : decode cX10_digest 163 = .ok (.goto (-66), 3) := by decide +kernel
theorem dX10_digest_166 : decode cX10_digest 166 = .ok (.lload_n 1, 1) := by decide +kernel
theorem dX10_digest_167 : decode cX10_digest 167 = .ok (.aload_n 0, 1) := by decide +kernel
theorem dX10_digest_168 : decode cX10_digest 168 = .ok (.getfield 19, 3) := by decide +kernel
theorem dX10_digest_171 : decode cX10_digest 171 = .ok (.aload_n 0, 1) := by decide +kernel
theorem dX10_digest_172 : decode cX10_digest 172 = .ok (.getfield 105, 3) := by decide +kernel
theorem dX10_digest_175 : decode cX10_digest 175 = .ok (.invokestatic 216, 3) := by decide +kernel
theorem dX10_digest_178 : decode cX10_digest 178 = .ok (.lstore_n 1, 1) := by decide +kernel
theorem dX10_digest_179 : decode cX10_digest 179 = .ok (.lload_n 1, 1) := by decide +kernel
theorem dX10_digest_180 : decode cX10_digest 180 = .ok (.aload_n 0, 1) := by decide +kernel
theorem dX10_digest_181 : decode cX10_digest 181 = .ok (.getfield 25, 3) := by decide +kernel
theorem dX10_digest_184 : decode cX10_digest 184 = .ok (.iconst 4, 1) := by decide +kernel
theorem dX10_digest_185 : decode cX10_digest 185 = .ok (.aload_n 0, 1) := by decide +kernel
theorem dX10_digest_186 : decode cX10_digest 186 = .ok (.getfield 119, 3) := by decide +kernel
theorem dX10_digest_189 : decode cX10_digest 189 = .ok (.imul, 1) := by decide +kernel
theorem dX10_digest_190 : decode cX10_digest 190 = .ok (.invokestatic 216, 3) := by decide +kernel
theorem dX10_digest_193 : decode cX10_digest 193 = .ok (.lstore_n 1, 1) := by decide +kernel
theorem dX10_digest_194 : decode cX10_digest 194 = .ok (.lload_n 1, 1) := by decide +kernel
theorem dX10_digest_195 : decode cX10_digest 195 = .ok (.aload_n 0, 1) := by decide +kernel
theorem dX10_digest_196 : decode cX10_digest 196 = .ok (.getfield 28, 3) := by decide +kernel
theorem dX10_digest_199 : decode cX10_digest 199 = .ok (.iconst 4, 1) := by decide +kernel
theorem dX10_digest_200 : decode cX10_digest 200 = .ok (.aload_n 0, 1) := by decide +kernel
theorem dX10_digest_201 : decode cX10_digest 201 = .ok (.getfield 124, 3) := by decide +kernel
theorem dX10_digest_204 : decode cX10_digest 204 = .ok (.imul, 1) := by decide +kernel
theorem dX10_digest_205 : decode cX10_digest 205 = .ok (.invokestatic 216, 3) := by decide +kernel
theorem dX10_digest_208 : decode cX10_digest 208 = .ok (.lstore_n 1, 1) := by decide +kernel
theorem dX10_digest_209 : decode cX10_digest 209 = .ok (.iconst 0, 1) := by decide +kernel
theorem dX10_digest_210 : decode cX10_digest 210 = .ok (.istore_n 3, 1) := by decide +kernel
theorem dX10_digest_211 : decode cX10_digest 211 = .ok (.iload_n 3, 1) := by decide +kernel
theorem dX10_digest_212 : decode cX10_digest 212 = .ok (.aload_n 0, 1) := by decide +kernel
theorem dX10_digest_213 : decode cX10_digest 213 = .ok (.getfield 165, 3) := by decide +kernel
theorem dX10_digest_216 : decode cX10_digest 216 = .ok (.if_icmp .ge 47, 3) := by decide +kernel
theorem dX10_digest_219 : decode cX10_digest 219 = .ok (.ldc2_w 212, 3) := by decide +kernel
theorem dX10_digest_222 : decode cX10_digest 222 = .ok (.ldc2_w 212, 3) := by decide +kernel
theorem dX10_digest_225 : decode cX10_digest 225 = .ok (.ldc2_w 212, 3) := by decide +kernel
theorem dX10_digest_228 : decode cX10_digest 228 = .ok (.lload_n 1, 1) := by decide +kernel
theorem dX10_digest_229 : decode cX10_digest 229 = .ok (.lmul, 1) := by decide +kernel
theorem dX10_digest_230 : decode cX10_digest 230 = .ok (.aload_n 0, 1) := by decide +kernel
theorem dX10_digest_231 : decode cX10_digest 231 = .ok (.getfield 31, 3) := by decide +kernel
theorem dX10_digest_234 : decode cX10_digest 234 = .ok (.iload_n 3, 1) := by decide +kernel
theorem dX10_digest_235 : decode cX10_digest 235 = .ok (.iaload, 1) := by decide +kernel
theorem dX10_digest_236 : decode cX10_digest 236 = .ok (.i2l, 1) := by decide +kernel
theorem dX10_digest_237 : decode cX10_digest 237 = .ok (.ladd, 1) := by decide +kernel
theorem dX10_digest_238 : decode cX10_digest 238 = .ok (.lmul, 1) := by decide +kernel
theorem dX10_digest_239 : decode cX10_digest 239 = .ok (.aload_n 0, 1) := by decide +kernel
theorem dX10_digest_240 : decode cX10_digest 240 = .ok (.getfield 34, 3) := by decide +kernel
theorem dX10_digest_243 : decode cX10_digest 243 = .ok (.iload_n 3, 1) := by decide +kernel
theorem dX10_digest_244 : decode cX10_digest 244 = .ok (.iaload, 1) := by decide +kernel
theorem dX10_digest_245 : decode cX10_digest 245 = .ok (.i2l, 1) := by decide +kernel
theorem dX10_digest_246 : decode cX10_digest 246 = .ok (.ladd, 1) := by decide +kernel
theorem dX10_digest_247 : decode cX10_digest 247 = .ok (.lmul, 1) := by decide +kernel
theorem dX10_digest_248 : decode cX10_digest 248 = .ok (.aload_n 0, 1) := by decide +kernel
theorem dX10_digest_249 : decode cX10_digest 249 = .ok (.getfield 37, 3) := by decide +kernel
theorem dX10_digest_252 : decode cX10_digest 252 = .ok (.iload_n 3, 1) := by decide +kernel
theorem dX10_digest_253 : decode cX10_digest 253 = .ok (.iaload, 1) := by decide +kernel
theorem dX10_digest_254 : decode cX10_digest 254 = .ok (.i2l, 1) := by decide +kernel
theorem dX10_digest_255 : decode cX10_digest 255 = .ok (.ladd, 1) := by decide +kernel
theorem dX10_digest_256 : decode cX10_digest 256 = .ok (.lstore_n 1, 1) := by decide +kernel
theorem dX10_digest_257 : decode cX10_digest 257 = .ok (.iinc 3 1, 3) := by decide +kernel
theorem dX10_digest_260 : decode cX10_digest 260 = .ok (.goto (-49), 3) := by decide +kernel
theorem dX10_digest_263 : decode cX10_digest 263 = .ok (.lload_n 1, 1) := by decide +kernel
theorem dX10_digest_264 : decode cX10_digest 264 = .ok (.aload_n 0, 1) := by decide +kernel
theorem dX10_digest_265 : decode cX10_digest 265 = .ok (.getfield 43, 3) := by decide +kernel
theorem dX10_digest_268 : decode cX10_digest 268 = .ok (.iconst 3, 1) := by decide +kernel
theorem dX10_digest_269 : decode cX10_digest 269 = .ok (.aload_n 0, 1) := by decide +kernel
theorem dX10_digest_270 : decode cX10_digest 270 = .ok (.getfield 176, 3) := by decide +kernel
theorem dX10_digest_273 : decode cX10_digest 273 = .ok (.imul, 1) := by decide +kernel
theorem dX10_digest_274 : decode cX10_digest 274 = .ok (.invokestatic 216, 3) := by decide +kernel
theorem dX10_digest_277 : decode cX10_digest 277 = .ok (.lstore_n 1, 1) := by decide +kernel
theorem dX10_digest_278 : decode cX10_digest 278 = .ok (.lload_n 1, 1) := by decide +kernel
theorem dX10_digest_279 : decode cX10_digest 279 = .ok (.aload_n 0, 1) := by decide +kernel
theorem dX10_digest_280 : decode cX10_digest 280 = .ok (.getfield 49, 3) := by decide +kernel
theorem dX10_digest_283 : decode cX10_digest 283 = .ok (.iconst 4, 1) := by decide +kernel
theorem dX10_digest_284 : decode cX10_digest 284 = .ok (.aload_n 0, 1) := by decide +kernel
theorem dX10_digest_285 : decode cX10_digest 285 = .ok (.getfield 196, 3) := by decide +kernel
theorem dX10_digest_288 : decode cX10_digest 288 = .ok (.imul, 1) := by decide +kernel
theorem dX10_digest_289 : decode cX10_digest 289 = .ok (.invokestatic 216, 3) := by decide +kernel
theorem dX10_digest_292 : decode cX10_digest 292 = .ok (.lstore_n 1, 1) := by decide +kernel
theorem dX10_digest_293 : decode cX10_digest 293 = .ok (.lload_n 1, 1) := by decide +kernel
theorem dX10_digest_294 : decode cX10_digest 294 = .ok (.aload_n 0, 1) := by decide +kernel
theorem dX10_digest_295 : decode cX10_digest 295 = .ok (.getfield 52, 3) := by decide +kernel
theorem dX10_digest_298 : decode cX10_digest 298 = .ok (.iconst 2, 1) := by decide +kernel
theorem dX10_digest_299 : decode cX10_digest 299 = .ok (.aload_n 0, 1) := by decide +kernel
theorem dX10_digest_300 : decode cX10_digest 300 = .ok (.getfield 203, 3) := by decide +kernel
theorem dX10_digest_303 : decode cX10_digest 303 = .ok (.imul, 1) := by decide +kernel
theorem dX10_digest_304 : decode cX10_digest 304 = .ok (.invokestatic 216, 3) := by decide +kernel
theorem dX10_digest_307 : decode cX10_digest 307 = .ok (.lstore_n 1, 1) := by decide +kernel
theorem dX10_digest_308 : decode cX10_digest 308 = .ok (.ldc2_w 212, 3) := by decide +kernel
theorem dX10_digest_311 : decode cX10_digest 311 = .ok (.ldc2_w 212, 3) := by decide +kernel
theorem dX10_digest_314 : decode cX10_digest 314 = .ok (.lload_n 1, 1) := by decide +kernel
theorem dX10_digest_315 : decode cX10_digest 315 = .ok (.lmul, 1) := by decide +kernel
theorem dX10_digest_316 : decode cX10_digest 316 = .ok (.aload_n 0, 1) := by decide +kernel
theorem dX10_digest_317 : decode cX10_digest 317 = .ok (.getfield 77, 3) := by decide +kernel
theorem dX10_digest_320 : decode cX10_digest 320 = .ok (.ladd, 1) := by decide +kernel
theorem dX10_digest_321 : decode cX10_digest 321 = .ok (.lmul, 1) := by decide +kernel
theorem dX10_digest_322 : decode cX10_digest 322 = .ok (.aload_n 0, 1) := by decide +kernel
theorem dX10_digest_323 : decode cX10_digest 323 = .ok (.getfield 81, 3) := by decide +kernel
theorem dX10_digest_326 : decode cX10_digest 326 = .ok (.ladd, 1) := by decide +kernel
theorem dX10_digest_327 : decode cX10_digest 327 = .ok (.lreturn, 1) := by decide +kernel
set_option maxRecDepth 100000 in
def fX10_digest_L1 (t_layers : Int32) (t_sights : Int32) (t_shadows : Int32) (t_spans : Int32) (t_pairs : Int32) (t_rows : Int32) (t_notes : Int32) (t_edges_a : Nat → Int32) : (Int64 × Int32) → Option ((Int64) ⊕ (Int64 × Int32)) := un2 fun (u1 : Int64) (u2 : Int32) =>
  if 9 ≤ u2 then
    some (.inl u1)
  else
    ob (fX10_countOf u2 t_layers t_sights t_shadows t_spans t_pairs t_rows t_notes t_edges_a) fun r4 =>
    bv ((31 * u1) + (Int32.toInt64 r4)) fun v6 =>
    bv (u2 + 1) fun v7 =>
    some (.inr (v6, v7))
set_option maxRecDepth 100000 in
def fX10_digest_L3 (u12 : Int32) (t_edges_a : Nat → Int32) (t_lean_a : Nat → Int32) (t_word_a : Nat → Int32) : (Int64 × Int32) → Option ((Int64) ⊕ (Int64 × Int32)) := un2 fun (u14 : Int64) (u15 : Int32) =>
  gd (bnd u12 2) <|
  if (t_edges_a (Int32.toNatClampNeg u12)) ≤ u15 then
    some (.inl u14)
  else
    gd (bnd ((8 * u12) + u15) 16) <|
    gd (bnd ((8 * u12) + u15) 16) <|
    bv ((31 * ((31 * u14) + (Int32.toInt64 (t_lean_a (Int32.toNatClampNeg ((8 * u12) + u15)))))) + (Int32.toInt64 (t_word_a (Int32.toNatClampNeg ((8 * u12) + u15))))) fun v20 =>
    bv (u15 + 1) fun v21 =>
    some (.inr (v20, v21))
set_option maxRecDepth 100000 in
def fX10_digest_L2 (t_edges_a : Nat → Int32) (t_lean_a : Nat → Int32) (t_word_a : Nat → Int32) : (Int64 × Int32) → Option ((Int64) ⊕ (Int64 × Int32)) := un2 fun (u11 : Int64) (u12 : Int32) =>
  if 2 ≤ u12 then
    some (.inl u11)
  else
    ob (it (fX10_digest_L3 u12 t_edges_a t_lean_a t_word_a) 100000 (u11, 0)) fun x22 =>
    bv (u12 + 1) fun v23 =>
    some (.inr (x22, v23))
set_option maxRecDepth 100000 in
def fX10_digest_L4 (t_spans : Int32) (t_spanLow_a : Nat → Int32) (t_spanHigh_a : Nat → Int32) (t_spanAt_a : Nat → Int32) : (Int64 × Int32) → Option ((Int64) ⊕ (Int64 × Int32)) := un2 fun (u31 : Int64) (u32 : Int32) =>
  if t_spans ≤ u32 then
    some (.inl u31)
  else
    gd (bnd u32 24) <|
    gd (bnd u32 24) <|
    gd (bnd u32 24) <|
    bv ((31 * ((31 * ((31 * u31) + (Int32.toInt64 (t_spanLow_a (Int32.toNatClampNeg u32))))) + (Int32.toInt64 (t_spanHigh_a (Int32.toNatClampNeg u32))))) + (Int32.toInt64 (t_spanAt_a (Int32.toNatClampNeg u32)))) fun v37 =>
    bv (u32 + 1) fun v38 =>
    some (.inr (v37, v38))
set_option maxRecDepth 100000 in
def fX10_digest (t_baseWay : Int32) (t_slip : Int32) (t_low : Int32) (t_high : Int32) (t_unlike : Int32) (t_alone : Int32) (t_above : Int64) (t_below : Int64) (t_layers : Int32) (t_sights : Int32) (t_shadows : Int32) (t_spans : Int32) (t_pairs : Int32) (t_rows : Int32) (t_notes : Int32) (t_edges_a : Nat → Int32) (t_lean_a : Nat → Int32) (t_word_a : Nat → Int32) (t_layer_a : Nat → Int32) (t_sight_a : Nat → Int32) (t_shadow_a : Nat → Int32) (t_spanLow_a : Nat → Int32) (t_spanHigh_a : Nat → Int32) (t_spanAt_a : Nat → Int32) (t_pair_a : Nat → Int32) (t_row_a : Nat → Int32) (t_under_a : Nat → Int32) : Option (Int64) :=
  ob (it (fX10_digest_L1 t_layers t_sights t_shadows t_spans t_pairs t_rows t_notes t_edges_a) 100000 (317, 0)) fun x8 =>
  bv ((31 * ((31 * ((31 * x8) + (Int32.toInt64 t_baseWay))) + (Int32.toInt64 t_slip))) + (Int32.toInt64 t_low)) fun v9 =>
  bv ((31 * ((31 * ((31 * v9) + (Int32.toInt64 t_high))) + (Int32.toInt64 t_unlike))) + (Int32.toInt64 t_alone)) fun v10 =>
  ob (it (fX10_digest_L2 t_edges_a t_lean_a t_word_a) 100000 (v10, 0)) fun x24 =>
  ob (fX10_mixed x24 t_layers 6 t_layer_a) fun r25 =>
  ob (fX10_mixed r25 (4 * t_sights) 160 t_sight_a) fun r27 =>
  ob (fX10_mixed r27 (4 * t_shadows) 160 t_shadow_a) fun r29 =>
  ob (it (fX10_digest_L4 t_spans t_spanLow_a t_spanHigh_a t_spanAt_a) 100000 (r29, 0)) fun x39 =>
  ob (fX10_mixed x39 (3 * t_pairs) 120 t_pair_a) fun r40 =>
  ob (fX10_mixed r40 (4 * t_rows) 800 t_row_a) fun r42 =>
  ob (fX10_mixed r42 (2 * t_notes) 200 t_under_a) fun r44 =>
  some ((31 * ((31 * r44) + t_above)) + t_below)
abbrev rmX10_digest : Room := { frames := 1, cells := 0, slots := 0, locals := 26 }
theorem iwX10_digest_X10 : ∀ w ∈ u_ws RX10 TX10 36, w ∈ wsX10_digest := by decide +kernel
set_option maxHeartbeats 4000000 in
set_option maxRecDepth 100000 in
theorem k_X10_digest (l : Launch) (G : va_G) (cI cJ : ClassId) (t_h t_edges_h t_lean_h t_word_h t_layer_h t_least_h t_sight_h t_shadow_h t_spanLow_h t_spanHigh_h t_spanAt_h t_numbers_h t_pair_h t_most_h t_row_h t_under_h t_agreed_h : Nat) (sz : Nat) (t_baseWay : Int32) (t_slip : Int32) (t_low : Int32) (t_high : Int32) (t_unlike : Int32) (t_alone : Int32) (t_above : Int64) (t_below : Int64) (t_layers : Int32) (t_sights : Int32) (t_shadows : Int32) (t_endAbove : Int64) (t_endBelow : Int64) (t_speedAbove : Int64) (t_speedBelow : Int64) (t_spans : Int32) (t_found : Int32) (t_pairs : Int32) (t_rows : Int32) (t_notes : Int32) (t_edges_a : Nat → Int32) (t_lean_a : Nat → Int32) (t_word_a : Nat → Int32) (t_layer_a : Nat → Int32) (t_sight_a : Nat → Int32) (t_shadow_a : Nat → Int32) (t_spanLow_a : Nat → Int32) (t_spanHigh_a : Nat → Int32) (t_spanAt_a : Nat → Int32) (t_pair_a : Nat → Int32) (t_row_a : Nat → Int32) (t_under_a : Nat → Int32) {o_r : Int64} (hf : fX10_digest t_baseWay t_slip t_low t_high t_unlike t_alone t_above t_below t_layers t_sights t_shadows t_spans t_pairs t_rows t_notes t_edges_a t_lean_a t_word_a t_layer_a t_sight_a t_shadow_a t_spanLow_a t_spanHigh_a t_spanAt_a t_pair_a t_row_a t_under_a = some o_r) : MetL l yX10_digest wsX10_digest rmX10_digest [.ref t_h] G cI cJ [(t_h, .inr (10, [.int t_baseWay, .int t_slip, .int t_low, .int t_high, .int t_unlike, .int t_alone, .long t_above, .long t_below, .ref t_edges_h, .ref t_lean_h, .ref t_word_h, .int t_layers, .ref t_layer_h, .ref t_least_h, .int t_sights, .ref t_sight_h, .int t_shadows, .ref t_shadow_h, .long t_endAbove, .long t_endBelow, .long t_speedAbove, .long t_speedBelow, .int t_spans, .ref t_spanLow_h, .ref t_spanHigh_h, .ref t_spanAt_h, .int t_found, .ref t_numbers_h, .int t_pairs, .ref t_pair_h, .ref t_most_h, .int t_rows, .ref t_row_h, .int t_notes, .ref t_under_h, .ref t_agreed_h])), (t_edges_h, .inl (cI, 2, .inl t_edges_a)), (t_lean_h, .inl (cI, 16, .inl t_lean_a)), (t_word_h, .inl (cI, 16, .inl t_word_a)), (t_layer_h, .inl (cI, 6, .inl t_layer_a)), (t_sight_h, .inl (cI, 160, .inl t_sight_a)), (t_shadow_h, .inl (cI, 160, .inl t_shadow_a)), (t_spanLow_h, .inl (cI, 24, .inl t_spanLow_a)), (t_spanHigh_h, .inl (cI, 24, .inl t_spanHigh_a)), (t_spanAt_h, .inl (cI, 24, .inl t_spanAt_a)), (t_pair_h, .inl (cI, 120, .inl t_pair_a)), (t_row_h, .inl (cI, 800, .inl t_row_a)), (t_under_h, .inl (cI, 200, .inl t_under_a))] [(t_h, .inr (10, [.int t_baseWay, .int t_slip, .int t_low, .int t_high, .int t_unlike, .int t_alone, .long t_above, .long t_below, .ref t_edges_h, .ref t_lean_h, .ref t_word_h, .int t_layers, .ref t_layer_h, .ref t_least_h, .int t_sights, .ref t_sight_h, .int t_shadows, .ref t_shadow_h, .long t_endAbove, .long t_endBelow, .long t_speedAbove, .long t_speedBelow, .int t_spans, .ref t_spanLow_h, .ref t_spanHigh_h, .ref t_spanAt_h, .int t_found, .ref t_numbers_h, .int t_pairs, .ref t_pair_h, .ref t_most_h, .int t_rows, .ref t_row_h, .int t_notes, .ref t_under_h, .ref t_agreed_h])), (t_edges_h, .inl (cI, 2, .inl t_edges_a)), (t_lean_h, .inl (cI, 16, .inl t_lean_a)), (t_word_h, .inl (cI, 16, .inl t_word_a)), (t_layer_h, .inl (cI, 6, .inl t_layer_a)), (t_sight_h, .inl (cI, 160, .inl t_sight_a)), (t_shadow_h, .inl (cI, 160, .inl t_shadow_a)), (t_spanLow_h, .inl (cI, 24, .inl t_spanLow_a)), (t_spanHigh_h, .inl (cI, 24, .inl t_spanHigh_a)), (t_spanAt_h, .inl (cI, 24, .inl t_spanAt_a)), (t_pair_h, .inl (cI, 120, .inl t_pair_a)), (t_row_h, .inl (cI, 800, .inl t_row_a)), (t_under_h, .inl (cI, 200, .inl t_under_a))] sz o_r := by
  refine en_0 (l := l) (y := yX10_digest) (wsl := wsX10_digest) (rm := rmX10_digest) (av := [.ref t_h]) (G := G) (cI := cI) (cJ := cJ) (w0 := [(t_h, .inr (10, [.int t_baseWay, .int t_slip, .int t_low, .int t_high, .int t_unlike, .int t_alone, .long t_above, .long t_below, .ref t_edges_h, .ref t_lean_h, .ref t_word_h, .int t_layers, .ref t_layer_h, .ref t_least_h, .int t_sights, .ref t_sight_h, .int t_shadows, .ref t_shadow_h, .long t_endAbove, .long t_endBelow, .long t_speedAbove, .long t_speedBelow, .int t_spans, .ref t_spanLow_h, .ref t_spanHigh_h, .ref t_spanAt_h, .int t_found, .ref t_numbers_h, .int t_pairs, .ref t_pair_h, .ref t_most_h, .int t_rows, .ref t_row_h, .int t_notes, .ref t_under_h, .ref t_agreed_h])), (t_edges_h, .inl (cI, 2, .inl t_edges_a)), (t_lean_h, .inl (cI, 16, .inl t_lean_a)), (t_word_h, .inl (cI, 16, .inl t_word_a)), (t_layer_h, .inl (cI, 6, .inl t_layer_a)), (t_sight_h, .inl (cI, 160, .inl t_sight_a)), (t_shadow_h, .inl (cI, 160, .inl t_shadow_a)), (t_spanLow_h, .inl (cI, 24, .inl t_spanLow_a)), (t_spanHigh_h, .inl (cI, 24, .inl t_spanHigh_a)), (t_spanAt_h, .inl (cI, 24, .inl t_spanAt_a)), (t_pair_h, .inl (cI, 120, .inl t_pair_a)), (t_row_h, .inl (cI, 800, .inl t_row_a)), (t_under_h, .inl (cI, 200, .inl t_under_a))]) (sz := sz) (Qf := fun A => Ql0 G cI cJ [(t_h, .inr (10, [.int t_baseWay, .int t_slip, .int t_low, .int t_high, .int t_unlike, .int t_alone, .long t_above, .long t_below, .ref t_edges_h, .ref t_lean_h, .ref t_word_h, .int t_layers, .ref t_layer_h, .ref t_least_h, .int t_sights, .ref t_sight_h, .int t_shadows, .ref t_shadow_h, .long t_endAbove, .long t_endBelow, .long t_speedAbove, .long t_speedBelow, .int t_spans, .ref t_spanLow_h, .ref t_spanHigh_h, .ref t_spanAt_h, .int t_found, .ref t_numbers_h, .int t_pairs, .ref t_pair_h, .ref t_most_h, .int t_rows, .ref t_row_h, .int t_notes, .ref t_under_h, .ref t_agreed_h])), (t_edges_h, .inl (cI, 2, .inl t_edges_a)), (t_lean_h, .inl (cI, 16, .inl t_lean_a)), (t_word_h, .inl (cI, 16, .inl t_word_a)), (t_layer_h, .inl (cI, 6, .inl t_layer_a)), (t_sight_h, .inl (cI, 160, .inl t_sight_a)), (t_shadow_h, .inl (cI, 160, .inl t_shadow_a)), (t_spanLow_h, .inl (cI, 24, .inl t_spanLow_a)), (t_spanHigh_h, .inl (cI, 24, .inl t_spanHigh_a)), (t_spanAt_h, .inl (cI, 24, .inl t_spanAt_a)), (t_pair_h, .inl (cI, 120, .inl t_pair_a)), (t_row_h, .inl (cI, 800, .inl t_row_a)), (t_under_h, .inl (cI, 200, .inl t_under_a))] o_r A) (cc := cX10_digest) (maxL := 5) (ret := (some .long)) RX10 (by decide +kernel) rfl rfl (Nat.le_of_ble_eq_true rfl) ?_
  intro p e s m args below meth c A ls Q hQ hx hb hr hts hown hlocks hml hN hK hP hD hS hA hl
  have hl : lv_has ls 5 [(0, .ref t_h)] := hl
  have iwX10 := iwX10_digest_X10
  have fl_7 := hts (.fieldLink RX10 7 "CloudOfficeModel" "edges" "[I") (by decide +kernel)
  have fl_13 := hts (.fieldLink RX10 13 "CloudOfficeModel" "lean" "[I") (by decide +kernel)
  have fl_16 := hts (.fieldLink RX10 16 "CloudOfficeModel" "word" "[I") (by decide +kernel)
  have fl_19 := hts (.fieldLink RX10 19 "CloudOfficeModel" "layer" "[I") (by decide +kernel)
  have fl_25 := hts (.fieldLink RX10 25 "CloudOfficeModel" "sight" "[I") (by decide +kernel)
  have fl_28 := hts (.fieldLink RX10 28 "CloudOfficeModel" "shadow" "[I") (by decide +kernel)
  have fl_31 := hts (.fieldLink RX10 31 "CloudOfficeModel" "spanLow" "[I") (by decide +kernel)
  have fl_34 := hts (.fieldLink RX10 34 "CloudOfficeModel" "spanHigh" "[I") (by decide +kernel)
  have fl_37 := hts (.fieldLink RX10 37 "CloudOfficeModel" "spanAt" "[I") (by decide +kernel)
  have fl_43 := hts (.fieldLink RX10 43 "CloudOfficeModel" "pair" "[I") (by decide +kernel)
  have fl_49 := hts (.fieldLink RX10 49 "CloudOfficeModel" "row" "[I") (by decide +kernel)
  have fl_52 := hts (.fieldLink RX10 52 "CloudOfficeModel" "under" "[I") (by decide +kernel)
  have fl_58 := hts (.fieldLink RX10 58 "CloudOfficeModel" "baseWay" "I") (by decide +kernel)
  have fl_62 := hts (.fieldLink RX10 62 "CloudOfficeModel" "slip" "I") (by decide +kernel)
  have fl_65 := hts (.fieldLink RX10 65 "CloudOfficeModel" "low" "I") (by decide +kernel)
  have fl_68 := hts (.fieldLink RX10 68 "CloudOfficeModel" "high" "I") (by decide +kernel)
  have fl_71 := hts (.fieldLink RX10 71 "CloudOfficeModel" "unlike" "I") (by decide +kernel)
  have fl_74 := hts (.fieldLink RX10 74 "CloudOfficeModel" "alone" "I") (by decide +kernel)
  have fl_77 := hts (.fieldLink RX10 77 "CloudOfficeModel" "above" "J") (by decide +kernel)
  have fl_81 := hts (.fieldLink RX10 81 "CloudOfficeModel" "below" "J") (by decide +kernel)
  have fl_105 := hts (.fieldLink RX10 105 "CloudOfficeModel" "layers" "I") (by decide +kernel)
  have fl_119 := hts (.fieldLink RX10 119 "CloudOfficeModel" "sights" "I") (by decide +kernel)
  have fl_124 := hts (.fieldLink RX10 124 "CloudOfficeModel" "shadows" "I") (by decide +kernel)
  have fl_165 := hts (.fieldLink RX10 165 "CloudOfficeModel" "spans" "I") (by decide +kernel)
  have fl_176 := hts (.fieldLink RX10 176 "CloudOfficeModel" "pairs" "I") (by decide +kernel)
  have fl_196 := hts (.fieldLink RX10 196 "CloudOfficeModel" "rows" "I") (by decide +kernel)
  have fl_203 := hts (.fieldLink RX10 203 "CloudOfficeModel" "notes" "I") (by decide +kernel)
  have kc_212 := hts (.constantLong RX10 212 (31)) (by decide +kernel)
  have kc_214 := hts (.constantLong RX10 214 (317)) (by decide +kernel)
  have hret : ∀ (o_r9 : Int64) (pc : Nat) (H : Heap) (locs : List Loc) (ls : Array Slot), decode cX10_digest pc = .ok (.lreturn, 1) → some o_r9 = some o_r → va_P G vwCl [(t_h, .inr (10, [.int t_baseWay, .int t_slip, .int t_low, .int t_high, .int t_unlike, .int t_alone, .long t_above, .long t_below, .ref t_edges_h, .ref t_lean_h, .ref t_word_h, .int t_layers, .ref t_layer_h, .ref t_least_h, .int t_sights, .ref t_sight_h, .int t_shadows, .ref t_shadow_h, .long t_endAbove, .long t_endBelow, .long t_speedAbove, .long t_speedBelow, .int t_spans, .ref t_spanLow_h, .ref t_spanHigh_h, .ref t_spanAt_h, .int t_found, .ref t_numbers_h, .int t_pairs, .ref t_pair_h, .ref t_most_h, .int t_rows, .ref t_row_h, .int t_notes, .ref t_under_h, .ref t_agreed_h])), (t_edges_h, .inl (cI, 2, .inl t_edges_a)), (t_lean_h, .inl (cI, 16, .inl t_lean_a)), (t_word_h, .inl (cI, 16, .inl t_word_a)), (t_layer_h, .inl (cI, 6, .inl t_layer_a)), (t_sight_h, .inl (cI, 160, .inl t_sight_a)), (t_shadow_h, .inl (cI, 160, .inl t_shadow_a)), (t_spanLow_h, .inl (cI, 24, .inl t_spanLow_a)), (t_spanHigh_h, .inl (cI, 24, .inl t_spanHigh_a)), (t_spanAt_h, .inl (cI, 24, .inl t_spanAt_a)), (t_pair_h, .inl (cI, 120, .inl t_pair_a)), (t_row_h, .inl (cI, 800, .inl t_row_a)), (t_under_h, .inl (cI, 200, .inl t_under_a))] H → va_D A [(t_h, .inr (10, [.int t_baseWay, .int t_slip, .int t_low, .int t_high, .int t_unlike, .int t_alone, .long t_above, .long t_below, .ref t_edges_h, .ref t_lean_h, .ref t_word_h, .int t_layers, .ref t_layer_h, .ref t_least_h, .int t_sights, .ref t_sight_h, .int t_shadows, .ref t_shadow_h, .long t_endAbove, .long t_endBelow, .long t_speedAbove, .long t_speedBelow, .int t_spans, .ref t_spanLow_h, .ref t_spanHigh_h, .ref t_spanAt_h, .int t_found, .ref t_numbers_h, .int t_pairs, .ref t_pair_h, .ref t_most_h, .int t_rows, .ref t_row_h, .int t_notes, .ref t_under_h, .ref t_agreed_h])), (t_edges_h, .inl (cI, 2, .inl t_edges_a)), (t_lean_h, .inl (cI, 16, .inl t_lean_a)), (t_word_h, .inl (cI, 16, .inl t_word_a)), (t_layer_h, .inl (cI, 6, .inl t_layer_a)), (t_sight_h, .inl (cI, 160, .inl t_sight_a)), (t_shadow_h, .inl (cI, 160, .inl t_shadow_a)), (t_spanLow_h, .inl (cI, 24, .inl t_spanLow_a)), (t_spanHigh_h, .inl (cI, 24, .inl t_spanHigh_a)), (t_spanAt_h, .inl (cI, 24, .inl t_spanAt_a)), (t_pair_h, .inl (cI, 120, .inl t_pair_a)), (t_row_h, .inl (cI, 800, .inl t_row_a)), (t_under_h, .inl (cI, 200, .inl t_under_a))] → va_S A s.heap H locs → W p l e rmX10_digest s m args below meth c H locs 0 0 Q (F0 m pc ls [.long o_r9]) := by
    intro o_r9 pc H locs ls hdg he hP hD hS
    cases he
    subst hQ
    exact rt_l hx hb hr hlocks hK hP hD hS rfl hdg
  clear hQ
  unfold fX10_digest at hf
  refine lv_ldc2 (v := 317) hx hb hown kc_214 dX10_digest_0 ?_
  refine lv_lstore_n (lv' := [(1, .long 317), (0, .ref t_h)]) hx hb dX10_digest_3 rfl hl (by decide) rfl (fun ls hl => ?_)
  refine lv_iconst (v := 0) hx hb dX10_digest_4 (by decide) ?_
  refine lv_istore_n (lv' := [(3, .int 0), (1, .long 317), (0, .ref t_h)]) hx hb dX10_digest_5 rfl hl (by decide) rfl (fun ls hl => ?_)
  obtain ⟨x8, ht1, hf⟩ := ob_some hf
  have hx1_0 : ∀ (x89 : Int64), x89 = x8 → ∀ (H : Heap) (locs : List Loc) (ls : Array Slot), va_P G vwCl [(t_h, .inr (10, [.int t_baseWay, .int t_slip, .int t_low, .int t_high, .int t_unlike, .int t_alone, .long t_above, .long t_below, .ref t_edges_h, .ref t_lean_h, .ref t_word_h, .int t_layers, .ref t_layer_h, .ref t_least_h, .int t_sights, .ref t_sight_h, .int t_shadows, .ref t_shadow_h, .long t_endAbove, .long t_endBelow, .long t_speedAbove, .long t_speedBelow, .int t_spans, .ref t_spanLow_h, .ref t_spanHigh_h, .ref t_spanAt_h, .int t_found, .ref t_numbers_h, .int t_pairs, .ref t_pair_h, .ref t_most_h, .int t_rows, .ref t_row_h, .int t_notes, .ref t_under_h, .ref t_agreed_h])), (t_edges_h, .inl (cI, 2, .inl t_edges_a)), (t_lean_h, .inl (cI, 16, .inl t_lean_a)), (t_word_h, .inl (cI, 16, .inl t_word_a)), (t_layer_h, .inl (cI, 6, .inl t_layer_a)), (t_sight_h, .inl (cI, 160, .inl t_sight_a)), (t_shadow_h, .inl (cI, 160, .inl t_shadow_a)), (t_spanLow_h, .inl (cI, 24, .inl t_spanLow_a)), (t_spanHigh_h, .inl (cI, 24, .inl t_spanHigh_a)), (t_spanAt_h, .inl (cI, 24, .inl t_spanAt_a)), (t_pair_h, .inl (cI, 120, .inl t_pair_a)), (t_row_h, .inl (cI, 800, .inl t_row_a)), (t_under_h, .inl (cI, 200, .inl t_under_a))] H → va_D A [(t_h, .inr (10, [.int t_baseWay, .int t_slip, .int t_low, .int t_high, .int t_unlike, .int t_alone, .long t_above, .long t_below, .ref t_edges_h, .ref t_lean_h, .ref t_word_h, .int t_layers, .ref t_layer_h, .ref t_least_h, .int t_sights, .ref t_sight_h, .int t_shadows, .ref t_shadow_h, .long t_endAbove, .long t_endBelow, .long t_speedAbove, .long t_speedBelow, .int t_spans, .ref t_spanLow_h, .ref t_spanHigh_h, .ref t_spanAt_h, .int t_found, .ref t_numbers_h, .int t_pairs, .ref t_pair_h, .ref t_most_h, .int t_rows, .ref t_row_h, .int t_notes, .ref t_under_h, .ref t_agreed_h])), (t_edges_h, .inl (cI, 2, .inl t_edges_a)), (t_lean_h, .inl (cI, 16, .inl t_lean_a)), (t_word_h, .inl (cI, 16, .inl t_word_a)), (t_layer_h, .inl (cI, 6, .inl t_layer_a)), (t_sight_h, .inl (cI, 160, .inl t_sight_a)), (t_shadow_h, .inl (cI, 160, .inl t_shadow_a)), (t_spanLow_h, .inl (cI, 24, .inl t_spanLow_a)), (t_spanHigh_h, .inl (cI, 24, .inl t_spanHigh_a)), (t_spanAt_h, .inl (cI, 24, .inl t_spanAt_a)), (t_pair_h, .inl (cI, 120, .inl t_pair_a)), (t_row_h, .inl (cI, 800, .inl t_row_a)), (t_under_h, .inl (cI, 200, .inl t_under_a))] → va_S A s.heap H locs → lv_has ls 5 [(0, .ref t_h), (1, .long x89)] → W p l e rmX10_digest s m args below meth c H locs 0 0 Q (F0 m 31 ls []) := by
    intro x89 he H locs ls hP hD hS hl
    cases he
    refine lv_ldc2 (v := 31) hx hb hown kc_212 dX10_digest_31 ?_
    refine lv_ldc2 (v := 31) hx hb hown kc_212 dX10_digest_34 ?_
    refine lv_ldc2 (v := 31) hx hb hown kc_212 dX10_digest_37 ?_
    refine lv_lload_n hx hb dX10_digest_40 rfl (lv_at hl 1 rfl) ?_
    refine lv_lmul hx hb dX10_digest_41 ?_
    refine lv_aload_n hx hb dX10_digest_42 rfl (lv_at hl 0 rfl) ?_
    refine va_get (D := G) (ci := 10) (v := .int t_baseWay) (C := RX10) (T := TX10) (N := 36) hx hb hts iwX10 hown hK hP 0 rfl rfl 0 (by decide) fl_58 (fun _ h9 => h9) rfl dX10_digest_43 ?_
    refine lv_i2l (v := Int32.toInt64 t_baseWay) hx hb dX10_digest_46 rfl ?_
    refine lv_ladd hx hb dX10_digest_47 ?_
    refine lv_lmul hx hb dX10_digest_48 ?_
    refine lv_aload_n hx hb dX10_digest_49 rfl (lv_at hl 0 rfl) ?_
    refine va_get (D := G) (ci := 10) (v := .int t_slip) (C := RX10) (T := TX10) (N := 36) hx hb hts iwX10 hown hK hP 0 rfl rfl 1 (by decide) fl_62 (fun _ h9 => h9) rfl dX10_digest_50 ?_
    refine lv_i2l (v := Int32.toInt64 t_slip) hx hb dX10_digest_53 rfl ?_
    refine lv_ladd hx hb dX10_digest_54 ?_
    refine lv_lmul hx hb dX10_digest_55 ?_
    refine lv_aload_n hx hb dX10_digest_56 rfl (lv_at hl 0 rfl) ?_
    refine va_get (D := G) (ci := 10) (v := .int t_low) (C := RX10) (T := TX10) (N := 36) hx hb hts iwX10 hown hK hP 0 rfl rfl 2 (by decide) fl_65 (fun _ h9 => h9) rfl dX10_digest_57 ?_
    refine lv_i2l (v := Int32.toInt64 t_low) hx hb dX10_digest_60 rfl ?_
    refine lv_ladd hx hb dX10_digest_61 ?_
    refine lv_topl (fun v9 ev9 => ?_)
    have hf := bv_at ev9 hf
    refine lv_lstore_n (lv' := [(1, .long v9), (0, .ref t_h)]) hx hb dX10_digest_62 rfl hl (by decide) rfl (fun ls hl => ?_)
    refine lv_ldc2 (v := 31) hx hb hown kc_212 dX10_digest_63 ?_
    refine lv_ldc2 (v := 31) hx hb hown kc_212 dX10_digest_66 ?_
    refine lv_ldc2 (v := 31) hx hb hown kc_212 dX10_digest_69 ?_
    refine lv_lload_n hx hb dX10_digest_72 rfl (lv_at hl 0 rfl) ?_
    refine lv_lmul hx hb dX10_digest_73 ?_
    refine lv_aload_n hx hb dX10_digest_74 rfl (lv_at hl 1 rfl) ?_
    refine va_get (D := G) (ci := 10) (v := .int t_high) (C := RX10) (T := TX10) (N := 36) hx hb hts iwX10 hown hK hP 0 rfl rfl 3 (by decide) fl_68 (fun _ h9 => h9) rfl dX10_digest_75 ?_
    refine lv_i2l (v := Int32.toInt64 t_high) hx hb dX10_digest_78 rfl ?_
    refine lv_ladd hx hb dX10_digest_79 ?_
    refine lv_lmul hx hb dX10_digest_80 ?_
    refine lv_aload_n hx hb dX10_digest_81 rfl (lv_at hl 1 rfl) ?_
    refine va_get (D := G) (ci := 10) (v := .int t_unlike) (C := RX10) (T := TX10) (N := 36) hx hb hts iwX10 hown hK hP 0 rfl rfl 4 (by decide) fl_71 (fun _ h9 => h9) rfl dX10_digest_82 ?_
    refine lv_i2l (v := Int32.toInt64 t_unlike) hx hb dX10_digest_85 rfl ?_
    refine lv_ladd hx hb dX10_digest_86 ?_
    refine lv_lmul hx hb dX10_digest_87 ?_
    refine lv_aload_n hx hb dX10_digest_88 rfl (lv_at hl 1 rfl) ?_
    refine va_get (D := G) (ci := 10) (v := .int t_alone) (C := RX10) (T := TX10) (N := 36) hx hb hts iwX10 hown hK hP 0 rfl rfl 5 (by decide) fl_74 (fun _ h9 => h9) rfl dX10_digest_89 ?_
    refine lv_i2l (v := Int32.toInt64 t_alone) hx hb dX10_digest_92 rfl ?_
    refine lv_ladd hx hb dX10_digest_93 ?_
    refine lv_topl (fun v10 ev10 => ?_)
    have hf := bv_at ev10 hf
    refine lv_lstore_n (lv' := [(1, .long v10), (0, .ref t_h)]) hx hb dX10_digest_94 rfl hl (by decide) rfl (fun ls hl => ?_)
    refine lv_iconst (v := 0) hx hb dX10_digest_95 (by decide) ?_
    refine lv_istore_n (lv' := [(3, .int 0), (1, .long v10), (0, .ref t_h)]) hx hb dX10_digest_96 rfl hl (by decide) rfl (fun ls hl => ?_)
    obtain ⟨x24, ht2, hf⟩ := ob_some hf
    have hx2_0 : ∀ (x249 : Int64), x249 = x24 → ∀ (H : Heap) (locs : List Loc) (ls : Array Slot), va_P G vwCl [(t_h, .inr (10, [.int t_baseWay, .int t_slip, .int t_low, .int t_high, .int t_unlike, .int t_alone, .long t_above, .long t_below, .ref t_edges_h, .ref t_lean_h, .ref t_word_h, .int t_layers, .ref t_layer_h, .ref t_least_h, .int t_sights, .ref t_sight_h, .int t_shadows, .ref t_shadow_h, .long t_endAbove, .long t_endBelow, .long t_speedAbove, .long t_speedBelow, .int t_spans, .ref t_spanLow_h, .ref t_spanHigh_h, .ref t_spanAt_h, .int t_found, .ref t_numbers_h, .int t_pairs, .ref t_pair_h, .ref t_most_h, .int t_rows, .ref t_row_h, .int t_notes, .ref t_under_h, .ref t_agreed_h])), (t_edges_h, .inl (cI, 2, .inl t_edges_a)), (t_lean_h, .inl (cI, 16, .inl t_lean_a)), (t_word_h, .inl (cI, 16, .inl t_word_a)), (t_layer_h, .inl (cI, 6, .inl t_layer_a)), (t_sight_h, .inl (cI, 160, .inl t_sight_a)), (t_shadow_h, .inl (cI, 160, .inl t_shadow_a)), (t_spanLow_h, .inl (cI, 24, .inl t_spanLow_a)), (t_spanHigh_h, .inl (cI, 24, .inl t_spanHigh_a)), (t_spanAt_h, .inl (cI, 24, .inl t_spanAt_a)), (t_pair_h, .inl (cI, 120, .inl t_pair_a)), (t_row_h, .inl (cI, 800, .inl t_row_a)), (t_under_h, .inl (cI, 200, .inl t_under_a))] H → va_D A [(t_h, .inr (10, [.int t_baseWay, .int t_slip, .int t_low, .int t_high, .int t_unlike, .int t_alone, .long t_above, .long t_below, .ref t_edges_h, .ref t_lean_h, .ref t_word_h, .int t_layers, .ref t_layer_h, .ref t_least_h, .int t_sights, .ref t_sight_h, .int t_shadows, .ref t_shadow_h, .long t_endAbove, .long t_endBelow, .long t_speedAbove, .long t_speedBelow, .int t_spans, .ref t_spanLow_h, .ref t_spanHigh_h, .ref t_spanAt_h, .int t_found, .ref t_numbers_h, .int t_pairs, .ref t_pair_h, .ref t_most_h, .int t_rows, .ref t_row_h, .int t_notes, .ref t_under_h, .ref t_agreed_h])), (t_edges_h, .inl (cI, 2, .inl t_edges_a)), (t_lean_h, .inl (cI, 16, .inl t_lean_a)), (t_word_h, .inl (cI, 16, .inl t_word_a)), (t_layer_h, .inl (cI, 6, .inl t_layer_a)), (t_sight_h, .inl (cI, 160, .inl t_sight_a)), (t_shadow_h, .inl (cI, 160, .inl t_shadow_a)), (t_spanLow_h, .inl (cI, 24, .inl t_spanLow_a)), (t_spanHigh_h, .inl (cI, 24, .inl t_spanHigh_a)), (t_spanAt_h, .inl (cI, 24, .inl t_spanAt_a)), (t_pair_h, .inl (cI, 120, .inl t_pair_a)), (t_row_h, .inl (cI, 800, .inl t_row_a)), (t_under_h, .inl (cI, 200, .inl t_under_a))] → va_S A s.heap H locs → lv_has ls 5 [(0, .ref t_h), (1, .long x249)] → W p l e rmX10_digest s m args below meth c H locs 0 0 Q (F0 m 166 ls []) := by
      intro x249 he H locs ls hP hD hS hl
      cases he
      refine lv_lload_n hx hb dX10_digest_166 rfl (lv_at hl 1 rfl) ?_
      refine lv_aload_n hx hb dX10_digest_167 rfl (lv_at hl 0 rfl) ?_
      refine va_get (D := G) (ci := 10) (v := .ref t_layer_h) (C := RX10) (T := TX10) (N := 36) hx hb hts iwX10 hown hK hP 0 rfl rfl 12 (by decide) fl_19 (fun _ h9 => h9) rfl dX10_digest_168 ?_
      refine lv_aload_n hx hb dX10_digest_171 rfl (lv_at hl 0 rfl) ?_
      refine va_get (D := G) (ci := 10) (v := .int t_layers) (C := RX10) (T := TX10) (N := 36) hx hb hts iwX10 hown hK hP 0 rfl rfl 11 (by decide) fl_105 (fun _ h9 => h9) rfl dX10_digest_172 ?_
      obtain ⟨r25, hc26, hf⟩ := ob_some hf
      refine af_lR (va_runS (As := [.long x24, .ref t_layer_h, .int t_layers]) (rest := []) ⟨hx, hb, hml, hown, hts⟩ (k_X10_mixed l G cI cJ (L2_h := t_layer_h) (L2_n := 6) (L2_a := t_layer_a) (x0 := x24) (x3 := t_layers) (sz := _) (hf := hc26)) (va_cwS 3 hts gX10_digest_X10_mixed rfl rfl rfl (by decide +kernel) ⟨Nat.le_of_ble_eq_true rfl, Nat.le_of_ble_eq_true rfl⟩) (preS0 (wc := [(t_layer_h, .inl (cI, 6, .inl t_layer_a))]) hK hP hD hN [4] rfl rfl (by decide)) rfl rfl hl.1 rfl (lv_room (Nat.le_of_ble_eq_true rfl)) dX10_digest_175 ⟨Nat.zero_le _, Nat.zero_le _⟩) hP hD hS hA [4] rfl (fun H locs hP hS => ?_)
      refine lv_lstore_n (lv' := [(1, .long r25), (0, .ref t_h)]) hx hb dX10_digest_178 rfl hl (by decide) rfl (fun ls hl => ?_)
      refine lv_lload_n hx hb dX10_digest_179 rfl (lv_at hl 0 rfl) ?_
      refine lv_aload_n hx hb dX10_digest_180 rfl (lv_at hl 1 rfl) ?_
      refine va_get (D := G) (ci := 10) (v := .ref t_sight_h) (C := RX10) (T := TX10) (N := 36) hx hb hts iwX10 hown hK hP 0 rfl rfl 15 (by decide) fl_25 (fun _ h9 => h9) rfl dX10_digest_181 ?_
      refine lv_iconst (v := 4) hx hb dX10_digest_184 (by decide) ?_
      refine lv_aload_n hx hb dX10_digest_185 rfl (lv_at hl 1 rfl) ?_
      refine va_get (D := G) (ci := 10) (v := .int t_sights) (C := RX10) (T := TX10) (N := 36) hx hb hts iwX10 hown hK hP 0 rfl rfl 14 (by decide) fl_119 (fun _ h9 => h9) rfl dX10_digest_186 ?_
      refine lv_imul hx hb dX10_digest_189 ?_
      obtain ⟨r27, hc28, hf⟩ := ob_some hf
      refine af_lR (va_runS (As := [.long r25, .ref t_sight_h, .int (4 * t_sights)]) (rest := []) ⟨hx, hb, hml, hown, hts⟩ (k_X10_mixed l G cI cJ (L2_h := t_sight_h) (L2_n := 160) (L2_a := t_sight_a) (x0 := r25) (x3 := (4 * t_sights)) (sz := _) (hf := hc28)) (va_cwS 3 hts gX10_digest_X10_mixed rfl rfl rfl (by decide +kernel) ⟨Nat.le_of_ble_eq_true rfl, Nat.le_of_ble_eq_true rfl⟩) (preS0 (wc := [(t_sight_h, .inl (cI, 160, .inl t_sight_a))]) hK hP hD hN [5] rfl rfl (by decide)) rfl rfl hl.1 rfl (lv_room (Nat.le_of_ble_eq_true rfl)) dX10_digest_190 ⟨Nat.zero_le _, Nat.zero_le _⟩) hP hD hS hA [5] rfl (fun H locs hP hS => ?_)
      refine lv_lstore_n (lv' := [(1, .long r27), (0, .ref t_h)]) hx hb dX10_digest_193 rfl hl (by decide) rfl (fun ls hl => ?_)
      refine lv_lload_n hx hb dX10_digest_194 rfl (lv_at hl 0 rfl) ?_
      refine lv_aload_n hx hb dX10_digest_195 rfl (lv_at hl 1 rfl) ?_
      refine va_get (D := G) (ci := 10) (v := .ref t_shadow_h) (C := RX10) (T := TX10) (N := 36) hx hb hts iwX10 hown hK hP 0 rfl rfl 17 (by decide) fl_28 (fun _ h9 => h9) rfl dX10_digest_196 ?_
      refine lv_iconst (v := 4) hx hb dX10_digest_199 (by decide) ?_
      refine lv_aload_n hx hb dX10_digest_200 rfl (lv_at hl 1 rfl) ?_
      refine va_get (D := G) (ci := 10) (v := .int t_shadows) (C := RX10) (T := TX10) (N := 36) hx hb hts iwX10 hown hK hP 0 rfl rfl 16 (by decide) fl_124 (fun _ h9 => h9) rfl dX10_digest_201 ?_
      refine lv_imul hx hb dX10_digest_204 ?_
      obtain ⟨r29, hc30, hf⟩ := ob_some hf
      refine af_lR (va_runS (As := [.long r27, .ref t_shadow_h, .int (4 * t_shadows)]) (rest := []) ⟨hx, hb, hml, hown, hts⟩ (k_X10_mixed l G cI cJ (L2_h := t_shadow_h) (L2_n := 160) (L2_a := t_shadow_a) (x0 := r27) (x3 := (4 * t_shadows)) (sz := _) (hf := hc30)) (va_cwS 3 hts gX10_digest_X10_mixed rfl rfl rfl (by decide +kernel) ⟨Nat.le_of_ble_eq_true rfl, Nat.le_of_ble_eq_true rfl⟩) (preS0 (wc := [(t_shadow_h, .inl (cI, 160, .inl t_shadow_a))]) hK hP hD hN [6] rfl rfl (by decide)) rfl rfl hl.1 rfl (lv_room (Nat.le_of_ble_eq_true rfl)) dX10_digest_205 ⟨Nat.zero_le _, Nat.zero_le _⟩) hP hD hS hA [6] rfl (fun H locs hP hS => ?_)
      refine lv_lstore_n (lv' := [(1, .long r29), (0, .ref t_h)]) hx hb dX10_digest_208 rfl hl (by decide) rfl (fun ls hl => ?_)
      refine lv_iconst (v := 0) hx hb dX10_digest_209 (by decide) ?_
      refine lv_istore_n (lv' := [(3, .int 0), (1, .long r29), (0, .ref t_h)]) hx hb dX10_digest_210 rfl hl (by decide) rfl (fun ls hl => ?_)
      obtain ⟨x39, ht4, hf⟩ := ob_some hf
      have hx4_0 : ∀ (x399 : Int64), x399 = x39 → ∀ (H : Heap) (locs : List Loc) (ls : Array Slot), va_P G vwCl [(t_h, .inr (10, [.int t_baseWay, .int t_slip, .int t_low, .int t_high, .int t_unlike, .int t_alone, .long t_above, .long t_below, .ref t_edges_h, .ref t_lean_h, .ref t_word_h, .int t_layers, .ref t_layer_h, .ref t_least_h, .int t_sights, .ref t_sight_h, .int t_shadows, .ref t_shadow_h, .long t_endAbove, .long t_endBelow, .long t_speedAbove, .long t_speedBelow, .int t_spans, .ref t_spanLow_h, .ref t_spanHigh_h, .ref t_spanAt_h, .int t_found, .ref t_numbers_h, .int t_pairs, .ref t_pair_h, .ref t_most_h, .int t_rows, .ref t_row_h, .int t_notes, .ref t_under_h, .ref t_agreed_h])), (t_edges_h, .inl (cI, 2, .inl t_edges_a)), (t_lean_h, .inl (cI, 16, .inl t_lean_a)), (t_word_h, .inl (cI, 16, .inl t_word_a)), (t_layer_h, .inl (cI, 6, .inl t_layer_a)), (t_sight_h, .inl (cI, 160, .inl t_sight_a)), (t_shadow_h, .inl (cI, 160, .inl t_shadow_a)), (t_spanLow_h, .inl (cI, 24, .inl t_spanLow_a)), (t_spanHigh_h, .inl (cI, 24, .inl t_spanHigh_a)), (t_spanAt_h, .inl (cI, 24, .inl t_spanAt_a)), (t_pair_h, .inl (cI, 120, .inl t_pair_a)), (t_row_h, .inl (cI, 800, .inl t_row_a)), (t_under_h, .inl (cI, 200, .inl t_under_a))] H → va_D A [(t_h, .inr (10, [.int t_baseWay, .int t_slip, .int t_low, .int t_high, .int t_unlike, .int t_alone, .long t_above, .long t_below, .ref t_edges_h, .ref t_lean_h, .ref t_word_h, .int t_layers, .ref t_layer_h, .ref t_least_h, .int t_sights, .ref t_sight_h, .int t_shadows, .ref t_shadow_h, .long t_endAbove, .long t_endBelow, .long t_speedAbove, .long t_speedBelow, .int t_spans, .ref t_spanLow_h, .ref t_spanHigh_h, .ref t_spanAt_h, .int t_found, .ref t_numbers_h, .int t_pairs, .ref t_pair_h, .ref t_most_h, .int t_rows, .ref t_row_h, .int t_notes, .ref t_under_h, .ref t_agreed_h])), (t_edges_h, .inl (cI, 2, .inl t_edges_a)), (t_lean_h, .inl (cI, 16, .inl t_lean_a)), (t_word_h, .inl (cI, 16, .inl t_word_a)), (t_layer_h, .inl (cI, 6, .inl t_layer_a)), (t_sight_h, .inl (cI, 160, .inl t_sight_a)), (t_shadow_h, .inl (cI, 160, .inl t_shadow_a)), (t_spanLow_h, .inl (cI, 24, .inl t_spanLow_a)), (t_spanHigh_h, .inl (cI, 24, .inl t_spanHigh_a)), (t_spanAt_h, .inl (cI, 24, .inl t_spanAt_a)), (t_pair_h, .inl (cI, 120, .inl t_pair_a)), (t_row_h, .inl (cI, 800, .inl t_row_a)), (t_under_h, .inl (cI, 200, .inl t_under_a))] → va_S A s.heap H locs → lv_has ls 5 [(0, .ref t_h), (1, .long x399)] → W p l e rmX10_digest s m args below meth c H locs 0 0 Q (F0 m 263 ls []) := by
        intro x399 he H locs ls hP hD hS hl
        cases he
        refine lv_lload_n hx hb dX10_digest_263 rfl (lv_at hl 1 rfl) ?_
        refine lv_aload_n hx hb dX10_digest_264 rfl (lv_at hl 0 rfl) ?_
        refine va_get (D := G) (ci := 10) (v := .ref t_pair_h) (C := RX10) (T := TX10) (N := 36) hx hb hts iwX10 hown hK hP 0 rfl rfl 29 (by decide) fl_43 (fun _ h9 => h9) rfl dX10_digest_265 ?_
        refine lv_iconst (v := 3) hx hb dX10_digest_268 (by decide) ?_
        refine lv_aload_n hx hb dX10_digest_269 rfl (lv_at hl 0 rfl) ?_
        refine va_get (D := G) (ci := 10) (v := .int t_pairs) (C := RX10) (T := TX10) (N := 36) hx hb hts iwX10 hown hK hP 0 rfl rfl 28 (by decide) fl_176 (fun _ h9 => h9) rfl dX10_digest_270 ?_
        refine lv_imul hx hb dX10_digest_273 ?_
        obtain ⟨r40, hc41, hf⟩ := ob_some hf
        refine af_lR (va_runS (As := [.long x39, .ref t_pair_h, .int (3 * t_pairs)]) (rest := []) ⟨hx, hb, hml, hown, hts⟩ (k_X10_mixed l G cI cJ (L2_h := t_pair_h) (L2_n := 120) (L2_a := t_pair_a) (x0 := x39) (x3 := (3 * t_pairs)) (sz := _) (hf := hc41)) (va_cwS 3 hts gX10_digest_X10_mixed rfl rfl rfl (by decide +kernel) ⟨Nat.le_of_ble_eq_true rfl, Nat.le_of_ble_eq_true rfl⟩) (preS0 (wc := [(t_pair_h, .inl (cI, 120, .inl t_pair_a))]) hK hP hD hN [10] rfl rfl (by decide)) rfl rfl hl.1 rfl (lv_room (Nat.le_of_ble_eq_true rfl)) dX10_digest_274 ⟨Nat.zero_le _, Nat.zero_le _⟩) hP hD hS hA [10] rfl (fun H locs hP hS => ?_)
        refine lv_lstore_n (lv' := [(1, .long r40), (0, .ref t_h)]) hx hb dX10_digest_277 rfl hl (by decide) rfl (fun ls hl => ?_)
        refine lv_lload_n hx hb dX10_digest_278 rfl (lv_at hl 0 rfl) ?_
        refine lv_aload_n hx hb dX10_digest_279 rfl (lv_at hl 1 rfl) ?_
        refine va_get (D := G) (ci := 10) (v := .ref t_row_h) (C := RX10) (T := TX10) (N := 36) hx hb hts iwX10 hown hK hP 0 rfl rfl 32 (by decide) fl_49 (fun _ h9 => h9) rfl dX10_digest_280 ?_
        refine lv_iconst (v := 4) hx hb dX10_digest_283 (by decide) ?_
        refine lv_aload_n hx hb dX10_digest_284 rfl (lv_at hl 1 rfl) ?_
        refine va_get (D := G) (ci := 10) (v := .int t_rows) (C := RX10) (T := TX10) (N := 36) hx hb hts iwX10 hown hK hP 0 rfl rfl 31 (by decide) fl_196 (fun _ h9 => h9) rfl dX10_digest_285 ?_
        refine lv_imul hx hb dX10_digest_288 ?_
        obtain ⟨r42, hc43, hf⟩ := ob_some hf
        refine af_lR (va_runS (As := [.long r40, .ref t_row_h, .int (4 * t_rows)]) (rest := []) ⟨hx, hb, hml, hown, hts⟩ (k_X10_mixed l G cI cJ (L2_h := t_row_h) (L2_n := 800) (L2_a := t_row_a) (x0 := r40) (x3 := (4 * t_rows)) (sz := _) (hf := hc43)) (va_cwS 3 hts gX10_digest_X10_mixed rfl rfl rfl (by decide +kernel) ⟨Nat.le_of_ble_eq_true rfl, Nat.le_of_ble_eq_true rfl⟩) (preS0 (wc := [(t_row_h, .inl (cI, 800, .inl t_row_a))]) hK hP hD hN [11] rfl rfl (by decide)) rfl rfl hl.1 rfl (lv_room (Nat.le_of_ble_eq_true rfl)) dX10_digest_289 ⟨Nat.zero_le _, Nat.zero_le _⟩) hP hD hS hA [11] rfl (fun H locs hP hS => ?_)
        refine lv_lstore_n (lv' := [(1, .long r42), (0, .ref t_h)]) hx hb dX10_digest_292 rfl hl (by decide) rfl (fun ls hl => ?_)
        refine lv_lload_n hx hb dX10_digest_293 rfl (lv_at hl 0 rfl) ?_
        refine lv_aload_n hx hb dX10_digest_294 rfl (lv_at hl 1 rfl) ?_
        refine va_get (D := G) (ci := 10) (v := .ref t_under_h) (C := RX10) (T := TX10) (N := 36) hx hb hts iwX10 hown hK hP 0 rfl rfl 34 (by decide) fl_52 (fun _ h9 => h9) rfl dX10_digest_295 ?_
        refine lv_iconst (v := 2) hx hb dX10_digest_298 (by decide) ?_
        refine lv_aload_n hx hb dX10_digest_299 rfl (lv_at hl 1 rfl) ?_
        refine va_get (D := G) (ci := 10) (v := .int t_notes) (C := RX10) (T := TX10) (N := 36) hx hb hts iwX10 hown hK hP 0 rfl rfl 33 (by decide) fl_203 (fun _ h9 => h9) rfl dX10_digest_300 ?_
        refine lv_imul hx hb dX10_digest_303 ?_
        obtain ⟨r44, hc45, hf⟩ := ob_some hf
        refine af_lR (va_runS (As := [.long r42, .ref t_under_h, .int (2 * t_notes)]) (rest := []) ⟨hx, hb, hml, hown, hts⟩ (k_X10_mixed l G cI cJ (L2_h := t_under_h) (L2_n := 200) (L2_a := t_under_a) (x0 := r42) (x3 := (2 * t_notes)) (sz := _) (hf := hc45)) (va_cwS 3 hts gX10_digest_X10_mixed rfl rfl rfl (by decide +kernel) ⟨Nat.le_of_ble_eq_true rfl, Nat.le_of_ble_eq_true rfl⟩) (preS0 (wc := [(t_under_h, .inl (cI, 200, .inl t_under_a))]) hK hP hD hN [12] rfl rfl (by decide)) rfl rfl hl.1 rfl (lv_room (Nat.le_of_ble_eq_true rfl)) dX10_digest_304 ⟨Nat.zero_le _, Nat.zero_le _⟩) hP hD hS hA [12] rfl (fun H locs hP hS => ?_)
        refine lv_lstore_n (lv' := [(1, .long r44), (0, .ref t_h)]) hx hb dX10_digest_307 rfl hl (by decide) rfl (fun ls hl => ?_)
        refine lv_ldc2 (v := 31) hx hb hown kc_212 dX10_digest_308 ?_
        refine lv_ldc2 (v := 31) hx hb hown kc_212 dX10_digest_311 ?_
        refine lv_lload_n hx hb dX10_digest_314 rfl (lv_at hl 0 rfl) ?_
        refine lv_lmul hx hb dX10_digest_315 ?_
        refine lv_aload_n hx hb dX10_digest_316 rfl (lv_at hl 1 rfl) ?_
        refine va_get (D := G) (ci := 10) (v := .long t_above) (C := RX10) (T := TX10) (N := 36) hx hb hts iwX10 hown hK hP 0 rfl rfl 6 (by decide) fl_77 (fun _ h9 => h9) rfl dX10_digest_317 ?_
        refine lv_ladd hx hb dX10_digest_320 ?_
        refine lv_lmul hx hb dX10_digest_321 ?_
        refine lv_aload_n hx hb dX10_digest_322 rfl (lv_at hl 1 rfl) ?_
        refine va_get (D := G) (ci := 10) (v := .long t_below) (C := RX10) (T := TX10) (N := 36) hx hb hts iwX10 hown hK hP 0 rfl rfl 7 (by decide) fl_81 (fun _ h9 => h9) rfl dX10_digest_323 ?_
        refine lv_ladd hx hb dX10_digest_326 ?_
        exact hret ((31 * ((31 * r44) + t_above)) + t_below) 327 _ _ _ dX10_digest_327 hf hP hD hS
      clear hf
      have hl4 : ∀ (n : Nat) (u31 : Int64) (u32 : Int32), it (fX10_digest_L4 t_spans t_spanLow_a t_spanHigh_a t_spanAt_a) n (u31, u32) = some x39 → ∀ (H : Heap) (locs : List Loc) (ls : Array Slot), va_P G vwCl [(t_h, .inr (10, [.int t_baseWay, .int t_slip, .int t_low, .int t_high, .int t_unlike, .int t_alone, .long t_above, .long t_below, .ref t_edges_h, .ref t_lean_h, .ref t_word_h, .int t_layers, .ref t_layer_h, .ref t_least_h, .int t_sights, .ref t_sight_h, .int t_shadows, .ref t_shadow_h, .long t_endAbove, .long t_endBelow, .long t_speedAbove, .long t_speedBelow, .int t_spans, .ref t_spanLow_h, .ref t_spanHigh_h, .ref t_spanAt_h, .int t_found, .ref t_numbers_h, .int t_pairs, .ref t_pair_h, .ref t_most_h, .int t_rows, .ref t_row_h, .int t_notes, .ref t_under_h, .ref t_agreed_h])), (t_edges_h, .inl (cI, 2, .inl t_edges_a)), (t_lean_h, .inl (cI, 16, .inl t_lean_a)), (t_word_h, .inl (cI, 16, .inl t_word_a)), (t_layer_h, .inl (cI, 6, .inl t_layer_a)), (t_sight_h, .inl (cI, 160, .inl t_sight_a)), (t_shadow_h, .inl (cI, 160, .inl t_shadow_a)), (t_spanLow_h, .inl (cI, 24, .inl t_spanLow_a)), (t_spanHigh_h, .inl (cI, 24, .inl t_spanHigh_a)), (t_spanAt_h, .inl (cI, 24, .inl t_spanAt_a)), (t_pair_h, .inl (cI, 120, .inl t_pair_a)), (t_row_h, .inl (cI, 800, .inl t_row_a)), (t_under_h, .inl (cI, 200, .inl t_under_a))] H → va_D A [(t_h, .inr (10, [.int t_baseWay, .int t_slip, .int t_low, .int t_high, .int t_unlike, .int t_alone, .long t_above, .long t_below, .ref t_edges_h, .ref t_lean_h, .ref t_word_h, .int t_layers, .ref t_layer_h, .ref t_least_h, .int t_sights, .ref t_sight_h, .int t_shadows, .ref t_shadow_h, .long t_endAbove, .long t_endBelow, .long t_speedAbove, .long t_speedBelow, .int t_spans, .ref t_spanLow_h, .ref t_spanHigh_h, .ref t_spanAt_h, .int t_found, .ref t_numbers_h, .int t_pairs, .ref t_pair_h, .ref t_most_h, .int t_rows, .ref t_row_h, .int t_notes, .ref t_under_h, .ref t_agreed_h])), (t_edges_h, .inl (cI, 2, .inl t_edges_a)), (t_lean_h, .inl (cI, 16, .inl t_lean_a)), (t_word_h, .inl (cI, 16, .inl t_word_a)), (t_layer_h, .inl (cI, 6, .inl t_layer_a)), (t_sight_h, .inl (cI, 160, .inl t_sight_a)), (t_shadow_h, .inl (cI, 160, .inl t_shadow_a)), (t_spanLow_h, .inl (cI, 24, .inl t_spanLow_a)), (t_spanHigh_h, .inl (cI, 24, .inl t_spanHigh_a)), (t_spanAt_h, .inl (cI, 24, .inl t_spanAt_a)), (t_pair_h, .inl (cI, 120, .inl t_pair_a)), (t_row_h, .inl (cI, 800, .inl t_row_a)), (t_under_h, .inl (cI, 200, .inl t_under_a))] → va_S A s.heap H locs → lv_has ls 5 [(0, .ref t_h), (1, .long u31), (3, .int u32)] → W p l e rmX10_digest s m args below meth c H locs 0 0 Q (F0 m 211 ls []) := by
        intro n
        induction n with
        | zero => intro u31 u32 hz; exact (it_zero hz).elim
        | succ n ih =>
          intro u31 u32 hz H locs ls hP hD hS hl
          obtain ⟨x9, hf, hq⟩ := it_succ hz
          unfold fX10_digest_L4 at hf
          dsimp only [un2] at hf
          refine lv_iload_n hx hb dX10_digest_211 rfl (lv_at hl 2 rfl) ?_
          refine lv_aload_n hx hb dX10_digest_212 rfl (lv_at hl 0 rfl) ?_
          refine va_get (D := G) (ci := 10) (v := .int t_spans) (C := RX10) (T := TX10) (N := 36) hx hb hts iwX10 hown hK hP 0 rfl rfl 22 (by decide) fl_165 (fun _ h9 => h9) rfl dX10_digest_213 ?_
          refine lv_icmp_ge (tgt := 263) hx hb dX10_digest_216 (by decide) (fun c33 => ?_) (fun c33 => ?_)
          · have hf := ift hf c33
            cases hf
            exact hx4_0 _ hq _ _ _ hP hD hS (lv_sub hl [0, 1] rfl)
          · have hf := iff_ hf c33
            refine lv_ldc2 (v := 31) hx hb hown kc_212 dX10_digest_219 ?_
            refine lv_ldc2 (v := 31) hx hb hown kc_212 dX10_digest_222 ?_
            refine lv_ldc2 (v := 31) hx hb hown kc_212 dX10_digest_225 ?_
            refine lv_lload_n hx hb dX10_digest_228 rfl (lv_at hl 1 rfl) ?_
            refine lv_lmul hx hb dX10_digest_229 ?_
            refine lv_aload_n hx hb dX10_digest_230 rfl (lv_at hl 0 rfl) ?_
            refine va_get (D := G) (ci := 10) (v := .ref t_spanLow_h) (C := RX10) (T := TX10) (N := 36) hx hb hts iwX10 hown hK hP 0 rfl rfl 23 (by decide) fl_31 (fun _ h9 => h9) rfl dX10_digest_231 ?_
            refine lv_iload_n hx hb dX10_digest_234 rfl (lv_at hl 2 rfl) ?_
            obtain ⟨h34, hf⟩ := gd_some hf
            refine va_iald hx hb hK hP 7 0 rfl rfl (bnd_in h34) dX10_digest_235 ?_
            refine lv_i2l (v := Int32.toInt64 (t_spanLow_a (Int32.toNatClampNeg u32))) hx hb dX10_digest_236 rfl ?_
            refine lv_ladd hx hb dX10_digest_237 ?_
            refine lv_lmul hx hb dX10_digest_238 ?_
            refine lv_aload_n hx hb dX10_digest_239 rfl (lv_at hl 0 rfl) ?_
            refine va_get (D := G) (ci := 10) (v := .ref t_spanHigh_h) (C := RX10) (T := TX10) (N := 36) hx hb hts iwX10 hown hK hP 0 rfl rfl 24 (by decide) fl_34 (fun _ h9 => h9) rfl dX10_digest_240 ?_
            refine lv_iload_n hx hb dX10_digest_243 rfl (lv_at hl 2 rfl) ?_
            obtain ⟨h35, hf⟩ := gd_some hf
            refine va_iald hx hb hK hP 8 0 rfl rfl (bnd_in h35) dX10_digest_244 ?_
            refine lv_i2l (v := Int32.toInt64 (t_spanHigh_a (Int32.toNatClampNeg u32))) hx hb dX10_digest_245 rfl ?_
            refine lv_ladd hx hb dX10_digest_246 ?_
            refine lv_lmul hx hb dX10_digest_247 ?_
            refine lv_aload_n hx hb dX10_digest_248 rfl (lv_at hl 0 rfl) ?_
            refine va_get (D := G) (ci := 10) (v := .ref t_spanAt_h) (C := RX10) (T := TX10) (N := 36) hx hb hts iwX10 hown hK hP 0 rfl rfl 25 (by decide) fl_37 (fun _ h9 => h9) rfl dX10_digest_249 ?_
            refine lv_iload_n hx hb dX10_digest_252 rfl (lv_at hl 2 rfl) ?_
            obtain ⟨h36, hf⟩ := gd_some hf
            refine va_iald hx hb hK hP 9 0 rfl rfl (bnd_in h36) dX10_digest_253 ?_
            refine lv_i2l (v := Int32.toInt64 (t_spanAt_a (Int32.toNatClampNeg u32))) hx hb dX10_digest_254 rfl ?_
            refine lv_ladd hx hb dX10_digest_255 ?_
            refine lv_topl (fun v37 ev37 => ?_)
            have hf := bv_at ev37 hf
            refine lv_lstore_n (lv' := [(1, .long v37), (0, .ref t_h), (3, .int u32)]) hx hb dX10_digest_256 rfl hl (by decide) rfl (fun ls hl => ?_)
            obtain ⟨v38, ev38⟩ : ∃ y : Int32, y = u32 + 1 := ⟨_, rfl⟩
            have hf := bv_at ev38 hf
            refine lv_iinc (v := v38) (lv' := [(3, .int v38), (1, .long v37), (0, .ref t_h)]) hx hb dX10_digest_257 hl (k := 2) rfl (by rw [ev38]; rfl) (by decide) rfl (fun ls hl => ?_)
            refine lv_goto (tgt := 211) hx hb dX10_digest_260 (by decide) ?_
            cases hf
            exact ih _ _ hq _ _ _ hP hD hS (lv_sub hl [2, 1, 0] rfl)
      exact hl4 _ _ _ ht4 _ _ _ hP hD hS (lv_sub hl [2, 1, 0] rfl)
    clear hf
    have hl2 : ∀ (n : Nat) (u11 : Int64) (u12 : Int32), it (fX10_digest_L2 t_edges_a t_lean_a t_word_a) n (u11, u12) = some x24 → ∀ (H : Heap) (locs : List Loc) (ls : Array Slot), va_P G vwCl [(t_h, .inr (10, [.int t_baseWay, .int t_slip, .int t_low, .int t_high, .int t_unlike, .int t_alone, .long t_above, .long t_below, .ref t_edges_h, .ref t_lean_h, .ref t_word_h, .int t_layers, .ref t_layer_h, .ref t_least_h, .int t_sights, .ref t_sight_h, .int t_shadows, .ref t_shadow_h, .long t_endAbove, .long t_endBelow, .long t_speedAbove, .long t_speedBelow, .int t_spans, .ref t_spanLow_h, .ref t_spanHigh_h, .ref t_spanAt_h, .int t_found, .ref t_numbers_h, .int t_pairs, .ref t_pair_h, .ref t_most_h, .int t_rows, .ref t_row_h, .int t_notes, .ref t_under_h, .ref t_agreed_h])), (t_edges_h, .inl (cI, 2, .inl t_edges_a)), (t_lean_h, .inl (cI, 16, .inl t_lean_a)), (t_word_h, .inl (cI, 16, .inl t_word_a)), (t_layer_h, .inl (cI, 6, .inl t_layer_a)), (t_sight_h, .inl (cI, 160, .inl t_sight_a)), (t_shadow_h, .inl (cI, 160, .inl t_shadow_a)), (t_spanLow_h, .inl (cI, 24, .inl t_spanLow_a)), (t_spanHigh_h, .inl (cI, 24, .inl t_spanHigh_a)), (t_spanAt_h, .inl (cI, 24, .inl t_spanAt_a)), (t_pair_h, .inl (cI, 120, .inl t_pair_a)), (t_row_h, .inl (cI, 800, .inl t_row_a)), (t_under_h, .inl (cI, 200, .inl t_under_a))] H → va_D A [(t_h, .inr (10, [.int t_baseWay, .int t_slip, .int t_low, .int t_high, .int t_unlike, .int t_alone, .long t_above, .long t_below, .ref t_edges_h, .ref t_lean_h, .ref t_word_h, .int t_layers, .ref t_layer_h, .ref t_least_h, .int t_sights, .ref t_sight_h, .int t_shadows, .ref t_shadow_h, .long t_endAbove, .long t_endBelow, .long t_speedAbove, .long t_speedBelow, .int t_spans, .ref t_spanLow_h, .ref t_spanHigh_h, .ref t_spanAt_h, .int t_found, .ref t_numbers_h, .int t_pairs, .ref t_pair_h, .ref t_most_h, .int t_rows, .ref t_row_h, .int t_notes, .ref t_under_h, .ref t_agreed_h])), (t_edges_h, .inl (cI, 2, .inl t_edges_a)), (t_lean_h, .inl (cI, 16, .inl t_lean_a)), (t_word_h, .inl (cI, 16, .inl t_word_a)), (t_layer_h, .inl (cI, 6, .inl t_layer_a)), (t_sight_h, .inl (cI, 160, .inl t_sight_a)), (t_shadow_h, .inl (cI, 160, .inl t_shadow_a)), (t_spanLow_h, .inl (cI, 24, .inl t_spanLow_a)), (t_spanHigh_h, .inl (cI, 24, .inl t_spanHigh_a)), (t_spanAt_h, .inl (cI, 24, .inl t_spanAt_a)), (t_pair_h, .inl (cI, 120, .inl t_pair_a)), (t_row_h, .inl (cI, 800, .inl t_row_a)), (t_under_h, .inl (cI, 200, .inl t_under_a))] → va_S A s.heap H locs → lv_has ls 5 [(0, .ref t_h), (1, .long u11), (3, .int u12)] → W p l e rmX10_digest s m args below meth c H locs 0 0 Q (F0 m 97 ls []) := by
      intro n
      induction n with
      | zero => intro u11 u12 hz; exact (it_zero hz).elim
      | succ n ih =>
        intro u11 u12 hz H locs ls hP hD hS hl
        obtain ⟨x9, hf, hq⟩ := it_succ hz
        unfold fX10_digest_L2 at hf
        dsimp only [un2] at hf
        refine lv_iload_n hx hb dX10_digest_97 rfl (lv_at hl 2 rfl) ?_
        refine lv_iconst (v := 2) hx hb dX10_digest_98 (by decide) ?_
        refine lv_icmp_ge (tgt := 166) hx hb dX10_digest_99 (by decide) (fun c13 => ?_) (fun c13 => ?_)
        · have hf := ift hf c13
          cases hf
          exact hx2_0 _ hq _ _ _ hP hD hS (lv_sub hl [0, 1] rfl)
        · have hf := iff_ hf c13
          refine lv_iconst (v := 0) hx hb dX10_digest_102 (by decide) ?_
          refine lv_istore (lv' := [(4, .int 0), (0, .ref t_h), (1, .long u11), (3, .int u12)]) hx hb dX10_digest_103 hl (by decide) rfl (fun ls hl => ?_)
          obtain ⟨x22, ht3, hf⟩ := ob_some hf
          have hx3_0 : ∀ (x229 : Int64), x229 = x22 → ∀ (H : Heap) (locs : List Loc) (ls : Array Slot), va_P G vwCl [(t_h, .inr (10, [.int t_baseWay, .int t_slip, .int t_low, .int t_high, .int t_unlike, .int t_alone, .long t_above, .long t_below, .ref t_edges_h, .ref t_lean_h, .ref t_word_h, .int t_layers, .ref t_layer_h, .ref t_least_h, .int t_sights, .ref t_sight_h, .int t_shadows, .ref t_shadow_h, .long t_endAbove, .long t_endBelow, .long t_speedAbove, .long t_speedBelow, .int t_spans, .ref t_spanLow_h, .ref t_spanHigh_h, .ref t_spanAt_h, .int t_found, .ref t_numbers_h, .int t_pairs, .ref t_pair_h, .ref t_most_h, .int t_rows, .ref t_row_h, .int t_notes, .ref t_under_h, .ref t_agreed_h])), (t_edges_h, .inl (cI, 2, .inl t_edges_a)), (t_lean_h, .inl (cI, 16, .inl t_lean_a)), (t_word_h, .inl (cI, 16, .inl t_word_a)), (t_layer_h, .inl (cI, 6, .inl t_layer_a)), (t_sight_h, .inl (cI, 160, .inl t_sight_a)), (t_shadow_h, .inl (cI, 160, .inl t_shadow_a)), (t_spanLow_h, .inl (cI, 24, .inl t_spanLow_a)), (t_spanHigh_h, .inl (cI, 24, .inl t_spanHigh_a)), (t_spanAt_h, .inl (cI, 24, .inl t_spanAt_a)), (t_pair_h, .inl (cI, 120, .inl t_pair_a)), (t_row_h, .inl (cI, 800, .inl t_row_a)), (t_under_h, .inl (cI, 200, .inl t_under_a))] H → va_D A [(t_h, .inr (10, [.int t_baseWay, .int t_slip, .int t_low, .int t_high, .int t_unlike, .int t_alone, .long t_above, .long t_below, .ref t_edges_h, .ref t_lean_h, .ref t_word_h, .int t_layers, .ref t_layer_h, .ref t_least_h, .int t_sights, .ref t_sight_h, .int t_shadows, .ref t_shadow_h, .long t_endAbove, .long t_endBelow, .long t_speedAbove, .long t_speedBelow, .int t_spans, .ref t_spanLow_h, .ref t_spanHigh_h, .ref t_spanAt_h, .int t_found, .ref t_numbers_h, .int t_pairs, .ref t_pair_h, .ref t_most_h, .int t_rows, .ref t_row_h, .int t_notes, .ref t_under_h, .ref t_agreed_h])), (t_edges_h, .inl (cI, 2, .inl t_edges_a)), (t_lean_h, .inl (cI, 16, .inl t_lean_a)), (t_word_h, .inl (cI, 16, .inl t_word_a)), (t_layer_h, .inl (cI, 6, .inl t_layer_a)), (t_sight_h, .inl (cI, 160, .inl t_sight_a)), (t_shadow_h, .inl (cI, 160, .inl t_shadow_a)), (t_spanLow_h, .inl (cI, 24, .inl t_spanLow_a)), (t_spanHigh_h, .inl (cI, 24, .inl t_spanHigh_a)), (t_spanAt_h, .inl (cI, 24, .inl t_spanAt_a)), (t_pair_h, .inl (cI, 120, .inl t_pair_a)), (t_row_h, .inl (cI, 800, .inl t_row_a)), (t_under_h, .inl (cI, 200, .inl t_under_a))] → va_S A s.heap H locs → lv_has ls 5 [(0, .ref t_h), (1, .long x229), (3, .int u12)] → W p l e rmX10_digest s m args below meth c H locs 0 0 Q (F0 m 160 ls []) := by
            intro x229 he H locs ls hP hD hS hl
            cases he
            obtain ⟨v23, ev23⟩ : ∃ y : Int32, y = u12 + 1 := ⟨_, rfl⟩
            have hf := bv_at ev23 hf
            refine lv_iinc (v := v23) (lv' := [(3, .int v23), (0, .ref t_h), (1, .long x22)]) hx hb dX10_digest_160 hl (k := 2) rfl (by rw [ev23]; rfl) (by decide) rfl (fun ls hl => ?_)
            refine lv_goto (tgt := 97) hx hb dX10_digest_163 (by decide) ?_
            cases hf
            exact ih _ _ hq _ _ _ hP hD hS (lv_sub hl [1, 2, 0] rfl)
          clear hf
          have hl3 : ∀ (n : Nat) (u14 : Int64) (u15 : Int32), it (fX10_digest_L3 u12 t_edges_a t_lean_a t_word_a) n (u14, u15) = some x22 → ∀ (H : Heap) (locs : List Loc) (ls : Array Slot), va_P G vwCl [(t_h, .inr (10, [.int t_baseWay, .int t_slip, .int t_low, .int t_high, .int t_unlike, .int t_alone, .long t_above, .long t_below, .ref t_edges_h, .ref t_lean_h, .ref t_word_h, .int t_layers, .ref t_layer_h, .ref t_least_h, .int t_sights, .ref t_sight_h, .int t_shadows, .ref t_shadow_h, .long t_endAbove, .long t_endBelow, .long t_speedAbove, .long t_speedBelow, .int t_spans, .ref t_spanLow_h, .ref t_spanHigh_h, .ref t_spanAt_h, .int t_found, .ref t_numbers_h, .int t_pairs, .ref t_pair_h, .ref t_most_h, .int t_rows, .ref t_row_h, .int t_notes, .ref t_under_h, .ref t_agreed_h])), (t_edges_h, .inl (cI, 2, .inl t_edges_a)), (t_lean_h, .inl (cI, 16, .inl t_lean_a)), (t_word_h, .inl (cI, 16, .inl t_word_a)), (t_layer_h, .inl (cI, 6, .inl t_layer_a)), (t_sight_h, .inl (cI, 160, .inl t_sight_a)), (t_shadow_h, .inl (cI, 160, .inl t_shadow_a)), (t_spanLow_h, .inl (cI, 24, .inl t_spanLow_a)), (t_spanHigh_h, .inl (cI, 24, .inl t_spanHigh_a)), (t_spanAt_h, .inl (cI, 24, .inl t_spanAt_a)), (t_pair_h, .inl (cI, 120, .inl t_pair_a)), (t_row_h, .inl (cI, 800, .inl t_row_a)), (t_under_h, .inl (cI, 200, .inl t_under_a))] H → va_D A [(t_h, .inr (10, [.int t_baseWay, .int t_slip, .int t_low, .int t_high, .int t_unlike, .int t_alone, .long t_above, .long t_below, .ref t_edges_h, .ref t_lean_h, .ref t_word_h, .int t_layers, .ref t_layer_h, .ref t_least_h, .int t_sights, .ref t_sight_h, .int t_shadows, .ref t_shadow_h, .long t_endAbove, .long t_endBelow, .long t_speedAbove, .long t_speedBelow, .int t_spans, .ref t_spanLow_h, .ref t_spanHigh_h, .ref t_spanAt_h, .int t_found, .ref t_numbers_h, .int t_pairs, .ref t_pair_h, .ref t_most_h, .int t_rows, .ref t_row_h, .int t_notes, .ref t_under_h, .ref t_agreed_h])), (t_edges_h, .inl (cI, 2, .inl t_edges_a)), (t_lean_h, .inl (cI, 16, .inl t_lean_a)), (t_word_h, .inl (cI, 16, .inl t_word_a)), (t_layer_h, .inl (cI, 6, .inl t_layer_a)), (t_sight_h, .inl (cI, 160, .inl t_sight_a)), (t_shadow_h, .inl (cI, 160, .inl t_shadow_a)), (t_spanLow_h, .inl (cI, 24, .inl t_spanLow_a)), (t_spanHigh_h, .inl (cI, 24, .inl t_spanHigh_a)), (t_spanAt_h, .inl (cI, 24, .inl t_spanAt_a)), (t_pair_h, .inl (cI, 120, .inl t_pair_a)), (t_row_h, .inl (cI, 800, .inl t_row_a)), (t_under_h, .inl (cI, 200, .inl t_under_a))] → va_S A s.heap H locs → lv_has ls 5 [(0, .ref t_h), (1, .long u14), (3, .int u12), (4, .int u15)] → W p l e rmX10_digest s m args below meth c H locs 0 0 Q (F0 m 105 ls []) := by
            intro n
            induction n with
            | zero => intro u14 u15 hz; exact (it_zero hz).elim
            | succ n ih =>
              intro u14 u15 hz H locs ls hP hD hS hl
              obtain ⟨x9, hf, hq⟩ := it_succ hz
              unfold fX10_digest_L3 at hf
              dsimp only [un2] at hf
              refine lv_iload hx hb dX10_digest_105 (lv_at hl 3 rfl) ?_
              refine lv_aload_n hx hb dX10_digest_107 rfl (lv_at hl 0 rfl) ?_
              refine va_get (D := G) (ci := 10) (v := .ref t_edges_h) (C := RX10) (T := TX10) (N := 36) hx hb hts iwX10 hown hK hP 0 rfl rfl 8 (by decide) fl_7 (fun _ h9 => h9) rfl dX10_digest_108 ?_
              refine lv_iload_n hx hb dX10_digest_111 rfl (lv_at hl 2 rfl) ?_
              obtain ⟨h16, hf⟩ := gd_some hf
              refine va_iald hx hb hK hP 1 0 rfl rfl (bnd_in h16) dX10_digest_112 ?_
              refine lv_icmp_ge (tgt := 160) hx hb dX10_digest_113 (by decide) (fun c17 => ?_) (fun c17 => ?_)
              · have hf := ift hf c17
                cases hf
                exact hx3_0 _ hq _ _ _ hP hD hS (lv_sub hl [0, 1, 2] rfl)
              · have hf := iff_ hf c17
                refine lv_ldc2 (v := 31) hx hb hown kc_212 dX10_digest_116 ?_
                refine lv_ldc2 (v := 31) hx hb hown kc_212 dX10_digest_119 ?_
                refine lv_lload_n hx hb dX10_digest_122 rfl (lv_at hl 1 rfl) ?_
                refine lv_lmul hx hb dX10_digest_123 ?_
                refine lv_aload_n hx hb dX10_digest_124 rfl (lv_at hl 0 rfl) ?_
                refine va_get (D := G) (ci := 10) (v := .ref t_lean_h) (C := RX10) (T := TX10) (N := 36) hx hb hts iwX10 hown hK hP 0 rfl rfl 9 (by decide) fl_13 (fun _ h9 => h9) rfl dX10_digest_125 ?_
                refine lv_bipush (v := 8) hx hb dX10_digest_128 (by decide) ?_
                refine lv_iload_n hx hb dX10_digest_130 rfl (lv_at hl 2 rfl) ?_
                refine lv_imul hx hb dX10_digest_131 ?_
                refine lv_iload hx hb dX10_digest_132 (lv_at hl 3 rfl) ?_
                refine lv_iadd hx hb dX10_digest_134 ?_
                obtain ⟨h18, hf⟩ := gd_some hf
                refine va_iald hx hb hK hP 2 0 rfl rfl (bnd_in h18) dX10_digest_135 ?_
                refine lv_i2l (v := Int32.toInt64 (t_lean_a (Int32.toNatClampNeg ((8 * u12) + u15)))) hx hb dX10_digest_136 rfl ?_
                refine lv_ladd hx hb dX10_digest_137 ?_
                refine lv_lmul hx hb dX10_digest_138 ?_
                refine lv_aload_n hx hb dX10_digest_139 rfl (lv_at hl 0 rfl) ?_
                refine va_get (D := G) (ci := 10) (v := .ref t_word_h) (C := RX10) (T := TX10) (N := 36) hx hb hts iwX10 hown hK hP 0 rfl rfl 10 (by decide) fl_16 (fun _ h9 => h9) rfl dX10_digest_140 ?_
                refine lv_bipush (v := 8) hx hb dX10_digest_143 (by decide) ?_
                refine lv_iload_n hx hb dX10_digest_145 rfl (lv_at hl 2 rfl) ?_
                refine lv_imul hx hb dX10_digest_146 ?_
                refine lv_iload hx hb dX10_digest_147 (lv_at hl 3 rfl) ?_
                refine lv_iadd hx hb dX10_digest_149 ?_
                obtain ⟨h19, hf⟩ := gd_some hf
                refine va_iald hx hb hK hP 3 0 rfl rfl (bnd_in h19) dX10_digest_150 ?_
                refine lv_i2l (v := Int32.toInt64 (t_word_a (Int32.toNatClampNeg ((8 * u12) + u15)))) hx hb dX10_digest_151 rfl ?_
                refine lv_ladd hx hb dX10_digest_152 ?_
                refine lv_topl (fun v20 ev20 => ?_)
                have hf := bv_at ev20 hf
                refine lv_lstore_n (lv' := [(1, .long v20), (0, .ref t_h), (3, .int u12), (4, .int u15)]) hx hb dX10_digest_153 rfl hl (by decide) rfl (fun ls hl => ?_)
                obtain ⟨v21, ev21⟩ : ∃ y : Int32, y = u15 + 1 := ⟨_, rfl⟩
                have hf := bv_at ev21 hf
                refine lv_iinc (v := v21) (lv' := [(4, .int v21), (1, .long v20), (0, .ref t_h), (3, .int u12)]) hx hb dX10_digest_154 hl (k := 3) rfl (by rw [ev21]; rfl) (by decide) rfl (fun ls hl => ?_)
                refine lv_goto (tgt := 105) hx hb dX10_digest_157 (by decide) ?_
                cases hf
                exact ih _ _ hq _ _ _ hP hD hS (lv_sub hl [2, 1, 3, 0] rfl)
          exact hl3 _ _ _ ht3 _ _ _ hP hD hS (lv_sub hl [1, 2, 3, 0] rfl)
    exact hl2 _ _ _ ht2 _ _ _ hP hD hS (lv_sub hl [2, 1, 0] rfl)
  clear hf
  have hl1 : ∀ (n : Nat) (u1 : Int64) (u2 : Int32), it (fX10_digest_L1 t_layers t_sights t_shadows t_spans t_pairs t_rows t_notes t_edges_a) n (u1, u2) = some x8 → ∀ (H : Heap) (locs : List Loc) (ls : Array Slot), va_P G vwCl [(t_h, .inr (10, [.int t_baseWay, .int t_slip, .int t_low, .int t_high, .int t_unlike, .int t_alone, .long t_above, .long t_below, .ref t_edges_h, .ref t_lean_h, .ref t_word_h, .int t_layers, .ref t_layer_h, .ref t_least_h, .int t_sights, .ref t_sight_h, .int t_shadows, .ref t_shadow_h, .long t_endAbove, .long t_endBelow, .long t_speedAbove, .long t_speedBelow, .int t_spans, .ref t_spanLow_h, .ref t_spanHigh_h, .ref t_spanAt_h, .int t_found, .ref t_numbers_h, .int t_pairs, .ref t_pair_h, .ref t_most_h, .int t_rows, .ref t_row_h, .int t_notes, .ref t_under_h, .ref t_agreed_h])), (t_edges_h, .inl (cI, 2, .inl t_edges_a)), (t_lean_h, .inl (cI, 16, .inl t_lean_a)), (t_word_h, .inl (cI, 16, .inl t_word_a)), (t_layer_h, .inl (cI, 6, .inl t_layer_a)), (t_sight_h, .inl (cI, 160, .inl t_sight_a)), (t_shadow_h, .inl (cI, 160, .inl t_shadow_a)), (t_spanLow_h, .inl (cI, 24, .inl t_spanLow_a)), (t_spanHigh_h, .inl (cI, 24, .inl t_spanHigh_a)), (t_spanAt_h, .inl (cI, 24, .inl t_spanAt_a)), (t_pair_h, .inl (cI, 120, .inl t_pair_a)), (t_row_h, .inl (cI, 800, .inl t_row_a)), (t_under_h, .inl (cI, 200, .inl t_under_a))] H → va_D A [(t_h, .inr (10, [.int t_baseWay, .int t_slip, .int t_low, .int t_high, .int t_unlike, .int t_alone, .long t_above, .long t_below, .ref t_edges_h, .ref t_lean_h, .ref t_word_h, .int t_layers, .ref t_layer_h, .ref t_least_h, .int t_sights, .ref t_sight_h, .int t_shadows, .ref t_shadow_h, .long t_endAbove, .long t_endBelow, .long t_speedAbove, .long t_speedBelow, .int t_spans, .ref t_spanLow_h, .ref t_spanHigh_h, .ref t_spanAt_h, .int t_found, .ref t_numbers_h, .int t_pairs, .ref t_pair_h, .ref t_most_h, .int t_rows, .ref t_row_h, .int t_notes, .ref t_under_h, .ref t_agreed_h])), (t_edges_h, .inl (cI, 2, .inl t_edges_a)), (t_lean_h, .inl (cI, 16, .inl t_lean_a)), (t_word_h, .inl (cI, 16, .inl t_word_a)), (t_layer_h, .inl (cI, 6, .inl t_layer_a)), (t_sight_h, .inl (cI, 160, .inl t_sight_a)), (t_shadow_h, .inl (cI, 160, .inl t_shadow_a)), (t_spanLow_h, .inl (cI, 24, .inl t_spanLow_a)), (t_spanHigh_h, .inl (cI, 24, .inl t_spanHigh_a)), (t_spanAt_h, .inl (cI, 24, .inl t_spanAt_a)), (t_pair_h, .inl (cI, 120, .inl t_pair_a)), (t_row_h, .inl (cI, 800, .inl t_row_a)), (t_under_h, .inl (cI, 200, .inl t_under_a))] → va_S A s.heap H locs → lv_has ls 5 [(0, .ref t_h), (1, .long u1), (3, .int u2)] → W p l e rmX10_digest s m args below meth c H locs 0 0 Q (F0 m 6 ls []) := by
    intro n
    induction n with
    | zero => intro u1 u2 hz; exact (it_zero hz).elim
    | succ n ih =>
      intro u1 u2 hz H locs ls hP hD hS hl
      obtain ⟨x9, hf, hq⟩ := it_succ hz
      unfold fX10_digest_L1 at hf
      dsimp only [un2] at hf
      refine lv_iload_n hx hb dX10_digest_6 rfl (lv_at hl 2 rfl) ?_
      refine lv_bipush (v := 9) hx hb dX10_digest_7 (by decide) ?_
      refine lv_icmp_ge (tgt := 31) hx hb dX10_digest_9 (by decide) (fun c3 => ?_) (fun c3 => ?_)
      · have hf := ift hf c3
        cases hf
        exact hx1_0 _ hq _ _ _ hP hD hS (lv_sub hl [0, 1] rfl)
      · have hf := iff_ hf c3
        refine lv_ldc2 (v := 31) hx hb hown kc_212 dX10_digest_12 ?_
        refine lv_lload_n hx hb dX10_digest_15 rfl (lv_at hl 1 rfl) ?_
        refine lv_lmul hx hb dX10_digest_16 ?_
        refine lv_aload_n hx hb dX10_digest_17 rfl (lv_at hl 0 rfl) ?_
        refine lv_iload_n hx hb dX10_digest_18 rfl (lv_at hl 2 rfl) ?_
        obtain ⟨r4, hc5, hf⟩ := ob_some hf
        refine af_iR (va_runV (As := [.int u2]) (rest := [.long (31 * u1)]) ⟨hx, hb, hml, hown, hts⟩ (k_X10_countOf l G cI cJ (t_h := t_h) (t_edges_h := t_edges_h) (t_lean_h := t_lean_h) (t_word_h := t_word_h) (t_layer_h := t_layer_h) (t_least_h := t_least_h) (t_sight_h := t_sight_h) (t_shadow_h := t_shadow_h) (t_spanLow_h := t_spanLow_h) (t_spanHigh_h := t_spanHigh_h) (t_spanAt_h := t_spanAt_h) (t_numbers_h := t_numbers_h) (t_pair_h := t_pair_h) (t_most_h := t_most_h) (t_row_h := t_row_h) (t_under_h := t_under_h) (t_agreed_h := t_agreed_h) (t_baseWay := t_baseWay) (t_slip := t_slip) (t_low := t_low) (t_high := t_high) (t_unlike := t_unlike) (t_alone := t_alone) (t_above := t_above) (t_below := t_below) (t_layers := t_layers) (t_sights := t_sights) (t_shadows := t_shadows) (t_endAbove := t_endAbove) (t_endBelow := t_endBelow) (t_speedAbove := t_speedAbove) (t_speedBelow := t_speedBelow) (t_spans := t_spans) (t_found := t_found) (t_pairs := t_pairs) (t_rows := t_rows) (t_notes := t_notes) (t_edges_a := t_edges_a) (x1 := u2) (sz := _) (hf := hc5)) (cwV 1 hts gX10_digest_X10_countOf rfl rfl rfl (by decide +kernel) ⟨Nat.le_of_ble_eq_true rfl, Nat.le_of_ble_eq_true rfl⟩) (preV0 (ci := 10) (q0 := 0) (C := RX10) (wc := [(t_h, .inr (10, [.int t_baseWay, .int t_slip, .int t_low, .int t_high, .int t_unlike, .int t_alone, .long t_above, .long t_below, .ref t_edges_h, .ref t_lean_h, .ref t_word_h, .int t_layers, .ref t_layer_h, .ref t_least_h, .int t_sights, .ref t_sight_h, .int t_shadows, .ref t_shadow_h, .long t_endAbove, .long t_endBelow, .long t_speedAbove, .long t_speedBelow, .int t_spans, .ref t_spanLow_h, .ref t_spanHigh_h, .ref t_spanAt_h, .int t_found, .ref t_numbers_h, .int t_pairs, .ref t_pair_h, .ref t_most_h, .int t_rows, .ref t_row_h, .int t_notes, .ref t_under_h, .ref t_agreed_h])), (t_edges_h, .inl (cI, 2, .inl t_edges_a))]) hK hP hD hN [0, 1] rfl rfl (by decide) rfl rfl) rfl rfl hl.1 rfl (lv_room (Nat.le_of_ble_eq_true rfl)) dX10_digest_19 ⟨Nat.zero_le _, Nat.zero_le _⟩) hP hD hS hA [0, 1] rfl (fun H locs hP hS => ?_)
        refine lv_i2l (v := Int32.toInt64 r4) hx hb dX10_digest_22 rfl ?_
        refine lv_ladd hx hb dX10_digest_23 ?_
        refine lv_topl (fun v6 ev6 => ?_)
        have hf := bv_at ev6 hf
        refine lv_lstore_n (lv' := [(1, .long v6), (0, .ref t_h), (3, .int u2)]) hx hb dX10_digest_24 rfl hl (by decide) rfl (fun ls hl => ?_)
        obtain ⟨v7, ev7⟩ : ∃ y : Int32, y = u2 + 1 := ⟨_, rfl⟩
        have hf := bv_at ev7 hf
        refine lv_iinc (v := v7) (lv' := [(3, .int v7), (1, .long v6), (0, .ref t_h)]) hx hb dX10_digest_25 hl (k := 2) rfl (by rw [ev7]; rfl) (by decide) rfl (fun ls hl => ?_)
        refine lv_goto (tgt := 6) hx hb dX10_digest_28 (by decide) ?_
        cases hf
        exact ih _ _ hq _ _ _ hP hD hS (lv_sub hl [2, 1, 0] rfl)
  exact hl1 _ _ _ ht1 _ _ _ hP hD hS (lv_sub hl [2, 1, 0] rfl)
