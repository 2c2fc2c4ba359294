set_option maxRecDepth 20000 in
theorem ggX10_span_X10_in : GoodIn wsX10_span wsX10_in := goodIn_r _ [9] (by decide +kernel) (by decide +kernel)
set_option maxRecDepth 20000 in
theorem gX10_span_X10_in : GoodIn wsX10_span (va_wsS RX10 89 yX10_in wsX10_in) := goodIn_app (goodIn_of _ (by decide +kernel)) ggX10_span_X10_in
theorem dX10_span_0 : decode cX10_span 0 = .ok (.iload_n 1, 1) := by decide +kernel
theorem dX10_span_1 : decode cX10_span 1 = .ok (.iconst 0, 1) := by decide +kernel
theorem dX10_span_2 : decode cX10_span 2 = .ok (.ldc 88, 2) := by decide +kernel
theorem dX10_span_4 : decode cX10_span 4 = .ok (.invokestatic 89, 3) := by decide +kernel
theorem dX10_span_7 : decode cX10_span 7 = .ok (.ifCond .eq 26, 3) := by decide +kernel
theorem dX10_span_10 : decode cX10_span 10 = .ok (.iload_n 2, 1) := by decide +kernel
theorem dX10_span_11 : decode cX10_span 11 = .ok (.iload_n 1, 1) := by decide +kernel
theorem dX10_span_12 : decode cX10_span 12 = .ok (.ldc 88, 2) := by decide +kernel
theorem dX10_span_14 : decode cX10_span 14 = .ok (.invokestatic 89, 3) := by decide +kernel
theorem dX10_span_17 : decode cX10_span 17 = .ok (.ifCond .eq 16, 3) := by decide +kernel
theorem dX10_span_20 : decode cX10_span 20 = .ok (.iload_n 3, 1) := by decide +kernel
theorem dX10_span_21 : decode cX10_span 21 = .ok (.sipush (-10000), 3) := by decide +kernel
theorem dX10_span_24 : decode cX10_span 24 = .ok (.sipush 10000, 3) := by decide +kernel
theorem dX10_span_27 : decode cX10_span 27 = .ok (.invokestatic 89, 3) := by decide +kernel
theorem dX10_span_30 : decode cX10_span 30 = .ok (.ifCond .ne 6, 3) := by decide +kernel
theorem dX10_span_33 : decode cX10_span 33 = .ok (.bipush (-2), 2) := by decide +kernel
theorem dX10_span_35 : decode cX10_span 35 = .ok (.ireturn, 1) := by decide +kernel
theorem dX10_span_36 : decode cX10_span 36 = .ok (.aload_n 0, 1) := by decide +kernel
theorem dX10_span_37 : decode cX10_span 37 = .ok (.getfield 165, 3) := by decide +kernel
theorem dX10_span_40 : decode cX10_span 40 = .ok (.bipush 24, 2) := by decide +kernel
theorem dX10_span_42 : decode cX10_span 42 = .ok (.if_icmp .ne 6, 3) := by decide +kernel
theorem dX10_span_45 : decode cX10_span 45 = .ok (.bipush (-4), 2) := by decide +kernel
theorem dX10_span_47 : decode cX10_span 47 = .ok (.ireturn, 1) := by decide +kernel
theorem dX10_span_48 : decode cX10_span 48 = .ok (.aload_n 0, 1) := by decide +kernel
theorem dX10_span_49 : decode cX10_span 49 = .ok (.getfield 31, 3) := by decide +kernel
theorem dX10_span_52 : decode cX10_span 52 = .ok (.aload_n 0, 1) := by decide +kernel
theorem dX10_span_53 : decode cX10_span 53 = .ok (.getfield 165, 3) := by decide +kernel
theorem dX10_span_56 : decode cX10_span 56 = .ok (.iload_n 1, 1) := by decide +kernel
theorem dX10_span_57 : decode cX10_span 57 = .ok (.iastore, 1) := by decide +kernel
theorem dX10_span_58 : decode cX10_span 58 = .ok (.aload_n 0, 1) := by decide +kernel
theorem dX10_span_59 : decode cX10_span 59 = .ok (.getfield 34, 3) := by decide +kernel
theorem dX10_span_62 : decode cX10_span 62 = .ok (.aload_n 0, 1) := by decide +kernel
theorem dX10_span_63 : decode cX10_span 63 = .ok (.getfield 165, 3) := by decide +kernel
theorem dX10_span_66 : decode cX10_span 66 = .ok (.iload_n 2, 1) := by decide +kernel
theorem dX10_span_67 : decode cX10_span 67 = .ok (.iastore, 1) := by decide +kernel
theorem dX10_span_68 : decode cX10_span 68 = .ok (.aload_n 0, 1) := by decide +kernel
theorem dX10_span_69 : decode cX10_span 69 = .ok (.getfield 37, 3) := by decide +kernel
theorem dX10_span_72 : decode cX10_span 72 = .ok (.aload_n 0, 1) := by decide +kernel
theorem dX10_span_73 : decode cX10_span 73 = .ok (.getfield 165, 3) := by decide +kernel
theorem dX10_span_76 : decode cX10_span 76 = .ok (.iload_n 3, 1) := by decide +kernel
theorem dX10_span_77 : decode cX10_span 77 = .ok (.iastore, 1) := by decide +kernel
theorem dX10_span_78 : decode cX10_span 78 = .ok (.aload_n 0, 1) := by decide +kernel
theorem dX10_span_79 : decode cX10_span 79 = .ok (.dup, 1) := by decide +kernel
theorem dX10_span_80 : decode cX10_span 80 = .ok (.getfield 165, 3) := by decide +kernel
theorem dX10_span_83 : decode cX10_span 83 = .ok (.iconst 1, 1) := by decide +kernel
theorem dX10_span_84 : decode cX10_span 84 = .ok (.iadd, 1) := by decide +kernel
theorem dX10_span_85 : decode cX10_span 85 = .ok (.putfield 165, 3) := by decide +kernel
theorem dX10_span_88 : decode cX10_span 88 = .ok (.aload_n 0, 1) := by decide +kernel
theorem dX10_span_89 : decode cX10_span 89 = .ok (.getfield 165, 3) := by decide +kernel
theorem dX10_span_92 : decode cX10_span 92 = .ok (.ireturn, 1) := by decide +kernel
set_option maxRecDepth 100000 in
def fX10_span (x1 : Int32) (x2 : Int32) (x3 : Int32) (t_spans : Int32) (t_spanLow_a : Nat → Int32) (t_spanHigh_a : Nat → Int32) (t_spanAt_a : Nat → Int32) : Option (Int32 × Int32 × (Nat → Int32) × (Nat → Int32) × (Nat → Int32)) :=
  ob (fX10_in x1 0 100000) fun r1 =>
  if (b2i r1) = 0 then
    some ((-2), t_spans, t_spanLow_a, t_spanHigh_a, t_spanAt_a)
  else
    ob (fX10_in x2 x1 100000) fun r4 =>
    if (b2i r4) = 0 then
      some ((-2), t_spans, t_spanLow_a, t_spanHigh_a, t_spanAt_a)
    else
      ob (fX10_in x3 (-10000) 10000) fun r7 =>
      if (b2i r7) = 0 then
        some ((-2), t_spans, t_spanLow_a, t_spanHigh_a, t_spanAt_a)
      else
        if t_spans = 24 then
          some ((-4), t_spans, t_spanLow_a, t_spanHigh_a, t_spanAt_a)
        else
          gd (bnd t_spans 24) <|
          bv (upd t_spanLow_a (Int32.toNatClampNeg t_spans) x1) fun a12 =>
          gd (bnd t_spans 24) <|
          bv (upd t_spanHigh_a (Int32.toNatClampNeg t_spans) x2) fun a14 =>
          gd (bnd t_spans 24) <|
          bv (upd t_spanAt_a (Int32.toNatClampNeg t_spans) x3) fun a16 =>
          bv (t_spans + 1) fun v17 =>
          some (v17, v17, a12, a14, a16)
abbrev rmX10_span : Room := { frames := 1, cells := 0, slots := 0, locals := 22 }
theorem iwX10_span_X10 : ∀ w ∈ u_ws RX10 TX10 36, w ∈ wsX10_span := by decide +kernel
set_option maxHeartbeats 4000000 in
set_option maxRecDepth 100000 in
theorem k_X10_span (l : Launch) (G : va_G) (cI cJ : ClassId) (t_h t_edges_h t_lean_h t_word_h t_layer_h t_least_h t_sight_h t_shadow_h t_spanLow_h t_spanHigh_h t_spanAt_h t_numbers_h t_pair_h t_most_h t_row_h t_under_h t_agreed_h : Nat) (sz : Nat) (t_baseWay : Int32) (t_slip : Int32) (t_low : Int32) (t_high : Int32) (t_unlike : Int32) (t_alone : Int32) (t_above : Int64) (t_below : Int64) (t_layers : Int32) (t_sights : Int32) (t_shadows : Int32) (t_endAbove : Int64) (t_endBelow : Int64) (t_speedAbove : Int64) (t_speedBelow : Int64) (t_spans : Int32) (t_found : Int32) (t_pairs : Int32) (t_rows : Int32) (t_notes : Int32) (t_spanLow_a : Nat → Int32) (t_spanHigh_a : Nat → Int32) (t_spanAt_a : Nat → Int32) (x1 : Int32) (x2 : Int32) (x3 : Int32) {o_r : Int32} {o_t_spans : Int32} {o_t_spanLow_a : Nat → Int32} {o_t_spanHigh_a : Nat → Int32} {o_t_spanAt_a : Nat → Int32} (hf : fX10_span x1 x2 x3 t_spans t_spanLow_a t_spanHigh_a t_spanAt_a = some (o_r, o_t_spans, o_t_spanLow_a, o_t_spanHigh_a, o_t_spanAt_a)) : MetI l yX10_span wsX10_span rmX10_span [.ref t_h, .int x1, .int x2, .int x3] G cI cJ [(t_h, .inr (10, [.int t_baseWay, .int t_slip, .int t_low, .int t_high, .int t_unlike, .int t_alone, .long t_above, .long t_below, .ref t_edges_h, .ref t_lean_h, .ref t_word_h, .int t_layers, .ref t_layer_h, .ref t_least_h, .int t_sights, .ref t_sight_h, .int t_shadows, .ref t_shadow_h, .long t_endAbove, .long t_endBelow, .long t_speedAbove, .long t_speedBelow, .int t_spans, .ref t_spanLow_h, .ref t_spanHigh_h, .ref t_spanAt_h, .int t_found, .ref t_numbers_h, .int t_pairs, .ref t_pair_h, .ref t_most_h, .int t_rows, .ref t_row_h, .int t_notes, .ref t_under_h, .ref t_agreed_h])), (t_spanLow_h, .inl (cI, 24, .inl t_spanLow_a)), (t_spanHigh_h, .inl (cI, 24, .inl t_spanHigh_a)), (t_spanAt_h, .inl (cI, 24, .inl t_spanAt_a))] [(t_h, .inr (10, [.int t_baseWay, .int t_slip, .int t_low, .int t_high, .int t_unlike, .int t_alone, .long t_above, .long t_below, .ref t_edges_h, .ref t_lean_h, .ref t_word_h, .int t_layers, .ref t_layer_h, .ref t_least_h, .int t_sights, .ref t_sight_h, .int t_shadows, .ref t_shadow_h, .long t_endAbove, .long t_endBelow, .long t_speedAbove, .long t_speedBelow, .int o_t_spans, .ref t_spanLow_h, .ref t_spanHigh_h, .ref t_spanAt_h, .int t_found, .ref t_numbers_h, .int t_pairs, .ref t_pair_h, .ref t_most_h, .int t_rows, .ref t_row_h, .int t_notes, .ref t_under_h, .ref t_agreed_h])), (t_spanLow_h, .inl (cI, 24, .inl o_t_spanLow_a)), (t_spanHigh_h, .inl (cI, 24, .inl o_t_spanHigh_a)), (t_spanAt_h, .inl (cI, 24, .inl o_t_spanAt_a))] sz o_r := by
  refine en_0 (l := l) (y := yX10_span) (wsl := wsX10_span) (rm := rmX10_span) (av := [.ref t_h, .int x1, .int x2, .int x3]) (G := G) (cI := cI) (cJ := cJ) (w0 := [(t_h, .inr (10, [.int t_baseWay, .int t_slip, .int t_low, .int t_high, .int t_unlike, .int t_alone, .long t_above, .long t_below, .ref t_edges_h, .ref t_lean_h, .ref t_word_h, .int t_layers, .ref t_layer_h, .ref t_least_h, .int t_sights, .ref t_sight_h, .int t_shadows, .ref t_shadow_h, .long t_endAbove, .long t_endBelow, .long t_speedAbove, .long t_speedBelow, .int t_spans, .ref t_spanLow_h, .ref t_spanHigh_h, .ref t_spanAt_h, .int t_found, .ref t_numbers_h, .int t_pairs, .ref t_pair_h, .ref t_most_h, .int t_rows, .ref t_row_h, .int t_notes, .ref t_under_h, .ref t_agreed_h])), (t_spanLow_h, .inl (cI, 24, .inl t_spanLow_a)), (t_spanHigh_h, .inl (cI, 24, .inl t_spanHigh_a)), (t_spanAt_h, .inl (cI, 24, .inl t_spanAt_a))]) (sz := sz) (Qf := fun A => Qi0 G cI cJ [(t_h, .inr (10, [.int t_baseWay, .int t_slip, .int t_low, .int t_high, .int t_unlike, .int t_alone, .long t_above, .long t_below, .ref t_edges_h, .ref t_lean_h, .ref t_word_h, .int t_layers, .ref t_layer_h, .ref t_least_h, .int t_sights, .ref t_sight_h, .int t_shadows, .ref t_shadow_h, .long t_endAbove, .long t_endBelow, .long t_speedAbove, .long t_speedBelow, .int o_t_spans, .ref t_spanLow_h, .ref t_spanHigh_h, .ref t_spanAt_h, .int t_found, .ref t_numbers_h, .int t_pairs, .ref t_pair_h, .ref t_most_h, .int t_rows, .ref t_row_h, .int t_notes, .ref t_under_h, .ref t_agreed_h])), (t_spanLow_h, .inl (cI, 24, .inl o_t_spanLow_a)), (t_spanHigh_h, .inl (cI, 24, .inl o_t_spanHigh_a)), (t_spanAt_h, .inl (cI, 24, .inl o_t_spanAt_a))] o_r A) (cc := cX10_span) (maxL := 4) (ret := (some .int)) RX10 (by decide +kernel) rfl rfl (Nat.le_of_ble_eq_true rfl) ?_
  intro p e s m args below meth c A ls Q hQ hx hb hr hts hown hlocks hml hN hK hP hD hS hA hl
  have hl : lv_has ls 4 [(0, .ref t_h), (1, .int x1), (2, .int x2), (3, .int x3)] := hl
  have iwX10 := iwX10_span_X10
  have fl_31 := hts (.fieldLink RX10 31 "CloudOfficeModel" "spanLow" "[I") (by decide +kernel)
  have fl_34 := hts (.fieldLink RX10 34 "CloudOfficeModel" "spanHigh" "[I") (by decide +kernel)
  have fl_37 := hts (.fieldLink RX10 37 "CloudOfficeModel" "spanAt" "[I") (by decide +kernel)
  have fl_165 := hts (.fieldLink RX10 165 "CloudOfficeModel" "spans" "I") (by decide +kernel)
  have kc_88 := hts (.constant RX10 88 (100000)) (by decide +kernel)
  have hret : ∀ (o_r9 : Int32) (o_t_spans9 : Int32) (o_t_spanLow_a9 : Nat → Int32) (o_t_spanHigh_a9 : Nat → Int32) (o_t_spanAt_a9 : Nat → Int32) (pc : Nat) (H : Heap) (locs : List Loc) (ls : Array Slot), decode cX10_span pc = .ok (.ireturn, 1) → some (o_r9, o_t_spans9, o_t_spanLow_a9, o_t_spanHigh_a9, o_t_spanAt_a9) = some (o_r, o_t_spans, o_t_spanLow_a, o_t_spanHigh_a, o_t_spanAt_a) → va_P G vwCl [(t_h, .inr (10, [.int t_baseWay, .int t_slip, .int t_low, .int t_high, .int t_unlike, .int t_alone, .long t_above, .long t_below, .ref t_edges_h, .ref t_lean_h, .ref t_word_h, .int t_layers, .ref t_layer_h, .ref t_least_h, .int t_sights, .ref t_sight_h, .int t_shadows, .ref t_shadow_h, .long t_endAbove, .long t_endBelow, .long t_speedAbove, .long t_speedBelow, .int o_t_spans9, .ref t_spanLow_h, .ref t_spanHigh_h, .ref t_spanAt_h, .int t_found, .ref t_numbers_h, .int t_pairs, .ref t_pair_h, .ref t_most_h, .int t_rows, .ref t_row_h, .int t_notes, .ref t_under_h, .ref t_agreed_h])), (t_spanLow_h, .inl (cI, 24, .inl o_t_spanLow_a9)), (t_spanHigh_h, .inl (cI, 24, .inl o_t_spanHigh_a9)), (t_spanAt_h, .inl (cI, 24, .inl o_t_spanAt_a9))] H → va_D A [(t_h, .inr (10, [.int t_baseWay, .int t_slip, .int t_low, .int t_high, .int t_unlike, .int t_alone, .long t_above, .long t_below, .ref t_edges_h, .ref t_lean_h, .ref t_word_h, .int t_layers, .ref t_layer_h, .ref t_least_h, .int t_sights, .ref t_sight_h, .int t_shadows, .ref t_shadow_h, .long t_endAbove, .long t_endBelow, .long t_speedAbove, .long t_speedBelow, .int o_t_spans9, .ref t_spanLow_h, .ref t_spanHigh_h, .ref t_spanAt_h, .int t_found, .ref t_numbers_h, .int t_pairs, .ref t_pair_h, .ref t_most_h, .int t_rows, .ref t_row_h, .int t_notes, .ref t_under_h, .ref t_agreed_h])), (t_spanLow_h, .inl (cI, 24, .inl o_t_spanLow_a9)), (t_spanHigh_h, .inl (cI, 24, .inl o_t_spanHigh_a9)), (t_spanAt_h, .inl (cI, 24, .inl o_t_spanAt_a9))] → va_S A s.heap H locs → W p l e rmX10_span s m args below meth c H locs 0 0 Q (F0 m pc ls [.int o_r9]) := by
    intro o_r9 o_t_spans9 o_t_spanLow_a9 o_t_spanHigh_a9 o_t_spanAt_a9 pc H locs ls hdg he hP hD hS
    cases he
    subst hQ
    exact rt_i hx hb hr hlocks hK hP hD hS rfl hdg
  clear hQ
  unfold fX10_span at hf
  refine lv_iload_n hx hb dX10_span_0 rfl (lv_at hl 1 rfl) ?_
  refine lv_iconst (v := 0) hx hb dX10_span_1 (by decide) ?_
  refine lv_ldc (v := 100000) hx hb hown kc_88 dX10_span_2 ?_
  obtain ⟨r1, hc2, hf⟩ := ob_some hf
  refine af_iR (va_runS (As := [.int x1, .int 0, .int 100000]) (rest := []) ⟨hx, hb, hml, hown, hts⟩ (k_X10_in l G cI cJ (x0 := x1) (x1 := 0) (x2 := 100000) (sz := _) (hf := hc2)) (va_cwS 3 hts gX10_span_X10_in rfl rfl rfl (by decide +kernel) ⟨Nat.le_of_ble_eq_true rfl, Nat.le_of_ble_eq_true rfl⟩) (preS0 (wc := []) hK hP hD hN [] rfl rfl (by decide)) rfl rfl hl.1 rfl (lv_room (Nat.le_of_ble_eq_true rfl)) dX10_span_4 ⟨Nat.zero_le _, Nat.zero_le _⟩) hP hD hS hA [] rfl (fun H locs hP hS => ?_)
  refine lv_if_eq (tgt := 33) hx hb dX10_span_7 (by decide) (fun c3 => ?_) (fun c3 => ?_)
  · have hf := ift hf c3
    refine lv_bipush (v := (-2)) hx hb dX10_span_33 (by decide) ?_
    exact hret (-2) t_spans t_spanLow_a t_spanHigh_a t_spanAt_a 35 _ _ _ dX10_span_35 hf hP hD hS
  · have hf := iff_ hf c3
    refine lv_iload_n hx hb dX10_span_10 rfl (lv_at hl 2 rfl) ?_
    refine lv_iload_n hx hb dX10_span_11 rfl (lv_at hl 1 rfl) ?_
    refine lv_ldc (v := 100000) hx hb hown kc_88 dX10_span_12 ?_
    obtain ⟨r4, hc5, hf⟩ := ob_some hf
    refine af_iR (va_runS (As := [.int x2, .int x1, .int 100000]) (rest := []) ⟨hx, hb, hml, hown, hts⟩ (k_X10_in l G cI cJ (x0 := x2) (x1 := x1) (x2 := 100000) (sz := _) (hf := hc5)) (va_cwS 3 hts gX10_span_X10_in rfl rfl rfl (by decide +kernel) ⟨Nat.le_of_ble_eq_true rfl, Nat.le_of_ble_eq_true rfl⟩) (preS0 (wc := []) hK hP hD hN [] rfl rfl (by decide)) rfl rfl hl.1 rfl (lv_room (Nat.le_of_ble_eq_true rfl)) dX10_span_14 ⟨Nat.zero_le _, Nat.zero_le _⟩) hP hD hS hA [] rfl (fun H locs hP hS => ?_)
    refine lv_if_eq (tgt := 33) hx hb dX10_span_17 (by decide) (fun c6 => ?_) (fun c6 => ?_)
    · have hf := ift hf c6
      refine lv_bipush (v := (-2)) hx hb dX10_span_33 (by decide) ?_
      exact hret (-2) t_spans t_spanLow_a t_spanHigh_a t_spanAt_a 35 _ _ _ dX10_span_35 hf hP hD hS
    · have hf := iff_ hf c6
      refine lv_iload_n hx hb dX10_span_20 rfl (lv_at hl 3 rfl) ?_
      refine lv_sipush (v := (-10000)) hx hb dX10_span_21 (by decide) ?_
      refine lv_sipush (v := 10000) hx hb dX10_span_24 (by decide) ?_
      obtain ⟨r7, hc8, hf⟩ := ob_some hf
      refine af_iR (va_runS (As := [.int x3, .int (-10000), .int 10000]) (rest := []) ⟨hx, hb, hml, hown, hts⟩ (k_X10_in l G cI cJ (x0 := x3) (x1 := (-10000)) (x2 := 10000) (sz := _) (hf := hc8)) (va_cwS 3 hts gX10_span_X10_in rfl rfl rfl (by decide +kernel) ⟨Nat.le_of_ble_eq_true rfl, Nat.le_of_ble_eq_true rfl⟩) (preS0 (wc := []) hK hP hD hN [] rfl rfl (by decide)) rfl rfl hl.1 rfl (lv_room (Nat.le_of_ble_eq_true rfl)) dX10_span_27 ⟨Nat.zero_le _, Nat.zero_le _⟩) hP hD hS hA [] rfl (fun H locs hP hS => ?_)
      refine lv_if_ne (tgt := 36) hx hb dX10_span_30 (by decide) (fun c9 => ?_) (fun c9 => ?_)
      · have hf := iff_ hf c9
        refine lv_aload_n hx hb dX10_span_36 rfl (lv_at hl 0 rfl) ?_
        refine va_get (D := G) (ci := 10) (v := .int t_spans) (C := RX10) (T := TX10) (N := 36) hx hb hts iwX10 hown hK hP 0 rfl rfl 22 (by decide) fl_165 (fun _ h9 => h9) rfl dX10_span_37 ?_
        refine lv_bipush (v := 24) hx hb dX10_span_40 (by decide) ?_
        refine lv_icmp_ne (tgt := 48) hx hb dX10_span_42 (by decide) (fun c10 => ?_) (fun c10 => ?_)
        · have hf := iff_ hf c10
          refine lv_aload_n hx hb dX10_span_48 rfl (lv_at hl 0 rfl) ?_
          refine va_get (D := G) (ci := 10) (v := .ref t_spanLow_h) (C := RX10) (T := TX10) (N := 36) hx hb hts iwX10 hown hK hP 0 rfl rfl 23 (by decide) fl_31 (fun _ h9 => h9) rfl dX10_span_49 ?_
          refine lv_aload_n hx hb dX10_span_52 rfl (lv_at hl 0 rfl) ?_
          refine va_get (D := G) (ci := 10) (v := .int t_spans) (C := RX10) (T := TX10) (N := 36) hx hb hts iwX10 hown hK hP 0 rfl rfl 22 (by decide) fl_165 (fun _ h9 => h9) rfl dX10_span_53 ?_
          refine lv_iload_n hx hb dX10_span_56 rfl (lv_at hl 1 rfl) ?_
          obtain ⟨h11, hf⟩ := gd_some hf
          obtain ⟨a12, ea12⟩ : ∃ y : Nat → Int32, y = upd t_spanLow_a (Int32.toNatClampNeg t_spans) x1 := ⟨_, rfl⟩
          have hf := bv_at ea12 hf
          refine va_iast hx hb hK hP hD hS 1 0 rfl rfl (bnd_in h11) dX10_span_57 (fun H locs hP hD hS => ?_)
          have hP : va_P G vwCl [(t_h, .inr (10, [.int t_baseWay, .int t_slip, .int t_low, .int t_high, .int t_unlike, .int t_alone, .long t_above, .long t_below, .ref t_edges_h, .ref t_lean_h, .ref t_word_h, .int t_layers, .ref t_layer_h, .ref t_least_h, .int t_sights, .ref t_sight_h, .int t_shadows, .ref t_shadow_h, .long t_endAbove, .long t_endBelow, .long t_speedAbove, .long t_speedBelow, .int t_spans, .ref t_spanLow_h, .ref t_spanHigh_h, .ref t_spanAt_h, .int t_found, .ref t_numbers_h, .int t_pairs, .ref t_pair_h, .ref t_most_h, .int t_rows, .ref t_row_h, .int t_notes, .ref t_under_h, .ref t_agreed_h])), (t_spanLow_h, .inl (cI, 24, .inl a12)), (t_spanHigh_h, .inl (cI, 24, .inl t_spanHigh_a)), (t_spanAt_h, .inl (cI, 24, .inl t_spanAt_a))] H := by rw [ea12]; exact hP
          have hD : va_D A [(t_h, .inr (10, [.int t_baseWay, .int t_slip, .int t_low, .int t_high, .int t_unlike, .int t_alone, .long t_above, .long t_below, .ref t_edges_h, .ref t_lean_h, .ref t_word_h, .int t_layers, .ref t_layer_h, .ref t_least_h, .int t_sights, .ref t_sight_h, .int t_shadows, .ref t_shadow_h, .long t_endAbove, .long t_endBelow, .long t_speedAbove, .long t_speedBelow, .int t_spans, .ref t_spanLow_h, .ref t_spanHigh_h, .ref t_spanAt_h, .int t_found, .ref t_numbers_h, .int t_pairs, .ref t_pair_h, .ref t_most_h, .int t_rows, .ref t_row_h, .int t_notes, .ref t_under_h, .ref t_agreed_h])), (t_spanLow_h, .inl (cI, 24, .inl a12)), (t_spanHigh_h, .inl (cI, 24, .inl t_spanHigh_a)), (t_spanAt_h, .inl (cI, 24, .inl t_spanAt_a))] := by rw [ea12]; exact hD
          refine lv_aload_n hx hb dX10_span_58 rfl (lv_at hl 0 rfl) ?_
          refine va_get (D := G) (ci := 10) (v := .ref t_spanHigh_h) (C := RX10) (T := TX10) (N := 36) hx hb hts iwX10 hown hK hP 0 rfl rfl 24 (by decide) fl_34 (fun _ h9 => h9) rfl dX10_span_59 ?_
          refine lv_aload_n hx hb dX10_span_62 rfl (lv_at hl 0 rfl) ?_
          refine va_get (D := G) (ci := 10) (v := .int t_spans) (C := RX10) (T := TX10) (N := 36) hx hb hts iwX10 hown hK hP 0 rfl rfl 22 (by decide) fl_165 (fun _ h9 => h9) rfl dX10_span_63 ?_
          refine lv_iload_n hx hb dX10_span_66 rfl (lv_at hl 2 rfl) ?_
          obtain ⟨h13, hf⟩ := gd_some hf
          obtain ⟨a14, ea14⟩ : ∃ y : Nat → Int32, y = upd t_spanHigh_a (Int32.toNatClampNeg t_spans) x2 := ⟨_, rfl⟩
          have hf := bv_at ea14 hf
          refine va_iast hx hb hK hP hD hS 2 0 rfl rfl (bnd_in h13) dX10_span_67 (fun H locs hP hD hS => ?_)
          have hP : va_P G vwCl [(t_h, .inr (10, [.int t_baseWay, .int t_slip, .int t_low, .int t_high, .int t_unlike, .int t_alone, .long t_above, .long t_below, .ref t_edges_h, .ref t_lean_h, .ref t_word_h, .int t_layers, .ref t_layer_h, .ref t_least_h, .int t_sights, .ref t_sight_h, .int t_shadows, .ref t_shadow_h, .long t_endAbove, .long t_endBelow, .long t_speedAbove, .long t_speedBelow, .int t_spans, .ref t_spanLow_h, .ref t_spanHigh_h, .ref t_spanAt_h, .int t_found, .ref t_numbers_h, .int t_pairs, .ref t_pair_h, .ref t_most_h, .int t_rows, .ref t_row_h, .int t_notes, .ref t_under_h, .ref t_agreed_h])), (t_spanLow_h, .inl (cI, 24, .inl a12)), (t_spanHigh_h, .inl (cI, 24, .inl a14)), (t_spanAt_h, .inl (cI, 24, .inl t_spanAt_a))] H := by rw [ea14]; exact hP
          have hD : va_D A [(t_h, .inr (10, [.int t_baseWay, .int t_slip, .int t_low, .int t_high, .int t_unlike, .int t_alone, .long t_above, .long t_below, .ref t_edges_h, .ref t_lean_h, .ref t_word_h, .int t_layers, .ref t_layer_h, .ref t_least_h, .int t_sights, .ref t_sight_h, .int t_shadows, .ref t_shadow_h, .long t_endAbove, .long t_endBelow, .long t_speedAbove, .long t_speedBelow, .int t_spans, .ref t_spanLow_h, .ref t_spanHigh_h, .ref t_spanAt_h, .int t_found, .ref t_numbers_h, .int t_pairs, .ref t_pair_h, .ref t_most_h, .int t_rows, .ref t_row_h, .int t_notes, .ref t_under_h, .ref t_agreed_h])), (t_spanLow_h, .inl (cI, 24, .inl a12)), (t_spanHigh_h, .inl (cI, 24, .inl a14)), (t_spanAt_h, .inl (cI, 24, .inl t_spanAt_a))] := by rw [ea14]; exact hD
          refine lv_aload_n hx hb dX10_span_68 rfl (lv_at hl 0 rfl) ?_
          refine va_get (D := G) (ci := 10) (v := .ref t_spanAt_h) (C := RX10) (T := TX10) (N := 36) hx hb hts iwX10 hown hK hP 0 rfl rfl 25 (by decide) fl_37 (fun _ h9 => h9) rfl dX10_span_69 ?_
          refine lv_aload_n hx hb dX10_span_72 rfl (lv_at hl 0 rfl) ?_
          refine va_get (D := G) (ci := 10) (v := .int t_spans) (C := RX10) (T := TX10) (N := 36) hx hb hts iwX10 hown hK hP 0 rfl rfl 22 (by decide) fl_165 (fun _ h9 => h9) rfl dX10_span_73 ?_
          refine lv_iload_n hx hb dX10_span_76 rfl (lv_at hl 3 rfl) ?_
          obtain ⟨h15, hf⟩ := gd_some hf
          obtain ⟨a16, ea16⟩ : ∃ y : Nat → Int32, y = upd t_spanAt_a (Int32.toNatClampNeg t_spans) x3 := ⟨_, rfl⟩
          have hf := bv_at ea16 hf
          refine va_iast hx hb hK hP hD hS 3 0 rfl rfl (bnd_in h15) dX10_span_77 (fun H locs hP hD hS => ?_)
          have hP : va_P G vwCl [(t_h, .inr (10, [.int t_baseWay, .int t_slip, .int t_low, .int t_high, .int t_unlike, .int t_alone, .long t_above, .long t_below, .ref t_edges_h, .ref t_lean_h, .ref t_word_h, .int t_layers, .ref t_layer_h, .ref t_least_h, .int t_sights, .ref t_sight_h, .int t_shadows, .ref t_shadow_h, .long t_endAbove, .long t_endBelow, .long t_speedAbove, .long t_speedBelow, .int t_spans, .ref t_spanLow_h, .ref t_spanHigh_h, .ref t_spanAt_h, .int t_found, .ref t_numbers_h, .int t_pairs, .ref t_pair_h, .ref t_most_h, .int t_rows, .ref t_row_h, .int t_notes, .ref t_under_h, .ref t_agreed_h])), (t_spanLow_h, .inl (cI, 24, .inl a12)), (t_spanHigh_h, .inl (cI, 24, .inl a14)), (t_spanAt_h, .inl (cI, 24, .inl a16))] H := by rw [ea16]; exact hP
          have hD : va_D A [(t_h, .inr (10, [.int t_baseWay, .int t_slip, .int t_low, .int t_high, .int t_unlike, .int t_alone, .long t_above, .long t_below, .ref t_edges_h, .ref t_lean_h, .ref t_word_h, .int t_layers, .ref t_layer_h, .ref t_least_h, .int t_sights, .ref t_sight_h, .int t_shadows, .ref t_shadow_h, .long t_endAbove, .long t_endBelow, .long t_speedAbove, .long t_speedBelow, .int t_spans, .ref t_spanLow_h, .ref t_spanHigh_h, .ref t_spanAt_h, .int t_found, .ref t_numbers_h, .int t_pairs, .ref t_pair_h, .ref t_most_h, .int t_rows, .ref t_row_h, .int t_notes, .ref t_under_h, .ref t_agreed_h])), (t_spanLow_h, .inl (cI, 24, .inl a12)), (t_spanHigh_h, .inl (cI, 24, .inl a14)), (t_spanAt_h, .inl (cI, 24, .inl a16))] := by rw [ea16]; exact hD
          refine lv_aload_n hx hb dX10_span_78 rfl (lv_at hl 0 rfl) ?_
          refine lv_dup hx hb dX10_span_79 rfl ?_
          refine va_get (D := G) (ci := 10) (v := .int t_spans) (C := RX10) (T := TX10) (N := 36) hx hb hts iwX10 hown hK hP 0 rfl rfl 22 (by decide) fl_165 (fun _ h9 => h9) rfl dX10_span_80 ?_
          refine lv_iconst (v := 1) hx hb dX10_span_83 (by decide) ?_
          refine lv_iadd hx hb dX10_span_84 ?_
          refine lv_topi (fun v17 ev17 => ?_)
          have hf := bv_at ev17 hf
          refine va_put (D := G) (ci := 10) (v := .int v17) (ty := .int) (C := RX10) (T := TX10) (N := 36) hx hb hts iwX10 tyX10 tyX10_ok nmX10 hown hK hP hD hS 0 rfl rfl 22 (by decide) fl_165 (fun _ h9 => h9) rfl (by decide +kernel) rfl rfl (Nat.le_of_ble_eq_true rfl) dX10_span_85 (fun H locs hP hD hS => ?_)
          have hP : va_P G vwCl [(t_h, .inr (10, [.int t_baseWay, .int t_slip, .int t_low, .int t_high, .int t_unlike, .int t_alone, .long t_above, .long t_below, .ref t_edges_h, .ref t_lean_h, .ref t_word_h, .int t_layers, .ref t_layer_h, .ref t_least_h, .int t_sights, .ref t_sight_h, .int t_shadows, .ref t_shadow_h, .long t_endAbove, .long t_endBelow, .long t_speedAbove, .long t_speedBelow, .int v17, .ref t_spanLow_h, .ref t_spanHigh_h, .ref t_spanAt_h, .int t_found, .ref t_numbers_h, .int t_pairs, .ref t_pair_h, .ref t_most_h, .int t_rows, .ref t_row_h, .int t_notes, .ref t_under_h, .ref t_agreed_h])), (t_spanLow_h, .inl (cI, 24, .inl a12)), (t_spanHigh_h, .inl (cI, 24, .inl a14)), (t_spanAt_h, .inl (cI, 24, .inl a16))] H := hP
          have hD : va_D A [(t_h, .inr (10, [.int t_baseWay, .int t_slip, .int t_low, .int t_high, .int t_unlike, .int t_alone, .long t_above, .long t_below, .ref t_edges_h, .ref t_lean_h, .ref t_word_h, .int t_layers, .ref t_layer_h, .ref t_least_h, .int t_sights, .ref t_sight_h, .int t_shadows, .ref t_shadow_h, .long t_endAbove, .long t_endBelow, .long t_speedAbove, .long t_speedBelow, .int v17, .ref t_spanLow_h, .ref t_spanHigh_h, .ref t_spanAt_h, .int t_found, .ref t_numbers_h, .int t_pairs, .ref t_pair_h, .ref t_most_h, .int t_rows, .ref t_row_h, .int t_notes, .ref t_under_h, .ref t_agreed_h])), (t_spanLow_h, .inl (cI, 24, .inl a12)), (t_spanHigh_h, .inl (cI, 24, .inl a14)), (t_spanAt_h, .inl (cI, 24, .inl a16))] := hD
          refine lv_aload_n hx hb dX10_span_88 rfl (lv_at hl 0 rfl) ?_
          refine va_get (D := G) (ci := 10) (v := .int v17) (C := RX10) (T := TX10) (N := 36) hx hb hts iwX10 hown hK hP 0 rfl rfl 22 (by decide) fl_165 (fun _ h9 => h9) rfl dX10_span_89 ?_
          exact hret v17 v17 a12 a14 a16 92 _ _ _ dX10_span_92 hf hP hD hS
        · have hf := ift hf c10
          refine lv_bipush (v := (-4)) hx hb dX10_span_45 (by decide) ?_
          exact hret (-4) t_spans t_spanLow_a t_spanHigh_a t_spanAt_a 47 _ _ _ dX10_span_47 hf hP hD hS
      · have hf := ift hf c9
        refine lv_bipush (v := (-2)) hx hb dX10_span_33 (by decide) ?_
        exact hret (-2) t_spans t_spanLow_a t_spanHigh_a t_spanAt_a 35 _ _ _ dX10_span_35 hf hP hD hS
theorem dX10_sweep_0 : decode cX10_sweep 0 = .ok (.aload_n 0, 1) := by decide +kernel
theorem dX10_sweep_1 : decode cX10_sweep 1 = .ok (.getfield 165, 3) := by decide +kernel
theorem dX10_sweep_4 : decode cX10_sweep 4 = .ok (.istore_n 1, 1) := by decide +kernel
theorem dX10_sweep_5 : decode cX10_sweep 5 = .ok (.aload_n 0, 1) := by decide +kernel
theorem dX10_sweep_6 : decode cX10_sweep 6 = .ok (.iconst 0, 1) := by decide +kernel
theorem dX10_sweep_7 : decode cX10_sweep 7 = .ok (.putfield 165, 3) := by decide +kernel
theorem dX10_sweep_10 : decode cX10_sweep 10 = .ok (.iload_n 1, 1) := by decide +kernel
theorem dX10_sweep_11 : decode cX10_sweep 11 = .ok (.ireturn, 1) := by decide +kernel
set_option maxRecDepth 100000 in
def fX10_sweep (t_spans : Int32) : Option (Int32 × Int32) :=
  some (t_spans, 0)
abbrev rmX10_sweep : Room := { frames := 0, cells := 0, slots := 0, locals := 0 }
theorem iwX10_sweep_X10 : ∀ w ∈ u_ws RX10 TX10 36, w ∈ wsX10_sweep := by decide +kernel
set_option maxHeartbeats 4000000 in
set_option maxRecDepth 100000 in
theorem k_X10_sweep (l : Launch) (G : va_G) (cI cJ : ClassId) (t_h t_edges_h t_lean_h t_word_h t_layer_h t_least_h t_sight_h t_shadow_h t_spanLow_h t_spanHigh_h t_spanAt_h t_numbers_h t_pair_h t_most_h t_row_h t_under_h t_agreed_h : Nat) (sz : Nat) (t_baseWay : Int32) (t_slip : Int32) (t_low : Int32) (t_high : Int32) (t_unlike : Int32) (t_alone : Int32) (t_above : Int64) (t_below : Int64) (t_layers : Int32) (t_sights : Int32) (t_shadows : Int32) (t_endAbove : Int64) (t_endBelow : Int64) (t_speedAbove : Int64) (t_speedBelow : Int64) (t_spans : Int32) (t_found : Int32) (t_pairs : Int32) (t_rows : Int32) (t_notes : Int32) {o_r : Int32} {o_t_spans : Int32} (hf : fX10_sweep t_spans = some (o_r, o_t_spans)) : MetI l yX10_sweep wsX10_sweep rmX10_sweep [.ref t_h] G cI cJ [(t_h, .inr (10, [.int t_baseWay, .int t_slip, .int t_low, .int t_high, .int t_unlike, .int t_alone, .long t_above, .long t_below, .ref t_edges_h, .ref t_lean_h, .ref t_word_h, .int t_layers, .ref t_layer_h, .ref t_least_h, .int t_sights, .ref t_sight_h, .int t_shadows, .ref t_shadow_h, .long t_endAbove, .long t_endBelow, .long t_speedAbove, .long t_speedBelow, .int t_spans, .ref t_spanLow_h, .ref t_spanHigh_h, .ref t_spanAt_h, .int t_found, .ref t_numbers_h, .int t_pairs, .ref t_pair_h, .ref t_most_h, .int t_rows, .ref t_row_h, .int t_notes, .ref t_under_h, .ref t_agreed_h]))] [(t_h, .inr (10, [.int t_baseWay, .int t_slip, .int t_low, .int t_high, .int t_unlike, .int t_alone, .long t_above, .long t_below, .ref t_edges_h, .ref t_lean_h, .ref t_word_h, .int t_layers, .ref t_layer_h, .ref t_least_h, .int t_sights, .ref t_sight_h, .int t_shadows, .ref t_shadow_h, .long t_endAbove, .long t_endBelow, .long t_speedAbove, .long t_speedBelow, .int o_t_spans, .ref t_spanLow_h, .ref t_spanHigh_h, .ref t_spanAt_h, .int t_found, .ref t_numbers_h, .int t_pairs, .ref t_pair_h, .ref t_most_h, .int t_rows, .ref t_row_h, .int t_notes, .ref t_under_h, .ref t_agreed_h]))] sz o_r := by
  refine en_0 (l := l) (y := yX10_sweep) (wsl := wsX10_sweep) (rm := rmX10_sweep) (av := [.ref t_h]) (G := G) (cI := cI) (cJ := cJ) (w0 := [(t_h, .inr (10, [.int t_baseWay, .int t_slip, .int t_low, .int t_high, .int t_unlike, .int t_alone, .long t_above, .long t_below, .ref t_edges_h, .ref t_lean_h, .ref t_word_h, .int t_layers, .ref t_layer_h, .ref t_least_h, .int t_sights, .ref t_sight_h, .int t_shadows, .ref t_shadow_h, .long t_endAbove, .long t_endBelow, .long t_speedAbove, .long t_speedBelow, .int t_spans, .ref t_spanLow_h, .ref t_spanHigh_h, .ref t_spanAt_h, .int t_found, .ref t_numbers_h, .int t_pairs, .ref t_pair_h, .ref t_most_h, .int t_rows, .ref t_row_h, .int t_notes, .ref t_under_h, .ref t_agreed_h]))]) (sz := sz) (Qf := fun A => Qi0 G cI cJ [(t_h, .inr (10, [.int t_baseWay, .int t_slip, .int t_low, .int t_high, .int t_unlike, .int t_alone, .long t_above, .long t_below, .ref t_edges_h, .ref t_lean_h, .ref t_word_h, .int t_layers, .ref t_layer_h, .ref t_least_h, .int t_sights, .ref t_sight_h, .int t_shadows, .ref t_shadow_h, .long t_endAbove, .long t_endBelow, .long t_speedAbove, .long t_speedBelow, .int o_t_spans, .ref t_spanLow_h, .ref t_spanHigh_h, .ref t_spanAt_h, .int t_found, .ref t_numbers_h, .int t_pairs, .ref t_pair_h, .ref t_most_h, .int t_rows, .ref t_row_h, .int t_notes, .ref t_under_h, .ref t_agreed_h]))] o_r A) (cc := cX10_sweep) (maxL := 2) (ret := (some .int)) RX10 (by decide +kernel) rfl rfl (Nat.le_of_ble_eq_true rfl) ?_
  intro p e s m args below meth c A ls Q hQ hx hb hr hts hown hlocks hml hN hK hP hD hS hA hl
  have hl : lv_has ls 2 [(0, .ref t_h)] := hl
  have iwX10 := iwX10_sweep_X10
  have fl_165 := hts (.fieldLink RX10 165 "CloudOfficeModel" "spans" "I") (by decide +kernel)
  have hret : ∀ (o_r9 : Int32) (o_t_spans9 : Int32) (pc : Nat) (H : Heap) (locs : List Loc) (ls : Array Slot), decode cX10_sweep pc = .ok (.ireturn, 1) → some (o_r9, o_t_spans9) = some (o_r, o_t_spans) → va_P G vwCl [(t_h, .inr (10, [.int t_baseWay, .int t_slip, .int t_low, .int t_high, .int t_unlike, .int t_alone, .long t_above, .long t_below, .ref t_edges_h, .ref t_lean_h, .ref t_word_h, .int t_layers, .ref t_layer_h, .ref t_least_h, .int t_sights, .ref t_sight_h, .int t_shadows, .ref t_shadow_h, .long t_endAbove, .long t_endBelow, .long t_speedAbove, .long t_speedBelow, .int o_t_spans9, .ref t_spanLow_h, .ref t_spanHigh_h, .ref t_spanAt_h, .int t_found, .ref t_numbers_h, .int t_pairs, .ref t_pair_h, .ref t_most_h, .int t_rows, .ref t_row_h, .int t_notes, .ref t_under_h, .ref t_agreed_h]))] H → va_D A [(t_h, .inr (10, [.int t_baseWay, .int t_slip, .int t_low, .int t_high, .int t_unlike, .int t_alone, .long t_above, .long t_below, .ref t_edges_h, .ref t_lean_h, .ref t_word_h, .int t_layers, .ref t_layer_h, .ref t_least_h, .int t_sights, .ref t_sight_h, .int t_shadows, .ref t_shadow_h, .long t_endAbove, .long t_endBelow, .long t_speedAbove, .long t_speedBelow, .int o_t_spans9, .ref t_spanLow_h, .ref t_spanHigh_h, .ref t_spanAt_h, .int t_found, .ref t_numbers_h, .int t_pairs, .ref t_pair_h, .ref t_most_h, .int t_rows, .ref t_row_h, .int t_notes, .ref t_under_h, .ref t_agreed_h]))] → va_S A s.heap H locs → W p l e rmX10_sweep s m args below meth c H locs 0 0 Q (F0 m pc ls [.int o_r9]) := by
    intro o_r9 o_t_spans9 pc H locs ls hdg he hP hD hS
    cases he
    subst hQ
    exact rt_i hx hb hr hlocks hK hP hD hS rfl hdg
  clear hQ
  unfold fX10_sweep at hf
  refine lv_aload_n hx hb dX10_sweep_0 rfl (lv_at hl 0 rfl) ?_
  refine va_get (D := G) (ci := 10) (v := .int t_spans) (C := RX10) (T := TX10) (N := 36) hx hb hts iwX10 hown hK hP 0 rfl rfl 22 (by decide) fl_165 (fun _ h9 => h9) rfl dX10_sweep_1 ?_
  refine lv_istore_n (lv' := [(1, .int t_spans), (0, .ref t_h)]) hx hb dX10_sweep_4 rfl hl (by decide) rfl (fun ls hl => ?_)
  refine lv_aload_n hx hb dX10_sweep_5 rfl (lv_at hl 1 rfl) ?_
  refine lv_iconst (v := 0) hx hb dX10_sweep_6 (by decide) ?_
  refine va_put (D := G) (ci := 10) (v := .int 0) (ty := .int) (C := RX10) (T := TX10) (N := 36) hx hb hts iwX10 tyX10 tyX10_ok nmX10 hown hK hP hD hS 0 rfl rfl 22 (by decide) fl_165 (fun _ h9 => h9) rfl (by decide +kernel) rfl rfl (Nat.le_of_ble_eq_true rfl) dX10_sweep_7 (fun H locs hP hD hS => ?_)
  have hP : va_P G vwCl [(t_h, .inr (10, [.int t_baseWay, .int t_slip, .int t_low, .int t_high, .int t_unlike, .int t_alone, .long t_above, .long t_below, .ref t_edges_h, .ref t_lean_h, .ref t_word_h, .int t_layers, .ref t_layer_h, .ref t_least_h, .int t_sights, .ref t_sight_h, .int t_shadows, .ref t_shadow_h, .long t_endAbove, .long t_endBelow, .long t_speedAbove, .long t_speedBelow, .int 0, .ref t_spanLow_h, .ref t_spanHigh_h, .ref t_spanAt_h, .int t_found, .ref t_numbers_h, .int t_pairs, .ref t_pair_h, .ref t_most_h, .int t_rows, .ref t_row_h, .int t_notes, .ref t_under_h, .ref t_agreed_h]))] H := hP
  have hD : va_D A [(t_h, .inr (10, [.int t_baseWay, .int t_slip, .int t_low, .int t_high, .int t_unlike, .int t_alone, .long t_above, .long t_below, .ref t_edges_h, .ref t_lean_h, .ref t_word_h, .int t_layers, .ref t_layer_h, .ref t_least_h, .int t_sights, .ref t_sight_h, .int t_shadows, .ref t_shadow_h, .long t_endAbove, .long t_endBelow, .long t_speedAbove, .long t_speedBelow, .int 0, .ref t_spanLow_h, .ref t_spanHigh_h, .ref t_spanAt_h, .int t_found, .ref t_numbers_h, .int t_pairs, .ref t_pair_h, .ref t_most_h, .int t_rows, .ref t_row_h, .int t_notes, .ref t_under_h, .ref t_agreed_h]))] := hD
  refine lv_iload_n hx hb dX10_sweep_10 rfl (lv_at hl 0 rfl) ?_
  exact hret t_spans 0 11 _ _ _ dX10_sweep_11 hf hP hD hS
theorem dX10_findNumbers_0 : decode cX10_findNumbers 0 = .ok (.aload_n 0, 1) := by decide +kernel
theorem dX10_findNumbers_1 : decode cX10_findNumbers 1 = .ok (.iconst 0, 1) := by decide +kernel
theorem dX10_findNumbers_2 : decode cX10_findNumbers 2 = .ok (.putfield 168, 3) := by decide +kernel
theorem dX10_findNumbers_5 : decode cX10_findNumbers 5 = .ok (.iconst 1, 1) := by decide +kernel
theorem dX10_findNumbers_6 : decode cX10_findNumbers 6 = .ok (.aload_n 0, 1) := by decide +kernel
theorem dX10_findNumbers_7 : decode cX10_findNumbers 7 = .ok (.getfield 165, 3) := by decide +kernel
theorem dX10_findNumbers_10 : decode cX10_findNumbers 10 = .ok (.ishl, 1) := by decide +kernel
theorem dX10_findNumbers_11 : decode cX10_findNumbers 11 = .ok (.iconst 1, 1) := by decide +kernel
theorem dX10_findNumbers_12 : decode cX10_findNumbers 12 = .ok (.isub, 1) := by decide +kernel
theorem dX10_findNumbers_13 : decode cX10_findNumbers 13 = .ok (.istore_n 2, 1) := by decide +kernel
theorem dX10_findNumbers_14 : decode cX10_findNumbers 14 = .ok (.iload_n 2, 1) := by decide +kernel
theorem dX10_findNumbers_15 : decode cX10_findNumbers 15 = .ok (.ifCond .eq 165, 3) := by decide +kernel
theorem dX10_findNumbers_18 : decode cX10_findNumbers 18 = .ok (.iconst 0, 1) := by decide +kernel
theorem dX10_findNumbers_19 : decode cX10_findNumbers 19 = .ok (.istore_n 3, 1) := by decide +kernel
theorem dX10_findNumbers_20 : decode cX10_findNumbers 20 = .ok (.iconst 0, 1) := by decide +kernel
theorem dX10_findNumbers_21 : decode cX10_findNumbers 21 = .ok (.istore 4, 2) := by decide +kernel
theorem dX10_findNumbers_23 : decode cX10_findNumbers 23 = .ok (.iconst 0, 1) := by decide +kernel
theorem dX10_findNumbers_24 : decode cX10_findNumbers 24 = .ok (.istore 5, 2) := by decide +kernel
theorem dX10_findNumbers_26 : decode cX10_findNumbers 26 = .ok (.iload 5, 2) := by decide +kernel
theorem dX10_findNumbers_28 : decode cX10_findNumbers 28 = .ok (.aload_n 0, 1) := by decide +kernel
theorem dX10_findNumbers_29 : decode cX10_findNumbers 29 = .ok (.getfield 165, 3) := by decide +kernel
theorem dX10_findNumbers_32 : decode cX10_findNumbers 32 = .ok (.if_icmp .ge 59, 3) := by decide +kernel
theorem dX10_findNumbers_35 : decode cX10_findNumbers 35 = .ok (.aload_n 0, 1) := by decide +kernel
theorem dX10_findNumbers_36 : decode cX10_findNumbers 36 = .ok (.getfield 34, 3) := by decide +kernel
theorem dX10_findNumbers_39 : decode cX10_findNumbers 39 = .ok (.iload 5, 2) := by decide +kernel
theorem dX10_findNumbers_41 : decode cX10_findNumbers 41 = .ok (.iaload, 1) := by decide +kernel
theorem dX10_findNumbers_42 : decode cX10_findNumbers 42 = .ok (.iload_n 1, 1) := by decide +kernel
theorem dX10_findNumbers_43 : decode cX10_findNumbers 43 = .ok (.aload_n 0, 1) := by decide +kernel
theorem dX10_findNumbers_44 : decode cX10_findNumbers 44 = .ok (.getfield 37, 3) := by decide +kernel
theorem dX10_findNumbers_47 : decode cX10_findNumbers 47 = .ok (.iload 5, 2) := by decide +kernel
theorem dX10_findNumbers_49 : decode cX10_findNumbers 49 = .ok (.iaload, 1) := by decide +kernel
theorem dX10_findNumbers_50 : decode cX10_findNumbers 50 = .ok (.imul, 1) := by decide +kernel
theorem dX10_findNumbers_51 : decode cX10_findNumbers 51 = .ok (.sipush 1000, 3) := by decide +kernel
theorem dX10_findNumbers_54 : decode cX10_findNumbers 54 = .ok (.idiv, 1) := by decide +kernel
theorem dX10_findNumbers_55 : decode cX10_findNumbers 55 = .ok (.isub, 1) := by decide +kernel
theorem dX10_findNumbers_56 : decode cX10_findNumbers 56 = .ok (.istore 6, 2) := by decide +kernel
theorem dX10_findNumbers_58 : decode cX10_findNumbers 58 = .ok (.iload_n 2, 1) := by decide +kernel
theorem dX10_findNumbers_59 : decode cX10_findNumbers 59 = .ok (.iload 5, 2) := by decide +kernel
theorem dX10_findNumbers_61 : decode cX10_findNumbers 61 = .ok (.ishr, 1) := by decide +kernel
theorem dX10_findNumbers_62 : decode cX10_findNumbers 62 = .ok (.iconst 1, 1) := by decide +kernel
theorem dX10_findNumbers_63 : decode cX10_findNumbers 63 = .ok (.iand, 1) := by decide +kernel
theorem dX10_findNumbers_64 : decode cX10_findNumbers 64 = .ok (.iconst 1, 1) := by decide +kernel
theorem dX10_findNumbers_65 : decode cX10_findNumbers 65 = .ok (.if_icmp .ne 20, 3) := by decide +kernel
theorem dX10_findNumbers_68 : decode cX10_findNumbers 68 = .ok (.iload 4, 2) := by decide +kernel
theorem dX10_findNumbers_70 : decode cX10_findNumbers 70 = .ok (.ifCond .eq 9, 3) := by decide +kernel
theorem dX10_findNumbers_73 : decode cX10_findNumbers 73 = .ok (.iload 6, 2) := by decide +kernel
theorem dX10_findNumbers_75 : decode cX10_findNumbers 75 = .ok (.iload_n 3, 1) := by decide +kernel
theorem dX10_findNumbers_76 : decode cX10_findNumbers 76 = .ok (.if_icmp .ge 9, 3) := by decide +kernel
theorem dX10_findNumbers_79 : decode cX10_findNumbers 79 = .ok (.iload 6, 2) := by decide +kernel
theorem dX10_findNumbers_81 : decode cX10_findNumbers 81 = .ok (.istore_n 3, 1) := by decide +kernel
theorem dX10_findNumbers_82 : decode cX10_findNumbers 82 = .ok (.iconst 1, 1) := by decide +kernel
theorem dX10_findNumbers_83 : decode cX10_findNumbers 83 = .ok (.istore 4, 2) := by decide +kernel
theorem dX10_findNumbers_85 : decode cX10_findNumbers 85 = .ok (.iinc 5 1, 3) := by decide +kernel
theorem dX10_findNumbers_88 : decode cX10_findNumbers 88 = .ok (.goto (-62), 3) := by decide +kernel
theorem dX10_findNumbers_91 : decode cX10_findNumbers 91 = .ok (.iconst 0, 1) := by decide +kernel
theorem dX10_findNumbers_92 : decode cX10_findNumbers 92 = .ok (.istore 5, 2) := by decide +kernel
theorem dX10_findNumbers_94 : decode cX10_findNumbers 94 = .ok (.iload 5, 2) := by decide +kernel
theorem dX10_findNumbers_96 : decode cX10_findNumbers 96 = .ok (.aload_n 0, 1) := by decide +kernel
theorem dX10_findNumbers_97 : decode cX10_findNumbers 97 = .ok (.getfield 165, 3) := by decide +kernel
theorem dX10_findNumbers_100 : decode cX10_findNumbers 100 = .ok (.if_icmp .ge 57, 3) := by decide +kernel
theorem dX10_findNumbers_103 : decode cX10_findNumbers 103 = .ok (.iload_n 2, 1) := by decide +kernel
theorem dX10_findNumbers_104 : decode cX10_findNumbers 104 = .ok (.iload_n 2, 1) := by decide +kernel
theorem dX10_findNumbers_105 : decode cX10_findNumbers 105 = .ok (.iload 5, 2) := by decide +kernel
theorem dX10_findNumbers_107 : decode cX10_findNumbers 107 = .ok (.ishr, 1) := by decide +kernel
theorem dX10_findNumbers_108 : decode cX10_findNumbers 108 = .ok (.iconst 1, 1) := by decide +kernel
theorem dX10_findNumbers_109 : decode cX10_findNumbers 109 = .ok (.iand, 1) := by decide +kernel
theorem dX10_findNumbers_110 : decode cX10_findNumbers 110 = .ok (.iconst 1, 1) := by decide +kernel
theorem dX10_findNumbers_111 : decode cX10_findNumbers 111 = .ok (.if_icmp .ne 37, 3) := by decide +kernel
theorem dX10_findNumbers_114 : decode cX10_findNumbers 114 = .ok (.aload_n 0, 1) := by decide +kernel
theorem dX10_findNumbers_115 : decode cX10_findNumbers 115 = .ok (.getfield 31, 3) := by decide +kernel
theorem dX10_findNumbers_118 : decode cX10_findNumbers 118 = .ok (.iload 5, 2) := by decide +kernel
theorem dX10_findNumbers_120 : decode cX10_findNumbers 120 = .ok (.iaload, 1) := by decide +kernel
theorem dX10_findNumbers_121 : decode cX10_findNumbers 121 = .ok (.iload_n 1, 1) := by decide +kernel
theorem dX10_findNumbers_122 : decode cX10_findNumbers 122 = .ok (.aload_n 0, 1) := by decide +kernel
theorem dX10_findNumbers_123 : decode cX10_findNumbers 123 = .ok (.getfield 37, 3) := by decide +kernel
theorem dX10_findNumbers_126 : decode cX10_findNumbers 126 = .ok (.iload 5, 2) := by decide +kernel
theorem dX10_findNumbers_128 : decode cX10_findNumbers 128 = .ok (.iaload, 1) := by decide +kernel
theorem dX10_findNumbers_129 : decode cX10_findNumbers 129 = .ok (.imul, 1) := by decide +kernel
theorem dX10_findNumbers_130 : decode cX10_findNumbers 130 = .ok (.sipush 1000, 3) := by decide +kernel
theorem dX10_findNumbers_133 : decode cX10_findNumbers 133 = .ok (.idiv, 1) := by decide +kernel
theorem dX10_findNumbers_134 : decode cX10_findNumbers 134 = .ok (.isub, 1) := by decide +kernel
theorem dX10_findNumbers_135 : decode cX10_findNumbers 135 = .ok (.iload_n 3, 1) := by decide +kernel
theorem dX10_findNumbers_136 : decode cX10_findNumbers 136 = .ok (.if_icmp .gt 12, 3) := by decide +kernel
theorem dX10_findNumbers_139 : decode cX10_findNumbers 139 = .ok (.iconst 1, 1) := by decide +kernel
theorem dX10_findNumbers_140 : decode cX10_findNumbers 140 = .ok (.iload 5, 2) := by decide +kernel
theorem dX10_findNumbers_142 : decode cX10_findNumbers 142 = .ok (.ishl, 1) := by decide +kernel
theorem dX10_findNumbers_143 : decode cX10_findNumbers 143 = .ok (.iconst (-1), 1) := by decide +kernel
theorem dX10_findNumbers_144 : decode cX10_findNumbers 144 = .ok (.ixor, 1) := by decide +kernel
theorem dX10_findNumbers_145 : decode cX10_findNumbers 145 = .ok (.goto 4, 3) := by decide +kernel
theorem dX10_findNumbers_148 : decode cX10_findNumbers 148 = .ok (.iconst (-1), 1) := by decide +kernel
theorem dX10_findNumbers_149 : decode cX10_findNumbers 149 = .ok (.iand, 1) := by decide +kernel
theorem dX10_findNumbers_150 : decode cX10_findNumbers 150 = .ok (.istore_n 2, 1) := by decide +kernel
theorem dX10_findNumbers_151 : decode cX10_findNumbers 151 = .ok (.iinc 5 1, 3) := by decide +kernel
theorem dX10_findNumbers_154 : decode cX10_findNumbers 154 = .ok (.goto (-60), 3) := by decide +kernel
theorem dX10_findNumbers_157 : decode cX10_findNumbers 157 = .ok (.aload_n 0, 1) := by decide +kernel
theorem dX10_findNumbers_158 : decode cX10_findNumbers 158 = .ok (.getfield 40, 3) := by decide +kernel
theorem dX10_findNumbers_161 : decode cX10_findNumbers 161 = .ok (.aload_n 0, 1) := by decide +kernel
theorem dX10_findNumbers_162 : decode cX10_findNumbers 162 = .ok (.getfield 168, 3) := by decide +kernel
theorem dX10_findNumbers_165 : decode cX10_findNumbers 165 = .ok (.iload_n 3, 1) := by decide +kernel
theorem dX10_findNumbers_166 : decode cX10_findNumbers 166 = .ok (.iastore, 1) := by decide +kernel
theorem dX10_findNumbers_167 : decode cX10_findNumbers 167 = .ok (.aload_n 0, 1) := by decide +kernel
theorem dX10_findNumbers_168 : decode cX10_findNumbers 168 = .ok (.dup, 1) := by decide +kernel
theorem dX10_findNumbers_169 : decode cX10_findNumbers 169 = .ok (.getfield 168, 3) := by decide +kernel
theorem dX10_findNumbers_172 : decode cX10_findNumbers 172 = .ok (.iconst 1, 1) := by decide +kernel
theorem dX10_findNumbers_173 : decode cX10_findNumbers 173 = .ok (.iadd, 1) := by decide +kernel
theorem dX10_findNumbers_174 : decode cX10_findNumbers 174 = .ok (.putfield 168, 3) := by decide +kernel
theorem dX10_findNumbers_177 : decode cX10_findNumbers 177 = .ok (.goto (-163), 3) := by decide +kernel
theorem dX10_findNumbers_180 : decode cX10_findNumbers 180 = .ok (.return_, 1) := by decide +kernel
set_option maxRecDepth 100000 in
def fX10_findNumbers_L2 (t_spans : Int32) (t_spanHigh_a : Nat → Int32) (x1 : Int32) (t_spanAt_a : Nat → Int32) (u2 : Int32) : (Int32 × Int32 × Int32) → Option ((Int32) ⊕ (Int32 × Int32 × Int32)) := un3 fun (u6 : Int32) (u7 : Int32) (u8 : Int32) =>
  if t_spans ≤ u8 then
    some (.inl u6)
  else
    gd (bnd u8 24) <|
    gd (bnd u8 24) <|
    bv ((t_spanHigh_a (Int32.toNatClampNeg u8)) - ((x1 * (t_spanAt_a (Int32.toNatClampNeg u8))) / 1000)) fun v12 =>
    ob2 (α0 := Int32) (α1 := Int32) (
        if ((u2 >>> (u8 &&& 31)) &&& 1) = 1 then
          if u7 = 0 then
            some (v12, 1)
          else
            if u6 ≤ v12 then
              some (u6, u7)
            else
              some (v12, 1)
        else
          some (u6, u7)
      ) fun m13 m14 =>
    bv (u8 + 1) fun v20 =>
    some (.inr (m13, m14, v20))
set_option maxRecDepth 100000 in
def fX10_findNumbers_L3 (t_spans : Int32) (x21 : Int32) (t_spanLow_a : Nat → Int32) (x1 : Int32) (t_spanAt_a : Nat → Int32) : (Int32 × Int32) → Option ((Int32) ⊕ (Int32 × Int32)) := un2 fun (u22 : Int32) (u23 : Int32) =>
  if t_spans ≤ u23 then
    some (.inl u22)
  else
    ob (α := Int32) (
        if ((u22 >>> (u23 &&& 31)) &&& 1) = 1 then
          gd (bnd u23 24) <|
          gd (bnd u23 24) <|
          if x21 < ((t_spanLow_a (Int32.toNatClampNeg u23)) - ((x1 * (t_spanAt_a (Int32.toNatClampNeg u23))) / 1000)) then
            some (-1)
          else
            some (((1 : Int32) <<< (u23 &&& 31)) ^^^ (-1))
        else
          some (-1)
      ) fun m25 =>
    bv (u22 &&& m25) fun v32 =>
    bv (u23 + 1) fun v33 =>
    some (.inr (v32, v33))
set_option maxRecDepth 100000 in
def fX10_findNumbers_L1 (t_spans : Int32) (t_spanHigh_a : Nat → Int32) (x1 : Int32) (t_spanAt_a : Nat → Int32) (t_spanLow_a : Nat → Int32) : (Int32 × Int32 × (Nat → Int32)) → Option ((Int32 × (Nat → Int32)) ⊕ (Int32 × Int32 × (Nat → Int32))) := un3 fun (u2 : Int32) (u3 : Int32) (u4 : Nat → Int32) =>
  if u2 = 0 then
    some (.inl (u3, u4))
  else
    ob (it (fX10_findNumbers_L2 t_spans t_spanHigh_a x1 t_spanAt_a u2) 100000 (0, 0, 0)) fun x21 =>
    ob (it (fX10_findNumbers_L3 t_spans x21 t_spanLow_a x1 t_spanAt_a) 100000 (u2, 0)) fun x34 =>
    gd (bnd u3 24) <|
    bv (upd u4 (Int32.toNatClampNeg u3) x21) fun a36 =>
    bv (u3 + 1) fun v37 =>
    some (.inr (x34, v37, a36))
set_option maxRecDepth 100000 in
def fX10_findNumbers (x1 : Int32) (t_spans : Int32) (t_found : Int32) (t_spanLow_a : Nat → Int32) (t_spanHigh_a : Nat → Int32) (t_spanAt_a : Nat → Int32) (t_numbers_a : Nat → Int32) : Option (Int32 × (Nat → Int32)) :=
  bv (((1 : Int32) <<< (t_spans &&& 31)) - 1) fun v1 =>
  ob2 (it (fX10_findNumbers_L1 t_spans t_spanHigh_a x1 t_spanAt_a t_spanLow_a) 100000 (v1, 0, t_numbers_a)) fun x38 x39 =>
  some (x38, x39)
abbrev rmX10_findNumbers : Room := { frames := 0, cells := 0, slots := 0, locals := 0 }
theorem iwX10_findNumbers_X10 : ∀ w ∈ u_ws RX10 TX10 36, w ∈ wsX10_findNumbers := by decide +kernel
set_option maxHeartbeats 4000000 in
set_option maxRecDepth 100000 in
theorem k_X10_findNumbers (l : Launch) (G : va_G) (cI cJ : ClassId) (t_h t_edges_h t_lean_h t_word_h t_layer_h t_least_h t_sight_h t_shadow_h t_spanLow_h t_spanHigh_h t_spanAt_h t_numbers_h t_pair_h t_most_h t_row_h t_under_h t_agreed_h : Nat) (sz : Nat) (t_baseWay : Int32) (t_slip : Int32) (t_low : Int32) (t_high : Int32) (t_unlike : Int32) (t_alone : Int32) (t_above : Int64) (t_below : Int64) (t_layers : Int32) (t_sights : Int32) (t_shadows : Int32) (t_endAbove : Int64) (t_endBelow : Int64) (t_speedAbove : Int64) (t_speedBelow : Int64) (t_spans : Int32) (t_found : Int32) (t_pairs : Int32) (t_rows : Int32) (t_notes : Int32) (t_spanLow_a : Nat → Int32) (t_spanHigh_a : Nat → Int32) (t_spanAt_a : Nat → Int32) (t_numbers_a : Nat → Int32) (x1 : Int32) {o_t_found : Int32} {o_t_numbers_a : Nat → Int32} (hf : fX10_findNumbers x1 t_spans t_found t_spanLow_a t_spanHigh_a t_spanAt_a t_numbers_a = some (o_t_found, o_t_numbers_a)) : MetU l yX10_findNumbers wsX10_findNumbers rmX10_findNumbers [.ref t_h, .int x1] G cI cJ [(t_h, .inr (10, [.int t_baseWay, .int t_slip, .int t_low, .int t_high, .int t_unlike, .int t_alone, .long t_above, .long t_below, .ref t_edges_h, .ref t_lean_h, .ref t_word_h, .int t_layers, .ref t_layer_h, .ref t_least_h, .int t_sights, .ref t_sight_h, .int t_shadows, .ref t_shadow_h, .long t_endAbove, .long t_endBelow, .long t_speedAbove, .long t_speedBelow, .int t_spans, .ref t_spanLow_h, .ref t_spanHigh_h, .ref t_spanAt_h, .int t_found, .ref t_numbers_h, .int t_pairs, .ref t_pair_h, .ref t_most_h, .int t_rows, .ref t_row_h, .int t_notes, .ref t_under_h, .ref t_agreed_h])), (t_spanLow_h, .inl (cI, 24, .inl t_spanLow_a)), (t_spanHigh_h, .inl (cI, 24, .inl t_spanHigh_a)), (t_spanAt_h, .inl (cI, 24, .inl t_spanAt_a)), (t_numbers_h, .inl (cI, 24, .inl t_numbers_a))] [(t_h, .inr (10, [.int t_baseWay, .int t_slip, .int t_low, .int t_high, .int t_unlike, .int t_alone, .long t_above, .long t_below, .ref t_edges_h, .ref t_lean_h, .ref t_word_h, .int t_layers, .ref t_layer_h, .ref t_least_h, .int t_sights, .ref t_sight_h, .int t_shadows, .ref t_shadow_h, .long t_endAbove, .long t_endBelow, .long t_speedAbove, .long t_speedBelow, .int t_spans, .ref t_spanLow_h, .ref t_spanHigh_h, .ref t_spanAt_h, .int o_t_found, .ref t_numbers_h, .int t_pairs, .ref t_pair_h, .ref t_most_h, .int t_rows, .ref t_row_h, .int t_notes, .ref t_under_h, .ref t_agreed_h])), (t_spanLow_h, .inl (cI, 24, .inl t_spanLow_a)), (t_spanHigh_h, .inl (cI, 24, .inl t_spanHigh_a)), (t_spanAt_h, .inl (cI, 24, .inl t_spanAt_a)), (t_numbers_h, .inl (cI, 24, .inl o_t_numbers_a))] sz := by
  refine en_0 (l := l) (y := yX10_findNumbers) (wsl := wsX10_findNumbers) (rm := rmX10_findNumbers) (av := [.ref t_h, .int x1]) (G := G) (cI := cI) (cJ := cJ) (w0 := [(t_h, .inr (10, [.int t_baseWay, .int t_slip, .int t_low, .int t_high, .int t_unlike, .int t_alone, .long t_above, .long t_below, .ref t_edges_h, .ref t_lean_h, .ref t_word_h, .int t_layers, .ref t_layer_h, .ref t_least_h, .int t_sights, .ref t_sight_h, .int t_shadows, .ref t_shadow_h, .long t_endAbove, .long t_endBelow, .long t_speedAbove, .long t_speedBelow, .int t_spans, .ref t_spanLow_h, .ref t_spanHigh_h, .ref t_spanAt_h, .int t_found, .ref t_numbers_h, .int t_pairs, .ref t_pair_h, .ref t_most_h, .int t_rows, .ref t_row_h, .int t_notes, .ref t_under_h, .ref t_agreed_h])), (t_spanLow_h, .inl (cI, 24, .inl t_spanLow_a)), (t_spanHigh_h, .inl (cI, 24, .inl t_spanHigh_a)), (t_spanAt_h, .inl (cI, 24, .inl t_spanAt_a)), (t_numbers_h, .inl (cI, 24, .inl t_numbers_a))]) (sz := sz) (Qf := fun A => Qv0 G cI cJ [(t_h, .inr (10, [.int t_baseWay, .int t_slip, .int t_low, .int t_high, .int t_unlike, .int t_alone, .long t_above, .long t_below, .ref t_edges_h, .ref t_lean_h, .ref t_word_h, .int t_layers, .ref t_layer_h, .ref t_least_h, .int t_sights, .ref t_sight_h, .int t_shadows, .ref t_shadow_h, .long t_endAbove, .long t_endBelow, .long t_speedAbove, .long t_speedBelow, .int t_spans, .ref t_spanLow_h, .ref t_spanHigh_h, .ref t_spanAt_h, .int o_t_found, .ref t_numbers_h, .int t_pairs, .ref t_pair_h, .ref t_most_h, .int t_rows, .ref t_row_h, .int t_notes, .ref t_under_h, .ref t_agreed_h])), (t_spanLow_h, .inl (cI, 24, .inl t_spanLow_a)), (t_spanHigh_h, .inl (cI, 24, .inl t_spanHigh_a)), (t_spanAt_h, .inl (cI, 24, .inl t_spanAt_a)), (t_numbers_h, .inl (cI, 24, .inl o_t_numbers_a))] A) (cc := cX10_findNumbers) (maxL := 7) (ret := none) RX10 (by decide +kernel) rfl rfl (Nat.le_of_ble_eq_true rfl) ?_
  intro p e s m args below meth c A ls Q hQ hx hb hr hts hown hlocks hml hN hK hP hD hS hA hl
  have hl : lv_has ls 7 [(0, .ref t_h), (1, .int x1)] := hl
  have iwX10 := iwX10_findNumbers_X10
  have fl_31 := hts (.fieldLink RX10 31 "CloudOfficeModel" "spanLow" "[I") (by decide +kernel)
  have fl_34 := hts (.fieldLink RX10 34 "CloudOfficeModel" "spanHigh" "[I") (by decide +kernel)
  have fl_37 := hts (.fieldLink RX10 37 "CloudOfficeModel" "spanAt" "[I") (by decide +kernel)
  have fl_40 := hts (.fieldLink RX10 40 "CloudOfficeModel" "numbers" "[I") (by decide +kernel)
  have fl_165 := hts (.fieldLink RX10 165 "CloudOfficeModel" "spans" "I") (by decide +kernel)
  have fl_168 := hts (.fieldLink RX10 168 "CloudOfficeModel" "found" "I") (by decide +kernel)
  have hret : ∀ (o_t_found9 : Int32) (o_t_numbers_a9 : Nat → Int32) (pc : Nat) (H : Heap) (locs : List Loc) (ls : Array Slot), decode cX10_findNumbers pc = .ok (.return_, 1) → some (o_t_found9, o_t_numbers_a9) = some (o_t_found, o_t_numbers_a) → va_P G vwCl [(t_h, .inr (10, [.int t_baseWay, .int t_slip, .int t_low, .int t_high, .int t_unlike, .int t_alone, .long t_above, .long t_below, .ref t_edges_h, .ref t_lean_h, .ref t_word_h, .int t_layers, .ref t_layer_h, .ref t_least_h, .int t_sights, .ref t_sight_h, .int t_shadows, .ref t_shadow_h, .long t_endAbove, .long t_endBelow, .long t_speedAbove, .long t_speedBelow, .int t_spans, .ref t_spanLow_h, .ref t_spanHigh_h, .ref t_spanAt_h, .int o_t_found9, .ref t_numbers_h, .int t_pairs, .ref t_pair_h, .ref t_most_h, .int t_rows, .ref t_row_h, .int t_notes, .ref t_under_h, .ref t_agreed_h])), (t_spanLow_h, .inl (cI, 24, .inl t_spanLow_a)), (t_spanHigh_h, .inl (cI, 24, .inl t_spanHigh_a)), (t_spanAt_h, .inl (cI, 24, .inl t_spanAt_a)), (t_numbers_h, .inl (cI, 24, .inl o_t_numbers_a9))] H → va_D A [(t_h, .inr (10, [.int t_baseWay, .int t_slip, .int t_low, .int t_high, .int t_unlike, .int t_alone, .long t_above, .long t_below, .ref t_edges_h, .ref t_lean_h, .ref t_word_h, .int t_layers, .ref t_layer_h, .ref t_least_h, .int t_sights, .ref t_sight_h, .int t_shadows, .ref t_shadow_h, .long t_endAbove, .long t_endBelow, .long t_speedAbove, .long t_speedBelow, .int t_spans, .ref t_spanLow_h, .ref t_spanHigh_h, .ref t_spanAt_h, .int o_t_found9, .ref t_numbers_h, .int t_pairs, .ref t_pair_h, .ref t_most_h, .int t_rows, .ref t_row_h, .int t_notes, .ref t_under_h, .ref t_agreed_h])), (t_spanLow_h, .inl (cI, 24, .inl t_spanLow_a)), (t_spanHigh_h, .inl (cI, 24, .inl t_spanHigh_a)), (t_spanAt_h, .inl (cI, 24, .inl t_spanAt_a)), (t_numbers_h, .inl (cI, 24, .inl o_t_numbers_a9))] → va_S A s.heap H locs → W p l e rmX10_findNumbers s m args below meth c H locs 0 0 Q (F0 m pc ls []) := by
    intro o_t_found9 o_t_numbers_a9 pc H locs ls hdg he hP hD hS
    cases he
    subst hQ
    exact rt_v hx hb hr hlocks hK hP hD hS hdg
  clear hQ
  unfold fX10_findNumbers at hf
  refine lv_aload_n hx hb dX10_findNumbers_0 rfl (lv_at hl 0 rfl) ?_
  refine lv_iconst (v := 0) hx hb dX10_findNumbers_1 (by decide) ?_
  refine va_put (D := G) (ci := 10) (v := .int 0) (ty := .int) (C := RX10) (T := TX10) (N := 36) hx hb hts iwX10 tyX10 tyX10_ok nmX10 hown hK hP hD hS 0 rfl rfl 26 (by decide) fl_168 (fun _ h9 => h9) rfl (by decide +kernel) rfl rfl (Nat.le_of_ble_eq_true rfl) dX10_findNumbers_2 (fun H locs hP hD hS => ?_)
  have hP : va_P G vwCl [(t_h, .inr (10, [.int t_baseWay, .int t_slip, .int t_low, .int t_high, .int t_unlike, .int t_alone, .long t_above, .long t_below, .ref t_edges_h, .ref t_lean_h, .ref t_word_h, .int t_layers, .ref t_layer_h, .ref t_least_h, .int t_sights, .ref t_sight_h, .int t_shadows, .ref t_shadow_h, .long t_endAbove, .long t_endBelow, .long t_speedAbove, .long t_speedBelow, .int t_spans, .ref t_spanLow_h, .ref t_spanHigh_h, .ref t_spanAt_h, .int 0, .ref t_numbers_h, .int t_pairs, .ref t_pair_h, .ref t_most_h, .int t_rows, .ref t_row_h, .int t_notes, .ref t_under_h, .ref t_agreed_h])), (t_spanLow_h, .inl (cI, 24, .inl t_spanLow_a)), (t_spanHigh_h, .inl (cI, 24, .inl t_spanHigh_a)), (t_spanAt_h, .inl (cI, 24, .inl t_spanAt_a)), (t_numbers_h, .inl (cI, 24, .inl t_numbers_a))] H := hP
  have hD : va_D A [(t_h, .inr (10, [.int t_baseWay, .int t_slip, .int t_low, .int t_high, .int t_unlike, .int t_alone, .long t_above, .long t_below, .ref t_edges_h, .ref t_lean_h, .ref t_word_h, .int t_layers, .ref t_layer_h, .ref t_least_h, .int t_sights, .ref t_sight_h, .int t_shadows, .ref t_shadow_h, .long t_endAbove, .long t_endBelow, .long t_speedAbove, .long t_speedBelow, .int t_spans, .ref t_spanLow_h, .ref t_spanHigh_h, .ref t_spanAt_h, .int 0, .ref t_numbers_h, .int t_pairs, .ref t_pair_h, .ref t_most_h, .int t_rows, .ref t_row_h, .int t_notes, .ref t_under_h, .ref t_agreed_h])), (t_spanLow_h, .inl (cI, 24, .inl t_spanLow_a)), (t_spanHigh_h, .inl (cI, 24, .inl t_spanHigh_a)), (t_spanAt_h, .inl (cI, 24, .inl t_spanAt_a)), (t_numbers_h, .inl (cI, 24, .inl t_numbers_a))] := hD
  refine lv_iconst (v := 1) hx hb dX10_findNumbers_5 (by decide) ?_
  refine lv_aload_n hx hb dX10_findNumbers_6 rfl (lv_at hl 0 rfl) ?_
  refine va_get (D := G) (ci := 10) (v := .int t_spans) (C := RX10) (T := TX10) (N := 36) hx hb hts iwX10 hown hK hP 0 rfl rfl 22 (by decide) fl_165 (fun _ h9 => h9) rfl dX10_findNumbers_7 ?_
  refine lv_ishl hx hb dX10_findNumbers_10 ?_
  refine lv_iconst (v := 1) hx hb dX10_findNumbers_11 (by decide) ?_
  refine lv_isub hx hb dX10_findNumbers_12 ?_
  refine lv_topi (fun v1 ev1 => ?_)
  have hf := bv_at ev1 hf
  refine lv_istore_n (lv' := [(2, .int v1), (0, .ref t_h), (1, .int x1)]) hx hb dX10_findNumbers_13 rfl hl (by decide) rfl (fun ls hl => ?_)
  obtain ⟨x38, x39, ht1, hf⟩ := ob2_some hf
  have hx1_0 : ∀ (x389 : Int32) (x399 : Nat → Int32), (x389, x399) = (x38, x39) → ∀ (H : Heap) (locs : List Loc) (ls : Array Slot), va_P G vwCl [(t_h, .inr (10, [.int t_baseWay, .int t_slip, .int t_low, .int t_high, .int t_unlike, .int t_alone, .long t_above, .long t_below, .ref t_edges_h, .ref t_lean_h, .ref t_word_h, .int t_layers, .ref t_layer_h, .ref t_least_h, .int t_sights, .ref t_sight_h, .int t_shadows, .ref t_shadow_h, .long t_endAbove, .long t_endBelow, .long t_speedAbove, .long t_speedBelow, .int t_spans, .ref t_spanLow_h, .ref t_spanHigh_h, .ref t_spanAt_h, .int x389, .ref t_numbers_h, .int t_pairs, .ref t_pair_h, .ref t_most_h, .int t_rows, .ref t_row_h, .int t_notes, .ref t_under_h, .ref t_agreed_h])), (t_spanLow_h, .inl (cI, 24, .inl t_spanLow_a)), (t_spanHigh_h, .inl (cI, 24, .inl t_spanHigh_a)), (t_spanAt_h, .inl (cI, 24, .inl t_spanAt_a)), (t_numbers_h, .inl (cI, 24, .inl x399))] H → va_D A [(t_h, .inr (10, [.int t_baseWay, .int t_slip, .int t_low, .int t_high, .int t_unlike, .int t_alone, .long t_above, .long t_below, .ref t_edges_h, .ref t_lean_h, .ref t_word_h, .int t_layers, .ref t_layer_h, .ref t_least_h, .int t_sights, .ref t_sight_h, .int t_shadows, .ref t_shadow_h, .long t_endAbove, .long t_endBelow, .long t_speedAbove, .long t_speedBelow, .int t_spans, .ref t_spanLow_h, .ref t_spanHigh_h, .ref t_spanAt_h, .int x389, .ref t_numbers_h, .int t_pairs, .ref t_pair_h, .ref t_most_h, .int t_rows, .ref t_row_h, .int t_notes, .ref t_under_h, .ref t_agreed_h])), (t_spanLow_h, .inl (cI, 24, .inl t_spanLow_a)), (t_spanHigh_h, .inl (cI, 24, .inl t_spanHigh_a)), (t_spanAt_h, .inl (cI, 24, .inl t_spanAt_a)), (t_numbers_h, .inl (cI, 24, .inl x399))] → va_S A s.heap H locs → lv_has ls 7 [] → W p l e rmX10_findNumbers s m args below meth c H locs 0 0 Q (F0 m 180 ls []) := by
    intro x389 x399 he H locs ls hP hD hS hl
    cases he
    exact hret x38 x39 180 _ _ _ dX10_findNumbers_180 hf hP hD hS
  clear hf
  have hl1 : ∀ (n : Nat) (u2 : Int32) (u3 : Int32) (u4 : Nat → Int32), it (fX10_findNumbers_L1 t_spans t_spanHigh_a x1 t_spanAt_a t_spanLow_a) n (u2, u3, u4) = some (x38, x39) → ∀ (H : Heap) (locs : List Loc) (ls : Array Slot), va_P G vwCl [(t_h, .inr (10, [.int t_baseWay, .int t_slip, .int t_low, .int t_high, .int t_unlike, .int t_alone, .long t_above, .long t_below, .ref t_edges_h, .ref t_lean_h, .ref t_word_h, .int t_layers, .ref t_layer_h, .ref t_least_h, .int t_sights, .ref t_sight_h, .int t_shadows, .ref t_shadow_h, .long t_endAbove, .long t_endBelow, .long t_speedAbove, .long t_speedBelow, .int t_spans, .ref t_spanLow_h, .ref t_spanHigh_h, .ref t_spanAt_h, .int u3, .ref t_numbers_h, .int t_pairs, .ref t_pair_h, .ref t_most_h, .int t_rows, .ref t_row_h, .int t_notes, .ref t_under_h, .ref t_agreed_h])), (t_spanLow_h, .inl (cI, 24, .inl t_spanLow_a)), (t_spanHigh_h, .inl (cI, 24, .inl t_spanHigh_a)), (t_spanAt_h, .inl (cI, 24, .inl t_spanAt_a)), (t_numbers_h, .inl (cI, 24, .inl u4))] H → va_D A [(t_h, .inr (10, [.int t_baseWay, .int t_slip, .int t_low, .int t_high, .int t_unlike, .int t_alone, .long t_above, .long t_below, .ref t_edges_h, .ref t_lean_h, .ref t_word_h, .int t_layers, .ref t_layer_h, .ref t_least_h, .int t_sights, .ref t_sight_h, .int t_shadows, .ref t_shadow_h, .long t_endAbove, .long t_endBelow, .long t_speedAbove, .long t_speedBelow, .int t_spans, .ref t_spanLow_h, .ref t_spanHigh_h, .ref t_spanAt_h, .int u3, .ref t_numbers_h, .int t_pairs, .ref t_pair_h, .ref t_most_h, .int t_rows, .ref t_row_h, .int t_notes, .ref t_under_h, .ref t_agreed_h])), (t_spanLow_h, .inl (cI, 24, .inl t_spanLow_a)), (t_spanHigh_h, .inl (cI, 24, .inl t_spanHigh_a)), (t_spanAt_h, .inl (cI, 24, .inl t_spanAt_a)), (t_numbers_h, .inl (cI, 24, .inl u4))] → va_S A s.heap H locs → lv_has ls 7 [(0, .ref t_h), (1, .int x1), (2, .int u2)] → W p l e rmX10_findNumbers s m args below meth c H locs 0 0 Q (F0 m 14 ls []) := by
    intro n
    induction n with
    | zero => intro u2 u3 u4 hz; exact (it_zero hz).elim
    | succ n ih =>
      intro u2 u3 u4 hz H locs ls hP hD hS hl
      obtain ⟨x9, hf, hq⟩ := it_succ hz
      unfold fX10_findNumbers_L1 at hf
      dsimp only [un3] at hf
      refine lv_iload_n hx hb dX10_findNumbers_14 rfl (lv_at hl 2 rfl) ?_
      refine lv_if_eq (tgt := 180) hx hb dX10_findNumbers_15 (by decide) (fun c5 => ?_) (fun c5 => ?_)
      · have hf := ift hf c5
        cases hf
        exact hx1_0 _ _ hq _ _ _ hP hD hS (lv_sub hl [] rfl)
      · have hf := iff_ hf c5
        refine lv_iconst (v := 0) hx hb dX10_findNumbers_18 (by decide) ?_
        refine lv_istore_n (lv' := [(3, .int 0), (0, .ref t_h), (1, .int x1), (2, .int u2)]) hx hb dX10_findNumbers_19 rfl hl (by decide) rfl (fun ls hl => ?_)
        refine lv_iconst (v := 0) hx hb dX10_findNumbers_20 (by decide) ?_
        refine lv_istore (lv' := [(4, .int 0), (3, .int 0), (0, .ref t_h), (1, .int x1), (2, .int u2)]) hx hb dX10_findNumbers_21 hl (by decide) rfl (fun ls hl => ?_)
        refine lv_iconst (v := 0) hx hb dX10_findNumbers_23 (by decide) ?_
        refine lv_istore (lv' := [(5, .int 0), (4, .int 0), (3, .int 0), (0, .ref t_h), (1, .int x1), (2, .int u2)]) hx hb dX10_findNumbers_24 hl (by decide) rfl (fun ls hl => ?_)
        obtain ⟨x21, ht2, hf⟩ := ob_some hf
        have hx2_0 : ∀ (x219 : Int32), x219 = x21 → ∀ (H : Heap) (locs : List Loc) (ls : Array Slot), va_P G vwCl [(t_h, .inr (10, [.int t_baseWay, .int t_slip, .int t_low, .int t_high, .int t_unlike, .int t_alone, .long t_above, .long t_below, .ref t_edges_h, .ref t_lean_h, .ref t_word_h, .int t_layers, .ref t_layer_h, .ref t_least_h, .int t_sights, .ref t_sight_h, .int t_shadows, .ref t_shadow_h, .long t_endAbove, .long t_endBelow, .long t_speedAbove, .long t_speedBelow, .int t_spans, .ref t_spanLow_h, .ref t_spanHigh_h, .ref t_spanAt_h, .int u3, .ref t_numbers_h, .int t_pairs, .ref t_pair_h, .ref t_most_h, .int t_rows, .ref t_row_h, .int t_notes, .ref t_under_h, .ref t_agreed_h])), (t_spanLow_h, .inl (cI, 24, .inl t_spanLow_a)), (t_spanHigh_h, .inl (cI, 24, .inl t_spanHigh_a)), (t_spanAt_h, .inl (cI, 24, .inl t_spanAt_a)), (t_numbers_h, .inl (cI, 24, .inl u4))] H → va_D A [(t_h, .inr (10, [.int t_baseWay, .int t_slip, .int t_low, .int t_high, .int t_unlike, .int t_alone, .long t_above, .long t_below, .ref t_edges_h, .ref t_lean_h, .ref t_word_h, .int t_layers, .ref t_layer_h, .ref t_least_h, .int t_sights, .ref t_sight_h, .int t_shadows, .ref t_shadow_h, .long t_endAbove, .long t_endBelow, .long t_speedAbove, .long t_speedBelow, .int t_spans, .ref t_spanLow_h, .ref t_spanHigh_h, .ref t_spanAt_h, .int u3, .ref t_numbers_h, .int t_pairs, .ref t_pair_h, .ref t_most_h, .int t_rows, .ref t_row_h, .int t_notes, .ref t_under_h, .ref t_agreed_h])), (t_spanLow_h, .inl (cI, 24, .inl t_spanLow_a)), (t_spanHigh_h, .inl (cI, 24, .inl t_spanHigh_a)), (t_spanAt_h, .inl (cI, 24, .inl t_spanAt_a)), (t_numbers_h, .inl (cI, 24, .inl u4))] → va_S A s.heap H locs → lv_has ls 7 [(0, .ref t_h), (1, .int x1), (2, .int u2), (3, .int x219)] → W p l e rmX10_findNumbers s m args below meth c H locs 0 0 Q (F0 m 91 ls []) := by
          intro x219 he H locs ls hP hD hS hl
          cases he
          refine lv_iconst (v := 0) hx hb dX10_findNumbers_91 (by decide) ?_
          refine lv_istore (lv' := [(5, .int 0), (0, .ref t_h), (1, .int x1), (2, .int u2), (3, .int x21)]) hx hb dX10_findNumbers_92 hl (by decide) rfl (fun ls hl => ?_)
          obtain ⟨x34, ht3, hf⟩ := ob_some hf
          have hx3_0 : ∀ (x349 : Int32), x349 = x34 → ∀ (H : Heap) (locs : List Loc) (ls : Array Slot), va_P G vwCl [(t_h, .inr (10, [.int t_baseWay, .int t_slip, .int t_low, .int t_high, .int t_unlike, .int t_alone, .long t_above, .long t_below, .ref t_edges_h, .ref t_lean_h, .ref t_word_h, .int t_layers, .ref t_layer_h, .ref t_least_h, .int t_sights, .ref t_sight_h, .int t_shadows, .ref t_shadow_h, .long t_endAbove, .long t_endBelow, .long t_speedAbove, .long t_speedBelow, .int t_spans, .ref t_spanLow_h, .ref t_spanHigh_h, .ref t_spanAt_h, .int u3, .ref t_numbers_h, .int t_pairs, .ref t_pair_h, .ref t_most_h, .int t_rows, .ref t_row_h, .int t_notes, .ref t_under_h, .ref t_agreed_h])), (t_spanLow_h, .inl (cI, 24, .inl t_spanLow_a)), (t_spanHigh_h, .inl (cI, 24, .inl t_spanHigh_a)), (t_spanAt_h, .inl (cI, 24, .inl t_spanAt_a)), (t_numbers_h, .inl (cI, 24, .inl u4))] H → va_D A [(t_h, .inr (10, [.int t_baseWay, .int t_slip, .int t_low, .int t_high, .int t_unlike, .int t_alone, .long t_above, .long t_below, .ref t_edges_h, .ref t_lean_h, .ref t_word_h, .int t_layers, .ref t_layer_h, .ref t_least_h, .int t_sights, .ref t_sight_h, .int t_shadows, .ref t_shadow_h, .long t_endAbove, .long t_endBelow, .long t_speedAbove, .long t_speedBelow, .int t_spans, .ref t_spanLow_h, .ref t_spanHigh_h, .ref t_spanAt_h, .int u3, .ref t_numbers_h, .int t_pairs, .ref t_pair_h, .ref t_most_h, .int t_rows, .ref t_row_h, .int t_notes, .ref t_under_h, .ref t_agreed_h])), (t_spanLow_h, .inl (cI, 24, .inl t_spanLow_a)), (t_spanHigh_h, .inl (cI, 24, .inl t_spanHigh_a)), (t_spanAt_h, .inl (cI, 24, .inl t_spanAt_a)), (t_numbers_h, .inl (cI, 24, .inl u4))] → va_S A s.heap H locs → lv_has ls 7 [(0, .ref t_h), (1, .int x1), (2, .int x349), (3, .int x21)] → W p l e rmX10_findNumbers s m args below meth c H locs 0 0 Q (F0 m 157 ls []) := by
            intro x349 he H locs ls hP hD hS hl
            cases he
            refine lv_aload_n hx hb dX10_findNumbers_157 rfl (lv_at hl 0 rfl) ?_
            refine va_get (D := G) (ci := 10) (v := .ref t_numbers_h) (C := RX10) (T := TX10) (N := 36) hx hb hts iwX10 hown hK hP 0 rfl rfl 27 (by decide) fl_40 (fun _ h9 => h9) rfl dX10_findNumbers_158 ?_
            refine lv_aload_n hx hb dX10_findNumbers_161 rfl (lv_at hl 0 rfl) ?_
            refine va_get (D := G) (ci := 10) (v := .int u3) (C := RX10) (T := TX10) (N := 36) hx hb hts iwX10 hown hK hP 0 rfl rfl 26 (by decide) fl_168 (fun _ h9 => h9) rfl dX10_findNumbers_162 ?_
            refine lv_iload_n hx hb dX10_findNumbers_165 rfl (lv_at hl 3 rfl) ?_
            obtain ⟨h35, hf⟩ := gd_some hf
            obtain ⟨a36, ea36⟩ : ∃ y : Nat → Int32, y = upd u4 (Int32.toNatClampNeg u3) x21 := ⟨_, rfl⟩
            have hf := bv_at ea36 hf
            refine va_iast hx hb hK hP hD hS 4 0 rfl rfl (bnd_in h35) dX10_findNumbers_166 (fun H locs hP hD hS => ?_)
            have hP : va_P G vwCl [(t_h, .inr (10, [.int t_baseWay, .int t_slip, .int t_low, .int t_high, .int t_unlike, .int t_alone, .long t_above, .long t_below, .ref t_edges_h, .ref t_lean_h, .ref t_word_h, .int t_layers, .ref t_layer_h, .ref t_least_h, .int t_sights, .ref t_sight_h, .int t_shadows, .ref t_shadow_h, .long t_endAbove, .long t_endBelow, .long t_speedAbove, .long t_speedBelow, .int t_spans, .ref t_spanLow_h, .ref t_spanHigh_h, .ref t_spanAt_h, .int u3, .ref t_numbers_h, .int t_pairs, .ref t_pair_h, .ref t_most_h, .int t_rows, .ref t_row_h, .int t_notes, .ref t_under_h, .ref t_agreed_h])), (t_spanLow_h, .inl (cI, 24, .inl t_spanLow_a)), (t_spanHigh_h, .inl (cI, 24, .inl t_spanHigh_a)), (t_spanAt_h, .inl (cI, 24, .inl t_spanAt_a)), (t_numbers_h, .inl (cI, 24, .inl a36))] H := by rw [ea36]; exact hP
            have hD : va_D A [(t_h, .inr (10, [.int t_baseWay, .int t_slip, .int t_low, .int t_high, .int t_unlike, .int t_alone, .long t_above, .long t_below, .ref t_edges_h, .ref t_lean_h, .ref t_word_h, .int t_layers, .ref t_layer_h, .ref t_least_h, .int t_sights, .ref t_sight_h, .int t_shadows, .ref t_shadow_h, .long t_endAbove, .long t_endBelow, .long t_speedAbove, .long t_speedBelow, .int t_spans, .ref t_spanLow_h, .ref t_spanHigh_h, .ref t_spanAt_h, .int u3, .ref t_numbers_h, .int t_pairs, .ref t_pair_h, .ref t_most_h, .int t_rows, .ref t_row_h, .int t_notes, .ref t_under_h, .ref t_agreed_h])), (t_spanLow_h, .inl (cI, 24, .inl t_spanLow_a)), (t_spanHigh_h, .inl (cI, 24, .inl t_spanHigh_a)), (t_spanAt_h, .inl (cI, 24, .inl t_spanAt_a)), (t_numbers_h, .inl (cI, 24, .inl a36))] := by rw [ea36]; exact hD
            refine lv_aload_n hx hb dX10_findNumbers_167 rfl (lv_at hl 0 rfl) ?_
            refine lv_dup hx hb dX10_findNumbers_168 rfl ?_
            refine va_get (D := G) (ci := 10) (v := .int u3) (C := RX10) (T := TX10) (N := 36) hx hb hts iwX10 hown hK hP 0 rfl rfl 26 (by decide) fl_168 (fun _ h9 => h9) rfl dX10_findNumbers_169 ?_
            refine lv_iconst (v := 1) hx hb dX10_findNumbers_172 (by decide) ?_
            refine lv_iadd hx hb dX10_findNumbers_173 ?_
            refine lv_topi (fun v37 ev37 => ?_)
            have hf := bv_at ev37 hf
            refine va_put (D := G) (ci := 10) (v := .int v37) (ty := .int) (C := RX10) (T := TX10) (N := 36) hx hb hts iwX10 tyX10 tyX10_ok nmX10 hown hK hP hD hS 0 rfl rfl 26 (by decide) fl_168 (fun _ h9 => h9) rfl (by decide +kernel) rfl rfl (Nat.le_of_ble_eq_true rfl) dX10_findNumbers_174 (fun H locs hP hD hS => ?_)
            have hP : va_P G vwCl [(t_h, .inr (10, [.int t_baseWay, .int t_slip, .int t_low, .int t_high, .int t_unlike, .int t_alone, .long t_above, .long t_below, .ref t_edges_h, .ref t_lean_h, .ref t_word_h, .int t_layers, .ref t_layer_h, .ref t_least_h, .int t_sights, .ref t_sight_h, .int t_shadows, .ref t_shadow_h, .long t_endAbove, .long t_endBelow, .long t_speedAbove, .long t_speedBelow, .int t_spans, .ref t_spanLow_h, .ref t_spanHigh_h, .ref t_spanAt_h, .int v37, .ref t_numbers_h, .int t_pairs, .ref t_pair_h, .ref t_most_h, .int t_rows, .ref t_row_h, .int t_notes, .ref t_under_h, .ref t_agreed_h])), (t_spanLow_h, .inl (cI, 24, .inl t_spanLow_a)), (t_spanHigh_h, .inl (cI, 24, .inl t_spanHigh_a)), (t_spanAt_h, .inl (cI, 24, .inl t_spanAt_a)), (t_numbers_h, .inl (cI, 24, .inl a36))] H := hP
            have hD : va_D A [(t_h, .inr (10, [.int t_baseWay, .int t_slip, .int t_low, .int t_high, .int t_unlike, .int t_alone, .long t_above, .long t_below, .ref t_edges_h, .ref t_lean_h, .ref t_word_h, .int t_layers, .ref t_layer_h, .ref t_least_h, .int t_sights, .ref t_sight_h, .int t_shadows, .ref t_shadow_h, .long t_endAbove, .long t_endBelow, .long t_speedAbove, .long t_speedBelow, .int t_spans, .ref t_spanLow_h, .ref t_spanHigh_h, .ref t_spanAt_h, .int v37, .ref t_numbers_h, .int t_pairs, .ref t_pair_h, .ref t_most_h, .int t_rows, .ref t_row_h, .int t_notes, .ref t_under_h, .ref t_agreed_h])), (t_spanLow_h, .inl (cI, 24, .inl t_spanLow_a)), (t_spanHigh_h, .inl (cI, 24, .inl t_spanHigh_a)), (t_spanAt_h, .inl (cI, 24, .inl t_spanAt_a)), (t_numbers_h, .inl (cI, 24, .inl a36))] := hD
            refine lv_goto (tgt := 14) hx hb dX10_findNumbers_177 (by decide) ?_
            cases hf
            exact ih _ _ _ hq _ _ _ hP hD hS (lv_sub hl [0, 1, 2] rfl)
          clear hf
          have hl3 : ∀ (n : Nat) (u22 : Int32) (u23 : Int32), it (fX10_findNumbers_L3 t_spans x21 t_spanLow_a x1 t_spanAt_a) n (u22, u23) = some x34 → ∀ (H : Heap) (locs : List Loc) (ls : Array Slot), va_P G vwCl [(t_h, .inr (10, [.int t_baseWay, .int t_slip, .int t_low, .int t_high, .int t_unlike, .int t_alone, .long t_above, .long t_below, .ref t_edges_h, .ref t_lean_h, .ref t_word_h, .int t_layers, .ref t_layer_h, .ref t_least_h, .int t_sights, .ref t_sight_h, .int t_shadows, .ref t_shadow_h, .long t_endAbove, .long t_endBelow, .long t_speedAbove, .long t_speedBelow, .int t_spans, .ref t_spanLow_h, .ref t_spanHigh_h, .ref t_spanAt_h, .int u3, .ref t_numbers_h, .int t_pairs, .ref t_pair_h, .ref t_most_h, .int t_rows, .ref t_row_h, .int t_notes, .ref t_under_h, .ref t_agreed_h])), (t_spanLow_h, .inl (cI, 24, .inl t_spanLow_a)), (t_spanHigh_h, .inl (cI, 24, .inl t_spanHigh_a)), (t_spanAt_h, .inl (cI, 24, .inl t_spanAt_a)), (t_numbers_h, .inl (cI, 24, .inl u4))] H → va_D A [(t_h, .inr (10, [.int t_baseWay, .int t_slip, .int t_low, .int t_high, .int t_unlike, .int t_alone, .long t_above, .long t_below, .ref t_edges_h, .ref t_lean_h, .ref t_word_h, .int t_layers, .ref t_layer_h, .ref t_least_h, .int t_sights, .ref t_sight_h, .int t_shadows, .ref t_shadow_h, .long t_endAbove, .long t_endBelow, .long t_speedAbove, .long t_speedBelow, .int t_spans, .ref t_spanLow_h, .ref t_spanHigh_h, .ref t_spanAt_h, .int u3, .ref t_numbers_h, .int t_pairs, .ref t_pair_h, .ref t_most_h, .int t_rows, .ref t_row_h, .int t_notes, .ref t_under_h, .ref t_agreed_h])), (t_spanLow_h, .inl (cI, 24, .inl t_spanLow_a)), (t_spanHigh_h, .inl (cI, 24, .inl t_spanHigh_a)), (t_spanAt_h, .inl (cI, 24, .inl t_spanAt_a)), (t_numbers_h, .inl (cI, 24, .inl u4))] → va_S A s.heap H locs → lv_has ls 7 [(0, .ref t_h), (1, .int x1), (2, .int u22), (3, .int x21), (5, .int u23)] → W p l e rmX10_findNumbers s m args below meth c H locs 0 0 Q (F0 m 94 ls []) := by
            intro n
            induction n with
            | zero => intro u22 u23 hz; exact (it_zero hz).elim
            | succ n ih =>
              intro u22 u23 hz H locs ls hP hD hS hl
              obtain ⟨x9, hf, hq⟩ := it_succ hz
              unfold fX10_findNumbers_L3 at hf
              dsimp only [un2] at hf
              refine lv_iload hx hb dX10_findNumbers_94 (lv_at hl 4 rfl) ?_
              refine lv_aload_n hx hb dX10_findNumbers_96 rfl (lv_at hl 0 rfl) ?_
              refine va_get (D := G) (ci := 10) (v := .int t_spans) (C := RX10) (T := TX10) (N := 36) hx hb hts iwX10 hown hK hP 0 rfl rfl 22 (by decide) fl_165 (fun _ h9 => h9) rfl dX10_findNumbers_97 ?_
              refine lv_icmp_ge (tgt := 157) hx hb dX10_findNumbers_100 (by decide) (fun c24 => ?_) (fun c24 => ?_)
              · have hf := ift hf c24
                cases hf
                exact hx3_0 _ hq _ _ _ hP hD hS (lv_sub hl [0, 1, 2, 3] rfl)
              · have hf := iff_ hf c24
                refine lv_iload_n hx hb dX10_findNumbers_103 rfl (lv_at hl 2 rfl) ?_
                refine lv_iload_n hx hb dX10_findNumbers_104 rfl (lv_at hl 2 rfl) ?_
                refine lv_iload hx hb dX10_findNumbers_105 (lv_at hl 4 rfl) ?_
                refine lv_ishr hx hb dX10_findNumbers_107 ?_
                refine lv_iconst (v := 1) hx hb dX10_findNumbers_108 (by decide) ?_
                refine lv_iand hx hb dX10_findNumbers_109 ?_
                refine lv_iconst (v := 1) hx hb dX10_findNumbers_110 (by decide) ?_
                obtain ⟨m25, hr26, hf⟩ := ob_some hf
                have hj27 : ∀ (m259 : Int32), some m259 = some m25 → ∀ (H : Heap) (locs : List Loc) (ls : Array Slot), va_P G vwCl [(t_h, .inr (10, [.int t_baseWay, .int t_slip, .int t_low, .int t_high, .int t_unlike, .int t_alone, .long t_above, .long t_below, .ref t_edges_h, .ref t_lean_h, .ref t_word_h, .int t_layers, .ref t_layer_h, .ref t_least_h, .int t_sights, .ref t_sight_h, .int t_shadows, .ref t_shadow_h, .long t_endAbove, .long t_endBelow, .long t_speedAbove, .long t_speedBelow, .int t_spans, .ref t_spanLow_h, .ref t_spanHigh_h, .ref t_spanAt_h, .int u3, .ref t_numbers_h, .int t_pairs, .ref t_pair_h, .ref t_most_h, .int t_rows, .ref t_row_h, .int t_notes, .ref t_under_h, .ref t_agreed_h])), (t_spanLow_h, .inl (cI, 24, .inl t_spanLow_a)), (t_spanHigh_h, .inl (cI, 24, .inl t_spanHigh_a)), (t_spanAt_h, .inl (cI, 24, .inl t_spanAt_a)), (t_numbers_h, .inl (cI, 24, .inl u4))] H → va_D A [(t_h, .inr (10, [.int t_baseWay, .int t_slip, .int t_low, .int t_high, .int t_unlike, .int t_alone, .long t_above, .long t_below, .ref t_edges_h, .ref t_lean_h, .ref t_word_h, .int t_layers, .ref t_layer_h, .ref t_least_h, .int t_sights, .ref t_sight_h, .int t_shadows, .ref t_shadow_h, .long t_endAbove, .long t_endBelow, .long t_speedAbove, .long t_speedBelow, .int t_spans, .ref t_spanLow_h, .ref t_spanHigh_h, .ref t_spanAt_h, .int u3, .ref t_numbers_h, .int t_pairs, .ref t_pair_h, .ref t_most_h, .int t_rows, .ref t_row_h, .int t_notes, .ref t_under_h, .ref t_agreed_h])), (t_spanLow_h, .inl (cI, 24, .inl t_spanLow_a)), (t_spanHigh_h, .inl (cI, 24, .inl t_spanHigh_a)), (t_spanAt_h, .inl (cI, 24, .inl t_spanAt_a)), (t_numbers_h, .inl (cI, 24, .inl u4))] → va_S A s.heap H locs → lv_has ls 7 [(0, .ref t_h), (1, .int x1), (3, .int x21), (5, .int u23)] → W p l e rmX10_findNumbers s m args below meth c H locs 0 0 Q (F0 m 149 ls [.int m259, .int u22]) := by
                  intro m259 he H locs ls hP hD hS hl
                  cases he
                  refine lv_iand hx hb dX10_findNumbers_149 ?_
                  refine lv_topi (fun v32 ev32 => ?_)
                  have hf := bv_at ev32 hf
                  refine lv_istore_n (lv' := [(2, .int v32), (0, .ref t_h), (1, .int x1), (3, .int x21), (5, .int u23)]) hx hb dX10_findNumbers_150 rfl hl (by decide) rfl (fun ls hl => ?_)
                  obtain ⟨v33, ev33⟩ : ∃ y : Int32, y = u23 + 1 := ⟨_, rfl⟩
                  have hf := bv_at ev33 hf
                  refine lv_iinc (v := v33) (lv' := [(5, .int v33), (2, .int v32), (0, .ref t_h), (1, .int x1), (3, .int x21)]) hx hb dX10_findNumbers_151 hl (k := 4) rfl (by rw [ev33]; rfl) (by decide) rfl (fun ls hl => ?_)
                  refine lv_goto (tgt := 94) hx hb dX10_findNumbers_154 (by decide) ?_
                  cases hf
                  exact ih _ _ hq _ _ _ hP hD hS (lv_sub hl [2, 3, 1, 4, 0] rfl)
                replace hf := hr26
                refine lv_icmp_ne (tgt := 148) hx hb dX10_findNumbers_111 (by decide) (fun c28 => ?_) (fun c28 => ?_)
                · have hf := iff_ hf c28
                  refine lv_iconst (v := (-1)) hx hb dX10_findNumbers_148 (by decide) ?_
                  exact hj27 _ hf _ _ _ hP hD hS (lv_sub hl [0, 1, 3, 4] rfl)
                · have hf := ift hf c28
                  refine lv_aload_n hx hb dX10_findNumbers_114 rfl (lv_at hl 0 rfl) ?_
                  refine va_get (D := G) (ci := 10) (v := .ref t_spanLow_h) (C := RX10) (T := TX10) (N := 36) hx hb hts iwX10 hown hK hP 0 rfl rfl 23 (by decide) fl_31 (fun _ h9 => h9) rfl dX10_findNumbers_115 ?_
                  refine lv_iload hx hb dX10_findNumbers_118 (lv_at hl 4 rfl) ?_
                  obtain ⟨h29, hf⟩ := gd_some hf
                  refine va_iald hx hb hK hP 1 0 rfl rfl (bnd_in h29) dX10_findNumbers_120 ?_
                  refine lv_iload_n hx hb dX10_findNumbers_121 rfl (lv_at hl 1 rfl) ?_
                  refine lv_aload_n hx hb dX10_findNumbers_122 rfl (lv_at hl 0 rfl) ?_
                  refine va_get (D := G) (ci := 10) (v := .ref t_spanAt_h) (C := RX10) (T := TX10) (N := 36) hx hb hts iwX10 hown hK hP 0 rfl rfl 25 (by decide) fl_37 (fun _ h9 => h9) rfl dX10_findNumbers_123 ?_
                  refine lv_iload hx hb dX10_findNumbers_126 (lv_at hl 4 rfl) ?_
                  obtain ⟨h30, hf⟩ := gd_some hf
                  refine va_iald hx hb hK hP 3 0 rfl rfl (bnd_in h30) dX10_findNumbers_128 ?_
                  refine lv_imul hx hb dX10_findNumbers_129 ?_
                  refine lv_sipush (v := 1000) hx hb dX10_findNumbers_130 (by decide) ?_
                  refine lv_idiv hx hb dX10_findNumbers_133 (by decide) ?_
                  refine lv_isub hx hb dX10_findNumbers_134 ?_
                  refine lv_iload_n hx hb dX10_findNumbers_135 rfl (lv_at hl 3 rfl) ?_
                  refine lv_icmp_gt (tgt := 148) hx hb dX10_findNumbers_136 (by decide) (fun c31 => ?_) (fun c31 => ?_)
                  · have hf := ift hf c31
                    refine lv_iconst (v := (-1)) hx hb dX10_findNumbers_148 (by decide) ?_
                    exact hj27 _ hf _ _ _ hP hD hS (lv_sub hl [0, 1, 3, 4] rfl)
                  · have hf := iff_ hf c31
                    refine lv_iconst (v := 1) hx hb dX10_findNumbers_139 (by decide) ?_
                    refine lv_iload hx hb dX10_findNumbers_140 (lv_at hl 4 rfl) ?_
                    refine lv_ishl hx hb dX10_findNumbers_142 ?_
                    refine lv_iconst (v := (-1)) hx hb dX10_findNumbers_143 (by decide) ?_
                    refine lv_ixor hx hb dX10_findNumbers_144 ?_
                    refine lv_goto (tgt := 149) hx hb dX10_findNumbers_145 (by decide) ?_
                    exact hj27 _ hf _ _ _ hP hD hS (lv_sub hl [0, 1, 3, 4] rfl)
          exact hl3 _ _ _ ht3 _ _ _ hP hD hS (lv_sub hl [1, 2, 3, 4, 0] rfl)
        clear hf
        have hl2 : ∀ (n : Nat) (u6 : Int32) (u7 : Int32) (u8 : Int32), it (fX10_findNumbers_L2 t_spans t_spanHigh_a x1 t_spanAt_a u2) n (u6, u7, u8) = some x21 → ∀ (H : Heap) (locs : List Loc) (ls : Array Slot), va_P G vwCl [(t_h, .inr (10, [.int t_baseWay, .int t_slip, .int t_low, .int t_high, .int t_unlike, .int t_alone, .long t_above, .long t_below, .ref t_edges_h, .ref t_lean_h, .ref t_word_h, .int t_layers, .ref t_layer_h, .ref t_least_h, .int t_sights, .ref t_sight_h, .int t_shadows, .ref t_shadow_h, .long t_endAbove, .long t_endBelow, .long t_speedAbove, .long t_speedBelow, .int t_spans, .ref t_spanLow_h, .ref t_spanHigh_h, .ref t_spanAt_h, .int u3, .ref t_numbers_h, .int t_pairs, .ref t_pair_h, .ref t_most_h, .int t_rows, .ref t_row_h, .int t_notes, .ref t_under_h, .ref t_agreed_h])), (t_spanLow_h, .inl (cI, 24, .inl t_spanLow_a)), (t_spanHigh_h, .inl (cI, 24, .inl t_spanHigh_a)), (t_spanAt_h, .inl (cI, 24, .inl t_spanAt_a)), (t_numbers_h, .inl (cI, 24, .inl u4))] H → va_D A [(t_h, .inr (10, [.int t_baseWay, .int t_slip, .int t_low, .int t_high, .int t_unlike, .int t_alone, .long t_above, .long t_below, .ref t_edges_h, .ref t_lean_h, .ref t_word_h, .int t_layers, .ref t_layer_h, .ref t_least_h, .int t_sights, .ref t_sight_h, .int t_shadows, .ref t_shadow_h, .long t_endAbove, .long t_endBelow, .long t_speedAbove, .long t_speedBelow, .int t_spans, .ref t_spanLow_h, .ref t_spanHigh_h, .ref t_spanAt_h, .int u3, .ref t_numbers_h, .int t_pairs, .ref t_pair_h, .ref t_most_h, .int t_rows, .ref t_row_h, .int t_notes, .ref t_under_h, .ref t_agreed_h])), (t_spanLow_h, .inl (cI, 24, .inl t_spanLow_a)), (t_spanHigh_h, .inl (cI, 24, .inl t_spanHigh_a)), (t_spanAt_h, .inl (cI, 24, .inl t_spanAt_a)), (t_numbers_h, .inl (cI, 24, .inl u4))] → va_S A s.heap H locs → lv_has ls 7 [(0, .ref t_h), (1, .int x1), (2, .int u2), (3, .int u6), (4, .int u7), (5, .int u8)] → W p l e rmX10_findNumbers s m args below meth c H locs 0 0 Q (F0 m 26 ls []) := by
          intro n
          induction n with
          | zero => intro u6 u7 u8 hz; exact (it_zero hz).elim
          | succ n ih =>
            intro u6 u7 u8 hz H locs ls hP hD hS hl
            obtain ⟨x9, hf, hq⟩ := it_succ hz
            unfold fX10_findNumbers_L2 at hf
            dsimp only [un3] at hf
            refine lv_iload hx hb dX10_findNumbers_26 (lv_at hl 5 rfl) ?_
            refine lv_aload_n hx hb dX10_findNumbers_28 rfl (lv_at hl 0 rfl) ?_
            refine va_get (D := G) (ci := 10) (v := .int t_spans) (C := RX10) (T := TX10) (N := 36) hx hb hts iwX10 hown hK hP 0 rfl rfl 22 (by decide) fl_165 (fun _ h9 => h9) rfl dX10_findNumbers_29 ?_
            refine lv_icmp_ge (tgt := 91) hx hb dX10_findNumbers_32 (by decide) (fun c9 => ?_) (fun c9 => ?_)
            · have hf := ift hf c9
              cases hf
              exact hx2_0 _ hq _ _ _ hP hD hS (lv_sub hl [0, 1, 2, 3] rfl)
            · have hf := iff_ hf c9
              refine lv_aload_n hx hb dX10_findNumbers_35 rfl (lv_at hl 0 rfl) ?_
              refine va_get (D := G) (ci := 10) (v := .ref t_spanHigh_h) (C := RX10) (T := TX10) (N := 36) hx hb hts iwX10 hown hK hP 0 rfl rfl 24 (by decide) fl_34 (fun _ h9 => h9) rfl dX10_findNumbers_36 ?_
              refine lv_iload hx hb dX10_findNumbers_39 (lv_at hl 5 rfl) ?_
              obtain ⟨h10, hf⟩ := gd_some hf
              refine va_iald hx hb hK hP 2 0 rfl rfl (bnd_in h10) dX10_findNumbers_41 ?_
              refine lv_iload_n hx hb dX10_findNumbers_42 rfl (lv_at hl 1 rfl) ?_
              refine lv_aload_n hx hb dX10_findNumbers_43 rfl (lv_at hl 0 rfl) ?_
              refine va_get (D := G) (ci := 10) (v := .ref t_spanAt_h) (C := RX10) (T := TX10) (N := 36) hx hb hts iwX10 hown hK hP 0 rfl rfl 25 (by decide) fl_37 (fun _ h9 => h9) rfl dX10_findNumbers_44 ?_
              refine lv_iload hx hb dX10_findNumbers_47 (lv_at hl 5 rfl) ?_
              obtain ⟨h11, hf⟩ := gd_some hf
              refine va_iald hx hb hK hP 3 0 rfl rfl (bnd_in h11) dX10_findNumbers_49 ?_
              refine lv_imul hx hb dX10_findNumbers_50 ?_
              refine lv_sipush (v := 1000) hx hb dX10_findNumbers_51 (by decide) ?_
              refine lv_idiv hx hb dX10_findNumbers_54 (by decide) ?_
              refine lv_isub hx hb dX10_findNumbers_55 ?_
              refine lv_topi (fun v12 ev12 => ?_)
              have hf := bv_at ev12 hf
              refine lv_istore (lv' := [(6, .int v12), (0, .ref t_h), (1, .int x1), (2, .int u2), (3, .int u6), (4, .int u7), (5, .int u8)]) hx hb dX10_findNumbers_56 hl (by decide) rfl (fun ls hl => ?_)
              refine lv_iload_n hx hb dX10_findNumbers_58 rfl (lv_at hl 3 rfl) ?_
              refine lv_iload hx hb dX10_findNumbers_59 (lv_at hl 6 rfl) ?_
              refine lv_ishr hx hb dX10_findNumbers_61 ?_
              refine lv_iconst (v := 1) hx hb dX10_findNumbers_62 (by decide) ?_
              refine lv_iand hx hb dX10_findNumbers_63 ?_
              refine lv_iconst (v := 1) hx hb dX10_findNumbers_64 (by decide) ?_
              obtain ⟨m13, m14, hr15, hf⟩ := ob2_some hf
              have hj16 : ∀ (m139 : Int32) (m149 : Int32), some (m139, m149) = some (m13, m14) → ∀ (H : Heap) (locs : List Loc) (ls : Array Slot), va_P G vwCl [(t_h, .inr (10, [.int t_baseWay, .int t_slip, .int t_low, .int t_high, .int t_unlike, .int t_alone, .long t_above, .long t_below, .ref t_edges_h, .ref t_lean_h, .ref t_word_h, .int t_layers, .ref t_layer_h, .ref t_least_h, .int t_sights, .ref t_sight_h, .int t_shadows, .ref t_shadow_h, .long t_endAbove, .long t_endBelow, .long t_speedAbove, .long t_speedBelow, .int t_spans, .ref t_spanLow_h, .ref t_spanHigh_h, .ref t_spanAt_h, .int u3, .ref t_numbers_h, .int t_pairs, .ref t_pair_h, .ref t_most_h, .int t_rows, .ref t_row_h, .int t_notes, .ref t_under_h, .ref t_agreed_h])), (t_spanLow_h, .inl (cI, 24, .inl t_spanLow_a)), (t_spanHigh_h, .inl (cI, 24, .inl t_spanHigh_a)), (t_spanAt_h, .inl (cI, 24, .inl t_spanAt_a)), (t_numbers_h, .inl (cI, 24, .inl u4))] H → va_D A [(t_h, .inr (10, [.int t_baseWay, .int t_slip, .int t_low, .int t_high, .int t_unlike, .int t_alone, .long t_above, .long t_below, .ref t_edges_h, .ref t_lean_h, .ref t_word_h, .int t_layers, .ref t_layer_h, .ref t_least_h, .int t_sights, .ref t_sight_h, .int t_shadows, .ref t_shadow_h, .long t_endAbove, .long t_endBelow, .long t_speedAbove, .long t_speedBelow, .int t_spans, .ref t_spanLow_h, .ref t_spanHigh_h, .ref t_spanAt_h, .int u3, .ref t_numbers_h, .int t_pairs, .ref t_pair_h, .ref t_most_h, .int t_rows, .ref t_row_h, .int t_notes, .ref t_under_h, .ref t_agreed_h])), (t_spanLow_h, .inl (cI, 24, .inl t_spanLow_a)), (t_spanHigh_h, .inl (cI, 24, .inl t_spanHigh_a)), (t_spanAt_h, .inl (cI, 24, .inl t_spanAt_a)), (t_numbers_h, .inl (cI, 24, .inl u4))] → va_S A s.heap H locs → lv_has ls 7 [(0, .ref t_h), (1, .int x1), (2, .int u2), (3, .int m139), (4, .int m149), (5, .int u8)] → W p l e rmX10_findNumbers s m args below meth c H locs 0 0 Q (F0 m 85 ls []) := by
                intro m139 m149 he H locs ls hP hD hS hl
                cases he
                obtain ⟨v20, ev20⟩ : ∃ y : Int32, y = u8 + 1 := ⟨_, rfl⟩
                have hf := bv_at ev20 hf
                refine lv_iinc (v := v20) (lv' := [(5, .int v20), (0, .ref t_h), (1, .int x1), (2, .int u2), (3, .int m13), (4, .int m14)]) hx hb dX10_findNumbers_85 hl (k := 5) rfl (by rw [ev20]; rfl) (by decide) rfl (fun ls hl => ?_)
                refine lv_goto (tgt := 26) hx hb dX10_findNumbers_88 (by decide) ?_
                cases hf
                exact ih _ _ _ hq _ _ _ hP hD hS (lv_sub hl [1, 2, 3, 4, 5, 0] rfl)
              replace hf := hr15
              refine lv_icmp_ne (tgt := 85) hx hb dX10_findNumbers_65 (by decide) (fun c17 => ?_) (fun c17 => ?_)
              · have hf := iff_ hf c17
                exact hj16 _ _ hf _ _ _ hP hD hS (lv_sub hl [1, 2, 3, 4, 5, 6] rfl)
              · have hf := ift hf c17
                refine lv_iload hx hb dX10_findNumbers_68 (lv_at hl 5 rfl) ?_
                refine lv_if_eq (tgt := 79) hx hb dX10_findNumbers_70 (by decide) (fun c18 => ?_) (fun c18 => ?_)
                · have hf := ift hf c18
                  refine lv_iload hx hb dX10_findNumbers_79 (lv_at hl 0 rfl) ?_
                  refine lv_istore_n (lv' := [(3, .int v12), (6, .int v12), (0, .ref t_h), (1, .int x1), (2, .int u2), (4, .int u7), (5, .int u8)]) hx hb dX10_findNumbers_81 rfl hl (by decide) rfl (fun ls hl => ?_)
                  refine lv_iconst (v := 1) hx hb dX10_findNumbers_82 (by decide) ?_
                  refine lv_istore (lv' := [(4, .int 1), (3, .int v12), (6, .int v12), (0, .ref t_h), (1, .int x1), (2, .int u2), (5, .int u8)]) hx hb dX10_findNumbers_83 hl (by decide) rfl (fun ls hl => ?_)
                  exact hj16 _ _ hf _ _ _ hP hD hS (lv_sub hl [3, 4, 5, 1, 0, 6] rfl)
                · have hf := iff_ hf c18
                  refine lv_iload hx hb dX10_findNumbers_73 (lv_at hl 0 rfl) ?_
                  refine lv_iload_n hx hb dX10_findNumbers_75 rfl (lv_at hl 4 rfl) ?_
                  refine lv_icmp_ge (tgt := 85) hx hb dX10_findNumbers_76 (by decide) (fun c19 => ?_) (fun c19 => ?_)
                  · have hf := ift hf c19
                    exact hj16 _ _ hf _ _ _ hP hD hS (lv_sub hl [1, 2, 3, 4, 5, 6] rfl)
                  · have hf := iff_ hf c19
                    refine lv_iload hx hb dX10_findNumbers_79 (lv_at hl 0 rfl) ?_
                    refine lv_istore_n (lv' := [(3, .int v12), (6, .int v12), (0, .ref t_h), (1, .int x1), (2, .int u2), (4, .int u7), (5, .int u8)]) hx hb dX10_findNumbers_81 rfl hl (by decide) rfl (fun ls hl => ?_)
                    refine lv_iconst (v := 1) hx hb dX10_findNumbers_82 (by decide) ?_
                    refine lv_istore (lv' := [(4, .int 1), (3, .int v12), (6, .int v12), (0, .ref t_h), (1, .int x1), (2, .int u2), (5, .int u8)]) hx hb dX10_findNumbers_83 hl (by decide) rfl (fun ls hl => ?_)
                    exact hj16 _ _ hf _ _ _ hP hD hS (lv_sub hl [3, 4, 5, 1, 0, 6] rfl)
        exact hl2 _ _ _ _ ht2 _ _ _ hP hD hS (lv_sub hl [3, 4, 5, 2, 1, 0] rfl)
  exact hl1 _ _ _ _ ht1 _ _ _ hP hD hS (lv_sub hl [1, 2, 0] rfl)
set_option maxRecDepth 20000 in
theorem ggX10_must_X10_in : GoodIn wsX10_must wsX10_in := goodIn_r _ [7] (by decide +kernel) (by decide +kernel)
set_option maxRecDepth 20000 in
theorem gX10_must_X10_in : GoodIn wsX10_must (va_wsS RX10 89 yX10_in wsX10_in) := goodIn_app (goodIn_of _ (by decide +kernel)) ggX10_must_X10_in
set_option maxRecDepth 20000 in
theorem ggX10_must_X10_findNumbers : GoodIn wsX10_must wsX10_findNumbers := goodIn_r _ [11, 2, 12, 13, 14, 15, 3, 16, 17, 18, 19, 20, 21, 22, 23, 24, 25, 26, 27, 28, 29, 30, 31, 32, 33, 34, 35, 36, 37, 38, 39, 40, 41, 42, 43, 44, 45, 46, 47, 48, 49, 50, 51] (by decide +kernel) (by decide +kernel)
set_option maxRecDepth 20000 in
theorem gX10_must_X10_findNumbers : GoodIn wsX10_must (wsV RX10 172 RX10 yX10_findNumbers wsX10_findNumbers) := goodIn_app (goodIn_of _ (by decide +kernel)) ggX10_must_X10_findNumbers
theorem dX10_must_0 : decode cX10_must 0 = .ok (.iload_n 1, 1) := by decide +kernel
theorem dX10_must_1 : decode cX10_must 1 = .ok (.bipush (-50), 2) := by decide +kernel
theorem dX10_must_3 : decode cX10_must 3 = .ok (.bipush 50, 2) := by decide +kernel
theorem dX10_must_5 : decode cX10_must 5 = .ok (.invokestatic 89, 3) := by decide +kernel
theorem dX10_must_8 : decode cX10_must 8 = .ok (.ifCond .eq 8, 3) := by decide +kernel
theorem dX10_must_11 : decode cX10_must 11 = .ok (.iload_n 2, 1) := by decide +kernel
theorem dX10_must_12 : decode cX10_must 12 = .ok (.iconst (-1), 1) := by decide +kernel
theorem dX10_must_13 : decode cX10_must 13 = .ok (.if_icmp .ge 6, 3) := by decide +kernel
theorem dX10_must_16 : decode cX10_must 16 = .ok (.ldc 171, 2) := by decide +kernel
theorem dX10_must_18 : decode cX10_must 18 = .ok (.ireturn, 1) := by decide +kernel
theorem dX10_must_19 : decode cX10_must 19 = .ok (.aload_n 0, 1) := by decide +kernel
theorem dX10_must_20 : decode cX10_must 20 = .ok (.iload_n 1, 1) := by decide +kernel
theorem dX10_must_21 : decode cX10_must 21 = .ok (.invokevirtual 172, 3) := by decide +kernel
theorem dX10_must_24 : decode cX10_must 24 = .ok (.iload_n 2, 1) := by decide +kernel
theorem dX10_must_25 : decode cX10_must 25 = .ok (.iconst (-1), 1) := by decide +kernel
theorem dX10_must_26 : decode cX10_must 26 = .ok (.if_icmp .ne 10, 3) := by decide +kernel
theorem dX10_must_29 : decode cX10_must 29 = .ok (.aload_n 0, 1) := by decide +kernel
theorem dX10_must_30 : decode cX10_must 30 = .ok (.getfield 168, 3) := by decide +kernel
theorem dX10_must_33 : decode cX10_must 33 = .ok (.goto 21, 3) := by decide +kernel
theorem dX10_must_36 : decode cX10_must 36 = .ok (.iload_n 2, 1) := by decide +kernel
theorem dX10_must_37 : decode cX10_must 37 = .ok (.aload_n 0, 1) := by decide +kernel
theorem dX10_must_38 : decode cX10_must 38 = .ok (.getfield 168, 3) := by decide +kernel
theorem dX10_must_41 : decode cX10_must 41 = .ok (.if_icmp .ge 12, 3) := by decide +kernel
theorem dX10_must_44 : decode cX10_must 44 = .ok (.aload_n 0, 1) := by decide +kernel
theorem dX10_must_45 : decode cX10_must 45 = .ok (.getfield 40, 3) := by decide +kernel
theorem dX10_must_48 : decode cX10_must 48 = .ok (.iload_n 2, 1) := by decide +kernel
theorem dX10_must_49 : decode cX10_must 49 = .ok (.iaload, 1) := by decide +kernel
theorem dX10_must_50 : decode cX10_must 50 = .ok (.goto 4, 3) := by decide +kernel
theorem dX10_must_53 : decode cX10_must 53 = .ok (.iconst (-1), 1) := by decide +kernel
theorem dX10_must_54 : decode cX10_must 54 = .ok (.ireturn, 1) := by decide +kernel
set_option maxRecDepth 100000 in
def fX10_must (x1 : Int32) (x2 : Int32) (t_spans : Int32) (t_found : Int32) (t_spanLow_a : Nat → Int32) (t_spanHigh_a : Nat → Int32) (t_spanAt_a : Nat → Int32) (t_numbers_a : Nat → Int32) : Option (Int32 × Int32 × (Nat → Int32)) :=
  ob (fX10_in x1 (-50) 50) fun r1 =>
  if (b2i r1) = 0 then
    some ((-2000000), t_found, t_numbers_a)
  else
    if (-1) ≤ x2 then
      ob2 (fX10_findNumbers x1 t_spans t_found t_spanLow_a t_spanHigh_a t_spanAt_a t_numbers_a) fun w5 w6 =>
      if x2 = (-1) then
        some (w5, w5, w6)
      else
        if w5 ≤ x2 then
          some ((-1), w5, w6)
        else
          gd (bnd x2 24) <|
          some (w6 (Int32.toNatClampNeg x2), w5, w6)
    else
      some ((-2000000), t_found, t_numbers_a)
abbrev rmX10_must : Room := { frames := 1, cells := 0, slots := 0, locals := 26 }
theorem iwX10_must_X10 : ∀ w ∈ u_ws RX10 TX10 36, w ∈ wsX10_must := by decide +kernel
set_option maxHeartbeats 4000000 in
set_option maxRecDepth 100000 in
theorem k_X10_must (l : Launch) (G : va_G) (cI cJ : ClassId) (t_h t_edges_h t_lean_h t_word_h t_layer_h t_least_h t_sight_h t_shadow_h t_spanLow_h t_spanHigh_h t_spanAt_h t_numbers_h t_pair_h t_most_h t_row_h t_under_h t_agreed_h : Nat) (sz : Nat) (t_baseWay : Int32) (t_slip : Int32) (t_low : Int32) (t_high : Int32) (t_unlike : Int32) (t_alone : Int32) (t_above : Int64) (t_below : Int64) (t_layers : Int32) (t_sights : Int32) (t_shadows : Int32) (t_endAbove : Int64) (t_endBelow : Int64) (t_speedAbove : Int64) (t_speedBelow : Int64) (t_spans : Int32) (t_found : Int32) (t_pairs : Int32) (t_rows : Int32) (t_notes : Int32) (t_spanLow_a : Nat → Int32) (t_spanHigh_a : Nat → Int32) (t_spanAt_a : Nat → Int32) (t_numbers_a : Nat → Int32) (x1 : Int32) (x2 : Int32) {o_r : Int32} {o_t_found : Int32} {o_t_numbers_a : Nat → Int32} (hf : fX10_must x1 x2 t_spans t_found t_spanLow_a t_spanHigh_a t_spanAt_a t_numbers_a = some (o_r, o_t_found, o_t_numbers_a)) : MetI l yX10_must wsX10_must rmX10_must [.ref t_h, .int x1, .int x2] G cI cJ [(t_h, .inr (10, [.int t_baseWay, .int t_slip, .int t_low, .int t_high, .int t_unlike, .int t_alone, .long t_above, .long t_below, .ref t_edges_h, .ref t_lean_h, .ref t_word_h, .int t_layers, .ref t_layer_h, .ref t_least_h, .int t_sights, .ref t_sight_h, .int t_shadows, .ref t_shadow_h, .long t_endAbove, .long t_endBelow, .long t_speedAbove, .long t_speedBelow, .int t_spans, .ref t_spanLow_h, .ref t_spanHigh_h, .ref t_spanAt_h, .int t_found, .ref t_numbers_h, .int t_pairs, .ref t_pair_h, .ref t_most_h, .int t_rows, .ref t_row_h, .int t_notes, .ref t_under_h, .ref t_agreed_h])), (t_spanLow_h, .inl (cI, 24, .inl t_spanLow_a)), (t_spanHigh_h, .inl (cI, 24, .inl t_spanHigh_a)), (t_spanAt_h, .inl (cI, 24, .inl t_spanAt_a)), (t_numbers_h, .inl (cI, 24, .inl t_numbers_a))] [(t_h, .inr (10, [.int t_baseWay, .int t_slip, .int t_low, .int t_high, .int t_unlike, .int t_alone, .long t_above, .long t_below, .ref t_edges_h, .ref t_lean_h, .ref t_word_h, .int t_layers, .ref t_layer_h, .ref t_least_h, .int t_sights, .ref t_sight_h, .int t_shadows, .ref t_shadow_h, .long t_endAbove, .long t_endBelow, .long t_speedAbove, .long t_speedBelow, .int t_spans, .ref t_spanLow_h, .ref t_spanHigh_h, .ref t_spanAt_h, .int o_t_found, .ref t_numbers_h, .int t_pairs, .ref t_pair_h, .ref t_most_h, .int t_rows, .ref t_row_h, .int t_notes, .ref t_under_h, .ref t_agreed_h])), (t_spanLow_h, .inl (cI, 24, .inl t_spanLow_a)), (t_spanHigh_h, .inl (cI, 24, .inl t_spanHigh_a)), (t_spanAt_h, .inl (cI, 24, .inl t_spanAt_a)), (t_numbers_h, .inl (cI, 24, .inl o_t_numbers_a))] sz o_r := by
  refine en_0 (l := l) (y := yX10_must) (wsl := wsX10_must) (rm := rmX10_must) (av := [.ref t_h, .int x1, .int x2]) (G := G) (cI := cI) (cJ := cJ) (w0 := [(t_h, .inr (10, [.int t_baseWay, .int t_slip, .int t_low, .int t_high, .int t_unlike, .int t_alone, .long t_above, .long t_below, .ref t_edges_h, .ref t_lean_h, .ref t_word_h, .int t_layers, .ref t_layer_h, .ref t_least_h, .int t_sights, .ref t_sight_h, .int t_shadows, .ref t_shadow_h, .long t_endAbove, .long t_endBelow, .long t_speedAbove, .long t_speedBelow, .int t_spans, .ref t_spanLow_h, .ref t_spanHigh_h, .ref t_spanAt_h, .int t_found, .ref t_numbers_h, .int t_pairs, .ref t_pair_h, .ref t_most_h, .int t_rows, .ref t_row_h, .int t_notes, .ref t_under_h, .ref t_agreed_h])), (t_spanLow_h, .inl (cI, 24, .inl t_spanLow_a)), (t_spanHigh_h, .inl (cI, 24, .inl t_spanHigh_a)), (t_spanAt_h, .inl (cI, 24, .inl t_spanAt_a)), (t_numbers_h, .inl (cI, 24, .inl t_numbers_a))]) (sz := sz) (Qf := fun A => Qi0 G cI cJ [(t_h, .inr (10, [.int t_baseWay, .int t_slip, .int t_low, .int t_high, .int t_unlike, .int t_alone, .long t_above, .long t_below, .ref t_edges_h, .ref t_lean_h, .ref t_word_h, .int t_layers, .ref t_layer_h, .ref t_least_h, .int t_sights, .ref t_sight_h, .int t_shadows, .ref t_shadow_h, .long t_endAbove, .long t_endBelow, .long t_speedAbove, .long t_speedBelow, .int t_spans, .ref t_spanLow_h, .ref t_spanHigh_h, .ref t_spanAt_h, .int o_t_found, .ref t_numbers_h, .int t_pairs, .ref t_pair_h, .ref t_most_h, .int t_rows, .ref t_row_h, .int t_notes, .ref t_under_h, .ref t_agreed_h])), (t_spanLow_h, .inl (cI, 24, .inl t_spanLow_a)), (t_spanHigh_h, .inl (cI, 24, .inl t_spanHigh_a)), (t_spanAt_h, .inl (cI, 24, .inl t_spanAt_a)), (t_numbers_h, .inl (cI, 24, .inl o_t_numbers_a))] o_r A) (cc := cX10_must) (maxL := 3) (ret := (some .int)) RX10 (by decide +kernel) rfl rfl (Nat.le_of_ble_eq_true rfl) ?_
  intro p e s m args below meth c A ls Q hQ hx hb hr hts hown hlocks hml hN hK hP hD hS hA hl
  have hl : lv_has ls 3 [(0, .ref t_h), (1, .int x1), (2, .int x2)] := hl
  have iwX10 := iwX10_must_X10
  have fl_40 := hts (.fieldLink RX10 40 "CloudOfficeModel" "numbers" "[I") (by decide +kernel)
  have fl_168 := hts (.fieldLink RX10 168 "CloudOfficeModel" "found" "I") (by decide +kernel)
  have kc_171 := hts (.constant RX10 171 (-2000000)) (by decide +kernel)
  have hret : ∀ (o_r9 : Int32) (o_t_found9 : Int32) (o_t_numbers_a9 : Nat → Int32) (pc : Nat) (H : Heap) (locs : List Loc) (ls : Array Slot), decode cX10_must pc = .ok (.ireturn, 1) → some (o_r9, o_t_found9, o_t_numbers_a9) = some (o_r, o_t_found, o_t_numbers_a) → va_P G vwCl [(t_h, .inr (10, [.int t_baseWay, .int t_slip, .int t_low, .int t_high, .int t_unlike, .int t_alone, .long t_above, .long t_below, .ref t_edges_h, .ref t_lean_h, .ref t_word_h, .int t_layers, .ref t_layer_h, .ref t_least_h, .int t_sights, .ref t_sight_h, .int t_shadows, .ref t_shadow_h, .long t_endAbove, .long t_endBelow, .long t_speedAbove, .long t_speedBelow, .int t_spans, .ref t_spanLow_h, .ref t_spanHigh_h, .ref t_spanAt_h, .int o_t_found9, .ref t_numbers_h, .int t_pairs, .ref t_pair_h, .ref t_most_h, .int t_rows, .ref t_row_h, .int t_notes, .ref t_under_h, .ref t_agreed_h])), (t_spanLow_h, .inl (cI, 24, .inl t_spanLow_a)), (t_spanHigh_h, .inl (cI, 24, .inl t_spanHigh_a)), (t_spanAt_h, .inl (cI, 24, .inl t_spanAt_a)), (t_numbers_h, .inl (cI, 24, .inl o_t_numbers_a9))] H → va_D A [(t_h, .inr (10, [.int t_baseWay, .int t_slip, .int t_low, .int t_high, .int t_unlike, .int t_alone, .long t_above, .long t_below, .ref t_edges_h, .ref t_lean_h, .ref t_word_h, .int t_layers, .ref t_layer_h, .ref t_least_h, .int t_sights, .ref t_sight_h, .int t_shadows, .ref t_shadow_h, .long t_endAbove, .long t_endBelow, .long t_speedAbove, .long t_speedBelow, .int t_spans, .ref t_spanLow_h, .ref t_spanHigh_h, .ref t_spanAt_h, .int o_t_found9, .ref t_numbers_h, .int t_pairs, .ref t_pair_h, .ref t_most_h, .int t_rows, .ref t_row_h, .int t_notes, .ref t_under_h, .ref t_agreed_h])), (t_spanLow_h, .inl (cI, 24, .inl t_spanLow_a)), (t_spanHigh_h, .inl (cI, 24, .inl t_spanHigh_a)), (t_spanAt_h, .inl (cI, 24, .inl t_spanAt_a)), (t_numbers_h, .inl (cI, 24, .inl o_t_numbers_a9))] → va_S A s.heap H locs → W p l e rmX10_must s m args below meth c H locs 0 0 Q (F0 m pc ls [.int o_r9]) := by
    intro o_r9 o_t_found9 o_t_numbers_a9 pc H locs ls hdg he hP hD hS
    cases he
    subst hQ
    exact rt_i hx hb hr hlocks hK hP hD hS rfl hdg
  clear hQ
  unfold fX10_must at hf
  refine lv_iload_n hx hb dX10_must_0 rfl (lv_at hl 1 rfl) ?_
  refine lv_bipush (v := (-50)) hx hb dX10_must_1 (by decide) ?_
  refine lv_bipush (v := 50) hx hb dX10_must_3 (by decide) ?_
  obtain ⟨r1, hc2, hf⟩ := ob_some hf
  refine af_iR (va_runS (As := [.int x1, .int (-50), .int 50]) (rest := []) ⟨hx, hb, hml, hown, hts⟩ (k_X10_in l G cI cJ (x0 := x1) (x1 := (-50)) (x2 := 50) (sz := _) (hf := hc2)) (va_cwS 3 hts gX10_must_X10_in rfl rfl rfl (by decide +kernel) ⟨Nat.le_of_ble_eq_true rfl, Nat.le_of_ble_eq_true rfl⟩) (preS0 (wc := []) hK hP hD hN [] rfl rfl (by decide)) rfl rfl hl.1 rfl (lv_room (Nat.le_of_ble_eq_true rfl)) dX10_must_5 ⟨Nat.zero_le _, Nat.zero_le _⟩) hP hD hS hA [] rfl (fun H locs hP hS => ?_)
  refine lv_if_eq (tgt := 16) hx hb dX10_must_8 (by decide) (fun c3 => ?_) (fun c3 => ?_)
  · have hf := ift hf c3
    refine lv_ldc (v := (-2000000)) hx hb hown kc_171 dX10_must_16 ?_
    exact hret (-2000000) t_found t_numbers_a 18 _ _ _ dX10_must_18 hf hP hD hS
  · have hf := iff_ hf c3
    refine lv_iload_n hx hb dX10_must_11 rfl (lv_at hl 2 rfl) ?_
    refine lv_iconst (v := (-1)) hx hb dX10_must_12 (by decide) ?_
    refine lv_icmp_ge (tgt := 19) hx hb dX10_must_13 (by decide) (fun c4 => ?_) (fun c4 => ?_)
    · have hf := ift hf c4
      refine lv_aload_n hx hb dX10_must_19 rfl (lv_at hl 0 rfl) ?_
      refine lv_iload_n hx hb dX10_must_20 rfl (lv_at hl 1 rfl) ?_
      obtain ⟨w5, w6, hc7, hf⟩ := ob2_some hf
      refine af_vW (wr := []) (ws2 := [(t_h, .inr (10, [.int t_baseWay, .int t_slip, .int t_low, .int t_high, .int t_unlike, .int t_alone, .long t_above, .long t_below, .ref t_edges_h, .ref t_lean_h, .ref t_word_h, .int t_layers, .ref t_layer_h, .ref t_least_h, .int t_sights, .ref t_sight_h, .int t_shadows, .ref t_shadow_h, .long t_endAbove, .long t_endBelow, .long t_speedAbove, .long t_speedBelow, .int t_spans, .ref t_spanLow_h, .ref t_spanHigh_h, .ref t_spanAt_h, .int w5, .ref t_numbers_h, .int t_pairs, .ref t_pair_h, .ref t_most_h, .int t_rows, .ref t_row_h, .int t_notes, .ref t_under_h, .ref t_agreed_h])), (t_spanLow_h, .inl (cI, 24, .inl t_spanLow_a)), (t_spanHigh_h, .inl (cI, 24, .inl t_spanHigh_a)), (t_spanAt_h, .inl (cI, 24, .inl t_spanAt_a)), (t_numbers_h, .inl (cI, 24, .inl w6))]) (va_runV (As := [.int x1]) (rest := []) ⟨hx, hb, hml, hown, hts⟩ (k_X10_findNumbers l G cI cJ (t_h := t_h) (t_edges_h := t_edges_h) (t_lean_h := t_lean_h) (t_word_h := t_word_h) (t_layer_h := t_layer_h) (t_least_h := t_least_h) (t_sight_h := t_sight_h) (t_shadow_h := t_shadow_h) (t_spanLow_h := t_spanLow_h) (t_spanHigh_h := t_spanHigh_h) (t_spanAt_h := t_spanAt_h) (t_numbers_h := t_numbers_h) (t_pair_h := t_pair_h) (t_most_h := t_most_h) (t_row_h := t_row_h) (t_under_h := t_under_h) (t_agreed_h := t_agreed_h) (t_baseWay := t_baseWay) (t_slip := t_slip) (t_low := t_low) (t_high := t_high) (t_unlike := t_unlike) (t_alone := t_alone) (t_above := t_above) (t_below := t_below) (t_layers := t_layers) (t_sights := t_sights) (t_shadows := t_shadows) (t_endAbove := t_endAbove) (t_endBelow := t_endBelow) (t_speedAbove := t_speedAbove) (t_speedBelow := t_speedBelow) (t_spans := t_spans) (t_found := t_found) (t_pairs := t_pairs) (t_rows := t_rows) (t_notes := t_notes) (t_spanLow_a := t_spanLow_a) (t_spanHigh_a := t_spanHigh_a) (t_spanAt_a := t_spanAt_a) (t_numbers_a := t_numbers_a) (x1 := x1) (sz := _) (hf := hc7)) (cwV 1 hts gX10_must_X10_findNumbers rfl rfl rfl (by decide +kernel) ⟨Nat.le_of_ble_eq_true rfl, Nat.le_of_ble_eq_true rfl⟩) (preV0 (ci := 10) (q0 := 0) (C := RX10) (wc := [(t_h, .inr (10, [.int t_baseWay, .int t_slip, .int t_low, .int t_high, .int t_unlike, .int t_alone, .long t_above, .long t_below, .ref t_edges_h, .ref t_lean_h, .ref t_word_h, .int t_layers, .ref t_layer_h, .ref t_least_h, .int t_sights, .ref t_sight_h, .int t_shadows, .ref t_shadow_h, .long t_endAbove, .long t_endBelow, .long t_speedAbove, .long t_speedBelow, .int t_spans, .ref t_spanLow_h, .ref t_spanHigh_h, .ref t_spanAt_h, .int t_found, .ref t_numbers_h, .int t_pairs, .ref t_pair_h, .ref t_most_h, .int t_rows, .ref t_row_h, .int t_notes, .ref t_under_h, .ref t_agreed_h])), (t_spanLow_h, .inl (cI, 24, .inl t_spanLow_a)), (t_spanHigh_h, .inl (cI, 24, .inl t_spanHigh_a)), (t_spanAt_h, .inl (cI, 24, .inl t_spanAt_a)), (t_numbers_h, .inl (cI, 24, .inl t_numbers_a))]) hK hP hD hN [0, 1, 2, 3, 4] rfl rfl (by decide) rfl rfl) rfl rfl hl.1 rfl (lv_room (Nat.le_of_ble_eq_true rfl)) dX10_must_21 ⟨Nat.zero_le _, Nat.zero_le _⟩) hP hD hS hA [0, 1, 2, 3, 4] [] [0, 1, 2, 3, 4] rfl rfl (by decide) (by decide) rfl rfl (by decide) (fun H locs hP hD hS => ?_)
      refine lv_iload_n hx hb dX10_must_24 rfl (lv_at hl 2 rfl) ?_
      refine lv_iconst (v := (-1)) hx hb dX10_must_25 (by decide) ?_
      refine lv_icmp_ne (tgt := 36) hx hb dX10_must_26 (by decide) (fun c8 => ?_) (fun c8 => ?_)
      · have hf := iff_ hf c8
        refine lv_iload_n hx hb dX10_must_36 rfl (lv_at hl 2 rfl) ?_
        refine lv_aload_n hx hb dX10_must_37 rfl (lv_at hl 0 rfl) ?_
        refine va_get (D := G) (ci := 10) (v := .int w5) (C := RX10) (T := TX10) (N := 36) hx hb hts iwX10 hown hK hP 0 rfl rfl 26 (by decide) fl_168 (fun _ h9 => h9) rfl dX10_must_38 ?_
        refine lv_icmp_ge (tgt := 53) hx hb dX10_must_41 (by decide) (fun c9 => ?_) (fun c9 => ?_)
        · have hf := ift hf c9
          refine lv_iconst (v := (-1)) hx hb dX10_must_53 (by decide) ?_
          exact hret (-1) w5 w6 54 _ _ _ dX10_must_54 hf hP hD hS
        · have hf := iff_ hf c9
          refine lv_aload_n hx hb dX10_must_44 rfl (lv_at hl 0 rfl) ?_
          refine va_get (D := G) (ci := 10) (v := .ref t_numbers_h) (C := RX10) (T := TX10) (N := 36) hx hb hts iwX10 hown hK hP 0 rfl rfl 27 (by decide) fl_40 (fun _ h9 => h9) rfl dX10_must_45 ?_
          refine lv_iload_n hx hb dX10_must_48 rfl (lv_at hl 2 rfl) ?_
          obtain ⟨h10, hf⟩ := gd_some hf
          refine va_iald hx hb hK hP 4 0 rfl rfl (bnd_in h10) dX10_must_49 ?_
          refine lv_goto (tgt := 54) hx hb dX10_must_50 (by decide) ?_
          exact hret (w6 (Int32.toNatClampNeg x2)) w5 w6 54 _ _ _ dX10_must_54 hf hP hD hS
      · have hf := ift hf c8
        refine lv_aload_n hx hb dX10_must_29 rfl (lv_at hl 0 rfl) ?_
        refine va_get (D := G) (ci := 10) (v := .int w5) (C := RX10) (T := TX10) (N := 36) hx hb hts iwX10 hown hK hP 0 rfl rfl 26 (by decide) fl_168 (fun _ h9 => h9) rfl dX10_must_30 ?_
        refine lv_goto (tgt := 54) hx hb dX10_must_33 (by decide) ?_
        exact hret w5 w5 w6 54 _ _ _ dX10_must_54 hf hP hD hS
    · have hf := iff_ hf c4
      refine lv_ldc (v := (-2000000)) hx hb hown kc_171 dX10_must_16 ?_
      exact hret (-2000000) t_found t_numbers_a 18 _ _ _ dX10_must_18 hf hP hD hS
set_option maxRecDepth 20000 in
theorem ggX10_tilted_X10_in : GoodIn wsX10_tilted wsX10_in := goodIn_r _ [5] (by decide +kernel) (by decide +kernel)
set_option maxRecDepth 20000 in
theorem gX10_tilted_X10_in : GoodIn wsX10_tilted (va_wsS RX10 89 yX10_in wsX10_in) := goodIn_app (goodIn_of _ (by decide +kernel)) ggX10_tilted_X10_in
set_option maxRecDepth 20000 in
theorem ggX10_tilted_X10_findNumbers : GoodIn wsX10_tilted wsX10_findNumbers := goodIn_r _ [9, 1, 10, 11, 12, 13, 14, 15, 16, 17, 18, 19, 20, 21, 22, 23, 24, 25, 26, 27, 28, 29, 30, 31, 32, 33, 34, 35, 36, 37, 38, 39, 40, 41, 42, 43, 44, 45, 46, 47, 48, 49, 50] (by decide +kernel) (by decide +kernel)
set_option maxRecDepth 20000 in
theorem gX10_tilted_X10_findNumbers : GoodIn wsX10_tilted (wsV RX10 172 RX10 yX10_findNumbers wsX10_findNumbers) := goodIn_app (goodIn_of _ (by decide +kernel)) ggX10_tilted_X10_findNumbers
theorem dX10_tilted_0 : decode cX10_tilted 0 = .ok (.iload_n 1, 1) := by decide +kernel
theorem dX10_tilted_1 : decode cX10_tilted 1 = .ok (.iconst 0, 1) := by decide +kernel
theorem dX10_tilted_2 : decode cX10_tilted 2 = .ok (.iconst 1, 1) := by decide +kernel
theorem dX10_tilted_3 : decode cX10_tilted 3 = .ok (.invokestatic 89, 3) := by decide +kernel
theorem dX10_tilted_6 : decode cX10_tilted 6 = .ok (.ifCond .ne 6, 3) := by decide +kernel
theorem dX10_tilted_9 : decode cX10_tilted 9 = .ok (.bipush (-100), 2) := by decide +kernel
theorem dX10_tilted_11 : decode cX10_tilted 11 = .ok (.ireturn, 1) := by decide +kernel
theorem dX10_tilted_12 : decode cX10_tilted 12 = .ok (.aload_n 0, 1) := by decide +kernel
theorem dX10_tilted_13 : decode cX10_tilted 13 = .ok (.iconst 0, 1) := by decide +kernel
theorem dX10_tilted_14 : decode cX10_tilted 14 = .ok (.invokevirtual 172, 3) := by decide +kernel
theorem dX10_tilted_17 : decode cX10_tilted 17 = .ok (.iconst 0, 1) := by decide +kernel
theorem dX10_tilted_18 : decode cX10_tilted 18 = .ok (.istore_n 2, 1) := by decide +kernel
theorem dX10_tilted_19 : decode cX10_tilted 19 = .ok (.aload_n 0, 1) := by decide +kernel
theorem dX10_tilted_20 : decode cX10_tilted 20 = .ok (.getfield 168, 3) := by decide +kernel
theorem dX10_tilted_23 : decode cX10_tilted 23 = .ok (.istore_n 3, 1) := by decide +kernel
theorem dX10_tilted_24 : decode cX10_tilted 24 = .ok (.iconst 1, 1) := by decide +kernel
theorem dX10_tilted_25 : decode cX10_tilted 25 = .ok (.istore 4, 2) := by decide +kernel
theorem dX10_tilted_27 : decode cX10_tilted 27 = .ok (.iload 4, 2) := by decide +kernel
theorem dX10_tilted_29 : decode cX10_tilted 29 = .ok (.bipush 50, 2) := by decide +kernel
theorem dX10_tilted_31 : decode cX10_tilted 31 = .ok (.if_icmp .gt 52, 3) := by decide +kernel
theorem dX10_tilted_34 : decode cX10_tilted 34 = .ok (.iconst 1, 1) := by decide +kernel
theorem dX10_tilted_35 : decode cX10_tilted 35 = .ok (.istore 5, 2) := by decide +kernel
theorem dX10_tilted_37 : decode cX10_tilted 37 = .ok (.iload 5, 2) := by decide +kernel
theorem dX10_tilted_39 : decode cX10_tilted 39 = .ok (.iconst (-1), 1) := by decide +kernel
theorem dX10_tilted_40 : decode cX10_tilted 40 = .ok (.if_icmp .lt 37, 3) := by decide +kernel
theorem dX10_tilted_43 : decode cX10_tilted 43 = .ok (.aload_n 0, 1) := by decide +kernel
theorem dX10_tilted_44 : decode cX10_tilted 44 = .ok (.iload 5, 2) := by decide +kernel
theorem dX10_tilted_46 : decode cX10_tilted 46 = .ok (.iload 4, 2) := by decide +kernel
theorem dX10_tilted_48 : decode cX10_tilted 48 = .ok (.imul, 1) := by decide +kernel
theorem dX10_tilted_49 : decode cX10_tilted 49 = .ok (.invokevirtual 172, 3) := by decide +kernel
theorem dX10_tilted_52 : decode cX10_tilted 52 = .ok (.aload_n 0, 1) := by decide +kernel
theorem dX10_tilted_53 : decode cX10_tilted 53 = .ok (.getfield 168, 3) := by decide +kernel
theorem dX10_tilted_56 : decode cX10_tilted 56 = .ok (.iload_n 3, 1) := by decide +kernel
theorem dX10_tilted_57 : decode cX10_tilted 57 = .ok (.if_icmp .ge 14, 3) := by decide +kernel
theorem dX10_tilted_60 : decode cX10_tilted 60 = .ok (.iload 5, 2) := by decide +kernel
theorem dX10_tilted_62 : decode cX10_tilted 62 = .ok (.iload 4, 2) := by decide +kernel
theorem dX10_tilted_64 : decode cX10_tilted 64 = .ok (.imul, 1) := by decide +kernel
theorem dX10_tilted_65 : decode cX10_tilted 65 = .ok (.istore_n 2, 1) := by decide +kernel
theorem dX10_tilted_66 : decode cX10_tilted 66 = .ok (.aload_n 0, 1) := by decide +kernel
theorem dX10_tilted_67 : decode cX10_tilted 67 = .ok (.getfield 168, 3) := by decide +kernel
theorem dX10_tilted_70 : decode cX10_tilted 70 = .ok (.istore_n 3, 1) := by decide +kernel
theorem dX10_tilted_71 : decode cX10_tilted 71 = .ok (.iinc 5 (-2), 3) := by decide +kernel
theorem dX10_tilted_74 : decode cX10_tilted 74 = .ok (.goto (-37), 3) := by decide +kernel
theorem dX10_tilted_77 : decode cX10_tilted 77 = .ok (.iinc 4 1, 3) := by decide +kernel
theorem dX10_tilted_80 : decode cX10_tilted 80 = .ok (.goto (-53), 3) := by decide +kernel
theorem dX10_tilted_83 : decode cX10_tilted 83 = .ok (.iload_n 1, 1) := by decide +kernel
theorem dX10_tilted_84 : decode cX10_tilted 84 = .ok (.ifCond .ne 7, 3) := by decide +kernel
theorem dX10_tilted_87 : decode cX10_tilted 87 = .ok (.iload_n 2, 1) := by decide +kernel
theorem dX10_tilted_88 : decode cX10_tilted 88 = .ok (.goto 4, 3) := by decide +kernel
theorem dX10_tilted_91 : decode cX10_tilted 91 = .ok (.iload_n 3, 1) := by decide +kernel
theorem dX10_tilted_92 : decode cX10_tilted 92 = .ok (.ireturn, 1) := by decide +kernel
set_option maxRecDepth 100000 in
def fX10_tilted_L2 (u9 : Int32) (t_spans : Int32) (t_spanLow_a : Nat → Int32) (t_spanHigh_a : Nat → Int32) (t_spanAt_a : Nat → Int32) : (Int32 × Int32 × Int32 × Int32 × (Nat → Int32)) → Option ((Int32 × Int32 × Int32 × (Nat → Int32)) ⊕ (Int32 × Int32 × Int32 × Int32 × (Nat → Int32))) := un5 fun (u13 : Int32) (u14 : Int32) (u15 : Int32) (u16 : Int32) (u17 : Nat → Int32) =>
  if u15 < (-1) then
    some (.inl (u13, u14, u16, u17))
  else
    ob2 (fX10_findNumbers (u15 * u9) t_spans u16 t_spanLow_a t_spanHigh_a t_spanAt_a u17) fun w19 w20 =>
    ob2 (α0 := Int32) (α1 := Int32) (
        if u14 ≤ w19 then
          some (u13, u14)
        else
          bv (u15 * u9) fun v27 =>
          some (v27, w19)
      ) fun m22 m23 =>
    bv (u15 + (-2)) fun v28 =>
    some (.inr (m22, m23, v28, w19, w20))
set_option maxRecDepth 100000 in
def fX10_tilted_L1 (t_spans : Int32) (t_spanLow_a : Nat → Int32) (t_spanHigh_a : Nat → Int32) (t_spanAt_a : Nat → Int32) : (Int32 × Int32 × Int32 × Int32 × (Nat → Int32)) → Option ((Int32 × Int32 × Int32 × (Nat → Int32)) ⊕ (Int32 × Int32 × Int32 × Int32 × (Nat → Int32))) := un5 fun (u7 : Int32) (u8 : Int32) (u9 : Int32) (u10 : Int32) (u11 : Nat → Int32) =>
  if 50 < u9 then
    some (.inl (u7, u8, u10, u11))
  else
    ob4 (it (fX10_tilted_L2 u9 t_spans t_spanLow_a t_spanHigh_a t_spanAt_a) 100000 (u7, u8, 1, u10, u11)) fun x29 x30 x31 x32 =>
    bv (u9 + 1) fun v33 =>
    some (.inr (x29, x30, v33, x31, x32))
set_option maxRecDepth 100000 in
def fX10_tilted (x1 : Int32) (t_spans : Int32) (t_found : Int32) (t_spanLow_a : Nat → Int32) (t_spanHigh_a : Nat → Int32) (t_spanAt_a : Nat → Int32) (t_numbers_a : Nat → Int32) : Option (Int32 × Int32 × (Nat → Int32)) :=
  ob (fX10_in x1 0 1) fun r1 =>
  if (b2i r1) = 0 then
    some ((-100), t_found, t_numbers_a)
  else
    ob2 (fX10_findNumbers 0 t_spans t_found t_spanLow_a t_spanHigh_a t_spanAt_a t_numbers_a) fun w4 w5 =>
    ob4 (it (fX10_tilted_L1 t_spans t_spanLow_a t_spanHigh_a t_spanAt_a) 100000 (0, w4, 1, w4, w5)) fun x34 x35 x36 x37 =>
    if x1 = 0 then
      some (x34, x36, x37)
    else
      some (x35, x36, x37)
abbrev rmX10_tilted : Room := { frames := 1, cells := 0, slots := 0, locals := 26 }
theorem iwX10_tilted_X10 : ∀ w ∈ u_ws RX10 TX10 36, w ∈ wsX10_tilted := by decide +kernel
set_option maxHeartbeats 4000000 in
set_option maxRecDepth 100000 in
theorem k_X10_tilted (l : Launch) (G : va_G) (cI cJ : ClassId) (t_h t_edges_h t_lean_h t_word_h t_layer_h t_least_h t_sight_h t_shadow_h t_spanLow_h t_spanHigh_h t_spanAt_h t_numbers_h t_pair_h t_most_h t_row_h t_under_h t_agreed_h : Nat) (sz : Nat) (t_baseWay : Int32) (t_slip : Int32) (t_low : Int32) (t_high : Int32) (t_unlike : Int32) (t_alone : Int32) (t_above : Int64) (t_below : Int64) (t_layers : Int32) (t_sights : Int32) (t_shadows : Int32) (t_endAbove : Int64) (t_endBelow : Int64) (t_speedAbove : Int64) (t_speedBelow : Int64) (t_spans : Int32) (t_found : Int32) (t_pairs : Int32) (t_rows : Int32) (t_notes : Int32) (t_spanLow_a : Nat → Int32) (t_spanHigh_a : Nat → Int32) (t_spanAt_a : Nat → Int32) (t_numbers_a : Nat → Int32) (x1 : Int32) {o_r : Int32} {o_t_found : Int32} {o_t_numbers_a : Nat → Int32} (hf : fX10_tilted x1 t_spans t_found t_spanLow_a t_spanHigh_a t_spanAt_a t_numbers_a = some (o_r, o_t_found, o_t_numbers_a)) : MetI l yX10_tilted wsX10_tilted rmX10_tilted [.ref t_h, .int x1] G cI cJ [(t_h, .inr (10, [.int t_baseWay, .int t_slip, .int t_low, .int t_high, .int t_unlike, .int t_alone, .long t_above, .long t_below, .ref t_edges_h, .ref t_lean_h, .ref t_word_h, .int t_layers, .ref t_layer_h, .ref t_least_h, .int t_sights, .ref t_sight_h, .int t_shadows, .ref t_shadow_h, .long t_endAbove, .long t_endBelow, .long t_speedAbove, .long t_speedBelow, .int t_spans, .ref t_spanLow_h, .ref t_spanHigh_h, .ref t_spanAt_h, .int t_found, .ref t_numbers_h, .int t_pairs, .ref t_pair_h, .ref t_most_h, .int t_rows, .ref t_row_h, .int t_notes, .ref t_under_h, .ref t_agreed_h])), (t_spanLow_h, .inl (cI, 24, .inl t_spanLow_a)), (t_spanHigh_h, .inl (cI, 24, .inl t_spanHigh_a)), (t_spanAt_h, .inl (cI, 24, .inl t_spanAt_a)), (t_numbers_h, .inl (cI, 24, .inl t_numbers_a))] [(t_h, .inr (10, [.int t_baseWay, .int t_slip, .int t_low, .int t_high, .int t_unlike, .int t_alone, .long t_above, .long t_below, .ref t_edges_h, .ref t_lean_h, .ref t_word_h, .int t_layers, .ref t_layer_h, .ref t_least_h, .int t_sights, .ref t_sight_h, .int t_shadows, .ref t_shadow_h, .long t_endAbove, .long t_endBelow, .long t_speedAbove, .long t_speedBelow, .int t_spans, .ref t_spanLow_h, .ref t_spanHigh_h, .ref t_spanAt_h, .int o_t_found, .ref t_numbers_h, .int t_pairs, .ref t_pair_h, .ref t_most_h, .int t_rows, .ref t_row_h, .int t_notes, .ref t_under_h, .ref t_agreed_h])), (t_spanLow_h, .inl (cI, 24, .inl t_spanLow_a)), (t_spanHigh_h, .inl (cI, 24, .inl t_spanHigh_a)), (t_spanAt_h, .inl (cI, 24, .inl t_spanAt_a)), (t_numbers_h, .inl (cI, 24, .inl o_t_numbers_a))] sz o_r := by
  refine en_0 (l := l) (y := yX10_tilted) (wsl := wsX10_tilted) (rm := rmX10_tilted) (av := [.ref t_h, .int x1]) (G := G) (cI := cI) (cJ := cJ) (w0 := [(t_h, .inr (10, [.int t_baseWay, .int t_slip, .int t_low, .int t_high, .int t_unlike, .int t_alone, .long t_above, .long t_below, .ref t_edges_h, .ref t_lean_h, .ref t_word_h, .int t_layers, .ref t_layer_h, .ref t_least_h, .int t_sights, .ref t_sight_h, .int t_shadows, .ref t_shadow_h, .long t_endAbove, .long t_endBelow, .long t_speedAbove, .long t_speedBelow, .int t_spans, .ref t_spanLow_h, .ref t_spanHigh_h, .ref t_spanAt_h, .int t_found, .ref t_numbers_h, .int t_pairs, .ref t_pair_h, .ref t_most_h, .int t_rows, .ref t_row_h, .int t_notes, .ref t_under_h, .ref t_agreed_h])), (t_spanLow_h, .inl (cI, 24, .inl t_spanLow_a)), (t_spanHigh_h, .inl (cI, 24, .inl t_spanHigh_a)), (t_spanAt_h, .inl (cI, 24, .inl t_spanAt_a)), (t_numbers_h, .inl (cI, 24, .inl t_numbers_a))]) (sz := sz) (Qf := fun A => Qi0 G cI cJ [(t_h, .inr (10, [.int t_baseWay, .int t_slip, .int t_low, .int t_high, .int t_unlike, .int t_alone, .long t_above, .long t_below, .ref t_edges_h, .ref t_lean_h, .ref t_word_h, .int t_layers, .ref t_layer_h, .ref t_least_h, .int t_sights, .ref t_sight_h, .int t_shadows, .ref t_shadow_h, .long t_endAbove, .long t_endBelow, .long t_speedAbove, .long t_speedBelow, .int t_spans, .ref t_spanLow_h, .ref t_spanHigh_h, .ref t_spanAt_h, .int o_t_found, .ref t_numbers_h, .int t_pairs, .ref t_pair_h, .ref t_most_h, .int t_rows, .ref t_row_h, .int t_notes, .ref t_under_h, .ref t_agreed_h])), (t_spanLow_h, .inl (cI, 24, .inl t_spanLow_a)), (t_spanHigh_h, .inl (cI, 24, .inl t_spanHigh_a)), (t_spanAt_h, .inl (cI, 24, .inl t_spanAt_a)), (t_numbers_h, .inl (cI, 24, .inl o_t_numbers_a))] o_r A) (cc := cX10_tilted) (maxL := 6) (ret := (some .int)) RX10 (by decide +kernel) rfl rfl (Nat.le_of_ble_eq_true rfl) ?_
  intro p e s m args below meth c A ls Q hQ hx hb hr hts hown hlocks hml hN hK hP hD hS hA hl
  have hl : lv_has ls 6 [(0, .ref t_h), (1, .int x1)] := hl
  have iwX10 := iwX10_tilted_X10
  have fl_168 := hts (.fieldLink RX10 168 "CloudOfficeModel" "found" "I") (by decide +kernel)
  have hret : ∀ (o_r9 : Int32) (o_t_found9 : Int32) (o_t_numbers_a9 : Nat → Int32) (pc : Nat) (H : Heap) (locs : List Loc) (ls : Array Slot), decode cX10_tilted pc = .ok (.ireturn, 1) → some (o_r9, o_t_found9, o_t_numbers_a9) = some (o_r, o_t_found, o_t_numbers_a) → va_P G vwCl [(t_h, .inr (10, [.int t_baseWay, .int t_slip, .int t_low, .int t_high, .int t_unlike, .int t_alone, .long t_above, .long t_below, .ref t_edges_h, .ref t_lean_h, .ref t_word_h, .int t_layers, .ref t_layer_h, .ref t_least_h, .int t_sights, .ref t_sight_h, .int t_shadows, .ref t_shadow_h, .long t_endAbove, .long t_endBelow, .long t_speedAbove, .long t_speedBelow, .int t_spans, .ref t_spanLow_h, .ref t_spanHigh_h, .ref t_spanAt_h, .int o_t_found9, .ref t_numbers_h, .int t_pairs, .ref t_pair_h, .ref t_most_h, .int t_rows, .ref t_row_h, .int t_notes, .ref t_under_h, .ref t_agreed_h])), (t_spanLow_h, .inl (cI, 24, .inl t_spanLow_a)), (t_spanHigh_h, .inl (cI, 24, .inl t_spanHigh_a)), (t_spanAt_h, .inl (cI, 24, .inl t_spanAt_a)), (t_numbers_h, .inl (cI, 24, .inl o_t_numbers_a9))] H → va_D A [(t_h, .inr (10, [.int t_baseWay, .int t_slip, .int t_low, .int t_high, .int t_unlike, .int t_alone, .long t_above, .long t_below, .ref t_edges_h, .ref t_lean_h, .ref t_word_h, .int t_layers, .ref t_layer_h, .ref t_least_h, .int t_sights, .ref t_sight_h, .int t_shadows, .ref t_shadow_h, .long t_endAbove, .long t_endBelow, .long t_speedAbove, .long t_speedBelow, .int t_spans, .ref t_spanLow_h, .ref t_spanHigh_h, .ref t_spanAt_h, .int o_t_found9, .ref t_numbers_h, .int t_pairs, .ref t_pair_h, .ref t_most_h, .int t_rows, .ref t_row_h, .int t_notes, .ref t_under_h, .ref t_agreed_h])), (t_spanLow_h, .inl (cI, 24, .inl t_spanLow_a)), (t_spanHigh_h, .inl (cI, 24, .inl t_spanHigh_a)), (t_spanAt_h, .inl (cI, 24, .inl t_spanAt_a)), (t_numbers_h, .inl (cI, 24, .inl o_t_numbers_a9))] → va_S A s.heap H locs → W p l e rmX10_tilted s m args below meth c H locs 0 0 Q (F0 m pc ls [.int o_r9]) := by
    intro o_r9 o_t_found9 o_t_numbers_a9 pc H locs ls hdg he hP hD hS
    cases he
    subst hQ
    exact rt_i hx hb hr hlocks hK hP hD hS rfl hdg
  clear hQ
  unfold fX10_tilted at hf
  refine lv_iload_n hx hb dX10_tilted_0 rfl (lv_at hl 1 rfl) ?_
  refine lv_iconst (v := 0) hx hb dX10_tilted_1 (by decide) ?_
  refine lv_iconst (v := 1) hx hb dX10_tilted_2 (by decide) ?_
  obtain ⟨r1, hc2, hf⟩ := ob_some hf
  refine af_iR (va_runS (As := [.int x1, .int 0, .int 1]) (rest := []) ⟨hx, hb, hml, hown, hts⟩ (k_X10_in l G cI cJ (x0 := x1) (x1 := 0) (x2 := 1) (sz := _) (hf := hc2)) (va_cwS 3 hts gX10_tilted_X10_in rfl rfl rfl (by decide +kernel) ⟨Nat.le_of_ble_eq_true rfl, Nat.le_of_ble_eq_true rfl⟩) (preS0 (wc := []) hK hP hD hN [] rfl rfl (by decide)) rfl rfl hl.1 rfl (lv_room (Nat.le_of_ble_eq_true rfl)) dX10_tilted_3 ⟨Nat.zero_le _, Nat.zero_le _⟩) hP hD hS hA [] rfl (fun H locs hP hS => ?_)
  refine lv_if_ne (tgt := 12) hx hb dX10_tilted_6 (by decide) (fun c3 => ?_) (fun c3 => ?_)
  · have hf := iff_ hf c3
    refine lv_aload_n hx hb dX10_tilted_12 rfl (lv_at hl 0 rfl) ?_
    refine lv_iconst (v := 0) hx hb dX10_tilted_13 (by decide) ?_
    obtain ⟨w4, w5, hc6, hf⟩ := ob2_some hf
    refine af_vW (wr := []) (ws2 := [(t_h, .inr (10, [.int t_baseWay, .int t_slip, .int t_low, .int t_high, .int t_unlike, .int t_alone, .long t_above, .long t_below, .ref t_edges_h, .ref t_lean_h, .ref t_word_h, .int t_layers, .ref t_layer_h, .ref t_least_h, .int t_sights, .ref t_sight_h, .int t_shadows, .ref t_shadow_h, .long t_endAbove, .long t_endBelow, .long t_speedAbove, .long t_speedBelow, .int t_spans, .ref t_spanLow_h, .ref t_spanHigh_h, .ref t_spanAt_h, .int w4, .ref t_numbers_h, .int t_pairs, .ref t_pair_h, .ref t_most_h, .int t_rows, .ref t_row_h, .int t_notes, .ref t_under_h, .ref t_agreed_h])), (t_spanLow_h, .inl (cI, 24, .inl t_spanLow_a)), (t_spanHigh_h, .inl (cI, 24, .inl t_spanHigh_a)), (t_spanAt_h, .inl (cI, 24, .inl t_spanAt_a)), (t_numbers_h, .inl (cI, 24, .inl w5))]) (va_runV (As := [.int 0]) (rest := []) ⟨hx, hb, hml, hown, hts⟩ (k_X10_findNumbers l G cI cJ (t_h := t_h) (t_edges_h := t_edges_h) (t_lean_h := t_lean_h) (t_word_h := t_word_h) (t_layer_h := t_layer_h) (t_least_h := t_least_h) (t_sight_h := t_sight_h) (t_shadow_h := t_shadow_h) (t_spanLow_h := t_spanLow_h) (t_spanHigh_h := t_spanHigh_h) (t_spanAt_h := t_spanAt_h) (t_numbers_h := t_numbers_h) (t_pair_h := t_pair_h) (t_most_h := t_most_h) (t_row_h := t_row_h) (t_under_h := t_under_h) (t_agreed_h := t_agreed_h) (t_baseWay := t_baseWay) (t_slip := t_slip) (t_low := t_low) (t_high := t_high) (t_unlike := t_unlike) (t_alone := t_alone) (t_above := t_above) (t_below := t_below) (t_layers := t_layers) (t_sights := t_sights) (t_shadows := t_shadows) (t_endAbove := t_endAbove) (t_endBelow := t_endBelow) (t_speedAbove := t_speedAbove) (t_speedBelow := t_speedBelow) (t_spans := t_spans) (t_found := t_found) (t_pairs := t_pairs) (t_rows := t_rows) (t_notes := t_notes) (t_spanLow_a := t_spanLow_a) (t_spanHigh_a := t_spanHigh_a) (t_spanAt_a := t_spanAt_a) (t_numbers_a := t_numbers_a) (x1 := 0) (sz := _) (hf := hc6)) (cwV 1 hts gX10_tilted_X10_findNumbers rfl rfl rfl (by decide +kernel) ⟨Nat.le_of_ble_eq_true rfl, Nat.le_of_ble_eq_true rfl⟩) (preV0 (ci := 10) (q0 := 0) (C := RX10) (wc := [(t_h, .inr (10, [.int t_baseWay, .int t_slip, .int t_low, .int t_high, .int t_unlike, .int t_alone, .long t_above, .long t_below, .ref t_edges_h, .ref t_lean_h, .ref t_word_h, .int t_layers, .ref t_layer_h, .ref t_least_h, .int t_sights, .ref t_sight_h, .int t_shadows, .ref t_shadow_h, .long t_endAbove, .long t_endBelow, .long t_speedAbove, .long t_speedBelow, .int t_spans, .ref t_spanLow_h, .ref t_spanHigh_h, .ref t_spanAt_h, .int t_found, .ref t_numbers_h, .int t_pairs, .ref t_pair_h, .ref t_most_h, .int t_rows, .ref t_row_h, .int t_notes, .ref t_under_h, .ref t_agreed_h])), (t_spanLow_h, .inl (cI, 24, .inl t_spanLow_a)), (t_spanHigh_h, .inl (cI, 24, .inl t_spanHigh_a)), (t_spanAt_h, .inl (cI, 24, .inl t_spanAt_a)), (t_numbers_h, .inl (cI, 24, .inl t_numbers_a))]) hK hP hD hN [0, 1, 2, 3, 4] rfl rfl (by decide) rfl rfl) rfl rfl hl.1 rfl (lv_room (Nat.le_of_ble_eq_true rfl)) dX10_tilted_14 ⟨Nat.zero_le _, Nat.zero_le _⟩) hP hD hS hA [0, 1, 2, 3, 4] [] [0, 1, 2, 3, 4] rfl rfl (by decide) (by decide) rfl rfl (by decide) (fun H locs hP hD hS => ?_)
    refine lv_iconst (v := 0) hx hb dX10_tilted_17 (by decide) ?_
    refine lv_istore_n (lv' := [(2, .int 0), (0, .ref t_h), (1, .int x1)]) hx hb dX10_tilted_18 rfl hl (by decide) rfl (fun ls hl => ?_)
    refine lv_aload_n hx hb dX10_tilted_19 rfl (lv_at hl 1 rfl) ?_
    refine va_get (D := G) (ci := 10) (v := .int w4) (C := RX10) (T := TX10) (N := 36) hx hb hts iwX10 hown hK hP 0 rfl rfl 26 (by decide) fl_168 (fun _ h9 => h9) rfl dX10_tilted_20 ?_
    refine lv_istore_n (lv' := [(3, .int w4), (2, .int 0), (0, .ref t_h), (1, .int x1)]) hx hb dX10_tilted_23 rfl hl (by decide) rfl (fun ls hl => ?_)
    refine lv_iconst (v := 1) hx hb dX10_tilted_24 (by decide) ?_
    refine lv_istore (lv' := [(4, .int 1), (3, .int w4), (2, .int 0), (0, .ref t_h), (1, .int x1)]) hx hb dX10_tilted_25 hl (by decide) rfl (fun ls hl => ?_)
    obtain ⟨x34, x35, x36, x37, ht1, hf⟩ := ob4_some hf
    have hx1_0 : ∀ (x349 : Int32) (x359 : Int32) (x369 : Int32) (x379 : Nat → Int32), (x349, x359, x369, x379) = (x34, x35, x36, x37) → ∀ (H : Heap) (locs : List Loc) (ls : Array Slot), va_P G vwCl [(t_h, .inr (10, [.int t_baseWay, .int t_slip, .int t_low, .int t_high, .int t_unlike, .int t_alone, .long t_above, .long t_below, .ref t_edges_h, .ref t_lean_h, .ref t_word_h, .int t_layers, .ref t_layer_h, .ref t_least_h, .int t_sights, .ref t_sight_h, .int t_shadows, .ref t_shadow_h, .long t_endAbove, .long t_endBelow, .long t_speedAbove, .long t_speedBelow, .int t_spans, .ref t_spanLow_h, .ref t_spanHigh_h, .ref t_spanAt_h, .int x369, .ref t_numbers_h, .int t_pairs, .ref t_pair_h, .ref t_most_h, .int t_rows, .ref t_row_h, .int t_notes, .ref t_under_h, .ref t_agreed_h])), (t_spanLow_h, .inl (cI, 24, .inl t_spanLow_a)), (t_spanHigh_h, .inl (cI, 24, .inl t_spanHigh_a)), (t_spanAt_h, .inl (cI, 24, .inl t_spanAt_a)), (t_numbers_h, .inl (cI, 24, .inl x379))] H → va_D A [(t_h, .inr (10, [.int t_baseWay, .int t_slip, .int t_low, .int t_high, .int t_unlike, .int t_alone, .long t_above, .long t_below, .ref t_edges_h, .ref t_lean_h, .ref t_word_h, .int t_layers, .ref t_layer_h, .ref t_least_h, .int t_sights, .ref t_sight_h, .int t_shadows, .ref t_shadow_h, .long t_endAbove, .long t_endBelow, .long t_speedAbove, .long t_speedBelow, .int t_spans, .ref t_spanLow_h, .ref t_spanHigh_h, .ref t_spanAt_h, .int x369, .ref t_numbers_h, .int t_pairs, .ref t_pair_h, .ref t_most_h, .int t_rows, .ref t_row_h, .int t_notes, .ref t_under_h, .ref t_agreed_h])), (t_spanLow_h, .inl (cI, 24, .inl t_spanLow_a)), (t_spanHigh_h, .inl (cI, 24, .inl t_spanHigh_a)), (t_spanAt_h, .inl (cI, 24, .inl t_spanAt_a)), (t_numbers_h, .inl (cI, 24, .inl x379))] → va_S A s.heap H locs → lv_has ls 6 [(1, .int x1), (2, .int x349), (3, .int x359)] → W p l e rmX10_tilted s m args below meth c H locs 0 0 Q (F0 m 83 ls []) := by
      intro x349 x359 x369 x379 he H locs ls hP hD hS hl
      cases he
      refine lv_iload_n hx hb dX10_tilted_83 rfl (lv_at hl 0 rfl) ?_
      refine lv_if_ne (tgt := 91) hx hb dX10_tilted_84 (by decide) (fun c38 => ?_) (fun c38 => ?_)
      · have hf := iff_ hf c38
        refine lv_iload_n hx hb dX10_tilted_91 rfl (lv_at hl 2 rfl) ?_
        exact hret x35 x36 x37 92 _ _ _ dX10_tilted_92 hf hP hD hS
      · have hf := ift hf c38
        refine lv_iload_n hx hb dX10_tilted_87 rfl (lv_at hl 1 rfl) ?_
        refine lv_goto (tgt := 92) hx hb dX10_tilted_88 (by decide) ?_
        exact hret x34 x36 x37 92 _ _ _ dX10_tilted_92 hf hP hD hS
    clear hf
    have hl1 : ∀ (n : Nat) (u7 : Int32) (u8 : Int32) (u9 : Int32) (u10 : Int32) (u11 : Nat → Int32), it (fX10_tilted_L1 t_spans t_spanLow_a t_spanHigh_a t_spanAt_a) n (u7, u8, u9, u10, u11) = some (x34, x35, x36, x37) → ∀ (H : Heap) (locs : List Loc) (ls : Array Slot), va_P G vwCl [(t_h, .inr (10, [.int t_baseWay, .int t_slip, .int t_low, .int t_high, .int t_unlike, .int t_alone, .long t_above, .long t_below, .ref t_edges_h, .ref t_lean_h, .ref t_word_h, .int t_layers, .ref t_layer_h, .ref t_least_h, .int t_sights, .ref t_sight_h, .int t_shadows, .ref t_shadow_h, .long t_endAbove, .long t_endBelow, .long t_speedAbove, .long t_speedBelow, .int t_spans, .ref t_spanLow_h, .ref t_spanHigh_h, .ref t_spanAt_h, .int u10, .ref t_numbers_h, .int t_pairs, .ref t_pair_h, .ref t_most_h, .int t_rows, .ref t_row_h, .int t_notes, .ref t_under_h, .ref t_agreed_h])), (t_spanLow_h, .inl (cI, 24, .inl t_spanLow_a)), (t_spanHigh_h, .inl (cI, 24, .inl t_spanHigh_a)), (t_spanAt_h, .inl (cI, 24, .inl t_spanAt_a)), (t_numbers_h, .inl (cI, 24, .inl u11))] H → va_D A [(t_h, .inr (10, [.int t_baseWay, .int t_slip, .int t_low, .int t_high, .int t_unlike, .int t_alone, .long t_above, .long t_below, .ref t_edges_h, .ref t_lean_h, .ref t_word_h, .int t_layers, .ref t_layer_h, .ref t_least_h, .int t_sights, .ref t_sight_h, .int t_shadows, .ref t_shadow_h, .long t_endAbove, .long t_endBelow, .long t_speedAbove, .long t_speedBelow, .int t_spans, .ref t_spanLow_h, .ref t_spanHigh_h, .ref t_spanAt_h, .int u10, .ref t_numbers_h, .int t_pairs, .ref t_pair_h, .ref t_most_h, .int t_rows, .ref t_row_h, .int t_notes, .ref t_under_h, .ref t_agreed_h])), (t_spanLow_h, .inl (cI, 24, .inl t_spanLow_a)), (t_spanHigh_h, .inl (cI, 24, .inl t_spanHigh_a)), (t_spanAt_h, .inl (cI, 24, .inl t_spanAt_a)), (t_numbers_h, .inl (cI, 24, .inl u11))] → va_S A s.heap H locs → lv_has ls 6 [(0, .ref t_h), (1, .int x1), (2, .int u7), (3, .int u8), (4, .int u9)] → W p l e rmX10_tilted s m args below meth c H locs 0 0 Q (F0 m 27 ls []) := by
      intro n
      induction n with
      | zero => intro u7 u8 u9 u10 u11 hz; exact (it_zero hz).elim
      | succ n ih =>
        intro u7 u8 u9 u10 u11 hz H locs ls hP hD hS hl
        obtain ⟨x9, hf, hq⟩ := it_succ hz
        unfold fX10_tilted_L1 at hf
        dsimp only [un5] at hf
        refine lv_iload hx hb dX10_tilted_27 (lv_at hl 4 rfl) ?_
        refine lv_bipush (v := 50) hx hb dX10_tilted_29 (by decide) ?_
        refine lv_icmp_gt (tgt := 83) hx hb dX10_tilted_31 (by decide) (fun c12 => ?_) (fun c12 => ?_)
        · have hf := ift hf c12
          cases hf
          exact hx1_0 _ _ _ _ hq _ _ _ hP hD hS (lv_sub hl [1, 2, 3] rfl)
        · have hf := iff_ hf c12
          refine lv_iconst (v := 1) hx hb dX10_tilted_34 (by decide) ?_
          refine lv_istore (lv' := [(5, .int 1), (0, .ref t_h), (1, .int x1), (2, .int u7), (3, .int u8), (4, .int u9)]) hx hb dX10_tilted_35 hl (by decide) rfl (fun ls hl => ?_)
          obtain ⟨x29, x30, x31, x32, ht2, hf⟩ := ob4_some hf
          have hx2_0 : ∀ (x299 : Int32) (x309 : Int32) (x319 : Int32) (x329 : Nat → Int32), (x299, x309, x319, x329) = (x29, x30, x31, x32) → ∀ (H : Heap) (locs : List Loc) (ls : Array Slot), va_P G vwCl [(t_h, .inr (10, [.int t_baseWay, .int t_slip, .int t_low, .int t_high, .int t_unlike, .int t_alone, .long t_above, .long t_below, .ref t_edges_h, .ref t_lean_h, .ref t_word_h, .int t_layers, .ref t_layer_h, .ref t_least_h, .int t_sights, .ref t_sight_h, .int t_shadows, .ref t_shadow_h, .long t_endAbove, .long t_endBelow, .long t_speedAbove, .long t_speedBelow, .int t_spans, .ref t_spanLow_h, .ref t_spanHigh_h, .ref t_spanAt_h, .int x319, .ref t_numbers_h, .int t_pairs, .ref t_pair_h, .ref t_most_h, .int t_rows, .ref t_row_h, .int t_notes, .ref t_under_h, .ref t_agreed_h])), (t_spanLow_h, .inl (cI, 24, .inl t_spanLow_a)), (t_spanHigh_h, .inl (cI, 24, .inl t_spanHigh_a)), (t_spanAt_h, .inl (cI, 24, .inl t_spanAt_a)), (t_numbers_h, .inl (cI, 24, .inl x329))] H → va_D A [(t_h, .inr (10, [.int t_baseWay, .int t_slip, .int t_low, .int t_high, .int t_unlike, .int t_alone, .long t_above, .long t_below, .ref t_edges_h, .ref t_lean_h, .ref t_word_h, .int t_layers, .ref t_layer_h, .ref t_least_h, .int t_sights, .ref t_sight_h, .int t_shadows, .ref t_shadow_h, .long t_endAbove, .long t_endBelow, .long t_speedAbove, .long t_speedBelow, .int t_spans, .ref t_spanLow_h, .ref t_spanHigh_h, .ref t_spanAt_h, .int x319, .ref t_numbers_h, .int t_pairs, .ref t_pair_h, .ref t_most_h, .int t_rows, .ref t_row_h, .int t_notes, .ref t_under_h, .ref t_agreed_h])), (t_spanLow_h, .inl (cI, 24, .inl t_spanLow_a)), (t_spanHigh_h, .inl (cI, 24, .inl t_spanHigh_a)), (t_spanAt_h, .inl (cI, 24, .inl t_spanAt_a)), (t_numbers_h, .inl (cI, 24, .inl x329))] → va_S A s.heap H locs → lv_has ls 6 [(0, .ref t_h), (1, .int x1), (2, .int x299), (3, .int x309), (4, .int u9)] → W p l e rmX10_tilted s m args below meth c H locs 0 0 Q (F0 m 77 ls []) := by
            intro x299 x309 x319 x329 he H locs ls hP hD hS hl
            cases he
            obtain ⟨v33, ev33⟩ : ∃ y : Int32, y = u9 + 1 := ⟨_, rfl⟩
            have hf := bv_at ev33 hf
            refine lv_iinc (v := v33) (lv' := [(4, .int v33), (0, .ref t_h), (1, .int x1), (2, .int x29), (3, .int x30)]) hx hb dX10_tilted_77 hl (k := 4) rfl (by rw [ev33]; rfl) (by decide) rfl (fun ls hl => ?_)
            refine lv_goto (tgt := 27) hx hb dX10_tilted_80 (by decide) ?_
            cases hf
            exact ih _ _ _ _ _ hq _ _ _ hP hD hS (lv_sub hl [1, 2, 3, 4, 0] rfl)
          clear hf
          have hl2 : ∀ (n : Nat) (u13 : Int32) (u14 : Int32) (u15 : Int32) (u16 : Int32) (u17 : Nat → Int32), it (fX10_tilted_L2 u9 t_spans t_spanLow_a t_spanHigh_a t_spanAt_a) n (u13, u14, u15, u16, u17) = some (x29, x30, x31, x32) → ∀ (H : Heap) (locs : List Loc) (ls : Array Slot), va_P G vwCl [(t_h, .inr (10, [.int t_baseWay, .int t_slip, .int t_low, .int t_high, .int t_unlike, .int t_alone, .long t_above, .long t_below, .ref t_edges_h, .ref t_lean_h, .ref t_word_h, .int t_layers, .ref t_layer_h, .ref t_least_h, .int t_sights, .ref t_sight_h, .int t_shadows, .ref t_shadow_h, .long t_endAbove, .long t_endBelow, .long t_speedAbove, .long t_speedBelow, .int t_spans, .ref t_spanLow_h, .ref t_spanHigh_h, .ref t_spanAt_h, .int u16, .ref t_numbers_h, .int t_pairs, .ref t_pair_h, .ref t_most_h, .int t_rows, .ref t_row_h, .int t_notes, .ref t_under_h, .ref t_agreed_h])), (t_spanLow_h, .inl (cI, 24, .inl t_spanLow_a)), (t_spanHigh_h, .inl (cI, 24, .inl t_spanHigh_a)), (t_spanAt_h, .inl (cI, 24, .inl t_spanAt_a)), (t_numbers_h, .inl (cI, 24, .inl u17))] H → va_D A [(t_h, .inr (10, [.int t_baseWay, .int t_slip, .int t_low, .int t_high, .int t_unlike, .int t_alone, .long t_above, .long t_below, .ref t_edges_h, .ref t_lean_h, .ref t_word_h, .int t_layers, .ref t_layer_h, .ref t_least_h, .int t_sights, .ref t_sight_h, .int t_shadows, .ref t_shadow_h, .long t_endAbove, .long t_endBelow, .long t_speedAbove, .long t_speedBelow, .int t_spans, .ref t_spanLow_h, .ref t_spanHigh_h, .ref t_spanAt_h, .int u16, .ref t_numbers_h, .int t_pairs, .ref t_pair_h, .ref t_most_h, .int t_rows, .ref t_row_h, .int t_notes, .ref t_under_h, .ref t_agreed_h])), (t_spanLow_h, .inl (cI, 24, .inl t_spanLow_a)), (t_spanHigh_h, .inl (cI, 24, .inl t_spanHigh_a)), (t_spanAt_h, .inl (cI, 24, .inl t_spanAt_a)), (t_numbers_h, .inl (cI, 24, .inl u17))] → va_S A s.heap H locs → lv_has ls 6 [(0, .ref t_h), (1, .int x1), (2, .int u13), (3, .int u14), (4, .int u9), (5, .int u15)] → W p l e rmX10_tilted s m args below meth c H locs 0 0 Q (F0 m 37 ls []) := by
            intro n
            induction n with
            | zero => intro u13 u14 u15 u16 u17 hz; exact (it_zero hz).elim
            | succ n ih =>
              intro u13 u14 u15 u16 u17 hz H locs ls hP hD hS hl
              obtain ⟨x9, hf, hq⟩ := it_succ hz
              unfold fX10_tilted_L2 at hf
              dsimp only [un5] at hf
              refine lv_iload hx hb dX10_tilted_37 (lv_at hl 5 rfl) ?_
              refine lv_iconst (v := (-1)) hx hb dX10_tilted_39 (by decide) ?_
              refine lv_icmp_lt (tgt := 77) hx hb dX10_tilted_40 (by decide) (fun c18 => ?_) (fun c18 => ?_)
              · have hf := ift hf c18
                cases hf
                exact hx2_0 _ _ _ _ hq _ _ _ hP hD hS (lv_sub hl [0, 1, 2, 3, 4] rfl)
              · have hf := iff_ hf c18
                refine lv_aload_n hx hb dX10_tilted_43 rfl (lv_at hl 0 rfl) ?_
                refine lv_iload hx hb dX10_tilted_44 (lv_at hl 5 rfl) ?_
                refine lv_iload hx hb dX10_tilted_46 (lv_at hl 4 rfl) ?_
                refine lv_imul hx hb dX10_tilted_48 ?_
                obtain ⟨w19, w20, hc21, hf⟩ := ob2_some hf
                refine af_vW (wr := []) (ws2 := [(t_h, .inr (10, [.int t_baseWay, .int t_slip, .int t_low, .int t_high, .int t_unlike, .int t_alone, .long t_above, .long t_below, .ref t_edges_h, .ref t_lean_h, .ref t_word_h, .int t_layers, .ref t_layer_h, .ref t_least_h, .int t_sights, .ref t_sight_h, .int t_shadows, .ref t_shadow_h, .long t_endAbove, .long t_endBelow, .long t_speedAbove, .long t_speedBelow, .int t_spans, .ref t_spanLow_h, .ref t_spanHigh_h, .ref t_spanAt_h, .int w19, .ref t_numbers_h, .int t_pairs, .ref t_pair_h, .ref t_most_h, .int t_rows, .ref t_row_h, .int t_notes, .ref t_under_h, .ref t_agreed_h])), (t_spanLow_h, .inl (cI, 24, .inl t_spanLow_a)), (t_spanHigh_h, .inl (cI, 24, .inl t_spanHigh_a)), (t_spanAt_h, .inl (cI, 24, .inl t_spanAt_a)), (t_numbers_h, .inl (cI, 24, .inl w20))]) (va_runV (As := [.int (u15 * u9)]) (rest := []) ⟨hx, hb, hml, hown, hts⟩ (k_X10_findNumbers l G cI cJ (t_h := t_h) (t_edges_h := t_edges_h) (t_lean_h := t_lean_h) (t_word_h := t_word_h) (t_layer_h := t_layer_h) (t_least_h := t_least_h) (t_sight_h := t_sight_h) (t_shadow_h := t_shadow_h) (t_spanLow_h := t_spanLow_h) (t_spanHigh_h := t_spanHigh_h) (t_spanAt_h := t_spanAt_h) (t_numbers_h := t_numbers_h) (t_pair_h := t_pair_h) (t_most_h := t_most_h) (t_row_h := t_row_h) (t_under_h := t_under_h) (t_agreed_h := t_agreed_h) (t_baseWay := t_baseWay) (t_slip := t_slip) (t_low := t_low) (t_high := t_high) (t_unlike := t_unlike) (t_alone := t_alone) (t_above := t_above) (t_below := t_below) (t_layers := t_layers) (t_sights := t_sights) (t_shadows := t_shadows) (t_endAbove := t_endAbove) (t_endBelow := t_endBelow) (t_speedAbove := t_speedAbove) (t_speedBelow := t_speedBelow) (t_spans := t_spans) (t_found := u16) (t_pairs := t_pairs) (t_rows := t_rows) (t_notes := t_notes) (t_spanLow_a := t_spanLow_a) (t_spanHigh_a := t_spanHigh_a) (t_spanAt_a := t_spanAt_a) (t_numbers_a := u17) (x1 := (u15 * u9)) (sz := _) (hf := hc21)) (cwV 1 hts gX10_tilted_X10_findNumbers rfl rfl rfl (by decide +kernel) ⟨Nat.le_of_ble_eq_true rfl, Nat.le_of_ble_eq_true rfl⟩) (preV0 (ci := 10) (q0 := 0) (C := RX10) (wc := [(t_h, .inr (10, [.int t_baseWay, .int t_slip, .int t_low, .int t_high, .int t_unlike, .int t_alone, .long t_above, .long t_below, .ref t_edges_h, .ref t_lean_h, .ref t_word_h, .int t_layers, .ref t_layer_h, .ref t_least_h, .int t_sights, .ref t_sight_h, .int t_shadows, .ref t_shadow_h, .long t_endAbove, .long t_endBelow, .long t_speedAbove, .long t_speedBelow, .int t_spans, .ref t_spanLow_h, .ref t_spanHigh_h, .ref t_spanAt_h, .int u16, .ref t_numbers_h, .int t_pairs, .ref t_pair_h, .ref t_most_h, .int t_rows, .ref t_row_h, .int t_notes, .ref t_under_h, .ref t_agreed_h])), (t_spanLow_h, .inl (cI, 24, .inl t_spanLow_a)), (t_spanHigh_h, .inl (cI, 24, .inl t_spanHigh_a)), (t_spanAt_h, .inl (cI, 24, .inl t_spanAt_a)), (t_numbers_h, .inl (cI, 24, .inl u17))]) hK hP hD hN [0, 1, 2, 3, 4] rfl rfl (by decide) rfl rfl) rfl rfl hl.1 rfl (lv_room (Nat.le_of_ble_eq_true rfl)) dX10_tilted_49 ⟨Nat.zero_le _, Nat.zero_le _⟩) hP hD hS hA [0, 1, 2, 3, 4] [] [0, 1, 2, 3, 4] rfl rfl (by decide) (by decide) rfl rfl (by decide) (fun H locs hP hD hS => ?_)
                refine lv_aload_n hx hb dX10_tilted_52 rfl (lv_at hl 0 rfl) ?_
                refine va_get (D := G) (ci := 10) (v := .int w19) (C := RX10) (T := TX10) (N := 36) hx hb hts iwX10 hown hK hP 0 rfl rfl 26 (by decide) fl_168 (fun _ h9 => h9) rfl dX10_tilted_53 ?_
                refine lv_iload_n hx hb dX10_tilted_56 rfl (lv_at hl 3 rfl) ?_
                obtain ⟨m22, m23, hr24, hf⟩ := ob2_some hf
                have hj25 : ∀ (m229 : Int32) (m239 : Int32), some (m229, m239) = some (m22, m23) → ∀ (H : Heap) (locs : List Loc) (ls : Array Slot), va_P G vwCl [(t_h, .inr (10, [.int t_baseWay, .int t_slip, .int t_low, .int t_high, .int t_unlike, .int t_alone, .long t_above, .long t_below, .ref t_edges_h, .ref t_lean_h, .ref t_word_h, .int t_layers, .ref t_layer_h, .ref t_least_h, .int t_sights, .ref t_sight_h, .int t_shadows, .ref t_shadow_h, .long t_endAbove, .long t_endBelow, .long t_speedAbove, .long t_speedBelow, .int t_spans, .ref t_spanLow_h, .ref t_spanHigh_h, .ref t_spanAt_h, .int w19, .ref t_numbers_h, .int t_pairs, .ref t_pair_h, .ref t_most_h, .int t_rows, .ref t_row_h, .int t_notes, .ref t_under_h, .ref t_agreed_h])), (t_spanLow_h, .inl (cI, 24, .inl t_spanLow_a)), (t_spanHigh_h, .inl (cI, 24, .inl t_spanHigh_a)), (t_spanAt_h, .inl (cI, 24, .inl t_spanAt_a)), (t_numbers_h, .inl (cI, 24, .inl w20))] H → va_D A [(t_h, .inr (10, [.int t_baseWay, .int t_slip, .int t_low, .int t_high, .int t_unlike, .int t_alone, .long t_above, .long t_below, .ref t_edges_h, .ref t_lean_h, .ref t_word_h, .int t_layers, .ref t_layer_h, .ref t_least_h, .int t_sights, .ref t_sight_h, .int t_shadows, .ref t_shadow_h, .long t_endAbove, .long t_endBelow, .long t_speedAbove, .long t_speedBelow, .int t_spans, .ref t_spanLow_h, .ref t_spanHigh_h, .ref t_spanAt_h, .int w19, .ref t_numbers_h, .int t_pairs, .ref t_pair_h, .ref t_most_h, .int t_rows, .ref t_row_h, .int t_notes, .ref t_under_h, .ref t_agreed_h])), (t_spanLow_h, .inl (cI, 24, .inl t_spanLow_a)), (t_spanHigh_h, .inl (cI, 24, .inl t_spanHigh_a)), (t_spanAt_h, .inl (cI, 24, .inl t_spanAt_a)), (t_numbers_h, .inl (cI, 24, .inl w20))] → va_S A s.heap H locs → lv_has ls 6 [(0, .ref t_h), (1, .int x1), (2, .int m229), (3, .int m239), (4, .int u9), (5, .int u15)] → W p l e rmX10_tilted s m args below meth c H locs 0 0 Q (F0 m 71 ls []) := by
                  intro m229 m239 he H locs ls hP hD hS hl
                  cases he
                  obtain ⟨v28, ev28⟩ : ∃ y : Int32, y = u15 + (-2) := ⟨_, rfl⟩
                  have hf := bv_at ev28 hf
                  refine lv_iinc (v := v28) (lv' := [(5, .int v28), (0, .ref t_h), (1, .int x1), (2, .int m22), (3, .int m23), (4, .int u9)]) hx hb dX10_tilted_71 hl (k := 5) rfl (by rw [ev28]; rfl) (by decide) rfl (fun ls hl => ?_)
                  refine lv_goto (tgt := 37) hx hb dX10_tilted_74 (by decide) ?_
                  cases hf
                  exact ih _ _ _ _ _ hq _ _ _ hP hD hS (lv_sub hl [1, 2, 3, 4, 5, 0] rfl)
                replace hf := hr24
                refine lv_icmp_ge (tgt := 71) hx hb dX10_tilted_57 (by decide) (fun c26 => ?_) (fun c26 => ?_)
                · have hf := ift hf c26
                  exact hj25 _ _ hf _ _ _ hP hD hS (lv_sub hl [0, 1, 2, 3, 4, 5] rfl)
                · have hf := iff_ hf c26
                  refine lv_iload hx hb dX10_tilted_60 (lv_at hl 5 rfl) ?_
                  refine lv_iload hx hb dX10_tilted_62 (lv_at hl 4 rfl) ?_
                  refine lv_imul hx hb dX10_tilted_64 ?_
                  refine lv_topi (fun v27 ev27 => ?_)
                  have hf := bv_at ev27 hf
                  refine lv_istore_n (lv' := [(2, .int v27), (0, .ref t_h), (1, .int x1), (3, .int u14), (4, .int u9), (5, .int u15)]) hx hb dX10_tilted_65 rfl hl (by decide) rfl (fun ls hl => ?_)
                  refine lv_aload_n hx hb dX10_tilted_66 rfl (lv_at hl 1 rfl) ?_
                  refine va_get (D := G) (ci := 10) (v := .int w19) (C := RX10) (T := TX10) (N := 36) hx hb hts iwX10 hown hK hP 0 rfl rfl 26 (by decide) fl_168 (fun _ h9 => h9) rfl dX10_tilted_67 ?_
                  refine lv_istore_n (lv' := [(3, .int w19), (2, .int v27), (0, .ref t_h), (1, .int x1), (4, .int u9), (5, .int u15)]) hx hb dX10_tilted_70 rfl hl (by decide) rfl (fun ls hl => ?_)
                  exact hj25 _ _ hf _ _ _ hP hD hS (lv_sub hl [2, 3, 1, 0, 4, 5] rfl)
          exact hl2 _ _ _ _ _ _ ht2 _ _ _ hP hD hS (lv_sub hl [1, 2, 3, 4, 5, 0] rfl)
    exact hl1 _ _ _ _ _ _ ht1 _ _ _ hP hD hS (lv_sub hl [3, 4, 2, 1, 0] rfl)
  · have hf := ift hf c3
    refine lv_bipush (v := (-100)) hx hb dX10_tilted_9 (by decide) ?_
    exact hret (-100) t_found t_numbers_a 11 _ _ _ dX10_tilted_11 hf hP hD hS
set_option maxRecDepth 20000 in
theorem ggX10_pair_X10_in : GoodIn wsX10_pair wsX10_in := goodIn_r _ [6] (by decide +kernel) (by decide +kernel)
set_option maxRecDepth 20000 in
theorem gX10_pair_X10_in : GoodIn wsX10_pair (va_wsS RX10 89 yX10_in wsX10_in) := goodIn_app (goodIn_of _ (by decide +kernel)) ggX10_pair_X10_in
theorem dX10_pair_0 : decode cX10_pair 0 = .ok (.iload_n 1, 1) := by decide +kernel
theorem dX10_pair_1 : decode cX10_pair 1 = .ok (.iconst 0, 1) := by decide +kernel
theorem dX10_pair_2 : decode cX10_pair 2 = .ok (.iconst 5, 1) := by decide +kernel
theorem dX10_pair_3 : decode cX10_pair 3 = .ok (.invokestatic 89, 3) := by decide +kernel
theorem dX10_pair_6 : decode cX10_pair 6 = .ok (.ifCond .eq 30, 3) := by decide +kernel
theorem dX10_pair_9 : decode cX10_pair 9 = .ok (.iload_n 2, 1) := by decide +kernel
theorem dX10_pair_10 : decode cX10_pair 10 = .ok (.iconst 0, 1) := by decide +kernel
theorem dX10_pair_11 : decode cX10_pair 11 = .ok (.iconst 5, 1) := by decide +kernel
theorem dX10_pair_12 : decode cX10_pair 12 = .ok (.invokestatic 89, 3) := by decide +kernel
theorem dX10_pair_15 : decode cX10_pair 15 = .ok (.ifCond .eq 21, 3) := by decide +kernel
theorem dX10_pair_18 : decode cX10_pair 18 = .ok (.iload_n 1, 1) := by decide +kernel
theorem dX10_pair_19 : decode cX10_pair 19 = .ok (.iload_n 2, 1) := by decide +kernel
theorem dX10_pair_20 : decode cX10_pair 20 = .ok (.if_icmp .eq 16, 3) := by decide +kernel
theorem dX10_pair_23 : decode cX10_pair 23 = .ok (.iload_n 3, 1) := by decide +kernel
theorem dX10_pair_24 : decode cX10_pair 24 = .ok (.sipush (-2000), 3) := by decide +kernel
theorem dX10_pair_27 : decode cX10_pair 27 = .ok (.sipush 2000, 3) := by decide +kernel
theorem dX10_pair_30 : decode cX10_pair 30 = .ok (.invokestatic 89, 3) := by decide +kernel
theorem dX10_pair_33 : decode cX10_pair 33 = .ok (.ifCond .ne 6, 3) := by decide +kernel
theorem dX10_pair_36 : decode cX10_pair 36 = .ok (.bipush (-2), 2) := by decide +kernel
theorem dX10_pair_38 : decode cX10_pair 38 = .ok (.ireturn, 1) := by decide +kernel
theorem dX10_pair_39 : decode cX10_pair 39 = .ok (.aload_n 0, 1) := by decide +kernel
theorem dX10_pair_40 : decode cX10_pair 40 = .ok (.getfield 176, 3) := by decide +kernel
theorem dX10_pair_43 : decode cX10_pair 43 = .ok (.bipush 40, 2) := by decide +kernel
theorem dX10_pair_45 : decode cX10_pair 45 = .ok (.if_icmp .ne 6, 3) := by decide +kernel
theorem dX10_pair_48 : decode cX10_pair 48 = .ok (.bipush (-4), 2) := by decide +kernel
theorem dX10_pair_50 : decode cX10_pair 50 = .ok (.ireturn, 1) := by decide +kernel
theorem dX10_pair_51 : decode cX10_pair 51 = .ok (.aload_n 0, 1) := by decide +kernel
theorem dX10_pair_52 : decode cX10_pair 52 = .ok (.getfield 43, 3) := by decide +kernel
theorem dX10_pair_55 : decode cX10_pair 55 = .ok (.iconst 3, 1) := by decide +kernel
theorem dX10_pair_56 : decode cX10_pair 56 = .ok (.aload_n 0, 1) := by decide +kernel
theorem dX10_pair_57 : decode cX10_pair 57 = .ok (.getfield 176, 3) := by decide +kernel
theorem dX10_pair_60 : decode cX10_pair 60 = .ok (.imul, 1) := by decide +kernel
theorem dX10_pair_61 : decode cX10_pair 61 = .ok (.iload_n 1, 1) := by decide +kernel
theorem dX10_pair_62 : decode cX10_pair 62 = .ok (.iastore, 1) := by decide +kernel
theorem dX10_pair_63 : decode cX10_pair 63 = .ok (.aload_n 0, 1) := by decide +kernel
theorem dX10_pair_64 : decode cX10_pair 64 = .ok (.getfield 43, 3) := by decide +kernel
theorem dX10_pair_67 : decode cX10_pair 67 = .ok (.iconst 3, 1) := by decide +kernel
theorem dX10_pair_68 : decode cX10_pair 68 = .ok (.aload_n 0, 1) := by decide +kernel
theorem dX10_pair_69 : decode cX10_pair 69 = .ok (.getfield 176, 3) := by decide +kernel
theorem dX10_pair_72 : decode cX10_pair 72 = .ok (.imul, 1) := by decide +kernel
theorem dX10_pair_73 : decode cX10_pair 73 = .ok (.iconst 1, 1) := by decide +kernel
theorem dX10_pair_74 : decode cX10_pair 74 = .ok (.iadd, 1) := by decide +kernel
theorem dX10_pair_75 : decode cX10_pair 75 = .ok (.iload_n 2, 1) := by decide +kernel
theorem dX10_pair_76 : decode cX10_pair 76 = .ok (.iastore, 1) := by decide +kernel
theorem dX10_pair_77 : decode cX10_pair 77 = .ok (.aload_n 0, 1) := by decide +kernel
theorem dX10_pair_78 : decode cX10_pair 78 = .ok (.getfield 43, 3) := by decide +kernel
theorem dX10_pair_81 : decode cX10_pair 81 = .ok (.iconst 3, 1) := by decide +kernel
theorem dX10_pair_82 : decode cX10_pair 82 = .ok (.aload_n 0, 1) := by decide +kernel
theorem dX10_pair_83 : decode cX10_pair 83 = .ok (.getfield 176, 3) := by decide +kernel
theorem dX10_pair_86 : decode cX10_pair 86 = .ok (.imul, 1) := by decide +kernel
theorem dX10_pair_87 : decode cX10_pair 87 = .ok (.iconst 2, 1) := by decide +kernel
theorem dX10_pair_88 : decode cX10_pair 88 = .ok (.iadd, 1) := by decide +kernel
theorem dX10_pair_89 : decode cX10_pair 89 = .ok (.iload_n 3, 1) := by decide +kernel
theorem dX10_pair_90 : decode cX10_pair 90 = .ok (.iastore, 1) := by decide +kernel
theorem dX10_pair_91 : decode cX10_pair 91 = .ok (.aload_n 0, 1) := by decide +kernel
theorem dX10_pair_92 : decode cX10_pair 92 = .ok (.dup, 1) := by decide +kernel
theorem dX10_pair_93 : decode cX10_pair 93 = .ok (.getfield 176, 3) := by decide +kernel
theorem dX10_pair_96 : decode cX10_pair 96 = .ok (.iconst 1, 1) := by decide +kernel
theorem dX10_pair_97 : decode cX10_pair 97 = .ok (.iadd, 1) := by decide +kernel
theorem dX10_pair_98 : decode cX10_pair 98 = .ok (.putfield 176, 3) := by decide +kernel
theorem dX10_pair_101 : decode cX10_pair 101 = .ok (.aload_n 0, 1) := by decide +kernel
theorem dX10_pair_102 : decode cX10_pair 102 = .ok (.getfield 176, 3) := by decide +kernel
theorem dX10_pair_105 : decode cX10_pair 105 = .ok (.ireturn, 1) := by decide +kernel
set_option maxRecDepth 100000 in
def fX10_pair (x1 : Int32) (x2 : Int32) (x3 : Int32) (t_pairs : Int32) (t_pair_a : Nat → Int32) : Option (Int32 × Int32 × (Nat → Int32)) :=
  ob (fX10_in x1 0 5) fun r1 =>
  if (b2i r1) = 0 then
    some ((-2), t_pairs, t_pair_a)
  else
    ob (fX10_in x2 0 5) fun r4 =>
    if (b2i r4) = 0 then
      some ((-2), t_pairs, t_pair_a)
    else
      if x1 = x2 then
        some ((-2), t_pairs, t_pair_a)
      else
        ob (fX10_in x3 (-2000) 2000) fun r8 =>
        if (b2i r8) = 0 then
          some ((-2), t_pairs, t_pair_a)
        else
          if t_pairs = 40 then
            some ((-4), t_pairs, t_pair_a)
          else
            gd (bnd (3 * t_pairs) 120) <|
            bv (upd t_pair_a (Int32.toNatClampNeg (3 * t_pairs)) x1) fun a13 =>
            gd (bnd ((3 * t_pairs) + 1) 120) <|
            bv (upd a13 (Int32.toNatClampNeg ((3 * t_pairs) + 1)) x2) fun a15 =>
            gd (bnd ((3 * t_pairs) + 2) 120) <|
            bv (upd a15 (Int32.toNatClampNeg ((3 * t_pairs) + 2)) x3) fun a17 =>
            bv (t_pairs + 1) fun v18 =>
            some (v18, v18, a17)
abbrev rmX10_pair : Room := { frames := 1, cells := 0, slots := 0, locals := 22 }
theorem iwX10_pair_X10 : ∀ w ∈ u_ws RX10 TX10 36, w ∈ wsX10_pair := by decide +kernel
set_option maxHeartbeats 4000000 in
set_option maxRecDepth 100000 in
theorem k_X10_pair (l : Launch) (G : va_G) (cI cJ : ClassId) (t_h t_edges_h t_lean_h t_word_h t_layer_h t_least_h t_sight_h t_shadow_h t_spanLow_h t_spanHigh_h t_spanAt_h t_numbers_h t_pair_h t_most_h t_row_h t_under_h t_agreed_h : Nat) (sz : Nat) (t_baseWay : Int32) (t_slip : Int32) (t_low : Int32) (t_high : Int32) (t_unlike : Int32) (t_alone : Int32) (t_above : Int64) (t_below : Int64) (t_layers : Int32) (t_sights : Int32) (t_shadows : Int32) (t_endAbove : Int64) (t_endBelow : Int64) (t_speedAbove : Int64) (t_speedBelow : Int64) (t_spans : Int32) (t_found : Int32) (t_pairs : Int32) (t_rows : Int32) (t_notes : Int32) (t_pair_a : Nat → Int32) (x1 : Int32) (x2 : Int32) (x3 : Int32) {o_r : Int32} {o_t_pairs : Int32} {o_t_pair_a : Nat → Int32} (hf : fX10_pair x1 x2 x3 t_pairs t_pair_a = some (o_r, o_t_pairs, o_t_pair_a)) : MetI l yX10_pair wsX10_pair rmX10_pair [.ref t_h, .int x1, .int x2, .int x3] G cI cJ [(t_h, .inr (10, [.int t_baseWay, .int t_slip, .int t_low, .int t_high, .int t_unlike, .int t_alone, .long t_above, .long t_below, .ref t_edges_h, .ref t_lean_h, .ref t_word_h, .int t_layers, .ref t_layer_h, .ref t_least_h, .int t_sights, .ref t_sight_h, .int t_shadows, .ref t_shadow_h, .long t_endAbove, .long t_endBelow, .long t_speedAbove, .long t_speedBelow, .int t_spans, .ref t_spanLow_h, .ref t_spanHigh_h, .ref t_spanAt_h, .int t_found, .ref t_numbers_h, .int t_pairs, .ref t_pair_h, .ref t_most_h, .int t_rows, .ref t_row_h, .int t_notes, .ref t_under_h, .ref t_agreed_h])), (t_pair_h, .inl (cI, 120, .inl t_pair_a))] [(t_h, .inr (10, [.int t_baseWay, .int t_slip, .int t_low, .int t_high, .int t_unlike, .int t_alone, .long t_above, .long t_below, .ref t_edges_h, .ref t_lean_h, .ref t_word_h, .int t_layers, .ref t_layer_h, .ref t_least_h, .int t_sights, .ref t_sight_h, .int t_shadows, .ref t_shadow_h, .long t_endAbove, .long t_endBelow, .long t_speedAbove, .long t_speedBelow, .int t_spans, .ref t_spanLow_h, .ref t_spanHigh_h, .ref t_spanAt_h, .int t_found, .ref t_numbers_h, .int o_t_pairs, .ref t_pair_h, .ref t_most_h, .int t_rows, .ref t_row_h, .int t_notes, .ref t_under_h, .ref t_agreed_h])), (t_pair_h, .inl (cI, 120, .inl o_t_pair_a))] sz o_r := by
  refine en_0 (l := l) (y := yX10_pair) (wsl := wsX10_pair) (rm := rmX10_pair) (av := [.ref t_h, .int x1, .int x2, .int x3]) (G := G) (cI := cI) (cJ := cJ) (w0 := [(t_h, .inr (10, [.int t_baseWay, .int t_slip, .int t_low, .int t_high, .int t_unlike, .int t_alone, .long t_above, .long t_below, .ref t_edges_h, .ref t_lean_h, .ref t_word_h, .int t_layers, .ref t_layer_h, .ref t_least_h, .int t_sights, .ref t_sight_h, .int t_shadows, .ref t_shadow_h, .long t_endAbove, .long t_endBelow, .long t_speedAbove, .long t_speedBelow, .int t_spans, .ref t_spanLow_h, .ref t_spanHigh_h, .ref t_spanAt_h, .int t_found, .ref t_numbers_h, .int t_pairs, .ref t_pair_h, .ref t_most_h, .int t_rows, .ref t_row_h, .int t_notes, .ref t_under_h, .ref t_agreed_h])), (t_pair_h, .inl (cI, 120, .inl t_pair_a))]) (sz := sz) (Qf := fun A => Qi0 G cI cJ [(t_h, .inr (10, [.int t_baseWay, .int t_slip, .int t_low, .int t_high, .int t_unlike, .int t_alone, .long t_above, .long t_below, .ref t_edges_h, .ref t_lean_h, .ref t_word_h, .int t_layers, .ref t_layer_h, .ref t_least_h, .int t_sights, .ref t_sight_h, .int t_shadows, .ref t_shadow_h, .long t_endAbove, .long t_endBelow, .long t_speedAbove, .long t_speedBelow, .int t_spans, .ref t_spanLow_h, .ref t_spanHigh_h, .ref t_spanAt_h, .int t_found, .ref t_numbers_h, .int o_t_pairs, .ref t_pair_h, .ref t_most_h, .int t_rows, .ref t_row_h, .int t_notes, .ref t_under_h, .ref t_agreed_h])), (t_pair_h, .inl (cI, 120, .inl o_t_pair_a))] o_r A) (cc := cX10_pair) (maxL := 4) (ret := (some .int)) RX10 (by decide +kernel) rfl rfl (Nat.le_of_ble_eq_true rfl) ?_
  intro p e s m args below meth c A ls Q hQ hx hb hr hts hown hlocks hml hN hK hP hD hS hA hl
  have hl : lv_has ls 4 [(0, .ref t_h), (1, .int x1), (2, .int x2), (3, .int x3)] := hl
  have iwX10 := iwX10_pair_X10
  have fl_43 := hts (.fieldLink RX10 43 "CloudOfficeModel" "pair" "[I") (by decide +kernel)
  have fl_176 := hts (.fieldLink RX10 176 "CloudOfficeModel" "pairs" "I") (by decide +kernel)
  have hret : ∀ (o_r9 : Int32) (o_t_pairs9 : Int32) (o_t_pair_a9 : Nat → Int32) (pc : Nat) (H : Heap) (locs : List Loc) (ls : Array Slot), decode cX10_pair pc = .ok (.ireturn, 1) → some (o_r9, o_t_pairs9, o_t_pair_a9) = some (o_r, o_t_pairs, o_t_pair_a) → va_P G vwCl [(t_h, .inr (10, [.int t_baseWay, .int t_slip, .int t_low, .int t_high, .int t_unlike, .int t_alone, .long t_above, .long t_below, .ref t_edges_h, .ref t_lean_h, .ref t_word_h, .int t_layers, .ref t_layer_h, .ref t_least_h, .int t_sights, .ref t_sight_h, .int t_shadows, .ref t_shadow_h, .long t_endAbove, .long t_endBelow, .long t_speedAbove, .long t_speedBelow, .int t_spans, .ref t_spanLow_h, .ref t_spanHigh_h, .ref t_spanAt_h, .int t_found, .ref t_numbers_h, .int o_t_pairs9, .ref t_pair_h, .ref t_most_h, .int t_rows, .ref t_row_h, .int t_notes, .ref t_under_h, .ref t_agreed_h])), (t_pair_h, .inl (cI, 120, .inl o_t_pair_a9))] H → va_D A [(t_h, .inr (10, [.int t_baseWay, .int t_slip, .int t_low, .int t_high, .int t_unlike, .int t_alone, .long t_above, .long t_below, .ref t_edges_h, .ref t_lean_h, .ref t_word_h, .int t_layers, .ref t_layer_h, .ref t_least_h, .int t_sights, .ref t_sight_h, .int t_shadows, .ref t_shadow_h, .long t_endAbove, .long t_endBelow, .long t_speedAbove, .long t_speedBelow, .int t_spans, .ref t_spanLow_h, .ref t_spanHigh_h, .ref t_spanAt_h, .int t_found, .ref t_numbers_h, .int o_t_pairs9, .ref t_pair_h, .ref t_most_h, .int t_rows, .ref t_row_h, .int t_notes, .ref t_under_h, .ref t_agreed_h])), (t_pair_h, .inl (cI, 120, .inl o_t_pair_a9))] → va_S A s.heap H locs → W p l e rmX10_pair s m args below meth c H locs 0 0 Q (F0 m pc ls [.int o_r9]) := by
    intro o_r9 o_t_pairs9 o_t_pair_a9 pc H locs ls hdg he hP hD hS
    cases he
    subst hQ
    exact rt_i hx hb hr hlocks hK hP hD hS rfl hdg
  clear hQ
  unfold fX10_pair at hf
  refine lv_iload_n hx hb dX10_pair_0 rfl (lv_at hl 1 rfl) ?_
  refine lv_iconst (v := 0) hx hb dX10_pair_1 (by decide) ?_
  refine lv_iconst (v := 5) hx hb dX10_pair_2 (by decide) ?_
  obtain ⟨r1, hc2, hf⟩ := ob_some hf
  refine af_iR (va_runS (As := [.int x1, .int 0, .int 5]) (rest := []) ⟨hx, hb, hml, hown, hts⟩ (k_X10_in l G cI cJ (x0 := x1) (x1 := 0) (x2 := 5) (sz := _) (hf := hc2)) (va_cwS 3 hts gX10_pair_X10_in rfl rfl rfl (by decide +kernel) ⟨Nat.le_of_ble_eq_true rfl, Nat.le_of_ble_eq_true rfl⟩) (preS0 (wc := []) hK hP hD hN [] rfl rfl (by decide)) rfl rfl hl.1 rfl (lv_room (Nat.le_of_ble_eq_true rfl)) dX10_pair_3 ⟨Nat.zero_le _, Nat.zero_le _⟩) hP hD hS hA [] rfl (fun H locs hP hS => ?_)
  refine lv_if_eq (tgt := 36) hx hb dX10_pair_6 (by decide) (fun c3 => ?_) (fun c3 => ?_)
  · have hf := ift hf c3
    refine lv_bipush (v := (-2)) hx hb dX10_pair_36 (by decide) ?_
    exact hret (-2) t_pairs t_pair_a 38 _ _ _ dX10_pair_38 hf hP hD hS
  · have hf := iff_ hf c3
    refine lv_iload_n hx hb dX10_pair_9 rfl (lv_at hl 2 rfl) ?_
    refine lv_iconst (v := 0) hx hb dX10_pair_10 (by decide) ?_
    refine lv_iconst (v := 5) hx hb dX10_pair_11 (by decide) ?_
    obtain ⟨r4, hc5, hf⟩ := ob_some hf
    refine af_iR (va_runS (As := [.int x2, .int 0, .int 5]) (rest := []) ⟨hx, hb, hml, hown, hts⟩ (k_X10_in l G cI cJ (x0 := x2) (x1 := 0) (x2 := 5) (sz := _) (hf := hc5)) (va_cwS 3 hts gX10_pair_X10_in rfl rfl rfl (by decide +kernel) ⟨Nat.le_of_ble_eq_true rfl, Nat.le_of_ble_eq_true rfl⟩) (preS0 (wc := []) hK hP hD hN [] rfl rfl (by decide)) rfl rfl hl.1 rfl (lv_room (Nat.le_of_ble_eq_true rfl)) dX10_pair_12 ⟨Nat.zero_le _, Nat.zero_le _⟩) hP hD hS hA [] rfl (fun H locs hP hS => ?_)
    refine lv_if_eq (tgt := 36) hx hb dX10_pair_15 (by decide) (fun c6 => ?_) (fun c6 => ?_)
    · have hf := ift hf c6
      refine lv_bipush (v := (-2)) hx hb dX10_pair_36 (by decide) ?_
      exact hret (-2) t_pairs t_pair_a 38 _ _ _ dX10_pair_38 hf hP hD hS
    · have hf := iff_ hf c6
      refine lv_iload_n hx hb dX10_pair_18 rfl (lv_at hl 1 rfl) ?_
      refine lv_iload_n hx hb dX10_pair_19 rfl (lv_at hl 2 rfl) ?_
      refine lv_icmp_eq (tgt := 36) hx hb dX10_pair_20 (by decide) (fun c7 => ?_) (fun c7 => ?_)
      · have hf := ift hf c7
        refine lv_bipush (v := (-2)) hx hb dX10_pair_36 (by decide) ?_
        exact hret (-2) t_pairs t_pair_a 38 _ _ _ dX10_pair_38 hf hP hD hS
      · have hf := iff_ hf c7
        refine lv_iload_n hx hb dX10_pair_23 rfl (lv_at hl 3 rfl) ?_
        refine lv_sipush (v := (-2000)) hx hb dX10_pair_24 (by decide) ?_
        refine lv_sipush (v := 2000) hx hb dX10_pair_27 (by decide) ?_
        obtain ⟨r8, hc9, hf⟩ := ob_some hf
        refine af_iR (va_runS (As := [.int x3, .int (-2000), .int 2000]) (rest := []) ⟨hx, hb, hml, hown, hts⟩ (k_X10_in l G cI cJ (x0 := x3) (x1 := (-2000)) (x2 := 2000) (sz := _) (hf := hc9)) (va_cwS 3 hts gX10_pair_X10_in rfl rfl rfl (by decide +kernel) ⟨Nat.le_of_ble_eq_true rfl, Nat.le_of_ble_eq_true rfl⟩) (preS0 (wc := []) hK hP hD hN [] rfl rfl (by decide)) rfl rfl hl.1 rfl (lv_room (Nat.le_of_ble_eq_true rfl)) dX10_pair_30 ⟨Nat.zero_le _, Nat.zero_le _⟩) hP hD hS hA [] rfl (fun H locs hP hS => ?_)
        refine lv_if_ne (tgt := 39) hx hb dX10_pair_33 (by decide) (fun c10 => ?_) (fun c10 => ?_)
        · have hf := iff_ hf c10
          refine lv_aload_n hx hb dX10_pair_39 rfl (lv_at hl 0 rfl) ?_
          refine va_get (D := G) (ci := 10) (v := .int t_pairs) (C := RX10) (T := TX10) (N := 36) hx hb hts iwX10 hown hK hP 0 rfl rfl 28 (by decide) fl_176 (fun _ h9 => h9) rfl dX10_pair_40 ?_
          refine lv_bipush (v := 40) hx hb dX10_pair_43 (by decide) ?_
          refine lv_icmp_ne (tgt := 51) hx hb dX10_pair_45 (by decide) (fun c11 => ?_) (fun c11 => ?_)
          · have hf := iff_ hf c11
            refine lv_aload_n hx hb dX10_pair_51 rfl (lv_at hl 0 rfl) ?_
            refine va_get (D := G) (ci := 10) (v := .ref t_pair_h) (C := RX10) (T := TX10) (N := 36) hx hb hts iwX10 hown hK hP 0 rfl rfl 29 (by decide) fl_43 (fun _ h9 => h9) rfl dX10_pair_52 ?_
            refine lv_iconst (v := 3) hx hb dX10_pair_55 (by decide) ?_
            refine lv_aload_n hx hb dX10_pair_56 rfl (lv_at hl 0 rfl) ?_
            refine va_get (D := G) (ci := 10) (v := .int t_pairs) (C := RX10) (T := TX10) (N := 36) hx hb hts iwX10 hown hK hP 0 rfl rfl 28 (by decide) fl_176 (fun _ h9 => h9) rfl dX10_pair_57 ?_
            refine lv_imul hx hb dX10_pair_60 ?_
            refine lv_iload_n hx hb dX10_pair_61 rfl (lv_at hl 1 rfl) ?_
            obtain ⟨h12, hf⟩ := gd_some hf
            obtain ⟨a13, ea13⟩ : ∃ y : Nat → Int32, y = upd t_pair_a (Int32.toNatClampNeg (3 * t_pairs)) x1 := ⟨_, rfl⟩
            have hf := bv_at ea13 hf
            refine va_iast hx hb hK hP hD hS 1 0 rfl rfl (bnd_in h12) dX10_pair_62 (fun H locs hP hD hS => ?_)
            have hP : va_P G vwCl [(t_h, .inr (10, [.int t_baseWay, .int t_slip, .int t_low, .int t_high, .int t_unlike, .int t_alone, .long t_above, .long t_below, .ref t_edges_h, .ref t_lean_h, .ref t_word_h, .int t_layers, .ref t_layer_h, .ref t_least_h, .int t_sights, .ref t_sight_h, .int t_shadows, .ref t_shadow_h, .long t_endAbove, .long t_endBelow, .long t_speedAbove, .long t_speedBelow, .int t_spans, .ref t_spanLow_h, .ref t_spanHigh_h, .ref t_spanAt_h, .int t_found, .ref t_numbers_h, .int t_pairs, .ref t_pair_h, .ref t_most_h, .int t_rows, .ref t_row_h, .int t_notes, .ref t_under_h, .ref t_agreed_h])), (t_pair_h, .inl (cI, 120, .inl a13))] H := by rw [ea13]; exact hP
            have hD : va_D A [(t_h, .inr (10, [.int t_baseWay, .int t_slip, .int t_low, .int t_high, .int t_unlike, .int t_alone, .long t_above, .long t_below, .ref t_edges_h, .ref t_lean_h, .ref t_word_h, .int t_layers, .ref t_layer_h, .ref t_least_h, .int t_sights, .ref t_sight_h, .int t_shadows, .ref t_shadow_h, .long t_endAbove, .long t_endBelow, .long t_speedAbove, .long t_speedBelow, .int t_spans, .ref t_spanLow_h, .ref t_spanHigh_h, .ref t_spanAt_h, .int t_found, .ref t_numbers_h, .int t_pairs, .ref t_pair_h, .ref t_most_h, .int t_rows, .ref t_row_h, .int t_notes, .ref t_under_h, .ref t_agreed_h])), (t_pair_h, .inl (cI, 120, .inl a13))] := by rw [ea13]; exact hD
            refine lv_aload_n hx hb dX10_pair_63 rfl (lv_at hl 0 rfl) ?_
            refine va_get (D := G) (ci := 10) (v := .ref t_pair_h) (C := RX10) (T := TX10) (N := 36) hx hb hts iwX10 hown hK hP 0 rfl rfl 29 (by decide) fl_43 (fun _ h9 => h9) rfl dX10_pair_64 ?_
            refine lv_iconst (v := 3) hx hb dX10_pair_67 (by decide) ?_
            refine lv_aload_n hx hb dX10_pair_68 rfl (lv_at hl 0 rfl) ?_
            refine va_get (D := G) (ci := 10) (v := .int t_pairs) (C := RX10) (T := TX10) (N := 36) hx hb hts iwX10 hown hK hP 0 rfl rfl 28 (by decide) fl_176 (fun _ h9 => h9) rfl dX10_pair_69 ?_
            refine lv_imul hx hb dX10_pair_72 ?_
            refine lv_iconst (v := 1) hx hb dX10_pair_73 (by decide) ?_
            refine lv_iadd hx hb dX10_pair_74 ?_
            refine lv_iload_n hx hb dX10_pair_75 rfl (lv_at hl 2 rfl) ?_
            obtain ⟨h14, hf⟩ := gd_some hf
            obtain ⟨a15, ea15⟩ : ∃ y : Nat → Int32, y = upd a13 (Int32.toNatClampNeg ((3 * t_pairs) + 1)) x2 := ⟨_, rfl⟩
            have hf := bv_at ea15 hf
            refine va_iast hx hb hK hP hD hS 1 0 rfl rfl (bnd_in h14) dX10_pair_76 (fun H locs hP hD hS => ?_)
            have hP : va_P G vwCl [(t_h, .inr (10, [.int t_baseWay, .int t_slip, .int t_low, .int t_high, .int t_unlike, .int t_alone, .long t_above, .long t_below, .ref t_edges_h, .ref t_lean_h, .ref t_word_h, .int t_layers, .ref t_layer_h, .ref t_least_h, .int t_sights, .ref t_sight_h, .int t_shadows, .ref t_shadow_h, .long t_endAbove, .long t_endBelow, .long t_speedAbove, .long t_speedBelow, .int t_spans, .ref t_spanLow_h, .ref t_spanHigh_h, .ref t_spanAt_h, .int t_found, .ref t_numbers_h, .int t_pairs, .ref t_pair_h, .ref t_most_h, .int t_rows, .ref t_row_h, .int t_notes, .ref t_under_h, .ref t_agreed_h])), (t_pair_h, .inl (cI, 120, .inl a15))] H := by rw [ea15]; exact hP
            have hD : va_D A [(t_h, .inr (10, [.int t_baseWay, .int t_slip, .int t_low, .int t_high, .int t_unlike, .int t_alone, .long t_above, .long t_below, .ref t_edges_h, .ref t_lean_h, .ref t_word_h, .int t_layers, .ref t_layer_h, .ref t_least_h, .int t_sights, .ref t_sight_h, .int t_shadows, .ref t_shadow_h, .long t_endAbove, .long t_endBelow, .long t_speedAbove, .long t_speedBelow, .int t_spans, .ref t_spanLow_h, .ref t_spanHigh_h, .ref t_spanAt_h, .int t_found, .ref t_numbers_h, .int t_pairs, .ref t_pair_h, .ref t_most_h, .int t_rows, .ref t_row_h, .int t_notes, .ref t_under_h, .ref t_agreed_h])), (t_pair_h, .inl (cI, 120, .inl a15))] := by rw [ea15]; exact hD
            refine lv_aload_n hx hb dX10_pair_77 rfl (lv_at hl 0 rfl) ?_
            refine va_get (D := G) (ci := 10) (v := .ref t_pair_h) (C := RX10) (T := TX10) (N := 36) hx hb hts iwX10 hown hK hP 0 rfl rfl 29 (by decide) fl_43 (fun _ h9 => h9) rfl dX10_pair_78 ?_
            refine lv_iconst (v := 3) hx hb dX10_pair_81 (by decide) ?_
            refine lv_aload_n hx hb dX10_pair_82 rfl (lv_at hl 0 rfl) ?_
            refine va_get (D := G) (ci := 10) (v := .int t_pairs) (C := RX10) (T := TX10) (N := 36) hx hb hts iwX10 hown hK hP 0 rfl rfl 28 (by decide) fl_176 (fun _ h9 => h9) rfl dX10_pair_83 ?_
            refine lv_imul hx hb dX10_pair_86 ?_
            refine lv_iconst (v := 2) hx hb dX10_pair_87 (by decide) ?_
            refine lv_iadd hx hb dX10_pair_88 ?_
            refine lv_iload_n hx hb dX10_pair_89 rfl (lv_at hl 3 rfl) ?_
            obtain ⟨h16, hf⟩ := gd_some hf
            obtain ⟨a17, ea17⟩ : ∃ y : Nat → Int32, y = upd a15 (Int32.toNatClampNeg ((3 * t_pairs) + 2)) x3 := ⟨_, rfl⟩
            have hf := bv_at ea17 hf
            refine va_iast hx hb hK hP hD hS 1 0 rfl rfl (bnd_in h16) dX10_pair_90 (fun H locs hP hD hS => ?_)
            have hP : va_P G vwCl [(t_h, .inr (10, [.int t_baseWay, .int t_slip, .int t_low, .int t_high, .int t_unlike, .int t_alone, .long t_above, .long t_below, .ref t_edges_h, .ref t_lean_h, .ref t_word_h, .int t_layers, .ref t_layer_h, .ref t_least_h, .int t_sights, .ref t_sight_h, .int t_shadows, .ref t_shadow_h, .long t_endAbove, .long t_endBelow, .long t_speedAbove, .long t_speedBelow, .int t_spans, .ref t_spanLow_h, .ref t_spanHigh_h, .ref t_spanAt_h, .int t_found, .ref t_numbers_h, .int t_pairs, .ref t_pair_h, .ref t_most_h, .int t_rows, .ref t_row_h, .int t_notes, .ref t_under_h, .ref t_agreed_h])), (t_pair_h, .inl (cI, 120, .inl a17))] H := by rw [ea17]; exact hP
            have hD : va_D A [(t_h, .inr (10, [.int t_baseWay, .int t_slip, .int t_low, .int t_high, .int t_unlike, .int t_alone, .long t_above, .long t_below, .ref t_edges_h, .ref t_lean_h, .ref t_word_h, .int t_layers, .ref t_layer_h, .ref t_least_h, .int t_sights, .ref t_sight_h, .int t_shadows, .ref t_shadow_h, .long t_endAbove, .long t_endBelow, .long t_speedAbove, .long t_speedBelow, .int t_spans, .ref t_spanLow_h, .ref t_spanHigh_h, .ref t_spanAt_h, .int t_found, .ref t_numbers_h, .int t_pairs, .ref t_pair_h, .ref t_most_h, .int t_rows, .ref t_row_h, .int t_notes, .ref t_under_h, .ref t_agreed_h])), (t_pair_h, .inl (cI, 120, .inl a17))] := by rw [ea17]; exact hD
            refine lv_aload_n hx hb dX10_pair_91 rfl (lv_at hl 0 rfl) ?_
            refine lv_dup hx hb dX10_pair_92 rfl ?_
            refine va_get (D := G) (ci := 10) (v := .int t_pairs) (C := RX10) (T := TX10) (N := 36) hx hb hts iwX10 hown hK hP 0 rfl rfl 28 (by decide) fl_176 (fun _ h9 => h9) rfl dX10_pair_93 ?_
            refine lv_iconst (v := 1) hx hb dX10_pair_96 (by decide) ?_
            refine lv_iadd hx hb dX10_pair_97 ?_
            refine lv_topi (fun v18 ev18 => ?_)
            have hf := bv_at ev18 hf
            refine va_put (D := G) (ci := 10) (v := .int v18) (ty := .int) (C := RX10) (T := TX10) (N := 36) hx hb hts iwX10 tyX10 tyX10_ok nmX10 hown hK hP hD hS 0 rfl rfl 28 (by decide) fl_176 (fun _ h9 => h9) rfl (by decide +kernel) rfl rfl (Nat.le_of_ble_eq_true rfl) dX10_pair_98 (fun H locs hP hD hS => ?_)
            have hP : va_P G vwCl [(t_h, .inr (10, [.int t_baseWay, .int t_slip, .int t_low, .int t_high, .int t_unlike, .int t_alone, .long t_above, .long t_below, .ref t_edges_h, .ref t_lean_h, .ref t_word_h, .int t_layers, .ref t_layer_h, .ref t_least_h, .int t_sights, .ref t_sight_h, .int t_shadows, .ref t_shadow_h, .long t_endAbove, .long t_endBelow, .long t_speedAbove, .long t_speedBelow, .int t_spans, .ref t_spanLow_h, .ref t_spanHigh_h, .ref t_spanAt_h, .int t_found, .ref t_numbers_h, .int v18, .ref t_pair_h, .ref t_most_h, .int t_rows, .ref t_row_h, .int t_notes, .ref t_under_h, .ref t_agreed_h])), (t_pair_h, .inl (cI, 120, .inl a17))] H := hP
            have hD : va_D A [(t_h, .inr (10, [.int t_baseWay, .int t_slip, .int t_low, .int t_high, .int t_unlike, .int t_alone, .long t_above, .long t_below, .ref t_edges_h, .ref t_lean_h, .ref t_word_h, .int t_layers, .ref t_layer_h, .ref t_least_h, .int t_sights, .ref t_sight_h, .int t_shadows, .ref t_shadow_h, .long t_endAbove, .long t_endBelow, .long t_speedAbove, .long t_speedBelow, .int t_spans, .ref t_spanLow_h, .ref t_spanHigh_h, .ref t_spanAt_h, .int t_found, .ref t_numbers_h, .int v18, .ref t_pair_h, .ref t_most_h, .int t_rows, .ref t_row_h, .int t_notes, .ref t_under_h, .ref t_agreed_h])), (t_pair_h, .inl (cI, 120, .inl a17))] := hD
            refine lv_aload_n hx hb dX10_pair_101 rfl (lv_at hl 0 rfl) ?_
            refine va_get (D := G) (ci := 10) (v := .int v18) (C := RX10) (T := TX10) (N := 36) hx hb hts iwX10 hown hK hP 0 rfl rfl 28 (by decide) fl_176 (fun _ h9 => h9) rfl dX10_pair_102 ?_
            exact hret v18 v18 a17 105 _ _ _ dX10_pair_105 hf hP hD hS
          · have hf := ift hf c11
            refine lv_bipush (v := (-4)) hx hb dX10_pair_48 (by decide) ?_
            exact hret (-4) t_pairs t_pair_a 50 _ _ _ dX10_pair_50 hf hP hD hS
        · have hf := ift hf c10
          refine lv_bipush (v := (-2)) hx hb dX10_pair_36 (by decide) ?_
          exact hret (-2) t_pairs t_pair_a 38 _ _ _ dX10_pair_38 hf hP hD hS
theorem dX10_paired_0 : decode cX10_paired 0 = .ok (.iconst 0, 1) := by decide +kernel
theorem dX10_paired_1 : decode cX10_paired 1 = .ok (.istore_n 1, 1) := by decide +kernel
theorem dX10_paired_2 : decode cX10_paired 2 = .ok (.iconst 0, 1) := by decide +kernel
theorem dX10_paired_3 : decode cX10_paired 3 = .ok (.istore_n 2, 1) := by decide +kernel
theorem dX10_paired_4 : decode cX10_paired 4 = .ok (.iload_n 2, 1) := by decide +kernel
theorem dX10_paired_5 : decode cX10_paired 5 = .ok (.aload_n 0, 1) := by decide +kernel
theorem dX10_paired_6 : decode cX10_paired 6 = .ok (.getfield 176, 3) := by decide +kernel
theorem dX10_paired_9 : decode cX10_paired 9 = .ok (.if_icmp .ge 35, 3) := by decide +kernel
theorem dX10_paired_12 : decode cX10_paired 12 = .ok (.iload_n 1, 1) := by decide +kernel
theorem dX10_paired_13 : decode cX10_paired 13 = .ok (.iconst 1, 1) := by decide +kernel
theorem dX10_paired_14 : decode cX10_paired 14 = .ok (.aload_n 0, 1) := by decide +kernel
theorem dX10_paired_15 : decode cX10_paired 15 = .ok (.getfield 43, 3) := by decide +kernel
theorem dX10_paired_18 : decode cX10_paired 18 = .ok (.iconst 3, 1) := by decide +kernel
theorem dX10_paired_19 : decode cX10_paired 19 = .ok (.iload_n 2, 1) := by decide +kernel
theorem dX10_paired_20 : decode cX10_paired 20 = .ok (.imul, 1) := by decide +kernel
theorem dX10_paired_21 : decode cX10_paired 21 = .ok (.iaload, 1) := by decide +kernel
theorem dX10_paired_22 : decode cX10_paired 22 = .ok (.ishl, 1) := by decide +kernel
theorem dX10_paired_23 : decode cX10_paired 23 = .ok (.iconst 1, 1) := by decide +kernel
theorem dX10_paired_24 : decode cX10_paired 24 = .ok (.aload_n 0, 1) := by decide +kernel
theorem dX10_paired_25 : decode cX10_paired 25 = .ok (.getfield 43, 3) := by decide +kernel
theorem dX10_paired_28 : decode cX10_paired 28 = .ok (.iconst 3, 1) := by decide +kernel
theorem dX10_paired_29 : decode cX10_paired 29 = .ok (.iload_n 2, 1) := by decide +kernel
theorem dX10_paired_30 : decode cX10_paired 30 = .ok (.imul, 1) := by decide +kernel
theorem dX10_paired_31 : decode cX10_paired 31 = .ok (.iconst 1, 1) := by decide +kernel
theorem dX10_paired_32 : decode cX10_paired 32 = .ok (.iadd, 1) := by decide +kernel
theorem dX10_paired_33 : decode cX10_paired 33 = .ok (.iaload, 1) := by decide +kernel
theorem dX10_paired_34 : decode cX10_paired 34 = .ok (.ishl, 1) := by decide +kernel
theorem dX10_paired_35 : decode cX10_paired 35 = .ok (.ior, 1) := by decide +kernel
theorem dX10_paired_36 : decode cX10_paired 36 = .ok (.ior, 1) := by decide +kernel
theorem dX10_paired_37 : decode cX10_paired 37 = .ok (.istore_n 1, 1) := by decide +kernel
theorem dX10_paired_38 : decode cX10_paired 38 = .ok (.iinc 2 1, 3) := by decide +kernel
theorem dX10_paired_41 : decode cX10_paired 41 = .ok (.goto (-37), 3) := by decide +kernel
theorem dX10_paired_44 : decode cX10_paired 44 = .ok (.iload_n 1, 1) := by decide +kernel
theorem dX10_paired_45 : decode cX10_paired 45 = .ok (.ireturn, 1) := by decide +kernel
set_option maxRecDepth 100000 in
def fX10_paired_L1 (t_pairs : Int32) (t_pair_a : Nat → Int32) : (Int32 × Int32) → Option ((Int32) ⊕ (Int32 × Int32)) := un2 fun (u1 : Int32) (u2 : Int32) =>
  if t_pairs ≤ u2 then
    some (.inl u1)
  else
    gd (bnd (3 * u2) 120) <|
    gd (bnd ((3 * u2) + 1) 120) <|
    bv (u1 ||| (((1 : Int32) <<< ((t_pair_a (Int32.toNatClampNeg (3 * u2))) &&& 31)) ||| ((1 : Int32) <<< ((t_pair_a (Int32.toNatClampNeg ((3 * u2) + 1))) &&& 31)))) fun v6 =>
    bv (u2 + 1) fun v7 =>
    some (.inr (v6, v7))
set_option maxRecDepth 100000 in
def fX10_paired (t_pairs : Int32) (t_pair_a : Nat → Int32) : Option (Int32) :=
  ob (it (fX10_paired_L1 t_pairs t_pair_a) 100000 (0, 0)) fun x8 =>
  some x8
abbrev rmX10_paired : Room := { frames := 0, cells := 0, slots := 0, locals := 0 }
theorem iwX10_paired_X10 : ∀ w ∈ u_ws RX10 TX10 36, w ∈ wsX10_paired := by decide +kernel
set_option maxHeartbeats 4000000 in
set_option maxRecDepth 100000 in
theorem k_X10_paired (l : Launch) (G : va_G) (cI cJ : ClassId) (t_h t_edges_h t_lean_h t_word_h t_layer_h t_least_h t_sight_h t_shadow_h t_spanLow_h t_spanHigh_h t_spanAt_h t_numbers_h t_pair_h t_most_h t_row_h t_under_h t_agreed_h : Nat) (sz : Nat) (t_baseWay : Int32) (t_slip : Int32) (t_low : Int32) (t_high : Int32) (t_unlike : Int32) (t_alone : Int32) (t_above : Int64) (t_below : Int64) (t_layers : Int32) (t_sights : Int32) (t_shadows : Int32) (t_endAbove : Int64) (t_endBelow : Int64) (t_speedAbove : Int64) (t_speedBelow : Int64) (t_spans : Int32) (t_found : Int32) (t_pairs : Int32) (t_rows : Int32) (t_notes : Int32) (t_pair_a : Nat → Int32) {o_r : Int32} (hf : fX10_paired t_pairs t_pair_a = some o_r) : MetI l yX10_paired wsX10_paired rmX10_paired [.ref t_h] G cI cJ [(t_h, .inr (10, [.int t_baseWay, .int t_slip, .int t_low, .int t_high, .int t_unlike, .int t_alone, .long t_above, .long t_below, .ref t_edges_h, .ref t_lean_h, .ref t_word_h, .int t_layers, .ref t_layer_h, .ref t_least_h, .int t_sights, .ref t_sight_h, .int t_shadows, .ref t_shadow_h, .long t_endAbove, .long t_endBelow, .long t_speedAbove, .long t_speedBelow, .int t_spans, .ref t_spanLow_h, .ref t_spanHigh_h, .ref t_spanAt_h, .int t_found, .ref t_numbers_h, .int t_pairs, .ref t_pair_h, .ref t_most_h, .int t_rows, .ref t_row_h, .int t_notes, .ref t_under_h, .ref t_agreed_h])), (t_pair_h, .inl (cI, 120, .inl t_pair_a))] [(t_h, .inr (10, [.int t_baseWay, .int t_slip, .int t_low, .int t_high, .int t_unlike, .int t_alone, .long t_above, .long t_below, .ref t_edges_h, .ref t_lean_h, .ref t_word_h, .int t_layers, .ref t_layer_h, .ref t_least_h, .int t_sights, .ref t_sight_h, .int t_shadows, .ref t_shadow_h, .long t_endAbove, .long t_endBelow, .long t_speedAbove, .long t_speedBelow, .int t_spans, .ref t_spanLow_h, .ref t_spanHigh_h, .ref t_spanAt_h, .int t_found, .ref t_numbers_h, .int t_pairs, .ref t_pair_h, .ref t_most_h, .int t_rows, .ref t_row_h, .int t_notes, .ref t_under_h, .ref t_agreed_h])), (t_pair_h, .inl (cI, 120, .inl t_pair_a))] sz o_r := by
  refine en_0 (l := l) (y := yX10_paired) (wsl := wsX10_paired) (rm := rmX10_paired) (av := [.ref t_h]) (G := G) (cI := cI) (cJ := cJ) (w0 := [(t_h, .inr (10, [.int t_baseWay, .int t_slip, .int t_low, .int t_high, .int t_unlike, .int t_alone, .long t_above, .long t_below, .ref t_edges_h, .ref t_lean_h, .ref t_word_h, .int t_layers, .ref t_layer_h, .ref t_least_h, .int t_sights, .ref t_sight_h, .int t_shadows, .ref t_shadow_h, .long t_endAbove, .long t_endBelow, .long t_speedAbove, .long t_speedBelow, .int t_spans, .ref t_spanLow_h, .ref t_spanHigh_h, .ref t_spanAt_h, .int t_found, .ref t_numbers_h, .int t_pairs, .ref t_pair_h, .ref t_most_h, .int t_rows, .ref t_row_h, .int t_notes, .ref t_under_h, .ref t_agreed_h])), (t_pair_h, .inl (cI, 120, .inl t_pair_a))]) (sz := sz) (Qf := fun A => Qi0 G cI cJ [(t_h, .inr (10, [.int t_baseWay, .int t_slip, .int t_low, .int t_high, .int t_unlike, .int t_alone, .long t_above, .long t_below, .ref t_edges_h, .ref t_lean_h, .ref t_word_h, .int t_layers, .ref t_layer_h, .ref t_least_h, .int t_sights, .ref t_sight_h, .int t_shadows, .ref t_shadow_h, .long t_endAbove, .long t_endBelow, .long t_speedAbove, .long t_speedBelow, .int t_spans, .ref t_spanLow_h, .ref t_spanHigh_h, .ref t_spanAt_h, .int t_found, .ref t_numbers_h, .int t_pairs, .ref t_pair_h, .ref t_most_h, .int t_rows, .ref t_row_h, .int t_notes, .ref t_under_h, .ref t_agreed_h])), (t_pair_h, .inl (cI, 120, .inl t_pair_a))] o_r A) (cc := cX10_paired) (maxL := 3) (ret := (some .int)) RX10 (by decide +kernel) rfl rfl (Nat.le_of_ble_eq_true rfl) ?_
  intro p e s m args below meth c A ls Q hQ hx hb hr hts hown hlocks hml hN hK hP hD hS hA hl
  have hl : lv_has ls 3 [(0, .ref t_h)] := hl
  have iwX10 := iwX10_paired_X10
  have fl_43 := hts (.fieldLink RX10 43 "CloudOfficeModel" "pair" "[I") (by decide +kernel)
  have fl_176 := hts (.fieldLink RX10 176 "CloudOfficeModel" "pairs" "I") (by decide +kernel)
  have hret : ∀ (o_r9 : Int32) (pc : Nat) (H : Heap) (locs : List Loc) (ls : Array Slot), decode cX10_paired pc = .ok (.ireturn, 1) → some o_r9 = some o_r → va_P G vwCl [(t_h, .inr (10, [.int t_baseWay, .int t_slip, .int t_low, .int t_high, .int t_unlike, .int t_alone, .long t_above, .long t_below, .ref t_edges_h, .ref t_lean_h, .ref t_word_h, .int t_layers, .ref t_layer_h, .ref t_least_h, .int t_sights, .ref t_sight_h, .int t_shadows, .ref t_shadow_h, .long t_endAbove, .long t_endBelow, .long t_speedAbove, .long t_speedBelow, .int t_spans, .ref t_spanLow_h, .ref t_spanHigh_h, .ref t_spanAt_h, .int t_found, .ref t_numbers_h, .int t_pairs, .ref t_pair_h, .ref t_most_h, .int t_rows, .ref t_row_h, .int t_notes, .ref t_under_h, .ref t_agreed_h])), (t_pair_h, .inl (cI, 120, .inl t_pair_a))] H → va_D A [(t_h, .inr (10, [.int t_baseWay, .int t_slip, .int t_low, .int t_high, .int t_unlike, .int t_alone, .long t_above, .long t_below, .ref t_edges_h, .ref t_lean_h, .ref t_word_h, .int t_layers, .ref t_layer_h, .ref t_least_h, .int t_sights, .ref t_sight_h, .int t_shadows, .ref t_shadow_h, .long t_endAbove, .long t_endBelow, .long t_speedAbove, .long t_speedBelow, .int t_spans, .ref t_spanLow_h, .ref t_spanHigh_h, .ref t_spanAt_h, .int t_found, .ref t_numbers_h, .int t_pairs, .ref t_pair_h, .ref t_most_h, .int t_rows, .ref t_row_h, .int t_notes, .ref t_under_h, .ref t_agreed_h])), (t_pair_h, .inl (cI, 120, .inl t_pair_a))] → va_S A s.heap H locs → W p l e rmX10_paired s m args below meth c H locs 0 0 Q (F0 m pc ls [.int o_r9]) := by
    intro o_r9 pc H locs ls hdg he hP hD hS
    cases he
    subst hQ
    exact rt_i hx hb hr hlocks hK hP hD hS rfl hdg
  clear hQ
  unfold fX10_paired at hf
  refine lv_iconst (v := 0) hx hb dX10_paired_0 (by decide) ?_
  refine lv_istore_n (lv' := [(1, .int 0), (0, .ref t_h)]) hx hb dX10_paired_1 rfl hl (by decide) rfl (fun ls hl => ?_)
  refine lv_iconst (v := 0) hx hb dX10_paired_2 (by decide) ?_
  refine lv_istore_n (lv' := [(2, .int 0), (1, .int 0), (0, .ref t_h)]) hx hb dX10_paired_3 rfl hl (by decide) rfl (fun ls hl => ?_)
  obtain ⟨x8, ht1, hf⟩ := ob_some hf
  have hx1_0 : ∀ (x89 : Int32), x89 = x8 → ∀ (H : Heap) (locs : List Loc) (ls : Array Slot), va_P G vwCl [(t_h, .inr (10, [.int t_baseWay, .int t_slip, .int t_low, .int t_high, .int t_unlike, .int t_alone, .long t_above, .long t_below, .ref t_edges_h, .ref t_lean_h, .ref t_word_h, .int t_layers, .ref t_layer_h, .ref t_least_h, .int t_sights, .ref t_sight_h, .int t_shadows, .ref t_shadow_h, .long t_endAbove, .long t_endBelow, .long t_speedAbove, .long t_speedBelow, .int t_spans, .ref t_spanLow_h, .ref t_spanHigh_h, .ref t_spanAt_h, .int t_found, .ref t_numbers_h, .int t_pairs, .ref t_pair_h, .ref t_most_h, .int t_rows, .ref t_row_h, .int t_notes, .ref t_under_h, .ref t_agreed_h])), (t_pair_h, .inl (cI, 120, .inl t_pair_a))] H → va_D A [(t_h, .inr (10, [.int t_baseWay, .int t_slip, .int t_low, .int t_high, .int t_unlike, .int t_alone, .long t_above, .long t_below, .ref t_edges_h, .ref t_lean_h, .ref t_word_h, .int t_layers, .ref t_layer_h, .ref t_least_h, .int t_sights, .ref t_sight_h, .int t_shadows, .ref t_shadow_h, .long t_endAbove, .long t_endBelow, .long t_speedAbove, .long t_speedBelow, .int t_spans, .ref t_spanLow_h, .ref t_spanHigh_h, .ref t_spanAt_h, .int t_found, .ref t_numbers_h, .int t_pairs, .ref t_pair_h, .ref t_most_h, .int t_rows, .ref t_row_h, .int t_notes, .ref t_under_h, .ref t_agreed_h])), (t_pair_h, .inl (cI, 120, .inl t_pair_a))] → va_S A s.heap H locs → lv_has ls 3 [(1, .int x89)] → W p l e rmX10_paired s m args below meth c H locs 0 0 Q (F0 m 44 ls []) := by
    intro x89 he H locs ls hP hD hS hl
    cases he
    refine lv_iload_n hx hb dX10_paired_44 rfl (lv_at hl 0 rfl) ?_
    exact hret x8 45 _ _ _ dX10_paired_45 hf hP hD hS
  clear hf
  have hl1 : ∀ (n : Nat) (u1 : Int32) (u2 : Int32), it (fX10_paired_L1 t_pairs t_pair_a) n (u1, u2) = some x8 → ∀ (H : Heap) (locs : List Loc) (ls : Array Slot), va_P G vwCl [(t_h, .inr (10, [.int t_baseWay, .int t_slip, .int t_low, .int t_high, .int t_unlike, .int t_alone, .long t_above, .long t_below, .ref t_edges_h, .ref t_lean_h, .ref t_word_h, .int t_layers, .ref t_layer_h, .ref t_least_h, .int t_sights, .ref t_sight_h, .int t_shadows, .ref t_shadow_h, .long t_endAbove, .long t_endBelow, .long t_speedAbove, .long t_speedBelow, .int t_spans, .ref t_spanLow_h, .ref t_spanHigh_h, .ref t_spanAt_h, .int t_found, .ref t_numbers_h, .int t_pairs, .ref t_pair_h, .ref t_most_h, .int t_rows, .ref t_row_h, .int t_notes, .ref t_under_h, .ref t_agreed_h])), (t_pair_h, .inl (cI, 120, .inl t_pair_a))] H → va_D A [(t_h, .inr (10, [.int t_baseWay, .int t_slip, .int t_low, .int t_high, .int t_unlike, .int t_alone, .long t_above, .long t_below, .ref t_edges_h, .ref t_lean_h, .ref t_word_h, .int t_layers, .ref t_layer_h, .ref t_least_h, .int t_sights, .ref t_sight_h, .int t_shadows, .ref t_shadow_h, .long t_endAbove, .long t_endBelow, .long t_speedAbove, .long t_speedBelow, .int t_spans, .ref t_spanLow_h, .ref t_spanHigh_h, .ref t_spanAt_h, .int t_found, .ref t_numbers_h, .int t_pairs, .ref t_pair_h, .ref t_most_h, .int t_rows, .ref t_row_h, .int t_notes, .ref t_under_h, .ref t_agreed_h])), (t_pair_h, .inl (cI, 120, .inl t_pair_a))] → va_S A s.heap H locs → lv_has ls 3 [(0, .ref t_h), (1, .int u1), (2, .int u2)] → W p l e rmX10_paired s m args below meth c H locs 0 0 Q (F0 m 4 ls []) := by
    intro n
    induction n with
    | zero => intro u1 u2 hz; exact (it_zero hz).elim
    | succ n ih =>
      intro u1 u2 hz H locs ls hP hD hS hl
      obtain ⟨x9, hf, hq⟩ := it_succ hz
      unfold fX10_paired_L1 at hf
      dsimp only [un2] at hf
      refine lv_iload_n hx hb dX10_paired_4 rfl (lv_at hl 2 rfl) ?_
      refine lv_aload_n hx hb dX10_paired_5 rfl (lv_at hl 0 rfl) ?_
      refine va_get (D := G) (ci := 10) (v := .int t_pairs) (C := RX10) (T := TX10) (N := 36) hx hb hts iwX10 hown hK hP 0 rfl rfl 28 (by decide) fl_176 (fun _ h9 => h9) rfl dX10_paired_6 ?_
      refine lv_icmp_ge (tgt := 44) hx hb dX10_paired_9 (by decide) (fun c3 => ?_) (fun c3 => ?_)
      · have hf := ift hf c3
        cases hf
        exact hx1_0 _ hq _ _ _ hP hD hS (lv_sub hl [1] rfl)
      · have hf := iff_ hf c3
        refine lv_iload_n hx hb dX10_paired_12 rfl (lv_at hl 1 rfl) ?_
        refine lv_iconst (v := 1) hx hb dX10_paired_13 (by decide) ?_
        refine lv_aload_n hx hb dX10_paired_14 rfl (lv_at hl 0 rfl) ?_
        refine va_get (D := G) (ci := 10) (v := .ref t_pair_h) (C := RX10) (T := TX10) (N := 36) hx hb hts iwX10 hown hK hP 0 rfl rfl 29 (by decide) fl_43 (fun _ h9 => h9) rfl dX10_paired_15 ?_
        refine lv_iconst (v := 3) hx hb dX10_paired_18 (by decide) ?_
        refine lv_iload_n hx hb dX10_paired_19 rfl (lv_at hl 2 rfl) ?_
        refine lv_imul hx hb dX10_paired_20 ?_
        obtain ⟨h4, hf⟩ := gd_some hf
        refine va_iald hx hb hK hP 1 0 rfl rfl (bnd_in h4) dX10_paired_21 ?_
        refine lv_ishl hx hb dX10_paired_22 ?_
        refine lv_iconst (v := 1) hx hb dX10_paired_23 (by decide) ?_
        refine lv_aload_n hx hb dX10_paired_24 rfl (lv_at hl 0 rfl) ?_
        refine va_get (D := G) (ci := 10) (v := .ref t_pair_h) (C := RX10) (T := TX10) (N := 36) hx hb hts iwX10 hown hK hP 0 rfl rfl 29 (by decide) fl_43 (fun _ h9 => h9) rfl dX10_paired_25 ?_
        refine lv_iconst (v := 3) hx hb dX10_paired_28 (by decide) ?_
        refine lv_iload_n hx hb dX10_paired_29 rfl (lv_at hl 2 rfl) ?_
        refine lv_imul hx hb dX10_paired_30 ?_
        refine lv_iconst (v := 1) hx hb dX10_paired_31 (by decide) ?_
        refine lv_iadd hx hb dX10_paired_32 ?_
        obtain ⟨h5, hf⟩ := gd_some hf
        refine va_iald hx hb hK hP 1 0 rfl rfl (bnd_in h5) dX10_paired_33 ?_
        refine lv_ishl hx hb dX10_paired_34 ?_
        refine lv_ior hx hb dX10_paired_35 ?_
        refine lv_ior hx hb dX10_paired_36 ?_
        refine lv_topi (fun v6 ev6 => ?_)
        have hf := bv_at ev6 hf
        refine lv_istore_n (lv' := [(1, .int v6), (0, .ref t_h), (2, .int u2)]) hx hb dX10_paired_37 rfl hl (by decide) rfl (fun ls hl => ?_)
        obtain ⟨v7, ev7⟩ : ∃ y : Int32, y = u2 + 1 := ⟨_, rfl⟩
        have hf := bv_at ev7 hf
        refine lv_iinc (v := v7) (lv' := [(2, .int v7), (1, .int v6), (0, .ref t_h)]) hx hb dX10_paired_38 hl (k := 2) rfl (by rw [ev7]; rfl) (by decide) rfl (fun ls hl => ?_)
        refine lv_goto (tgt := 4) hx hb dX10_paired_41 (by decide) ?_
        cases hf
        exact ih _ _ hq _ _ _ hP hD hS (lv_sub hl [2, 1, 0] rfl)
  exact hl1 _ _ _ ht1 _ _ _ hP hD hS (lv_sub hl [2, 1, 0] rfl)
set_option maxRecDepth 20000 in
theorem ggX10_areJoined_X10_paired : GoodIn wsX10_areJoined wsX10_paired := goodIn_r _ [7, 1, 2, 8, 9, 10, 11, 12, 13, 14, 15, 16, 17, 18, 19, 20, 21, 22, 23, 24, 25, 26, 27, 28, 29, 30, 31, 32, 33, 34, 35, 36, 37, 38, 39, 40, 41, 42, 43] (by decide +kernel) (by decide +kernel)
set_option maxRecDepth 20000 in
theorem gX10_areJoined_X10_paired : GoodIn wsX10_areJoined (wsV RX10 179 RX10 yX10_paired wsX10_paired) := goodIn_app (goodIn_of _ (by decide +kernel)) ggX10_areJoined_X10_paired
theorem dX10_areJoined_0 : decode cX10_areJoined 0 = .ok (.iconst 1, 1) := by decide +kernel
theorem dX10_areJoined_1 : decode cX10_areJoined 1 = .ok (.istore_n 1, 1) := by decide +kernel
theorem dX10_areJoined_2 : decode cX10_areJoined 2 = .ok (.iconst 0, 1) := by decide +kernel
theorem dX10_areJoined_3 : decode cX10_areJoined 3 = .ok (.istore_n 2, 1) := by decide +kernel
theorem dX10_areJoined_4 : decode cX10_areJoined 4 = .ok (.iload_n 2, 1) := by decide +kernel
theorem dX10_areJoined_5 : decode cX10_areJoined 5 = .ok (.bipush 6, 2) := by decide +kernel
theorem dX10_areJoined_7 : decode cX10_areJoined 7 = .ok (.if_icmp .ge 66, 3) := by decide +kernel
theorem dX10_areJoined_10 : decode cX10_areJoined 10 = .ok (.iconst 0, 1) := by decide +kernel
theorem dX10_areJoined_11 : decode cX10_areJoined 11 = .ok (.istore_n 3, 1) := by decide +kernel
theorem dX10_areJoined_12 : decode cX10_areJoined 12 = .ok (.iload_n 3, 1) := by decide +kernel
theorem dX10_areJoined_13 : decode cX10_areJoined 13 = .ok (.aload_n 0, 1) := by decide +kernel
theorem dX10_areJoined_14 : decode cX10_areJoined 14 = .ok (.getfield 176, 3) := by decide +kernel
theorem dX10_areJoined_17 : decode cX10_areJoined 17 = .ok (.if_icmp .ge 50, 3) := by decide +kernel
theorem dX10_areJoined_20 : decode cX10_areJoined 20 = .ok (.iconst 1, 1) := by decide +kernel
theorem dX10_areJoined_21 : decode cX10_areJoined 21 = .ok (.aload_n 0, 1) := by decide +kernel
theorem dX10_areJoined_22 : decode cX10_areJoined 22 = .ok (.getfield 43, 3) := by decide +kernel
theorem dX10_areJoined_25 : decode cX10_areJoined 25 = .ok (.iconst 3, 1) := by decide +kernel
theorem dX10_areJoined_26 : decode cX10_areJoined 26 = .ok (.iload_n 3, 1) := by decide +kernel
theorem dX10_areJoined_27 : decode cX10_areJoined 27 = .ok (.imul, 1) := by decide +kernel
theorem dX10_areJoined_28 : decode cX10_areJoined 28 = .ok (.iaload, 1) := by decide +kernel
theorem dX10_areJoined_29 : decode cX10_areJoined 29 = .ok (.ishl, 1) := by decide +kernel
theorem dX10_areJoined_30 : decode cX10_areJoined 30 = .ok (.iconst 1, 1) := by decide +kernel
theorem dX10_areJoined_31 : decode cX10_areJoined 31 = .ok (.aload_n 0, 1) := by decide +kernel
theorem dX10_areJoined_32 : decode cX10_areJoined 32 = .ok (.getfield 43, 3) := by decide +kernel
theorem dX10_areJoined_35 : decode cX10_areJoined 35 = .ok (.iconst 3, 1) := by decide +kernel
theorem dX10_areJoined_36 : decode cX10_areJoined 36 = .ok (.iload_n 3, 1) := by decide +kernel
theorem dX10_areJoined_37 : decode cX10_areJoined 37 = .ok (.imul, 1) := by decide +kernel
theorem dX10_areJoined_38 : decode cX10_areJoined 38 = .ok (.iconst 1, 1) := by decide +kernel
theorem dX10_areJoined_39 : decode cX10_areJoined 39 = .ok (.iadd, 1) := by decide +kernel
theorem dX10_areJoined_40 : decode cX10_areJoined 40 = .ok (.iaload, 1) := by decide +kernel
theorem dX10_areJoined_41 : decode cX10_areJoined 41 = .ok (.ishl, 1) := by decide +kernel
theorem dX10_areJoined_42 : decode cX10_areJoined 42 = .ok (.ior, 1) := by decide +kernel
theorem dX10_areJoined_43 : decode cX10_areJoined 43 = .ok (.istore 4, 2) := by decide +kernel
theorem dX10_areJoined_45 : decode cX10_areJoined 45 = .ok (.iload_n 1, 1) := by decide +kernel
theorem dX10_areJoined_46 : decode cX10_areJoined 46 = .ok (.iload_n 1, 1) := by decide +kernel
theorem dX10_areJoined_47 : decode cX10_areJoined 47 = .ok (.iload 4, 2) := by decide +kernel
theorem dX10_areJoined_49 : decode cX10_areJoined 49 = .ok (.iand, 1) := by decide +kernel
theorem dX10_areJoined_50 : decode cX10_areJoined 50 = .ok (.ifCond .eq 8, 3) := by decide +kernel
theorem dX10_areJoined_53 : decode cX10_areJoined 53 = .ok (.iload 4, 2) := by decide +kernel
theorem dX10_areJoined_55 : decode cX10_areJoined 55 = .ok (.goto 4, 3) := by decide +kernel
theorem dX10_areJoined_58 : decode cX10_areJoined 58 = .ok (.iconst 0, 1) := by decide +kernel
theorem dX10_areJoined_59 : decode cX10_areJoined 59 = .ok (.ior, 1) := by decide +kernel
theorem dX10_areJoined_60 : decode cX10_areJoined 60 = .ok (.istore_n 1, 1) := by decide +kernel
theorem dX10_areJoined_61 : decode cX10_areJoined 61 = .ok (.iinc 3 1, 3) := by decide +kernel
theorem dX10_areJoined_64 : decode cX10_areJoined 64 = .ok (.goto (-52), 3) := by decide +kernel
theorem dX10_areJoined_67 : decode cX10_areJoined 67 = .ok (.iinc 2 1, 3) := by decide +kernel
theorem dX10_areJoined_70 : decode cX10_areJoined 70 = .ok (.goto (-66), 3) := by decide +kernel
theorem dX10_areJoined_73 : decode cX10_areJoined 73 = .ok (.aload_n 0, 1) := by decide +kernel
theorem dX10_areJoined_74 : decode cX10_areJoined 74 = .ok (.getfield 176, 3) := by decide +kernel
theorem dX10_areJoined_77 : decode cX10_areJoined 77 = .ok (.ifCond .le 28, 3) := by decide +kernel
theorem dX10_areJoined_80 : decode cX10_areJoined 80 = .ok (.aload_n 0, 1) := by decide +kernel
theorem dX10_areJoined_81 : decode cX10_areJoined 81 = .ok (.invokevirtual 179, 3) := by decide +kernel
theorem dX10_areJoined_84 : decode cX10_areJoined 84 = .ok (.iconst 1, 1) := by decide +kernel
theorem dX10_areJoined_85 : decode cX10_areJoined 85 = .ok (.iand, 1) := by decide +kernel
theorem dX10_areJoined_86 : decode cX10_areJoined 86 = .ok (.iconst 1, 1) := by decide +kernel
theorem dX10_areJoined_87 : decode cX10_areJoined 87 = .ok (.if_icmp .ne 18, 3) := by decide +kernel
theorem dX10_areJoined_90 : decode cX10_areJoined 90 = .ok (.aload_n 0, 1) := by decide +kernel
theorem dX10_areJoined_91 : decode cX10_areJoined 91 = .ok (.invokevirtual 179, 3) := by decide +kernel
theorem dX10_areJoined_94 : decode cX10_areJoined 94 = .ok (.iload_n 1, 1) := by decide +kernel
theorem dX10_areJoined_95 : decode cX10_areJoined 95 = .ok (.iconst (-1), 1) := by decide +kernel
theorem dX10_areJoined_96 : decode cX10_areJoined 96 = .ok (.ixor, 1) := by decide +kernel
theorem dX10_areJoined_97 : decode cX10_areJoined 97 = .ok (.iand, 1) := by decide +kernel
theorem dX10_areJoined_98 : decode cX10_areJoined 98 = .ok (.ifCond .ne 7, 3) := by decide +kernel
theorem dX10_areJoined_101 : decode cX10_areJoined 101 = .ok (.iconst 1, 1) := by decide +kernel
theorem dX10_areJoined_102 : decode cX10_areJoined 102 = .ok (.goto 4, 3) := by decide +kernel
theorem dX10_areJoined_105 : decode cX10_areJoined 105 = .ok (.iconst 0, 1) := by decide +kernel
theorem dX10_areJoined_106 : decode cX10_areJoined 106 = .ok (.ireturn, 1) := by decide +kernel
set_option maxRecDepth 100000 in
def fX10_areJoined_L2 (t_pairs : Int32) (t_pair_a : Nat → Int32) : (Int32 × Int32) → Option ((Int32) ⊕ (Int32 × Int32)) := un2 fun (u4 : Int32) (u5 : Int32) =>
  if t_pairs ≤ u5 then
    some (.inl u4)
  else
    gd (bnd (3 * u5) 120) <|
    gd (bnd ((3 * u5) + 1) 120) <|
    bv (((1 : Int32) <<< ((t_pair_a (Int32.toNatClampNeg (3 * u5))) &&& 31)) ||| ((1 : Int32) <<< ((t_pair_a (Int32.toNatClampNeg ((3 * u5) + 1))) &&& 31))) fun v9 =>
    ob (α := Int32) (
        if (u4 &&& v9) = 0 then
          some 0
        else
          some v9
      ) fun m10 =>
    bv (u4 ||| m10) fun v14 =>
    bv (u5 + 1) fun v15 =>
    some (.inr (v14, v15))
set_option maxRecDepth 100000 in
def fX10_areJoined_L1 (t_pairs : Int32) (t_pair_a : Nat → Int32) : (Int32 × Int32) → Option ((Int32) ⊕ (Int32 × Int32)) := un2 fun (u1 : Int32) (u2 : Int32) =>
  if 6 ≤ u2 then
    some (.inl u1)
  else
    ob (it (fX10_areJoined_L2 t_pairs t_pair_a) 100000 (u1, 0)) fun x16 =>
    bv (u2 + 1) fun v17 =>
    some (.inr (x16, v17))
set_option maxRecDepth 100000 in
def fX10_areJoined (t_pairs : Int32) (t_pair_a : Nat → Int32) : Option (Bool) :=
  ob (it (fX10_areJoined_L1 t_pairs t_pair_a) 100000 (1, 0)) fun x18 =>
  if t_pairs ≤ 0 then
    some false
  else
    ob (fX10_paired t_pairs t_pair_a) fun r20 =>
    if (r20 &&& 1) = 1 then
      ob (fX10_paired t_pairs t_pair_a) fun r23 =>
      if (r23 &&& (x18 ^^^ (-1))) = 0 then
        some true
      else
        some false
    else
      some false
abbrev rmX10_areJoined : Room := { frames := 1, cells := 0, slots := 0, locals := 22 }
theorem iwX10_areJoined_X10 : ∀ w ∈ u_ws RX10 TX10 36, w ∈ wsX10_areJoined := by decide +kernel
set_option maxHeartbeats 4000000 in
set_option maxRecDepth 100000 in
theorem k_X10_areJoined (l : Launch) (G : va_G) (cI cJ : ClassId) (t_h t_edges_h t_lean_h t_word_h t_layer_h t_least_h t_sight_h t_shadow_h t_spanLow_h t_spanHigh_h t_spanAt_h t_numbers_h t_pair_h t_most_h t_row_h t_under_h t_agreed_h : Nat) (sz : Nat) (t_baseWay : Int32) (t_slip : Int32) (t_low : Int32) (t_high : Int32) (t_unlike : Int32) (t_alone : Int32) (t_above : Int64) (t_below : Int64) (t_layers : Int32) (t_sights : Int32) (t_shadows : Int32) (t_endAbove : Int64) (t_endBelow : Int64) (t_speedAbove : Int64) (t_speedBelow : Int64) (t_spans : Int32) (t_found : Int32) (t_pairs : Int32) (t_rows : Int32) (t_notes : Int32) (t_pair_a : Nat → Int32) {o_r : Bool} (hf : fX10_areJoined t_pairs t_pair_a = some o_r) : MetI l yX10_areJoined wsX10_areJoined rmX10_areJoined [.ref t_h] G cI cJ [(t_h, .inr (10, [.int t_baseWay, .int t_slip, .int t_low, .int t_high, .int t_unlike, .int t_alone, .long t_above, .long t_below, .ref t_edges_h, .ref t_lean_h, .ref t_word_h, .int t_layers, .ref t_layer_h, .ref t_least_h, .int t_sights, .ref t_sight_h, .int t_shadows, .ref t_shadow_h, .long t_endAbove, .long t_endBelow, .long t_speedAbove, .long t_speedBelow, .int t_spans, .ref t_spanLow_h, .ref t_spanHigh_h, .ref t_spanAt_h, .int t_found, .ref t_numbers_h, .int t_pairs, .ref t_pair_h, .ref t_most_h, .int t_rows, .ref t_row_h, .int t_notes, .ref t_under_h, .ref t_agreed_h])), (t_pair_h, .inl (cI, 120, .inl t_pair_a))] [(t_h, .inr (10, [.int t_baseWay, .int t_slip, .int t_low, .int t_high, .int t_unlike, .int t_alone, .long t_above, .long t_below, .ref t_edges_h, .ref t_lean_h, .ref t_word_h, .int t_layers, .ref t_layer_h, .ref t_least_h, .int t_sights, .ref t_sight_h, .int t_shadows, .ref t_shadow_h, .long t_endAbove, .long t_endBelow, .long t_speedAbove, .long t_speedBelow, .int t_spans, .ref t_spanLow_h, .ref t_spanHigh_h, .ref t_spanAt_h, .int t_found, .ref t_numbers_h, .int t_pairs, .ref t_pair_h, .ref t_most_h, .int t_rows, .ref t_row_h, .int t_notes, .ref t_under_h, .ref t_agreed_h])), (t_pair_h, .inl (cI, 120, .inl t_pair_a))] sz (b2i o_r) := by
  refine en_0 (l := l) (y := yX10_areJoined) (wsl := wsX10_areJoined) (rm := rmX10_areJoined) (av := [.ref t_h]) (G := G) (cI := cI) (cJ := cJ) (w0 := [(t_h, .inr (10, [.int t_baseWay, .int t_slip, .int t_low, .int t_high, .int t_unlike, .int t_alone, .long t_above, .long t_below, .ref t_edges_h, .ref t_lean_h, .ref t_word_h, .int t_layers, .ref t_layer_h, .ref t_least_h, .int t_sights, .ref t_sight_h, .int t_shadows, .ref t_shadow_h, .long t_endAbove, .long t_endBelow, .long t_speedAbove, .long t_speedBelow, .int t_spans, .ref t_spanLow_h, .ref t_spanHigh_h, .ref t_spanAt_h, .int t_found, .ref t_numbers_h, .int t_pairs, .ref t_pair_h, .ref t_most_h, .int t_rows, .ref t_row_h, .int t_notes, .ref t_under_h, .ref t_agreed_h])), (t_pair_h, .inl (cI, 120, .inl t_pair_a))]) (sz := sz) (Qf := fun A => Qi0 G cI cJ [(t_h, .inr (10, [.int t_baseWay, .int t_slip, .int t_low, .int t_high, .int t_unlike, .int t_alone, .long t_above, .long t_below, .ref t_edges_h, .ref t_lean_h, .ref t_word_h, .int t_layers, .ref t_layer_h, .ref t_least_h, .int t_sights, .ref t_sight_h, .int t_shadows, .ref t_shadow_h, .long t_endAbove, .long t_endBelow, .long t_speedAbove, .long t_speedBelow, .int t_spans, .ref t_spanLow_h, .ref t_spanHigh_h, .ref t_spanAt_h, .int t_found, .ref t_numbers_h, .int t_pairs, .ref t_pair_h, .ref t_most_h, .int t_rows, .ref t_row_h, .int t_notes, .ref t_under_h, .ref t_agreed_h])), (t_pair_h, .inl (cI, 120, .inl t_pair_a))] (b2i o_r) A) (cc := cX10_areJoined) (maxL := 5) (ret := (some .boolean)) RX10 (by decide +kernel) rfl rfl (Nat.le_of_ble_eq_true rfl) ?_
  intro p e s m args below meth c A ls Q hQ hx hb hr hts hown hlocks hml hN hK hP hD hS hA hl
  have hl : lv_has ls 5 [(0, .ref t_h)] := hl
  have iwX10 := iwX10_areJoined_X10
  have fl_43 := hts (.fieldLink RX10 43 "CloudOfficeModel" "pair" "[I") (by decide +kernel)
  have fl_176 := hts (.fieldLink RX10 176 "CloudOfficeModel" "pairs" "I") (by decide +kernel)
  have hret : ∀ (o_r9 : Bool) (pc : Nat) (H : Heap) (locs : List Loc) (ls : Array Slot), decode cX10_areJoined pc = .ok (.ireturn, 1) → some o_r9 = some o_r → va_P G vwCl [(t_h, .inr (10, [.int t_baseWay, .int t_slip, .int t_low, .int t_high, .int t_unlike, .int t_alone, .long t_above, .long t_below, .ref t_edges_h, .ref t_lean_h, .ref t_word_h, .int t_layers, .ref t_layer_h, .ref t_least_h, .int t_sights, .ref t_sight_h, .int t_shadows, .ref t_shadow_h, .long t_endAbove, .long t_endBelow, .long t_speedAbove, .long t_speedBelow, .int t_spans, .ref t_spanLow_h, .ref t_spanHigh_h, .ref t_spanAt_h, .int t_found, .ref t_numbers_h, .int t_pairs, .ref t_pair_h, .ref t_most_h, .int t_rows, .ref t_row_h, .int t_notes, .ref t_under_h, .ref t_agreed_h])), (t_pair_h, .inl (cI, 120, .inl t_pair_a))] H → va_D A [(t_h, .inr (10, [.int t_baseWay, .int t_slip, .int t_low, .int t_high, .int t_unlike, .int t_alone, .long t_above, .long t_below, .ref t_edges_h, .ref t_lean_h, .ref t_word_h, .int t_layers, .ref t_layer_h, .ref t_least_h, .int t_sights, .ref t_sight_h, .int t_shadows, .ref t_shadow_h, .long t_endAbove, .long t_endBelow, .long t_speedAbove, .long t_speedBelow, .int t_spans, .ref t_spanLow_h, .ref t_spanHigh_h, .ref t_spanAt_h, .int t_found, .ref t_numbers_h, .int t_pairs, .ref t_pair_h, .ref t_most_h, .int t_rows, .ref t_row_h, .int t_notes, .ref t_under_h, .ref t_agreed_h])), (t_pair_h, .inl (cI, 120, .inl t_pair_a))] → va_S A s.heap H locs → W p l e rmX10_areJoined s m args below meth c H locs 0 0 Q (F0 m pc ls [.int (b2i o_r9)]) := by
    intro o_r9 pc H locs ls hdg he hP hD hS
    cases he
    subst hQ
    exact rt_z hx hb hr hlocks hK hP hD hS (b2i_narrow _) rfl hdg
  clear hQ
  unfold fX10_areJoined at hf
  refine lv_iconst (v := 1) hx hb dX10_areJoined_0 (by decide) ?_
  refine lv_istore_n (lv' := [(1, .int 1), (0, .ref t_h)]) hx hb dX10_areJoined_1 rfl hl (by decide) rfl (fun ls hl => ?_)
  refine lv_iconst (v := 0) hx hb dX10_areJoined_2 (by decide) ?_
  refine lv_istore_n (lv' := [(2, .int 0), (1, .int 1), (0, .ref t_h)]) hx hb dX10_areJoined_3 rfl hl (by decide) rfl (fun ls hl => ?_)
  obtain ⟨x18, ht1, hf⟩ := ob_some hf
  have hx1_0 : ∀ (x189 : Int32), x189 = x18 → ∀ (H : Heap) (locs : List Loc) (ls : Array Slot), va_P G vwCl [(t_h, .inr (10, [.int t_baseWay, .int t_slip, .int t_low, .int t_high, .int t_unlike, .int t_alone, .long t_above, .long t_below, .ref t_edges_h, .ref t_lean_h, .ref t_word_h, .int t_layers, .ref t_layer_h, .ref t_least_h, .int t_sights, .ref t_sight_h, .int t_shadows, .ref t_shadow_h, .long t_endAbove, .long t_endBelow, .long t_speedAbove, .long t_speedBelow, .int t_spans, .ref t_spanLow_h, .ref t_spanHigh_h, .ref t_spanAt_h, .int t_found, .ref t_numbers_h, .int t_pairs, .ref t_pair_h, .ref t_most_h, .int t_rows, .ref t_row_h, .int t_notes, .ref t_under_h, .ref t_agreed_h])), (t_pair_h, .inl (cI, 120, .inl t_pair_a))] H → va_D A [(t_h, .inr (10, [.int t_baseWay, .int t_slip, .int t_low, .int t_high, .int t_unlike, .int t_alone, .long t_above, .long t_below, .ref t_edges_h, .ref t_lean_h, .ref t_word_h, .int t_layers, .ref t_layer_h, .ref t_least_h, .int t_sights, .ref t_sight_h, .int t_shadows, .ref t_shadow_h, .long t_endAbove, .long t_endBelow, .long t_speedAbove, .long t_speedBelow, .int t_spans, .ref t_spanLow_h, .ref t_spanHigh_h, .ref t_spanAt_h, .int t_found, .ref t_numbers_h, .int t_pairs, .ref t_pair_h, .ref t_most_h, .int t_rows, .ref t_row_h, .int t_notes, .ref t_under_h, .ref t_agreed_h])), (t_pair_h, .inl (cI, 120, .inl t_pair_a))] → va_S A s.heap H locs → lv_has ls 5 [(0, .ref t_h), (1, .int x189)] → W p l e rmX10_areJoined s m args below meth c H locs 0 0 Q (F0 m 73 ls []) := by
    intro x189 he H locs ls hP hD hS hl
    cases he
    refine lv_aload_n hx hb dX10_areJoined_73 rfl (lv_at hl 0 rfl) ?_
    refine va_get (D := G) (ci := 10) (v := .int t_pairs) (C := RX10) (T := TX10) (N := 36) hx hb hts iwX10 hown hK hP 0 rfl rfl 28 (by decide) fl_176 (fun _ h9 => h9) rfl dX10_areJoined_74 ?_
    refine lv_if_le (tgt := 105) hx hb dX10_areJoined_77 (by decide) (fun c19 => ?_) (fun c19 => ?_)
    · have hf := ift hf c19
      refine lv_iconst (v := 0) hx hb dX10_areJoined_105 (by decide) ?_
      exact hret false 106 _ _ _ dX10_areJoined_106 hf hP hD hS
    · have hf := iff_ hf c19
      refine lv_aload_n hx hb dX10_areJoined_80 rfl (lv_at hl 0 rfl) ?_
      obtain ⟨r20, hc21, hf⟩ := ob_some hf
      refine af_iR (va_runV (As := []) (rest := []) ⟨hx, hb, hml, hown, hts⟩ (k_X10_paired l G cI cJ (t_h := t_h) (t_edges_h := t_edges_h) (t_lean_h := t_lean_h) (t_word_h := t_word_h) (t_layer_h := t_layer_h) (t_least_h := t_least_h) (t_sight_h := t_sight_h) (t_shadow_h := t_shadow_h) (t_spanLow_h := t_spanLow_h) (t_spanHigh_h := t_spanHigh_h) (t_spanAt_h := t_spanAt_h) (t_numbers_h := t_numbers_h) (t_pair_h := t_pair_h) (t_most_h := t_most_h) (t_row_h := t_row_h) (t_under_h := t_under_h) (t_agreed_h := t_agreed_h) (t_baseWay := t_baseWay) (t_slip := t_slip) (t_low := t_low) (t_high := t_high) (t_unlike := t_unlike) (t_alone := t_alone) (t_above := t_above) (t_below := t_below) (t_layers := t_layers) (t_sights := t_sights) (t_shadows := t_shadows) (t_endAbove := t_endAbove) (t_endBelow := t_endBelow) (t_speedAbove := t_speedAbove) (t_speedBelow := t_speedBelow) (t_spans := t_spans) (t_found := t_found) (t_pairs := t_pairs) (t_rows := t_rows) (t_notes := t_notes) (t_pair_a := t_pair_a) (sz := _) (hf := hc21)) (cwV 0 hts gX10_areJoined_X10_paired rfl rfl rfl (by decide +kernel) ⟨Nat.le_of_ble_eq_true rfl, Nat.le_of_ble_eq_true rfl⟩) (preV0 (ci := 10) (q0 := 0) (C := RX10) (wc := [(t_h, .inr (10, [.int t_baseWay, .int t_slip, .int t_low, .int t_high, .int t_unlike, .int t_alone, .long t_above, .long t_below, .ref t_edges_h, .ref t_lean_h, .ref t_word_h, .int t_layers, .ref t_layer_h, .ref t_least_h, .int t_sights, .ref t_sight_h, .int t_shadows, .ref t_shadow_h, .long t_endAbove, .long t_endBelow, .long t_speedAbove, .long t_speedBelow, .int t_spans, .ref t_spanLow_h, .ref t_spanHigh_h, .ref t_spanAt_h, .int t_found, .ref t_numbers_h, .int t_pairs, .ref t_pair_h, .ref t_most_h, .int t_rows, .ref t_row_h, .int t_notes, .ref t_under_h, .ref t_agreed_h])), (t_pair_h, .inl (cI, 120, .inl t_pair_a))]) hK hP hD hN [0, 1] rfl rfl (by decide) rfl rfl) rfl rfl hl.1 rfl (lv_room (Nat.le_of_ble_eq_true rfl)) dX10_areJoined_81 ⟨Nat.zero_le _, Nat.zero_le _⟩) hP hD hS hA [0, 1] rfl (fun H locs hP hS => ?_)
      refine lv_iconst (v := 1) hx hb dX10_areJoined_84 (by decide) ?_
      refine lv_iand hx hb dX10_areJoined_85 ?_
      refine lv_iconst (v := 1) hx hb dX10_areJoined_86 (by decide) ?_
      refine lv_icmp_ne (tgt := 105) hx hb dX10_areJoined_87 (by decide) (fun c22 => ?_) (fun c22 => ?_)
      · have hf := iff_ hf c22
        refine lv_iconst (v := 0) hx hb dX10_areJoined_105 (by decide) ?_
        exact hret false 106 _ _ _ dX10_areJoined_106 hf hP hD hS
      · have hf := ift hf c22
        refine lv_aload_n hx hb dX10_areJoined_90 rfl (lv_at hl 0 rfl) ?_
        obtain ⟨r23, hc24, hf⟩ := ob_some hf
        refine af_iR (va_runV (As := []) (rest := []) ⟨hx, hb, hml, hown, hts⟩ (k_X10_paired l G cI cJ (t_h := t_h) (t_edges_h := t_edges_h) (t_lean_h := t_lean_h) (t_word_h := t_word_h) (t_layer_h := t_layer_h) (t_least_h := t_least_h) (t_sight_h := t_sight_h) (t_shadow_h := t_shadow_h) (t_spanLow_h := t_spanLow_h) (t_spanHigh_h := t_spanHigh_h) (t_spanAt_h := t_spanAt_h) (t_numbers_h := t_numbers_h) (t_pair_h := t_pair_h) (t_most_h := t_most_h) (t_row_h := t_row_h) (t_under_h := t_under_h) (t_agreed_h := t_agreed_h) (t_baseWay := t_baseWay) (t_slip := t_slip) (t_low := t_low) (t_high := t_high) (t_unlike := t_unlike) (t_alone := t_alone) (t_above := t_above) (t_below := t_below) (t_layers := t_layers) (t_sights := t_sights) (t_shadows := t_shadows) (t_endAbove := t_endAbove) (t_endBelow := t_endBelow) (t_speedAbove := t_speedAbove) (t_speedBelow := t_speedBelow) (t_spans := t_spans) (t_found := t_found) (t_pairs := t_pairs) (t_rows := t_rows) (t_notes := t_notes) (t_pair_a := t_pair_a) (sz := _) (hf := hc24)) (cwV 0 hts gX10_areJoined_X10_paired rfl rfl rfl (by decide +kernel) ⟨Nat.le_of_ble_eq_true rfl, Nat.le_of_ble_eq_true rfl⟩) (preV0 (ci := 10) (q0 := 0) (C := RX10) (wc := [(t_h, .inr (10, [.int t_baseWay, .int t_slip, .int t_low, .int t_high, .int t_unlike, .int t_alone, .long t_above, .long t_below, .ref t_edges_h, .ref t_lean_h, .ref t_word_h, .int t_layers, .ref t_layer_h, .ref t_least_h, .int t_sights, .ref t_sight_h, .int t_shadows, .ref t_shadow_h, .long t_endAbove, .long t_endBelow, .long t_speedAbove, .long t_speedBelow, .int t_spans, .ref t_spanLow_h, .ref t_spanHigh_h, .ref t_spanAt_h, .int t_found, .ref t_numbers_h, .int t_pairs, .ref t_pair_h, .ref t_most_h, .int t_rows, .ref t_row_h, .int t_notes, .ref t_under_h, .ref t_agreed_h])), (t_pair_h, .inl (cI, 120, .inl t_pair_a))]) hK hP hD hN [0, 1] rfl rfl (by decide) rfl rfl) rfl rfl hl.1 rfl (lv_room (Nat.le_of_ble_eq_true rfl)) dX10_areJoined_91 ⟨Nat.zero_le _, Nat.zero_le _⟩) hP hD hS hA [0, 1] rfl (fun H locs hP hS => ?_)
        refine lv_iload_n hx hb dX10_areJoined_94 rfl (lv_at hl 1 rfl) ?_
        refine lv_iconst (v := (-1)) hx hb dX10_areJoined_95 (by decide) ?_
        refine lv_ixor hx hb dX10_areJoined_96 ?_
        refine lv_iand hx hb dX10_areJoined_97 ?_
        refine lv_if_ne (tgt := 105) hx hb dX10_areJoined_98 (by decide) (fun c25 => ?_) (fun c25 => ?_)
        · have hf := iff_ hf c25
          refine lv_iconst (v := 0) hx hb dX10_areJoined_105 (by decide) ?_
          exact hret false 106 _ _ _ dX10_areJoined_106 hf hP hD hS
        · have hf := ift hf c25
          refine lv_iconst (v := 1) hx hb dX10_areJoined_101 (by decide) ?_
          refine lv_goto (tgt := 106) hx hb dX10_areJoined_102 (by decide) ?_
          exact hret true 106 _ _ _ dX10_areJoined_106 hf hP hD hS
  clear hf
  have hl1 : ∀ (n : Nat) (u1 : Int32) (u2 : Int32), it (fX10_areJoined_L1 t_pairs t_pair_a) n (u1, u2) = some x18 → ∀ (H : Heap) (locs : List Loc) (ls : Array Slot), va_P G vwCl [(t_h, .inr (10, [.int t_baseWay, .int t_slip, .int t_low, .int t_high, .int t_unlike, .int t_alone, .long t_above, .long t_below, .ref t_edges_h, .ref t_lean_h, .ref t_word_h, .int t_layers, .ref t_layer_h, .ref t_least_h, .int t_sights, .ref t_sight_h, .int t_shadows, .ref t_shadow_h, .long t_endAbove, .long t_endBelow, .long t_speedAbove, .long t_speedBelow, .int t_spans, .ref t_spanLow_h, .ref t_spanHigh_h, .ref t_spanAt_h, .int t_found, .ref t_numbers_h, .int t_pairs, .ref t_pair_h, .ref t_most_h, .int t_rows, .ref t_row_h, .int t_notes, .ref t_under_h, .ref t_agreed_h])), (t_pair_h, .inl (cI, 120, .inl t_pair_a))] H → va_D A [(t_h, .inr (10, [.int t_baseWay, .int t_slip, .int t_low, .int t_high, .int t_unlike, .int t_alone, .long t_above, .long t_below, .ref t_edges_h, .ref t_lean_h, .ref t_word_h, .int t_layers, .ref t_layer_h, .ref t_least_h, .int t_sights, .ref t_sight_h, .int t_shadows, .ref t_shadow_h, .long t_endAbove, .long t_endBelow, .long t_speedAbove, .long t_speedBelow, .int t_spans, .ref t_spanLow_h, .ref t_spanHigh_h, .ref t_spanAt_h, .int t_found, .ref t_numbers_h, .int t_pairs, .ref t_pair_h, .ref t_most_h, .int t_rows, .ref t_row_h, .int t_notes, .ref t_under_h, .ref t_agreed_h])), (t_pair_h, .inl (cI, 120, .inl t_pair_a))] → va_S A s.heap H locs → lv_has ls 5 [(0, .ref t_h), (1, .int u1), (2, .int u2)] → W p l e rmX10_areJoined s m args below meth c H locs 0 0 Q (F0 m 4 ls []) := by
    intro n
    induction n with
    | zero => intro u1 u2 hz; exact (it_zero hz).elim
    | succ n ih =>
      intro u1 u2 hz H locs ls hP hD hS hl
      obtain ⟨x9, hf, hq⟩ := it_succ hz
      unfold fX10_areJoined_L1 at hf
      dsimp only [un2] at hf
      refine lv_iload_n hx hb dX10_areJoined_4 rfl (lv_at hl 2 rfl) ?_
      refine lv_bipush (v := 6) hx hb dX10_areJoined_5 (by decide) ?_
      refine lv_icmp_ge (tgt := 73) hx hb dX10_areJoined_7 (by decide) (fun c3 => ?_) (fun c3 => ?_)
      · have hf := ift hf c3
        cases hf
        exact hx1_0 _ hq _ _ _ hP hD hS (lv_sub hl [0, 1] rfl)
      · have hf := iff_ hf c3
        refine lv_iconst (v := 0) hx hb dX10_areJoined_10 (by decide) ?_
        refine lv_istore_n (lv' := [(3, .int 0), (0, .ref t_h), (1, .int u1), (2, .int u2)]) hx hb dX10_areJoined_11 rfl hl (by decide) rfl (fun ls hl => ?_)
        obtain ⟨x16, ht2, hf⟩ := ob_some hf
        have hx2_0 : ∀ (x169 : Int32), x169 = x16 → ∀ (H : Heap) (locs : List Loc) (ls : Array Slot), va_P G vwCl [(t_h, .inr (10, [.int t_baseWay, .int t_slip, .int t_low, .int t_high, .int t_unlike, .int t_alone, .long t_above, .long t_below, .ref t_edges_h, .ref t_lean_h, .ref t_word_h, .int t_layers, .ref t_layer_h, .ref t_least_h, .int t_sights, .ref t_sight_h, .int t_shadows, .ref t_shadow_h, .long t_endAbove, .long t_endBelow, .long t_speedAbove, .long t_speedBelow, .int t_spans, .ref t_spanLow_h, .ref t_spanHigh_h, .ref t_spanAt_h, .int t_found, .ref t_numbers_h, .int t_pairs, .ref t_pair_h, .ref t_most_h, .int t_rows, .ref t_row_h, .int t_notes, .ref t_under_h, .ref t_agreed_h])), (t_pair_h, .inl (cI, 120, .inl t_pair_a))] H → va_D A [(t_h, .inr (10, [.int t_baseWay, .int t_slip, .int t_low, .int t_high, .int t_unlike, .int t_alone, .long t_above, .long t_below, .ref t_edges_h, .ref t_lean_h, .ref t_word_h, .int t_layers, .ref t_layer_h, .ref t_least_h, .int t_sights, .ref t_sight_h, .int t_shadows, .ref t_shadow_h, .long t_endAbove, .long t_endBelow, .long t_speedAbove, .long t_speedBelow, .int t_spans, .ref t_spanLow_h, .ref t_spanHigh_h, .ref t_spanAt_h, .int t_found, .ref t_numbers_h, .int t_pairs, .ref t_pair_h, .ref t_most_h, .int t_rows, .ref t_row_h, .int t_notes, .ref t_under_h, .ref t_agreed_h])), (t_pair_h, .inl (cI, 120, .inl t_pair_a))] → va_S A s.heap H locs → lv_has ls 5 [(0, .ref t_h), (1, .int x169), (2, .int u2)] → W p l e rmX10_areJoined s m args below meth c H locs 0 0 Q (F0 m 67 ls []) := by
          intro x169 he H locs ls hP hD hS hl
          cases he
          obtain ⟨v17, ev17⟩ : ∃ y : Int32, y = u2 + 1 := ⟨_, rfl⟩
          have hf := bv_at ev17 hf
          refine lv_iinc (v := v17) (lv' := [(2, .int v17), (0, .ref t_h), (1, .int x16)]) hx hb dX10_areJoined_67 hl (k := 2) rfl (by rw [ev17]; rfl) (by decide) rfl (fun ls hl => ?_)
          refine lv_goto (tgt := 4) hx hb dX10_areJoined_70 (by decide) ?_
          cases hf
          exact ih _ _ hq _ _ _ hP hD hS (lv_sub hl [1, 2, 0] rfl)
        clear hf
        have hl2 : ∀ (n : Nat) (u4 : Int32) (u5 : Int32), it (fX10_areJoined_L2 t_pairs t_pair_a) n (u4, u5) = some x16 → ∀ (H : Heap) (locs : List Loc) (ls : Array Slot), va_P G vwCl [(t_h, .inr (10, [.int t_baseWay, .int t_slip, .int t_low, .int t_high, .int t_unlike, .int t_alone, .long t_above, .long t_below, .ref t_edges_h, .ref t_lean_h, .ref t_word_h, .int t_layers, .ref t_layer_h, .ref t_least_h, .int t_sights, .ref t_sight_h, .int t_shadows, .ref t_shadow_h, .long t_endAbove, .long t_endBelow, .long t_speedAbove, .long t_speedBelow, .int t_spans, .ref t_spanLow_h, .ref t_spanHigh_h, .ref t_spanAt_h, .int t_found, .ref t_numbers_h, .int t_pairs, .ref t_pair_h, .ref t_most_h, .int t_rows, .ref t_row_h, .int t_notes, .ref t_under_h, .ref t_agreed_h])), (t_pair_h, .inl (cI, 120, .inl t_pair_a))] H → va_D A [(t_h, .inr (10, [.int t_baseWay, .int t_slip, .int t_low, .int t_high, .int t_unlike, .int t_alone, .long t_above, .long t_below, .ref t_edges_h, .ref t_lean_h, .ref t_word_h, .int t_layers, .ref t_layer_h, .ref t_least_h, .int t_sights, .ref t_sight_h, .int t_shadows, .ref t_shadow_h, .long t_endAbove, .long t_endBelow, .long t_speedAbove, .long t_speedBelow, .int t_spans, .ref t_spanLow_h, .ref t_spanHigh_h, .ref t_spanAt_h, .int t_found, .ref t_numbers_h, .int t_pairs, .ref t_pair_h, .ref t_most_h, .int t_rows, .ref t_row_h, .int t_notes, .ref t_under_h, .ref t_agreed_h])), (t_pair_h, .inl (cI, 120, .inl t_pair_a))] → va_S A s.heap H locs → lv_has ls 5 [(0, .ref t_h), (1, .int u4), (2, .int u2), (3, .int u5)] → W p l e rmX10_areJoined s m args below meth c H locs 0 0 Q (F0 m 12 ls []) := by
          intro n
          induction n with
          | zero => intro u4 u5 hz; exact (it_zero hz).elim
          | succ n ih =>
            intro u4 u5 hz H locs ls hP hD hS hl
            obtain ⟨x9, hf, hq⟩ := it_succ hz
            unfold fX10_areJoined_L2 at hf
            dsimp only [un2] at hf
            refine lv_iload_n hx hb dX10_areJoined_12 rfl (lv_at hl 3 rfl) ?_
            refine lv_aload_n hx hb dX10_areJoined_13 rfl (lv_at hl 0 rfl) ?_
            refine va_get (D := G) (ci := 10) (v := .int t_pairs) (C := RX10) (T := TX10) (N := 36) hx hb hts iwX10 hown hK hP 0 rfl rfl 28 (by decide) fl_176 (fun _ h9 => h9) rfl dX10_areJoined_14 ?_
            refine lv_icmp_ge (tgt := 67) hx hb dX10_areJoined_17 (by decide) (fun c6 => ?_) (fun c6 => ?_)
            · have hf := ift hf c6
              cases hf
              exact hx2_0 _ hq _ _ _ hP hD hS (lv_sub hl [0, 1, 2] rfl)
            · have hf := iff_ hf c6
              refine lv_iconst (v := 1) hx hb dX10_areJoined_20 (by decide) ?_
              refine lv_aload_n hx hb dX10_areJoined_21 rfl (lv_at hl 0 rfl) ?_
              refine va_get (D := G) (ci := 10) (v := .ref t_pair_h) (C := RX10) (T := TX10) (N := 36) hx hb hts iwX10 hown hK hP 0 rfl rfl 29 (by decide) fl_43 (fun _ h9 => h9) rfl dX10_areJoined_22 ?_
              refine lv_iconst (v := 3) hx hb dX10_areJoined_25 (by decide) ?_
              refine lv_iload_n hx hb dX10_areJoined_26 rfl (lv_at hl 3 rfl) ?_
              refine lv_imul hx hb dX10_areJoined_27 ?_
              obtain ⟨h7, hf⟩ := gd_some hf
              refine va_iald hx hb hK hP 1 0 rfl rfl (bnd_in h7) dX10_areJoined_28 ?_
              refine lv_ishl hx hb dX10_areJoined_29 ?_
              refine lv_iconst (v := 1) hx hb dX10_areJoined_30 (by decide) ?_
              refine lv_aload_n hx hb dX10_areJoined_31 rfl (lv_at hl 0 rfl) ?_
              refine va_get (D := G) (ci := 10) (v := .ref t_pair_h) (C := RX10) (T := TX10) (N := 36) hx hb hts iwX10 hown hK hP 0 rfl rfl 29 (by decide) fl_43 (fun _ h9 => h9) rfl dX10_areJoined_32 ?_
              refine lv_iconst (v := 3) hx hb dX10_areJoined_35 (by decide) ?_
              refine lv_iload_n hx hb dX10_areJoined_36 rfl (lv_at hl 3 rfl) ?_
              refine lv_imul hx hb dX10_areJoined_37 ?_
              refine lv_iconst (v := 1) hx hb dX10_areJoined_38 (by decide) ?_
              refine lv_iadd hx hb dX10_areJoined_39 ?_
              obtain ⟨h8, hf⟩ := gd_some hf
              refine va_iald hx hb hK hP 1 0 rfl rfl (bnd_in h8) dX10_areJoined_40 ?_
              refine lv_ishl hx hb dX10_areJoined_41 ?_
              refine lv_ior hx hb dX10_areJoined_42 ?_
              refine lv_topi (fun v9 ev9 => ?_)
              have hf := bv_at ev9 hf
              refine lv_istore (lv' := [(4, .int v9), (0, .ref t_h), (1, .int u4), (2, .int u2), (3, .int u5)]) hx hb dX10_areJoined_43 hl (by decide) rfl (fun ls hl => ?_)
              refine lv_iload_n hx hb dX10_areJoined_45 rfl (lv_at hl 2 rfl) ?_
              refine lv_iload_n hx hb dX10_areJoined_46 rfl (lv_at hl 2 rfl) ?_
              refine lv_iload hx hb dX10_areJoined_47 (lv_at hl 0 rfl) ?_
              refine lv_iand hx hb dX10_areJoined_49 ?_
              obtain ⟨m10, hr11, hf⟩ := ob_some hf
              have hj12 : ∀ (m109 : Int32), some m109 = some m10 → ∀ (H : Heap) (locs : List Loc) (ls : Array Slot), va_P G vwCl [(t_h, .inr (10, [.int t_baseWay, .int t_slip, .int t_low, .int t_high, .int t_unlike, .int t_alone, .long t_above, .long t_below, .ref t_edges_h, .ref t_lean_h, .ref t_word_h, .int t_layers, .ref t_layer_h, .ref t_least_h, .int t_sights, .ref t_sight_h, .int t_shadows, .ref t_shadow_h, .long t_endAbove, .long t_endBelow, .long t_speedAbove, .long t_speedBelow, .int t_spans, .ref t_spanLow_h, .ref t_spanHigh_h, .ref t_spanAt_h, .int t_found, .ref t_numbers_h, .int t_pairs, .ref t_pair_h, .ref t_most_h, .int t_rows, .ref t_row_h, .int t_notes, .ref t_under_h, .ref t_agreed_h])), (t_pair_h, .inl (cI, 120, .inl t_pair_a))] H → va_D A [(t_h, .inr (10, [.int t_baseWay, .int t_slip, .int t_low, .int t_high, .int t_unlike, .int t_alone, .long t_above, .long t_below, .ref t_edges_h, .ref t_lean_h, .ref t_word_h, .int t_layers, .ref t_layer_h, .ref t_least_h, .int t_sights, .ref t_sight_h, .int t_shadows, .ref t_shadow_h, .long t_endAbove, .long t_endBelow, .long t_speedAbove, .long t_speedBelow, .int t_spans, .ref t_spanLow_h, .ref t_spanHigh_h, .ref t_spanAt_h, .int t_found, .ref t_numbers_h, .int t_pairs, .ref t_pair_h, .ref t_most_h, .int t_rows, .ref t_row_h, .int t_notes, .ref t_under_h, .ref t_agreed_h])), (t_pair_h, .inl (cI, 120, .inl t_pair_a))] → va_S A s.heap H locs → lv_has ls 5 [(0, .ref t_h), (2, .int u2), (3, .int u5)] → W p l e rmX10_areJoined s m args below meth c H locs 0 0 Q (F0 m 59 ls [.int m109, .int u4]) := by
                intro m109 he H locs ls hP hD hS hl
                cases he
                refine lv_ior hx hb dX10_areJoined_59 ?_
                refine lv_topi (fun v14 ev14 => ?_)
                have hf := bv_at ev14 hf
                refine lv_istore_n (lv' := [(1, .int v14), (0, .ref t_h), (2, .int u2), (3, .int u5)]) hx hb dX10_areJoined_60 rfl hl (by decide) rfl (fun ls hl => ?_)
                obtain ⟨v15, ev15⟩ : ∃ y : Int32, y = u5 + 1 := ⟨_, rfl⟩
                have hf := bv_at ev15 hf
                refine lv_iinc (v := v15) (lv' := [(3, .int v15), (1, .int v14), (0, .ref t_h), (2, .int u2)]) hx hb dX10_areJoined_61 hl (k := 3) rfl (by rw [ev15]; rfl) (by decide) rfl (fun ls hl => ?_)
                refine lv_goto (tgt := 12) hx hb dX10_areJoined_64 (by decide) ?_
                cases hf
                exact ih _ _ hq _ _ _ hP hD hS (lv_sub hl [2, 1, 3, 0] rfl)
              replace hf := hr11
              refine lv_if_eq (tgt := 58) hx hb dX10_areJoined_50 (by decide) (fun c13 => ?_) (fun c13 => ?_)
              · have hf := ift hf c13
                refine lv_iconst (v := 0) hx hb dX10_areJoined_58 (by decide) ?_
                exact hj12 _ hf _ _ _ hP hD hS (lv_sub hl [1, 3, 4] rfl)
              · have hf := iff_ hf c13
                refine lv_iload hx hb dX10_areJoined_53 (lv_at hl 0 rfl) ?_
                refine lv_goto (tgt := 59) hx hb dX10_areJoined_55 (by decide) ?_
                exact hj12 _ hf _ _ _ hP hD hS (lv_sub hl [1, 3, 4] rfl)
        exact hl2 _ _ _ ht2 _ _ _ hP hD hS (lv_sub hl [1, 2, 3, 0] rfl)
  exact hl1 _ _ _ ht1 _ _ _ hP hD hS (lv_sub hl [2, 1, 0] rfl)
theorem dX10_findMost_0 : decode cX10_findMost 0 = .ok (.iconst 0, 1) := by decide +kernel
theorem dX10_findMost_1 : decode cX10_findMost 1 = .ok (.istore_n 2, 1) := by decide +kernel
theorem dX10_findMost_2 : decode cX10_findMost 2 = .ok (.iload_n 2, 1) := by decide +kernel
theorem dX10_findMost_3 : decode cX10_findMost 3 = .ok (.bipush 6, 2) := by decide +kernel
theorem dX10_findMost_5 : decode cX10_findMost 5 = .ok (.if_icmp .ge 25, 3) := by decide +kernel
theorem dX10_findMost_8 : decode cX10_findMost 8 = .ok (.aload_n 0, 1) := by decide +kernel
theorem dX10_findMost_9 : decode cX10_findMost 9 = .ok (.getfield 46, 3) := by decide +kernel
theorem dX10_findMost_12 : decode cX10_findMost 12 = .ok (.iload_n 2, 1) := by decide +kernel
theorem dX10_findMost_13 : decode cX10_findMost 13 = .ok (.iload_n 2, 1) := by decide +kernel
theorem dX10_findMost_14 : decode cX10_findMost 14 = .ok (.ifCond .ne 7, 3) := by decide +kernel
theorem dX10_findMost_17 : decode cX10_findMost 17 = .ok (.iconst 0, 1) := by decide +kernel
theorem dX10_findMost_18 : decode cX10_findMost 18 = .ok (.goto 5, 3) := by decide +kernel
theorem dX10_findMost_21 : decode cX10_findMost 21 = .ok (.ldc 183, 2) := by decide +kernel
theorem dX10_findMost_23 : decode cX10_findMost 23 = .ok (.iastore, 1) := by decide +kernel
theorem dX10_findMost_24 : decode cX10_findMost 24 = .ok (.iinc 2 1, 3) := by decide +kernel
theorem dX10_findMost_27 : decode cX10_findMost 27 = .ok (.goto (-25), 3) := by decide +kernel
theorem dX10_findMost_30 : decode cX10_findMost 30 = .ok (.iconst 1, 1) := by decide +kernel
theorem dX10_findMost_31 : decode cX10_findMost 31 = .ok (.istore_n 2, 1) := by decide +kernel
theorem dX10_findMost_32 : decode cX10_findMost 32 = .ok (.iconst 0, 1) := by decide +kernel
theorem dX10_findMost_33 : decode cX10_findMost 33 = .ok (.istore_n 3, 1) := by decide +kernel
theorem dX10_findMost_34 : decode cX10_findMost 34 = .ok (.iload_n 3, 1) := by decide +kernel
theorem dX10_findMost_35 : decode cX10_findMost 35 = .ok (.bipush 8, 2) := by decide +kernel
theorem dX10_findMost_37 : decode cX10_findMost 37 = .ok (.if_icmp .ge 180, 3) := by decide +kernel
theorem dX10_findMost_40 : decode cX10_findMost 40 = .ok (.iload_n 2, 1) := by decide +kernel
theorem dX10_findMost_41 : decode cX10_findMost 41 = .ok (.ifCond .eq 176, 3) := by decide +kernel
theorem dX10_findMost_44 : decode cX10_findMost 44 = .ok (.iconst 0, 1) := by decide +kernel
theorem dX10_findMost_45 : decode cX10_findMost 45 = .ok (.istore_n 2, 1) := by decide +kernel
theorem dX10_findMost_46 : decode cX10_findMost 46 = .ok (.iconst 0, 1) := by decide +kernel
theorem dX10_findMost_47 : decode cX10_findMost 47 = .ok (.istore 4, 2) := by decide +kernel
theorem dX10_findMost_49 : decode cX10_findMost 49 = .ok (.iload 4, 2) := by decide +kernel
theorem dX10_findMost_51 : decode cX10_findMost 51 = .ok (.aload_n 0, 1) := by decide +kernel
theorem dX10_findMost_52 : decode cX10_findMost 52 = .ok (.getfield 176, 3) := by decide +kernel
theorem dX10_findMost_55 : decode cX10_findMost 55 = .ok (.if_icmp .ge 156, 3) := by decide +kernel
theorem dX10_findMost_58 : decode cX10_findMost 58 = .ok (.aload_n 0, 1) := by decide +kernel
theorem dX10_findMost_59 : decode cX10_findMost 59 = .ok (.getfield 43, 3) := by decide +kernel
theorem dX10_findMost_62 : decode cX10_findMost 62 = .ok (.iconst 3, 1) := by decide +kernel
theorem dX10_findMost_63 : decode cX10_findMost 63 = .ok (.iload 4, 2) := by decide +kernel
theorem dX10_findMost_65 : decode cX10_findMost 65 = .ok (.imul, 1) := by decide +kernel
theorem dX10_findMost_66 : decode cX10_findMost 66 = .ok (.iaload, 1) := by decide +kernel
theorem dX10_findMost_67 : decode cX10_findMost 67 = .ok (.istore 5, 2) := by decide +kernel
theorem dX10_findMost_69 : decode cX10_findMost 69 = .ok (.aload_n 0, 1) := by decide +kernel
theorem dX10_findMost_70 : decode cX10_findMost 70 = .ok (.getfield 43, 3) := by decide +kernel
theorem dX10_findMost_73 : decode cX10_findMost 73 = .ok (.iconst 3, 1) := by decide +kernel
theorem dX10_findMost_74 : decode cX10_findMost 74 = .ok (.iload 4, 2) := by decide +kernel
theorem dX10_findMost_76 : decode cX10_findMost 76 = .ok (.imul, 1) := by decide +kernel
theorem dX10_findMost_77 : decode cX10_findMost 77 = .ok (.iconst 1, 1) := by decide +kernel
theorem dX10_findMost_78 : decode cX10_findMost 78 = .ok (.iadd, 1) := by decide +kernel
theorem dX10_findMost_79 : decode cX10_findMost 79 = .ok (.iaload, 1) := by decide +kernel
theorem dX10_findMost_80 : decode cX10_findMost 80 = .ok (.istore 6, 2) := by decide +kernel
theorem dX10_findMost_82 : decode cX10_findMost 82 = .ok (.aload_n 0, 1) := by decide +kernel
theorem dX10_findMost_83 : decode cX10_findMost 83 = .ok (.getfield 43, 3) := by decide +kernel
theorem dX10_findMost_86 : decode cX10_findMost 86 = .ok (.iconst 3, 1) := by decide +kernel
theorem dX10_findMost_87 : decode cX10_findMost 87 = .ok (.iload 4, 2) := by decide +kernel
theorem dX10_findMost_89 : decode cX10_findMost 89 = .ok (.imul, 1) := by decide +kernel
theorem dX10_findMost_90 : decode cX10_findMost 90 = .ok (.iconst 2, 1) := by decide +kernel
theorem dX10_findMost_91 : decode cX10_findMost 91 = .ok (.iadd, 1) := by decide +kernel
theorem dX10_findMost_92 : decode cX10_findMost 92 = .ok (.iaload, 1) := by decide +kernel
theorem dX10_findMost_93 : decode cX10_findMost 93 = .ok (.istore 7, 2) := by decide +kernel
theorem dX10_findMost_95 : decode cX10_findMost 95 = .ok (.aload_n 0, 1) := by decide +kernel
theorem dX10_findMost_96 : decode cX10_findMost 96 = .ok (.getfield 46, 3) := by decide +kernel
theorem dX10_findMost_99 : decode cX10_findMost 99 = .ok (.iload 6, 2) := by decide +kernel
theorem dX10_findMost_101 : decode cX10_findMost 101 = .ok (.iaload, 1) := by decide +kernel
theorem dX10_findMost_102 : decode cX10_findMost 102 = .ok (.ldc 183, 2) := by decide +kernel
theorem dX10_findMost_104 : decode cX10_findMost 104 = .ok (.if_icmp .ge 46, 3) := by decide +kernel
theorem dX10_findMost_107 : decode cX10_findMost 107 = .ok (.aload_n 0, 1) := by decide +kernel
theorem dX10_findMost_108 : decode cX10_findMost 108 = .ok (.getfield 46, 3) := by decide +kernel
theorem dX10_findMost_111 : decode cX10_findMost 111 = .ok (.iload 6, 2) := by decide +kernel
theorem dX10_findMost_113 : decode cX10_findMost 113 = .ok (.iaload, 1) := by decide +kernel
theorem dX10_findMost_114 : decode cX10_findMost 114 = .ok (.iload 7, 2) := by decide +kernel
theorem dX10_findMost_116 : decode cX10_findMost 116 = .ok (.iadd, 1) := by decide +kernel
theorem dX10_findMost_117 : decode cX10_findMost 117 = .ok (.iload_n 1, 1) := by decide +kernel
theorem dX10_findMost_118 : decode cX10_findMost 118 = .ok (.iadd, 1) := by decide +kernel
theorem dX10_findMost_119 : decode cX10_findMost 119 = .ok (.aload_n 0, 1) := by decide +kernel
theorem dX10_findMost_120 : decode cX10_findMost 120 = .ok (.getfield 46, 3) := by decide +kernel
theorem dX10_findMost_123 : decode cX10_findMost 123 = .ok (.iload 5, 2) := by decide +kernel
theorem dX10_findMost_125 : decode cX10_findMost 125 = .ok (.iaload, 1) := by decide +kernel
theorem dX10_findMost_126 : decode cX10_findMost 126 = .ok (.if_icmp .ge 24, 3) := by decide +kernel
theorem dX10_findMost_129 : decode cX10_findMost 129 = .ok (.aload_n 0, 1) := by decide +kernel
theorem dX10_findMost_130 : decode cX10_findMost 130 = .ok (.getfield 46, 3) := by decide +kernel
theorem dX10_findMost_133 : decode cX10_findMost 133 = .ok (.iload 5, 2) := by decide +kernel
theorem dX10_findMost_135 : decode cX10_findMost 135 = .ok (.aload_n 0, 1) := by decide +kernel
theorem dX10_findMost_136 : decode cX10_findMost 136 = .ok (.getfield 46, 3) := by decide +kernel
theorem dX10_findMost_139 : decode cX10_findMost 139 = .ok (.iload 6, 2) := by decide +kernel
theorem dX10_findMost_141 : decode cX10_findMost 141 = .ok (.iaload, 1) := by decide +kernel
theorem dX10_findMost_142 : decode cX10_findMost 142 = .ok (.iload 7, 2) := by decide +kernel
theorem dX10_findMost_144 : decode cX10_findMost 144 = .ok (.iadd, 1) := by decide +kernel
theorem dX10_findMost_145 : decode cX10_findMost 145 = .ok (.iload_n 1, 1) := by decide +kernel
theorem dX10_findMost_146 : decode cX10_findMost 146 = .ok (.iadd, 1) := by decide +kernel
theorem dX10_findMost_147 : decode cX10_findMost 147 = .ok (.iastore, 1) := by decide +kernel
theorem dX10_findMost_148 : decode cX10_findMost 148 = .ok (.iconst 1, 1) := by decide +kernel
theorem dX10_findMost_149 : decode cX10_findMost 149 = .ok (.istore_n 2, 1) := by decide +kernel
theorem dX10_findMost_150 : decode cX10_findMost 150 = .ok (.aload_n 0, 1) := by decide +kernel
theorem dX10_findMost_151 : decode cX10_findMost 151 = .ok (.getfield 46, 3) := by decide +kernel
theorem dX10_findMost_154 : decode cX10_findMost 154 = .ok (.iload 5, 2) := by decide +kernel
theorem dX10_findMost_156 : decode cX10_findMost 156 = .ok (.iaload, 1) := by decide +kernel
theorem dX10_findMost_157 : decode cX10_findMost 157 = .ok (.ldc 183, 2) := by decide +kernel
theorem dX10_findMost_159 : decode cX10_findMost 159 = .ok (.if_icmp .ge 46, 3) := by decide +kernel
theorem dX10_findMost_162 : decode cX10_findMost 162 = .ok (.aload_n 0, 1) := by decide +kernel
theorem dX10_findMost_163 : decode cX10_findMost 163 = .ok (.getfield 46, 3) := by decide +kernel
theorem dX10_findMost_166 : decode cX10_findMost 166 = .ok (.iload 5, 2) := by decide +kernel
theorem dX10_findMost_168 : decode cX10_findMost 168 = .ok (.iaload, 1) := by decide +kernel
theorem dX10_findMost_169 : decode cX10_findMost 169 = .ok (.iload 7, 2) := by decide +kernel
theorem dX10_findMost_171 : decode cX10_findMost 171 = .ok (.isub, 1) := by decide +kernel
theorem dX10_findMost_172 : decode cX10_findMost 172 = .ok (.iload_n 1, 1) := by decide +kernel
theorem dX10_findMost_173 : decode cX10_findMost 173 = .ok (.iadd, 1) := by decide +kernel
theorem dX10_findMost_174 : decode cX10_findMost 174 = .ok (.aload_n 0, 1) := by decide +kernel
theorem dX10_findMost_175 : decode cX10_findMost 175 = .ok (.getfield 46, 3) := by decide +kernel
theorem dX10_findMost_178 : decode cX10_findMost 178 = .ok (.iload 6, 2) := by decide +kernel
theorem dX10_findMost_180 : decode cX10_findMost 180 = .ok (.iaload, 1) := by decide +kernel
theorem dX10_findMost_181 : decode cX10_findMost 181 = .ok (.if_icmp .ge 24, 3) := by decide +kernel
theorem dX10_findMost_184 : decode cX10_findMost 184 = .ok (.aload_n 0, 1) := by decide +kernel
theorem dX10_findMost_185 : decode cX10_findMost 185 = .ok (.getfield 46, 3) := by decide +kernel
theorem dX10_findMost_188 : decode cX10_findMost 188 = .ok (.iload 6, 2) := by decide +kernel
theorem dX10_findMost_190 : decode cX10_findMost 190 = .ok (.aload_n 0, 1) := by decide +kernel
theorem dX10_findMost_191 : decode cX10_findMost 191 = .ok (.getfield 46, 3) := by decide +kernel
theorem dX10_findMost_194 : decode cX10_findMost 194 = .ok (.iload 5, 2) := by decide +kernel
theorem dX10_findMost_196 : decode cX10_findMost 196 = .ok (.iaload, 1) := by decide +kernel
theorem dX10_findMost_197 : decode cX10_findMost 197 = .ok (.iload 7, 2) := by decide +kernel
theorem dX10_findMost_199 : decode cX10_findMost 199 = .ok (.isub, 1) := by decide +kernel
theorem dX10_findMost_200 : decode cX10_findMost 200 = .ok (.iload_n 1, 1) := by decide +kernel
theorem dX10_findMost_201 : decode cX10_findMost 201 = .ok (.iadd, 1) := by decide +kernel
theorem dX10_findMost_202 : decode cX10_findMost 202 = .ok (.iastore, 1) := by decide +kernel
theorem dX10_findMost_203 : decode cX10_findMost 203 = .ok (.iconst 1, 1) := by decide +kernel
theorem dX10_findMost_204 : decode cX10_findMost 204 = .ok (.istore_n 2, 1) := by decide +kernel
theorem dX10_findMost_205 : decode cX10_findMost 205 = .ok (.iinc 4 1, 3) := by decide +kernel
theorem dX10_findMost_208 : decode cX10_findMost 208 = .ok (.goto (-159), 3) := by decide +kernel
theorem dX10_findMost_211 : decode cX10_findMost 211 = .ok (.iinc 3 1, 3) := by decide +kernel
theorem dX10_findMost_214 : decode cX10_findMost 214 = .ok (.goto (-180), 3) := by decide +kernel
theorem dX10_findMost_217 : decode cX10_findMost 217 = .ok (.iload_n 2, 1) := by decide +kernel
theorem dX10_findMost_218 : decode cX10_findMost 218 = .ok (.ifCond .ne 16, 3) := by decide +kernel
theorem dX10_findMost_221 : decode cX10_findMost 221 = .ok (.aload_n 0, 1) := by decide +kernel
theorem dX10_findMost_222 : decode cX10_findMost 222 = .ok (.getfield 46, 3) := by decide +kernel
theorem dX10_findMost_225 : decode cX10_findMost 225 = .ok (.iconst 0, 1) := by decide +kernel
theorem dX10_findMost_226 : decode cX10_findMost 226 = .ok (.iaload, 1) := by decide +kernel
theorem dX10_findMost_227 : decode cX10_findMost 227 = .ok (.ifCond .ne 7, 3) := by decide +kernel
theorem dX10_findMost_230 : decode cX10_findMost 230 = .ok (.iconst 1, 1) := by decide +kernel
theorem dX10_findMost_231 : decode cX10_findMost 231 = .ok (.goto 4, 3) := by decide +kernel
theorem dX10_findMost_234 : decode cX10_findMost 234 = .ok (.iconst 0, 1) := by decide +kernel
theorem dX10_findMost_235 : decode cX10_findMost 235 = .ok (.ireturn, 1) := by decide +kernel
set_option maxRecDepth 100000 in
def fX10_findMost_L1  : (Int32 × (Nat → Int32)) → Option (((Nat → Int32)) ⊕ (Int32 × (Nat → Int32))) := un2 fun (u1 : Int32) (u2 : Nat → Int32) =>
  if 6 ≤ u1 then
    some (.inl u2)
  else
    ob (α := Int32) (
        if u1 = 0 then
          some 0
        else
          some 100000000
      ) fun m4 =>
    gd (bnd u1 6) <|
    bv (upd u2 (Int32.toNatClampNeg u1) m4) fun a9 =>
    bv (u1 + 1) fun v10 =>
    some (.inr (v10, a9))
set_option maxRecDepth 100000 in
def fX10_findMost_L3 (t_pairs : Int32) (t_pair_a : Nat → Int32) (x1 : Int32) : (Int32 × Int32 × (Nat → Int32)) → Option ((Int32 × (Nat → Int32)) ⊕ (Int32 × Int32 × (Nat → Int32))) := un3 fun (u17 : Int32) (u18 : Int32) (u19 : Nat → Int32) =>
  if t_pairs ≤ u18 then
    some (.inl (u17, u19))
  else
    gd (bnd (3 * u18) 120) <|
    bv (t_pair_a (Int32.toNatClampNeg (3 * u18))) fun v22 =>
    gd (bnd ((3 * u18) + 1) 120) <|
    bv (t_pair_a (Int32.toNatClampNeg ((3 * u18) + 1))) fun v24 =>
    gd (bnd ((3 * u18) + 2) 120) <|
    bv (t_pair_a (Int32.toNatClampNeg ((3 * u18) + 2))) fun v26 =>
    gd (bnd v24 6) <|
    ob2 (α0 := Int32) (α1 := Nat → Int32) (
        if 100000000 ≤ (u19 (Int32.toNatClampNeg v24)) then
          some (u17, u19)
        else
          gd (bnd v24 6) <|
          gd (bnd v22 6) <|
          if (u19 (Int32.toNatClampNeg v22)) ≤ (((u19 (Int32.toNatClampNeg v24)) + v26) + x1) then
            some (u17, u19)
          else
            gd (bnd v24 6) <|
            bv (((u19 (Int32.toNatClampNeg v24)) + v26) + x1) fun v37 =>
            gd (bnd v22 6) <|
            bv (upd u19 (Int32.toNatClampNeg v22) v37) fun a39 =>
            some (1, a39)
      ) fun m28 m29 =>
    gd (bnd v22 6) <|
    ob2 (α0 := Int32) (α1 := Nat → Int32) (
        if 100000000 ≤ (m29 (Int32.toNatClampNeg v22)) then
          some (m28, m29)
        else
          gd (bnd v22 6) <|
          gd (bnd v24 6) <|
          if (m29 (Int32.toNatClampNeg v24)) ≤ (((m29 (Int32.toNatClampNeg v22)) - v26) + x1) then
            some (m28, m29)
          else
            gd (bnd v22 6) <|
            bv (((m29 (Int32.toNatClampNeg v22)) - v26) + x1) fun v50 =>
            gd (bnd v24 6) <|
            bv (upd m29 (Int32.toNatClampNeg v24) v50) fun a52 =>
            some (1, a52)
      ) fun m41 m42 =>
    bv (u18 + 1) fun v53 =>
    some (.inr (m41, v53, m42))
set_option maxRecDepth 100000 in
def fX10_findMost_L2 (t_pairs : Int32) (t_pair_a : Nat → Int32) (x1 : Int32) : (Int32 × Int32 × (Nat → Int32)) → Option ((Int32 × (Nat → Int32)) ⊕ (Int32 × Int32 × (Nat → Int32))) := un3 fun (u12 : Int32) (u13 : Int32) (u14 : Nat → Int32) =>
  if 8 ≤ u13 then
    some (.inl (u12, u14))
  else
    if u12 = 0 then
      some (.inl (u12, u14))
    else
      ob2 (it (fX10_findMost_L3 t_pairs t_pair_a x1) 100000 (0, 0, u14)) fun x54 x55 =>
      bv (u13 + 1) fun v56 =>
      some (.inr (x54, v56, x55))
set_option maxRecDepth 100000 in
def fX10_findMost (x1 : Int32) (t_pairs : Int32) (t_pair_a : Nat → Int32) (t_most_a : Nat → Int32) : Option (Bool × (Nat → Int32)) :=
  ob (it (fX10_findMost_L1) 100000 (0, t_most_a)) fun x11 =>
  ob2 (it (fX10_findMost_L2 t_pairs t_pair_a x1) 100000 (1, 0, x11)) fun x57 x58 =>
  if x57 = 0 then
    gd (bnd 0 6) <|
    if (x58 (Int32.toNatClampNeg 0)) = 0 then
      some (true, x58)
    else
      some (false, x58)
  else
    some (false, x58)
abbrev rmX10_findMost : Room := { frames := 0, cells := 0, slots := 0, locals := 0 }
theorem iwX10_findMost_X10 : ∀ w ∈ u_ws RX10 TX10 36, w ∈ wsX10_findMost := by decide +kernel
set_option maxHeartbeats 4000000 in
set_option maxRecDepth 100000 in
theorem k_X10_findMost (l : Launch) (G : va_G) (cI cJ : ClassId) (t_h t_edges_h t_lean_h t_word_h t_layer_h t_least_h t_sight_h t_shadow_h t_spanLow_h t_spanHigh_h t_spanAt_h t_numbers_h t_pair_h t_most_h t_row_h t_under_h t_agreed_h : Nat) (sz : Nat) (t_baseWay : Int32) (t_slip : Int32) (t_low : Int32) (t_high : Int32) (t_unlike : Int32) (t_alone : Int32) (t_above : Int64) (t_below : Int64) (t_layers : Int32) (t_sights : Int32) (t_shadows : Int32) (t_endAbove : Int64) (t_endBelow : Int64) (t_speedAbove : Int64) (t_speedBelow : Int64) (t_spans : Int32) (t_found : Int32) (t_pairs : Int32) (t_rows : Int32) (t_notes : Int32) (t_pair_a : Nat → Int32) (t_most_a : Nat → Int32) (x1 : Int32) {o_r : Bool} {o_t_most_a : Nat → Int32} (hf : fX10_findMost x1 t_pairs t_pair_a t_most_a = some (o_r, o_t_most_a)) : MetI l yX10_findMost wsX10_findMost rmX10_findMost [.ref t_h, .int x1] G cI cJ [(t_h, .inr (10, [.int t_baseWay, .int t_slip, .int t_low, .int t_high, .int t_unlike, .int t_alone, .long t_above, .long t_below, .ref t_edges_h, .ref t_lean_h, .ref t_word_h, .int t_layers, .ref t_layer_h, .ref t_least_h, .int t_sights, .ref t_sight_h, .int t_shadows, .ref t_shadow_h, .long t_endAbove, .long t_endBelow, .long t_speedAbove, .long t_speedBelow, .int t_spans, .ref t_spanLow_h, .ref t_spanHigh_h, .ref t_spanAt_h, .int t_found, .ref t_numbers_h, .int t_pairs, .ref t_pair_h, .ref t_most_h, .int t_rows, .ref t_row_h, .int t_notes, .ref t_under_h, .ref t_agreed_h])), (t_pair_h, .inl (cI, 120, .inl t_pair_a)), (t_most_h, .inl (cI, 6, .inl t_most_a))] [(t_h, .inr (10, [.int t_baseWay, .int t_slip, .int t_low, .int t_high, .int t_unlike, .int t_alone, .long t_above, .long t_below, .ref t_edges_h, .ref t_lean_h, .ref t_word_h, .int t_layers, .ref t_layer_h, .ref t_least_h, .int t_sights, .ref t_sight_h, .int t_shadows, .ref t_shadow_h, .long t_endAbove, .long t_endBelow, .long t_speedAbove, .long t_speedBelow, .int t_spans, .ref t_spanLow_h, .ref t_spanHigh_h, .ref t_spanAt_h, .int t_found, .ref t_numbers_h, .int t_pairs, .ref t_pair_h, .ref t_most_h, .int t_rows, .ref t_row_h, .int t_notes, .ref t_under_h, .ref t_agreed_h])), (t_pair_h, .inl (cI, 120, .inl t_pair_a)), (t_most_h, .inl (cI, 6, .inl o_t_most_a))] sz (b2i o_r) := by
  refine en_0 (l := l) (y := yX10_findMost) (wsl := wsX10_findMost) (rm := rmX10_findMost) (av := [.ref t_h, .int x1]) (G := G) (cI := cI) (cJ := cJ) (w0 := [(t_h, .inr (10, [.int t_baseWay, .int t_slip, .int t_low, .int t_high, .int t_unlike, .int t_alone, .long t_above, .long t_below, .ref t_edges_h, .ref t_lean_h, .ref t_word_h, .int t_layers, .ref t_layer_h, .ref t_least_h, .int t_sights, .ref t_sight_h, .int t_shadows, .ref t_shadow_h, .long t_endAbove, .long t_endBelow, .long t_speedAbove, .long t_speedBelow, .int t_spans, .ref t_spanLow_h, .ref t_spanHigh_h, .ref t_spanAt_h, .int t_found, .ref t_numbers_h, .int t_pairs, .ref t_pair_h, .ref t_most_h, .int t_rows, .ref t_row_h, .int t_notes, .ref t_under_h, .ref t_agreed_h])), (t_pair_h, .inl (cI, 120, .inl t_pair_a)), (t_most_h, .inl (cI, 6, .inl t_most_a))]) (sz := sz) (Qf := fun A => Qi0 G cI cJ [(t_h, .inr (10, [.int t_baseWay, .int t_slip, .int t_low, .int t_high, .int t_unlike, .int t_alone, .long t_above, .long t_below, .ref t_edges_h, .ref t_lean_h, .ref t_word_h, .int t_layers, .ref t_layer_h, .ref t_least_h, .int t_sights, .ref t_sight_h, .int t_shadows, .ref t_shadow_h, .long t_endAbove, .long t_endBelow, .long t_speedAbove, .long t_speedBelow, .int t_spans, .ref t_spanLow_h, .ref t_spanHigh_h, .ref t_spanAt_h, .int t_found, .ref t_numbers_h, .int t_pairs, .ref t_pair_h, .ref t_most_h, .int t_rows, .ref t_row_h, .int t_notes, .ref t_under_h, .ref t_agreed_h])), (t_pair_h, .inl (cI, 120, .inl t_pair_a)), (t_most_h, .inl (cI, 6, .inl o_t_most_a))] (b2i o_r) A) (cc := cX10_findMost) (maxL := 8) (ret := (some .boolean)) RX10 (by decide +kernel) rfl rfl (Nat.le_of_ble_eq_true rfl) ?_
  intro p e s m args below meth c A ls Q hQ hx hb hr hts hown hlocks hml hN hK hP hD hS hA hl
  have hl : lv_has ls 8 [(0, .ref t_h), (1, .int x1)] := hl
  have iwX10 := iwX10_findMost_X10
  have fl_43 := hts (.fieldLink RX10 43 "CloudOfficeModel" "pair" "[I") (by decide +kernel)
  have fl_46 := hts (.fieldLink RX10 46 "CloudOfficeModel" "most" "[I") (by decide +kernel)
  have fl_176 := hts (.fieldLink RX10 176 "CloudOfficeModel" "pairs" "I") (by decide +kernel)
  have kc_183 := hts (.constant RX10 183 (100000000)) (by decide +kernel)
  have hret : ∀ (o_r9 : Bool) (o_t_most_a9 : Nat → Int32) (pc : Nat) (H : Heap) (locs : List Loc) (ls : Array Slot), decode cX10_findMost pc = .ok (.ireturn, 1) → some (o_r9, o_t_most_a9) = some (o_r, o_t_most_a) → va_P G vwCl [(t_h, .inr (10, [.int t_baseWay, .int t_slip, .int t_low, .int t_high, .int t_unlike, .int t_alone, .long t_above, .long t_below, .ref t_edges_h, .ref t_lean_h, .ref t_word_h, .int t_layers, .ref t_layer_h, .ref t_least_h, .int t_sights, .ref t_sight_h, .int t_shadows, .ref t_shadow_h, .long t_endAbove, .long t_endBelow, .long t_speedAbove, .long t_speedBelow, .int t_spans, .ref t_spanLow_h, .ref t_spanHigh_h, .ref t_spanAt_h, .int t_found, .ref t_numbers_h, .int t_pairs, .ref t_pair_h, .ref t_most_h, .int t_rows, .ref t_row_h, .int t_notes, .ref t_under_h, .ref t_agreed_h])), (t_pair_h, .inl (cI, 120, .inl t_pair_a)), (t_most_h, .inl (cI, 6, .inl o_t_most_a9))] H → va_D A [(t_h, .inr (10, [.int t_baseWay, .int t_slip, .int t_low, .int t_high, .int t_unlike, .int t_alone, .long t_above, .long t_below, .ref t_edges_h, .ref t_lean_h, .ref t_word_h, .int t_layers, .ref t_layer_h, .ref t_least_h, .int t_sights, .ref t_sight_h, .int t_shadows, .ref t_shadow_h, .long t_endAbove, .long t_endBelow, .long t_speedAbove, .long t_speedBelow, .int t_spans, .ref t_spanLow_h, .ref t_spanHigh_h, .ref t_spanAt_h, .int t_found, .ref t_numbers_h, .int t_pairs, .ref t_pair_h, .ref t_most_h, .int t_rows, .ref t_row_h, .int t_notes, .ref t_under_h, .ref t_agreed_h])), (t_pair_h, .inl (cI, 120, .inl t_pair_a)), (t_most_h, .inl (cI, 6, .inl o_t_most_a9))] → va_S A s.heap H locs → W p l e rmX10_findMost s m args below meth c H locs 0 0 Q (F0 m pc ls [.int (b2i o_r9)]) := by
    intro o_r9 o_t_most_a9 pc H locs ls hdg he hP hD hS
    cases he
    subst hQ
    exact rt_z hx hb hr hlocks hK hP hD hS (b2i_narrow _) rfl hdg
  clear hQ
  unfold fX10_findMost at hf
  refine lv_iconst (v := 0) hx hb dX10_findMost_0 (by decide) ?_
  refine lv_istore_n (lv' := [(2, .int 0), (0, .ref t_h), (1, .int x1)]) hx hb dX10_findMost_1 rfl hl (by decide) rfl (fun ls hl => ?_)
  obtain ⟨x11, ht1, hf⟩ := ob_some hf
  have hx1_0 : ∀ (x119 : Nat → Int32), x119 = x11 → ∀ (H : Heap) (locs : List Loc) (ls : Array Slot), va_P G vwCl [(t_h, .inr (10, [.int t_baseWay, .int t_slip, .int t_low, .int t_high, .int t_unlike, .int t_alone, .long t_above, .long t_below, .ref t_edges_h, .ref t_lean_h, .ref t_word_h, .int t_layers, .ref t_layer_h, .ref t_least_h, .int t_sights, .ref t_sight_h, .int t_shadows, .ref t_shadow_h, .long t_endAbove, .long t_endBelow, .long t_speedAbove, .long t_speedBelow, .int t_spans, .ref t_spanLow_h, .ref t_spanHigh_h, .ref t_spanAt_h, .int t_found, .ref t_numbers_h, .int t_pairs, .ref t_pair_h, .ref t_most_h, .int t_rows, .ref t_row_h, .int t_notes, .ref t_under_h, .ref t_agreed_h])), (t_pair_h, .inl (cI, 120, .inl t_pair_a)), (t_most_h, .inl (cI, 6, .inl x119))] H → va_D A [(t_h, .inr (10, [.int t_baseWay, .int t_slip, .int t_low, .int t_high, .int t_unlike, .int t_alone, .long t_above, .long t_below, .ref t_edges_h, .ref t_lean_h, .ref t_word_h, .int t_layers, .ref t_layer_h, .ref t_least_h, .int t_sights, .ref t_sight_h, .int t_shadows, .ref t_shadow_h, .long t_endAbove, .long t_endBelow, .long t_speedAbove, .long t_speedBelow, .int t_spans, .ref t_spanLow_h, .ref t_spanHigh_h, .ref t_spanAt_h, .int t_found, .ref t_numbers_h, .int t_pairs, .ref t_pair_h, .ref t_most_h, .int t_rows, .ref t_row_h, .int t_notes, .ref t_under_h, .ref t_agreed_h])), (t_pair_h, .inl (cI, 120, .inl t_pair_a)), (t_most_h, .inl (cI, 6, .inl x119))] → va_S A s.heap H locs → lv_has ls 8 [(0, .ref t_h), (1, .int x1)] → W p l e rmX10_findMost s m args below meth c H locs 0 0 Q (F0 m 30 ls []) := by
    intro x119 he H locs ls hP hD hS hl
    cases he
    refine lv_iconst (v := 1) hx hb dX10_findMost_30 (by decide) ?_
    refine lv_istore_n (lv' := [(2, .int 1), (0, .ref t_h), (1, .int x1)]) hx hb dX10_findMost_31 rfl hl (by decide) rfl (fun ls hl => ?_)
    refine lv_iconst (v := 0) hx hb dX10_findMost_32 (by decide) ?_
    refine lv_istore_n (lv' := [(3, .int 0), (2, .int 1), (0, .ref t_h), (1, .int x1)]) hx hb dX10_findMost_33 rfl hl (by decide) rfl (fun ls hl => ?_)
    obtain ⟨x57, x58, ht2, hf⟩ := ob2_some hf
    have hx2_0 : ∀ (x579 : Int32) (x589 : Nat → Int32), (x579, x589) = (x57, x58) → ∀ (H : Heap) (locs : List Loc) (ls : Array Slot), va_P G vwCl [(t_h, .inr (10, [.int t_baseWay, .int t_slip, .int t_low, .int t_high, .int t_unlike, .int t_alone, .long t_above, .long t_below, .ref t_edges_h, .ref t_lean_h, .ref t_word_h, .int t_layers, .ref t_layer_h, .ref t_least_h, .int t_sights, .ref t_sight_h, .int t_shadows, .ref t_shadow_h, .long t_endAbove, .long t_endBelow, .long t_speedAbove, .long t_speedBelow, .int t_spans, .ref t_spanLow_h, .ref t_spanHigh_h, .ref t_spanAt_h, .int t_found, .ref t_numbers_h, .int t_pairs, .ref t_pair_h, .ref t_most_h, .int t_rows, .ref t_row_h, .int t_notes, .ref t_under_h, .ref t_agreed_h])), (t_pair_h, .inl (cI, 120, .inl t_pair_a)), (t_most_h, .inl (cI, 6, .inl x589))] H → va_D A [(t_h, .inr (10, [.int t_baseWay, .int t_slip, .int t_low, .int t_high, .int t_unlike, .int t_alone, .long t_above, .long t_below, .ref t_edges_h, .ref t_lean_h, .ref t_word_h, .int t_layers, .ref t_layer_h, .ref t_least_h, .int t_sights, .ref t_sight_h, .int t_shadows, .ref t_shadow_h, .long t_endAbove, .long t_endBelow, .long t_speedAbove, .long t_speedBelow, .int t_spans, .ref t_spanLow_h, .ref t_spanHigh_h, .ref t_spanAt_h, .int t_found, .ref t_numbers_h, .int t_pairs, .ref t_pair_h, .ref t_most_h, .int t_rows, .ref t_row_h, .int t_notes, .ref t_under_h, .ref t_agreed_h])), (t_pair_h, .inl (cI, 120, .inl t_pair_a)), (t_most_h, .inl (cI, 6, .inl x589))] → va_S A s.heap H locs → lv_has ls 8 [(0, .ref t_h), (2, .int x579)] → W p l e rmX10_findMost s m args below meth c H locs 0 0 Q (F0 m 217 ls []) := by
      intro x579 x589 he H locs ls hP hD hS hl
      cases he
      refine lv_iload_n hx hb dX10_findMost_217 rfl (lv_at hl 1 rfl) ?_
      refine lv_if_ne (tgt := 234) hx hb dX10_findMost_218 (by decide) (fun c59 => ?_) (fun c59 => ?_)
      · have hf := iff_ hf c59
        refine lv_iconst (v := 0) hx hb dX10_findMost_234 (by decide) ?_
        exact hret false x58 235 _ _ _ dX10_findMost_235 hf hP hD hS
      · have hf := ift hf c59
        refine lv_aload_n hx hb dX10_findMost_221 rfl (lv_at hl 0 rfl) ?_
        refine va_get (D := G) (ci := 10) (v := .ref t_most_h) (C := RX10) (T := TX10) (N := 36) hx hb hts iwX10 hown hK hP 0 rfl rfl 30 (by decide) fl_46 (fun _ h9 => h9) rfl dX10_findMost_222 ?_
        refine lv_iconst (v := 0) hx hb dX10_findMost_225 (by decide) ?_
        obtain ⟨h60, hf⟩ := gd_some hf
        refine va_iald hx hb hK hP 2 0 rfl rfl (bnd_in h60) dX10_findMost_226 ?_
        refine lv_if_ne (tgt := 234) hx hb dX10_findMost_227 (by decide) (fun c61 => ?_) (fun c61 => ?_)
        · have hf := iff_ hf c61
          refine lv_iconst (v := 0) hx hb dX10_findMost_234 (by decide) ?_
          exact hret false x58 235 _ _ _ dX10_findMost_235 hf hP hD hS
        · have hf := ift hf c61
          refine lv_iconst (v := 1) hx hb dX10_findMost_230 (by decide) ?_
          refine lv_goto (tgt := 235) hx hb dX10_findMost_231 (by decide) ?_
          exact hret true x58 235 _ _ _ dX10_findMost_235 hf hP hD hS
    clear hf
    have hl2 : ∀ (n : Nat) (u12 : Int32) (u13 : Int32) (u14 : Nat → Int32), it (fX10_findMost_L2 t_pairs t_pair_a x1) n (u12, u13, u14) = some (x57, x58) → ∀ (H : Heap) (locs : List Loc) (ls : Array Slot), va_P G vwCl [(t_h, .inr (10, [.int t_baseWay, .int t_slip, .int t_low, .int t_high, .int t_unlike, .int t_alone, .long t_above, .long t_below, .ref t_edges_h, .ref t_lean_h, .ref t_word_h, .int t_layers, .ref t_layer_h, .ref t_least_h, .int t_sights, .ref t_sight_h, .int t_shadows, .ref t_shadow_h, .long t_endAbove, .long t_endBelow, .long t_speedAbove, .long t_speedBelow, .int t_spans, .ref t_spanLow_h, .ref t_spanHigh_h, .ref t_spanAt_h, .int t_found, .ref t_numbers_h, .int t_pairs, .ref t_pair_h, .ref t_most_h, .int t_rows, .ref t_row_h, .int t_notes, .ref t_under_h, .ref t_agreed_h])), (t_pair_h, .inl (cI, 120, .inl t_pair_a)), (t_most_h, .inl (cI, 6, .inl u14))] H → va_D A [(t_h, .inr (10, [.int t_baseWay, .int t_slip, .int t_low, .int t_high, .int t_unlike, .int t_alone, .long t_above, .long t_below, .ref t_edges_h, .ref t_lean_h, .ref t_word_h, .int t_layers, .ref t_layer_h, .ref t_least_h, .int t_sights, .ref t_sight_h, .int t_shadows, .ref t_shadow_h, .long t_endAbove, .long t_endBelow, .long t_speedAbove, .long t_speedBelow, .int t_spans, .ref t_spanLow_h, .ref t_spanHigh_h, .ref t_spanAt_h, .int t_found, .ref t_numbers_h, .int t_pairs, .ref t_pair_h, .ref t_most_h, .int t_rows, .ref t_row_h, .int t_notes, .ref t_under_h, .ref t_agreed_h])), (t_pair_h, .inl (cI, 120, .inl t_pair_a)), (t_most_h, .inl (cI, 6, .inl u14))] → va_S A s.heap H locs → lv_has ls 8 [(0, .ref t_h), (1, .int x1), (2, .int u12), (3, .int u13)] → W p l e rmX10_findMost s m args below meth c H locs 0 0 Q (F0 m 34 ls []) := by
      intro n
      induction n with
      | zero => intro u12 u13 u14 hz; exact (it_zero hz).elim
      | succ n ih =>
        intro u12 u13 u14 hz H locs ls hP hD hS hl
        obtain ⟨x9, hf, hq⟩ := it_succ hz
        unfold fX10_findMost_L2 at hf
        dsimp only [un3] at hf
        refine lv_iload_n hx hb dX10_findMost_34 rfl (lv_at hl 3 rfl) ?_
        refine lv_bipush (v := 8) hx hb dX10_findMost_35 (by decide) ?_
        refine lv_icmp_ge (tgt := 217) hx hb dX10_findMost_37 (by decide) (fun c15 => ?_) (fun c15 => ?_)
        · have hf := ift hf c15
          cases hf
          exact hx2_0 _ _ hq _ _ _ hP hD hS (lv_sub hl [0, 2] rfl)
        · have hf := iff_ hf c15
          refine lv_iload_n hx hb dX10_findMost_40 rfl (lv_at hl 2 rfl) ?_
          refine lv_if_eq (tgt := 217) hx hb dX10_findMost_41 (by decide) (fun c16 => ?_) (fun c16 => ?_)
          · have hf := ift hf c16
            cases hf
            exact hx2_0 _ _ hq _ _ _ hP hD hS (lv_sub hl [0, 2] rfl)
          · have hf := iff_ hf c16
            refine lv_iconst (v := 0) hx hb dX10_findMost_44 (by decide) ?_
            refine lv_istore_n (lv' := [(2, .int 0), (0, .ref t_h), (1, .int x1), (3, .int u13)]) hx hb dX10_findMost_45 rfl hl (by decide) rfl (fun ls hl => ?_)
            refine lv_iconst (v := 0) hx hb dX10_findMost_46 (by decide) ?_
            refine lv_istore (lv' := [(4, .int 0), (2, .int 0), (0, .ref t_h), (1, .int x1), (3, .int u13)]) hx hb dX10_findMost_47 hl (by decide) rfl (fun ls hl => ?_)
            obtain ⟨x54, x55, ht3, hf⟩ := ob2_some hf
            have hx3_0 : ∀ (x549 : Int32) (x559 : Nat → Int32), (x549, x559) = (x54, x55) → ∀ (H : Heap) (locs : List Loc) (ls : Array Slot), va_P G vwCl [(t_h, .inr (10, [.int t_baseWay, .int t_slip, .int t_low, .int t_high, .int t_unlike, .int t_alone, .long t_above, .long t_below, .ref t_edges_h, .ref t_lean_h, .ref t_word_h, .int t_layers, .ref t_layer_h, .ref t_least_h, .int t_sights, .ref t_sight_h, .int t_shadows, .ref t_shadow_h, .long t_endAbove, .long t_endBelow, .long t_speedAbove, .long t_speedBelow, .int t_spans, .ref t_spanLow_h, .ref t_spanHigh_h, .ref t_spanAt_h, .int t_found, .ref t_numbers_h, .int t_pairs, .ref t_pair_h, .ref t_most_h, .int t_rows, .ref t_row_h, .int t_notes, .ref t_under_h, .ref t_agreed_h])), (t_pair_h, .inl (cI, 120, .inl t_pair_a)), (t_most_h, .inl (cI, 6, .inl x559))] H → va_D A [(t_h, .inr (10, [.int t_baseWay, .int t_slip, .int t_low, .int t_high, .int t_unlike, .int t_alone, .long t_above, .long t_below, .ref t_edges_h, .ref t_lean_h, .ref t_word_h, .int t_layers, .ref t_layer_h, .ref t_least_h, .int t_sights, .ref t_sight_h, .int t_shadows, .ref t_shadow_h, .long t_endAbove, .long t_endBelow, .long t_speedAbove, .long t_speedBelow, .int t_spans, .ref t_spanLow_h, .ref t_spanHigh_h, .ref t_spanAt_h, .int t_found, .ref t_numbers_h, .int t_pairs, .ref t_pair_h, .ref t_most_h, .int t_rows, .ref t_row_h, .int t_notes, .ref t_under_h, .ref t_agreed_h])), (t_pair_h, .inl (cI, 120, .inl t_pair_a)), (t_most_h, .inl (cI, 6, .inl x559))] → va_S A s.heap H locs → lv_has ls 8 [(0, .ref t_h), (1, .int x1), (2, .int x549), (3, .int u13)] → W p l e rmX10_findMost s m args below meth c H locs 0 0 Q (F0 m 211 ls []) := by
              intro x549 x559 he H locs ls hP hD hS hl
              cases he
              obtain ⟨v56, ev56⟩ : ∃ y : Int32, y = u13 + 1 := ⟨_, rfl⟩
              have hf := bv_at ev56 hf
              refine lv_iinc (v := v56) (lv' := [(3, .int v56), (0, .ref t_h), (1, .int x1), (2, .int x54)]) hx hb dX10_findMost_211 hl (k := 3) rfl (by rw [ev56]; rfl) (by decide) rfl (fun ls hl => ?_)
              refine lv_goto (tgt := 34) hx hb dX10_findMost_214 (by decide) ?_
              cases hf
              exact ih _ _ _ hq _ _ _ hP hD hS (lv_sub hl [1, 2, 3, 0] rfl)
            clear hf
            have hl3 : ∀ (n : Nat) (u17 : Int32) (u18 : Int32) (u19 : Nat → Int32), it (fX10_findMost_L3 t_pairs t_pair_a x1) n (u17, u18, u19) = some (x54, x55) → ∀ (H : Heap) (locs : List Loc) (ls : Array Slot), va_P G vwCl [(t_h, .inr (10, [.int t_baseWay, .int t_slip, .int t_low, .int t_high, .int t_unlike, .int t_alone, .long t_above, .long t_below, .ref t_edges_h, .ref t_lean_h, .ref t_word_h, .int t_layers, .ref t_layer_h, .ref t_least_h, .int t_sights, .ref t_sight_h, .int t_shadows, .ref t_shadow_h, .long t_endAbove, .long t_endBelow, .long t_speedAbove, .long t_speedBelow, .int t_spans, .ref t_spanLow_h, .ref t_spanHigh_h, .ref t_spanAt_h, .int t_found, .ref t_numbers_h, .int t_pairs, .ref t_pair_h, .ref t_most_h, .int t_rows, .ref t_row_h, .int t_notes, .ref t_under_h, .ref t_agreed_h])), (t_pair_h, .inl (cI, 120, .inl t_pair_a)), (t_most_h, .inl (cI, 6, .inl u19))] H → va_D A [(t_h, .inr (10, [.int t_baseWay, .int t_slip, .int t_low, .int t_high, .int t_unlike, .int t_alone, .long t_above, .long t_below, .ref t_edges_h, .ref t_lean_h, .ref t_word_h, .int t_layers, .ref t_layer_h, .ref t_least_h, .int t_sights, .ref t_sight_h, .int t_shadows, .ref t_shadow_h, .long t_endAbove, .long t_endBelow, .long t_speedAbove, .long t_speedBelow, .int t_spans, .ref t_spanLow_h, .ref t_spanHigh_h, .ref t_spanAt_h, .int t_found, .ref t_numbers_h, .int t_pairs, .ref t_pair_h, .ref t_most_h, .int t_rows, .ref t_row_h, .int t_notes, .ref t_under_h, .ref t_agreed_h])), (t_pair_h, .inl (cI, 120, .inl t_pair_a)), (t_most_h, .inl (cI, 6, .inl u19))] → va_S A s.heap H locs → lv_has ls 8 [(0, .ref t_h), (1, .int x1), (2, .int u17), (3, .int u13), (4, .int u18)] → W p l e rmX10_findMost s m args below meth c H locs 0 0 Q (F0 m 49 ls []) := by
              intro n
              induction n with
              | zero => intro u17 u18 u19 hz; exact (it_zero hz).elim
              | succ n ih =>
                intro u17 u18 u19 hz H locs ls hP hD hS hl
                obtain ⟨x9, hf, hq⟩ := it_succ hz
                unfold fX10_findMost_L3 at hf
                dsimp only [un3] at hf
                refine lv_iload hx hb dX10_findMost_49 (lv_at hl 4 rfl) ?_
                refine lv_aload_n hx hb dX10_findMost_51 rfl (lv_at hl 0 rfl) ?_
                refine va_get (D := G) (ci := 10) (v := .int t_pairs) (C := RX10) (T := TX10) (N := 36) hx hb hts iwX10 hown hK hP 0 rfl rfl 28 (by decide) fl_176 (fun _ h9 => h9) rfl dX10_findMost_52 ?_
                refine lv_icmp_ge (tgt := 211) hx hb dX10_findMost_55 (by decide) (fun c20 => ?_) (fun c20 => ?_)
                · have hf := ift hf c20
                  cases hf
                  exact hx3_0 _ _ hq _ _ _ hP hD hS (lv_sub hl [0, 1, 2, 3] rfl)
                · have hf := iff_ hf c20
                  refine lv_aload_n hx hb dX10_findMost_58 rfl (lv_at hl 0 rfl) ?_
                  refine va_get (D := G) (ci := 10) (v := .ref t_pair_h) (C := RX10) (T := TX10) (N := 36) hx hb hts iwX10 hown hK hP 0 rfl rfl 29 (by decide) fl_43 (fun _ h9 => h9) rfl dX10_findMost_59 ?_
                  refine lv_iconst (v := 3) hx hb dX10_findMost_62 (by decide) ?_
                  refine lv_iload hx hb dX10_findMost_63 (lv_at hl 4 rfl) ?_
                  refine lv_imul hx hb dX10_findMost_65 ?_
                  obtain ⟨h21, hf⟩ := gd_some hf
                  refine va_iald hx hb hK hP 1 0 rfl rfl (bnd_in h21) dX10_findMost_66 ?_
                  refine lv_topi (fun v22 ev22 => ?_)
                  have hf := bv_at ev22 hf
                  refine lv_istore (lv' := [(5, .int v22), (0, .ref t_h), (1, .int x1), (2, .int u17), (3, .int u13), (4, .int u18)]) hx hb dX10_findMost_67 hl (by decide) rfl (fun ls hl => ?_)
                  refine lv_aload_n hx hb dX10_findMost_69 rfl (lv_at hl 1 rfl) ?_
                  refine va_get (D := G) (ci := 10) (v := .ref t_pair_h) (C := RX10) (T := TX10) (N := 36) hx hb hts iwX10 hown hK hP 0 rfl rfl 29 (by decide) fl_43 (fun _ h9 => h9) rfl dX10_findMost_70 ?_
                  refine lv_iconst (v := 3) hx hb dX10_findMost_73 (by decide) ?_
                  refine lv_iload hx hb dX10_findMost_74 (lv_at hl 5 rfl) ?_
                  refine lv_imul hx hb dX10_findMost_76 ?_
                  refine lv_iconst (v := 1) hx hb dX10_findMost_77 (by decide) ?_
                  refine lv_iadd hx hb dX10_findMost_78 ?_
                  obtain ⟨h23, hf⟩ := gd_some hf
                  refine va_iald hx hb hK hP 1 0 rfl rfl (bnd_in h23) dX10_findMost_79 ?_
                  refine lv_topi (fun v24 ev24 => ?_)
                  have hf := bv_at ev24 hf
                  refine lv_istore (lv' := [(6, .int v24), (5, .int v22), (0, .ref t_h), (1, .int x1), (2, .int u17), (3, .int u13), (4, .int u18)]) hx hb dX10_findMost_80 hl (by decide) rfl (fun ls hl => ?_)
                  refine lv_aload_n hx hb dX10_findMost_82 rfl (lv_at hl 2 rfl) ?_
                  refine va_get (D := G) (ci := 10) (v := .ref t_pair_h) (C := RX10) (T := TX10) (N := 36) hx hb hts iwX10 hown hK hP 0 rfl rfl 29 (by decide) fl_43 (fun _ h9 => h9) rfl dX10_findMost_83 ?_
                  refine lv_iconst (v := 3) hx hb dX10_findMost_86 (by decide) ?_
                  refine lv_iload hx hb dX10_findMost_87 (lv_at hl 6 rfl) ?_
                  refine lv_imul hx hb dX10_findMost_89 ?_
                  refine lv_iconst (v := 2) hx hb dX10_findMost_90 (by decide) ?_
                  refine lv_iadd hx hb dX10_findMost_91 ?_
                  obtain ⟨h25, hf⟩ := gd_some hf
                  refine va_iald hx hb hK hP 1 0 rfl rfl (bnd_in h25) dX10_findMost_92 ?_
                  refine lv_topi (fun v26 ev26 => ?_)
                  have hf := bv_at ev26 hf
                  refine lv_istore (lv' := [(7, .int v26), (6, .int v24), (5, .int v22), (0, .ref t_h), (1, .int x1), (2, .int u17), (3, .int u13), (4, .int u18)]) hx hb dX10_findMost_93 hl (by decide) rfl (fun ls hl => ?_)
                  refine lv_aload_n hx hb dX10_findMost_95 rfl (lv_at hl 3 rfl) ?_
                  refine va_get (D := G) (ci := 10) (v := .ref t_most_h) (C := RX10) (T := TX10) (N := 36) hx hb hts iwX10 hown hK hP 0 rfl rfl 30 (by decide) fl_46 (fun _ h9 => h9) rfl dX10_findMost_96 ?_
                  refine lv_iload hx hb dX10_findMost_99 (lv_at hl 1 rfl) ?_
                  obtain ⟨h27, hf⟩ := gd_some hf
                  refine va_iald hx hb hK hP 2 0 rfl rfl (bnd_in h27) dX10_findMost_101 ?_
                  refine lv_ldc (v := 100000000) hx hb hown kc_183 dX10_findMost_102 ?_
                  obtain ⟨m28, m29, hr30, hf⟩ := ob2_some hf
                  have hj31 : ∀ (m289 : Int32) (m299 : Nat → Int32), some (m289, m299) = some (m28, m29) → ∀ (H : Heap) (locs : List Loc) (ls : Array Slot), va_P G vwCl [(t_h, .inr (10, [.int t_baseWay, .int t_slip, .int t_low, .int t_high, .int t_unlike, .int t_alone, .long t_above, .long t_below, .ref t_edges_h, .ref t_lean_h, .ref t_word_h, .int t_layers, .ref t_layer_h, .ref t_least_h, .int t_sights, .ref t_sight_h, .int t_shadows, .ref t_shadow_h, .long t_endAbove, .long t_endBelow, .long t_speedAbove, .long t_speedBelow, .int t_spans, .ref t_spanLow_h, .ref t_spanHigh_h, .ref t_spanAt_h, .int t_found, .ref t_numbers_h, .int t_pairs, .ref t_pair_h, .ref t_most_h, .int t_rows, .ref t_row_h, .int t_notes, .ref t_under_h, .ref t_agreed_h])), (t_pair_h, .inl (cI, 120, .inl t_pair_a)), (t_most_h, .inl (cI, 6, .inl m299))] H → va_D A [(t_h, .inr (10, [.int t_baseWay, .int t_slip, .int t_low, .int t_high, .int t_unlike, .int t_alone, .long t_above, .long t_below, .ref t_edges_h, .ref t_lean_h, .ref t_word_h, .int t_layers, .ref t_layer_h, .ref t_least_h, .int t_sights, .ref t_sight_h, .int t_shadows, .ref t_shadow_h, .long t_endAbove, .long t_endBelow, .long t_speedAbove, .long t_speedBelow, .int t_spans, .ref t_spanLow_h, .ref t_spanHigh_h, .ref t_spanAt_h, .int t_found, .ref t_numbers_h, .int t_pairs, .ref t_pair_h, .ref t_most_h, .int t_rows, .ref t_row_h, .int t_notes, .ref t_under_h, .ref t_agreed_h])), (t_pair_h, .inl (cI, 120, .inl t_pair_a)), (t_most_h, .inl (cI, 6, .inl m299))] → va_S A s.heap H locs → lv_has ls 8 [(0, .ref t_h), (1, .int x1), (2, .int m289), (3, .int u13), (4, .int u18), (5, .int v22), (6, .int v24), (7, .int v26)] → W p l e rmX10_findMost s m args below meth c H locs 0 0 Q (F0 m 150 ls []) := by
                    intro m289 m299 he H locs ls hP hD hS hl
                    cases he
                    refine lv_aload_n hx hb dX10_findMost_150 rfl (lv_at hl 0 rfl) ?_
                    refine va_get (D := G) (ci := 10) (v := .ref t_most_h) (C := RX10) (T := TX10) (N := 36) hx hb hts iwX10 hown hK hP 0 rfl rfl 30 (by decide) fl_46 (fun _ h9 => h9) rfl dX10_findMost_151 ?_
                    refine lv_iload hx hb dX10_findMost_154 (lv_at hl 5 rfl) ?_
                    obtain ⟨h40, hf⟩ := gd_some hf
                    refine va_iald hx hb hK hP 2 0 rfl rfl (bnd_in h40) dX10_findMost_156 ?_
                    refine lv_ldc (v := 100000000) hx hb hown kc_183 dX10_findMost_157 ?_
                    obtain ⟨m41, m42, hr43, hf⟩ := ob2_some hf
                    have hj44 : ∀ (m419 : Int32) (m429 : Nat → Int32), some (m419, m429) = some (m41, m42) → ∀ (H : Heap) (locs : List Loc) (ls : Array Slot), va_P G vwCl [(t_h, .inr (10, [.int t_baseWay, .int t_slip, .int t_low, .int t_high, .int t_unlike, .int t_alone, .long t_above, .long t_below, .ref t_edges_h, .ref t_lean_h, .ref t_word_h, .int t_layers, .ref t_layer_h, .ref t_least_h, .int t_sights, .ref t_sight_h, .int t_shadows, .ref t_shadow_h, .long t_endAbove, .long t_endBelow, .long t_speedAbove, .long t_speedBelow, .int t_spans, .ref t_spanLow_h, .ref t_spanHigh_h, .ref t_spanAt_h, .int t_found, .ref t_numbers_h, .int t_pairs, .ref t_pair_h, .ref t_most_h, .int t_rows, .ref t_row_h, .int t_notes, .ref t_under_h, .ref t_agreed_h])), (t_pair_h, .inl (cI, 120, .inl t_pair_a)), (t_most_h, .inl (cI, 6, .inl m429))] H → va_D A [(t_h, .inr (10, [.int t_baseWay, .int t_slip, .int t_low, .int t_high, .int t_unlike, .int t_alone, .long t_above, .long t_below, .ref t_edges_h, .ref t_lean_h, .ref t_word_h, .int t_layers, .ref t_layer_h, .ref t_least_h, .int t_sights, .ref t_sight_h, .int t_shadows, .ref t_shadow_h, .long t_endAbove, .long t_endBelow, .long t_speedAbove, .long t_speedBelow, .int t_spans, .ref t_spanLow_h, .ref t_spanHigh_h, .ref t_spanAt_h, .int t_found, .ref t_numbers_h, .int t_pairs, .ref t_pair_h, .ref t_most_h, .int t_rows, .ref t_row_h, .int t_notes, .ref t_under_h, .ref t_agreed_h])), (t_pair_h, .inl (cI, 120, .inl t_pair_a)), (t_most_h, .inl (cI, 6, .inl m429))] → va_S A s.heap H locs → lv_has ls 8 [(0, .ref t_h), (1, .int x1), (2, .int m419), (3, .int u13), (4, .int u18)] → W p l e rmX10_findMost s m args below meth c H locs 0 0 Q (F0 m 205 ls []) := by
                      intro m419 m429 he H locs ls hP hD hS hl
                      cases he
                      obtain ⟨v53, ev53⟩ : ∃ y : Int32, y = u18 + 1 := ⟨_, rfl⟩
                      have hf := bv_at ev53 hf
                      refine lv_iinc (v := v53) (lv' := [(4, .int v53), (0, .ref t_h), (1, .int x1), (2, .int m41), (3, .int u13)]) hx hb dX10_findMost_205 hl (k := 4) rfl (by rw [ev53]; rfl) (by decide) rfl (fun ls hl => ?_)
                      refine lv_goto (tgt := 49) hx hb dX10_findMost_208 (by decide) ?_
                      cases hf
                      exact ih _ _ _ hq _ _ _ hP hD hS (lv_sub hl [1, 2, 3, 4, 0] rfl)
                    replace hf := hr43
                    refine lv_icmp_ge (tgt := 205) hx hb dX10_findMost_159 (by decide) (fun c45 => ?_) (fun c45 => ?_)
                    · have hf := ift hf c45
                      exact hj44 _ _ hf _ _ _ hP hD hS (lv_sub hl [0, 1, 2, 3, 4] rfl)
                    · have hf := iff_ hf c45
                      refine lv_aload_n hx hb dX10_findMost_162 rfl (lv_at hl 0 rfl) ?_
                      refine va_get (D := G) (ci := 10) (v := .ref t_most_h) (C := RX10) (T := TX10) (N := 36) hx hb hts iwX10 hown hK hP 0 rfl rfl 30 (by decide) fl_46 (fun _ h9 => h9) rfl dX10_findMost_163 ?_
                      refine lv_iload hx hb dX10_findMost_166 (lv_at hl 5 rfl) ?_
                      obtain ⟨h46, hf⟩ := gd_some hf
                      refine va_iald hx hb hK hP 2 0 rfl rfl (bnd_in h46) dX10_findMost_168 ?_
                      refine lv_iload hx hb dX10_findMost_169 (lv_at hl 7 rfl) ?_
                      refine lv_isub hx hb dX10_findMost_171 ?_
                      refine lv_iload_n hx hb dX10_findMost_172 rfl (lv_at hl 1 rfl) ?_
                      refine lv_iadd hx hb dX10_findMost_173 ?_
                      refine lv_aload_n hx hb dX10_findMost_174 rfl (lv_at hl 0 rfl) ?_
                      refine va_get (D := G) (ci := 10) (v := .ref t_most_h) (C := RX10) (T := TX10) (N := 36) hx hb hts iwX10 hown hK hP 0 rfl rfl 30 (by decide) fl_46 (fun _ h9 => h9) rfl dX10_findMost_175 ?_
                      refine lv_iload hx hb dX10_findMost_178 (lv_at hl 6 rfl) ?_
                      obtain ⟨h47, hf⟩ := gd_some hf
                      refine va_iald hx hb hK hP 2 0 rfl rfl (bnd_in h47) dX10_findMost_180 ?_
                      refine lv_icmp_ge (tgt := 205) hx hb dX10_findMost_181 (by decide) (fun c48 => ?_) (fun c48 => ?_)
                      · have hf := ift hf c48
                        exact hj44 _ _ hf _ _ _ hP hD hS (lv_sub hl [0, 1, 2, 3, 4] rfl)
                      · have hf := iff_ hf c48
                        refine lv_aload_n hx hb dX10_findMost_184 rfl (lv_at hl 0 rfl) ?_
                        refine va_get (D := G) (ci := 10) (v := .ref t_most_h) (C := RX10) (T := TX10) (N := 36) hx hb hts iwX10 hown hK hP 0 rfl rfl 30 (by decide) fl_46 (fun _ h9 => h9) rfl dX10_findMost_185 ?_
                        refine lv_iload hx hb dX10_findMost_188 (lv_at hl 6 rfl) ?_
                        refine lv_aload_n hx hb dX10_findMost_190 rfl (lv_at hl 0 rfl) ?_
                        refine va_get (D := G) (ci := 10) (v := .ref t_most_h) (C := RX10) (T := TX10) (N := 36) hx hb hts iwX10 hown hK hP 0 rfl rfl 30 (by decide) fl_46 (fun _ h9 => h9) rfl dX10_findMost_191 ?_
                        refine lv_iload hx hb dX10_findMost_194 (lv_at hl 5 rfl) ?_
                        obtain ⟨h49, hf⟩ := gd_some hf
                        refine va_iald hx hb hK hP 2 0 rfl rfl (bnd_in h49) dX10_findMost_196 ?_
                        refine lv_iload hx hb dX10_findMost_197 (lv_at hl 7 rfl) ?_
                        refine lv_isub hx hb dX10_findMost_199 ?_
                        refine lv_iload_n hx hb dX10_findMost_200 rfl (lv_at hl 1 rfl) ?_
                        refine lv_iadd hx hb dX10_findMost_201 ?_
                        refine lv_topi (fun v50 ev50 => ?_)
                        have hf := bv_at ev50 hf
                        obtain ⟨h51, hf⟩ := gd_some hf
                        obtain ⟨a52, ea52⟩ : ∃ y : Nat → Int32, y = upd m29 (Int32.toNatClampNeg v24) v50 := ⟨_, rfl⟩
                        have hf := bv_at ea52 hf
                        refine va_iast hx hb hK hP hD hS 2 0 rfl rfl (bnd_in h51) dX10_findMost_202 (fun H locs hP hD hS => ?_)
                        have hP : va_P G vwCl [(t_h, .inr (10, [.int t_baseWay, .int t_slip, .int t_low, .int t_high, .int t_unlike, .int t_alone, .long t_above, .long t_below, .ref t_edges_h, .ref t_lean_h, .ref t_word_h, .int t_layers, .ref t_layer_h, .ref t_least_h, .int t_sights, .ref t_sight_h, .int t_shadows, .ref t_shadow_h, .long t_endAbove, .long t_endBelow, .long t_speedAbove, .long t_speedBelow, .int t_spans, .ref t_spanLow_h, .ref t_spanHigh_h, .ref t_spanAt_h, .int t_found, .ref t_numbers_h, .int t_pairs, .ref t_pair_h, .ref t_most_h, .int t_rows, .ref t_row_h, .int t_notes, .ref t_under_h, .ref t_agreed_h])), (t_pair_h, .inl (cI, 120, .inl t_pair_a)), (t_most_h, .inl (cI, 6, .inl a52))] H := by rw [ea52]; exact hP
                        have hD : va_D A [(t_h, .inr (10, [.int t_baseWay, .int t_slip, .int t_low, .int t_high, .int t_unlike, .int t_alone, .long t_above, .long t_below, .ref t_edges_h, .ref t_lean_h, .ref t_word_h, .int t_layers, .ref t_layer_h, .ref t_least_h, .int t_sights, .ref t_sight_h, .int t_shadows, .ref t_shadow_h, .long t_endAbove, .long t_endBelow, .long t_speedAbove, .long t_speedBelow, .int t_spans, .ref t_spanLow_h, .ref t_spanHigh_h, .ref t_spanAt_h, .int t_found, .ref t_numbers_h, .int t_pairs, .ref t_pair_h, .ref t_most_h, .int t_rows, .ref t_row_h, .int t_notes, .ref t_under_h, .ref t_agreed_h])), (t_pair_h, .inl (cI, 120, .inl t_pair_a)), (t_most_h, .inl (cI, 6, .inl a52))] := by rw [ea52]; exact hD
                        refine lv_iconst (v := 1) hx hb dX10_findMost_203 (by decide) ?_
                        refine lv_istore_n (lv' := [(2, .int 1), (0, .ref t_h), (1, .int x1), (3, .int u13), (4, .int u18), (5, .int v22), (6, .int v24), (7, .int v26)]) hx hb dX10_findMost_204 rfl hl (by decide) rfl (fun ls hl => ?_)
                        exact hj44 _ _ hf _ _ _ hP hD hS (lv_sub hl [1, 2, 0, 3, 4] rfl)
                  replace hf := hr30
                  refine lv_icmp_ge (tgt := 150) hx hb dX10_findMost_104 (by decide) (fun c32 => ?_) (fun c32 => ?_)
                  · have hf := ift hf c32
                    exact hj31 _ _ hf _ _ _ hP hD hS (lv_sub hl [3, 4, 5, 6, 7, 2, 1, 0] rfl)
                  · have hf := iff_ hf c32
                    refine lv_aload_n hx hb dX10_findMost_107 rfl (lv_at hl 3 rfl) ?_
                    refine va_get (D := G) (ci := 10) (v := .ref t_most_h) (C := RX10) (T := TX10) (N := 36) hx hb hts iwX10 hown hK hP 0 rfl rfl 30 (by decide) fl_46 (fun _ h9 => h9) rfl dX10_findMost_108 ?_
                    refine lv_iload hx hb dX10_findMost_111 (lv_at hl 1 rfl) ?_
                    obtain ⟨h33, hf⟩ := gd_some hf
                    refine va_iald hx hb hK hP 2 0 rfl rfl (bnd_in h33) dX10_findMost_113 ?_
                    refine lv_iload hx hb dX10_findMost_114 (lv_at hl 0 rfl) ?_
                    refine lv_iadd hx hb dX10_findMost_116 ?_
                    refine lv_iload_n hx hb dX10_findMost_117 rfl (lv_at hl 4 rfl) ?_
                    refine lv_iadd hx hb dX10_findMost_118 ?_
                    refine lv_aload_n hx hb dX10_findMost_119 rfl (lv_at hl 3 rfl) ?_
                    refine va_get (D := G) (ci := 10) (v := .ref t_most_h) (C := RX10) (T := TX10) (N := 36) hx hb hts iwX10 hown hK hP 0 rfl rfl 30 (by decide) fl_46 (fun _ h9 => h9) rfl dX10_findMost_120 ?_
                    refine lv_iload hx hb dX10_findMost_123 (lv_at hl 2 rfl) ?_
                    obtain ⟨h34, hf⟩ := gd_some hf
                    refine va_iald hx hb hK hP 2 0 rfl rfl (bnd_in h34) dX10_findMost_125 ?_
                    refine lv_icmp_ge (tgt := 150) hx hb dX10_findMost_126 (by decide) (fun c35 => ?_) (fun c35 => ?_)
                    · have hf := ift hf c35
                      exact hj31 _ _ hf _ _ _ hP hD hS (lv_sub hl [3, 4, 5, 6, 7, 2, 1, 0] rfl)
                    · have hf := iff_ hf c35
                      refine lv_aload_n hx hb dX10_findMost_129 rfl (lv_at hl 3 rfl) ?_
                      refine va_get (D := G) (ci := 10) (v := .ref t_most_h) (C := RX10) (T := TX10) (N := 36) hx hb hts iwX10 hown hK hP 0 rfl rfl 30 (by decide) fl_46 (fun _ h9 => h9) rfl dX10_findMost_130 ?_
                      refine lv_iload hx hb dX10_findMost_133 (lv_at hl 2 rfl) ?_
                      refine lv_aload_n hx hb dX10_findMost_135 rfl (lv_at hl 3 rfl) ?_
                      refine va_get (D := G) (ci := 10) (v := .ref t_most_h) (C := RX10) (T := TX10) (N := 36) hx hb hts iwX10 hown hK hP 0 rfl rfl 30 (by decide) fl_46 (fun _ h9 => h9) rfl dX10_findMost_136 ?_
                      refine lv_iload hx hb dX10_findMost_139 (lv_at hl 1 rfl) ?_
                      obtain ⟨h36, hf⟩ := gd_some hf
                      refine va_iald hx hb hK hP 2 0 rfl rfl (bnd_in h36) dX10_findMost_141 ?_
                      refine lv_iload hx hb dX10_findMost_142 (lv_at hl 0 rfl) ?_
                      refine lv_iadd hx hb dX10_findMost_144 ?_
                      refine lv_iload_n hx hb dX10_findMost_145 rfl (lv_at hl 4 rfl) ?_
                      refine lv_iadd hx hb dX10_findMost_146 ?_
                      refine lv_topi (fun v37 ev37 => ?_)
                      have hf := bv_at ev37 hf
                      obtain ⟨h38, hf⟩ := gd_some hf
                      obtain ⟨a39, ea39⟩ : ∃ y : Nat → Int32, y = upd u19 (Int32.toNatClampNeg v22) v37 := ⟨_, rfl⟩
                      have hf := bv_at ea39 hf
                      refine va_iast hx hb hK hP hD hS 2 0 rfl rfl (bnd_in h38) dX10_findMost_147 (fun H locs hP hD hS => ?_)
                      have hP : va_P G vwCl [(t_h, .inr (10, [.int t_baseWay, .int t_slip, .int t_low, .int t_high, .int t_unlike, .int t_alone, .long t_above, .long t_below, .ref t_edges_h, .ref t_lean_h, .ref t_word_h, .int t_layers, .ref t_layer_h, .ref t_least_h, .int t_sights, .ref t_sight_h, .int t_shadows, .ref t_shadow_h, .long t_endAbove, .long t_endBelow, .long t_speedAbove, .long t_speedBelow, .int t_spans, .ref t_spanLow_h, .ref t_spanHigh_h, .ref t_spanAt_h, .int t_found, .ref t_numbers_h, .int t_pairs, .ref t_pair_h, .ref t_most_h, .int t_rows, .ref t_row_h, .int t_notes, .ref t_under_h, .ref t_agreed_h])), (t_pair_h, .inl (cI, 120, .inl t_pair_a)), (t_most_h, .inl (cI, 6, .inl a39))] H := by rw [ea39]; exact hP
                      have hD : va_D A [(t_h, .inr (10, [.int t_baseWay, .int t_slip, .int t_low, .int t_high, .int t_unlike, .int t_alone, .long t_above, .long t_below, .ref t_edges_h, .ref t_lean_h, .ref t_word_h, .int t_layers, .ref t_layer_h, .ref t_least_h, .int t_sights, .ref t_sight_h, .int t_shadows, .ref t_shadow_h, .long t_endAbove, .long t_endBelow, .long t_speedAbove, .long t_speedBelow, .int t_spans, .ref t_spanLow_h, .ref t_spanHigh_h, .ref t_spanAt_h, .int t_found, .ref t_numbers_h, .int t_pairs, .ref t_pair_h, .ref t_most_h, .int t_rows, .ref t_row_h, .int t_notes, .ref t_under_h, .ref t_agreed_h])), (t_pair_h, .inl (cI, 120, .inl t_pair_a)), (t_most_h, .inl (cI, 6, .inl a39))] := by rw [ea39]; exact hD
                      refine lv_iconst (v := 1) hx hb dX10_findMost_148 (by decide) ?_
                      refine lv_istore_n (lv' := [(2, .int 1), (7, .int v26), (6, .int v24), (5, .int v22), (0, .ref t_h), (1, .int x1), (3, .int u13), (4, .int u18)]) hx hb dX10_findMost_149 rfl hl (by decide) rfl (fun ls hl => ?_)
                      exact hj31 _ _ hf _ _ _ hP hD hS (lv_sub hl [4, 5, 0, 6, 7, 3, 2, 1] rfl)
            exact hl3 _ _ _ _ ht3 _ _ _ hP hD hS (lv_sub hl [2, 3, 1, 4, 0] rfl)
    exact hl2 _ _ _ _ ht2 _ _ _ hP hD hS (lv_sub hl [2, 3, 1, 0] rfl)
  clear hf
  have hl1 : ∀ (n : Nat) (u1 : Int32) (u2 : Nat → Int32), it (fX10_findMost_L1) n (u1, u2) = some x11 → ∀ (H : Heap) (locs : List Loc) (ls : Array Slot), va_P G vwCl [(t_h, .inr (10, [.int t_baseWay, .int t_slip, .int t_low, .int t_high, .int t_unlike, .int t_alone, .long t_above, .long t_below, .ref t_edges_h, .ref t_lean_h, .ref t_word_h, .int t_layers, .ref t_layer_h, .ref t_least_h, .int t_sights, .ref t_sight_h, .int t_shadows, .ref t_shadow_h, .long t_endAbove, .long t_endBelow, .long t_speedAbove, .long t_speedBelow, .int t_spans, .ref t_spanLow_h, .ref t_spanHigh_h, .ref t_spanAt_h, .int t_found, .ref t_numbers_h, .int t_pairs, .ref t_pair_h, .ref t_most_h, .int t_rows, .ref t_row_h, .int t_notes, .ref t_under_h, .ref t_agreed_h])), (t_pair_h, .inl (cI, 120, .inl t_pair_a)), (t_most_h, .inl (cI, 6, .inl u2))] H → va_D A [(t_h, .inr (10, [.int t_baseWay, .int t_slip, .int t_low, .int t_high, .int t_unlike, .int t_alone, .long t_above, .long t_below, .ref t_edges_h, .ref t_lean_h, .ref t_word_h, .int t_layers, .ref t_layer_h, .ref t_least_h, .int t_sights, .ref t_sight_h, .int t_shadows, .ref t_shadow_h, .long t_endAbove, .long t_endBelow, .long t_speedAbove, .long t_speedBelow, .int t_spans, .ref t_spanLow_h, .ref t_spanHigh_h, .ref t_spanAt_h, .int t_found, .ref t_numbers_h, .int t_pairs, .ref t_pair_h, .ref t_most_h, .int t_rows, .ref t_row_h, .int t_notes, .ref t_under_h, .ref t_agreed_h])), (t_pair_h, .inl (cI, 120, .inl t_pair_a)), (t_most_h, .inl (cI, 6, .inl u2))] → va_S A s.heap H locs → lv_has ls 8 [(0, .ref t_h), (1, .int x1), (2, .int u1)] → W p l e rmX10_findMost s m args below meth c H locs 0 0 Q (F0 m 2 ls []) := by
    intro n
    induction n with
    | zero => intro u1 u2 hz; exact (it_zero hz).elim
    | succ n ih =>
      intro u1 u2 hz H locs ls hP hD hS hl
      obtain ⟨x9, hf, hq⟩ := it_succ hz
      unfold fX10_findMost_L1 at hf
      dsimp only [un2] at hf
      refine lv_iload_n hx hb dX10_findMost_2 rfl (lv_at hl 2 rfl) ?_
      refine lv_bipush (v := 6) hx hb dX10_findMost_3 (by decide) ?_
      refine lv_icmp_ge (tgt := 30) hx hb dX10_findMost_5 (by decide) (fun c3 => ?_) (fun c3 => ?_)
      · have hf := ift hf c3
        cases hf
        exact hx1_0 _ hq _ _ _ hP hD hS (lv_sub hl [0, 1] rfl)
      · have hf := iff_ hf c3
        refine lv_aload_n hx hb dX10_findMost_8 rfl (lv_at hl 0 rfl) ?_
        refine va_get (D := G) (ci := 10) (v := .ref t_most_h) (C := RX10) (T := TX10) (N := 36) hx hb hts iwX10 hown hK hP 0 rfl rfl 30 (by decide) fl_46 (fun _ h9 => h9) rfl dX10_findMost_9 ?_
        refine lv_iload_n hx hb dX10_findMost_12 rfl (lv_at hl 2 rfl) ?_
        refine lv_iload_n hx hb dX10_findMost_13 rfl (lv_at hl 2 rfl) ?_
        obtain ⟨m4, hr5, hf⟩ := ob_some hf
        have hj6 : ∀ (m49 : Int32), some m49 = some m4 → ∀ (H : Heap) (locs : List Loc) (ls : Array Slot), va_P G vwCl [(t_h, .inr (10, [.int t_baseWay, .int t_slip, .int t_low, .int t_high, .int t_unlike, .int t_alone, .long t_above, .long t_below, .ref t_edges_h, .ref t_lean_h, .ref t_word_h, .int t_layers, .ref t_layer_h, .ref t_least_h, .int t_sights, .ref t_sight_h, .int t_shadows, .ref t_shadow_h, .long t_endAbove, .long t_endBelow, .long t_speedAbove, .long t_speedBelow, .int t_spans, .ref t_spanLow_h, .ref t_spanHigh_h, .ref t_spanAt_h, .int t_found, .ref t_numbers_h, .int t_pairs, .ref t_pair_h, .ref t_most_h, .int t_rows, .ref t_row_h, .int t_notes, .ref t_under_h, .ref t_agreed_h])), (t_pair_h, .inl (cI, 120, .inl t_pair_a)), (t_most_h, .inl (cI, 6, .inl u2))] H → va_D A [(t_h, .inr (10, [.int t_baseWay, .int t_slip, .int t_low, .int t_high, .int t_unlike, .int t_alone, .long t_above, .long t_below, .ref t_edges_h, .ref t_lean_h, .ref t_word_h, .int t_layers, .ref t_layer_h, .ref t_least_h, .int t_sights, .ref t_sight_h, .int t_shadows, .ref t_shadow_h, .long t_endAbove, .long t_endBelow, .long t_speedAbove, .long t_speedBelow, .int t_spans, .ref t_spanLow_h, .ref t_spanHigh_h, .ref t_spanAt_h, .int t_found, .ref t_numbers_h, .int t_pairs, .ref t_pair_h, .ref t_most_h, .int t_rows, .ref t_row_h, .int t_notes, .ref t_under_h, .ref t_agreed_h])), (t_pair_h, .inl (cI, 120, .inl t_pair_a)), (t_most_h, .inl (cI, 6, .inl u2))] → va_S A s.heap H locs → lv_has ls 8 [(0, .ref t_h), (1, .int x1), (2, .int u1)] → W p l e rmX10_findMost s m args below meth c H locs 0 0 Q (F0 m 23 ls [.int m49, .int u1, .ref t_most_h]) := by
          intro m49 he H locs ls hP hD hS hl
          cases he
          obtain ⟨h8, hf⟩ := gd_some hf
          obtain ⟨a9, ea9⟩ : ∃ y : Nat → Int32, y = upd u2 (Int32.toNatClampNeg u1) m4 := ⟨_, rfl⟩
          have hf := bv_at ea9 hf
          refine va_iast hx hb hK hP hD hS 2 0 rfl rfl (bnd_in h8) dX10_findMost_23 (fun H locs hP hD hS => ?_)
          have hP : va_P G vwCl [(t_h, .inr (10, [.int t_baseWay, .int t_slip, .int t_low, .int t_high, .int t_unlike, .int t_alone, .long t_above, .long t_below, .ref t_edges_h, .ref t_lean_h, .ref t_word_h, .int t_layers, .ref t_layer_h, .ref t_least_h, .int t_sights, .ref t_sight_h, .int t_shadows, .ref t_shadow_h, .long t_endAbove, .long t_endBelow, .long t_speedAbove, .long t_speedBelow, .int t_spans, .ref t_spanLow_h, .ref t_spanHigh_h, .ref t_spanAt_h, .int t_found, .ref t_numbers_h, .int t_pairs, .ref t_pair_h, .ref t_most_h, .int t_rows, .ref t_row_h, .int t_notes, .ref t_under_h, .ref t_agreed_h])), (t_pair_h, .inl (cI, 120, .inl t_pair_a)), (t_most_h, .inl (cI, 6, .inl a9))] H := by rw [ea9]; exact hP
          have hD : va_D A [(t_h, .inr (10, [.int t_baseWay, .int t_slip, .int t_low, .int t_high, .int t_unlike, .int t_alone, .long t_above, .long t_below, .ref t_edges_h, .ref t_lean_h, .ref t_word_h, .int t_layers, .ref t_layer_h, .ref t_least_h, .int t_sights, .ref t_sight_h, .int t_shadows, .ref t_shadow_h, .long t_endAbove, .long t_endBelow, .long t_speedAbove, .long t_speedBelow, .int t_spans, .ref t_spanLow_h, .ref t_spanHigh_h, .ref t_spanAt_h, .int t_found, .ref t_numbers_h, .int t_pairs, .ref t_pair_h, .ref t_most_h, .int t_rows, .ref t_row_h, .int t_notes, .ref t_under_h, .ref t_agreed_h])), (t_pair_h, .inl (cI, 120, .inl t_pair_a)), (t_most_h, .inl (cI, 6, .inl a9))] := by rw [ea9]; exact hD
          obtain ⟨v10, ev10⟩ : ∃ y : Int32, y = u1 + 1 := ⟨_, rfl⟩
          have hf := bv_at ev10 hf
          refine lv_iinc (v := v10) (lv' := [(2, .int v10), (0, .ref t_h), (1, .int x1)]) hx hb dX10_findMost_24 hl (k := 2) rfl (by rw [ev10]; rfl) (by decide) rfl (fun ls hl => ?_)
          refine lv_goto (tgt := 2) hx hb dX10_findMost_27 (by decide) ?_
          cases hf
          exact ih _ _ hq _ _ _ hP hD hS (lv_sub hl [1, 2, 0] rfl)
        replace hf := hr5
        refine lv_if_ne (tgt := 21) hx hb dX10_findMost_14 (by decide) (fun c7 => ?_) (fun c7 => ?_)
        · have hf := iff_ hf c7
          refine lv_ldc (v := 100000000) hx hb hown kc_183 dX10_findMost_21 ?_
          exact hj6 _ hf _ _ _ hP hD hS (lv_sub hl [0, 1, 2] rfl)
        · have hf := ift hf c7
          refine lv_iconst (v := 0) hx hb dX10_findMost_17 (by decide) ?_
          refine lv_goto (tgt := 23) hx hb dX10_findMost_18 (by decide) ?_
          exact hj6 _ hf _ _ _ hP hD hS (lv_sub hl [0, 1, 2] rfl)
  exact hl1 _ _ _ ht1 _ _ _ hP hD hS (lv_sub hl [1, 2, 0] rfl)
set_option maxRecDepth 20000 in
theorem ggX10_worstOf_X10_areJoined : GoodIn wsX10_worstOf wsX10_areJoined := goodIn_r _ [5, 6, 7, 8, 9, 10, 4, 11, 18, 19, 20, 21, 22, 23, 24, 25, 26, 27, 28, 29, 30, 31, 32, 33, 34, 35, 36, 37, 38, 39, 40, 41, 42, 43, 44, 45, 46, 47, 48, 49, 50, 51, 52, 53] (by decide +kernel) (by decide +kernel)
set_option maxRecDepth 20000 in
theorem gX10_worstOf_X10_areJoined : GoodIn wsX10_worstOf (wsV RX10 184 RX10 yX10_areJoined wsX10_areJoined) := goodIn_app (goodIn_of _ (by decide +kernel)) ggX10_worstOf_X10_areJoined
set_option maxRecDepth 20000 in
theorem ggX10_worstOf_X10_findMost : GoodIn wsX10_worstOf wsX10_findMost := goodIn_r _ [15, 16, 17, 6, 7, 18, 19, 20, 21, 22, 23, 24, 25, 26, 27, 28, 29, 30, 31, 32, 33, 34, 35, 36, 37, 38, 39, 40, 41, 42, 43, 44, 45, 46, 47, 48, 49, 50, 51, 52, 53] (by decide +kernel) (by decide +kernel)
set_option maxRecDepth 20000 in
theorem gX10_worstOf_X10_findMost : GoodIn wsX10_worstOf (wsV RX10 188 RX10 yX10_findMost wsX10_findMost) := goodIn_app (goodIn_of _ (by decide +kernel)) ggX10_worstOf_X10_findMost
theorem dX10_worstOf_0 : decode cX10_worstOf 0 = .ok (.aload_n 0, 1) := by decide +kernel
theorem dX10_worstOf_1 : decode cX10_worstOf 1 = .ok (.invokevirtual 184, 3) := by decide +kernel
theorem dX10_worstOf_4 : decode cX10_worstOf 4 = .ok (.ifCond .ne 5, 3) := by decide +kernel
theorem dX10_worstOf_7 : decode cX10_worstOf 7 = .ok (.iconst (-1), 1) := by decide +kernel
theorem dX10_worstOf_8 : decode cX10_worstOf 8 = .ok (.ireturn, 1) := by decide +kernel
theorem dX10_worstOf_9 : decode cX10_worstOf 9 = .ok (.iconst 0, 1) := by decide +kernel
theorem dX10_worstOf_10 : decode cX10_worstOf 10 = .ok (.istore_n 1, 1) := by decide +kernel
theorem dX10_worstOf_11 : decode cX10_worstOf 11 = .ok (.aload_n 0, 1) := by decide +kernel
theorem dX10_worstOf_12 : decode cX10_worstOf 12 = .ok (.iload_n 1, 1) := by decide +kernel
theorem dX10_worstOf_13 : decode cX10_worstOf 13 = .ok (.invokevirtual 188, 3) := by decide +kernel
theorem dX10_worstOf_16 : decode cX10_worstOf 16 = .ok (.ifCond .ne 9, 3) := by decide +kernel
theorem dX10_worstOf_19 : decode cX10_worstOf 19 = .ok (.iinc 1 1, 3) := by decide +kernel
theorem dX10_worstOf_22 : decode cX10_worstOf 22 = .ok (.goto (-11), 3) := by decide +kernel
theorem dX10_worstOf_25 : decode cX10_worstOf 25 = .ok (.iload_n 1, 1) := by decide +kernel
theorem dX10_worstOf_26 : decode cX10_worstOf 26 = .ok (.ireturn, 1) := by decide +kernel
set_option maxRecDepth 100000 in
def fX10_worstOf_L1 (t_pairs : Int32) (t_pair_a : Nat → Int32) : (Int32 × (Nat → Int32)) → Option ((Int32 × (Nat → Int32)) ⊕ (Int32 × (Nat → Int32))) := un2 fun (u4 : Int32) (u5 : Nat → Int32) =>
  ob2 (fX10_findMost u4 t_pairs t_pair_a u5) fun r6 w7 =>
  if (b2i r6) = 0 then
    bv (u4 + 1) fun v10 =>
    some (.inr (v10, w7))
  else
    some (.inl (u4, w7))
set_option maxRecDepth 100000 in
def fX10_worstOf (t_pairs : Int32) (t_pair_a : Nat → Int32) (t_most_a : Nat → Int32) : Option (Int32 × (Nat → Int32)) :=
  ob (fX10_areJoined t_pairs t_pair_a) fun r1 =>
  if (b2i r1) = 0 then
    some ((-1), t_most_a)
  else
    ob2 (it (fX10_worstOf_L1 t_pairs t_pair_a) 100000 (0, t_most_a)) fun x11 x12 =>
    some (x11, x12)
abbrev rmX10_worstOf : Room := { frames := 2, cells := 0, slots := 0, locals := 46 }
set_option maxHeartbeats 4000000 in
set_option maxRecDepth 100000 in
theorem k_X10_worstOf (l : Launch) (G : va_G) (cI cJ : ClassId) (t_h t_edges_h t_lean_h t_word_h t_layer_h t_least_h t_sight_h t_shadow_h t_spanLow_h t_spanHigh_h t_spanAt_h t_numbers_h t_pair_h t_most_h t_row_h t_under_h t_agreed_h : Nat) (sz : Nat) (t_baseWay : Int32) (t_slip : Int32) (t_low : Int32) (t_high : Int32) (t_unlike : Int32) (t_alone : Int32) (t_above : Int64) (t_below : Int64) (t_layers : Int32) (t_sights : Int32) (t_shadows : Int32) (t_endAbove : Int64) (t_endBelow : Int64) (t_speedAbove : Int64) (t_speedBelow : Int64) (t_spans : Int32) (t_found : Int32) (t_pairs : Int32) (t_rows : Int32) (t_notes : Int32) (t_pair_a : Nat → Int32) (t_most_a : Nat → Int32) {o_r : Int32} {o_t_most_a : Nat → Int32} (hf : fX10_worstOf t_pairs t_pair_a t_most_a = some (o_r, o_t_most_a)) : MetI l yX10_worstOf wsX10_worstOf rmX10_worstOf [.ref t_h] G cI cJ [(t_h, .inr (10, [.int t_baseWay, .int t_slip, .int t_low, .int t_high, .int t_unlike, .int t_alone, .long t_above, .long t_below, .ref t_edges_h, .ref t_lean_h, .ref t_word_h, .int t_layers, .ref t_layer_h, .ref t_least_h, .int t_sights, .ref t_sight_h, .int t_shadows, .ref t_shadow_h, .long t_endAbove, .long t_endBelow, .long t_speedAbove, .long t_speedBelow, .int t_spans, .ref t_spanLow_h, .ref t_spanHigh_h, .ref t_spanAt_h, .int t_found, .ref t_numbers_h, .int t_pairs, .ref t_pair_h, .ref t_most_h, .int t_rows, .ref t_row_h, .int t_notes, .ref t_under_h, .ref t_agreed_h])), (t_pair_h, .inl (cI, 120, .inl t_pair_a)), (t_most_h, .inl (cI, 6, .inl t_most_a))] [(t_h, .inr (10, [.int t_baseWay, .int t_slip, .int t_low, .int t_high, .int t_unlike, .int t_alone, .long t_above, .long t_below, .ref t_edges_h, .ref t_lean_h, .ref t_word_h, .int t_layers, .ref t_layer_h, .ref t_least_h, .int t_sights, .ref t_sight_h, .int t_shadows, .ref t_shadow_h, .long t_endAbove, .long t_endBelow, .long t_speedAbove, .long t_speedBelow, .int t_spans, .ref t_spanLow_h, .ref t_spanHigh_h, .ref t_spanAt_h, .int t_found, .ref t_numbers_h, .int t_pairs, .ref t_pair_h, .ref t_most_h, .int t_rows, .ref t_row_h, .int t_notes, .ref t_under_h, .ref t_agreed_h])), (t_pair_h, .inl (cI, 120, .inl t_pair_a)), (t_most_h, .inl (cI, 6, .inl o_t_most_a))] sz o_r := by
  refine en_0 (l := l) (y := yX10_worstOf) (wsl := wsX10_worstOf) (rm := rmX10_worstOf) (av := [.ref t_h]) (G := G) (cI := cI) (cJ := cJ) (w0 := [(t_h, .inr (10, [.int t_baseWay, .int t_slip, .int t_low, .int t_high, .int t_unlike, .int t_alone, .long t_above, .long t_below, .ref t_edges_h, .ref t_lean_h, .ref t_word_h, .int t_layers, .ref t_layer_h, .ref t_least_h, .int t_sights, .ref t_sight_h, .int t_shadows, .ref t_shadow_h, .long t_endAbove, .long t_endBelow, .long t_speedAbove, .long t_speedBelow, .int t_spans, .ref t_spanLow_h, .ref t_spanHigh_h, .ref t_spanAt_h, .int t_found, .ref t_numbers_h, .int t_pairs, .ref t_pair_h, .ref t_most_h, .int t_rows, .ref t_row_h, .int t_notes, .ref t_under_h, .ref t_agreed_h])), (t_pair_h, .inl (cI, 120, .inl t_pair_a)), (t_most_h, .inl (cI, 6, .inl t_most_a))]) (sz := sz) (Qf := fun A => Qi0 G cI cJ [(t_h, .inr (10, [.int t_baseWay, .int t_slip, .int t_low, .int t_high, .int t_unlike, .int t_alone, .long t_above, .long t_below, .ref t_edges_h, .ref t_lean_h, .ref t_word_h, .int t_layers, .ref t_layer_h, .ref t_least_h, .int t_sights, .ref t_sight_h, .int t_shadows, .ref t_shadow_h, .long t_endAbove, .long t_endBelow, .long t_speedAbove, .long t_speedBelow, .int t_spans, .ref t_spanLow_h, .ref t_spanHigh_h, .ref t_spanAt_h, .int t_found, .ref t_numbers_h, .int t_pairs, .ref t_pair_h, .ref t_most_h, .int t_rows, .ref t_row_h, .int t_notes, .ref t_under_h, .ref t_agreed_h])), (t_pair_h, .inl (cI, 120, .inl t_pair_a)), (t_most_h, .inl (cI, 6, .inl o_t_most_a))] o_r A) (cc := cX10_worstOf) (maxL := 2) (ret := (some .int)) RX10 (by decide +kernel) rfl rfl (Nat.le_of_ble_eq_true rfl) ?_
  intro p e s m args below meth c A ls Q hQ hx hb hr hts hown hlocks hml hN hK hP hD hS hA hl
  have hl : lv_has ls 2 [(0, .ref t_h)] := hl
  have hret : ∀ (o_r9 : Int32) (o_t_most_a9 : Nat → Int32) (pc : Nat) (H : Heap) (locs : List Loc) (ls : Array Slot), decode cX10_worstOf pc = .ok (.ireturn, 1) → some (o_r9, o_t_most_a9) = some (o_r, o_t_most_a) → va_P G vwCl [(t_h, .inr (10, [.int t_baseWay, .int t_slip, .int t_low, .int t_high, .int t_unlike, .int t_alone, .long t_above, .long t_below, .ref t_edges_h, .ref t_lean_h, .ref t_word_h, .int t_layers, .ref t_layer_h, .ref t_least_h, .int t_sights, .ref t_sight_h, .int t_shadows, .ref t_shadow_h, .long t_endAbove, .long t_endBelow, .long t_speedAbove, .long t_speedBelow, .int t_spans, .ref t_spanLow_h, .ref t_spanHigh_h, .ref t_spanAt_h, .int t_found, .ref t_numbers_h, .int t_pairs, .ref t_pair_h, .ref t_most_h, .int t_rows, .ref t_row_h, .int t_notes, .ref t_under_h, .ref t_agreed_h])), (t_pair_h, .inl (cI, 120, .inl t_pair_a)), (t_most_h, .inl (cI, 6, .inl o_t_most_a9))] H → va_D A [(t_h, .inr (10, [.int t_baseWay, .int t_slip, .int t_low, .int t_high, .int t_unlike, .int t_alone, .long t_above, .long t_below, .ref t_edges_h, .ref t_lean_h, .ref t_word_h, .int t_layers, .ref t_layer_h, .ref t_least_h, .int t_sights, .ref t_sight_h, .int t_shadows, .ref t_shadow_h, .long t_endAbove, .long t_endBelow, .long t_speedAbove, .long t_speedBelow, .int t_spans, .ref t_spanLow_h, .ref t_spanHigh_h, .ref t_spanAt_h, .int t_found, .ref t_numbers_h, .int t_pairs, .ref t_pair_h, .ref t_most_h, .int t_rows, .ref t_row_h, .int t_notes, .ref t_under_h, .ref t_agreed_h])), (t_pair_h, .inl (cI, 120, .inl t_pair_a)), (t_most_h, .inl (cI, 6, .inl o_t_most_a9))] → va_S A s.heap H locs → W p l e rmX10_worstOf s m args below meth c H locs 0 0 Q (F0 m pc ls [.int o_r9]) := by
    intro o_r9 o_t_most_a9 pc H locs ls hdg he hP hD hS
    cases he
    subst hQ
    exact rt_i hx hb hr hlocks hK hP hD hS rfl hdg
  clear hQ
  unfold fX10_worstOf at hf
  refine lv_aload_n hx hb dX10_worstOf_0 rfl (lv_at hl 0 rfl) ?_
  obtain ⟨r1, hc2, hf⟩ := ob_some hf
  refine af_iR (va_runV (As := []) (rest := []) ⟨hx, hb, hml, hown, hts⟩ (k_X10_areJoined l G cI cJ (t_h := t_h) (t_edges_h := t_edges_h) (t_lean_h := t_lean_h) (t_word_h := t_word_h) (t_layer_h := t_layer_h) (t_least_h := t_least_h) (t_sight_h := t_sight_h) (t_shadow_h := t_shadow_h) (t_spanLow_h := t_spanLow_h) (t_spanHigh_h := t_spanHigh_h) (t_spanAt_h := t_spanAt_h) (t_numbers_h := t_numbers_h) (t_pair_h := t_pair_h) (t_most_h := t_most_h) (t_row_h := t_row_h) (t_under_h := t_under_h) (t_agreed_h := t_agreed_h) (t_baseWay := t_baseWay) (t_slip := t_slip) (t_low := t_low) (t_high := t_high) (t_unlike := t_unlike) (t_alone := t_alone) (t_above := t_above) (t_below := t_below) (t_layers := t_layers) (t_sights := t_sights) (t_shadows := t_shadows) (t_endAbove := t_endAbove) (t_endBelow := t_endBelow) (t_speedAbove := t_speedAbove) (t_speedBelow := t_speedBelow) (t_spans := t_spans) (t_found := t_found) (t_pairs := t_pairs) (t_rows := t_rows) (t_notes := t_notes) (t_pair_a := t_pair_a) (sz := _) (hf := hc2)) (cwV 0 hts gX10_worstOf_X10_areJoined rfl rfl rfl (by decide +kernel) ⟨Nat.le_of_ble_eq_true rfl, Nat.le_of_ble_eq_true rfl⟩) (preV0 (ci := 10) (q0 := 0) (C := RX10) (wc := [(t_h, .inr (10, [.int t_baseWay, .int t_slip, .int t_low, .int t_high, .int t_unlike, .int t_alone, .long t_above, .long t_below, .ref t_edges_h, .ref t_lean_h, .ref t_word_h, .int t_layers, .ref t_layer_h, .ref t_least_h, .int t_sights, .ref t_sight_h, .int t_shadows, .ref t_shadow_h, .long t_endAbove, .long t_endBelow, .long t_speedAbove, .long t_speedBelow, .int t_spans, .ref t_spanLow_h, .ref t_spanHigh_h, .ref t_spanAt_h, .int t_found, .ref t_numbers_h, .int t_pairs, .ref t_pair_h, .ref t_most_h, .int t_rows, .ref t_row_h, .int t_notes, .ref t_under_h, .ref t_agreed_h])), (t_pair_h, .inl (cI, 120, .inl t_pair_a))]) hK hP hD hN [0, 1] rfl rfl (by decide) rfl rfl) rfl rfl hl.1 rfl (lv_room (Nat.le_of_ble_eq_true rfl)) dX10_worstOf_1 ⟨Nat.zero_le _, Nat.zero_le _⟩) hP hD hS hA [0, 1] rfl (fun H locs hP hS => ?_)
  refine lv_if_ne (tgt := 9) hx hb dX10_worstOf_4 (by decide) (fun c3 => ?_) (fun c3 => ?_)
  · have hf := iff_ hf c3
    refine lv_iconst (v := 0) hx hb dX10_worstOf_9 (by decide) ?_
    refine lv_istore_n (lv' := [(1, .int 0), (0, .ref t_h)]) hx hb dX10_worstOf_10 rfl hl (by decide) rfl (fun ls hl => ?_)
    obtain ⟨x11, x12, ht1, hf⟩ := ob2_some hf
    have hx1_0 : ∀ (x119 : Int32) (x129 : Nat → Int32), (x119, x129) = (x11, x12) → ∀ (H : Heap) (locs : List Loc) (ls : Array Slot), va_P G vwCl [(t_h, .inr (10, [.int t_baseWay, .int t_slip, .int t_low, .int t_high, .int t_unlike, .int t_alone, .long t_above, .long t_below, .ref t_edges_h, .ref t_lean_h, .ref t_word_h, .int t_layers, .ref t_layer_h, .ref t_least_h, .int t_sights, .ref t_sight_h, .int t_shadows, .ref t_shadow_h, .long t_endAbove, .long t_endBelow, .long t_speedAbove, .long t_speedBelow, .int t_spans, .ref t_spanLow_h, .ref t_spanHigh_h, .ref t_spanAt_h, .int t_found, .ref t_numbers_h, .int t_pairs, .ref t_pair_h, .ref t_most_h, .int t_rows, .ref t_row_h, .int t_notes, .ref t_under_h, .ref t_agreed_h])), (t_pair_h, .inl (cI, 120, .inl t_pair_a)), (t_most_h, .inl (cI, 6, .inl x129))] H → va_D A [(t_h, .inr (10, [.int t_baseWay, .int t_slip, .int t_low, .int t_high, .int t_unlike, .int t_alone, .long t_above, .long t_below, .ref t_edges_h, .ref t_lean_h, .ref t_word_h, .int t_layers, .ref t_layer_h, .ref t_least_h, .int t_sights, .ref t_sight_h, .int t_shadows, .ref t_shadow_h, .long t_endAbove, .long t_endBelow, .long t_speedAbove, .long t_speedBelow, .int t_spans, .ref t_spanLow_h, .ref t_spanHigh_h, .ref t_spanAt_h, .int t_found, .ref t_numbers_h, .int t_pairs, .ref t_pair_h, .ref t_most_h, .int t_rows, .ref t_row_h, .int t_notes, .ref t_under_h, .ref t_agreed_h])), (t_pair_h, .inl (cI, 120, .inl t_pair_a)), (t_most_h, .inl (cI, 6, .inl x129))] → va_S A s.heap H locs → lv_has ls 2 [(1, .int x119)] → W p l e rmX10_worstOf s m args below meth c H locs 0 0 Q (F0 m 25 ls []) := by
      intro x119 x129 he H locs ls hP hD hS hl
      cases he
      refine lv_iload_n hx hb dX10_worstOf_25 rfl (lv_at hl 0 rfl) ?_
      exact hret x11 x12 26 _ _ _ dX10_worstOf_26 hf hP hD hS
    clear hf
    have hl1 : ∀ (n : Nat) (u4 : Int32) (u5 : Nat → Int32), it (fX10_worstOf_L1 t_pairs t_pair_a) n (u4, u5) = some (x11, x12) → ∀ (H : Heap) (locs : List Loc) (ls : Array Slot), va_P G vwCl [(t_h, .inr (10, [.int t_baseWay, .int t_slip, .int t_low, .int t_high, .int t_unlike, .int t_alone, .long t_above, .long t_below, .ref t_edges_h, .ref t_lean_h, .ref t_word_h, .int t_layers, .ref t_layer_h, .ref t_least_h, .int t_sights, .ref t_sight_h, .int t_shadows, .ref t_shadow_h, .long t_endAbove, .long t_endBelow, .long t_speedAbove, .long t_speedBelow, .int t_spans, .ref t_spanLow_h, .ref t_spanHigh_h, .ref t_spanAt_h, .int t_found, .ref t_numbers_h, .int t_pairs, .ref t_pair_h, .ref t_most_h, .int t_rows, .ref t_row_h, .int t_notes, .ref t_under_h, .ref t_agreed_h])), (t_pair_h, .inl (cI, 120, .inl t_pair_a)), (t_most_h, .inl (cI, 6, .inl u5))] H → va_D A [(t_h, .inr (10, [.int t_baseWay, .int t_slip, .int t_low, .int t_high, .int t_unlike, .int t_alone, .long t_above, .long t_below, .ref t_edges_h, .ref t_lean_h, .ref t_word_h, .int t_layers, .ref t_layer_h, .ref t_least_h, .int t_sights, .ref t_sight_h, .int t_shadows, .ref t_shadow_h, .long t_endAbove, .long t_endBelow, .long t_speedAbove, .long t_speedBelow, .int t_spans, .ref t_spanLow_h, .ref t_spanHigh_h, .ref t_spanAt_h, .int t_found, .ref t_numbers_h, .int t_pairs, .ref t_pair_h, .ref t_most_h, .int t_rows, .ref t_row_h, .int t_notes, .ref t_under_h, .ref t_agreed_h])), (t_pair_h, .inl (cI, 120, .inl t_pair_a)), (t_most_h, .inl (cI, 6, .inl u5))] → va_S A s.heap H locs → lv_has ls 2 [(0, .ref t_h), (1, .int u4)] → W p l e rmX10_worstOf s m args below meth c H locs 0 0 Q (F0 m 11 ls []) := by
      intro n
      induction n with
      | zero => intro u4 u5 hz; exact (it_zero hz).elim
      | succ n ih =>
        intro u4 u5 hz H locs ls hP hD hS hl
        obtain ⟨x9, hf, hq⟩ := it_succ hz
        unfold fX10_worstOf_L1 at hf
        dsimp only [un2] at hf
        refine lv_aload_n hx hb dX10_worstOf_11 rfl (lv_at hl 0 rfl) ?_
        refine lv_iload_n hx hb dX10_worstOf_12 rfl (lv_at hl 1 rfl) ?_
        obtain ⟨r6, w7, hc8, hf⟩ := ob2_some hf
        refine af_iW (wr := []) (ws2 := [(t_h, .inr (10, [.int t_baseWay, .int t_slip, .int t_low, .int t_high, .int t_unlike, .int t_alone, .long t_above, .long t_below, .ref t_edges_h, .ref t_lean_h, .ref t_word_h, .int t_layers, .ref t_layer_h, .ref t_least_h, .int t_sights, .ref t_sight_h, .int t_shadows, .ref t_shadow_h, .long t_endAbove, .long t_endBelow, .long t_speedAbove, .long t_speedBelow, .int t_spans, .ref t_spanLow_h, .ref t_spanHigh_h, .ref t_spanAt_h, .int t_found, .ref t_numbers_h, .int t_pairs, .ref t_pair_h, .ref t_most_h, .int t_rows, .ref t_row_h, .int t_notes, .ref t_under_h, .ref t_agreed_h])), (t_pair_h, .inl (cI, 120, .inl t_pair_a)), (t_most_h, .inl (cI, 6, .inl w7))]) (va_runV (As := [.int u4]) (rest := []) ⟨hx, hb, hml, hown, hts⟩ (k_X10_findMost l G cI cJ (t_h := t_h) (t_edges_h := t_edges_h) (t_lean_h := t_lean_h) (t_word_h := t_word_h) (t_layer_h := t_layer_h) (t_least_h := t_least_h) (t_sight_h := t_sight_h) (t_shadow_h := t_shadow_h) (t_spanLow_h := t_spanLow_h) (t_spanHigh_h := t_spanHigh_h) (t_spanAt_h := t_spanAt_h) (t_numbers_h := t_numbers_h) (t_pair_h := t_pair_h) (t_most_h := t_most_h) (t_row_h := t_row_h) (t_under_h := t_under_h) (t_agreed_h := t_agreed_h) (t_baseWay := t_baseWay) (t_slip := t_slip) (t_low := t_low) (t_high := t_high) (t_unlike := t_unlike) (t_alone := t_alone) (t_above := t_above) (t_below := t_below) (t_layers := t_layers) (t_sights := t_sights) (t_shadows := t_shadows) (t_endAbove := t_endAbove) (t_endBelow := t_endBelow) (t_speedAbove := t_speedAbove) (t_speedBelow := t_speedBelow) (t_spans := t_spans) (t_found := t_found) (t_pairs := t_pairs) (t_rows := t_rows) (t_notes := t_notes) (t_pair_a := t_pair_a) (t_most_a := u5) (x1 := u4) (sz := _) (hf := hc8)) (cwV 1 hts gX10_worstOf_X10_findMost rfl rfl rfl (by decide +kernel) ⟨Nat.le_of_ble_eq_true rfl, Nat.le_of_ble_eq_true rfl⟩) (preV0 (ci := 10) (q0 := 0) (C := RX10) (wc := [(t_h, .inr (10, [.int t_baseWay, .int t_slip, .int t_low, .int t_high, .int t_unlike, .int t_alone, .long t_above, .long t_below, .ref t_edges_h, .ref t_lean_h, .ref t_word_h, .int t_layers, .ref t_layer_h, .ref t_least_h, .int t_sights, .ref t_sight_h, .int t_shadows, .ref t_shadow_h, .long t_endAbove, .long t_endBelow, .long t_speedAbove, .long t_speedBelow, .int t_spans, .ref t_spanLow_h, .ref t_spanHigh_h, .ref t_spanAt_h, .int t_found, .ref t_numbers_h, .int t_pairs, .ref t_pair_h, .ref t_most_h, .int t_rows, .ref t_row_h, .int t_notes, .ref t_under_h, .ref t_agreed_h])), (t_pair_h, .inl (cI, 120, .inl t_pair_a)), (t_most_h, .inl (cI, 6, .inl u5))]) hK hP hD hN [0, 1, 2] rfl rfl (by decide) rfl rfl) rfl rfl hl.1 rfl (lv_room (Nat.le_of_ble_eq_true rfl)) dX10_worstOf_13 ⟨Nat.zero_le _, Nat.zero_le _⟩) hP hD hS hA [0, 1, 2] [] [0, 1, 2] rfl rfl (by decide) (by decide) rfl rfl (by decide) (fun H locs hP hD hS => ?_)
        refine lv_if_ne (tgt := 25) hx hb dX10_worstOf_16 (by decide) (fun c9 => ?_) (fun c9 => ?_)
        · have hf := iff_ hf c9
          cases hf
          exact hx1_0 _ _ hq _ _ _ hP hD hS (lv_sub hl [1] rfl)
        · have hf := ift hf c9
          obtain ⟨v10, ev10⟩ : ∃ y : Int32, y = u4 + 1 := ⟨_, rfl⟩
          have hf := bv_at ev10 hf
          refine lv_iinc (v := v10) (lv' := [(1, .int v10), (0, .ref t_h)]) hx hb dX10_worstOf_19 hl (k := 1) rfl (by rw [ev10]; rfl) (by decide) rfl (fun ls hl => ?_)
          refine lv_goto (tgt := 11) hx hb dX10_worstOf_22 (by decide) ?_
          cases hf
          exact ih _ _ hq _ _ _ hP hD hS (lv_sub hl [1, 0] rfl)
    exact hl1 _ _ _ ht1 _ _ _ hP hD hS (lv_sub hl [1, 0] rfl)
  · have hf := ift hf c3
    refine lv_iconst (v := (-1)) hx hb dX10_worstOf_7 (by decide) ?_
    exact hret (-1) t_most_a 8 _ _ _ dX10_worstOf_8 hf hP hD hS
set_option maxRecDepth 20000 in
theorem ggX10_worst_X10_worstOf : GoodIn wsX10_worst wsX10_worstOf := goodIn_r _ [5, 6, 7, 8, 4, 9, 10, 11, 12, 13, 14, 15, 16, 17, 18, 19, 20, 21, 22, 23, 24, 25, 26, 27, 28, 29, 30, 31, 32, 33, 34, 35, 36, 37, 38, 39, 40, 41, 42, 43, 44, 45, 46, 47, 48, 49, 50, 51, 52, 53, 54, 55, 56, 57] (by decide +kernel) (by decide +kernel)
set_option maxRecDepth 20000 in
theorem gX10_worst_X10_worstOf : GoodIn wsX10_worst (wsV RX10 191 RX10 yX10_worstOf wsX10_worstOf) := goodIn_app (goodIn_of _ (by decide +kernel)) ggX10_worst_X10_worstOf
theorem dX10_worst_0 : decode cX10_worst 0 = .ok (.aload_n 0, 1) := by decide +kernel
theorem dX10_worst_1 : decode cX10_worst 1 = .ok (.invokevirtual 191, 3) := by decide +kernel
theorem dX10_worst_4 : decode cX10_worst 4 = .ok (.ireturn, 1) := by decide +kernel
set_option maxRecDepth 100000 in
def fX10_worst (t_pairs : Int32) (t_pair_a : Nat → Int32) (t_most_a : Nat → Int32) : Option (Int32 × (Nat → Int32)) :=
  ob2 (fX10_worstOf t_pairs t_pair_a t_most_a) fun r1 w2 =>
  some (r1, w2)
abbrev rmX10_worst : Room := { frames := 3, cells := 0, slots := 0, locals := 67 }
set_option maxHeartbeats 4000000 in
set_option maxRecDepth 100000 in
theorem k_X10_worst (l : Launch) (G : va_G) (cI cJ : ClassId) (t_h t_edges_h t_lean_h t_word_h t_layer_h t_least_h t_sight_h t_shadow_h t_spanLow_h t_spanHigh_h t_spanAt_h t_numbers_h t_pair_h t_most_h t_row_h t_under_h t_agreed_h : Nat) (sz : Nat) (t_baseWay : Int32) (t_slip : Int32) (t_low : Int32) (t_high : Int32) (t_unlike : Int32) (t_alone : Int32) (t_above : Int64) (t_below : Int64) (t_layers : Int32) (t_sights : Int32) (t_shadows : Int32) (t_endAbove : Int64) (t_endBelow : Int64) (t_speedAbove : Int64) (t_speedBelow : Int64) (t_spans : Int32) (t_found : Int32) (t_pairs : Int32) (t_rows : Int32) (t_notes : Int32) (t_pair_a : Nat → Int32) (t_most_a : Nat → Int32) {o_r : Int32} {o_t_most_a : Nat → Int32} (hf : fX10_worst t_pairs t_pair_a t_most_a = some (o_r, o_t_most_a)) : MetI l yX10_worst wsX10_worst rmX10_worst [.ref t_h] G cI cJ [(t_h, .inr (10, [.int t_baseWay, .int t_slip, .int t_low, .int t_high, .int t_unlike, .int t_alone, .long t_above, .long t_below, .ref t_edges_h, .ref t_lean_h, .ref t_word_h, .int t_layers, .ref t_layer_h, .ref t_least_h, .int t_sights, .ref t_sight_h, .int t_shadows, .ref t_shadow_h, .long t_endAbove, .long t_endBelow, .long t_speedAbove, .long t_speedBelow, .int t_spans, .ref t_spanLow_h, .ref t_spanHigh_h, .ref t_spanAt_h, .int t_found, .ref t_numbers_h, .int t_pairs, .ref t_pair_h, .ref t_most_h, .int t_rows, .ref t_row_h, .int t_notes, .ref t_under_h, .ref t_agreed_h])), (t_pair_h, .inl (cI, 120, .inl t_pair_a)), (t_most_h, .inl (cI, 6, .inl t_most_a))] [(t_h, .inr (10, [.int t_baseWay, .int t_slip, .int t_low, .int t_high, .int t_unlike, .int t_alone, .long t_above, .long t_below, .ref t_edges_h, .ref t_lean_h, .ref t_word_h, .int t_layers, .ref t_layer_h, .ref t_least_h, .int t_sights, .ref t_sight_h, .int t_shadows, .ref t_shadow_h, .long t_endAbove, .long t_endBelow, .long t_speedAbove, .long t_speedBelow, .int t_spans, .ref t_spanLow_h, .ref t_spanHigh_h, .ref t_spanAt_h, .int t_found, .ref t_numbers_h, .int t_pairs, .ref t_pair_h, .ref t_most_h, .int t_rows, .ref t_row_h, .int t_notes, .ref t_under_h, .ref t_agreed_h])), (t_pair_h, .inl (cI, 120, .inl t_pair_a)), (t_most_h, .inl (cI, 6, .inl o_t_most_a))] sz o_r := by
  refine en_0 (l := l) (y := yX10_worst) (wsl := wsX10_worst) (rm := rmX10_worst) (av := [.ref t_h]) (G := G) (cI := cI) (cJ := cJ) (w0 := [(t_h, .inr (10, [.int t_baseWay, .int t_slip, .int t_low, .int t_high, .int t_unlike, .int t_alone, .long t_above, .long t_below, .ref t_edges_h, .ref t_lean_h, .ref t_word_h, .int t_layers, .ref t_layer_h, .ref t_least_h, .int t_sights, .ref t_sight_h, .int t_shadows, .ref t_shadow_h, .long t_endAbove, .long t_endBelow, .long t_speedAbove, .long t_speedBelow, .int t_spans, .ref t_spanLow_h, .ref t_spanHigh_h, .ref t_spanAt_h, .int t_found, .ref t_numbers_h, .int t_pairs, .ref t_pair_h, .ref t_most_h, .int t_rows, .ref t_row_h, .int t_notes, .ref t_under_h, .ref t_agreed_h])), (t_pair_h, .inl (cI, 120, .inl t_pair_a)), (t_most_h, .inl (cI, 6, .inl t_most_a))]) (sz := sz) (Qf := fun A => Qi0 G cI cJ [(t_h, .inr (10, [.int t_baseWay, .int t_slip, .int t_low, .int t_high, .int t_unlike, .int t_alone, .long t_above, .long t_below, .ref t_edges_h, .ref t_lean_h, .ref t_word_h, .int t_layers, .ref t_layer_h, .ref t_least_h, .int t_sights, .ref t_sight_h, .int t_shadows, .ref t_shadow_h, .long t_endAbove, .long t_endBelow, .long t_speedAbove, .long t_speedBelow, .int t_spans, .ref t_spanLow_h, .ref t_spanHigh_h, .ref t_spanAt_h, .int t_found, .ref t_numbers_h, .int t_pairs, .ref t_pair_h, .ref t_most_h, .int t_rows, .ref t_row_h, .int t_notes, .ref t_under_h, .ref t_agreed_h])), (t_pair_h, .inl (cI, 120, .inl t_pair_a)), (t_most_h, .inl (cI, 6, .inl o_t_most_a))] o_r A) (cc := cX10_worst) (maxL := 1) (ret := (some .int)) RX10 (by decide +kernel) rfl rfl (Nat.le_of_ble_eq_true rfl) ?_
  intro p e s m args below meth c A ls Q hQ hx hb hr hts hown hlocks hml hN hK hP hD hS hA hl
  have hl : lv_has ls 1 [(0, .ref t_h)] := hl
  have hret : ∀ (o_r9 : Int32) (o_t_most_a9 : Nat → Int32) (pc : Nat) (H : Heap) (locs : List Loc) (ls : Array Slot), decode cX10_worst pc = .ok (.ireturn, 1) → some (o_r9, o_t_most_a9) = some (o_r, o_t_most_a) → va_P G vwCl [(t_h, .inr (10, [.int t_baseWay, .int t_slip, .int t_low, .int t_high, .int t_unlike, .int t_alone, .long t_above, .long t_below, .ref t_edges_h, .ref t_lean_h, .ref t_word_h, .int t_layers, .ref t_layer_h, .ref t_least_h, .int t_sights, .ref t_sight_h, .int t_shadows, .ref t_shadow_h, .long t_endAbove, .long t_endBelow, .long t_speedAbove, .long t_speedBelow, .int t_spans, .ref t_spanLow_h, .ref t_spanHigh_h, .ref t_spanAt_h, .int t_found, .ref t_numbers_h, .int t_pairs, .ref t_pair_h, .ref t_most_h, .int t_rows, .ref t_row_h, .int t_notes, .ref t_under_h, .ref t_agreed_h])), (t_pair_h, .inl (cI, 120, .inl t_pair_a)), (t_most_h, .inl (cI, 6, .inl o_t_most_a9))] H → va_D A [(t_h, .inr (10, [.int t_baseWay, .int t_slip, .int t_low, .int t_high, .int t_unlike, .int t_alone, .long t_above, .long t_below, .ref t_edges_h, .ref t_lean_h, .ref t_word_h, .int t_layers, .ref t_layer_h, .ref t_least_h, .int t_sights, .ref t_sight_h, .int t_shadows, .ref t_shadow_h, .long t_endAbove, .long t_endBelow, .long t_speedAbove, .long t_speedBelow, .int t_spans, .ref t_spanLow_h, .ref t_spanHigh_h, .ref t_spanAt_h, .int t_found, .ref t_numbers_h, .int t_pairs, .ref t_pair_h, .ref t_most_h, .int t_rows, .ref t_row_h, .int t_notes, .ref t_under_h, .ref t_agreed_h])), (t_pair_h, .inl (cI, 120, .inl t_pair_a)), (t_most_h, .inl (cI, 6, .inl o_t_most_a9))] → va_S A s.heap H locs → W p l e rmX10_worst s m args below meth c H locs 0 0 Q (F0 m pc ls [.int o_r9]) := by
    intro o_r9 o_t_most_a9 pc H locs ls hdg he hP hD hS
    cases he
    subst hQ
    exact rt_i hx hb hr hlocks hK hP hD hS rfl hdg
  clear hQ
  unfold fX10_worst at hf
  refine lv_aload_n hx hb dX10_worst_0 rfl (lv_at hl 0 rfl) ?_
  obtain ⟨r1, w2, hc3, hf⟩ := ob2_some hf
  refine af_iW (wr := []) (ws2 := [(t_h, .inr (10, [.int t_baseWay, .int t_slip, .int t_low, .int t_high, .int t_unlike, .int t_alone, .long t_above, .long t_below, .ref t_edges_h, .ref t_lean_h, .ref t_word_h, .int t_layers, .ref t_layer_h, .ref t_least_h, .int t_sights, .ref t_sight_h, .int t_shadows, .ref t_shadow_h, .long t_endAbove, .long t_endBelow, .long t_speedAbove, .long t_speedBelow, .int t_spans, .ref t_spanLow_h, .ref t_spanHigh_h, .ref t_spanAt_h, .int t_found, .ref t_numbers_h, .int t_pairs, .ref t_pair_h, .ref t_most_h, .int t_rows, .ref t_row_h, .int t_notes, .ref t_under_h, .ref t_agreed_h])), (t_pair_h, .inl (cI, 120, .inl t_pair_a)), (t_most_h, .inl (cI, 6, .inl w2))]) (va_runV (As := []) (rest := []) ⟨hx, hb, hml, hown, hts⟩ (k_X10_worstOf l G cI cJ (t_h := t_h) (t_edges_h := t_edges_h) (t_lean_h := t_lean_h) (t_word_h := t_word_h) (t_layer_h := t_layer_h) (t_least_h := t_least_h) (t_sight_h := t_sight_h) (t_shadow_h := t_shadow_h) (t_spanLow_h := t_spanLow_h) (t_spanHigh_h := t_spanHigh_h) (t_spanAt_h := t_spanAt_h) (t_numbers_h := t_numbers_h) (t_pair_h := t_pair_h) (t_most_h := t_most_h) (t_row_h := t_row_h) (t_under_h := t_under_h) (t_agreed_h := t_agreed_h) (t_baseWay := t_baseWay) (t_slip := t_slip) (t_low := t_low) (t_high := t_high) (t_unlike := t_unlike) (t_alone := t_alone) (t_above := t_above) (t_below := t_below) (t_layers := t_layers) (t_sights := t_sights) (t_shadows := t_shadows) (t_endAbove := t_endAbove) (t_endBelow := t_endBelow) (t_speedAbove := t_speedAbove) (t_speedBelow := t_speedBelow) (t_spans := t_spans) (t_found := t_found) (t_pairs := t_pairs) (t_rows := t_rows) (t_notes := t_notes) (t_pair_a := t_pair_a) (t_most_a := t_most_a) (sz := _) (hf := hc3)) (cwV 0 hts gX10_worst_X10_worstOf rfl rfl rfl (by decide +kernel) ⟨Nat.le_of_ble_eq_true rfl, Nat.le_of_ble_eq_true rfl⟩) (preV0 (ci := 10) (q0 := 0) (C := RX10) (wc := [(t_h, .inr (10, [.int t_baseWay, .int t_slip, .int t_low, .int t_high, .int t_unlike, .int t_alone, .long t_above, .long t_below, .ref t_edges_h, .ref t_lean_h, .ref t_word_h, .int t_layers, .ref t_layer_h, .ref t_least_h, .int t_sights, .ref t_sight_h, .int t_shadows, .ref t_shadow_h, .long t_endAbove, .long t_endBelow, .long t_speedAbove, .long t_speedBelow, .int t_spans, .ref t_spanLow_h, .ref t_spanHigh_h, .ref t_spanAt_h, .int t_found, .ref t_numbers_h, .int t_pairs, .ref t_pair_h, .ref t_most_h, .int t_rows, .ref t_row_h, .int t_notes, .ref t_under_h, .ref t_agreed_h])), (t_pair_h, .inl (cI, 120, .inl t_pair_a)), (t_most_h, .inl (cI, 6, .inl t_most_a))]) hK hP hD hN [0, 1, 2] rfl rfl (by decide) rfl rfl) rfl rfl hl.1 rfl (lv_room (Nat.le_of_ble_eq_true rfl)) dX10_worst_1 ⟨Nat.zero_le _, Nat.zero_le _⟩) hP hD hS hA [0, 1, 2] [] [0, 1, 2] rfl rfl (by decide) (by decide) rfl rfl (by decide) (fun H locs hP hD hS => ?_)
  exact hret r1 w2 4 _ _ _ dX10_worst_4 hf hP hD hS
set_option maxRecDepth 20000 in
theorem ggX10_bent_X10_in : GoodIn wsX10_bent wsX10_in := goodIn_r _ [7] (by decide +kernel) (by decide +kernel)
set_option maxRecDepth 20000 in
theorem gX10_bent_X10_in : GoodIn wsX10_bent (va_wsS RX10 89 yX10_in wsX10_in) := goodIn_app (goodIn_of _ (by decide +kernel)) ggX10_bent_X10_in
set_option maxRecDepth 20000 in
theorem ggX10_bent_X10_worstOf : GoodIn wsX10_bent wsX10_worstOf := goodIn_r _ [11, 12, 13, 14, 6, 15, 16, 17, 18, 19, 20, 21, 22, 23, 24, 25, 3, 26, 27, 28, 29, 30, 31, 32, 33, 34, 35, 36, 37, 38, 39, 40, 41, 42, 43, 44, 45, 46, 47, 48, 49, 50, 51, 52, 53, 54, 55, 56, 57, 58, 59, 60, 61, 62] (by decide +kernel) (by decide +kernel)
set_option maxRecDepth 20000 in
theorem gX10_bent_X10_worstOf : GoodIn wsX10_bent (wsV RX10 191 RX10 yX10_worstOf wsX10_worstOf) := goodIn_app (goodIn_of _ (by decide +kernel)) ggX10_bent_X10_worstOf
set_option maxRecDepth 20000 in
theorem ggX10_bent_X10_paired : GoodIn wsX10_bent wsX10_paired := goodIn_r _ [21, 16, 17, 27, 28, 29, 30, 31, 32, 33, 34, 35, 36, 37, 38, 39, 40, 41, 42, 43, 44, 45, 46, 47, 48, 49, 50, 51, 52, 53, 54, 55, 56, 57, 58, 59, 60, 61, 62] (by decide +kernel) (by decide +kernel)
set_option maxRecDepth 20000 in
theorem gX10_bent_X10_paired : GoodIn wsX10_bent (wsV RX10 179 RX10 yX10_paired wsX10_paired) := goodIn_app (goodIn_of _ (by decide +kernel)) ggX10_bent_X10_paired
theorem dX10_bent_0 : decode cX10_bent 0 = .ok (.iload_n 1, 1) := by decide +kernel
theorem dX10_bent_1 : decode cX10_bent 1 = .ok (.iconst 0, 1) := by decide +kernel
theorem dX10_bent_2 : decode cX10_bent 2 = .ok (.iconst 5, 1) := by decide +kernel
theorem dX10_bent_3 : decode cX10_bent 3 = .ok (.invokestatic 89, 3) := by decide +kernel
theorem dX10_bent_6 : decode cX10_bent 6 = .ok (.ifCond .ne 6, 3) := by decide +kernel
theorem dX10_bent_9 : decode cX10_bent 9 = .ok (.ldc 194, 2) := by decide +kernel
theorem dX10_bent_11 : decode cX10_bent 11 = .ok (.ireturn, 1) := by decide +kernel
theorem dX10_bent_12 : decode cX10_bent 12 = .ok (.iload_n 1, 1) := by decide +kernel
theorem dX10_bent_13 : decode cX10_bent 13 = .ok (.ifCond .ne 5, 3) := by decide +kernel
theorem dX10_bent_16 : decode cX10_bent 16 = .ok (.iconst 0, 1) := by decide +kernel
theorem dX10_bent_17 : decode cX10_bent 17 = .ok (.ireturn, 1) := by decide +kernel
theorem dX10_bent_18 : decode cX10_bent 18 = .ok (.aload_n 0, 1) := by decide +kernel
theorem dX10_bent_19 : decode cX10_bent 19 = .ok (.invokevirtual 191, 3) := by decide +kernel
theorem dX10_bent_22 : decode cX10_bent 22 = .ok (.iconst (-1), 1) := by decide +kernel
theorem dX10_bent_23 : decode cX10_bent 23 = .ok (.if_icmp .eq 14, 3) := by decide +kernel
theorem dX10_bent_26 : decode cX10_bent 26 = .ok (.aload_n 0, 1) := by decide +kernel
theorem dX10_bent_27 : decode cX10_bent 27 = .ok (.invokevirtual 179, 3) := by decide +kernel
theorem dX10_bent_30 : decode cX10_bent 30 = .ok (.iload_n 1, 1) := by decide +kernel
theorem dX10_bent_31 : decode cX10_bent 31 = .ok (.ishr, 1) := by decide +kernel
theorem dX10_bent_32 : decode cX10_bent 32 = .ok (.iconst 1, 1) := by decide +kernel
theorem dX10_bent_33 : decode cX10_bent 33 = .ok (.iand, 1) := by decide +kernel
theorem dX10_bent_34 : decode cX10_bent 34 = .ok (.ifCond .ne 8, 3) := by decide +kernel
theorem dX10_bent_37 : decode cX10_bent 37 = .ok (.ldc 195, 2) := by decide +kernel
theorem dX10_bent_39 : decode cX10_bent 39 = .ok (.goto 9, 3) := by decide +kernel
theorem dX10_bent_42 : decode cX10_bent 42 = .ok (.aload_n 0, 1) := by decide +kernel
theorem dX10_bent_43 : decode cX10_bent 43 = .ok (.getfield 46, 3) := by decide +kernel
theorem dX10_bent_46 : decode cX10_bent 46 = .ok (.iload_n 1, 1) := by decide +kernel
theorem dX10_bent_47 : decode cX10_bent 47 = .ok (.iaload, 1) := by decide +kernel
theorem dX10_bent_48 : decode cX10_bent 48 = .ok (.ireturn, 1) := by decide +kernel
set_option maxRecDepth 100000 in
def fX10_bent (x1 : Int32) (t_pairs : Int32) (t_pair_a : Nat → Int32) (t_most_a : Nat → Int32) : Option (Int32 × (Nat → Int32)) :=
  ob (fX10_in x1 0 5) fun r1 =>
  if (b2i r1) = 0 then
    some ((-100000), t_most_a)
  else
    if x1 = 0 then
      some (0, t_most_a)
    else
      ob2 (fX10_worstOf t_pairs t_pair_a t_most_a) fun r5 w6 =>
      if r5 = (-1) then
        some ((-200000), w6)
      else
        ob (fX10_paired t_pairs t_pair_a) fun r9 =>
        if ((r9 >>> (x1 &&& 31)) &&& 1) = 0 then
          some ((-200000), w6)
        else
          gd (bnd x1 6) <|
          some (w6 (Int32.toNatClampNeg x1), w6)
abbrev rmX10_bent : Room := { frames := 3, cells := 0, slots := 0, locals := 67 }
theorem iwX10_bent_X10 : ∀ w ∈ u_ws RX10 TX10 36, w ∈ wsX10_bent := by decide +kernel
set_option maxHeartbeats 4000000 in
set_option maxRecDepth 100000 in
theorem k_X10_bent (l : Launch) (G : va_G) (cI cJ : ClassId) (t_h t_edges_h t_lean_h t_word_h t_layer_h t_least_h t_sight_h t_shadow_h t_spanLow_h t_spanHigh_h t_spanAt_h t_numbers_h t_pair_h t_most_h t_row_h t_under_h t_agreed_h : Nat) (sz : Nat) (t_baseWay : Int32) (t_slip : Int32) (t_low : Int32) (t_high : Int32) (t_unlike : Int32) (t_alone : Int32) (t_above : Int64) (t_below : Int64) (t_layers : Int32) (t_sights : Int32) (t_shadows : Int32) (t_endAbove : Int64) (t_endBelow : Int64) (t_speedAbove : Int64) (t_speedBelow : Int64) (t_spans : Int32) (t_found : Int32) (t_pairs : Int32) (t_rows : Int32) (t_notes : Int32) (t_pair_a : Nat → Int32) (t_most_a : Nat → Int32) (x1 : Int32) {o_r : Int32} {o_t_most_a : Nat → Int32} (hf : fX10_bent x1 t_pairs t_pair_a t_most_a = some (o_r, o_t_most_a)) : MetI l yX10_bent wsX10_bent rmX10_bent [.ref t_h, .int x1] G cI cJ [(t_h, .inr (10, [.int t_baseWay, .int t_slip, .int t_low, .int t_high, .int t_unlike, .int t_alone, .long t_above, .long t_below, .ref t_edges_h, .ref t_lean_h, .ref t_word_h, .int t_layers, .ref t_layer_h, .ref t_least_h, .int t_sights, .ref t_sight_h, .int t_shadows, .ref t_shadow_h, .long t_endAbove, .long t_endBelow, .long t_speedAbove, .long t_speedBelow, .int t_spans, .ref t_spanLow_h, .ref t_spanHigh_h, .ref t_spanAt_h, .int t_found, .ref t_numbers_h, .int t_pairs, .ref t_pair_h, .ref t_most_h, .int t_rows, .ref t_row_h, .int t_notes, .ref t_under_h, .ref t_agreed_h])), (t_pair_h, .inl (cI, 120, .inl t_pair_a)), (t_most_h, .inl (cI, 6, .inl t_most_a))] [(t_h, .inr (10, [.int t_baseWay, .int t_slip, .int t_low, .int t_high, .int t_unlike, .int t_alone, .long t_above, .long t_below, .ref t_edges_h, .ref t_lean_h, .ref t_word_h, .int t_layers, .ref t_layer_h, .ref t_least_h, .int t_sights, .ref t_sight_h, .int t_shadows, .ref t_shadow_h, .long t_endAbove, .long t_endBelow, .long t_speedAbove, .long t_speedBelow, .int t_spans, .ref t_spanLow_h, .ref t_spanHigh_h, .ref t_spanAt_h, .int t_found, .ref t_numbers_h, .int t_pairs, .ref t_pair_h, .ref t_most_h, .int t_rows, .ref t_row_h, .int t_notes, .ref t_under_h, .ref t_agreed_h])), (t_pair_h, .inl (cI, 120, .inl t_pair_a)), (t_most_h, .inl (cI, 6, .inl o_t_most_a))] sz o_r := by
  refine en_0 (l := l) (y := yX10_bent) (wsl := wsX10_bent) (rm := rmX10_bent) (av := [.ref t_h, .int x1]) (G := G) (cI := cI) (cJ := cJ) (w0 := [(t_h, .inr (10, [.int t_baseWay, .int t_slip, .int t_low, .int t_high, .int t_unlike, .int t_alone, .long t_above, .long t_below, .ref t_edges_h, .ref t_lean_h, .ref t_word_h, .int t_layers, .ref t_layer_h, .ref t_least_h, .int t_sights, .ref t_sight_h, .int t_shadows, .ref t_shadow_h, .long t_endAbove, .long t_endBelow, .long t_speedAbove, .long t_speedBelow, .int t_spans, .ref t_spanLow_h, .ref t_spanHigh_h, .ref t_spanAt_h, .int t_found, .ref t_numbers_h, .int t_pairs, .ref t_pair_h, .ref t_most_h, .int t_rows, .ref t_row_h, .int t_notes, .ref t_under_h, .ref t_agreed_h])), (t_pair_h, .inl (cI, 120, .inl t_pair_a)), (t_most_h, .inl (cI, 6, .inl t_most_a))]) (sz := sz) (Qf := fun A => Qi0 G cI cJ [(t_h, .inr (10, [.int t_baseWay, .int t_slip, .int t_low, .int t_high, .int t_unlike, .int t_alone, .long t_above, .long t_below, .ref t_edges_h, .ref t_lean_h, .ref t_word_h, .int t_layers, .ref t_layer_h, .ref t_least_h, .int t_sights, .ref t_sight_h, .int t_shadows, .ref t_shadow_h, .long t_endAbove, .long t_endBelow, .long t_speedAbove, .long t_speedBelow, .int t_spans, .ref t_spanLow_h, .ref t_spanHigh_h, .ref t_spanAt_h, .int t_found, .ref t_numbers_h, .int t_pairs, .ref t_pair_h, .ref t_most_h, .int t_rows, .ref t_row_h, .int t_notes, .ref t_under_h, .ref t_agreed_h])), (t_pair_h, .inl (cI, 120, .inl t_pair_a)), (t_most_h, .inl (cI, 6, .inl o_t_most_a))] o_r A) (cc := cX10_bent) (maxL := 2) (ret := (some .int)) RX10 (by decide +kernel) rfl rfl (Nat.le_of_ble_eq_true rfl) ?_
  intro p e s m args below meth c A ls Q hQ hx hb hr hts hown hlocks hml hN hK hP hD hS hA hl
  have hl : lv_has ls 2 [(0, .ref t_h), (1, .int x1)] := hl
  have iwX10 := iwX10_bent_X10
  have fl_46 := hts (.fieldLink RX10 46 "CloudOfficeModel" "most" "[I") (by decide +kernel)
  have kc_194 := hts (.constant RX10 194 (-100000)) (by decide +kernel)
  have kc_195 := hts (.constant RX10 195 (-200000)) (by decide +kernel)
  have hret : ∀ (o_r9 : Int32) (o_t_most_a9 : Nat → Int32) (pc : Nat) (H : Heap) (locs : List Loc) (ls : Array Slot), decode cX10_bent pc = .ok (.ireturn, 1) → some (o_r9, o_t_most_a9) = some (o_r, o_t_most_a) → va_P G vwCl [(t_h, .inr (10, [.int t_baseWay, .int t_slip, .int t_low, .int t_high, .int t_unlike, .int t_alone, .long t_above, .long t_below, .ref t_edges_h, .ref t_lean_h, .ref t_word_h, .int t_layers, .ref t_layer_h, .ref t_least_h, .int t_sights, .ref t_sight_h, .int t_shadows, .ref t_shadow_h, .long t_endAbove, .long t_endBelow, .long t_speedAbove, .long t_speedBelow, .int t_spans, .ref t_spanLow_h, .ref t_spanHigh_h, .ref t_spanAt_h, .int t_found, .ref t_numbers_h, .int t_pairs, .ref t_pair_h, .ref t_most_h, .int t_rows, .ref t_row_h, .int t_notes, .ref t_under_h, .ref t_agreed_h])), (t_pair_h, .inl (cI, 120, .inl t_pair_a)), (t_most_h, .inl (cI, 6, .inl o_t_most_a9))] H → va_D A [(t_h, .inr (10, [.int t_baseWay, .int t_slip, .int t_low, .int t_high, .int t_unlike, .int t_alone, .long t_above, .long t_below, .ref t_edges_h, .ref t_lean_h, .ref t_word_h, .int t_layers, .ref t_layer_h, .ref t_least_h, .int t_sights, .ref t_sight_h, .int t_shadows, .ref t_shadow_h, .long t_endAbove, .long t_endBelow, .long t_speedAbove, .long t_speedBelow, .int t_spans, .ref t_spanLow_h, .ref t_spanHigh_h, .ref t_spanAt_h, .int t_found, .ref t_numbers_h, .int t_pairs, .ref t_pair_h, .ref t_most_h, .int t_rows, .ref t_row_h, .int t_notes, .ref t_under_h, .ref t_agreed_h])), (t_pair_h, .inl (cI, 120, .inl t_pair_a)), (t_most_h, .inl (cI, 6, .inl o_t_most_a9))] → va_S A s.heap H locs → W p l e rmX10_bent s m args below meth c H locs 0 0 Q (F0 m pc ls [.int o_r9]) := by
    intro o_r9 o_t_most_a9 pc H locs ls hdg he hP hD hS
    cases he
    subst hQ
    exact rt_i hx hb hr hlocks hK hP hD hS rfl hdg
  clear hQ
  unfold fX10_bent at hf
  refine lv_iload_n hx hb dX10_bent_0 rfl (lv_at hl 1 rfl) ?_
  refine lv_iconst (v := 0) hx hb dX10_bent_1 (by decide) ?_
  refine lv_iconst (v := 5) hx hb dX10_bent_2 (by decide) ?_
  obtain ⟨r1, hc2, hf⟩ := ob_some hf
  refine af_iR (va_runS (As := [.int x1, .int 0, .int 5]) (rest := []) ⟨hx, hb, hml, hown, hts⟩ (k_X10_in l G cI cJ (x0 := x1) (x1 := 0) (x2 := 5) (sz := _) (hf := hc2)) (va_cwS 3 hts gX10_bent_X10_in rfl rfl rfl (by decide +kernel) ⟨Nat.le_of_ble_eq_true rfl, Nat.le_of_ble_eq_true rfl⟩) (preS0 (wc := []) hK hP hD hN [] rfl rfl (by decide)) rfl rfl hl.1 rfl (lv_room (Nat.le_of_ble_eq_true rfl)) dX10_bent_3 ⟨Nat.zero_le _, Nat.zero_le _⟩) hP hD hS hA [] rfl (fun H locs hP hS => ?_)
  refine lv_if_ne (tgt := 12) hx hb dX10_bent_6 (by decide) (fun c3 => ?_) (fun c3 => ?_)
  · have hf := iff_ hf c3
    refine lv_iload_n hx hb dX10_bent_12 rfl (lv_at hl 1 rfl) ?_
    refine lv_if_ne (tgt := 18) hx hb dX10_bent_13 (by decide) (fun c4 => ?_) (fun c4 => ?_)
    · have hf := iff_ hf c4
      refine lv_aload_n hx hb dX10_bent_18 rfl (lv_at hl 0 rfl) ?_
      obtain ⟨r5, w6, hc7, hf⟩ := ob2_some hf
      refine af_iW (wr := []) (ws2 := [(t_h, .inr (10, [.int t_baseWay, .int t_slip, .int t_low, .int t_high, .int t_unlike, .int t_alone, .long t_above, .long t_below, .ref t_edges_h, .ref t_lean_h, .ref t_word_h, .int t_layers, .ref t_layer_h, .ref t_least_h, .int t_sights, .ref t_sight_h, .int t_shadows, .ref t_shadow_h, .long t_endAbove, .long t_endBelow, .long t_speedAbove, .long t_speedBelow, .int t_spans, .ref t_spanLow_h, .ref t_spanHigh_h, .ref t_spanAt_h, .int t_found, .ref t_numbers_h, .int t_pairs, .ref t_pair_h, .ref t_most_h, .int t_rows, .ref t_row_h, .int t_notes, .ref t_under_h, .ref t_agreed_h])), (t_pair_h, .inl (cI, 120, .inl t_pair_a)), (t_most_h, .inl (cI, 6, .inl w6))]) (va_runV (As := []) (rest := []) ⟨hx, hb, hml, hown, hts⟩ (k_X10_worstOf l G cI cJ (t_h := t_h) (t_edges_h := t_edges_h) (t_lean_h := t_lean_h) (t_word_h := t_word_h) (t_layer_h := t_layer_h) (t_least_h := t_least_h) (t_sight_h := t_sight_h) (t_shadow_h := t_shadow_h) (t_spanLow_h := t_spanLow_h) (t_spanHigh_h := t_spanHigh_h) (t_spanAt_h := t_spanAt_h) (t_numbers_h := t_numbers_h) (t_pair_h := t_pair_h) (t_most_h := t_most_h) (t_row_h := t_row_h) (t_under_h := t_under_h) (t_agreed_h := t_agreed_h) (t_baseWay := t_baseWay) (t_slip := t_slip) (t_low := t_low) (t_high := t_high) (t_unlike := t_unlike) (t_alone := t_alone) (t_above := t_above) (t_below := t_below) (t_layers := t_layers) (t_sights := t_sights) (t_shadows := t_shadows) (t_endAbove := t_endAbove) (t_endBelow := t_endBelow) (t_speedAbove := t_speedAbove) (t_speedBelow := t_speedBelow) (t_spans := t_spans) (t_found := t_found) (t_pairs := t_pairs) (t_rows := t_rows) (t_notes := t_notes) (t_pair_a := t_pair_a) (t_most_a := t_most_a) (sz := _) (hf := hc7)) (cwV 0 hts gX10_bent_X10_worstOf rfl rfl rfl (by decide +kernel) ⟨Nat.le_of_ble_eq_true rfl, Nat.le_of_ble_eq_true rfl⟩) (preV0 (ci := 10) (q0 := 0) (C := RX10) (wc := [(t_h, .inr (10, [.int t_baseWay, .int t_slip, .int t_low, .int t_high, .int t_unlike, .int t_alone, .long t_above, .long t_below, .ref t_edges_h, .ref t_lean_h, .ref t_word_h, .int t_layers, .ref t_layer_h, .ref t_least_h, .int t_sights, .ref t_sight_h, .int t_shadows, .ref t_shadow_h, .long t_endAbove, .long t_endBelow, .long t_speedAbove, .long t_speedBelow, .int t_spans, .ref t_spanLow_h, .ref t_spanHigh_h, .ref t_spanAt_h, .int t_found, .ref t_numbers_h, .int t_pairs, .ref t_pair_h, .ref t_most_h, .int t_rows, .ref t_row_h, .int t_notes, .ref t_under_h, .ref t_agreed_h])), (t_pair_h, .inl (cI, 120, .inl t_pair_a)), (t_most_h, .inl (cI, 6, .inl t_most_a))]) hK hP hD hN [0, 1, 2] rfl rfl (by decide) rfl rfl) rfl rfl hl.1 rfl (lv_room (Nat.le_of_ble_eq_true rfl)) dX10_bent_19 ⟨Nat.zero_le _, Nat.zero_le _⟩) hP hD hS hA [0, 1, 2] [] [0, 1, 2] rfl rfl (by decide) (by decide) rfl rfl (by decide) (fun H locs hP hD hS => ?_)
      refine lv_iconst (v := (-1)) hx hb dX10_bent_22 (by decide) ?_
      refine lv_icmp_eq (tgt := 37) hx hb dX10_bent_23 (by decide) (fun c8 => ?_) (fun c8 => ?_)
      · have hf := ift hf c8
        refine lv_ldc (v := (-200000)) hx hb hown kc_195 dX10_bent_37 ?_
        refine lv_goto (tgt := 48) hx hb dX10_bent_39 (by decide) ?_
        exact hret (-200000) w6 48 _ _ _ dX10_bent_48 hf hP hD hS
      · have hf := iff_ hf c8
        refine lv_aload_n hx hb dX10_bent_26 rfl (lv_at hl 0 rfl) ?_
        obtain ⟨r9, hc10, hf⟩ := ob_some hf
        refine af_iR (va_runV (As := []) (rest := []) ⟨hx, hb, hml, hown, hts⟩ (k_X10_paired l G cI cJ (t_h := t_h) (t_edges_h := t_edges_h) (t_lean_h := t_lean_h) (t_word_h := t_word_h) (t_layer_h := t_layer_h) (t_least_h := t_least_h) (t_sight_h := t_sight_h) (t_shadow_h := t_shadow_h) (t_spanLow_h := t_spanLow_h) (t_spanHigh_h := t_spanHigh_h) (t_spanAt_h := t_spanAt_h) (t_numbers_h := t_numbers_h) (t_pair_h := t_pair_h) (t_most_h := t_most_h) (t_row_h := t_row_h) (t_under_h := t_under_h) (t_agreed_h := t_agreed_h) (t_baseWay := t_baseWay) (t_slip := t_slip) (t_low := t_low) (t_high := t_high) (t_unlike := t_unlike) (t_alone := t_alone) (t_above := t_above) (t_below := t_below) (t_layers := t_layers) (t_sights := t_sights) (t_shadows := t_shadows) (t_endAbove := t_endAbove) (t_endBelow := t_endBelow) (t_speedAbove := t_speedAbove) (t_speedBelow := t_speedBelow) (t_spans := t_spans) (t_found := t_found) (t_pairs := t_pairs) (t_rows := t_rows) (t_notes := t_notes) (t_pair_a := t_pair_a) (sz := _) (hf := hc10)) (cwV 0 hts gX10_bent_X10_paired rfl rfl rfl (by decide +kernel) ⟨Nat.le_of_ble_eq_true rfl, Nat.le_of_ble_eq_true rfl⟩) (preV0 (ci := 10) (q0 := 0) (C := RX10) (wc := [(t_h, .inr (10, [.int t_baseWay, .int t_slip, .int t_low, .int t_high, .int t_unlike, .int t_alone, .long t_above, .long t_below, .ref t_edges_h, .ref t_lean_h, .ref t_word_h, .int t_layers, .ref t_layer_h, .ref t_least_h, .int t_sights, .ref t_sight_h, .int t_shadows, .ref t_shadow_h, .long t_endAbove, .long t_endBelow, .long t_speedAbove, .long t_speedBelow, .int t_spans, .ref t_spanLow_h, .ref t_spanHigh_h, .ref t_spanAt_h, .int t_found, .ref t_numbers_h, .int t_pairs, .ref t_pair_h, .ref t_most_h, .int t_rows, .ref t_row_h, .int t_notes, .ref t_under_h, .ref t_agreed_h])), (t_pair_h, .inl (cI, 120, .inl t_pair_a))]) hK hP hD hN [0, 1] rfl rfl (by decide) rfl rfl) rfl rfl hl.1 rfl (lv_room (Nat.le_of_ble_eq_true rfl)) dX10_bent_27 ⟨Nat.zero_le _, Nat.zero_le _⟩) hP hD hS hA [0, 1] rfl (fun H locs hP hS => ?_)
        refine lv_iload_n hx hb dX10_bent_30 rfl (lv_at hl 1 rfl) ?_
        refine lv_ishr hx hb dX10_bent_31 ?_
        refine lv_iconst (v := 1) hx hb dX10_bent_32 (by decide) ?_
        refine lv_iand hx hb dX10_bent_33 ?_
        refine lv_if_ne (tgt := 42) hx hb dX10_bent_34 (by decide) (fun c11 => ?_) (fun c11 => ?_)
        · have hf := iff_ hf c11
          refine lv_aload_n hx hb dX10_bent_42 rfl (lv_at hl 0 rfl) ?_
          refine va_get (D := G) (ci := 10) (v := .ref t_most_h) (C := RX10) (T := TX10) (N := 36) hx hb hts iwX10 hown hK hP 0 rfl rfl 30 (by decide) fl_46 (fun _ h9 => h9) rfl dX10_bent_43 ?_
          refine lv_iload_n hx hb dX10_bent_46 rfl (lv_at hl 1 rfl) ?_
          obtain ⟨h12, hf⟩ := gd_some hf
          refine va_iald hx hb hK hP 2 0 rfl rfl (bnd_in h12) dX10_bent_47 ?_
          exact hret (w6 (Int32.toNatClampNeg x1)) w6 48 _ _ _ dX10_bent_48 hf hP hD hS
        · have hf := ift hf c11
          refine lv_ldc (v := (-200000)) hx hb hown kc_195 dX10_bent_37 ?_
          refine lv_goto (tgt := 48) hx hb dX10_bent_39 (by decide) ?_
          exact hret (-200000) w6 48 _ _ _ dX10_bent_48 hf hP hD hS
    · have hf := ift hf c4
      refine lv_iconst (v := 0) hx hb dX10_bent_16 (by decide) ?_
      exact hret 0 t_most_a 17 _ _ _ dX10_bent_17 hf hP hD hS
  · have hf := ift hf c3
    refine lv_ldc (v := (-100000)) hx hb hown kc_194 dX10_bent_9 ?_
    exact hret (-100000) t_most_a 11 _ _ _ dX10_bent_11 hf hP hD hS
