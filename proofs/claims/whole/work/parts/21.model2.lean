set_option maxRecDepth 20000 in
theorem ggX10_sight_X10_in : GoodIn wsX10_sight wsX10_in := goodIn_r _ [6] (by decide +kernel) (by decide +kernel)
set_option maxRecDepth 20000 in
theorem gX10_sight_X10_in : GoodIn wsX10_sight (va_wsS RX10 89 yX10_in wsX10_in) := goodIn_app (goodIn_of _ (by decide +kernel)) ggX10_sight_X10_in
set_option maxRecDepth 20000 in
theorem ggX10_sight_X10_isLean : GoodIn wsX10_sight wsX10_isLean := goodIn_r _ [9, 3, 4, 5, 6] (by decide +kernel) (by decide +kernel)
set_option maxRecDepth 20000 in
theorem gX10_sight_X10_isLean : GoodIn wsX10_sight (va_wsS RX10 93 yX10_isLean wsX10_isLean) := goodIn_app (goodIn_of _ (by decide +kernel)) ggX10_sight_X10_isLean
theorem dX10_sight_0 : decode cX10_sight 0 = .ok (.iload_n 1, 1) := by decide +kernel
theorem dX10_sight_1 : decode cX10_sight 1 = .ok (.iconst 0, 1) := by decide +kernel
theorem dX10_sight_2 : decode cX10_sight 2 = .ok (.bipush 7, 2) := by decide +kernel
theorem dX10_sight_4 : decode cX10_sight 4 = .ok (.invokestatic 89, 3) := by decide +kernel
theorem dX10_sight_7 : decode cX10_sight 7 = .ok (.ifCond .eq 29, 3) := by decide +kernel
theorem dX10_sight_10 : decode cX10_sight 10 = .ok (.iload_n 2, 1) := by decide +kernel
theorem dX10_sight_11 : decode cX10_sight 11 = .ok (.iconst 0, 1) := by decide +kernel
theorem dX10_sight_12 : decode cX10_sight 12 = .ok (.sipush 1439, 3) := by decide +kernel
theorem dX10_sight_15 : decode cX10_sight 15 = .ok (.invokestatic 89, 3) := by decide +kernel
theorem dX10_sight_18 : decode cX10_sight 18 = .ok (.ifCond .eq 18, 3) := by decide +kernel
theorem dX10_sight_21 : decode cX10_sight 21 = .ok (.iload_n 3, 1) := by decide +kernel
theorem dX10_sight_22 : decode cX10_sight 22 = .ok (.invokestatic 93, 3) := by decide +kernel
theorem dX10_sight_25 : decode cX10_sight 25 = .ok (.ifCond .eq 11, 3) := by decide +kernel
theorem dX10_sight_28 : decode cX10_sight 28 = .ok (.iload 4, 2) := by decide +kernel
theorem dX10_sight_30 : decode cX10_sight 30 = .ok (.invokestatic 93, 3) := by decide +kernel
theorem dX10_sight_33 : decode cX10_sight 33 = .ok (.ifCond .ne 6, 3) := by decide +kernel
theorem dX10_sight_36 : decode cX10_sight 36 = .ok (.bipush (-2), 2) := by decide +kernel
theorem dX10_sight_38 : decode cX10_sight 38 = .ok (.ireturn, 1) := by decide +kernel
theorem dX10_sight_39 : decode cX10_sight 39 = .ok (.aload_n 0, 1) := by decide +kernel
theorem dX10_sight_40 : decode cX10_sight 40 = .ok (.getfield 119, 3) := by decide +kernel
theorem dX10_sight_43 : decode cX10_sight 43 = .ok (.bipush 40, 2) := by decide +kernel
theorem dX10_sight_45 : decode cX10_sight 45 = .ok (.if_icmp .ne 6, 3) := by decide +kernel
theorem dX10_sight_48 : decode cX10_sight 48 = .ok (.bipush (-4), 2) := by decide +kernel
theorem dX10_sight_50 : decode cX10_sight 50 = .ok (.ireturn, 1) := by decide +kernel
theorem dX10_sight_51 : decode cX10_sight 51 = .ok (.iconst 4, 1) := by decide +kernel
theorem dX10_sight_52 : decode cX10_sight 52 = .ok (.aload_n 0, 1) := by decide +kernel
theorem dX10_sight_53 : decode cX10_sight 53 = .ok (.getfield 119, 3) := by decide +kernel
theorem dX10_sight_56 : decode cX10_sight 56 = .ok (.imul, 1) := by decide +kernel
theorem dX10_sight_57 : decode cX10_sight 57 = .ok (.istore 5, 2) := by decide +kernel
theorem dX10_sight_59 : decode cX10_sight 59 = .ok (.aload_n 0, 1) := by decide +kernel
theorem dX10_sight_60 : decode cX10_sight 60 = .ok (.getfield 25, 3) := by decide +kernel
theorem dX10_sight_63 : decode cX10_sight 63 = .ok (.iload 5, 2) := by decide +kernel
theorem dX10_sight_65 : decode cX10_sight 65 = .ok (.iload_n 1, 1) := by decide +kernel
theorem dX10_sight_66 : decode cX10_sight 66 = .ok (.iastore, 1) := by decide +kernel
theorem dX10_sight_67 : decode cX10_sight 67 = .ok (.aload_n 0, 1) := by decide +kernel
theorem dX10_sight_68 : decode cX10_sight 68 = .ok (.getfield 25, 3) := by decide +kernel
theorem dX10_sight_71 : decode cX10_sight 71 = .ok (.iload 5, 2) := by decide +kernel
theorem dX10_sight_73 : decode cX10_sight 73 = .ok (.iconst 1, 1) := by decide +kernel
theorem dX10_sight_74 : decode cX10_sight 74 = .ok (.iadd, 1) := by decide +kernel
theorem dX10_sight_75 : decode cX10_sight 75 = .ok (.iload_n 2, 1) := by decide +kernel
theorem dX10_sight_76 : decode cX10_sight 76 = .ok (.iastore, 1) := by decide +kernel
theorem dX10_sight_77 : decode cX10_sight 77 = .ok (.aload_n 0, 1) := by decide +kernel
theorem dX10_sight_78 : decode cX10_sight 78 = .ok (.getfield 25, 3) := by decide +kernel
theorem dX10_sight_81 : decode cX10_sight 81 = .ok (.iload 5, 2) := by decide +kernel
theorem dX10_sight_83 : decode cX10_sight 83 = .ok (.iconst 2, 1) := by decide +kernel
theorem dX10_sight_84 : decode cX10_sight 84 = .ok (.iadd, 1) := by decide +kernel
theorem dX10_sight_85 : decode cX10_sight 85 = .ok (.iload_n 3, 1) := by decide +kernel
theorem dX10_sight_86 : decode cX10_sight 86 = .ok (.iastore, 1) := by decide +kernel
theorem dX10_sight_87 : decode cX10_sight 87 = .ok (.aload_n 0, 1) := by decide +kernel
theorem dX10_sight_88 : decode cX10_sight 88 = .ok (.getfield 25, 3) := by decide +kernel
theorem dX10_sight_91 : decode cX10_sight 91 = .ok (.iload 5, 2) := by decide +kernel
theorem dX10_sight_93 : decode cX10_sight 93 = .ok (.iconst 3, 1) := by decide +kernel
theorem dX10_sight_94 : decode cX10_sight 94 = .ok (.iadd, 1) := by decide +kernel
theorem dX10_sight_95 : decode cX10_sight 95 = .ok (.iload 4, 2) := by decide +kernel
theorem dX10_sight_97 : decode cX10_sight 97 = .ok (.iastore, 1) := by decide +kernel
theorem dX10_sight_98 : decode cX10_sight 98 = .ok (.aload_n 0, 1) := by decide +kernel
theorem dX10_sight_99 : decode cX10_sight 99 = .ok (.dup, 1) := by decide +kernel
theorem dX10_sight_100 : decode cX10_sight 100 = .ok (.getfield 119, 3) := by decide +kernel
theorem dX10_sight_103 : decode cX10_sight 103 = .ok (.iconst 1, 1) := by decide +kernel
theorem dX10_sight_104 : decode cX10_sight 104 = .ok (.iadd, 1) := by decide +kernel
theorem dX10_sight_105 : decode cX10_sight 105 = .ok (.putfield 119, 3) := by decide +kernel
theorem dX10_sight_108 : decode cX10_sight 108 = .ok (.aload_n 0, 1) := by decide +kernel
theorem dX10_sight_109 : decode cX10_sight 109 = .ok (.getfield 119, 3) := by decide +kernel
theorem dX10_sight_112 : decode cX10_sight 112 = .ok (.iconst 1, 1) := by decide +kernel
theorem dX10_sight_113 : decode cX10_sight 113 = .ok (.isub, 1) := by decide +kernel
theorem dX10_sight_114 : decode cX10_sight 114 = .ok (.ireturn, 1) := by decide +kernel
set_option maxRecDepth 100000 in
def fX10_sight (x1 : Int32) (x2 : Int32) (x3 : Int32) (x4 : Int32) (t_sights : Int32) (t_sight_a : Nat → Int32) : Option (Int32 × Int32 × (Nat → Int32)) :=
  ob (fX10_in x1 0 7) fun r1 =>
  if (b2i r1) = 0 then
    some ((-2), t_sights, t_sight_a)
  else
    ob (fX10_in x2 0 1439) fun r4 =>
    if (b2i r4) = 0 then
      some ((-2), t_sights, t_sight_a)
    else
      ob (fX10_isLean x3) fun r7 =>
      if (b2i r7) = 0 then
        some ((-2), t_sights, t_sight_a)
      else
        ob (fX10_isLean x4) fun r10 =>
        if (b2i r10) = 0 then
          some ((-2), t_sights, t_sight_a)
        else
          if t_sights = 40 then
            some ((-4), t_sights, t_sight_a)
          else
            bv (4 * t_sights) fun v14 =>
            gd (bnd v14 160) <|
            bv (upd t_sight_a (Int32.toNatClampNeg v14) x1) fun a16 =>
            gd (bnd (v14 + 1) 160) <|
            bv (upd a16 (Int32.toNatClampNeg (v14 + 1)) x2) fun a18 =>
            gd (bnd (v14 + 2) 160) <|
            bv (upd a18 (Int32.toNatClampNeg (v14 + 2)) x3) fun a20 =>
            gd (bnd (v14 + 3) 160) <|
            bv (upd a20 (Int32.toNatClampNeg (v14 + 3)) x4) fun a22 =>
            bv (t_sights + 1) fun v23 =>
            some (v23 - 1, v23, a22)
abbrev rmX10_sight : Room := { frames := 2, cells := 0, slots := 0, locals := 42 }
theorem iwX10_sight_X10 : ∀ w ∈ u_ws RX10 TX10 36, w ∈ wsX10_sight := by decide +kernel
set_option maxHeartbeats 4000000 in
set_option maxRecDepth 100000 in
theorem k_X10_sight (l : Launch) (G : va_G) (cI cJ : ClassId) (t_h t_edges_h t_lean_h t_word_h t_layer_h t_least_h t_sight_h t_shadow_h t_spanLow_h t_spanHigh_h t_spanAt_h t_numbers_h t_pair_h t_most_h t_row_h t_under_h t_agreed_h : Nat) (sz : Nat) (t_baseWay : Int32) (t_slip : Int32) (t_low : Int32) (t_high : Int32) (t_unlike : Int32) (t_alone : Int32) (t_above : Int64) (t_below : Int64) (t_layers : Int32) (t_sights : Int32) (t_shadows : Int32) (t_endAbove : Int64) (t_endBelow : Int64) (t_speedAbove : Int64) (t_speedBelow : Int64) (t_spans : Int32) (t_found : Int32) (t_pairs : Int32) (t_rows : Int32) (t_notes : Int32) (t_sight_a : Nat → Int32) (x1 : Int32) (x2 : Int32) (x3 : Int32) (x4 : Int32) {o_r : Int32} {o_t_sights : Int32} {o_t_sight_a : Nat → Int32} (hf : fX10_sight x1 x2 x3 x4 t_sights t_sight_a = some (o_r, o_t_sights, o_t_sight_a)) : MetI l yX10_sight wsX10_sight rmX10_sight [.ref t_h, .int x1, .int x2, .int x3, .int x4] G cI cJ [(t_h, .inr (10, [.int t_baseWay, .int t_slip, .int t_low, .int t_high, .int t_unlike, .int t_alone, .long t_above, .long t_below, .ref t_edges_h, .ref t_lean_h, .ref t_word_h, .int t_layers, .ref t_layer_h, .ref t_least_h, .int t_sights, .ref t_sight_h, .int t_shadows, .ref t_shadow_h, .long t_endAbove, .long t_endBelow, .long t_speedAbove, .long t_speedBelow, .int t_spans, .ref t_spanLow_h, .ref t_spanHigh_h, .ref t_spanAt_h, .int t_found, .ref t_numbers_h, .int t_pairs, .ref t_pair_h, .ref t_most_h, .int t_rows, .ref t_row_h, .int t_notes, .ref t_under_h, .ref t_agreed_h])), (t_sight_h, .inl (cI, 160, .inl t_sight_a))] [(t_h, .inr (10, [.int t_baseWay, .int t_slip, .int t_low, .int t_high, .int t_unlike, .int t_alone, .long t_above, .long t_below, .ref t_edges_h, .ref t_lean_h, .ref t_word_h, .int t_layers, .ref t_layer_h, .ref t_least_h, .int o_t_sights, .ref t_sight_h, .int t_shadows, .ref t_shadow_h, .long t_endAbove, .long t_endBelow, .long t_speedAbove, .long t_speedBelow, .int t_spans, .ref t_spanLow_h, .ref t_spanHigh_h, .ref t_spanAt_h, .int t_found, .ref t_numbers_h, .int t_pairs, .ref t_pair_h, .ref t_most_h, .int t_rows, .ref t_row_h, .int t_notes, .ref t_under_h, .ref t_agreed_h])), (t_sight_h, .inl (cI, 160, .inl o_t_sight_a))] sz o_r := by
  refine en_0 (l := l) (y := yX10_sight) (wsl := wsX10_sight) (rm := rmX10_sight) (av := [.ref t_h, .int x1, .int x2, .int x3, .int x4]) (G := G) (cI := cI) (cJ := cJ) (w0 := [(t_h, .inr (10, [.int t_baseWay, .int t_slip, .int t_low, .int t_high, .int t_unlike, .int t_alone, .long t_above, .long t_below, .ref t_edges_h, .ref t_lean_h, .ref t_word_h, .int t_layers, .ref t_layer_h, .ref t_least_h, .int t_sights, .ref t_sight_h, .int t_shadows, .ref t_shadow_h, .long t_endAbove, .long t_endBelow, .long t_speedAbove, .long t_speedBelow, .int t_spans, .ref t_spanLow_h, .ref t_spanHigh_h, .ref t_spanAt_h, .int t_found, .ref t_numbers_h, .int t_pairs, .ref t_pair_h, .ref t_most_h, .int t_rows, .ref t_row_h, .int t_notes, .ref t_under_h, .ref t_agreed_h])), (t_sight_h, .inl (cI, 160, .inl t_sight_a))]) (sz := sz) (Qf := fun A => Qi0 G cI cJ [(t_h, .inr (10, [.int t_baseWay, .int t_slip, .int t_low, .int t_high, .int t_unlike, .int t_alone, .long t_above, .long t_below, .ref t_edges_h, .ref t_lean_h, .ref t_word_h, .int t_layers, .ref t_layer_h, .ref t_least_h, .int o_t_sights, .ref t_sight_h, .int t_shadows, .ref t_shadow_h, .long t_endAbove, .long t_endBelow, .long t_speedAbove, .long t_speedBelow, .int t_spans, .ref t_spanLow_h, .ref t_spanHigh_h, .ref t_spanAt_h, .int t_found, .ref t_numbers_h, .int t_pairs, .ref t_pair_h, .ref t_most_h, .int t_rows, .ref t_row_h, .int t_notes, .ref t_under_h, .ref t_agreed_h])), (t_sight_h, .inl (cI, 160, .inl o_t_sight_a))] o_r A) (cc := cX10_sight) (maxL := 6) (ret := (some .int)) RX10 (by decide +kernel) rfl rfl (Nat.le_of_ble_eq_true rfl) ?_
  intro p e s m args below meth c A ls Q hQ hx hb hr hts hown hlocks hml hN hK hP hD hS hA hl
  have hl : lv_has ls 6 [(0, .ref t_h), (1, .int x1), (2, .int x2), (3, .int x3), (4, .int x4)] := hl
  have iwX10 := iwX10_sight_X10
  have fl_25 := hts (.fieldLink RX10 25 "CloudOfficeModel" "sight" "[I") (by decide +kernel)
  have fl_119 := hts (.fieldLink RX10 119 "CloudOfficeModel" "sights" "I") (by decide +kernel)
  have hret : ∀ (o_r9 : Int32) (o_t_sights9 : Int32) (o_t_sight_a9 : Nat → Int32) (pc : Nat) (H : Heap) (locs : List Loc) (ls : Array Slot), decode cX10_sight pc = .ok (.ireturn, 1) → some (o_r9, o_t_sights9, o_t_sight_a9) = some (o_r, o_t_sights, o_t_sight_a) → va_P G vwCl [(t_h, .inr (10, [.int t_baseWay, .int t_slip, .int t_low, .int t_high, .int t_unlike, .int t_alone, .long t_above, .long t_below, .ref t_edges_h, .ref t_lean_h, .ref t_word_h, .int t_layers, .ref t_layer_h, .ref t_least_h, .int o_t_sights9, .ref t_sight_h, .int t_shadows, .ref t_shadow_h, .long t_endAbove, .long t_endBelow, .long t_speedAbove, .long t_speedBelow, .int t_spans, .ref t_spanLow_h, .ref t_spanHigh_h, .ref t_spanAt_h, .int t_found, .ref t_numbers_h, .int t_pairs, .ref t_pair_h, .ref t_most_h, .int t_rows, .ref t_row_h, .int t_notes, .ref t_under_h, .ref t_agreed_h])), (t_sight_h, .inl (cI, 160, .inl o_t_sight_a9))] H → va_D A [(t_h, .inr (10, [.int t_baseWay, .int t_slip, .int t_low, .int t_high, .int t_unlike, .int t_alone, .long t_above, .long t_below, .ref t_edges_h, .ref t_lean_h, .ref t_word_h, .int t_layers, .ref t_layer_h, .ref t_least_h, .int o_t_sights9, .ref t_sight_h, .int t_shadows, .ref t_shadow_h, .long t_endAbove, .long t_endBelow, .long t_speedAbove, .long t_speedBelow, .int t_spans, .ref t_spanLow_h, .ref t_spanHigh_h, .ref t_spanAt_h, .int t_found, .ref t_numbers_h, .int t_pairs, .ref t_pair_h, .ref t_most_h, .int t_rows, .ref t_row_h, .int t_notes, .ref t_under_h, .ref t_agreed_h])), (t_sight_h, .inl (cI, 160, .inl o_t_sight_a9))] → va_S A s.heap H locs → W p l e rmX10_sight s m args below meth c H locs 0 0 Q (F0 m pc ls [.int o_r9]) := by
    intro o_r9 o_t_sights9 o_t_sight_a9 pc H locs ls hdg he hP hD hS
    cases he
    subst hQ
    exact rt_i hx hb hr hlocks hK hP hD hS rfl hdg
  clear hQ
  unfold fX10_sight at hf
  refine lv_iload_n hx hb dX10_sight_0 rfl (lv_at hl 1 rfl) ?_
  refine lv_iconst (v := 0) hx hb dX10_sight_1 (by decide) ?_
  refine lv_bipush (v := 7) hx hb dX10_sight_2 (by decide) ?_
  obtain ⟨r1, hc2, hf⟩ := ob_some hf
  refine af_iR (va_runS (As := [.int x1, .int 0, .int 7]) (rest := []) ⟨hx, hb, hml, hown, hts⟩ (k_X10_in l G cI cJ (x0 := x1) (x1 := 0) (x2 := 7) (sz := _) (hf := hc2)) (va_cwS 3 hts gX10_sight_X10_in rfl rfl rfl (by decide +kernel) ⟨Nat.le_of_ble_eq_true rfl, Nat.le_of_ble_eq_true rfl⟩) (preS0 (wc := []) hK hP hD hN [] rfl rfl (by decide)) rfl rfl hl.1 rfl (lv_room (Nat.le_of_ble_eq_true rfl)) dX10_sight_4 ⟨Nat.zero_le _, Nat.zero_le _⟩) hP hD hS hA [] rfl (fun H locs hP hS => ?_)
  refine lv_if_eq (tgt := 36) hx hb dX10_sight_7 (by decide) (fun c3 => ?_) (fun c3 => ?_)
  · have hf := ift hf c3
    refine lv_bipush (v := (-2)) hx hb dX10_sight_36 (by decide) ?_
    exact hret (-2) t_sights t_sight_a 38 _ _ _ dX10_sight_38 hf hP hD hS
  · have hf := iff_ hf c3
    refine lv_iload_n hx hb dX10_sight_10 rfl (lv_at hl 2 rfl) ?_
    refine lv_iconst (v := 0) hx hb dX10_sight_11 (by decide) ?_
    refine lv_sipush (v := 1439) hx hb dX10_sight_12 (by decide) ?_
    obtain ⟨r4, hc5, hf⟩ := ob_some hf
    refine af_iR (va_runS (As := [.int x2, .int 0, .int 1439]) (rest := []) ⟨hx, hb, hml, hown, hts⟩ (k_X10_in l G cI cJ (x0 := x2) (x1 := 0) (x2 := 1439) (sz := _) (hf := hc5)) (va_cwS 3 hts gX10_sight_X10_in rfl rfl rfl (by decide +kernel) ⟨Nat.le_of_ble_eq_true rfl, Nat.le_of_ble_eq_true rfl⟩) (preS0 (wc := []) hK hP hD hN [] rfl rfl (by decide)) rfl rfl hl.1 rfl (lv_room (Nat.le_of_ble_eq_true rfl)) dX10_sight_15 ⟨Nat.zero_le _, Nat.zero_le _⟩) hP hD hS hA [] rfl (fun H locs hP hS => ?_)
    refine lv_if_eq (tgt := 36) hx hb dX10_sight_18 (by decide) (fun c6 => ?_) (fun c6 => ?_)
    · have hf := ift hf c6
      refine lv_bipush (v := (-2)) hx hb dX10_sight_36 (by decide) ?_
      exact hret (-2) t_sights t_sight_a 38 _ _ _ dX10_sight_38 hf hP hD hS
    · have hf := iff_ hf c6
      refine lv_iload_n hx hb dX10_sight_21 rfl (lv_at hl 3 rfl) ?_
      obtain ⟨r7, hc8, hf⟩ := ob_some hf
      refine af_iR (va_runS (As := [.int x3]) (rest := []) ⟨hx, hb, hml, hown, hts⟩ (k_X10_isLean l G cI cJ (x0 := x3) (sz := _) (hf := hc8)) (va_cwS 1 hts gX10_sight_X10_isLean rfl rfl rfl (by decide +kernel) ⟨Nat.le_of_ble_eq_true rfl, Nat.le_of_ble_eq_true rfl⟩) (preS0 (wc := []) hK hP hD hN [] rfl rfl (by decide)) rfl rfl hl.1 rfl (lv_room (Nat.le_of_ble_eq_true rfl)) dX10_sight_22 ⟨Nat.zero_le _, Nat.zero_le _⟩) hP hD hS hA [] rfl (fun H locs hP hS => ?_)
      refine lv_if_eq (tgt := 36) hx hb dX10_sight_25 (by decide) (fun c9 => ?_) (fun c9 => ?_)
      · have hf := ift hf c9
        refine lv_bipush (v := (-2)) hx hb dX10_sight_36 (by decide) ?_
        exact hret (-2) t_sights t_sight_a 38 _ _ _ dX10_sight_38 hf hP hD hS
      · have hf := iff_ hf c9
        refine lv_iload hx hb dX10_sight_28 (lv_at hl 4 rfl) ?_
        obtain ⟨r10, hc11, hf⟩ := ob_some hf
        refine af_iR (va_runS (As := [.int x4]) (rest := []) ⟨hx, hb, hml, hown, hts⟩ (k_X10_isLean l G cI cJ (x0 := x4) (sz := _) (hf := hc11)) (va_cwS 1 hts gX10_sight_X10_isLean rfl rfl rfl (by decide +kernel) ⟨Nat.le_of_ble_eq_true rfl, Nat.le_of_ble_eq_true rfl⟩) (preS0 (wc := []) hK hP hD hN [] rfl rfl (by decide)) rfl rfl hl.1 rfl (lv_room (Nat.le_of_ble_eq_true rfl)) dX10_sight_30 ⟨Nat.zero_le _, Nat.zero_le _⟩) hP hD hS hA [] rfl (fun H locs hP hS => ?_)
        refine lv_if_ne (tgt := 39) hx hb dX10_sight_33 (by decide) (fun c12 => ?_) (fun c12 => ?_)
        · have hf := iff_ hf c12
          refine lv_aload_n hx hb dX10_sight_39 rfl (lv_at hl 0 rfl) ?_
          refine va_get (D := G) (ci := 10) (v := .int t_sights) (C := RX10) (T := TX10) (N := 36) hx hb hts iwX10 hown hK hP 0 rfl rfl 14 (by decide) fl_119 (fun _ h9 => h9) rfl dX10_sight_40 ?_
          refine lv_bipush (v := 40) hx hb dX10_sight_43 (by decide) ?_
          refine lv_icmp_ne (tgt := 51) hx hb dX10_sight_45 (by decide) (fun c13 => ?_) (fun c13 => ?_)
          · have hf := iff_ hf c13
            refine lv_iconst (v := 4) hx hb dX10_sight_51 (by decide) ?_
            refine lv_aload_n hx hb dX10_sight_52 rfl (lv_at hl 0 rfl) ?_
            refine va_get (D := G) (ci := 10) (v := .int t_sights) (C := RX10) (T := TX10) (N := 36) hx hb hts iwX10 hown hK hP 0 rfl rfl 14 (by decide) fl_119 (fun _ h9 => h9) rfl dX10_sight_53 ?_
            refine lv_imul hx hb dX10_sight_56 ?_
            refine lv_topi (fun v14 ev14 => ?_)
            have hf := bv_at ev14 hf
            refine lv_istore (lv' := [(5, .int v14), (0, .ref t_h), (1, .int x1), (2, .int x2), (3, .int x3), (4, .int x4)]) hx hb dX10_sight_57 hl (by decide) rfl (fun ls hl => ?_)
            refine lv_aload_n hx hb dX10_sight_59 rfl (lv_at hl 1 rfl) ?_
            refine va_get (D := G) (ci := 10) (v := .ref t_sight_h) (C := RX10) (T := TX10) (N := 36) hx hb hts iwX10 hown hK hP 0 rfl rfl 15 (by decide) fl_25 (fun _ h9 => h9) rfl dX10_sight_60 ?_
            refine lv_iload hx hb dX10_sight_63 (lv_at hl 0 rfl) ?_
            refine lv_iload_n hx hb dX10_sight_65 rfl (lv_at hl 2 rfl) ?_
            obtain ⟨h15, hf⟩ := gd_some hf
            obtain ⟨a16, ea16⟩ : ∃ y : Nat → Int32, y = upd t_sight_a (Int32.toNatClampNeg v14) x1 := ⟨_, rfl⟩
            have hf := bv_at ea16 hf
            refine va_iast hx hb hK hP hD hS 1 0 rfl rfl (bnd_in h15) dX10_sight_66 (fun H locs hP hD hS => ?_)
            have hP : va_P G vwCl [(t_h, .inr (10, [.int t_baseWay, .int t_slip, .int t_low, .int t_high, .int t_unlike, .int t_alone, .long t_above, .long t_below, .ref t_edges_h, .ref t_lean_h, .ref t_word_h, .int t_layers, .ref t_layer_h, .ref t_least_h, .int t_sights, .ref t_sight_h, .int t_shadows, .ref t_shadow_h, .long t_endAbove, .long t_endBelow, .long t_speedAbove, .long t_speedBelow, .int t_spans, .ref t_spanLow_h, .ref t_spanHigh_h, .ref t_spanAt_h, .int t_found, .ref t_numbers_h, .int t_pairs, .ref t_pair_h, .ref t_most_h, .int t_rows, .ref t_row_h, .int t_notes, .ref t_under_h, .ref t_agreed_h])), (t_sight_h, .inl (cI, 160, .inl a16))] H := by rw [ea16]; exact hP
            have hD : va_D A [(t_h, .inr (10, [.int t_baseWay, .int t_slip, .int t_low, .int t_high, .int t_unlike, .int t_alone, .long t_above, .long t_below, .ref t_edges_h, .ref t_lean_h, .ref t_word_h, .int t_layers, .ref t_layer_h, .ref t_least_h, .int t_sights, .ref t_sight_h, .int t_shadows, .ref t_shadow_h, .long t_endAbove, .long t_endBelow, .long t_speedAbove, .long t_speedBelow, .int t_spans, .ref t_spanLow_h, .ref t_spanHigh_h, .ref t_spanAt_h, .int t_found, .ref t_numbers_h, .int t_pairs, .ref t_pair_h, .ref t_most_h, .int t_rows, .ref t_row_h, .int t_notes, .ref t_under_h, .ref t_agreed_h])), (t_sight_h, .inl (cI, 160, .inl a16))] := by rw [ea16]; exact hD
            refine lv_aload_n hx hb dX10_sight_67 rfl (lv_at hl 1 rfl) ?_
            refine va_get (D := G) (ci := 10) (v := .ref t_sight_h) (C := RX10) (T := TX10) (N := 36) hx hb hts iwX10 hown hK hP 0 rfl rfl 15 (by decide) fl_25 (fun _ h9 => h9) rfl dX10_sight_68 ?_
            refine lv_iload hx hb dX10_sight_71 (lv_at hl 0 rfl) ?_
            refine lv_iconst (v := 1) hx hb dX10_sight_73 (by decide) ?_
            refine lv_iadd hx hb dX10_sight_74 ?_
            refine lv_iload_n hx hb dX10_sight_75 rfl (lv_at hl 3 rfl) ?_
            obtain ⟨h17, hf⟩ := gd_some hf
            obtain ⟨a18, ea18⟩ : ∃ y : Nat → Int32, y = upd a16 (Int32.toNatClampNeg (v14 + 1)) x2 := ⟨_, rfl⟩
            have hf := bv_at ea18 hf
            refine va_iast hx hb hK hP hD hS 1 0 rfl rfl (bnd_in h17) dX10_sight_76 (fun H locs hP hD hS => ?_)
            have hP : va_P G vwCl [(t_h, .inr (10, [.int t_baseWay, .int t_slip, .int t_low, .int t_high, .int t_unlike, .int t_alone, .long t_above, .long t_below, .ref t_edges_h, .ref t_lean_h, .ref t_word_h, .int t_layers, .ref t_layer_h, .ref t_least_h, .int t_sights, .ref t_sight_h, .int t_shadows, .ref t_shadow_h, .long t_endAbove, .long t_endBelow, .long t_speedAbove, .long t_speedBelow, .int t_spans, .ref t_spanLow_h, .ref t_spanHigh_h, .ref t_spanAt_h, .int t_found, .ref t_numbers_h, .int t_pairs, .ref t_pair_h, .ref t_most_h, .int t_rows, .ref t_row_h, .int t_notes, .ref t_under_h, .ref t_agreed_h])), (t_sight_h, .inl (cI, 160, .inl a18))] H := by rw [ea18]; exact hP
            have hD : va_D A [(t_h, .inr (10, [.int t_baseWay, .int t_slip, .int t_low, .int t_high, .int t_unlike, .int t_alone, .long t_above, .long t_below, .ref t_edges_h, .ref t_lean_h, .ref t_word_h, .int t_layers, .ref t_layer_h, .ref t_least_h, .int t_sights, .ref t_sight_h, .int t_shadows, .ref t_shadow_h, .long t_endAbove, .long t_endBelow, .long t_speedAbove, .long t_speedBelow, .int t_spans, .ref t_spanLow_h, .ref t_spanHigh_h, .ref t_spanAt_h, .int t_found, .ref t_numbers_h, .int t_pairs, .ref t_pair_h, .ref t_most_h, .int t_rows, .ref t_row_h, .int t_notes, .ref t_under_h, .ref t_agreed_h])), (t_sight_h, .inl (cI, 160, .inl a18))] := by rw [ea18]; exact hD
            refine lv_aload_n hx hb dX10_sight_77 rfl (lv_at hl 1 rfl) ?_
            refine va_get (D := G) (ci := 10) (v := .ref t_sight_h) (C := RX10) (T := TX10) (N := 36) hx hb hts iwX10 hown hK hP 0 rfl rfl 15 (by decide) fl_25 (fun _ h9 => h9) rfl dX10_sight_78 ?_
            refine lv_iload hx hb dX10_sight_81 (lv_at hl 0 rfl) ?_
            refine lv_iconst (v := 2) hx hb dX10_sight_83 (by decide) ?_
            refine lv_iadd hx hb dX10_sight_84 ?_
            refine lv_iload_n hx hb dX10_sight_85 rfl (lv_at hl 4 rfl) ?_
            obtain ⟨h19, hf⟩ := gd_some hf
            obtain ⟨a20, ea20⟩ : ∃ y : Nat → Int32, y = upd a18 (Int32.toNatClampNeg (v14 + 2)) x3 := ⟨_, rfl⟩
            have hf := bv_at ea20 hf
            refine va_iast hx hb hK hP hD hS 1 0 rfl rfl (bnd_in h19) dX10_sight_86 (fun H locs hP hD hS => ?_)
            have hP : va_P G vwCl [(t_h, .inr (10, [.int t_baseWay, .int t_slip, .int t_low, .int t_high, .int t_unlike, .int t_alone, .long t_above, .long t_below, .ref t_edges_h, .ref t_lean_h, .ref t_word_h, .int t_layers, .ref t_layer_h, .ref t_least_h, .int t_sights, .ref t_sight_h, .int t_shadows, .ref t_shadow_h, .long t_endAbove, .long t_endBelow, .long t_speedAbove, .long t_speedBelow, .int t_spans, .ref t_spanLow_h, .ref t_spanHigh_h, .ref t_spanAt_h, .int t_found, .ref t_numbers_h, .int t_pairs, .ref t_pair_h, .ref t_most_h, .int t_rows, .ref t_row_h, .int t_notes, .ref t_under_h, .ref t_agreed_h])), (t_sight_h, .inl (cI, 160, .inl a20))] H := by rw [ea20]; exact hP
            have hD : va_D A [(t_h, .inr (10, [.int t_baseWay, .int t_slip, .int t_low, .int t_high, .int t_unlike, .int t_alone, .long t_above, .long t_below, .ref t_edges_h, .ref t_lean_h, .ref t_word_h, .int t_layers, .ref t_layer_h, .ref t_least_h, .int t_sights, .ref t_sight_h, .int t_shadows, .ref t_shadow_h, .long t_endAbove, .long t_endBelow, .long t_speedAbove, .long t_speedBelow, .int t_spans, .ref t_spanLow_h, .ref t_spanHigh_h, .ref t_spanAt_h, .int t_found, .ref t_numbers_h, .int t_pairs, .ref t_pair_h, .ref t_most_h, .int t_rows, .ref t_row_h, .int t_notes, .ref t_under_h, .ref t_agreed_h])), (t_sight_h, .inl (cI, 160, .inl a20))] := by rw [ea20]; exact hD
            refine lv_aload_n hx hb dX10_sight_87 rfl (lv_at hl 1 rfl) ?_
            refine va_get (D := G) (ci := 10) (v := .ref t_sight_h) (C := RX10) (T := TX10) (N := 36) hx hb hts iwX10 hown hK hP 0 rfl rfl 15 (by decide) fl_25 (fun _ h9 => h9) rfl dX10_sight_88 ?_
            refine lv_iload hx hb dX10_sight_91 (lv_at hl 0 rfl) ?_
            refine lv_iconst (v := 3) hx hb dX10_sight_93 (by decide) ?_
            refine lv_iadd hx hb dX10_sight_94 ?_
            refine lv_iload hx hb dX10_sight_95 (lv_at hl 5 rfl) ?_
            obtain ⟨h21, hf⟩ := gd_some hf
            obtain ⟨a22, ea22⟩ : ∃ y : Nat → Int32, y = upd a20 (Int32.toNatClampNeg (v14 + 3)) x4 := ⟨_, rfl⟩
            have hf := bv_at ea22 hf
            refine va_iast hx hb hK hP hD hS 1 0 rfl rfl (bnd_in h21) dX10_sight_97 (fun H locs hP hD hS => ?_)
            have hP : va_P G vwCl [(t_h, .inr (10, [.int t_baseWay, .int t_slip, .int t_low, .int t_high, .int t_unlike, .int t_alone, .long t_above, .long t_below, .ref t_edges_h, .ref t_lean_h, .ref t_word_h, .int t_layers, .ref t_layer_h, .ref t_least_h, .int t_sights, .ref t_sight_h, .int t_shadows, .ref t_shadow_h, .long t_endAbove, .long t_endBelow, .long t_speedAbove, .long t_speedBelow, .int t_spans, .ref t_spanLow_h, .ref t_spanHigh_h, .ref t_spanAt_h, .int t_found, .ref t_numbers_h, .int t_pairs, .ref t_pair_h, .ref t_most_h, .int t_rows, .ref t_row_h, .int t_notes, .ref t_under_h, .ref t_agreed_h])), (t_sight_h, .inl (cI, 160, .inl a22))] H := by rw [ea22]; exact hP
            have hD : va_D A [(t_h, .inr (10, [.int t_baseWay, .int t_slip, .int t_low, .int t_high, .int t_unlike, .int t_alone, .long t_above, .long t_below, .ref t_edges_h, .ref t_lean_h, .ref t_word_h, .int t_layers, .ref t_layer_h, .ref t_least_h, .int t_sights, .ref t_sight_h, .int t_shadows, .ref t_shadow_h, .long t_endAbove, .long t_endBelow, .long t_speedAbove, .long t_speedBelow, .int t_spans, .ref t_spanLow_h, .ref t_spanHigh_h, .ref t_spanAt_h, .int t_found, .ref t_numbers_h, .int t_pairs, .ref t_pair_h, .ref t_most_h, .int t_rows, .ref t_row_h, .int t_notes, .ref t_under_h, .ref t_agreed_h])), (t_sight_h, .inl (cI, 160, .inl a22))] := by rw [ea22]; exact hD
            refine lv_aload_n hx hb dX10_sight_98 rfl (lv_at hl 1 rfl) ?_
            refine lv_dup hx hb dX10_sight_99 rfl ?_
            refine va_get (D := G) (ci := 10) (v := .int t_sights) (C := RX10) (T := TX10) (N := 36) hx hb hts iwX10 hown hK hP 0 rfl rfl 14 (by decide) fl_119 (fun _ h9 => h9) rfl dX10_sight_100 ?_
            refine lv_iconst (v := 1) hx hb dX10_sight_103 (by decide) ?_
            refine lv_iadd hx hb dX10_sight_104 ?_
            refine lv_topi (fun v23 ev23 => ?_)
            have hf := bv_at ev23 hf
            refine va_put (D := G) (ci := 10) (v := .int v23) (ty := .int) (C := RX10) (T := TX10) (N := 36) hx hb hts iwX10 tyX10 tyX10_ok nmX10 hown hK hP hD hS 0 rfl rfl 14 (by decide) fl_119 (fun _ h9 => h9) rfl (by decide +kernel) rfl rfl (Nat.le_of_ble_eq_true rfl) dX10_sight_105 (fun H locs hP hD hS => ?_)
            have hP : va_P G vwCl [(t_h, .inr (10, [.int t_baseWay, .int t_slip, .int t_low, .int t_high, .int t_unlike, .int t_alone, .long t_above, .long t_below, .ref t_edges_h, .ref t_lean_h, .ref t_word_h, .int t_layers, .ref t_layer_h, .ref t_least_h, .int v23, .ref t_sight_h, .int t_shadows, .ref t_shadow_h, .long t_endAbove, .long t_endBelow, .long t_speedAbove, .long t_speedBelow, .int t_spans, .ref t_spanLow_h, .ref t_spanHigh_h, .ref t_spanAt_h, .int t_found, .ref t_numbers_h, .int t_pairs, .ref t_pair_h, .ref t_most_h, .int t_rows, .ref t_row_h, .int t_notes, .ref t_under_h, .ref t_agreed_h])), (t_sight_h, .inl (cI, 160, .inl a22))] H := hP
            have hD : va_D A [(t_h, .inr (10, [.int t_baseWay, .int t_slip, .int t_low, .int t_high, .int t_unlike, .int t_alone, .long t_above, .long t_below, .ref t_edges_h, .ref t_lean_h, .ref t_word_h, .int t_layers, .ref t_layer_h, .ref t_least_h, .int v23, .ref t_sight_h, .int t_shadows, .ref t_shadow_h, .long t_endAbove, .long t_endBelow, .long t_speedAbove, .long t_speedBelow, .int t_spans, .ref t_spanLow_h, .ref t_spanHigh_h, .ref t_spanAt_h, .int t_found, .ref t_numbers_h, .int t_pairs, .ref t_pair_h, .ref t_most_h, .int t_rows, .ref t_row_h, .int t_notes, .ref t_under_h, .ref t_agreed_h])), (t_sight_h, .inl (cI, 160, .inl a22))] := hD
            refine lv_aload_n hx hb dX10_sight_108 rfl (lv_at hl 1 rfl) ?_
            refine va_get (D := G) (ci := 10) (v := .int v23) (C := RX10) (T := TX10) (N := 36) hx hb hts iwX10 hown hK hP 0 rfl rfl 14 (by decide) fl_119 (fun _ h9 => h9) rfl dX10_sight_109 ?_
            refine lv_iconst (v := 1) hx hb dX10_sight_112 (by decide) ?_
            refine lv_isub hx hb dX10_sight_113 ?_
            exact hret (v23 - 1) v23 a22 114 _ _ _ dX10_sight_114 hf hP hD hS
          · have hf := ift hf c13
            refine lv_bipush (v := (-4)) hx hb dX10_sight_48 (by decide) ?_
            exact hret (-4) t_sights t_sight_a 50 _ _ _ dX10_sight_50 hf hP hD hS
        · have hf := ift hf c12
          refine lv_bipush (v := (-2)) hx hb dX10_sight_36 (by decide) ?_
          exact hret (-2) t_sights t_sight_a 38 _ _ _ dX10_sight_38 hf hP hD hS
set_option maxRecDepth 20000 in
theorem ggX10_shadow_X10_in : GoodIn wsX10_shadow wsX10_in := goodIn_r _ [8] (by decide +kernel) (by decide +kernel)
set_option maxRecDepth 20000 in
theorem gX10_shadow_X10_in : GoodIn wsX10_shadow (va_wsS RX10 89 yX10_in wsX10_in) := goodIn_app (goodIn_of _ (by decide +kernel)) ggX10_shadow_X10_in
theorem dX10_shadow_0 : decode cX10_shadow 0 = .ok (.iload_n 1, 1) := by decide +kernel
theorem dX10_shadow_1 : decode cX10_shadow 1 = .ok (.iconst 0, 1) := by decide +kernel
theorem dX10_shadow_2 : decode cX10_shadow 2 = .ok (.bipush 7, 2) := by decide +kernel
theorem dX10_shadow_4 : decode cX10_shadow 4 = .ok (.invokestatic 89, 3) := by decide +kernel
theorem dX10_shadow_7 : decode cX10_shadow 7 = .ok (.ifCond .eq 37, 3) := by decide +kernel
theorem dX10_shadow_10 : decode cX10_shadow 10 = .ok (.iload_n 2, 1) := by decide +kernel
theorem dX10_shadow_11 : decode cX10_shadow 11 = .ok (.iconst 0, 1) := by decide +kernel
theorem dX10_shadow_12 : decode cX10_shadow 12 = .ok (.sipush 1439, 3) := by decide +kernel
theorem dX10_shadow_15 : decode cX10_shadow 15 = .ok (.invokestatic 89, 3) := by decide +kernel
theorem dX10_shadow_18 : decode cX10_shadow 18 = .ok (.ifCond .eq 26, 3) := by decide +kernel
theorem dX10_shadow_21 : decode cX10_shadow 21 = .ok (.iload_n 3, 1) := by decide +kernel
theorem dX10_shadow_22 : decode cX10_shadow 22 = .ok (.ldc 122, 2) := by decide +kernel
theorem dX10_shadow_24 : decode cX10_shadow 24 = .ok (.ldc 123, 2) := by decide +kernel
theorem dX10_shadow_26 : decode cX10_shadow 26 = .ok (.invokestatic 89, 3) := by decide +kernel
theorem dX10_shadow_29 : decode cX10_shadow 29 = .ok (.ifCond .eq 15, 3) := by decide +kernel
theorem dX10_shadow_32 : decode cX10_shadow 32 = .ok (.iload 4, 2) := by decide +kernel
theorem dX10_shadow_34 : decode cX10_shadow 34 = .ok (.iconst 0, 1) := by decide +kernel
theorem dX10_shadow_35 : decode cX10_shadow 35 = .ok (.sipush 10000, 3) := by decide +kernel
theorem dX10_shadow_38 : decode cX10_shadow 38 = .ok (.invokestatic 89, 3) := by decide +kernel
theorem dX10_shadow_41 : decode cX10_shadow 41 = .ok (.ifCond .ne 6, 3) := by decide +kernel
theorem dX10_shadow_44 : decode cX10_shadow 44 = .ok (.bipush (-2), 2) := by decide +kernel
theorem dX10_shadow_46 : decode cX10_shadow 46 = .ok (.ireturn, 1) := by decide +kernel
theorem dX10_shadow_47 : decode cX10_shadow 47 = .ok (.aload_n 0, 1) := by decide +kernel
theorem dX10_shadow_48 : decode cX10_shadow 48 = .ok (.getfield 124, 3) := by decide +kernel
theorem dX10_shadow_51 : decode cX10_shadow 51 = .ok (.bipush 40, 2) := by decide +kernel
theorem dX10_shadow_53 : decode cX10_shadow 53 = .ok (.if_icmp .ne 6, 3) := by decide +kernel
theorem dX10_shadow_56 : decode cX10_shadow 56 = .ok (.bipush (-4), 2) := by decide +kernel
theorem dX10_shadow_58 : decode cX10_shadow 58 = .ok (.ireturn, 1) := by decide +kernel
theorem dX10_shadow_59 : decode cX10_shadow 59 = .ok (.iconst 4, 1) := by decide +kernel
theorem dX10_shadow_60 : decode cX10_shadow 60 = .ok (.aload_n 0, 1) := by decide +kernel
theorem dX10_shadow_61 : decode cX10_shadow 61 = .ok (.getfield 124, 3) := by decide +kernel
theorem dX10_shadow_64 : decode cX10_shadow 64 = .ok (.imul, 1) := by decide +kernel
theorem dX10_shadow_65 : decode cX10_shadow 65 = .ok (.istore 5, 2) := by decide +kernel
theorem dX10_shadow_67 : decode cX10_shadow 67 = .ok (.aload_n 0, 1) := by decide +kernel
theorem dX10_shadow_68 : decode cX10_shadow 68 = .ok (.getfield 28, 3) := by decide +kernel
theorem dX10_shadow_71 : decode cX10_shadow 71 = .ok (.iload 5, 2) := by decide +kernel
theorem dX10_shadow_73 : decode cX10_shadow 73 = .ok (.iload_n 1, 1) := by decide +kernel
theorem dX10_shadow_74 : decode cX10_shadow 74 = .ok (.iastore, 1) := by decide +kernel
theorem dX10_shadow_75 : decode cX10_shadow 75 = .ok (.aload_n 0, 1) := by decide +kernel
theorem dX10_shadow_76 : decode cX10_shadow 76 = .ok (.getfield 28, 3) := by decide +kernel
theorem dX10_shadow_79 : decode cX10_shadow 79 = .ok (.iload 5, 2) := by decide +kernel
theorem dX10_shadow_81 : decode cX10_shadow 81 = .ok (.iconst 1, 1) := by decide +kernel
theorem dX10_shadow_82 : decode cX10_shadow 82 = .ok (.iadd, 1) := by decide +kernel
theorem dX10_shadow_83 : decode cX10_shadow 83 = .ok (.iload_n 2, 1) := by decide +kernel
theorem dX10_shadow_84 : decode cX10_shadow 84 = .ok (.iastore, 1) := by decide +kernel
theorem dX10_shadow_85 : decode cX10_shadow 85 = .ok (.aload_n 0, 1) := by decide +kernel
theorem dX10_shadow_86 : decode cX10_shadow 86 = .ok (.getfield 28, 3) := by decide +kernel
theorem dX10_shadow_89 : decode cX10_shadow 89 = .ok (.iload 5, 2) := by decide +kernel
theorem dX10_shadow_91 : decode cX10_shadow 91 = .ok (.iconst 2, 1) := by decide +kernel
theorem dX10_shadow_92 : decode cX10_shadow 92 = .ok (.iadd, 1) := by decide +kernel
theorem dX10_shadow_93 : decode cX10_shadow 93 = .ok (.iload_n 3, 1) := by decide +kernel
theorem dX10_shadow_94 : decode cX10_shadow 94 = .ok (.iastore, 1) := by decide +kernel
theorem dX10_shadow_95 : decode cX10_shadow 95 = .ok (.aload_n 0, 1) := by decide +kernel
theorem dX10_shadow_96 : decode cX10_shadow 96 = .ok (.getfield 28, 3) := by decide +kernel
theorem dX10_shadow_99 : decode cX10_shadow 99 = .ok (.iload 5, 2) := by decide +kernel
theorem dX10_shadow_101 : decode cX10_shadow 101 = .ok (.iconst 3, 1) := by decide +kernel
theorem dX10_shadow_102 : decode cX10_shadow 102 = .ok (.iadd, 1) := by decide +kernel
theorem dX10_shadow_103 : decode cX10_shadow 103 = .ok (.iload 4, 2) := by decide +kernel
theorem dX10_shadow_105 : decode cX10_shadow 105 = .ok (.iastore, 1) := by decide +kernel
theorem dX10_shadow_106 : decode cX10_shadow 106 = .ok (.aload_n 0, 1) := by decide +kernel
theorem dX10_shadow_107 : decode cX10_shadow 107 = .ok (.dup, 1) := by decide +kernel
theorem dX10_shadow_108 : decode cX10_shadow 108 = .ok (.getfield 124, 3) := by decide +kernel
theorem dX10_shadow_111 : decode cX10_shadow 111 = .ok (.iconst 1, 1) := by decide +kernel
theorem dX10_shadow_112 : decode cX10_shadow 112 = .ok (.iadd, 1) := by decide +kernel
theorem dX10_shadow_113 : decode cX10_shadow 113 = .ok (.putfield 124, 3) := by decide +kernel
theorem dX10_shadow_116 : decode cX10_shadow 116 = .ok (.aload_n 0, 1) := by decide +kernel
theorem dX10_shadow_117 : decode cX10_shadow 117 = .ok (.getfield 124, 3) := by decide +kernel
theorem dX10_shadow_120 : decode cX10_shadow 120 = .ok (.iconst 1, 1) := by decide +kernel
theorem dX10_shadow_121 : decode cX10_shadow 121 = .ok (.isub, 1) := by decide +kernel
theorem dX10_shadow_122 : decode cX10_shadow 122 = .ok (.ireturn, 1) := by decide +kernel
set_option maxRecDepth 100000 in
def fX10_shadow (x1 : Int32) (x2 : Int32) (x3 : Int32) (x4 : Int32) (t_shadows : Int32) (t_shadow_a : Nat → Int32) : Option (Int32 × Int32 × (Nat → Int32)) :=
  ob (fX10_in x1 0 7) fun r1 =>
  if (b2i r1) = 0 then
    some ((-2), t_shadows, t_shadow_a)
  else
    ob (fX10_in x2 0 1439) fun r4 =>
    if (b2i r4) = 0 then
      some ((-2), t_shadows, t_shadow_a)
    else
      ob (fX10_in x3 (-1000000) 1000000) fun r7 =>
      if (b2i r7) = 0 then
        some ((-2), t_shadows, t_shadow_a)
      else
        ob (fX10_in x4 0 10000) fun r10 =>
        if (b2i r10) = 0 then
          some ((-2), t_shadows, t_shadow_a)
        else
          if t_shadows = 40 then
            some ((-4), t_shadows, t_shadow_a)
          else
            bv (4 * t_shadows) fun v14 =>
            gd (bnd v14 160) <|
            bv (upd t_shadow_a (Int32.toNatClampNeg v14) x1) fun a16 =>
            gd (bnd (v14 + 1) 160) <|
            bv (upd a16 (Int32.toNatClampNeg (v14 + 1)) x2) fun a18 =>
            gd (bnd (v14 + 2) 160) <|
            bv (upd a18 (Int32.toNatClampNeg (v14 + 2)) x3) fun a20 =>
            gd (bnd (v14 + 3) 160) <|
            bv (upd a20 (Int32.toNatClampNeg (v14 + 3)) x4) fun a22 =>
            bv (t_shadows + 1) fun v23 =>
            some (v23 - 1, v23, a22)
abbrev rmX10_shadow : Room := { frames := 1, cells := 0, slots := 0, locals := 22 }
theorem iwX10_shadow_X10 : ∀ w ∈ u_ws RX10 TX10 36, w ∈ wsX10_shadow := by decide +kernel
set_option maxHeartbeats 4000000 in
set_option maxRecDepth 100000 in
theorem k_X10_shadow (l : Launch) (G : va_G) (cI cJ : ClassId) (t_h t_edges_h t_lean_h t_word_h t_layer_h t_least_h t_sight_h t_shadow_h t_spanLow_h t_spanHigh_h t_spanAt_h t_numbers_h t_pair_h t_most_h t_row_h t_under_h t_agreed_h : Nat) (sz : Nat) (t_baseWay : Int32) (t_slip : Int32) (t_low : Int32) (t_high : Int32) (t_unlike : Int32) (t_alone : Int32) (t_above : Int64) (t_below : Int64) (t_layers : Int32) (t_sights : Int32) (t_shadows : Int32) (t_endAbove : Int64) (t_endBelow : Int64) (t_speedAbove : Int64) (t_speedBelow : Int64) (t_spans : Int32) (t_found : Int32) (t_pairs : Int32) (t_rows : Int32) (t_notes : Int32) (t_shadow_a : Nat → Int32) (x1 : Int32) (x2 : Int32) (x3 : Int32) (x4 : Int32) {o_r : Int32} {o_t_shadows : Int32} {o_t_shadow_a : Nat → Int32} (hf : fX10_shadow x1 x2 x3 x4 t_shadows t_shadow_a = some (o_r, o_t_shadows, o_t_shadow_a)) : MetI l yX10_shadow wsX10_shadow rmX10_shadow [.ref t_h, .int x1, .int x2, .int x3, .int x4] G cI cJ [(t_h, .inr (10, [.int t_baseWay, .int t_slip, .int t_low, .int t_high, .int t_unlike, .int t_alone, .long t_above, .long t_below, .ref t_edges_h, .ref t_lean_h, .ref t_word_h, .int t_layers, .ref t_layer_h, .ref t_least_h, .int t_sights, .ref t_sight_h, .int t_shadows, .ref t_shadow_h, .long t_endAbove, .long t_endBelow, .long t_speedAbove, .long t_speedBelow, .int t_spans, .ref t_spanLow_h, .ref t_spanHigh_h, .ref t_spanAt_h, .int t_found, .ref t_numbers_h, .int t_pairs, .ref t_pair_h, .ref t_most_h, .int t_rows, .ref t_row_h, .int t_notes, .ref t_under_h, .ref t_agreed_h])), (t_shadow_h, .inl (cI, 160, .inl t_shadow_a))] [(t_h, .inr (10, [.int t_baseWay, .int t_slip, .int t_low, .int t_high, .int t_unlike, .int t_alone, .long t_above, .long t_below, .ref t_edges_h, .ref t_lean_h, .ref t_word_h, .int t_layers, .ref t_layer_h, .ref t_least_h, .int t_sights, .ref t_sight_h, .int o_t_shadows, .ref t_shadow_h, .long t_endAbove, .long t_endBelow, .long t_speedAbove, .long t_speedBelow, .int t_spans, .ref t_spanLow_h, .ref t_spanHigh_h, .ref t_spanAt_h, .int t_found, .ref t_numbers_h, .int t_pairs, .ref t_pair_h, .ref t_most_h, .int t_rows, .ref t_row_h, .int t_notes, .ref t_under_h, .ref t_agreed_h])), (t_shadow_h, .inl (cI, 160, .inl o_t_shadow_a))] sz o_r := by
  refine en_0 (l := l) (y := yX10_shadow) (wsl := wsX10_shadow) (rm := rmX10_shadow) (av := [.ref t_h, .int x1, .int x2, .int x3, .int x4]) (G := G) (cI := cI) (cJ := cJ) (w0 := [(t_h, .inr (10, [.int t_baseWay, .int t_slip, .int t_low, .int t_high, .int t_unlike, .int t_alone, .long t_above, .long t_below, .ref t_edges_h, .ref t_lean_h, .ref t_word_h, .int t_layers, .ref t_layer_h, .ref t_least_h, .int t_sights, .ref t_sight_h, .int t_shadows, .ref t_shadow_h, .long t_endAbove, .long t_endBelow, .long t_speedAbove, .long t_speedBelow, .int t_spans, .ref t_spanLow_h, .ref t_spanHigh_h, .ref t_spanAt_h, .int t_found, .ref t_numbers_h, .int t_pairs, .ref t_pair_h, .ref t_most_h, .int t_rows, .ref t_row_h, .int t_notes, .ref t_under_h, .ref t_agreed_h])), (t_shadow_h, .inl (cI, 160, .inl t_shadow_a))]) (sz := sz) (Qf := fun A => Qi0 G cI cJ [(t_h, .inr (10, [.int t_baseWay, .int t_slip, .int t_low, .int t_high, .int t_unlike, .int t_alone, .long t_above, .long t_below, .ref t_edges_h, .ref t_lean_h, .ref t_word_h, .int t_layers, .ref t_layer_h, .ref t_least_h, .int t_sights, .ref t_sight_h, .int o_t_shadows, .ref t_shadow_h, .long t_endAbove, .long t_endBelow, .long t_speedAbove, .long t_speedBelow, .int t_spans, .ref t_spanLow_h, .ref t_spanHigh_h, .ref t_spanAt_h, .int t_found, .ref t_numbers_h, .int t_pairs, .ref t_pair_h, .ref t_most_h, .int t_rows, .ref t_row_h, .int t_notes, .ref t_under_h, .ref t_agreed_h])), (t_shadow_h, .inl (cI, 160, .inl o_t_shadow_a))] o_r A) (cc := cX10_shadow) (maxL := 6) (ret := (some .int)) RX10 (by decide +kernel) rfl rfl (Nat.le_of_ble_eq_true rfl) ?_
  intro p e s m args below meth c A ls Q hQ hx hb hr hts hown hlocks hml hN hK hP hD hS hA hl
  have hl : lv_has ls 6 [(0, .ref t_h), (1, .int x1), (2, .int x2), (3, .int x3), (4, .int x4)] := hl
  have iwX10 := iwX10_shadow_X10
  have fl_28 := hts (.fieldLink RX10 28 "CloudOfficeModel" "shadow" "[I") (by decide +kernel)
  have fl_124 := hts (.fieldLink RX10 124 "CloudOfficeModel" "shadows" "I") (by decide +kernel)
  have kc_122 := hts (.constant RX10 122 (-1000000)) (by decide +kernel)
  have kc_123 := hts (.constant RX10 123 (1000000)) (by decide +kernel)
  have hret : ∀ (o_r9 : Int32) (o_t_shadows9 : Int32) (o_t_shadow_a9 : Nat → Int32) (pc : Nat) (H : Heap) (locs : List Loc) (ls : Array Slot), decode cX10_shadow pc = .ok (.ireturn, 1) → some (o_r9, o_t_shadows9, o_t_shadow_a9) = some (o_r, o_t_shadows, o_t_shadow_a) → va_P G vwCl [(t_h, .inr (10, [.int t_baseWay, .int t_slip, .int t_low, .int t_high, .int t_unlike, .int t_alone, .long t_above, .long t_below, .ref t_edges_h, .ref t_lean_h, .ref t_word_h, .int t_layers, .ref t_layer_h, .ref t_least_h, .int t_sights, .ref t_sight_h, .int o_t_shadows9, .ref t_shadow_h, .long t_endAbove, .long t_endBelow, .long t_speedAbove, .long t_speedBelow, .int t_spans, .ref t_spanLow_h, .ref t_spanHigh_h, .ref t_spanAt_h, .int t_found, .ref t_numbers_h, .int t_pairs, .ref t_pair_h, .ref t_most_h, .int t_rows, .ref t_row_h, .int t_notes, .ref t_under_h, .ref t_agreed_h])), (t_shadow_h, .inl (cI, 160, .inl o_t_shadow_a9))] H → va_D A [(t_h, .inr (10, [.int t_baseWay, .int t_slip, .int t_low, .int t_high, .int t_unlike, .int t_alone, .long t_above, .long t_below, .ref t_edges_h, .ref t_lean_h, .ref t_word_h, .int t_layers, .ref t_layer_h, .ref t_least_h, .int t_sights, .ref t_sight_h, .int o_t_shadows9, .ref t_shadow_h, .long t_endAbove, .long t_endBelow, .long t_speedAbove, .long t_speedBelow, .int t_spans, .ref t_spanLow_h, .ref t_spanHigh_h, .ref t_spanAt_h, .int t_found, .ref t_numbers_h, .int t_pairs, .ref t_pair_h, .ref t_most_h, .int t_rows, .ref t_row_h, .int t_notes, .ref t_under_h, .ref t_agreed_h])), (t_shadow_h, .inl (cI, 160, .inl o_t_shadow_a9))] → va_S A s.heap H locs → W p l e rmX10_shadow s m args below meth c H locs 0 0 Q (F0 m pc ls [.int o_r9]) := by
    intro o_r9 o_t_shadows9 o_t_shadow_a9 pc H locs ls hdg he hP hD hS
    cases he
    subst hQ
    exact rt_i hx hb hr hlocks hK hP hD hS rfl hdg
  clear hQ
  unfold fX10_shadow at hf
  refine lv_iload_n hx hb dX10_shadow_0 rfl (lv_at hl 1 rfl) ?_
  refine lv_iconst (v := 0) hx hb dX10_shadow_1 (by decide) ?_
  refine lv_bipush (v := 7) hx hb dX10_shadow_2 (by decide) ?_
  obtain ⟨r1, hc2, hf⟩ := ob_some hf
  refine af_iR (va_runS (As := [.int x1, .int 0, .int 7]) (rest := []) ⟨hx, hb, hml, hown, hts⟩ (k_X10_in l G cI cJ (x0 := x1) (x1 := 0) (x2 := 7) (sz := _) (hf := hc2)) (va_cwS 3 hts gX10_shadow_X10_in rfl rfl rfl (by decide +kernel) ⟨Nat.le_of_ble_eq_true rfl, Nat.le_of_ble_eq_true rfl⟩) (preS0 (wc := []) hK hP hD hN [] rfl rfl (by decide)) rfl rfl hl.1 rfl (lv_room (Nat.le_of_ble_eq_true rfl)) dX10_shadow_4 ⟨Nat.zero_le _, Nat.zero_le _⟩) hP hD hS hA [] rfl (fun H locs hP hS => ?_)
  refine lv_if_eq (tgt := 44) hx hb dX10_shadow_7 (by decide) (fun c3 => ?_) (fun c3 => ?_)
  · have hf := ift hf c3
    refine lv_bipush (v := (-2)) hx hb dX10_shadow_44 (by decide) ?_
    exact hret (-2) t_shadows t_shadow_a 46 _ _ _ dX10_shadow_46 hf hP hD hS
  · have hf := iff_ hf c3
    refine lv_iload_n hx hb dX10_shadow_10 rfl (lv_at hl 2 rfl) ?_
    refine lv_iconst (v := 0) hx hb dX10_shadow_11 (by decide) ?_
    refine lv_sipush (v := 1439) hx hb dX10_shadow_12 (by decide) ?_
    obtain ⟨r4, hc5, hf⟩ := ob_some hf
    refine af_iR (va_runS (As := [.int x2, .int 0, .int 1439]) (rest := []) ⟨hx, hb, hml, hown, hts⟩ (k_X10_in l G cI cJ (x0 := x2) (x1 := 0) (x2 := 1439) (sz := _) (hf := hc5)) (va_cwS 3 hts gX10_shadow_X10_in rfl rfl rfl (by decide +kernel) ⟨Nat.le_of_ble_eq_true rfl, Nat.le_of_ble_eq_true rfl⟩) (preS0 (wc := []) hK hP hD hN [] rfl rfl (by decide)) rfl rfl hl.1 rfl (lv_room (Nat.le_of_ble_eq_true rfl)) dX10_shadow_15 ⟨Nat.zero_le _, Nat.zero_le _⟩) hP hD hS hA [] rfl (fun H locs hP hS => ?_)
    refine lv_if_eq (tgt := 44) hx hb dX10_shadow_18 (by decide) (fun c6 => ?_) (fun c6 => ?_)
    · have hf := ift hf c6
      refine lv_bipush (v := (-2)) hx hb dX10_shadow_44 (by decide) ?_
      exact hret (-2) t_shadows t_shadow_a 46 _ _ _ dX10_shadow_46 hf hP hD hS
    · have hf := iff_ hf c6
      refine lv_iload_n hx hb dX10_shadow_21 rfl (lv_at hl 3 rfl) ?_
      refine lv_ldc (v := (-1000000)) hx hb hown kc_122 dX10_shadow_22 ?_
      refine lv_ldc (v := 1000000) hx hb hown kc_123 dX10_shadow_24 ?_
      obtain ⟨r7, hc8, hf⟩ := ob_some hf
      refine af_iR (va_runS (As := [.int x3, .int (-1000000), .int 1000000]) (rest := []) ⟨hx, hb, hml, hown, hts⟩ (k_X10_in l G cI cJ (x0 := x3) (x1 := (-1000000)) (x2 := 1000000) (sz := _) (hf := hc8)) (va_cwS 3 hts gX10_shadow_X10_in rfl rfl rfl (by decide +kernel) ⟨Nat.le_of_ble_eq_true rfl, Nat.le_of_ble_eq_true rfl⟩) (preS0 (wc := []) hK hP hD hN [] rfl rfl (by decide)) rfl rfl hl.1 rfl (lv_room (Nat.le_of_ble_eq_true rfl)) dX10_shadow_26 ⟨Nat.zero_le _, Nat.zero_le _⟩) hP hD hS hA [] rfl (fun H locs hP hS => ?_)
      refine lv_if_eq (tgt := 44) hx hb dX10_shadow_29 (by decide) (fun c9 => ?_) (fun c9 => ?_)
      · have hf := ift hf c9
        refine lv_bipush (v := (-2)) hx hb dX10_shadow_44 (by decide) ?_
        exact hret (-2) t_shadows t_shadow_a 46 _ _ _ dX10_shadow_46 hf hP hD hS
      · have hf := iff_ hf c9
        refine lv_iload hx hb dX10_shadow_32 (lv_at hl 4 rfl) ?_
        refine lv_iconst (v := 0) hx hb dX10_shadow_34 (by decide) ?_
        refine lv_sipush (v := 10000) hx hb dX10_shadow_35 (by decide) ?_
        obtain ⟨r10, hc11, hf⟩ := ob_some hf
        refine af_iR (va_runS (As := [.int x4, .int 0, .int 10000]) (rest := []) ⟨hx, hb, hml, hown, hts⟩ (k_X10_in l G cI cJ (x0 := x4) (x1 := 0) (x2 := 10000) (sz := _) (hf := hc11)) (va_cwS 3 hts gX10_shadow_X10_in rfl rfl rfl (by decide +kernel) ⟨Nat.le_of_ble_eq_true rfl, Nat.le_of_ble_eq_true rfl⟩) (preS0 (wc := []) hK hP hD hN [] rfl rfl (by decide)) rfl rfl hl.1 rfl (lv_room (Nat.le_of_ble_eq_true rfl)) dX10_shadow_38 ⟨Nat.zero_le _, Nat.zero_le _⟩) hP hD hS hA [] rfl (fun H locs hP hS => ?_)
        refine lv_if_ne (tgt := 47) hx hb dX10_shadow_41 (by decide) (fun c12 => ?_) (fun c12 => ?_)
        · have hf := iff_ hf c12
          refine lv_aload_n hx hb dX10_shadow_47 rfl (lv_at hl 0 rfl) ?_
          refine va_get (D := G) (ci := 10) (v := .int t_shadows) (C := RX10) (T := TX10) (N := 36) hx hb hts iwX10 hown hK hP 0 rfl rfl 16 (by decide) fl_124 (fun _ h9 => h9) rfl dX10_shadow_48 ?_
          refine lv_bipush (v := 40) hx hb dX10_shadow_51 (by decide) ?_
          refine lv_icmp_ne (tgt := 59) hx hb dX10_shadow_53 (by decide) (fun c13 => ?_) (fun c13 => ?_)
          · have hf := iff_ hf c13
            refine lv_iconst (v := 4) hx hb dX10_shadow_59 (by decide) ?_
            refine lv_aload_n hx hb dX10_shadow_60 rfl (lv_at hl 0 rfl) ?_
            refine va_get (D := G) (ci := 10) (v := .int t_shadows) (C := RX10) (T := TX10) (N := 36) hx hb hts iwX10 hown hK hP 0 rfl rfl 16 (by decide) fl_124 (fun _ h9 => h9) rfl dX10_shadow_61 ?_
            refine lv_imul hx hb dX10_shadow_64 ?_
            refine lv_topi (fun v14 ev14 => ?_)
            have hf := bv_at ev14 hf
            refine lv_istore (lv' := [(5, .int v14), (0, .ref t_h), (1, .int x1), (2, .int x2), (3, .int x3), (4, .int x4)]) hx hb dX10_shadow_65 hl (by decide) rfl (fun ls hl => ?_)
            refine lv_aload_n hx hb dX10_shadow_67 rfl (lv_at hl 1 rfl) ?_
            refine va_get (D := G) (ci := 10) (v := .ref t_shadow_h) (C := RX10) (T := TX10) (N := 36) hx hb hts iwX10 hown hK hP 0 rfl rfl 17 (by decide) fl_28 (fun _ h9 => h9) rfl dX10_shadow_68 ?_
            refine lv_iload hx hb dX10_shadow_71 (lv_at hl 0 rfl) ?_
            refine lv_iload_n hx hb dX10_shadow_73 rfl (lv_at hl 2 rfl) ?_
            obtain ⟨h15, hf⟩ := gd_some hf
            obtain ⟨a16, ea16⟩ : ∃ y : Nat → Int32, y = upd t_shadow_a (Int32.toNatClampNeg v14) x1 := ⟨_, rfl⟩
            have hf := bv_at ea16 hf
            refine va_iast hx hb hK hP hD hS 1 0 rfl rfl (bnd_in h15) dX10_shadow_74 (fun H locs hP hD hS => ?_)
            have hP : va_P G vwCl [(t_h, .inr (10, [.int t_baseWay, .int t_slip, .int t_low, .int t_high, .int t_unlike, .int t_alone, .long t_above, .long t_below, .ref t_edges_h, .ref t_lean_h, .ref t_word_h, .int t_layers, .ref t_layer_h, .ref t_least_h, .int t_sights, .ref t_sight_h, .int t_shadows, .ref t_shadow_h, .long t_endAbove, .long t_endBelow, .long t_speedAbove, .long t_speedBelow, .int t_spans, .ref t_spanLow_h, .ref t_spanHigh_h, .ref t_spanAt_h, .int t_found, .ref t_numbers_h, .int t_pairs, .ref t_pair_h, .ref t_most_h, .int t_rows, .ref t_row_h, .int t_notes, .ref t_under_h, .ref t_agreed_h])), (t_shadow_h, .inl (cI, 160, .inl a16))] H := by rw [ea16]; exact hP
            have hD : va_D A [(t_h, .inr (10, [.int t_baseWay, .int t_slip, .int t_low, .int t_high, .int t_unlike, .int t_alone, .long t_above, .long t_below, .ref t_edges_h, .ref t_lean_h, .ref t_word_h, .int t_layers, .ref t_layer_h, .ref t_least_h, .int t_sights, .ref t_sight_h, .int t_shadows, .ref t_shadow_h, .long t_endAbove, .long t_endBelow, .long t_speedAbove, .long t_speedBelow, .int t_spans, .ref t_spanLow_h, .ref t_spanHigh_h, .ref t_spanAt_h, .int t_found, .ref t_numbers_h, .int t_pairs, .ref t_pair_h, .ref t_most_h, .int t_rows, .ref t_row_h, .int t_notes, .ref t_under_h, .ref t_agreed_h])), (t_shadow_h, .inl (cI, 160, .inl a16))] := by rw [ea16]; exact hD
            refine lv_aload_n hx hb dX10_shadow_75 rfl (lv_at hl 1 rfl) ?_
            refine va_get (D := G) (ci := 10) (v := .ref t_shadow_h) (C := RX10) (T := TX10) (N := 36) hx hb hts iwX10 hown hK hP 0 rfl rfl 17 (by decide) fl_28 (fun _ h9 => h9) rfl dX10_shadow_76 ?_
            refine lv_iload hx hb dX10_shadow_79 (lv_at hl 0 rfl) ?_
            refine lv_iconst (v := 1) hx hb dX10_shadow_81 (by decide) ?_
            refine lv_iadd hx hb dX10_shadow_82 ?_
            refine lv_iload_n hx hb dX10_shadow_83 rfl (lv_at hl 3 rfl) ?_
            obtain ⟨h17, hf⟩ := gd_some hf
            obtain ⟨a18, ea18⟩ : ∃ y : Nat → Int32, y = upd a16 (Int32.toNatClampNeg (v14 + 1)) x2 := ⟨_, rfl⟩
            have hf := bv_at ea18 hf
            refine va_iast hx hb hK hP hD hS 1 0 rfl rfl (bnd_in h17) dX10_shadow_84 (fun H locs hP hD hS => ?_)
            have hP : va_P G vwCl [(t_h, .inr (10, [.int t_baseWay, .int t_slip, .int t_low, .int t_high, .int t_unlike, .int t_alone, .long t_above, .long t_below, .ref t_edges_h, .ref t_lean_h, .ref t_word_h, .int t_layers, .ref t_layer_h, .ref t_least_h, .int t_sights, .ref t_sight_h, .int t_shadows, .ref t_shadow_h, .long t_endAbove, .long t_endBelow, .long t_speedAbove, .long t_speedBelow, .int t_spans, .ref t_spanLow_h, .ref t_spanHigh_h, .ref t_spanAt_h, .int t_found, .ref t_numbers_h, .int t_pairs, .ref t_pair_h, .ref t_most_h, .int t_rows, .ref t_row_h, .int t_notes, .ref t_under_h, .ref t_agreed_h])), (t_shadow_h, .inl (cI, 160, .inl a18))] H := by rw [ea18]; exact hP
            have hD : va_D A [(t_h, .inr (10, [.int t_baseWay, .int t_slip, .int t_low, .int t_high, .int t_unlike, .int t_alone, .long t_above, .long t_below, .ref t_edges_h, .ref t_lean_h, .ref t_word_h, .int t_layers, .ref t_layer_h, .ref t_least_h, .int t_sights, .ref t_sight_h, .int t_shadows, .ref t_shadow_h, .long t_endAbove, .long t_endBelow, .long t_speedAbove, .long t_speedBelow, .int t_spans, .ref t_spanLow_h, .ref t_spanHigh_h, .ref t_spanAt_h, .int t_found, .ref t_numbers_h, .int t_pairs, .ref t_pair_h, .ref t_most_h, .int t_rows, .ref t_row_h, .int t_notes, .ref t_under_h, .ref t_agreed_h])), (t_shadow_h, .inl (cI, 160, .inl a18))] := by rw [ea18]; exact hD
            refine lv_aload_n hx hb dX10_shadow_85 rfl (lv_at hl 1 rfl) ?_
            refine va_get (D := G) (ci := 10) (v := .ref t_shadow_h) (C := RX10) (T := TX10) (N := 36) hx hb hts iwX10 hown hK hP 0 rfl rfl 17 (by decide) fl_28 (fun _ h9 => h9) rfl dX10_shadow_86 ?_
            refine lv_iload hx hb dX10_shadow_89 (lv_at hl 0 rfl) ?_
            refine lv_iconst (v := 2) hx hb dX10_shadow_91 (by decide) ?_
            refine lv_iadd hx hb dX10_shadow_92 ?_
            refine lv_iload_n hx hb dX10_shadow_93 rfl (lv_at hl 4 rfl) ?_
            obtain ⟨h19, hf⟩ := gd_some hf
            obtain ⟨a20, ea20⟩ : ∃ y : Nat → Int32, y = upd a18 (Int32.toNatClampNeg (v14 + 2)) x3 := ⟨_, rfl⟩
            have hf := bv_at ea20 hf
            refine va_iast hx hb hK hP hD hS 1 0 rfl rfl (bnd_in h19) dX10_shadow_94 (fun H locs hP hD hS => ?_)
            have hP : va_P G vwCl [(t_h, .inr (10, [.int t_baseWay, .int t_slip, .int t_low, .int t_high, .int t_unlike, .int t_alone, .long t_above, .long t_below, .ref t_edges_h, .ref t_lean_h, .ref t_word_h, .int t_layers, .ref t_layer_h, .ref t_least_h, .int t_sights, .ref t_sight_h, .int t_shadows, .ref t_shadow_h, .long t_endAbove, .long t_endBelow, .long t_speedAbove, .long t_speedBelow, .int t_spans, .ref t_spanLow_h, .ref t_spanHigh_h, .ref t_spanAt_h, .int t_found, .ref t_numbers_h, .int t_pairs, .ref t_pair_h, .ref t_most_h, .int t_rows, .ref t_row_h, .int t_notes, .ref t_under_h, .ref t_agreed_h])), (t_shadow_h, .inl (cI, 160, .inl a20))] H := by rw [ea20]; exact hP
            have hD : va_D A [(t_h, .inr (10, [.int t_baseWay, .int t_slip, .int t_low, .int t_high, .int t_unlike, .int t_alone, .long t_above, .long t_below, .ref t_edges_h, .ref t_lean_h, .ref t_word_h, .int t_layers, .ref t_layer_h, .ref t_least_h, .int t_sights, .ref t_sight_h, .int t_shadows, .ref t_shadow_h, .long t_endAbove, .long t_endBelow, .long t_speedAbove, .long t_speedBelow, .int t_spans, .ref t_spanLow_h, .ref t_spanHigh_h, .ref t_spanAt_h, .int t_found, .ref t_numbers_h, .int t_pairs, .ref t_pair_h, .ref t_most_h, .int t_rows, .ref t_row_h, .int t_notes, .ref t_under_h, .ref t_agreed_h])), (t_shadow_h, .inl (cI, 160, .inl a20))] := by rw [ea20]; exact hD
            refine lv_aload_n hx hb dX10_shadow_95 rfl (lv_at hl 1 rfl) ?_
            refine va_get (D := G) (ci := 10) (v := .ref t_shadow_h) (C := RX10) (T := TX10) (N := 36) hx hb hts iwX10 hown hK hP 0 rfl rfl 17 (by decide) fl_28 (fun _ h9 => h9) rfl dX10_shadow_96 ?_
            refine lv_iload hx hb dX10_shadow_99 (lv_at hl 0 rfl) ?_
            refine lv_iconst (v := 3) hx hb dX10_shadow_101 (by decide) ?_
            refine lv_iadd hx hb dX10_shadow_102 ?_
            refine lv_iload hx hb dX10_shadow_103 (lv_at hl 5 rfl) ?_
            obtain ⟨h21, hf⟩ := gd_some hf
            obtain ⟨a22, ea22⟩ : ∃ y : Nat → Int32, y = upd a20 (Int32.toNatClampNeg (v14 + 3)) x4 := ⟨_, rfl⟩
            have hf := bv_at ea22 hf
            refine va_iast hx hb hK hP hD hS 1 0 rfl rfl (bnd_in h21) dX10_shadow_105 (fun H locs hP hD hS => ?_)
            have hP : va_P G vwCl [(t_h, .inr (10, [.int t_baseWay, .int t_slip, .int t_low, .int t_high, .int t_unlike, .int t_alone, .long t_above, .long t_below, .ref t_edges_h, .ref t_lean_h, .ref t_word_h, .int t_layers, .ref t_layer_h, .ref t_least_h, .int t_sights, .ref t_sight_h, .int t_shadows, .ref t_shadow_h, .long t_endAbove, .long t_endBelow, .long t_speedAbove, .long t_speedBelow, .int t_spans, .ref t_spanLow_h, .ref t_spanHigh_h, .ref t_spanAt_h, .int t_found, .ref t_numbers_h, .int t_pairs, .ref t_pair_h, .ref t_most_h, .int t_rows, .ref t_row_h, .int t_notes, .ref t_under_h, .ref t_agreed_h])), (t_shadow_h, .inl (cI, 160, .inl a22))] H := by rw [ea22]; exact hP
            have hD : va_D A [(t_h, .inr (10, [.int t_baseWay, .int t_slip, .int t_low, .int t_high, .int t_unlike, .int t_alone, .long t_above, .long t_below, .ref t_edges_h, .ref t_lean_h, .ref t_word_h, .int t_layers, .ref t_layer_h, .ref t_least_h, .int t_sights, .ref t_sight_h, .int t_shadows, .ref t_shadow_h, .long t_endAbove, .long t_endBelow, .long t_speedAbove, .long t_speedBelow, .int t_spans, .ref t_spanLow_h, .ref t_spanHigh_h, .ref t_spanAt_h, .int t_found, .ref t_numbers_h, .int t_pairs, .ref t_pair_h, .ref t_most_h, .int t_rows, .ref t_row_h, .int t_notes, .ref t_under_h, .ref t_agreed_h])), (t_shadow_h, .inl (cI, 160, .inl a22))] := by rw [ea22]; exact hD
            refine lv_aload_n hx hb dX10_shadow_106 rfl (lv_at hl 1 rfl) ?_
            refine lv_dup hx hb dX10_shadow_107 rfl ?_
            refine va_get (D := G) (ci := 10) (v := .int t_shadows) (C := RX10) (T := TX10) (N := 36) hx hb hts iwX10 hown hK hP 0 rfl rfl 16 (by decide) fl_124 (fun _ h9 => h9) rfl dX10_shadow_108 ?_
            refine lv_iconst (v := 1) hx hb dX10_shadow_111 (by decide) ?_
            refine lv_iadd hx hb dX10_shadow_112 ?_
            refine lv_topi (fun v23 ev23 => ?_)
            have hf := bv_at ev23 hf
            refine va_put (D := G) (ci := 10) (v := .int v23) (ty := .int) (C := RX10) (T := TX10) (N := 36) hx hb hts iwX10 tyX10 tyX10_ok nmX10 hown hK hP hD hS 0 rfl rfl 16 (by decide) fl_124 (fun _ h9 => h9) rfl (by decide +kernel) rfl rfl (Nat.le_of_ble_eq_true rfl) dX10_shadow_113 (fun H locs hP hD hS => ?_)
            have hP : va_P G vwCl [(t_h, .inr (10, [.int t_baseWay, .int t_slip, .int t_low, .int t_high, .int t_unlike, .int t_alone, .long t_above, .long t_below, .ref t_edges_h, .ref t_lean_h, .ref t_word_h, .int t_layers, .ref t_layer_h, .ref t_least_h, .int t_sights, .ref t_sight_h, .int v23, .ref t_shadow_h, .long t_endAbove, .long t_endBelow, .long t_speedAbove, .long t_speedBelow, .int t_spans, .ref t_spanLow_h, .ref t_spanHigh_h, .ref t_spanAt_h, .int t_found, .ref t_numbers_h, .int t_pairs, .ref t_pair_h, .ref t_most_h, .int t_rows, .ref t_row_h, .int t_notes, .ref t_under_h, .ref t_agreed_h])), (t_shadow_h, .inl (cI, 160, .inl a22))] H := hP
            have hD : va_D A [(t_h, .inr (10, [.int t_baseWay, .int t_slip, .int t_low, .int t_high, .int t_unlike, .int t_alone, .long t_above, .long t_below, .ref t_edges_h, .ref t_lean_h, .ref t_word_h, .int t_layers, .ref t_layer_h, .ref t_least_h, .int t_sights, .ref t_sight_h, .int v23, .ref t_shadow_h, .long t_endAbove, .long t_endBelow, .long t_speedAbove, .long t_speedBelow, .int t_spans, .ref t_spanLow_h, .ref t_spanHigh_h, .ref t_spanAt_h, .int t_found, .ref t_numbers_h, .int t_pairs, .ref t_pair_h, .ref t_most_h, .int t_rows, .ref t_row_h, .int t_notes, .ref t_under_h, .ref t_agreed_h])), (t_shadow_h, .inl (cI, 160, .inl a22))] := hD
            refine lv_aload_n hx hb dX10_shadow_116 rfl (lv_at hl 1 rfl) ?_
            refine va_get (D := G) (ci := 10) (v := .int v23) (C := RX10) (T := TX10) (N := 36) hx hb hts iwX10 hown hK hP 0 rfl rfl 16 (by decide) fl_124 (fun _ h9 => h9) rfl dX10_shadow_117 ?_
            refine lv_iconst (v := 1) hx hb dX10_shadow_120 (by decide) ?_
            refine lv_isub hx hb dX10_shadow_121 ?_
            exact hret (v23 - 1) v23 a22 122 _ _ _ dX10_shadow_122 hf hP hD hS
          · have hf := ift hf c13
            refine lv_bipush (v := (-4)) hx hb dX10_shadow_56 (by decide) ?_
            exact hret (-4) t_shadows t_shadow_a 58 _ _ _ dX10_shadow_58 hf hP hD hS
        · have hf := ift hf c12
          refine lv_bipush (v := (-2)) hx hb dX10_shadow_44 (by decide) ?_
          exact hret (-2) t_shadows t_shadow_a 46 _ _ _ dX10_shadow_46 hf hP hD hS
theorem dX10_findEnd_0 : decode cX10_findEnd 0 = .ok (.aload_n 0, 1) := by decide +kernel
theorem dX10_findEnd_1 : decode cX10_findEnd 1 = .ok (.getfield 25, 3) := by decide +kernel
theorem dX10_findEnd_4 : decode cX10_findEnd 4 = .ok (.iconst 4, 1) := by decide +kernel
theorem dX10_findEnd_5 : decode cX10_findEnd 5 = .ok (.iload_n 1, 1) := by decide +kernel
theorem dX10_findEnd_6 : decode cX10_findEnd 6 = .ok (.imul, 1) := by decide +kernel
theorem dX10_findEnd_7 : decode cX10_findEnd 7 = .ok (.iconst 2, 1) := by decide +kernel
theorem dX10_findEnd_8 : decode cX10_findEnd 8 = .ok (.iadd, 1) := by decide +kernel
theorem dX10_findEnd_9 : decode cX10_findEnd 9 = .ok (.iaload, 1) := by decide +kernel
theorem dX10_findEnd_10 : decode cX10_findEnd 10 = .ok (.aload_n 0, 1) := by decide +kernel
theorem dX10_findEnd_11 : decode cX10_findEnd 11 = .ok (.getfield 25, 3) := by decide +kernel
theorem dX10_findEnd_14 : decode cX10_findEnd 14 = .ok (.iconst 4, 1) := by decide +kernel
theorem dX10_findEnd_15 : decode cX10_findEnd 15 = .ok (.iload_n 1, 1) := by decide +kernel
theorem dX10_findEnd_16 : decode cX10_findEnd 16 = .ok (.imul, 1) := by decide +kernel
theorem dX10_findEnd_17 : decode cX10_findEnd 17 = .ok (.iconst 3, 1) := by decide +kernel
theorem dX10_findEnd_18 : decode cX10_findEnd 18 = .ok (.iadd, 1) := by decide +kernel
theorem dX10_findEnd_19 : decode cX10_findEnd 19 = .ok (.iaload, 1) := by decide +kernel
theorem dX10_findEnd_20 : decode cX10_findEnd 20 = .ok (.isub, 1) := by decide +kernel
theorem dX10_findEnd_21 : decode cX10_findEnd 21 = .ok (.istore_n 3, 1) := by decide +kernel
theorem dX10_findEnd_22 : decode cX10_findEnd 22 = .ok (.iload_n 3, 1) := by decide +kernel
theorem dX10_findEnd_23 : decode cX10_findEnd 23 = .ok (.iconst 2, 1) := by decide +kernel
theorem dX10_findEnd_24 : decode cX10_findEnd 24 = .ok (.aload_n 0, 1) := by decide +kernel
theorem dX10_findEnd_25 : decode cX10_findEnd 25 = .ok (.getfield 62, 3) := by decide +kernel
theorem dX10_findEnd_28 : decode cX10_findEnd 28 = .ok (.imul, 1) := by decide +kernel
theorem dX10_findEnd_29 : decode cX10_findEnd 29 = .ok (.if_icmp .gt 5, 3) := by decide +kernel
theorem dX10_findEnd_32 : decode cX10_findEnd 32 = .ok (.iconst 0, 1) := by decide +kernel
theorem dX10_findEnd_33 : decode cX10_findEnd 33 = .ok (.ireturn, 1) := by decide +kernel
theorem dX10_findEnd_34 : decode cX10_findEnd 34 = .ok (.aload_n 0, 1) := by decide +kernel
theorem dX10_findEnd_35 : decode cX10_findEnd 35 = .ok (.lconst 0, 1) := by decide +kernel
theorem dX10_findEnd_36 : decode cX10_findEnd 36 = .ok (.putfield 127, 3) := by decide +kernel
theorem dX10_findEnd_39 : decode cX10_findEnd 39 = .ok (.iconst 0, 1) := by decide +kernel
theorem dX10_findEnd_40 : decode cX10_findEnd 40 = .ok (.istore 4, 2) := by decide +kernel
theorem dX10_findEnd_42 : decode cX10_findEnd 42 = .ok (.iload 4, 2) := by decide +kernel
theorem dX10_findEnd_44 : decode cX10_findEnd 44 = .ok (.iconst 4, 1) := by decide +kernel
theorem dX10_findEnd_45 : decode cX10_findEnd 45 = .ok (.if_icmp .ge 150, 3) := by decide +kernel
theorem dX10_findEnd_48 : decode cX10_findEnd 48 = .ok (.aload_n 0, 1) := by decide +kernel
theorem dX10_findEnd_49 : decode cX10_findEnd 49 = .ok (.getfield 58, 3) := by decide +kernel
theorem dX10_findEnd_52 : decode cX10_findEnd 52 = .ok (.i2l, 1) := by decide +kernel
theorem dX10_findEnd_53 : decode cX10_findEnd 53 = .ok (.aload_n 0, 1) := by decide +kernel
theorem dX10_findEnd_54 : decode cX10_findEnd 54 = .ok (.getfield 25, 3) := by decide +kernel
theorem dX10_findEnd_57 : decode cX10_findEnd 57 = .ok (.iconst 4, 1) := by decide +kernel
theorem dX10_findEnd_58 : decode cX10_findEnd 58 = .ok (.iload_n 1, 1) := by decide +kernel
theorem dX10_findEnd_59 : decode cX10_findEnd 59 = .ok (.imul, 1) := by decide +kernel
theorem dX10_findEnd_60 : decode cX10_findEnd 60 = .ok (.iconst 2, 1) := by decide +kernel
theorem dX10_findEnd_61 : decode cX10_findEnd 61 = .ok (.iadd, 1) := by decide +kernel
theorem dX10_findEnd_62 : decode cX10_findEnd 62 = .ok (.iaload, 1) := by decide +kernel
theorem dX10_findEnd_63 : decode cX10_findEnd 63 = .ok (.iload 4, 2) := by decide +kernel
theorem dX10_findEnd_65 : decode cX10_findEnd 65 = .ok (.iconst 2, 1) := by decide +kernel
theorem dX10_findEnd_66 : decode cX10_findEnd 66 = .ok (.if_icmp .ge 10, 3) := by decide +kernel
theorem dX10_findEnd_69 : decode cX10_findEnd 69 = .ok (.aload_n 0, 1) := by decide +kernel
theorem dX10_findEnd_70 : decode cX10_findEnd 70 = .ok (.getfield 62, 3) := by decide +kernel
theorem dX10_findEnd_73 : decode cX10_findEnd 73 = .ok (.goto 8, 3) := by decide +kernel
theorem dX10_findEnd_76 : decode cX10_findEnd 76 = .ok (.aload_n 0, 1) := by decide +kernel
theorem dX10_findEnd_77 : decode cX10_findEnd 77 = .ok (.getfield 62, 3) := by decide +kernel
theorem dX10_findEnd_80 : decode cX10_findEnd 80 = .ok (.ineg, 1) := by decide +kernel
theorem dX10_findEnd_81 : decode cX10_findEnd 81 = .ok (.iadd, 1) := by decide +kernel
theorem dX10_findEnd_82 : decode cX10_findEnd 82 = .ok (.i2l, 1) := by decide +kernel
theorem dX10_findEnd_83 : decode cX10_findEnd 83 = .ok (.lmul, 1) := by decide +kernel
theorem dX10_findEnd_84 : decode cX10_findEnd 84 = .ok (.lstore 5, 2) := by decide +kernel
theorem dX10_findEnd_86 : decode cX10_findEnd 86 = .ok (.iload_n 3, 1) := by decide +kernel
theorem dX10_findEnd_87 : decode cX10_findEnd 87 = .ok (.i2l, 1) := by decide +kernel
theorem dX10_findEnd_88 : decode cX10_findEnd 88 = .ok (.iload 4, 2) := by decide +kernel
theorem dX10_findEnd_90 : decode cX10_findEnd 90 = .ok (.iconst 2, 1) := by decide +kernel
theorem dX10_findEnd_91 : decode cX10_findEnd 91 = .ok (.irem, 1) := by decide +kernel
theorem dX10_findEnd_92 : decode cX10_findEnd 92 = .ok (.ifCond .ne 9, 3) := by decide +kernel
theorem dX10_findEnd_95 : decode cX10_findEnd 95 = .ok (.ldc2_w 130, 3) := by decide +kernel
theorem dX10_findEnd_98 : decode cX10_findEnd 98 = .ok (.goto 6, 3) := by decide +kernel
theorem dX10_findEnd_101 : decode cX10_findEnd 101 = .ok (.ldc2_w 132, 3) := by decide +kernel
theorem dX10_findEnd_104 : decode cX10_findEnd 104 = .ok (.aload_n 0, 1) := by decide +kernel
theorem dX10_findEnd_105 : decode cX10_findEnd 105 = .ok (.getfield 62, 3) := by decide +kernel
theorem dX10_findEnd_108 : decode cX10_findEnd 108 = .ok (.i2l, 1) := by decide +kernel
theorem dX10_findEnd_109 : decode cX10_findEnd 109 = .ok (.lmul, 1) := by decide +kernel
theorem dX10_findEnd_110 : decode cX10_findEnd 110 = .ok (.ladd, 1) := by decide +kernel
theorem dX10_findEnd_111 : decode cX10_findEnd 111 = .ok (.lstore 7, 2) := by decide +kernel
theorem dX10_findEnd_113 : decode cX10_findEnd 113 = .ok (.aload_n 0, 1) := by decide +kernel
theorem dX10_findEnd_114 : decode cX10_findEnd 114 = .ok (.getfield 127, 3) := by decide +kernel
theorem dX10_findEnd_117 : decode cX10_findEnd 117 = .ok (.lconst 0, 1) := by decide +kernel
theorem dX10_findEnd_118 : decode cX10_findEnd 118 = .ok (.lcmp, 1) := by decide +kernel
theorem dX10_findEnd_119 : decode cX10_findEnd 119 = .ok (.ifCond .eq 46, 3) := by decide +kernel
theorem dX10_findEnd_122 : decode cX10_findEnd 122 = .ok (.iload_n 2, 1) := by decide +kernel
theorem dX10_findEnd_123 : decode cX10_findEnd 123 = .ok (.ifCond .eq 24, 3) := by decide +kernel
theorem dX10_findEnd_126 : decode cX10_findEnd 126 = .ok (.lload 5, 2) := by decide +kernel
theorem dX10_findEnd_128 : decode cX10_findEnd 128 = .ok (.aload_n 0, 1) := by decide +kernel
theorem dX10_findEnd_129 : decode cX10_findEnd 129 = .ok (.getfield 127, 3) := by decide +kernel
theorem dX10_findEnd_132 : decode cX10_findEnd 132 = .ok (.lmul, 1) := by decide +kernel
theorem dX10_findEnd_133 : decode cX10_findEnd 133 = .ok (.aload_n 0, 1) := by decide +kernel
theorem dX10_findEnd_134 : decode cX10_findEnd 134 = .ok (.getfield 134, 3) := by decide +kernel
theorem dX10_findEnd_137 : decode cX10_findEnd 137 = .ok (.lload 7, 2) := by decide +kernel
theorem dX10_findEnd_139 : decode cX10_findEnd 139 = .ok (.lmul, 1) := by decide +kernel
theorem dX10_findEnd_140 : decode cX10_findEnd 140 = .ok (.lcmp, 1) := by decide +kernel
theorem dX10_findEnd_141 : decode cX10_findEnd 141 = .ok (.ifCond .le 28, 3) := by decide +kernel
theorem dX10_findEnd_144 : decode cX10_findEnd 144 = .ok (.goto 21, 3) := by decide +kernel
theorem dX10_findEnd_147 : decode cX10_findEnd 147 = .ok (.lload 5, 2) := by decide +kernel
theorem dX10_findEnd_149 : decode cX10_findEnd 149 = .ok (.aload_n 0, 1) := by decide +kernel
theorem dX10_findEnd_150 : decode cX10_findEnd 150 = .ok (.getfield 127, 3) := by decide +kernel
theorem dX10_findEnd_153 : decode cX10_findEnd 153 = .ok (.lmul, 1) := by decide +kernel
theorem dX10_findEnd_154 : decode cX10_findEnd 154 = .ok (.aload_n 0, 1) := by decide +kernel
theorem dX10_findEnd_155 : decode cX10_findEnd 155 = .ok (.getfield 134, 3) := by decide +kernel
theorem dX10_findEnd_158 : decode cX10_findEnd 158 = .ok (.lload 7, 2) := by decide +kernel
theorem dX10_findEnd_160 : decode cX10_findEnd 160 = .ok (.lmul, 1) := by decide +kernel
theorem dX10_findEnd_161 : decode cX10_findEnd 161 = .ok (.lcmp, 1) := by decide +kernel
theorem dX10_findEnd_162 : decode cX10_findEnd 162 = .ok (.ifCond .ge 7, 3) := by decide +kernel
theorem dX10_findEnd_165 : decode cX10_findEnd 165 = .ok (.iconst 1, 1) := by decide +kernel
theorem dX10_findEnd_166 : decode cX10_findEnd 166 = .ok (.goto 4, 3) := by decide +kernel
theorem dX10_findEnd_169 : decode cX10_findEnd 169 = .ok (.iconst 0, 1) := by decide +kernel
theorem dX10_findEnd_170 : decode cX10_findEnd 170 = .ok (.istore 9, 2) := by decide +kernel
theorem dX10_findEnd_172 : decode cX10_findEnd 172 = .ok (.iload 9, 2) := by decide +kernel
theorem dX10_findEnd_174 : decode cX10_findEnd 174 = .ok (.ifCond .eq 15, 3) := by decide +kernel
theorem dX10_findEnd_177 : decode cX10_findEnd 177 = .ok (.aload_n 0, 1) := by decide +kernel
theorem dX10_findEnd_178 : decode cX10_findEnd 178 = .ok (.lload 5, 2) := by decide +kernel
theorem dX10_findEnd_180 : decode cX10_findEnd 180 = .ok (.putfield 134, 3) := by decide +kernel
theorem dX10_findEnd_183 : decode cX10_findEnd 183 = .ok (.aload_n 0, 1) := by decide +kernel
theorem dX10_findEnd_184 : decode cX10_findEnd 184 = .ok (.lload 7, 2) := by decide +kernel
theorem dX10_findEnd_186 : decode cX10_findEnd 186 = .ok (.putfield 127, 3) := by decide +kernel
theorem dX10_findEnd_189 : decode cX10_findEnd 189 = .ok (.iinc 4 1, 3) := by decide +kernel
theorem dX10_findEnd_192 : decode cX10_findEnd 192 = .ok (.goto (-150), 3) := by decide +kernel
theorem dX10_findEnd_195 : decode cX10_findEnd 195 = .ok (.iconst 1, 1) := by decide +kernel
theorem dX10_findEnd_196 : decode cX10_findEnd 196 = .ok (.ireturn, 1) := by decide +kernel
set_option maxRecDepth 100000 in
def fX10_findEnd_L1 (x1 : Int32) (t_slip : Int32) (t_baseWay : Int32) (t_sight_a : Nat → Int32) (v3 : Int32) (x2 : Int32) : (Int32 × Int64 × Int64) → Option ((Int64 × Int64) ⊕ (Int32 × Int64 × Int64)) := un3 fun (u5 : Int32) (u6 : Int64) (u7 : Int64) =>
  if 4 ≤ u5 then
    some (.inl (u6, u7))
  else
    gd (bnd ((4 * x1) + 2) 160) <|
    ob (α := Int32) (
        if 2 ≤ u5 then
          some (-t_slip)
        else
          some t_slip
      ) fun m10 =>
    bv ((Int32.toInt64 t_baseWay) * (Int32.toInt64 ((t_sight_a (Int32.toNatClampNeg ((4 * x1) + 2))) + m10))) fun v14 =>
    ob (α := Int64) (
        if (u5 - u5 / 2 * 2) = 0 then
          some 2
        else
          some (-2)
      ) fun m15 =>
    bv ((Int32.toInt64 v3) + (m15 * (Int32.toInt64 t_slip))) fun v19 =>
    ob (α := Int32) (
        if (lg_cmp u7 0) = 0 then
          some 1
        else
          if x2 = 0 then
            if 0 ≤ (lg_cmp (v14 * u7) (u6 * v19)) then
              some 0
            else
              some 1
          else
            if (lg_cmp (v14 * u7) (u6 * v19)) ≤ 0 then
              some 0
            else
              some 1
      ) fun m20 =>
    ob2 (α0 := Int64) (α1 := Int64) (
        if m20 = 0 then
          some (u6, u7)
        else
          some (v14, v19)
      ) fun m27 m28 =>
    bv (u5 + 1) fun v32 =>
    some (.inr (v32, m27, m28))
set_option maxRecDepth 100000 in
def fX10_findEnd (x1 : Int32) (x2 : Int32) (t_baseWay : Int32) (t_slip : Int32) (t_endAbove : Int64) (t_endBelow : Int64) (t_sight_a : Nat → Int32) : Option (Bool × Int64 × Int64) :=
  gd (bnd ((4 * x1) + 2) 160) <|
  gd (bnd ((4 * x1) + 3) 160) <|
  bv ((t_sight_a (Int32.toNatClampNeg ((4 * x1) + 2))) - (t_sight_a (Int32.toNatClampNeg ((4 * x1) + 3)))) fun v3 =>
  if (2 * t_slip) < v3 then
    ob2 (it (fX10_findEnd_L1 x1 t_slip t_baseWay t_sight_a v3 x2) 100000 (0, t_endAbove, 0)) fun x33 x34 =>
    some (true, x33, x34)
  else
    some (false, t_endAbove, t_endBelow)
abbrev rmX10_findEnd : Room := { frames := 0, cells := 0, slots := 0, locals := 0 }
theorem iwX10_findEnd_X10 : ∀ w ∈ u_ws RX10 TX10 36, w ∈ wsX10_findEnd := by decide +kernel
set_option maxHeartbeats 4000000 in
set_option maxRecDepth 100000 in
theorem k_X10_findEnd (l : Launch) (G : va_G) (cI cJ : ClassId) (t_h t_edges_h t_lean_h t_word_h t_layer_h t_least_h t_sight_h t_shadow_h t_spanLow_h t_spanHigh_h t_spanAt_h t_numbers_h t_pair_h t_most_h t_row_h t_under_h t_agreed_h : Nat) (sz : Nat) (t_baseWay : Int32) (t_slip : Int32) (t_low : Int32) (t_high : Int32) (t_unlike : Int32) (t_alone : Int32) (t_above : Int64) (t_below : Int64) (t_layers : Int32) (t_sights : Int32) (t_shadows : Int32) (t_endAbove : Int64) (t_endBelow : Int64) (t_speedAbove : Int64) (t_speedBelow : Int64) (t_spans : Int32) (t_found : Int32) (t_pairs : Int32) (t_rows : Int32) (t_notes : Int32) (t_sight_a : Nat → Int32) (x1 : Int32) (x2 : Int32) {o_r : Bool} {o_t_endAbove : Int64} {o_t_endBelow : Int64} (hf : fX10_findEnd x1 x2 t_baseWay t_slip t_endAbove t_endBelow t_sight_a = some (o_r, o_t_endAbove, o_t_endBelow)) : MetI l yX10_findEnd wsX10_findEnd rmX10_findEnd [.ref t_h, .int x1, .int x2] G cI cJ [(t_h, .inr (10, [.int t_baseWay, .int t_slip, .int t_low, .int t_high, .int t_unlike, .int t_alone, .long t_above, .long t_below, .ref t_edges_h, .ref t_lean_h, .ref t_word_h, .int t_layers, .ref t_layer_h, .ref t_least_h, .int t_sights, .ref t_sight_h, .int t_shadows, .ref t_shadow_h, .long t_endAbove, .long t_endBelow, .long t_speedAbove, .long t_speedBelow, .int t_spans, .ref t_spanLow_h, .ref t_spanHigh_h, .ref t_spanAt_h, .int t_found, .ref t_numbers_h, .int t_pairs, .ref t_pair_h, .ref t_most_h, .int t_rows, .ref t_row_h, .int t_notes, .ref t_under_h, .ref t_agreed_h])), (t_sight_h, .inl (cI, 160, .inl t_sight_a))] [(t_h, .inr (10, [.int t_baseWay, .int t_slip, .int t_low, .int t_high, .int t_unlike, .int t_alone, .long t_above, .long t_below, .ref t_edges_h, .ref t_lean_h, .ref t_word_h, .int t_layers, .ref t_layer_h, .ref t_least_h, .int t_sights, .ref t_sight_h, .int t_shadows, .ref t_shadow_h, .long o_t_endAbove, .long o_t_endBelow, .long t_speedAbove, .long t_speedBelow, .int t_spans, .ref t_spanLow_h, .ref t_spanHigh_h, .ref t_spanAt_h, .int t_found, .ref t_numbers_h, .int t_pairs, .ref t_pair_h, .ref t_most_h, .int t_rows, .ref t_row_h, .int t_notes, .ref t_under_h, .ref t_agreed_h])), (t_sight_h, .inl (cI, 160, .inl t_sight_a))] sz (b2i o_r) := by
  refine en_0 (l := l) (y := yX10_findEnd) (wsl := wsX10_findEnd) (rm := rmX10_findEnd) (av := [.ref t_h, .int x1, .int x2]) (G := G) (cI := cI) (cJ := cJ) (w0 := [(t_h, .inr (10, [.int t_baseWay, .int t_slip, .int t_low, .int t_high, .int t_unlike, .int t_alone, .long t_above, .long t_below, .ref t_edges_h, .ref t_lean_h, .ref t_word_h, .int t_layers, .ref t_layer_h, .ref t_least_h, .int t_sights, .ref t_sight_h, .int t_shadows, .ref t_shadow_h, .long t_endAbove, .long t_endBelow, .long t_speedAbove, .long t_speedBelow, .int t_spans, .ref t_spanLow_h, .ref t_spanHigh_h, .ref t_spanAt_h, .int t_found, .ref t_numbers_h, .int t_pairs, .ref t_pair_h, .ref t_most_h, .int t_rows, .ref t_row_h, .int t_notes, .ref t_under_h, .ref t_agreed_h])), (t_sight_h, .inl (cI, 160, .inl t_sight_a))]) (sz := sz) (Qf := fun A => Qi0 G cI cJ [(t_h, .inr (10, [.int t_baseWay, .int t_slip, .int t_low, .int t_high, .int t_unlike, .int t_alone, .long t_above, .long t_below, .ref t_edges_h, .ref t_lean_h, .ref t_word_h, .int t_layers, .ref t_layer_h, .ref t_least_h, .int t_sights, .ref t_sight_h, .int t_shadows, .ref t_shadow_h, .long o_t_endAbove, .long o_t_endBelow, .long t_speedAbove, .long t_speedBelow, .int t_spans, .ref t_spanLow_h, .ref t_spanHigh_h, .ref t_spanAt_h, .int t_found, .ref t_numbers_h, .int t_pairs, .ref t_pair_h, .ref t_most_h, .int t_rows, .ref t_row_h, .int t_notes, .ref t_under_h, .ref t_agreed_h])), (t_sight_h, .inl (cI, 160, .inl t_sight_a))] (b2i o_r) A) (cc := cX10_findEnd) (maxL := 10) (ret := (some .boolean)) RX10 (by decide +kernel) rfl rfl (Nat.le_of_ble_eq_true rfl) ?_
  intro p e s m args below meth c A ls Q hQ hx hb hr hts hown hlocks hml hN hK hP hD hS hA hl
  have hl : lv_has ls 10 [(0, .ref t_h), (1, .int x1), (2, .int x2)] := hl
  have iwX10 := iwX10_findEnd_X10
  have fl_25 := hts (.fieldLink RX10 25 "CloudOfficeModel" "sight" "[I") (by decide +kernel)
  have fl_58 := hts (.fieldLink RX10 58 "CloudOfficeModel" "baseWay" "I") (by decide +kernel)
  have fl_62 := hts (.fieldLink RX10 62 "CloudOfficeModel" "slip" "I") (by decide +kernel)
  have fl_127 := hts (.fieldLink RX10 127 "CloudOfficeModel" "endBelow" "J") (by decide +kernel)
  have fl_134 := hts (.fieldLink RX10 134 "CloudOfficeModel" "endAbove" "J") (by decide +kernel)
  have kc_130 := hts (.constantLong RX10 130 (2)) (by decide +kernel)
  have kc_132 := hts (.constantLong RX10 132 (-2)) (by decide +kernel)
  have hret : ∀ (o_r9 : Bool) (o_t_endAbove9 : Int64) (o_t_endBelow9 : Int64) (pc : Nat) (H : Heap) (locs : List Loc) (ls : Array Slot), decode cX10_findEnd pc = .ok (.ireturn, 1) → some (o_r9, o_t_endAbove9, o_t_endBelow9) = some (o_r, o_t_endAbove, o_t_endBelow) → va_P G vwCl [(t_h, .inr (10, [.int t_baseWay, .int t_slip, .int t_low, .int t_high, .int t_unlike, .int t_alone, .long t_above, .long t_below, .ref t_edges_h, .ref t_lean_h, .ref t_word_h, .int t_layers, .ref t_layer_h, .ref t_least_h, .int t_sights, .ref t_sight_h, .int t_shadows, .ref t_shadow_h, .long o_t_endAbove9, .long o_t_endBelow9, .long t_speedAbove, .long t_speedBelow, .int t_spans, .ref t_spanLow_h, .ref t_spanHigh_h, .ref t_spanAt_h, .int t_found, .ref t_numbers_h, .int t_pairs, .ref t_pair_h, .ref t_most_h, .int t_rows, .ref t_row_h, .int t_notes, .ref t_under_h, .ref t_agreed_h])), (t_sight_h, .inl (cI, 160, .inl t_sight_a))] H → va_D A [(t_h, .inr (10, [.int t_baseWay, .int t_slip, .int t_low, .int t_high, .int t_unlike, .int t_alone, .long t_above, .long t_below, .ref t_edges_h, .ref t_lean_h, .ref t_word_h, .int t_layers, .ref t_layer_h, .ref t_least_h, .int t_sights, .ref t_sight_h, .int t_shadows, .ref t_shadow_h, .long o_t_endAbove9, .long o_t_endBelow9, .long t_speedAbove, .long t_speedBelow, .int t_spans, .ref t_spanLow_h, .ref t_spanHigh_h, .ref t_spanAt_h, .int t_found, .ref t_numbers_h, .int t_pairs, .ref t_pair_h, .ref t_most_h, .int t_rows, .ref t_row_h, .int t_notes, .ref t_under_h, .ref t_agreed_h])), (t_sight_h, .inl (cI, 160, .inl t_sight_a))] → va_S A s.heap H locs → W p l e rmX10_findEnd s m args below meth c H locs 0 0 Q (F0 m pc ls [.int (b2i o_r9)]) := by
    intro o_r9 o_t_endAbove9 o_t_endBelow9 pc H locs ls hdg he hP hD hS
    cases he
    subst hQ
    exact rt_z hx hb hr hlocks hK hP hD hS (b2i_narrow _) rfl hdg
  clear hQ
  unfold fX10_findEnd at hf
  refine lv_aload_n hx hb dX10_findEnd_0 rfl (lv_at hl 0 rfl) ?_
  refine va_get (D := G) (ci := 10) (v := .ref t_sight_h) (C := RX10) (T := TX10) (N := 36) hx hb hts iwX10 hown hK hP 0 rfl rfl 15 (by decide) fl_25 (fun _ h9 => h9) rfl dX10_findEnd_1 ?_
  refine lv_iconst (v := 4) hx hb dX10_findEnd_4 (by decide) ?_
  refine lv_iload_n hx hb dX10_findEnd_5 rfl (lv_at hl 1 rfl) ?_
  refine lv_imul hx hb dX10_findEnd_6 ?_
  refine lv_iconst (v := 2) hx hb dX10_findEnd_7 (by decide) ?_
  refine lv_iadd hx hb dX10_findEnd_8 ?_
  obtain ⟨h1, hf⟩ := gd_some hf
  refine va_iald hx hb hK hP 1 0 rfl rfl (bnd_in h1) dX10_findEnd_9 ?_
  refine lv_aload_n hx hb dX10_findEnd_10 rfl (lv_at hl 0 rfl) ?_
  refine va_get (D := G) (ci := 10) (v := .ref t_sight_h) (C := RX10) (T := TX10) (N := 36) hx hb hts iwX10 hown hK hP 0 rfl rfl 15 (by decide) fl_25 (fun _ h9 => h9) rfl dX10_findEnd_11 ?_
  refine lv_iconst (v := 4) hx hb dX10_findEnd_14 (by decide) ?_
  refine lv_iload_n hx hb dX10_findEnd_15 rfl (lv_at hl 1 rfl) ?_
  refine lv_imul hx hb dX10_findEnd_16 ?_
  refine lv_iconst (v := 3) hx hb dX10_findEnd_17 (by decide) ?_
  refine lv_iadd hx hb dX10_findEnd_18 ?_
  obtain ⟨h2, hf⟩ := gd_some hf
  refine va_iald hx hb hK hP 1 0 rfl rfl (bnd_in h2) dX10_findEnd_19 ?_
  refine lv_isub hx hb dX10_findEnd_20 ?_
  refine lv_topi (fun v3 ev3 => ?_)
  have hf := bv_at ev3 hf
  refine lv_istore_n (lv' := [(3, .int v3), (0, .ref t_h), (1, .int x1), (2, .int x2)]) hx hb dX10_findEnd_21 rfl hl (by decide) rfl (fun ls hl => ?_)
  refine lv_iload_n hx hb dX10_findEnd_22 rfl (lv_at hl 0 rfl) ?_
  refine lv_iconst (v := 2) hx hb dX10_findEnd_23 (by decide) ?_
  refine lv_aload_n hx hb dX10_findEnd_24 rfl (lv_at hl 1 rfl) ?_
  refine va_get (D := G) (ci := 10) (v := .int t_slip) (C := RX10) (T := TX10) (N := 36) hx hb hts iwX10 hown hK hP 0 rfl rfl 1 (by decide) fl_62 (fun _ h9 => h9) rfl dX10_findEnd_25 ?_
  refine lv_imul hx hb dX10_findEnd_28 ?_
  refine lv_icmp_gt (tgt := 34) hx hb dX10_findEnd_29 (by decide) (fun c4 => ?_) (fun c4 => ?_)
  · have hf := ift hf c4
    refine lv_aload_n hx hb dX10_findEnd_34 rfl (lv_at hl 1 rfl) ?_
    refine lv_lconst (v := 0) hx hb dX10_findEnd_35 (by decide) ?_
    refine va_put (D := G) (ci := 10) (v := .long 0) (ty := .long) (C := RX10) (T := TX10) (N := 36) hx hb hts iwX10 tyX10 tyX10_ok nmX10 hown hK hP hD hS 0 rfl rfl 19 (by decide) fl_127 (fun _ h9 => h9) rfl (by decide +kernel) rfl rfl (Nat.le_of_ble_eq_true rfl) dX10_findEnd_36 (fun H locs hP hD hS => ?_)
    have hP : va_P G vwCl [(t_h, .inr (10, [.int t_baseWay, .int t_slip, .int t_low, .int t_high, .int t_unlike, .int t_alone, .long t_above, .long t_below, .ref t_edges_h, .ref t_lean_h, .ref t_word_h, .int t_layers, .ref t_layer_h, .ref t_least_h, .int t_sights, .ref t_sight_h, .int t_shadows, .ref t_shadow_h, .long t_endAbove, .long 0, .long t_speedAbove, .long t_speedBelow, .int t_spans, .ref t_spanLow_h, .ref t_spanHigh_h, .ref t_spanAt_h, .int t_found, .ref t_numbers_h, .int t_pairs, .ref t_pair_h, .ref t_most_h, .int t_rows, .ref t_row_h, .int t_notes, .ref t_under_h, .ref t_agreed_h])), (t_sight_h, .inl (cI, 160, .inl t_sight_a))] H := hP
    have hD : va_D A [(t_h, .inr (10, [.int t_baseWay, .int t_slip, .int t_low, .int t_high, .int t_unlike, .int t_alone, .long t_above, .long t_below, .ref t_edges_h, .ref t_lean_h, .ref t_word_h, .int t_layers, .ref t_layer_h, .ref t_least_h, .int t_sights, .ref t_sight_h, .int t_shadows, .ref t_shadow_h, .long t_endAbove, .long 0, .long t_speedAbove, .long t_speedBelow, .int t_spans, .ref t_spanLow_h, .ref t_spanHigh_h, .ref t_spanAt_h, .int t_found, .ref t_numbers_h, .int t_pairs, .ref t_pair_h, .ref t_most_h, .int t_rows, .ref t_row_h, .int t_notes, .ref t_under_h, .ref t_agreed_h])), (t_sight_h, .inl (cI, 160, .inl t_sight_a))] := hD
    refine lv_iconst (v := 0) hx hb dX10_findEnd_39 (by decide) ?_
    refine lv_istore (lv' := [(4, .int 0), (3, .int v3), (0, .ref t_h), (1, .int x1), (2, .int x2)]) hx hb dX10_findEnd_40 hl (by decide) rfl (fun ls hl => ?_)
    obtain ⟨x33, x34, ht1, hf⟩ := ob2_some hf
    have hx1_0 : ∀ (x339 : Int64) (x349 : Int64), (x339, x349) = (x33, x34) → ∀ (H : Heap) (locs : List Loc) (ls : Array Slot), va_P G vwCl [(t_h, .inr (10, [.int t_baseWay, .int t_slip, .int t_low, .int t_high, .int t_unlike, .int t_alone, .long t_above, .long t_below, .ref t_edges_h, .ref t_lean_h, .ref t_word_h, .int t_layers, .ref t_layer_h, .ref t_least_h, .int t_sights, .ref t_sight_h, .int t_shadows, .ref t_shadow_h, .long x339, .long x349, .long t_speedAbove, .long t_speedBelow, .int t_spans, .ref t_spanLow_h, .ref t_spanHigh_h, .ref t_spanAt_h, .int t_found, .ref t_numbers_h, .int t_pairs, .ref t_pair_h, .ref t_most_h, .int t_rows, .ref t_row_h, .int t_notes, .ref t_under_h, .ref t_agreed_h])), (t_sight_h, .inl (cI, 160, .inl t_sight_a))] H → va_D A [(t_h, .inr (10, [.int t_baseWay, .int t_slip, .int t_low, .int t_high, .int t_unlike, .int t_alone, .long t_above, .long t_below, .ref t_edges_h, .ref t_lean_h, .ref t_word_h, .int t_layers, .ref t_layer_h, .ref t_least_h, .int t_sights, .ref t_sight_h, .int t_shadows, .ref t_shadow_h, .long x339, .long x349, .long t_speedAbove, .long t_speedBelow, .int t_spans, .ref t_spanLow_h, .ref t_spanHigh_h, .ref t_spanAt_h, .int t_found, .ref t_numbers_h, .int t_pairs, .ref t_pair_h, .ref t_most_h, .int t_rows, .ref t_row_h, .int t_notes, .ref t_under_h, .ref t_agreed_h])), (t_sight_h, .inl (cI, 160, .inl t_sight_a))] → va_S A s.heap H locs → lv_has ls 10 [] → W p l e rmX10_findEnd s m args below meth c H locs 0 0 Q (F0 m 195 ls []) := by
      intro x339 x349 he H locs ls hP hD hS hl
      cases he
      refine lv_iconst (v := 1) hx hb dX10_findEnd_195 (by decide) ?_
      exact hret true x33 x34 196 _ _ _ dX10_findEnd_196 hf hP hD hS
    clear hf
    have hl1 : ∀ (n : Nat) (u5 : Int32) (u6 : Int64) (u7 : Int64), it (fX10_findEnd_L1 x1 t_slip t_baseWay t_sight_a v3 x2) n (u5, u6, u7) = some (x33, x34) → ∀ (H : Heap) (locs : List Loc) (ls : Array Slot), va_P G vwCl [(t_h, .inr (10, [.int t_baseWay, .int t_slip, .int t_low, .int t_high, .int t_unlike, .int t_alone, .long t_above, .long t_below, .ref t_edges_h, .ref t_lean_h, .ref t_word_h, .int t_layers, .ref t_layer_h, .ref t_least_h, .int t_sights, .ref t_sight_h, .int t_shadows, .ref t_shadow_h, .long u6, .long u7, .long t_speedAbove, .long t_speedBelow, .int t_spans, .ref t_spanLow_h, .ref t_spanHigh_h, .ref t_spanAt_h, .int t_found, .ref t_numbers_h, .int t_pairs, .ref t_pair_h, .ref t_most_h, .int t_rows, .ref t_row_h, .int t_notes, .ref t_under_h, .ref t_agreed_h])), (t_sight_h, .inl (cI, 160, .inl t_sight_a))] H → va_D A [(t_h, .inr (10, [.int t_baseWay, .int t_slip, .int t_low, .int t_high, .int t_unlike, .int t_alone, .long t_above, .long t_below, .ref t_edges_h, .ref t_lean_h, .ref t_word_h, .int t_layers, .ref t_layer_h, .ref t_least_h, .int t_sights, .ref t_sight_h, .int t_shadows, .ref t_shadow_h, .long u6, .long u7, .long t_speedAbove, .long t_speedBelow, .int t_spans, .ref t_spanLow_h, .ref t_spanHigh_h, .ref t_spanAt_h, .int t_found, .ref t_numbers_h, .int t_pairs, .ref t_pair_h, .ref t_most_h, .int t_rows, .ref t_row_h, .int t_notes, .ref t_under_h, .ref t_agreed_h])), (t_sight_h, .inl (cI, 160, .inl t_sight_a))] → va_S A s.heap H locs → lv_has ls 10 [(0, .ref t_h), (1, .int x1), (2, .int x2), (3, .int v3), (4, .int u5)] → W p l e rmX10_findEnd s m args below meth c H locs 0 0 Q (F0 m 42 ls []) := by
      intro n
      induction n with
      | zero => intro u5 u6 u7 hz; exact (it_zero hz).elim
      | succ n ih =>
        intro u5 u6 u7 hz H locs ls hP hD hS hl
        obtain ⟨x9, hf, hq⟩ := it_succ hz
        unfold fX10_findEnd_L1 at hf
        dsimp only [un3] at hf
        refine lv_iload hx hb dX10_findEnd_42 (lv_at hl 4 rfl) ?_
        refine lv_iconst (v := 4) hx hb dX10_findEnd_44 (by decide) ?_
        refine lv_icmp_ge (tgt := 195) hx hb dX10_findEnd_45 (by decide) (fun c8 => ?_) (fun c8 => ?_)
        · have hf := ift hf c8
          cases hf
          exact hx1_0 _ _ hq _ _ _ hP hD hS (lv_sub hl [] rfl)
        · have hf := iff_ hf c8
          refine lv_aload_n hx hb dX10_findEnd_48 rfl (lv_at hl 0 rfl) ?_
          refine va_get (D := G) (ci := 10) (v := .int t_baseWay) (C := RX10) (T := TX10) (N := 36) hx hb hts iwX10 hown hK hP 0 rfl rfl 0 (by decide) fl_58 (fun _ h9 => h9) rfl dX10_findEnd_49 ?_
          refine lv_i2l (v := Int32.toInt64 t_baseWay) hx hb dX10_findEnd_52 rfl ?_
          refine lv_aload_n hx hb dX10_findEnd_53 rfl (lv_at hl 0 rfl) ?_
          refine va_get (D := G) (ci := 10) (v := .ref t_sight_h) (C := RX10) (T := TX10) (N := 36) hx hb hts iwX10 hown hK hP 0 rfl rfl 15 (by decide) fl_25 (fun _ h9 => h9) rfl dX10_findEnd_54 ?_
          refine lv_iconst (v := 4) hx hb dX10_findEnd_57 (by decide) ?_
          refine lv_iload_n hx hb dX10_findEnd_58 rfl (lv_at hl 1 rfl) ?_
          refine lv_imul hx hb dX10_findEnd_59 ?_
          refine lv_iconst (v := 2) hx hb dX10_findEnd_60 (by decide) ?_
          refine lv_iadd hx hb dX10_findEnd_61 ?_
          obtain ⟨h9, hf⟩ := gd_some hf
          refine va_iald hx hb hK hP 1 0 rfl rfl (bnd_in h9) dX10_findEnd_62 ?_
          refine lv_iload hx hb dX10_findEnd_63 (lv_at hl 4 rfl) ?_
          refine lv_iconst (v := 2) hx hb dX10_findEnd_65 (by decide) ?_
          obtain ⟨m10, hr11, hf⟩ := ob_some hf
          have hj12 : ∀ (m109 : Int32), some m109 = some m10 → ∀ (H : Heap) (locs : List Loc) (ls : Array Slot), va_P G vwCl [(t_h, .inr (10, [.int t_baseWay, .int t_slip, .int t_low, .int t_high, .int t_unlike, .int t_alone, .long t_above, .long t_below, .ref t_edges_h, .ref t_lean_h, .ref t_word_h, .int t_layers, .ref t_layer_h, .ref t_least_h, .int t_sights, .ref t_sight_h, .int t_shadows, .ref t_shadow_h, .long u6, .long u7, .long t_speedAbove, .long t_speedBelow, .int t_spans, .ref t_spanLow_h, .ref t_spanHigh_h, .ref t_spanAt_h, .int t_found, .ref t_numbers_h, .int t_pairs, .ref t_pair_h, .ref t_most_h, .int t_rows, .ref t_row_h, .int t_notes, .ref t_under_h, .ref t_agreed_h])), (t_sight_h, .inl (cI, 160, .inl t_sight_a))] H → va_D A [(t_h, .inr (10, [.int t_baseWay, .int t_slip, .int t_low, .int t_high, .int t_unlike, .int t_alone, .long t_above, .long t_below, .ref t_edges_h, .ref t_lean_h, .ref t_word_h, .int t_layers, .ref t_layer_h, .ref t_least_h, .int t_sights, .ref t_sight_h, .int t_shadows, .ref t_shadow_h, .long u6, .long u7, .long t_speedAbove, .long t_speedBelow, .int t_spans, .ref t_spanLow_h, .ref t_spanHigh_h, .ref t_spanAt_h, .int t_found, .ref t_numbers_h, .int t_pairs, .ref t_pair_h, .ref t_most_h, .int t_rows, .ref t_row_h, .int t_notes, .ref t_under_h, .ref t_agreed_h])), (t_sight_h, .inl (cI, 160, .inl t_sight_a))] → va_S A s.heap H locs → lv_has ls 10 [(0, .ref t_h), (1, .int x1), (2, .int x2), (3, .int v3), (4, .int u5)] → W p l e rmX10_findEnd s m args below meth c H locs 0 0 Q (F0 m 81 ls [.int m109, .int (t_sight_a (Int32.toNatClampNeg ((4 * x1) + 2))), .long (Int32.toInt64 t_baseWay)]) := by
            intro m109 he H locs ls hP hD hS hl
            cases he
            refine lv_iadd hx hb dX10_findEnd_81 ?_
            refine lv_i2l (v := Int32.toInt64 ((t_sight_a (Int32.toNatClampNeg ((4 * x1) + 2))) + m10)) hx hb dX10_findEnd_82 rfl ?_
            refine lv_lmul hx hb dX10_findEnd_83 ?_
            refine lv_topl (fun v14 ev14 => ?_)
            have hf := bv_at ev14 hf
            refine lv_lstore (lv' := [(5, .long v14), (0, .ref t_h), (1, .int x1), (2, .int x2), (3, .int v3), (4, .int u5)]) hx hb dX10_findEnd_84 hl (by decide) rfl (fun ls hl => ?_)
            refine lv_iload_n hx hb dX10_findEnd_86 rfl (lv_at hl 4 rfl) ?_
            refine lv_i2l (v := Int32.toInt64 v3) hx hb dX10_findEnd_87 rfl ?_
            refine lv_iload hx hb dX10_findEnd_88 (lv_at hl 5 rfl) ?_
            refine lv_iconst (v := 2) hx hb dX10_findEnd_90 (by decide) ?_
            refine lv_irem hx hb dX10_findEnd_91 (by decide) ?_
            obtain ⟨m15, hr16, hf⟩ := ob_some hf
            have hj17 : ∀ (m159 : Int64), some m159 = some m15 → ∀ (H : Heap) (locs : List Loc) (ls : Array Slot), va_P G vwCl [(t_h, .inr (10, [.int t_baseWay, .int t_slip, .int t_low, .int t_high, .int t_unlike, .int t_alone, .long t_above, .long t_below, .ref t_edges_h, .ref t_lean_h, .ref t_word_h, .int t_layers, .ref t_layer_h, .ref t_least_h, .int t_sights, .ref t_sight_h, .int t_shadows, .ref t_shadow_h, .long u6, .long u7, .long t_speedAbove, .long t_speedBelow, .int t_spans, .ref t_spanLow_h, .ref t_spanHigh_h, .ref t_spanAt_h, .int t_found, .ref t_numbers_h, .int t_pairs, .ref t_pair_h, .ref t_most_h, .int t_rows, .ref t_row_h, .int t_notes, .ref t_under_h, .ref t_agreed_h])), (t_sight_h, .inl (cI, 160, .inl t_sight_a))] H → va_D A [(t_h, .inr (10, [.int t_baseWay, .int t_slip, .int t_low, .int t_high, .int t_unlike, .int t_alone, .long t_above, .long t_below, .ref t_edges_h, .ref t_lean_h, .ref t_word_h, .int t_layers, .ref t_layer_h, .ref t_least_h, .int t_sights, .ref t_sight_h, .int t_shadows, .ref t_shadow_h, .long u6, .long u7, .long t_speedAbove, .long t_speedBelow, .int t_spans, .ref t_spanLow_h, .ref t_spanHigh_h, .ref t_spanAt_h, .int t_found, .ref t_numbers_h, .int t_pairs, .ref t_pair_h, .ref t_most_h, .int t_rows, .ref t_row_h, .int t_notes, .ref t_under_h, .ref t_agreed_h])), (t_sight_h, .inl (cI, 160, .inl t_sight_a))] → va_S A s.heap H locs → lv_has ls 10 [(0, .ref t_h), (1, .int x1), (2, .int x2), (3, .int v3), (4, .int u5), (5, .long v14)] → W p l e rmX10_findEnd s m args below meth c H locs 0 0 Q (F0 m 104 ls [.long m159, .long (Int32.toInt64 v3)]) := by
              intro m159 he H locs ls hP hD hS hl
              cases he
              refine lv_aload_n hx hb dX10_findEnd_104 rfl (lv_at hl 0 rfl) ?_
              refine va_get (D := G) (ci := 10) (v := .int t_slip) (C := RX10) (T := TX10) (N := 36) hx hb hts iwX10 hown hK hP 0 rfl rfl 1 (by decide) fl_62 (fun _ h9 => h9) rfl dX10_findEnd_105 ?_
              refine lv_i2l (v := Int32.toInt64 t_slip) hx hb dX10_findEnd_108 rfl ?_
              refine lv_lmul hx hb dX10_findEnd_109 ?_
              refine lv_ladd hx hb dX10_findEnd_110 ?_
              refine lv_topl (fun v19 ev19 => ?_)
              have hf := bv_at ev19 hf
              refine lv_lstore (lv' := [(7, .long v19), (0, .ref t_h), (1, .int x1), (2, .int x2), (3, .int v3), (4, .int u5), (5, .long v14)]) hx hb dX10_findEnd_111 hl (by decide) rfl (fun ls hl => ?_)
              refine lv_aload_n hx hb dX10_findEnd_113 rfl (lv_at hl 1 rfl) ?_
              refine va_get (D := G) (ci := 10) (v := .long u7) (C := RX10) (T := TX10) (N := 36) hx hb hts iwX10 hown hK hP 0 rfl rfl 19 (by decide) fl_127 (fun _ h9 => h9) rfl dX10_findEnd_114 ?_
              refine lv_lconst (v := 0) hx hb dX10_findEnd_117 (by decide) ?_
              refine W.lcmp hx hb dX10_findEnd_118 ?_
              obtain ⟨m20, hr21, hf⟩ := ob_some hf
              have hj22 : ∀ (m209 : Int32), some m209 = some m20 → ∀ (H : Heap) (locs : List Loc) (ls : Array Slot), va_P G vwCl [(t_h, .inr (10, [.int t_baseWay, .int t_slip, .int t_low, .int t_high, .int t_unlike, .int t_alone, .long t_above, .long t_below, .ref t_edges_h, .ref t_lean_h, .ref t_word_h, .int t_layers, .ref t_layer_h, .ref t_least_h, .int t_sights, .ref t_sight_h, .int t_shadows, .ref t_shadow_h, .long u6, .long u7, .long t_speedAbove, .long t_speedBelow, .int t_spans, .ref t_spanLow_h, .ref t_spanHigh_h, .ref t_spanAt_h, .int t_found, .ref t_numbers_h, .int t_pairs, .ref t_pair_h, .ref t_most_h, .int t_rows, .ref t_row_h, .int t_notes, .ref t_under_h, .ref t_agreed_h])), (t_sight_h, .inl (cI, 160, .inl t_sight_a))] H → va_D A [(t_h, .inr (10, [.int t_baseWay, .int t_slip, .int t_low, .int t_high, .int t_unlike, .int t_alone, .long t_above, .long t_below, .ref t_edges_h, .ref t_lean_h, .ref t_word_h, .int t_layers, .ref t_layer_h, .ref t_least_h, .int t_sights, .ref t_sight_h, .int t_shadows, .ref t_shadow_h, .long u6, .long u7, .long t_speedAbove, .long t_speedBelow, .int t_spans, .ref t_spanLow_h, .ref t_spanHigh_h, .ref t_spanAt_h, .int t_found, .ref t_numbers_h, .int t_pairs, .ref t_pair_h, .ref t_most_h, .int t_rows, .ref t_row_h, .int t_notes, .ref t_under_h, .ref t_agreed_h])), (t_sight_h, .inl (cI, 160, .inl t_sight_a))] → va_S A s.heap H locs → lv_has ls 10 [(0, .ref t_h), (1, .int x1), (2, .int x2), (3, .int v3), (4, .int u5), (5, .long v14), (7, .long v19)] → W p l e rmX10_findEnd s m args below meth c H locs 0 0 Q (F0 m 170 ls [.int m209]) := by
                intro m209 he H locs ls hP hD hS hl
                cases he
                refine lv_istore (lv' := [(9, .int m20), (0, .ref t_h), (1, .int x1), (2, .int x2), (3, .int v3), (4, .int u5), (5, .long v14), (7, .long v19)]) hx hb dX10_findEnd_170 hl (by decide) rfl (fun ls hl => ?_)
                refine lv_iload hx hb dX10_findEnd_172 (lv_at hl 0 rfl) ?_
                obtain ⟨m27, m28, hr29, hf⟩ := ob2_some hf
                have hj30 : ∀ (m279 : Int64) (m289 : Int64), some (m279, m289) = some (m27, m28) → ∀ (H : Heap) (locs : List Loc) (ls : Array Slot), va_P G vwCl [(t_h, .inr (10, [.int t_baseWay, .int t_slip, .int t_low, .int t_high, .int t_unlike, .int t_alone, .long t_above, .long t_below, .ref t_edges_h, .ref t_lean_h, .ref t_word_h, .int t_layers, .ref t_layer_h, .ref t_least_h, .int t_sights, .ref t_sight_h, .int t_shadows, .ref t_shadow_h, .long m279, .long m289, .long t_speedAbove, .long t_speedBelow, .int t_spans, .ref t_spanLow_h, .ref t_spanHigh_h, .ref t_spanAt_h, .int t_found, .ref t_numbers_h, .int t_pairs, .ref t_pair_h, .ref t_most_h, .int t_rows, .ref t_row_h, .int t_notes, .ref t_under_h, .ref t_agreed_h])), (t_sight_h, .inl (cI, 160, .inl t_sight_a))] H → va_D A [(t_h, .inr (10, [.int t_baseWay, .int t_slip, .int t_low, .int t_high, .int t_unlike, .int t_alone, .long t_above, .long t_below, .ref t_edges_h, .ref t_lean_h, .ref t_word_h, .int t_layers, .ref t_layer_h, .ref t_least_h, .int t_sights, .ref t_sight_h, .int t_shadows, .ref t_shadow_h, .long m279, .long m289, .long t_speedAbove, .long t_speedBelow, .int t_spans, .ref t_spanLow_h, .ref t_spanHigh_h, .ref t_spanAt_h, .int t_found, .ref t_numbers_h, .int t_pairs, .ref t_pair_h, .ref t_most_h, .int t_rows, .ref t_row_h, .int t_notes, .ref t_under_h, .ref t_agreed_h])), (t_sight_h, .inl (cI, 160, .inl t_sight_a))] → va_S A s.heap H locs → lv_has ls 10 [(0, .ref t_h), (1, .int x1), (2, .int x2), (3, .int v3), (4, .int u5)] → W p l e rmX10_findEnd s m args below meth c H locs 0 0 Q (F0 m 189 ls []) := by
                  intro m279 m289 he H locs ls hP hD hS hl
                  cases he
                  obtain ⟨v32, ev32⟩ : ∃ y : Int32, y = u5 + 1 := ⟨_, rfl⟩
                  have hf := bv_at ev32 hf
                  refine lv_iinc (v := v32) (lv' := [(4, .int v32), (0, .ref t_h), (1, .int x1), (2, .int x2), (3, .int v3)]) hx hb dX10_findEnd_189 hl (k := 4) rfl (by rw [ev32]; rfl) (by decide) rfl (fun ls hl => ?_)
                  refine lv_goto (tgt := 42) hx hb dX10_findEnd_192 (by decide) ?_
                  cases hf
                  exact ih _ _ _ hq _ _ _ hP hD hS (lv_sub hl [1, 2, 3, 4, 0] rfl)
                replace hf := hr29
                refine lv_if_eq (tgt := 189) hx hb dX10_findEnd_174 (by decide) (fun c31 => ?_) (fun c31 => ?_)
                · have hf := ift hf c31
                  exact hj30 _ _ hf _ _ _ hP hD hS (lv_sub hl [1, 2, 3, 4, 5] rfl)
                · have hf := iff_ hf c31
                  refine lv_aload_n hx hb dX10_findEnd_177 rfl (lv_at hl 1 rfl) ?_
                  refine lv_lload hx hb dX10_findEnd_178 (lv_at hl 6 rfl) ?_
                  refine va_put (D := G) (ci := 10) (v := .long v14) (ty := .long) (C := RX10) (T := TX10) (N := 36) hx hb hts iwX10 tyX10 tyX10_ok nmX10 hown hK hP hD hS 0 rfl rfl 18 (by decide) fl_134 (fun _ h9 => h9) rfl (by decide +kernel) rfl rfl (Nat.le_of_ble_eq_true rfl) dX10_findEnd_180 (fun H locs hP hD hS => ?_)
                  have hP : va_P G vwCl [(t_h, .inr (10, [.int t_baseWay, .int t_slip, .int t_low, .int t_high, .int t_unlike, .int t_alone, .long t_above, .long t_below, .ref t_edges_h, .ref t_lean_h, .ref t_word_h, .int t_layers, .ref t_layer_h, .ref t_least_h, .int t_sights, .ref t_sight_h, .int t_shadows, .ref t_shadow_h, .long v14, .long u7, .long t_speedAbove, .long t_speedBelow, .int t_spans, .ref t_spanLow_h, .ref t_spanHigh_h, .ref t_spanAt_h, .int t_found, .ref t_numbers_h, .int t_pairs, .ref t_pair_h, .ref t_most_h, .int t_rows, .ref t_row_h, .int t_notes, .ref t_under_h, .ref t_agreed_h])), (t_sight_h, .inl (cI, 160, .inl t_sight_a))] H := hP
                  have hD : va_D A [(t_h, .inr (10, [.int t_baseWay, .int t_slip, .int t_low, .int t_high, .int t_unlike, .int t_alone, .long t_above, .long t_below, .ref t_edges_h, .ref t_lean_h, .ref t_word_h, .int t_layers, .ref t_layer_h, .ref t_least_h, .int t_sights, .ref t_sight_h, .int t_shadows, .ref t_shadow_h, .long v14, .long u7, .long t_speedAbove, .long t_speedBelow, .int t_spans, .ref t_spanLow_h, .ref t_spanHigh_h, .ref t_spanAt_h, .int t_found, .ref t_numbers_h, .int t_pairs, .ref t_pair_h, .ref t_most_h, .int t_rows, .ref t_row_h, .int t_notes, .ref t_under_h, .ref t_agreed_h])), (t_sight_h, .inl (cI, 160, .inl t_sight_a))] := hD
                  refine lv_aload_n hx hb dX10_findEnd_183 rfl (lv_at hl 1 rfl) ?_
                  refine lv_lload hx hb dX10_findEnd_184 (lv_at hl 7 rfl) ?_
                  refine va_put (D := G) (ci := 10) (v := .long v19) (ty := .long) (C := RX10) (T := TX10) (N := 36) hx hb hts iwX10 tyX10 tyX10_ok nmX10 hown hK hP hD hS 0 rfl rfl 19 (by decide) fl_127 (fun _ h9 => h9) rfl (by decide +kernel) rfl rfl (Nat.le_of_ble_eq_true rfl) dX10_findEnd_186 (fun H locs hP hD hS => ?_)
                  have hP : va_P G vwCl [(t_h, .inr (10, [.int t_baseWay, .int t_slip, .int t_low, .int t_high, .int t_unlike, .int t_alone, .long t_above, .long t_below, .ref t_edges_h, .ref t_lean_h, .ref t_word_h, .int t_layers, .ref t_layer_h, .ref t_least_h, .int t_sights, .ref t_sight_h, .int t_shadows, .ref t_shadow_h, .long v14, .long v19, .long t_speedAbove, .long t_speedBelow, .int t_spans, .ref t_spanLow_h, .ref t_spanHigh_h, .ref t_spanAt_h, .int t_found, .ref t_numbers_h, .int t_pairs, .ref t_pair_h, .ref t_most_h, .int t_rows, .ref t_row_h, .int t_notes, .ref t_under_h, .ref t_agreed_h])), (t_sight_h, .inl (cI, 160, .inl t_sight_a))] H := hP
                  have hD : va_D A [(t_h, .inr (10, [.int t_baseWay, .int t_slip, .int t_low, .int t_high, .int t_unlike, .int t_alone, .long t_above, .long t_below, .ref t_edges_h, .ref t_lean_h, .ref t_word_h, .int t_layers, .ref t_layer_h, .ref t_least_h, .int t_sights, .ref t_sight_h, .int t_shadows, .ref t_shadow_h, .long v14, .long v19, .long t_speedAbove, .long t_speedBelow, .int t_spans, .ref t_spanLow_h, .ref t_spanHigh_h, .ref t_spanAt_h, .int t_found, .ref t_numbers_h, .int t_pairs, .ref t_pair_h, .ref t_most_h, .int t_rows, .ref t_row_h, .int t_notes, .ref t_under_h, .ref t_agreed_h])), (t_sight_h, .inl (cI, 160, .inl t_sight_a))] := hD
                  exact hj30 _ _ hf _ _ _ hP hD hS (lv_sub hl [1, 2, 3, 4, 5] rfl)
              replace hf := hr21
              refine lv_if_eq (tgt := 165) hx hb dX10_findEnd_119 (by decide) (fun c23 => ?_) (fun c23 => ?_)
              · have hf := ift hf c23
                refine lv_iconst (v := 1) hx hb dX10_findEnd_165 (by decide) ?_
                refine lv_goto (tgt := 170) hx hb dX10_findEnd_166 (by decide) ?_
                exact hj22 _ hf _ _ _ hP hD hS (lv_sub hl [1, 2, 3, 4, 5, 6, 0] rfl)
              · have hf := iff_ hf c23
                refine lv_iload_n hx hb dX10_findEnd_122 rfl (lv_at hl 3 rfl) ?_
                refine lv_if_eq (tgt := 147) hx hb dX10_findEnd_123 (by decide) (fun c24 => ?_) (fun c24 => ?_)
                · have hf := ift hf c24
                  refine lv_lload hx hb dX10_findEnd_147 (lv_at hl 6 rfl) ?_
                  refine lv_aload_n hx hb dX10_findEnd_149 rfl (lv_at hl 1 rfl) ?_
                  refine va_get (D := G) (ci := 10) (v := .long u7) (C := RX10) (T := TX10) (N := 36) hx hb hts iwX10 hown hK hP 0 rfl rfl 19 (by decide) fl_127 (fun _ h9 => h9) rfl dX10_findEnd_150 ?_
                  refine lv_lmul hx hb dX10_findEnd_153 ?_
                  refine lv_aload_n hx hb dX10_findEnd_154 rfl (lv_at hl 1 rfl) ?_
                  refine va_get (D := G) (ci := 10) (v := .long u6) (C := RX10) (T := TX10) (N := 36) hx hb hts iwX10 hown hK hP 0 rfl rfl 18 (by decide) fl_134 (fun _ h9 => h9) rfl dX10_findEnd_155 ?_
                  refine lv_lload hx hb dX10_findEnd_158 (lv_at hl 0 rfl) ?_
                  refine lv_lmul hx hb dX10_findEnd_160 ?_
                  refine W.lcmp hx hb dX10_findEnd_161 ?_
                  refine lv_if_ge (tgt := 169) hx hb dX10_findEnd_162 (by decide) (fun c25 => ?_) (fun c25 => ?_)
                  · have hf := ift hf c25
                    refine lv_iconst (v := 0) hx hb dX10_findEnd_169 (by decide) ?_
                    exact hj22 _ hf _ _ _ hP hD hS (lv_sub hl [1, 2, 3, 4, 5, 6, 0] rfl)
                  · have hf := iff_ hf c25
                    refine lv_iconst (v := 1) hx hb dX10_findEnd_165 (by decide) ?_
                    refine lv_goto (tgt := 170) hx hb dX10_findEnd_166 (by decide) ?_
                    exact hj22 _ hf _ _ _ hP hD hS (lv_sub hl [1, 2, 3, 4, 5, 6, 0] rfl)
                · have hf := iff_ hf c24
                  refine lv_lload hx hb dX10_findEnd_126 (lv_at hl 6 rfl) ?_
                  refine lv_aload_n hx hb dX10_findEnd_128 rfl (lv_at hl 1 rfl) ?_
                  refine va_get (D := G) (ci := 10) (v := .long u7) (C := RX10) (T := TX10) (N := 36) hx hb hts iwX10 hown hK hP 0 rfl rfl 19 (by decide) fl_127 (fun _ h9 => h9) rfl dX10_findEnd_129 ?_
                  refine lv_lmul hx hb dX10_findEnd_132 ?_
                  refine lv_aload_n hx hb dX10_findEnd_133 rfl (lv_at hl 1 rfl) ?_
                  refine va_get (D := G) (ci := 10) (v := .long u6) (C := RX10) (T := TX10) (N := 36) hx hb hts iwX10 hown hK hP 0 rfl rfl 18 (by decide) fl_134 (fun _ h9 => h9) rfl dX10_findEnd_134 ?_
                  refine lv_lload hx hb dX10_findEnd_137 (lv_at hl 0 rfl) ?_
                  refine lv_lmul hx hb dX10_findEnd_139 ?_
                  refine W.lcmp hx hb dX10_findEnd_140 ?_
                  refine lv_if_le (tgt := 169) hx hb dX10_findEnd_141 (by decide) (fun c26 => ?_) (fun c26 => ?_)
                  · have hf := ift hf c26
                    refine lv_iconst (v := 0) hx hb dX10_findEnd_169 (by decide) ?_
                    exact hj22 _ hf _ _ _ hP hD hS (lv_sub hl [1, 2, 3, 4, 5, 6, 0] rfl)
                  · have hf := iff_ hf c26
                    refine lv_goto (tgt := 165) hx hb dX10_findEnd_144 (by decide) ?_
                    refine lv_iconst (v := 1) hx hb dX10_findEnd_165 (by decide) ?_
                    refine lv_goto (tgt := 170) hx hb dX10_findEnd_166 (by decide) ?_
                    exact hj22 _ hf _ _ _ hP hD hS (lv_sub hl [1, 2, 3, 4, 5, 6, 0] rfl)
            replace hf := hr16
            refine lv_if_ne (tgt := 101) hx hb dX10_findEnd_92 (by decide) (fun c18 => ?_) (fun c18 => ?_)
            · have hf := iff_ hf c18
              refine lv_ldc2 (v := (-2)) hx hb hown kc_132 dX10_findEnd_101 ?_
              exact hj17 _ hf _ _ _ hP hD hS (lv_sub hl [1, 2, 3, 4, 5, 0] rfl)
            · have hf := ift hf c18
              refine lv_ldc2 (v := 2) hx hb hown kc_130 dX10_findEnd_95 ?_
              refine lv_goto (tgt := 104) hx hb dX10_findEnd_98 (by decide) ?_
              exact hj17 _ hf _ _ _ hP hD hS (lv_sub hl [1, 2, 3, 4, 5, 0] rfl)
          replace hf := hr11
          refine lv_icmp_ge (tgt := 76) hx hb dX10_findEnd_66 (by decide) (fun c13 => ?_) (fun c13 => ?_)
          · have hf := ift hf c13
            refine lv_aload_n hx hb dX10_findEnd_76 rfl (lv_at hl 0 rfl) ?_
            refine va_get (D := G) (ci := 10) (v := .int t_slip) (C := RX10) (T := TX10) (N := 36) hx hb hts iwX10 hown hK hP 0 rfl rfl 1 (by decide) fl_62 (fun _ h9 => h9) rfl dX10_findEnd_77 ?_
            refine lv_ineg hx hb dX10_findEnd_80 ?_
            exact hj12 _ hf _ _ _ hP hD hS (lv_sub hl [0, 1, 2, 3, 4] rfl)
          · have hf := iff_ hf c13
            refine lv_aload_n hx hb dX10_findEnd_69 rfl (lv_at hl 0 rfl) ?_
            refine va_get (D := G) (ci := 10) (v := .int t_slip) (C := RX10) (T := TX10) (N := 36) hx hb hts iwX10 hown hK hP 0 rfl rfl 1 (by decide) fl_62 (fun _ h9 => h9) rfl dX10_findEnd_70 ?_
            refine lv_goto (tgt := 81) hx hb dX10_findEnd_73 (by decide) ?_
            exact hj12 _ hf _ _ _ hP hD hS (lv_sub hl [0, 1, 2, 3, 4] rfl)
    exact hl1 _ _ _ _ ht1 _ _ _ hP hD hS (lv_sub hl [2, 3, 4, 1, 0] rfl)
  · have hf := iff_ hf c4
    refine lv_iconst (v := 0) hx hb dX10_findEnd_32 (by decide) ?_
    exact hret false t_endAbove t_endBelow 33 _ _ _ dX10_findEnd_33 hf hP hD hS
set_option maxRecDepth 20000 in
theorem ggX10_speeds_X10_divisor : GoodIn wsX10_speeds wsX10_divisor := goodIn_r _ [6] (by decide +kernel) (by decide +kernel)
set_option maxRecDepth 20000 in
theorem gX10_speeds_X10_divisor : GoodIn wsX10_speeds (va_wsS RX10 84 yX10_divisor wsX10_divisor) := goodIn_app (goodIn_of _ (by decide +kernel)) ggX10_speeds_X10_divisor
theorem dX10_speeds_0 : decode cX10_speeds 0 = .ok (.aload_n 0, 1) := by decide +kernel
theorem dX10_speeds_1 : decode cX10_speeds 1 = .ok (.lload_n 1, 1) := by decide +kernel
theorem dX10_speeds_2 : decode cX10_speeds 2 = .ok (.lload 7, 2) := by decide +kernel
theorem dX10_speeds_4 : decode cX10_speeds 4 = .ok (.lmul, 1) := by decide +kernel
theorem dX10_speeds_5 : decode cX10_speeds 5 = .ok (.lload 5, 2) := by decide +kernel
theorem dX10_speeds_7 : decode cX10_speeds 7 = .ok (.lload_n 3, 1) := by decide +kernel
theorem dX10_speeds_8 : decode cX10_speeds 8 = .ok (.lmul, 1) := by decide +kernel
theorem dX10_speeds_9 : decode cX10_speeds 9 = .ok (.lsub, 1) := by decide +kernel
theorem dX10_speeds_10 : decode cX10_speeds 10 = .ok (.putfield 137, 3) := by decide +kernel
theorem dX10_speeds_13 : decode cX10_speeds 13 = .ok (.aload_n 0, 1) := by decide +kernel
theorem dX10_speeds_14 : decode cX10_speeds 14 = .ok (.lload_n 3, 1) := by decide +kernel
theorem dX10_speeds_15 : decode cX10_speeds 15 = .ok (.lload 7, 2) := by decide +kernel
theorem dX10_speeds_17 : decode cX10_speeds 17 = .ok (.lmul, 1) := by decide +kernel
theorem dX10_speeds_18 : decode cX10_speeds 18 = .ok (.iload 9, 2) := by decide +kernel
theorem dX10_speeds_20 : decode cX10_speeds 20 = .ok (.i2l, 1) := by decide +kernel
theorem dX10_speeds_21 : decode cX10_speeds 21 = .ok (.lmul, 1) := by decide +kernel
theorem dX10_speeds_22 : decode cX10_speeds 22 = .ok (.putfield 140, 3) := by decide +kernel
theorem dX10_speeds_25 : decode cX10_speeds 25 = .ok (.aload_n 0, 1) := by decide +kernel
theorem dX10_speeds_26 : decode cX10_speeds 26 = .ok (.getfield 137, 3) := by decide +kernel
theorem dX10_speeds_29 : decode cX10_speeds 29 = .ok (.aload_n 0, 1) := by decide +kernel
theorem dX10_speeds_30 : decode cX10_speeds 30 = .ok (.getfield 140, 3) := by decide +kernel
theorem dX10_speeds_33 : decode cX10_speeds 33 = .ok (.invokestatic 84, 3) := by decide +kernel
theorem dX10_speeds_36 : decode cX10_speeds 36 = .ok (.lstore 10, 2) := by decide +kernel
theorem dX10_speeds_38 : decode cX10_speeds 38 = .ok (.aload_n 0, 1) := by decide +kernel
theorem dX10_speeds_39 : decode cX10_speeds 39 = .ok (.dup, 1) := by decide +kernel
theorem dX10_speeds_40 : decode cX10_speeds 40 = .ok (.getfield 137, 3) := by decide +kernel
theorem dX10_speeds_43 : decode cX10_speeds 43 = .ok (.lload 10, 2) := by decide +kernel
theorem dX10_speeds_45 : decode cX10_speeds 45 = .ok (.ldiv, 1) := by decide +kernel
theorem dX10_speeds_46 : decode cX10_speeds 46 = .ok (.putfield 137, 3) := by decide +kernel
theorem dX10_speeds_49 : decode cX10_speeds 49 = .ok (.aload_n 0, 1) := by decide +kernel
theorem dX10_speeds_50 : decode cX10_speeds 50 = .ok (.dup, 1) := by decide +kernel
theorem dX10_speeds_51 : decode cX10_speeds 51 = .ok (.getfield 140, 3) := by decide +kernel
theorem dX10_speeds_54 : decode cX10_speeds 54 = .ok (.lload 10, 2) := by decide +kernel
theorem dX10_speeds_56 : decode cX10_speeds 56 = .ok (.ldiv, 1) := by decide +kernel
theorem dX10_speeds_57 : decode cX10_speeds 57 = .ok (.putfield 140, 3) := by decide +kernel
theorem dX10_speeds_60 : decode cX10_speeds 60 = .ok (.return_, 1) := by decide +kernel
set_option maxRecDepth 100000 in
def fX10_speeds (x1 : Int64) (x3 : Int64) (x5 : Int64) (x7 : Int64) (x9 : Int32) (t_speedAbove : Int64) (t_speedBelow : Int64) : Option (Int64 × Int64) :=
  bv ((x1 * x7) - (x5 * x3)) fun v1 =>
  bv ((x3 * x7) * (Int32.toInt64 x9)) fun v2 =>
  ob (fX10_divisor v1 v2) fun r3 =>
  gd (decide (¬ r3 = 0)) <|
  bv (v1 / r3) fun v6 =>
  gd (decide (¬ r3 = 0)) <|
  bv (v2 / r3) fun v8 =>
  some (v6, v8)
abbrev rmX10_speeds : Room := { frames := 1, cells := 0, slots := 0, locals := 29 }
theorem iwX10_speeds_X10 : ∀ w ∈ u_ws RX10 TX10 36, w ∈ wsX10_speeds := by decide +kernel
set_option maxHeartbeats 4000000 in
set_option maxRecDepth 100000 in
theorem k_X10_speeds (l : Launch) (G : va_G) (cI cJ : ClassId) (t_h t_edges_h t_lean_h t_word_h t_layer_h t_least_h t_sight_h t_shadow_h t_spanLow_h t_spanHigh_h t_spanAt_h t_numbers_h t_pair_h t_most_h t_row_h t_under_h t_agreed_h : Nat) (sz : Nat) (t_baseWay : Int32) (t_slip : Int32) (t_low : Int32) (t_high : Int32) (t_unlike : Int32) (t_alone : Int32) (t_above : Int64) (t_below : Int64) (t_layers : Int32) (t_sights : Int32) (t_shadows : Int32) (t_endAbove : Int64) (t_endBelow : Int64) (t_speedAbove : Int64) (t_speedBelow : Int64) (t_spans : Int32) (t_found : Int32) (t_pairs : Int32) (t_rows : Int32) (t_notes : Int32) (x1 : Int64) (x3 : Int64) (x5 : Int64) (x7 : Int64) (x9 : Int32) {o_t_speedAbove : Int64} {o_t_speedBelow : Int64} (hf : fX10_speeds x1 x3 x5 x7 x9 t_speedAbove t_speedBelow = some (o_t_speedAbove, o_t_speedBelow)) : MetU l yX10_speeds wsX10_speeds rmX10_speeds [.ref t_h, .long x1, .long x3, .long x5, .long x7, .int x9] G cI cJ [(t_h, .inr (10, [.int t_baseWay, .int t_slip, .int t_low, .int t_high, .int t_unlike, .int t_alone, .long t_above, .long t_below, .ref t_edges_h, .ref t_lean_h, .ref t_word_h, .int t_layers, .ref t_layer_h, .ref t_least_h, .int t_sights, .ref t_sight_h, .int t_shadows, .ref t_shadow_h, .long t_endAbove, .long t_endBelow, .long t_speedAbove, .long t_speedBelow, .int t_spans, .ref t_spanLow_h, .ref t_spanHigh_h, .ref t_spanAt_h, .int t_found, .ref t_numbers_h, .int t_pairs, .ref t_pair_h, .ref t_most_h, .int t_rows, .ref t_row_h, .int t_notes, .ref t_under_h, .ref t_agreed_h]))] [(t_h, .inr (10, [.int t_baseWay, .int t_slip, .int t_low, .int t_high, .int t_unlike, .int t_alone, .long t_above, .long t_below, .ref t_edges_h, .ref t_lean_h, .ref t_word_h, .int t_layers, .ref t_layer_h, .ref t_least_h, .int t_sights, .ref t_sight_h, .int t_shadows, .ref t_shadow_h, .long t_endAbove, .long t_endBelow, .long o_t_speedAbove, .long o_t_speedBelow, .int t_spans, .ref t_spanLow_h, .ref t_spanHigh_h, .ref t_spanAt_h, .int t_found, .ref t_numbers_h, .int t_pairs, .ref t_pair_h, .ref t_most_h, .int t_rows, .ref t_row_h, .int t_notes, .ref t_under_h, .ref t_agreed_h]))] sz := by
  refine en_0 (l := l) (y := yX10_speeds) (wsl := wsX10_speeds) (rm := rmX10_speeds) (av := [.ref t_h, .long x1, .long x3, .long x5, .long x7, .int x9]) (G := G) (cI := cI) (cJ := cJ) (w0 := [(t_h, .inr (10, [.int t_baseWay, .int t_slip, .int t_low, .int t_high, .int t_unlike, .int t_alone, .long t_above, .long t_below, .ref t_edges_h, .ref t_lean_h, .ref t_word_h, .int t_layers, .ref t_layer_h, .ref t_least_h, .int t_sights, .ref t_sight_h, .int t_shadows, .ref t_shadow_h, .long t_endAbove, .long t_endBelow, .long t_speedAbove, .long t_speedBelow, .int t_spans, .ref t_spanLow_h, .ref t_spanHigh_h, .ref t_spanAt_h, .int t_found, .ref t_numbers_h, .int t_pairs, .ref t_pair_h, .ref t_most_h, .int t_rows, .ref t_row_h, .int t_notes, .ref t_under_h, .ref t_agreed_h]))]) (sz := sz) (Qf := fun A => Qv0 G cI cJ [(t_h, .inr (10, [.int t_baseWay, .int t_slip, .int t_low, .int t_high, .int t_unlike, .int t_alone, .long t_above, .long t_below, .ref t_edges_h, .ref t_lean_h, .ref t_word_h, .int t_layers, .ref t_layer_h, .ref t_least_h, .int t_sights, .ref t_sight_h, .int t_shadows, .ref t_shadow_h, .long t_endAbove, .long t_endBelow, .long o_t_speedAbove, .long o_t_speedBelow, .int t_spans, .ref t_spanLow_h, .ref t_spanHigh_h, .ref t_spanAt_h, .int t_found, .ref t_numbers_h, .int t_pairs, .ref t_pair_h, .ref t_most_h, .int t_rows, .ref t_row_h, .int t_notes, .ref t_under_h, .ref t_agreed_h]))] A) (cc := cX10_speeds) (maxL := 12) (ret := none) RX10 (by decide +kernel) rfl rfl (Nat.le_of_ble_eq_true rfl) ?_
  intro p e s m args below meth c A ls Q hQ hx hb hr hts hown hlocks hml hN hK hP hD hS hA hl
  have hl : lv_has ls 12 [(0, .ref t_h), (1, .long x1), (3, .long x3), (5, .long x5), (7, .long x7), (9, .int x9)] := hl
  have iwX10 := iwX10_speeds_X10
  have fl_137 := hts (.fieldLink RX10 137 "CloudOfficeModel" "speedAbove" "J") (by decide +kernel)
  have fl_140 := hts (.fieldLink RX10 140 "CloudOfficeModel" "speedBelow" "J") (by decide +kernel)
  have hret : ∀ (o_t_speedAbove9 : Int64) (o_t_speedBelow9 : Int64) (pc : Nat) (H : Heap) (locs : List Loc) (ls : Array Slot), decode cX10_speeds pc = .ok (.return_, 1) → some (o_t_speedAbove9, o_t_speedBelow9) = some (o_t_speedAbove, o_t_speedBelow) → va_P G vwCl [(t_h, .inr (10, [.int t_baseWay, .int t_slip, .int t_low, .int t_high, .int t_unlike, .int t_alone, .long t_above, .long t_below, .ref t_edges_h, .ref t_lean_h, .ref t_word_h, .int t_layers, .ref t_layer_h, .ref t_least_h, .int t_sights, .ref t_sight_h, .int t_shadows, .ref t_shadow_h, .long t_endAbove, .long t_endBelow, .long o_t_speedAbove9, .long o_t_speedBelow9, .int t_spans, .ref t_spanLow_h, .ref t_spanHigh_h, .ref t_spanAt_h, .int t_found, .ref t_numbers_h, .int t_pairs, .ref t_pair_h, .ref t_most_h, .int t_rows, .ref t_row_h, .int t_notes, .ref t_under_h, .ref t_agreed_h]))] H → va_D A [(t_h, .inr (10, [.int t_baseWay, .int t_slip, .int t_low, .int t_high, .int t_unlike, .int t_alone, .long t_above, .long t_below, .ref t_edges_h, .ref t_lean_h, .ref t_word_h, .int t_layers, .ref t_layer_h, .ref t_least_h, .int t_sights, .ref t_sight_h, .int t_shadows, .ref t_shadow_h, .long t_endAbove, .long t_endBelow, .long o_t_speedAbove9, .long o_t_speedBelow9, .int t_spans, .ref t_spanLow_h, .ref t_spanHigh_h, .ref t_spanAt_h, .int t_found, .ref t_numbers_h, .int t_pairs, .ref t_pair_h, .ref t_most_h, .int t_rows, .ref t_row_h, .int t_notes, .ref t_under_h, .ref t_agreed_h]))] → va_S A s.heap H locs → W p l e rmX10_speeds s m args below meth c H locs 0 0 Q (F0 m pc ls []) := by
    intro o_t_speedAbove9 o_t_speedBelow9 pc H locs ls hdg he hP hD hS
    cases he
    subst hQ
    exact rt_v hx hb hr hlocks hK hP hD hS hdg
  clear hQ
  unfold fX10_speeds at hf
  refine lv_aload_n hx hb dX10_speeds_0 rfl (lv_at hl 0 rfl) ?_
  refine lv_lload_n hx hb dX10_speeds_1 rfl (lv_at hl 1 rfl) ?_
  refine lv_lload hx hb dX10_speeds_2 (lv_at hl 4 rfl) ?_
  refine lv_lmul hx hb dX10_speeds_4 ?_
  refine lv_lload hx hb dX10_speeds_5 (lv_at hl 3 rfl) ?_
  refine lv_lload_n hx hb dX10_speeds_7 rfl (lv_at hl 2 rfl) ?_
  refine lv_lmul hx hb dX10_speeds_8 ?_
  refine lv_lsub hx hb dX10_speeds_9 ?_
  refine lv_topl (fun v1 ev1 => ?_)
  have hf := bv_at ev1 hf
  refine va_put (D := G) (ci := 10) (v := .long v1) (ty := .long) (C := RX10) (T := TX10) (N := 36) hx hb hts iwX10 tyX10 tyX10_ok nmX10 hown hK hP hD hS 0 rfl rfl 20 (by decide) fl_137 (fun _ h9 => h9) rfl (by decide +kernel) rfl rfl (Nat.le_of_ble_eq_true rfl) dX10_speeds_10 (fun H locs hP hD hS => ?_)
  have hP : va_P G vwCl [(t_h, .inr (10, [.int t_baseWay, .int t_slip, .int t_low, .int t_high, .int t_unlike, .int t_alone, .long t_above, .long t_below, .ref t_edges_h, .ref t_lean_h, .ref t_word_h, .int t_layers, .ref t_layer_h, .ref t_least_h, .int t_sights, .ref t_sight_h, .int t_shadows, .ref t_shadow_h, .long t_endAbove, .long t_endBelow, .long v1, .long t_speedBelow, .int t_spans, .ref t_spanLow_h, .ref t_spanHigh_h, .ref t_spanAt_h, .int t_found, .ref t_numbers_h, .int t_pairs, .ref t_pair_h, .ref t_most_h, .int t_rows, .ref t_row_h, .int t_notes, .ref t_under_h, .ref t_agreed_h]))] H := hP
  have hD : va_D A [(t_h, .inr (10, [.int t_baseWay, .int t_slip, .int t_low, .int t_high, .int t_unlike, .int t_alone, .long t_above, .long t_below, .ref t_edges_h, .ref t_lean_h, .ref t_word_h, .int t_layers, .ref t_layer_h, .ref t_least_h, .int t_sights, .ref t_sight_h, .int t_shadows, .ref t_shadow_h, .long t_endAbove, .long t_endBelow, .long v1, .long t_speedBelow, .int t_spans, .ref t_spanLow_h, .ref t_spanHigh_h, .ref t_spanAt_h, .int t_found, .ref t_numbers_h, .int t_pairs, .ref t_pair_h, .ref t_most_h, .int t_rows, .ref t_row_h, .int t_notes, .ref t_under_h, .ref t_agreed_h]))] := hD
  refine lv_aload_n hx hb dX10_speeds_13 rfl (lv_at hl 0 rfl) ?_
  refine lv_lload_n hx hb dX10_speeds_14 rfl (lv_at hl 2 rfl) ?_
  refine lv_lload hx hb dX10_speeds_15 (lv_at hl 4 rfl) ?_
  refine lv_lmul hx hb dX10_speeds_17 ?_
  refine lv_iload hx hb dX10_speeds_18 (lv_at hl 5 rfl) ?_
  refine lv_i2l (v := Int32.toInt64 x9) hx hb dX10_speeds_20 rfl ?_
  refine lv_lmul hx hb dX10_speeds_21 ?_
  refine lv_topl (fun v2 ev2 => ?_)
  have hf := bv_at ev2 hf
  refine va_put (D := G) (ci := 10) (v := .long v2) (ty := .long) (C := RX10) (T := TX10) (N := 36) hx hb hts iwX10 tyX10 tyX10_ok nmX10 hown hK hP hD hS 0 rfl rfl 21 (by decide) fl_140 (fun _ h9 => h9) rfl (by decide +kernel) rfl rfl (Nat.le_of_ble_eq_true rfl) dX10_speeds_22 (fun H locs hP hD hS => ?_)
  have hP : va_P G vwCl [(t_h, .inr (10, [.int t_baseWay, .int t_slip, .int t_low, .int t_high, .int t_unlike, .int t_alone, .long t_above, .long t_below, .ref t_edges_h, .ref t_lean_h, .ref t_word_h, .int t_layers, .ref t_layer_h, .ref t_least_h, .int t_sights, .ref t_sight_h, .int t_shadows, .ref t_shadow_h, .long t_endAbove, .long t_endBelow, .long v1, .long v2, .int t_spans, .ref t_spanLow_h, .ref t_spanHigh_h, .ref t_spanAt_h, .int t_found, .ref t_numbers_h, .int t_pairs, .ref t_pair_h, .ref t_most_h, .int t_rows, .ref t_row_h, .int t_notes, .ref t_under_h, .ref t_agreed_h]))] H := hP
  have hD : va_D A [(t_h, .inr (10, [.int t_baseWay, .int t_slip, .int t_low, .int t_high, .int t_unlike, .int t_alone, .long t_above, .long t_below, .ref t_edges_h, .ref t_lean_h, .ref t_word_h, .int t_layers, .ref t_layer_h, .ref t_least_h, .int t_sights, .ref t_sight_h, .int t_shadows, .ref t_shadow_h, .long t_endAbove, .long t_endBelow, .long v1, .long v2, .int t_spans, .ref t_spanLow_h, .ref t_spanHigh_h, .ref t_spanAt_h, .int t_found, .ref t_numbers_h, .int t_pairs, .ref t_pair_h, .ref t_most_h, .int t_rows, .ref t_row_h, .int t_notes, .ref t_under_h, .ref t_agreed_h]))] := hD
  refine lv_aload_n hx hb dX10_speeds_25 rfl (lv_at hl 0 rfl) ?_
  refine va_get (D := G) (ci := 10) (v := .long v1) (C := RX10) (T := TX10) (N := 36) hx hb hts iwX10 hown hK hP 0 rfl rfl 20 (by decide) fl_137 (fun _ h9 => h9) rfl dX10_speeds_26 ?_
  refine lv_aload_n hx hb dX10_speeds_29 rfl (lv_at hl 0 rfl) ?_
  refine va_get (D := G) (ci := 10) (v := .long v2) (C := RX10) (T := TX10) (N := 36) hx hb hts iwX10 hown hK hP 0 rfl rfl 21 (by decide) fl_140 (fun _ h9 => h9) rfl dX10_speeds_30 ?_
  obtain ⟨r3, hc4, hf⟩ := ob_some hf
  refine af_lR (va_runS (As := [.long v1, .long v2]) (rest := []) ⟨hx, hb, hml, hown, hts⟩ (k_X10_divisor l G cI cJ (x0 := v1) (x2 := v2) (sz := _) (hf := hc4)) (va_cwS 2 hts gX10_speeds_X10_divisor rfl rfl rfl (by decide +kernel) ⟨Nat.le_of_ble_eq_true rfl, Nat.le_of_ble_eq_true rfl⟩) (preS0 (wc := []) hK hP hD hN [] rfl rfl (by decide)) rfl rfl hl.1 rfl (lv_room (Nat.le_of_ble_eq_true rfl)) dX10_speeds_33 ⟨Nat.zero_le _, Nat.zero_le _⟩) hP hD hS hA [] rfl (fun H locs hP hS => ?_)
  refine lv_lstore (lv' := [(10, .long r3), (0, .ref t_h), (1, .long x1), (3, .long x3), (5, .long x5), (7, .long x7), (9, .int x9)]) hx hb dX10_speeds_36 hl (by decide) rfl (fun ls hl => ?_)
  refine lv_aload_n hx hb dX10_speeds_38 rfl (lv_at hl 1 rfl) ?_
  refine lv_dup hx hb dX10_speeds_39 rfl ?_
  refine va_get (D := G) (ci := 10) (v := .long v1) (C := RX10) (T := TX10) (N := 36) hx hb hts iwX10 hown hK hP 0 rfl rfl 20 (by decide) fl_137 (fun _ h9 => h9) rfl dX10_speeds_40 ?_
  refine lv_lload hx hb dX10_speeds_43 (lv_at hl 0 rfl) ?_
  obtain ⟨h5, hf⟩ := gd_some hf
  refine lv_ldiv hx hb dX10_speeds_45 (of_decide_eq_true h5) ?_
  refine lv_topl (fun v6 ev6 => ?_)
  have hf := bv_at ev6 hf
  refine va_put (D := G) (ci := 10) (v := .long v6) (ty := .long) (C := RX10) (T := TX10) (N := 36) hx hb hts iwX10 tyX10 tyX10_ok nmX10 hown hK hP hD hS 0 rfl rfl 20 (by decide) fl_137 (fun _ h9 => h9) rfl (by decide +kernel) rfl rfl (Nat.le_of_ble_eq_true rfl) dX10_speeds_46 (fun H locs hP hD hS => ?_)
  have hP : va_P G vwCl [(t_h, .inr (10, [.int t_baseWay, .int t_slip, .int t_low, .int t_high, .int t_unlike, .int t_alone, .long t_above, .long t_below, .ref t_edges_h, .ref t_lean_h, .ref t_word_h, .int t_layers, .ref t_layer_h, .ref t_least_h, .int t_sights, .ref t_sight_h, .int t_shadows, .ref t_shadow_h, .long t_endAbove, .long t_endBelow, .long v6, .long v2, .int t_spans, .ref t_spanLow_h, .ref t_spanHigh_h, .ref t_spanAt_h, .int t_found, .ref t_numbers_h, .int t_pairs, .ref t_pair_h, .ref t_most_h, .int t_rows, .ref t_row_h, .int t_notes, .ref t_under_h, .ref t_agreed_h]))] H := hP
  have hD : va_D A [(t_h, .inr (10, [.int t_baseWay, .int t_slip, .int t_low, .int t_high, .int t_unlike, .int t_alone, .long t_above, .long t_below, .ref t_edges_h, .ref t_lean_h, .ref t_word_h, .int t_layers, .ref t_layer_h, .ref t_least_h, .int t_sights, .ref t_sight_h, .int t_shadows, .ref t_shadow_h, .long t_endAbove, .long t_endBelow, .long v6, .long v2, .int t_spans, .ref t_spanLow_h, .ref t_spanHigh_h, .ref t_spanAt_h, .int t_found, .ref t_numbers_h, .int t_pairs, .ref t_pair_h, .ref t_most_h, .int t_rows, .ref t_row_h, .int t_notes, .ref t_under_h, .ref t_agreed_h]))] := hD
  refine lv_aload_n hx hb dX10_speeds_49 rfl (lv_at hl 1 rfl) ?_
  refine lv_dup hx hb dX10_speeds_50 rfl ?_
  refine va_get (D := G) (ci := 10) (v := .long v2) (C := RX10) (T := TX10) (N := 36) hx hb hts iwX10 hown hK hP 0 rfl rfl 21 (by decide) fl_140 (fun _ h9 => h9) rfl dX10_speeds_51 ?_
  refine lv_lload hx hb dX10_speeds_54 (lv_at hl 0 rfl) ?_
  obtain ⟨h7, hf⟩ := gd_some hf
  refine lv_ldiv hx hb dX10_speeds_56 (of_decide_eq_true h7) ?_
  refine lv_topl (fun v8 ev8 => ?_)
  have hf := bv_at ev8 hf
  refine va_put (D := G) (ci := 10) (v := .long v8) (ty := .long) (C := RX10) (T := TX10) (N := 36) hx hb hts iwX10 tyX10 tyX10_ok nmX10 hown hK hP hD hS 0 rfl rfl 21 (by decide) fl_140 (fun _ h9 => h9) rfl (by decide +kernel) rfl rfl (Nat.le_of_ble_eq_true rfl) dX10_speeds_57 (fun H locs hP hD hS => ?_)
  have hP : va_P G vwCl [(t_h, .inr (10, [.int t_baseWay, .int t_slip, .int t_low, .int t_high, .int t_unlike, .int t_alone, .long t_above, .long t_below, .ref t_edges_h, .ref t_lean_h, .ref t_word_h, .int t_layers, .ref t_layer_h, .ref t_least_h, .int t_sights, .ref t_sight_h, .int t_shadows, .ref t_shadow_h, .long t_endAbove, .long t_endBelow, .long v6, .long v8, .int t_spans, .ref t_spanLow_h, .ref t_spanHigh_h, .ref t_spanAt_h, .int t_found, .ref t_numbers_h, .int t_pairs, .ref t_pair_h, .ref t_most_h, .int t_rows, .ref t_row_h, .int t_notes, .ref t_under_h, .ref t_agreed_h]))] H := hP
  have hD : va_D A [(t_h, .inr (10, [.int t_baseWay, .int t_slip, .int t_low, .int t_high, .int t_unlike, .int t_alone, .long t_above, .long t_below, .ref t_edges_h, .ref t_lean_h, .ref t_word_h, .int t_layers, .ref t_layer_h, .ref t_least_h, .int t_sights, .ref t_sight_h, .int t_shadows, .ref t_shadow_h, .long t_endAbove, .long t_endBelow, .long v6, .long v8, .int t_spans, .ref t_spanLow_h, .ref t_spanHigh_h, .ref t_spanAt_h, .int t_found, .ref t_numbers_h, .int t_pairs, .ref t_pair_h, .ref t_most_h, .int t_rows, .ref t_row_h, .int t_notes, .ref t_under_h, .ref t_agreed_h]))] := hD
  exact hret v6 v8 60 _ _ _ dX10_speeds_60 hf hP hD hS
set_option maxRecDepth 20000 in
theorem ggX10_findSpeed_X10_speeds : GoodIn wsX10_findSpeed wsX10_speeds := goodIn_r _ [9, 10, 11, 12, 13, 8, 14, 22, 23, 24, 25, 26, 27, 28, 29, 30, 31, 32, 33, 34, 35, 36, 37, 38, 39, 40, 41, 42, 43, 44, 45, 46, 47, 48, 49, 50, 51, 52, 53, 54, 55, 56, 57] (by decide +kernel) (by decide +kernel)
set_option maxRecDepth 20000 in
theorem gX10_findSpeed_X10_speeds : GoodIn wsX10_findSpeed (wsV RX10 143 RX10 yX10_speeds wsX10_speeds) := goodIn_app (goodIn_of _ (by decide +kernel)) ggX10_findSpeed_X10_speeds
set_option maxRecDepth 20000 in
theorem ggX10_findSpeed_X10_findEnd : GoodIn wsX10_findSpeed wsX10_findEnd := goodIn_r _ [18, 1, 19, 4, 2, 20, 21, 3, 22, 23, 24, 25, 26, 27, 28, 29, 30, 31, 32, 33, 34, 35, 36, 37, 38, 39, 40, 41, 42, 43, 44, 45, 46, 47, 48, 49, 50, 51, 52, 53, 54, 55, 56, 57] (by decide +kernel) (by decide +kernel)
set_option maxRecDepth 20000 in
theorem gX10_findSpeed_X10_findEnd : GoodIn wsX10_findSpeed (wsV RX10 147 RX10 yX10_findEnd wsX10_findEnd) := goodIn_app (goodIn_of _ (by decide +kernel)) ggX10_findSpeed_X10_findEnd
theorem dX10_findSpeed_0 : decode cX10_findSpeed 0 = .ok (.aload_n 0, 1) := by decide +kernel
theorem dX10_findSpeed_1 : decode cX10_findSpeed 1 = .ok (.getfield 25, 3) := by decide +kernel
theorem dX10_findSpeed_4 : decode cX10_findSpeed 4 = .ok (.iconst 4, 1) := by decide +kernel
theorem dX10_findSpeed_5 : decode cX10_findSpeed 5 = .ok (.iload_n 1, 1) := by decide +kernel
theorem dX10_findSpeed_6 : decode cX10_findSpeed 6 = .ok (.imul, 1) := by decide +kernel
theorem dX10_findSpeed_7 : decode cX10_findSpeed 7 = .ok (.iconst 1, 1) := by decide +kernel
theorem dX10_findSpeed_8 : decode cX10_findSpeed 8 = .ok (.iadd, 1) := by decide +kernel
theorem dX10_findSpeed_9 : decode cX10_findSpeed 9 = .ok (.iaload, 1) := by decide +kernel
theorem dX10_findSpeed_10 : decode cX10_findSpeed 10 = .ok (.aload_n 0, 1) := by decide +kernel
theorem dX10_findSpeed_11 : decode cX10_findSpeed 11 = .ok (.getfield 25, 3) := by decide +kernel
theorem dX10_findSpeed_14 : decode cX10_findSpeed 14 = .ok (.iconst 4, 1) := by decide +kernel
theorem dX10_findSpeed_15 : decode cX10_findSpeed 15 = .ok (.iload_n 2, 1) := by decide +kernel
theorem dX10_findSpeed_16 : decode cX10_findSpeed 16 = .ok (.imul, 1) := by decide +kernel
theorem dX10_findSpeed_17 : decode cX10_findSpeed 17 = .ok (.iconst 1, 1) := by decide +kernel
theorem dX10_findSpeed_18 : decode cX10_findSpeed 18 = .ok (.iadd, 1) := by decide +kernel
theorem dX10_findSpeed_19 : decode cX10_findSpeed 19 = .ok (.iaload, 1) := by decide +kernel
theorem dX10_findSpeed_20 : decode cX10_findSpeed 20 = .ok (.if_icmp .le 7, 3) := by decide +kernel
theorem dX10_findSpeed_23 : decode cX10_findSpeed 23 = .ok (.iload_n 1, 1) := by decide +kernel
theorem dX10_findSpeed_24 : decode cX10_findSpeed 24 = .ok (.goto 4, 3) := by decide +kernel
theorem dX10_findSpeed_27 : decode cX10_findSpeed 27 = .ok (.iload_n 2, 1) := by decide +kernel
theorem dX10_findSpeed_28 : decode cX10_findSpeed 28 = .ok (.istore 4, 2) := by decide +kernel
theorem dX10_findSpeed_30 : decode cX10_findSpeed 30 = .ok (.iload 4, 2) := by decide +kernel
theorem dX10_findSpeed_32 : decode cX10_findSpeed 32 = .ok (.iload_n 1, 1) := by decide +kernel
theorem dX10_findSpeed_33 : decode cX10_findSpeed 33 = .ok (.if_icmp .ne 7, 3) := by decide +kernel
theorem dX10_findSpeed_36 : decode cX10_findSpeed 36 = .ok (.iload_n 2, 1) := by decide +kernel
theorem dX10_findSpeed_37 : decode cX10_findSpeed 37 = .ok (.goto 4, 3) := by decide +kernel
theorem dX10_findSpeed_40 : decode cX10_findSpeed 40 = .ok (.iload_n 1, 1) := by decide +kernel
theorem dX10_findSpeed_41 : decode cX10_findSpeed 41 = .ok (.istore 5, 2) := by decide +kernel
theorem dX10_findSpeed_43 : decode cX10_findSpeed 43 = .ok (.aload_n 0, 1) := by decide +kernel
theorem dX10_findSpeed_44 : decode cX10_findSpeed 44 = .ok (.getfield 25, 3) := by decide +kernel
theorem dX10_findSpeed_47 : decode cX10_findSpeed 47 = .ok (.iconst 4, 1) := by decide +kernel
theorem dX10_findSpeed_48 : decode cX10_findSpeed 48 = .ok (.iload 4, 2) := by decide +kernel
theorem dX10_findSpeed_50 : decode cX10_findSpeed 50 = .ok (.imul, 1) := by decide +kernel
theorem dX10_findSpeed_51 : decode cX10_findSpeed 51 = .ok (.iconst 1, 1) := by decide +kernel
theorem dX10_findSpeed_52 : decode cX10_findSpeed 52 = .ok (.iadd, 1) := by decide +kernel
theorem dX10_findSpeed_53 : decode cX10_findSpeed 53 = .ok (.iaload, 1) := by decide +kernel
theorem dX10_findSpeed_54 : decode cX10_findSpeed 54 = .ok (.aload_n 0, 1) := by decide +kernel
theorem dX10_findSpeed_55 : decode cX10_findSpeed 55 = .ok (.getfield 25, 3) := by decide +kernel
theorem dX10_findSpeed_58 : decode cX10_findSpeed 58 = .ok (.iconst 4, 1) := by decide +kernel
theorem dX10_findSpeed_59 : decode cX10_findSpeed 59 = .ok (.iload 5, 2) := by decide +kernel
theorem dX10_findSpeed_61 : decode cX10_findSpeed 61 = .ok (.imul, 1) := by decide +kernel
theorem dX10_findSpeed_62 : decode cX10_findSpeed 62 = .ok (.iconst 1, 1) := by decide +kernel
theorem dX10_findSpeed_63 : decode cX10_findSpeed 63 = .ok (.iadd, 1) := by decide +kernel
theorem dX10_findSpeed_64 : decode cX10_findSpeed 64 = .ok (.iaload, 1) := by decide +kernel
theorem dX10_findSpeed_65 : decode cX10_findSpeed 65 = .ok (.isub, 1) := by decide +kernel
theorem dX10_findSpeed_66 : decode cX10_findSpeed 66 = .ok (.istore 6, 2) := by decide +kernel
theorem dX10_findSpeed_68 : decode cX10_findSpeed 68 = .ok (.iload_n 3, 1) := by decide +kernel
theorem dX10_findSpeed_69 : decode cX10_findSpeed 69 = .ok (.ifCond .ne 115, 3) := by decide +kernel
theorem dX10_findSpeed_72 : decode cX10_findSpeed 72 = .ok (.aload_n 0, 1) := by decide +kernel
theorem dX10_findSpeed_73 : decode cX10_findSpeed 73 = .ok (.getfield 25, 3) := by decide +kernel
theorem dX10_findSpeed_76 : decode cX10_findSpeed 76 = .ok (.iconst 4, 1) := by decide +kernel
theorem dX10_findSpeed_77 : decode cX10_findSpeed 77 = .ok (.iload 4, 2) := by decide +kernel
theorem dX10_findSpeed_79 : decode cX10_findSpeed 79 = .ok (.imul, 1) := by decide +kernel
theorem dX10_findSpeed_80 : decode cX10_findSpeed 80 = .ok (.iconst 2, 1) := by decide +kernel
theorem dX10_findSpeed_81 : decode cX10_findSpeed 81 = .ok (.iadd, 1) := by decide +kernel
theorem dX10_findSpeed_82 : decode cX10_findSpeed 82 = .ok (.iaload, 1) := by decide +kernel
theorem dX10_findSpeed_83 : decode cX10_findSpeed 83 = .ok (.aload_n 0, 1) := by decide +kernel
theorem dX10_findSpeed_84 : decode cX10_findSpeed 84 = .ok (.getfield 25, 3) := by decide +kernel
theorem dX10_findSpeed_87 : decode cX10_findSpeed 87 = .ok (.iconst 4, 1) := by decide +kernel
theorem dX10_findSpeed_88 : decode cX10_findSpeed 88 = .ok (.iload 4, 2) := by decide +kernel
theorem dX10_findSpeed_90 : decode cX10_findSpeed 90 = .ok (.imul, 1) := by decide +kernel
theorem dX10_findSpeed_91 : decode cX10_findSpeed 91 = .ok (.iconst 3, 1) := by decide +kernel
theorem dX10_findSpeed_92 : decode cX10_findSpeed 92 = .ok (.iadd, 1) := by decide +kernel
theorem dX10_findSpeed_93 : decode cX10_findSpeed 93 = .ok (.iaload, 1) := by decide +kernel
theorem dX10_findSpeed_94 : decode cX10_findSpeed 94 = .ok (.isub, 1) := by decide +kernel
theorem dX10_findSpeed_95 : decode cX10_findSpeed 95 = .ok (.istore 7, 2) := by decide +kernel
theorem dX10_findSpeed_97 : decode cX10_findSpeed 97 = .ok (.aload_n 0, 1) := by decide +kernel
theorem dX10_findSpeed_98 : decode cX10_findSpeed 98 = .ok (.getfield 25, 3) := by decide +kernel
theorem dX10_findSpeed_101 : decode cX10_findSpeed 101 = .ok (.iconst 4, 1) := by decide +kernel
theorem dX10_findSpeed_102 : decode cX10_findSpeed 102 = .ok (.iload 5, 2) := by decide +kernel
theorem dX10_findSpeed_104 : decode cX10_findSpeed 104 = .ok (.imul, 1) := by decide +kernel
theorem dX10_findSpeed_105 : decode cX10_findSpeed 105 = .ok (.iconst 2, 1) := by decide +kernel
theorem dX10_findSpeed_106 : decode cX10_findSpeed 106 = .ok (.iadd, 1) := by decide +kernel
theorem dX10_findSpeed_107 : decode cX10_findSpeed 107 = .ok (.iaload, 1) := by decide +kernel
theorem dX10_findSpeed_108 : decode cX10_findSpeed 108 = .ok (.aload_n 0, 1) := by decide +kernel
theorem dX10_findSpeed_109 : decode cX10_findSpeed 109 = .ok (.getfield 25, 3) := by decide +kernel
theorem dX10_findSpeed_112 : decode cX10_findSpeed 112 = .ok (.iconst 4, 1) := by decide +kernel
theorem dX10_findSpeed_113 : decode cX10_findSpeed 113 = .ok (.iload 5, 2) := by decide +kernel
theorem dX10_findSpeed_115 : decode cX10_findSpeed 115 = .ok (.imul, 1) := by decide +kernel
theorem dX10_findSpeed_116 : decode cX10_findSpeed 116 = .ok (.iconst 3, 1) := by decide +kernel
theorem dX10_findSpeed_117 : decode cX10_findSpeed 117 = .ok (.iadd, 1) := by decide +kernel
theorem dX10_findSpeed_118 : decode cX10_findSpeed 118 = .ok (.iaload, 1) := by decide +kernel
theorem dX10_findSpeed_119 : decode cX10_findSpeed 119 = .ok (.isub, 1) := by decide +kernel
theorem dX10_findSpeed_120 : decode cX10_findSpeed 120 = .ok (.istore 8, 2) := by decide +kernel
theorem dX10_findSpeed_122 : decode cX10_findSpeed 122 = .ok (.iload 7, 2) := by decide +kernel
theorem dX10_findSpeed_124 : decode cX10_findSpeed 124 = .ok (.ifCond .le 8, 3) := by decide +kernel
theorem dX10_findSpeed_127 : decode cX10_findSpeed 127 = .ok (.iload 8, 2) := by decide +kernel
theorem dX10_findSpeed_129 : decode cX10_findSpeed 129 = .ok (.ifCond .gt 5, 3) := by decide +kernel
theorem dX10_findSpeed_132 : decode cX10_findSpeed 132 = .ok (.iconst 0, 1) := by decide +kernel
theorem dX10_findSpeed_133 : decode cX10_findSpeed 133 = .ok (.ireturn, 1) := by decide +kernel
theorem dX10_findSpeed_134 : decode cX10_findSpeed 134 = .ok (.aload_n 0, 1) := by decide +kernel
theorem dX10_findSpeed_135 : decode cX10_findSpeed 135 = .ok (.aload_n 0, 1) := by decide +kernel
theorem dX10_findSpeed_136 : decode cX10_findSpeed 136 = .ok (.getfield 58, 3) := by decide +kernel
theorem dX10_findSpeed_139 : decode cX10_findSpeed 139 = .ok (.i2l, 1) := by decide +kernel
theorem dX10_findSpeed_140 : decode cX10_findSpeed 140 = .ok (.aload_n 0, 1) := by decide +kernel
theorem dX10_findSpeed_141 : decode cX10_findSpeed 141 = .ok (.getfield 25, 3) := by decide +kernel
theorem dX10_findSpeed_144 : decode cX10_findSpeed 144 = .ok (.iconst 4, 1) := by decide +kernel
theorem dX10_findSpeed_145 : decode cX10_findSpeed 145 = .ok (.iload 4, 2) := by decide +kernel
theorem dX10_findSpeed_147 : decode cX10_findSpeed 147 = .ok (.imul, 1) := by decide +kernel
theorem dX10_findSpeed_148 : decode cX10_findSpeed 148 = .ok (.iconst 2, 1) := by decide +kernel
theorem dX10_findSpeed_149 : decode cX10_findSpeed 149 = .ok (.iadd, 1) := by decide +kernel
theorem dX10_findSpeed_150 : decode cX10_findSpeed 150 = .ok (.iaload, 1) := by decide +kernel
theorem dX10_findSpeed_151 : decode cX10_findSpeed 151 = .ok (.i2l, 1) := by decide +kernel
theorem dX10_findSpeed_152 : decode cX10_findSpeed 152 = .ok (.lmul, 1) := by decide +kernel
theorem dX10_findSpeed_153 : decode cX10_findSpeed 153 = .ok (.iload 7, 2) := by decide +kernel
theorem dX10_findSpeed_155 : decode cX10_findSpeed 155 = .ok (.i2l, 1) := by decide +kernel
theorem dX10_findSpeed_156 : decode cX10_findSpeed 156 = .ok (.aload_n 0, 1) := by decide +kernel
theorem dX10_findSpeed_157 : decode cX10_findSpeed 157 = .ok (.getfield 58, 3) := by decide +kernel
theorem dX10_findSpeed_160 : decode cX10_findSpeed 160 = .ok (.i2l, 1) := by decide +kernel
theorem dX10_findSpeed_161 : decode cX10_findSpeed 161 = .ok (.aload_n 0, 1) := by decide +kernel
theorem dX10_findSpeed_162 : decode cX10_findSpeed 162 = .ok (.getfield 25, 3) := by decide +kernel
theorem dX10_findSpeed_165 : decode cX10_findSpeed 165 = .ok (.iconst 4, 1) := by decide +kernel
theorem dX10_findSpeed_166 : decode cX10_findSpeed 166 = .ok (.iload 5, 2) := by decide +kernel
theorem dX10_findSpeed_168 : decode cX10_findSpeed 168 = .ok (.imul, 1) := by decide +kernel
theorem dX10_findSpeed_169 : decode cX10_findSpeed 169 = .ok (.iconst 2, 1) := by decide +kernel
theorem dX10_findSpeed_170 : decode cX10_findSpeed 170 = .ok (.iadd, 1) := by decide +kernel
theorem dX10_findSpeed_171 : decode cX10_findSpeed 171 = .ok (.iaload, 1) := by decide +kernel
theorem dX10_findSpeed_172 : decode cX10_findSpeed 172 = .ok (.i2l, 1) := by decide +kernel
theorem dX10_findSpeed_173 : decode cX10_findSpeed 173 = .ok (.lmul, 1) := by decide +kernel
theorem dX10_findSpeed_174 : decode cX10_findSpeed 174 = .ok (.iload 8, 2) := by decide +kernel
theorem dX10_findSpeed_176 : decode cX10_findSpeed 176 = .ok (.i2l, 1) := by decide +kernel
theorem dX10_findSpeed_177 : decode cX10_findSpeed 177 = .ok (.iload 6, 2) := by decide +kernel
theorem dX10_findSpeed_179 : decode cX10_findSpeed 179 = .ok (.invokevirtual 143, 3) := by decide +kernel
theorem dX10_findSpeed_182 : decode cX10_findSpeed 182 = .ok (.iconst 1, 1) := by decide +kernel
theorem dX10_findSpeed_183 : decode cX10_findSpeed 183 = .ok (.ireturn, 1) := by decide +kernel
theorem dX10_findSpeed_184 : decode cX10_findSpeed 184 = .ok (.aload_n 0, 1) := by decide +kernel
theorem dX10_findSpeed_185 : decode cX10_findSpeed 185 = .ok (.iload 4, 2) := by decide +kernel
theorem dX10_findSpeed_187 : decode cX10_findSpeed 187 = .ok (.iload_n 3, 1) := by decide +kernel
theorem dX10_findSpeed_188 : decode cX10_findSpeed 188 = .ok (.iconst 2, 1) := by decide +kernel
theorem dX10_findSpeed_189 : decode cX10_findSpeed 189 = .ok (.if_icmp .ne 7, 3) := by decide +kernel
theorem dX10_findSpeed_192 : decode cX10_findSpeed 192 = .ok (.iconst 1, 1) := by decide +kernel
theorem dX10_findSpeed_193 : decode cX10_findSpeed 193 = .ok (.goto 4, 3) := by decide +kernel
theorem dX10_findSpeed_196 : decode cX10_findSpeed 196 = .ok (.iconst 0, 1) := by decide +kernel
theorem dX10_findSpeed_197 : decode cX10_findSpeed 197 = .ok (.invokevirtual 147, 3) := by decide +kernel
theorem dX10_findSpeed_200 : decode cX10_findSpeed 200 = .ok (.ifCond .ne 5, 3) := by decide +kernel
theorem dX10_findSpeed_203 : decode cX10_findSpeed 203 = .ok (.iconst 0, 1) := by decide +kernel
theorem dX10_findSpeed_204 : decode cX10_findSpeed 204 = .ok (.ireturn, 1) := by decide +kernel
theorem dX10_findSpeed_205 : decode cX10_findSpeed 205 = .ok (.aload_n 0, 1) := by decide +kernel
theorem dX10_findSpeed_206 : decode cX10_findSpeed 206 = .ok (.getfield 134, 3) := by decide +kernel
theorem dX10_findSpeed_209 : decode cX10_findSpeed 209 = .ok (.lstore 7, 2) := by decide +kernel
theorem dX10_findSpeed_211 : decode cX10_findSpeed 211 = .ok (.aload_n 0, 1) := by decide +kernel
theorem dX10_findSpeed_212 : decode cX10_findSpeed 212 = .ok (.getfield 127, 3) := by decide +kernel
theorem dX10_findSpeed_215 : decode cX10_findSpeed 215 = .ok (.lstore 9, 2) := by decide +kernel
theorem dX10_findSpeed_217 : decode cX10_findSpeed 217 = .ok (.aload_n 0, 1) := by decide +kernel
theorem dX10_findSpeed_218 : decode cX10_findSpeed 218 = .ok (.iload 5, 2) := by decide +kernel
theorem dX10_findSpeed_220 : decode cX10_findSpeed 220 = .ok (.iload_n 3, 1) := by decide +kernel
theorem dX10_findSpeed_221 : decode cX10_findSpeed 221 = .ok (.iconst 1, 1) := by decide +kernel
theorem dX10_findSpeed_222 : decode cX10_findSpeed 222 = .ok (.if_icmp .ne 7, 3) := by decide +kernel
theorem dX10_findSpeed_225 : decode cX10_findSpeed 225 = .ok (.iconst 1, 1) := by decide +kernel
theorem dX10_findSpeed_226 : decode cX10_findSpeed 226 = .ok (.goto 4, 3) := by decide +kernel
theorem dX10_findSpeed_229 : decode cX10_findSpeed 229 = .ok (.iconst 0, 1) := by decide +kernel
theorem dX10_findSpeed_230 : decode cX10_findSpeed 230 = .ok (.invokevirtual 147, 3) := by decide +kernel
theorem dX10_findSpeed_233 : decode cX10_findSpeed 233 = .ok (.ifCond .ne 5, 3) := by decide +kernel
theorem dX10_findSpeed_236 : decode cX10_findSpeed 236 = .ok (.iconst 0, 1) := by decide +kernel
theorem dX10_findSpeed_237 : decode cX10_findSpeed 237 = .ok (.ireturn, 1) := by decide +kernel
theorem dX10_findSpeed_238 : decode cX10_findSpeed 238 = .ok (.aload_n 0, 1) := by decide +kernel
theorem dX10_findSpeed_239 : decode cX10_findSpeed 239 = .ok (.lload 7, 2) := by decide +kernel
theorem dX10_findSpeed_241 : decode cX10_findSpeed 241 = .ok (.lload 9, 2) := by decide +kernel
theorem dX10_findSpeed_243 : decode cX10_findSpeed 243 = .ok (.aload_n 0, 1) := by decide +kernel
theorem dX10_findSpeed_244 : decode cX10_findSpeed 244 = .ok (.getfield 134, 3) := by decide +kernel
theorem dX10_findSpeed_247 : decode cX10_findSpeed 247 = .ok (.aload_n 0, 1) := by decide +kernel
theorem dX10_findSpeed_248 : decode cX10_findSpeed 248 = .ok (.getfield 127, 3) := by decide +kernel
theorem dX10_findSpeed_251 : decode cX10_findSpeed 251 = .ok (.iload 6, 2) := by decide +kernel
theorem dX10_findSpeed_253 : decode cX10_findSpeed 253 = .ok (.invokevirtual 143, 3) := by decide +kernel
theorem dX10_findSpeed_256 : decode cX10_findSpeed 256 = .ok (.iconst 1, 1) := by decide +kernel
theorem dX10_findSpeed_257 : decode cX10_findSpeed 257 = .ok (.ireturn, 1) := by decide +kernel
set_option maxRecDepth 100000 in
def fX10_findSpeed (x1 : Int32) (x2 : Int32) (x3 : Int32) (t_baseWay : Int32) (t_slip : Int32) (t_endAbove : Int64) (t_endBelow : Int64) (t_speedAbove : Int64) (t_speedBelow : Int64) (t_sight_a : Nat → Int32) : Option (Bool × Int64 × Int64 × Int64 × Int64) :=
  gd (bnd ((4 * x1) + 1) 160) <|
  gd (bnd ((4 * x2) + 1) 160) <|
  ob (α := Int32) (
      if (t_sight_a (Int32.toNatClampNeg ((4 * x1) + 1))) ≤ (t_sight_a (Int32.toNatClampNeg ((4 * x2) + 1))) then
        some x2
      else
        some x1
    ) fun m3 =>
  ob (α := Int32) (
      if m3 = x1 then
        some x2
      else
        some x1
    ) fun m7 =>
  gd (bnd ((4 * m3) + 1) 160) <|
  gd (bnd ((4 * m7) + 1) 160) <|
  bv ((t_sight_a (Int32.toNatClampNeg ((4 * m3) + 1))) - (t_sight_a (Int32.toNatClampNeg ((4 * m7) + 1)))) fun v13 =>
  if x3 = 0 then
    gd (bnd ((4 * m3) + 2) 160) <|
    gd (bnd ((4 * m3) + 3) 160) <|
    bv ((t_sight_a (Int32.toNatClampNeg ((4 * m3) + 2))) - (t_sight_a (Int32.toNatClampNeg ((4 * m3) + 3)))) fun v38 =>
    gd (bnd ((4 * m7) + 2) 160) <|
    gd (bnd ((4 * m7) + 3) 160) <|
    bv ((t_sight_a (Int32.toNatClampNeg ((4 * m7) + 2))) - (t_sight_a (Int32.toNatClampNeg ((4 * m7) + 3)))) fun v41 =>
    if v38 ≤ 0 then
      some (false, t_endAbove, t_endBelow, t_speedAbove, t_speedBelow)
    else
      if 0 < v41 then
        gd (bnd ((4 * m3) + 2) 160) <|
        gd (bnd ((4 * m7) + 2) 160) <|
        ob2 (fX10_speeds ((Int32.toInt64 t_baseWay) * (Int32.toInt64 (t_sight_a (Int32.toNatClampNeg ((4 * m3) + 2))))) (Int32.toInt64 v38) ((Int32.toInt64 t_baseWay) * (Int32.toInt64 (t_sight_a (Int32.toNatClampNeg ((4 * m7) + 2))))) (Int32.toInt64 v41) v13 t_speedAbove t_speedBelow) fun w46 w47 =>
        some (true, t_endAbove, t_endBelow, w46, w47)
      else
        some (false, t_endAbove, t_endBelow, t_speedAbove, t_speedBelow)
  else
    ob (α := Int32) (
        if x3 = 2 then
          some 1
        else
          some 0
      ) fun m15 =>
    ob3 (fX10_findEnd m3 m15 t_baseWay t_slip t_endAbove t_endBelow t_sight_a) fun r19 w20 w21 =>
    if (b2i r19) = 0 then
      some (false, w20, w21, t_speedAbove, t_speedBelow)
    else
      ob (α := Int32) (
          if x3 = 1 then
            some 1
          else
            some 0
        ) fun m24 =>
      ob3 (fX10_findEnd m7 m24 t_baseWay t_slip w20 w21 t_sight_a) fun r28 w29 w30 =>
      if (b2i r28) = 0 then
        some (false, w29, w30, t_speedAbove, t_speedBelow)
      else
        ob2 (fX10_speeds w20 w21 w29 w30 v13 t_speedAbove t_speedBelow) fun w33 w34 =>
        some (true, w29, w30, w33, w34)
abbrev rmX10_findSpeed : Room := { frames := 2, cells := 0, slots := 0, locals := 60 }
theorem iwX10_findSpeed_X10 : ∀ w ∈ u_ws RX10 TX10 36, w ∈ wsX10_findSpeed := by decide +kernel
set_option maxHeartbeats 4000000 in
set_option maxRecDepth 100000 in
theorem k_X10_findSpeed (l : Launch) (G : va_G) (cI cJ : ClassId) (t_h t_edges_h t_lean_h t_word_h t_layer_h t_least_h t_sight_h t_shadow_h t_spanLow_h t_spanHigh_h t_spanAt_h t_numbers_h t_pair_h t_most_h t_row_h t_under_h t_agreed_h : Nat) (sz : Nat) (t_baseWay : Int32) (t_slip : Int32) (t_low : Int32) (t_high : Int32) (t_unlike : Int32) (t_alone : Int32) (t_above : Int64) (t_below : Int64) (t_layers : Int32) (t_sights : Int32) (t_shadows : Int32) (t_endAbove : Int64) (t_endBelow : Int64) (t_speedAbove : Int64) (t_speedBelow : Int64) (t_spans : Int32) (t_found : Int32) (t_pairs : Int32) (t_rows : Int32) (t_notes : Int32) (t_sight_a : Nat → Int32) (x1 : Int32) (x2 : Int32) (x3 : Int32) {o_r : Bool} {o_t_endAbove : Int64} {o_t_endBelow : Int64} {o_t_speedAbove : Int64} {o_t_speedBelow : Int64} (hf : fX10_findSpeed x1 x2 x3 t_baseWay t_slip t_endAbove t_endBelow t_speedAbove t_speedBelow t_sight_a = some (o_r, o_t_endAbove, o_t_endBelow, o_t_speedAbove, o_t_speedBelow)) : MetI l yX10_findSpeed wsX10_findSpeed rmX10_findSpeed [.ref t_h, .int x1, .int x2, .int x3] G cI cJ [(t_h, .inr (10, [.int t_baseWay, .int t_slip, .int t_low, .int t_high, .int t_unlike, .int t_alone, .long t_above, .long t_below, .ref t_edges_h, .ref t_lean_h, .ref t_word_h, .int t_layers, .ref t_layer_h, .ref t_least_h, .int t_sights, .ref t_sight_h, .int t_shadows, .ref t_shadow_h, .long t_endAbove, .long t_endBelow, .long t_speedAbove, .long t_speedBelow, .int t_spans, .ref t_spanLow_h, .ref t_spanHigh_h, .ref t_spanAt_h, .int t_found, .ref t_numbers_h, .int t_pairs, .ref t_pair_h, .ref t_most_h, .int t_rows, .ref t_row_h, .int t_notes, .ref t_under_h, .ref t_agreed_h])), (t_sight_h, .inl (cI, 160, .inl t_sight_a))] [(t_h, .inr (10, [.int t_baseWay, .int t_slip, .int t_low, .int t_high, .int t_unlike, .int t_alone, .long t_above, .long t_below, .ref t_edges_h, .ref t_lean_h, .ref t_word_h, .int t_layers, .ref t_layer_h, .ref t_least_h, .int t_sights, .ref t_sight_h, .int t_shadows, .ref t_shadow_h, .long o_t_endAbove, .long o_t_endBelow, .long o_t_speedAbove, .long o_t_speedBelow, .int t_spans, .ref t_spanLow_h, .ref t_spanHigh_h, .ref t_spanAt_h, .int t_found, .ref t_numbers_h, .int t_pairs, .ref t_pair_h, .ref t_most_h, .int t_rows, .ref t_row_h, .int t_notes, .ref t_under_h, .ref t_agreed_h])), (t_sight_h, .inl (cI, 160, .inl t_sight_a))] sz (b2i o_r) := by
  refine en_0 (l := l) (y := yX10_findSpeed) (wsl := wsX10_findSpeed) (rm := rmX10_findSpeed) (av := [.ref t_h, .int x1, .int x2, .int x3]) (G := G) (cI := cI) (cJ := cJ) (w0 := [(t_h, .inr (10, [.int t_baseWay, .int t_slip, .int t_low, .int t_high, .int t_unlike, .int t_alone, .long t_above, .long t_below, .ref t_edges_h, .ref t_lean_h, .ref t_word_h, .int t_layers, .ref t_layer_h, .ref t_least_h, .int t_sights, .ref t_sight_h, .int t_shadows, .ref t_shadow_h, .long t_endAbove, .long t_endBelow, .long t_speedAbove, .long t_speedBelow, .int t_spans, .ref t_spanLow_h, .ref t_spanHigh_h, .ref t_spanAt_h, .int t_found, .ref t_numbers_h, .int t_pairs, .ref t_pair_h, .ref t_most_h, .int t_rows, .ref t_row_h, .int t_notes, .ref t_under_h, .ref t_agreed_h])), (t_sight_h, .inl (cI, 160, .inl t_sight_a))]) (sz := sz) (Qf := fun A => Qi0 G cI cJ [(t_h, .inr (10, [.int t_baseWay, .int t_slip, .int t_low, .int t_high, .int t_unlike, .int t_alone, .long t_above, .long t_below, .ref t_edges_h, .ref t_lean_h, .ref t_word_h, .int t_layers, .ref t_layer_h, .ref t_least_h, .int t_sights, .ref t_sight_h, .int t_shadows, .ref t_shadow_h, .long o_t_endAbove, .long o_t_endBelow, .long o_t_speedAbove, .long o_t_speedBelow, .int t_spans, .ref t_spanLow_h, .ref t_spanHigh_h, .ref t_spanAt_h, .int t_found, .ref t_numbers_h, .int t_pairs, .ref t_pair_h, .ref t_most_h, .int t_rows, .ref t_row_h, .int t_notes, .ref t_under_h, .ref t_agreed_h])), (t_sight_h, .inl (cI, 160, .inl t_sight_a))] (b2i o_r) A) (cc := cX10_findSpeed) (maxL := 11) (ret := (some .boolean)) RX10 (by decide +kernel) rfl rfl (Nat.le_of_ble_eq_true rfl) ?_
  intro p e s m args below meth c A ls Q hQ hx hb hr hts hown hlocks hml hN hK hP hD hS hA hl
  have hl : lv_has ls 11 [(0, .ref t_h), (1, .int x1), (2, .int x2), (3, .int x3)] := hl
  have iwX10 := iwX10_findSpeed_X10
  have fl_25 := hts (.fieldLink RX10 25 "CloudOfficeModel" "sight" "[I") (by decide +kernel)
  have fl_58 := hts (.fieldLink RX10 58 "CloudOfficeModel" "baseWay" "I") (by decide +kernel)
  have fl_127 := hts (.fieldLink RX10 127 "CloudOfficeModel" "endBelow" "J") (by decide +kernel)
  have fl_134 := hts (.fieldLink RX10 134 "CloudOfficeModel" "endAbove" "J") (by decide +kernel)
  have hret : ∀ (o_r9 : Bool) (o_t_endAbove9 : Int64) (o_t_endBelow9 : Int64) (o_t_speedAbove9 : Int64) (o_t_speedBelow9 : Int64) (pc : Nat) (H : Heap) (locs : List Loc) (ls : Array Slot), decode cX10_findSpeed pc = .ok (.ireturn, 1) → some (o_r9, o_t_endAbove9, o_t_endBelow9, o_t_speedAbove9, o_t_speedBelow9) = some (o_r, o_t_endAbove, o_t_endBelow, o_t_speedAbove, o_t_speedBelow) → va_P G vwCl [(t_h, .inr (10, [.int t_baseWay, .int t_slip, .int t_low, .int t_high, .int t_unlike, .int t_alone, .long t_above, .long t_below, .ref t_edges_h, .ref t_lean_h, .ref t_word_h, .int t_layers, .ref t_layer_h, .ref t_least_h, .int t_sights, .ref t_sight_h, .int t_shadows, .ref t_shadow_h, .long o_t_endAbove9, .long o_t_endBelow9, .long o_t_speedAbove9, .long o_t_speedBelow9, .int t_spans, .ref t_spanLow_h, .ref t_spanHigh_h, .ref t_spanAt_h, .int t_found, .ref t_numbers_h, .int t_pairs, .ref t_pair_h, .ref t_most_h, .int t_rows, .ref t_row_h, .int t_notes, .ref t_under_h, .ref t_agreed_h])), (t_sight_h, .inl (cI, 160, .inl t_sight_a))] H → va_D A [(t_h, .inr (10, [.int t_baseWay, .int t_slip, .int t_low, .int t_high, .int t_unlike, .int t_alone, .long t_above, .long t_below, .ref t_edges_h, .ref t_lean_h, .ref t_word_h, .int t_layers, .ref t_layer_h, .ref t_least_h, .int t_sights, .ref t_sight_h, .int t_shadows, .ref t_shadow_h, .long o_t_endAbove9, .long o_t_endBelow9, .long o_t_speedAbove9, .long o_t_speedBelow9, .int t_spans, .ref t_spanLow_h, .ref t_spanHigh_h, .ref t_spanAt_h, .int t_found, .ref t_numbers_h, .int t_pairs, .ref t_pair_h, .ref t_most_h, .int t_rows, .ref t_row_h, .int t_notes, .ref t_under_h, .ref t_agreed_h])), (t_sight_h, .inl (cI, 160, .inl t_sight_a))] → va_S A s.heap H locs → W p l e rmX10_findSpeed s m args below meth c H locs 0 0 Q (F0 m pc ls [.int (b2i o_r9)]) := by
    intro o_r9 o_t_endAbove9 o_t_endBelow9 o_t_speedAbove9 o_t_speedBelow9 pc H locs ls hdg he hP hD hS
    cases he
    subst hQ
    exact rt_z hx hb hr hlocks hK hP hD hS (b2i_narrow _) rfl hdg
  clear hQ
  unfold fX10_findSpeed at hf
  refine lv_aload_n hx hb dX10_findSpeed_0 rfl (lv_at hl 0 rfl) ?_
  refine va_get (D := G) (ci := 10) (v := .ref t_sight_h) (C := RX10) (T := TX10) (N := 36) hx hb hts iwX10 hown hK hP 0 rfl rfl 15 (by decide) fl_25 (fun _ h9 => h9) rfl dX10_findSpeed_1 ?_
  refine lv_iconst (v := 4) hx hb dX10_findSpeed_4 (by decide) ?_
  refine lv_iload_n hx hb dX10_findSpeed_5 rfl (lv_at hl 1 rfl) ?_
  refine lv_imul hx hb dX10_findSpeed_6 ?_
  refine lv_iconst (v := 1) hx hb dX10_findSpeed_7 (by decide) ?_
  refine lv_iadd hx hb dX10_findSpeed_8 ?_
  obtain ⟨h1, hf⟩ := gd_some hf
  refine va_iald hx hb hK hP 1 0 rfl rfl (bnd_in h1) dX10_findSpeed_9 ?_
  refine lv_aload_n hx hb dX10_findSpeed_10 rfl (lv_at hl 0 rfl) ?_
  refine va_get (D := G) (ci := 10) (v := .ref t_sight_h) (C := RX10) (T := TX10) (N := 36) hx hb hts iwX10 hown hK hP 0 rfl rfl 15 (by decide) fl_25 (fun _ h9 => h9) rfl dX10_findSpeed_11 ?_
  refine lv_iconst (v := 4) hx hb dX10_findSpeed_14 (by decide) ?_
  refine lv_iload_n hx hb dX10_findSpeed_15 rfl (lv_at hl 2 rfl) ?_
  refine lv_imul hx hb dX10_findSpeed_16 ?_
  refine lv_iconst (v := 1) hx hb dX10_findSpeed_17 (by decide) ?_
  refine lv_iadd hx hb dX10_findSpeed_18 ?_
  obtain ⟨h2, hf⟩ := gd_some hf
  refine va_iald hx hb hK hP 1 0 rfl rfl (bnd_in h2) dX10_findSpeed_19 ?_
  obtain ⟨m3, hr4, hf⟩ := ob_some hf
  have hj5 : ∀ (m39 : Int32), some m39 = some m3 → ∀ (H : Heap) (locs : List Loc) (ls : Array Slot), va_P G vwCl [(t_h, .inr (10, [.int t_baseWay, .int t_slip, .int t_low, .int t_high, .int t_unlike, .int t_alone, .long t_above, .long t_below, .ref t_edges_h, .ref t_lean_h, .ref t_word_h, .int t_layers, .ref t_layer_h, .ref t_least_h, .int t_sights, .ref t_sight_h, .int t_shadows, .ref t_shadow_h, .long t_endAbove, .long t_endBelow, .long t_speedAbove, .long t_speedBelow, .int t_spans, .ref t_spanLow_h, .ref t_spanHigh_h, .ref t_spanAt_h, .int t_found, .ref t_numbers_h, .int t_pairs, .ref t_pair_h, .ref t_most_h, .int t_rows, .ref t_row_h, .int t_notes, .ref t_under_h, .ref t_agreed_h])), (t_sight_h, .inl (cI, 160, .inl t_sight_a))] H → va_D A [(t_h, .inr (10, [.int t_baseWay, .int t_slip, .int t_low, .int t_high, .int t_unlike, .int t_alone, .long t_above, .long t_below, .ref t_edges_h, .ref t_lean_h, .ref t_word_h, .int t_layers, .ref t_layer_h, .ref t_least_h, .int t_sights, .ref t_sight_h, .int t_shadows, .ref t_shadow_h, .long t_endAbove, .long t_endBelow, .long t_speedAbove, .long t_speedBelow, .int t_spans, .ref t_spanLow_h, .ref t_spanHigh_h, .ref t_spanAt_h, .int t_found, .ref t_numbers_h, .int t_pairs, .ref t_pair_h, .ref t_most_h, .int t_rows, .ref t_row_h, .int t_notes, .ref t_under_h, .ref t_agreed_h])), (t_sight_h, .inl (cI, 160, .inl t_sight_a))] → va_S A s.heap H locs → lv_has ls 11 [(0, .ref t_h), (1, .int x1), (2, .int x2), (3, .int x3)] → W p l e rmX10_findSpeed s m args below meth c H locs 0 0 Q (F0 m 28 ls [.int m39]) := by
    intro m39 he H locs ls hP hD hS hl
    cases he
    refine lv_istore (lv' := [(4, .int m3), (0, .ref t_h), (1, .int x1), (2, .int x2), (3, .int x3)]) hx hb dX10_findSpeed_28 hl (by decide) rfl (fun ls hl => ?_)
    refine lv_iload hx hb dX10_findSpeed_30 (lv_at hl 0 rfl) ?_
    refine lv_iload_n hx hb dX10_findSpeed_32 rfl (lv_at hl 2 rfl) ?_
    obtain ⟨m7, hr8, hf⟩ := ob_some hf
    have hj9 : ∀ (m79 : Int32), some m79 = some m7 → ∀ (H : Heap) (locs : List Loc) (ls : Array Slot), va_P G vwCl [(t_h, .inr (10, [.int t_baseWay, .int t_slip, .int t_low, .int t_high, .int t_unlike, .int t_alone, .long t_above, .long t_below, .ref t_edges_h, .ref t_lean_h, .ref t_word_h, .int t_layers, .ref t_layer_h, .ref t_least_h, .int t_sights, .ref t_sight_h, .int t_shadows, .ref t_shadow_h, .long t_endAbove, .long t_endBelow, .long t_speedAbove, .long t_speedBelow, .int t_spans, .ref t_spanLow_h, .ref t_spanHigh_h, .ref t_spanAt_h, .int t_found, .ref t_numbers_h, .int t_pairs, .ref t_pair_h, .ref t_most_h, .int t_rows, .ref t_row_h, .int t_notes, .ref t_under_h, .ref t_agreed_h])), (t_sight_h, .inl (cI, 160, .inl t_sight_a))] H → va_D A [(t_h, .inr (10, [.int t_baseWay, .int t_slip, .int t_low, .int t_high, .int t_unlike, .int t_alone, .long t_above, .long t_below, .ref t_edges_h, .ref t_lean_h, .ref t_word_h, .int t_layers, .ref t_layer_h, .ref t_least_h, .int t_sights, .ref t_sight_h, .int t_shadows, .ref t_shadow_h, .long t_endAbove, .long t_endBelow, .long t_speedAbove, .long t_speedBelow, .int t_spans, .ref t_spanLow_h, .ref t_spanHigh_h, .ref t_spanAt_h, .int t_found, .ref t_numbers_h, .int t_pairs, .ref t_pair_h, .ref t_most_h, .int t_rows, .ref t_row_h, .int t_notes, .ref t_under_h, .ref t_agreed_h])), (t_sight_h, .inl (cI, 160, .inl t_sight_a))] → va_S A s.heap H locs → lv_has ls 11 [(0, .ref t_h), (3, .int x3), (4, .int m3)] → W p l e rmX10_findSpeed s m args below meth c H locs 0 0 Q (F0 m 41 ls [.int m79]) := by
      intro m79 he H locs ls hP hD hS hl
      cases he
      refine lv_istore (lv' := [(5, .int m7), (0, .ref t_h), (3, .int x3), (4, .int m3)]) hx hb dX10_findSpeed_41 hl (by decide) rfl (fun ls hl => ?_)
      refine lv_aload_n hx hb dX10_findSpeed_43 rfl (lv_at hl 1 rfl) ?_
      refine va_get (D := G) (ci := 10) (v := .ref t_sight_h) (C := RX10) (T := TX10) (N := 36) hx hb hts iwX10 hown hK hP 0 rfl rfl 15 (by decide) fl_25 (fun _ h9 => h9) rfl dX10_findSpeed_44 ?_
      refine lv_iconst (v := 4) hx hb dX10_findSpeed_47 (by decide) ?_
      refine lv_iload hx hb dX10_findSpeed_48 (lv_at hl 3 rfl) ?_
      refine lv_imul hx hb dX10_findSpeed_50 ?_
      refine lv_iconst (v := 1) hx hb dX10_findSpeed_51 (by decide) ?_
      refine lv_iadd hx hb dX10_findSpeed_52 ?_
      obtain ⟨h11, hf⟩ := gd_some hf
      refine va_iald hx hb hK hP 1 0 rfl rfl (bnd_in h11) dX10_findSpeed_53 ?_
      refine lv_aload_n hx hb dX10_findSpeed_54 rfl (lv_at hl 1 rfl) ?_
      refine va_get (D := G) (ci := 10) (v := .ref t_sight_h) (C := RX10) (T := TX10) (N := 36) hx hb hts iwX10 hown hK hP 0 rfl rfl 15 (by decide) fl_25 (fun _ h9 => h9) rfl dX10_findSpeed_55 ?_
      refine lv_iconst (v := 4) hx hb dX10_findSpeed_58 (by decide) ?_
      refine lv_iload hx hb dX10_findSpeed_59 (lv_at hl 0 rfl) ?_
      refine lv_imul hx hb dX10_findSpeed_61 ?_
      refine lv_iconst (v := 1) hx hb dX10_findSpeed_62 (by decide) ?_
      refine lv_iadd hx hb dX10_findSpeed_63 ?_
      obtain ⟨h12, hf⟩ := gd_some hf
      refine va_iald hx hb hK hP 1 0 rfl rfl (bnd_in h12) dX10_findSpeed_64 ?_
      refine lv_isub hx hb dX10_findSpeed_65 ?_
      refine lv_topi (fun v13 ev13 => ?_)
      have hf := bv_at ev13 hf
      refine lv_istore (lv' := [(6, .int v13), (5, .int m7), (0, .ref t_h), (3, .int x3), (4, .int m3)]) hx hb dX10_findSpeed_66 hl (by decide) rfl (fun ls hl => ?_)
      refine lv_iload_n hx hb dX10_findSpeed_68 rfl (lv_at hl 3 rfl) ?_
      refine lv_if_ne (tgt := 184) hx hb dX10_findSpeed_69 (by decide) (fun c14 => ?_) (fun c14 => ?_)
      · have hf := iff_ hf c14
        refine lv_aload_n hx hb dX10_findSpeed_184 rfl (lv_at hl 2 rfl) ?_
        refine lv_iload hx hb dX10_findSpeed_185 (lv_at hl 4 rfl) ?_
        refine lv_iload_n hx hb dX10_findSpeed_187 rfl (lv_at hl 3 rfl) ?_
        refine lv_iconst (v := 2) hx hb dX10_findSpeed_188 (by decide) ?_
        obtain ⟨m15, hr16, hf⟩ := ob_some hf
        have hj17 : ∀ (m159 : Int32), some m159 = some m15 → ∀ (H : Heap) (locs : List Loc) (ls : Array Slot), va_P G vwCl [(t_h, .inr (10, [.int t_baseWay, .int t_slip, .int t_low, .int t_high, .int t_unlike, .int t_alone, .long t_above, .long t_below, .ref t_edges_h, .ref t_lean_h, .ref t_word_h, .int t_layers, .ref t_layer_h, .ref t_least_h, .int t_sights, .ref t_sight_h, .int t_shadows, .ref t_shadow_h, .long t_endAbove, .long t_endBelow, .long t_speedAbove, .long t_speedBelow, .int t_spans, .ref t_spanLow_h, .ref t_spanHigh_h, .ref t_spanAt_h, .int t_found, .ref t_numbers_h, .int t_pairs, .ref t_pair_h, .ref t_most_h, .int t_rows, .ref t_row_h, .int t_notes, .ref t_under_h, .ref t_agreed_h])), (t_sight_h, .inl (cI, 160, .inl t_sight_a))] H → va_D A [(t_h, .inr (10, [.int t_baseWay, .int t_slip, .int t_low, .int t_high, .int t_unlike, .int t_alone, .long t_above, .long t_below, .ref t_edges_h, .ref t_lean_h, .ref t_word_h, .int t_layers, .ref t_layer_h, .ref t_least_h, .int t_sights, .ref t_sight_h, .int t_shadows, .ref t_shadow_h, .long t_endAbove, .long t_endBelow, .long t_speedAbove, .long t_speedBelow, .int t_spans, .ref t_spanLow_h, .ref t_spanHigh_h, .ref t_spanAt_h, .int t_found, .ref t_numbers_h, .int t_pairs, .ref t_pair_h, .ref t_most_h, .int t_rows, .ref t_row_h, .int t_notes, .ref t_under_h, .ref t_agreed_h])), (t_sight_h, .inl (cI, 160, .inl t_sight_a))] → va_S A s.heap H locs → lv_has ls 11 [(0, .ref t_h), (3, .int x3), (5, .int m7), (6, .int v13)] → W p l e rmX10_findSpeed s m args below meth c H locs 0 0 Q (F0 m 197 ls [.int m159, .int m3, .ref t_h]) := by
          intro m159 he H locs ls hP hD hS hl
          cases he
          obtain ⟨r19, w20, w21, hc22, hf⟩ := ob3_some hf
          refine af_iW (wr := []) (ws2 := [(t_h, .inr (10, [.int t_baseWay, .int t_slip, .int t_low, .int t_high, .int t_unlike, .int t_alone, .long t_above, .long t_below, .ref t_edges_h, .ref t_lean_h, .ref t_word_h, .int t_layers, .ref t_layer_h, .ref t_least_h, .int t_sights, .ref t_sight_h, .int t_shadows, .ref t_shadow_h, .long w20, .long w21, .long t_speedAbove, .long t_speedBelow, .int t_spans, .ref t_spanLow_h, .ref t_spanHigh_h, .ref t_spanAt_h, .int t_found, .ref t_numbers_h, .int t_pairs, .ref t_pair_h, .ref t_most_h, .int t_rows, .ref t_row_h, .int t_notes, .ref t_under_h, .ref t_agreed_h])), (t_sight_h, .inl (cI, 160, .inl t_sight_a))]) (va_runV (As := [.int m3, .int m15]) (rest := []) ⟨hx, hb, hml, hown, hts⟩ (k_X10_findEnd l G cI cJ (t_h := t_h) (t_edges_h := t_edges_h) (t_lean_h := t_lean_h) (t_word_h := t_word_h) (t_layer_h := t_layer_h) (t_least_h := t_least_h) (t_sight_h := t_sight_h) (t_shadow_h := t_shadow_h) (t_spanLow_h := t_spanLow_h) (t_spanHigh_h := t_spanHigh_h) (t_spanAt_h := t_spanAt_h) (t_numbers_h := t_numbers_h) (t_pair_h := t_pair_h) (t_most_h := t_most_h) (t_row_h := t_row_h) (t_under_h := t_under_h) (t_agreed_h := t_agreed_h) (t_baseWay := t_baseWay) (t_slip := t_slip) (t_low := t_low) (t_high := t_high) (t_unlike := t_unlike) (t_alone := t_alone) (t_above := t_above) (t_below := t_below) (t_layers := t_layers) (t_sights := t_sights) (t_shadows := t_shadows) (t_endAbove := t_endAbove) (t_endBelow := t_endBelow) (t_speedAbove := t_speedAbove) (t_speedBelow := t_speedBelow) (t_spans := t_spans) (t_found := t_found) (t_pairs := t_pairs) (t_rows := t_rows) (t_notes := t_notes) (t_sight_a := t_sight_a) (x1 := m3) (x2 := m15) (sz := _) (hf := hc22)) (cwV 2 hts gX10_findSpeed_X10_findEnd rfl rfl rfl (by decide +kernel) ⟨Nat.le_of_ble_eq_true rfl, Nat.le_of_ble_eq_true rfl⟩) (preV0 (ci := 10) (q0 := 0) (C := RX10) (wc := [(t_h, .inr (10, [.int t_baseWay, .int t_slip, .int t_low, .int t_high, .int t_unlike, .int t_alone, .long t_above, .long t_below, .ref t_edges_h, .ref t_lean_h, .ref t_word_h, .int t_layers, .ref t_layer_h, .ref t_least_h, .int t_sights, .ref t_sight_h, .int t_shadows, .ref t_shadow_h, .long t_endAbove, .long t_endBelow, .long t_speedAbove, .long t_speedBelow, .int t_spans, .ref t_spanLow_h, .ref t_spanHigh_h, .ref t_spanAt_h, .int t_found, .ref t_numbers_h, .int t_pairs, .ref t_pair_h, .ref t_most_h, .int t_rows, .ref t_row_h, .int t_notes, .ref t_under_h, .ref t_agreed_h])), (t_sight_h, .inl (cI, 160, .inl t_sight_a))]) hK hP hD hN [0, 1] rfl rfl (by decide) rfl rfl) rfl rfl hl.1 rfl (lv_room (Nat.le_of_ble_eq_true rfl)) dX10_findSpeed_197 ⟨Nat.zero_le _, Nat.zero_le _⟩) hP hD hS hA [0, 1] [] [0, 1] rfl rfl (by decide) (by decide) rfl rfl (by decide) (fun H locs hP hD hS => ?_)
          refine lv_if_ne (tgt := 205) hx hb dX10_findSpeed_200 (by decide) (fun c23 => ?_) (fun c23 => ?_)
          · have hf := iff_ hf c23
            refine lv_aload_n hx hb dX10_findSpeed_205 rfl (lv_at hl 0 rfl) ?_
            refine va_get (D := G) (ci := 10) (v := .long w20) (C := RX10) (T := TX10) (N := 36) hx hb hts iwX10 hown hK hP 0 rfl rfl 18 (by decide) fl_134 (fun _ h9 => h9) rfl dX10_findSpeed_206 ?_
            refine lv_lstore (lv' := [(7, .long w20), (0, .ref t_h), (3, .int x3), (5, .int m7), (6, .int v13)]) hx hb dX10_findSpeed_209 hl (by decide) rfl (fun ls hl => ?_)
            refine lv_aload_n hx hb dX10_findSpeed_211 rfl (lv_at hl 1 rfl) ?_
            refine va_get (D := G) (ci := 10) (v := .long w21) (C := RX10) (T := TX10) (N := 36) hx hb hts iwX10 hown hK hP 0 rfl rfl 19 (by decide) fl_127 (fun _ h9 => h9) rfl dX10_findSpeed_212 ?_
            refine lv_lstore (lv' := [(9, .long w21), (7, .long w20), (0, .ref t_h), (3, .int x3), (5, .int m7), (6, .int v13)]) hx hb dX10_findSpeed_215 hl (by decide) rfl (fun ls hl => ?_)
            refine lv_aload_n hx hb dX10_findSpeed_217 rfl (lv_at hl 2 rfl) ?_
            refine lv_iload hx hb dX10_findSpeed_218 (lv_at hl 4 rfl) ?_
            refine lv_iload_n hx hb dX10_findSpeed_220 rfl (lv_at hl 3 rfl) ?_
            refine lv_iconst (v := 1) hx hb dX10_findSpeed_221 (by decide) ?_
            obtain ⟨m24, hr25, hf⟩ := ob_some hf
            have hj26 : ∀ (m249 : Int32), some m249 = some m24 → ∀ (H : Heap) (locs : List Loc) (ls : Array Slot), va_P G vwCl [(t_h, .inr (10, [.int t_baseWay, .int t_slip, .int t_low, .int t_high, .int t_unlike, .int t_alone, .long t_above, .long t_below, .ref t_edges_h, .ref t_lean_h, .ref t_word_h, .int t_layers, .ref t_layer_h, .ref t_least_h, .int t_sights, .ref t_sight_h, .int t_shadows, .ref t_shadow_h, .long w20, .long w21, .long t_speedAbove, .long t_speedBelow, .int t_spans, .ref t_spanLow_h, .ref t_spanHigh_h, .ref t_spanAt_h, .int t_found, .ref t_numbers_h, .int t_pairs, .ref t_pair_h, .ref t_most_h, .int t_rows, .ref t_row_h, .int t_notes, .ref t_under_h, .ref t_agreed_h])), (t_sight_h, .inl (cI, 160, .inl t_sight_a))] H → va_D A [(t_h, .inr (10, [.int t_baseWay, .int t_slip, .int t_low, .int t_high, .int t_unlike, .int t_alone, .long t_above, .long t_below, .ref t_edges_h, .ref t_lean_h, .ref t_word_h, .int t_layers, .ref t_layer_h, .ref t_least_h, .int t_sights, .ref t_sight_h, .int t_shadows, .ref t_shadow_h, .long w20, .long w21, .long t_speedAbove, .long t_speedBelow, .int t_spans, .ref t_spanLow_h, .ref t_spanHigh_h, .ref t_spanAt_h, .int t_found, .ref t_numbers_h, .int t_pairs, .ref t_pair_h, .ref t_most_h, .int t_rows, .ref t_row_h, .int t_notes, .ref t_under_h, .ref t_agreed_h])), (t_sight_h, .inl (cI, 160, .inl t_sight_a))] → va_S A s.heap H locs → lv_has ls 11 [(0, .ref t_h), (6, .int v13), (7, .long w20), (9, .long w21)] → W p l e rmX10_findSpeed s m args below meth c H locs 0 0 Q (F0 m 230 ls [.int m249, .int m7, .ref t_h]) := by
              intro m249 he H locs ls hP hD hS hl
              cases he
              obtain ⟨r28, w29, w30, hc31, hf⟩ := ob3_some hf
              refine af_iW (wr := []) (ws2 := [(t_h, .inr (10, [.int t_baseWay, .int t_slip, .int t_low, .int t_high, .int t_unlike, .int t_alone, .long t_above, .long t_below, .ref t_edges_h, .ref t_lean_h, .ref t_word_h, .int t_layers, .ref t_layer_h, .ref t_least_h, .int t_sights, .ref t_sight_h, .int t_shadows, .ref t_shadow_h, .long w29, .long w30, .long t_speedAbove, .long t_speedBelow, .int t_spans, .ref t_spanLow_h, .ref t_spanHigh_h, .ref t_spanAt_h, .int t_found, .ref t_numbers_h, .int t_pairs, .ref t_pair_h, .ref t_most_h, .int t_rows, .ref t_row_h, .int t_notes, .ref t_under_h, .ref t_agreed_h])), (t_sight_h, .inl (cI, 160, .inl t_sight_a))]) (va_runV (As := [.int m7, .int m24]) (rest := []) ⟨hx, hb, hml, hown, hts⟩ (k_X10_findEnd l G cI cJ (t_h := t_h) (t_edges_h := t_edges_h) (t_lean_h := t_lean_h) (t_word_h := t_word_h) (t_layer_h := t_layer_h) (t_least_h := t_least_h) (t_sight_h := t_sight_h) (t_shadow_h := t_shadow_h) (t_spanLow_h := t_spanLow_h) (t_spanHigh_h := t_spanHigh_h) (t_spanAt_h := t_spanAt_h) (t_numbers_h := t_numbers_h) (t_pair_h := t_pair_h) (t_most_h := t_most_h) (t_row_h := t_row_h) (t_under_h := t_under_h) (t_agreed_h := t_agreed_h) (t_baseWay := t_baseWay) (t_slip := t_slip) (t_low := t_low) (t_high := t_high) (t_unlike := t_unlike) (t_alone := t_alone) (t_above := t_above) (t_below := t_below) (t_layers := t_layers) (t_sights := t_sights) (t_shadows := t_shadows) (t_endAbove := w20) (t_endBelow := w21) (t_speedAbove := t_speedAbove) (t_speedBelow := t_speedBelow) (t_spans := t_spans) (t_found := t_found) (t_pairs := t_pairs) (t_rows := t_rows) (t_notes := t_notes) (t_sight_a := t_sight_a) (x1 := m7) (x2 := m24) (sz := _) (hf := hc31)) (cwV 2 hts gX10_findSpeed_X10_findEnd rfl rfl rfl (by decide +kernel) ⟨Nat.le_of_ble_eq_true rfl, Nat.le_of_ble_eq_true rfl⟩) (preV0 (ci := 10) (q0 := 0) (C := RX10) (wc := [(t_h, .inr (10, [.int t_baseWay, .int t_slip, .int t_low, .int t_high, .int t_unlike, .int t_alone, .long t_above, .long t_below, .ref t_edges_h, .ref t_lean_h, .ref t_word_h, .int t_layers, .ref t_layer_h, .ref t_least_h, .int t_sights, .ref t_sight_h, .int t_shadows, .ref t_shadow_h, .long w20, .long w21, .long t_speedAbove, .long t_speedBelow, .int t_spans, .ref t_spanLow_h, .ref t_spanHigh_h, .ref t_spanAt_h, .int t_found, .ref t_numbers_h, .int t_pairs, .ref t_pair_h, .ref t_most_h, .int t_rows, .ref t_row_h, .int t_notes, .ref t_under_h, .ref t_agreed_h])), (t_sight_h, .inl (cI, 160, .inl t_sight_a))]) hK hP hD hN [0, 1] rfl rfl (by decide) rfl rfl) rfl rfl hl.1 rfl (lv_room (Nat.le_of_ble_eq_true rfl)) dX10_findSpeed_230 ⟨Nat.zero_le _, Nat.zero_le _⟩) hP hD hS hA [0, 1] [] [0, 1] rfl rfl (by decide) (by decide) rfl rfl (by decide) (fun H locs hP hD hS => ?_)
              refine lv_if_ne (tgt := 238) hx hb dX10_findSpeed_233 (by decide) (fun c32 => ?_) (fun c32 => ?_)
              · have hf := iff_ hf c32
                refine lv_aload_n hx hb dX10_findSpeed_238 rfl (lv_at hl 0 rfl) ?_
                refine lv_lload hx hb dX10_findSpeed_239 (lv_at hl 2 rfl) ?_
                refine lv_lload hx hb dX10_findSpeed_241 (lv_at hl 3 rfl) ?_
                refine lv_aload_n hx hb dX10_findSpeed_243 rfl (lv_at hl 0 rfl) ?_
                refine va_get (D := G) (ci := 10) (v := .long w29) (C := RX10) (T := TX10) (N := 36) hx hb hts iwX10 hown hK hP 0 rfl rfl 18 (by decide) fl_134 (fun _ h9 => h9) rfl dX10_findSpeed_244 ?_
                refine lv_aload_n hx hb dX10_findSpeed_247 rfl (lv_at hl 0 rfl) ?_
                refine va_get (D := G) (ci := 10) (v := .long w30) (C := RX10) (T := TX10) (N := 36) hx hb hts iwX10 hown hK hP 0 rfl rfl 19 (by decide) fl_127 (fun _ h9 => h9) rfl dX10_findSpeed_248 ?_
                refine lv_iload hx hb dX10_findSpeed_251 (lv_at hl 1 rfl) ?_
                obtain ⟨w33, w34, hc35, hf⟩ := ob2_some hf
                refine af_vW (wr := [(t_sight_h, .inl (cI, 160, .inl t_sight_a))]) (ws2 := [(t_h, .inr (10, [.int t_baseWay, .int t_slip, .int t_low, .int t_high, .int t_unlike, .int t_alone, .long t_above, .long t_below, .ref t_edges_h, .ref t_lean_h, .ref t_word_h, .int t_layers, .ref t_layer_h, .ref t_least_h, .int t_sights, .ref t_sight_h, .int t_shadows, .ref t_shadow_h, .long w29, .long w30, .long w33, .long w34, .int t_spans, .ref t_spanLow_h, .ref t_spanHigh_h, .ref t_spanAt_h, .int t_found, .ref t_numbers_h, .int t_pairs, .ref t_pair_h, .ref t_most_h, .int t_rows, .ref t_row_h, .int t_notes, .ref t_under_h, .ref t_agreed_h])), (t_sight_h, .inl (cI, 160, .inl t_sight_a))]) (va_runV (As := [.long w20, .long w21, .long w29, .long w30, .int v13]) (rest := []) ⟨hx, hb, hml, hown, hts⟩ (k_X10_speeds l G cI cJ (t_h := t_h) (t_edges_h := t_edges_h) (t_lean_h := t_lean_h) (t_word_h := t_word_h) (t_layer_h := t_layer_h) (t_least_h := t_least_h) (t_sight_h := t_sight_h) (t_shadow_h := t_shadow_h) (t_spanLow_h := t_spanLow_h) (t_spanHigh_h := t_spanHigh_h) (t_spanAt_h := t_spanAt_h) (t_numbers_h := t_numbers_h) (t_pair_h := t_pair_h) (t_most_h := t_most_h) (t_row_h := t_row_h) (t_under_h := t_under_h) (t_agreed_h := t_agreed_h) (t_baseWay := t_baseWay) (t_slip := t_slip) (t_low := t_low) (t_high := t_high) (t_unlike := t_unlike) (t_alone := t_alone) (t_above := t_above) (t_below := t_below) (t_layers := t_layers) (t_sights := t_sights) (t_shadows := t_shadows) (t_endAbove := w29) (t_endBelow := w30) (t_speedAbove := t_speedAbove) (t_speedBelow := t_speedBelow) (t_spans := t_spans) (t_found := t_found) (t_pairs := t_pairs) (t_rows := t_rows) (t_notes := t_notes) (x1 := w20) (x3 := w21) (x5 := w29) (x7 := w30) (x9 := v13) (sz := _) (hf := hc35)) (cwV 5 hts gX10_findSpeed_X10_speeds rfl rfl rfl (by decide +kernel) ⟨Nat.le_of_ble_eq_true rfl, Nat.le_of_ble_eq_true rfl⟩) (preV0 (ci := 10) (q0 := 0) (C := RX10) (wc := [(t_h, .inr (10, [.int t_baseWay, .int t_slip, .int t_low, .int t_high, .int t_unlike, .int t_alone, .long t_above, .long t_below, .ref t_edges_h, .ref t_lean_h, .ref t_word_h, .int t_layers, .ref t_layer_h, .ref t_least_h, .int t_sights, .ref t_sight_h, .int t_shadows, .ref t_shadow_h, .long w29, .long w30, .long t_speedAbove, .long t_speedBelow, .int t_spans, .ref t_spanLow_h, .ref t_spanHigh_h, .ref t_spanAt_h, .int t_found, .ref t_numbers_h, .int t_pairs, .ref t_pair_h, .ref t_most_h, .int t_rows, .ref t_row_h, .int t_notes, .ref t_under_h, .ref t_agreed_h]))]) hK hP hD hN [0] rfl rfl (by decide) rfl rfl) rfl rfl hl.1 rfl (lv_room (Nat.le_of_ble_eq_true rfl)) dX10_findSpeed_253 ⟨Nat.zero_le _, Nat.zero_le _⟩) hP hD hS hA [0] [1] [1, 0] rfl rfl (by decide) (by decide) rfl rfl (by decide) (fun H locs hP hD hS => ?_)
                refine lv_iconst (v := 1) hx hb dX10_findSpeed_256 (by decide) ?_
                exact hret true w29 w30 w33 w34 257 _ _ _ dX10_findSpeed_257 hf hP hD hS
              · have hf := ift hf c32
                refine lv_iconst (v := 0) hx hb dX10_findSpeed_236 (by decide) ?_
                exact hret false w29 w30 t_speedAbove t_speedBelow 237 _ _ _ dX10_findSpeed_237 hf hP hD hS
            replace hf := hr25
            refine lv_icmp_ne (tgt := 229) hx hb dX10_findSpeed_222 (by decide) (fun c27 => ?_) (fun c27 => ?_)
            · have hf := iff_ hf c27
              refine lv_iconst (v := 0) hx hb dX10_findSpeed_229 (by decide) ?_
              exact hj26 _ hf _ _ _ hP hD hS (lv_sub hl [2, 5, 1, 0] rfl)
            · have hf := ift hf c27
              refine lv_iconst (v := 1) hx hb dX10_findSpeed_225 (by decide) ?_
              refine lv_goto (tgt := 230) hx hb dX10_findSpeed_226 (by decide) ?_
              exact hj26 _ hf _ _ _ hP hD hS (lv_sub hl [2, 5, 1, 0] rfl)
          · have hf := ift hf c23
            refine lv_iconst (v := 0) hx hb dX10_findSpeed_203 (by decide) ?_
            exact hret false w20 w21 t_speedAbove t_speedBelow 204 _ _ _ dX10_findSpeed_204 hf hP hD hS
        replace hf := hr16
        refine lv_icmp_ne (tgt := 196) hx hb dX10_findSpeed_189 (by decide) (fun c18 => ?_) (fun c18 => ?_)
        · have hf := iff_ hf c18
          refine lv_iconst (v := 0) hx hb dX10_findSpeed_196 (by decide) ?_
          exact hj17 _ hf _ _ _ hP hD hS (lv_sub hl [2, 3, 1, 0] rfl)
        · have hf := ift hf c18
          refine lv_iconst (v := 1) hx hb dX10_findSpeed_192 (by decide) ?_
          refine lv_goto (tgt := 197) hx hb dX10_findSpeed_193 (by decide) ?_
          exact hj17 _ hf _ _ _ hP hD hS (lv_sub hl [2, 3, 1, 0] rfl)
      · have hf := ift hf c14
        refine lv_aload_n hx hb dX10_findSpeed_72 rfl (lv_at hl 2 rfl) ?_
        refine va_get (D := G) (ci := 10) (v := .ref t_sight_h) (C := RX10) (T := TX10) (N := 36) hx hb hts iwX10 hown hK hP 0 rfl rfl 15 (by decide) fl_25 (fun _ h9 => h9) rfl dX10_findSpeed_73 ?_
        refine lv_iconst (v := 4) hx hb dX10_findSpeed_76 (by decide) ?_
        refine lv_iload hx hb dX10_findSpeed_77 (lv_at hl 4 rfl) ?_
        refine lv_imul hx hb dX10_findSpeed_79 ?_
        refine lv_iconst (v := 2) hx hb dX10_findSpeed_80 (by decide) ?_
        refine lv_iadd hx hb dX10_findSpeed_81 ?_
        obtain ⟨h36, hf⟩ := gd_some hf
        refine va_iald hx hb hK hP 1 0 rfl rfl (bnd_in h36) dX10_findSpeed_82 ?_
        refine lv_aload_n hx hb dX10_findSpeed_83 rfl (lv_at hl 2 rfl) ?_
        refine va_get (D := G) (ci := 10) (v := .ref t_sight_h) (C := RX10) (T := TX10) (N := 36) hx hb hts iwX10 hown hK hP 0 rfl rfl 15 (by decide) fl_25 (fun _ h9 => h9) rfl dX10_findSpeed_84 ?_
        refine lv_iconst (v := 4) hx hb dX10_findSpeed_87 (by decide) ?_
        refine lv_iload hx hb dX10_findSpeed_88 (lv_at hl 4 rfl) ?_
        refine lv_imul hx hb dX10_findSpeed_90 ?_
        refine lv_iconst (v := 3) hx hb dX10_findSpeed_91 (by decide) ?_
        refine lv_iadd hx hb dX10_findSpeed_92 ?_
        obtain ⟨h37, hf⟩ := gd_some hf
        refine va_iald hx hb hK hP 1 0 rfl rfl (bnd_in h37) dX10_findSpeed_93 ?_
        refine lv_isub hx hb dX10_findSpeed_94 ?_
        refine lv_topi (fun v38 ev38 => ?_)
        have hf := bv_at ev38 hf
        refine lv_istore (lv' := [(7, .int v38), (6, .int v13), (5, .int m7), (0, .ref t_h), (3, .int x3), (4, .int m3)]) hx hb dX10_findSpeed_95 hl (by decide) rfl (fun ls hl => ?_)
        refine lv_aload_n hx hb dX10_findSpeed_97 rfl (lv_at hl 3 rfl) ?_
        refine va_get (D := G) (ci := 10) (v := .ref t_sight_h) (C := RX10) (T := TX10) (N := 36) hx hb hts iwX10 hown hK hP 0 rfl rfl 15 (by decide) fl_25 (fun _ h9 => h9) rfl dX10_findSpeed_98 ?_
        refine lv_iconst (v := 4) hx hb dX10_findSpeed_101 (by decide) ?_
        refine lv_iload hx hb dX10_findSpeed_102 (lv_at hl 2 rfl) ?_
        refine lv_imul hx hb dX10_findSpeed_104 ?_
        refine lv_iconst (v := 2) hx hb dX10_findSpeed_105 (by decide) ?_
        refine lv_iadd hx hb dX10_findSpeed_106 ?_
        obtain ⟨h39, hf⟩ := gd_some hf
        refine va_iald hx hb hK hP 1 0 rfl rfl (bnd_in h39) dX10_findSpeed_107 ?_
        refine lv_aload_n hx hb dX10_findSpeed_108 rfl (lv_at hl 3 rfl) ?_
        refine va_get (D := G) (ci := 10) (v := .ref t_sight_h) (C := RX10) (T := TX10) (N := 36) hx hb hts iwX10 hown hK hP 0 rfl rfl 15 (by decide) fl_25 (fun _ h9 => h9) rfl dX10_findSpeed_109 ?_
        refine lv_iconst (v := 4) hx hb dX10_findSpeed_112 (by decide) ?_
        refine lv_iload hx hb dX10_findSpeed_113 (lv_at hl 2 rfl) ?_
        refine lv_imul hx hb dX10_findSpeed_115 ?_
        refine lv_iconst (v := 3) hx hb dX10_findSpeed_116 (by decide) ?_
        refine lv_iadd hx hb dX10_findSpeed_117 ?_
        obtain ⟨h40, hf⟩ := gd_some hf
        refine va_iald hx hb hK hP 1 0 rfl rfl (bnd_in h40) dX10_findSpeed_118 ?_
        refine lv_isub hx hb dX10_findSpeed_119 ?_
        refine lv_topi (fun v41 ev41 => ?_)
        have hf := bv_at ev41 hf
        refine lv_istore (lv' := [(8, .int v41), (7, .int v38), (6, .int v13), (5, .int m7), (0, .ref t_h), (3, .int x3), (4, .int m3)]) hx hb dX10_findSpeed_120 hl (by decide) rfl (fun ls hl => ?_)
        refine lv_iload hx hb dX10_findSpeed_122 (lv_at hl 1 rfl) ?_
        refine lv_if_le (tgt := 132) hx hb dX10_findSpeed_124 (by decide) (fun c42 => ?_) (fun c42 => ?_)
        · have hf := ift hf c42
          refine lv_iconst (v := 0) hx hb dX10_findSpeed_132 (by decide) ?_
          exact hret false t_endAbove t_endBelow t_speedAbove t_speedBelow 133 _ _ _ dX10_findSpeed_133 hf hP hD hS
        · have hf := iff_ hf c42
          refine lv_iload hx hb dX10_findSpeed_127 (lv_at hl 0 rfl) ?_
          refine lv_if_gt (tgt := 134) hx hb dX10_findSpeed_129 (by decide) (fun c43 => ?_) (fun c43 => ?_)
          · have hf := ift hf c43
            refine lv_aload_n hx hb dX10_findSpeed_134 rfl (lv_at hl 4 rfl) ?_
            refine lv_aload_n hx hb dX10_findSpeed_135 rfl (lv_at hl 4 rfl) ?_
            refine va_get (D := G) (ci := 10) (v := .int t_baseWay) (C := RX10) (T := TX10) (N := 36) hx hb hts iwX10 hown hK hP 0 rfl rfl 0 (by decide) fl_58 (fun _ h9 => h9) rfl dX10_findSpeed_136 ?_
            refine lv_i2l (v := Int32.toInt64 t_baseWay) hx hb dX10_findSpeed_139 rfl ?_
            refine lv_aload_n hx hb dX10_findSpeed_140 rfl (lv_at hl 4 rfl) ?_
            refine va_get (D := G) (ci := 10) (v := .ref t_sight_h) (C := RX10) (T := TX10) (N := 36) hx hb hts iwX10 hown hK hP 0 rfl rfl 15 (by decide) fl_25 (fun _ h9 => h9) rfl dX10_findSpeed_141 ?_
            refine lv_iconst (v := 4) hx hb dX10_findSpeed_144 (by decide) ?_
            refine lv_iload hx hb dX10_findSpeed_145 (lv_at hl 6 rfl) ?_
            refine lv_imul hx hb dX10_findSpeed_147 ?_
            refine lv_iconst (v := 2) hx hb dX10_findSpeed_148 (by decide) ?_
            refine lv_iadd hx hb dX10_findSpeed_149 ?_
            obtain ⟨h44, hf⟩ := gd_some hf
            refine va_iald hx hb hK hP 1 0 rfl rfl (bnd_in h44) dX10_findSpeed_150 ?_
            refine lv_i2l (v := Int32.toInt64 (t_sight_a (Int32.toNatClampNeg ((4 * m3) + 2)))) hx hb dX10_findSpeed_151 rfl ?_
            refine lv_lmul hx hb dX10_findSpeed_152 ?_
            refine lv_iload hx hb dX10_findSpeed_153 (lv_at hl 1 rfl) ?_
            refine lv_i2l (v := Int32.toInt64 v38) hx hb dX10_findSpeed_155 rfl ?_
            refine lv_aload_n hx hb dX10_findSpeed_156 rfl (lv_at hl 4 rfl) ?_
            refine va_get (D := G) (ci := 10) (v := .int t_baseWay) (C := RX10) (T := TX10) (N := 36) hx hb hts iwX10 hown hK hP 0 rfl rfl 0 (by decide) fl_58 (fun _ h9 => h9) rfl dX10_findSpeed_157 ?_
            refine lv_i2l (v := Int32.toInt64 t_baseWay) hx hb dX10_findSpeed_160 rfl ?_
            refine lv_aload_n hx hb dX10_findSpeed_161 rfl (lv_at hl 4 rfl) ?_
            refine va_get (D := G) (ci := 10) (v := .ref t_sight_h) (C := RX10) (T := TX10) (N := 36) hx hb hts iwX10 hown hK hP 0 rfl rfl 15 (by decide) fl_25 (fun _ h9 => h9) rfl dX10_findSpeed_162 ?_
            refine lv_iconst (v := 4) hx hb dX10_findSpeed_165 (by decide) ?_
            refine lv_iload hx hb dX10_findSpeed_166 (lv_at hl 3 rfl) ?_
            refine lv_imul hx hb dX10_findSpeed_168 ?_
            refine lv_iconst (v := 2) hx hb dX10_findSpeed_169 (by decide) ?_
            refine lv_iadd hx hb dX10_findSpeed_170 ?_
            obtain ⟨h45, hf⟩ := gd_some hf
            refine va_iald hx hb hK hP 1 0 rfl rfl (bnd_in h45) dX10_findSpeed_171 ?_
            refine lv_i2l (v := Int32.toInt64 (t_sight_a (Int32.toNatClampNeg ((4 * m7) + 2)))) hx hb dX10_findSpeed_172 rfl ?_
            refine lv_lmul hx hb dX10_findSpeed_173 ?_
            refine lv_iload hx hb dX10_findSpeed_174 (lv_at hl 0 rfl) ?_
            refine lv_i2l (v := Int32.toInt64 v41) hx hb dX10_findSpeed_176 rfl ?_
            refine lv_iload hx hb dX10_findSpeed_177 (lv_at hl 2 rfl) ?_
            obtain ⟨w46, w47, hc48, hf⟩ := ob2_some hf
            refine af_vW (wr := [(t_sight_h, .inl (cI, 160, .inl t_sight_a))]) (ws2 := [(t_h, .inr (10, [.int t_baseWay, .int t_slip, .int t_low, .int t_high, .int t_unlike, .int t_alone, .long t_above, .long t_below, .ref t_edges_h, .ref t_lean_h, .ref t_word_h, .int t_layers, .ref t_layer_h, .ref t_least_h, .int t_sights, .ref t_sight_h, .int t_shadows, .ref t_shadow_h, .long t_endAbove, .long t_endBelow, .long w46, .long w47, .int t_spans, .ref t_spanLow_h, .ref t_spanHigh_h, .ref t_spanAt_h, .int t_found, .ref t_numbers_h, .int t_pairs, .ref t_pair_h, .ref t_most_h, .int t_rows, .ref t_row_h, .int t_notes, .ref t_under_h, .ref t_agreed_h])), (t_sight_h, .inl (cI, 160, .inl t_sight_a))]) (va_runV (As := [.long ((Int32.toInt64 t_baseWay) * (Int32.toInt64 (t_sight_a (Int32.toNatClampNeg ((4 * m3) + 2))))), .long (Int32.toInt64 v38), .long ((Int32.toInt64 t_baseWay) * (Int32.toInt64 (t_sight_a (Int32.toNatClampNeg ((4 * m7) + 2))))), .long (Int32.toInt64 v41), .int v13]) (rest := []) ⟨hx, hb, hml, hown, hts⟩ (k_X10_speeds l G cI cJ (t_h := t_h) (t_edges_h := t_edges_h) (t_lean_h := t_lean_h) (t_word_h := t_word_h) (t_layer_h := t_layer_h) (t_least_h := t_least_h) (t_sight_h := t_sight_h) (t_shadow_h := t_shadow_h) (t_spanLow_h := t_spanLow_h) (t_spanHigh_h := t_spanHigh_h) (t_spanAt_h := t_spanAt_h) (t_numbers_h := t_numbers_h) (t_pair_h := t_pair_h) (t_most_h := t_most_h) (t_row_h := t_row_h) (t_under_h := t_under_h) (t_agreed_h := t_agreed_h) (t_baseWay := t_baseWay) (t_slip := t_slip) (t_low := t_low) (t_high := t_high) (t_unlike := t_unlike) (t_alone := t_alone) (t_above := t_above) (t_below := t_below) (t_layers := t_layers) (t_sights := t_sights) (t_shadows := t_shadows) (t_endAbove := t_endAbove) (t_endBelow := t_endBelow) (t_speedAbove := t_speedAbove) (t_speedBelow := t_speedBelow) (t_spans := t_spans) (t_found := t_found) (t_pairs := t_pairs) (t_rows := t_rows) (t_notes := t_notes) (x1 := ((Int32.toInt64 t_baseWay) * (Int32.toInt64 (t_sight_a (Int32.toNatClampNeg ((4 * m3) + 2)))))) (x3 := (Int32.toInt64 v38)) (x5 := ((Int32.toInt64 t_baseWay) * (Int32.toInt64 (t_sight_a (Int32.toNatClampNeg ((4 * m7) + 2)))))) (x7 := (Int32.toInt64 v41)) (x9 := v13) (sz := _) (hf := hc48)) (cwV 5 hts gX10_findSpeed_X10_speeds rfl rfl rfl (by decide +kernel) ⟨Nat.le_of_ble_eq_true rfl, Nat.le_of_ble_eq_true rfl⟩) (preV0 (ci := 10) (q0 := 0) (C := RX10) (wc := [(t_h, .inr (10, [.int t_baseWay, .int t_slip, .int t_low, .int t_high, .int t_unlike, .int t_alone, .long t_above, .long t_below, .ref t_edges_h, .ref t_lean_h, .ref t_word_h, .int t_layers, .ref t_layer_h, .ref t_least_h, .int t_sights, .ref t_sight_h, .int t_shadows, .ref t_shadow_h, .long t_endAbove, .long t_endBelow, .long t_speedAbove, .long t_speedBelow, .int t_spans, .ref t_spanLow_h, .ref t_spanHigh_h, .ref t_spanAt_h, .int t_found, .ref t_numbers_h, .int t_pairs, .ref t_pair_h, .ref t_most_h, .int t_rows, .ref t_row_h, .int t_notes, .ref t_under_h, .ref t_agreed_h]))]) hK hP hD hN [0] rfl rfl (by decide) rfl rfl) rfl rfl hl.1 rfl (lv_room (Nat.le_of_ble_eq_true rfl)) dX10_findSpeed_179 ⟨Nat.zero_le _, Nat.zero_le _⟩) hP hD hS hA [0] [1] [1, 0] rfl rfl (by decide) (by decide) rfl rfl (by decide) (fun H locs hP hD hS => ?_)
            refine lv_iconst (v := 1) hx hb dX10_findSpeed_182 (by decide) ?_
            exact hret true t_endAbove t_endBelow w46 w47 183 _ _ _ dX10_findSpeed_183 hf hP hD hS
          · have hf := iff_ hf c43
            refine lv_iconst (v := 0) hx hb dX10_findSpeed_132 (by decide) ?_
            exact hret false t_endAbove t_endBelow t_speedAbove t_speedBelow 133 _ _ _ dX10_findSpeed_133 hf hP hD hS
    replace hf := hr8
    refine lv_icmp_ne (tgt := 40) hx hb dX10_findSpeed_33 (by decide) (fun c10 => ?_) (fun c10 => ?_)
    · have hf := iff_ hf c10
      refine lv_iload_n hx hb dX10_findSpeed_40 rfl (lv_at hl 2 rfl) ?_
      exact hj9 _ hf _ _ _ hP hD hS (lv_sub hl [1, 4, 0] rfl)
    · have hf := ift hf c10
      refine lv_iload_n hx hb dX10_findSpeed_36 rfl (lv_at hl 3 rfl) ?_
      refine lv_goto (tgt := 41) hx hb dX10_findSpeed_37 (by decide) ?_
      exact hj9 _ hf _ _ _ hP hD hS (lv_sub hl [1, 4, 0] rfl)
  replace hf := hr4
  refine lv_icmp_le (tgt := 27) hx hb dX10_findSpeed_20 (by decide) (fun c6 => ?_) (fun c6 => ?_)
  · have hf := ift hf c6
    refine lv_iload_n hx hb dX10_findSpeed_27 rfl (lv_at hl 2 rfl) ?_
    exact hj5 _ hf _ _ _ hP hD hS (lv_sub hl [0, 1, 2, 3] rfl)
  · have hf := iff_ hf c6
    refine lv_iload_n hx hb dX10_findSpeed_23 rfl (lv_at hl 1 rfl) ?_
    refine lv_goto (tgt := 28) hx hb dX10_findSpeed_24 (by decide) ?_
    exact hj5 _ hf _ _ _ hP hD hS (lv_sub hl [0, 1, 2, 3] rfl)
set_option maxRecDepth 20000 in
theorem ggX10_areSights_X10_in : GoodIn wsX10_areSights wsX10_in := goodIn_r _ [6] (by decide +kernel) (by decide +kernel)
set_option maxRecDepth 20000 in
theorem gX10_areSights_X10_in : GoodIn wsX10_areSights (va_wsS RX10 89 yX10_in wsX10_in) := goodIn_app (goodIn_of _ (by decide +kernel)) ggX10_areSights_X10_in
theorem dX10_areSights_0 : decode cX10_areSights 0 = .ok (.iload_n 1, 1) := by decide +kernel
theorem dX10_areSights_1 : decode cX10_areSights 1 = .ok (.iconst 0, 1) := by decide +kernel
theorem dX10_areSights_2 : decode cX10_areSights 2 = .ok (.aload_n 0, 1) := by decide +kernel
theorem dX10_areSights_3 : decode cX10_areSights 3 = .ok (.getfield 119, 3) := by decide +kernel
theorem dX10_areSights_6 : decode cX10_areSights 6 = .ok (.iconst 1, 1) := by decide +kernel
theorem dX10_areSights_7 : decode cX10_areSights 7 = .ok (.isub, 1) := by decide +kernel
theorem dX10_areSights_8 : decode cX10_areSights 8 = .ok (.invokestatic 89, 3) := by decide +kernel
theorem dX10_areSights_11 : decode cX10_areSights 11 = .ok (.ifCond .eq 63, 3) := by decide +kernel
theorem dX10_areSights_14 : decode cX10_areSights 14 = .ok (.iload_n 2, 1) := by decide +kernel
theorem dX10_areSights_15 : decode cX10_areSights 15 = .ok (.iconst 0, 1) := by decide +kernel
theorem dX10_areSights_16 : decode cX10_areSights 16 = .ok (.aload_n 0, 1) := by decide +kernel
theorem dX10_areSights_17 : decode cX10_areSights 17 = .ok (.getfield 119, 3) := by decide +kernel
theorem dX10_areSights_20 : decode cX10_areSights 20 = .ok (.iconst 1, 1) := by decide +kernel
theorem dX10_areSights_21 : decode cX10_areSights 21 = .ok (.isub, 1) := by decide +kernel
theorem dX10_areSights_22 : decode cX10_areSights 22 = .ok (.invokestatic 89, 3) := by decide +kernel
theorem dX10_areSights_25 : decode cX10_areSights 25 = .ok (.ifCond .eq 49, 3) := by decide +kernel
theorem dX10_areSights_28 : decode cX10_areSights 28 = .ok (.aload_n 0, 1) := by decide +kernel
theorem dX10_areSights_29 : decode cX10_areSights 29 = .ok (.getfield 25, 3) := by decide +kernel
theorem dX10_areSights_32 : decode cX10_areSights 32 = .ok (.iconst 4, 1) := by decide +kernel
theorem dX10_areSights_33 : decode cX10_areSights 33 = .ok (.iload_n 1, 1) := by decide +kernel
theorem dX10_areSights_34 : decode cX10_areSights 34 = .ok (.imul, 1) := by decide +kernel
theorem dX10_areSights_35 : decode cX10_areSights 35 = .ok (.iaload, 1) := by decide +kernel
theorem dX10_areSights_36 : decode cX10_areSights 36 = .ok (.aload_n 0, 1) := by decide +kernel
theorem dX10_areSights_37 : decode cX10_areSights 37 = .ok (.getfield 25, 3) := by decide +kernel
theorem dX10_areSights_40 : decode cX10_areSights 40 = .ok (.iconst 4, 1) := by decide +kernel
theorem dX10_areSights_41 : decode cX10_areSights 41 = .ok (.iload_n 2, 1) := by decide +kernel
theorem dX10_areSights_42 : decode cX10_areSights 42 = .ok (.imul, 1) := by decide +kernel
theorem dX10_areSights_43 : decode cX10_areSights 43 = .ok (.iaload, 1) := by decide +kernel
theorem dX10_areSights_44 : decode cX10_areSights 44 = .ok (.if_icmp .ne 30, 3) := by decide +kernel
theorem dX10_areSights_47 : decode cX10_areSights 47 = .ok (.aload_n 0, 1) := by decide +kernel
theorem dX10_areSights_48 : decode cX10_areSights 48 = .ok (.getfield 25, 3) := by decide +kernel
theorem dX10_areSights_51 : decode cX10_areSights 51 = .ok (.iconst 4, 1) := by decide +kernel
theorem dX10_areSights_52 : decode cX10_areSights 52 = .ok (.iload_n 1, 1) := by decide +kernel
theorem dX10_areSights_53 : decode cX10_areSights 53 = .ok (.imul, 1) := by decide +kernel
theorem dX10_areSights_54 : decode cX10_areSights 54 = .ok (.iconst 1, 1) := by decide +kernel
theorem dX10_areSights_55 : decode cX10_areSights 55 = .ok (.iadd, 1) := by decide +kernel
theorem dX10_areSights_56 : decode cX10_areSights 56 = .ok (.iaload, 1) := by decide +kernel
theorem dX10_areSights_57 : decode cX10_areSights 57 = .ok (.aload_n 0, 1) := by decide +kernel
theorem dX10_areSights_58 : decode cX10_areSights 58 = .ok (.getfield 25, 3) := by decide +kernel
theorem dX10_areSights_61 : decode cX10_areSights 61 = .ok (.iconst 4, 1) := by decide +kernel
theorem dX10_areSights_62 : decode cX10_areSights 62 = .ok (.iload_n 2, 1) := by decide +kernel
theorem dX10_areSights_63 : decode cX10_areSights 63 = .ok (.imul, 1) := by decide +kernel
theorem dX10_areSights_64 : decode cX10_areSights 64 = .ok (.iconst 1, 1) := by decide +kernel
theorem dX10_areSights_65 : decode cX10_areSights 65 = .ok (.iadd, 1) := by decide +kernel
theorem dX10_areSights_66 : decode cX10_areSights 66 = .ok (.iaload, 1) := by decide +kernel
theorem dX10_areSights_67 : decode cX10_areSights 67 = .ok (.if_icmp .eq 7, 3) := by decide +kernel
theorem dX10_areSights_70 : decode cX10_areSights 70 = .ok (.iconst 1, 1) := by decide +kernel
theorem dX10_areSights_71 : decode cX10_areSights 71 = .ok (.goto 4, 3) := by decide +kernel
theorem dX10_areSights_74 : decode cX10_areSights 74 = .ok (.iconst 0, 1) := by decide +kernel
theorem dX10_areSights_75 : decode cX10_areSights 75 = .ok (.ireturn, 1) := by decide +kernel
set_option maxRecDepth 100000 in
def fX10_areSights (x1 : Int32) (x2 : Int32) (t_sights : Int32) (t_sight_a : Nat → Int32) : Option (Bool) :=
  ob (fX10_in x1 0 (t_sights - 1)) fun r1 =>
  if (b2i r1) = 0 then
    some false
  else
    ob (fX10_in x2 0 (t_sights - 1)) fun r4 =>
    if (b2i r4) = 0 then
      some false
    else
      gd (bnd (4 * x1) 160) <|
      gd (bnd (4 * x2) 160) <|
      if (t_sight_a (Int32.toNatClampNeg (4 * x1))) = (t_sight_a (Int32.toNatClampNeg (4 * x2))) then
        gd (bnd ((4 * x1) + 1) 160) <|
        gd (bnd ((4 * x2) + 1) 160) <|
        if (t_sight_a (Int32.toNatClampNeg ((4 * x1) + 1))) = (t_sight_a (Int32.toNatClampNeg ((4 * x2) + 1))) then
          some false
        else
          some true
      else
        some false
abbrev rmX10_areSights : Room := { frames := 1, cells := 0, slots := 0, locals := 22 }
theorem iwX10_areSights_X10 : ∀ w ∈ u_ws RX10 TX10 36, w ∈ wsX10_areSights := by decide +kernel
set_option maxHeartbeats 4000000 in
set_option maxRecDepth 100000 in
theorem k_X10_areSights (l : Launch) (G : va_G) (cI cJ : ClassId) (t_h t_edges_h t_lean_h t_word_h t_layer_h t_least_h t_sight_h t_shadow_h t_spanLow_h t_spanHigh_h t_spanAt_h t_numbers_h t_pair_h t_most_h t_row_h t_under_h t_agreed_h : Nat) (sz : Nat) (t_baseWay : Int32) (t_slip : Int32) (t_low : Int32) (t_high : Int32) (t_unlike : Int32) (t_alone : Int32) (t_above : Int64) (t_below : Int64) (t_layers : Int32) (t_sights : Int32) (t_shadows : Int32) (t_endAbove : Int64) (t_endBelow : Int64) (t_speedAbove : Int64) (t_speedBelow : Int64) (t_spans : Int32) (t_found : Int32) (t_pairs : Int32) (t_rows : Int32) (t_notes : Int32) (t_sight_a : Nat → Int32) (x1 : Int32) (x2 : Int32) {o_r : Bool} (hf : fX10_areSights x1 x2 t_sights t_sight_a = some o_r) : MetI l yX10_areSights wsX10_areSights rmX10_areSights [.ref t_h, .int x1, .int x2] G cI cJ [(t_h, .inr (10, [.int t_baseWay, .int t_slip, .int t_low, .int t_high, .int t_unlike, .int t_alone, .long t_above, .long t_below, .ref t_edges_h, .ref t_lean_h, .ref t_word_h, .int t_layers, .ref t_layer_h, .ref t_least_h, .int t_sights, .ref t_sight_h, .int t_shadows, .ref t_shadow_h, .long t_endAbove, .long t_endBelow, .long t_speedAbove, .long t_speedBelow, .int t_spans, .ref t_spanLow_h, .ref t_spanHigh_h, .ref t_spanAt_h, .int t_found, .ref t_numbers_h, .int t_pairs, .ref t_pair_h, .ref t_most_h, .int t_rows, .ref t_row_h, .int t_notes, .ref t_under_h, .ref t_agreed_h])), (t_sight_h, .inl (cI, 160, .inl t_sight_a))] [(t_h, .inr (10, [.int t_baseWay, .int t_slip, .int t_low, .int t_high, .int t_unlike, .int t_alone, .long t_above, .long t_below, .ref t_edges_h, .ref t_lean_h, .ref t_word_h, .int t_layers, .ref t_layer_h, .ref t_least_h, .int t_sights, .ref t_sight_h, .int t_shadows, .ref t_shadow_h, .long t_endAbove, .long t_endBelow, .long t_speedAbove, .long t_speedBelow, .int t_spans, .ref t_spanLow_h, .ref t_spanHigh_h, .ref t_spanAt_h, .int t_found, .ref t_numbers_h, .int t_pairs, .ref t_pair_h, .ref t_most_h, .int t_rows, .ref t_row_h, .int t_notes, .ref t_under_h, .ref t_agreed_h])), (t_sight_h, .inl (cI, 160, .inl t_sight_a))] sz (b2i o_r) := by
  refine en_0 (l := l) (y := yX10_areSights) (wsl := wsX10_areSights) (rm := rmX10_areSights) (av := [.ref t_h, .int x1, .int x2]) (G := G) (cI := cI) (cJ := cJ) (w0 := [(t_h, .inr (10, [.int t_baseWay, .int t_slip, .int t_low, .int t_high, .int t_unlike, .int t_alone, .long t_above, .long t_below, .ref t_edges_h, .ref t_lean_h, .ref t_word_h, .int t_layers, .ref t_layer_h, .ref t_least_h, .int t_sights, .ref t_sight_h, .int t_shadows, .ref t_shadow_h, .long t_endAbove, .long t_endBelow, .long t_speedAbove, .long t_speedBelow, .int t_spans, .ref t_spanLow_h, .ref t_spanHigh_h, .ref t_spanAt_h, .int t_found, .ref t_numbers_h, .int t_pairs, .ref t_pair_h, .ref t_most_h, .int t_rows, .ref t_row_h, .int t_notes, .ref t_under_h, .ref t_agreed_h])), (t_sight_h, .inl (cI, 160, .inl t_sight_a))]) (sz := sz) (Qf := fun A => Qi0 G cI cJ [(t_h, .inr (10, [.int t_baseWay, .int t_slip, .int t_low, .int t_high, .int t_unlike, .int t_alone, .long t_above, .long t_below, .ref t_edges_h, .ref t_lean_h, .ref t_word_h, .int t_layers, .ref t_layer_h, .ref t_least_h, .int t_sights, .ref t_sight_h, .int t_shadows, .ref t_shadow_h, .long t_endAbove, .long t_endBelow, .long t_speedAbove, .long t_speedBelow, .int t_spans, .ref t_spanLow_h, .ref t_spanHigh_h, .ref t_spanAt_h, .int t_found, .ref t_numbers_h, .int t_pairs, .ref t_pair_h, .ref t_most_h, .int t_rows, .ref t_row_h, .int t_notes, .ref t_under_h, .ref t_agreed_h])), (t_sight_h, .inl (cI, 160, .inl t_sight_a))] (b2i o_r) A) (cc := cX10_areSights) (maxL := 3) (ret := (some .boolean)) RX10 (by decide +kernel) rfl rfl (Nat.le_of_ble_eq_true rfl) ?_
  intro p e s m args below meth c A ls Q hQ hx hb hr hts hown hlocks hml hN hK hP hD hS hA hl
  have hl : lv_has ls 3 [(0, .ref t_h), (1, .int x1), (2, .int x2)] := hl
  have iwX10 := iwX10_areSights_X10
  have fl_25 := hts (.fieldLink RX10 25 "CloudOfficeModel" "sight" "[I") (by decide +kernel)
  have fl_119 := hts (.fieldLink RX10 119 "CloudOfficeModel" "sights" "I") (by decide +kernel)
  have hret : ∀ (o_r9 : Bool) (pc : Nat) (H : Heap) (locs : List Loc) (ls : Array Slot), decode cX10_areSights pc = .ok (.ireturn, 1) → some o_r9 = some o_r → va_P G vwCl [(t_h, .inr (10, [.int t_baseWay, .int t_slip, .int t_low, .int t_high, .int t_unlike, .int t_alone, .long t_above, .long t_below, .ref t_edges_h, .ref t_lean_h, .ref t_word_h, .int t_layers, .ref t_layer_h, .ref t_least_h, .int t_sights, .ref t_sight_h, .int t_shadows, .ref t_shadow_h, .long t_endAbove, .long t_endBelow, .long t_speedAbove, .long t_speedBelow, .int t_spans, .ref t_spanLow_h, .ref t_spanHigh_h, .ref t_spanAt_h, .int t_found, .ref t_numbers_h, .int t_pairs, .ref t_pair_h, .ref t_most_h, .int t_rows, .ref t_row_h, .int t_notes, .ref t_under_h, .ref t_agreed_h])), (t_sight_h, .inl (cI, 160, .inl t_sight_a))] H → va_D A [(t_h, .inr (10, [.int t_baseWay, .int t_slip, .int t_low, .int t_high, .int t_unlike, .int t_alone, .long t_above, .long t_below, .ref t_edges_h, .ref t_lean_h, .ref t_word_h, .int t_layers, .ref t_layer_h, .ref t_least_h, .int t_sights, .ref t_sight_h, .int t_shadows, .ref t_shadow_h, .long t_endAbove, .long t_endBelow, .long t_speedAbove, .long t_speedBelow, .int t_spans, .ref t_spanLow_h, .ref t_spanHigh_h, .ref t_spanAt_h, .int t_found, .ref t_numbers_h, .int t_pairs, .ref t_pair_h, .ref t_most_h, .int t_rows, .ref t_row_h, .int t_notes, .ref t_under_h, .ref t_agreed_h])), (t_sight_h, .inl (cI, 160, .inl t_sight_a))] → va_S A s.heap H locs → W p l e rmX10_areSights s m args below meth c H locs 0 0 Q (F0 m pc ls [.int (b2i o_r9)]) := by
    intro o_r9 pc H locs ls hdg he hP hD hS
    cases he
    subst hQ
    exact rt_z hx hb hr hlocks hK hP hD hS (b2i_narrow _) rfl hdg
  clear hQ
  unfold fX10_areSights at hf
  refine lv_iload_n hx hb dX10_areSights_0 rfl (lv_at hl 1 rfl) ?_
  refine lv_iconst (v := 0) hx hb dX10_areSights_1 (by decide) ?_
  refine lv_aload_n hx hb dX10_areSights_2 rfl (lv_at hl 0 rfl) ?_
  refine va_get (D := G) (ci := 10) (v := .int t_sights) (C := RX10) (T := TX10) (N := 36) hx hb hts iwX10 hown hK hP 0 rfl rfl 14 (by decide) fl_119 (fun _ h9 => h9) rfl dX10_areSights_3 ?_
  refine lv_iconst (v := 1) hx hb dX10_areSights_6 (by decide) ?_
  refine lv_isub hx hb dX10_areSights_7 ?_
  obtain ⟨r1, hc2, hf⟩ := ob_some hf
  refine af_iR (va_runS (As := [.int x1, .int 0, .int (t_sights - 1)]) (rest := []) ⟨hx, hb, hml, hown, hts⟩ (k_X10_in l G cI cJ (x0 := x1) (x1 := 0) (x2 := (t_sights - 1)) (sz := _) (hf := hc2)) (va_cwS 3 hts gX10_areSights_X10_in rfl rfl rfl (by decide +kernel) ⟨Nat.le_of_ble_eq_true rfl, Nat.le_of_ble_eq_true rfl⟩) (preS0 (wc := []) hK hP hD hN [] rfl rfl (by decide)) rfl rfl hl.1 rfl (lv_room (Nat.le_of_ble_eq_true rfl)) dX10_areSights_8 ⟨Nat.zero_le _, Nat.zero_le _⟩) hP hD hS hA [] rfl (fun H locs hP hS => ?_)
  refine lv_if_eq (tgt := 74) hx hb dX10_areSights_11 (by decide) (fun c3 => ?_) (fun c3 => ?_)
  · have hf := ift hf c3
    refine lv_iconst (v := 0) hx hb dX10_areSights_74 (by decide) ?_
    exact hret false 75 _ _ _ dX10_areSights_75 hf hP hD hS
  · have hf := iff_ hf c3
    refine lv_iload_n hx hb dX10_areSights_14 rfl (lv_at hl 2 rfl) ?_
    refine lv_iconst (v := 0) hx hb dX10_areSights_15 (by decide) ?_
    refine lv_aload_n hx hb dX10_areSights_16 rfl (lv_at hl 0 rfl) ?_
    refine va_get (D := G) (ci := 10) (v := .int t_sights) (C := RX10) (T := TX10) (N := 36) hx hb hts iwX10 hown hK hP 0 rfl rfl 14 (by decide) fl_119 (fun _ h9 => h9) rfl dX10_areSights_17 ?_
    refine lv_iconst (v := 1) hx hb dX10_areSights_20 (by decide) ?_
    refine lv_isub hx hb dX10_areSights_21 ?_
    obtain ⟨r4, hc5, hf⟩ := ob_some hf
    refine af_iR (va_runS (As := [.int x2, .int 0, .int (t_sights - 1)]) (rest := []) ⟨hx, hb, hml, hown, hts⟩ (k_X10_in l G cI cJ (x0 := x2) (x1 := 0) (x2 := (t_sights - 1)) (sz := _) (hf := hc5)) (va_cwS 3 hts gX10_areSights_X10_in rfl rfl rfl (by decide +kernel) ⟨Nat.le_of_ble_eq_true rfl, Nat.le_of_ble_eq_true rfl⟩) (preS0 (wc := []) hK hP hD hN [] rfl rfl (by decide)) rfl rfl hl.1 rfl (lv_room (Nat.le_of_ble_eq_true rfl)) dX10_areSights_22 ⟨Nat.zero_le _, Nat.zero_le _⟩) hP hD hS hA [] rfl (fun H locs hP hS => ?_)
    refine lv_if_eq (tgt := 74) hx hb dX10_areSights_25 (by decide) (fun c6 => ?_) (fun c6 => ?_)
    · have hf := ift hf c6
      refine lv_iconst (v := 0) hx hb dX10_areSights_74 (by decide) ?_
      exact hret false 75 _ _ _ dX10_areSights_75 hf hP hD hS
    · have hf := iff_ hf c6
      refine lv_aload_n hx hb dX10_areSights_28 rfl (lv_at hl 0 rfl) ?_
      refine va_get (D := G) (ci := 10) (v := .ref t_sight_h) (C := RX10) (T := TX10) (N := 36) hx hb hts iwX10 hown hK hP 0 rfl rfl 15 (by decide) fl_25 (fun _ h9 => h9) rfl dX10_areSights_29 ?_
      refine lv_iconst (v := 4) hx hb dX10_areSights_32 (by decide) ?_
      refine lv_iload_n hx hb dX10_areSights_33 rfl (lv_at hl 1 rfl) ?_
      refine lv_imul hx hb dX10_areSights_34 ?_
      obtain ⟨h7, hf⟩ := gd_some hf
      refine va_iald hx hb hK hP 1 0 rfl rfl (bnd_in h7) dX10_areSights_35 ?_
      refine lv_aload_n hx hb dX10_areSights_36 rfl (lv_at hl 0 rfl) ?_
      refine va_get (D := G) (ci := 10) (v := .ref t_sight_h) (C := RX10) (T := TX10) (N := 36) hx hb hts iwX10 hown hK hP 0 rfl rfl 15 (by decide) fl_25 (fun _ h9 => h9) rfl dX10_areSights_37 ?_
      refine lv_iconst (v := 4) hx hb dX10_areSights_40 (by decide) ?_
      refine lv_iload_n hx hb dX10_areSights_41 rfl (lv_at hl 2 rfl) ?_
      refine lv_imul hx hb dX10_areSights_42 ?_
      obtain ⟨h8, hf⟩ := gd_some hf
      refine va_iald hx hb hK hP 1 0 rfl rfl (bnd_in h8) dX10_areSights_43 ?_
      refine lv_icmp_ne (tgt := 74) hx hb dX10_areSights_44 (by decide) (fun c9 => ?_) (fun c9 => ?_)
      · have hf := iff_ hf c9
        refine lv_iconst (v := 0) hx hb dX10_areSights_74 (by decide) ?_
        exact hret false 75 _ _ _ dX10_areSights_75 hf hP hD hS
      · have hf := ift hf c9
        refine lv_aload_n hx hb dX10_areSights_47 rfl (lv_at hl 0 rfl) ?_
        refine va_get (D := G) (ci := 10) (v := .ref t_sight_h) (C := RX10) (T := TX10) (N := 36) hx hb hts iwX10 hown hK hP 0 rfl rfl 15 (by decide) fl_25 (fun _ h9 => h9) rfl dX10_areSights_48 ?_
        refine lv_iconst (v := 4) hx hb dX10_areSights_51 (by decide) ?_
        refine lv_iload_n hx hb dX10_areSights_52 rfl (lv_at hl 1 rfl) ?_
        refine lv_imul hx hb dX10_areSights_53 ?_
        refine lv_iconst (v := 1) hx hb dX10_areSights_54 (by decide) ?_
        refine lv_iadd hx hb dX10_areSights_55 ?_
        obtain ⟨h10, hf⟩ := gd_some hf
        refine va_iald hx hb hK hP 1 0 rfl rfl (bnd_in h10) dX10_areSights_56 ?_
        refine lv_aload_n hx hb dX10_areSights_57 rfl (lv_at hl 0 rfl) ?_
        refine va_get (D := G) (ci := 10) (v := .ref t_sight_h) (C := RX10) (T := TX10) (N := 36) hx hb hts iwX10 hown hK hP 0 rfl rfl 15 (by decide) fl_25 (fun _ h9 => h9) rfl dX10_areSights_58 ?_
        refine lv_iconst (v := 4) hx hb dX10_areSights_61 (by decide) ?_
        refine lv_iload_n hx hb dX10_areSights_62 rfl (lv_at hl 2 rfl) ?_
        refine lv_imul hx hb dX10_areSights_63 ?_
        refine lv_iconst (v := 1) hx hb dX10_areSights_64 (by decide) ?_
        refine lv_iadd hx hb dX10_areSights_65 ?_
        obtain ⟨h11, hf⟩ := gd_some hf
        refine va_iald hx hb hK hP 1 0 rfl rfl (bnd_in h11) dX10_areSights_66 ?_
        refine lv_icmp_eq (tgt := 74) hx hb dX10_areSights_67 (by decide) (fun c12 => ?_) (fun c12 => ?_)
        · have hf := ift hf c12
          refine lv_iconst (v := 0) hx hb dX10_areSights_74 (by decide) ?_
          exact hret false 75 _ _ _ dX10_areSights_75 hf hP hD hS
        · have hf := iff_ hf c12
          refine lv_iconst (v := 1) hx hb dX10_areSights_70 (by decide) ?_
          refine lv_goto (tgt := 75) hx hb dX10_areSights_71 (by decide) ?_
          exact hret true 75 _ _ _ dX10_areSights_75 hf hP hD hS
set_option maxRecDepth 20000 in
theorem ggX10_speed_X10_areSights : GoodIn wsX10_speed wsX10_areSights := goodIn_r _ [7, 8, 9, 10, 11, 6, 12, 40, 41, 42, 43, 44, 45, 46, 47, 48, 49, 50, 51, 52, 53, 54, 55, 56, 57, 58, 59, 60, 61, 62, 63, 64, 65, 66, 67, 68, 69, 70, 71, 72, 73, 74, 75] (by decide +kernel) (by decide +kernel)
set_option maxRecDepth 20000 in
theorem gX10_speed_X10_areSights : GoodIn wsX10_speed (wsV RX10 151 RX10 yX10_areSights wsX10_areSights) := goodIn_app (goodIn_of _ (by decide +kernel)) ggX10_speed_X10_areSights
set_option maxRecDepth 20000 in
theorem ggX10_speed_X10_in : GoodIn wsX10_speed wsX10_in := goodIn_r _ [12] (by decide +kernel) (by decide +kernel)
set_option maxRecDepth 20000 in
theorem gX10_speed_X10_in : GoodIn wsX10_speed (va_wsS RX10 89 yX10_in wsX10_in) := goodIn_app (goodIn_of _ (by decide +kernel)) ggX10_speed_X10_in
set_option maxRecDepth 20000 in
theorem ggX10_speed_X10_findSpeed : GoodIn wsX10_speed wsX10_findSpeed := goodIn_r _ [16, 9, 17, 18, 19, 20, 21, 22, 6, 23, 1, 2, 24, 25, 26, 27, 28, 29, 30, 31, 32, 33, 40, 41, 42, 43, 44, 45, 46, 47, 48, 49, 50, 51, 52, 53, 54, 55, 56, 57, 58, 59, 60, 61, 62, 63, 64, 65, 66, 67, 68, 69, 70, 71, 72, 73, 74, 75] (by decide +kernel) (by decide +kernel)
set_option maxRecDepth 20000 in
theorem gX10_speed_X10_findSpeed : GoodIn wsX10_speed (wsV RX10 155 RX10 yX10_findSpeed wsX10_findSpeed) := goodIn_app (goodIn_of _ (by decide +kernel)) ggX10_speed_X10_findSpeed
set_option maxRecDepth 20000 in
theorem ggX10_speed_X10_tells : GoodIn wsX10_speed wsX10_tells := goodIn_r _ [37, 38, 39, 24, 25, 6, 26, 40, 41, 42, 43, 44, 45, 46, 47, 48, 49, 50, 51, 52, 53, 54, 55, 56, 57, 58, 59, 60, 61, 62, 63, 64, 65, 66, 67, 68, 69, 70, 71, 72, 73, 74, 75] (by decide +kernel) (by decide +kernel)
set_option maxRecDepth 20000 in
theorem gX10_speed_X10_tells : GoodIn wsX10_speed (wsV RX10 99 RX10 yX10_tells wsX10_tells) := goodIn_app (goodIn_of _ (by decide +kernel)) ggX10_speed_X10_tells
theorem dX10_speed_0 : decode cX10_speed 0 = .ok (.aload_n 0, 1) := by decide +kernel
theorem dX10_speed_1 : decode cX10_speed 1 = .ok (.iload_n 1, 1) := by decide +kernel
theorem dX10_speed_2 : decode cX10_speed 2 = .ok (.iload_n 2, 1) := by decide +kernel
theorem dX10_speed_3 : decode cX10_speed 3 = .ok (.invokevirtual 151, 3) := by decide +kernel
theorem dX10_speed_6 : decode cX10_speed 6 = .ok (.ifCond .eq 12, 3) := by decide +kernel
theorem dX10_speed_9 : decode cX10_speed 9 = .ok (.iload_n 3, 1) := by decide +kernel
theorem dX10_speed_10 : decode cX10_speed 10 = .ok (.iconst 0, 1) := by decide +kernel
theorem dX10_speed_11 : decode cX10_speed 11 = .ok (.iconst 2, 1) := by decide +kernel
theorem dX10_speed_12 : decode cX10_speed 12 = .ok (.invokestatic 89, 3) := by decide +kernel
theorem dX10_speed_15 : decode cX10_speed 15 = .ok (.ifCond .ne 6, 3) := by decide +kernel
theorem dX10_speed_18 : decode cX10_speed 18 = .ok (.bipush (-2), 2) := by decide +kernel
theorem dX10_speed_20 : decode cX10_speed 20 = .ok (.ireturn, 1) := by decide +kernel
theorem dX10_speed_21 : decode cX10_speed 21 = .ok (.aload_n 0, 1) := by decide +kernel
theorem dX10_speed_22 : decode cX10_speed 22 = .ok (.iload_n 1, 1) := by decide +kernel
theorem dX10_speed_23 : decode cX10_speed 23 = .ok (.iload_n 2, 1) := by decide +kernel
theorem dX10_speed_24 : decode cX10_speed 24 = .ok (.iload_n 3, 1) := by decide +kernel
theorem dX10_speed_25 : decode cX10_speed 25 = .ok (.invokevirtual 155, 3) := by decide +kernel
theorem dX10_speed_28 : decode cX10_speed 28 = .ok (.ifCond .eq 18, 3) := by decide +kernel
theorem dX10_speed_31 : decode cX10_speed 31 = .ok (.aload_n 0, 1) := by decide +kernel
theorem dX10_speed_32 : decode cX10_speed 32 = .ok (.aload_n 0, 1) := by decide +kernel
theorem dX10_speed_33 : decode cX10_speed 33 = .ok (.getfield 137, 3) := by decide +kernel
theorem dX10_speed_36 : decode cX10_speed 36 = .ok (.aload_n 0, 1) := by decide +kernel
theorem dX10_speed_37 : decode cX10_speed 37 = .ok (.getfield 140, 3) := by decide +kernel
theorem dX10_speed_40 : decode cX10_speed 40 = .ok (.invokevirtual 99, 3) := by decide +kernel
theorem dX10_speed_43 : decode cX10_speed 43 = .ok (.goto 4, 3) := by decide +kernel
theorem dX10_speed_46 : decode cX10_speed 46 = .ok (.iconst 0, 1) := by decide +kernel
theorem dX10_speed_47 : decode cX10_speed 47 = .ok (.ireturn, 1) := by decide +kernel
set_option maxRecDepth 100000 in
def fX10_speed (x1 : Int32) (x2 : Int32) (x3 : Int32) (t_baseWay : Int32) (t_slip : Int32) (t_above : Int64) (t_below : Int64) (t_sights : Int32) (t_endAbove : Int64) (t_endBelow : Int64) (t_speedAbove : Int64) (t_speedBelow : Int64) (t_sight_a : Nat → Int32) : Option (Int32 × Int64 × Int64 × Int64 × Int64 × Int64 × Int64) :=
  ob (fX10_areSights x1 x2 t_sights t_sight_a) fun r1 =>
  if (b2i r1) = 0 then
    some ((-2), t_above, t_below, t_endAbove, t_endBelow, t_speedAbove, t_speedBelow)
  else
    ob (fX10_in x3 0 2) fun r4 =>
    if (b2i r4) = 0 then
      some ((-2), t_above, t_below, t_endAbove, t_endBelow, t_speedAbove, t_speedBelow)
    else
      ob5 (fX10_findSpeed x1 x2 x3 t_baseWay t_slip t_endAbove t_endBelow t_speedAbove t_speedBelow t_sight_a) fun r7 w8 w9 w10 w11 =>
      if (b2i r7) = 0 then
        some (0, t_above, t_below, w8, w9, w10, w11)
      else
        ob3 (fX10_tells w10 w11 t_above t_below) fun r14 w15 w16 =>
        some (r14, w15, w16, w8, w9, w10, w11)
abbrev rmX10_speed : Room := { frames := 3, cells := 0, slots := 0, locals := 90 }
theorem iwX10_speed_X10 : ∀ w ∈ u_ws RX10 TX10 36, w ∈ wsX10_speed := by decide +kernel
set_option maxHeartbeats 4000000 in
set_option maxRecDepth 100000 in
theorem k_X10_speed (l : Launch) (G : va_G) (cI cJ : ClassId) (t_h t_edges_h t_lean_h t_word_h t_layer_h t_least_h t_sight_h t_shadow_h t_spanLow_h t_spanHigh_h t_spanAt_h t_numbers_h t_pair_h t_most_h t_row_h t_under_h t_agreed_h : Nat) (sz : Nat) (t_baseWay : Int32) (t_slip : Int32) (t_low : Int32) (t_high : Int32) (t_unlike : Int32) (t_alone : Int32) (t_above : Int64) (t_below : Int64) (t_layers : Int32) (t_sights : Int32) (t_shadows : Int32) (t_endAbove : Int64) (t_endBelow : Int64) (t_speedAbove : Int64) (t_speedBelow : Int64) (t_spans : Int32) (t_found : Int32) (t_pairs : Int32) (t_rows : Int32) (t_notes : Int32) (t_sight_a : Nat → Int32) (x1 : Int32) (x2 : Int32) (x3 : Int32) {o_r : Int32} {o_t_above : Int64} {o_t_below : Int64} {o_t_endAbove : Int64} {o_t_endBelow : Int64} {o_t_speedAbove : Int64} {o_t_speedBelow : Int64} (hf : fX10_speed x1 x2 x3 t_baseWay t_slip t_above t_below t_sights t_endAbove t_endBelow t_speedAbove t_speedBelow t_sight_a = some (o_r, o_t_above, o_t_below, o_t_endAbove, o_t_endBelow, o_t_speedAbove, o_t_speedBelow)) : MetI l yX10_speed wsX10_speed rmX10_speed [.ref t_h, .int x1, .int x2, .int x3] G cI cJ [(t_h, .inr (10, [.int t_baseWay, .int t_slip, .int t_low, .int t_high, .int t_unlike, .int t_alone, .long t_above, .long t_below, .ref t_edges_h, .ref t_lean_h, .ref t_word_h, .int t_layers, .ref t_layer_h, .ref t_least_h, .int t_sights, .ref t_sight_h, .int t_shadows, .ref t_shadow_h, .long t_endAbove, .long t_endBelow, .long t_speedAbove, .long t_speedBelow, .int t_spans, .ref t_spanLow_h, .ref t_spanHigh_h, .ref t_spanAt_h, .int t_found, .ref t_numbers_h, .int t_pairs, .ref t_pair_h, .ref t_most_h, .int t_rows, .ref t_row_h, .int t_notes, .ref t_under_h, .ref t_agreed_h])), (t_sight_h, .inl (cI, 160, .inl t_sight_a))] [(t_h, .inr (10, [.int t_baseWay, .int t_slip, .int t_low, .int t_high, .int t_unlike, .int t_alone, .long o_t_above, .long o_t_below, .ref t_edges_h, .ref t_lean_h, .ref t_word_h, .int t_layers, .ref t_layer_h, .ref t_least_h, .int t_sights, .ref t_sight_h, .int t_shadows, .ref t_shadow_h, .long o_t_endAbove, .long o_t_endBelow, .long o_t_speedAbove, .long o_t_speedBelow, .int t_spans, .ref t_spanLow_h, .ref t_spanHigh_h, .ref t_spanAt_h, .int t_found, .ref t_numbers_h, .int t_pairs, .ref t_pair_h, .ref t_most_h, .int t_rows, .ref t_row_h, .int t_notes, .ref t_under_h, .ref t_agreed_h])), (t_sight_h, .inl (cI, 160, .inl t_sight_a))] sz o_r := by
  refine en_0 (l := l) (y := yX10_speed) (wsl := wsX10_speed) (rm := rmX10_speed) (av := [.ref t_h, .int x1, .int x2, .int x3]) (G := G) (cI := cI) (cJ := cJ) (w0 := [(t_h, .inr (10, [.int t_baseWay, .int t_slip, .int t_low, .int t_high, .int t_unlike, .int t_alone, .long t_above, .long t_below, .ref t_edges_h, .ref t_lean_h, .ref t_word_h, .int t_layers, .ref t_layer_h, .ref t_least_h, .int t_sights, .ref t_sight_h, .int t_shadows, .ref t_shadow_h, .long t_endAbove, .long t_endBelow, .long t_speedAbove, .long t_speedBelow, .int t_spans, .ref t_spanLow_h, .ref t_spanHigh_h, .ref t_spanAt_h, .int t_found, .ref t_numbers_h, .int t_pairs, .ref t_pair_h, .ref t_most_h, .int t_rows, .ref t_row_h, .int t_notes, .ref t_under_h, .ref t_agreed_h])), (t_sight_h, .inl (cI, 160, .inl t_sight_a))]) (sz := sz) (Qf := fun A => Qi0 G cI cJ [(t_h, .inr (10, [.int t_baseWay, .int t_slip, .int t_low, .int t_high, .int t_unlike, .int t_alone, .long o_t_above, .long o_t_below, .ref t_edges_h, .ref t_lean_h, .ref t_word_h, .int t_layers, .ref t_layer_h, .ref t_least_h, .int t_sights, .ref t_sight_h, .int t_shadows, .ref t_shadow_h, .long o_t_endAbove, .long o_t_endBelow, .long o_t_speedAbove, .long o_t_speedBelow, .int t_spans, .ref t_spanLow_h, .ref t_spanHigh_h, .ref t_spanAt_h, .int t_found, .ref t_numbers_h, .int t_pairs, .ref t_pair_h, .ref t_most_h, .int t_rows, .ref t_row_h, .int t_notes, .ref t_under_h, .ref t_agreed_h])), (t_sight_h, .inl (cI, 160, .inl t_sight_a))] o_r A) (cc := cX10_speed) (maxL := 4) (ret := (some .int)) RX10 (by decide +kernel) rfl rfl (Nat.le_of_ble_eq_true rfl) ?_
  intro p e s m args below meth c A ls Q hQ hx hb hr hts hown hlocks hml hN hK hP hD hS hA hl
  have hl : lv_has ls 4 [(0, .ref t_h), (1, .int x1), (2, .int x2), (3, .int x3)] := hl
  have iwX10 := iwX10_speed_X10
  have fl_137 := hts (.fieldLink RX10 137 "CloudOfficeModel" "speedAbove" "J") (by decide +kernel)
  have fl_140 := hts (.fieldLink RX10 140 "CloudOfficeModel" "speedBelow" "J") (by decide +kernel)
  have hret : ∀ (o_r9 : Int32) (o_t_above9 : Int64) (o_t_below9 : Int64) (o_t_endAbove9 : Int64) (o_t_endBelow9 : Int64) (o_t_speedAbove9 : Int64) (o_t_speedBelow9 : Int64) (pc : Nat) (H : Heap) (locs : List Loc) (ls : Array Slot), decode cX10_speed pc = .ok (.ireturn, 1) → some (o_r9, o_t_above9, o_t_below9, o_t_endAbove9, o_t_endBelow9, o_t_speedAbove9, o_t_speedBelow9) = some (o_r, o_t_above, o_t_below, o_t_endAbove, o_t_endBelow, o_t_speedAbove, o_t_speedBelow) → va_P G vwCl [(t_h, .inr (10, [.int t_baseWay, .int t_slip, .int t_low, .int t_high, .int t_unlike, .int t_alone, .long o_t_above9, .long o_t_below9, .ref t_edges_h, .ref t_lean_h, .ref t_word_h, .int t_layers, .ref t_layer_h, .ref t_least_h, .int t_sights, .ref t_sight_h, .int t_shadows, .ref t_shadow_h, .long o_t_endAbove9, .long o_t_endBelow9, .long o_t_speedAbove9, .long o_t_speedBelow9, .int t_spans, .ref t_spanLow_h, .ref t_spanHigh_h, .ref t_spanAt_h, .int t_found, .ref t_numbers_h, .int t_pairs, .ref t_pair_h, .ref t_most_h, .int t_rows, .ref t_row_h, .int t_notes, .ref t_under_h, .ref t_agreed_h])), (t_sight_h, .inl (cI, 160, .inl t_sight_a))] H → va_D A [(t_h, .inr (10, [.int t_baseWay, .int t_slip, .int t_low, .int t_high, .int t_unlike, .int t_alone, .long o_t_above9, .long o_t_below9, .ref t_edges_h, .ref t_lean_h, .ref t_word_h, .int t_layers, .ref t_layer_h, .ref t_least_h, .int t_sights, .ref t_sight_h, .int t_shadows, .ref t_shadow_h, .long o_t_endAbove9, .long o_t_endBelow9, .long o_t_speedAbove9, .long o_t_speedBelow9, .int t_spans, .ref t_spanLow_h, .ref t_spanHigh_h, .ref t_spanAt_h, .int t_found, .ref t_numbers_h, .int t_pairs, .ref t_pair_h, .ref t_most_h, .int t_rows, .ref t_row_h, .int t_notes, .ref t_under_h, .ref t_agreed_h])), (t_sight_h, .inl (cI, 160, .inl t_sight_a))] → va_S A s.heap H locs → W p l e rmX10_speed s m args below meth c H locs 0 0 Q (F0 m pc ls [.int o_r9]) := by
    intro o_r9 o_t_above9 o_t_below9 o_t_endAbove9 o_t_endBelow9 o_t_speedAbove9 o_t_speedBelow9 pc H locs ls hdg he hP hD hS
    cases he
    subst hQ
    exact rt_i hx hb hr hlocks hK hP hD hS rfl hdg
  clear hQ
  unfold fX10_speed at hf
  refine lv_aload_n hx hb dX10_speed_0 rfl (lv_at hl 0 rfl) ?_
  refine lv_iload_n hx hb dX10_speed_1 rfl (lv_at hl 1 rfl) ?_
  refine lv_iload_n hx hb dX10_speed_2 rfl (lv_at hl 2 rfl) ?_
  obtain ⟨r1, hc2, hf⟩ := ob_some hf
  refine af_iR (va_runV (As := [.int x1, .int x2]) (rest := []) ⟨hx, hb, hml, hown, hts⟩ (k_X10_areSights l G cI cJ (t_h := t_h) (t_edges_h := t_edges_h) (t_lean_h := t_lean_h) (t_word_h := t_word_h) (t_layer_h := t_layer_h) (t_least_h := t_least_h) (t_sight_h := t_sight_h) (t_shadow_h := t_shadow_h) (t_spanLow_h := t_spanLow_h) (t_spanHigh_h := t_spanHigh_h) (t_spanAt_h := t_spanAt_h) (t_numbers_h := t_numbers_h) (t_pair_h := t_pair_h) (t_most_h := t_most_h) (t_row_h := t_row_h) (t_under_h := t_under_h) (t_agreed_h := t_agreed_h) (t_baseWay := t_baseWay) (t_slip := t_slip) (t_low := t_low) (t_high := t_high) (t_unlike := t_unlike) (t_alone := t_alone) (t_above := t_above) (t_below := t_below) (t_layers := t_layers) (t_sights := t_sights) (t_shadows := t_shadows) (t_endAbove := t_endAbove) (t_endBelow := t_endBelow) (t_speedAbove := t_speedAbove) (t_speedBelow := t_speedBelow) (t_spans := t_spans) (t_found := t_found) (t_pairs := t_pairs) (t_rows := t_rows) (t_notes := t_notes) (t_sight_a := t_sight_a) (x1 := x1) (x2 := x2) (sz := _) (hf := hc2)) (cwV 2 hts gX10_speed_X10_areSights rfl rfl rfl (by decide +kernel) ⟨Nat.le_of_ble_eq_true rfl, Nat.le_of_ble_eq_true rfl⟩) (preV0 (ci := 10) (q0 := 0) (C := RX10) (wc := [(t_h, .inr (10, [.int t_baseWay, .int t_slip, .int t_low, .int t_high, .int t_unlike, .int t_alone, .long t_above, .long t_below, .ref t_edges_h, .ref t_lean_h, .ref t_word_h, .int t_layers, .ref t_layer_h, .ref t_least_h, .int t_sights, .ref t_sight_h, .int t_shadows, .ref t_shadow_h, .long t_endAbove, .long t_endBelow, .long t_speedAbove, .long t_speedBelow, .int t_spans, .ref t_spanLow_h, .ref t_spanHigh_h, .ref t_spanAt_h, .int t_found, .ref t_numbers_h, .int t_pairs, .ref t_pair_h, .ref t_most_h, .int t_rows, .ref t_row_h, .int t_notes, .ref t_under_h, .ref t_agreed_h])), (t_sight_h, .inl (cI, 160, .inl t_sight_a))]) hK hP hD hN [0, 1] rfl rfl (by decide) rfl rfl) rfl rfl hl.1 rfl (lv_room (Nat.le_of_ble_eq_true rfl)) dX10_speed_3 ⟨Nat.zero_le _, Nat.zero_le _⟩) hP hD hS hA [0, 1] rfl (fun H locs hP hS => ?_)
  refine lv_if_eq (tgt := 18) hx hb dX10_speed_6 (by decide) (fun c3 => ?_) (fun c3 => ?_)
  · have hf := ift hf c3
    refine lv_bipush (v := (-2)) hx hb dX10_speed_18 (by decide) ?_
    exact hret (-2) t_above t_below t_endAbove t_endBelow t_speedAbove t_speedBelow 20 _ _ _ dX10_speed_20 hf hP hD hS
  · have hf := iff_ hf c3
    refine lv_iload_n hx hb dX10_speed_9 rfl (lv_at hl 3 rfl) ?_
    refine lv_iconst (v := 0) hx hb dX10_speed_10 (by decide) ?_
    refine lv_iconst (v := 2) hx hb dX10_speed_11 (by decide) ?_
    obtain ⟨r4, hc5, hf⟩ := ob_some hf
    refine af_iR (va_runS (As := [.int x3, .int 0, .int 2]) (rest := []) ⟨hx, hb, hml, hown, hts⟩ (k_X10_in l G cI cJ (x0 := x3) (x1 := 0) (x2 := 2) (sz := _) (hf := hc5)) (va_cwS 3 hts gX10_speed_X10_in rfl rfl rfl (by decide +kernel) ⟨Nat.le_of_ble_eq_true rfl, Nat.le_of_ble_eq_true rfl⟩) (preS0 (wc := []) hK hP hD hN [] rfl rfl (by decide)) rfl rfl hl.1 rfl (lv_room (Nat.le_of_ble_eq_true rfl)) dX10_speed_12 ⟨Nat.zero_le _, Nat.zero_le _⟩) hP hD hS hA [] rfl (fun H locs hP hS => ?_)
    refine lv_if_ne (tgt := 21) hx hb dX10_speed_15 (by decide) (fun c6 => ?_) (fun c6 => ?_)
    · have hf := iff_ hf c6
      refine lv_aload_n hx hb dX10_speed_21 rfl (lv_at hl 0 rfl) ?_
      refine lv_iload_n hx hb dX10_speed_22 rfl (lv_at hl 1 rfl) ?_
      refine lv_iload_n hx hb dX10_speed_23 rfl (lv_at hl 2 rfl) ?_
      refine lv_iload_n hx hb dX10_speed_24 rfl (lv_at hl 3 rfl) ?_
      obtain ⟨r7, w8, w9, w10, w11, hc12, hf⟩ := ob5_some hf
      refine af_iW (wr := []) (ws2 := [(t_h, .inr (10, [.int t_baseWay, .int t_slip, .int t_low, .int t_high, .int t_unlike, .int t_alone, .long t_above, .long t_below, .ref t_edges_h, .ref t_lean_h, .ref t_word_h, .int t_layers, .ref t_layer_h, .ref t_least_h, .int t_sights, .ref t_sight_h, .int t_shadows, .ref t_shadow_h, .long w8, .long w9, .long w10, .long w11, .int t_spans, .ref t_spanLow_h, .ref t_spanHigh_h, .ref t_spanAt_h, .int t_found, .ref t_numbers_h, .int t_pairs, .ref t_pair_h, .ref t_most_h, .int t_rows, .ref t_row_h, .int t_notes, .ref t_under_h, .ref t_agreed_h])), (t_sight_h, .inl (cI, 160, .inl t_sight_a))]) (va_runV (As := [.int x1, .int x2, .int x3]) (rest := []) ⟨hx, hb, hml, hown, hts⟩ (k_X10_findSpeed l G cI cJ (t_h := t_h) (t_edges_h := t_edges_h) (t_lean_h := t_lean_h) (t_word_h := t_word_h) (t_layer_h := t_layer_h) (t_least_h := t_least_h) (t_sight_h := t_sight_h) (t_shadow_h := t_shadow_h) (t_spanLow_h := t_spanLow_h) (t_spanHigh_h := t_spanHigh_h) (t_spanAt_h := t_spanAt_h) (t_numbers_h := t_numbers_h) (t_pair_h := t_pair_h) (t_most_h := t_most_h) (t_row_h := t_row_h) (t_under_h := t_under_h) (t_agreed_h := t_agreed_h) (t_baseWay := t_baseWay) (t_slip := t_slip) (t_low := t_low) (t_high := t_high) (t_unlike := t_unlike) (t_alone := t_alone) (t_above := t_above) (t_below := t_below) (t_layers := t_layers) (t_sights := t_sights) (t_shadows := t_shadows) (t_endAbove := t_endAbove) (t_endBelow := t_endBelow) (t_speedAbove := t_speedAbove) (t_speedBelow := t_speedBelow) (t_spans := t_spans) (t_found := t_found) (t_pairs := t_pairs) (t_rows := t_rows) (t_notes := t_notes) (t_sight_a := t_sight_a) (x1 := x1) (x2 := x2) (x3 := x3) (sz := _) (hf := hc12)) (cwV 3 hts gX10_speed_X10_findSpeed rfl rfl rfl (by decide +kernel) ⟨Nat.le_of_ble_eq_true rfl, Nat.le_of_ble_eq_true rfl⟩) (preV0 (ci := 10) (q0 := 0) (C := RX10) (wc := [(t_h, .inr (10, [.int t_baseWay, .int t_slip, .int t_low, .int t_high, .int t_unlike, .int t_alone, .long t_above, .long t_below, .ref t_edges_h, .ref t_lean_h, .ref t_word_h, .int t_layers, .ref t_layer_h, .ref t_least_h, .int t_sights, .ref t_sight_h, .int t_shadows, .ref t_shadow_h, .long t_endAbove, .long t_endBelow, .long t_speedAbove, .long t_speedBelow, .int t_spans, .ref t_spanLow_h, .ref t_spanHigh_h, .ref t_spanAt_h, .int t_found, .ref t_numbers_h, .int t_pairs, .ref t_pair_h, .ref t_most_h, .int t_rows, .ref t_row_h, .int t_notes, .ref t_under_h, .ref t_agreed_h])), (t_sight_h, .inl (cI, 160, .inl t_sight_a))]) hK hP hD hN [0, 1] rfl rfl (by decide) rfl rfl) rfl rfl hl.1 rfl (lv_room (Nat.le_of_ble_eq_true rfl)) dX10_speed_25 ⟨Nat.zero_le _, Nat.zero_le _⟩) hP hD hS hA [0, 1] [] [0, 1] rfl rfl (by decide) (by decide) rfl rfl (by decide) (fun H locs hP hD hS => ?_)
      refine lv_if_eq (tgt := 46) hx hb dX10_speed_28 (by decide) (fun c13 => ?_) (fun c13 => ?_)
      · have hf := ift hf c13
        refine lv_iconst (v := 0) hx hb dX10_speed_46 (by decide) ?_
        exact hret 0 t_above t_below w8 w9 w10 w11 47 _ _ _ dX10_speed_47 hf hP hD hS
      · have hf := iff_ hf c13
        refine lv_aload_n hx hb dX10_speed_31 rfl (lv_at hl 0 rfl) ?_
        refine lv_aload_n hx hb dX10_speed_32 rfl (lv_at hl 0 rfl) ?_
        refine va_get (D := G) (ci := 10) (v := .long w10) (C := RX10) (T := TX10) (N := 36) hx hb hts iwX10 hown hK hP 0 rfl rfl 20 (by decide) fl_137 (fun _ h9 => h9) rfl dX10_speed_33 ?_
        refine lv_aload_n hx hb dX10_speed_36 rfl (lv_at hl 0 rfl) ?_
        refine va_get (D := G) (ci := 10) (v := .long w11) (C := RX10) (T := TX10) (N := 36) hx hb hts iwX10 hown hK hP 0 rfl rfl 21 (by decide) fl_140 (fun _ h9 => h9) rfl dX10_speed_37 ?_
        obtain ⟨r14, w15, w16, hc17, hf⟩ := ob3_some hf
        refine af_iW (wr := [(t_sight_h, .inl (cI, 160, .inl t_sight_a))]) (ws2 := [(t_h, .inr (10, [.int t_baseWay, .int t_slip, .int t_low, .int t_high, .int t_unlike, .int t_alone, .long w15, .long w16, .ref t_edges_h, .ref t_lean_h, .ref t_word_h, .int t_layers, .ref t_layer_h, .ref t_least_h, .int t_sights, .ref t_sight_h, .int t_shadows, .ref t_shadow_h, .long w8, .long w9, .long w10, .long w11, .int t_spans, .ref t_spanLow_h, .ref t_spanHigh_h, .ref t_spanAt_h, .int t_found, .ref t_numbers_h, .int t_pairs, .ref t_pair_h, .ref t_most_h, .int t_rows, .ref t_row_h, .int t_notes, .ref t_under_h, .ref t_agreed_h])), (t_sight_h, .inl (cI, 160, .inl t_sight_a))]) (va_runV (As := [.long w10, .long w11]) (rest := []) ⟨hx, hb, hml, hown, hts⟩ (k_X10_tells l G cI cJ (t_h := t_h) (t_edges_h := t_edges_h) (t_lean_h := t_lean_h) (t_word_h := t_word_h) (t_layer_h := t_layer_h) (t_least_h := t_least_h) (t_sight_h := t_sight_h) (t_shadow_h := t_shadow_h) (t_spanLow_h := t_spanLow_h) (t_spanHigh_h := t_spanHigh_h) (t_spanAt_h := t_spanAt_h) (t_numbers_h := t_numbers_h) (t_pair_h := t_pair_h) (t_most_h := t_most_h) (t_row_h := t_row_h) (t_under_h := t_under_h) (t_agreed_h := t_agreed_h) (t_baseWay := t_baseWay) (t_slip := t_slip) (t_low := t_low) (t_high := t_high) (t_unlike := t_unlike) (t_alone := t_alone) (t_above := t_above) (t_below := t_below) (t_layers := t_layers) (t_sights := t_sights) (t_shadows := t_shadows) (t_endAbove := w8) (t_endBelow := w9) (t_speedAbove := w10) (t_speedBelow := w11) (t_spans := t_spans) (t_found := t_found) (t_pairs := t_pairs) (t_rows := t_rows) (t_notes := t_notes) (x1 := w10) (x3 := w11) (sz := _) (hf := hc17)) (cwV 2 hts gX10_speed_X10_tells rfl rfl rfl (by decide +kernel) ⟨Nat.le_of_ble_eq_true rfl, Nat.le_of_ble_eq_true rfl⟩) (preV0 (ci := 10) (q0 := 0) (C := RX10) (wc := [(t_h, .inr (10, [.int t_baseWay, .int t_slip, .int t_low, .int t_high, .int t_unlike, .int t_alone, .long t_above, .long t_below, .ref t_edges_h, .ref t_lean_h, .ref t_word_h, .int t_layers, .ref t_layer_h, .ref t_least_h, .int t_sights, .ref t_sight_h, .int t_shadows, .ref t_shadow_h, .long w8, .long w9, .long w10, .long w11, .int t_spans, .ref t_spanLow_h, .ref t_spanHigh_h, .ref t_spanAt_h, .int t_found, .ref t_numbers_h, .int t_pairs, .ref t_pair_h, .ref t_most_h, .int t_rows, .ref t_row_h, .int t_notes, .ref t_under_h, .ref t_agreed_h]))]) hK hP hD hN [0] rfl rfl (by decide) rfl rfl) rfl rfl hl.1 rfl (lv_room (Nat.le_of_ble_eq_true rfl)) dX10_speed_40 ⟨Nat.zero_le _, Nat.zero_le _⟩) hP hD hS hA [0] [1] [1, 0] rfl rfl (by decide) (by decide) rfl rfl (by decide) (fun H locs hP hD hS => ?_)
        refine lv_goto (tgt := 47) hx hb dX10_speed_43 (by decide) ?_
        exact hret r14 w15 w16 w8 w9 w10 w11 47 _ _ _ dX10_speed_47 hf hP hD hS
    · have hf := ift hf c6
      refine lv_bipush (v := (-2)) hx hb dX10_speed_18 (by decide) ?_
      exact hret (-2) t_above t_below t_endAbove t_endBelow t_speedAbove t_speedBelow 20 _ _ _ dX10_speed_20 hf hP hD hS
set_option maxRecDepth 20000 in
theorem ggX10_areShadows_X10_in : GoodIn wsX10_areShadows wsX10_in := goodIn_r _ [6] (by decide +kernel) (by decide +kernel)
set_option maxRecDepth 20000 in
theorem gX10_areShadows_X10_in : GoodIn wsX10_areShadows (va_wsS RX10 89 yX10_in wsX10_in) := goodIn_app (goodIn_of _ (by decide +kernel)) ggX10_areShadows_X10_in
theorem dX10_areShadows_0 : decode cX10_areShadows 0 = .ok (.iload_n 1, 1) := by decide +kernel
theorem dX10_areShadows_1 : decode cX10_areShadows 1 = .ok (.iconst 0, 1) := by decide +kernel
theorem dX10_areShadows_2 : decode cX10_areShadows 2 = .ok (.aload_n 0, 1) := by decide +kernel
theorem dX10_areShadows_3 : decode cX10_areShadows 3 = .ok (.getfield 124, 3) := by decide +kernel
theorem dX10_areShadows_6 : decode cX10_areShadows 6 = .ok (.iconst 1, 1) := by decide +kernel
theorem dX10_areShadows_7 : decode cX10_areShadows 7 = .ok (.isub, 1) := by decide +kernel
theorem dX10_areShadows_8 : decode cX10_areShadows 8 = .ok (.invokestatic 89, 3) := by decide +kernel
theorem dX10_areShadows_11 : decode cX10_areShadows 11 = .ok (.ifCond .eq 63, 3) := by decide +kernel
theorem dX10_areShadows_14 : decode cX10_areShadows 14 = .ok (.iload_n 2, 1) := by decide +kernel
theorem dX10_areShadows_15 : decode cX10_areShadows 15 = .ok (.iconst 0, 1) := by decide +kernel
theorem dX10_areShadows_16 : decode cX10_areShadows 16 = .ok (.aload_n 0, 1) := by decide +kernel
theorem dX10_areShadows_17 : decode cX10_areShadows 17 = .ok (.getfield 124, 3) := by decide +kernel
theorem dX10_areShadows_20 : decode cX10_areShadows 20 = .ok (.iconst 1, 1) := by decide +kernel
theorem dX10_areShadows_21 : decode cX10_areShadows 21 = .ok (.isub, 1) := by decide +kernel
theorem dX10_areShadows_22 : decode cX10_areShadows 22 = .ok (.invokestatic 89, 3) := by decide +kernel
theorem dX10_areShadows_25 : decode cX10_areShadows 25 = .ok (.ifCond .eq 49, 3) := by decide +kernel
theorem dX10_areShadows_28 : decode cX10_areShadows 28 = .ok (.aload_n 0, 1) := by decide +kernel
theorem dX10_areShadows_29 : decode cX10_areShadows 29 = .ok (.getfield 28, 3) := by decide +kernel
theorem dX10_areShadows_32 : decode cX10_areShadows 32 = .ok (.iconst 4, 1) := by decide +kernel
theorem dX10_areShadows_33 : decode cX10_areShadows 33 = .ok (.iload_n 1, 1) := by decide +kernel
theorem dX10_areShadows_34 : decode cX10_areShadows 34 = .ok (.imul, 1) := by decide +kernel
theorem dX10_areShadows_35 : decode cX10_areShadows 35 = .ok (.iaload, 1) := by decide +kernel
theorem dX10_areShadows_36 : decode cX10_areShadows 36 = .ok (.aload_n 0, 1) := by decide +kernel
theorem dX10_areShadows_37 : decode cX10_areShadows 37 = .ok (.getfield 28, 3) := by decide +kernel
theorem dX10_areShadows_40 : decode cX10_areShadows 40 = .ok (.iconst 4, 1) := by decide +kernel
theorem dX10_areShadows_41 : decode cX10_areShadows 41 = .ok (.iload_n 2, 1) := by decide +kernel
theorem dX10_areShadows_42 : decode cX10_areShadows 42 = .ok (.imul, 1) := by decide +kernel
theorem dX10_areShadows_43 : decode cX10_areShadows 43 = .ok (.iaload, 1) := by decide +kernel
theorem dX10_areShadows_44 : decode cX10_areShadows 44 = .ok (.if_icmp .ne 30, 3) := by decide +kernel
theorem dX10_areShadows_47 : decode cX10_areShadows 47 = .ok (.aload_n 0, 1) := by decide +kernel
theorem dX10_areShadows_48 : decode cX10_areShadows 48 = .ok (.getfield 28, 3) := by decide +kernel
theorem dX10_areShadows_51 : decode cX10_areShadows 51 = .ok (.iconst 4, 1) := by decide +kernel
theorem dX10_areShadows_52 : decode cX10_areShadows 52 = .ok (.iload_n 1, 1) := by decide +kernel
theorem dX10_areShadows_53 : decode cX10_areShadows 53 = .ok (.imul, 1) := by decide +kernel
theorem dX10_areShadows_54 : decode cX10_areShadows 54 = .ok (.iconst 1, 1) := by decide +kernel
theorem dX10_areShadows_55 : decode cX10_areShadows 55 = .ok (.iadd, 1) := by decide +kernel
theorem dX10_areShadows_56 : decode cX10_areShadows 56 = .ok (.iaload, 1) := by decide +kernel
theorem dX10_areShadows_57 : decode cX10_areShadows 57 = .ok (.aload_n 0, 1) := by decide +kernel
theorem dX10_areShadows_58 : decode cX10_areShadows 58 = .ok (.getfield 28, 3) := by decide +kernel
theorem dX10_areShadows_61 : decode cX10_areShadows 61 = .ok (.iconst 4, 1) := by decide +kernel
theorem dX10_areShadows_62 : decode cX10_areShadows 62 = .ok (.iload_n 2, 1) := by decide +kernel
theorem dX10_areShadows_63 : decode cX10_areShadows 63 = .ok (.imul, 1) := by decide +kernel
theorem dX10_areShadows_64 : decode cX10_areShadows 64 = .ok (.iconst 1, 1) := by decide +kernel
theorem dX10_areShadows_65 : decode cX10_areShadows 65 = .ok (.iadd, 1) := by decide +kernel
theorem dX10_areShadows_66 : decode cX10_areShadows 66 = .ok (.iaload, 1) := by decide +kernel
theorem dX10_areShadows_67 : decode cX10_areShadows 67 = .ok (.if_icmp .eq 7, 3) := by decide +kernel
theorem dX10_areShadows_70 : decode cX10_areShadows 70 = .ok (.iconst 1, 1) := by decide +kernel
theorem dX10_areShadows_71 : decode cX10_areShadows 71 = .ok (.goto 4, 3) := by decide +kernel
theorem dX10_areShadows_74 : decode cX10_areShadows 74 = .ok (.iconst 0, 1) := by decide +kernel
theorem dX10_areShadows_75 : decode cX10_areShadows 75 = .ok (.ireturn, 1) := by decide +kernel
set_option maxRecDepth 100000 in
def fX10_areShadows (x1 : Int32) (x2 : Int32) (t_shadows : Int32) (t_shadow_a : Nat → Int32) : Option (Bool) :=
  ob (fX10_in x1 0 (t_shadows - 1)) fun r1 =>
  if (b2i r1) = 0 then
    some false
  else
    ob (fX10_in x2 0 (t_shadows - 1)) fun r4 =>
    if (b2i r4) = 0 then
      some false
    else
      gd (bnd (4 * x1) 160) <|
      gd (bnd (4 * x2) 160) <|
      if (t_shadow_a (Int32.toNatClampNeg (4 * x1))) = (t_shadow_a (Int32.toNatClampNeg (4 * x2))) then
        gd (bnd ((4 * x1) + 1) 160) <|
        gd (bnd ((4 * x2) + 1) 160) <|
        if (t_shadow_a (Int32.toNatClampNeg ((4 * x1) + 1))) = (t_shadow_a (Int32.toNatClampNeg ((4 * x2) + 1))) then
          some false
        else
          some true
      else
        some false
abbrev rmX10_areShadows : Room := { frames := 1, cells := 0, slots := 0, locals := 22 }
theorem iwX10_areShadows_X10 : ∀ w ∈ u_ws RX10 TX10 36, w ∈ wsX10_areShadows := by decide +kernel
set_option maxHeartbeats 4000000 in
set_option maxRecDepth 100000 in
theorem k_X10_areShadows (l : Launch) (G : va_G) (cI cJ : ClassId) (t_h t_edges_h t_lean_h t_word_h t_layer_h t_least_h t_sight_h t_shadow_h t_spanLow_h t_spanHigh_h t_spanAt_h t_numbers_h t_pair_h t_most_h t_row_h t_under_h t_agreed_h : Nat) (sz : Nat) (t_baseWay : Int32) (t_slip : Int32) (t_low : Int32) (t_high : Int32) (t_unlike : Int32) (t_alone : Int32) (t_above : Int64) (t_below : Int64) (t_layers : Int32) (t_sights : Int32) (t_shadows : Int32) (t_endAbove : Int64) (t_endBelow : Int64) (t_speedAbove : Int64) (t_speedBelow : Int64) (t_spans : Int32) (t_found : Int32) (t_pairs : Int32) (t_rows : Int32) (t_notes : Int32) (t_shadow_a : Nat → Int32) (x1 : Int32) (x2 : Int32) {o_r : Bool} (hf : fX10_areShadows x1 x2 t_shadows t_shadow_a = some o_r) : MetI l yX10_areShadows wsX10_areShadows rmX10_areShadows [.ref t_h, .int x1, .int x2] G cI cJ [(t_h, .inr (10, [.int t_baseWay, .int t_slip, .int t_low, .int t_high, .int t_unlike, .int t_alone, .long t_above, .long t_below, .ref t_edges_h, .ref t_lean_h, .ref t_word_h, .int t_layers, .ref t_layer_h, .ref t_least_h, .int t_sights, .ref t_sight_h, .int t_shadows, .ref t_shadow_h, .long t_endAbove, .long t_endBelow, .long t_speedAbove, .long t_speedBelow, .int t_spans, .ref t_spanLow_h, .ref t_spanHigh_h, .ref t_spanAt_h, .int t_found, .ref t_numbers_h, .int t_pairs, .ref t_pair_h, .ref t_most_h, .int t_rows, .ref t_row_h, .int t_notes, .ref t_under_h, .ref t_agreed_h])), (t_shadow_h, .inl (cI, 160, .inl t_shadow_a))] [(t_h, .inr (10, [.int t_baseWay, .int t_slip, .int t_low, .int t_high, .int t_unlike, .int t_alone, .long t_above, .long t_below, .ref t_edges_h, .ref t_lean_h, .ref t_word_h, .int t_layers, .ref t_layer_h, .ref t_least_h, .int t_sights, .ref t_sight_h, .int t_shadows, .ref t_shadow_h, .long t_endAbove, .long t_endBelow, .long t_speedAbove, .long t_speedBelow, .int t_spans, .ref t_spanLow_h, .ref t_spanHigh_h, .ref t_spanAt_h, .int t_found, .ref t_numbers_h, .int t_pairs, .ref t_pair_h, .ref t_most_h, .int t_rows, .ref t_row_h, .int t_notes, .ref t_under_h, .ref t_agreed_h])), (t_shadow_h, .inl (cI, 160, .inl t_shadow_a))] sz (b2i o_r) := by
  refine en_0 (l := l) (y := yX10_areShadows) (wsl := wsX10_areShadows) (rm := rmX10_areShadows) (av := [.ref t_h, .int x1, .int x2]) (G := G) (cI := cI) (cJ := cJ) (w0 := [(t_h, .inr (10, [.int t_baseWay, .int t_slip, .int t_low, .int t_high, .int t_unlike, .int t_alone, .long t_above, .long t_below, .ref t_edges_h, .ref t_lean_h, .ref t_word_h, .int t_layers, .ref t_layer_h, .ref t_least_h, .int t_sights, .ref t_sight_h, .int t_shadows, .ref t_shadow_h, .long t_endAbove, .long t_endBelow, .long t_speedAbove, .long t_speedBelow, .int t_spans, .ref t_spanLow_h, .ref t_spanHigh_h, .ref t_spanAt_h, .int t_found, .ref t_numbers_h, .int t_pairs, .ref t_pair_h, .ref t_most_h, .int t_rows, .ref t_row_h, .int t_notes, .ref t_under_h, .ref t_agreed_h])), (t_shadow_h, .inl (cI, 160, .inl t_shadow_a))]) (sz := sz) (Qf := fun A => Qi0 G cI cJ [(t_h, .inr (10, [.int t_baseWay, .int t_slip, .int t_low, .int t_high, .int t_unlike, .int t_alone, .long t_above, .long t_below, .ref t_edges_h, .ref t_lean_h, .ref t_word_h, .int t_layers, .ref t_layer_h, .ref t_least_h, .int t_sights, .ref t_sight_h, .int t_shadows, .ref t_shadow_h, .long t_endAbove, .long t_endBelow, .long t_speedAbove, .long t_speedBelow, .int t_spans, .ref t_spanLow_h, .ref t_spanHigh_h, .ref t_spanAt_h, .int t_found, .ref t_numbers_h, .int t_pairs, .ref t_pair_h, .ref t_most_h, .int t_rows, .ref t_row_h, .int t_notes, .ref t_under_h, .ref t_agreed_h])), (t_shadow_h, .inl (cI, 160, .inl t_shadow_a))] (b2i o_r) A) (cc := cX10_areShadows) (maxL := 3) (ret := (some .boolean)) RX10 (by decide +kernel) rfl rfl (Nat.le_of_ble_eq_true rfl) ?_
  intro p e s m args below meth c A ls Q hQ hx hb hr hts hown hlocks hml hN hK hP hD hS hA hl
  have hl : lv_has ls 3 [(0, .ref t_h), (1, .int x1), (2, .int x2)] := hl
  have iwX10 := iwX10_areShadows_X10
  have fl_28 := hts (.fieldLink RX10 28 "CloudOfficeModel" "shadow" "[I") (by decide +kernel)
  have fl_124 := hts (.fieldLink RX10 124 "CloudOfficeModel" "shadows" "I") (by decide +kernel)
  have hret : ∀ (o_r9 : Bool) (pc : Nat) (H : Heap) (locs : List Loc) (ls : Array Slot), decode cX10_areShadows pc = .ok (.ireturn, 1) → some o_r9 = some o_r → va_P G vwCl [(t_h, .inr (10, [.int t_baseWay, .int t_slip, .int t_low, .int t_high, .int t_unlike, .int t_alone, .long t_above, .long t_below, .ref t_edges_h, .ref t_lean_h, .ref t_word_h, .int t_layers, .ref t_layer_h, .ref t_least_h, .int t_sights, .ref t_sight_h, .int t_shadows, .ref t_shadow_h, .long t_endAbove, .long t_endBelow, .long t_speedAbove, .long t_speedBelow, .int t_spans, .ref t_spanLow_h, .ref t_spanHigh_h, .ref t_spanAt_h, .int t_found, .ref t_numbers_h, .int t_pairs, .ref t_pair_h, .ref t_most_h, .int t_rows, .ref t_row_h, .int t_notes, .ref t_under_h, .ref t_agreed_h])), (t_shadow_h, .inl (cI, 160, .inl t_shadow_a))] H → va_D A [(t_h, .inr (10, [.int t_baseWay, .int t_slip, .int t_low, .int t_high, .int t_unlike, .int t_alone, .long t_above, .long t_below, .ref t_edges_h, .ref t_lean_h, .ref t_word_h, .int t_layers, .ref t_layer_h, .ref t_least_h, .int t_sights, .ref t_sight_h, .int t_shadows, .ref t_shadow_h, .long t_endAbove, .long t_endBelow, .long t_speedAbove, .long t_speedBelow, .int t_spans, .ref t_spanLow_h, .ref t_spanHigh_h, .ref t_spanAt_h, .int t_found, .ref t_numbers_h, .int t_pairs, .ref t_pair_h, .ref t_most_h, .int t_rows, .ref t_row_h, .int t_notes, .ref t_under_h, .ref t_agreed_h])), (t_shadow_h, .inl (cI, 160, .inl t_shadow_a))] → va_S A s.heap H locs → W p l e rmX10_areShadows s m args below meth c H locs 0 0 Q (F0 m pc ls [.int (b2i o_r9)]) := by
    intro o_r9 pc H locs ls hdg he hP hD hS
    cases he
    subst hQ
    exact rt_z hx hb hr hlocks hK hP hD hS (b2i_narrow _) rfl hdg
  clear hQ
  unfold fX10_areShadows at hf
  refine lv_iload_n hx hb dX10_areShadows_0 rfl (lv_at hl 1 rfl) ?_
  refine lv_iconst (v := 0) hx hb dX10_areShadows_1 (by decide) ?_
  refine lv_aload_n hx hb dX10_areShadows_2 rfl (lv_at hl 0 rfl) ?_
  refine va_get (D := G) (ci := 10) (v := .int t_shadows) (C := RX10) (T := TX10) (N := 36) hx hb hts iwX10 hown hK hP 0 rfl rfl 16 (by decide) fl_124 (fun _ h9 => h9) rfl dX10_areShadows_3 ?_
  refine lv_iconst (v := 1) hx hb dX10_areShadows_6 (by decide) ?_
  refine lv_isub hx hb dX10_areShadows_7 ?_
  obtain ⟨r1, hc2, hf⟩ := ob_some hf
  refine af_iR (va_runS (As := [.int x1, .int 0, .int (t_shadows - 1)]) (rest := []) ⟨hx, hb, hml, hown, hts⟩ (k_X10_in l G cI cJ (x0 := x1) (x1 := 0) (x2 := (t_shadows - 1)) (sz := _) (hf := hc2)) (va_cwS 3 hts gX10_areShadows_X10_in rfl rfl rfl (by decide +kernel) ⟨Nat.le_of_ble_eq_true rfl, Nat.le_of_ble_eq_true rfl⟩) (preS0 (wc := []) hK hP hD hN [] rfl rfl (by decide)) rfl rfl hl.1 rfl (lv_room (Nat.le_of_ble_eq_true rfl)) dX10_areShadows_8 ⟨Nat.zero_le _, Nat.zero_le _⟩) hP hD hS hA [] rfl (fun H locs hP hS => ?_)
  refine lv_if_eq (tgt := 74) hx hb dX10_areShadows_11 (by decide) (fun c3 => ?_) (fun c3 => ?_)
  · have hf := ift hf c3
    refine lv_iconst (v := 0) hx hb dX10_areShadows_74 (by decide) ?_
    exact hret false 75 _ _ _ dX10_areShadows_75 hf hP hD hS
  · have hf := iff_ hf c3
    refine lv_iload_n hx hb dX10_areShadows_14 rfl (lv_at hl 2 rfl) ?_
    refine lv_iconst (v := 0) hx hb dX10_areShadows_15 (by decide) ?_
    refine lv_aload_n hx hb dX10_areShadows_16 rfl (lv_at hl 0 rfl) ?_
    refine va_get (D := G) (ci := 10) (v := .int t_shadows) (C := RX10) (T := TX10) (N := 36) hx hb hts iwX10 hown hK hP 0 rfl rfl 16 (by decide) fl_124 (fun _ h9 => h9) rfl dX10_areShadows_17 ?_
    refine lv_iconst (v := 1) hx hb dX10_areShadows_20 (by decide) ?_
    refine lv_isub hx hb dX10_areShadows_21 ?_
    obtain ⟨r4, hc5, hf⟩ := ob_some hf
    refine af_iR (va_runS (As := [.int x2, .int 0, .int (t_shadows - 1)]) (rest := []) ⟨hx, hb, hml, hown, hts⟩ (k_X10_in l G cI cJ (x0 := x2) (x1 := 0) (x2 := (t_shadows - 1)) (sz := _) (hf := hc5)) (va_cwS 3 hts gX10_areShadows_X10_in rfl rfl rfl (by decide +kernel) ⟨Nat.le_of_ble_eq_true rfl, Nat.le_of_ble_eq_true rfl⟩) (preS0 (wc := []) hK hP hD hN [] rfl rfl (by decide)) rfl rfl hl.1 rfl (lv_room (Nat.le_of_ble_eq_true rfl)) dX10_areShadows_22 ⟨Nat.zero_le _, Nat.zero_le _⟩) hP hD hS hA [] rfl (fun H locs hP hS => ?_)
    refine lv_if_eq (tgt := 74) hx hb dX10_areShadows_25 (by decide) (fun c6 => ?_) (fun c6 => ?_)
    · have hf := ift hf c6
      refine lv_iconst (v := 0) hx hb dX10_areShadows_74 (by decide) ?_
      exact hret false 75 _ _ _ dX10_areShadows_75 hf hP hD hS
    · have hf := iff_ hf c6
      refine lv_aload_n hx hb dX10_areShadows_28 rfl (lv_at hl 0 rfl) ?_
      refine va_get (D := G) (ci := 10) (v := .ref t_shadow_h) (C := RX10) (T := TX10) (N := 36) hx hb hts iwX10 hown hK hP 0 rfl rfl 17 (by decide) fl_28 (fun _ h9 => h9) rfl dX10_areShadows_29 ?_
      refine lv_iconst (v := 4) hx hb dX10_areShadows_32 (by decide) ?_
      refine lv_iload_n hx hb dX10_areShadows_33 rfl (lv_at hl 1 rfl) ?_
      refine lv_imul hx hb dX10_areShadows_34 ?_
      obtain ⟨h7, hf⟩ := gd_some hf
      refine va_iald hx hb hK hP 1 0 rfl rfl (bnd_in h7) dX10_areShadows_35 ?_
      refine lv_aload_n hx hb dX10_areShadows_36 rfl (lv_at hl 0 rfl) ?_
      refine va_get (D := G) (ci := 10) (v := .ref t_shadow_h) (C := RX10) (T := TX10) (N := 36) hx hb hts iwX10 hown hK hP 0 rfl rfl 17 (by decide) fl_28 (fun _ h9 => h9) rfl dX10_areShadows_37 ?_
      refine lv_iconst (v := 4) hx hb dX10_areShadows_40 (by decide) ?_
      refine lv_iload_n hx hb dX10_areShadows_41 rfl (lv_at hl 2 rfl) ?_
      refine lv_imul hx hb dX10_areShadows_42 ?_
      obtain ⟨h8, hf⟩ := gd_some hf
      refine va_iald hx hb hK hP 1 0 rfl rfl (bnd_in h8) dX10_areShadows_43 ?_
      refine lv_icmp_ne (tgt := 74) hx hb dX10_areShadows_44 (by decide) (fun c9 => ?_) (fun c9 => ?_)
      · have hf := iff_ hf c9
        refine lv_iconst (v := 0) hx hb dX10_areShadows_74 (by decide) ?_
        exact hret false 75 _ _ _ dX10_areShadows_75 hf hP hD hS
      · have hf := ift hf c9
        refine lv_aload_n hx hb dX10_areShadows_47 rfl (lv_at hl 0 rfl) ?_
        refine va_get (D := G) (ci := 10) (v := .ref t_shadow_h) (C := RX10) (T := TX10) (N := 36) hx hb hts iwX10 hown hK hP 0 rfl rfl 17 (by decide) fl_28 (fun _ h9 => h9) rfl dX10_areShadows_48 ?_
        refine lv_iconst (v := 4) hx hb dX10_areShadows_51 (by decide) ?_
        refine lv_iload_n hx hb dX10_areShadows_52 rfl (lv_at hl 1 rfl) ?_
        refine lv_imul hx hb dX10_areShadows_53 ?_
        refine lv_iconst (v := 1) hx hb dX10_areShadows_54 (by decide) ?_
        refine lv_iadd hx hb dX10_areShadows_55 ?_
        obtain ⟨h10, hf⟩ := gd_some hf
        refine va_iald hx hb hK hP 1 0 rfl rfl (bnd_in h10) dX10_areShadows_56 ?_
        refine lv_aload_n hx hb dX10_areShadows_57 rfl (lv_at hl 0 rfl) ?_
        refine va_get (D := G) (ci := 10) (v := .ref t_shadow_h) (C := RX10) (T := TX10) (N := 36) hx hb hts iwX10 hown hK hP 0 rfl rfl 17 (by decide) fl_28 (fun _ h9 => h9) rfl dX10_areShadows_58 ?_
        refine lv_iconst (v := 4) hx hb dX10_areShadows_61 (by decide) ?_
        refine lv_iload_n hx hb dX10_areShadows_62 rfl (lv_at hl 2 rfl) ?_
        refine lv_imul hx hb dX10_areShadows_63 ?_
        refine lv_iconst (v := 1) hx hb dX10_areShadows_64 (by decide) ?_
        refine lv_iadd hx hb dX10_areShadows_65 ?_
        obtain ⟨h11, hf⟩ := gd_some hf
        refine va_iald hx hb hK hP 1 0 rfl rfl (bnd_in h11) dX10_areShadows_66 ?_
        refine lv_icmp_eq (tgt := 74) hx hb dX10_areShadows_67 (by decide) (fun c12 => ?_) (fun c12 => ?_)
        · have hf := ift hf c12
          refine lv_iconst (v := 0) hx hb dX10_areShadows_74 (by decide) ?_
          exact hret false 75 _ _ _ dX10_areShadows_75 hf hP hD hS
        · have hf := iff_ hf c12
          refine lv_iconst (v := 1) hx hb dX10_areShadows_70 (by decide) ?_
          refine lv_goto (tgt := 75) hx hb dX10_areShadows_71 (by decide) ?_
          exact hret true 75 _ _ _ dX10_areShadows_75 hf hP hD hS
set_option maxRecDepth 20000 in
theorem ggX10_findShade_X10_speeds : GoodIn wsX10_findShade wsX10_speeds := goodIn_r _ [6, 7, 8, 9, 10, 5, 11, 12, 13, 14, 15, 16, 17, 18, 19, 20, 21, 22, 23, 24, 25, 26, 27, 28, 29, 30, 31, 32, 33, 34, 35, 36, 37, 38, 39, 40, 41, 42, 43, 44, 45, 46, 47] (by decide +kernel) (by decide +kernel)
set_option maxRecDepth 20000 in
theorem gX10_findShade_X10_speeds : GoodIn wsX10_findShade (wsV RX10 143 RX10 yX10_speeds wsX10_speeds) := goodIn_app (goodIn_of _ (by decide +kernel)) ggX10_findShade_X10_speeds
theorem dX10_findShade_0 : decode cX10_findShade 0 = .ok (.aload_n 0, 1) := by decide +kernel
theorem dX10_findShade_1 : decode cX10_findShade 1 = .ok (.getfield 28, 3) := by decide +kernel
theorem dX10_findShade_4 : decode cX10_findShade 4 = .ok (.iconst 4, 1) := by decide +kernel
theorem dX10_findShade_5 : decode cX10_findShade 5 = .ok (.iload_n 1, 1) := by decide +kernel
theorem dX10_findShade_6 : decode cX10_findShade 6 = .ok (.imul, 1) := by decide +kernel
theorem dX10_findShade_7 : decode cX10_findShade 7 = .ok (.iconst 1, 1) := by decide +kernel
theorem dX10_findShade_8 : decode cX10_findShade 8 = .ok (.iadd, 1) := by decide +kernel
theorem dX10_findShade_9 : decode cX10_findShade 9 = .ok (.iaload, 1) := by decide +kernel
theorem dX10_findShade_10 : decode cX10_findShade 10 = .ok (.aload_n 0, 1) := by decide +kernel
theorem dX10_findShade_11 : decode cX10_findShade 11 = .ok (.getfield 28, 3) := by decide +kernel
theorem dX10_findShade_14 : decode cX10_findShade 14 = .ok (.iconst 4, 1) := by decide +kernel
theorem dX10_findShade_15 : decode cX10_findShade 15 = .ok (.iload_n 2, 1) := by decide +kernel
theorem dX10_findShade_16 : decode cX10_findShade 16 = .ok (.imul, 1) := by decide +kernel
theorem dX10_findShade_17 : decode cX10_findShade 17 = .ok (.iconst 1, 1) := by decide +kernel
theorem dX10_findShade_18 : decode cX10_findShade 18 = .ok (.iadd, 1) := by decide +kernel
theorem dX10_findShade_19 : decode cX10_findShade 19 = .ok (.iaload, 1) := by decide +kernel
theorem dX10_findShade_20 : decode cX10_findShade 20 = .ok (.if_icmp .le 7, 3) := by decide +kernel
theorem dX10_findShade_23 : decode cX10_findShade 23 = .ok (.iload_n 1, 1) := by decide +kernel
theorem dX10_findShade_24 : decode cX10_findShade 24 = .ok (.goto 4, 3) := by decide +kernel
theorem dX10_findShade_27 : decode cX10_findShade 27 = .ok (.iload_n 2, 1) := by decide +kernel
theorem dX10_findShade_28 : decode cX10_findShade 28 = .ok (.istore 4, 2) := by decide +kernel
theorem dX10_findShade_30 : decode cX10_findShade 30 = .ok (.iload 4, 2) := by decide +kernel
theorem dX10_findShade_32 : decode cX10_findShade 32 = .ok (.iload_n 1, 1) := by decide +kernel
theorem dX10_findShade_33 : decode cX10_findShade 33 = .ok (.if_icmp .ne 7, 3) := by decide +kernel
theorem dX10_findShade_36 : decode cX10_findShade 36 = .ok (.iload_n 2, 1) := by decide +kernel
theorem dX10_findShade_37 : decode cX10_findShade 37 = .ok (.goto 4, 3) := by decide +kernel
theorem dX10_findShade_40 : decode cX10_findShade 40 = .ok (.iload_n 1, 1) := by decide +kernel
theorem dX10_findShade_41 : decode cX10_findShade 41 = .ok (.istore 5, 2) := by decide +kernel
theorem dX10_findShade_43 : decode cX10_findShade 43 = .ok (.aload_n 0, 1) := by decide +kernel
theorem dX10_findShade_44 : decode cX10_findShade 44 = .ok (.getfield 28, 3) := by decide +kernel
theorem dX10_findShade_47 : decode cX10_findShade 47 = .ok (.iconst 4, 1) := by decide +kernel
theorem dX10_findShade_48 : decode cX10_findShade 48 = .ok (.iload_n 1, 1) := by decide +kernel
theorem dX10_findShade_49 : decode cX10_findShade 49 = .ok (.imul, 1) := by decide +kernel
theorem dX10_findShade_50 : decode cX10_findShade 50 = .ok (.iconst 3, 1) := by decide +kernel
theorem dX10_findShade_51 : decode cX10_findShade 51 = .ok (.iadd, 1) := by decide +kernel
theorem dX10_findShade_52 : decode cX10_findShade 52 = .ok (.iaload, 1) := by decide +kernel
theorem dX10_findShade_53 : decode cX10_findShade 53 = .ok (.aload_n 0, 1) := by decide +kernel
theorem dX10_findShade_54 : decode cX10_findShade 54 = .ok (.getfield 28, 3) := by decide +kernel
theorem dX10_findShade_57 : decode cX10_findShade 57 = .ok (.iconst 4, 1) := by decide +kernel
theorem dX10_findShade_58 : decode cX10_findShade 58 = .ok (.iload_n 2, 1) := by decide +kernel
theorem dX10_findShade_59 : decode cX10_findShade 59 = .ok (.imul, 1) := by decide +kernel
theorem dX10_findShade_60 : decode cX10_findShade 60 = .ok (.iconst 3, 1) := by decide +kernel
theorem dX10_findShade_61 : decode cX10_findShade 61 = .ok (.iadd, 1) := by decide +kernel
theorem dX10_findShade_62 : decode cX10_findShade 62 = .ok (.iaload, 1) := by decide +kernel
theorem dX10_findShade_63 : decode cX10_findShade 63 = .ok (.iadd, 1) := by decide +kernel
theorem dX10_findShade_64 : decode cX10_findShade 64 = .ok (.istore 6, 2) := by decide +kernel
theorem dX10_findShade_66 : decode cX10_findShade 66 = .ok (.aload_n 0, 1) := by decide +kernel
theorem dX10_findShade_67 : decode cX10_findShade 67 = .ok (.getfield 28, 3) := by decide +kernel
theorem dX10_findShade_70 : decode cX10_findShade 70 = .ok (.iconst 4, 1) := by decide +kernel
theorem dX10_findShade_71 : decode cX10_findShade 71 = .ok (.iload 4, 2) := by decide +kernel
theorem dX10_findShade_73 : decode cX10_findShade 73 = .ok (.imul, 1) := by decide +kernel
theorem dX10_findShade_74 : decode cX10_findShade 74 = .ok (.iconst 2, 1) := by decide +kernel
theorem dX10_findShade_75 : decode cX10_findShade 75 = .ok (.iadd, 1) := by decide +kernel
theorem dX10_findShade_76 : decode cX10_findShade 76 = .ok (.iaload, 1) := by decide +kernel
theorem dX10_findShade_77 : decode cX10_findShade 77 = .ok (.aload_n 0, 1) := by decide +kernel
theorem dX10_findShade_78 : decode cX10_findShade 78 = .ok (.getfield 28, 3) := by decide +kernel
theorem dX10_findShade_81 : decode cX10_findShade 81 = .ok (.iconst 4, 1) := by decide +kernel
theorem dX10_findShade_82 : decode cX10_findShade 82 = .ok (.iload 5, 2) := by decide +kernel
theorem dX10_findShade_84 : decode cX10_findShade 84 = .ok (.imul, 1) := by decide +kernel
theorem dX10_findShade_85 : decode cX10_findShade 85 = .ok (.iconst 2, 1) := by decide +kernel
theorem dX10_findShade_86 : decode cX10_findShade 86 = .ok (.iadd, 1) := by decide +kernel
theorem dX10_findShade_87 : decode cX10_findShade 87 = .ok (.iaload, 1) := by decide +kernel
theorem dX10_findShade_88 : decode cX10_findShade 88 = .ok (.isub, 1) := by decide +kernel
theorem dX10_findShade_89 : decode cX10_findShade 89 = .ok (.iload_n 3, 1) := by decide +kernel
theorem dX10_findShade_90 : decode cX10_findShade 90 = .ok (.ifCond .ne 7, 3) := by decide +kernel
theorem dX10_findShade_93 : decode cX10_findShade 93 = .ok (.iconst 0, 1) := by decide +kernel
theorem dX10_findShade_94 : decode cX10_findShade 94 = .ok (.goto 16, 3) := by decide +kernel
theorem dX10_findShade_97 : decode cX10_findShade 97 = .ok (.iload_n 3, 1) := by decide +kernel
theorem dX10_findShade_98 : decode cX10_findShade 98 = .ok (.iconst 1, 1) := by decide +kernel
theorem dX10_findShade_99 : decode cX10_findShade 99 = .ok (.if_icmp .ne 9, 3) := by decide +kernel
theorem dX10_findShade_102 : decode cX10_findShade 102 = .ok (.iload 6, 2) := by decide +kernel
theorem dX10_findShade_104 : decode cX10_findShade 104 = .ok (.ineg, 1) := by decide +kernel
theorem dX10_findShade_105 : decode cX10_findShade 105 = .ok (.goto 5, 3) := by decide +kernel
theorem dX10_findShade_108 : decode cX10_findShade 108 = .ok (.iload 6, 2) := by decide +kernel
theorem dX10_findShade_110 : decode cX10_findShade 110 = .ok (.iadd, 1) := by decide +kernel
theorem dX10_findShade_111 : decode cX10_findShade 111 = .ok (.i2l, 1) := by decide +kernel
theorem dX10_findShade_112 : decode cX10_findShade 112 = .ok (.lstore 7, 2) := by decide +kernel
theorem dX10_findShade_114 : decode cX10_findShade 114 = .ok (.aload_n 0, 1) := by decide +kernel
theorem dX10_findShade_115 : decode cX10_findShade 115 = .ok (.lload 7, 2) := by decide +kernel
theorem dX10_findShade_117 : decode cX10_findShade 117 = .ok (.lconst 1, 1) := by decide +kernel
theorem dX10_findShade_118 : decode cX10_findShade 118 = .ok (.lconst 0, 1) := by decide +kernel
theorem dX10_findShade_119 : decode cX10_findShade 119 = .ok (.lconst 1, 1) := by decide +kernel
theorem dX10_findShade_120 : decode cX10_findShade 120 = .ok (.aload_n 0, 1) := by decide +kernel
theorem dX10_findShade_121 : decode cX10_findShade 121 = .ok (.getfield 28, 3) := by decide +kernel
theorem dX10_findShade_124 : decode cX10_findShade 124 = .ok (.iconst 4, 1) := by decide +kernel
theorem dX10_findShade_125 : decode cX10_findShade 125 = .ok (.iload 4, 2) := by decide +kernel
theorem dX10_findShade_127 : decode cX10_findShade 127 = .ok (.imul, 1) := by decide +kernel
theorem dX10_findShade_128 : decode cX10_findShade 128 = .ok (.iconst 1, 1) := by decide +kernel
theorem dX10_findShade_129 : decode cX10_findShade 129 = .ok (.iadd, 1) := by decide +kernel
theorem dX10_findShade_130 : decode cX10_findShade 130 = .ok (.iaload, 1) := by decide +kernel
theorem dX10_findShade_131 : decode cX10_findShade 131 = .ok (.aload_n 0, 1) := by decide +kernel
theorem dX10_findShade_132 : decode cX10_findShade 132 = .ok (.getfield 28, 3) := by decide +kernel
theorem dX10_findShade_135 : decode cX10_findShade 135 = .ok (.iconst 4, 1) := by decide +kernel
theorem dX10_findShade_136 : decode cX10_findShade 136 = .ok (.iload 5, 2) := by decide +kernel
theorem dX10_findShade_138 : decode cX10_findShade 138 = .ok (.imul, 1) := by decide +kernel
theorem dX10_findShade_139 : decode cX10_findShade 139 = .ok (.iconst 1, 1) := by decide +kernel
theorem dX10_findShade_140 : decode cX10_findShade 140 = .ok (.iadd, 1) := by decide +kernel
theorem dX10_findShade_141 : decode cX10_findShade 141 = .ok (.iaload, 1) := by decide +kernel
theorem dX10_findShade_142 : decode cX10_findShade 142 = .ok (.isub, 1) := by decide +kernel
theorem dX10_findShade_143 : decode cX10_findShade 143 = .ok (.invokevirtual 143, 3) := by decide +kernel
theorem dX10_findShade_146 : decode cX10_findShade 146 = .ok (.return_, 1) := by decide +kernel
set_option maxRecDepth 100000 in
def fX10_findShade (x1 : Int32) (x2 : Int32) (x3 : Int32) (t_speedAbove : Int64) (t_speedBelow : Int64) (t_shadow_a : Nat → Int32) : Option (Int64 × Int64) :=
  gd (bnd ((4 * x1) + 1) 160) <|
  gd (bnd ((4 * x2) + 1) 160) <|
  ob (α := Int32) (
      if (t_shadow_a (Int32.toNatClampNeg ((4 * x1) + 1))) ≤ (t_shadow_a (Int32.toNatClampNeg ((4 * x2) + 1))) then
        some x2
      else
        some x1
    ) fun m3 =>
  ob (α := Int32) (
      if m3 = x1 then
        some x2
      else
        some x1
    ) fun m7 =>
  gd (bnd ((4 * x1) + 3) 160) <|
  gd (bnd ((4 * x2) + 3) 160) <|
  bv ((t_shadow_a (Int32.toNatClampNeg ((4 * x1) + 3))) + (t_shadow_a (Int32.toNatClampNeg ((4 * x2) + 3)))) fun v13 =>
  gd (bnd ((4 * m3) + 2) 160) <|
  gd (bnd ((4 * m7) + 2) 160) <|
  ob (α := Int32) (
      if x3 = 0 then
        some 0
      else
        if x3 = 1 then
          some (-v13)
        else
          some v13
    ) fun m16 =>
  bv (Int32.toInt64 (((t_shadow_a (Int32.toNatClampNeg ((4 * m3) + 2))) - (t_shadow_a (Int32.toNatClampNeg ((4 * m7) + 2)))) + m16)) fun v21 =>
  gd (bnd ((4 * m3) + 1) 160) <|
  gd (bnd ((4 * m7) + 1) 160) <|
  ob2 (fX10_speeds v21 1 0 1 ((t_shadow_a (Int32.toNatClampNeg ((4 * m3) + 1))) - (t_shadow_a (Int32.toNatClampNeg ((4 * m7) + 1)))) t_speedAbove t_speedBelow) fun w24 w25 =>
  some (w24, w25)
abbrev rmX10_findShade : Room := { frames := 2, cells := 0, slots := 0, locals := 60 }
theorem iwX10_findShade_X10 : ∀ w ∈ u_ws RX10 TX10 36, w ∈ wsX10_findShade := by decide +kernel
set_option maxHeartbeats 4000000 in
set_option maxRecDepth 100000 in
theorem k_X10_findShade (l : Launch) (G : va_G) (cI cJ : ClassId) (t_h t_edges_h t_lean_h t_word_h t_layer_h t_least_h t_sight_h t_shadow_h t_spanLow_h t_spanHigh_h t_spanAt_h t_numbers_h t_pair_h t_most_h t_row_h t_under_h t_agreed_h : Nat) (sz : Nat) (t_baseWay : Int32) (t_slip : Int32) (t_low : Int32) (t_high : Int32) (t_unlike : Int32) (t_alone : Int32) (t_above : Int64) (t_below : Int64) (t_layers : Int32) (t_sights : Int32) (t_shadows : Int32) (t_endAbove : Int64) (t_endBelow : Int64) (t_speedAbove : Int64) (t_speedBelow : Int64) (t_spans : Int32) (t_found : Int32) (t_pairs : Int32) (t_rows : Int32) (t_notes : Int32) (t_shadow_a : Nat → Int32) (x1 : Int32) (x2 : Int32) (x3 : Int32) {o_t_speedAbove : Int64} {o_t_speedBelow : Int64} (hf : fX10_findShade x1 x2 x3 t_speedAbove t_speedBelow t_shadow_a = some (o_t_speedAbove, o_t_speedBelow)) : MetU l yX10_findShade wsX10_findShade rmX10_findShade [.ref t_h, .int x1, .int x2, .int x3] G cI cJ [(t_h, .inr (10, [.int t_baseWay, .int t_slip, .int t_low, .int t_high, .int t_unlike, .int t_alone, .long t_above, .long t_below, .ref t_edges_h, .ref t_lean_h, .ref t_word_h, .int t_layers, .ref t_layer_h, .ref t_least_h, .int t_sights, .ref t_sight_h, .int t_shadows, .ref t_shadow_h, .long t_endAbove, .long t_endBelow, .long t_speedAbove, .long t_speedBelow, .int t_spans, .ref t_spanLow_h, .ref t_spanHigh_h, .ref t_spanAt_h, .int t_found, .ref t_numbers_h, .int t_pairs, .ref t_pair_h, .ref t_most_h, .int t_rows, .ref t_row_h, .int t_notes, .ref t_under_h, .ref t_agreed_h])), (t_shadow_h, .inl (cI, 160, .inl t_shadow_a))] [(t_h, .inr (10, [.int t_baseWay, .int t_slip, .int t_low, .int t_high, .int t_unlike, .int t_alone, .long t_above, .long t_below, .ref t_edges_h, .ref t_lean_h, .ref t_word_h, .int t_layers, .ref t_layer_h, .ref t_least_h, .int t_sights, .ref t_sight_h, .int t_shadows, .ref t_shadow_h, .long t_endAbove, .long t_endBelow, .long o_t_speedAbove, .long o_t_speedBelow, .int t_spans, .ref t_spanLow_h, .ref t_spanHigh_h, .ref t_spanAt_h, .int t_found, .ref t_numbers_h, .int t_pairs, .ref t_pair_h, .ref t_most_h, .int t_rows, .ref t_row_h, .int t_notes, .ref t_under_h, .ref t_agreed_h])), (t_shadow_h, .inl (cI, 160, .inl t_shadow_a))] sz := by
  refine en_0 (l := l) (y := yX10_findShade) (wsl := wsX10_findShade) (rm := rmX10_findShade) (av := [.ref t_h, .int x1, .int x2, .int x3]) (G := G) (cI := cI) (cJ := cJ) (w0 := [(t_h, .inr (10, [.int t_baseWay, .int t_slip, .int t_low, .int t_high, .int t_unlike, .int t_alone, .long t_above, .long t_below, .ref t_edges_h, .ref t_lean_h, .ref t_word_h, .int t_layers, .ref t_layer_h, .ref t_least_h, .int t_sights, .ref t_sight_h, .int t_shadows, .ref t_shadow_h, .long t_endAbove, .long t_endBelow, .long t_speedAbove, .long t_speedBelow, .int t_spans, .ref t_spanLow_h, .ref t_spanHigh_h, .ref t_spanAt_h, .int t_found, .ref t_numbers_h, .int t_pairs, .ref t_pair_h, .ref t_most_h, .int t_rows, .ref t_row_h, .int t_notes, .ref t_under_h, .ref t_agreed_h])), (t_shadow_h, .inl (cI, 160, .inl t_shadow_a))]) (sz := sz) (Qf := fun A => Qv0 G cI cJ [(t_h, .inr (10, [.int t_baseWay, .int t_slip, .int t_low, .int t_high, .int t_unlike, .int t_alone, .long t_above, .long t_below, .ref t_edges_h, .ref t_lean_h, .ref t_word_h, .int t_layers, .ref t_layer_h, .ref t_least_h, .int t_sights, .ref t_sight_h, .int t_shadows, .ref t_shadow_h, .long t_endAbove, .long t_endBelow, .long o_t_speedAbove, .long o_t_speedBelow, .int t_spans, .ref t_spanLow_h, .ref t_spanHigh_h, .ref t_spanAt_h, .int t_found, .ref t_numbers_h, .int t_pairs, .ref t_pair_h, .ref t_most_h, .int t_rows, .ref t_row_h, .int t_notes, .ref t_under_h, .ref t_agreed_h])), (t_shadow_h, .inl (cI, 160, .inl t_shadow_a))] A) (cc := cX10_findShade) (maxL := 9) (ret := none) RX10 (by decide +kernel) rfl rfl (Nat.le_of_ble_eq_true rfl) ?_
  intro p e s m args below meth c A ls Q hQ hx hb hr hts hown hlocks hml hN hK hP hD hS hA hl
  have hl : lv_has ls 9 [(0, .ref t_h), (1, .int x1), (2, .int x2), (3, .int x3)] := hl
  have iwX10 := iwX10_findShade_X10
  have fl_28 := hts (.fieldLink RX10 28 "CloudOfficeModel" "shadow" "[I") (by decide +kernel)
  have hret : ∀ (o_t_speedAbove9 : Int64) (o_t_speedBelow9 : Int64) (pc : Nat) (H : Heap) (locs : List Loc) (ls : Array Slot), decode cX10_findShade pc = .ok (.return_, 1) → some (o_t_speedAbove9, o_t_speedBelow9) = some (o_t_speedAbove, o_t_speedBelow) → va_P G vwCl [(t_h, .inr (10, [.int t_baseWay, .int t_slip, .int t_low, .int t_high, .int t_unlike, .int t_alone, .long t_above, .long t_below, .ref t_edges_h, .ref t_lean_h, .ref t_word_h, .int t_layers, .ref t_layer_h, .ref t_least_h, .int t_sights, .ref t_sight_h, .int t_shadows, .ref t_shadow_h, .long t_endAbove, .long t_endBelow, .long o_t_speedAbove9, .long o_t_speedBelow9, .int t_spans, .ref t_spanLow_h, .ref t_spanHigh_h, .ref t_spanAt_h, .int t_found, .ref t_numbers_h, .int t_pairs, .ref t_pair_h, .ref t_most_h, .int t_rows, .ref t_row_h, .int t_notes, .ref t_under_h, .ref t_agreed_h])), (t_shadow_h, .inl (cI, 160, .inl t_shadow_a))] H → va_D A [(t_h, .inr (10, [.int t_baseWay, .int t_slip, .int t_low, .int t_high, .int t_unlike, .int t_alone, .long t_above, .long t_below, .ref t_edges_h, .ref t_lean_h, .ref t_word_h, .int t_layers, .ref t_layer_h, .ref t_least_h, .int t_sights, .ref t_sight_h, .int t_shadows, .ref t_shadow_h, .long t_endAbove, .long t_endBelow, .long o_t_speedAbove9, .long o_t_speedBelow9, .int t_spans, .ref t_spanLow_h, .ref t_spanHigh_h, .ref t_spanAt_h, .int t_found, .ref t_numbers_h, .int t_pairs, .ref t_pair_h, .ref t_most_h, .int t_rows, .ref t_row_h, .int t_notes, .ref t_under_h, .ref t_agreed_h])), (t_shadow_h, .inl (cI, 160, .inl t_shadow_a))] → va_S A s.heap H locs → W p l e rmX10_findShade s m args below meth c H locs 0 0 Q (F0 m pc ls []) := by
    intro o_t_speedAbove9 o_t_speedBelow9 pc H locs ls hdg he hP hD hS
    cases he
    subst hQ
    exact rt_v hx hb hr hlocks hK hP hD hS hdg
  clear hQ
  unfold fX10_findShade at hf
  refine lv_aload_n hx hb dX10_findShade_0 rfl (lv_at hl 0 rfl) ?_
  refine va_get (D := G) (ci := 10) (v := .ref t_shadow_h) (C := RX10) (T := TX10) (N := 36) hx hb hts iwX10 hown hK hP 0 rfl rfl 17 (by decide) fl_28 (fun _ h9 => h9) rfl dX10_findShade_1 ?_
  refine lv_iconst (v := 4) hx hb dX10_findShade_4 (by decide) ?_
  refine lv_iload_n hx hb dX10_findShade_5 rfl (lv_at hl 1 rfl) ?_
  refine lv_imul hx hb dX10_findShade_6 ?_
  refine lv_iconst (v := 1) hx hb dX10_findShade_7 (by decide) ?_
  refine lv_iadd hx hb dX10_findShade_8 ?_
  obtain ⟨h1, hf⟩ := gd_some hf
  refine va_iald hx hb hK hP 1 0 rfl rfl (bnd_in h1) dX10_findShade_9 ?_
  refine lv_aload_n hx hb dX10_findShade_10 rfl (lv_at hl 0 rfl) ?_
  refine va_get (D := G) (ci := 10) (v := .ref t_shadow_h) (C := RX10) (T := TX10) (N := 36) hx hb hts iwX10 hown hK hP 0 rfl rfl 17 (by decide) fl_28 (fun _ h9 => h9) rfl dX10_findShade_11 ?_
  refine lv_iconst (v := 4) hx hb dX10_findShade_14 (by decide) ?_
  refine lv_iload_n hx hb dX10_findShade_15 rfl (lv_at hl 2 rfl) ?_
  refine lv_imul hx hb dX10_findShade_16 ?_
  refine lv_iconst (v := 1) hx hb dX10_findShade_17 (by decide) ?_
  refine lv_iadd hx hb dX10_findShade_18 ?_
  obtain ⟨h2, hf⟩ := gd_some hf
  refine va_iald hx hb hK hP 1 0 rfl rfl (bnd_in h2) dX10_findShade_19 ?_
  obtain ⟨m3, hr4, hf⟩ := ob_some hf
  have hj5 : ∀ (m39 : Int32), some m39 = some m3 → ∀ (H : Heap) (locs : List Loc) (ls : Array Slot), va_P G vwCl [(t_h, .inr (10, [.int t_baseWay, .int t_slip, .int t_low, .int t_high, .int t_unlike, .int t_alone, .long t_above, .long t_below, .ref t_edges_h, .ref t_lean_h, .ref t_word_h, .int t_layers, .ref t_layer_h, .ref t_least_h, .int t_sights, .ref t_sight_h, .int t_shadows, .ref t_shadow_h, .long t_endAbove, .long t_endBelow, .long t_speedAbove, .long t_speedBelow, .int t_spans, .ref t_spanLow_h, .ref t_spanHigh_h, .ref t_spanAt_h, .int t_found, .ref t_numbers_h, .int t_pairs, .ref t_pair_h, .ref t_most_h, .int t_rows, .ref t_row_h, .int t_notes, .ref t_under_h, .ref t_agreed_h])), (t_shadow_h, .inl (cI, 160, .inl t_shadow_a))] H → va_D A [(t_h, .inr (10, [.int t_baseWay, .int t_slip, .int t_low, .int t_high, .int t_unlike, .int t_alone, .long t_above, .long t_below, .ref t_edges_h, .ref t_lean_h, .ref t_word_h, .int t_layers, .ref t_layer_h, .ref t_least_h, .int t_sights, .ref t_sight_h, .int t_shadows, .ref t_shadow_h, .long t_endAbove, .long t_endBelow, .long t_speedAbove, .long t_speedBelow, .int t_spans, .ref t_spanLow_h, .ref t_spanHigh_h, .ref t_spanAt_h, .int t_found, .ref t_numbers_h, .int t_pairs, .ref t_pair_h, .ref t_most_h, .int t_rows, .ref t_row_h, .int t_notes, .ref t_under_h, .ref t_agreed_h])), (t_shadow_h, .inl (cI, 160, .inl t_shadow_a))] → va_S A s.heap H locs → lv_has ls 9 [(0, .ref t_h), (1, .int x1), (2, .int x2), (3, .int x3)] → W p l e rmX10_findShade s m args below meth c H locs 0 0 Q (F0 m 28 ls [.int m39]) := by
    intro m39 he H locs ls hP hD hS hl
    cases he
    refine lv_istore (lv' := [(4, .int m3), (0, .ref t_h), (1, .int x1), (2, .int x2), (3, .int x3)]) hx hb dX10_findShade_28 hl (by decide) rfl (fun ls hl => ?_)
    refine lv_iload hx hb dX10_findShade_30 (lv_at hl 0 rfl) ?_
    refine lv_iload_n hx hb dX10_findShade_32 rfl (lv_at hl 2 rfl) ?_
    obtain ⟨m7, hr8, hf⟩ := ob_some hf
    have hj9 : ∀ (m79 : Int32), some m79 = some m7 → ∀ (H : Heap) (locs : List Loc) (ls : Array Slot), va_P G vwCl [(t_h, .inr (10, [.int t_baseWay, .int t_slip, .int t_low, .int t_high, .int t_unlike, .int t_alone, .long t_above, .long t_below, .ref t_edges_h, .ref t_lean_h, .ref t_word_h, .int t_layers, .ref t_layer_h, .ref t_least_h, .int t_sights, .ref t_sight_h, .int t_shadows, .ref t_shadow_h, .long t_endAbove, .long t_endBelow, .long t_speedAbove, .long t_speedBelow, .int t_spans, .ref t_spanLow_h, .ref t_spanHigh_h, .ref t_spanAt_h, .int t_found, .ref t_numbers_h, .int t_pairs, .ref t_pair_h, .ref t_most_h, .int t_rows, .ref t_row_h, .int t_notes, .ref t_under_h, .ref t_agreed_h])), (t_shadow_h, .inl (cI, 160, .inl t_shadow_a))] H → va_D A [(t_h, .inr (10, [.int t_baseWay, .int t_slip, .int t_low, .int t_high, .int t_unlike, .int t_alone, .long t_above, .long t_below, .ref t_edges_h, .ref t_lean_h, .ref t_word_h, .int t_layers, .ref t_layer_h, .ref t_least_h, .int t_sights, .ref t_sight_h, .int t_shadows, .ref t_shadow_h, .long t_endAbove, .long t_endBelow, .long t_speedAbove, .long t_speedBelow, .int t_spans, .ref t_spanLow_h, .ref t_spanHigh_h, .ref t_spanAt_h, .int t_found, .ref t_numbers_h, .int t_pairs, .ref t_pair_h, .ref t_most_h, .int t_rows, .ref t_row_h, .int t_notes, .ref t_under_h, .ref t_agreed_h])), (t_shadow_h, .inl (cI, 160, .inl t_shadow_a))] → va_S A s.heap H locs → lv_has ls 9 [(0, .ref t_h), (1, .int x1), (2, .int x2), (3, .int x3), (4, .int m3)] → W p l e rmX10_findShade s m args below meth c H locs 0 0 Q (F0 m 41 ls [.int m79]) := by
      intro m79 he H locs ls hP hD hS hl
      cases he
      refine lv_istore (lv' := [(5, .int m7), (0, .ref t_h), (1, .int x1), (2, .int x2), (3, .int x3), (4, .int m3)]) hx hb dX10_findShade_41 hl (by decide) rfl (fun ls hl => ?_)
      refine lv_aload_n hx hb dX10_findShade_43 rfl (lv_at hl 1 rfl) ?_
      refine va_get (D := G) (ci := 10) (v := .ref t_shadow_h) (C := RX10) (T := TX10) (N := 36) hx hb hts iwX10 hown hK hP 0 rfl rfl 17 (by decide) fl_28 (fun _ h9 => h9) rfl dX10_findShade_44 ?_
      refine lv_iconst (v := 4) hx hb dX10_findShade_47 (by decide) ?_
      refine lv_iload_n hx hb dX10_findShade_48 rfl (lv_at hl 2 rfl) ?_
      refine lv_imul hx hb dX10_findShade_49 ?_
      refine lv_iconst (v := 3) hx hb dX10_findShade_50 (by decide) ?_
      refine lv_iadd hx hb dX10_findShade_51 ?_
      obtain ⟨h11, hf⟩ := gd_some hf
      refine va_iald hx hb hK hP 1 0 rfl rfl (bnd_in h11) dX10_findShade_52 ?_
      refine lv_aload_n hx hb dX10_findShade_53 rfl (lv_at hl 1 rfl) ?_
      refine va_get (D := G) (ci := 10) (v := .ref t_shadow_h) (C := RX10) (T := TX10) (N := 36) hx hb hts iwX10 hown hK hP 0 rfl rfl 17 (by decide) fl_28 (fun _ h9 => h9) rfl dX10_findShade_54 ?_
      refine lv_iconst (v := 4) hx hb dX10_findShade_57 (by decide) ?_
      refine lv_iload_n hx hb dX10_findShade_58 rfl (lv_at hl 3 rfl) ?_
      refine lv_imul hx hb dX10_findShade_59 ?_
      refine lv_iconst (v := 3) hx hb dX10_findShade_60 (by decide) ?_
      refine lv_iadd hx hb dX10_findShade_61 ?_
      obtain ⟨h12, hf⟩ := gd_some hf
      refine va_iald hx hb hK hP 1 0 rfl rfl (bnd_in h12) dX10_findShade_62 ?_
      refine lv_iadd hx hb dX10_findShade_63 ?_
      refine lv_topi (fun v13 ev13 => ?_)
      have hf := bv_at ev13 hf
      refine lv_istore (lv' := [(6, .int v13), (5, .int m7), (0, .ref t_h), (1, .int x1), (2, .int x2), (3, .int x3), (4, .int m3)]) hx hb dX10_findShade_64 hl (by decide) rfl (fun ls hl => ?_)
      refine lv_aload_n hx hb dX10_findShade_66 rfl (lv_at hl 2 rfl) ?_
      refine va_get (D := G) (ci := 10) (v := .ref t_shadow_h) (C := RX10) (T := TX10) (N := 36) hx hb hts iwX10 hown hK hP 0 rfl rfl 17 (by decide) fl_28 (fun _ h9 => h9) rfl dX10_findShade_67 ?_
      refine lv_iconst (v := 4) hx hb dX10_findShade_70 (by decide) ?_
      refine lv_iload hx hb dX10_findShade_71 (lv_at hl 6 rfl) ?_
      refine lv_imul hx hb dX10_findShade_73 ?_
      refine lv_iconst (v := 2) hx hb dX10_findShade_74 (by decide) ?_
      refine lv_iadd hx hb dX10_findShade_75 ?_
      obtain ⟨h14, hf⟩ := gd_some hf
      refine va_iald hx hb hK hP 1 0 rfl rfl (bnd_in h14) dX10_findShade_76 ?_
      refine lv_aload_n hx hb dX10_findShade_77 rfl (lv_at hl 2 rfl) ?_
      refine va_get (D := G) (ci := 10) (v := .ref t_shadow_h) (C := RX10) (T := TX10) (N := 36) hx hb hts iwX10 hown hK hP 0 rfl rfl 17 (by decide) fl_28 (fun _ h9 => h9) rfl dX10_findShade_78 ?_
      refine lv_iconst (v := 4) hx hb dX10_findShade_81 (by decide) ?_
      refine lv_iload hx hb dX10_findShade_82 (lv_at hl 1 rfl) ?_
      refine lv_imul hx hb dX10_findShade_84 ?_
      refine lv_iconst (v := 2) hx hb dX10_findShade_85 (by decide) ?_
      refine lv_iadd hx hb dX10_findShade_86 ?_
      obtain ⟨h15, hf⟩ := gd_some hf
      refine va_iald hx hb hK hP 1 0 rfl rfl (bnd_in h15) dX10_findShade_87 ?_
      refine lv_isub hx hb dX10_findShade_88 ?_
      refine lv_iload_n hx hb dX10_findShade_89 rfl (lv_at hl 5 rfl) ?_
      obtain ⟨m16, hr17, hf⟩ := ob_some hf
      have hj18 : ∀ (m169 : Int32), some m169 = some m16 → ∀ (H : Heap) (locs : List Loc) (ls : Array Slot), va_P G vwCl [(t_h, .inr (10, [.int t_baseWay, .int t_slip, .int t_low, .int t_high, .int t_unlike, .int t_alone, .long t_above, .long t_below, .ref t_edges_h, .ref t_lean_h, .ref t_word_h, .int t_layers, .ref t_layer_h, .ref t_least_h, .int t_sights, .ref t_sight_h, .int t_shadows, .ref t_shadow_h, .long t_endAbove, .long t_endBelow, .long t_speedAbove, .long t_speedBelow, .int t_spans, .ref t_spanLow_h, .ref t_spanHigh_h, .ref t_spanAt_h, .int t_found, .ref t_numbers_h, .int t_pairs, .ref t_pair_h, .ref t_most_h, .int t_rows, .ref t_row_h, .int t_notes, .ref t_under_h, .ref t_agreed_h])), (t_shadow_h, .inl (cI, 160, .inl t_shadow_a))] H → va_D A [(t_h, .inr (10, [.int t_baseWay, .int t_slip, .int t_low, .int t_high, .int t_unlike, .int t_alone, .long t_above, .long t_below, .ref t_edges_h, .ref t_lean_h, .ref t_word_h, .int t_layers, .ref t_layer_h, .ref t_least_h, .int t_sights, .ref t_sight_h, .int t_shadows, .ref t_shadow_h, .long t_endAbove, .long t_endBelow, .long t_speedAbove, .long t_speedBelow, .int t_spans, .ref t_spanLow_h, .ref t_spanHigh_h, .ref t_spanAt_h, .int t_found, .ref t_numbers_h, .int t_pairs, .ref t_pair_h, .ref t_most_h, .int t_rows, .ref t_row_h, .int t_notes, .ref t_under_h, .ref t_agreed_h])), (t_shadow_h, .inl (cI, 160, .inl t_shadow_a))] → va_S A s.heap H locs → lv_has ls 9 [(0, .ref t_h), (4, .int m3), (5, .int m7)] → W p l e rmX10_findShade s m args below meth c H locs 0 0 Q (F0 m 110 ls [.int m169, .int ((t_shadow_a (Int32.toNatClampNeg ((4 * m3) + 2))) - (t_shadow_a (Int32.toNatClampNeg ((4 * m7) + 2))))]) := by
        intro m169 he H locs ls hP hD hS hl
        cases he
        refine lv_iadd hx hb dX10_findShade_110 ?_
        refine lv_i2l (v := Int32.toInt64 (((t_shadow_a (Int32.toNatClampNeg ((4 * m3) + 2))) - (t_shadow_a (Int32.toNatClampNeg ((4 * m7) + 2)))) + m16)) hx hb dX10_findShade_111 rfl ?_
        refine lv_topl (fun v21 ev21 => ?_)
        have hf := bv_at ev21 hf
        refine lv_lstore (lv' := [(7, .long v21), (0, .ref t_h), (4, .int m3), (5, .int m7)]) hx hb dX10_findShade_112 hl (by decide) rfl (fun ls hl => ?_)
        refine lv_aload_n hx hb dX10_findShade_114 rfl (lv_at hl 1 rfl) ?_
        refine lv_lload hx hb dX10_findShade_115 (lv_at hl 0 rfl) ?_
        refine lv_lconst (v := 1) hx hb dX10_findShade_117 (by decide) ?_
        refine lv_lconst (v := 0) hx hb dX10_findShade_118 (by decide) ?_
        refine lv_lconst (v := 1) hx hb dX10_findShade_119 (by decide) ?_
        refine lv_aload_n hx hb dX10_findShade_120 rfl (lv_at hl 1 rfl) ?_
        refine va_get (D := G) (ci := 10) (v := .ref t_shadow_h) (C := RX10) (T := TX10) (N := 36) hx hb hts iwX10 hown hK hP 0 rfl rfl 17 (by decide) fl_28 (fun _ h9 => h9) rfl dX10_findShade_121 ?_
        refine lv_iconst (v := 4) hx hb dX10_findShade_124 (by decide) ?_
        refine lv_iload hx hb dX10_findShade_125 (lv_at hl 2 rfl) ?_
        refine lv_imul hx hb dX10_findShade_127 ?_
        refine lv_iconst (v := 1) hx hb dX10_findShade_128 (by decide) ?_
        refine lv_iadd hx hb dX10_findShade_129 ?_
        obtain ⟨h22, hf⟩ := gd_some hf
        refine va_iald hx hb hK hP 1 0 rfl rfl (bnd_in h22) dX10_findShade_130 ?_
        refine lv_aload_n hx hb dX10_findShade_131 rfl (lv_at hl 1 rfl) ?_
        refine va_get (D := G) (ci := 10) (v := .ref t_shadow_h) (C := RX10) (T := TX10) (N := 36) hx hb hts iwX10 hown hK hP 0 rfl rfl 17 (by decide) fl_28 (fun _ h9 => h9) rfl dX10_findShade_132 ?_
        refine lv_iconst (v := 4) hx hb dX10_findShade_135 (by decide) ?_
        refine lv_iload hx hb dX10_findShade_136 (lv_at hl 3 rfl) ?_
        refine lv_imul hx hb dX10_findShade_138 ?_
        refine lv_iconst (v := 1) hx hb dX10_findShade_139 (by decide) ?_
        refine lv_iadd hx hb dX10_findShade_140 ?_
        obtain ⟨h23, hf⟩ := gd_some hf
        refine va_iald hx hb hK hP 1 0 rfl rfl (bnd_in h23) dX10_findShade_141 ?_
        refine lv_isub hx hb dX10_findShade_142 ?_
        obtain ⟨w24, w25, hc26, hf⟩ := ob2_some hf
        refine af_vW (wr := [(t_shadow_h, .inl (cI, 160, .inl t_shadow_a))]) (ws2 := [(t_h, .inr (10, [.int t_baseWay, .int t_slip, .int t_low, .int t_high, .int t_unlike, .int t_alone, .long t_above, .long t_below, .ref t_edges_h, .ref t_lean_h, .ref t_word_h, .int t_layers, .ref t_layer_h, .ref t_least_h, .int t_sights, .ref t_sight_h, .int t_shadows, .ref t_shadow_h, .long t_endAbove, .long t_endBelow, .long w24, .long w25, .int t_spans, .ref t_spanLow_h, .ref t_spanHigh_h, .ref t_spanAt_h, .int t_found, .ref t_numbers_h, .int t_pairs, .ref t_pair_h, .ref t_most_h, .int t_rows, .ref t_row_h, .int t_notes, .ref t_under_h, .ref t_agreed_h])), (t_shadow_h, .inl (cI, 160, .inl t_shadow_a))]) (va_runV (As := [.long v21, .long 1, .long 0, .long 1, .int ((t_shadow_a (Int32.toNatClampNeg ((4 * m3) + 1))) - (t_shadow_a (Int32.toNatClampNeg ((4 * m7) + 1))))]) (rest := []) ⟨hx, hb, hml, hown, hts⟩ (k_X10_speeds l G cI cJ (t_h := t_h) (t_edges_h := t_edges_h) (t_lean_h := t_lean_h) (t_word_h := t_word_h) (t_layer_h := t_layer_h) (t_least_h := t_least_h) (t_sight_h := t_sight_h) (t_shadow_h := t_shadow_h) (t_spanLow_h := t_spanLow_h) (t_spanHigh_h := t_spanHigh_h) (t_spanAt_h := t_spanAt_h) (t_numbers_h := t_numbers_h) (t_pair_h := t_pair_h) (t_most_h := t_most_h) (t_row_h := t_row_h) (t_under_h := t_under_h) (t_agreed_h := t_agreed_h) (t_baseWay := t_baseWay) (t_slip := t_slip) (t_low := t_low) (t_high := t_high) (t_unlike := t_unlike) (t_alone := t_alone) (t_above := t_above) (t_below := t_below) (t_layers := t_layers) (t_sights := t_sights) (t_shadows := t_shadows) (t_endAbove := t_endAbove) (t_endBelow := t_endBelow) (t_speedAbove := t_speedAbove) (t_speedBelow := t_speedBelow) (t_spans := t_spans) (t_found := t_found) (t_pairs := t_pairs) (t_rows := t_rows) (t_notes := t_notes) (x1 := v21) (x3 := 1) (x5 := 0) (x7 := 1) (x9 := ((t_shadow_a (Int32.toNatClampNeg ((4 * m3) + 1))) - (t_shadow_a (Int32.toNatClampNeg ((4 * m7) + 1))))) (sz := _) (hf := hc26)) (cwV 5 hts gX10_findShade_X10_speeds rfl rfl rfl (by decide +kernel) ⟨Nat.le_of_ble_eq_true rfl, Nat.le_of_ble_eq_true rfl⟩) (preV0 (ci := 10) (q0 := 0) (C := RX10) (wc := [(t_h, .inr (10, [.int t_baseWay, .int t_slip, .int t_low, .int t_high, .int t_unlike, .int t_alone, .long t_above, .long t_below, .ref t_edges_h, .ref t_lean_h, .ref t_word_h, .int t_layers, .ref t_layer_h, .ref t_least_h, .int t_sights, .ref t_sight_h, .int t_shadows, .ref t_shadow_h, .long t_endAbove, .long t_endBelow, .long t_speedAbove, .long t_speedBelow, .int t_spans, .ref t_spanLow_h, .ref t_spanHigh_h, .ref t_spanAt_h, .int t_found, .ref t_numbers_h, .int t_pairs, .ref t_pair_h, .ref t_most_h, .int t_rows, .ref t_row_h, .int t_notes, .ref t_under_h, .ref t_agreed_h]))]) hK hP hD hN [0] rfl rfl (by decide) rfl rfl) rfl rfl hl.1 rfl (lv_room (Nat.le_of_ble_eq_true rfl)) dX10_findShade_143 ⟨Nat.zero_le _, Nat.zero_le _⟩) hP hD hS hA [0] [1] [1, 0] rfl rfl (by decide) (by decide) rfl rfl (by decide) (fun H locs hP hD hS => ?_)
        exact hret w24 w25 146 _ _ _ dX10_findShade_146 hf hP hD hS
      replace hf := hr17
      refine lv_if_ne (tgt := 97) hx hb dX10_findShade_90 (by decide) (fun c19 => ?_) (fun c19 => ?_)
      · have hf := iff_ hf c19
        refine lv_iload_n hx hb dX10_findShade_97 rfl (lv_at hl 5 rfl) ?_
        refine lv_iconst (v := 1) hx hb dX10_findShade_98 (by decide) ?_
        refine lv_icmp_ne (tgt := 108) hx hb dX10_findShade_99 (by decide) (fun c20 => ?_) (fun c20 => ?_)
        · have hf := iff_ hf c20
          refine lv_iload hx hb dX10_findShade_108 (lv_at hl 0 rfl) ?_
          exact hj18 _ hf _ _ _ hP hD hS (lv_sub hl [2, 6, 1] rfl)
        · have hf := ift hf c20
          refine lv_iload hx hb dX10_findShade_102 (lv_at hl 0 rfl) ?_
          refine lv_ineg hx hb dX10_findShade_104 ?_
          refine lv_goto (tgt := 110) hx hb dX10_findShade_105 (by decide) ?_
          exact hj18 _ hf _ _ _ hP hD hS (lv_sub hl [2, 6, 1] rfl)
      · have hf := ift hf c19
        refine lv_iconst (v := 0) hx hb dX10_findShade_93 (by decide) ?_
        refine lv_goto (tgt := 110) hx hb dX10_findShade_94 (by decide) ?_
        exact hj18 _ hf _ _ _ hP hD hS (lv_sub hl [2, 6, 1] rfl)
    replace hf := hr8
    refine lv_icmp_ne (tgt := 40) hx hb dX10_findShade_33 (by decide) (fun c10 => ?_) (fun c10 => ?_)
    · have hf := iff_ hf c10
      refine lv_iload_n hx hb dX10_findShade_40 rfl (lv_at hl 2 rfl) ?_
      exact hj9 _ hf _ _ _ hP hD hS (lv_sub hl [1, 2, 3, 4, 0] rfl)
    · have hf := ift hf c10
      refine lv_iload_n hx hb dX10_findShade_36 rfl (lv_at hl 3 rfl) ?_
      refine lv_goto (tgt := 41) hx hb dX10_findShade_37 (by decide) ?_
      exact hj9 _ hf _ _ _ hP hD hS (lv_sub hl [1, 2, 3, 4, 0] rfl)
  replace hf := hr4
  refine lv_icmp_le (tgt := 27) hx hb dX10_findShade_20 (by decide) (fun c6 => ?_) (fun c6 => ?_)
  · have hf := ift hf c6
    refine lv_iload_n hx hb dX10_findShade_27 rfl (lv_at hl 2 rfl) ?_
    exact hj5 _ hf _ _ _ hP hD hS (lv_sub hl [0, 1, 2, 3] rfl)
  · have hf := iff_ hf c6
    refine lv_iload_n hx hb dX10_findShade_23 rfl (lv_at hl 1 rfl) ?_
    refine lv_goto (tgt := 28) hx hb dX10_findShade_24 (by decide) ?_
    exact hj5 _ hf _ _ _ hP hD hS (lv_sub hl [0, 1, 2, 3] rfl)
set_option maxRecDepth 20000 in
theorem ggX10_shade_X10_areShadows : GoodIn wsX10_shade wsX10_areShadows := goodIn_r _ [7, 8, 9, 10, 11, 6, 12, 30, 31, 32, 33, 34, 35, 36, 37, 38, 39, 40, 41, 42, 43, 44, 45, 46, 47, 48, 49, 50, 51, 52, 53, 54, 55, 56, 57, 58, 59, 60, 61, 62, 63, 64, 65] (by decide +kernel) (by decide +kernel)
set_option maxRecDepth 20000 in
theorem gX10_shade_X10_areShadows : GoodIn wsX10_shade (wsV RX10 158 RX10 yX10_areShadows wsX10_areShadows) := goodIn_app (goodIn_of _ (by decide +kernel)) ggX10_shade_X10_areShadows
set_option maxRecDepth 20000 in
theorem ggX10_shade_X10_in : GoodIn wsX10_shade wsX10_in := goodIn_r _ [12] (by decide +kernel) (by decide +kernel)
set_option maxRecDepth 20000 in
theorem gX10_shade_X10_in : GoodIn wsX10_shade (va_wsS RX10 89 yX10_in wsX10_in) := goodIn_app (goodIn_of _ (by decide +kernel)) ggX10_shade_X10_in
set_option maxRecDepth 20000 in
theorem ggX10_shade_X10_findShade : GoodIn wsX10_shade wsX10_findShade := goodIn_r _ [16, 9, 17, 18, 19, 6, 20, 1, 2, 21, 22, 23, 30, 31, 32, 33, 34, 35, 36, 37, 38, 39, 40, 41, 42, 43, 44, 45, 46, 47, 48, 49, 50, 51, 52, 53, 54, 55, 56, 57, 58, 59, 60, 61, 62, 63, 64, 65] (by decide +kernel) (by decide +kernel)
set_option maxRecDepth 20000 in
theorem gX10_shade_X10_findShade : GoodIn wsX10_shade (wsV RX10 161 RX10 yX10_findShade wsX10_findShade) := goodIn_app (goodIn_of _ (by decide +kernel)) ggX10_shade_X10_findShade
set_option maxRecDepth 20000 in
theorem ggX10_shade_X10_tells : GoodIn wsX10_shade wsX10_tells := goodIn_r _ [27, 28, 29, 21, 22, 6, 23, 30, 31, 32, 33, 34, 35, 36, 37, 38, 39, 40, 41, 42, 43, 44, 45, 46, 47, 48, 49, 50, 51, 52, 53, 54, 55, 56, 57, 58, 59, 60, 61, 62, 63, 64, 65] (by decide +kernel) (by decide +kernel)
set_option maxRecDepth 20000 in
theorem gX10_shade_X10_tells : GoodIn wsX10_shade (wsV RX10 99 RX10 yX10_tells wsX10_tells) := goodIn_app (goodIn_of _ (by decide +kernel)) ggX10_shade_X10_tells
theorem dX10_shade_0 : decode cX10_shade 0 = .ok (.aload_n 0, 1) := by decide +kernel
theorem dX10_shade_1 : decode cX10_shade 1 = .ok (.iload_n 1, 1) := by decide +kernel
theorem dX10_shade_2 : decode cX10_shade 2 = .ok (.iload_n 2, 1) := by decide +kernel
theorem dX10_shade_3 : decode cX10_shade 3 = .ok (.invokevirtual 158, 3) := by decide +kernel
theorem dX10_shade_6 : decode cX10_shade 6 = .ok (.ifCond .eq 12, 3) := by decide +kernel
theorem dX10_shade_9 : decode cX10_shade 9 = .ok (.iload_n 3, 1) := by decide +kernel
theorem dX10_shade_10 : decode cX10_shade 10 = .ok (.iconst 0, 1) := by decide +kernel
theorem dX10_shade_11 : decode cX10_shade 11 = .ok (.iconst 2, 1) := by decide +kernel
theorem dX10_shade_12 : decode cX10_shade 12 = .ok (.invokestatic 89, 3) := by decide +kernel
theorem dX10_shade_15 : decode cX10_shade 15 = .ok (.ifCond .ne 6, 3) := by decide +kernel
theorem dX10_shade_18 : decode cX10_shade 18 = .ok (.bipush (-2), 2) := by decide +kernel
theorem dX10_shade_20 : decode cX10_shade 20 = .ok (.ireturn, 1) := by decide +kernel
theorem dX10_shade_21 : decode cX10_shade 21 = .ok (.aload_n 0, 1) := by decide +kernel
theorem dX10_shade_22 : decode cX10_shade 22 = .ok (.iload_n 1, 1) := by decide +kernel
theorem dX10_shade_23 : decode cX10_shade 23 = .ok (.iload_n 2, 1) := by decide +kernel
theorem dX10_shade_24 : decode cX10_shade 24 = .ok (.iload_n 3, 1) := by decide +kernel
theorem dX10_shade_25 : decode cX10_shade 25 = .ok (.invokevirtual 161, 3) := by decide +kernel
theorem dX10_shade_28 : decode cX10_shade 28 = .ok (.aload_n 0, 1) := by decide +kernel
theorem dX10_shade_29 : decode cX10_shade 29 = .ok (.aload_n 0, 1) := by decide +kernel
theorem dX10_shade_30 : decode cX10_shade 30 = .ok (.getfield 137, 3) := by decide +kernel
theorem dX10_shade_33 : decode cX10_shade 33 = .ok (.aload_n 0, 1) := by decide +kernel
theorem dX10_shade_34 : decode cX10_shade 34 = .ok (.getfield 140, 3) := by decide +kernel
theorem dX10_shade_37 : decode cX10_shade 37 = .ok (.invokevirtual 99, 3) := by decide +kernel
theorem dX10_shade_40 : decode cX10_shade 40 = .ok (.ireturn, 1) := by decide +kernel
set_option maxRecDepth 100000 in
def fX10_shade (x1 : Int32) (x2 : Int32) (x3 : Int32) (t_above : Int64) (t_below : Int64) (t_shadows : Int32) (t_speedAbove : Int64) (t_speedBelow : Int64) (t_shadow_a : Nat → Int32) : Option (Int32 × Int64 × Int64 × Int64 × Int64) :=
  ob (fX10_areShadows x1 x2 t_shadows t_shadow_a) fun r1 =>
  if (b2i r1) = 0 then
    some ((-2), t_above, t_below, t_speedAbove, t_speedBelow)
  else
    ob (fX10_in x3 0 2) fun r4 =>
    if (b2i r4) = 0 then
      some ((-2), t_above, t_below, t_speedAbove, t_speedBelow)
    else
      ob2 (fX10_findShade x1 x2 x3 t_speedAbove t_speedBelow t_shadow_a) fun w7 w8 =>
      ob3 (fX10_tells w7 w8 t_above t_below) fun r10 w11 w12 =>
      some (r10, w11, w12, w7, w8)
abbrev rmX10_shade : Room := { frames := 3, cells := 0, slots := 0, locals := 88 }
theorem iwX10_shade_X10 : ∀ w ∈ u_ws RX10 TX10 36, w ∈ wsX10_shade := by decide +kernel
set_option maxHeartbeats 4000000 in
set_option maxRecDepth 100000 in
theorem k_X10_shade (l : Launch) (G : va_G) (cI cJ : ClassId) (t_h t_edges_h t_lean_h t_word_h t_layer_h t_least_h t_sight_h t_shadow_h t_spanLow_h t_spanHigh_h t_spanAt_h t_numbers_h t_pair_h t_most_h t_row_h t_under_h t_agreed_h : Nat) (sz : Nat) (t_baseWay : Int32) (t_slip : Int32) (t_low : Int32) (t_high : Int32) (t_unlike : Int32) (t_alone : Int32) (t_above : Int64) (t_below : Int64) (t_layers : Int32) (t_sights : Int32) (t_shadows : Int32) (t_endAbove : Int64) (t_endBelow : Int64) (t_speedAbove : Int64) (t_speedBelow : Int64) (t_spans : Int32) (t_found : Int32) (t_pairs : Int32) (t_rows : Int32) (t_notes : Int32) (t_shadow_a : Nat → Int32) (x1 : Int32) (x2 : Int32) (x3 : Int32) {o_r : Int32} {o_t_above : Int64} {o_t_below : Int64} {o_t_speedAbove : Int64} {o_t_speedBelow : Int64} (hf : fX10_shade x1 x2 x3 t_above t_below t_shadows t_speedAbove t_speedBelow t_shadow_a = some (o_r, o_t_above, o_t_below, o_t_speedAbove, o_t_speedBelow)) : MetI l yX10_shade wsX10_shade rmX10_shade [.ref t_h, .int x1, .int x2, .int x3] G cI cJ [(t_h, .inr (10, [.int t_baseWay, .int t_slip, .int t_low, .int t_high, .int t_unlike, .int t_alone, .long t_above, .long t_below, .ref t_edges_h, .ref t_lean_h, .ref t_word_h, .int t_layers, .ref t_layer_h, .ref t_least_h, .int t_sights, .ref t_sight_h, .int t_shadows, .ref t_shadow_h, .long t_endAbove, .long t_endBelow, .long t_speedAbove, .long t_speedBelow, .int t_spans, .ref t_spanLow_h, .ref t_spanHigh_h, .ref t_spanAt_h, .int t_found, .ref t_numbers_h, .int t_pairs, .ref t_pair_h, .ref t_most_h, .int t_rows, .ref t_row_h, .int t_notes, .ref t_under_h, .ref t_agreed_h])), (t_shadow_h, .inl (cI, 160, .inl t_shadow_a))] [(t_h, .inr (10, [.int t_baseWay, .int t_slip, .int t_low, .int t_high, .int t_unlike, .int t_alone, .long o_t_above, .long o_t_below, .ref t_edges_h, .ref t_lean_h, .ref t_word_h, .int t_layers, .ref t_layer_h, .ref t_least_h, .int t_sights, .ref t_sight_h, .int t_shadows, .ref t_shadow_h, .long t_endAbove, .long t_endBelow, .long o_t_speedAbove, .long o_t_speedBelow, .int t_spans, .ref t_spanLow_h, .ref t_spanHigh_h, .ref t_spanAt_h, .int t_found, .ref t_numbers_h, .int t_pairs, .ref t_pair_h, .ref t_most_h, .int t_rows, .ref t_row_h, .int t_notes, .ref t_under_h, .ref t_agreed_h])), (t_shadow_h, .inl (cI, 160, .inl t_shadow_a))] sz o_r := by
  refine en_0 (l := l) (y := yX10_shade) (wsl := wsX10_shade) (rm := rmX10_shade) (av := [.ref t_h, .int x1, .int x2, .int x3]) (G := G) (cI := cI) (cJ := cJ) (w0 := [(t_h, .inr (10, [.int t_baseWay, .int t_slip, .int t_low, .int t_high, .int t_unlike, .int t_alone, .long t_above, .long t_below, .ref t_edges_h, .ref t_lean_h, .ref t_word_h, .int t_layers, .ref t_layer_h, .ref t_least_h, .int t_sights, .ref t_sight_h, .int t_shadows, .ref t_shadow_h, .long t_endAbove, .long t_endBelow, .long t_speedAbove, .long t_speedBelow, .int t_spans, .ref t_spanLow_h, .ref t_spanHigh_h, .ref t_spanAt_h, .int t_found, .ref t_numbers_h, .int t_pairs, .ref t_pair_h, .ref t_most_h, .int t_rows, .ref t_row_h, .int t_notes, .ref t_under_h, .ref t_agreed_h])), (t_shadow_h, .inl (cI, 160, .inl t_shadow_a))]) (sz := sz) (Qf := fun A => Qi0 G cI cJ [(t_h, .inr (10, [.int t_baseWay, .int t_slip, .int t_low, .int t_high, .int t_unlike, .int t_alone, .long o_t_above, .long o_t_below, .ref t_edges_h, .ref t_lean_h, .ref t_word_h, .int t_layers, .ref t_layer_h, .ref t_least_h, .int t_sights, .ref t_sight_h, .int t_shadows, .ref t_shadow_h, .long t_endAbove, .long t_endBelow, .long o_t_speedAbove, .long o_t_speedBelow, .int t_spans, .ref t_spanLow_h, .ref t_spanHigh_h, .ref t_spanAt_h, .int t_found, .ref t_numbers_h, .int t_pairs, .ref t_pair_h, .ref t_most_h, .int t_rows, .ref t_row_h, .int t_notes, .ref t_under_h, .ref t_agreed_h])), (t_shadow_h, .inl (cI, 160, .inl t_shadow_a))] o_r A) (cc := cX10_shade) (maxL := 4) (ret := (some .int)) RX10 (by decide +kernel) rfl rfl (Nat.le_of_ble_eq_true rfl) ?_
  intro p e s m args below meth c A ls Q hQ hx hb hr hts hown hlocks hml hN hK hP hD hS hA hl
  have hl : lv_has ls 4 [(0, .ref t_h), (1, .int x1), (2, .int x2), (3, .int x3)] := hl
  have iwX10 := iwX10_shade_X10
  have fl_137 := hts (.fieldLink RX10 137 "CloudOfficeModel" "speedAbove" "J") (by decide +kernel)
  have fl_140 := hts (.fieldLink RX10 140 "CloudOfficeModel" "speedBelow" "J") (by decide +kernel)
  have hret : ∀ (o_r9 : Int32) (o_t_above9 : Int64) (o_t_below9 : Int64) (o_t_speedAbove9 : Int64) (o_t_speedBelow9 : Int64) (pc : Nat) (H : Heap) (locs : List Loc) (ls : Array Slot), decode cX10_shade pc = .ok (.ireturn, 1) → some (o_r9, o_t_above9, o_t_below9, o_t_speedAbove9, o_t_speedBelow9) = some (o_r, o_t_above, o_t_below, o_t_speedAbove, o_t_speedBelow) → va_P G vwCl [(t_h, .inr (10, [.int t_baseWay, .int t_slip, .int t_low, .int t_high, .int t_unlike, .int t_alone, .long o_t_above9, .long o_t_below9, .ref t_edges_h, .ref t_lean_h, .ref t_word_h, .int t_layers, .ref t_layer_h, .ref t_least_h, .int t_sights, .ref t_sight_h, .int t_shadows, .ref t_shadow_h, .long t_endAbove, .long t_endBelow, .long o_t_speedAbove9, .long o_t_speedBelow9, .int t_spans, .ref t_spanLow_h, .ref t_spanHigh_h, .ref t_spanAt_h, .int t_found, .ref t_numbers_h, .int t_pairs, .ref t_pair_h, .ref t_most_h, .int t_rows, .ref t_row_h, .int t_notes, .ref t_under_h, .ref t_agreed_h])), (t_shadow_h, .inl (cI, 160, .inl t_shadow_a))] H → va_D A [(t_h, .inr (10, [.int t_baseWay, .int t_slip, .int t_low, .int t_high, .int t_unlike, .int t_alone, .long o_t_above9, .long o_t_below9, .ref t_edges_h, .ref t_lean_h, .ref t_word_h, .int t_layers, .ref t_layer_h, .ref t_least_h, .int t_sights, .ref t_sight_h, .int t_shadows, .ref t_shadow_h, .long t_endAbove, .long t_endBelow, .long o_t_speedAbove9, .long o_t_speedBelow9, .int t_spans, .ref t_spanLow_h, .ref t_spanHigh_h, .ref t_spanAt_h, .int t_found, .ref t_numbers_h, .int t_pairs, .ref t_pair_h, .ref t_most_h, .int t_rows, .ref t_row_h, .int t_notes, .ref t_under_h, .ref t_agreed_h])), (t_shadow_h, .inl (cI, 160, .inl t_shadow_a))] → va_S A s.heap H locs → W p l e rmX10_shade s m args below meth c H locs 0 0 Q (F0 m pc ls [.int o_r9]) := by
    intro o_r9 o_t_above9 o_t_below9 o_t_speedAbove9 o_t_speedBelow9 pc H locs ls hdg he hP hD hS
    cases he
    subst hQ
    exact rt_i hx hb hr hlocks hK hP hD hS rfl hdg
  clear hQ
  unfold fX10_shade at hf
  refine lv_aload_n hx hb dX10_shade_0 rfl (lv_at hl 0 rfl) ?_
  refine lv_iload_n hx hb dX10_shade_1 rfl (lv_at hl 1 rfl) ?_
  refine lv_iload_n hx hb dX10_shade_2 rfl (lv_at hl 2 rfl) ?_
  obtain ⟨r1, hc2, hf⟩ := ob_some hf
  refine af_iR (va_runV (As := [.int x1, .int x2]) (rest := []) ⟨hx, hb, hml, hown, hts⟩ (k_X10_areShadows l G cI cJ (t_h := t_h) (t_edges_h := t_edges_h) (t_lean_h := t_lean_h) (t_word_h := t_word_h) (t_layer_h := t_layer_h) (t_least_h := t_least_h) (t_sight_h := t_sight_h) (t_shadow_h := t_shadow_h) (t_spanLow_h := t_spanLow_h) (t_spanHigh_h := t_spanHigh_h) (t_spanAt_h := t_spanAt_h) (t_numbers_h := t_numbers_h) (t_pair_h := t_pair_h) (t_most_h := t_most_h) (t_row_h := t_row_h) (t_under_h := t_under_h) (t_agreed_h := t_agreed_h) (t_baseWay := t_baseWay) (t_slip := t_slip) (t_low := t_low) (t_high := t_high) (t_unlike := t_unlike) (t_alone := t_alone) (t_above := t_above) (t_below := t_below) (t_layers := t_layers) (t_sights := t_sights) (t_shadows := t_shadows) (t_endAbove := t_endAbove) (t_endBelow := t_endBelow) (t_speedAbove := t_speedAbove) (t_speedBelow := t_speedBelow) (t_spans := t_spans) (t_found := t_found) (t_pairs := t_pairs) (t_rows := t_rows) (t_notes := t_notes) (t_shadow_a := t_shadow_a) (x1 := x1) (x2 := x2) (sz := _) (hf := hc2)) (cwV 2 hts gX10_shade_X10_areShadows rfl rfl rfl (by decide +kernel) ⟨Nat.le_of_ble_eq_true rfl, Nat.le_of_ble_eq_true rfl⟩) (preV0 (ci := 10) (q0 := 0) (C := RX10) (wc := [(t_h, .inr (10, [.int t_baseWay, .int t_slip, .int t_low, .int t_high, .int t_unlike, .int t_alone, .long t_above, .long t_below, .ref t_edges_h, .ref t_lean_h, .ref t_word_h, .int t_layers, .ref t_layer_h, .ref t_least_h, .int t_sights, .ref t_sight_h, .int t_shadows, .ref t_shadow_h, .long t_endAbove, .long t_endBelow, .long t_speedAbove, .long t_speedBelow, .int t_spans, .ref t_spanLow_h, .ref t_spanHigh_h, .ref t_spanAt_h, .int t_found, .ref t_numbers_h, .int t_pairs, .ref t_pair_h, .ref t_most_h, .int t_rows, .ref t_row_h, .int t_notes, .ref t_under_h, .ref t_agreed_h])), (t_shadow_h, .inl (cI, 160, .inl t_shadow_a))]) hK hP hD hN [0, 1] rfl rfl (by decide) rfl rfl) rfl rfl hl.1 rfl (lv_room (Nat.le_of_ble_eq_true rfl)) dX10_shade_3 ⟨Nat.zero_le _, Nat.zero_le _⟩) hP hD hS hA [0, 1] rfl (fun H locs hP hS => ?_)
  refine lv_if_eq (tgt := 18) hx hb dX10_shade_6 (by decide) (fun c3 => ?_) (fun c3 => ?_)
  · have hf := ift hf c3
    refine lv_bipush (v := (-2)) hx hb dX10_shade_18 (by decide) ?_
    exact hret (-2) t_above t_below t_speedAbove t_speedBelow 20 _ _ _ dX10_shade_20 hf hP hD hS
  · have hf := iff_ hf c3
    refine lv_iload_n hx hb dX10_shade_9 rfl (lv_at hl 3 rfl) ?_
    refine lv_iconst (v := 0) hx hb dX10_shade_10 (by decide) ?_
    refine lv_iconst (v := 2) hx hb dX10_shade_11 (by decide) ?_
    obtain ⟨r4, hc5, hf⟩ := ob_some hf
    refine af_iR (va_runS (As := [.int x3, .int 0, .int 2]) (rest := []) ⟨hx, hb, hml, hown, hts⟩ (k_X10_in l G cI cJ (x0 := x3) (x1 := 0) (x2 := 2) (sz := _) (hf := hc5)) (va_cwS 3 hts gX10_shade_X10_in rfl rfl rfl (by decide +kernel) ⟨Nat.le_of_ble_eq_true rfl, Nat.le_of_ble_eq_true rfl⟩) (preS0 (wc := []) hK hP hD hN [] rfl rfl (by decide)) rfl rfl hl.1 rfl (lv_room (Nat.le_of_ble_eq_true rfl)) dX10_shade_12 ⟨Nat.zero_le _, Nat.zero_le _⟩) hP hD hS hA [] rfl (fun H locs hP hS => ?_)
    refine lv_if_ne (tgt := 21) hx hb dX10_shade_15 (by decide) (fun c6 => ?_) (fun c6 => ?_)
    · have hf := iff_ hf c6
      refine lv_aload_n hx hb dX10_shade_21 rfl (lv_at hl 0 rfl) ?_
      refine lv_iload_n hx hb dX10_shade_22 rfl (lv_at hl 1 rfl) ?_
      refine lv_iload_n hx hb dX10_shade_23 rfl (lv_at hl 2 rfl) ?_
      refine lv_iload_n hx hb dX10_shade_24 rfl (lv_at hl 3 rfl) ?_
      obtain ⟨w7, w8, hc9, hf⟩ := ob2_some hf
      refine af_vW (wr := []) (ws2 := [(t_h, .inr (10, [.int t_baseWay, .int t_slip, .int t_low, .int t_high, .int t_unlike, .int t_alone, .long t_above, .long t_below, .ref t_edges_h, .ref t_lean_h, .ref t_word_h, .int t_layers, .ref t_layer_h, .ref t_least_h, .int t_sights, .ref t_sight_h, .int t_shadows, .ref t_shadow_h, .long t_endAbove, .long t_endBelow, .long w7, .long w8, .int t_spans, .ref t_spanLow_h, .ref t_spanHigh_h, .ref t_spanAt_h, .int t_found, .ref t_numbers_h, .int t_pairs, .ref t_pair_h, .ref t_most_h, .int t_rows, .ref t_row_h, .int t_notes, .ref t_under_h, .ref t_agreed_h])), (t_shadow_h, .inl (cI, 160, .inl t_shadow_a))]) (va_runV (As := [.int x1, .int x2, .int x3]) (rest := []) ⟨hx, hb, hml, hown, hts⟩ (k_X10_findShade l G cI cJ (t_h := t_h) (t_edges_h := t_edges_h) (t_lean_h := t_lean_h) (t_word_h := t_word_h) (t_layer_h := t_layer_h) (t_least_h := t_least_h) (t_sight_h := t_sight_h) (t_shadow_h := t_shadow_h) (t_spanLow_h := t_spanLow_h) (t_spanHigh_h := t_spanHigh_h) (t_spanAt_h := t_spanAt_h) (t_numbers_h := t_numbers_h) (t_pair_h := t_pair_h) (t_most_h := t_most_h) (t_row_h := t_row_h) (t_under_h := t_under_h) (t_agreed_h := t_agreed_h) (t_baseWay := t_baseWay) (t_slip := t_slip) (t_low := t_low) (t_high := t_high) (t_unlike := t_unlike) (t_alone := t_alone) (t_above := t_above) (t_below := t_below) (t_layers := t_layers) (t_sights := t_sights) (t_shadows := t_shadows) (t_endAbove := t_endAbove) (t_endBelow := t_endBelow) (t_speedAbove := t_speedAbove) (t_speedBelow := t_speedBelow) (t_spans := t_spans) (t_found := t_found) (t_pairs := t_pairs) (t_rows := t_rows) (t_notes := t_notes) (t_shadow_a := t_shadow_a) (x1 := x1) (x2 := x2) (x3 := x3) (sz := _) (hf := hc9)) (cwV 3 hts gX10_shade_X10_findShade rfl rfl rfl (by decide +kernel) ⟨Nat.le_of_ble_eq_true rfl, Nat.le_of_ble_eq_true rfl⟩) (preV0 (ci := 10) (q0 := 0) (C := RX10) (wc := [(t_h, .inr (10, [.int t_baseWay, .int t_slip, .int t_low, .int t_high, .int t_unlike, .int t_alone, .long t_above, .long t_below, .ref t_edges_h, .ref t_lean_h, .ref t_word_h, .int t_layers, .ref t_layer_h, .ref t_least_h, .int t_sights, .ref t_sight_h, .int t_shadows, .ref t_shadow_h, .long t_endAbove, .long t_endBelow, .long t_speedAbove, .long t_speedBelow, .int t_spans, .ref t_spanLow_h, .ref t_spanHigh_h, .ref t_spanAt_h, .int t_found, .ref t_numbers_h, .int t_pairs, .ref t_pair_h, .ref t_most_h, .int t_rows, .ref t_row_h, .int t_notes, .ref t_under_h, .ref t_agreed_h])), (t_shadow_h, .inl (cI, 160, .inl t_shadow_a))]) hK hP hD hN [0, 1] rfl rfl (by decide) rfl rfl) rfl rfl hl.1 rfl (lv_room (Nat.le_of_ble_eq_true rfl)) dX10_shade_25 ⟨Nat.zero_le _, Nat.zero_le _⟩) hP hD hS hA [0, 1] [] [0, 1] rfl rfl (by decide) (by decide) rfl rfl (by decide) (fun H locs hP hD hS => ?_)
      refine lv_aload_n hx hb dX10_shade_28 rfl (lv_at hl 0 rfl) ?_
      refine lv_aload_n hx hb dX10_shade_29 rfl (lv_at hl 0 rfl) ?_
      refine va_get (D := G) (ci := 10) (v := .long w7) (C := RX10) (T := TX10) (N := 36) hx hb hts iwX10 hown hK hP 0 rfl rfl 20 (by decide) fl_137 (fun _ h9 => h9) rfl dX10_shade_30 ?_
      refine lv_aload_n hx hb dX10_shade_33 rfl (lv_at hl 0 rfl) ?_
      refine va_get (D := G) (ci := 10) (v := .long w8) (C := RX10) (T := TX10) (N := 36) hx hb hts iwX10 hown hK hP 0 rfl rfl 21 (by decide) fl_140 (fun _ h9 => h9) rfl dX10_shade_34 ?_
      obtain ⟨r10, w11, w12, hc13, hf⟩ := ob3_some hf
      refine af_iW (wr := [(t_shadow_h, .inl (cI, 160, .inl t_shadow_a))]) (ws2 := [(t_h, .inr (10, [.int t_baseWay, .int t_slip, .int t_low, .int t_high, .int t_unlike, .int t_alone, .long w11, .long w12, .ref t_edges_h, .ref t_lean_h, .ref t_word_h, .int t_layers, .ref t_layer_h, .ref t_least_h, .int t_sights, .ref t_sight_h, .int t_shadows, .ref t_shadow_h, .long t_endAbove, .long t_endBelow, .long w7, .long w8, .int t_spans, .ref t_spanLow_h, .ref t_spanHigh_h, .ref t_spanAt_h, .int t_found, .ref t_numbers_h, .int t_pairs, .ref t_pair_h, .ref t_most_h, .int t_rows, .ref t_row_h, .int t_notes, .ref t_under_h, .ref t_agreed_h])), (t_shadow_h, .inl (cI, 160, .inl t_shadow_a))]) (va_runV (As := [.long w7, .long w8]) (rest := []) ⟨hx, hb, hml, hown, hts⟩ (k_X10_tells l G cI cJ (t_h := t_h) (t_edges_h := t_edges_h) (t_lean_h := t_lean_h) (t_word_h := t_word_h) (t_layer_h := t_layer_h) (t_least_h := t_least_h) (t_sight_h := t_sight_h) (t_shadow_h := t_shadow_h) (t_spanLow_h := t_spanLow_h) (t_spanHigh_h := t_spanHigh_h) (t_spanAt_h := t_spanAt_h) (t_numbers_h := t_numbers_h) (t_pair_h := t_pair_h) (t_most_h := t_most_h) (t_row_h := t_row_h) (t_under_h := t_under_h) (t_agreed_h := t_agreed_h) (t_baseWay := t_baseWay) (t_slip := t_slip) (t_low := t_low) (t_high := t_high) (t_unlike := t_unlike) (t_alone := t_alone) (t_above := t_above) (t_below := t_below) (t_layers := t_layers) (t_sights := t_sights) (t_shadows := t_shadows) (t_endAbove := t_endAbove) (t_endBelow := t_endBelow) (t_speedAbove := w7) (t_speedBelow := w8) (t_spans := t_spans) (t_found := t_found) (t_pairs := t_pairs) (t_rows := t_rows) (t_notes := t_notes) (x1 := w7) (x3 := w8) (sz := _) (hf := hc13)) (cwV 2 hts gX10_shade_X10_tells rfl rfl rfl (by decide +kernel) ⟨Nat.le_of_ble_eq_true rfl, Nat.le_of_ble_eq_true rfl⟩) (preV0 (ci := 10) (q0 := 0) (C := RX10) (wc := [(t_h, .inr (10, [.int t_baseWay, .int t_slip, .int t_low, .int t_high, .int t_unlike, .int t_alone, .long t_above, .long t_below, .ref t_edges_h, .ref t_lean_h, .ref t_word_h, .int t_layers, .ref t_layer_h, .ref t_least_h, .int t_sights, .ref t_sight_h, .int t_shadows, .ref t_shadow_h, .long t_endAbove, .long t_endBelow, .long w7, .long w8, .int t_spans, .ref t_spanLow_h, .ref t_spanHigh_h, .ref t_spanAt_h, .int t_found, .ref t_numbers_h, .int t_pairs, .ref t_pair_h, .ref t_most_h, .int t_rows, .ref t_row_h, .int t_notes, .ref t_under_h, .ref t_agreed_h]))]) hK hP hD hN [0] rfl rfl (by decide) rfl rfl) rfl rfl hl.1 rfl (lv_room (Nat.le_of_ble_eq_true rfl)) dX10_shade_37 ⟨Nat.zero_le _, Nat.zero_le _⟩) hP hD hS hA [0] [1] [1, 0] rfl rfl (by decide) (by decide) rfl rfl (by decide) (fun H locs hP hD hS => ?_)
      exact hret r10 w11 w12 w7 w8 40 _ _ _ dX10_shade_40 hf hP hD hS
    · have hf := ift hf c6
      refine lv_bipush (v := (-2)) hx hb dX10_shade_18 (by decide) ?_
      exact hret (-2) t_above t_below t_speedAbove t_speedBelow 20 _ _ _ dX10_shade_20 hf hP hD hS
set_option maxRecDepth 20000 in
theorem ggX10_agree_X10_areSights : GoodIn wsX10_agree wsX10_areSights := goodIn_r _ [9, 10, 1, 11, 12, 8, 13, 44, 45, 46, 47, 48, 49, 50, 51, 52, 53, 54, 55, 56, 57, 58, 59, 60, 61, 62, 63, 64, 65, 66, 67, 68, 69, 70, 71, 72, 73, 74, 75, 76, 77, 78, 79] (by decide +kernel) (by decide +kernel)
set_option maxRecDepth 20000 in
theorem gX10_agree_X10_areSights : GoodIn wsX10_agree (wsV RX10 151 RX10 yX10_areSights wsX10_areSights) := goodIn_app (goodIn_of _ (by decide +kernel)) ggX10_agree_X10_areSights
set_option maxRecDepth 20000 in
theorem ggX10_agree_X10_areShadows : GoodIn wsX10_agree wsX10_areShadows := goodIn_r _ [17, 18, 2, 11, 12, 8, 13, 44, 45, 46, 47, 48, 49, 50, 51, 52, 53, 54, 55, 56, 57, 58, 59, 60, 61, 62, 63, 64, 65, 66, 67, 68, 69, 70, 71, 72, 73, 74, 75, 76, 77, 78, 79] (by decide +kernel) (by decide +kernel)
set_option maxRecDepth 20000 in
theorem gX10_agree_X10_areShadows : GoodIn wsX10_agree (wsV RX10 158 RX10 yX10_areShadows wsX10_areShadows) := goodIn_app (goodIn_of _ (by decide +kernel)) ggX10_agree_X10_areShadows
set_option maxRecDepth 20000 in
theorem ggX10_agree_X10_findSpeed : GoodIn wsX10_agree wsX10_findSpeed := goodIn_r _ [22, 1, 23, 24, 25, 26, 27, 28, 8, 29, 3, 4, 30, 31, 32, 33, 34, 35, 36, 37, 38, 39, 44, 45, 46, 47, 48, 49, 50, 51, 52, 53, 54, 55, 56, 57, 58, 59, 60, 61, 62, 63, 64, 65, 66, 67, 68, 69, 70, 71, 72, 73, 74, 75, 76, 77, 78, 79] (by decide +kernel) (by decide +kernel)
set_option maxRecDepth 20000 in
theorem gX10_agree_X10_findSpeed : GoodIn wsX10_agree (wsV RX10 155 RX10 yX10_findSpeed wsX10_findSpeed) := goodIn_app (goodIn_of _ (by decide +kernel)) ggX10_agree_X10_findSpeed
set_option maxRecDepth 20000 in
theorem ggX10_agree_X10_findShade : GoodIn wsX10_agree wsX10_findShade := goodIn_r _ [43, 2, 26, 27, 28, 8, 29, 3, 4, 30, 31, 32, 44, 45, 46, 47, 48, 49, 50, 51, 52, 53, 54, 55, 56, 57, 58, 59, 60, 61, 62, 63, 64, 65, 66, 67, 68, 69, 70, 71, 72, 73, 74, 75, 76, 77, 78, 79] (by decide +kernel) (by decide +kernel)
set_option maxRecDepth 20000 in
theorem gX10_agree_X10_findShade : GoodIn wsX10_agree (wsV RX10 161 RX10 yX10_findShade wsX10_findShade) := goodIn_app (goodIn_of _ (by decide +kernel)) ggX10_agree_X10_findShade
theorem dX10_agree_0 : decode cX10_agree 0 = .ok (.aload_n 0, 1) := by decide +kernel
theorem dX10_agree_1 : decode cX10_agree 1 = .ok (.iload_n 1, 1) := by decide +kernel
theorem dX10_agree_2 : decode cX10_agree 2 = .ok (.iload_n 2, 1) := by decide +kernel
theorem dX10_agree_3 : decode cX10_agree 3 = .ok (.invokevirtual 151, 3) := by decide +kernel
theorem dX10_agree_6 : decode cX10_agree 6 = .ok (.ifCond .eq 32, 3) := by decide +kernel
theorem dX10_agree_9 : decode cX10_agree 9 = .ok (.aload_n 0, 1) := by decide +kernel
theorem dX10_agree_10 : decode cX10_agree 10 = .ok (.iload_n 3, 1) := by decide +kernel
theorem dX10_agree_11 : decode cX10_agree 11 = .ok (.iload 4, 2) := by decide +kernel
theorem dX10_agree_13 : decode cX10_agree 13 = .ok (.invokevirtual 158, 3) := by decide +kernel
theorem dX10_agree_16 : decode cX10_agree 16 = .ok (.ifCond .eq 22, 3) := by decide +kernel
theorem dX10_agree_19 : decode cX10_agree 19 = .ok (.aload_n 0, 1) := by decide +kernel
theorem dX10_agree_20 : decode cX10_agree 20 = .ok (.getfield 25, 3) := by decide +kernel
theorem dX10_agree_23 : decode cX10_agree 23 = .ok (.iconst 4, 1) := by decide +kernel
theorem dX10_agree_24 : decode cX10_agree 24 = .ok (.iload_n 1, 1) := by decide +kernel
theorem dX10_agree_25 : decode cX10_agree 25 = .ok (.imul, 1) := by decide +kernel
theorem dX10_agree_26 : decode cX10_agree 26 = .ok (.iaload, 1) := by decide +kernel
theorem dX10_agree_27 : decode cX10_agree 27 = .ok (.aload_n 0, 1) := by decide +kernel
theorem dX10_agree_28 : decode cX10_agree 28 = .ok (.getfield 28, 3) := by decide +kernel
theorem dX10_agree_31 : decode cX10_agree 31 = .ok (.iconst 4, 1) := by decide +kernel
theorem dX10_agree_32 : decode cX10_agree 32 = .ok (.iload_n 3, 1) := by decide +kernel
theorem dX10_agree_33 : decode cX10_agree 33 = .ok (.imul, 1) := by decide +kernel
theorem dX10_agree_34 : decode cX10_agree 34 = .ok (.iaload, 1) := by decide +kernel
theorem dX10_agree_35 : decode cX10_agree 35 = .ok (.if_icmp .eq 6, 3) := by decide +kernel
theorem dX10_agree_38 : decode cX10_agree 38 = .ok (.bipush (-2), 2) := by decide +kernel
theorem dX10_agree_40 : decode cX10_agree 40 = .ok (.ireturn, 1) := by decide +kernel
theorem dX10_agree_41 : decode cX10_agree 41 = .ok (.aload_n 0, 1) := by decide +kernel
theorem dX10_agree_42 : decode cX10_agree 42 = .ok (.iload_n 1, 1) := by decide +kernel
theorem dX10_agree_43 : decode cX10_agree 43 = .ok (.iload_n 2, 1) := by decide +kernel
theorem dX10_agree_44 : decode cX10_agree 44 = .ok (.iconst 1, 1) := by decide +kernel
theorem dX10_agree_45 : decode cX10_agree 45 = .ok (.invokevirtual 155, 3) := by decide +kernel
theorem dX10_agree_48 : decode cX10_agree 48 = .ok (.ifCond .ne 6, 3) := by decide +kernel
theorem dX10_agree_51 : decode cX10_agree 51 = .ok (.bipush (-3), 2) := by decide +kernel
theorem dX10_agree_53 : decode cX10_agree 53 = .ok (.ireturn, 1) := by decide +kernel
theorem dX10_agree_54 : decode cX10_agree 54 = .ok (.aload_n 0, 1) := by decide +kernel
theorem dX10_agree_55 : decode cX10_agree 55 = .ok (.getfield 137, 3) := by decide +kernel
theorem dX10_agree_58 : decode cX10_agree 58 = .ok (.lstore 5, 2) := by decide +kernel
theorem dX10_agree_60 : decode cX10_agree 60 = .ok (.aload_n 0, 1) := by decide +kernel
theorem dX10_agree_61 : decode cX10_agree 61 = .ok (.getfield 140, 3) := by decide +kernel
theorem dX10_agree_64 : decode cX10_agree 64 = .ok (.lstore 7, 2) := by decide +kernel
theorem dX10_agree_66 : decode cX10_agree 66 = .ok (.aload_n 0, 1) := by decide +kernel
theorem dX10_agree_67 : decode cX10_agree 67 = .ok (.iload_n 1, 1) := by decide +kernel
theorem dX10_agree_68 : decode cX10_agree 68 = .ok (.iload_n 2, 1) := by decide +kernel
theorem dX10_agree_69 : decode cX10_agree 69 = .ok (.iconst 2, 1) := by decide +kernel
theorem dX10_agree_70 : decode cX10_agree 70 = .ok (.invokevirtual 155, 3) := by decide +kernel
theorem dX10_agree_73 : decode cX10_agree 73 = .ok (.pop, 1) := by decide +kernel
theorem dX10_agree_74 : decode cX10_agree 74 = .ok (.aload_n 0, 1) := by decide +kernel
theorem dX10_agree_75 : decode cX10_agree 75 = .ok (.getfield 137, 3) := by decide +kernel
theorem dX10_agree_78 : decode cX10_agree 78 = .ok (.lstore 9, 2) := by decide +kernel
theorem dX10_agree_80 : decode cX10_agree 80 = .ok (.aload_n 0, 1) := by decide +kernel
theorem dX10_agree_81 : decode cX10_agree 81 = .ok (.getfield 140, 3) := by decide +kernel
theorem dX10_agree_84 : decode cX10_agree 84 = .ok (.lstore 11, 2) := by decide +kernel
theorem dX10_agree_86 : decode cX10_agree 86 = .ok (.aload_n 0, 1) := by decide +kernel
theorem dX10_agree_87 : decode cX10_agree 87 = .ok (.iload_n 3, 1) := by decide +kernel
theorem dX10_agree_88 : decode cX10_agree 88 = .ok (.iload 4, 2) := by decide +kernel
theorem dX10_agree_90 : decode cX10_agree 90 = .ok (.iconst 2, 1) := by decide +kernel
theorem dX10_agree_91 : decode cX10_agree 91 = .ok (.invokevirtual 161, 3) := by decide +kernel
theorem dX10_agree_94 : decode cX10_agree 94 = .ok (.lload 5, 2) := by decide +kernel
theorem dX10_agree_96 : decode cX10_agree 96 = .ok (.aload_n 0, 1) := by decide +kernel
theorem dX10_agree_97 : decode cX10_agree 97 = .ok (.getfield 140, 3) := by decide +kernel
theorem dX10_agree_100 : decode cX10_agree 100 = .ok (.lmul, 1) := by decide +kernel
theorem dX10_agree_101 : decode cX10_agree 101 = .ok (.aload_n 0, 1) := by decide +kernel
theorem dX10_agree_102 : decode cX10_agree 102 = .ok (.getfield 137, 3) := by decide +kernel
theorem dX10_agree_105 : decode cX10_agree 105 = .ok (.lload 7, 2) := by decide +kernel
theorem dX10_agree_107 : decode cX10_agree 107 = .ok (.lmul, 1) := by decide +kernel
theorem dX10_agree_108 : decode cX10_agree 108 = .ok (.lcmp, 1) := by decide +kernel
theorem dX10_agree_109 : decode cX10_agree 109 = .ok (.ifCond .gt 7, 3) := by decide +kernel
theorem dX10_agree_112 : decode cX10_agree 112 = .ok (.iconst 1, 1) := by decide +kernel
theorem dX10_agree_113 : decode cX10_agree 113 = .ok (.goto 4, 3) := by decide +kernel
theorem dX10_agree_116 : decode cX10_agree 116 = .ok (.iconst 0, 1) := by decide +kernel
theorem dX10_agree_117 : decode cX10_agree 117 = .ok (.istore 13, 2) := by decide +kernel
theorem dX10_agree_119 : decode cX10_agree 119 = .ok (.aload_n 0, 1) := by decide +kernel
theorem dX10_agree_120 : decode cX10_agree 120 = .ok (.iload_n 3, 1) := by decide +kernel
theorem dX10_agree_121 : decode cX10_agree 121 = .ok (.iload 4, 2) := by decide +kernel
theorem dX10_agree_123 : decode cX10_agree 123 = .ok (.iconst 1, 1) := by decide +kernel
theorem dX10_agree_124 : decode cX10_agree 124 = .ok (.invokevirtual 161, 3) := by decide +kernel
theorem dX10_agree_127 : decode cX10_agree 127 = .ok (.aload_n 0, 1) := by decide +kernel
theorem dX10_agree_128 : decode cX10_agree 128 = .ok (.getfield 137, 3) := by decide +kernel
theorem dX10_agree_131 : decode cX10_agree 131 = .ok (.lload 11, 2) := by decide +kernel
theorem dX10_agree_133 : decode cX10_agree 133 = .ok (.lmul, 1) := by decide +kernel
theorem dX10_agree_134 : decode cX10_agree 134 = .ok (.lload 9, 2) := by decide +kernel
theorem dX10_agree_136 : decode cX10_agree 136 = .ok (.aload_n 0, 1) := by decide +kernel
theorem dX10_agree_137 : decode cX10_agree 137 = .ok (.getfield 140, 3) := by decide +kernel
theorem dX10_agree_140 : decode cX10_agree 140 = .ok (.lmul, 1) := by decide +kernel
theorem dX10_agree_141 : decode cX10_agree 141 = .ok (.lcmp, 1) := by decide +kernel
theorem dX10_agree_142 : decode cX10_agree 142 = .ok (.ifCond .gt 7, 3) := by decide +kernel
theorem dX10_agree_145 : decode cX10_agree 145 = .ok (.iconst 1, 1) := by decide +kernel
theorem dX10_agree_146 : decode cX10_agree 146 = .ok (.goto 4, 3) := by decide +kernel
theorem dX10_agree_149 : decode cX10_agree 149 = .ok (.iconst 0, 1) := by decide +kernel
theorem dX10_agree_150 : decode cX10_agree 150 = .ok (.istore 14, 2) := by decide +kernel
theorem dX10_agree_152 : decode cX10_agree 152 = .ok (.iload 13, 2) := by decide +kernel
theorem dX10_agree_154 : decode cX10_agree 154 = .ok (.ifCond .eq 12, 3) := by decide +kernel
theorem dX10_agree_157 : decode cX10_agree 157 = .ok (.iload 14, 2) := by decide +kernel
theorem dX10_agree_159 : decode cX10_agree 159 = .ok (.ifCond .eq 7, 3) := by decide +kernel
theorem dX10_agree_162 : decode cX10_agree 162 = .ok (.iconst 1, 1) := by decide +kernel
theorem dX10_agree_163 : decode cX10_agree 163 = .ok (.goto 4, 3) := by decide +kernel
theorem dX10_agree_166 : decode cX10_agree 166 = .ok (.iconst 0, 1) := by decide +kernel
theorem dX10_agree_167 : decode cX10_agree 167 = .ok (.ireturn, 1) := by decide +kernel
set_option maxRecDepth 100000 in
def fX10_agree (x1 : Int32) (x2 : Int32) (x3 : Int32) (x4 : Int32) (t_baseWay : Int32) (t_slip : Int32) (t_sights : Int32) (t_shadows : Int32) (t_endAbove : Int64) (t_endBelow : Int64) (t_speedAbove : Int64) (t_speedBelow : Int64) (t_sight_a : Nat → Int32) (t_shadow_a : Nat → Int32) : Option (Int32 × Int64 × Int64 × Int64 × Int64) :=
  ob (fX10_areSights x1 x2 t_sights t_sight_a) fun r1 =>
  if (b2i r1) = 0 then
    some ((-2), t_endAbove, t_endBelow, t_speedAbove, t_speedBelow)
  else
    ob (fX10_areShadows x3 x4 t_shadows t_shadow_a) fun r4 =>
    if (b2i r4) = 0 then
      some ((-2), t_endAbove, t_endBelow, t_speedAbove, t_speedBelow)
    else
      gd (bnd (4 * x1) 160) <|
      gd (bnd (4 * x3) 160) <|
      if (t_sight_a (Int32.toNatClampNeg (4 * x1))) = (t_shadow_a (Int32.toNatClampNeg (4 * x3))) then
        ob5 (fX10_findSpeed x1 x2 1 t_baseWay t_slip t_endAbove t_endBelow t_speedAbove t_speedBelow t_sight_a) fun r10 w11 w12 w13 w14 =>
        if (b2i r10) = 0 then
          some ((-3), w11, w12, w13, w14)
        else
          ob5 (fX10_findSpeed x1 x2 2 t_baseWay t_slip w11 w12 w13 w14 t_sight_a) fun r17 w18 w19 w20 w21 =>
          ob2 (fX10_findShade x3 x4 2 w20 w21 t_shadow_a) fun w23 w24 =>
          ob (α := Int32) (
              if 0 < (lg_cmp (w13 * w24) (w23 * w14)) then
                some 0
              else
                some 1
            ) fun m26 =>
          ob2 (fX10_findShade x3 x4 1 w23 w24 t_shadow_a) fun w30 w31 =>
          ob (α := Int32) (
              if 0 < (lg_cmp (w30 * w21) (w20 * w31)) then
                some 0
              else
                some 1
            ) fun m33 =>
          if m26 = 0 then
            some (0, w18, w19, w30, w31)
          else
            if m33 = 0 then
              some (0, w18, w19, w30, w31)
            else
              some (1, w18, w19, w30, w31)
      else
        some ((-2), t_endAbove, t_endBelow, t_speedAbove, t_speedBelow)
abbrev rmX10_agree : Room := { frames := 3, cells := 0, slots := 0, locals := 90 }
theorem iwX10_agree_X10 : ∀ w ∈ u_ws RX10 TX10 36, w ∈ wsX10_agree := by decide +kernel
set_option maxHeartbeats 4000000 in
set_option maxRecDepth 100000 in
theorem k_X10_agree (l : Launch) (G : va_G) (cI cJ : ClassId) (t_h t_edges_h t_lean_h t_word_h t_layer_h t_least_h t_sight_h t_shadow_h t_spanLow_h t_spanHigh_h t_spanAt_h t_numbers_h t_pair_h t_most_h t_row_h t_under_h t_agreed_h : Nat) (sz : Nat) (t_baseWay : Int32) (t_slip : Int32) (t_low : Int32) (t_high : Int32) (t_unlike : Int32) (t_alone : Int32) (t_above : Int64) (t_below : Int64) (t_layers : Int32) (t_sights : Int32) (t_shadows : Int32) (t_endAbove : Int64) (t_endBelow : Int64) (t_speedAbove : Int64) (t_speedBelow : Int64) (t_spans : Int32) (t_found : Int32) (t_pairs : Int32) (t_rows : Int32) (t_notes : Int32) (t_sight_a : Nat → Int32) (t_shadow_a : Nat → Int32) (x1 : Int32) (x2 : Int32) (x3 : Int32) (x4 : Int32) {o_r : Int32} {o_t_endAbove : Int64} {o_t_endBelow : Int64} {o_t_speedAbove : Int64} {o_t_speedBelow : Int64} (hf : fX10_agree x1 x2 x3 x4 t_baseWay t_slip t_sights t_shadows t_endAbove t_endBelow t_speedAbove t_speedBelow t_sight_a t_shadow_a = some (o_r, o_t_endAbove, o_t_endBelow, o_t_speedAbove, o_t_speedBelow)) : MetI l yX10_agree wsX10_agree rmX10_agree [.ref t_h, .int x1, .int x2, .int x3, .int x4] G cI cJ [(t_h, .inr (10, [.int t_baseWay, .int t_slip, .int t_low, .int t_high, .int t_unlike, .int t_alone, .long t_above, .long t_below, .ref t_edges_h, .ref t_lean_h, .ref t_word_h, .int t_layers, .ref t_layer_h, .ref t_least_h, .int t_sights, .ref t_sight_h, .int t_shadows, .ref t_shadow_h, .long t_endAbove, .long t_endBelow, .long t_speedAbove, .long t_speedBelow, .int t_spans, .ref t_spanLow_h, .ref t_spanHigh_h, .ref t_spanAt_h, .int t_found, .ref t_numbers_h, .int t_pairs, .ref t_pair_h, .ref t_most_h, .int t_rows, .ref t_row_h, .int t_notes, .ref t_under_h, .ref t_agreed_h])), (t_sight_h, .inl (cI, 160, .inl t_sight_a)), (t_shadow_h, .inl (cI, 160, .inl t_shadow_a))] [(t_h, .inr (10, [.int t_baseWay, .int t_slip, .int t_low, .int t_high, .int t_unlike, .int t_alone, .long t_above, .long t_below, .ref t_edges_h, .ref t_lean_h, .ref t_word_h, .int t_layers, .ref t_layer_h, .ref t_least_h, .int t_sights, .ref t_sight_h, .int t_shadows, .ref t_shadow_h, .long o_t_endAbove, .long o_t_endBelow, .long o_t_speedAbove, .long o_t_speedBelow, .int t_spans, .ref t_spanLow_h, .ref t_spanHigh_h, .ref t_spanAt_h, .int t_found, .ref t_numbers_h, .int t_pairs, .ref t_pair_h, .ref t_most_h, .int t_rows, .ref t_row_h, .int t_notes, .ref t_under_h, .ref t_agreed_h])), (t_sight_h, .inl (cI, 160, .inl t_sight_a)), (t_shadow_h, .inl (cI, 160, .inl t_shadow_a))] sz o_r := by
  refine en_0 (l := l) (y := yX10_agree) (wsl := wsX10_agree) (rm := rmX10_agree) (av := [.ref t_h, .int x1, .int x2, .int x3, .int x4]) (G := G) (cI := cI) (cJ := cJ) (w0 := [(t_h, .inr (10, [.int t_baseWay, .int t_slip, .int t_low, .int t_high, .int t_unlike, .int t_alone, .long t_above, .long t_below, .ref t_edges_h, .ref t_lean_h, .ref t_word_h, .int t_layers, .ref t_layer_h, .ref t_least_h, .int t_sights, .ref t_sight_h, .int t_shadows, .ref t_shadow_h, .long t_endAbove, .long t_endBelow, .long t_speedAbove, .long t_speedBelow, .int t_spans, .ref t_spanLow_h, .ref t_spanHigh_h, .ref t_spanAt_h, .int t_found, .ref t_numbers_h, .int t_pairs, .ref t_pair_h, .ref t_most_h, .int t_rows, .ref t_row_h, .int t_notes, .ref t_under_h, .ref t_agreed_h])), (t_sight_h, .inl (cI, 160, .inl t_sight_a)), (t_shadow_h, .inl (cI, 160, .inl t_shadow_a))]) (sz := sz) (Qf := fun A => Qi0 G cI cJ [(t_h, .inr (10, [.int t_baseWay, .int t_slip, .int t_low, .int t_high, .int t_unlike, .int t_alone, .long t_above, .long t_below, .ref t_edges_h, .ref t_lean_h, .ref t_word_h, .int t_layers, .ref t_layer_h, .ref t_least_h, .int t_sights, .ref t_sight_h, .int t_shadows, .ref t_shadow_h, .long o_t_endAbove, .long o_t_endBelow, .long o_t_speedAbove, .long o_t_speedBelow, .int t_spans, .ref t_spanLow_h, .ref t_spanHigh_h, .ref t_spanAt_h, .int t_found, .ref t_numbers_h, .int t_pairs, .ref t_pair_h, .ref t_most_h, .int t_rows, .ref t_row_h, .int t_notes, .ref t_under_h, .ref t_agreed_h])), (t_sight_h, .inl (cI, 160, .inl t_sight_a)), (t_shadow_h, .inl (cI, 160, .inl t_shadow_a))] o_r A) (cc := cX10_agree) (maxL := 15) (ret := (some .int)) RX10 (by decide +kernel) rfl rfl (Nat.le_of_ble_eq_true rfl) ?_
  intro p e s m args below meth c A ls Q hQ hx hb hr hts hown hlocks hml hN hK hP hD hS hA hl
  have hl : lv_has ls 15 [(0, .ref t_h), (1, .int x1), (2, .int x2), (3, .int x3), (4, .int x4)] := hl
  have iwX10 := iwX10_agree_X10
  have fl_25 := hts (.fieldLink RX10 25 "CloudOfficeModel" "sight" "[I") (by decide +kernel)
  have fl_28 := hts (.fieldLink RX10 28 "CloudOfficeModel" "shadow" "[I") (by decide +kernel)
  have fl_137 := hts (.fieldLink RX10 137 "CloudOfficeModel" "speedAbove" "J") (by decide +kernel)
  have fl_140 := hts (.fieldLink RX10 140 "CloudOfficeModel" "speedBelow" "J") (by decide +kernel)
  have hret : ∀ (o_r9 : Int32) (o_t_endAbove9 : Int64) (o_t_endBelow9 : Int64) (o_t_speedAbove9 : Int64) (o_t_speedBelow9 : Int64) (pc : Nat) (H : Heap) (locs : List Loc) (ls : Array Slot), decode cX10_agree pc = .ok (.ireturn, 1) → some (o_r9, o_t_endAbove9, o_t_endBelow9, o_t_speedAbove9, o_t_speedBelow9) = some (o_r, o_t_endAbove, o_t_endBelow, o_t_speedAbove, o_t_speedBelow) → va_P G vwCl [(t_h, .inr (10, [.int t_baseWay, .int t_slip, .int t_low, .int t_high, .int t_unlike, .int t_alone, .long t_above, .long t_below, .ref t_edges_h, .ref t_lean_h, .ref t_word_h, .int t_layers, .ref t_layer_h, .ref t_least_h, .int t_sights, .ref t_sight_h, .int t_shadows, .ref t_shadow_h, .long o_t_endAbove9, .long o_t_endBelow9, .long o_t_speedAbove9, .long o_t_speedBelow9, .int t_spans, .ref t_spanLow_h, .ref t_spanHigh_h, .ref t_spanAt_h, .int t_found, .ref t_numbers_h, .int t_pairs, .ref t_pair_h, .ref t_most_h, .int t_rows, .ref t_row_h, .int t_notes, .ref t_under_h, .ref t_agreed_h])), (t_sight_h, .inl (cI, 160, .inl t_sight_a)), (t_shadow_h, .inl (cI, 160, .inl t_shadow_a))] H → va_D A [(t_h, .inr (10, [.int t_baseWay, .int t_slip, .int t_low, .int t_high, .int t_unlike, .int t_alone, .long t_above, .long t_below, .ref t_edges_h, .ref t_lean_h, .ref t_word_h, .int t_layers, .ref t_layer_h, .ref t_least_h, .int t_sights, .ref t_sight_h, .int t_shadows, .ref t_shadow_h, .long o_t_endAbove9, .long o_t_endBelow9, .long o_t_speedAbove9, .long o_t_speedBelow9, .int t_spans, .ref t_spanLow_h, .ref t_spanHigh_h, .ref t_spanAt_h, .int t_found, .ref t_numbers_h, .int t_pairs, .ref t_pair_h, .ref t_most_h, .int t_rows, .ref t_row_h, .int t_notes, .ref t_under_h, .ref t_agreed_h])), (t_sight_h, .inl (cI, 160, .inl t_sight_a)), (t_shadow_h, .inl (cI, 160, .inl t_shadow_a))] → va_S A s.heap H locs → W p l e rmX10_agree s m args below meth c H locs 0 0 Q (F0 m pc ls [.int o_r9]) := by
    intro o_r9 o_t_endAbove9 o_t_endBelow9 o_t_speedAbove9 o_t_speedBelow9 pc H locs ls hdg he hP hD hS
    cases he
    subst hQ
    exact rt_i hx hb hr hlocks hK hP hD hS rfl hdg
  clear hQ
  unfold fX10_agree at hf
  refine lv_aload_n hx hb dX10_agree_0 rfl (lv_at hl 0 rfl) ?_
  refine lv_iload_n hx hb dX10_agree_1 rfl (lv_at hl 1 rfl) ?_
  refine lv_iload_n hx hb dX10_agree_2 rfl (lv_at hl 2 rfl) ?_
  obtain ⟨r1, hc2, hf⟩ := ob_some hf
  refine af_iR (va_runV (As := [.int x1, .int x2]) (rest := []) ⟨hx, hb, hml, hown, hts⟩ (k_X10_areSights l G cI cJ (t_h := t_h) (t_edges_h := t_edges_h) (t_lean_h := t_lean_h) (t_word_h := t_word_h) (t_layer_h := t_layer_h) (t_least_h := t_least_h) (t_sight_h := t_sight_h) (t_shadow_h := t_shadow_h) (t_spanLow_h := t_spanLow_h) (t_spanHigh_h := t_spanHigh_h) (t_spanAt_h := t_spanAt_h) (t_numbers_h := t_numbers_h) (t_pair_h := t_pair_h) (t_most_h := t_most_h) (t_row_h := t_row_h) (t_under_h := t_under_h) (t_agreed_h := t_agreed_h) (t_baseWay := t_baseWay) (t_slip := t_slip) (t_low := t_low) (t_high := t_high) (t_unlike := t_unlike) (t_alone := t_alone) (t_above := t_above) (t_below := t_below) (t_layers := t_layers) (t_sights := t_sights) (t_shadows := t_shadows) (t_endAbove := t_endAbove) (t_endBelow := t_endBelow) (t_speedAbove := t_speedAbove) (t_speedBelow := t_speedBelow) (t_spans := t_spans) (t_found := t_found) (t_pairs := t_pairs) (t_rows := t_rows) (t_notes := t_notes) (t_sight_a := t_sight_a) (x1 := x1) (x2 := x2) (sz := _) (hf := hc2)) (cwV 2 hts gX10_agree_X10_areSights rfl rfl rfl (by decide +kernel) ⟨Nat.le_of_ble_eq_true rfl, Nat.le_of_ble_eq_true rfl⟩) (preV0 (ci := 10) (q0 := 0) (C := RX10) (wc := [(t_h, .inr (10, [.int t_baseWay, .int t_slip, .int t_low, .int t_high, .int t_unlike, .int t_alone, .long t_above, .long t_below, .ref t_edges_h, .ref t_lean_h, .ref t_word_h, .int t_layers, .ref t_layer_h, .ref t_least_h, .int t_sights, .ref t_sight_h, .int t_shadows, .ref t_shadow_h, .long t_endAbove, .long t_endBelow, .long t_speedAbove, .long t_speedBelow, .int t_spans, .ref t_spanLow_h, .ref t_spanHigh_h, .ref t_spanAt_h, .int t_found, .ref t_numbers_h, .int t_pairs, .ref t_pair_h, .ref t_most_h, .int t_rows, .ref t_row_h, .int t_notes, .ref t_under_h, .ref t_agreed_h])), (t_sight_h, .inl (cI, 160, .inl t_sight_a))]) hK hP hD hN [0, 1] rfl rfl (by decide) rfl rfl) rfl rfl hl.1 rfl (lv_room (Nat.le_of_ble_eq_true rfl)) dX10_agree_3 ⟨Nat.zero_le _, Nat.zero_le _⟩) hP hD hS hA [0, 1] rfl (fun H locs hP hS => ?_)
  refine lv_if_eq (tgt := 38) hx hb dX10_agree_6 (by decide) (fun c3 => ?_) (fun c3 => ?_)
  · have hf := ift hf c3
    refine lv_bipush (v := (-2)) hx hb dX10_agree_38 (by decide) ?_
    exact hret (-2) t_endAbove t_endBelow t_speedAbove t_speedBelow 40 _ _ _ dX10_agree_40 hf hP hD hS
  · have hf := iff_ hf c3
    refine lv_aload_n hx hb dX10_agree_9 rfl (lv_at hl 0 rfl) ?_
    refine lv_iload_n hx hb dX10_agree_10 rfl (lv_at hl 3 rfl) ?_
    refine lv_iload hx hb dX10_agree_11 (lv_at hl 4 rfl) ?_
    obtain ⟨r4, hc5, hf⟩ := ob_some hf
    refine af_iR (va_runV (As := [.int x3, .int x4]) (rest := []) ⟨hx, hb, hml, hown, hts⟩ (k_X10_areShadows l G cI cJ (t_h := t_h) (t_edges_h := t_edges_h) (t_lean_h := t_lean_h) (t_word_h := t_word_h) (t_layer_h := t_layer_h) (t_least_h := t_least_h) (t_sight_h := t_sight_h) (t_shadow_h := t_shadow_h) (t_spanLow_h := t_spanLow_h) (t_spanHigh_h := t_spanHigh_h) (t_spanAt_h := t_spanAt_h) (t_numbers_h := t_numbers_h) (t_pair_h := t_pair_h) (t_most_h := t_most_h) (t_row_h := t_row_h) (t_under_h := t_under_h) (t_agreed_h := t_agreed_h) (t_baseWay := t_baseWay) (t_slip := t_slip) (t_low := t_low) (t_high := t_high) (t_unlike := t_unlike) (t_alone := t_alone) (t_above := t_above) (t_below := t_below) (t_layers := t_layers) (t_sights := t_sights) (t_shadows := t_shadows) (t_endAbove := t_endAbove) (t_endBelow := t_endBelow) (t_speedAbove := t_speedAbove) (t_speedBelow := t_speedBelow) (t_spans := t_spans) (t_found := t_found) (t_pairs := t_pairs) (t_rows := t_rows) (t_notes := t_notes) (t_shadow_a := t_shadow_a) (x1 := x3) (x2 := x4) (sz := _) (hf := hc5)) (cwV 2 hts gX10_agree_X10_areShadows rfl rfl rfl (by decide +kernel) ⟨Nat.le_of_ble_eq_true rfl, Nat.le_of_ble_eq_true rfl⟩) (preV0 (ci := 10) (q0 := 0) (C := RX10) (wc := [(t_h, .inr (10, [.int t_baseWay, .int t_slip, .int t_low, .int t_high, .int t_unlike, .int t_alone, .long t_above, .long t_below, .ref t_edges_h, .ref t_lean_h, .ref t_word_h, .int t_layers, .ref t_layer_h, .ref t_least_h, .int t_sights, .ref t_sight_h, .int t_shadows, .ref t_shadow_h, .long t_endAbove, .long t_endBelow, .long t_speedAbove, .long t_speedBelow, .int t_spans, .ref t_spanLow_h, .ref t_spanHigh_h, .ref t_spanAt_h, .int t_found, .ref t_numbers_h, .int t_pairs, .ref t_pair_h, .ref t_most_h, .int t_rows, .ref t_row_h, .int t_notes, .ref t_under_h, .ref t_agreed_h])), (t_shadow_h, .inl (cI, 160, .inl t_shadow_a))]) hK hP hD hN [0, 2] rfl rfl (by decide) rfl rfl) rfl rfl hl.1 rfl (lv_room (Nat.le_of_ble_eq_true rfl)) dX10_agree_13 ⟨Nat.zero_le _, Nat.zero_le _⟩) hP hD hS hA [0, 2] rfl (fun H locs hP hS => ?_)
    refine lv_if_eq (tgt := 38) hx hb dX10_agree_16 (by decide) (fun c6 => ?_) (fun c6 => ?_)
    · have hf := ift hf c6
      refine lv_bipush (v := (-2)) hx hb dX10_agree_38 (by decide) ?_
      exact hret (-2) t_endAbove t_endBelow t_speedAbove t_speedBelow 40 _ _ _ dX10_agree_40 hf hP hD hS
    · have hf := iff_ hf c6
      refine lv_aload_n hx hb dX10_agree_19 rfl (lv_at hl 0 rfl) ?_
      refine va_get (D := G) (ci := 10) (v := .ref t_sight_h) (C := RX10) (T := TX10) (N := 36) hx hb hts iwX10 hown hK hP 0 rfl rfl 15 (by decide) fl_25 (fun _ h9 => h9) rfl dX10_agree_20 ?_
      refine lv_iconst (v := 4) hx hb dX10_agree_23 (by decide) ?_
      refine lv_iload_n hx hb dX10_agree_24 rfl (lv_at hl 1 rfl) ?_
      refine lv_imul hx hb dX10_agree_25 ?_
      obtain ⟨h7, hf⟩ := gd_some hf
      refine va_iald hx hb hK hP 1 0 rfl rfl (bnd_in h7) dX10_agree_26 ?_
      refine lv_aload_n hx hb dX10_agree_27 rfl (lv_at hl 0 rfl) ?_
      refine va_get (D := G) (ci := 10) (v := .ref t_shadow_h) (C := RX10) (T := TX10) (N := 36) hx hb hts iwX10 hown hK hP 0 rfl rfl 17 (by decide) fl_28 (fun _ h9 => h9) rfl dX10_agree_28 ?_
      refine lv_iconst (v := 4) hx hb dX10_agree_31 (by decide) ?_
      refine lv_iload_n hx hb dX10_agree_32 rfl (lv_at hl 3 rfl) ?_
      refine lv_imul hx hb dX10_agree_33 ?_
      obtain ⟨h8, hf⟩ := gd_some hf
      refine va_iald hx hb hK hP 2 0 rfl rfl (bnd_in h8) dX10_agree_34 ?_
      refine lv_icmp_eq (tgt := 41) hx hb dX10_agree_35 (by decide) (fun c9 => ?_) (fun c9 => ?_)
      · have hf := ift hf c9
        refine lv_aload_n hx hb dX10_agree_41 rfl (lv_at hl 0 rfl) ?_
        refine lv_iload_n hx hb dX10_agree_42 rfl (lv_at hl 1 rfl) ?_
        refine lv_iload_n hx hb dX10_agree_43 rfl (lv_at hl 2 rfl) ?_
        refine lv_iconst (v := 1) hx hb dX10_agree_44 (by decide) ?_
        obtain ⟨r10, w11, w12, w13, w14, hc15, hf⟩ := ob5_some hf
        refine af_iW (wr := [(t_shadow_h, .inl (cI, 160, .inl t_shadow_a))]) (ws2 := [(t_h, .inr (10, [.int t_baseWay, .int t_slip, .int t_low, .int t_high, .int t_unlike, .int t_alone, .long t_above, .long t_below, .ref t_edges_h, .ref t_lean_h, .ref t_word_h, .int t_layers, .ref t_layer_h, .ref t_least_h, .int t_sights, .ref t_sight_h, .int t_shadows, .ref t_shadow_h, .long w11, .long w12, .long w13, .long w14, .int t_spans, .ref t_spanLow_h, .ref t_spanHigh_h, .ref t_spanAt_h, .int t_found, .ref t_numbers_h, .int t_pairs, .ref t_pair_h, .ref t_most_h, .int t_rows, .ref t_row_h, .int t_notes, .ref t_under_h, .ref t_agreed_h])), (t_sight_h, .inl (cI, 160, .inl t_sight_a)), (t_shadow_h, .inl (cI, 160, .inl t_shadow_a))]) (va_runV (As := [.int x1, .int x2, .int 1]) (rest := []) ⟨hx, hb, hml, hown, hts⟩ (k_X10_findSpeed l G cI cJ (t_h := t_h) (t_edges_h := t_edges_h) (t_lean_h := t_lean_h) (t_word_h := t_word_h) (t_layer_h := t_layer_h) (t_least_h := t_least_h) (t_sight_h := t_sight_h) (t_shadow_h := t_shadow_h) (t_spanLow_h := t_spanLow_h) (t_spanHigh_h := t_spanHigh_h) (t_spanAt_h := t_spanAt_h) (t_numbers_h := t_numbers_h) (t_pair_h := t_pair_h) (t_most_h := t_most_h) (t_row_h := t_row_h) (t_under_h := t_under_h) (t_agreed_h := t_agreed_h) (t_baseWay := t_baseWay) (t_slip := t_slip) (t_low := t_low) (t_high := t_high) (t_unlike := t_unlike) (t_alone := t_alone) (t_above := t_above) (t_below := t_below) (t_layers := t_layers) (t_sights := t_sights) (t_shadows := t_shadows) (t_endAbove := t_endAbove) (t_endBelow := t_endBelow) (t_speedAbove := t_speedAbove) (t_speedBelow := t_speedBelow) (t_spans := t_spans) (t_found := t_found) (t_pairs := t_pairs) (t_rows := t_rows) (t_notes := t_notes) (t_sight_a := t_sight_a) (x1 := x1) (x2 := x2) (x3 := 1) (sz := _) (hf := hc15)) (cwV 3 hts gX10_agree_X10_findSpeed rfl rfl rfl (by decide +kernel) ⟨Nat.le_of_ble_eq_true rfl, Nat.le_of_ble_eq_true rfl⟩) (preV0 (ci := 10) (q0 := 0) (C := RX10) (wc := [(t_h, .inr (10, [.int t_baseWay, .int t_slip, .int t_low, .int t_high, .int t_unlike, .int t_alone, .long t_above, .long t_below, .ref t_edges_h, .ref t_lean_h, .ref t_word_h, .int t_layers, .ref t_layer_h, .ref t_least_h, .int t_sights, .ref t_sight_h, .int t_shadows, .ref t_shadow_h, .long t_endAbove, .long t_endBelow, .long t_speedAbove, .long t_speedBelow, .int t_spans, .ref t_spanLow_h, .ref t_spanHigh_h, .ref t_spanAt_h, .int t_found, .ref t_numbers_h, .int t_pairs, .ref t_pair_h, .ref t_most_h, .int t_rows, .ref t_row_h, .int t_notes, .ref t_under_h, .ref t_agreed_h])), (t_sight_h, .inl (cI, 160, .inl t_sight_a))]) hK hP hD hN [0, 1] rfl rfl (by decide) rfl rfl) rfl rfl hl.1 rfl (lv_room (Nat.le_of_ble_eq_true rfl)) dX10_agree_45 ⟨Nat.zero_le _, Nat.zero_le _⟩) hP hD hS hA [0, 1] [2] [1, 2, 0] rfl rfl (by decide) (by decide) rfl rfl (by decide) (fun H locs hP hD hS => ?_)
        refine lv_if_ne (tgt := 54) hx hb dX10_agree_48 (by decide) (fun c16 => ?_) (fun c16 => ?_)
        · have hf := iff_ hf c16
          refine lv_aload_n hx hb dX10_agree_54 rfl (lv_at hl 0 rfl) ?_
          refine va_get (D := G) (ci := 10) (v := .long w13) (C := RX10) (T := TX10) (N := 36) hx hb hts iwX10 hown hK hP 0 rfl rfl 20 (by decide) fl_137 (fun _ h9 => h9) rfl dX10_agree_55 ?_
          refine lv_lstore (lv' := [(5, .long w13), (0, .ref t_h), (1, .int x1), (2, .int x2), (3, .int x3), (4, .int x4)]) hx hb dX10_agree_58 hl (by decide) rfl (fun ls hl => ?_)
          refine lv_aload_n hx hb dX10_agree_60 rfl (lv_at hl 1 rfl) ?_
          refine va_get (D := G) (ci := 10) (v := .long w14) (C := RX10) (T := TX10) (N := 36) hx hb hts iwX10 hown hK hP 0 rfl rfl 21 (by decide) fl_140 (fun _ h9 => h9) rfl dX10_agree_61 ?_
          refine lv_lstore (lv' := [(7, .long w14), (5, .long w13), (0, .ref t_h), (1, .int x1), (2, .int x2), (3, .int x3), (4, .int x4)]) hx hb dX10_agree_64 hl (by decide) rfl (fun ls hl => ?_)
          refine lv_aload_n hx hb dX10_agree_66 rfl (lv_at hl 2 rfl) ?_
          refine lv_iload_n hx hb dX10_agree_67 rfl (lv_at hl 3 rfl) ?_
          refine lv_iload_n hx hb dX10_agree_68 rfl (lv_at hl 4 rfl) ?_
          refine lv_iconst (v := 2) hx hb dX10_agree_69 (by decide) ?_
          obtain ⟨r17, w18, w19, w20, w21, hc22, hf⟩ := ob5_some hf
          refine af_iW (wr := [(t_shadow_h, .inl (cI, 160, .inl t_shadow_a))]) (ws2 := [(t_h, .inr (10, [.int t_baseWay, .int t_slip, .int t_low, .int t_high, .int t_unlike, .int t_alone, .long t_above, .long t_below, .ref t_edges_h, .ref t_lean_h, .ref t_word_h, .int t_layers, .ref t_layer_h, .ref t_least_h, .int t_sights, .ref t_sight_h, .int t_shadows, .ref t_shadow_h, .long w18, .long w19, .long w20, .long w21, .int t_spans, .ref t_spanLow_h, .ref t_spanHigh_h, .ref t_spanAt_h, .int t_found, .ref t_numbers_h, .int t_pairs, .ref t_pair_h, .ref t_most_h, .int t_rows, .ref t_row_h, .int t_notes, .ref t_under_h, .ref t_agreed_h])), (t_sight_h, .inl (cI, 160, .inl t_sight_a)), (t_shadow_h, .inl (cI, 160, .inl t_shadow_a))]) (va_runV (As := [.int x1, .int x2, .int 2]) (rest := []) ⟨hx, hb, hml, hown, hts⟩ (k_X10_findSpeed l G cI cJ (t_h := t_h) (t_edges_h := t_edges_h) (t_lean_h := t_lean_h) (t_word_h := t_word_h) (t_layer_h := t_layer_h) (t_least_h := t_least_h) (t_sight_h := t_sight_h) (t_shadow_h := t_shadow_h) (t_spanLow_h := t_spanLow_h) (t_spanHigh_h := t_spanHigh_h) (t_spanAt_h := t_spanAt_h) (t_numbers_h := t_numbers_h) (t_pair_h := t_pair_h) (t_most_h := t_most_h) (t_row_h := t_row_h) (t_under_h := t_under_h) (t_agreed_h := t_agreed_h) (t_baseWay := t_baseWay) (t_slip := t_slip) (t_low := t_low) (t_high := t_high) (t_unlike := t_unlike) (t_alone := t_alone) (t_above := t_above) (t_below := t_below) (t_layers := t_layers) (t_sights := t_sights) (t_shadows := t_shadows) (t_endAbove := w11) (t_endBelow := w12) (t_speedAbove := w13) (t_speedBelow := w14) (t_spans := t_spans) (t_found := t_found) (t_pairs := t_pairs) (t_rows := t_rows) (t_notes := t_notes) (t_sight_a := t_sight_a) (x1 := x1) (x2 := x2) (x3 := 2) (sz := _) (hf := hc22)) (cwV 3 hts gX10_agree_X10_findSpeed rfl rfl rfl (by decide +kernel) ⟨Nat.le_of_ble_eq_true rfl, Nat.le_of_ble_eq_true rfl⟩) (preV0 (ci := 10) (q0 := 0) (C := RX10) (wc := [(t_h, .inr (10, [.int t_baseWay, .int t_slip, .int t_low, .int t_high, .int t_unlike, .int t_alone, .long t_above, .long t_below, .ref t_edges_h, .ref t_lean_h, .ref t_word_h, .int t_layers, .ref t_layer_h, .ref t_least_h, .int t_sights, .ref t_sight_h, .int t_shadows, .ref t_shadow_h, .long w11, .long w12, .long w13, .long w14, .int t_spans, .ref t_spanLow_h, .ref t_spanHigh_h, .ref t_spanAt_h, .int t_found, .ref t_numbers_h, .int t_pairs, .ref t_pair_h, .ref t_most_h, .int t_rows, .ref t_row_h, .int t_notes, .ref t_under_h, .ref t_agreed_h])), (t_sight_h, .inl (cI, 160, .inl t_sight_a))]) hK hP hD hN [0, 1] rfl rfl (by decide) rfl rfl) rfl rfl hl.1 rfl (lv_room (Nat.le_of_ble_eq_true rfl)) dX10_agree_70 ⟨Nat.zero_le _, Nat.zero_le _⟩) hP hD hS hA [0, 1] [2] [1, 2, 0] rfl rfl (by decide) (by decide) rfl rfl (by decide) (fun H locs hP hD hS => ?_)
          refine lv_pop hx hb dX10_agree_73 rfl ?_
          refine lv_aload_n hx hb dX10_agree_74 rfl (lv_at hl 2 rfl) ?_
          refine va_get (D := G) (ci := 10) (v := .long w20) (C := RX10) (T := TX10) (N := 36) hx hb hts iwX10 hown hK hP 0 rfl rfl 20 (by decide) fl_137 (fun _ h9 => h9) rfl dX10_agree_75 ?_
          refine lv_lstore (lv' := [(9, .long w20), (7, .long w14), (5, .long w13), (0, .ref t_h), (1, .int x1), (2, .int x2), (3, .int x3), (4, .int x4)]) hx hb dX10_agree_78 hl (by decide) rfl (fun ls hl => ?_)
          refine lv_aload_n hx hb dX10_agree_80 rfl (lv_at hl 3 rfl) ?_
          refine va_get (D := G) (ci := 10) (v := .long w21) (C := RX10) (T := TX10) (N := 36) hx hb hts iwX10 hown hK hP 0 rfl rfl 21 (by decide) fl_140 (fun _ h9 => h9) rfl dX10_agree_81 ?_
          refine lv_lstore (lv' := [(11, .long w21), (9, .long w20), (7, .long w14), (5, .long w13), (0, .ref t_h), (1, .int x1), (2, .int x2), (3, .int x3), (4, .int x4)]) hx hb dX10_agree_84 hl (by decide) rfl (fun ls hl => ?_)
          refine lv_aload_n hx hb dX10_agree_86 rfl (lv_at hl 4 rfl) ?_
          refine lv_iload_n hx hb dX10_agree_87 rfl (lv_at hl 7 rfl) ?_
          refine lv_iload hx hb dX10_agree_88 (lv_at hl 8 rfl) ?_
          refine lv_iconst (v := 2) hx hb dX10_agree_90 (by decide) ?_
          obtain ⟨w23, w24, hc25, hf⟩ := ob2_some hf
          refine af_vW (wr := [(t_sight_h, .inl (cI, 160, .inl t_sight_a))]) (ws2 := [(t_h, .inr (10, [.int t_baseWay, .int t_slip, .int t_low, .int t_high, .int t_unlike, .int t_alone, .long t_above, .long t_below, .ref t_edges_h, .ref t_lean_h, .ref t_word_h, .int t_layers, .ref t_layer_h, .ref t_least_h, .int t_sights, .ref t_sight_h, .int t_shadows, .ref t_shadow_h, .long w18, .long w19, .long w23, .long w24, .int t_spans, .ref t_spanLow_h, .ref t_spanHigh_h, .ref t_spanAt_h, .int t_found, .ref t_numbers_h, .int t_pairs, .ref t_pair_h, .ref t_most_h, .int t_rows, .ref t_row_h, .int t_notes, .ref t_under_h, .ref t_agreed_h])), (t_sight_h, .inl (cI, 160, .inl t_sight_a)), (t_shadow_h, .inl (cI, 160, .inl t_shadow_a))]) (va_runV (As := [.int x3, .int x4, .int 2]) (rest := []) ⟨hx, hb, hml, hown, hts⟩ (k_X10_findShade l G cI cJ (t_h := t_h) (t_edges_h := t_edges_h) (t_lean_h := t_lean_h) (t_word_h := t_word_h) (t_layer_h := t_layer_h) (t_least_h := t_least_h) (t_sight_h := t_sight_h) (t_shadow_h := t_shadow_h) (t_spanLow_h := t_spanLow_h) (t_spanHigh_h := t_spanHigh_h) (t_spanAt_h := t_spanAt_h) (t_numbers_h := t_numbers_h) (t_pair_h := t_pair_h) (t_most_h := t_most_h) (t_row_h := t_row_h) (t_under_h := t_under_h) (t_agreed_h := t_agreed_h) (t_baseWay := t_baseWay) (t_slip := t_slip) (t_low := t_low) (t_high := t_high) (t_unlike := t_unlike) (t_alone := t_alone) (t_above := t_above) (t_below := t_below) (t_layers := t_layers) (t_sights := t_sights) (t_shadows := t_shadows) (t_endAbove := w18) (t_endBelow := w19) (t_speedAbove := w20) (t_speedBelow := w21) (t_spans := t_spans) (t_found := t_found) (t_pairs := t_pairs) (t_rows := t_rows) (t_notes := t_notes) (t_shadow_a := t_shadow_a) (x1 := x3) (x2 := x4) (x3 := 2) (sz := _) (hf := hc25)) (cwV 3 hts gX10_agree_X10_findShade rfl rfl rfl (by decide +kernel) ⟨Nat.le_of_ble_eq_true rfl, Nat.le_of_ble_eq_true rfl⟩) (preV0 (ci := 10) (q0 := 0) (C := RX10) (wc := [(t_h, .inr (10, [.int t_baseWay, .int t_slip, .int t_low, .int t_high, .int t_unlike, .int t_alone, .long t_above, .long t_below, .ref t_edges_h, .ref t_lean_h, .ref t_word_h, .int t_layers, .ref t_layer_h, .ref t_least_h, .int t_sights, .ref t_sight_h, .int t_shadows, .ref t_shadow_h, .long w18, .long w19, .long w20, .long w21, .int t_spans, .ref t_spanLow_h, .ref t_spanHigh_h, .ref t_spanAt_h, .int t_found, .ref t_numbers_h, .int t_pairs, .ref t_pair_h, .ref t_most_h, .int t_rows, .ref t_row_h, .int t_notes, .ref t_under_h, .ref t_agreed_h])), (t_shadow_h, .inl (cI, 160, .inl t_shadow_a))]) hK hP hD hN [0, 2] rfl rfl (by decide) rfl rfl) rfl rfl hl.1 rfl (lv_room (Nat.le_of_ble_eq_true rfl)) dX10_agree_91 ⟨Nat.zero_le _, Nat.zero_le _⟩) hP hD hS hA [0, 2] [1] [1, 0, 2] rfl rfl (by decide) (by decide) rfl rfl (by decide) (fun H locs hP hD hS => ?_)
          refine lv_lload hx hb dX10_agree_94 (lv_at hl 3 rfl) ?_
          refine lv_aload_n hx hb dX10_agree_96 rfl (lv_at hl 4 rfl) ?_
          refine va_get (D := G) (ci := 10) (v := .long w24) (C := RX10) (T := TX10) (N := 36) hx hb hts iwX10 hown hK hP 0 rfl rfl 21 (by decide) fl_140 (fun _ h9 => h9) rfl dX10_agree_97 ?_
          refine lv_lmul hx hb dX10_agree_100 ?_
          refine lv_aload_n hx hb dX10_agree_101 rfl (lv_at hl 4 rfl) ?_
          refine va_get (D := G) (ci := 10) (v := .long w23) (C := RX10) (T := TX10) (N := 36) hx hb hts iwX10 hown hK hP 0 rfl rfl 20 (by decide) fl_137 (fun _ h9 => h9) rfl dX10_agree_102 ?_
          refine lv_lload hx hb dX10_agree_105 (lv_at hl 2 rfl) ?_
          refine lv_lmul hx hb dX10_agree_107 ?_
          refine W.lcmp hx hb dX10_agree_108 ?_
          obtain ⟨m26, hr27, hf⟩ := ob_some hf
          have hj28 : ∀ (m269 : Int32), some m269 = some m26 → ∀ (H : Heap) (locs : List Loc) (ls : Array Slot), va_P G vwCl [(t_h, .inr (10, [.int t_baseWay, .int t_slip, .int t_low, .int t_high, .int t_unlike, .int t_alone, .long t_above, .long t_below, .ref t_edges_h, .ref t_lean_h, .ref t_word_h, .int t_layers, .ref t_layer_h, .ref t_least_h, .int t_sights, .ref t_sight_h, .int t_shadows, .ref t_shadow_h, .long w18, .long w19, .long w23, .long w24, .int t_spans, .ref t_spanLow_h, .ref t_spanHigh_h, .ref t_spanAt_h, .int t_found, .ref t_numbers_h, .int t_pairs, .ref t_pair_h, .ref t_most_h, .int t_rows, .ref t_row_h, .int t_notes, .ref t_under_h, .ref t_agreed_h])), (t_sight_h, .inl (cI, 160, .inl t_sight_a)), (t_shadow_h, .inl (cI, 160, .inl t_shadow_a))] H → va_D A [(t_h, .inr (10, [.int t_baseWay, .int t_slip, .int t_low, .int t_high, .int t_unlike, .int t_alone, .long t_above, .long t_below, .ref t_edges_h, .ref t_lean_h, .ref t_word_h, .int t_layers, .ref t_layer_h, .ref t_least_h, .int t_sights, .ref t_sight_h, .int t_shadows, .ref t_shadow_h, .long w18, .long w19, .long w23, .long w24, .int t_spans, .ref t_spanLow_h, .ref t_spanHigh_h, .ref t_spanAt_h, .int t_found, .ref t_numbers_h, .int t_pairs, .ref t_pair_h, .ref t_most_h, .int t_rows, .ref t_row_h, .int t_notes, .ref t_under_h, .ref t_agreed_h])), (t_sight_h, .inl (cI, 160, .inl t_sight_a)), (t_shadow_h, .inl (cI, 160, .inl t_shadow_a))] → va_S A s.heap H locs → lv_has ls 15 [(0, .ref t_h), (3, .int x3), (4, .int x4), (9, .long w20), (11, .long w21)] → W p l e rmX10_agree s m args below meth c H locs 0 0 Q (F0 m 117 ls [.int m269]) := by
            intro m269 he H locs ls hP hD hS hl
            cases he
            refine lv_istore (lv' := [(13, .int m26), (0, .ref t_h), (3, .int x3), (4, .int x4), (9, .long w20), (11, .long w21)]) hx hb dX10_agree_117 hl (by decide) rfl (fun ls hl => ?_)
            refine lv_aload_n hx hb dX10_agree_119 rfl (lv_at hl 1 rfl) ?_
            refine lv_iload_n hx hb dX10_agree_120 rfl (lv_at hl 2 rfl) ?_
            refine lv_iload hx hb dX10_agree_121 (lv_at hl 3 rfl) ?_
            refine lv_iconst (v := 1) hx hb dX10_agree_123 (by decide) ?_
            obtain ⟨w30, w31, hc32, hf⟩ := ob2_some hf
            refine af_vW (wr := [(t_sight_h, .inl (cI, 160, .inl t_sight_a))]) (ws2 := [(t_h, .inr (10, [.int t_baseWay, .int t_slip, .int t_low, .int t_high, .int t_unlike, .int t_alone, .long t_above, .long t_below, .ref t_edges_h, .ref t_lean_h, .ref t_word_h, .int t_layers, .ref t_layer_h, .ref t_least_h, .int t_sights, .ref t_sight_h, .int t_shadows, .ref t_shadow_h, .long w18, .long w19, .long w30, .long w31, .int t_spans, .ref t_spanLow_h, .ref t_spanHigh_h, .ref t_spanAt_h, .int t_found, .ref t_numbers_h, .int t_pairs, .ref t_pair_h, .ref t_most_h, .int t_rows, .ref t_row_h, .int t_notes, .ref t_under_h, .ref t_agreed_h])), (t_sight_h, .inl (cI, 160, .inl t_sight_a)), (t_shadow_h, .inl (cI, 160, .inl t_shadow_a))]) (va_runV (As := [.int x3, .int x4, .int 1]) (rest := []) ⟨hx, hb, hml, hown, hts⟩ (k_X10_findShade l G cI cJ (t_h := t_h) (t_edges_h := t_edges_h) (t_lean_h := t_lean_h) (t_word_h := t_word_h) (t_layer_h := t_layer_h) (t_least_h := t_least_h) (t_sight_h := t_sight_h) (t_shadow_h := t_shadow_h) (t_spanLow_h := t_spanLow_h) (t_spanHigh_h := t_spanHigh_h) (t_spanAt_h := t_spanAt_h) (t_numbers_h := t_numbers_h) (t_pair_h := t_pair_h) (t_most_h := t_most_h) (t_row_h := t_row_h) (t_under_h := t_under_h) (t_agreed_h := t_agreed_h) (t_baseWay := t_baseWay) (t_slip := t_slip) (t_low := t_low) (t_high := t_high) (t_unlike := t_unlike) (t_alone := t_alone) (t_above := t_above) (t_below := t_below) (t_layers := t_layers) (t_sights := t_sights) (t_shadows := t_shadows) (t_endAbove := w18) (t_endBelow := w19) (t_speedAbove := w23) (t_speedBelow := w24) (t_spans := t_spans) (t_found := t_found) (t_pairs := t_pairs) (t_rows := t_rows) (t_notes := t_notes) (t_shadow_a := t_shadow_a) (x1 := x3) (x2 := x4) (x3 := 1) (sz := _) (hf := hc32)) (cwV 3 hts gX10_agree_X10_findShade rfl rfl rfl (by decide +kernel) ⟨Nat.le_of_ble_eq_true rfl, Nat.le_of_ble_eq_true rfl⟩) (preV0 (ci := 10) (q0 := 0) (C := RX10) (wc := [(t_h, .inr (10, [.int t_baseWay, .int t_slip, .int t_low, .int t_high, .int t_unlike, .int t_alone, .long t_above, .long t_below, .ref t_edges_h, .ref t_lean_h, .ref t_word_h, .int t_layers, .ref t_layer_h, .ref t_least_h, .int t_sights, .ref t_sight_h, .int t_shadows, .ref t_shadow_h, .long w18, .long w19, .long w23, .long w24, .int t_spans, .ref t_spanLow_h, .ref t_spanHigh_h, .ref t_spanAt_h, .int t_found, .ref t_numbers_h, .int t_pairs, .ref t_pair_h, .ref t_most_h, .int t_rows, .ref t_row_h, .int t_notes, .ref t_under_h, .ref t_agreed_h])), (t_shadow_h, .inl (cI, 160, .inl t_shadow_a))]) hK hP hD hN [0, 2] rfl rfl (by decide) rfl rfl) rfl rfl hl.1 rfl (lv_room (Nat.le_of_ble_eq_true rfl)) dX10_agree_124 ⟨Nat.zero_le _, Nat.zero_le _⟩) hP hD hS hA [0, 2] [1] [1, 0, 2] rfl rfl (by decide) (by decide) rfl rfl (by decide) (fun H locs hP hD hS => ?_)
            refine lv_aload_n hx hb dX10_agree_127 rfl (lv_at hl 1 rfl) ?_
            refine va_get (D := G) (ci := 10) (v := .long w30) (C := RX10) (T := TX10) (N := 36) hx hb hts iwX10 hown hK hP 0 rfl rfl 20 (by decide) fl_137 (fun _ h9 => h9) rfl dX10_agree_128 ?_
            refine lv_lload hx hb dX10_agree_131 (lv_at hl 5 rfl) ?_
            refine lv_lmul hx hb dX10_agree_133 ?_
            refine lv_lload hx hb dX10_agree_134 (lv_at hl 4 rfl) ?_
            refine lv_aload_n hx hb dX10_agree_136 rfl (lv_at hl 1 rfl) ?_
            refine va_get (D := G) (ci := 10) (v := .long w31) (C := RX10) (T := TX10) (N := 36) hx hb hts iwX10 hown hK hP 0 rfl rfl 21 (by decide) fl_140 (fun _ h9 => h9) rfl dX10_agree_137 ?_
            refine lv_lmul hx hb dX10_agree_140 ?_
            refine W.lcmp hx hb dX10_agree_141 ?_
            obtain ⟨m33, hr34, hf⟩ := ob_some hf
            have hj35 : ∀ (m339 : Int32), some m339 = some m33 → ∀ (H : Heap) (locs : List Loc) (ls : Array Slot), va_P G vwCl [(t_h, .inr (10, [.int t_baseWay, .int t_slip, .int t_low, .int t_high, .int t_unlike, .int t_alone, .long t_above, .long t_below, .ref t_edges_h, .ref t_lean_h, .ref t_word_h, .int t_layers, .ref t_layer_h, .ref t_least_h, .int t_sights, .ref t_sight_h, .int t_shadows, .ref t_shadow_h, .long w18, .long w19, .long w30, .long w31, .int t_spans, .ref t_spanLow_h, .ref t_spanHigh_h, .ref t_spanAt_h, .int t_found, .ref t_numbers_h, .int t_pairs, .ref t_pair_h, .ref t_most_h, .int t_rows, .ref t_row_h, .int t_notes, .ref t_under_h, .ref t_agreed_h])), (t_sight_h, .inl (cI, 160, .inl t_sight_a)), (t_shadow_h, .inl (cI, 160, .inl t_shadow_a))] H → va_D A [(t_h, .inr (10, [.int t_baseWay, .int t_slip, .int t_low, .int t_high, .int t_unlike, .int t_alone, .long t_above, .long t_below, .ref t_edges_h, .ref t_lean_h, .ref t_word_h, .int t_layers, .ref t_layer_h, .ref t_least_h, .int t_sights, .ref t_sight_h, .int t_shadows, .ref t_shadow_h, .long w18, .long w19, .long w30, .long w31, .int t_spans, .ref t_spanLow_h, .ref t_spanHigh_h, .ref t_spanAt_h, .int t_found, .ref t_numbers_h, .int t_pairs, .ref t_pair_h, .ref t_most_h, .int t_rows, .ref t_row_h, .int t_notes, .ref t_under_h, .ref t_agreed_h])), (t_sight_h, .inl (cI, 160, .inl t_sight_a)), (t_shadow_h, .inl (cI, 160, .inl t_shadow_a))] → va_S A s.heap H locs → lv_has ls 15 [(13, .int m26)] → W p l e rmX10_agree s m args below meth c H locs 0 0 Q (F0 m 150 ls [.int m339]) := by
              intro m339 he H locs ls hP hD hS hl
              cases he
              refine lv_istore (lv' := [(14, .int m33), (13, .int m26)]) hx hb dX10_agree_150 hl (by decide) rfl (fun ls hl => ?_)
              refine lv_iload hx hb dX10_agree_152 (lv_at hl 1 rfl) ?_
              refine lv_if_eq (tgt := 166) hx hb dX10_agree_154 (by decide) (fun c37 => ?_) (fun c37 => ?_)
              · have hf := ift hf c37
                refine lv_iconst (v := 0) hx hb dX10_agree_166 (by decide) ?_
                exact hret 0 w18 w19 w30 w31 167 _ _ _ dX10_agree_167 hf hP hD hS
              · have hf := iff_ hf c37
                refine lv_iload hx hb dX10_agree_157 (lv_at hl 0 rfl) ?_
                refine lv_if_eq (tgt := 166) hx hb dX10_agree_159 (by decide) (fun c38 => ?_) (fun c38 => ?_)
                · have hf := ift hf c38
                  refine lv_iconst (v := 0) hx hb dX10_agree_166 (by decide) ?_
                  exact hret 0 w18 w19 w30 w31 167 _ _ _ dX10_agree_167 hf hP hD hS
                · have hf := iff_ hf c38
                  refine lv_iconst (v := 1) hx hb dX10_agree_162 (by decide) ?_
                  refine lv_goto (tgt := 167) hx hb dX10_agree_163 (by decide) ?_
                  exact hret 1 w18 w19 w30 w31 167 _ _ _ dX10_agree_167 hf hP hD hS
            replace hf := hr34
            refine lv_if_gt (tgt := 149) hx hb dX10_agree_142 (by decide) (fun c36 => ?_) (fun c36 => ?_)
            · have hf := ift hf c36
              refine lv_iconst (v := 0) hx hb dX10_agree_149 (by decide) ?_
              exact hj35 _ hf _ _ _ hP hD hS (lv_sub hl [0] rfl)
            · have hf := iff_ hf c36
              refine lv_iconst (v := 1) hx hb dX10_agree_145 (by decide) ?_
              refine lv_goto (tgt := 150) hx hb dX10_agree_146 (by decide) ?_
              exact hj35 _ hf _ _ _ hP hD hS (lv_sub hl [0] rfl)
          replace hf := hr27
          refine lv_if_gt (tgt := 116) hx hb dX10_agree_109 (by decide) (fun c29 => ?_) (fun c29 => ?_)
          · have hf := ift hf c29
            refine lv_iconst (v := 0) hx hb dX10_agree_116 (by decide) ?_
            exact hj28 _ hf _ _ _ hP hD hS (lv_sub hl [4, 7, 8, 1, 0] rfl)
          · have hf := iff_ hf c29
            refine lv_iconst (v := 1) hx hb dX10_agree_112 (by decide) ?_
            refine lv_goto (tgt := 117) hx hb dX10_agree_113 (by decide) ?_
            exact hj28 _ hf _ _ _ hP hD hS (lv_sub hl [4, 7, 8, 1, 0] rfl)
        · have hf := ift hf c16
          refine lv_bipush (v := (-3)) hx hb dX10_agree_51 (by decide) ?_
          exact hret (-3) w11 w12 w13 w14 53 _ _ _ dX10_agree_53 hf hP hD hS
      · have hf := iff_ hf c9
        refine lv_bipush (v := (-2)) hx hb dX10_agree_38 (by decide) ?_
        exact hret (-2) t_endAbove t_endBelow t_speedAbove t_speedBelow 40 _ _ _ dX10_agree_40 hf hP hD hS
set_option maxRecDepth 20000 in
theorem ggX10_balloon_X10_in : GoodIn wsX10_balloon wsX10_in := goodIn_r _ [4] (by decide +kernel) (by decide +kernel)
set_option maxRecDepth 20000 in
theorem gX10_balloon_X10_in : GoodIn wsX10_balloon (va_wsS RX10 89 yX10_in wsX10_in) := goodIn_app (goodIn_of _ (by decide +kernel)) ggX10_balloon_X10_in
theorem dX10_balloon_0 : decode cX10_balloon 0 = .ok (.iload_n 1, 1) := by decide +kernel
theorem dX10_balloon_1 : decode cX10_balloon 1 = .ok (.iconst 1, 1) := by decide +kernel
theorem dX10_balloon_2 : decode cX10_balloon 2 = .ok (.sipush 1000, 3) := by decide +kernel
theorem dX10_balloon_5 : decode cX10_balloon 5 = .ok (.invokestatic 89, 3) := by decide +kernel
theorem dX10_balloon_8 : decode cX10_balloon 8 = .ok (.ifCond .eq 35, 3) := by decide +kernel
theorem dX10_balloon_11 : decode cX10_balloon 11 = .ok (.iload_n 2, 1) := by decide +kernel
theorem dX10_balloon_12 : decode cX10_balloon 12 = .ok (.iconst 0, 1) := by decide +kernel
theorem dX10_balloon_13 : decode cX10_balloon 13 = .ok (.iload_n 1, 1) := by decide +kernel
theorem dX10_balloon_14 : decode cX10_balloon 14 = .ok (.iconst 1, 1) := by decide +kernel
theorem dX10_balloon_15 : decode cX10_balloon 15 = .ok (.isub, 1) := by decide +kernel
theorem dX10_balloon_16 : decode cX10_balloon 16 = .ok (.invokestatic 89, 3) := by decide +kernel
theorem dX10_balloon_19 : decode cX10_balloon 19 = .ok (.ifCond .eq 24, 3) := by decide +kernel
theorem dX10_balloon_22 : decode cX10_balloon 22 = .ok (.iload_n 3, 1) := by decide +kernel
theorem dX10_balloon_23 : decode cX10_balloon 23 = .ok (.iconst 1, 1) := by decide +kernel
theorem dX10_balloon_24 : decode cX10_balloon 24 = .ok (.sipush 1000, 3) := by decide +kernel
theorem dX10_balloon_27 : decode cX10_balloon 27 = .ok (.invokestatic 89, 3) := by decide +kernel
theorem dX10_balloon_30 : decode cX10_balloon 30 = .ok (.ifCond .eq 13, 3) := by decide +kernel
theorem dX10_balloon_33 : decode cX10_balloon 33 = .ok (.iload 4, 2) := by decide +kernel
theorem dX10_balloon_35 : decode cX10_balloon 35 = .ok (.iconst 0, 1) := by decide +kernel
theorem dX10_balloon_36 : decode cX10_balloon 36 = .ok (.iconst 1, 1) := by decide +kernel
theorem dX10_balloon_37 : decode cX10_balloon 37 = .ok (.invokestatic 89, 3) := by decide +kernel
theorem dX10_balloon_40 : decode cX10_balloon 40 = .ok (.ifCond .ne 6, 3) := by decide +kernel
theorem dX10_balloon_43 : decode cX10_balloon 43 = .ok (.bipush (-2), 2) := by decide +kernel
theorem dX10_balloon_45 : decode cX10_balloon 45 = .ok (.ireturn, 1) := by decide +kernel
theorem dX10_balloon_46 : decode cX10_balloon 46 = .ok (.iload 4, 2) := by decide +kernel
theorem dX10_balloon_48 : decode cX10_balloon 48 = .ok (.ifCond .ne 13, 3) := by decide +kernel
theorem dX10_balloon_51 : decode cX10_balloon 51 = .ok (.iload_n 1, 1) := by decide +kernel
theorem dX10_balloon_52 : decode cX10_balloon 52 = .ok (.iload_n 2, 1) := by decide +kernel
theorem dX10_balloon_53 : decode cX10_balloon 53 = .ok (.isub, 1) := by decide +kernel
theorem dX10_balloon_54 : decode cX10_balloon 54 = .ok (.iload_n 3, 1) := by decide +kernel
theorem dX10_balloon_55 : decode cX10_balloon 55 = .ok (.iconst 1, 1) := by decide +kernel
theorem dX10_balloon_56 : decode cX10_balloon 56 = .ok (.isub, 1) := by decide +kernel
theorem dX10_balloon_57 : decode cX10_balloon 57 = .ok (.imul, 1) := by decide +kernel
theorem dX10_balloon_58 : decode cX10_balloon 58 = .ok (.goto 8, 3) := by decide +kernel
theorem dX10_balloon_61 : decode cX10_balloon 61 = .ok (.iload_n 1, 1) := by decide +kernel
theorem dX10_balloon_62 : decode cX10_balloon 62 = .ok (.iload_n 2, 1) := by decide +kernel
theorem dX10_balloon_63 : decode cX10_balloon 63 = .ok (.iadd, 1) := by decide +kernel
theorem dX10_balloon_64 : decode cX10_balloon 64 = .ok (.iload_n 3, 1) := by decide +kernel
theorem dX10_balloon_65 : decode cX10_balloon 65 = .ok (.imul, 1) := by decide +kernel
theorem dX10_balloon_66 : decode cX10_balloon 66 = .ok (.ireturn, 1) := by decide +kernel
set_option maxRecDepth 100000 in
def fX10_balloon (x1 : Int32) (x2 : Int32) (x3 : Int32) (x4 : Int32) : Option (Int32) :=
  ob (fX10_in x1 1 1000) fun r1 =>
  if (b2i r1) = 0 then
    some (-2)
  else
    ob (fX10_in x2 0 (x1 - 1)) fun r4 =>
    if (b2i r4) = 0 then
      some (-2)
    else
      ob (fX10_in x3 1 1000) fun r7 =>
      if (b2i r7) = 0 then
        some (-2)
      else
        ob (fX10_in x4 0 1) fun r10 =>
        if (b2i r10) = 0 then
          some (-2)
        else
          if x4 = 0 then
            some ((x1 - x2) * (x3 - 1))
          else
            some ((x1 + x2) * x3)
abbrev rmX10_balloon : Room := { frames := 1, cells := 0, slots := 0, locals := 22 }
set_option maxHeartbeats 4000000 in
set_option maxRecDepth 100000 in
theorem k_X10_balloon (l : Launch) (G : va_G) (cI cJ : ClassId) (t_h t_edges_h t_lean_h t_word_h t_layer_h t_least_h t_sight_h t_shadow_h t_spanLow_h t_spanHigh_h t_spanAt_h t_numbers_h t_pair_h t_most_h t_row_h t_under_h t_agreed_h : Nat) (sz : Nat) (t_baseWay : Int32) (t_slip : Int32) (t_low : Int32) (t_high : Int32) (t_unlike : Int32) (t_alone : Int32) (t_above : Int64) (t_below : Int64) (t_layers : Int32) (t_sights : Int32) (t_shadows : Int32) (t_endAbove : Int64) (t_endBelow : Int64) (t_speedAbove : Int64) (t_speedBelow : Int64) (t_spans : Int32) (t_found : Int32) (t_pairs : Int32) (t_rows : Int32) (t_notes : Int32) (x1 : Int32) (x2 : Int32) (x3 : Int32) (x4 : Int32) {o_r : Int32} (hf : fX10_balloon x1 x2 x3 x4 = some o_r) : MetI l yX10_balloon wsX10_balloon rmX10_balloon [.ref t_h, .int x1, .int x2, .int x3, .int x4] G cI cJ [(t_h, .inr (10, [.int t_baseWay, .int t_slip, .int t_low, .int t_high, .int t_unlike, .int t_alone, .long t_above, .long t_below, .ref t_edges_h, .ref t_lean_h, .ref t_word_h, .int t_layers, .ref t_layer_h, .ref t_least_h, .int t_sights, .ref t_sight_h, .int t_shadows, .ref t_shadow_h, .long t_endAbove, .long t_endBelow, .long t_speedAbove, .long t_speedBelow, .int t_spans, .ref t_spanLow_h, .ref t_spanHigh_h, .ref t_spanAt_h, .int t_found, .ref t_numbers_h, .int t_pairs, .ref t_pair_h, .ref t_most_h, .int t_rows, .ref t_row_h, .int t_notes, .ref t_under_h, .ref t_agreed_h]))] [(t_h, .inr (10, [.int t_baseWay, .int t_slip, .int t_low, .int t_high, .int t_unlike, .int t_alone, .long t_above, .long t_below, .ref t_edges_h, .ref t_lean_h, .ref t_word_h, .int t_layers, .ref t_layer_h, .ref t_least_h, .int t_sights, .ref t_sight_h, .int t_shadows, .ref t_shadow_h, .long t_endAbove, .long t_endBelow, .long t_speedAbove, .long t_speedBelow, .int t_spans, .ref t_spanLow_h, .ref t_spanHigh_h, .ref t_spanAt_h, .int t_found, .ref t_numbers_h, .int t_pairs, .ref t_pair_h, .ref t_most_h, .int t_rows, .ref t_row_h, .int t_notes, .ref t_under_h, .ref t_agreed_h]))] sz o_r := by
  refine en_0 (l := l) (y := yX10_balloon) (wsl := wsX10_balloon) (rm := rmX10_balloon) (av := [.ref t_h, .int x1, .int x2, .int x3, .int x4]) (G := G) (cI := cI) (cJ := cJ) (w0 := [(t_h, .inr (10, [.int t_baseWay, .int t_slip, .int t_low, .int t_high, .int t_unlike, .int t_alone, .long t_above, .long t_below, .ref t_edges_h, .ref t_lean_h, .ref t_word_h, .int t_layers, .ref t_layer_h, .ref t_least_h, .int t_sights, .ref t_sight_h, .int t_shadows, .ref t_shadow_h, .long t_endAbove, .long t_endBelow, .long t_speedAbove, .long t_speedBelow, .int t_spans, .ref t_spanLow_h, .ref t_spanHigh_h, .ref t_spanAt_h, .int t_found, .ref t_numbers_h, .int t_pairs, .ref t_pair_h, .ref t_most_h, .int t_rows, .ref t_row_h, .int t_notes, .ref t_under_h, .ref t_agreed_h]))]) (sz := sz) (Qf := fun A => Qi0 G cI cJ [(t_h, .inr (10, [.int t_baseWay, .int t_slip, .int t_low, .int t_high, .int t_unlike, .int t_alone, .long t_above, .long t_below, .ref t_edges_h, .ref t_lean_h, .ref t_word_h, .int t_layers, .ref t_layer_h, .ref t_least_h, .int t_sights, .ref t_sight_h, .int t_shadows, .ref t_shadow_h, .long t_endAbove, .long t_endBelow, .long t_speedAbove, .long t_speedBelow, .int t_spans, .ref t_spanLow_h, .ref t_spanHigh_h, .ref t_spanAt_h, .int t_found, .ref t_numbers_h, .int t_pairs, .ref t_pair_h, .ref t_most_h, .int t_rows, .ref t_row_h, .int t_notes, .ref t_under_h, .ref t_agreed_h]))] o_r A) (cc := cX10_balloon) (maxL := 5) (ret := (some .int)) RX10 (by decide +kernel) rfl rfl (Nat.le_of_ble_eq_true rfl) ?_
  intro p e s m args below meth c A ls Q hQ hx hb hr hts hown hlocks hml hN hK hP hD hS hA hl
  have hl : lv_has ls 5 [(0, .ref t_h), (1, .int x1), (2, .int x2), (3, .int x3), (4, .int x4)] := hl
  have hret : ∀ (o_r9 : Int32) (pc : Nat) (H : Heap) (locs : List Loc) (ls : Array Slot), decode cX10_balloon pc = .ok (.ireturn, 1) → some o_r9 = some o_r → va_P G vwCl [(t_h, .inr (10, [.int t_baseWay, .int t_slip, .int t_low, .int t_high, .int t_unlike, .int t_alone, .long t_above, .long t_below, .ref t_edges_h, .ref t_lean_h, .ref t_word_h, .int t_layers, .ref t_layer_h, .ref t_least_h, .int t_sights, .ref t_sight_h, .int t_shadows, .ref t_shadow_h, .long t_endAbove, .long t_endBelow, .long t_speedAbove, .long t_speedBelow, .int t_spans, .ref t_spanLow_h, .ref t_spanHigh_h, .ref t_spanAt_h, .int t_found, .ref t_numbers_h, .int t_pairs, .ref t_pair_h, .ref t_most_h, .int t_rows, .ref t_row_h, .int t_notes, .ref t_under_h, .ref t_agreed_h]))] H → va_D A [(t_h, .inr (10, [.int t_baseWay, .int t_slip, .int t_low, .int t_high, .int t_unlike, .int t_alone, .long t_above, .long t_below, .ref t_edges_h, .ref t_lean_h, .ref t_word_h, .int t_layers, .ref t_layer_h, .ref t_least_h, .int t_sights, .ref t_sight_h, .int t_shadows, .ref t_shadow_h, .long t_endAbove, .long t_endBelow, .long t_speedAbove, .long t_speedBelow, .int t_spans, .ref t_spanLow_h, .ref t_spanHigh_h, .ref t_spanAt_h, .int t_found, .ref t_numbers_h, .int t_pairs, .ref t_pair_h, .ref t_most_h, .int t_rows, .ref t_row_h, .int t_notes, .ref t_under_h, .ref t_agreed_h]))] → va_S A s.heap H locs → W p l e rmX10_balloon s m args below meth c H locs 0 0 Q (F0 m pc ls [.int o_r9]) := by
    intro o_r9 pc H locs ls hdg he hP hD hS
    cases he
    subst hQ
    exact rt_i hx hb hr hlocks hK hP hD hS rfl hdg
  clear hQ
  unfold fX10_balloon at hf
  refine lv_iload_n hx hb dX10_balloon_0 rfl (lv_at hl 1 rfl) ?_
  refine lv_iconst (v := 1) hx hb dX10_balloon_1 (by decide) ?_
  refine lv_sipush (v := 1000) hx hb dX10_balloon_2 (by decide) ?_
  obtain ⟨r1, hc2, hf⟩ := ob_some hf
  refine af_iR (va_runS (As := [.int x1, .int 1, .int 1000]) (rest := []) ⟨hx, hb, hml, hown, hts⟩ (k_X10_in l G cI cJ (x0 := x1) (x1 := 1) (x2 := 1000) (sz := _) (hf := hc2)) (va_cwS 3 hts gX10_balloon_X10_in rfl rfl rfl (by decide +kernel) ⟨Nat.le_of_ble_eq_true rfl, Nat.le_of_ble_eq_true rfl⟩) (preS0 (wc := []) hK hP hD hN [] rfl rfl (by decide)) rfl rfl hl.1 rfl (lv_room (Nat.le_of_ble_eq_true rfl)) dX10_balloon_5 ⟨Nat.zero_le _, Nat.zero_le _⟩) hP hD hS hA [] rfl (fun H locs hP hS => ?_)
  refine lv_if_eq (tgt := 43) hx hb dX10_balloon_8 (by decide) (fun c3 => ?_) (fun c3 => ?_)
  · have hf := ift hf c3
    refine lv_bipush (v := (-2)) hx hb dX10_balloon_43 (by decide) ?_
    exact hret (-2) 45 _ _ _ dX10_balloon_45 hf hP hD hS
  · have hf := iff_ hf c3
    refine lv_iload_n hx hb dX10_balloon_11 rfl (lv_at hl 2 rfl) ?_
    refine lv_iconst (v := 0) hx hb dX10_balloon_12 (by decide) ?_
    refine lv_iload_n hx hb dX10_balloon_13 rfl (lv_at hl 1 rfl) ?_
    refine lv_iconst (v := 1) hx hb dX10_balloon_14 (by decide) ?_
    refine lv_isub hx hb dX10_balloon_15 ?_
    obtain ⟨r4, hc5, hf⟩ := ob_some hf
    refine af_iR (va_runS (As := [.int x2, .int 0, .int (x1 - 1)]) (rest := []) ⟨hx, hb, hml, hown, hts⟩ (k_X10_in l G cI cJ (x0 := x2) (x1 := 0) (x2 := (x1 - 1)) (sz := _) (hf := hc5)) (va_cwS 3 hts gX10_balloon_X10_in rfl rfl rfl (by decide +kernel) ⟨Nat.le_of_ble_eq_true rfl, Nat.le_of_ble_eq_true rfl⟩) (preS0 (wc := []) hK hP hD hN [] rfl rfl (by decide)) rfl rfl hl.1 rfl (lv_room (Nat.le_of_ble_eq_true rfl)) dX10_balloon_16 ⟨Nat.zero_le _, Nat.zero_le _⟩) hP hD hS hA [] rfl (fun H locs hP hS => ?_)
    refine lv_if_eq (tgt := 43) hx hb dX10_balloon_19 (by decide) (fun c6 => ?_) (fun c6 => ?_)
    · have hf := ift hf c6
      refine lv_bipush (v := (-2)) hx hb dX10_balloon_43 (by decide) ?_
      exact hret (-2) 45 _ _ _ dX10_balloon_45 hf hP hD hS
    · have hf := iff_ hf c6
      refine lv_iload_n hx hb dX10_balloon_22 rfl (lv_at hl 3 rfl) ?_
      refine lv_iconst (v := 1) hx hb dX10_balloon_23 (by decide) ?_
      refine lv_sipush (v := 1000) hx hb dX10_balloon_24 (by decide) ?_
      obtain ⟨r7, hc8, hf⟩ := ob_some hf
      refine af_iR (va_runS (As := [.int x3, .int 1, .int 1000]) (rest := []) ⟨hx, hb, hml, hown, hts⟩ (k_X10_in l G cI cJ (x0 := x3) (x1 := 1) (x2 := 1000) (sz := _) (hf := hc8)) (va_cwS 3 hts gX10_balloon_X10_in rfl rfl rfl (by decide +kernel) ⟨Nat.le_of_ble_eq_true rfl, Nat.le_of_ble_eq_true rfl⟩) (preS0 (wc := []) hK hP hD hN [] rfl rfl (by decide)) rfl rfl hl.1 rfl (lv_room (Nat.le_of_ble_eq_true rfl)) dX10_balloon_27 ⟨Nat.zero_le _, Nat.zero_le _⟩) hP hD hS hA [] rfl (fun H locs hP hS => ?_)
      refine lv_if_eq (tgt := 43) hx hb dX10_balloon_30 (by decide) (fun c9 => ?_) (fun c9 => ?_)
      · have hf := ift hf c9
        refine lv_bipush (v := (-2)) hx hb dX10_balloon_43 (by decide) ?_
        exact hret (-2) 45 _ _ _ dX10_balloon_45 hf hP hD hS
      · have hf := iff_ hf c9
        refine lv_iload hx hb dX10_balloon_33 (lv_at hl 4 rfl) ?_
        refine lv_iconst (v := 0) hx hb dX10_balloon_35 (by decide) ?_
        refine lv_iconst (v := 1) hx hb dX10_balloon_36 (by decide) ?_
        obtain ⟨r10, hc11, hf⟩ := ob_some hf
        refine af_iR (va_runS (As := [.int x4, .int 0, .int 1]) (rest := []) ⟨hx, hb, hml, hown, hts⟩ (k_X10_in l G cI cJ (x0 := x4) (x1 := 0) (x2 := 1) (sz := _) (hf := hc11)) (va_cwS 3 hts gX10_balloon_X10_in rfl rfl rfl (by decide +kernel) ⟨Nat.le_of_ble_eq_true rfl, Nat.le_of_ble_eq_true rfl⟩) (preS0 (wc := []) hK hP hD hN [] rfl rfl (by decide)) rfl rfl hl.1 rfl (lv_room (Nat.le_of_ble_eq_true rfl)) dX10_balloon_37 ⟨Nat.zero_le _, Nat.zero_le _⟩) hP hD hS hA [] rfl (fun H locs hP hS => ?_)
        refine lv_if_ne (tgt := 46) hx hb dX10_balloon_40 (by decide) (fun c12 => ?_) (fun c12 => ?_)
        · have hf := iff_ hf c12
          refine lv_iload hx hb dX10_balloon_46 (lv_at hl 4 rfl) ?_
          refine lv_if_ne (tgt := 61) hx hb dX10_balloon_48 (by decide) (fun c13 => ?_) (fun c13 => ?_)
          · have hf := iff_ hf c13
            refine lv_iload_n hx hb dX10_balloon_61 rfl (lv_at hl 1 rfl) ?_
            refine lv_iload_n hx hb dX10_balloon_62 rfl (lv_at hl 2 rfl) ?_
            refine lv_iadd hx hb dX10_balloon_63 ?_
            refine lv_iload_n hx hb dX10_balloon_64 rfl (lv_at hl 3 rfl) ?_
            refine lv_imul hx hb dX10_balloon_65 ?_
            exact hret ((x1 + x2) * x3) 66 _ _ _ dX10_balloon_66 hf hP hD hS
          · have hf := ift hf c13
            refine lv_iload_n hx hb dX10_balloon_51 rfl (lv_at hl 1 rfl) ?_
            refine lv_iload_n hx hb dX10_balloon_52 rfl (lv_at hl 2 rfl) ?_
            refine lv_isub hx hb dX10_balloon_53 ?_
            refine lv_iload_n hx hb dX10_balloon_54 rfl (lv_at hl 3 rfl) ?_
            refine lv_iconst (v := 1) hx hb dX10_balloon_55 (by decide) ?_
            refine lv_isub hx hb dX10_balloon_56 ?_
            refine lv_imul hx hb dX10_balloon_57 ?_
            refine lv_goto (tgt := 66) hx hb dX10_balloon_58 (by decide) ?_
            exact hret ((x1 - x2) * (x3 - 1)) 66 _ _ _ dX10_balloon_66 hf hP hD hS
        · have hf := ift hf c12
          refine lv_bipush (v := (-2)) hx hb dX10_balloon_43 (by decide) ?_
          exact hret (-2) 45 _ _ _ dX10_balloon_45 hf hP hD hS
set_option maxRecDepth 20000 in
theorem ggX10_light_X10_in : GoodIn wsX10_light wsX10_in := goodIn_r _ [6] (by decide +kernel) (by decide +kernel)
set_option maxRecDepth 20000 in
theorem gX10_light_X10_in : GoodIn wsX10_light (va_wsS RX10 89 yX10_in wsX10_in) := goodIn_app (goodIn_of _ (by decide +kernel)) ggX10_light_X10_in
set_option maxRecDepth 20000 in
theorem ggX10_light_X10_isLean : GoodIn wsX10_light wsX10_isLean := goodIn_r _ [9, 3, 4, 5, 6] (by decide +kernel) (by decide +kernel)
set_option maxRecDepth 20000 in
theorem gX10_light_X10_isLean : GoodIn wsX10_light (va_wsS RX10 93 yX10_isLean wsX10_isLean) := goodIn_app (goodIn_of _ (by decide +kernel)) ggX10_light_X10_isLean
set_option maxRecDepth 20000 in
theorem ggX10_light_X10_tells : GoodIn wsX10_light wsX10_tells := goodIn_r _ [13, 14, 15, 16, 17, 5, 18, 19, 20, 21, 22, 23, 24, 25, 26, 27, 28, 29, 30, 31, 32, 33, 34, 35, 36, 37, 38, 39, 40, 41, 42, 43, 44, 45, 46, 47, 48, 49, 50, 51, 52, 53, 54] (by decide +kernel) (by decide +kernel)
set_option maxRecDepth 20000 in
theorem gX10_light_X10_tells : GoodIn wsX10_light (wsV RX10 99 RX10 yX10_tells wsX10_tells) := goodIn_app (goodIn_of _ (by decide +kernel)) ggX10_light_X10_tells
theorem dX10_light_0 : decode cX10_light 0 = .ok (.iload_n 1, 1) := by decide +kernel
theorem dX10_light_1 : decode cX10_light 1 = .ok (.iconst 1, 1) := by decide +kernel
theorem dX10_light_2 : decode cX10_light 2 = .ok (.ldc 88, 2) := by decide +kernel
theorem dX10_light_4 : decode cX10_light 4 = .ok (.invokestatic 89, 3) := by decide +kernel
theorem dX10_light_7 : decode cX10_light 7 = .ok (.ifCond .eq 10, 3) := by decide +kernel
theorem dX10_light_10 : decode cX10_light 10 = .ok (.iload_n 2, 1) := by decide +kernel
theorem dX10_light_11 : decode cX10_light 11 = .ok (.invokestatic 93, 3) := by decide +kernel
theorem dX10_light_14 : decode cX10_light 14 = .ok (.ifCond .ne 6, 3) := by decide +kernel
theorem dX10_light_17 : decode cX10_light 17 = .ok (.bipush (-2), 2) := by decide +kernel
theorem dX10_light_19 : decode cX10_light 19 = .ok (.ireturn, 1) := by decide +kernel
theorem dX10_light_20 : decode cX10_light 20 = .ok (.iload_n 2, 1) := by decide +kernel
theorem dX10_light_21 : decode cX10_light 21 = .ok (.ifCond .le 18, 3) := by decide +kernel
theorem dX10_light_24 : decode cX10_light 24 = .ok (.aload_n 0, 1) := by decide +kernel
theorem dX10_light_25 : decode cX10_light 25 = .ok (.ldc2_w 97, 3) := by decide +kernel
theorem dX10_light_28 : decode cX10_light 28 = .ok (.iload_n 1, 1) := by decide +kernel
theorem dX10_light_29 : decode cX10_light 29 = .ok (.i2l, 1) := by decide +kernel
theorem dX10_light_30 : decode cX10_light 30 = .ok (.lmul, 1) := by decide +kernel
theorem dX10_light_31 : decode cX10_light 31 = .ok (.iload_n 2, 1) := by decide +kernel
theorem dX10_light_32 : decode cX10_light 32 = .ok (.i2l, 1) := by decide +kernel
theorem dX10_light_33 : decode cX10_light 33 = .ok (.invokevirtual 99, 3) := by decide +kernel
theorem dX10_light_36 : decode cX10_light 36 = .ok (.goto 4, 3) := by decide +kernel
theorem dX10_light_39 : decode cX10_light 39 = .ok (.iconst 0, 1) := by decide +kernel
theorem dX10_light_40 : decode cX10_light 40 = .ok (.ireturn, 1) := by decide +kernel
set_option maxRecDepth 100000 in
def fX10_light (x1 : Int32) (x2 : Int32) (t_above : Int64) (t_below : Int64) : Option (Int32 × Int64 × Int64) :=
  ob (fX10_in x1 1 100000) fun r1 =>
  if (b2i r1) = 0 then
    some ((-2), t_above, t_below)
  else
    ob (fX10_isLean x2) fun r4 =>
    if (b2i r4) = 0 then
      some ((-2), t_above, t_below)
    else
      if x2 ≤ 0 then
        some (0, t_above, t_below)
      else
        ob3 (fX10_tells (1000 * (Int32.toInt64 x1)) (Int32.toInt64 x2) t_above t_below) fun r8 w9 w10 =>
        some (r8, w9, w10)
abbrev rmX10_light : Room := { frames := 2, cells := 0, slots := 0, locals := 55 }
set_option maxHeartbeats 4000000 in
set_option maxRecDepth 100000 in
theorem k_X10_light (l : Launch) (G : va_G) (cI cJ : ClassId) (t_h t_edges_h t_lean_h t_word_h t_layer_h t_least_h t_sight_h t_shadow_h t_spanLow_h t_spanHigh_h t_spanAt_h t_numbers_h t_pair_h t_most_h t_row_h t_under_h t_agreed_h : Nat) (sz : Nat) (t_baseWay : Int32) (t_slip : Int32) (t_low : Int32) (t_high : Int32) (t_unlike : Int32) (t_alone : Int32) (t_above : Int64) (t_below : Int64) (t_layers : Int32) (t_sights : Int32) (t_shadows : Int32) (t_endAbove : Int64) (t_endBelow : Int64) (t_speedAbove : Int64) (t_speedBelow : Int64) (t_spans : Int32) (t_found : Int32) (t_pairs : Int32) (t_rows : Int32) (t_notes : Int32) (x1 : Int32) (x2 : Int32) {o_r : Int32} {o_t_above : Int64} {o_t_below : Int64} (hf : fX10_light x1 x2 t_above t_below = some (o_r, o_t_above, o_t_below)) : MetI l yX10_light wsX10_light rmX10_light [.ref t_h, .int x1, .int x2] G cI cJ [(t_h, .inr (10, [.int t_baseWay, .int t_slip, .int t_low, .int t_high, .int t_unlike, .int t_alone, .long t_above, .long t_below, .ref t_edges_h, .ref t_lean_h, .ref t_word_h, .int t_layers, .ref t_layer_h, .ref t_least_h, .int t_sights, .ref t_sight_h, .int t_shadows, .ref t_shadow_h, .long t_endAbove, .long t_endBelow, .long t_speedAbove, .long t_speedBelow, .int t_spans, .ref t_spanLow_h, .ref t_spanHigh_h, .ref t_spanAt_h, .int t_found, .ref t_numbers_h, .int t_pairs, .ref t_pair_h, .ref t_most_h, .int t_rows, .ref t_row_h, .int t_notes, .ref t_under_h, .ref t_agreed_h]))] [(t_h, .inr (10, [.int t_baseWay, .int t_slip, .int t_low, .int t_high, .int t_unlike, .int t_alone, .long o_t_above, .long o_t_below, .ref t_edges_h, .ref t_lean_h, .ref t_word_h, .int t_layers, .ref t_layer_h, .ref t_least_h, .int t_sights, .ref t_sight_h, .int t_shadows, .ref t_shadow_h, .long t_endAbove, .long t_endBelow, .long t_speedAbove, .long t_speedBelow, .int t_spans, .ref t_spanLow_h, .ref t_spanHigh_h, .ref t_spanAt_h, .int t_found, .ref t_numbers_h, .int t_pairs, .ref t_pair_h, .ref t_most_h, .int t_rows, .ref t_row_h, .int t_notes, .ref t_under_h, .ref t_agreed_h]))] sz o_r := by
  refine en_0 (l := l) (y := yX10_light) (wsl := wsX10_light) (rm := rmX10_light) (av := [.ref t_h, .int x1, .int x2]) (G := G) (cI := cI) (cJ := cJ) (w0 := [(t_h, .inr (10, [.int t_baseWay, .int t_slip, .int t_low, .int t_high, .int t_unlike, .int t_alone, .long t_above, .long t_below, .ref t_edges_h, .ref t_lean_h, .ref t_word_h, .int t_layers, .ref t_layer_h, .ref t_least_h, .int t_sights, .ref t_sight_h, .int t_shadows, .ref t_shadow_h, .long t_endAbove, .long t_endBelow, .long t_speedAbove, .long t_speedBelow, .int t_spans, .ref t_spanLow_h, .ref t_spanHigh_h, .ref t_spanAt_h, .int t_found, .ref t_numbers_h, .int t_pairs, .ref t_pair_h, .ref t_most_h, .int t_rows, .ref t_row_h, .int t_notes, .ref t_under_h, .ref t_agreed_h]))]) (sz := sz) (Qf := fun A => Qi0 G cI cJ [(t_h, .inr (10, [.int t_baseWay, .int t_slip, .int t_low, .int t_high, .int t_unlike, .int t_alone, .long o_t_above, .long o_t_below, .ref t_edges_h, .ref t_lean_h, .ref t_word_h, .int t_layers, .ref t_layer_h, .ref t_least_h, .int t_sights, .ref t_sight_h, .int t_shadows, .ref t_shadow_h, .long t_endAbove, .long t_endBelow, .long t_speedAbove, .long t_speedBelow, .int t_spans, .ref t_spanLow_h, .ref t_spanHigh_h, .ref t_spanAt_h, .int t_found, .ref t_numbers_h, .int t_pairs, .ref t_pair_h, .ref t_most_h, .int t_rows, .ref t_row_h, .int t_notes, .ref t_under_h, .ref t_agreed_h]))] o_r A) (cc := cX10_light) (maxL := 3) (ret := (some .int)) RX10 (by decide +kernel) rfl rfl (Nat.le_of_ble_eq_true rfl) ?_
  intro p e s m args below meth c A ls Q hQ hx hb hr hts hown hlocks hml hN hK hP hD hS hA hl
  have hl : lv_has ls 3 [(0, .ref t_h), (1, .int x1), (2, .int x2)] := hl
  have kc_88 := hts (.constant RX10 88 (100000)) (by decide +kernel)
  have kc_97 := hts (.constantLong RX10 97 (1000)) (by decide +kernel)
  have hret : ∀ (o_r9 : Int32) (o_t_above9 : Int64) (o_t_below9 : Int64) (pc : Nat) (H : Heap) (locs : List Loc) (ls : Array Slot), decode cX10_light pc = .ok (.ireturn, 1) → some (o_r9, o_t_above9, o_t_below9) = some (o_r, o_t_above, o_t_below) → va_P G vwCl [(t_h, .inr (10, [.int t_baseWay, .int t_slip, .int t_low, .int t_high, .int t_unlike, .int t_alone, .long o_t_above9, .long o_t_below9, .ref t_edges_h, .ref t_lean_h, .ref t_word_h, .int t_layers, .ref t_layer_h, .ref t_least_h, .int t_sights, .ref t_sight_h, .int t_shadows, .ref t_shadow_h, .long t_endAbove, .long t_endBelow, .long t_speedAbove, .long t_speedBelow, .int t_spans, .ref t_spanLow_h, .ref t_spanHigh_h, .ref t_spanAt_h, .int t_found, .ref t_numbers_h, .int t_pairs, .ref t_pair_h, .ref t_most_h, .int t_rows, .ref t_row_h, .int t_notes, .ref t_under_h, .ref t_agreed_h]))] H → va_D A [(t_h, .inr (10, [.int t_baseWay, .int t_slip, .int t_low, .int t_high, .int t_unlike, .int t_alone, .long o_t_above9, .long o_t_below9, .ref t_edges_h, .ref t_lean_h, .ref t_word_h, .int t_layers, .ref t_layer_h, .ref t_least_h, .int t_sights, .ref t_sight_h, .int t_shadows, .ref t_shadow_h, .long t_endAbove, .long t_endBelow, .long t_speedAbove, .long t_speedBelow, .int t_spans, .ref t_spanLow_h, .ref t_spanHigh_h, .ref t_spanAt_h, .int t_found, .ref t_numbers_h, .int t_pairs, .ref t_pair_h, .ref t_most_h, .int t_rows, .ref t_row_h, .int t_notes, .ref t_under_h, .ref t_agreed_h]))] → va_S A s.heap H locs → W p l e rmX10_light s m args below meth c H locs 0 0 Q (F0 m pc ls [.int o_r9]) := by
    intro o_r9 o_t_above9 o_t_below9 pc H locs ls hdg he hP hD hS
    cases he
    subst hQ
    exact rt_i hx hb hr hlocks hK hP hD hS rfl hdg
  clear hQ
  unfold fX10_light at hf
  refine lv_iload_n hx hb dX10_light_0 rfl (lv_at hl 1 rfl) ?_
  refine lv_iconst (v := 1) hx hb dX10_light_1 (by decide) ?_
  refine lv_ldc (v := 100000) hx hb hown kc_88 dX10_light_2 ?_
  obtain ⟨r1, hc2, hf⟩ := ob_some hf
  refine af_iR (va_runS (As := [.int x1, .int 1, .int 100000]) (rest := []) ⟨hx, hb, hml, hown, hts⟩ (k_X10_in l G cI cJ (x0 := x1) (x1 := 1) (x2 := 100000) (sz := _) (hf := hc2)) (va_cwS 3 hts gX10_light_X10_in rfl rfl rfl (by decide +kernel) ⟨Nat.le_of_ble_eq_true rfl, Nat.le_of_ble_eq_true rfl⟩) (preS0 (wc := []) hK hP hD hN [] rfl rfl (by decide)) rfl rfl hl.1 rfl (lv_room (Nat.le_of_ble_eq_true rfl)) dX10_light_4 ⟨Nat.zero_le _, Nat.zero_le _⟩) hP hD hS hA [] rfl (fun H locs hP hS => ?_)
  refine lv_if_eq (tgt := 17) hx hb dX10_light_7 (by decide) (fun c3 => ?_) (fun c3 => ?_)
  · have hf := ift hf c3
    refine lv_bipush (v := (-2)) hx hb dX10_light_17 (by decide) ?_
    exact hret (-2) t_above t_below 19 _ _ _ dX10_light_19 hf hP hD hS
  · have hf := iff_ hf c3
    refine lv_iload_n hx hb dX10_light_10 rfl (lv_at hl 2 rfl) ?_
    obtain ⟨r4, hc5, hf⟩ := ob_some hf
    refine af_iR (va_runS (As := [.int x2]) (rest := []) ⟨hx, hb, hml, hown, hts⟩ (k_X10_isLean l G cI cJ (x0 := x2) (sz := _) (hf := hc5)) (va_cwS 1 hts gX10_light_X10_isLean rfl rfl rfl (by decide +kernel) ⟨Nat.le_of_ble_eq_true rfl, Nat.le_of_ble_eq_true rfl⟩) (preS0 (wc := []) hK hP hD hN [] rfl rfl (by decide)) rfl rfl hl.1 rfl (lv_room (Nat.le_of_ble_eq_true rfl)) dX10_light_11 ⟨Nat.zero_le _, Nat.zero_le _⟩) hP hD hS hA [] rfl (fun H locs hP hS => ?_)
    refine lv_if_ne (tgt := 20) hx hb dX10_light_14 (by decide) (fun c6 => ?_) (fun c6 => ?_)
    · have hf := iff_ hf c6
      refine lv_iload_n hx hb dX10_light_20 rfl (lv_at hl 2 rfl) ?_
      refine lv_if_le (tgt := 39) hx hb dX10_light_21 (by decide) (fun c7 => ?_) (fun c7 => ?_)
      · have hf := ift hf c7
        refine lv_iconst (v := 0) hx hb dX10_light_39 (by decide) ?_
        exact hret 0 t_above t_below 40 _ _ _ dX10_light_40 hf hP hD hS
      · have hf := iff_ hf c7
        refine lv_aload_n hx hb dX10_light_24 rfl (lv_at hl 0 rfl) ?_
        refine lv_ldc2 (v := 1000) hx hb hown kc_97 dX10_light_25 ?_
        refine lv_iload_n hx hb dX10_light_28 rfl (lv_at hl 1 rfl) ?_
        refine lv_i2l (v := Int32.toInt64 x1) hx hb dX10_light_29 rfl ?_
        refine lv_lmul hx hb dX10_light_30 ?_
        refine lv_iload_n hx hb dX10_light_31 rfl (lv_at hl 2 rfl) ?_
        refine lv_i2l (v := Int32.toInt64 x2) hx hb dX10_light_32 rfl ?_
        obtain ⟨r8, w9, w10, hc11, hf⟩ := ob3_some hf
        refine af_iW (wr := []) (ws2 := [(t_h, .inr (10, [.int t_baseWay, .int t_slip, .int t_low, .int t_high, .int t_unlike, .int t_alone, .long w9, .long w10, .ref t_edges_h, .ref t_lean_h, .ref t_word_h, .int t_layers, .ref t_layer_h, .ref t_least_h, .int t_sights, .ref t_sight_h, .int t_shadows, .ref t_shadow_h, .long t_endAbove, .long t_endBelow, .long t_speedAbove, .long t_speedBelow, .int t_spans, .ref t_spanLow_h, .ref t_spanHigh_h, .ref t_spanAt_h, .int t_found, .ref t_numbers_h, .int t_pairs, .ref t_pair_h, .ref t_most_h, .int t_rows, .ref t_row_h, .int t_notes, .ref t_under_h, .ref t_agreed_h]))]) (va_runV (As := [.long (1000 * (Int32.toInt64 x1)), .long (Int32.toInt64 x2)]) (rest := []) ⟨hx, hb, hml, hown, hts⟩ (k_X10_tells l G cI cJ (t_h := t_h) (t_edges_h := t_edges_h) (t_lean_h := t_lean_h) (t_word_h := t_word_h) (t_layer_h := t_layer_h) (t_least_h := t_least_h) (t_sight_h := t_sight_h) (t_shadow_h := t_shadow_h) (t_spanLow_h := t_spanLow_h) (t_spanHigh_h := t_spanHigh_h) (t_spanAt_h := t_spanAt_h) (t_numbers_h := t_numbers_h) (t_pair_h := t_pair_h) (t_most_h := t_most_h) (t_row_h := t_row_h) (t_under_h := t_under_h) (t_agreed_h := t_agreed_h) (t_baseWay := t_baseWay) (t_slip := t_slip) (t_low := t_low) (t_high := t_high) (t_unlike := t_unlike) (t_alone := t_alone) (t_above := t_above) (t_below := t_below) (t_layers := t_layers) (t_sights := t_sights) (t_shadows := t_shadows) (t_endAbove := t_endAbove) (t_endBelow := t_endBelow) (t_speedAbove := t_speedAbove) (t_speedBelow := t_speedBelow) (t_spans := t_spans) (t_found := t_found) (t_pairs := t_pairs) (t_rows := t_rows) (t_notes := t_notes) (x1 := (1000 * (Int32.toInt64 x1))) (x3 := (Int32.toInt64 x2)) (sz := _) (hf := hc11)) (cwV 2 hts gX10_light_X10_tells rfl rfl rfl (by decide +kernel) ⟨Nat.le_of_ble_eq_true rfl, Nat.le_of_ble_eq_true rfl⟩) (preV0 (ci := 10) (q0 := 0) (C := RX10) (wc := [(t_h, .inr (10, [.int t_baseWay, .int t_slip, .int t_low, .int t_high, .int t_unlike, .int t_alone, .long t_above, .long t_below, .ref t_edges_h, .ref t_lean_h, .ref t_word_h, .int t_layers, .ref t_layer_h, .ref t_least_h, .int t_sights, .ref t_sight_h, .int t_shadows, .ref t_shadow_h, .long t_endAbove, .long t_endBelow, .long t_speedAbove, .long t_speedBelow, .int t_spans, .ref t_spanLow_h, .ref t_spanHigh_h, .ref t_spanAt_h, .int t_found, .ref t_numbers_h, .int t_pairs, .ref t_pair_h, .ref t_most_h, .int t_rows, .ref t_row_h, .int t_notes, .ref t_under_h, .ref t_agreed_h]))]) hK hP hD hN [0] rfl rfl (by decide) rfl rfl) rfl rfl hl.1 rfl (lv_room (Nat.le_of_ble_eq_true rfl)) dX10_light_33 ⟨Nat.zero_le _, Nat.zero_le _⟩) hP hD hS hA [0] [] [0] rfl rfl (by decide) (by decide) rfl rfl (by decide) (fun H locs hP hD hS => ?_)
        refine lv_goto (tgt := 40) hx hb dX10_light_36 (by decide) ?_
        exact hret r8 w9 w10 40 _ _ _ dX10_light_40 hf hP hD hS
    · have hf := ift hf c6
      refine lv_bipush (v := (-2)) hx hb dX10_light_17 (by decide) ?_
      exact hret (-2) t_above t_below 19 _ _ _ dX10_light_19 hf hP hD hS
