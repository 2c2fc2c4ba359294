set_option maxRecDepth 20000 in
theorem ggX6_areOfOnePuff_X7_has : GoodIn wsX6_areOfOnePuff wsX7_has := goodIn_r _ [5, 6, 13, 14, 15, 16] (by decide +kernel) (by decide +kernel)
set_option maxRecDepth 20000 in
theorem gX6_areOfOnePuff_X7_has : GoodIn wsX6_areOfOnePuff (wsV RX6 36 RX7 yX7_has wsX7_has) := goodIn_app (goodIn_of _ (by decide +kernel)) ggX6_areOfOnePuff_X7_has
set_option maxRecDepth 20000 in
theorem ggX6_areOfOnePuff_X7_at : GoodIn wsX6_areOfOnePuff wsX7_at := goodIn_r _ [10, 11, 12, 13, 14, 15, 16] (by decide +kernel) (by decide +kernel)
set_option maxRecDepth 20000 in
theorem gX6_areOfOnePuff_X7_at : GoodIn wsX6_areOfOnePuff (wsV RX6 42 RX7 yX7_at wsX7_at) := goodIn_app (goodIn_of _ (by decide +kernel)) ggX6_areOfOnePuff_X7_at
theorem dX6_areOfOnePuff_0 : decode cX6_areOfOnePuff 0 = .ok (.aload_n 0, 1) := by decide +kernel
theorem dX6_areOfOnePuff_1 : decode cX6_areOfOnePuff 1 = .ok (.iload_n 1, 1) := by decide +kernel
theorem dX6_areOfOnePuff_2 : decode cX6_areOfOnePuff 2 = .ok (.invokevirtual 36, 3) := by decide +kernel
theorem dX6_areOfOnePuff_5 : decode cX6_areOfOnePuff 5 = .ok (.ifCond .eq 45, 3) := by decide +kernel
theorem dX6_areOfOnePuff_8 : decode cX6_areOfOnePuff 8 = .ok (.aload_n 0, 1) := by decide +kernel
theorem dX6_areOfOnePuff_9 : decode cX6_areOfOnePuff 9 = .ok (.iload_n 2, 1) := by decide +kernel
theorem dX6_areOfOnePuff_10 : decode cX6_areOfOnePuff 10 = .ok (.invokevirtual 36, 3) := by decide +kernel
theorem dX6_areOfOnePuff_13 : decode cX6_areOfOnePuff 13 = .ok (.ifCond .eq 37, 3) := by decide +kernel
theorem dX6_areOfOnePuff_16 : decode cX6_areOfOnePuff 16 = .ok (.aload_n 0, 1) := by decide +kernel
theorem dX6_areOfOnePuff_17 : decode cX6_areOfOnePuff 17 = .ok (.iload_n 1, 1) := by decide +kernel
theorem dX6_areOfOnePuff_18 : decode cX6_areOfOnePuff 18 = .ok (.iconst 0, 1) := by decide +kernel
theorem dX6_areOfOnePuff_19 : decode cX6_areOfOnePuff 19 = .ok (.invokevirtual 42, 3) := by decide +kernel
theorem dX6_areOfOnePuff_22 : decode cX6_areOfOnePuff 22 = .ok (.aload_n 0, 1) := by decide +kernel
theorem dX6_areOfOnePuff_23 : decode cX6_areOfOnePuff 23 = .ok (.iload_n 2, 1) := by decide +kernel
theorem dX6_areOfOnePuff_24 : decode cX6_areOfOnePuff 24 = .ok (.iconst 0, 1) := by decide +kernel
theorem dX6_areOfOnePuff_25 : decode cX6_areOfOnePuff 25 = .ok (.invokevirtual 42, 3) := by decide +kernel
theorem dX6_areOfOnePuff_28 : decode cX6_areOfOnePuff 28 = .ok (.if_icmp .ne 22, 3) := by decide +kernel
theorem dX6_areOfOnePuff_31 : decode cX6_areOfOnePuff 31 = .ok (.aload_n 0, 1) := by decide +kernel
theorem dX6_areOfOnePuff_32 : decode cX6_areOfOnePuff 32 = .ok (.iload_n 1, 1) := by decide +kernel
theorem dX6_areOfOnePuff_33 : decode cX6_areOfOnePuff 33 = .ok (.iconst 1, 1) := by decide +kernel
theorem dX6_areOfOnePuff_34 : decode cX6_areOfOnePuff 34 = .ok (.invokevirtual 42, 3) := by decide +kernel
theorem dX6_areOfOnePuff_37 : decode cX6_areOfOnePuff 37 = .ok (.aload_n 0, 1) := by decide +kernel
theorem dX6_areOfOnePuff_38 : decode cX6_areOfOnePuff 38 = .ok (.iload_n 2, 1) := by decide +kernel
theorem dX6_areOfOnePuff_39 : decode cX6_areOfOnePuff 39 = .ok (.iconst 1, 1) := by decide +kernel
theorem dX6_areOfOnePuff_40 : decode cX6_areOfOnePuff 40 = .ok (.invokevirtual 42, 3) := by decide +kernel
theorem dX6_areOfOnePuff_43 : decode cX6_areOfOnePuff 43 = .ok (.if_icmp .eq 7, 3) := by decide +kernel
theorem dX6_areOfOnePuff_46 : decode cX6_areOfOnePuff 46 = .ok (.iconst 1, 1) := by decide +kernel
theorem dX6_areOfOnePuff_47 : decode cX6_areOfOnePuff 47 = .ok (.goto 4, 3) := by decide +kernel
theorem dX6_areOfOnePuff_50 : decode cX6_areOfOnePuff 50 = .ok (.iconst 0, 1) := by decide +kernel
theorem dX6_areOfOnePuff_51 : decode cX6_areOfOnePuff 51 = .ok (.ireturn, 1) := by decide +kernel
set_option maxRecDepth 100000 in
def fX6_areOfOnePuff (x1 : Int32) (x2 : Int32) (L0_width : Int32) (L0_lines : Int32) (L0_cells_n : Nat) (L0_cells_a : Nat → Int32) : Option (Bool) :=
  ob (fX7_has x1 L0_lines) fun r1 =>
  if (b2i r1) = 0 then
    some false
  else
    ob (fX7_has x2 L0_lines) fun r4 =>
    if (b2i r4) = 0 then
      some false
    else
      ob (fX7_at x1 0 L0_width L0_cells_n L0_cells_a) fun r7 =>
      ob (fX7_at x2 0 L0_width L0_cells_n L0_cells_a) fun r9 =>
      if r7 = r9 then
        ob (fX7_at x1 1 L0_width L0_cells_n L0_cells_a) fun r12 =>
        ob (fX7_at x2 1 L0_width L0_cells_n L0_cells_a) fun r14 =>
        if r12 = r14 then
          some false
        else
          some true
      else
        some false
abbrev rmX6_areOfOnePuff : Room := { frames := 1, cells := 0, slots := 0, locals := 23 }
set_option maxHeartbeats 4000000 in
set_option maxRecDepth 100000 in
theorem k_X6_areOfOnePuff (l : Launch) (G : va_G) (cI cJ : ClassId) (L0_h L0_cells_h : Nat) (sz : Nat) (L0_width : Int32) (L0_most : Int32) (L0_lines : Int32) (L0_cells_n : Nat) (L0_cells_a : Nat → Int32) (x1 : Int32) (x2 : Int32) {o_r : Bool} (hf : fX6_areOfOnePuff x1 x2 L0_width L0_lines L0_cells_n L0_cells_a = some o_r) : MetI l yX6_areOfOnePuff wsX6_areOfOnePuff rmX6_areOfOnePuff [.ref L0_h, .int x1, .int x2] G cI cJ [(L0_h, .inr (7, [.int L0_width, .int L0_most, .ref L0_cells_h, .int L0_lines])), (L0_cells_h, .inl (cI, L0_cells_n, .inl L0_cells_a))] [(L0_h, .inr (7, [.int L0_width, .int L0_most, .ref L0_cells_h, .int L0_lines])), (L0_cells_h, .inl (cI, L0_cells_n, .inl L0_cells_a))] sz (b2i o_r) := by
  refine en_0 (l := l) (y := yX6_areOfOnePuff) (wsl := wsX6_areOfOnePuff) (rm := rmX6_areOfOnePuff) (av := [.ref L0_h, .int x1, .int x2]) (G := G) (cI := cI) (cJ := cJ) (w0 := [(L0_h, .inr (7, [.int L0_width, .int L0_most, .ref L0_cells_h, .int L0_lines])), (L0_cells_h, .inl (cI, L0_cells_n, .inl L0_cells_a))]) (sz := sz) (Qf := fun A => Qi0 G cI cJ [(L0_h, .inr (7, [.int L0_width, .int L0_most, .ref L0_cells_h, .int L0_lines])), (L0_cells_h, .inl (cI, L0_cells_n, .inl L0_cells_a))] (b2i o_r) A) (cc := cX6_areOfOnePuff) (maxL := 3) (ret := (some .boolean)) RX6 (by decide +kernel) rfl rfl (Nat.le_of_ble_eq_true rfl) ?_
  intro p e s m args below meth c A ls Q hQ hx hb hr hts hown hlocks hml hN hK hP hD hS hA hl
  have hl : lv_has ls 3 [(0, .ref L0_h), (1, .int x1), (2, .int x2)] := hl
  have hret : ∀ (o_r9 : Bool) (pc : Nat) (H : Heap) (locs : List Loc) (ls : Array Slot), decode cX6_areOfOnePuff pc = .ok (.ireturn, 1) → some o_r9 = some o_r → va_P G vwCl [(L0_h, .inr (7, [.int L0_width, .int L0_most, .ref L0_cells_h, .int L0_lines])), (L0_cells_h, .inl (cI, L0_cells_n, .inl L0_cells_a))] H → va_D A [(L0_h, .inr (7, [.int L0_width, .int L0_most, .ref L0_cells_h, .int L0_lines])), (L0_cells_h, .inl (cI, L0_cells_n, .inl L0_cells_a))] → va_S A s.heap H locs → W p l e rmX6_areOfOnePuff s m args below meth c H locs 0 0 Q (F0 m pc ls [.int (b2i o_r9)]) := by
    intro o_r9 pc H locs ls hdg he hP hD hS
    cases he
    subst hQ
    exact rt_z hx hb hr hlocks hK hP hD hS (b2i_narrow _) rfl hdg
  clear hQ
  unfold fX6_areOfOnePuff at hf
  refine lv_aload_n hx hb dX6_areOfOnePuff_0 rfl (lv_at hl 0 rfl) ?_
  refine lv_iload_n hx hb dX6_areOfOnePuff_1 rfl (lv_at hl 1 rfl) ?_
  obtain ⟨r1, hc2, hf⟩ := ob_some hf
  refine af_iR (va_runV (As := [.int x1]) (rest := []) ⟨hx, hb, hml, hown, hts⟩ (k_X7_has l G cI cJ (t_h := L0_h) (t_cells_h := L0_cells_h) (t_width := L0_width) (t_most := L0_most) (t_lines := L0_lines) (x1 := x1) (sz := _) (hf := hc2)) (cwV 1 hts gX6_areOfOnePuff_X7_has rfl rfl rfl (by decide +kernel) ⟨Nat.le_of_ble_eq_true rfl, Nat.le_of_ble_eq_true rfl⟩) (preV0 (ci := 7) (q0 := 0) (C := RX7) (wc := [(L0_h, .inr (7, [.int L0_width, .int L0_most, .ref L0_cells_h, .int L0_lines]))]) hK hP hD hN [0] rfl rfl (by decide) rfl rfl) rfl rfl hl.1 rfl (lv_room (Nat.le_of_ble_eq_true rfl)) dX6_areOfOnePuff_2 ⟨Nat.zero_le _, Nat.zero_le _⟩) hP hD hS hA [0] rfl (fun H locs hP hS => ?_)
  refine lv_if_eq (tgt := 50) hx hb dX6_areOfOnePuff_5 (by decide) (fun c3 => ?_) (fun c3 => ?_)
  · have hf := ift hf c3
    refine lv_iconst (v := 0) hx hb dX6_areOfOnePuff_50 (by decide) ?_
    exact hret false 51 _ _ _ dX6_areOfOnePuff_51 hf hP hD hS
  · have hf := iff_ hf c3
    refine lv_aload_n hx hb dX6_areOfOnePuff_8 rfl (lv_at hl 0 rfl) ?_
    refine lv_iload_n hx hb dX6_areOfOnePuff_9 rfl (lv_at hl 2 rfl) ?_
    obtain ⟨r4, hc5, hf⟩ := ob_some hf
    refine af_iR (va_runV (As := [.int x2]) (rest := []) ⟨hx, hb, hml, hown, hts⟩ (k_X7_has l G cI cJ (t_h := L0_h) (t_cells_h := L0_cells_h) (t_width := L0_width) (t_most := L0_most) (t_lines := L0_lines) (x1 := x2) (sz := _) (hf := hc5)) (cwV 1 hts gX6_areOfOnePuff_X7_has rfl rfl rfl (by decide +kernel) ⟨Nat.le_of_ble_eq_true rfl, Nat.le_of_ble_eq_true rfl⟩) (preV0 (ci := 7) (q0 := 0) (C := RX7) (wc := [(L0_h, .inr (7, [.int L0_width, .int L0_most, .ref L0_cells_h, .int L0_lines]))]) hK hP hD hN [0] rfl rfl (by decide) rfl rfl) rfl rfl hl.1 rfl (lv_room (Nat.le_of_ble_eq_true rfl)) dX6_areOfOnePuff_10 ⟨Nat.zero_le _, Nat.zero_le _⟩) hP hD hS hA [0] rfl (fun H locs hP hS => ?_)
    refine lv_if_eq (tgt := 50) hx hb dX6_areOfOnePuff_13 (by decide) (fun c6 => ?_) (fun c6 => ?_)
    · have hf := ift hf c6
      refine lv_iconst (v := 0) hx hb dX6_areOfOnePuff_50 (by decide) ?_
      exact hret false 51 _ _ _ dX6_areOfOnePuff_51 hf hP hD hS
    · have hf := iff_ hf c6
      refine lv_aload_n hx hb dX6_areOfOnePuff_16 rfl (lv_at hl 0 rfl) ?_
      refine lv_iload_n hx hb dX6_areOfOnePuff_17 rfl (lv_at hl 1 rfl) ?_
      refine lv_iconst (v := 0) hx hb dX6_areOfOnePuff_18 (by decide) ?_
      obtain ⟨r7, hc8, hf⟩ := ob_some hf
      refine af_iR (va_runV (As := [.int x1, .int 0]) (rest := []) ⟨hx, hb, hml, hown, hts⟩ (k_X7_at l G cI cJ (t_h := L0_h) (t_cells_h := L0_cells_h) (t_width := L0_width) (t_most := L0_most) (t_lines := L0_lines) (t_cells_n := L0_cells_n) (t_cells_a := L0_cells_a) (x1 := x1) (x2 := 0) (sz := _) (hf := hc8)) (cwV 2 hts gX6_areOfOnePuff_X7_at rfl rfl rfl (by decide +kernel) ⟨Nat.le_of_ble_eq_true rfl, Nat.le_of_ble_eq_true rfl⟩) (preV0 (ci := 7) (q0 := 0) (C := RX7) (wc := [(L0_h, .inr (7, [.int L0_width, .int L0_most, .ref L0_cells_h, .int L0_lines])), (L0_cells_h, .inl (cI, L0_cells_n, .inl L0_cells_a))]) hK hP hD hN [0, 1] rfl rfl (by decide) rfl rfl) rfl rfl hl.1 rfl (lv_room (Nat.le_of_ble_eq_true rfl)) dX6_areOfOnePuff_19 ⟨Nat.zero_le _, Nat.zero_le _⟩) hP hD hS hA [0, 1] rfl (fun H locs hP hS => ?_)
      refine lv_aload_n hx hb dX6_areOfOnePuff_22 rfl (lv_at hl 0 rfl) ?_
      refine lv_iload_n hx hb dX6_areOfOnePuff_23 rfl (lv_at hl 2 rfl) ?_
      refine lv_iconst (v := 0) hx hb dX6_areOfOnePuff_24 (by decide) ?_
      obtain ⟨r9, hc10, hf⟩ := ob_some hf
      refine af_iR (va_runV (As := [.int x2, .int 0]) (rest := [.int r7]) ⟨hx, hb, hml, hown, hts⟩ (k_X7_at l G cI cJ (t_h := L0_h) (t_cells_h := L0_cells_h) (t_width := L0_width) (t_most := L0_most) (t_lines := L0_lines) (t_cells_n := L0_cells_n) (t_cells_a := L0_cells_a) (x1 := x2) (x2 := 0) (sz := _) (hf := hc10)) (cwV 2 hts gX6_areOfOnePuff_X7_at rfl rfl rfl (by decide +kernel) ⟨Nat.le_of_ble_eq_true rfl, Nat.le_of_ble_eq_true rfl⟩) (preV0 (ci := 7) (q0 := 0) (C := RX7) (wc := [(L0_h, .inr (7, [.int L0_width, .int L0_most, .ref L0_cells_h, .int L0_lines])), (L0_cells_h, .inl (cI, L0_cells_n, .inl L0_cells_a))]) hK hP hD hN [0, 1] rfl rfl (by decide) rfl rfl) rfl rfl hl.1 rfl (lv_room (Nat.le_of_ble_eq_true rfl)) dX6_areOfOnePuff_25 ⟨Nat.zero_le _, Nat.zero_le _⟩) hP hD hS hA [0, 1] rfl (fun H locs hP hS => ?_)
      refine lv_icmp_ne (tgt := 50) hx hb dX6_areOfOnePuff_28 (by decide) (fun c11 => ?_) (fun c11 => ?_)
      · have hf := iff_ hf c11
        refine lv_iconst (v := 0) hx hb dX6_areOfOnePuff_50 (by decide) ?_
        exact hret false 51 _ _ _ dX6_areOfOnePuff_51 hf hP hD hS
      · have hf := ift hf c11
        refine lv_aload_n hx hb dX6_areOfOnePuff_31 rfl (lv_at hl 0 rfl) ?_
        refine lv_iload_n hx hb dX6_areOfOnePuff_32 rfl (lv_at hl 1 rfl) ?_
        refine lv_iconst (v := 1) hx hb dX6_areOfOnePuff_33 (by decide) ?_
        obtain ⟨r12, hc13, hf⟩ := ob_some hf
        refine af_iR (va_runV (As := [.int x1, .int 1]) (rest := []) ⟨hx, hb, hml, hown, hts⟩ (k_X7_at l G cI cJ (t_h := L0_h) (t_cells_h := L0_cells_h) (t_width := L0_width) (t_most := L0_most) (t_lines := L0_lines) (t_cells_n := L0_cells_n) (t_cells_a := L0_cells_a) (x1 := x1) (x2 := 1) (sz := _) (hf := hc13)) (cwV 2 hts gX6_areOfOnePuff_X7_at rfl rfl rfl (by decide +kernel) ⟨Nat.le_of_ble_eq_true rfl, Nat.le_of_ble_eq_true rfl⟩) (preV0 (ci := 7) (q0 := 0) (C := RX7) (wc := [(L0_h, .inr (7, [.int L0_width, .int L0_most, .ref L0_cells_h, .int L0_lines])), (L0_cells_h, .inl (cI, L0_cells_n, .inl L0_cells_a))]) hK hP hD hN [0, 1] rfl rfl (by decide) rfl rfl) rfl rfl hl.1 rfl (lv_room (Nat.le_of_ble_eq_true rfl)) dX6_areOfOnePuff_34 ⟨Nat.zero_le _, Nat.zero_le _⟩) hP hD hS hA [0, 1] rfl (fun H locs hP hS => ?_)
        refine lv_aload_n hx hb dX6_areOfOnePuff_37 rfl (lv_at hl 0 rfl) ?_
        refine lv_iload_n hx hb dX6_areOfOnePuff_38 rfl (lv_at hl 2 rfl) ?_
        refine lv_iconst (v := 1) hx hb dX6_areOfOnePuff_39 (by decide) ?_
        obtain ⟨r14, hc15, hf⟩ := ob_some hf
        refine af_iR (va_runV (As := [.int x2, .int 1]) (rest := [.int r12]) ⟨hx, hb, hml, hown, hts⟩ (k_X7_at l G cI cJ (t_h := L0_h) (t_cells_h := L0_cells_h) (t_width := L0_width) (t_most := L0_most) (t_lines := L0_lines) (t_cells_n := L0_cells_n) (t_cells_a := L0_cells_a) (x1 := x2) (x2 := 1) (sz := _) (hf := hc15)) (cwV 2 hts gX6_areOfOnePuff_X7_at rfl rfl rfl (by decide +kernel) ⟨Nat.le_of_ble_eq_true rfl, Nat.le_of_ble_eq_true rfl⟩) (preV0 (ci := 7) (q0 := 0) (C := RX7) (wc := [(L0_h, .inr (7, [.int L0_width, .int L0_most, .ref L0_cells_h, .int L0_lines])), (L0_cells_h, .inl (cI, L0_cells_n, .inl L0_cells_a))]) hK hP hD hN [0, 1] rfl rfl (by decide) rfl rfl) rfl rfl hl.1 rfl (lv_room (Nat.le_of_ble_eq_true rfl)) dX6_areOfOnePuff_40 ⟨Nat.zero_le _, Nat.zero_le _⟩) hP hD hS hA [0, 1] rfl (fun H locs hP hS => ?_)
        refine lv_icmp_eq (tgt := 50) hx hb dX6_areOfOnePuff_43 (by decide) (fun c16 => ?_) (fun c16 => ?_)
        · have hf := ift hf c16
          refine lv_iconst (v := 0) hx hb dX6_areOfOnePuff_50 (by decide) ?_
          exact hret false 51 _ _ _ dX6_areOfOnePuff_51 hf hP hD hS
        · have hf := iff_ hf c16
          refine lv_iconst (v := 1) hx hb dX6_areOfOnePuff_46 (by decide) ?_
          refine lv_goto (tgt := 51) hx hb dX6_areOfOnePuff_47 (by decide) ?_
          exact hret true 51 _ _ _ dX6_areOfOnePuff_51 hf hP hD hS
set_option maxRecDepth 20000 in
theorem ggX6_isLater_X7_at : GoodIn wsX6_isLater wsX7_at := goodIn_r _ [5, 6, 7, 8, 9, 10, 11] (by decide +kernel) (by decide +kernel)
set_option maxRecDepth 20000 in
theorem gX6_isLater_X7_at : GoodIn wsX6_isLater (wsV RX6 42 RX7 yX7_at wsX7_at) := goodIn_app (goodIn_of _ (by decide +kernel)) ggX6_isLater_X7_at
theorem dX6_isLater_0 : decode cX6_isLater 0 = .ok (.aload_n 0, 1) := by decide +kernel
theorem dX6_isLater_1 : decode cX6_isLater 1 = .ok (.iload_n 1, 1) := by decide +kernel
theorem dX6_isLater_2 : decode cX6_isLater 2 = .ok (.iconst 1, 1) := by decide +kernel
theorem dX6_isLater_3 : decode cX6_isLater 3 = .ok (.invokevirtual 42, 3) := by decide +kernel
theorem dX6_isLater_6 : decode cX6_isLater 6 = .ok (.aload_n 0, 1) := by decide +kernel
theorem dX6_isLater_7 : decode cX6_isLater 7 = .ok (.iload_n 2, 1) := by decide +kernel
theorem dX6_isLater_8 : decode cX6_isLater 8 = .ok (.iconst 1, 1) := by decide +kernel
theorem dX6_isLater_9 : decode cX6_isLater 9 = .ok (.invokevirtual 42, 3) := by decide +kernel
theorem dX6_isLater_12 : decode cX6_isLater 12 = .ok (.if_icmp .le 7, 3) := by decide +kernel
theorem dX6_isLater_15 : decode cX6_isLater 15 = .ok (.iconst 1, 1) := by decide +kernel
theorem dX6_isLater_16 : decode cX6_isLater 16 = .ok (.goto 4, 3) := by decide +kernel
theorem dX6_isLater_19 : decode cX6_isLater 19 = .ok (.iconst 0, 1) := by decide +kernel
theorem dX6_isLater_20 : decode cX6_isLater 20 = .ok (.ireturn, 1) := by decide +kernel
set_option maxRecDepth 100000 in
def fX6_isLater (x1 : Int32) (x2 : Int32) (L0_width : Int32) (L0_cells_n : Nat) (L0_cells_a : Nat → Int32) : Option (Bool) :=
  ob (fX7_at x1 1 L0_width L0_cells_n L0_cells_a) fun r1 =>
  ob (fX7_at x2 1 L0_width L0_cells_n L0_cells_a) fun r3 =>
  if r1 ≤ r3 then
    some false
  else
    some true
abbrev rmX6_isLater : Room := { frames := 1, cells := 0, slots := 0, locals := 23 }
set_option maxHeartbeats 4000000 in
set_option maxRecDepth 100000 in
theorem k_X6_isLater (l : Launch) (G : va_G) (cI cJ : ClassId) (L0_h L0_cells_h : Nat) (sz : Nat) (L0_width : Int32) (L0_most : Int32) (L0_lines : Int32) (L0_cells_n : Nat) (L0_cells_a : Nat → Int32) (x1 : Int32) (x2 : Int32) {o_r : Bool} (hf : fX6_isLater x1 x2 L0_width L0_cells_n L0_cells_a = some o_r) : MetI l yX6_isLater wsX6_isLater rmX6_isLater [.ref L0_h, .int x1, .int x2] G cI cJ [(L0_h, .inr (7, [.int L0_width, .int L0_most, .ref L0_cells_h, .int L0_lines])), (L0_cells_h, .inl (cI, L0_cells_n, .inl L0_cells_a))] [(L0_h, .inr (7, [.int L0_width, .int L0_most, .ref L0_cells_h, .int L0_lines])), (L0_cells_h, .inl (cI, L0_cells_n, .inl L0_cells_a))] sz (b2i o_r) := by
  refine en_0 (l := l) (y := yX6_isLater) (wsl := wsX6_isLater) (rm := rmX6_isLater) (av := [.ref L0_h, .int x1, .int x2]) (G := G) (cI := cI) (cJ := cJ) (w0 := [(L0_h, .inr (7, [.int L0_width, .int L0_most, .ref L0_cells_h, .int L0_lines])), (L0_cells_h, .inl (cI, L0_cells_n, .inl L0_cells_a))]) (sz := sz) (Qf := fun A => Qi0 G cI cJ [(L0_h, .inr (7, [.int L0_width, .int L0_most, .ref L0_cells_h, .int L0_lines])), (L0_cells_h, .inl (cI, L0_cells_n, .inl L0_cells_a))] (b2i o_r) A) (cc := cX6_isLater) (maxL := 3) (ret := (some .boolean)) RX6 (by decide +kernel) rfl rfl (Nat.le_of_ble_eq_true rfl) ?_
  intro p e s m args below meth c A ls Q hQ hx hb hr hts hown hlocks hml hN hK hP hD hS hA hl
  have hl : lv_has ls 3 [(0, .ref L0_h), (1, .int x1), (2, .int x2)] := hl
  have hret : ∀ (o_r9 : Bool) (pc : Nat) (H : Heap) (locs : List Loc) (ls : Array Slot), decode cX6_isLater pc = .ok (.ireturn, 1) → some o_r9 = some o_r → va_P G vwCl [(L0_h, .inr (7, [.int L0_width, .int L0_most, .ref L0_cells_h, .int L0_lines])), (L0_cells_h, .inl (cI, L0_cells_n, .inl L0_cells_a))] H → va_D A [(L0_h, .inr (7, [.int L0_width, .int L0_most, .ref L0_cells_h, .int L0_lines])), (L0_cells_h, .inl (cI, L0_cells_n, .inl L0_cells_a))] → va_S A s.heap H locs → W p l e rmX6_isLater s m args below meth c H locs 0 0 Q (F0 m pc ls [.int (b2i o_r9)]) := by
    intro o_r9 pc H locs ls hdg he hP hD hS
    cases he
    subst hQ
    exact rt_z hx hb hr hlocks hK hP hD hS (b2i_narrow _) rfl hdg
  clear hQ
  unfold fX6_isLater at hf
  refine lv_aload_n hx hb dX6_isLater_0 rfl (lv_at hl 0 rfl) ?_
  refine lv_iload_n hx hb dX6_isLater_1 rfl (lv_at hl 1 rfl) ?_
  refine lv_iconst (v := 1) hx hb dX6_isLater_2 (by decide) ?_
  obtain ⟨r1, hc2, hf⟩ := ob_some hf
  refine af_iR (va_runV (As := [.int x1, .int 1]) (rest := []) ⟨hx, hb, hml, hown, hts⟩ (k_X7_at l G cI cJ (t_h := L0_h) (t_cells_h := L0_cells_h) (t_width := L0_width) (t_most := L0_most) (t_lines := L0_lines) (t_cells_n := L0_cells_n) (t_cells_a := L0_cells_a) (x1 := x1) (x2 := 1) (sz := _) (hf := hc2)) (cwV 2 hts gX6_isLater_X7_at rfl rfl rfl (by decide +kernel) ⟨Nat.le_of_ble_eq_true rfl, Nat.le_of_ble_eq_true rfl⟩) (preV0 (ci := 7) (q0 := 0) (C := RX7) (wc := [(L0_h, .inr (7, [.int L0_width, .int L0_most, .ref L0_cells_h, .int L0_lines])), (L0_cells_h, .inl (cI, L0_cells_n, .inl L0_cells_a))]) hK hP hD hN [0, 1] rfl rfl (by decide) rfl rfl) rfl rfl hl.1 rfl (lv_room (Nat.le_of_ble_eq_true rfl)) dX6_isLater_3 ⟨Nat.zero_le _, Nat.zero_le _⟩) hP hD hS hA [0, 1] rfl (fun H locs hP hS => ?_)
  refine lv_aload_n hx hb dX6_isLater_6 rfl (lv_at hl 0 rfl) ?_
  refine lv_iload_n hx hb dX6_isLater_7 rfl (lv_at hl 2 rfl) ?_
  refine lv_iconst (v := 1) hx hb dX6_isLater_8 (by decide) ?_
  obtain ⟨r3, hc4, hf⟩ := ob_some hf
  refine af_iR (va_runV (As := [.int x2, .int 1]) (rest := [.int r1]) ⟨hx, hb, hml, hown, hts⟩ (k_X7_at l G cI cJ (t_h := L0_h) (t_cells_h := L0_cells_h) (t_width := L0_width) (t_most := L0_most) (t_lines := L0_lines) (t_cells_n := L0_cells_n) (t_cells_a := L0_cells_a) (x1 := x2) (x2 := 1) (sz := _) (hf := hc4)) (cwV 2 hts gX6_isLater_X7_at rfl rfl rfl (by decide +kernel) ⟨Nat.le_of_ble_eq_true rfl, Nat.le_of_ble_eq_true rfl⟩) (preV0 (ci := 7) (q0 := 0) (C := RX7) (wc := [(L0_h, .inr (7, [.int L0_width, .int L0_most, .ref L0_cells_h, .int L0_lines])), (L0_cells_h, .inl (cI, L0_cells_n, .inl L0_cells_a))]) hK hP hD hN [0, 1] rfl rfl (by decide) rfl rfl) rfl rfl hl.1 rfl (lv_room (Nat.le_of_ble_eq_true rfl)) dX6_isLater_9 ⟨Nat.zero_le _, Nat.zero_le _⟩) hP hD hS hA [0, 1] rfl (fun H locs hP hS => ?_)
  refine lv_icmp_le (tgt := 19) hx hb dX6_isLater_12 (by decide) (fun c5 => ?_) (fun c5 => ?_)
  · have hf := ift hf c5
    refine lv_iconst (v := 0) hx hb dX6_isLater_19 (by decide) ?_
    exact hret false 20 _ _ _ dX6_isLater_20 hf hP hD hS
  · have hf := iff_ hf c5
    refine lv_iconst (v := 1) hx hb dX6_isLater_15 (by decide) ?_
    refine lv_goto (tgt := 20) hx hb dX6_isLater_16 (by decide) ?_
    exact hret true 20 _ _ _ dX6_isLater_20 hf hP hD hS
set_option maxRecDepth 20000 in
theorem ggX6_minutesBetween_X7_at : GoodIn wsX6_minutesBetween wsX7_at := goodIn_r _ [9, 10, 11, 12, 13, 14, 15] (by decide +kernel) (by decide +kernel)
set_option maxRecDepth 20000 in
theorem gX6_minutesBetween_X7_at : GoodIn wsX6_minutesBetween (wsV RX6 42 RX7 yX7_at wsX7_at) := goodIn_app (goodIn_of _ (by decide +kernel)) ggX6_minutesBetween_X7_at
theorem dX6_minutesBetween_0 : decode cX6_minutesBetween 0 = .ok (.aload_n 0, 1) := by decide +kernel
theorem dX6_minutesBetween_1 : decode cX6_minutesBetween 1 = .ok (.iload_n 1, 1) := by decide +kernel
theorem dX6_minutesBetween_2 : decode cX6_minutesBetween 2 = .ok (.iconst 1, 1) := by decide +kernel
theorem dX6_minutesBetween_3 : decode cX6_minutesBetween 3 = .ok (.invokevirtual 42, 3) := by decide +kernel
theorem dX6_minutesBetween_6 : decode cX6_minutesBetween 6 = .ok (.aload_n 0, 1) := by decide +kernel
theorem dX6_minutesBetween_7 : decode cX6_minutesBetween 7 = .ok (.iload_n 2, 1) := by decide +kernel
theorem dX6_minutesBetween_8 : decode cX6_minutesBetween 8 = .ok (.iconst 1, 1) := by decide +kernel
theorem dX6_minutesBetween_9 : decode cX6_minutesBetween 9 = .ok (.invokevirtual 42, 3) := by decide +kernel
theorem dX6_minutesBetween_12 : decode cX6_minutesBetween 12 = .ok (.isub, 1) := by decide +kernel
theorem dX6_minutesBetween_13 : decode cX6_minutesBetween 13 = .ok (.invokestatic 46, 3) := by decide +kernel
theorem dX6_minutesBetween_16 : decode cX6_minutesBetween 16 = .ok (.ireturn, 1) := by decide +kernel
set_option maxRecDepth 100000 in
def fX6_minutesBetween (x1 : Int32) (x2 : Int32) (L0_width : Int32) (L0_cells_n : Nat) (L0_cells_a : Nat → Int32) : Option (Int32) :=
  ob (fX7_at x1 1 L0_width L0_cells_n L0_cells_a) fun r1 =>
  ob (fX7_at x2 1 L0_width L0_cells_n L0_cells_a) fun r3 =>
  bv (if 0 ≤ (r1 - r3) then (r1 - r3) else 0 - (r1 - r3)) fun v5 =>
  some v5
abbrev rmX6_minutesBetween : Room := { frames := 1, cells := 0, slots := 0, locals := 23 }
set_option maxHeartbeats 4000000 in
set_option maxRecDepth 100000 in
theorem k_X6_minutesBetween (l : Launch) (G : va_G) (cI cJ : ClassId) (L0_h L0_cells_h : Nat) (sz : Nat) (L0_width : Int32) (L0_most : Int32) (L0_lines : Int32) (L0_cells_n : Nat) (L0_cells_a : Nat → Int32) (x1 : Int32) (x2 : Int32) {o_r : Int32} (hf : fX6_minutesBetween x1 x2 L0_width L0_cells_n L0_cells_a = some o_r) : MetI l yX6_minutesBetween wsX6_minutesBetween rmX6_minutesBetween [.ref L0_h, .int x1, .int x2] G cI cJ [(L0_h, .inr (7, [.int L0_width, .int L0_most, .ref L0_cells_h, .int L0_lines])), (L0_cells_h, .inl (cI, L0_cells_n, .inl L0_cells_a))] [(L0_h, .inr (7, [.int L0_width, .int L0_most, .ref L0_cells_h, .int L0_lines])), (L0_cells_h, .inl (cI, L0_cells_n, .inl L0_cells_a))] sz o_r := by
  refine en_0 (l := l) (y := yX6_minutesBetween) (wsl := wsX6_minutesBetween) (rm := rmX6_minutesBetween) (av := [.ref L0_h, .int x1, .int x2]) (G := G) (cI := cI) (cJ := cJ) (w0 := [(L0_h, .inr (7, [.int L0_width, .int L0_most, .ref L0_cells_h, .int L0_lines])), (L0_cells_h, .inl (cI, L0_cells_n, .inl L0_cells_a))]) (sz := sz) (Qf := fun A => Qi0 G cI cJ [(L0_h, .inr (7, [.int L0_width, .int L0_most, .ref L0_cells_h, .int L0_lines])), (L0_cells_h, .inl (cI, L0_cells_n, .inl L0_cells_a))] o_r A) (cc := cX6_minutesBetween) (maxL := 3) (ret := (some .int)) RX6 (by decide +kernel) rfl rfl (Nat.le_of_ble_eq_true rfl) ?_
  intro p e s m args below meth c A ls Q hQ hx hb hr hts hown hlocks hml hN hK hP hD hS hA hl
  have hl : lv_has ls 3 [(0, .ref L0_h), (1, .int x1), (2, .int x2)] := hl
  have lb_46 := hts (.methodLink RX6 46 Lib.Math.abs.name) (by decide +kernel)
  have lbs_46 := hts (.static Lib.Math.abs.name) (by decide +kernel)
  have lbi_46 := hts (.initialized "java/lang/Math") (by decide +kernel)
  have lbc_46 := hts (.code Lib.Math.abs.name Lib.Math.abs.code 1 (some .int)) (by decide +kernel)
  have hret : ∀ (o_r9 : Int32) (pc : Nat) (H : Heap) (locs : List Loc) (ls : Array Slot), decode cX6_minutesBetween pc = .ok (.ireturn, 1) → some o_r9 = some o_r → va_P G vwCl [(L0_h, .inr (7, [.int L0_width, .int L0_most, .ref L0_cells_h, .int L0_lines])), (L0_cells_h, .inl (cI, L0_cells_n, .inl L0_cells_a))] H → va_D A [(L0_h, .inr (7, [.int L0_width, .int L0_most, .ref L0_cells_h, .int L0_lines])), (L0_cells_h, .inl (cI, L0_cells_n, .inl L0_cells_a))] → va_S A s.heap H locs → W p l e rmX6_minutesBetween s m args below meth c H locs 0 0 Q (F0 m pc ls [.int o_r9]) := by
    intro o_r9 pc H locs ls hdg he hP hD hS
    cases he
    subst hQ
    exact rt_i hx hb hr hlocks hK hP hD hS rfl hdg
  clear hQ
  unfold fX6_minutesBetween at hf
  refine lv_aload_n hx hb dX6_minutesBetween_0 rfl (lv_at hl 0 rfl) ?_
  refine lv_iload_n hx hb dX6_minutesBetween_1 rfl (lv_at hl 1 rfl) ?_
  refine lv_iconst (v := 1) hx hb dX6_minutesBetween_2 (by decide) ?_
  obtain ⟨r1, hc2, hf⟩ := ob_some hf
  refine af_iR (va_runV (As := [.int x1, .int 1]) (rest := []) ⟨hx, hb, hml, hown, hts⟩ (k_X7_at l G cI cJ (t_h := L0_h) (t_cells_h := L0_cells_h) (t_width := L0_width) (t_most := L0_most) (t_lines := L0_lines) (t_cells_n := L0_cells_n) (t_cells_a := L0_cells_a) (x1 := x1) (x2 := 1) (sz := _) (hf := hc2)) (cwV 2 hts gX6_minutesBetween_X7_at rfl rfl rfl (by decide +kernel) ⟨Nat.le_of_ble_eq_true rfl, Nat.le_of_ble_eq_true rfl⟩) (preV0 (ci := 7) (q0 := 0) (C := RX7) (wc := [(L0_h, .inr (7, [.int L0_width, .int L0_most, .ref L0_cells_h, .int L0_lines])), (L0_cells_h, .inl (cI, L0_cells_n, .inl L0_cells_a))]) hK hP hD hN [0, 1] rfl rfl (by decide) rfl rfl) rfl rfl hl.1 rfl (lv_room (Nat.le_of_ble_eq_true rfl)) dX6_minutesBetween_3 ⟨Nat.zero_le _, Nat.zero_le _⟩) hP hD hS hA [0, 1] rfl (fun H locs hP hS => ?_)
  refine lv_aload_n hx hb dX6_minutesBetween_6 rfl (lv_at hl 0 rfl) ?_
  refine lv_iload_n hx hb dX6_minutesBetween_7 rfl (lv_at hl 2 rfl) ?_
  refine lv_iconst (v := 1) hx hb dX6_minutesBetween_8 (by decide) ?_
  obtain ⟨r3, hc4, hf⟩ := ob_some hf
  refine af_iR (va_runV (As := [.int x2, .int 1]) (rest := [.int r1]) ⟨hx, hb, hml, hown, hts⟩ (k_X7_at l G cI cJ (t_h := L0_h) (t_cells_h := L0_cells_h) (t_width := L0_width) (t_most := L0_most) (t_lines := L0_lines) (t_cells_n := L0_cells_n) (t_cells_a := L0_cells_a) (x1 := x2) (x2 := 1) (sz := _) (hf := hc4)) (cwV 2 hts gX6_minutesBetween_X7_at rfl rfl rfl (by decide +kernel) ⟨Nat.le_of_ble_eq_true rfl, Nat.le_of_ble_eq_true rfl⟩) (preV0 (ci := 7) (q0 := 0) (C := RX7) (wc := [(L0_h, .inr (7, [.int L0_width, .int L0_most, .ref L0_cells_h, .int L0_lines])), (L0_cells_h, .inl (cI, L0_cells_n, .inl L0_cells_a))]) hK hP hD hN [0, 1] rfl rfl (by decide) rfl rfl) rfl rfl hl.1 rfl (lv_room (Nat.le_of_ble_eq_true rfl)) dX6_minutesBetween_9 ⟨Nat.zero_le _, Nat.zero_le _⟩) hP hD hS hA [0, 1] rfl (fun H locs hP hS => ?_)
  refine lv_isub hx hb dX6_minutesBetween_12 ?_
  refine va_mabs hx hb (hml.trans hl.1.symm) hown lb_46 lbs_46 lbi_46 lbc_46 (Nat.le_of_ble_eq_true rfl) (Nat.le_of_ble_eq_true rfl) (Nat.zero_le _) (Nat.zero_le _) dX6_minutesBetween_13 ?_
  refine lv_topi (fun v5 ev5 => ?_)
  have hf := bv_at ev5 hf
  exact hret v5 16 _ _ _ dX6_minutesBetween_16 hf hP hD hS
set_option maxRecDepth 20000 in
theorem ggX6_gapOf_X7_at : GoodIn wsX6_gapOf wsX7_at := goodIn_r _ [6, 7, 8, 16, 17, 18, 19] (by decide +kernel) (by decide +kernel)
set_option maxRecDepth 20000 in
theorem gX6_gapOf_X7_at : GoodIn wsX6_gapOf (wsV RX6 42 RX7 yX7_at wsX7_at) := goodIn_app (goodIn_of _ (by decide +kernel)) ggX6_gapOf_X7_at
theorem dX6_gapOf_0 : decode cX6_gapOf 0 = .ok (.aload_n 0, 1) := by decide +kernel
theorem dX6_gapOf_1 : decode cX6_gapOf 1 = .ok (.getfield 13, 3) := by decide +kernel
theorem dX6_gapOf_4 : decode cX6_gapOf 4 = .ok (.iload_n 1, 1) := by decide +kernel
theorem dX6_gapOf_5 : decode cX6_gapOf 5 = .ok (.iconst 2, 1) := by decide +kernel
theorem dX6_gapOf_6 : decode cX6_gapOf 6 = .ok (.invokevirtual 42, 3) := by decide +kernel
theorem dX6_gapOf_9 : decode cX6_gapOf 9 = .ok (.aload_n 0, 1) := by decide +kernel
theorem dX6_gapOf_10 : decode cX6_gapOf 10 = .ok (.getfield 13, 3) := by decide +kernel
theorem dX6_gapOf_13 : decode cX6_gapOf 13 = .ok (.iload_n 1, 1) := by decide +kernel
theorem dX6_gapOf_14 : decode cX6_gapOf 14 = .ok (.iconst 3, 1) := by decide +kernel
theorem dX6_gapOf_15 : decode cX6_gapOf 15 = .ok (.invokevirtual 42, 3) := by decide +kernel
theorem dX6_gapOf_18 : decode cX6_gapOf 18 = .ok (.isub, 1) := by decide +kernel
theorem dX6_gapOf_19 : decode cX6_gapOf 19 = .ok (.ireturn, 1) := by decide +kernel
set_option maxRecDepth 100000 in
def fX6_gapOf (x1 : Int32) (t_sights_width : Int32) (t_sights_cells_n : Nat) (t_sights_cells_a : Nat → Int32) : Option (Int32) :=
  ob (fX7_at x1 2 t_sights_width t_sights_cells_n t_sights_cells_a) fun r1 =>
  ob (fX7_at x1 3 t_sights_width t_sights_cells_n t_sights_cells_a) fun r3 =>
  some (r1 - r3)
abbrev rmX6_gapOf : Room := { frames := 1, cells := 0, slots := 0, locals := 23 }
theorem iwX6_gapOf_X6 : ∀ w ∈ u_ws RX6 TX6 7, w ∈ wsX6_gapOf := by decide +kernel
set_option maxHeartbeats 4000000 in
set_option maxRecDepth 100000 in
theorem k_X6_gapOf (l : Launch) (G : va_G) (cI cJ : ClassId) (t_h t_settings_h t_sights_h t_shadows_h t_sightLow_h t_sightHigh_h t_shadowLow_h t_shadowHigh_h t_sights_cells_h : Nat) (sz : Nat) (t_sights_width : Int32) (t_sights_most : Int32) (t_sights_lines : Int32) (t_sights_cells_n : Nat) (t_sights_cells_a : Nat → Int32) (x1 : Int32) {o_r : Int32} (hf : fX6_gapOf x1 t_sights_width t_sights_cells_n t_sights_cells_a = some o_r) : MetI l yX6_gapOf wsX6_gapOf rmX6_gapOf [.ref t_h, .int x1] G cI cJ [(t_h, .inr (6, [.ref t_settings_h, .ref t_sights_h, .ref t_shadows_h, .ref t_sightLow_h, .ref t_sightHigh_h, .ref t_shadowLow_h, .ref t_shadowHigh_h])), (t_sights_h, .inr (7, [.int t_sights_width, .int t_sights_most, .ref t_sights_cells_h, .int t_sights_lines])), (t_sights_cells_h, .inl (cI, t_sights_cells_n, .inl t_sights_cells_a))] [(t_h, .inr (6, [.ref t_settings_h, .ref t_sights_h, .ref t_shadows_h, .ref t_sightLow_h, .ref t_sightHigh_h, .ref t_shadowLow_h, .ref t_shadowHigh_h])), (t_sights_h, .inr (7, [.int t_sights_width, .int t_sights_most, .ref t_sights_cells_h, .int t_sights_lines])), (t_sights_cells_h, .inl (cI, t_sights_cells_n, .inl t_sights_cells_a))] sz o_r := by
  refine en_0 (l := l) (y := yX6_gapOf) (wsl := wsX6_gapOf) (rm := rmX6_gapOf) (av := [.ref t_h, .int x1]) (G := G) (cI := cI) (cJ := cJ) (w0 := [(t_h, .inr (6, [.ref t_settings_h, .ref t_sights_h, .ref t_shadows_h, .ref t_sightLow_h, .ref t_sightHigh_h, .ref t_shadowLow_h, .ref t_shadowHigh_h])), (t_sights_h, .inr (7, [.int t_sights_width, .int t_sights_most, .ref t_sights_cells_h, .int t_sights_lines])), (t_sights_cells_h, .inl (cI, t_sights_cells_n, .inl t_sights_cells_a))]) (sz := sz) (Qf := fun A => Qi0 G cI cJ [(t_h, .inr (6, [.ref t_settings_h, .ref t_sights_h, .ref t_shadows_h, .ref t_sightLow_h, .ref t_sightHigh_h, .ref t_shadowLow_h, .ref t_shadowHigh_h])), (t_sights_h, .inr (7, [.int t_sights_width, .int t_sights_most, .ref t_sights_cells_h, .int t_sights_lines])), (t_sights_cells_h, .inl (cI, t_sights_cells_n, .inl t_sights_cells_a))] o_r A) (cc := cX6_gapOf) (maxL := 2) (ret := (some .int)) RX6 (by decide +kernel) rfl rfl (Nat.le_of_ble_eq_true rfl) ?_
  intro p e s m args below meth c A ls Q hQ hx hb hr hts hown hlocks hml hN hK hP hD hS hA hl
  have hl : lv_has ls 2 [(0, .ref t_h), (1, .int x1)] := hl
  have iwX6 := iwX6_gapOf_X6
  have fl_13 := hts (.fieldLink RX6 13 "CloudOffice$Speeds" "sights" "LCloudOffice$Table;") (by decide +kernel)
  have hret : ∀ (o_r9 : Int32) (pc : Nat) (H : Heap) (locs : List Loc) (ls : Array Slot), decode cX6_gapOf pc = .ok (.ireturn, 1) → some o_r9 = some o_r → va_P G vwCl [(t_h, .inr (6, [.ref t_settings_h, .ref t_sights_h, .ref t_shadows_h, .ref t_sightLow_h, .ref t_sightHigh_h, .ref t_shadowLow_h, .ref t_shadowHigh_h])), (t_sights_h, .inr (7, [.int t_sights_width, .int t_sights_most, .ref t_sights_cells_h, .int t_sights_lines])), (t_sights_cells_h, .inl (cI, t_sights_cells_n, .inl t_sights_cells_a))] H → va_D A [(t_h, .inr (6, [.ref t_settings_h, .ref t_sights_h, .ref t_shadows_h, .ref t_sightLow_h, .ref t_sightHigh_h, .ref t_shadowLow_h, .ref t_shadowHigh_h])), (t_sights_h, .inr (7, [.int t_sights_width, .int t_sights_most, .ref t_sights_cells_h, .int t_sights_lines])), (t_sights_cells_h, .inl (cI, t_sights_cells_n, .inl t_sights_cells_a))] → va_S A s.heap H locs → W p l e rmX6_gapOf s m args below meth c H locs 0 0 Q (F0 m pc ls [.int o_r9]) := by
    intro o_r9 pc H locs ls hdg he hP hD hS
    cases he
    subst hQ
    exact rt_i hx hb hr hlocks hK hP hD hS rfl hdg
  clear hQ
  unfold fX6_gapOf at hf
  refine lv_aload_n hx hb dX6_gapOf_0 rfl (lv_at hl 0 rfl) ?_
  refine va_get (D := G) (ci := 6) (v := .ref t_sights_h) (C := RX6) (T := TX6) (N := 7) hx hb hts iwX6 hown hK hP 0 rfl rfl 1 (by decide) fl_13 (fun _ h9 => h9) rfl dX6_gapOf_1 ?_
  refine lv_iload_n hx hb dX6_gapOf_4 rfl (lv_at hl 1 rfl) ?_
  refine lv_iconst (v := 2) hx hb dX6_gapOf_5 (by decide) ?_
  obtain ⟨r1, hc2, hf⟩ := ob_some hf
  refine af_iR (va_runV (As := [.int x1, .int 2]) (rest := []) ⟨hx, hb, hml, hown, hts⟩ (k_X7_at l G cI cJ (t_h := t_sights_h) (t_cells_h := t_sights_cells_h) (t_width := t_sights_width) (t_most := t_sights_most) (t_lines := t_sights_lines) (t_cells_n := t_sights_cells_n) (t_cells_a := t_sights_cells_a) (x1 := x1) (x2 := 2) (sz := _) (hf := hc2)) (cwV 2 hts gX6_gapOf_X7_at rfl rfl rfl (by decide +kernel) ⟨Nat.le_of_ble_eq_true rfl, Nat.le_of_ble_eq_true rfl⟩) (preV0 (ci := 7) (q0 := 0) (C := RX7) (wc := [(t_sights_h, .inr (7, [.int t_sights_width, .int t_sights_most, .ref t_sights_cells_h, .int t_sights_lines])), (t_sights_cells_h, .inl (cI, t_sights_cells_n, .inl t_sights_cells_a))]) hK hP hD hN [1, 2] rfl rfl (by decide) rfl rfl) rfl rfl hl.1 rfl (lv_room (Nat.le_of_ble_eq_true rfl)) dX6_gapOf_6 ⟨Nat.zero_le _, Nat.zero_le _⟩) hP hD hS hA [1, 2] rfl (fun H locs hP hS => ?_)
  refine lv_aload_n hx hb dX6_gapOf_9 rfl (lv_at hl 0 rfl) ?_
  refine va_get (D := G) (ci := 6) (v := .ref t_sights_h) (C := RX6) (T := TX6) (N := 7) hx hb hts iwX6 hown hK hP 0 rfl rfl 1 (by decide) fl_13 (fun _ h9 => h9) rfl dX6_gapOf_10 ?_
  refine lv_iload_n hx hb dX6_gapOf_13 rfl (lv_at hl 1 rfl) ?_
  refine lv_iconst (v := 3) hx hb dX6_gapOf_14 (by decide) ?_
  obtain ⟨r3, hc4, hf⟩ := ob_some hf
  refine af_iR (va_runV (As := [.int x1, .int 3]) (rest := [.int r1]) ⟨hx, hb, hml, hown, hts⟩ (k_X7_at l G cI cJ (t_h := t_sights_h) (t_cells_h := t_sights_cells_h) (t_width := t_sights_width) (t_most := t_sights_most) (t_lines := t_sights_lines) (t_cells_n := t_sights_cells_n) (t_cells_a := t_sights_cells_a) (x1 := x1) (x2 := 3) (sz := _) (hf := hc4)) (cwV 2 hts gX6_gapOf_X7_at rfl rfl rfl (by decide +kernel) ⟨Nat.le_of_ble_eq_true rfl, Nat.le_of_ble_eq_true rfl⟩) (preV0 (ci := 7) (q0 := 0) (C := RX7) (wc := [(t_sights_h, .inr (7, [.int t_sights_width, .int t_sights_most, .ref t_sights_cells_h, .int t_sights_lines])), (t_sights_cells_h, .inl (cI, t_sights_cells_n, .inl t_sights_cells_a))]) hK hP hD hN [1, 2] rfl rfl (by decide) rfl rfl) rfl rfl hl.1 rfl (lv_room (Nat.le_of_ble_eq_true rfl)) dX6_gapOf_15 ⟨Nat.zero_le _, Nat.zero_le _⟩) hP hD hS hA [1, 2] rfl (fun H locs hP hS => ?_)
  refine lv_isub hx hb dX6_gapOf_18 ?_
  exact hret (r1 - r3) 19 _ _ _ dX6_gapOf_19 hf hP hD hS
set_option maxRecDepth 20000 in
theorem ggX6_leanAt_X7_at : GoodIn wsX6_leanAt wsX7_at := goodIn_r _ [7, 8, 9, 23, 24, 25, 26] (by decide +kernel) (by decide +kernel)
set_option maxRecDepth 20000 in
theorem gX6_leanAt_X7_at : GoodIn wsX6_leanAt (wsV RX6 42 RX7 yX7_at wsX7_at) := goodIn_app (goodIn_of _ (by decide +kernel)) ggX6_leanAt_X7_at
theorem dX6_leanAt_0 : decode cX6_leanAt 0 = .ok (.aload_n 0, 1) := by decide +kernel
theorem dX6_leanAt_1 : decode cX6_leanAt 1 = .ok (.getfield 13, 3) := by decide +kernel
theorem dX6_leanAt_4 : decode cX6_leanAt 4 = .ok (.iload_n 1, 1) := by decide +kernel
theorem dX6_leanAt_5 : decode cX6_leanAt 5 = .ok (.iconst 2, 1) := by decide +kernel
theorem dX6_leanAt_6 : decode cX6_leanAt 6 = .ok (.invokevirtual 42, 3) := by decide +kernel
theorem dX6_leanAt_9 : decode cX6_leanAt 9 = .ok (.iload_n 2, 1) := by decide +kernel
theorem dX6_leanAt_10 : decode cX6_leanAt 10 = .ok (.aload_n 0, 1) := by decide +kernel
theorem dX6_leanAt_11 : decode cX6_leanAt 11 = .ok (.getfield 7, 3) := by decide +kernel
theorem dX6_leanAt_14 : decode cX6_leanAt 14 = .ok (.getfield 87, 3) := by decide +kernel
theorem dX6_leanAt_17 : decode cX6_leanAt 17 = .ok (.imul, 1) := by decide +kernel
theorem dX6_leanAt_18 : decode cX6_leanAt 18 = .ok (.iadd, 1) := by decide +kernel
theorem dX6_leanAt_19 : decode cX6_leanAt 19 = .ok (.i2l, 1) := by decide +kernel
theorem dX6_leanAt_20 : decode cX6_leanAt 20 = .ok (.lreturn, 1) := by decide +kernel
set_option maxRecDepth 100000 in
def fX6_leanAt (x1 : Int32) (x2 : Int32) (t_settings_slip : Int32) (t_sights_width : Int32) (t_sights_cells_n : Nat) (t_sights_cells_a : Nat → Int32) : Option (Int64) :=
  ob (fX7_at x1 2 t_sights_width t_sights_cells_n t_sights_cells_a) fun r1 =>
  some (Int32.toInt64 (r1 + (x2 * t_settings_slip)))
abbrev rmX6_leanAt : Room := { frames := 1, cells := 0, slots := 0, locals := 23 }
theorem iwX6_leanAt_X4 : ∀ w ∈ u_ws RX4 TX4 6, w ∈ wsX6_leanAt := by decide +kernel
theorem iwX6_leanAt_X6 : ∀ w ∈ u_ws RX6 TX6 7, w ∈ wsX6_leanAt := by decide +kernel
set_option maxHeartbeats 4000000 in
set_option maxRecDepth 100000 in
theorem k_X6_leanAt (l : Launch) (G : va_G) (cI cJ : ClassId) (t_h t_settings_h t_sights_h t_shadows_h t_sightLow_h t_sightHigh_h t_shadowLow_h t_shadowHigh_h t_sights_cells_h : Nat) (sz : Nat) (t_settings_base : Int32) (t_settings_slip : Int32) (t_settings_low : Int32) (t_settings_high : Int32) (t_settings_unlike : Int32) (t_settings_alone : Int32) (t_sights_width : Int32) (t_sights_most : Int32) (t_sights_lines : Int32) (t_sights_cells_n : Nat) (t_sights_cells_a : Nat → Int32) (x1 : Int32) (x2 : Int32) {o_r : Int64} (hf : fX6_leanAt x1 x2 t_settings_slip t_sights_width t_sights_cells_n t_sights_cells_a = some o_r) : MetL l yX6_leanAt wsX6_leanAt rmX6_leanAt [.ref t_h, .int x1, .int x2] G cI cJ [(t_h, .inr (6, [.ref t_settings_h, .ref t_sights_h, .ref t_shadows_h, .ref t_sightLow_h, .ref t_sightHigh_h, .ref t_shadowLow_h, .ref t_shadowHigh_h])), (t_settings_h, .inr (4, [.int t_settings_base, .int t_settings_slip, .int t_settings_low, .int t_settings_high, .int t_settings_unlike, .int t_settings_alone])), (t_sights_h, .inr (7, [.int t_sights_width, .int t_sights_most, .ref t_sights_cells_h, .int t_sights_lines])), (t_sights_cells_h, .inl (cI, t_sights_cells_n, .inl t_sights_cells_a))] [(t_h, .inr (6, [.ref t_settings_h, .ref t_sights_h, .ref t_shadows_h, .ref t_sightLow_h, .ref t_sightHigh_h, .ref t_shadowLow_h, .ref t_shadowHigh_h])), (t_settings_h, .inr (4, [.int t_settings_base, .int t_settings_slip, .int t_settings_low, .int t_settings_high, .int t_settings_unlike, .int t_settings_alone])), (t_sights_h, .inr (7, [.int t_sights_width, .int t_sights_most, .ref t_sights_cells_h, .int t_sights_lines])), (t_sights_cells_h, .inl (cI, t_sights_cells_n, .inl t_sights_cells_a))] sz o_r := by
  refine en_0 (l := l) (y := yX6_leanAt) (wsl := wsX6_leanAt) (rm := rmX6_leanAt) (av := [.ref t_h, .int x1, .int x2]) (G := G) (cI := cI) (cJ := cJ) (w0 := [(t_h, .inr (6, [.ref t_settings_h, .ref t_sights_h, .ref t_shadows_h, .ref t_sightLow_h, .ref t_sightHigh_h, .ref t_shadowLow_h, .ref t_shadowHigh_h])), (t_settings_h, .inr (4, [.int t_settings_base, .int t_settings_slip, .int t_settings_low, .int t_settings_high, .int t_settings_unlike, .int t_settings_alone])), (t_sights_h, .inr (7, [.int t_sights_width, .int t_sights_most, .ref t_sights_cells_h, .int t_sights_lines])), (t_sights_cells_h, .inl (cI, t_sights_cells_n, .inl t_sights_cells_a))]) (sz := sz) (Qf := fun A => Ql0 G cI cJ [(t_h, .inr (6, [.ref t_settings_h, .ref t_sights_h, .ref t_shadows_h, .ref t_sightLow_h, .ref t_sightHigh_h, .ref t_shadowLow_h, .ref t_shadowHigh_h])), (t_settings_h, .inr (4, [.int t_settings_base, .int t_settings_slip, .int t_settings_low, .int t_settings_high, .int t_settings_unlike, .int t_settings_alone])), (t_sights_h, .inr (7, [.int t_sights_width, .int t_sights_most, .ref t_sights_cells_h, .int t_sights_lines])), (t_sights_cells_h, .inl (cI, t_sights_cells_n, .inl t_sights_cells_a))] o_r A) (cc := cX6_leanAt) (maxL := 3) (ret := (some .long)) RX6 (by decide +kernel) rfl rfl (Nat.le_of_ble_eq_true rfl) ?_
  intro p e s m args below meth c A ls Q hQ hx hb hr hts hown hlocks hml hN hK hP hD hS hA hl
  have hl : lv_has ls 3 [(0, .ref t_h), (1, .int x1), (2, .int x2)] := hl
  have iwX4 := iwX6_leanAt_X4
  have iwX6 := iwX6_leanAt_X6
  have fl_7 := hts (.fieldLink RX6 7 "CloudOffice$Speeds" "settings" "LCloudOffice$Settings;") (by decide +kernel)
  have fl_13 := hts (.fieldLink RX6 13 "CloudOffice$Speeds" "sights" "LCloudOffice$Table;") (by decide +kernel)
  have fl_87 : (Cond.fieldLinkNest RX6 87 "CloudOffice$Settings" "slip" "I" "CloudOffice").before args s = true := nst_get hN 16 rfl rfl
  have hret : ∀ (o_r9 : Int64) (pc : Nat) (H : Heap) (locs : List Loc) (ls : Array Slot), decode cX6_leanAt pc = .ok (.lreturn, 1) → some o_r9 = some o_r → va_P G vwCl [(t_h, .inr (6, [.ref t_settings_h, .ref t_sights_h, .ref t_shadows_h, .ref t_sightLow_h, .ref t_sightHigh_h, .ref t_shadowLow_h, .ref t_shadowHigh_h])), (t_settings_h, .inr (4, [.int t_settings_base, .int t_settings_slip, .int t_settings_low, .int t_settings_high, .int t_settings_unlike, .int t_settings_alone])), (t_sights_h, .inr (7, [.int t_sights_width, .int t_sights_most, .ref t_sights_cells_h, .int t_sights_lines])), (t_sights_cells_h, .inl (cI, t_sights_cells_n, .inl t_sights_cells_a))] H → va_D A [(t_h, .inr (6, [.ref t_settings_h, .ref t_sights_h, .ref t_shadows_h, .ref t_sightLow_h, .ref t_sightHigh_h, .ref t_shadowLow_h, .ref t_shadowHigh_h])), (t_settings_h, .inr (4, [.int t_settings_base, .int t_settings_slip, .int t_settings_low, .int t_settings_high, .int t_settings_unlike, .int t_settings_alone])), (t_sights_h, .inr (7, [.int t_sights_width, .int t_sights_most, .ref t_sights_cells_h, .int t_sights_lines])), (t_sights_cells_h, .inl (cI, t_sights_cells_n, .inl t_sights_cells_a))] → va_S A s.heap H locs → W p l e rmX6_leanAt s m args below meth c H locs 0 0 Q (F0 m pc ls [.long o_r9]) := by
    intro o_r9 pc H locs ls hdg he hP hD hS
    cases he
    subst hQ
    exact rt_l hx hb hr hlocks hK hP hD hS rfl hdg
  clear hQ
  unfold fX6_leanAt at hf
  refine lv_aload_n hx hb dX6_leanAt_0 rfl (lv_at hl 0 rfl) ?_
  refine va_get (D := G) (ci := 6) (v := .ref t_sights_h) (C := RX6) (T := TX6) (N := 7) hx hb hts iwX6 hown hK hP 0 rfl rfl 1 (by decide) fl_13 (fun _ h9 => h9) rfl dX6_leanAt_1 ?_
  refine lv_iload_n hx hb dX6_leanAt_4 rfl (lv_at hl 1 rfl) ?_
  refine lv_iconst (v := 2) hx hb dX6_leanAt_5 (by decide) ?_
  obtain ⟨r1, hc2, hf⟩ := ob_some hf
  refine af_iR (va_runV (As := [.int x1, .int 2]) (rest := []) ⟨hx, hb, hml, hown, hts⟩ (k_X7_at l G cI cJ (t_h := t_sights_h) (t_cells_h := t_sights_cells_h) (t_width := t_sights_width) (t_most := t_sights_most) (t_lines := t_sights_lines) (t_cells_n := t_sights_cells_n) (t_cells_a := t_sights_cells_a) (x1 := x1) (x2 := 2) (sz := _) (hf := hc2)) (cwV 2 hts gX6_leanAt_X7_at rfl rfl rfl (by decide +kernel) ⟨Nat.le_of_ble_eq_true rfl, Nat.le_of_ble_eq_true rfl⟩) (preV0 (ci := 7) (q0 := 0) (C := RX7) (wc := [(t_sights_h, .inr (7, [.int t_sights_width, .int t_sights_most, .ref t_sights_cells_h, .int t_sights_lines])), (t_sights_cells_h, .inl (cI, t_sights_cells_n, .inl t_sights_cells_a))]) hK hP hD hN [2, 3] rfl rfl (by decide) rfl rfl) rfl rfl hl.1 rfl (lv_room (Nat.le_of_ble_eq_true rfl)) dX6_leanAt_6 ⟨Nat.zero_le _, Nat.zero_le _⟩) hP hD hS hA [2, 3] rfl (fun H locs hP hS => ?_)
  refine lv_iload_n hx hb dX6_leanAt_9 rfl (lv_at hl 2 rfl) ?_
  refine lv_aload_n hx hb dX6_leanAt_10 rfl (lv_at hl 0 rfl) ?_
  refine va_get (D := G) (ci := 6) (v := .ref t_settings_h) (C := RX6) (T := TX6) (N := 7) hx hb hts iwX6 hown hK hP 0 rfl rfl 0 (by decide) fl_7 (fun _ h9 => h9) rfl dX6_leanAt_11 ?_
  refine va_getN (D := G) (ci := 4) (v := .int t_settings_slip) (C := RX4) (T := TX4) (N := 6) hx hb hts iwX4 hown hK hP 1 rfl rfl 1 (by decide) fl_87 (fun _ h9 => h9) rfl dX6_leanAt_14 ?_
  refine lv_imul hx hb dX6_leanAt_17 ?_
  refine lv_iadd hx hb dX6_leanAt_18 ?_
  refine lv_i2l (v := Int32.toInt64 (r1 + (x2 * t_settings_slip))) hx hb dX6_leanAt_19 rfl ?_
  exact hret (Int32.toInt64 (r1 + (x2 * t_settings_slip))) 20 _ _ _ dX6_leanAt_20 hf hP hD hS
set_option maxRecDepth 20000 in
theorem ggX6_gapAt_X6_leanAt : GoodIn wsX6_gapAt wsX6_leanAt := goodIn_r _ [11, 12, 6, 13, 14, 15, 16, 17, 18, 19, 24, 25, 26, 27, 28, 29, 30, 31, 32, 33, 34, 35, 36, 37, 38, 39, 40] (by decide +kernel) (by decide +kernel)
set_option maxRecDepth 20000 in
theorem gX6_gapAt_X6_leanAt : GoodIn wsX6_gapAt (wsV RX6 70 RX6 yX6_leanAt wsX6_leanAt) := goodIn_app (goodIn_of _ (by decide +kernel)) ggX6_gapAt_X6_leanAt
set_option maxRecDepth 20000 in
theorem ggX6_gapAt_X6_gapOf : GoodIn wsX6_gapAt wsX6_gapOf := goodIn_r _ [23, 12, 13, 14, 15, 16, 17, 18, 19, 24, 25, 26, 27, 28, 29, 30, 37, 38, 39, 40] (by decide +kernel) (by decide +kernel)
set_option maxRecDepth 20000 in
theorem gX6_gapAt_X6_gapOf : GoodIn wsX6_gapAt (wsV RX6 52 RX6 yX6_gapOf wsX6_gapOf) := goodIn_app (goodIn_of _ (by decide +kernel)) ggX6_gapAt_X6_gapOf
theorem dX6_gapAt_0 : decode cX6_gapAt 0 = .ok (.aload_n 0, 1) := by decide +kernel
theorem dX6_gapAt_1 : decode cX6_gapAt 1 = .ok (.iload_n 1, 1) := by decide +kernel
theorem dX6_gapAt_2 : decode cX6_gapAt 2 = .ok (.iload_n 2, 1) := by decide +kernel
theorem dX6_gapAt_3 : decode cX6_gapAt 3 = .ok (.invokevirtual 70, 3) := by decide +kernel
theorem dX6_gapAt_6 : decode cX6_gapAt 6 = .ok (.lconst 0, 1) := by decide +kernel
theorem dX6_gapAt_7 : decode cX6_gapAt 7 = .ok (.lcmp, 1) := by decide +kernel
theorem dX6_gapAt_8 : decode cX6_gapAt 8 = .ok (.ifCond .lt 15, 3) := by decide +kernel
theorem dX6_gapAt_11 : decode cX6_gapAt 11 = .ok (.iload_n 2, 1) := by decide +kernel
theorem dX6_gapAt_12 : decode cX6_gapAt 12 = .ok (.ifCond .le 7, 3) := by decide +kernel
theorem dX6_gapAt_15 : decode cX6_gapAt 15 = .ok (.iconst 1, 1) := by decide +kernel
theorem dX6_gapAt_16 : decode cX6_gapAt 16 = .ok (.goto 16, 3) := by decide +kernel
theorem dX6_gapAt_19 : decode cX6_gapAt 19 = .ok (.iconst 0, 1) := by decide +kernel
theorem dX6_gapAt_20 : decode cX6_gapAt 20 = .ok (.goto 12, 3) := by decide +kernel
theorem dX6_gapAt_23 : decode cX6_gapAt 23 = .ok (.iload_n 2, 1) := by decide +kernel
theorem dX6_gapAt_24 : decode cX6_gapAt 24 = .ok (.ifCond .ge 7, 3) := by decide +kernel
theorem dX6_gapAt_27 : decode cX6_gapAt 27 = .ok (.iconst 1, 1) := by decide +kernel
theorem dX6_gapAt_28 : decode cX6_gapAt 28 = .ok (.goto 4, 3) := by decide +kernel
theorem dX6_gapAt_31 : decode cX6_gapAt 31 = .ok (.iconst 0, 1) := by decide +kernel
theorem dX6_gapAt_32 : decode cX6_gapAt 32 = .ok (.istore_n 3, 1) := by decide +kernel
theorem dX6_gapAt_33 : decode cX6_gapAt 33 = .ok (.iload_n 3, 1) := by decide +kernel
theorem dX6_gapAt_34 : decode cX6_gapAt 34 = .ok (.ifCond .eq 11, 3) := by decide +kernel
theorem dX6_gapAt_37 : decode cX6_gapAt 37 = .ok (.iload_n 2, 1) := by decide +kernel
theorem dX6_gapAt_38 : decode cX6_gapAt 38 = .ok (.invokestatic 46, 3) := by decide +kernel
theorem dX6_gapAt_41 : decode cX6_gapAt 41 = .ok (.ineg, 1) := by decide +kernel
theorem dX6_gapAt_42 : decode cX6_gapAt 42 = .ok (.goto 7, 3) := by decide +kernel
theorem dX6_gapAt_45 : decode cX6_gapAt 45 = .ok (.iload_n 2, 1) := by decide +kernel
theorem dX6_gapAt_46 : decode cX6_gapAt 46 = .ok (.invokestatic 46, 3) := by decide +kernel
theorem dX6_gapAt_49 : decode cX6_gapAt 49 = .ok (.istore 4, 2) := by decide +kernel
theorem dX6_gapAt_51 : decode cX6_gapAt 51 = .ok (.aload_n 0, 1) := by decide +kernel
theorem dX6_gapAt_52 : decode cX6_gapAt 52 = .ok (.iload_n 1, 1) := by decide +kernel
theorem dX6_gapAt_53 : decode cX6_gapAt 53 = .ok (.invokevirtual 52, 3) := by decide +kernel
theorem dX6_gapAt_56 : decode cX6_gapAt 56 = .ok (.i2l, 1) := by decide +kernel
theorem dX6_gapAt_57 : decode cX6_gapAt 57 = .ok (.ldc2_w 102, 3) := by decide +kernel
theorem dX6_gapAt_60 : decode cX6_gapAt 60 = .ok (.iload 4, 2) := by decide +kernel
theorem dX6_gapAt_62 : decode cX6_gapAt 62 = .ok (.i2l, 1) := by decide +kernel
theorem dX6_gapAt_63 : decode cX6_gapAt 63 = .ok (.lmul, 1) := by decide +kernel
theorem dX6_gapAt_64 : decode cX6_gapAt 64 = .ok (.aload_n 0, 1) := by decide +kernel
theorem dX6_gapAt_65 : decode cX6_gapAt 65 = .ok (.getfield 7, 3) := by decide +kernel
theorem dX6_gapAt_68 : decode cX6_gapAt 68 = .ok (.getfield 87, 3) := by decide +kernel
theorem dX6_gapAt_71 : decode cX6_gapAt 71 = .ok (.i2l, 1) := by decide +kernel
theorem dX6_gapAt_72 : decode cX6_gapAt 72 = .ok (.lmul, 1) := by decide +kernel
theorem dX6_gapAt_73 : decode cX6_gapAt 73 = .ok (.ladd, 1) := by decide +kernel
theorem dX6_gapAt_74 : decode cX6_gapAt 74 = .ok (.lreturn, 1) := by decide +kernel
set_option maxRecDepth 100000 in
def fX6_gapAt (x1 : Int32) (x2 : Int32) (t_settings_slip : Int32) (t_sights_width : Int32) (t_sights_cells_n : Nat) (t_sights_cells_a : Nat → Int32) : Option (Int64) :=
  ob (fX6_leanAt x1 x2 t_settings_slip t_sights_width t_sights_cells_n t_sights_cells_a) fun r1 =>
  ob (α := Int32) (
      if (lg_cmp r1 0) < 0 then
        if 0 ≤ x2 then
          some 0
        else
          some 1
      else
        if x2 ≤ 0 then
          some 0
        else
          some 1
    ) fun m3 =>
  ob (α := Int32) (
      if m3 = 0 then
        bv (if 0 ≤ x2 then x2 else 0 - x2) fun v13 =>
        some v13
      else
        bv (if 0 ≤ x2 then x2 else 0 - x2) fun v14 =>
        some (-v14)
    ) fun m9 =>
  ob (fX6_gapOf x1 t_sights_width t_sights_cells_n t_sights_cells_a) fun r15 =>
  some ((Int32.toInt64 r15) + ((2 * (Int32.toInt64 m9)) * (Int32.toInt64 t_settings_slip)))
abbrev rmX6_gapAt : Room := { frames := 2, cells := 0, slots := 0, locals := 45 }
theorem iwX6_gapAt_X4 : ∀ w ∈ u_ws RX4 TX4 6, w ∈ wsX6_gapAt := by decide +kernel
theorem iwX6_gapAt_X6 : ∀ w ∈ u_ws RX6 TX6 7, w ∈ wsX6_gapAt := by decide +kernel
set_option maxHeartbeats 4000000 in
set_option maxRecDepth 100000 in
theorem k_X6_gapAt (l : Launch) (G : va_G) (cI cJ : ClassId) (t_h t_settings_h t_sights_h t_shadows_h t_sightLow_h t_sightHigh_h t_shadowLow_h t_shadowHigh_h t_sights_cells_h : Nat) (sz : Nat) (t_settings_base : Int32) (t_settings_slip : Int32) (t_settings_low : Int32) (t_settings_high : Int32) (t_settings_unlike : Int32) (t_settings_alone : Int32) (t_sights_width : Int32) (t_sights_most : Int32) (t_sights_lines : Int32) (t_sights_cells_n : Nat) (t_sights_cells_a : Nat → Int32) (x1 : Int32) (x2 : Int32) {o_r : Int64} (hf : fX6_gapAt x1 x2 t_settings_slip t_sights_width t_sights_cells_n t_sights_cells_a = some o_r) : MetL l yX6_gapAt wsX6_gapAt rmX6_gapAt [.ref t_h, .int x1, .int x2] G cI cJ [(t_h, .inr (6, [.ref t_settings_h, .ref t_sights_h, .ref t_shadows_h, .ref t_sightLow_h, .ref t_sightHigh_h, .ref t_shadowLow_h, .ref t_shadowHigh_h])), (t_settings_h, .inr (4, [.int t_settings_base, .int t_settings_slip, .int t_settings_low, .int t_settings_high, .int t_settings_unlike, .int t_settings_alone])), (t_sights_h, .inr (7, [.int t_sights_width, .int t_sights_most, .ref t_sights_cells_h, .int t_sights_lines])), (t_sights_cells_h, .inl (cI, t_sights_cells_n, .inl t_sights_cells_a))] [(t_h, .inr (6, [.ref t_settings_h, .ref t_sights_h, .ref t_shadows_h, .ref t_sightLow_h, .ref t_sightHigh_h, .ref t_shadowLow_h, .ref t_shadowHigh_h])), (t_settings_h, .inr (4, [.int t_settings_base, .int t_settings_slip, .int t_settings_low, .int t_settings_high, .int t_settings_unlike, .int t_settings_alone])), (t_sights_h, .inr (7, [.int t_sights_width, .int t_sights_most, .ref t_sights_cells_h, .int t_sights_lines])), (t_sights_cells_h, .inl (cI, t_sights_cells_n, .inl t_sights_cells_a))] sz o_r := by
  refine en_0 (l := l) (y := yX6_gapAt) (wsl := wsX6_gapAt) (rm := rmX6_gapAt) (av := [.ref t_h, .int x1, .int x2]) (G := G) (cI := cI) (cJ := cJ) (w0 := [(t_h, .inr (6, [.ref t_settings_h, .ref t_sights_h, .ref t_shadows_h, .ref t_sightLow_h, .ref t_sightHigh_h, .ref t_shadowLow_h, .ref t_shadowHigh_h])), (t_settings_h, .inr (4, [.int t_settings_base, .int t_settings_slip, .int t_settings_low, .int t_settings_high, .int t_settings_unlike, .int t_settings_alone])), (t_sights_h, .inr (7, [.int t_sights_width, .int t_sights_most, .ref t_sights_cells_h, .int t_sights_lines])), (t_sights_cells_h, .inl (cI, t_sights_cells_n, .inl t_sights_cells_a))]) (sz := sz) (Qf := fun A => Ql0 G cI cJ [(t_h, .inr (6, [.ref t_settings_h, .ref t_sights_h, .ref t_shadows_h, .ref t_sightLow_h, .ref t_sightHigh_h, .ref t_shadowLow_h, .ref t_shadowHigh_h])), (t_settings_h, .inr (4, [.int t_settings_base, .int t_settings_slip, .int t_settings_low, .int t_settings_high, .int t_settings_unlike, .int t_settings_alone])), (t_sights_h, .inr (7, [.int t_sights_width, .int t_sights_most, .ref t_sights_cells_h, .int t_sights_lines])), (t_sights_cells_h, .inl (cI, t_sights_cells_n, .inl t_sights_cells_a))] o_r A) (cc := cX6_gapAt) (maxL := 5) (ret := (some .long)) RX6 (by decide +kernel) rfl rfl (Nat.le_of_ble_eq_true rfl) ?_
  intro p e s m args below meth c A ls Q hQ hx hb hr hts hown hlocks hml hN hK hP hD hS hA hl
  have hl : lv_has ls 5 [(0, .ref t_h), (1, .int x1), (2, .int x2)] := hl
  have iwX4 := iwX6_gapAt_X4
  have iwX6 := iwX6_gapAt_X6
  have fl_7 := hts (.fieldLink RX6 7 "CloudOffice$Speeds" "settings" "LCloudOffice$Settings;") (by decide +kernel)
  have fl_87 : (Cond.fieldLinkNest RX6 87 "CloudOffice$Settings" "slip" "I" "CloudOffice").before args s = true := nst_get hN 16 rfl rfl
  have kc_102 := hts (.constantLong RX6 102 (2)) (by decide +kernel)
  have lb_46 := hts (.methodLink RX6 46 Lib.Math.abs.name) (by decide +kernel)
  have lbs_46 := hts (.static Lib.Math.abs.name) (by decide +kernel)
  have lbi_46 := hts (.initialized "java/lang/Math") (by decide +kernel)
  have lbc_46 := hts (.code Lib.Math.abs.name Lib.Math.abs.code 1 (some .int)) (by decide +kernel)
  have hret : ∀ (o_r9 : Int64) (pc : Nat) (H : Heap) (locs : List Loc) (ls : Array Slot), decode cX6_gapAt pc = .ok (.lreturn, 1) → some o_r9 = some o_r → va_P G vwCl [(t_h, .inr (6, [.ref t_settings_h, .ref t_sights_h, .ref t_shadows_h, .ref t_sightLow_h, .ref t_sightHigh_h, .ref t_shadowLow_h, .ref t_shadowHigh_h])), (t_settings_h, .inr (4, [.int t_settings_base, .int t_settings_slip, .int t_settings_low, .int t_settings_high, .int t_settings_unlike, .int t_settings_alone])), (t_sights_h, .inr (7, [.int t_sights_width, .int t_sights_most, .ref t_sights_cells_h, .int t_sights_lines])), (t_sights_cells_h, .inl (cI, t_sights_cells_n, .inl t_sights_cells_a))] H → va_D A [(t_h, .inr (6, [.ref t_settings_h, .ref t_sights_h, .ref t_shadows_h, .ref t_sightLow_h, .ref t_sightHigh_h, .ref t_shadowLow_h, .ref t_shadowHigh_h])), (t_settings_h, .inr (4, [.int t_settings_base, .int t_settings_slip, .int t_settings_low, .int t_settings_high, .int t_settings_unlike, .int t_settings_alone])), (t_sights_h, .inr (7, [.int t_sights_width, .int t_sights_most, .ref t_sights_cells_h, .int t_sights_lines])), (t_sights_cells_h, .inl (cI, t_sights_cells_n, .inl t_sights_cells_a))] → va_S A s.heap H locs → W p l e rmX6_gapAt s m args below meth c H locs 0 0 Q (F0 m pc ls [.long o_r9]) := by
    intro o_r9 pc H locs ls hdg he hP hD hS
    cases he
    subst hQ
    exact rt_l hx hb hr hlocks hK hP hD hS rfl hdg
  clear hQ
  unfold fX6_gapAt at hf
  refine lv_aload_n hx hb dX6_gapAt_0 rfl (lv_at hl 0 rfl) ?_
  refine lv_iload_n hx hb dX6_gapAt_1 rfl (lv_at hl 1 rfl) ?_
  refine lv_iload_n hx hb dX6_gapAt_2 rfl (lv_at hl 2 rfl) ?_
  obtain ⟨r1, hc2, hf⟩ := ob_some hf
  refine af_lR (va_runV (As := [.int x1, .int x2]) (rest := []) ⟨hx, hb, hml, hown, hts⟩ (k_X6_leanAt l G cI cJ (t_h := t_h) (t_settings_h := t_settings_h) (t_sights_h := t_sights_h) (t_shadows_h := t_shadows_h) (t_sightLow_h := t_sightLow_h) (t_sightHigh_h := t_sightHigh_h) (t_shadowLow_h := t_shadowLow_h) (t_shadowHigh_h := t_shadowHigh_h) (t_sights_cells_h := t_sights_cells_h) (t_settings_base := t_settings_base) (t_settings_slip := t_settings_slip) (t_settings_low := t_settings_low) (t_settings_high := t_settings_high) (t_settings_unlike := t_settings_unlike) (t_settings_alone := t_settings_alone) (t_sights_width := t_sights_width) (t_sights_most := t_sights_most) (t_sights_lines := t_sights_lines) (t_sights_cells_n := t_sights_cells_n) (t_sights_cells_a := t_sights_cells_a) (x1 := x1) (x2 := x2) (sz := _) (hf := hc2)) (cwV 2 hts gX6_gapAt_X6_leanAt rfl rfl rfl (by decide +kernel) ⟨Nat.le_of_ble_eq_true rfl, Nat.le_of_ble_eq_true rfl⟩) (preV0 (ci := 6) (q0 := 0) (C := RX6) (wc := [(t_h, .inr (6, [.ref t_settings_h, .ref t_sights_h, .ref t_shadows_h, .ref t_sightLow_h, .ref t_sightHigh_h, .ref t_shadowLow_h, .ref t_shadowHigh_h])), (t_settings_h, .inr (4, [.int t_settings_base, .int t_settings_slip, .int t_settings_low, .int t_settings_high, .int t_settings_unlike, .int t_settings_alone])), (t_sights_h, .inr (7, [.int t_sights_width, .int t_sights_most, .ref t_sights_cells_h, .int t_sights_lines])), (t_sights_cells_h, .inl (cI, t_sights_cells_n, .inl t_sights_cells_a))]) hK hP hD hN [0, 1, 2, 3] rfl rfl (by decide) rfl rfl) rfl rfl hl.1 rfl (lv_room (Nat.le_of_ble_eq_true rfl)) dX6_gapAt_3 ⟨Nat.zero_le _, Nat.zero_le _⟩) hP hD hS hA [0, 1, 2, 3] rfl (fun H locs hP hS => ?_)
  refine lv_lconst (v := 0) hx hb dX6_gapAt_6 (by decide) ?_
  refine W.lcmp hx hb dX6_gapAt_7 ?_
  obtain ⟨m3, hr4, hf⟩ := ob_some hf
  have hj5 : ∀ (m39 : Int32), some m39 = some m3 → ∀ (H : Heap) (locs : List Loc) (ls : Array Slot), va_P G vwCl [(t_h, .inr (6, [.ref t_settings_h, .ref t_sights_h, .ref t_shadows_h, .ref t_sightLow_h, .ref t_sightHigh_h, .ref t_shadowLow_h, .ref t_shadowHigh_h])), (t_settings_h, .inr (4, [.int t_settings_base, .int t_settings_slip, .int t_settings_low, .int t_settings_high, .int t_settings_unlike, .int t_settings_alone])), (t_sights_h, .inr (7, [.int t_sights_width, .int t_sights_most, .ref t_sights_cells_h, .int t_sights_lines])), (t_sights_cells_h, .inl (cI, t_sights_cells_n, .inl t_sights_cells_a))] H → va_D A [(t_h, .inr (6, [.ref t_settings_h, .ref t_sights_h, .ref t_shadows_h, .ref t_sightLow_h, .ref t_sightHigh_h, .ref t_shadowLow_h, .ref t_shadowHigh_h])), (t_settings_h, .inr (4, [.int t_settings_base, .int t_settings_slip, .int t_settings_low, .int t_settings_high, .int t_settings_unlike, .int t_settings_alone])), (t_sights_h, .inr (7, [.int t_sights_width, .int t_sights_most, .ref t_sights_cells_h, .int t_sights_lines])), (t_sights_cells_h, .inl (cI, t_sights_cells_n, .inl t_sights_cells_a))] → va_S A s.heap H locs → lv_has ls 5 [(0, .ref t_h), (1, .int x1), (2, .int x2)] → W p l e rmX6_gapAt s m args below meth c H locs 0 0 Q (F0 m 32 ls [.int m39]) := by
    intro m39 he H locs ls hP hD hS hl
    cases he
    refine lv_istore_n (lv' := [(3, .int m3), (0, .ref t_h), (1, .int x1), (2, .int x2)]) hx hb dX6_gapAt_32 rfl hl (by decide) rfl (fun ls hl => ?_)
    refine lv_iload_n hx hb dX6_gapAt_33 rfl (lv_at hl 0 rfl) ?_
    obtain ⟨m9, hr10, hf⟩ := ob_some hf
    have hj11 : ∀ (m99 : Int32), some m99 = some m9 → ∀ (H : Heap) (locs : List Loc) (ls : Array Slot), va_P G vwCl [(t_h, .inr (6, [.ref t_settings_h, .ref t_sights_h, .ref t_shadows_h, .ref t_sightLow_h, .ref t_sightHigh_h, .ref t_shadowLow_h, .ref t_shadowHigh_h])), (t_settings_h, .inr (4, [.int t_settings_base, .int t_settings_slip, .int t_settings_low, .int t_settings_high, .int t_settings_unlike, .int t_settings_alone])), (t_sights_h, .inr (7, [.int t_sights_width, .int t_sights_most, .ref t_sights_cells_h, .int t_sights_lines])), (t_sights_cells_h, .inl (cI, t_sights_cells_n, .inl t_sights_cells_a))] H → va_D A [(t_h, .inr (6, [.ref t_settings_h, .ref t_sights_h, .ref t_shadows_h, .ref t_sightLow_h, .ref t_sightHigh_h, .ref t_shadowLow_h, .ref t_shadowHigh_h])), (t_settings_h, .inr (4, [.int t_settings_base, .int t_settings_slip, .int t_settings_low, .int t_settings_high, .int t_settings_unlike, .int t_settings_alone])), (t_sights_h, .inr (7, [.int t_sights_width, .int t_sights_most, .ref t_sights_cells_h, .int t_sights_lines])), (t_sights_cells_h, .inl (cI, t_sights_cells_n, .inl t_sights_cells_a))] → va_S A s.heap H locs → lv_has ls 5 [(0, .ref t_h), (1, .int x1)] → W p l e rmX6_gapAt s m args below meth c H locs 0 0 Q (F0 m 49 ls [.int m99]) := by
      intro m99 he H locs ls hP hD hS hl
      cases he
      refine lv_istore (lv' := [(4, .int m9), (0, .ref t_h), (1, .int x1)]) hx hb dX6_gapAt_49 hl (by decide) rfl (fun ls hl => ?_)
      refine lv_aload_n hx hb dX6_gapAt_51 rfl (lv_at hl 1 rfl) ?_
      refine lv_iload_n hx hb dX6_gapAt_52 rfl (lv_at hl 2 rfl) ?_
      obtain ⟨r15, hc16, hf⟩ := ob_some hf
      refine af_iR (va_runV (As := [.int x1]) (rest := []) ⟨hx, hb, hml, hown, hts⟩ (k_X6_gapOf l G cI cJ (t_h := t_h) (t_settings_h := t_settings_h) (t_sights_h := t_sights_h) (t_shadows_h := t_shadows_h) (t_sightLow_h := t_sightLow_h) (t_sightHigh_h := t_sightHigh_h) (t_shadowLow_h := t_shadowLow_h) (t_shadowHigh_h := t_shadowHigh_h) (t_sights_cells_h := t_sights_cells_h) (t_sights_width := t_sights_width) (t_sights_most := t_sights_most) (t_sights_lines := t_sights_lines) (t_sights_cells_n := t_sights_cells_n) (t_sights_cells_a := t_sights_cells_a) (x1 := x1) (sz := _) (hf := hc16)) (cwV 1 hts gX6_gapAt_X6_gapOf rfl rfl rfl (by decide +kernel) ⟨Nat.le_of_ble_eq_true rfl, Nat.le_of_ble_eq_true rfl⟩) (preV0 (ci := 6) (q0 := 0) (C := RX6) (wc := [(t_h, .inr (6, [.ref t_settings_h, .ref t_sights_h, .ref t_shadows_h, .ref t_sightLow_h, .ref t_sightHigh_h, .ref t_shadowLow_h, .ref t_shadowHigh_h])), (t_sights_h, .inr (7, [.int t_sights_width, .int t_sights_most, .ref t_sights_cells_h, .int t_sights_lines])), (t_sights_cells_h, .inl (cI, t_sights_cells_n, .inl t_sights_cells_a))]) hK hP hD hN [0, 2, 3] rfl rfl (by decide) rfl rfl) rfl rfl hl.1 rfl (lv_room (Nat.le_of_ble_eq_true rfl)) dX6_gapAt_53 ⟨Nat.zero_le _, Nat.zero_le _⟩) hP hD hS hA [0, 2, 3] rfl (fun H locs hP hS => ?_)
      refine lv_i2l (v := Int32.toInt64 r15) hx hb dX6_gapAt_56 rfl ?_
      refine lv_ldc2 (v := 2) hx hb hown kc_102 dX6_gapAt_57 ?_
      refine lv_iload hx hb dX6_gapAt_60 (lv_at hl 0 rfl) ?_
      refine lv_i2l (v := Int32.toInt64 m9) hx hb dX6_gapAt_62 rfl ?_
      refine lv_lmul hx hb dX6_gapAt_63 ?_
      refine lv_aload_n hx hb dX6_gapAt_64 rfl (lv_at hl 1 rfl) ?_
      refine va_get (D := G) (ci := 6) (v := .ref t_settings_h) (C := RX6) (T := TX6) (N := 7) hx hb hts iwX6 hown hK hP 0 rfl rfl 0 (by decide) fl_7 (fun _ h9 => h9) rfl dX6_gapAt_65 ?_
      refine va_getN (D := G) (ci := 4) (v := .int t_settings_slip) (C := RX4) (T := TX4) (N := 6) hx hb hts iwX4 hown hK hP 1 rfl rfl 1 (by decide) fl_87 (fun _ h9 => h9) rfl dX6_gapAt_68 ?_
      refine lv_i2l (v := Int32.toInt64 t_settings_slip) hx hb dX6_gapAt_71 rfl ?_
      refine lv_lmul hx hb dX6_gapAt_72 ?_
      refine lv_ladd hx hb dX6_gapAt_73 ?_
      exact hret ((Int32.toInt64 r15) + ((2 * (Int32.toInt64 m9)) * (Int32.toInt64 t_settings_slip))) 74 _ _ _ dX6_gapAt_74 hf hP hD hS
    replace hf := hr10
    refine lv_if_eq (tgt := 45) hx hb dX6_gapAt_34 (by decide) (fun c12 => ?_) (fun c12 => ?_)
    · have hf := ift hf c12
      refine lv_iload_n hx hb dX6_gapAt_45 rfl (lv_at hl 3 rfl) ?_
      refine va_mabs hx hb (hml.trans hl.1.symm) hown lb_46 lbs_46 lbi_46 lbc_46 (Nat.le_of_ble_eq_true rfl) (Nat.le_of_ble_eq_true rfl) (Nat.zero_le _) (Nat.zero_le _) dX6_gapAt_46 ?_
      refine lv_topi (fun v13 ev13 => ?_)
      have hf := bv_at ev13 hf
      exact hj11 _ hf _ _ _ hP hD hS (lv_sub hl [1, 2] rfl)
    · have hf := iff_ hf c12
      refine lv_iload_n hx hb dX6_gapAt_37 rfl (lv_at hl 3 rfl) ?_
      refine va_mabs hx hb (hml.trans hl.1.symm) hown lb_46 lbs_46 lbi_46 lbc_46 (Nat.le_of_ble_eq_true rfl) (Nat.le_of_ble_eq_true rfl) (Nat.zero_le _) (Nat.zero_le _) dX6_gapAt_38 ?_
      refine lv_topi (fun v14 ev14 => ?_)
      have hf := bv_at ev14 hf
      refine lv_ineg hx hb dX6_gapAt_41 ?_
      refine lv_goto (tgt := 49) hx hb dX6_gapAt_42 (by decide) ?_
      exact hj11 _ hf _ _ _ hP hD hS (lv_sub hl [1, 2] rfl)
  replace hf := hr4
  refine lv_if_lt (tgt := 23) hx hb dX6_gapAt_8 (by decide) (fun c6 => ?_) (fun c6 => ?_)
  · have hf := ift hf c6
    refine lv_iload_n hx hb dX6_gapAt_23 rfl (lv_at hl 2 rfl) ?_
    refine lv_if_ge (tgt := 31) hx hb dX6_gapAt_24 (by decide) (fun c7 => ?_) (fun c7 => ?_)
    · have hf := ift hf c7
      refine lv_iconst (v := 0) hx hb dX6_gapAt_31 (by decide) ?_
      exact hj5 _ hf _ _ _ hP hD hS (lv_sub hl [0, 1, 2] rfl)
    · have hf := iff_ hf c7
      refine lv_iconst (v := 1) hx hb dX6_gapAt_27 (by decide) ?_
      refine lv_goto (tgt := 32) hx hb dX6_gapAt_28 (by decide) ?_
      exact hj5 _ hf _ _ _ hP hD hS (lv_sub hl [0, 1, 2] rfl)
  · have hf := iff_ hf c6
    refine lv_iload_n hx hb dX6_gapAt_11 rfl (lv_at hl 2 rfl) ?_
    refine lv_if_le (tgt := 19) hx hb dX6_gapAt_12 (by decide) (fun c8 => ?_) (fun c8 => ?_)
    · have hf := ift hf c8
      refine lv_iconst (v := 0) hx hb dX6_gapAt_19 (by decide) ?_
      refine lv_goto (tgt := 32) hx hb dX6_gapAt_20 (by decide) ?_
      exact hj5 _ hf _ _ _ hP hD hS (lv_sub hl [0, 1, 2] rfl)
    · have hf := iff_ hf c8
      refine lv_iconst (v := 1) hx hb dX6_gapAt_15 (by decide) ?_
      refine lv_goto (tgt := 32) hx hb dX6_gapAt_16 (by decide) ?_
      exact hj5 _ hf _ _ _ hP hD hS (lv_sub hl [0, 1, 2] rfl)
set_option maxRecDepth 20000 in
theorem ggX6_haveSpan_X6_gapOf : GoodIn wsX6_haveSpan wsX6_gapOf := goodIn_r _ [6, 7, 8, 9, 10, 11, 12, 13, 14, 15, 16, 17, 18, 19, 20, 21, 28, 29, 30, 31] (by decide +kernel) (by decide +kernel)
set_option maxRecDepth 20000 in
theorem gX6_haveSpan_X6_gapOf : GoodIn wsX6_haveSpan (wsV RX6 52 RX6 yX6_gapOf wsX6_gapOf) := goodIn_app (goodIn_of _ (by decide +kernel)) ggX6_haveSpan_X6_gapOf
theorem dX6_haveSpan_0 : decode cX6_haveSpan 0 = .ok (.iconst 2, 1) := by decide +kernel
theorem dX6_haveSpan_1 : decode cX6_haveSpan 1 = .ok (.aload_n 0, 1) := by decide +kernel
theorem dX6_haveSpan_2 : decode cX6_haveSpan 2 = .ok (.getfield 7, 3) := by decide +kernel
theorem dX6_haveSpan_5 : decode cX6_haveSpan 5 = .ok (.getfield 87, 3) := by decide +kernel
theorem dX6_haveSpan_8 : decode cX6_haveSpan 8 = .ok (.imul, 1) := by decide +kernel
theorem dX6_haveSpan_9 : decode cX6_haveSpan 9 = .ok (.istore_n 3, 1) := by decide +kernel
theorem dX6_haveSpan_10 : decode cX6_haveSpan 10 = .ok (.aload_n 0, 1) := by decide +kernel
theorem dX6_haveSpan_11 : decode cX6_haveSpan 11 = .ok (.iload_n 1, 1) := by decide +kernel
theorem dX6_haveSpan_12 : decode cX6_haveSpan 12 = .ok (.invokevirtual 52, 3) := by decide +kernel
theorem dX6_haveSpan_15 : decode cX6_haveSpan 15 = .ok (.iload_n 3, 1) := by decide +kernel
theorem dX6_haveSpan_16 : decode cX6_haveSpan 16 = .ok (.if_icmp .le 16, 3) := by decide +kernel
theorem dX6_haveSpan_19 : decode cX6_haveSpan 19 = .ok (.aload_n 0, 1) := by decide +kernel
theorem dX6_haveSpan_20 : decode cX6_haveSpan 20 = .ok (.iload_n 2, 1) := by decide +kernel
theorem dX6_haveSpan_21 : decode cX6_haveSpan 21 = .ok (.invokevirtual 52, 3) := by decide +kernel
theorem dX6_haveSpan_24 : decode cX6_haveSpan 24 = .ok (.iload_n 3, 1) := by decide +kernel
theorem dX6_haveSpan_25 : decode cX6_haveSpan 25 = .ok (.if_icmp .le 7, 3) := by decide +kernel
theorem dX6_haveSpan_28 : decode cX6_haveSpan 28 = .ok (.iconst 1, 1) := by decide +kernel
theorem dX6_haveSpan_29 : decode cX6_haveSpan 29 = .ok (.goto 4, 3) := by decide +kernel
theorem dX6_haveSpan_32 : decode cX6_haveSpan 32 = .ok (.iconst 0, 1) := by decide +kernel
theorem dX6_haveSpan_33 : decode cX6_haveSpan 33 = .ok (.ireturn, 1) := by decide +kernel
set_option maxRecDepth 100000 in
def fX6_haveSpan (x1 : Int32) (x2 : Int32) (t_settings_slip : Int32) (t_sights_width : Int32) (t_sights_cells_n : Nat) (t_sights_cells_a : Nat → Int32) : Option (Bool) :=
  bv (2 * t_settings_slip) fun v1 =>
  ob (fX6_gapOf x1 t_sights_width t_sights_cells_n t_sights_cells_a) fun r2 =>
  if r2 ≤ v1 then
    some false
  else
    ob (fX6_gapOf x2 t_sights_width t_sights_cells_n t_sights_cells_a) fun r5 =>
    if r5 ≤ v1 then
      some false
    else
      some true
abbrev rmX6_haveSpan : Room := { frames := 2, cells := 0, slots := 0, locals := 44 }
theorem iwX6_haveSpan_X4 : ∀ w ∈ u_ws RX4 TX4 6, w ∈ wsX6_haveSpan := by decide +kernel
theorem iwX6_haveSpan_X6 : ∀ w ∈ u_ws RX6 TX6 7, w ∈ wsX6_haveSpan := by decide +kernel
set_option maxHeartbeats 4000000 in
set_option maxRecDepth 100000 in
theorem k_X6_haveSpan (l : Launch) (G : va_G) (cI cJ : ClassId) (t_h t_settings_h t_sights_h t_shadows_h t_sightLow_h t_sightHigh_h t_shadowLow_h t_shadowHigh_h t_sights_cells_h : Nat) (sz : Nat) (t_settings_base : Int32) (t_settings_slip : Int32) (t_settings_low : Int32) (t_settings_high : Int32) (t_settings_unlike : Int32) (t_settings_alone : Int32) (t_sights_width : Int32) (t_sights_most : Int32) (t_sights_lines : Int32) (t_sights_cells_n : Nat) (t_sights_cells_a : Nat → Int32) (x1 : Int32) (x2 : Int32) {o_r : Bool} (hf : fX6_haveSpan x1 x2 t_settings_slip t_sights_width t_sights_cells_n t_sights_cells_a = some o_r) : MetI l yX6_haveSpan wsX6_haveSpan rmX6_haveSpan [.ref t_h, .int x1, .int x2] G cI cJ [(t_h, .inr (6, [.ref t_settings_h, .ref t_sights_h, .ref t_shadows_h, .ref t_sightLow_h, .ref t_sightHigh_h, .ref t_shadowLow_h, .ref t_shadowHigh_h])), (t_settings_h, .inr (4, [.int t_settings_base, .int t_settings_slip, .int t_settings_low, .int t_settings_high, .int t_settings_unlike, .int t_settings_alone])), (t_sights_h, .inr (7, [.int t_sights_width, .int t_sights_most, .ref t_sights_cells_h, .int t_sights_lines])), (t_sights_cells_h, .inl (cI, t_sights_cells_n, .inl t_sights_cells_a))] [(t_h, .inr (6, [.ref t_settings_h, .ref t_sights_h, .ref t_shadows_h, .ref t_sightLow_h, .ref t_sightHigh_h, .ref t_shadowLow_h, .ref t_shadowHigh_h])), (t_settings_h, .inr (4, [.int t_settings_base, .int t_settings_slip, .int t_settings_low, .int t_settings_high, .int t_settings_unlike, .int t_settings_alone])), (t_sights_h, .inr (7, [.int t_sights_width, .int t_sights_most, .ref t_sights_cells_h, .int t_sights_lines])), (t_sights_cells_h, .inl (cI, t_sights_cells_n, .inl t_sights_cells_a))] sz (b2i o_r) := by
  refine en_0 (l := l) (y := yX6_haveSpan) (wsl := wsX6_haveSpan) (rm := rmX6_haveSpan) (av := [.ref t_h, .int x1, .int x2]) (G := G) (cI := cI) (cJ := cJ) (w0 := [(t_h, .inr (6, [.ref t_settings_h, .ref t_sights_h, .ref t_shadows_h, .ref t_sightLow_h, .ref t_sightHigh_h, .ref t_shadowLow_h, .ref t_shadowHigh_h])), (t_settings_h, .inr (4, [.int t_settings_base, .int t_settings_slip, .int t_settings_low, .int t_settings_high, .int t_settings_unlike, .int t_settings_alone])), (t_sights_h, .inr (7, [.int t_sights_width, .int t_sights_most, .ref t_sights_cells_h, .int t_sights_lines])), (t_sights_cells_h, .inl (cI, t_sights_cells_n, .inl t_sights_cells_a))]) (sz := sz) (Qf := fun A => Qi0 G cI cJ [(t_h, .inr (6, [.ref t_settings_h, .ref t_sights_h, .ref t_shadows_h, .ref t_sightLow_h, .ref t_sightHigh_h, .ref t_shadowLow_h, .ref t_shadowHigh_h])), (t_settings_h, .inr (4, [.int t_settings_base, .int t_settings_slip, .int t_settings_low, .int t_settings_high, .int t_settings_unlike, .int t_settings_alone])), (t_sights_h, .inr (7, [.int t_sights_width, .int t_sights_most, .ref t_sights_cells_h, .int t_sights_lines])), (t_sights_cells_h, .inl (cI, t_sights_cells_n, .inl t_sights_cells_a))] (b2i o_r) A) (cc := cX6_haveSpan) (maxL := 4) (ret := (some .boolean)) RX6 (by decide +kernel) rfl rfl (Nat.le_of_ble_eq_true rfl) ?_
  intro p e s m args below meth c A ls Q hQ hx hb hr hts hown hlocks hml hN hK hP hD hS hA hl
  have hl : lv_has ls 4 [(0, .ref t_h), (1, .int x1), (2, .int x2)] := hl
  have iwX4 := iwX6_haveSpan_X4
  have iwX6 := iwX6_haveSpan_X6
  have fl_7 := hts (.fieldLink RX6 7 "CloudOffice$Speeds" "settings" "LCloudOffice$Settings;") (by decide +kernel)
  have fl_87 : (Cond.fieldLinkNest RX6 87 "CloudOffice$Settings" "slip" "I" "CloudOffice").before args s = true := nst_get hN 16 rfl rfl
  have hret : ∀ (o_r9 : Bool) (pc : Nat) (H : Heap) (locs : List Loc) (ls : Array Slot), decode cX6_haveSpan pc = .ok (.ireturn, 1) → some o_r9 = some o_r → va_P G vwCl [(t_h, .inr (6, [.ref t_settings_h, .ref t_sights_h, .ref t_shadows_h, .ref t_sightLow_h, .ref t_sightHigh_h, .ref t_shadowLow_h, .ref t_shadowHigh_h])), (t_settings_h, .inr (4, [.int t_settings_base, .int t_settings_slip, .int t_settings_low, .int t_settings_high, .int t_settings_unlike, .int t_settings_alone])), (t_sights_h, .inr (7, [.int t_sights_width, .int t_sights_most, .ref t_sights_cells_h, .int t_sights_lines])), (t_sights_cells_h, .inl (cI, t_sights_cells_n, .inl t_sights_cells_a))] H → va_D A [(t_h, .inr (6, [.ref t_settings_h, .ref t_sights_h, .ref t_shadows_h, .ref t_sightLow_h, .ref t_sightHigh_h, .ref t_shadowLow_h, .ref t_shadowHigh_h])), (t_settings_h, .inr (4, [.int t_settings_base, .int t_settings_slip, .int t_settings_low, .int t_settings_high, .int t_settings_unlike, .int t_settings_alone])), (t_sights_h, .inr (7, [.int t_sights_width, .int t_sights_most, .ref t_sights_cells_h, .int t_sights_lines])), (t_sights_cells_h, .inl (cI, t_sights_cells_n, .inl t_sights_cells_a))] → va_S A s.heap H locs → W p l e rmX6_haveSpan s m args below meth c H locs 0 0 Q (F0 m pc ls [.int (b2i o_r9)]) := by
    intro o_r9 pc H locs ls hdg he hP hD hS
    cases he
    subst hQ
    exact rt_z hx hb hr hlocks hK hP hD hS (b2i_narrow _) rfl hdg
  clear hQ
  unfold fX6_haveSpan at hf
  refine lv_iconst (v := 2) hx hb dX6_haveSpan_0 (by decide) ?_
  refine lv_aload_n hx hb dX6_haveSpan_1 rfl (lv_at hl 0 rfl) ?_
  refine va_get (D := G) (ci := 6) (v := .ref t_settings_h) (C := RX6) (T := TX6) (N := 7) hx hb hts iwX6 hown hK hP 0 rfl rfl 0 (by decide) fl_7 (fun _ h9 => h9) rfl dX6_haveSpan_2 ?_
  refine va_getN (D := G) (ci := 4) (v := .int t_settings_slip) (C := RX4) (T := TX4) (N := 6) hx hb hts iwX4 hown hK hP 1 rfl rfl 1 (by decide) fl_87 (fun _ h9 => h9) rfl dX6_haveSpan_5 ?_
  refine lv_imul hx hb dX6_haveSpan_8 ?_
  refine lv_topi (fun v1 ev1 => ?_)
  have hf := bv_at ev1 hf
  refine lv_istore_n (lv' := [(3, .int v1), (0, .ref t_h), (1, .int x1), (2, .int x2)]) hx hb dX6_haveSpan_9 rfl hl (by decide) rfl (fun ls hl => ?_)
  refine lv_aload_n hx hb dX6_haveSpan_10 rfl (lv_at hl 1 rfl) ?_
  refine lv_iload_n hx hb dX6_haveSpan_11 rfl (lv_at hl 2 rfl) ?_
  obtain ⟨r2, hc3, hf⟩ := ob_some hf
  refine af_iR (va_runV (As := [.int x1]) (rest := []) ⟨hx, hb, hml, hown, hts⟩ (k_X6_gapOf l G cI cJ (t_h := t_h) (t_settings_h := t_settings_h) (t_sights_h := t_sights_h) (t_shadows_h := t_shadows_h) (t_sightLow_h := t_sightLow_h) (t_sightHigh_h := t_sightHigh_h) (t_shadowLow_h := t_shadowLow_h) (t_shadowHigh_h := t_shadowHigh_h) (t_sights_cells_h := t_sights_cells_h) (t_sights_width := t_sights_width) (t_sights_most := t_sights_most) (t_sights_lines := t_sights_lines) (t_sights_cells_n := t_sights_cells_n) (t_sights_cells_a := t_sights_cells_a) (x1 := x1) (sz := _) (hf := hc3)) (cwV 1 hts gX6_haveSpan_X6_gapOf rfl rfl rfl (by decide +kernel) ⟨Nat.le_of_ble_eq_true rfl, Nat.le_of_ble_eq_true rfl⟩) (preV0 (ci := 6) (q0 := 0) (C := RX6) (wc := [(t_h, .inr (6, [.ref t_settings_h, .ref t_sights_h, .ref t_shadows_h, .ref t_sightLow_h, .ref t_sightHigh_h, .ref t_shadowLow_h, .ref t_shadowHigh_h])), (t_sights_h, .inr (7, [.int t_sights_width, .int t_sights_most, .ref t_sights_cells_h, .int t_sights_lines])), (t_sights_cells_h, .inl (cI, t_sights_cells_n, .inl t_sights_cells_a))]) hK hP hD hN [0, 2, 3] rfl rfl (by decide) rfl rfl) rfl rfl hl.1 rfl (lv_room (Nat.le_of_ble_eq_true rfl)) dX6_haveSpan_12 ⟨Nat.zero_le _, Nat.zero_le _⟩) hP hD hS hA [0, 2, 3] rfl (fun H locs hP hS => ?_)
  refine lv_iload_n hx hb dX6_haveSpan_15 rfl (lv_at hl 0 rfl) ?_
  refine lv_icmp_le (tgt := 32) hx hb dX6_haveSpan_16 (by decide) (fun c4 => ?_) (fun c4 => ?_)
  · have hf := ift hf c4
    refine lv_iconst (v := 0) hx hb dX6_haveSpan_32 (by decide) ?_
    exact hret false 33 _ _ _ dX6_haveSpan_33 hf hP hD hS
  · have hf := iff_ hf c4
    refine lv_aload_n hx hb dX6_haveSpan_19 rfl (lv_at hl 1 rfl) ?_
    refine lv_iload_n hx hb dX6_haveSpan_20 rfl (lv_at hl 3 rfl) ?_
    obtain ⟨r5, hc6, hf⟩ := ob_some hf
    refine af_iR (va_runV (As := [.int x2]) (rest := []) ⟨hx, hb, hml, hown, hts⟩ (k_X6_gapOf l G cI cJ (t_h := t_h) (t_settings_h := t_settings_h) (t_sights_h := t_sights_h) (t_shadows_h := t_shadows_h) (t_sightLow_h := t_sightLow_h) (t_sightHigh_h := t_sightHigh_h) (t_shadowLow_h := t_shadowLow_h) (t_shadowHigh_h := t_shadowHigh_h) (t_sights_cells_h := t_sights_cells_h) (t_sights_width := t_sights_width) (t_sights_most := t_sights_most) (t_sights_lines := t_sights_lines) (t_sights_cells_n := t_sights_cells_n) (t_sights_cells_a := t_sights_cells_a) (x1 := x2) (sz := _) (hf := hc6)) (cwV 1 hts gX6_haveSpan_X6_gapOf rfl rfl rfl (by decide +kernel) ⟨Nat.le_of_ble_eq_true rfl, Nat.le_of_ble_eq_true rfl⟩) (preV0 (ci := 6) (q0 := 0) (C := RX6) (wc := [(t_h, .inr (6, [.ref t_settings_h, .ref t_sights_h, .ref t_shadows_h, .ref t_sightLow_h, .ref t_sightHigh_h, .ref t_shadowLow_h, .ref t_shadowHigh_h])), (t_sights_h, .inr (7, [.int t_sights_width, .int t_sights_most, .ref t_sights_cells_h, .int t_sights_lines])), (t_sights_cells_h, .inl (cI, t_sights_cells_n, .inl t_sights_cells_a))]) hK hP hD hN [0, 2, 3] rfl rfl (by decide) rfl rfl) rfl rfl hl.1 rfl (lv_room (Nat.le_of_ble_eq_true rfl)) dX6_haveSpan_21 ⟨Nat.zero_le _, Nat.zero_le _⟩) hP hD hS hA [0, 2, 3] rfl (fun H locs hP hS => ?_)
    refine lv_iload_n hx hb dX6_haveSpan_24 rfl (lv_at hl 0 rfl) ?_
    refine lv_icmp_le (tgt := 32) hx hb dX6_haveSpan_25 (by decide) (fun c7 => ?_) (fun c7 => ?_)
    · have hf := ift hf c7
      refine lv_iconst (v := 0) hx hb dX6_haveSpan_32 (by decide) ?_
      exact hret false 33 _ _ _ dX6_haveSpan_33 hf hP hD hS
    · have hf := iff_ hf c7
      refine lv_iconst (v := 1) hx hb dX6_haveSpan_28 (by decide) ?_
      refine lv_goto (tgt := 33) hx hb dX6_haveSpan_29 (by decide) ?_
      exact hret true 33 _ _ _ dX6_haveSpan_33 hf hP hD hS
theorem dX6_sideOf_0 : decode cX6_sideOf 0 = .ok (.iload_n 0, 1) := by decide +kernel
theorem dX6_sideOf_1 : decode cX6_sideOf 1 = .ok (.ifCond .ne 5, 3) := by decide +kernel
theorem dX6_sideOf_4 : decode cX6_sideOf 4 = .ok (.iconst 0, 1) := by decide +kernel
theorem dX6_sideOf_5 : decode cX6_sideOf 5 = .ok (.ireturn, 1) := by decide +kernel
theorem dX6_sideOf_6 : decode cX6_sideOf 6 = .ok (.iload_n 0, 1) := by decide +kernel
theorem dX6_sideOf_7 : decode cX6_sideOf 7 = .ok (.iconst 1, 1) := by decide +kernel
theorem dX6_sideOf_8 : decode cX6_sideOf 8 = .ok (.if_icmp .ne 7, 3) := by decide +kernel
theorem dX6_sideOf_11 : decode cX6_sideOf 11 = .ok (.iconst (-1), 1) := by decide +kernel
theorem dX6_sideOf_12 : decode cX6_sideOf 12 = .ok (.goto 4, 3) := by decide +kernel
theorem dX6_sideOf_15 : decode cX6_sideOf 15 = .ok (.iconst 1, 1) := by decide +kernel
theorem dX6_sideOf_16 : decode cX6_sideOf 16 = .ok (.ireturn, 1) := by decide +kernel
set_option maxRecDepth 100000 in
def fX6_sideOf (x0 : Int32) : Option (Int32) :=
  if x0 = 0 then
    some 0
  else
    if x0 = 1 then
      some (-1)
    else
      some 1
abbrev rmX6_sideOf : Room := { frames := 0, cells := 0, slots := 0, locals := 0 }
set_option maxHeartbeats 4000000 in
set_option maxRecDepth 100000 in
theorem k_X6_sideOf (l : Launch) (G : va_G) (cI cJ : ClassId) (sz : Nat) (x0 : Int32) {o_r : Int32} (hf : fX6_sideOf x0 = some o_r) : MetI l yX6_sideOf wsX6_sideOf rmX6_sideOf [.int x0] G cI cJ [] [] sz o_r := by
  refine en_0 (l := l) (y := yX6_sideOf) (wsl := wsX6_sideOf) (rm := rmX6_sideOf) (av := [.int x0]) (G := G) (cI := cI) (cJ := cJ) (w0 := []) (sz := sz) (Qf := fun A => Qi0 G cI cJ [] o_r A) (cc := cX6_sideOf) (maxL := 1) (ret := (some .int)) RX6 (by decide +kernel) rfl rfl (Nat.le_of_ble_eq_true rfl) ?_
  intro p e s m args below meth c A ls Q hQ hx hb hr hts hown hlocks hml hN hK hP hD hS hA hl
  have hl : lv_has ls 1 [(0, .int x0)] := hl
  have hret : ∀ (o_r9 : Int32) (pc : Nat) (H : Heap) (locs : List Loc) (ls : Array Slot), decode cX6_sideOf pc = .ok (.ireturn, 1) → some o_r9 = some o_r → va_P G vwCl [] H → va_D A [] → va_S A s.heap H locs → W p l e rmX6_sideOf s m args below meth c H locs 0 0 Q (F0 m pc ls [.int o_r9]) := by
    intro o_r9 pc H locs ls hdg he hP hD hS
    cases he
    subst hQ
    exact rt_i hx hb hr hlocks hK hP hD hS rfl hdg
  clear hQ
  unfold fX6_sideOf at hf
  refine lv_iload_n hx hb dX6_sideOf_0 rfl (lv_at hl 0 rfl) ?_
  refine lv_if_ne (tgt := 6) hx hb dX6_sideOf_1 (by decide) (fun c1 => ?_) (fun c1 => ?_)
  · have hf := iff_ hf c1
    refine lv_iload_n hx hb dX6_sideOf_6 rfl (lv_at hl 0 rfl) ?_
    refine lv_iconst (v := 1) hx hb dX6_sideOf_7 (by decide) ?_
    refine lv_icmp_ne (tgt := 15) hx hb dX6_sideOf_8 (by decide) (fun c2 => ?_) (fun c2 => ?_)
    · have hf := iff_ hf c2
      refine lv_iconst (v := 1) hx hb dX6_sideOf_15 (by decide) ?_
      exact hret 1 16 _ _ _ dX6_sideOf_16 hf hP hD hS
    · have hf := ift hf c2
      refine lv_iconst (v := (-1)) hx hb dX6_sideOf_11 (by decide) ?_
      refine lv_goto (tgt := 16) hx hb dX6_sideOf_12 (by decide) ?_
      exact hret (-1) 16 _ _ _ dX6_sideOf_16 hf hP hD hS
  · have hf := ift hf c1
    refine lv_iconst (v := 0) hx hb dX6_sideOf_4 (by decide) ?_
    exact hret 0 5 _ _ _ dX6_sideOf_5 hf hP hD hS
set_option maxRecDepth 20000 in
theorem ggX6_putSightSpeed_X6_gapOf : GoodIn wsX6_putSightSpeed wsX6_gapOf := goodIn_r _ [7, 1, 8, 9, 10, 11, 12, 13, 14, 54, 55, 56, 57, 58, 59, 60, 67, 68, 69, 70] (by decide +kernel) (by decide +kernel)
set_option maxRecDepth 20000 in
theorem gX6_putSightSpeed_X6_gapOf : GoodIn wsX6_putSightSpeed (wsV RX6 52 RX6 yX6_gapOf wsX6_gapOf) := goodIn_app (goodIn_of _ (by decide +kernel)) ggX6_putSightSpeed_X6_gapOf
set_option maxRecDepth 20000 in
theorem ggX6_putSightSpeed_X6_haveSpan : GoodIn wsX6_putSightSpeed wsX6_haveSpan := goodIn_r _ [18, 2, 3, 4, 5, 6, 7, 1, 8, 9, 10, 11, 12, 13, 14, 54, 55, 56, 57, 58, 59, 60, 61, 62, 63, 64, 65, 66, 67, 68, 69, 70] (by decide +kernel) (by decide +kernel)
set_option maxRecDepth 20000 in
theorem gX6_putSightSpeed_X6_haveSpan : GoodIn wsX6_putSightSpeed (wsV RX6 55 RX6 yX6_haveSpan wsX6_haveSpan) := goodIn_app (goodIn_of _ (by decide +kernel)) ggX6_putSightSpeed_X6_haveSpan
set_option maxRecDepth 20000 in
theorem ggX6_putSightSpeed_X6_isLater : GoodIn wsX6_putSightSpeed wsX6_isLater := goodIn_r _ [21, 8, 9, 10, 11, 12, 13, 14, 67, 68, 69, 70] (by decide +kernel) (by decide +kernel)
set_option maxRecDepth 20000 in
theorem gX6_putSightSpeed_X6_isLater : GoodIn wsX6_putSightSpeed (va_wsS RX6 59 yX6_isLater wsX6_isLater) := goodIn_app (goodIn_of _ (by decide +kernel)) ggX6_putSightSpeed_X6_isLater
set_option maxRecDepth 20000 in
theorem ggX6_putSightSpeed_X6_sideOf : GoodIn wsX6_putSightSpeed wsX6_sideOf := goodIn_r _ [24] (by decide +kernel) (by decide +kernel)
set_option maxRecDepth 20000 in
theorem gX6_putSightSpeed_X6_sideOf : GoodIn wsX6_putSightSpeed (va_wsS RX6 63 yX6_sideOf wsX6_sideOf) := goodIn_app (goodIn_of _ (by decide +kernel)) ggX6_putSightSpeed_X6_sideOf
set_option maxRecDepth 20000 in
theorem ggX6_putSightSpeed_X6_gapAt : GoodIn wsX6_putSightSpeed wsX6_gapAt := goodIn_r _ [28, 29, 30, 31, 32, 33, 2, 34, 35, 36, 6, 37, 1, 8, 9, 10, 11, 12, 13, 14, 3, 4, 5, 7, 54, 55, 56, 57, 58, 59, 60, 61, 62, 63, 64, 65, 66, 67, 68, 69, 70] (by decide +kernel) (by decide +kernel)
set_option maxRecDepth 20000 in
theorem gX6_putSightSpeed_X6_gapAt : GoodIn wsX6_putSightSpeed (wsV RX6 66 RX6 yX6_gapAt wsX6_gapAt) := goodIn_app (goodIn_of _ (by decide +kernel)) ggX6_putSightSpeed_X6_gapAt
set_option maxRecDepth 20000 in
theorem ggX6_putSightSpeed_X6_leanAt : GoodIn wsX6_putSightSpeed wsX6_leanAt := goodIn_r _ [37, 1, 2, 8, 9, 10, 11, 12, 13, 14, 54, 55, 56, 57, 58, 59, 60, 61, 62, 63, 64, 65, 66, 67, 68, 69, 70] (by decide +kernel) (by decide +kernel)
set_option maxRecDepth 20000 in
theorem gX6_putSightSpeed_X6_leanAt : GoodIn wsX6_putSightSpeed (wsV RX6 70 RX6 yX6_leanAt wsX6_leanAt) := goodIn_app (goodIn_of _ (by decide +kernel)) ggX6_putSightSpeed_X6_leanAt
set_option maxRecDepth 20000 in
theorem ggX6_putSightSpeed_X6_minutesBetween : GoodIn wsX6_putSightSpeed wsX6_minutesBetween := goodIn_r _ [40, 29, 30, 31, 32, 8, 9, 10, 11, 12, 13, 14, 67, 68, 69, 70] (by decide +kernel) (by decide +kernel)
set_option maxRecDepth 20000 in
theorem gX6_putSightSpeed_X6_minutesBetween : GoodIn wsX6_putSightSpeed (va_wsS RX6 79 yX6_minutesBetween wsX6_minutesBetween) := goodIn_app (goodIn_of _ (by decide +kernel)) ggX6_putSightSpeed_X6_minutesBetween
set_option maxRecDepth 20000 in
theorem ggX6_putSightSpeed_X1_put : GoodIn wsX6_putSightSpeed wsX1_put := goodIn_r _ [45, 46, 47, 31, 48, 49, 50, 51, 52, 44, 53, 71, 72] (by decide +kernel) (by decide +kernel)
set_option maxRecDepth 20000 in
theorem gX6_putSightSpeed_X1_put : GoodIn wsX6_putSightSpeed (wsV RX6 83 RX1 yX1_put wsX1_put) := goodIn_app (goodIn_of _ (by decide +kernel)) ggX6_putSightSpeed_X1_put
theorem dX6_putSightSpeed_0 : decode cX6_putSightSpeed 0 = .ok (.iload_n 3, 1) := by decide +kernel
theorem dX6_putSightSpeed_1 : decode cX6_putSightSpeed 1 = .ok (.ifCond .ne 22, 3) := by decide +kernel
theorem dX6_putSightSpeed_4 : decode cX6_putSightSpeed 4 = .ok (.aload_n 0, 1) := by decide +kernel
theorem dX6_putSightSpeed_5 : decode cX6_putSightSpeed 5 = .ok (.iload_n 1, 1) := by decide +kernel
theorem dX6_putSightSpeed_6 : decode cX6_putSightSpeed 6 = .ok (.invokevirtual 52, 3) := by decide +kernel
theorem dX6_putSightSpeed_9 : decode cX6_putSightSpeed 9 = .ok (.ifCond .le 23, 3) := by decide +kernel
theorem dX6_putSightSpeed_12 : decode cX6_putSightSpeed 12 = .ok (.aload_n 0, 1) := by decide +kernel
theorem dX6_putSightSpeed_13 : decode cX6_putSightSpeed 13 = .ok (.iload_n 2, 1) := by decide +kernel
theorem dX6_putSightSpeed_14 : decode cX6_putSightSpeed 14 = .ok (.invokevirtual 52, 3) := by decide +kernel
theorem dX6_putSightSpeed_17 : decode cX6_putSightSpeed 17 = .ok (.ifCond .gt 17, 3) := by decide +kernel
theorem dX6_putSightSpeed_20 : decode cX6_putSightSpeed 20 = .ok (.goto 12, 3) := by decide +kernel
theorem dX6_putSightSpeed_23 : decode cX6_putSightSpeed 23 = .ok (.aload_n 0, 1) := by decide +kernel
theorem dX6_putSightSpeed_24 : decode cX6_putSightSpeed 24 = .ok (.iload_n 1, 1) := by decide +kernel
theorem dX6_putSightSpeed_25 : decode cX6_putSightSpeed 25 = .ok (.iload_n 2, 1) := by decide +kernel
theorem dX6_putSightSpeed_26 : decode cX6_putSightSpeed 26 = .ok (.invokevirtual 55, 3) := by decide +kernel
theorem dX6_putSightSpeed_29 : decode cX6_putSightSpeed 29 = .ok (.ifCond .ne 5, 3) := by decide +kernel
theorem dX6_putSightSpeed_32 : decode cX6_putSightSpeed 32 = .ok (.iconst 0, 1) := by decide +kernel
theorem dX6_putSightSpeed_33 : decode cX6_putSightSpeed 33 = .ok (.ireturn, 1) := by decide +kernel
theorem dX6_putSightSpeed_34 : decode cX6_putSightSpeed 34 = .ok (.aload_n 0, 1) := by decide +kernel
theorem dX6_putSightSpeed_35 : decode cX6_putSightSpeed 35 = .ok (.getfield 13, 3) := by decide +kernel
theorem dX6_putSightSpeed_38 : decode cX6_putSightSpeed 38 = .ok (.iload_n 1, 1) := by decide +kernel
theorem dX6_putSightSpeed_39 : decode cX6_putSightSpeed 39 = .ok (.iload_n 2, 1) := by decide +kernel
theorem dX6_putSightSpeed_40 : decode cX6_putSightSpeed 40 = .ok (.invokestatic 59, 3) := by decide +kernel
theorem dX6_putSightSpeed_43 : decode cX6_putSightSpeed 43 = .ok (.ifCond .eq 7, 3) := by decide +kernel
theorem dX6_putSightSpeed_46 : decode cX6_putSightSpeed 46 = .ok (.iload_n 1, 1) := by decide +kernel
theorem dX6_putSightSpeed_47 : decode cX6_putSightSpeed 47 = .ok (.goto 4, 3) := by decide +kernel
theorem dX6_putSightSpeed_50 : decode cX6_putSightSpeed 50 = .ok (.iload_n 2, 1) := by decide +kernel
theorem dX6_putSightSpeed_51 : decode cX6_putSightSpeed 51 = .ok (.istore 5, 2) := by decide +kernel
theorem dX6_putSightSpeed_53 : decode cX6_putSightSpeed 53 = .ok (.iload 5, 2) := by decide +kernel
theorem dX6_putSightSpeed_55 : decode cX6_putSightSpeed 55 = .ok (.iload_n 1, 1) := by decide +kernel
theorem dX6_putSightSpeed_56 : decode cX6_putSightSpeed 56 = .ok (.if_icmp .ne 7, 3) := by decide +kernel
theorem dX6_putSightSpeed_59 : decode cX6_putSightSpeed 59 = .ok (.iload_n 2, 1) := by decide +kernel
theorem dX6_putSightSpeed_60 : decode cX6_putSightSpeed 60 = .ok (.goto 4, 3) := by decide +kernel
theorem dX6_putSightSpeed_63 : decode cX6_putSightSpeed 63 = .ok (.iload_n 1, 1) := by decide +kernel
theorem dX6_putSightSpeed_64 : decode cX6_putSightSpeed 64 = .ok (.istore 6, 2) := by decide +kernel
theorem dX6_putSightSpeed_66 : decode cX6_putSightSpeed 66 = .ok (.iload_n 3, 1) := by decide +kernel
theorem dX6_putSightSpeed_67 : decode cX6_putSightSpeed 67 = .ok (.invokestatic 63, 3) := by decide +kernel
theorem dX6_putSightSpeed_70 : decode cX6_putSightSpeed 70 = .ok (.istore 7, 2) := by decide +kernel
theorem dX6_putSightSpeed_72 : decode cX6_putSightSpeed 72 = .ok (.aload_n 0, 1) := by decide +kernel
theorem dX6_putSightSpeed_73 : decode cX6_putSightSpeed 73 = .ok (.iload 5, 2) := by decide +kernel
theorem dX6_putSightSpeed_75 : decode cX6_putSightSpeed 75 = .ok (.iload 7, 2) := by decide +kernel
theorem dX6_putSightSpeed_77 : decode cX6_putSightSpeed 77 = .ok (.invokevirtual 66, 3) := by decide +kernel
theorem dX6_putSightSpeed_80 : decode cX6_putSightSpeed 80 = .ok (.lstore 8, 2) := by decide +kernel
theorem dX6_putSightSpeed_82 : decode cX6_putSightSpeed 82 = .ok (.aload_n 0, 1) := by decide +kernel
theorem dX6_putSightSpeed_83 : decode cX6_putSightSpeed 83 = .ok (.iload 6, 2) := by decide +kernel
theorem dX6_putSightSpeed_85 : decode cX6_putSightSpeed 85 = .ok (.iload 7, 2) := by decide +kernel
theorem dX6_putSightSpeed_87 : decode cX6_putSightSpeed 87 = .ok (.ineg, 1) := by decide +kernel
theorem dX6_putSightSpeed_88 : decode cX6_putSightSpeed 88 = .ok (.invokevirtual 66, 3) := by decide +kernel
theorem dX6_putSightSpeed_91 : decode cX6_putSightSpeed 91 = .ok (.lstore 10, 2) := by decide +kernel
theorem dX6_putSightSpeed_93 : decode cX6_putSightSpeed 93 = .ok (.aload_n 0, 1) := by decide +kernel
theorem dX6_putSightSpeed_94 : decode cX6_putSightSpeed 94 = .ok (.iload 5, 2) := by decide +kernel
theorem dX6_putSightSpeed_96 : decode cX6_putSightSpeed 96 = .ok (.iload 7, 2) := by decide +kernel
theorem dX6_putSightSpeed_98 : decode cX6_putSightSpeed 98 = .ok (.invokevirtual 70, 3) := by decide +kernel
theorem dX6_putSightSpeed_101 : decode cX6_putSightSpeed 101 = .ok (.lload 10, 2) := by decide +kernel
theorem dX6_putSightSpeed_103 : decode cX6_putSightSpeed 103 = .ok (.lmul, 1) := by decide +kernel
theorem dX6_putSightSpeed_104 : decode cX6_putSightSpeed 104 = .ok (.aload_n 0, 1) := by decide +kernel
theorem dX6_putSightSpeed_105 : decode cX6_putSightSpeed 105 = .ok (.iload 6, 2) := by decide +kernel
theorem dX6_putSightSpeed_107 : decode cX6_putSightSpeed 107 = .ok (.iload 7, 2) := by decide +kernel
theorem dX6_putSightSpeed_109 : decode cX6_putSightSpeed 109 = .ok (.ineg, 1) := by decide +kernel
theorem dX6_putSightSpeed_110 : decode cX6_putSightSpeed 110 = .ok (.invokevirtual 70, 3) := by decide +kernel
theorem dX6_putSightSpeed_113 : decode cX6_putSightSpeed 113 = .ok (.lload 8, 2) := by decide +kernel
theorem dX6_putSightSpeed_115 : decode cX6_putSightSpeed 115 = .ok (.lmul, 1) := by decide +kernel
theorem dX6_putSightSpeed_116 : decode cX6_putSightSpeed 116 = .ok (.lsub, 1) := by decide +kernel
theorem dX6_putSightSpeed_117 : decode cX6_putSightSpeed 117 = .ok (.lstore 12, 2) := by decide +kernel
theorem dX6_putSightSpeed_119 : decode cX6_putSightSpeed 119 = .ok (.aload 4, 2) := by decide +kernel
theorem dX6_putSightSpeed_121 : decode cX6_putSightSpeed 121 = .ok (.aload_n 0, 1) := by decide +kernel
theorem dX6_putSightSpeed_122 : decode cX6_putSightSpeed 122 = .ok (.getfield 7, 3) := by decide +kernel
theorem dX6_putSightSpeed_125 : decode cX6_putSightSpeed 125 = .ok (.getfield 73, 3) := by decide +kernel
theorem dX6_putSightSpeed_128 : decode cX6_putSightSpeed 128 = .ok (.i2l, 1) := by decide +kernel
theorem dX6_putSightSpeed_129 : decode cX6_putSightSpeed 129 = .ok (.lload 12, 2) := by decide +kernel
theorem dX6_putSightSpeed_131 : decode cX6_putSightSpeed 131 = .ok (.lmul, 1) := by decide +kernel
theorem dX6_putSightSpeed_132 : decode cX6_putSightSpeed 132 = .ok (.lload 8, 2) := by decide +kernel
theorem dX6_putSightSpeed_134 : decode cX6_putSightSpeed 134 = .ok (.lload 10, 2) := by decide +kernel
theorem dX6_putSightSpeed_136 : decode cX6_putSightSpeed 136 = .ok (.lmul, 1) := by decide +kernel
theorem dX6_putSightSpeed_137 : decode cX6_putSightSpeed 137 = .ok (.aload_n 0, 1) := by decide +kernel
theorem dX6_putSightSpeed_138 : decode cX6_putSightSpeed 138 = .ok (.getfield 13, 3) := by decide +kernel
theorem dX6_putSightSpeed_141 : decode cX6_putSightSpeed 141 = .ok (.iload_n 1, 1) := by decide +kernel
theorem dX6_putSightSpeed_142 : decode cX6_putSightSpeed 142 = .ok (.iload_n 2, 1) := by decide +kernel
theorem dX6_putSightSpeed_143 : decode cX6_putSightSpeed 143 = .ok (.invokestatic 79, 3) := by decide +kernel
theorem dX6_putSightSpeed_146 : decode cX6_putSightSpeed 146 = .ok (.i2l, 1) := by decide +kernel
theorem dX6_putSightSpeed_147 : decode cX6_putSightSpeed 147 = .ok (.lmul, 1) := by decide +kernel
theorem dX6_putSightSpeed_148 : decode cX6_putSightSpeed 148 = .ok (.invokevirtual 83, 3) := by decide +kernel
theorem dX6_putSightSpeed_151 : decode cX6_putSightSpeed 151 = .ok (.iconst 1, 1) := by decide +kernel
theorem dX6_putSightSpeed_152 : decode cX6_putSightSpeed 152 = .ok (.ireturn, 1) := by decide +kernel
set_option maxRecDepth 100000 in
def fX6_putSightSpeed (x1 : Int32) (x2 : Int32) (x3 : Int32) (t_settings_base : Int32) (t_settings_slip : Int32) (t_sights_width : Int32) (t_sights_cells_n : Nat) (t_sights_cells_a : Nat → Int32) (L4_above : Int64) (L4_below : Int64) : Option (Bool × Int64 × Int64) :=
  if x3 = 0 then
    ob (fX6_gapOf x1 t_sights_width t_sights_cells_n t_sights_cells_a) fun r31 =>
    if r31 ≤ 0 then
      some (false, L4_above, L4_below)
    else
      ob (fX6_gapOf x2 t_sights_width t_sights_cells_n t_sights_cells_a) fun r34 =>
      if 0 < r34 then
        ob (fX6_isLater x1 x2 t_sights_width t_sights_cells_n t_sights_cells_a) fun r37 =>
        ob (α := Int32) (
            if (b2i r37) = 0 then
              some x2
            else
              some x1
          ) fun m39 =>
        ob (α := Int32) (
            if m39 = x1 then
              some x2
            else
              some x1
          ) fun m43 =>
        ob (fX6_sideOf x3) fun r47 =>
        ob (fX6_gapAt m39 r47 t_settings_slip t_sights_width t_sights_cells_n t_sights_cells_a) fun r49 =>
        ob (fX6_gapAt m43 (-r47) t_settings_slip t_sights_width t_sights_cells_n t_sights_cells_a) fun r51 =>
        ob (fX6_leanAt m39 r47 t_settings_slip t_sights_width t_sights_cells_n t_sights_cells_a) fun r53 =>
        ob (fX6_leanAt m43 (-r47) t_settings_slip t_sights_width t_sights_cells_n t_sights_cells_a) fun r55 =>
        bv ((r53 * r51) - (r55 * r49)) fun v57 =>
        ob (fX6_minutesBetween x1 x2 t_sights_width t_sights_cells_n t_sights_cells_a) fun r58 =>
        ob2 (fX1_put ((Int32.toInt64 t_settings_base) * v57) ((r49 * r51) * (Int32.toInt64 r58)) L4_above L4_below) fun w60 w61 =>
        some (true, w60, w61)
      else
        some (false, L4_above, L4_below)
  else
    ob (fX6_haveSpan x1 x2 t_settings_slip t_sights_width t_sights_cells_n t_sights_cells_a) fun r2 =>
    if (b2i r2) = 0 then
      some (false, L4_above, L4_below)
    else
      ob (fX6_isLater x1 x2 t_sights_width t_sights_cells_n t_sights_cells_a) fun r5 =>
      ob (α := Int32) (
          if (b2i r5) = 0 then
            some x2
          else
            some x1
        ) fun m7 =>
      ob (α := Int32) (
          if m7 = x1 then
            some x2
          else
            some x1
        ) fun m11 =>
      ob (fX6_sideOf x3) fun r15 =>
      ob (fX6_gapAt m7 r15 t_settings_slip t_sights_width t_sights_cells_n t_sights_cells_a) fun r17 =>
      ob (fX6_gapAt m11 (-r15) t_settings_slip t_sights_width t_sights_cells_n t_sights_cells_a) fun r19 =>
      ob (fX6_leanAt m7 r15 t_settings_slip t_sights_width t_sights_cells_n t_sights_cells_a) fun r21 =>
      ob (fX6_leanAt m11 (-r15) t_settings_slip t_sights_width t_sights_cells_n t_sights_cells_a) fun r23 =>
      bv ((r21 * r19) - (r23 * r17)) fun v25 =>
      ob (fX6_minutesBetween x1 x2 t_sights_width t_sights_cells_n t_sights_cells_a) fun r26 =>
      ob2 (fX1_put ((Int32.toInt64 t_settings_base) * v25) ((r17 * r19) * (Int32.toInt64 r26)) L4_above L4_below) fun w28 w29 =>
      some (true, w28, w29)
abbrev rmX6_putSightSpeed : Room := { frames := 3, cells := 0, slots := 0, locals := 69 }
theorem iwX6_putSightSpeed_X4 : ∀ w ∈ u_ws RX4 TX4 6, w ∈ wsX6_putSightSpeed := by decide +kernel
theorem iwX6_putSightSpeed_X6 : ∀ w ∈ u_ws RX6 TX6 7, w ∈ wsX6_putSightSpeed := by decide +kernel
set_option maxHeartbeats 4000000 in
set_option maxRecDepth 100000 in
theorem k_X6_putSightSpeed (l : Launch) (G : va_G) (cI cJ : ClassId) (t_h t_settings_h t_sights_h t_shadows_h t_sightLow_h t_sightHigh_h t_shadowLow_h t_shadowHigh_h t_sights_cells_h L4_h : Nat) (sz : Nat) (t_settings_base : Int32) (t_settings_slip : Int32) (t_settings_low : Int32) (t_settings_high : Int32) (t_settings_unlike : Int32) (t_settings_alone : Int32) (t_sights_width : Int32) (t_sights_most : Int32) (t_sights_lines : Int32) (t_sights_cells_n : Nat) (t_sights_cells_a : Nat → Int32) (L4_above : Int64) (L4_below : Int64) (x1 : Int32) (x2 : Int32) (x3 : Int32) {o_r : Bool} {o_L4_above : Int64} {o_L4_below : Int64} (hf : fX6_putSightSpeed x1 x2 x3 t_settings_base t_settings_slip t_sights_width t_sights_cells_n t_sights_cells_a L4_above L4_below = some (o_r, o_L4_above, o_L4_below)) : MetI l yX6_putSightSpeed wsX6_putSightSpeed rmX6_putSightSpeed [.ref t_h, .int x1, .int x2, .int x3, .ref L4_h] G cI cJ [(t_h, .inr (6, [.ref t_settings_h, .ref t_sights_h, .ref t_shadows_h, .ref t_sightLow_h, .ref t_sightHigh_h, .ref t_shadowLow_h, .ref t_shadowHigh_h])), (t_settings_h, .inr (4, [.int t_settings_base, .int t_settings_slip, .int t_settings_low, .int t_settings_high, .int t_settings_unlike, .int t_settings_alone])), (t_sights_h, .inr (7, [.int t_sights_width, .int t_sights_most, .ref t_sights_cells_h, .int t_sights_lines])), (t_sights_cells_h, .inl (cI, t_sights_cells_n, .inl t_sights_cells_a)), (L4_h, .inr (1, [.long L4_above, .long L4_below]))] [(t_h, .inr (6, [.ref t_settings_h, .ref t_sights_h, .ref t_shadows_h, .ref t_sightLow_h, .ref t_sightHigh_h, .ref t_shadowLow_h, .ref t_shadowHigh_h])), (t_settings_h, .inr (4, [.int t_settings_base, .int t_settings_slip, .int t_settings_low, .int t_settings_high, .int t_settings_unlike, .int t_settings_alone])), (t_sights_h, .inr (7, [.int t_sights_width, .int t_sights_most, .ref t_sights_cells_h, .int t_sights_lines])), (t_sights_cells_h, .inl (cI, t_sights_cells_n, .inl t_sights_cells_a)), (L4_h, .inr (1, [.long o_L4_above, .long o_L4_below]))] sz (b2i o_r) := by
  refine en_0 (l := l) (y := yX6_putSightSpeed) (wsl := wsX6_putSightSpeed) (rm := rmX6_putSightSpeed) (av := [.ref t_h, .int x1, .int x2, .int x3, .ref L4_h]) (G := G) (cI := cI) (cJ := cJ) (w0 := [(t_h, .inr (6, [.ref t_settings_h, .ref t_sights_h, .ref t_shadows_h, .ref t_sightLow_h, .ref t_sightHigh_h, .ref t_shadowLow_h, .ref t_shadowHigh_h])), (t_settings_h, .inr (4, [.int t_settings_base, .int t_settings_slip, .int t_settings_low, .int t_settings_high, .int t_settings_unlike, .int t_settings_alone])), (t_sights_h, .inr (7, [.int t_sights_width, .int t_sights_most, .ref t_sights_cells_h, .int t_sights_lines])), (t_sights_cells_h, .inl (cI, t_sights_cells_n, .inl t_sights_cells_a)), (L4_h, .inr (1, [.long L4_above, .long L4_below]))]) (sz := sz) (Qf := fun A => Qi0 G cI cJ [(t_h, .inr (6, [.ref t_settings_h, .ref t_sights_h, .ref t_shadows_h, .ref t_sightLow_h, .ref t_sightHigh_h, .ref t_shadowLow_h, .ref t_shadowHigh_h])), (t_settings_h, .inr (4, [.int t_settings_base, .int t_settings_slip, .int t_settings_low, .int t_settings_high, .int t_settings_unlike, .int t_settings_alone])), (t_sights_h, .inr (7, [.int t_sights_width, .int t_sights_most, .ref t_sights_cells_h, .int t_sights_lines])), (t_sights_cells_h, .inl (cI, t_sights_cells_n, .inl t_sights_cells_a)), (L4_h, .inr (1, [.long o_L4_above, .long o_L4_below]))] (b2i o_r) A) (cc := cX6_putSightSpeed) (maxL := 14) (ret := (some .boolean)) RX6 (by decide +kernel) rfl rfl (Nat.le_of_ble_eq_true rfl) ?_
  intro p e s m args below meth c A ls Q hQ hx hb hr hts hown hlocks hml hN hK hP hD hS hA hl
  have hl : lv_has ls 14 [(0, .ref t_h), (1, .int x1), (2, .int x2), (3, .int x3), (4, .ref L4_h)] := hl
  have iwX4 := iwX6_putSightSpeed_X4
  have iwX6 := iwX6_putSightSpeed_X6
  have fl_7 := hts (.fieldLink RX6 7 "CloudOffice$Speeds" "settings" "LCloudOffice$Settings;") (by decide +kernel)
  have fl_13 := hts (.fieldLink RX6 13 "CloudOffice$Speeds" "sights" "LCloudOffice$Table;") (by decide +kernel)
  have fl_73 : (Cond.fieldLinkNest RX6 73 "CloudOffice$Settings" "base" "I" "CloudOffice").before args s = true := nst_get hN 15 rfl rfl
  have hret : ∀ (o_r9 : Bool) (o_L4_above9 : Int64) (o_L4_below9 : Int64) (pc : Nat) (H : Heap) (locs : List Loc) (ls : Array Slot), decode cX6_putSightSpeed pc = .ok (.ireturn, 1) → some (o_r9, o_L4_above9, o_L4_below9) = some (o_r, o_L4_above, o_L4_below) → va_P G vwCl [(t_h, .inr (6, [.ref t_settings_h, .ref t_sights_h, .ref t_shadows_h, .ref t_sightLow_h, .ref t_sightHigh_h, .ref t_shadowLow_h, .ref t_shadowHigh_h])), (t_settings_h, .inr (4, [.int t_settings_base, .int t_settings_slip, .int t_settings_low, .int t_settings_high, .int t_settings_unlike, .int t_settings_alone])), (t_sights_h, .inr (7, [.int t_sights_width, .int t_sights_most, .ref t_sights_cells_h, .int t_sights_lines])), (t_sights_cells_h, .inl (cI, t_sights_cells_n, .inl t_sights_cells_a)), (L4_h, .inr (1, [.long o_L4_above9, .long o_L4_below9]))] H → va_D A [(t_h, .inr (6, [.ref t_settings_h, .ref t_sights_h, .ref t_shadows_h, .ref t_sightLow_h, .ref t_sightHigh_h, .ref t_shadowLow_h, .ref t_shadowHigh_h])), (t_settings_h, .inr (4, [.int t_settings_base, .int t_settings_slip, .int t_settings_low, .int t_settings_high, .int t_settings_unlike, .int t_settings_alone])), (t_sights_h, .inr (7, [.int t_sights_width, .int t_sights_most, .ref t_sights_cells_h, .int t_sights_lines])), (t_sights_cells_h, .inl (cI, t_sights_cells_n, .inl t_sights_cells_a)), (L4_h, .inr (1, [.long o_L4_above9, .long o_L4_below9]))] → va_S A s.heap H locs → W p l e rmX6_putSightSpeed s m args below meth c H locs 0 0 Q (F0 m pc ls [.int (b2i o_r9)]) := by
    intro o_r9 o_L4_above9 o_L4_below9 pc H locs ls hdg he hP hD hS
    cases he
    subst hQ
    exact rt_z hx hb hr hlocks hK hP hD hS (b2i_narrow _) rfl hdg
  clear hQ
  unfold fX6_putSightSpeed at hf
  refine lv_iload_n hx hb dX6_putSightSpeed_0 rfl (lv_at hl 3 rfl) ?_
  refine lv_if_ne (tgt := 23) hx hb dX6_putSightSpeed_1 (by decide) (fun c1 => ?_) (fun c1 => ?_)
  · have hf := iff_ hf c1
    refine lv_aload_n hx hb dX6_putSightSpeed_23 rfl (lv_at hl 0 rfl) ?_
    refine lv_iload_n hx hb dX6_putSightSpeed_24 rfl (lv_at hl 1 rfl) ?_
    refine lv_iload_n hx hb dX6_putSightSpeed_25 rfl (lv_at hl 2 rfl) ?_
    obtain ⟨r2, hc3, hf⟩ := ob_some hf
    refine af_iR (va_runV (As := [.int x1, .int x2]) (rest := []) ⟨hx, hb, hml, hown, hts⟩ (k_X6_haveSpan l G cI cJ (t_h := t_h) (t_settings_h := t_settings_h) (t_sights_h := t_sights_h) (t_shadows_h := t_shadows_h) (t_sightLow_h := t_sightLow_h) (t_sightHigh_h := t_sightHigh_h) (t_shadowLow_h := t_shadowLow_h) (t_shadowHigh_h := t_shadowHigh_h) (t_sights_cells_h := t_sights_cells_h) (t_settings_base := t_settings_base) (t_settings_slip := t_settings_slip) (t_settings_low := t_settings_low) (t_settings_high := t_settings_high) (t_settings_unlike := t_settings_unlike) (t_settings_alone := t_settings_alone) (t_sights_width := t_sights_width) (t_sights_most := t_sights_most) (t_sights_lines := t_sights_lines) (t_sights_cells_n := t_sights_cells_n) (t_sights_cells_a := t_sights_cells_a) (x1 := x1) (x2 := x2) (sz := _) (hf := hc3)) (cwV 2 hts gX6_putSightSpeed_X6_haveSpan rfl rfl rfl (by decide +kernel) ⟨Nat.le_of_ble_eq_true rfl, Nat.le_of_ble_eq_true rfl⟩) (preV0 (ci := 6) (q0 := 0) (C := RX6) (wc := [(t_h, .inr (6, [.ref t_settings_h, .ref t_sights_h, .ref t_shadows_h, .ref t_sightLow_h, .ref t_sightHigh_h, .ref t_shadowLow_h, .ref t_shadowHigh_h])), (t_settings_h, .inr (4, [.int t_settings_base, .int t_settings_slip, .int t_settings_low, .int t_settings_high, .int t_settings_unlike, .int t_settings_alone])), (t_sights_h, .inr (7, [.int t_sights_width, .int t_sights_most, .ref t_sights_cells_h, .int t_sights_lines])), (t_sights_cells_h, .inl (cI, t_sights_cells_n, .inl t_sights_cells_a))]) hK hP hD hN [0, 1, 2, 3] rfl rfl (by decide) rfl rfl) rfl rfl hl.1 rfl (lv_room (Nat.le_of_ble_eq_true rfl)) dX6_putSightSpeed_26 ⟨Nat.zero_le _, Nat.zero_le _⟩) hP hD hS hA [0, 1, 2, 3] rfl (fun H locs hP hS => ?_)
    refine lv_if_ne (tgt := 34) hx hb dX6_putSightSpeed_29 (by decide) (fun c4 => ?_) (fun c4 => ?_)
    · have hf := iff_ hf c4
      refine lv_aload_n hx hb dX6_putSightSpeed_34 rfl (lv_at hl 0 rfl) ?_
      refine va_get (D := G) (ci := 6) (v := .ref t_sights_h) (C := RX6) (T := TX6) (N := 7) hx hb hts iwX6 hown hK hP 0 rfl rfl 1 (by decide) fl_13 (fun _ h9 => h9) rfl dX6_putSightSpeed_35 ?_
      refine lv_iload_n hx hb dX6_putSightSpeed_38 rfl (lv_at hl 1 rfl) ?_
      refine lv_iload_n hx hb dX6_putSightSpeed_39 rfl (lv_at hl 2 rfl) ?_
      obtain ⟨r5, hc6, hf⟩ := ob_some hf
      refine af_iR (va_runS (As := [.ref t_sights_h, .int x1, .int x2]) (rest := []) ⟨hx, hb, hml, hown, hts⟩ (k_X6_isLater l G cI cJ (L0_h := t_sights_h) (L0_cells_h := t_sights_cells_h) (L0_width := t_sights_width) (L0_most := t_sights_most) (L0_lines := t_sights_lines) (L0_cells_n := t_sights_cells_n) (L0_cells_a := t_sights_cells_a) (x1 := x1) (x2 := x2) (sz := _) (hf := hc6)) (va_cwS 3 hts gX6_putSightSpeed_X6_isLater rfl rfl rfl (by decide +kernel) ⟨Nat.le_of_ble_eq_true rfl, Nat.le_of_ble_eq_true rfl⟩) (preS0 (wc := [(t_sights_h, .inr (7, [.int t_sights_width, .int t_sights_most, .ref t_sights_cells_h, .int t_sights_lines])), (t_sights_cells_h, .inl (cI, t_sights_cells_n, .inl t_sights_cells_a))]) hK hP hD hN [2, 3] rfl rfl (by decide)) rfl rfl hl.1 rfl (lv_room (Nat.le_of_ble_eq_true rfl)) dX6_putSightSpeed_40 ⟨Nat.zero_le _, Nat.zero_le _⟩) hP hD hS hA [2, 3] rfl (fun H locs hP hS => ?_)
      obtain ⟨m7, hr8, hf⟩ := ob_some hf
      have hj9 : ∀ (m79 : Int32), some m79 = some m7 → ∀ (H : Heap) (locs : List Loc) (ls : Array Slot), va_P G vwCl [(t_h, .inr (6, [.ref t_settings_h, .ref t_sights_h, .ref t_shadows_h, .ref t_sightLow_h, .ref t_sightHigh_h, .ref t_shadowLow_h, .ref t_shadowHigh_h])), (t_settings_h, .inr (4, [.int t_settings_base, .int t_settings_slip, .int t_settings_low, .int t_settings_high, .int t_settings_unlike, .int t_settings_alone])), (t_sights_h, .inr (7, [.int t_sights_width, .int t_sights_most, .ref t_sights_cells_h, .int t_sights_lines])), (t_sights_cells_h, .inl (cI, t_sights_cells_n, .inl t_sights_cells_a)), (L4_h, .inr (1, [.long L4_above, .long L4_below]))] H → va_D A [(t_h, .inr (6, [.ref t_settings_h, .ref t_sights_h, .ref t_shadows_h, .ref t_sightLow_h, .ref t_sightHigh_h, .ref t_shadowLow_h, .ref t_shadowHigh_h])), (t_settings_h, .inr (4, [.int t_settings_base, .int t_settings_slip, .int t_settings_low, .int t_settings_high, .int t_settings_unlike, .int t_settings_alone])), (t_sights_h, .inr (7, [.int t_sights_width, .int t_sights_most, .ref t_sights_cells_h, .int t_sights_lines])), (t_sights_cells_h, .inl (cI, t_sights_cells_n, .inl t_sights_cells_a)), (L4_h, .inr (1, [.long L4_above, .long L4_below]))] → va_S A s.heap H locs → lv_has ls 14 [(0, .ref t_h), (1, .int x1), (2, .int x2), (3, .int x3), (4, .ref L4_h)] → W p l e rmX6_putSightSpeed s m args below meth c H locs 0 0 Q (F0 m 51 ls [.int m79]) := by
        intro m79 he H locs ls hP hD hS hl
        cases he
        refine lv_istore (lv' := [(5, .int m7), (0, .ref t_h), (1, .int x1), (2, .int x2), (3, .int x3), (4, .ref L4_h)]) hx hb dX6_putSightSpeed_51 hl (by decide) rfl (fun ls hl => ?_)
        refine lv_iload hx hb dX6_putSightSpeed_53 (lv_at hl 0 rfl) ?_
        refine lv_iload_n hx hb dX6_putSightSpeed_55 rfl (lv_at hl 2 rfl) ?_
        obtain ⟨m11, hr12, hf⟩ := ob_some hf
        have hj13 : ∀ (m119 : Int32), some m119 = some m11 → ∀ (H : Heap) (locs : List Loc) (ls : Array Slot), va_P G vwCl [(t_h, .inr (6, [.ref t_settings_h, .ref t_sights_h, .ref t_shadows_h, .ref t_sightLow_h, .ref t_sightHigh_h, .ref t_shadowLow_h, .ref t_shadowHigh_h])), (t_settings_h, .inr (4, [.int t_settings_base, .int t_settings_slip, .int t_settings_low, .int t_settings_high, .int t_settings_unlike, .int t_settings_alone])), (t_sights_h, .inr (7, [.int t_sights_width, .int t_sights_most, .ref t_sights_cells_h, .int t_sights_lines])), (t_sights_cells_h, .inl (cI, t_sights_cells_n, .inl t_sights_cells_a)), (L4_h, .inr (1, [.long L4_above, .long L4_below]))] H → va_D A [(t_h, .inr (6, [.ref t_settings_h, .ref t_sights_h, .ref t_shadows_h, .ref t_sightLow_h, .ref t_sightHigh_h, .ref t_shadowLow_h, .ref t_shadowHigh_h])), (t_settings_h, .inr (4, [.int t_settings_base, .int t_settings_slip, .int t_settings_low, .int t_settings_high, .int t_settings_unlike, .int t_settings_alone])), (t_sights_h, .inr (7, [.int t_sights_width, .int t_sights_most, .ref t_sights_cells_h, .int t_sights_lines])), (t_sights_cells_h, .inl (cI, t_sights_cells_n, .inl t_sights_cells_a)), (L4_h, .inr (1, [.long L4_above, .long L4_below]))] → va_S A s.heap H locs → lv_has ls 14 [(0, .ref t_h), (1, .int x1), (2, .int x2), (3, .int x3), (4, .ref L4_h), (5, .int m7)] → W p l e rmX6_putSightSpeed s m args below meth c H locs 0 0 Q (F0 m 64 ls [.int m119]) := by
          intro m119 he H locs ls hP hD hS hl
          cases he
          refine lv_istore (lv' := [(6, .int m11), (0, .ref t_h), (1, .int x1), (2, .int x2), (3, .int x3), (4, .ref L4_h), (5, .int m7)]) hx hb dX6_putSightSpeed_64 hl (by decide) rfl (fun ls hl => ?_)
          refine lv_iload_n hx hb dX6_putSightSpeed_66 rfl (lv_at hl 4 rfl) ?_
          obtain ⟨r15, hc16, hf⟩ := ob_some hf
          refine af_iR (va_runS (As := [.int x3]) (rest := []) ⟨hx, hb, hml, hown, hts⟩ (k_X6_sideOf l G cI cJ (x0 := x3) (sz := _) (hf := hc16)) (va_cwS 1 hts gX6_putSightSpeed_X6_sideOf rfl rfl rfl (by decide +kernel) ⟨Nat.le_of_ble_eq_true rfl, Nat.le_of_ble_eq_true rfl⟩) (preS0 (wc := []) hK hP hD hN [] rfl rfl (by decide)) rfl rfl hl.1 rfl (lv_room (Nat.le_of_ble_eq_true rfl)) dX6_putSightSpeed_67 ⟨Nat.zero_le _, Nat.zero_le _⟩) hP hD hS hA [] rfl (fun H locs hP hS => ?_)
          refine lv_istore (lv' := [(7, .int r15), (6, .int m11), (0, .ref t_h), (1, .int x1), (2, .int x2), (3, .int x3), (4, .ref L4_h), (5, .int m7)]) hx hb dX6_putSightSpeed_70 hl (by decide) rfl (fun ls hl => ?_)
          refine lv_aload_n hx hb dX6_putSightSpeed_72 rfl (lv_at hl 2 rfl) ?_
          refine lv_iload hx hb dX6_putSightSpeed_73 (lv_at hl 7 rfl) ?_
          refine lv_iload hx hb dX6_putSightSpeed_75 (lv_at hl 0 rfl) ?_
          obtain ⟨r17, hc18, hf⟩ := ob_some hf
          refine af_lR (va_runV (As := [.int m7, .int r15]) (rest := []) ⟨hx, hb, hml, hown, hts⟩ (k_X6_gapAt l G cI cJ (t_h := t_h) (t_settings_h := t_settings_h) (t_sights_h := t_sights_h) (t_shadows_h := t_shadows_h) (t_sightLow_h := t_sightLow_h) (t_sightHigh_h := t_sightHigh_h) (t_shadowLow_h := t_shadowLow_h) (t_shadowHigh_h := t_shadowHigh_h) (t_sights_cells_h := t_sights_cells_h) (t_settings_base := t_settings_base) (t_settings_slip := t_settings_slip) (t_settings_low := t_settings_low) (t_settings_high := t_settings_high) (t_settings_unlike := t_settings_unlike) (t_settings_alone := t_settings_alone) (t_sights_width := t_sights_width) (t_sights_most := t_sights_most) (t_sights_lines := t_sights_lines) (t_sights_cells_n := t_sights_cells_n) (t_sights_cells_a := t_sights_cells_a) (x1 := m7) (x2 := r15) (sz := _) (hf := hc18)) (cwV 2 hts gX6_putSightSpeed_X6_gapAt rfl rfl rfl (by decide +kernel) ⟨Nat.le_of_ble_eq_true rfl, Nat.le_of_ble_eq_true rfl⟩) (preV0 (ci := 6) (q0 := 0) (C := RX6) (wc := [(t_h, .inr (6, [.ref t_settings_h, .ref t_sights_h, .ref t_shadows_h, .ref t_sightLow_h, .ref t_sightHigh_h, .ref t_shadowLow_h, .ref t_shadowHigh_h])), (t_settings_h, .inr (4, [.int t_settings_base, .int t_settings_slip, .int t_settings_low, .int t_settings_high, .int t_settings_unlike, .int t_settings_alone])), (t_sights_h, .inr (7, [.int t_sights_width, .int t_sights_most, .ref t_sights_cells_h, .int t_sights_lines])), (t_sights_cells_h, .inl (cI, t_sights_cells_n, .inl t_sights_cells_a))]) hK hP hD hN [0, 1, 2, 3] rfl rfl (by decide) rfl rfl) rfl rfl hl.1 rfl (lv_room (Nat.le_of_ble_eq_true rfl)) dX6_putSightSpeed_77 ⟨Nat.zero_le _, Nat.zero_le _⟩) hP hD hS hA [0, 1, 2, 3] rfl (fun H locs hP hS => ?_)
          refine lv_lstore (lv' := [(8, .long r17), (7, .int r15), (6, .int m11), (0, .ref t_h), (1, .int x1), (2, .int x2), (3, .int x3), (4, .ref L4_h), (5, .int m7)]) hx hb dX6_putSightSpeed_80 hl (by decide) rfl (fun ls hl => ?_)
          refine lv_aload_n hx hb dX6_putSightSpeed_82 rfl (lv_at hl 3 rfl) ?_
          refine lv_iload hx hb dX6_putSightSpeed_83 (lv_at hl 2 rfl) ?_
          refine lv_iload hx hb dX6_putSightSpeed_85 (lv_at hl 1 rfl) ?_
          refine lv_ineg hx hb dX6_putSightSpeed_87 ?_
          obtain ⟨r19, hc20, hf⟩ := ob_some hf
          refine af_lR (va_runV (As := [.int m11, .int (-r15)]) (rest := []) ⟨hx, hb, hml, hown, hts⟩ (k_X6_gapAt l G cI cJ (t_h := t_h) (t_settings_h := t_settings_h) (t_sights_h := t_sights_h) (t_shadows_h := t_shadows_h) (t_sightLow_h := t_sightLow_h) (t_sightHigh_h := t_sightHigh_h) (t_shadowLow_h := t_shadowLow_h) (t_shadowHigh_h := t_shadowHigh_h) (t_sights_cells_h := t_sights_cells_h) (t_settings_base := t_settings_base) (t_settings_slip := t_settings_slip) (t_settings_low := t_settings_low) (t_settings_high := t_settings_high) (t_settings_unlike := t_settings_unlike) (t_settings_alone := t_settings_alone) (t_sights_width := t_sights_width) (t_sights_most := t_sights_most) (t_sights_lines := t_sights_lines) (t_sights_cells_n := t_sights_cells_n) (t_sights_cells_a := t_sights_cells_a) (x1 := m11) (x2 := (-r15)) (sz := _) (hf := hc20)) (cwV 2 hts gX6_putSightSpeed_X6_gapAt rfl rfl rfl (by decide +kernel) ⟨Nat.le_of_ble_eq_true rfl, Nat.le_of_ble_eq_true rfl⟩) (preV0 (ci := 6) (q0 := 0) (C := RX6) (wc := [(t_h, .inr (6, [.ref t_settings_h, .ref t_sights_h, .ref t_shadows_h, .ref t_sightLow_h, .ref t_sightHigh_h, .ref t_shadowLow_h, .ref t_shadowHigh_h])), (t_settings_h, .inr (4, [.int t_settings_base, .int t_settings_slip, .int t_settings_low, .int t_settings_high, .int t_settings_unlike, .int t_settings_alone])), (t_sights_h, .inr (7, [.int t_sights_width, .int t_sights_most, .ref t_sights_cells_h, .int t_sights_lines])), (t_sights_cells_h, .inl (cI, t_sights_cells_n, .inl t_sights_cells_a))]) hK hP hD hN [0, 1, 2, 3] rfl rfl (by decide) rfl rfl) rfl rfl hl.1 rfl (lv_room (Nat.le_of_ble_eq_true rfl)) dX6_putSightSpeed_88 ⟨Nat.zero_le _, Nat.zero_le _⟩) hP hD hS hA [0, 1, 2, 3] rfl (fun H locs hP hS => ?_)
          refine lv_lstore (lv' := [(10, .long r19), (8, .long r17), (7, .int r15), (6, .int m11), (0, .ref t_h), (1, .int x1), (2, .int x2), (3, .int x3), (4, .ref L4_h), (5, .int m7)]) hx hb dX6_putSightSpeed_91 hl (by decide) rfl (fun ls hl => ?_)
          refine lv_aload_n hx hb dX6_putSightSpeed_93 rfl (lv_at hl 4 rfl) ?_
          refine lv_iload hx hb dX6_putSightSpeed_94 (lv_at hl 9 rfl) ?_
          refine lv_iload hx hb dX6_putSightSpeed_96 (lv_at hl 2 rfl) ?_
          obtain ⟨r21, hc22, hf⟩ := ob_some hf
          refine af_lR (va_runV (As := [.int m7, .int r15]) (rest := []) ⟨hx, hb, hml, hown, hts⟩ (k_X6_leanAt l G cI cJ (t_h := t_h) (t_settings_h := t_settings_h) (t_sights_h := t_sights_h) (t_shadows_h := t_shadows_h) (t_sightLow_h := t_sightLow_h) (t_sightHigh_h := t_sightHigh_h) (t_shadowLow_h := t_shadowLow_h) (t_shadowHigh_h := t_shadowHigh_h) (t_sights_cells_h := t_sights_cells_h) (t_settings_base := t_settings_base) (t_settings_slip := t_settings_slip) (t_settings_low := t_settings_low) (t_settings_high := t_settings_high) (t_settings_unlike := t_settings_unlike) (t_settings_alone := t_settings_alone) (t_sights_width := t_sights_width) (t_sights_most := t_sights_most) (t_sights_lines := t_sights_lines) (t_sights_cells_n := t_sights_cells_n) (t_sights_cells_a := t_sights_cells_a) (x1 := m7) (x2 := r15) (sz := _) (hf := hc22)) (cwV 2 hts gX6_putSightSpeed_X6_leanAt rfl rfl rfl (by decide +kernel) ⟨Nat.le_of_ble_eq_true rfl, Nat.le_of_ble_eq_true rfl⟩) (preV0 (ci := 6) (q0 := 0) (C := RX6) (wc := [(t_h, .inr (6, [.ref t_settings_h, .ref t_sights_h, .ref t_shadows_h, .ref t_sightLow_h, .ref t_sightHigh_h, .ref t_shadowLow_h, .ref t_shadowHigh_h])), (t_settings_h, .inr (4, [.int t_settings_base, .int t_settings_slip, .int t_settings_low, .int t_settings_high, .int t_settings_unlike, .int t_settings_alone])), (t_sights_h, .inr (7, [.int t_sights_width, .int t_sights_most, .ref t_sights_cells_h, .int t_sights_lines])), (t_sights_cells_h, .inl (cI, t_sights_cells_n, .inl t_sights_cells_a))]) hK hP hD hN [0, 1, 2, 3] rfl rfl (by decide) rfl rfl) rfl rfl hl.1 rfl (lv_room (Nat.le_of_ble_eq_true rfl)) dX6_putSightSpeed_98 ⟨Nat.zero_le _, Nat.zero_le _⟩) hP hD hS hA [0, 1, 2, 3] rfl (fun H locs hP hS => ?_)
          refine lv_lload hx hb dX6_putSightSpeed_101 (lv_at hl 0 rfl) ?_
          refine lv_lmul hx hb dX6_putSightSpeed_103 ?_
          refine lv_aload_n hx hb dX6_putSightSpeed_104 rfl (lv_at hl 4 rfl) ?_
          refine lv_iload hx hb dX6_putSightSpeed_105 (lv_at hl 3 rfl) ?_
          refine lv_iload hx hb dX6_putSightSpeed_107 (lv_at hl 2 rfl) ?_
          refine lv_ineg hx hb dX6_putSightSpeed_109 ?_
          obtain ⟨r23, hc24, hf⟩ := ob_some hf
          refine af_lR (va_runV (As := [.int m11, .int (-r15)]) (rest := [.long (r21 * r19)]) ⟨hx, hb, hml, hown, hts⟩ (k_X6_leanAt l G cI cJ (t_h := t_h) (t_settings_h := t_settings_h) (t_sights_h := t_sights_h) (t_shadows_h := t_shadows_h) (t_sightLow_h := t_sightLow_h) (t_sightHigh_h := t_sightHigh_h) (t_shadowLow_h := t_shadowLow_h) (t_shadowHigh_h := t_shadowHigh_h) (t_sights_cells_h := t_sights_cells_h) (t_settings_base := t_settings_base) (t_settings_slip := t_settings_slip) (t_settings_low := t_settings_low) (t_settings_high := t_settings_high) (t_settings_unlike := t_settings_unlike) (t_settings_alone := t_settings_alone) (t_sights_width := t_sights_width) (t_sights_most := t_sights_most) (t_sights_lines := t_sights_lines) (t_sights_cells_n := t_sights_cells_n) (t_sights_cells_a := t_sights_cells_a) (x1 := m11) (x2 := (-r15)) (sz := _) (hf := hc24)) (cwV 2 hts gX6_putSightSpeed_X6_leanAt rfl rfl rfl (by decide +kernel) ⟨Nat.le_of_ble_eq_true rfl, Nat.le_of_ble_eq_true rfl⟩) (preV0 (ci := 6) (q0 := 0) (C := RX6) (wc := [(t_h, .inr (6, [.ref t_settings_h, .ref t_sights_h, .ref t_shadows_h, .ref t_sightLow_h, .ref t_sightHigh_h, .ref t_shadowLow_h, .ref t_shadowHigh_h])), (t_settings_h, .inr (4, [.int t_settings_base, .int t_settings_slip, .int t_settings_low, .int t_settings_high, .int t_settings_unlike, .int t_settings_alone])), (t_sights_h, .inr (7, [.int t_sights_width, .int t_sights_most, .ref t_sights_cells_h, .int t_sights_lines])), (t_sights_cells_h, .inl (cI, t_sights_cells_n, .inl t_sights_cells_a))]) hK hP hD hN [0, 1, 2, 3] rfl rfl (by decide) rfl rfl) rfl rfl hl.1 rfl (lv_room (Nat.le_of_ble_eq_true rfl)) dX6_putSightSpeed_110 ⟨Nat.zero_le _, Nat.zero_le _⟩) hP hD hS hA [0, 1, 2, 3] rfl (fun H locs hP hS => ?_)
          refine lv_lload hx hb dX6_putSightSpeed_113 (lv_at hl 1 rfl) ?_
          refine lv_lmul hx hb dX6_putSightSpeed_115 ?_
          refine lv_lsub hx hb dX6_putSightSpeed_116 ?_
          refine lv_topl (fun v25 ev25 => ?_)
          have hf := bv_at ev25 hf
          refine lv_lstore (lv' := [(12, .long v25), (10, .long r19), (8, .long r17), (7, .int r15), (6, .int m11), (0, .ref t_h), (1, .int x1), (2, .int x2), (3, .int x3), (4, .ref L4_h), (5, .int m7)]) hx hb dX6_putSightSpeed_117 hl (by decide) rfl (fun ls hl => ?_)
          refine lv_aload hx hb dX6_putSightSpeed_119 (lv_at hl 9 rfl) ?_
          refine lv_aload_n hx hb dX6_putSightSpeed_121 rfl (lv_at hl 5 rfl) ?_
          refine va_get (D := G) (ci := 6) (v := .ref t_settings_h) (C := RX6) (T := TX6) (N := 7) hx hb hts iwX6 hown hK hP 0 rfl rfl 0 (by decide) fl_7 (fun _ h9 => h9) rfl dX6_putSightSpeed_122 ?_
          refine va_getN (D := G) (ci := 4) (v := .int t_settings_base) (C := RX4) (T := TX4) (N := 6) hx hb hts iwX4 hown hK hP 1 rfl rfl 0 (by decide) fl_73 (fun _ h9 => h9) rfl dX6_putSightSpeed_125 ?_
          refine lv_i2l (v := Int32.toInt64 t_settings_base) hx hb dX6_putSightSpeed_128 rfl ?_
          refine lv_lload hx hb dX6_putSightSpeed_129 (lv_at hl 0 rfl) ?_
          refine lv_lmul hx hb dX6_putSightSpeed_131 ?_
          refine lv_lload hx hb dX6_putSightSpeed_132 (lv_at hl 2 rfl) ?_
          refine lv_lload hx hb dX6_putSightSpeed_134 (lv_at hl 1 rfl) ?_
          refine lv_lmul hx hb dX6_putSightSpeed_136 ?_
          refine lv_aload_n hx hb dX6_putSightSpeed_137 rfl (lv_at hl 5 rfl) ?_
          refine va_get (D := G) (ci := 6) (v := .ref t_sights_h) (C := RX6) (T := TX6) (N := 7) hx hb hts iwX6 hown hK hP 0 rfl rfl 1 (by decide) fl_13 (fun _ h9 => h9) rfl dX6_putSightSpeed_138 ?_
          refine lv_iload_n hx hb dX6_putSightSpeed_141 rfl (lv_at hl 6 rfl) ?_
          refine lv_iload_n hx hb dX6_putSightSpeed_142 rfl (lv_at hl 7 rfl) ?_
          obtain ⟨r26, hc27, hf⟩ := ob_some hf
          refine af_iR (va_runS (As := [.ref t_sights_h, .int x1, .int x2]) (rest := [.long (r17 * r19), .long ((Int32.toInt64 t_settings_base) * v25), .ref L4_h]) ⟨hx, hb, hml, hown, hts⟩ (k_X6_minutesBetween l G cI cJ (L0_h := t_sights_h) (L0_cells_h := t_sights_cells_h) (L0_width := t_sights_width) (L0_most := t_sights_most) (L0_lines := t_sights_lines) (L0_cells_n := t_sights_cells_n) (L0_cells_a := t_sights_cells_a) (x1 := x1) (x2 := x2) (sz := _) (hf := hc27)) (va_cwS 3 hts gX6_putSightSpeed_X6_minutesBetween rfl rfl rfl (by decide +kernel) ⟨Nat.le_of_ble_eq_true rfl, Nat.le_of_ble_eq_true rfl⟩) (preS0 (wc := [(t_sights_h, .inr (7, [.int t_sights_width, .int t_sights_most, .ref t_sights_cells_h, .int t_sights_lines])), (t_sights_cells_h, .inl (cI, t_sights_cells_n, .inl t_sights_cells_a))]) hK hP hD hN [2, 3] rfl rfl (by decide)) rfl rfl hl.1 rfl (lv_room (Nat.le_of_ble_eq_true rfl)) dX6_putSightSpeed_143 ⟨Nat.zero_le _, Nat.zero_le _⟩) hP hD hS hA [2, 3] rfl (fun H locs hP hS => ?_)
          refine lv_i2l (v := Int32.toInt64 r26) hx hb dX6_putSightSpeed_146 rfl ?_
          refine lv_lmul hx hb dX6_putSightSpeed_147 ?_
          obtain ⟨w28, w29, hc30, hf⟩ := ob2_some hf
          refine af_vW (wr := [(t_h, .inr (6, [.ref t_settings_h, .ref t_sights_h, .ref t_shadows_h, .ref t_sightLow_h, .ref t_sightHigh_h, .ref t_shadowLow_h, .ref t_shadowHigh_h])), (t_settings_h, .inr (4, [.int t_settings_base, .int t_settings_slip, .int t_settings_low, .int t_settings_high, .int t_settings_unlike, .int t_settings_alone])), (t_sights_h, .inr (7, [.int t_sights_width, .int t_sights_most, .ref t_sights_cells_h, .int t_sights_lines])), (t_sights_cells_h, .inl (cI, t_sights_cells_n, .inl t_sights_cells_a))]) (ws2 := [(t_h, .inr (6, [.ref t_settings_h, .ref t_sights_h, .ref t_shadows_h, .ref t_sightLow_h, .ref t_sightHigh_h, .ref t_shadowLow_h, .ref t_shadowHigh_h])), (t_settings_h, .inr (4, [.int t_settings_base, .int t_settings_slip, .int t_settings_low, .int t_settings_high, .int t_settings_unlike, .int t_settings_alone])), (t_sights_h, .inr (7, [.int t_sights_width, .int t_sights_most, .ref t_sights_cells_h, .int t_sights_lines])), (t_sights_cells_h, .inl (cI, t_sights_cells_n, .inl t_sights_cells_a)), (L4_h, .inr (1, [.long w28, .long w29]))]) (va_runV (As := [.long ((Int32.toInt64 t_settings_base) * v25), .long ((r17 * r19) * (Int32.toInt64 r26))]) (rest := []) ⟨hx, hb, hml, hown, hts⟩ (k_X1_put l G cI cJ (t_h := L4_h) (t_above := L4_above) (t_below := L4_below) (x1 := ((Int32.toInt64 t_settings_base) * v25)) (x3 := ((r17 * r19) * (Int32.toInt64 r26))) (sz := _) (hf := hc30)) (cwV 2 hts gX6_putSightSpeed_X1_put rfl rfl rfl (by decide +kernel) ⟨Nat.le_of_ble_eq_true rfl, Nat.le_of_ble_eq_true rfl⟩) (preV0 (ci := 1) (q0 := 0) (C := RX1) (wc := [(L4_h, .inr (1, [.long L4_above, .long L4_below]))]) hK hP hD hN [4] rfl rfl (by decide) rfl rfl) rfl rfl hl.1 rfl (lv_room (Nat.le_of_ble_eq_true rfl)) dX6_putSightSpeed_148 ⟨Nat.zero_le _, Nat.zero_le _⟩) hP hD hS hA [4] [0, 1, 2, 3] [0, 1, 2, 3, 4] rfl rfl (by decide) (by decide) rfl rfl (by decide) (fun H locs hP hD hS => ?_)
          refine lv_iconst (v := 1) hx hb dX6_putSightSpeed_151 (by decide) ?_
          exact hret true w28 w29 152 _ _ _ dX6_putSightSpeed_152 hf hP hD hS
        replace hf := hr12
        refine lv_icmp_ne (tgt := 63) hx hb dX6_putSightSpeed_56 (by decide) (fun c14 => ?_) (fun c14 => ?_)
        · have hf := iff_ hf c14
          refine lv_iload_n hx hb dX6_putSightSpeed_63 rfl (lv_at hl 2 rfl) ?_
          exact hj13 _ hf _ _ _ hP hD hS (lv_sub hl [1, 2, 3, 4, 5, 0] rfl)
        · have hf := ift hf c14
          refine lv_iload_n hx hb dX6_putSightSpeed_59 rfl (lv_at hl 3 rfl) ?_
          refine lv_goto (tgt := 64) hx hb dX6_putSightSpeed_60 (by decide) ?_
          exact hj13 _ hf _ _ _ hP hD hS (lv_sub hl [1, 2, 3, 4, 5, 0] rfl)
      replace hf := hr8
      refine lv_if_eq (tgt := 50) hx hb dX6_putSightSpeed_43 (by decide) (fun c10 => ?_) (fun c10 => ?_)
      · have hf := ift hf c10
        refine lv_iload_n hx hb dX6_putSightSpeed_50 rfl (lv_at hl 2 rfl) ?_
        exact hj9 _ hf _ _ _ hP hD hS (lv_sub hl [0, 1, 2, 3, 4] rfl)
      · have hf := iff_ hf c10
        refine lv_iload_n hx hb dX6_putSightSpeed_46 rfl (lv_at hl 1 rfl) ?_
        refine lv_goto (tgt := 51) hx hb dX6_putSightSpeed_47 (by decide) ?_
        exact hj9 _ hf _ _ _ hP hD hS (lv_sub hl [0, 1, 2, 3, 4] rfl)
    · have hf := ift hf c4
      refine lv_iconst (v := 0) hx hb dX6_putSightSpeed_32 (by decide) ?_
      exact hret false L4_above L4_below 33 _ _ _ dX6_putSightSpeed_33 hf hP hD hS
  · have hf := ift hf c1
    refine lv_aload_n hx hb dX6_putSightSpeed_4 rfl (lv_at hl 0 rfl) ?_
    refine lv_iload_n hx hb dX6_putSightSpeed_5 rfl (lv_at hl 1 rfl) ?_
    obtain ⟨r31, hc32, hf⟩ := ob_some hf
    refine af_iR (va_runV (As := [.int x1]) (rest := []) ⟨hx, hb, hml, hown, hts⟩ (k_X6_gapOf l G cI cJ (t_h := t_h) (t_settings_h := t_settings_h) (t_sights_h := t_sights_h) (t_shadows_h := t_shadows_h) (t_sightLow_h := t_sightLow_h) (t_sightHigh_h := t_sightHigh_h) (t_shadowLow_h := t_shadowLow_h) (t_shadowHigh_h := t_shadowHigh_h) (t_sights_cells_h := t_sights_cells_h) (t_sights_width := t_sights_width) (t_sights_most := t_sights_most) (t_sights_lines := t_sights_lines) (t_sights_cells_n := t_sights_cells_n) (t_sights_cells_a := t_sights_cells_a) (x1 := x1) (sz := _) (hf := hc32)) (cwV 1 hts gX6_putSightSpeed_X6_gapOf rfl rfl rfl (by decide +kernel) ⟨Nat.le_of_ble_eq_true rfl, Nat.le_of_ble_eq_true rfl⟩) (preV0 (ci := 6) (q0 := 0) (C := RX6) (wc := [(t_h, .inr (6, [.ref t_settings_h, .ref t_sights_h, .ref t_shadows_h, .ref t_sightLow_h, .ref t_sightHigh_h, .ref t_shadowLow_h, .ref t_shadowHigh_h])), (t_sights_h, .inr (7, [.int t_sights_width, .int t_sights_most, .ref t_sights_cells_h, .int t_sights_lines])), (t_sights_cells_h, .inl (cI, t_sights_cells_n, .inl t_sights_cells_a))]) hK hP hD hN [0, 2, 3] rfl rfl (by decide) rfl rfl) rfl rfl hl.1 rfl (lv_room (Nat.le_of_ble_eq_true rfl)) dX6_putSightSpeed_6 ⟨Nat.zero_le _, Nat.zero_le _⟩) hP hD hS hA [0, 2, 3] rfl (fun H locs hP hS => ?_)
    refine lv_if_le (tgt := 32) hx hb dX6_putSightSpeed_9 (by decide) (fun c33 => ?_) (fun c33 => ?_)
    · have hf := ift hf c33
      refine lv_iconst (v := 0) hx hb dX6_putSightSpeed_32 (by decide) ?_
      exact hret false L4_above L4_below 33 _ _ _ dX6_putSightSpeed_33 hf hP hD hS
    · have hf := iff_ hf c33
      refine lv_aload_n hx hb dX6_putSightSpeed_12 rfl (lv_at hl 0 rfl) ?_
      refine lv_iload_n hx hb dX6_putSightSpeed_13 rfl (lv_at hl 2 rfl) ?_
      obtain ⟨r34, hc35, hf⟩ := ob_some hf
      refine af_iR (va_runV (As := [.int x2]) (rest := []) ⟨hx, hb, hml, hown, hts⟩ (k_X6_gapOf l G cI cJ (t_h := t_h) (t_settings_h := t_settings_h) (t_sights_h := t_sights_h) (t_shadows_h := t_shadows_h) (t_sightLow_h := t_sightLow_h) (t_sightHigh_h := t_sightHigh_h) (t_shadowLow_h := t_shadowLow_h) (t_shadowHigh_h := t_shadowHigh_h) (t_sights_cells_h := t_sights_cells_h) (t_sights_width := t_sights_width) (t_sights_most := t_sights_most) (t_sights_lines := t_sights_lines) (t_sights_cells_n := t_sights_cells_n) (t_sights_cells_a := t_sights_cells_a) (x1 := x2) (sz := _) (hf := hc35)) (cwV 1 hts gX6_putSightSpeed_X6_gapOf rfl rfl rfl (by decide +kernel) ⟨Nat.le_of_ble_eq_true rfl, Nat.le_of_ble_eq_true rfl⟩) (preV0 (ci := 6) (q0 := 0) (C := RX6) (wc := [(t_h, .inr (6, [.ref t_settings_h, .ref t_sights_h, .ref t_shadows_h, .ref t_sightLow_h, .ref t_sightHigh_h, .ref t_shadowLow_h, .ref t_shadowHigh_h])), (t_sights_h, .inr (7, [.int t_sights_width, .int t_sights_most, .ref t_sights_cells_h, .int t_sights_lines])), (t_sights_cells_h, .inl (cI, t_sights_cells_n, .inl t_sights_cells_a))]) hK hP hD hN [0, 2, 3] rfl rfl (by decide) rfl rfl) rfl rfl hl.1 rfl (lv_room (Nat.le_of_ble_eq_true rfl)) dX6_putSightSpeed_14 ⟨Nat.zero_le _, Nat.zero_le _⟩) hP hD hS hA [0, 2, 3] rfl (fun H locs hP hS => ?_)
      refine lv_if_gt (tgt := 34) hx hb dX6_putSightSpeed_17 (by decide) (fun c36 => ?_) (fun c36 => ?_)
      · have hf := ift hf c36
        refine lv_aload_n hx hb dX6_putSightSpeed_34 rfl (lv_at hl 0 rfl) ?_
        refine va_get (D := G) (ci := 6) (v := .ref t_sights_h) (C := RX6) (T := TX6) (N := 7) hx hb hts iwX6 hown hK hP 0 rfl rfl 1 (by decide) fl_13 (fun _ h9 => h9) rfl dX6_putSightSpeed_35 ?_
        refine lv_iload_n hx hb dX6_putSightSpeed_38 rfl (lv_at hl 1 rfl) ?_
        refine lv_iload_n hx hb dX6_putSightSpeed_39 rfl (lv_at hl 2 rfl) ?_
        obtain ⟨r37, hc38, hf⟩ := ob_some hf
        refine af_iR (va_runS (As := [.ref t_sights_h, .int x1, .int x2]) (rest := []) ⟨hx, hb, hml, hown, hts⟩ (k_X6_isLater l G cI cJ (L0_h := t_sights_h) (L0_cells_h := t_sights_cells_h) (L0_width := t_sights_width) (L0_most := t_sights_most) (L0_lines := t_sights_lines) (L0_cells_n := t_sights_cells_n) (L0_cells_a := t_sights_cells_a) (x1 := x1) (x2 := x2) (sz := _) (hf := hc38)) (va_cwS 3 hts gX6_putSightSpeed_X6_isLater rfl rfl rfl (by decide +kernel) ⟨Nat.le_of_ble_eq_true rfl, Nat.le_of_ble_eq_true rfl⟩) (preS0 (wc := [(t_sights_h, .inr (7, [.int t_sights_width, .int t_sights_most, .ref t_sights_cells_h, .int t_sights_lines])), (t_sights_cells_h, .inl (cI, t_sights_cells_n, .inl t_sights_cells_a))]) hK hP hD hN [2, 3] rfl rfl (by decide)) rfl rfl hl.1 rfl (lv_room (Nat.le_of_ble_eq_true rfl)) dX6_putSightSpeed_40 ⟨Nat.zero_le _, Nat.zero_le _⟩) hP hD hS hA [2, 3] rfl (fun H locs hP hS => ?_)
        obtain ⟨m39, hr40, hf⟩ := ob_some hf
        have hj41 : ∀ (m399 : Int32), some m399 = some m39 → ∀ (H : Heap) (locs : List Loc) (ls : Array Slot), va_P G vwCl [(t_h, .inr (6, [.ref t_settings_h, .ref t_sights_h, .ref t_shadows_h, .ref t_sightLow_h, .ref t_sightHigh_h, .ref t_shadowLow_h, .ref t_shadowHigh_h])), (t_settings_h, .inr (4, [.int t_settings_base, .int t_settings_slip, .int t_settings_low, .int t_settings_high, .int t_settings_unlike, .int t_settings_alone])), (t_sights_h, .inr (7, [.int t_sights_width, .int t_sights_most, .ref t_sights_cells_h, .int t_sights_lines])), (t_sights_cells_h, .inl (cI, t_sights_cells_n, .inl t_sights_cells_a)), (L4_h, .inr (1, [.long L4_above, .long L4_below]))] H → va_D A [(t_h, .inr (6, [.ref t_settings_h, .ref t_sights_h, .ref t_shadows_h, .ref t_sightLow_h, .ref t_sightHigh_h, .ref t_shadowLow_h, .ref t_shadowHigh_h])), (t_settings_h, .inr (4, [.int t_settings_base, .int t_settings_slip, .int t_settings_low, .int t_settings_high, .int t_settings_unlike, .int t_settings_alone])), (t_sights_h, .inr (7, [.int t_sights_width, .int t_sights_most, .ref t_sights_cells_h, .int t_sights_lines])), (t_sights_cells_h, .inl (cI, t_sights_cells_n, .inl t_sights_cells_a)), (L4_h, .inr (1, [.long L4_above, .long L4_below]))] → va_S A s.heap H locs → lv_has ls 14 [(0, .ref t_h), (1, .int x1), (2, .int x2), (3, .int x3), (4, .ref L4_h)] → W p l e rmX6_putSightSpeed s m args below meth c H locs 0 0 Q (F0 m 51 ls [.int m399]) := by
          intro m399 he H locs ls hP hD hS hl
          cases he
          refine lv_istore (lv' := [(5, .int m39), (0, .ref t_h), (1, .int x1), (2, .int x2), (3, .int x3), (4, .ref L4_h)]) hx hb dX6_putSightSpeed_51 hl (by decide) rfl (fun ls hl => ?_)
          refine lv_iload hx hb dX6_putSightSpeed_53 (lv_at hl 0 rfl) ?_
          refine lv_iload_n hx hb dX6_putSightSpeed_55 rfl (lv_at hl 2 rfl) ?_
          obtain ⟨m43, hr44, hf⟩ := ob_some hf
          have hj45 : ∀ (m439 : Int32), some m439 = some m43 → ∀ (H : Heap) (locs : List Loc) (ls : Array Slot), va_P G vwCl [(t_h, .inr (6, [.ref t_settings_h, .ref t_sights_h, .ref t_shadows_h, .ref t_sightLow_h, .ref t_sightHigh_h, .ref t_shadowLow_h, .ref t_shadowHigh_h])), (t_settings_h, .inr (4, [.int t_settings_base, .int t_settings_slip, .int t_settings_low, .int t_settings_high, .int t_settings_unlike, .int t_settings_alone])), (t_sights_h, .inr (7, [.int t_sights_width, .int t_sights_most, .ref t_sights_cells_h, .int t_sights_lines])), (t_sights_cells_h, .inl (cI, t_sights_cells_n, .inl t_sights_cells_a)), (L4_h, .inr (1, [.long L4_above, .long L4_below]))] H → va_D A [(t_h, .inr (6, [.ref t_settings_h, .ref t_sights_h, .ref t_shadows_h, .ref t_sightLow_h, .ref t_sightHigh_h, .ref t_shadowLow_h, .ref t_shadowHigh_h])), (t_settings_h, .inr (4, [.int t_settings_base, .int t_settings_slip, .int t_settings_low, .int t_settings_high, .int t_settings_unlike, .int t_settings_alone])), (t_sights_h, .inr (7, [.int t_sights_width, .int t_sights_most, .ref t_sights_cells_h, .int t_sights_lines])), (t_sights_cells_h, .inl (cI, t_sights_cells_n, .inl t_sights_cells_a)), (L4_h, .inr (1, [.long L4_above, .long L4_below]))] → va_S A s.heap H locs → lv_has ls 14 [(0, .ref t_h), (1, .int x1), (2, .int x2), (3, .int x3), (4, .ref L4_h), (5, .int m39)] → W p l e rmX6_putSightSpeed s m args below meth c H locs 0 0 Q (F0 m 64 ls [.int m439]) := by
            intro m439 he H locs ls hP hD hS hl
            cases he
            refine lv_istore (lv' := [(6, .int m43), (0, .ref t_h), (1, .int x1), (2, .int x2), (3, .int x3), (4, .ref L4_h), (5, .int m39)]) hx hb dX6_putSightSpeed_64 hl (by decide) rfl (fun ls hl => ?_)
            refine lv_iload_n hx hb dX6_putSightSpeed_66 rfl (lv_at hl 4 rfl) ?_
            obtain ⟨r47, hc48, hf⟩ := ob_some hf
            refine af_iR (va_runS (As := [.int x3]) (rest := []) ⟨hx, hb, hml, hown, hts⟩ (k_X6_sideOf l G cI cJ (x0 := x3) (sz := _) (hf := hc48)) (va_cwS 1 hts gX6_putSightSpeed_X6_sideOf rfl rfl rfl (by decide +kernel) ⟨Nat.le_of_ble_eq_true rfl, Nat.le_of_ble_eq_true rfl⟩) (preS0 (wc := []) hK hP hD hN [] rfl rfl (by decide)) rfl rfl hl.1 rfl (lv_room (Nat.le_of_ble_eq_true rfl)) dX6_putSightSpeed_67 ⟨Nat.zero_le _, Nat.zero_le _⟩) hP hD hS hA [] rfl (fun H locs hP hS => ?_)
            refine lv_istore (lv' := [(7, .int r47), (6, .int m43), (0, .ref t_h), (1, .int x1), (2, .int x2), (3, .int x3), (4, .ref L4_h), (5, .int m39)]) hx hb dX6_putSightSpeed_70 hl (by decide) rfl (fun ls hl => ?_)
            refine lv_aload_n hx hb dX6_putSightSpeed_72 rfl (lv_at hl 2 rfl) ?_
            refine lv_iload hx hb dX6_putSightSpeed_73 (lv_at hl 7 rfl) ?_
            refine lv_iload hx hb dX6_putSightSpeed_75 (lv_at hl 0 rfl) ?_
            obtain ⟨r49, hc50, hf⟩ := ob_some hf
            refine af_lR (va_runV (As := [.int m39, .int r47]) (rest := []) ⟨hx, hb, hml, hown, hts⟩ (k_X6_gapAt l G cI cJ (t_h := t_h) (t_settings_h := t_settings_h) (t_sights_h := t_sights_h) (t_shadows_h := t_shadows_h) (t_sightLow_h := t_sightLow_h) (t_sightHigh_h := t_sightHigh_h) (t_shadowLow_h := t_shadowLow_h) (t_shadowHigh_h := t_shadowHigh_h) (t_sights_cells_h := t_sights_cells_h) (t_settings_base := t_settings_base) (t_settings_slip := t_settings_slip) (t_settings_low := t_settings_low) (t_settings_high := t_settings_high) (t_settings_unlike := t_settings_unlike) (t_settings_alone := t_settings_alone) (t_sights_width := t_sights_width) (t_sights_most := t_sights_most) (t_sights_lines := t_sights_lines) (t_sights_cells_n := t_sights_cells_n) (t_sights_cells_a := t_sights_cells_a) (x1 := m39) (x2 := r47) (sz := _) (hf := hc50)) (cwV 2 hts gX6_putSightSpeed_X6_gapAt rfl rfl rfl (by decide +kernel) ⟨Nat.le_of_ble_eq_true rfl, Nat.le_of_ble_eq_true rfl⟩) (preV0 (ci := 6) (q0 := 0) (C := RX6) (wc := [(t_h, .inr (6, [.ref t_settings_h, .ref t_sights_h, .ref t_shadows_h, .ref t_sightLow_h, .ref t_sightHigh_h, .ref t_shadowLow_h, .ref t_shadowHigh_h])), (t_settings_h, .inr (4, [.int t_settings_base, .int t_settings_slip, .int t_settings_low, .int t_settings_high, .int t_settings_unlike, .int t_settings_alone])), (t_sights_h, .inr (7, [.int t_sights_width, .int t_sights_most, .ref t_sights_cells_h, .int t_sights_lines])), (t_sights_cells_h, .inl (cI, t_sights_cells_n, .inl t_sights_cells_a))]) hK hP hD hN [0, 1, 2, 3] rfl rfl (by decide) rfl rfl) rfl rfl hl.1 rfl (lv_room (Nat.le_of_ble_eq_true rfl)) dX6_putSightSpeed_77 ⟨Nat.zero_le _, Nat.zero_le _⟩) hP hD hS hA [0, 1, 2, 3] rfl (fun H locs hP hS => ?_)
            refine lv_lstore (lv' := [(8, .long r49), (7, .int r47), (6, .int m43), (0, .ref t_h), (1, .int x1), (2, .int x2), (3, .int x3), (4, .ref L4_h), (5, .int m39)]) hx hb dX6_putSightSpeed_80 hl (by decide) rfl (fun ls hl => ?_)
            refine lv_aload_n hx hb dX6_putSightSpeed_82 rfl (lv_at hl 3 rfl) ?_
            refine lv_iload hx hb dX6_putSightSpeed_83 (lv_at hl 2 rfl) ?_
            refine lv_iload hx hb dX6_putSightSpeed_85 (lv_at hl 1 rfl) ?_
            refine lv_ineg hx hb dX6_putSightSpeed_87 ?_
            obtain ⟨r51, hc52, hf⟩ := ob_some hf
            refine af_lR (va_runV (As := [.int m43, .int (-r47)]) (rest := []) ⟨hx, hb, hml, hown, hts⟩ (k_X6_gapAt l G cI cJ (t_h := t_h) (t_settings_h := t_settings_h) (t_sights_h := t_sights_h) (t_shadows_h := t_shadows_h) (t_sightLow_h := t_sightLow_h) (t_sightHigh_h := t_sightHigh_h) (t_shadowLow_h := t_shadowLow_h) (t_shadowHigh_h := t_shadowHigh_h) (t_sights_cells_h := t_sights_cells_h) (t_settings_base := t_settings_base) (t_settings_slip := t_settings_slip) (t_settings_low := t_settings_low) (t_settings_high := t_settings_high) (t_settings_unlike := t_settings_unlike) (t_settings_alone := t_settings_alone) (t_sights_width := t_sights_width) (t_sights_most := t_sights_most) (t_sights_lines := t_sights_lines) (t_sights_cells_n := t_sights_cells_n) (t_sights_cells_a := t_sights_cells_a) (x1 := m43) (x2 := (-r47)) (sz := _) (hf := hc52)) (cwV 2 hts gX6_putSightSpeed_X6_gapAt rfl rfl rfl (by decide +kernel) ⟨Nat.le_of_ble_eq_true rfl, Nat.le_of_ble_eq_true rfl⟩) (preV0 (ci := 6) (q0 := 0) (C := RX6) (wc := [(t_h, .inr (6, [.ref t_settings_h, .ref t_sights_h, .ref t_shadows_h, .ref t_sightLow_h, .ref t_sightHigh_h, .ref t_shadowLow_h, .ref t_shadowHigh_h])), (t_settings_h, .inr (4, [.int t_settings_base, .int t_settings_slip, .int t_settings_low, .int t_settings_high, .int t_settings_unlike, .int t_settings_alone])), (t_sights_h, .inr (7, [.int t_sights_width, .int t_sights_most, .ref t_sights_cells_h, .int t_sights_lines])), (t_sights_cells_h, .inl (cI, t_sights_cells_n, .inl t_sights_cells_a))]) hK hP hD hN [0, 1, 2, 3] rfl rfl (by decide) rfl rfl) rfl rfl hl.1 rfl (lv_room (Nat.le_of_ble_eq_true rfl)) dX6_putSightSpeed_88 ⟨Nat.zero_le _, Nat.zero_le _⟩) hP hD hS hA [0, 1, 2, 3] rfl (fun H locs hP hS => ?_)
            refine lv_lstore (lv' := [(10, .long r51), (8, .long r49), (7, .int r47), (6, .int m43), (0, .ref t_h), (1, .int x1), (2, .int x2), (3, .int x3), (4, .ref L4_h), (5, .int m39)]) hx hb dX6_putSightSpeed_91 hl (by decide) rfl (fun ls hl => ?_)
            refine lv_aload_n hx hb dX6_putSightSpeed_93 rfl (lv_at hl 4 rfl) ?_
            refine lv_iload hx hb dX6_putSightSpeed_94 (lv_at hl 9 rfl) ?_
            refine lv_iload hx hb dX6_putSightSpeed_96 (lv_at hl 2 rfl) ?_
            obtain ⟨r53, hc54, hf⟩ := ob_some hf
            refine af_lR (va_runV (As := [.int m39, .int r47]) (rest := []) ⟨hx, hb, hml, hown, hts⟩ (k_X6_leanAt l G cI cJ (t_h := t_h) (t_settings_h := t_settings_h) (t_sights_h := t_sights_h) (t_shadows_h := t_shadows_h) (t_sightLow_h := t_sightLow_h) (t_sightHigh_h := t_sightHigh_h) (t_shadowLow_h := t_shadowLow_h) (t_shadowHigh_h := t_shadowHigh_h) (t_sights_cells_h := t_sights_cells_h) (t_settings_base := t_settings_base) (t_settings_slip := t_settings_slip) (t_settings_low := t_settings_low) (t_settings_high := t_settings_high) (t_settings_unlike := t_settings_unlike) (t_settings_alone := t_settings_alone) (t_sights_width := t_sights_width) (t_sights_most := t_sights_most) (t_sights_lines := t_sights_lines) (t_sights_cells_n := t_sights_cells_n) (t_sights_cells_a := t_sights_cells_a) (x1 := m39) (x2 := r47) (sz := _) (hf := hc54)) (cwV 2 hts gX6_putSightSpeed_X6_leanAt rfl rfl rfl (by decide +kernel) ⟨Nat.le_of_ble_eq_true rfl, Nat.le_of_ble_eq_true rfl⟩) (preV0 (ci := 6) (q0 := 0) (C := RX6) (wc := [(t_h, .inr (6, [.ref t_settings_h, .ref t_sights_h, .ref t_shadows_h, .ref t_sightLow_h, .ref t_sightHigh_h, .ref t_shadowLow_h, .ref t_shadowHigh_h])), (t_settings_h, .inr (4, [.int t_settings_base, .int t_settings_slip, .int t_settings_low, .int t_settings_high, .int t_settings_unlike, .int t_settings_alone])), (t_sights_h, .inr (7, [.int t_sights_width, .int t_sights_most, .ref t_sights_cells_h, .int t_sights_lines])), (t_sights_cells_h, .inl (cI, t_sights_cells_n, .inl t_sights_cells_a))]) hK hP hD hN [0, 1, 2, 3] rfl rfl (by decide) rfl rfl) rfl rfl hl.1 rfl (lv_room (Nat.le_of_ble_eq_true rfl)) dX6_putSightSpeed_98 ⟨Nat.zero_le _, Nat.zero_le _⟩) hP hD hS hA [0, 1, 2, 3] rfl (fun H locs hP hS => ?_)
            refine lv_lload hx hb dX6_putSightSpeed_101 (lv_at hl 0 rfl) ?_
            refine lv_lmul hx hb dX6_putSightSpeed_103 ?_
            refine lv_aload_n hx hb dX6_putSightSpeed_104 rfl (lv_at hl 4 rfl) ?_
            refine lv_iload hx hb dX6_putSightSpeed_105 (lv_at hl 3 rfl) ?_
            refine lv_iload hx hb dX6_putSightSpeed_107 (lv_at hl 2 rfl) ?_
            refine lv_ineg hx hb dX6_putSightSpeed_109 ?_
            obtain ⟨r55, hc56, hf⟩ := ob_some hf
            refine af_lR (va_runV (As := [.int m43, .int (-r47)]) (rest := [.long (r53 * r51)]) ⟨hx, hb, hml, hown, hts⟩ (k_X6_leanAt l G cI cJ (t_h := t_h) (t_settings_h := t_settings_h) (t_sights_h := t_sights_h) (t_shadows_h := t_shadows_h) (t_sightLow_h := t_sightLow_h) (t_sightHigh_h := t_sightHigh_h) (t_shadowLow_h := t_shadowLow_h) (t_shadowHigh_h := t_shadowHigh_h) (t_sights_cells_h := t_sights_cells_h) (t_settings_base := t_settings_base) (t_settings_slip := t_settings_slip) (t_settings_low := t_settings_low) (t_settings_high := t_settings_high) (t_settings_unlike := t_settings_unlike) (t_settings_alone := t_settings_alone) (t_sights_width := t_sights_width) (t_sights_most := t_sights_most) (t_sights_lines := t_sights_lines) (t_sights_cells_n := t_sights_cells_n) (t_sights_cells_a := t_sights_cells_a) (x1 := m43) (x2 := (-r47)) (sz := _) (hf := hc56)) (cwV 2 hts gX6_putSightSpeed_X6_leanAt rfl rfl rfl (by decide +kernel) ⟨Nat.le_of_ble_eq_true rfl, Nat.le_of_ble_eq_true rfl⟩) (preV0 (ci := 6) (q0 := 0) (C := RX6) (wc := [(t_h, .inr (6, [.ref t_settings_h, .ref t_sights_h, .ref t_shadows_h, .ref t_sightLow_h, .ref t_sightHigh_h, .ref t_shadowLow_h, .ref t_shadowHigh_h])), (t_settings_h, .inr (4, [.int t_settings_base, .int t_settings_slip, .int t_settings_low, .int t_settings_high, .int t_settings_unlike, .int t_settings_alone])), (t_sights_h, .inr (7, [.int t_sights_width, .int t_sights_most, .ref t_sights_cells_h, .int t_sights_lines])), (t_sights_cells_h, .inl (cI, t_sights_cells_n, .inl t_sights_cells_a))]) hK hP hD hN [0, 1, 2, 3] rfl rfl (by decide) rfl rfl) rfl rfl hl.1 rfl (lv_room (Nat.le_of_ble_eq_true rfl)) dX6_putSightSpeed_110 ⟨Nat.zero_le _, Nat.zero_le _⟩) hP hD hS hA [0, 1, 2, 3] rfl (fun H locs hP hS => ?_)
            refine lv_lload hx hb dX6_putSightSpeed_113 (lv_at hl 1 rfl) ?_
            refine lv_lmul hx hb dX6_putSightSpeed_115 ?_
            refine lv_lsub hx hb dX6_putSightSpeed_116 ?_
            refine lv_topl (fun v57 ev57 => ?_)
            have hf := bv_at ev57 hf
            refine lv_lstore (lv' := [(12, .long v57), (10, .long r51), (8, .long r49), (7, .int r47), (6, .int m43), (0, .ref t_h), (1, .int x1), (2, .int x2), (3, .int x3), (4, .ref L4_h), (5, .int m39)]) hx hb dX6_putSightSpeed_117 hl (by decide) rfl (fun ls hl => ?_)
            refine lv_aload hx hb dX6_putSightSpeed_119 (lv_at hl 9 rfl) ?_
            refine lv_aload_n hx hb dX6_putSightSpeed_121 rfl (lv_at hl 5 rfl) ?_
            refine va_get (D := G) (ci := 6) (v := .ref t_settings_h) (C := RX6) (T := TX6) (N := 7) hx hb hts iwX6 hown hK hP 0 rfl rfl 0 (by decide) fl_7 (fun _ h9 => h9) rfl dX6_putSightSpeed_122 ?_
            refine va_getN (D := G) (ci := 4) (v := .int t_settings_base) (C := RX4) (T := TX4) (N := 6) hx hb hts iwX4 hown hK hP 1 rfl rfl 0 (by decide) fl_73 (fun _ h9 => h9) rfl dX6_putSightSpeed_125 ?_
            refine lv_i2l (v := Int32.toInt64 t_settings_base) hx hb dX6_putSightSpeed_128 rfl ?_
            refine lv_lload hx hb dX6_putSightSpeed_129 (lv_at hl 0 rfl) ?_
            refine lv_lmul hx hb dX6_putSightSpeed_131 ?_
            refine lv_lload hx hb dX6_putSightSpeed_132 (lv_at hl 2 rfl) ?_
            refine lv_lload hx hb dX6_putSightSpeed_134 (lv_at hl 1 rfl) ?_
            refine lv_lmul hx hb dX6_putSightSpeed_136 ?_
            refine lv_aload_n hx hb dX6_putSightSpeed_137 rfl (lv_at hl 5 rfl) ?_
            refine va_get (D := G) (ci := 6) (v := .ref t_sights_h) (C := RX6) (T := TX6) (N := 7) hx hb hts iwX6 hown hK hP 0 rfl rfl 1 (by decide) fl_13 (fun _ h9 => h9) rfl dX6_putSightSpeed_138 ?_
            refine lv_iload_n hx hb dX6_putSightSpeed_141 rfl (lv_at hl 6 rfl) ?_
            refine lv_iload_n hx hb dX6_putSightSpeed_142 rfl (lv_at hl 7 rfl) ?_
            obtain ⟨r58, hc59, hf⟩ := ob_some hf
            refine af_iR (va_runS (As := [.ref t_sights_h, .int x1, .int x2]) (rest := [.long (r49 * r51), .long ((Int32.toInt64 t_settings_base) * v57), .ref L4_h]) ⟨hx, hb, hml, hown, hts⟩ (k_X6_minutesBetween l G cI cJ (L0_h := t_sights_h) (L0_cells_h := t_sights_cells_h) (L0_width := t_sights_width) (L0_most := t_sights_most) (L0_lines := t_sights_lines) (L0_cells_n := t_sights_cells_n) (L0_cells_a := t_sights_cells_a) (x1 := x1) (x2 := x2) (sz := _) (hf := hc59)) (va_cwS 3 hts gX6_putSightSpeed_X6_minutesBetween rfl rfl rfl (by decide +kernel) ⟨Nat.le_of_ble_eq_true rfl, Nat.le_of_ble_eq_true rfl⟩) (preS0 (wc := [(t_sights_h, .inr (7, [.int t_sights_width, .int t_sights_most, .ref t_sights_cells_h, .int t_sights_lines])), (t_sights_cells_h, .inl (cI, t_sights_cells_n, .inl t_sights_cells_a))]) hK hP hD hN [2, 3] rfl rfl (by decide)) rfl rfl hl.1 rfl (lv_room (Nat.le_of_ble_eq_true rfl)) dX6_putSightSpeed_143 ⟨Nat.zero_le _, Nat.zero_le _⟩) hP hD hS hA [2, 3] rfl (fun H locs hP hS => ?_)
            refine lv_i2l (v := Int32.toInt64 r58) hx hb dX6_putSightSpeed_146 rfl ?_
            refine lv_lmul hx hb dX6_putSightSpeed_147 ?_
            obtain ⟨w60, w61, hc62, hf⟩ := ob2_some hf
            refine af_vW (wr := [(t_h, .inr (6, [.ref t_settings_h, .ref t_sights_h, .ref t_shadows_h, .ref t_sightLow_h, .ref t_sightHigh_h, .ref t_shadowLow_h, .ref t_shadowHigh_h])), (t_settings_h, .inr (4, [.int t_settings_base, .int t_settings_slip, .int t_settings_low, .int t_settings_high, .int t_settings_unlike, .int t_settings_alone])), (t_sights_h, .inr (7, [.int t_sights_width, .int t_sights_most, .ref t_sights_cells_h, .int t_sights_lines])), (t_sights_cells_h, .inl (cI, t_sights_cells_n, .inl t_sights_cells_a))]) (ws2 := [(t_h, .inr (6, [.ref t_settings_h, .ref t_sights_h, .ref t_shadows_h, .ref t_sightLow_h, .ref t_sightHigh_h, .ref t_shadowLow_h, .ref t_shadowHigh_h])), (t_settings_h, .inr (4, [.int t_settings_base, .int t_settings_slip, .int t_settings_low, .int t_settings_high, .int t_settings_unlike, .int t_settings_alone])), (t_sights_h, .inr (7, [.int t_sights_width, .int t_sights_most, .ref t_sights_cells_h, .int t_sights_lines])), (t_sights_cells_h, .inl (cI, t_sights_cells_n, .inl t_sights_cells_a)), (L4_h, .inr (1, [.long w60, .long w61]))]) (va_runV (As := [.long ((Int32.toInt64 t_settings_base) * v57), .long ((r49 * r51) * (Int32.toInt64 r58))]) (rest := []) ⟨hx, hb, hml, hown, hts⟩ (k_X1_put l G cI cJ (t_h := L4_h) (t_above := L4_above) (t_below := L4_below) (x1 := ((Int32.toInt64 t_settings_base) * v57)) (x3 := ((r49 * r51) * (Int32.toInt64 r58))) (sz := _) (hf := hc62)) (cwV 2 hts gX6_putSightSpeed_X1_put rfl rfl rfl (by decide +kernel) ⟨Nat.le_of_ble_eq_true rfl, Nat.le_of_ble_eq_true rfl⟩) (preV0 (ci := 1) (q0 := 0) (C := RX1) (wc := [(L4_h, .inr (1, [.long L4_above, .long L4_below]))]) hK hP hD hN [4] rfl rfl (by decide) rfl rfl) rfl rfl hl.1 rfl (lv_room (Nat.le_of_ble_eq_true rfl)) dX6_putSightSpeed_148 ⟨Nat.zero_le _, Nat.zero_le _⟩) hP hD hS hA [4] [0, 1, 2, 3] [0, 1, 2, 3, 4] rfl rfl (by decide) (by decide) rfl rfl (by decide) (fun H locs hP hD hS => ?_)
            refine lv_iconst (v := 1) hx hb dX6_putSightSpeed_151 (by decide) ?_
            exact hret true w60 w61 152 _ _ _ dX6_putSightSpeed_152 hf hP hD hS
          replace hf := hr44
          refine lv_icmp_ne (tgt := 63) hx hb dX6_putSightSpeed_56 (by decide) (fun c46 => ?_) (fun c46 => ?_)
          · have hf := iff_ hf c46
            refine lv_iload_n hx hb dX6_putSightSpeed_63 rfl (lv_at hl 2 rfl) ?_
            exact hj45 _ hf _ _ _ hP hD hS (lv_sub hl [1, 2, 3, 4, 5, 0] rfl)
          · have hf := ift hf c46
            refine lv_iload_n hx hb dX6_putSightSpeed_59 rfl (lv_at hl 3 rfl) ?_
            refine lv_goto (tgt := 64) hx hb dX6_putSightSpeed_60 (by decide) ?_
            exact hj45 _ hf _ _ _ hP hD hS (lv_sub hl [1, 2, 3, 4, 5, 0] rfl)
        replace hf := hr40
        refine lv_if_eq (tgt := 50) hx hb dX6_putSightSpeed_43 (by decide) (fun c42 => ?_) (fun c42 => ?_)
        · have hf := ift hf c42
          refine lv_iload_n hx hb dX6_putSightSpeed_50 rfl (lv_at hl 2 rfl) ?_
          exact hj41 _ hf _ _ _ hP hD hS (lv_sub hl [0, 1, 2, 3, 4] rfl)
        · have hf := iff_ hf c42
          refine lv_iload_n hx hb dX6_putSightSpeed_46 rfl (lv_at hl 1 rfl) ?_
          refine lv_goto (tgt := 51) hx hb dX6_putSightSpeed_47 (by decide) ?_
          exact hj41 _ hf _ _ _ hP hD hS (lv_sub hl [0, 1, 2, 3, 4] rfl)
      · have hf := iff_ hf c36
        refine lv_goto (tgt := 32) hx hb dX6_putSightSpeed_20 (by decide) ?_
        refine lv_iconst (v := 0) hx hb dX6_putSightSpeed_32 (by decide) ?_
        exact hret false L4_above L4_below 33 _ _ _ dX6_putSightSpeed_33 hf hP hD hS
set_option maxRecDepth 20000 in
theorem ggX6_putShadowSpeed_X6_isLater : GoodIn wsX6_putShadowSpeed wsX6_isLater := goodIn_r _ [5, 6, 7, 8, 9, 10, 11, 12, 43, 44, 45, 46] (by decide +kernel) (by decide +kernel)
set_option maxRecDepth 20000 in
theorem gX6_putShadowSpeed_X6_isLater : GoodIn wsX6_putShadowSpeed (va_wsS RX6 59 yX6_isLater wsX6_isLater) := goodIn_app (goodIn_of _ (by decide +kernel)) ggX6_putShadowSpeed_X6_isLater
set_option maxRecDepth 20000 in
theorem ggX6_putShadowSpeed_X7_at : GoodIn wsX6_putShadowSpeed wsX7_at := goodIn_r _ [10, 11, 12, 43, 44, 45, 46] (by decide +kernel) (by decide +kernel)
set_option maxRecDepth 20000 in
theorem gX6_putShadowSpeed_X7_at : GoodIn wsX6_putShadowSpeed (wsV RX6 42 RX7 yX7_at wsX7_at) := goodIn_app (goodIn_of _ (by decide +kernel)) ggX6_putShadowSpeed_X7_at
set_option maxRecDepth 20000 in
theorem ggX6_putShadowSpeed_X6_sideOf : GoodIn wsX6_putShadowSpeed wsX6_sideOf := goodIn_r _ [15] (by decide +kernel) (by decide +kernel)
set_option maxRecDepth 20000 in
theorem gX6_putShadowSpeed_X6_sideOf : GoodIn wsX6_putShadowSpeed (va_wsS RX6 63 yX6_sideOf wsX6_sideOf) := goodIn_app (goodIn_of _ (by decide +kernel)) ggX6_putShadowSpeed_X6_sideOf
set_option maxRecDepth 20000 in
theorem ggX6_putShadowSpeed_X6_minutesBetween : GoodIn wsX6_putShadowSpeed wsX6_minutesBetween := goodIn_r _ [18, 19, 20, 21, 22, 6, 7, 8, 9, 10, 11, 12, 43, 44, 45, 46] (by decide +kernel) (by decide +kernel)
set_option maxRecDepth 20000 in
theorem gX6_putShadowSpeed_X6_minutesBetween : GoodIn wsX6_putShadowSpeed (va_wsS RX6 79 yX6_minutesBetween wsX6_minutesBetween) := goodIn_app (goodIn_of _ (by decide +kernel)) ggX6_putShadowSpeed_X6_minutesBetween
set_option maxRecDepth 20000 in
theorem ggX6_putShadowSpeed_X1_put : GoodIn wsX6_putShadowSpeed wsX1_put := goodIn_r _ [27, 28, 29, 21, 30, 31, 32, 33, 34, 26, 35, 47, 48] (by decide +kernel) (by decide +kernel)
set_option maxRecDepth 20000 in
theorem gX6_putShadowSpeed_X1_put : GoodIn wsX6_putShadowSpeed (wsV RX6 83 RX1 yX1_put wsX1_put) := goodIn_app (goodIn_of _ (by decide +kernel)) ggX6_putShadowSpeed_X1_put
theorem dX6_putShadowSpeed_0 : decode cX6_putShadowSpeed 0 = .ok (.aload_n 0, 1) := by decide +kernel
theorem dX6_putShadowSpeed_1 : decode cX6_putShadowSpeed 1 = .ok (.getfield 17, 3) := by decide +kernel
theorem dX6_putShadowSpeed_4 : decode cX6_putShadowSpeed 4 = .ok (.iload_n 1, 1) := by decide +kernel
theorem dX6_putShadowSpeed_5 : decode cX6_putShadowSpeed 5 = .ok (.iload_n 2, 1) := by decide +kernel
theorem dX6_putShadowSpeed_6 : decode cX6_putShadowSpeed 6 = .ok (.invokestatic 59, 3) := by decide +kernel
theorem dX6_putShadowSpeed_9 : decode cX6_putShadowSpeed 9 = .ok (.ifCond .eq 7, 3) := by decide +kernel
theorem dX6_putShadowSpeed_12 : decode cX6_putShadowSpeed 12 = .ok (.iload_n 1, 1) := by decide +kernel
theorem dX6_putShadowSpeed_13 : decode cX6_putShadowSpeed 13 = .ok (.goto 4, 3) := by decide +kernel
theorem dX6_putShadowSpeed_16 : decode cX6_putShadowSpeed 16 = .ok (.iload_n 2, 1) := by decide +kernel
theorem dX6_putShadowSpeed_17 : decode cX6_putShadowSpeed 17 = .ok (.istore 5, 2) := by decide +kernel
theorem dX6_putShadowSpeed_19 : decode cX6_putShadowSpeed 19 = .ok (.iload 5, 2) := by decide +kernel
theorem dX6_putShadowSpeed_21 : decode cX6_putShadowSpeed 21 = .ok (.iload_n 1, 1) := by decide +kernel
theorem dX6_putShadowSpeed_22 : decode cX6_putShadowSpeed 22 = .ok (.if_icmp .ne 7, 3) := by decide +kernel
theorem dX6_putShadowSpeed_25 : decode cX6_putShadowSpeed 25 = .ok (.iload_n 2, 1) := by decide +kernel
theorem dX6_putShadowSpeed_26 : decode cX6_putShadowSpeed 26 = .ok (.goto 4, 3) := by decide +kernel
theorem dX6_putShadowSpeed_29 : decode cX6_putShadowSpeed 29 = .ok (.iload_n 1, 1) := by decide +kernel
theorem dX6_putShadowSpeed_30 : decode cX6_putShadowSpeed 30 = .ok (.istore 6, 2) := by decide +kernel
theorem dX6_putShadowSpeed_32 : decode cX6_putShadowSpeed 32 = .ok (.aload_n 0, 1) := by decide +kernel
theorem dX6_putShadowSpeed_33 : decode cX6_putShadowSpeed 33 = .ok (.getfield 17, 3) := by decide +kernel
theorem dX6_putShadowSpeed_36 : decode cX6_putShadowSpeed 36 = .ok (.iload_n 1, 1) := by decide +kernel
theorem dX6_putShadowSpeed_37 : decode cX6_putShadowSpeed 37 = .ok (.iconst 3, 1) := by decide +kernel
theorem dX6_putShadowSpeed_38 : decode cX6_putShadowSpeed 38 = .ok (.invokevirtual 42, 3) := by decide +kernel
theorem dX6_putShadowSpeed_41 : decode cX6_putShadowSpeed 41 = .ok (.aload_n 0, 1) := by decide +kernel
theorem dX6_putShadowSpeed_42 : decode cX6_putShadowSpeed 42 = .ok (.getfield 17, 3) := by decide +kernel
theorem dX6_putShadowSpeed_45 : decode cX6_putShadowSpeed 45 = .ok (.iload_n 2, 1) := by decide +kernel
theorem dX6_putShadowSpeed_46 : decode cX6_putShadowSpeed 46 = .ok (.iconst 3, 1) := by decide +kernel
theorem dX6_putShadowSpeed_47 : decode cX6_putShadowSpeed 47 = .ok (.invokevirtual 42, 3) := by decide +kernel
theorem dX6_putShadowSpeed_50 : decode cX6_putShadowSpeed 50 = .ok (.iadd, 1) := by decide +kernel
theorem dX6_putShadowSpeed_51 : decode cX6_putShadowSpeed 51 = .ok (.istore 7, 2) := by decide +kernel
theorem dX6_putShadowSpeed_53 : decode cX6_putShadowSpeed 53 = .ok (.aload_n 0, 1) := by decide +kernel
theorem dX6_putShadowSpeed_54 : decode cX6_putShadowSpeed 54 = .ok (.getfield 17, 3) := by decide +kernel
theorem dX6_putShadowSpeed_57 : decode cX6_putShadowSpeed 57 = .ok (.iload 5, 2) := by decide +kernel
theorem dX6_putShadowSpeed_59 : decode cX6_putShadowSpeed 59 = .ok (.iconst 2, 1) := by decide +kernel
theorem dX6_putShadowSpeed_60 : decode cX6_putShadowSpeed 60 = .ok (.invokevirtual 42, 3) := by decide +kernel
theorem dX6_putShadowSpeed_63 : decode cX6_putShadowSpeed 63 = .ok (.aload_n 0, 1) := by decide +kernel
theorem dX6_putShadowSpeed_64 : decode cX6_putShadowSpeed 64 = .ok (.getfield 17, 3) := by decide +kernel
theorem dX6_putShadowSpeed_67 : decode cX6_putShadowSpeed 67 = .ok (.iload 6, 2) := by decide +kernel
theorem dX6_putShadowSpeed_69 : decode cX6_putShadowSpeed 69 = .ok (.iconst 2, 1) := by decide +kernel
theorem dX6_putShadowSpeed_70 : decode cX6_putShadowSpeed 70 = .ok (.invokevirtual 42, 3) := by decide +kernel
theorem dX6_putShadowSpeed_73 : decode cX6_putShadowSpeed 73 = .ok (.isub, 1) := by decide +kernel
theorem dX6_putShadowSpeed_74 : decode cX6_putShadowSpeed 74 = .ok (.iload_n 3, 1) := by decide +kernel
theorem dX6_putShadowSpeed_75 : decode cX6_putShadowSpeed 75 = .ok (.invokestatic 63, 3) := by decide +kernel
theorem dX6_putShadowSpeed_78 : decode cX6_putShadowSpeed 78 = .ok (.iload 7, 2) := by decide +kernel
theorem dX6_putShadowSpeed_80 : decode cX6_putShadowSpeed 80 = .ok (.imul, 1) := by decide +kernel
theorem dX6_putShadowSpeed_81 : decode cX6_putShadowSpeed 81 = .ok (.iadd, 1) := by decide +kernel
theorem dX6_putShadowSpeed_82 : decode cX6_putShadowSpeed 82 = .ok (.istore 8, 2) := by decide +kernel
theorem dX6_putShadowSpeed_84 : decode cX6_putShadowSpeed 84 = .ok (.aload 4, 2) := by decide +kernel
theorem dX6_putShadowSpeed_86 : decode cX6_putShadowSpeed 86 = .ok (.iload 8, 2) := by decide +kernel
theorem dX6_putShadowSpeed_88 : decode cX6_putShadowSpeed 88 = .ok (.i2l, 1) := by decide +kernel
theorem dX6_putShadowSpeed_89 : decode cX6_putShadowSpeed 89 = .ok (.aload_n 0, 1) := by decide +kernel
theorem dX6_putShadowSpeed_90 : decode cX6_putShadowSpeed 90 = .ok (.getfield 17, 3) := by decide +kernel
theorem dX6_putShadowSpeed_93 : decode cX6_putShadowSpeed 93 = .ok (.iload_n 1, 1) := by decide +kernel
theorem dX6_putShadowSpeed_94 : decode cX6_putShadowSpeed 94 = .ok (.iload_n 2, 1) := by decide +kernel
theorem dX6_putShadowSpeed_95 : decode cX6_putShadowSpeed 95 = .ok (.invokestatic 79, 3) := by decide +kernel
theorem dX6_putShadowSpeed_98 : decode cX6_putShadowSpeed 98 = .ok (.i2l, 1) := by decide +kernel
theorem dX6_putShadowSpeed_99 : decode cX6_putShadowSpeed 99 = .ok (.invokevirtual 83, 3) := by decide +kernel
theorem dX6_putShadowSpeed_102 : decode cX6_putShadowSpeed 102 = .ok (.return_, 1) := by decide +kernel
set_option maxRecDepth 100000 in
def fX6_putShadowSpeed (x1 : Int32) (x2 : Int32) (x3 : Int32) (t_shadows_width : Int32) (t_shadows_cells_n : Nat) (t_shadows_cells_a : Nat → Int32) (L4_above : Int64) (L4_below : Int64) : Option (Int64 × Int64) :=
  ob (fX6_isLater x1 x2 t_shadows_width t_shadows_cells_n t_shadows_cells_a) fun r1 =>
  ob (α := Int32) (
      if (b2i r1) = 0 then
        some x2
      else
        some x1
    ) fun m3 =>
  ob (α := Int32) (
      if m3 = x1 then
        some x2
      else
        some x1
    ) fun m7 =>
  ob (fX7_at x1 3 t_shadows_width t_shadows_cells_n t_shadows_cells_a) fun r11 =>
  ob (fX7_at x2 3 t_shadows_width t_shadows_cells_n t_shadows_cells_a) fun r13 =>
  bv (r11 + r13) fun v15 =>
  ob (fX7_at m3 2 t_shadows_width t_shadows_cells_n t_shadows_cells_a) fun r16 =>
  ob (fX7_at m7 2 t_shadows_width t_shadows_cells_n t_shadows_cells_a) fun r18 =>
  ob (fX6_sideOf x3) fun r20 =>
  bv ((r16 - r18) + (r20 * v15)) fun v22 =>
  ob (fX6_minutesBetween x1 x2 t_shadows_width t_shadows_cells_n t_shadows_cells_a) fun r23 =>
  ob2 (fX1_put (Int32.toInt64 v22) (Int32.toInt64 r23) L4_above L4_below) fun w25 w26 =>
  some (w25, w26)
abbrev rmX6_putShadowSpeed : Room := { frames := 2, cells := 0, slots := 0, locals := 56 }
theorem iwX6_putShadowSpeed_X6 : ∀ w ∈ u_ws RX6 TX6 7, w ∈ wsX6_putShadowSpeed := by decide +kernel
set_option maxHeartbeats 4000000 in
set_option maxRecDepth 100000 in
theorem k_X6_putShadowSpeed (l : Launch) (G : va_G) (cI cJ : ClassId) (t_h t_settings_h t_sights_h t_shadows_h t_sightLow_h t_sightHigh_h t_shadowLow_h t_shadowHigh_h t_shadows_cells_h L4_h : Nat) (sz : Nat) (t_shadows_width : Int32) (t_shadows_most : Int32) (t_shadows_lines : Int32) (t_shadows_cells_n : Nat) (t_shadows_cells_a : Nat → Int32) (L4_above : Int64) (L4_below : Int64) (x1 : Int32) (x2 : Int32) (x3 : Int32) {o_L4_above : Int64} {o_L4_below : Int64} (hf : fX6_putShadowSpeed x1 x2 x3 t_shadows_width t_shadows_cells_n t_shadows_cells_a L4_above L4_below = some (o_L4_above, o_L4_below)) : MetU l yX6_putShadowSpeed wsX6_putShadowSpeed rmX6_putShadowSpeed [.ref t_h, .int x1, .int x2, .int x3, .ref L4_h] G cI cJ [(t_h, .inr (6, [.ref t_settings_h, .ref t_sights_h, .ref t_shadows_h, .ref t_sightLow_h, .ref t_sightHigh_h, .ref t_shadowLow_h, .ref t_shadowHigh_h])), (t_shadows_h, .inr (7, [.int t_shadows_width, .int t_shadows_most, .ref t_shadows_cells_h, .int t_shadows_lines])), (t_shadows_cells_h, .inl (cI, t_shadows_cells_n, .inl t_shadows_cells_a)), (L4_h, .inr (1, [.long L4_above, .long L4_below]))] [(t_h, .inr (6, [.ref t_settings_h, .ref t_sights_h, .ref t_shadows_h, .ref t_sightLow_h, .ref t_sightHigh_h, .ref t_shadowLow_h, .ref t_shadowHigh_h])), (t_shadows_h, .inr (7, [.int t_shadows_width, .int t_shadows_most, .ref t_shadows_cells_h, .int t_shadows_lines])), (t_shadows_cells_h, .inl (cI, t_shadows_cells_n, .inl t_shadows_cells_a)), (L4_h, .inr (1, [.long o_L4_above, .long o_L4_below]))] sz := by
  refine en_0 (l := l) (y := yX6_putShadowSpeed) (wsl := wsX6_putShadowSpeed) (rm := rmX6_putShadowSpeed) (av := [.ref t_h, .int x1, .int x2, .int x3, .ref L4_h]) (G := G) (cI := cI) (cJ := cJ) (w0 := [(t_h, .inr (6, [.ref t_settings_h, .ref t_sights_h, .ref t_shadows_h, .ref t_sightLow_h, .ref t_sightHigh_h, .ref t_shadowLow_h, .ref t_shadowHigh_h])), (t_shadows_h, .inr (7, [.int t_shadows_width, .int t_shadows_most, .ref t_shadows_cells_h, .int t_shadows_lines])), (t_shadows_cells_h, .inl (cI, t_shadows_cells_n, .inl t_shadows_cells_a)), (L4_h, .inr (1, [.long L4_above, .long L4_below]))]) (sz := sz) (Qf := fun A => Qv0 G cI cJ [(t_h, .inr (6, [.ref t_settings_h, .ref t_sights_h, .ref t_shadows_h, .ref t_sightLow_h, .ref t_sightHigh_h, .ref t_shadowLow_h, .ref t_shadowHigh_h])), (t_shadows_h, .inr (7, [.int t_shadows_width, .int t_shadows_most, .ref t_shadows_cells_h, .int t_shadows_lines])), (t_shadows_cells_h, .inl (cI, t_shadows_cells_n, .inl t_shadows_cells_a)), (L4_h, .inr (1, [.long o_L4_above, .long o_L4_below]))] A) (cc := cX6_putShadowSpeed) (maxL := 9) (ret := none) RX6 (by decide +kernel) rfl rfl (Nat.le_of_ble_eq_true rfl) ?_
  intro p e s m args below meth c A ls Q hQ hx hb hr hts hown hlocks hml hN hK hP hD hS hA hl
  have hl : lv_has ls 9 [(0, .ref t_h), (1, .int x1), (2, .int x2), (3, .int x3), (4, .ref L4_h)] := hl
  have iwX6 := iwX6_putShadowSpeed_X6
  have fl_17 := hts (.fieldLink RX6 17 "CloudOffice$Speeds" "shadows" "LCloudOffice$Table;") (by decide +kernel)
  have hret : ∀ (o_L4_above9 : Int64) (o_L4_below9 : Int64) (pc : Nat) (H : Heap) (locs : List Loc) (ls : Array Slot), decode cX6_putShadowSpeed pc = .ok (.return_, 1) → some (o_L4_above9, o_L4_below9) = some (o_L4_above, o_L4_below) → va_P G vwCl [(t_h, .inr (6, [.ref t_settings_h, .ref t_sights_h, .ref t_shadows_h, .ref t_sightLow_h, .ref t_sightHigh_h, .ref t_shadowLow_h, .ref t_shadowHigh_h])), (t_shadows_h, .inr (7, [.int t_shadows_width, .int t_shadows_most, .ref t_shadows_cells_h, .int t_shadows_lines])), (t_shadows_cells_h, .inl (cI, t_shadows_cells_n, .inl t_shadows_cells_a)), (L4_h, .inr (1, [.long o_L4_above9, .long o_L4_below9]))] H → va_D A [(t_h, .inr (6, [.ref t_settings_h, .ref t_sights_h, .ref t_shadows_h, .ref t_sightLow_h, .ref t_sightHigh_h, .ref t_shadowLow_h, .ref t_shadowHigh_h])), (t_shadows_h, .inr (7, [.int t_shadows_width, .int t_shadows_most, .ref t_shadows_cells_h, .int t_shadows_lines])), (t_shadows_cells_h, .inl (cI, t_shadows_cells_n, .inl t_shadows_cells_a)), (L4_h, .inr (1, [.long o_L4_above9, .long o_L4_below9]))] → va_S A s.heap H locs → W p l e rmX6_putShadowSpeed s m args below meth c H locs 0 0 Q (F0 m pc ls []) := by
    intro o_L4_above9 o_L4_below9 pc H locs ls hdg he hP hD hS
    cases he
    subst hQ
    exact rt_v hx hb hr hlocks hK hP hD hS hdg
  clear hQ
  unfold fX6_putShadowSpeed at hf
  refine lv_aload_n hx hb dX6_putShadowSpeed_0 rfl (lv_at hl 0 rfl) ?_
  refine va_get (D := G) (ci := 6) (v := .ref t_shadows_h) (C := RX6) (T := TX6) (N := 7) hx hb hts iwX6 hown hK hP 0 rfl rfl 2 (by decide) fl_17 (fun _ h9 => h9) rfl dX6_putShadowSpeed_1 ?_
  refine lv_iload_n hx hb dX6_putShadowSpeed_4 rfl (lv_at hl 1 rfl) ?_
  refine lv_iload_n hx hb dX6_putShadowSpeed_5 rfl (lv_at hl 2 rfl) ?_
  obtain ⟨r1, hc2, hf⟩ := ob_some hf
  refine af_iR (va_runS (As := [.ref t_shadows_h, .int x1, .int x2]) (rest := []) ⟨hx, hb, hml, hown, hts⟩ (k_X6_isLater l G cI cJ (L0_h := t_shadows_h) (L0_cells_h := t_shadows_cells_h) (L0_width := t_shadows_width) (L0_most := t_shadows_most) (L0_lines := t_shadows_lines) (L0_cells_n := t_shadows_cells_n) (L0_cells_a := t_shadows_cells_a) (x1 := x1) (x2 := x2) (sz := _) (hf := hc2)) (va_cwS 3 hts gX6_putShadowSpeed_X6_isLater rfl rfl rfl (by decide +kernel) ⟨Nat.le_of_ble_eq_true rfl, Nat.le_of_ble_eq_true rfl⟩) (preS0 (wc := [(t_shadows_h, .inr (7, [.int t_shadows_width, .int t_shadows_most, .ref t_shadows_cells_h, .int t_shadows_lines])), (t_shadows_cells_h, .inl (cI, t_shadows_cells_n, .inl t_shadows_cells_a))]) hK hP hD hN [1, 2] rfl rfl (by decide)) rfl rfl hl.1 rfl (lv_room (Nat.le_of_ble_eq_true rfl)) dX6_putShadowSpeed_6 ⟨Nat.zero_le _, Nat.zero_le _⟩) hP hD hS hA [1, 2] rfl (fun H locs hP hS => ?_)
  obtain ⟨m3, hr4, hf⟩ := ob_some hf
  have hj5 : ∀ (m39 : Int32), some m39 = some m3 → ∀ (H : Heap) (locs : List Loc) (ls : Array Slot), va_P G vwCl [(t_h, .inr (6, [.ref t_settings_h, .ref t_sights_h, .ref t_shadows_h, .ref t_sightLow_h, .ref t_sightHigh_h, .ref t_shadowLow_h, .ref t_shadowHigh_h])), (t_shadows_h, .inr (7, [.int t_shadows_width, .int t_shadows_most, .ref t_shadows_cells_h, .int t_shadows_lines])), (t_shadows_cells_h, .inl (cI, t_shadows_cells_n, .inl t_shadows_cells_a)), (L4_h, .inr (1, [.long L4_above, .long L4_below]))] H → va_D A [(t_h, .inr (6, [.ref t_settings_h, .ref t_sights_h, .ref t_shadows_h, .ref t_sightLow_h, .ref t_sightHigh_h, .ref t_shadowLow_h, .ref t_shadowHigh_h])), (t_shadows_h, .inr (7, [.int t_shadows_width, .int t_shadows_most, .ref t_shadows_cells_h, .int t_shadows_lines])), (t_shadows_cells_h, .inl (cI, t_shadows_cells_n, .inl t_shadows_cells_a)), (L4_h, .inr (1, [.long L4_above, .long L4_below]))] → va_S A s.heap H locs → lv_has ls 9 [(0, .ref t_h), (1, .int x1), (2, .int x2), (3, .int x3), (4, .ref L4_h)] → W p l e rmX6_putShadowSpeed s m args below meth c H locs 0 0 Q (F0 m 17 ls [.int m39]) := by
    intro m39 he H locs ls hP hD hS hl
    cases he
    refine lv_istore (lv' := [(5, .int m3), (0, .ref t_h), (1, .int x1), (2, .int x2), (3, .int x3), (4, .ref L4_h)]) hx hb dX6_putShadowSpeed_17 hl (by decide) rfl (fun ls hl => ?_)
    refine lv_iload hx hb dX6_putShadowSpeed_19 (lv_at hl 0 rfl) ?_
    refine lv_iload_n hx hb dX6_putShadowSpeed_21 rfl (lv_at hl 2 rfl) ?_
    obtain ⟨m7, hr8, hf⟩ := ob_some hf
    have hj9 : ∀ (m79 : Int32), some m79 = some m7 → ∀ (H : Heap) (locs : List Loc) (ls : Array Slot), va_P G vwCl [(t_h, .inr (6, [.ref t_settings_h, .ref t_sights_h, .ref t_shadows_h, .ref t_sightLow_h, .ref t_sightHigh_h, .ref t_shadowLow_h, .ref t_shadowHigh_h])), (t_shadows_h, .inr (7, [.int t_shadows_width, .int t_shadows_most, .ref t_shadows_cells_h, .int t_shadows_lines])), (t_shadows_cells_h, .inl (cI, t_shadows_cells_n, .inl t_shadows_cells_a)), (L4_h, .inr (1, [.long L4_above, .long L4_below]))] H → va_D A [(t_h, .inr (6, [.ref t_settings_h, .ref t_sights_h, .ref t_shadows_h, .ref t_sightLow_h, .ref t_sightHigh_h, .ref t_shadowLow_h, .ref t_shadowHigh_h])), (t_shadows_h, .inr (7, [.int t_shadows_width, .int t_shadows_most, .ref t_shadows_cells_h, .int t_shadows_lines])), (t_shadows_cells_h, .inl (cI, t_shadows_cells_n, .inl t_shadows_cells_a)), (L4_h, .inr (1, [.long L4_above, .long L4_below]))] → va_S A s.heap H locs → lv_has ls 9 [(0, .ref t_h), (1, .int x1), (2, .int x2), (3, .int x3), (4, .ref L4_h), (5, .int m3)] → W p l e rmX6_putShadowSpeed s m args below meth c H locs 0 0 Q (F0 m 30 ls [.int m79]) := by
      intro m79 he H locs ls hP hD hS hl
      cases he
      refine lv_istore (lv' := [(6, .int m7), (0, .ref t_h), (1, .int x1), (2, .int x2), (3, .int x3), (4, .ref L4_h), (5, .int m3)]) hx hb dX6_putShadowSpeed_30 hl (by decide) rfl (fun ls hl => ?_)
      refine lv_aload_n hx hb dX6_putShadowSpeed_32 rfl (lv_at hl 1 rfl) ?_
      refine va_get (D := G) (ci := 6) (v := .ref t_shadows_h) (C := RX6) (T := TX6) (N := 7) hx hb hts iwX6 hown hK hP 0 rfl rfl 2 (by decide) fl_17 (fun _ h9 => h9) rfl dX6_putShadowSpeed_33 ?_
      refine lv_iload_n hx hb dX6_putShadowSpeed_36 rfl (lv_at hl 2 rfl) ?_
      refine lv_iconst (v := 3) hx hb dX6_putShadowSpeed_37 (by decide) ?_
      obtain ⟨r11, hc12, hf⟩ := ob_some hf
      refine af_iR (va_runV (As := [.int x1, .int 3]) (rest := []) ⟨hx, hb, hml, hown, hts⟩ (k_X7_at l G cI cJ (t_h := t_shadows_h) (t_cells_h := t_shadows_cells_h) (t_width := t_shadows_width) (t_most := t_shadows_most) (t_lines := t_shadows_lines) (t_cells_n := t_shadows_cells_n) (t_cells_a := t_shadows_cells_a) (x1 := x1) (x2 := 3) (sz := _) (hf := hc12)) (cwV 2 hts gX6_putShadowSpeed_X7_at rfl rfl rfl (by decide +kernel) ⟨Nat.le_of_ble_eq_true rfl, Nat.le_of_ble_eq_true rfl⟩) (preV0 (ci := 7) (q0 := 0) (C := RX7) (wc := [(t_shadows_h, .inr (7, [.int t_shadows_width, .int t_shadows_most, .ref t_shadows_cells_h, .int t_shadows_lines])), (t_shadows_cells_h, .inl (cI, t_shadows_cells_n, .inl t_shadows_cells_a))]) hK hP hD hN [1, 2] rfl rfl (by decide) rfl rfl) rfl rfl hl.1 rfl (lv_room (Nat.le_of_ble_eq_true rfl)) dX6_putShadowSpeed_38 ⟨Nat.zero_le _, Nat.zero_le _⟩) hP hD hS hA [1, 2] rfl (fun H locs hP hS => ?_)
      refine lv_aload_n hx hb dX6_putShadowSpeed_41 rfl (lv_at hl 1 rfl) ?_
      refine va_get (D := G) (ci := 6) (v := .ref t_shadows_h) (C := RX6) (T := TX6) (N := 7) hx hb hts iwX6 hown hK hP 0 rfl rfl 2 (by decide) fl_17 (fun _ h9 => h9) rfl dX6_putShadowSpeed_42 ?_
      refine lv_iload_n hx hb dX6_putShadowSpeed_45 rfl (lv_at hl 3 rfl) ?_
      refine lv_iconst (v := 3) hx hb dX6_putShadowSpeed_46 (by decide) ?_
      obtain ⟨r13, hc14, hf⟩ := ob_some hf
      refine af_iR (va_runV (As := [.int x2, .int 3]) (rest := [.int r11]) ⟨hx, hb, hml, hown, hts⟩ (k_X7_at l G cI cJ (t_h := t_shadows_h) (t_cells_h := t_shadows_cells_h) (t_width := t_shadows_width) (t_most := t_shadows_most) (t_lines := t_shadows_lines) (t_cells_n := t_shadows_cells_n) (t_cells_a := t_shadows_cells_a) (x1 := x2) (x2 := 3) (sz := _) (hf := hc14)) (cwV 2 hts gX6_putShadowSpeed_X7_at rfl rfl rfl (by decide +kernel) ⟨Nat.le_of_ble_eq_true rfl, Nat.le_of_ble_eq_true rfl⟩) (preV0 (ci := 7) (q0 := 0) (C := RX7) (wc := [(t_shadows_h, .inr (7, [.int t_shadows_width, .int t_shadows_most, .ref t_shadows_cells_h, .int t_shadows_lines])), (t_shadows_cells_h, .inl (cI, t_shadows_cells_n, .inl t_shadows_cells_a))]) hK hP hD hN [1, 2] rfl rfl (by decide) rfl rfl) rfl rfl hl.1 rfl (lv_room (Nat.le_of_ble_eq_true rfl)) dX6_putShadowSpeed_47 ⟨Nat.zero_le _, Nat.zero_le _⟩) hP hD hS hA [1, 2] rfl (fun H locs hP hS => ?_)
      refine lv_iadd hx hb dX6_putShadowSpeed_50 ?_
      refine lv_topi (fun v15 ev15 => ?_)
      have hf := bv_at ev15 hf
      refine lv_istore (lv' := [(7, .int v15), (6, .int m7), (0, .ref t_h), (1, .int x1), (2, .int x2), (3, .int x3), (4, .ref L4_h), (5, .int m3)]) hx hb dX6_putShadowSpeed_51 hl (by decide) rfl (fun ls hl => ?_)
      refine lv_aload_n hx hb dX6_putShadowSpeed_53 rfl (lv_at hl 2 rfl) ?_
      refine va_get (D := G) (ci := 6) (v := .ref t_shadows_h) (C := RX6) (T := TX6) (N := 7) hx hb hts iwX6 hown hK hP 0 rfl rfl 2 (by decide) fl_17 (fun _ h9 => h9) rfl dX6_putShadowSpeed_54 ?_
      refine lv_iload hx hb dX6_putShadowSpeed_57 (lv_at hl 7 rfl) ?_
      refine lv_iconst (v := 2) hx hb dX6_putShadowSpeed_59 (by decide) ?_
      obtain ⟨r16, hc17, hf⟩ := ob_some hf
      refine af_iR (va_runV (As := [.int m3, .int 2]) (rest := []) ⟨hx, hb, hml, hown, hts⟩ (k_X7_at l G cI cJ (t_h := t_shadows_h) (t_cells_h := t_shadows_cells_h) (t_width := t_shadows_width) (t_most := t_shadows_most) (t_lines := t_shadows_lines) (t_cells_n := t_shadows_cells_n) (t_cells_a := t_shadows_cells_a) (x1 := m3) (x2 := 2) (sz := _) (hf := hc17)) (cwV 2 hts gX6_putShadowSpeed_X7_at rfl rfl rfl (by decide +kernel) ⟨Nat.le_of_ble_eq_true rfl, Nat.le_of_ble_eq_true rfl⟩) (preV0 (ci := 7) (q0 := 0) (C := RX7) (wc := [(t_shadows_h, .inr (7, [.int t_shadows_width, .int t_shadows_most, .ref t_shadows_cells_h, .int t_shadows_lines])), (t_shadows_cells_h, .inl (cI, t_shadows_cells_n, .inl t_shadows_cells_a))]) hK hP hD hN [1, 2] rfl rfl (by decide) rfl rfl) rfl rfl hl.1 rfl (lv_room (Nat.le_of_ble_eq_true rfl)) dX6_putShadowSpeed_60 ⟨Nat.zero_le _, Nat.zero_le _⟩) hP hD hS hA [1, 2] rfl (fun H locs hP hS => ?_)
      refine lv_aload_n hx hb dX6_putShadowSpeed_63 rfl (lv_at hl 2 rfl) ?_
      refine va_get (D := G) (ci := 6) (v := .ref t_shadows_h) (C := RX6) (T := TX6) (N := 7) hx hb hts iwX6 hown hK hP 0 rfl rfl 2 (by decide) fl_17 (fun _ h9 => h9) rfl dX6_putShadowSpeed_64 ?_
      refine lv_iload hx hb dX6_putShadowSpeed_67 (lv_at hl 1 rfl) ?_
      refine lv_iconst (v := 2) hx hb dX6_putShadowSpeed_69 (by decide) ?_
      obtain ⟨r18, hc19, hf⟩ := ob_some hf
      refine af_iR (va_runV (As := [.int m7, .int 2]) (rest := [.int r16]) ⟨hx, hb, hml, hown, hts⟩ (k_X7_at l G cI cJ (t_h := t_shadows_h) (t_cells_h := t_shadows_cells_h) (t_width := t_shadows_width) (t_most := t_shadows_most) (t_lines := t_shadows_lines) (t_cells_n := t_shadows_cells_n) (t_cells_a := t_shadows_cells_a) (x1 := m7) (x2 := 2) (sz := _) (hf := hc19)) (cwV 2 hts gX6_putShadowSpeed_X7_at rfl rfl rfl (by decide +kernel) ⟨Nat.le_of_ble_eq_true rfl, Nat.le_of_ble_eq_true rfl⟩) (preV0 (ci := 7) (q0 := 0) (C := RX7) (wc := [(t_shadows_h, .inr (7, [.int t_shadows_width, .int t_shadows_most, .ref t_shadows_cells_h, .int t_shadows_lines])), (t_shadows_cells_h, .inl (cI, t_shadows_cells_n, .inl t_shadows_cells_a))]) hK hP hD hN [1, 2] rfl rfl (by decide) rfl rfl) rfl rfl hl.1 rfl (lv_room (Nat.le_of_ble_eq_true rfl)) dX6_putShadowSpeed_70 ⟨Nat.zero_le _, Nat.zero_le _⟩) hP hD hS hA [1, 2] rfl (fun H locs hP hS => ?_)
      refine lv_isub hx hb dX6_putShadowSpeed_73 ?_
      refine lv_iload_n hx hb dX6_putShadowSpeed_74 rfl (lv_at hl 5 rfl) ?_
      obtain ⟨r20, hc21, hf⟩ := ob_some hf
      refine af_iR (va_runS (As := [.int x3]) (rest := [.int (r16 - r18)]) ⟨hx, hb, hml, hown, hts⟩ (k_X6_sideOf l G cI cJ (x0 := x3) (sz := _) (hf := hc21)) (va_cwS 1 hts gX6_putShadowSpeed_X6_sideOf rfl rfl rfl (by decide +kernel) ⟨Nat.le_of_ble_eq_true rfl, Nat.le_of_ble_eq_true rfl⟩) (preS0 (wc := []) hK hP hD hN [] rfl rfl (by decide)) rfl rfl hl.1 rfl (lv_room (Nat.le_of_ble_eq_true rfl)) dX6_putShadowSpeed_75 ⟨Nat.zero_le _, Nat.zero_le _⟩) hP hD hS hA [] rfl (fun H locs hP hS => ?_)
      refine lv_iload hx hb dX6_putShadowSpeed_78 (lv_at hl 0 rfl) ?_
      refine lv_imul hx hb dX6_putShadowSpeed_80 ?_
      refine lv_iadd hx hb dX6_putShadowSpeed_81 ?_
      refine lv_topi (fun v22 ev22 => ?_)
      have hf := bv_at ev22 hf
      refine lv_istore (lv' := [(8, .int v22), (7, .int v15), (6, .int m7), (0, .ref t_h), (1, .int x1), (2, .int x2), (3, .int x3), (4, .ref L4_h), (5, .int m3)]) hx hb dX6_putShadowSpeed_82 hl (by decide) rfl (fun ls hl => ?_)
      refine lv_aload hx hb dX6_putShadowSpeed_84 (lv_at hl 7 rfl) ?_
      refine lv_iload hx hb dX6_putShadowSpeed_86 (lv_at hl 0 rfl) ?_
      refine lv_i2l (v := Int32.toInt64 v22) hx hb dX6_putShadowSpeed_88 rfl ?_
      refine lv_aload_n hx hb dX6_putShadowSpeed_89 rfl (lv_at hl 3 rfl) ?_
      refine va_get (D := G) (ci := 6) (v := .ref t_shadows_h) (C := RX6) (T := TX6) (N := 7) hx hb hts iwX6 hown hK hP 0 rfl rfl 2 (by decide) fl_17 (fun _ h9 => h9) rfl dX6_putShadowSpeed_90 ?_
      refine lv_iload_n hx hb dX6_putShadowSpeed_93 rfl (lv_at hl 4 rfl) ?_
      refine lv_iload_n hx hb dX6_putShadowSpeed_94 rfl (lv_at hl 5 rfl) ?_
      obtain ⟨r23, hc24, hf⟩ := ob_some hf
      refine af_iR (va_runS (As := [.ref t_shadows_h, .int x1, .int x2]) (rest := [.long (Int32.toInt64 v22), .ref L4_h]) ⟨hx, hb, hml, hown, hts⟩ (k_X6_minutesBetween l G cI cJ (L0_h := t_shadows_h) (L0_cells_h := t_shadows_cells_h) (L0_width := t_shadows_width) (L0_most := t_shadows_most) (L0_lines := t_shadows_lines) (L0_cells_n := t_shadows_cells_n) (L0_cells_a := t_shadows_cells_a) (x1 := x1) (x2 := x2) (sz := _) (hf := hc24)) (va_cwS 3 hts gX6_putShadowSpeed_X6_minutesBetween rfl rfl rfl (by decide +kernel) ⟨Nat.le_of_ble_eq_true rfl, Nat.le_of_ble_eq_true rfl⟩) (preS0 (wc := [(t_shadows_h, .inr (7, [.int t_shadows_width, .int t_shadows_most, .ref t_shadows_cells_h, .int t_shadows_lines])), (t_shadows_cells_h, .inl (cI, t_shadows_cells_n, .inl t_shadows_cells_a))]) hK hP hD hN [1, 2] rfl rfl (by decide)) rfl rfl hl.1 rfl (lv_room (Nat.le_of_ble_eq_true rfl)) dX6_putShadowSpeed_95 ⟨Nat.zero_le _, Nat.zero_le _⟩) hP hD hS hA [1, 2] rfl (fun H locs hP hS => ?_)
      refine lv_i2l (v := Int32.toInt64 r23) hx hb dX6_putShadowSpeed_98 rfl ?_
      obtain ⟨w25, w26, hc27, hf⟩ := ob2_some hf
      refine af_vW (wr := [(t_h, .inr (6, [.ref t_settings_h, .ref t_sights_h, .ref t_shadows_h, .ref t_sightLow_h, .ref t_sightHigh_h, .ref t_shadowLow_h, .ref t_shadowHigh_h])), (t_shadows_h, .inr (7, [.int t_shadows_width, .int t_shadows_most, .ref t_shadows_cells_h, .int t_shadows_lines])), (t_shadows_cells_h, .inl (cI, t_shadows_cells_n, .inl t_shadows_cells_a))]) (ws2 := [(t_h, .inr (6, [.ref t_settings_h, .ref t_sights_h, .ref t_shadows_h, .ref t_sightLow_h, .ref t_sightHigh_h, .ref t_shadowLow_h, .ref t_shadowHigh_h])), (t_shadows_h, .inr (7, [.int t_shadows_width, .int t_shadows_most, .ref t_shadows_cells_h, .int t_shadows_lines])), (t_shadows_cells_h, .inl (cI, t_shadows_cells_n, .inl t_shadows_cells_a)), (L4_h, .inr (1, [.long w25, .long w26]))]) (va_runV (As := [.long (Int32.toInt64 v22), .long (Int32.toInt64 r23)]) (rest := []) ⟨hx, hb, hml, hown, hts⟩ (k_X1_put l G cI cJ (t_h := L4_h) (t_above := L4_above) (t_below := L4_below) (x1 := (Int32.toInt64 v22)) (x3 := (Int32.toInt64 r23)) (sz := _) (hf := hc27)) (cwV 2 hts gX6_putShadowSpeed_X1_put rfl rfl rfl (by decide +kernel) ⟨Nat.le_of_ble_eq_true rfl, Nat.le_of_ble_eq_true rfl⟩) (preV0 (ci := 1) (q0 := 0) (C := RX1) (wc := [(L4_h, .inr (1, [.long L4_above, .long L4_below]))]) hK hP hD hN [3] rfl rfl (by decide) rfl rfl) rfl rfl hl.1 rfl (lv_room (Nat.le_of_ble_eq_true rfl)) dX6_putShadowSpeed_99 ⟨Nat.zero_le _, Nat.zero_le _⟩) hP hD hS hA [3] [0, 1, 2] [0, 1, 2, 3] rfl rfl (by decide) (by decide) rfl rfl (by decide) (fun H locs hP hD hS => ?_)
      exact hret w25 w26 102 _ _ _ dX6_putShadowSpeed_102 hf hP hD hS
    replace hf := hr8
    refine lv_icmp_ne (tgt := 29) hx hb dX6_putShadowSpeed_22 (by decide) (fun c10 => ?_) (fun c10 => ?_)
    · have hf := iff_ hf c10
      refine lv_iload_n hx hb dX6_putShadowSpeed_29 rfl (lv_at hl 2 rfl) ?_
      exact hj9 _ hf _ _ _ hP hD hS (lv_sub hl [1, 2, 3, 4, 5, 0] rfl)
    · have hf := ift hf c10
      refine lv_iload_n hx hb dX6_putShadowSpeed_25 rfl (lv_at hl 3 rfl) ?_
      refine lv_goto (tgt := 30) hx hb dX6_putShadowSpeed_26 (by decide) ?_
      exact hj9 _ hf _ _ _ hP hD hS (lv_sub hl [1, 2, 3, 4, 5, 0] rfl)
  replace hf := hr4
  refine lv_if_eq (tgt := 16) hx hb dX6_putShadowSpeed_9 (by decide) (fun c6 => ?_) (fun c6 => ?_)
  · have hf := ift hf c6
    refine lv_iload_n hx hb dX6_putShadowSpeed_16 rfl (lv_at hl 2 rfl) ?_
    exact hj5 _ hf _ _ _ hP hD hS (lv_sub hl [0, 1, 2, 3, 4] rfl)
  · have hf := iff_ hf c6
    refine lv_iload_n hx hb dX6_putShadowSpeed_12 rfl (lv_at hl 1 rfl) ?_
    refine lv_goto (tgt := 17) hx hb dX6_putShadowSpeed_13 (by decide) ?_
    exact hj5 _ hf _ _ _ hP hD hS (lv_sub hl [0, 1, 2, 3, 4] rfl)
set_option maxRecDepth 20000 in
theorem ggX6_spansMeet_X6_putSightSpeed : GoodIn wsX6_spansMeet wsX6_putSightSpeed := goodIn_r _ [9, 10, 11, 12, 13, 14, 8, 15, 16, 17, 18, 19, 20, 21, 22, 23, 24, 25, 26, 27, 28, 29, 30, 31, 32, 33, 34, 35, 36, 37, 38, 39, 40, 41, 42, 43, 44, 45, 46, 47, 48, 49, 50, 51, 52, 53, 54, 55, 56, 57, 58, 59, 60, 61, 71, 72, 73, 74, 75, 76, 77, 78, 79, 80, 81, 82, 83, 84, 85, 86, 87, 88, 89] (by decide +kernel) (by decide +kernel)
set_option maxRecDepth 20000 in
theorem gX6_spansMeet_X6_putSightSpeed : GoodIn wsX6_spansMeet (wsV RX6 90 RX6 yX6_putSightSpeed wsX6_putSightSpeed) := goodIn_app (goodIn_of _ (by decide +kernel)) ggX6_spansMeet_X6_putSightSpeed
set_option maxRecDepth 20000 in
theorem ggX6_spansMeet_X6_putShadowSpeed : GoodIn wsX6_spansMeet wsX6_putShadowSpeed := goodIn_r _ [65, 66, 27, 28, 8, 29, 16, 17, 18, 19, 20, 21, 22, 30, 31, 32, 46, 47, 48, 37, 38, 39, 40, 49, 50, 51, 52, 53, 54, 55, 56, 57, 58, 59, 60, 61, 71, 72, 73, 74, 75, 76, 77, 84, 85, 86, 87, 88, 89] (by decide +kernel) (by decide +kernel)
set_option maxRecDepth 20000 in
theorem gX6_spansMeet_X6_putShadowSpeed : GoodIn wsX6_spansMeet (wsV RX6 94 RX6 yX6_putShadowSpeed wsX6_putShadowSpeed) := goodIn_app (goodIn_of _ (by decide +kernel)) ggX6_spansMeet_X6_putShadowSpeed
set_option maxRecDepth 20000 in
theorem ggX6_spansMeet_X1_isAtMost : GoodIn wsX6_spansMeet wsX1_isAtMost := goodIn_r _ [70, 57, 58, 88, 89] (by decide +kernel) (by decide +kernel)
set_option maxRecDepth 20000 in
theorem gX6_spansMeet_X1_isAtMost : GoodIn wsX6_spansMeet (wsV RX6 98 RX1 yX1_isAtMost wsX1_isAtMost) := goodIn_app (goodIn_of _ (by decide +kernel)) ggX6_spansMeet_X1_isAtMost
theorem dX6_spansMeet_0 : decode cX6_spansMeet 0 = .ok (.aload_n 0, 1) := by decide +kernel
theorem dX6_spansMeet_1 : decode cX6_spansMeet 1 = .ok (.iload_n 1, 1) := by decide +kernel
theorem dX6_spansMeet_2 : decode cX6_spansMeet 2 = .ok (.iload_n 2, 1) := by decide +kernel
theorem dX6_spansMeet_3 : decode cX6_spansMeet 3 = .ok (.iconst 1, 1) := by decide +kernel
theorem dX6_spansMeet_4 : decode cX6_spansMeet 4 = .ok (.aload_n 0, 1) := by decide +kernel
theorem dX6_spansMeet_5 : decode cX6_spansMeet 5 = .ok (.getfield 23, 3) := by decide +kernel
theorem dX6_spansMeet_8 : decode cX6_spansMeet 8 = .ok (.invokevirtual 90, 3) := by decide +kernel
theorem dX6_spansMeet_11 : decode cX6_spansMeet 11 = .ok (.pop, 1) := by decide +kernel
theorem dX6_spansMeet_12 : decode cX6_spansMeet 12 = .ok (.aload_n 0, 1) := by decide +kernel
theorem dX6_spansMeet_13 : decode cX6_spansMeet 13 = .ok (.iload_n 1, 1) := by decide +kernel
theorem dX6_spansMeet_14 : decode cX6_spansMeet 14 = .ok (.iload_n 2, 1) := by decide +kernel
theorem dX6_spansMeet_15 : decode cX6_spansMeet 15 = .ok (.iconst 2, 1) := by decide +kernel
theorem dX6_spansMeet_16 : decode cX6_spansMeet 16 = .ok (.aload_n 0, 1) := by decide +kernel
theorem dX6_spansMeet_17 : decode cX6_spansMeet 17 = .ok (.getfield 27, 3) := by decide +kernel
theorem dX6_spansMeet_20 : decode cX6_spansMeet 20 = .ok (.invokevirtual 90, 3) := by decide +kernel
theorem dX6_spansMeet_23 : decode cX6_spansMeet 23 = .ok (.pop, 1) := by decide +kernel
theorem dX6_spansMeet_24 : decode cX6_spansMeet 24 = .ok (.aload_n 0, 1) := by decide +kernel
theorem dX6_spansMeet_25 : decode cX6_spansMeet 25 = .ok (.iload_n 3, 1) := by decide +kernel
theorem dX6_spansMeet_26 : decode cX6_spansMeet 26 = .ok (.iload 4, 2) := by decide +kernel
theorem dX6_spansMeet_28 : decode cX6_spansMeet 28 = .ok (.iconst 1, 1) := by decide +kernel
theorem dX6_spansMeet_29 : decode cX6_spansMeet 29 = .ok (.aload_n 0, 1) := by decide +kernel
theorem dX6_spansMeet_30 : decode cX6_spansMeet 30 = .ok (.getfield 30, 3) := by decide +kernel
theorem dX6_spansMeet_33 : decode cX6_spansMeet 33 = .ok (.invokevirtual 94, 3) := by decide +kernel
theorem dX6_spansMeet_36 : decode cX6_spansMeet 36 = .ok (.aload_n 0, 1) := by decide +kernel
theorem dX6_spansMeet_37 : decode cX6_spansMeet 37 = .ok (.iload_n 3, 1) := by decide +kernel
theorem dX6_spansMeet_38 : decode cX6_spansMeet 38 = .ok (.iload 4, 2) := by decide +kernel
theorem dX6_spansMeet_40 : decode cX6_spansMeet 40 = .ok (.iconst 2, 1) := by decide +kernel
theorem dX6_spansMeet_41 : decode cX6_spansMeet 41 = .ok (.aload_n 0, 1) := by decide +kernel
theorem dX6_spansMeet_42 : decode cX6_spansMeet 42 = .ok (.getfield 33, 3) := by decide +kernel
theorem dX6_spansMeet_45 : decode cX6_spansMeet 45 = .ok (.invokevirtual 94, 3) := by decide +kernel
theorem dX6_spansMeet_48 : decode cX6_spansMeet 48 = .ok (.aload_n 0, 1) := by decide +kernel
theorem dX6_spansMeet_49 : decode cX6_spansMeet 49 = .ok (.getfield 23, 3) := by decide +kernel
theorem dX6_spansMeet_52 : decode cX6_spansMeet 52 = .ok (.aload_n 0, 1) := by decide +kernel
theorem dX6_spansMeet_53 : decode cX6_spansMeet 53 = .ok (.getfield 33, 3) := by decide +kernel
theorem dX6_spansMeet_56 : decode cX6_spansMeet 56 = .ok (.invokevirtual 98, 3) := by decide +kernel
theorem dX6_spansMeet_59 : decode cX6_spansMeet 59 = .ok (.ifCond .eq 21, 3) := by decide +kernel
theorem dX6_spansMeet_62 : decode cX6_spansMeet 62 = .ok (.aload_n 0, 1) := by decide +kernel
theorem dX6_spansMeet_63 : decode cX6_spansMeet 63 = .ok (.getfield 30, 3) := by decide +kernel
theorem dX6_spansMeet_66 : decode cX6_spansMeet 66 = .ok (.aload_n 0, 1) := by decide +kernel
theorem dX6_spansMeet_67 : decode cX6_spansMeet 67 = .ok (.getfield 27, 3) := by decide +kernel
theorem dX6_spansMeet_70 : decode cX6_spansMeet 70 = .ok (.invokevirtual 98, 3) := by decide +kernel
theorem dX6_spansMeet_73 : decode cX6_spansMeet 73 = .ok (.ifCond .eq 7, 3) := by decide +kernel
theorem dX6_spansMeet_76 : decode cX6_spansMeet 76 = .ok (.iconst 1, 1) := by decide +kernel
theorem dX6_spansMeet_77 : decode cX6_spansMeet 77 = .ok (.goto 4, 3) := by decide +kernel
theorem dX6_spansMeet_80 : decode cX6_spansMeet 80 = .ok (.iconst 0, 1) := by decide +kernel
theorem dX6_spansMeet_81 : decode cX6_spansMeet 81 = .ok (.ireturn, 1) := by decide +kernel
set_option maxRecDepth 100000 in
def fX6_spansMeet (x1 : Int32) (x2 : Int32) (x3 : Int32) (x4 : Int32) (t_settings_base : Int32) (t_settings_slip : Int32) (t_sights_width : Int32) (t_shadows_width : Int32) (t_sightLow_above : Int64) (t_sightLow_below : Int64) (t_sightHigh_above : Int64) (t_sightHigh_below : Int64) (t_shadowLow_above : Int64) (t_shadowLow_below : Int64) (t_shadowHigh_above : Int64) (t_shadowHigh_below : Int64) (t_sights_cells_n : Nat) (t_sights_cells_a : Nat → Int32) (t_shadows_cells_n : Nat) (t_shadows_cells_a : Nat → Int32) : Option (Bool × Int64 × Int64 × Int64 × Int64 × Int64 × Int64 × Int64 × Int64) :=
  ob3 (fX6_putSightSpeed x1 x2 1 t_settings_base t_settings_slip t_sights_width t_sights_cells_n t_sights_cells_a t_sightLow_above t_sightLow_below) fun r1 w2 w3 =>
  ob3 (fX6_putSightSpeed x1 x2 2 t_settings_base t_settings_slip t_sights_width t_sights_cells_n t_sights_cells_a t_sightHigh_above t_sightHigh_below) fun r5 w6 w7 =>
  ob2 (fX6_putShadowSpeed x3 x4 1 t_shadows_width t_shadows_cells_n t_shadows_cells_a t_shadowLow_above t_shadowLow_below) fun w9 w10 =>
  ob2 (fX6_putShadowSpeed x3 x4 2 t_shadows_width t_shadows_cells_n t_shadows_cells_a t_shadowHigh_above t_shadowHigh_below) fun w12 w13 =>
  ob (fX1_isAtMost w2 w3 w12 w13) fun r15 =>
  if (b2i r15) = 0 then
    some (false, w2, w3, w6, w7, w9, w10, w12, w13)
  else
    ob (fX1_isAtMost w9 w10 w6 w7) fun r18 =>
    if (b2i r18) = 0 then
      some (false, w2, w3, w6, w7, w9, w10, w12, w13)
    else
      some (true, w2, w3, w6, w7, w9, w10, w12, w13)
abbrev rmX6_spansMeet : Room := { frames := 4, cells := 0, slots := 0, locals := 102 }
theorem iwX6_spansMeet_X6 : ∀ w ∈ u_ws RX6 TX6 7, w ∈ wsX6_spansMeet := by decide +kernel
set_option maxHeartbeats 4000000 in
set_option maxRecDepth 100000 in
theorem k_X6_spansMeet (l : Launch) (G : va_G) (cI cJ : ClassId) (t_h t_settings_h t_sights_h t_shadows_h t_sightLow_h t_sightHigh_h t_shadowLow_h t_shadowHigh_h t_sights_cells_h t_shadows_cells_h : Nat) (sz : Nat) (t_settings_base : Int32) (t_settings_slip : Int32) (t_settings_low : Int32) (t_settings_high : Int32) (t_settings_unlike : Int32) (t_settings_alone : Int32) (t_sights_width : Int32) (t_sights_most : Int32) (t_sights_lines : Int32) (t_shadows_width : Int32) (t_shadows_most : Int32) (t_shadows_lines : Int32) (t_sightLow_above : Int64) (t_sightLow_below : Int64) (t_sightHigh_above : Int64) (t_sightHigh_below : Int64) (t_shadowLow_above : Int64) (t_shadowLow_below : Int64) (t_shadowHigh_above : Int64) (t_shadowHigh_below : Int64) (t_sights_cells_n : Nat) (t_sights_cells_a : Nat → Int32) (t_shadows_cells_n : Nat) (t_shadows_cells_a : Nat → Int32) (x1 : Int32) (x2 : Int32) (x3 : Int32) (x4 : Int32) {o_r : Bool} {o_t_sightLow_above : Int64} {o_t_sightLow_below : Int64} {o_t_sightHigh_above : Int64} {o_t_sightHigh_below : Int64} {o_t_shadowLow_above : Int64} {o_t_shadowLow_below : Int64} {o_t_shadowHigh_above : Int64} {o_t_shadowHigh_below : Int64} (hf : fX6_spansMeet x1 x2 x3 x4 t_settings_base t_settings_slip t_sights_width t_shadows_width t_sightLow_above t_sightLow_below t_sightHigh_above t_sightHigh_below t_shadowLow_above t_shadowLow_below t_shadowHigh_above t_shadowHigh_below t_sights_cells_n t_sights_cells_a t_shadows_cells_n t_shadows_cells_a = some (o_r, o_t_sightLow_above, o_t_sightLow_below, o_t_sightHigh_above, o_t_sightHigh_below, o_t_shadowLow_above, o_t_shadowLow_below, o_t_shadowHigh_above, o_t_shadowHigh_below)) : MetI l yX6_spansMeet wsX6_spansMeet rmX6_spansMeet [.ref t_h, .int x1, .int x2, .int x3, .int x4] G cI cJ [(t_h, .inr (6, [.ref t_settings_h, .ref t_sights_h, .ref t_shadows_h, .ref t_sightLow_h, .ref t_sightHigh_h, .ref t_shadowLow_h, .ref t_shadowHigh_h])), (t_settings_h, .inr (4, [.int t_settings_base, .int t_settings_slip, .int t_settings_low, .int t_settings_high, .int t_settings_unlike, .int t_settings_alone])), (t_sights_h, .inr (7, [.int t_sights_width, .int t_sights_most, .ref t_sights_cells_h, .int t_sights_lines])), (t_shadows_h, .inr (7, [.int t_shadows_width, .int t_shadows_most, .ref t_shadows_cells_h, .int t_shadows_lines])), (t_sightLow_h, .inr (1, [.long t_sightLow_above, .long t_sightLow_below])), (t_sightHigh_h, .inr (1, [.long t_sightHigh_above, .long t_sightHigh_below])), (t_shadowLow_h, .inr (1, [.long t_shadowLow_above, .long t_shadowLow_below])), (t_shadowHigh_h, .inr (1, [.long t_shadowHigh_above, .long t_shadowHigh_below])), (t_sights_cells_h, .inl (cI, t_sights_cells_n, .inl t_sights_cells_a)), (t_shadows_cells_h, .inl (cI, t_shadows_cells_n, .inl t_shadows_cells_a))] [(t_h, .inr (6, [.ref t_settings_h, .ref t_sights_h, .ref t_shadows_h, .ref t_sightLow_h, .ref t_sightHigh_h, .ref t_shadowLow_h, .ref t_shadowHigh_h])), (t_settings_h, .inr (4, [.int t_settings_base, .int t_settings_slip, .int t_settings_low, .int t_settings_high, .int t_settings_unlike, .int t_settings_alone])), (t_sights_h, .inr (7, [.int t_sights_width, .int t_sights_most, .ref t_sights_cells_h, .int t_sights_lines])), (t_shadows_h, .inr (7, [.int t_shadows_width, .int t_shadows_most, .ref t_shadows_cells_h, .int t_shadows_lines])), (t_sightLow_h, .inr (1, [.long o_t_sightLow_above, .long o_t_sightLow_below])), (t_sightHigh_h, .inr (1, [.long o_t_sightHigh_above, .long o_t_sightHigh_below])), (t_shadowLow_h, .inr (1, [.long o_t_shadowLow_above, .long o_t_shadowLow_below])), (t_shadowHigh_h, .inr (1, [.long o_t_shadowHigh_above, .long o_t_shadowHigh_below])), (t_sights_cells_h, .inl (cI, t_sights_cells_n, .inl t_sights_cells_a)), (t_shadows_cells_h, .inl (cI, t_shadows_cells_n, .inl t_shadows_cells_a))] sz (b2i o_r) := by
  refine en_0 (l := l) (y := yX6_spansMeet) (wsl := wsX6_spansMeet) (rm := rmX6_spansMeet) (av := [.ref t_h, .int x1, .int x2, .int x3, .int x4]) (G := G) (cI := cI) (cJ := cJ) (w0 := [(t_h, .inr (6, [.ref t_settings_h, .ref t_sights_h, .ref t_shadows_h, .ref t_sightLow_h, .ref t_sightHigh_h, .ref t_shadowLow_h, .ref t_shadowHigh_h])), (t_settings_h, .inr (4, [.int t_settings_base, .int t_settings_slip, .int t_settings_low, .int t_settings_high, .int t_settings_unlike, .int t_settings_alone])), (t_sights_h, .inr (7, [.int t_sights_width, .int t_sights_most, .ref t_sights_cells_h, .int t_sights_lines])), (t_shadows_h, .inr (7, [.int t_shadows_width, .int t_shadows_most, .ref t_shadows_cells_h, .int t_shadows_lines])), (t_sightLow_h, .inr (1, [.long t_sightLow_above, .long t_sightLow_below])), (t_sightHigh_h, .inr (1, [.long t_sightHigh_above, .long t_sightHigh_below])), (t_shadowLow_h, .inr (1, [.long t_shadowLow_above, .long t_shadowLow_below])), (t_shadowHigh_h, .inr (1, [.long t_shadowHigh_above, .long t_shadowHigh_below])), (t_sights_cells_h, .inl (cI, t_sights_cells_n, .inl t_sights_cells_a)), (t_shadows_cells_h, .inl (cI, t_shadows_cells_n, .inl t_shadows_cells_a))]) (sz := sz) (Qf := fun A => Qi0 G cI cJ [(t_h, .inr (6, [.ref t_settings_h, .ref t_sights_h, .ref t_shadows_h, .ref t_sightLow_h, .ref t_sightHigh_h, .ref t_shadowLow_h, .ref t_shadowHigh_h])), (t_settings_h, .inr (4, [.int t_settings_base, .int t_settings_slip, .int t_settings_low, .int t_settings_high, .int t_settings_unlike, .int t_settings_alone])), (t_sights_h, .inr (7, [.int t_sights_width, .int t_sights_most, .ref t_sights_cells_h, .int t_sights_lines])), (t_shadows_h, .inr (7, [.int t_shadows_width, .int t_shadows_most, .ref t_shadows_cells_h, .int t_shadows_lines])), (t_sightLow_h, .inr (1, [.long o_t_sightLow_above, .long o_t_sightLow_below])), (t_sightHigh_h, .inr (1, [.long o_t_sightHigh_above, .long o_t_sightHigh_below])), (t_shadowLow_h, .inr (1, [.long o_t_shadowLow_above, .long o_t_shadowLow_below])), (t_shadowHigh_h, .inr (1, [.long o_t_shadowHigh_above, .long o_t_shadowHigh_below])), (t_sights_cells_h, .inl (cI, t_sights_cells_n, .inl t_sights_cells_a)), (t_shadows_cells_h, .inl (cI, t_shadows_cells_n, .inl t_shadows_cells_a))] (b2i o_r) A) (cc := cX6_spansMeet) (maxL := 5) (ret := (some .boolean)) RX6 (by decide +kernel) rfl rfl (Nat.le_of_ble_eq_true rfl) ?_
  intro p e s m args below meth c A ls Q hQ hx hb hr hts hown hlocks hml hN hK hP hD hS hA hl
  have hl : lv_has ls 5 [(0, .ref t_h), (1, .int x1), (2, .int x2), (3, .int x3), (4, .int x4)] := hl
  have iwX6 := iwX6_spansMeet_X6
  have fl_23 := hts (.fieldLink RX6 23 "CloudOffice$Speeds" "sightLow" "LCloudOffice$Fraction;") (by decide +kernel)
  have fl_27 := hts (.fieldLink RX6 27 "CloudOffice$Speeds" "sightHigh" "LCloudOffice$Fraction;") (by decide +kernel)
  have fl_30 := hts (.fieldLink RX6 30 "CloudOffice$Speeds" "shadowLow" "LCloudOffice$Fraction;") (by decide +kernel)
  have fl_33 := hts (.fieldLink RX6 33 "CloudOffice$Speeds" "shadowHigh" "LCloudOffice$Fraction;") (by decide +kernel)
  have hret : ∀ (o_r9 : Bool) (o_t_sightLow_above9 : Int64) (o_t_sightLow_below9 : Int64) (o_t_sightHigh_above9 : Int64) (o_t_sightHigh_below9 : Int64) (o_t_shadowLow_above9 : Int64) (o_t_shadowLow_below9 : Int64) (o_t_shadowHigh_above9 : Int64) (o_t_shadowHigh_below9 : Int64) (pc : Nat) (H : Heap) (locs : List Loc) (ls : Array Slot), decode cX6_spansMeet pc = .ok (.ireturn, 1) → some (o_r9, o_t_sightLow_above9, o_t_sightLow_below9, o_t_sightHigh_above9, o_t_sightHigh_below9, o_t_shadowLow_above9, o_t_shadowLow_below9, o_t_shadowHigh_above9, o_t_shadowHigh_below9) = some (o_r, o_t_sightLow_above, o_t_sightLow_below, o_t_sightHigh_above, o_t_sightHigh_below, o_t_shadowLow_above, o_t_shadowLow_below, o_t_shadowHigh_above, o_t_shadowHigh_below) → va_P G vwCl [(t_h, .inr (6, [.ref t_settings_h, .ref t_sights_h, .ref t_shadows_h, .ref t_sightLow_h, .ref t_sightHigh_h, .ref t_shadowLow_h, .ref t_shadowHigh_h])), (t_settings_h, .inr (4, [.int t_settings_base, .int t_settings_slip, .int t_settings_low, .int t_settings_high, .int t_settings_unlike, .int t_settings_alone])), (t_sights_h, .inr (7, [.int t_sights_width, .int t_sights_most, .ref t_sights_cells_h, .int t_sights_lines])), (t_shadows_h, .inr (7, [.int t_shadows_width, .int t_shadows_most, .ref t_shadows_cells_h, .int t_shadows_lines])), (t_sightLow_h, .inr (1, [.long o_t_sightLow_above9, .long o_t_sightLow_below9])), (t_sightHigh_h, .inr (1, [.long o_t_sightHigh_above9, .long o_t_sightHigh_below9])), (t_shadowLow_h, .inr (1, [.long o_t_shadowLow_above9, .long o_t_shadowLow_below9])), (t_shadowHigh_h, .inr (1, [.long o_t_shadowHigh_above9, .long o_t_shadowHigh_below9])), (t_sights_cells_h, .inl (cI, t_sights_cells_n, .inl t_sights_cells_a)), (t_shadows_cells_h, .inl (cI, t_shadows_cells_n, .inl t_shadows_cells_a))] H → va_D A [(t_h, .inr (6, [.ref t_settings_h, .ref t_sights_h, .ref t_shadows_h, .ref t_sightLow_h, .ref t_sightHigh_h, .ref t_shadowLow_h, .ref t_shadowHigh_h])), (t_settings_h, .inr (4, [.int t_settings_base, .int t_settings_slip, .int t_settings_low, .int t_settings_high, .int t_settings_unlike, .int t_settings_alone])), (t_sights_h, .inr (7, [.int t_sights_width, .int t_sights_most, .ref t_sights_cells_h, .int t_sights_lines])), (t_shadows_h, .inr (7, [.int t_shadows_width, .int t_shadows_most, .ref t_shadows_cells_h, .int t_shadows_lines])), (t_sightLow_h, .inr (1, [.long o_t_sightLow_above9, .long o_t_sightLow_below9])), (t_sightHigh_h, .inr (1, [.long o_t_sightHigh_above9, .long o_t_sightHigh_below9])), (t_shadowLow_h, .inr (1, [.long o_t_shadowLow_above9, .long o_t_shadowLow_below9])), (t_shadowHigh_h, .inr (1, [.long o_t_shadowHigh_above9, .long o_t_shadowHigh_below9])), (t_sights_cells_h, .inl (cI, t_sights_cells_n, .inl t_sights_cells_a)), (t_shadows_cells_h, .inl (cI, t_shadows_cells_n, .inl t_shadows_cells_a))] → va_S A s.heap H locs → W p l e rmX6_spansMeet s m args below meth c H locs 0 0 Q (F0 m pc ls [.int (b2i o_r9)]) := by
    intro o_r9 o_t_sightLow_above9 o_t_sightLow_below9 o_t_sightHigh_above9 o_t_sightHigh_below9 o_t_shadowLow_above9 o_t_shadowLow_below9 o_t_shadowHigh_above9 o_t_shadowHigh_below9 pc H locs ls hdg he hP hD hS
    cases he
    subst hQ
    exact rt_z hx hb hr hlocks hK hP hD hS (b2i_narrow _) rfl hdg
  clear hQ
  unfold fX6_spansMeet at hf
  refine lv_aload_n hx hb dX6_spansMeet_0 rfl (lv_at hl 0 rfl) ?_
  refine lv_iload_n hx hb dX6_spansMeet_1 rfl (lv_at hl 1 rfl) ?_
  refine lv_iload_n hx hb dX6_spansMeet_2 rfl (lv_at hl 2 rfl) ?_
  refine lv_iconst (v := 1) hx hb dX6_spansMeet_3 (by decide) ?_
  refine lv_aload_n hx hb dX6_spansMeet_4 rfl (lv_at hl 0 rfl) ?_
  refine va_get (D := G) (ci := 6) (v := .ref t_sightLow_h) (C := RX6) (T := TX6) (N := 7) hx hb hts iwX6 hown hK hP 0 rfl rfl 3 (by decide) fl_23 (fun _ h9 => h9) rfl dX6_spansMeet_5 ?_
  obtain ⟨r1, w2, w3, hc4, hf⟩ := ob3_some hf
  refine af_iW (wr := [(t_shadows_h, .inr (7, [.int t_shadows_width, .int t_shadows_most, .ref t_shadows_cells_h, .int t_shadows_lines])), (t_sightHigh_h, .inr (1, [.long t_sightHigh_above, .long t_sightHigh_below])), (t_shadowLow_h, .inr (1, [.long t_shadowLow_above, .long t_shadowLow_below])), (t_shadowHigh_h, .inr (1, [.long t_shadowHigh_above, .long t_shadowHigh_below])), (t_shadows_cells_h, .inl (cI, t_shadows_cells_n, .inl t_shadows_cells_a))]) (ws2 := [(t_h, .inr (6, [.ref t_settings_h, .ref t_sights_h, .ref t_shadows_h, .ref t_sightLow_h, .ref t_sightHigh_h, .ref t_shadowLow_h, .ref t_shadowHigh_h])), (t_settings_h, .inr (4, [.int t_settings_base, .int t_settings_slip, .int t_settings_low, .int t_settings_high, .int t_settings_unlike, .int t_settings_alone])), (t_sights_h, .inr (7, [.int t_sights_width, .int t_sights_most, .ref t_sights_cells_h, .int t_sights_lines])), (t_shadows_h, .inr (7, [.int t_shadows_width, .int t_shadows_most, .ref t_shadows_cells_h, .int t_shadows_lines])), (t_sightLow_h, .inr (1, [.long w2, .long w3])), (t_sightHigh_h, .inr (1, [.long t_sightHigh_above, .long t_sightHigh_below])), (t_shadowLow_h, .inr (1, [.long t_shadowLow_above, .long t_shadowLow_below])), (t_shadowHigh_h, .inr (1, [.long t_shadowHigh_above, .long t_shadowHigh_below])), (t_sights_cells_h, .inl (cI, t_sights_cells_n, .inl t_sights_cells_a)), (t_shadows_cells_h, .inl (cI, t_shadows_cells_n, .inl t_shadows_cells_a))]) (va_runV (As := [.int x1, .int x2, .int 1, .ref t_sightLow_h]) (rest := []) ⟨hx, hb, hml, hown, hts⟩ (k_X6_putSightSpeed l G cI cJ (t_h := t_h) (t_settings_h := t_settings_h) (t_sights_h := t_sights_h) (t_shadows_h := t_shadows_h) (t_sightLow_h := t_sightLow_h) (t_sightHigh_h := t_sightHigh_h) (t_shadowLow_h := t_shadowLow_h) (t_shadowHigh_h := t_shadowHigh_h) (t_sights_cells_h := t_sights_cells_h) (L4_h := t_sightLow_h) (t_settings_base := t_settings_base) (t_settings_slip := t_settings_slip) (t_settings_low := t_settings_low) (t_settings_high := t_settings_high) (t_settings_unlike := t_settings_unlike) (t_settings_alone := t_settings_alone) (t_sights_width := t_sights_width) (t_sights_most := t_sights_most) (t_sights_lines := t_sights_lines) (t_sights_cells_n := t_sights_cells_n) (t_sights_cells_a := t_sights_cells_a) (L4_above := t_sightLow_above) (L4_below := t_sightLow_below) (x1 := x1) (x2 := x2) (x3 := 1) (sz := _) (hf := hc4)) (cwV 4 hts gX6_spansMeet_X6_putSightSpeed rfl rfl rfl (by decide +kernel) ⟨Nat.le_of_ble_eq_true rfl, Nat.le_of_ble_eq_true rfl⟩) (preV0 (ci := 6) (q0 := 0) (C := RX6) (wc := [(t_h, .inr (6, [.ref t_settings_h, .ref t_sights_h, .ref t_shadows_h, .ref t_sightLow_h, .ref t_sightHigh_h, .ref t_shadowLow_h, .ref t_shadowHigh_h])), (t_settings_h, .inr (4, [.int t_settings_base, .int t_settings_slip, .int t_settings_low, .int t_settings_high, .int t_settings_unlike, .int t_settings_alone])), (t_sights_h, .inr (7, [.int t_sights_width, .int t_sights_most, .ref t_sights_cells_h, .int t_sights_lines])), (t_sights_cells_h, .inl (cI, t_sights_cells_n, .inl t_sights_cells_a)), (t_sightLow_h, .inr (1, [.long t_sightLow_above, .long t_sightLow_below]))]) hK hP hD hN [0, 1, 2, 8, 4] rfl rfl (by decide) rfl rfl) rfl rfl hl.1 rfl (lv_room (Nat.le_of_ble_eq_true rfl)) dX6_spansMeet_8 ⟨Nat.zero_le _, Nat.zero_le _⟩) hP hD hS hA [0, 1, 2, 8, 4] [3, 5, 6, 7, 9] [5, 6, 7, 0, 9, 1, 2, 3, 8, 4] rfl rfl (by decide) (by decide) rfl rfl (by decide) (fun H locs hP hD hS => ?_)
  refine lv_pop hx hb dX6_spansMeet_11 rfl ?_
  refine lv_aload_n hx hb dX6_spansMeet_12 rfl (lv_at hl 0 rfl) ?_
  refine lv_iload_n hx hb dX6_spansMeet_13 rfl (lv_at hl 1 rfl) ?_
  refine lv_iload_n hx hb dX6_spansMeet_14 rfl (lv_at hl 2 rfl) ?_
  refine lv_iconst (v := 2) hx hb dX6_spansMeet_15 (by decide) ?_
  refine lv_aload_n hx hb dX6_spansMeet_16 rfl (lv_at hl 0 rfl) ?_
  refine va_get (D := G) (ci := 6) (v := .ref t_sightHigh_h) (C := RX6) (T := TX6) (N := 7) hx hb hts iwX6 hown hK hP 0 rfl rfl 4 (by decide) fl_27 (fun _ h9 => h9) rfl dX6_spansMeet_17 ?_
  obtain ⟨r5, w6, w7, hc8, hf⟩ := ob3_some hf
  refine af_iW (wr := [(t_shadows_h, .inr (7, [.int t_shadows_width, .int t_shadows_most, .ref t_shadows_cells_h, .int t_shadows_lines])), (t_sightLow_h, .inr (1, [.long w2, .long w3])), (t_shadowLow_h, .inr (1, [.long t_shadowLow_above, .long t_shadowLow_below])), (t_shadowHigh_h, .inr (1, [.long t_shadowHigh_above, .long t_shadowHigh_below])), (t_shadows_cells_h, .inl (cI, t_shadows_cells_n, .inl t_shadows_cells_a))]) (ws2 := [(t_h, .inr (6, [.ref t_settings_h, .ref t_sights_h, .ref t_shadows_h, .ref t_sightLow_h, .ref t_sightHigh_h, .ref t_shadowLow_h, .ref t_shadowHigh_h])), (t_settings_h, .inr (4, [.int t_settings_base, .int t_settings_slip, .int t_settings_low, .int t_settings_high, .int t_settings_unlike, .int t_settings_alone])), (t_sights_h, .inr (7, [.int t_sights_width, .int t_sights_most, .ref t_sights_cells_h, .int t_sights_lines])), (t_shadows_h, .inr (7, [.int t_shadows_width, .int t_shadows_most, .ref t_shadows_cells_h, .int t_shadows_lines])), (t_sightLow_h, .inr (1, [.long w2, .long w3])), (t_sightHigh_h, .inr (1, [.long w6, .long w7])), (t_shadowLow_h, .inr (1, [.long t_shadowLow_above, .long t_shadowLow_below])), (t_shadowHigh_h, .inr (1, [.long t_shadowHigh_above, .long t_shadowHigh_below])), (t_sights_cells_h, .inl (cI, t_sights_cells_n, .inl t_sights_cells_a)), (t_shadows_cells_h, .inl (cI, t_shadows_cells_n, .inl t_shadows_cells_a))]) (va_runV (As := [.int x1, .int x2, .int 2, .ref t_sightHigh_h]) (rest := []) ⟨hx, hb, hml, hown, hts⟩ (k_X6_putSightSpeed l G cI cJ (t_h := t_h) (t_settings_h := t_settings_h) (t_sights_h := t_sights_h) (t_shadows_h := t_shadows_h) (t_sightLow_h := t_sightLow_h) (t_sightHigh_h := t_sightHigh_h) (t_shadowLow_h := t_shadowLow_h) (t_shadowHigh_h := t_shadowHigh_h) (t_sights_cells_h := t_sights_cells_h) (L4_h := t_sightHigh_h) (t_settings_base := t_settings_base) (t_settings_slip := t_settings_slip) (t_settings_low := t_settings_low) (t_settings_high := t_settings_high) (t_settings_unlike := t_settings_unlike) (t_settings_alone := t_settings_alone) (t_sights_width := t_sights_width) (t_sights_most := t_sights_most) (t_sights_lines := t_sights_lines) (t_sights_cells_n := t_sights_cells_n) (t_sights_cells_a := t_sights_cells_a) (L4_above := t_sightHigh_above) (L4_below := t_sightHigh_below) (x1 := x1) (x2 := x2) (x3 := 2) (sz := _) (hf := hc8)) (cwV 4 hts gX6_spansMeet_X6_putSightSpeed rfl rfl rfl (by decide +kernel) ⟨Nat.le_of_ble_eq_true rfl, Nat.le_of_ble_eq_true rfl⟩) (preV0 (ci := 6) (q0 := 0) (C := RX6) (wc := [(t_h, .inr (6, [.ref t_settings_h, .ref t_sights_h, .ref t_shadows_h, .ref t_sightLow_h, .ref t_sightHigh_h, .ref t_shadowLow_h, .ref t_shadowHigh_h])), (t_settings_h, .inr (4, [.int t_settings_base, .int t_settings_slip, .int t_settings_low, .int t_settings_high, .int t_settings_unlike, .int t_settings_alone])), (t_sights_h, .inr (7, [.int t_sights_width, .int t_sights_most, .ref t_sights_cells_h, .int t_sights_lines])), (t_sights_cells_h, .inl (cI, t_sights_cells_n, .inl t_sights_cells_a)), (t_sightHigh_h, .inr (1, [.long t_sightHigh_above, .long t_sightHigh_below]))]) hK hP hD hN [0, 1, 2, 8, 5] rfl rfl (by decide) rfl rfl) rfl rfl hl.1 rfl (lv_room (Nat.le_of_ble_eq_true rfl)) dX6_spansMeet_20 ⟨Nat.zero_le _, Nat.zero_le _⟩) hP hD hS hA [0, 1, 2, 8, 5] [3, 4, 6, 7, 9] [5, 6, 7, 0, 1, 9, 2, 3, 8, 4] rfl rfl (by decide) (by decide) rfl rfl (by decide) (fun H locs hP hD hS => ?_)
  refine lv_pop hx hb dX6_spansMeet_23 rfl ?_
  refine lv_aload_n hx hb dX6_spansMeet_24 rfl (lv_at hl 0 rfl) ?_
  refine lv_iload_n hx hb dX6_spansMeet_25 rfl (lv_at hl 3 rfl) ?_
  refine lv_iload hx hb dX6_spansMeet_26 (lv_at hl 4 rfl) ?_
  refine lv_iconst (v := 1) hx hb dX6_spansMeet_28 (by decide) ?_
  refine lv_aload_n hx hb dX6_spansMeet_29 rfl (lv_at hl 0 rfl) ?_
  refine va_get (D := G) (ci := 6) (v := .ref t_shadowLow_h) (C := RX6) (T := TX6) (N := 7) hx hb hts iwX6 hown hK hP 0 rfl rfl 5 (by decide) fl_30 (fun _ h9 => h9) rfl dX6_spansMeet_30 ?_
  obtain ⟨w9, w10, hc11, hf⟩ := ob2_some hf
  refine af_vW (wr := [(t_settings_h, .inr (4, [.int t_settings_base, .int t_settings_slip, .int t_settings_low, .int t_settings_high, .int t_settings_unlike, .int t_settings_alone])), (t_sights_h, .inr (7, [.int t_sights_width, .int t_sights_most, .ref t_sights_cells_h, .int t_sights_lines])), (t_sightLow_h, .inr (1, [.long w2, .long w3])), (t_sightHigh_h, .inr (1, [.long w6, .long w7])), (t_shadowHigh_h, .inr (1, [.long t_shadowHigh_above, .long t_shadowHigh_below])), (t_sights_cells_h, .inl (cI, t_sights_cells_n, .inl t_sights_cells_a))]) (ws2 := [(t_h, .inr (6, [.ref t_settings_h, .ref t_sights_h, .ref t_shadows_h, .ref t_sightLow_h, .ref t_sightHigh_h, .ref t_shadowLow_h, .ref t_shadowHigh_h])), (t_settings_h, .inr (4, [.int t_settings_base, .int t_settings_slip, .int t_settings_low, .int t_settings_high, .int t_settings_unlike, .int t_settings_alone])), (t_sights_h, .inr (7, [.int t_sights_width, .int t_sights_most, .ref t_sights_cells_h, .int t_sights_lines])), (t_shadows_h, .inr (7, [.int t_shadows_width, .int t_shadows_most, .ref t_shadows_cells_h, .int t_shadows_lines])), (t_sightLow_h, .inr (1, [.long w2, .long w3])), (t_sightHigh_h, .inr (1, [.long w6, .long w7])), (t_shadowLow_h, .inr (1, [.long w9, .long w10])), (t_shadowHigh_h, .inr (1, [.long t_shadowHigh_above, .long t_shadowHigh_below])), (t_sights_cells_h, .inl (cI, t_sights_cells_n, .inl t_sights_cells_a)), (t_shadows_cells_h, .inl (cI, t_shadows_cells_n, .inl t_shadows_cells_a))]) (va_runV (As := [.int x3, .int x4, .int 1, .ref t_shadowLow_h]) (rest := []) ⟨hx, hb, hml, hown, hts⟩ (k_X6_putShadowSpeed l G cI cJ (t_h := t_h) (t_settings_h := t_settings_h) (t_sights_h := t_sights_h) (t_shadows_h := t_shadows_h) (t_sightLow_h := t_sightLow_h) (t_sightHigh_h := t_sightHigh_h) (t_shadowLow_h := t_shadowLow_h) (t_shadowHigh_h := t_shadowHigh_h) (t_shadows_cells_h := t_shadows_cells_h) (L4_h := t_shadowLow_h) (t_shadows_width := t_shadows_width) (t_shadows_most := t_shadows_most) (t_shadows_lines := t_shadows_lines) (t_shadows_cells_n := t_shadows_cells_n) (t_shadows_cells_a := t_shadows_cells_a) (L4_above := t_shadowLow_above) (L4_below := t_shadowLow_below) (x1 := x3) (x2 := x4) (x3 := 1) (sz := _) (hf := hc11)) (cwV 4 hts gX6_spansMeet_X6_putShadowSpeed rfl rfl rfl (by decide +kernel) ⟨Nat.le_of_ble_eq_true rfl, Nat.le_of_ble_eq_true rfl⟩) (preV0 (ci := 6) (q0 := 0) (C := RX6) (wc := [(t_h, .inr (6, [.ref t_settings_h, .ref t_sights_h, .ref t_shadows_h, .ref t_sightLow_h, .ref t_sightHigh_h, .ref t_shadowLow_h, .ref t_shadowHigh_h])), (t_shadows_h, .inr (7, [.int t_shadows_width, .int t_shadows_most, .ref t_shadows_cells_h, .int t_shadows_lines])), (t_shadows_cells_h, .inl (cI, t_shadows_cells_n, .inl t_shadows_cells_a)), (t_shadowLow_h, .inr (1, [.long t_shadowLow_above, .long t_shadowLow_below]))]) hK hP hD hN [0, 3, 9, 6] rfl rfl (by decide) rfl rfl) rfl rfl hl.1 rfl (lv_room (Nat.le_of_ble_eq_true rfl)) dX6_spansMeet_33 ⟨Nat.zero_le _, Nat.zero_le _⟩) hP hD hS hA [0, 3, 9, 6] [1, 2, 4, 5, 7, 8] [6, 0, 1, 7, 2, 3, 9, 4, 5, 8] rfl rfl (by decide) (by decide) rfl rfl (by decide) (fun H locs hP hD hS => ?_)
  refine lv_aload_n hx hb dX6_spansMeet_36 rfl (lv_at hl 0 rfl) ?_
  refine lv_iload_n hx hb dX6_spansMeet_37 rfl (lv_at hl 3 rfl) ?_
  refine lv_iload hx hb dX6_spansMeet_38 (lv_at hl 4 rfl) ?_
  refine lv_iconst (v := 2) hx hb dX6_spansMeet_40 (by decide) ?_
  refine lv_aload_n hx hb dX6_spansMeet_41 rfl (lv_at hl 0 rfl) ?_
  refine va_get (D := G) (ci := 6) (v := .ref t_shadowHigh_h) (C := RX6) (T := TX6) (N := 7) hx hb hts iwX6 hown hK hP 0 rfl rfl 6 (by decide) fl_33 (fun _ h9 => h9) rfl dX6_spansMeet_42 ?_
  obtain ⟨w12, w13, hc14, hf⟩ := ob2_some hf
  refine af_vW (wr := [(t_settings_h, .inr (4, [.int t_settings_base, .int t_settings_slip, .int t_settings_low, .int t_settings_high, .int t_settings_unlike, .int t_settings_alone])), (t_sights_h, .inr (7, [.int t_sights_width, .int t_sights_most, .ref t_sights_cells_h, .int t_sights_lines])), (t_sightLow_h, .inr (1, [.long w2, .long w3])), (t_sightHigh_h, .inr (1, [.long w6, .long w7])), (t_shadowLow_h, .inr (1, [.long w9, .long w10])), (t_sights_cells_h, .inl (cI, t_sights_cells_n, .inl t_sights_cells_a))]) (ws2 := [(t_h, .inr (6, [.ref t_settings_h, .ref t_sights_h, .ref t_shadows_h, .ref t_sightLow_h, .ref t_sightHigh_h, .ref t_shadowLow_h, .ref t_shadowHigh_h])), (t_settings_h, .inr (4, [.int t_settings_base, .int t_settings_slip, .int t_settings_low, .int t_settings_high, .int t_settings_unlike, .int t_settings_alone])), (t_sights_h, .inr (7, [.int t_sights_width, .int t_sights_most, .ref t_sights_cells_h, .int t_sights_lines])), (t_shadows_h, .inr (7, [.int t_shadows_width, .int t_shadows_most, .ref t_shadows_cells_h, .int t_shadows_lines])), (t_sightLow_h, .inr (1, [.long w2, .long w3])), (t_sightHigh_h, .inr (1, [.long w6, .long w7])), (t_shadowLow_h, .inr (1, [.long w9, .long w10])), (t_shadowHigh_h, .inr (1, [.long w12, .long w13])), (t_sights_cells_h, .inl (cI, t_sights_cells_n, .inl t_sights_cells_a)), (t_shadows_cells_h, .inl (cI, t_shadows_cells_n, .inl t_shadows_cells_a))]) (va_runV (As := [.int x3, .int x4, .int 2, .ref t_shadowHigh_h]) (rest := []) ⟨hx, hb, hml, hown, hts⟩ (k_X6_putShadowSpeed l G cI cJ (t_h := t_h) (t_settings_h := t_settings_h) (t_sights_h := t_sights_h) (t_shadows_h := t_shadows_h) (t_sightLow_h := t_sightLow_h) (t_sightHigh_h := t_sightHigh_h) (t_shadowLow_h := t_shadowLow_h) (t_shadowHigh_h := t_shadowHigh_h) (t_shadows_cells_h := t_shadows_cells_h) (L4_h := t_shadowHigh_h) (t_shadows_width := t_shadows_width) (t_shadows_most := t_shadows_most) (t_shadows_lines := t_shadows_lines) (t_shadows_cells_n := t_shadows_cells_n) (t_shadows_cells_a := t_shadows_cells_a) (L4_above := t_shadowHigh_above) (L4_below := t_shadowHigh_below) (x1 := x3) (x2 := x4) (x3 := 2) (sz := _) (hf := hc14)) (cwV 4 hts gX6_spansMeet_X6_putShadowSpeed rfl rfl rfl (by decide +kernel) ⟨Nat.le_of_ble_eq_true rfl, Nat.le_of_ble_eq_true rfl⟩) (preV0 (ci := 6) (q0 := 0) (C := RX6) (wc := [(t_h, .inr (6, [.ref t_settings_h, .ref t_sights_h, .ref t_shadows_h, .ref t_sightLow_h, .ref t_sightHigh_h, .ref t_shadowLow_h, .ref t_shadowHigh_h])), (t_shadows_h, .inr (7, [.int t_shadows_width, .int t_shadows_most, .ref t_shadows_cells_h, .int t_shadows_lines])), (t_shadows_cells_h, .inl (cI, t_shadows_cells_n, .inl t_shadows_cells_a)), (t_shadowHigh_h, .inr (1, [.long t_shadowHigh_above, .long t_shadowHigh_below]))]) hK hP hD hN [0, 3, 9, 7] rfl rfl (by decide) rfl rfl) rfl rfl hl.1 rfl (lv_room (Nat.le_of_ble_eq_true rfl)) dX6_spansMeet_45 ⟨Nat.zero_le _, Nat.zero_le _⟩) hP hD hS hA [0, 3, 9, 7] [1, 2, 4, 5, 6, 8] [6, 0, 1, 7, 2, 3, 4, 9, 5, 8] rfl rfl (by decide) (by decide) rfl rfl (by decide) (fun H locs hP hD hS => ?_)
  refine lv_aload_n hx hb dX6_spansMeet_48 rfl (lv_at hl 0 rfl) ?_
  refine va_get (D := G) (ci := 6) (v := .ref t_sightLow_h) (C := RX6) (T := TX6) (N := 7) hx hb hts iwX6 hown hK hP 0 rfl rfl 3 (by decide) fl_23 (fun _ h9 => h9) rfl dX6_spansMeet_49 ?_
  refine lv_aload_n hx hb dX6_spansMeet_52 rfl (lv_at hl 0 rfl) ?_
  refine va_get (D := G) (ci := 6) (v := .ref t_shadowHigh_h) (C := RX6) (T := TX6) (N := 7) hx hb hts iwX6 hown hK hP 0 rfl rfl 6 (by decide) fl_33 (fun _ h9 => h9) rfl dX6_spansMeet_53 ?_
  obtain ⟨r15, hc16, hf⟩ := ob_some hf
  refine af_iR (va_runV (As := [.ref t_shadowHigh_h]) (rest := []) ⟨hx, hb, hml, hown, hts⟩ (k_X1_isAtMost l G cI cJ (t_h := t_sightLow_h) (L1_h := t_shadowHigh_h) (t_above := w2) (t_below := w3) (L1_above := w12) (L1_below := w13) (sz := _) (hf := hc16)) (cwV 1 hts gX6_spansMeet_X1_isAtMost rfl rfl rfl (by decide +kernel) ⟨Nat.le_of_ble_eq_true rfl, Nat.le_of_ble_eq_true rfl⟩) (preV0 (ci := 1) (q0 := 0) (C := RX1) (wc := [(t_sightLow_h, .inr (1, [.long w2, .long w3])), (t_shadowHigh_h, .inr (1, [.long w12, .long w13]))]) hK hP hD hN [4, 7] rfl rfl (by decide) rfl rfl) rfl rfl hl.1 rfl (lv_room (Nat.le_of_ble_eq_true rfl)) dX6_spansMeet_56 ⟨Nat.zero_le _, Nat.zero_le _⟩) hP hD hS hA [4, 7] rfl (fun H locs hP hS => ?_)
  refine lv_if_eq (tgt := 80) hx hb dX6_spansMeet_59 (by decide) (fun c17 => ?_) (fun c17 => ?_)
  · have hf := ift hf c17
    refine lv_iconst (v := 0) hx hb dX6_spansMeet_80 (by decide) ?_
    exact hret false w2 w3 w6 w7 w9 w10 w12 w13 81 _ _ _ dX6_spansMeet_81 hf hP hD hS
  · have hf := iff_ hf c17
    refine lv_aload_n hx hb dX6_spansMeet_62 rfl (lv_at hl 0 rfl) ?_
    refine va_get (D := G) (ci := 6) (v := .ref t_shadowLow_h) (C := RX6) (T := TX6) (N := 7) hx hb hts iwX6 hown hK hP 0 rfl rfl 5 (by decide) fl_30 (fun _ h9 => h9) rfl dX6_spansMeet_63 ?_
    refine lv_aload_n hx hb dX6_spansMeet_66 rfl (lv_at hl 0 rfl) ?_
    refine va_get (D := G) (ci := 6) (v := .ref t_sightHigh_h) (C := RX6) (T := TX6) (N := 7) hx hb hts iwX6 hown hK hP 0 rfl rfl 4 (by decide) fl_27 (fun _ h9 => h9) rfl dX6_spansMeet_67 ?_
    obtain ⟨r18, hc19, hf⟩ := ob_some hf
    refine af_iR (va_runV (As := [.ref t_sightHigh_h]) (rest := []) ⟨hx, hb, hml, hown, hts⟩ (k_X1_isAtMost l G cI cJ (t_h := t_shadowLow_h) (L1_h := t_sightHigh_h) (t_above := w9) (t_below := w10) (L1_above := w6) (L1_below := w7) (sz := _) (hf := hc19)) (cwV 1 hts gX6_spansMeet_X1_isAtMost rfl rfl rfl (by decide +kernel) ⟨Nat.le_of_ble_eq_true rfl, Nat.le_of_ble_eq_true rfl⟩) (preV0 (ci := 1) (q0 := 0) (C := RX1) (wc := [(t_shadowLow_h, .inr (1, [.long w9, .long w10])), (t_sightHigh_h, .inr (1, [.long w6, .long w7]))]) hK hP hD hN [6, 5] rfl rfl (by decide) rfl rfl) rfl rfl hl.1 rfl (lv_room (Nat.le_of_ble_eq_true rfl)) dX6_spansMeet_70 ⟨Nat.zero_le _, Nat.zero_le _⟩) hP hD hS hA [6, 5] rfl (fun H locs hP hS => ?_)
    refine lv_if_eq (tgt := 80) hx hb dX6_spansMeet_73 (by decide) (fun c20 => ?_) (fun c20 => ?_)
    · have hf := ift hf c20
      refine lv_iconst (v := 0) hx hb dX6_spansMeet_80 (by decide) ?_
      exact hret false w2 w3 w6 w7 w9 w10 w12 w13 81 _ _ _ dX6_spansMeet_81 hf hP hD hS
    · have hf := iff_ hf c20
      refine lv_iconst (v := 1) hx hb dX6_spansMeet_76 (by decide) ?_
      refine lv_goto (tgt := 81) hx hb dX6_spansMeet_77 (by decide) ?_
      exact hret true w2 w3 w6 w7 w9 w10 w12 w13 81 _ _ _ dX6_spansMeet_81 hf hP hD hS
