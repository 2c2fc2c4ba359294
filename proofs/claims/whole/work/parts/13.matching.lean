set_option maxRecDepth 20000 in
theorem ggX3_wayToLayer_X7_size : GoodIn wsX3_wayToLayer wsX7_size := goodIn_r _ [14, 15, 28, 29, 30, 31] (by decide +kernel) (by decide +kernel)
set_option maxRecDepth 20000 in
theorem gX3_wayToLayer_X7_size : GoodIn wsX3_wayToLayer (wsV RX3 60 RX7 yX7_size wsX7_size) := goodIn_app (goodIn_of _ (by decide +kernel)) ggX3_wayToLayer_X7_size
set_option maxRecDepth 20000 in
theorem ggX3_wayToLayer_X7_at : GoodIn wsX3_wayToLayer wsX7_at := goodIn_r _ [19, 20, 21, 28, 29, 30, 31] (by decide +kernel) (by decide +kernel)
set_option maxRecDepth 20000 in
theorem gX3_wayToLayer_X7_at : GoodIn wsX3_wayToLayer (wsV RX3 33 RX7 yX7_at wsX7_at) := goodIn_app (goodIn_of _ (by decide +kernel)) ggX3_wayToLayer_X7_at
theorem dX3_wayToLayer_0 : decode cX3_wayToLayer 0 = .ok (.aload_n 0, 1) := by decide +kernel
theorem dX3_wayToLayer_1 : decode cX3_wayToLayer 1 = .ok (.getfield 22, 3) := by decide +kernel
theorem dX3_wayToLayer_4 : decode cX3_wayToLayer 4 = .ok (.invokevirtual 60, 3) := by decide +kernel
theorem dX3_wayToLayer_7 : decode cX3_wayToLayer 7 = .ok (.ifCond .ne 5, 3) := by decide +kernel
theorem dX3_wayToLayer_10 : decode cX3_wayToLayer 10 = .ok (.iconst 0, 1) := by decide +kernel
theorem dX3_wayToLayer_11 : decode cX3_wayToLayer 11 = .ok (.ireturn, 1) := by decide +kernel
theorem dX3_wayToLayer_12 : decode cX3_wayToLayer 12 = .ok (.ldc 64, 2) := by decide +kernel
theorem dX3_wayToLayer_14 : decode cX3_wayToLayer 14 = .ok (.istore_n 2, 1) := by decide +kernel
theorem dX3_wayToLayer_15 : decode cX3_wayToLayer 15 = .ok (.iconst 0, 1) := by decide +kernel
theorem dX3_wayToLayer_16 : decode cX3_wayToLayer 16 = .ok (.istore_n 3, 1) := by decide +kernel
theorem dX3_wayToLayer_17 : decode cX3_wayToLayer 17 = .ok (.iload_n 3, 1) := by decide +kernel
theorem dX3_wayToLayer_18 : decode cX3_wayToLayer 18 = .ok (.aload_n 0, 1) := by decide +kernel
theorem dX3_wayToLayer_19 : decode cX3_wayToLayer 19 = .ok (.getfield 22, 3) := by decide +kernel
theorem dX3_wayToLayer_22 : decode cX3_wayToLayer 22 = .ok (.invokevirtual 60, 3) := by decide +kernel
theorem dX3_wayToLayer_25 : decode cX3_wayToLayer 25 = .ok (.if_icmp .ge 28, 3) := by decide +kernel
theorem dX3_wayToLayer_28 : decode cX3_wayToLayer 28 = .ok (.iload_n 2, 1) := by decide +kernel
theorem dX3_wayToLayer_29 : decode cX3_wayToLayer 29 = .ok (.iload_n 1, 1) := by decide +kernel
theorem dX3_wayToLayer_30 : decode cX3_wayToLayer 30 = .ok (.aload_n 0, 1) := by decide +kernel
theorem dX3_wayToLayer_31 : decode cX3_wayToLayer 31 = .ok (.getfield 22, 3) := by decide +kernel
theorem dX3_wayToLayer_34 : decode cX3_wayToLayer 34 = .ok (.iload_n 3, 1) := by decide +kernel
theorem dX3_wayToLayer_35 : decode cX3_wayToLayer 35 = .ok (.iconst 0, 1) := by decide +kernel
theorem dX3_wayToLayer_36 : decode cX3_wayToLayer 36 = .ok (.invokevirtual 33, 3) := by decide +kernel
theorem dX3_wayToLayer_39 : decode cX3_wayToLayer 39 = .ok (.isub, 1) := by decide +kernel
theorem dX3_wayToLayer_40 : decode cX3_wayToLayer 40 = .ok (.invokestatic 65, 3) := by decide +kernel
theorem dX3_wayToLayer_43 : decode cX3_wayToLayer 43 = .ok (.invokestatic 70, 3) := by decide +kernel
theorem dX3_wayToLayer_46 : decode cX3_wayToLayer 46 = .ok (.istore_n 2, 1) := by decide +kernel
theorem dX3_wayToLayer_47 : decode cX3_wayToLayer 47 = .ok (.iinc 3 1, 3) := by decide +kernel
theorem dX3_wayToLayer_50 : decode cX3_wayToLayer 50 = .ok (.goto (-33), 3) := by decide +kernel
theorem dX3_wayToLayer_53 : decode cX3_wayToLayer 53 = .ok (.iload_n 2, 1) := by decide +kernel
theorem dX3_wayToLayer_54 : decode cX3_wayToLayer 54 = .ok (.ireturn, 1) := by decide +kernel
set_option maxRecDepth 100000 in
def fX3_wayToLayer_L1 (t_layers_lines : Int32) (t_layers_width : Int32) (t_layers_cells_n : Nat) (t_layers_cells_a : Nat → Int32) (x1 : Int32) : (Int32 × Int32) → Option ((Int32) ⊕ (Int32 × Int32)) := un2 fun (u4 : Int32) (u5 : Int32) =>
  ob (fX7_size t_layers_lines) fun r6 =>
  if r6 ≤ u5 then
    some (.inl u4)
  else
    ob (fX7_at u5 0 t_layers_width t_layers_cells_n t_layers_cells_a) fun r9 =>
    bv (if 0 ≤ (x1 - r9) then (x1 - r9) else 0 - (x1 - r9)) fun v11 =>
    bv (if v11 < u4 then v11 else u4) fun v12 =>
    bv (u5 + 1) fun v13 =>
    some (.inr (v12, v13))
set_option maxRecDepth 100000 in
def fX3_wayToLayer (x1 : Int32) (t_layers_width : Int32) (t_layers_lines : Int32) (t_layers_cells_n : Nat) (t_layers_cells_a : Nat → Int32) : Option (Int32) :=
  ob (fX7_size t_layers_lines) fun r1 =>
  if r1 = 0 then
    some 0
  else
    ob (it (fX3_wayToLayer_L1 t_layers_lines t_layers_width t_layers_cells_n t_layers_cells_a x1) 100000 (100000, 0)) fun x14 =>
    some x14
abbrev rmX3_wayToLayer : Room := { frames := 1, cells := 0, slots := 0, locals := 23 }
theorem iwX3_wayToLayer_X3 : ∀ w ∈ u_ws RX3 TX3 6, w ∈ wsX3_wayToLayer := by decide +kernel
set_option maxHeartbeats 4000000 in
set_option maxRecDepth 100000 in
theorem k_X3_wayToLayer (l : Launch) (G : va_G) (cI cJ : ClassId) (t_h t_settings_h t_first_h t_second_h t_layers_h t_costs_h t_keys_h t_layers_cells_h : Nat) (sz : Nat) (t_layers_width : Int32) (t_layers_most : Int32) (t_layers_lines : Int32) (t_layers_cells_n : Nat) (t_layers_cells_a : Nat → Int32) (x1 : Int32) {o_r : Int32} (hf : fX3_wayToLayer x1 t_layers_width t_layers_lines t_layers_cells_n t_layers_cells_a = some o_r) : MetI l yX3_wayToLayer wsX3_wayToLayer rmX3_wayToLayer [.ref t_h, .int x1] G cI cJ [(t_h, .inr (3, [.ref t_settings_h, .ref t_first_h, .ref t_second_h, .ref t_layers_h, .ref t_costs_h, .ref t_keys_h])), (t_layers_h, .inr (7, [.int t_layers_width, .int t_layers_most, .ref t_layers_cells_h, .int t_layers_lines])), (t_layers_cells_h, .inl (cI, t_layers_cells_n, .inl t_layers_cells_a))] [(t_h, .inr (3, [.ref t_settings_h, .ref t_first_h, .ref t_second_h, .ref t_layers_h, .ref t_costs_h, .ref t_keys_h])), (t_layers_h, .inr (7, [.int t_layers_width, .int t_layers_most, .ref t_layers_cells_h, .int t_layers_lines])), (t_layers_cells_h, .inl (cI, t_layers_cells_n, .inl t_layers_cells_a))] sz o_r := by
  refine en_0 (l := l) (y := yX3_wayToLayer) (wsl := wsX3_wayToLayer) (rm := rmX3_wayToLayer) (av := [.ref t_h, .int x1]) (G := G) (cI := cI) (cJ := cJ) (w0 := [(t_h, .inr (3, [.ref t_settings_h, .ref t_first_h, .ref t_second_h, .ref t_layers_h, .ref t_costs_h, .ref t_keys_h])), (t_layers_h, .inr (7, [.int t_layers_width, .int t_layers_most, .ref t_layers_cells_h, .int t_layers_lines])), (t_layers_cells_h, .inl (cI, t_layers_cells_n, .inl t_layers_cells_a))]) (sz := sz) (Qf := fun A => Qi0 G cI cJ [(t_h, .inr (3, [.ref t_settings_h, .ref t_first_h, .ref t_second_h, .ref t_layers_h, .ref t_costs_h, .ref t_keys_h])), (t_layers_h, .inr (7, [.int t_layers_width, .int t_layers_most, .ref t_layers_cells_h, .int t_layers_lines])), (t_layers_cells_h, .inl (cI, t_layers_cells_n, .inl t_layers_cells_a))] o_r A) (cc := cX3_wayToLayer) (maxL := 4) (ret := (some .int)) RX3 (by decide +kernel) rfl rfl (Nat.le_of_ble_eq_true rfl) ?_
  intro p e s m args below meth c A ls Q hQ hx hb hr hts hown hlocks hml hN hK hP hD hS hA hl
  have hl : lv_has ls 4 [(0, .ref t_h), (1, .int x1)] := hl
  have iwX3 := iwX3_wayToLayer_X3
  have fl_22 := hts (.fieldLink RX3 22 "CloudOffice$Matching" "layers" "LCloudOffice$Table;") (by decide +kernel)
  have kc_64 := hts (.constant RX3 64 (100000)) (by decide +kernel)
  have lb_65 := hts (.methodLink RX3 65 Lib.Math.abs.name) (by decide +kernel)
  have lbs_65 := hts (.static Lib.Math.abs.name) (by decide +kernel)
  have lbi_65 := hts (.initialized "java/lang/Math") (by decide +kernel)
  have lbc_65 := hts (.code Lib.Math.abs.name Lib.Math.abs.code 1 (some .int)) (by decide +kernel)
  have lb_70 := hts (.methodLink RX3 70 Lib.Math.min.name) (by decide +kernel)
  have lbs_70 := hts (.static Lib.Math.min.name) (by decide +kernel)
  have lbi_70 := hts (.initialized "java/lang/Math") (by decide +kernel)
  have lbc_70 := hts (.code Lib.Math.min.name Lib.Math.min.code 2 (some .int)) (by decide +kernel)
  have hret : ∀ (o_r9 : Int32) (pc : Nat) (H : Heap) (locs : List Loc) (ls : Array Slot), decode cX3_wayToLayer pc = .ok (.ireturn, 1) → some o_r9 = some o_r → va_P G vwCl [(t_h, .inr (3, [.ref t_settings_h, .ref t_first_h, .ref t_second_h, .ref t_layers_h, .ref t_costs_h, .ref t_keys_h])), (t_layers_h, .inr (7, [.int t_layers_width, .int t_layers_most, .ref t_layers_cells_h, .int t_layers_lines])), (t_layers_cells_h, .inl (cI, t_layers_cells_n, .inl t_layers_cells_a))] H → va_D A [(t_h, .inr (3, [.ref t_settings_h, .ref t_first_h, .ref t_second_h, .ref t_layers_h, .ref t_costs_h, .ref t_keys_h])), (t_layers_h, .inr (7, [.int t_layers_width, .int t_layers_most, .ref t_layers_cells_h, .int t_layers_lines])), (t_layers_cells_h, .inl (cI, t_layers_cells_n, .inl t_layers_cells_a))] → va_S A s.heap H locs → W p l e rmX3_wayToLayer s m args below meth c H locs 0 0 Q (F0 m pc ls [.int o_r9]) := by
    intro o_r9 pc H locs ls hdg he hP hD hS
    cases he
    subst hQ
    exact rt_i hx hb hr hlocks hK hP hD hS rfl hdg
  clear hQ
  unfold fX3_wayToLayer at hf
  refine lv_aload_n hx hb dX3_wayToLayer_0 rfl (lv_at hl 0 rfl) ?_
  refine va_get (D := G) (ci := 3) (v := .ref t_layers_h) (C := RX3) (T := TX3) (N := 6) hx hb hts iwX3 hown hK hP 0 rfl rfl 3 (by decide) fl_22 (fun _ h9 => h9) rfl dX3_wayToLayer_1 ?_
  obtain ⟨r1, hc2, hf⟩ := ob_some hf
  refine af_iR (va_runV (As := []) (rest := []) ⟨hx, hb, hml, hown, hts⟩ (k_X7_size l G cI cJ (t_h := t_layers_h) (t_cells_h := t_layers_cells_h) (t_width := t_layers_width) (t_most := t_layers_most) (t_lines := t_layers_lines) (sz := _) (hf := hc2)) (cwV 0 hts gX3_wayToLayer_X7_size rfl rfl rfl (by decide +kernel) ⟨Nat.le_of_ble_eq_true rfl, Nat.le_of_ble_eq_true rfl⟩) (preV0 (ci := 7) (q0 := 0) (C := RX7) (wc := [(t_layers_h, .inr (7, [.int t_layers_width, .int t_layers_most, .ref t_layers_cells_h, .int t_layers_lines]))]) hK hP hD hN [1] rfl rfl (by decide) rfl rfl) rfl rfl hl.1 rfl (lv_room (Nat.le_of_ble_eq_true rfl)) dX3_wayToLayer_4 ⟨Nat.zero_le _, Nat.zero_le _⟩) hP hD hS hA [1] rfl (fun H locs hP hS => ?_)
  refine lv_if_ne (tgt := 12) hx hb dX3_wayToLayer_7 (by decide) (fun c3 => ?_) (fun c3 => ?_)
  · have hf := iff_ hf c3
    refine lv_ldc (v := 100000) hx hb hown kc_64 dX3_wayToLayer_12 ?_
    refine lv_istore_n (lv' := [(2, .int 100000), (0, .ref t_h), (1, .int x1)]) hx hb dX3_wayToLayer_14 rfl hl (by decide) rfl (fun ls hl => ?_)
    refine lv_iconst (v := 0) hx hb dX3_wayToLayer_15 (by decide) ?_
    refine lv_istore_n (lv' := [(3, .int 0), (2, .int 100000), (0, .ref t_h), (1, .int x1)]) hx hb dX3_wayToLayer_16 rfl hl (by decide) rfl (fun ls hl => ?_)
    obtain ⟨x14, ht1, hf⟩ := ob_some hf
    have hx1_0 : ∀ (x149 : Int32), x149 = x14 → ∀ (H : Heap) (locs : List Loc) (ls : Array Slot), va_P G vwCl [(t_h, .inr (3, [.ref t_settings_h, .ref t_first_h, .ref t_second_h, .ref t_layers_h, .ref t_costs_h, .ref t_keys_h])), (t_layers_h, .inr (7, [.int t_layers_width, .int t_layers_most, .ref t_layers_cells_h, .int t_layers_lines])), (t_layers_cells_h, .inl (cI, t_layers_cells_n, .inl t_layers_cells_a))] H → va_D A [(t_h, .inr (3, [.ref t_settings_h, .ref t_first_h, .ref t_second_h, .ref t_layers_h, .ref t_costs_h, .ref t_keys_h])), (t_layers_h, .inr (7, [.int t_layers_width, .int t_layers_most, .ref t_layers_cells_h, .int t_layers_lines])), (t_layers_cells_h, .inl (cI, t_layers_cells_n, .inl t_layers_cells_a))] → va_S A s.heap H locs → lv_has ls 4 [(2, .int x149)] → W p l e rmX3_wayToLayer s m args below meth c H locs 0 0 Q (F0 m 53 ls []) := by
      intro x149 he H locs ls hP hD hS hl
      cases he
      refine lv_iload_n hx hb dX3_wayToLayer_53 rfl (lv_at hl 0 rfl) ?_
      exact hret x14 54 _ _ _ dX3_wayToLayer_54 hf hP hD hS
    clear hf
    have hl1 : ∀ (n : Nat) (u4 : Int32) (u5 : Int32), it (fX3_wayToLayer_L1 t_layers_lines t_layers_width t_layers_cells_n t_layers_cells_a x1) n (u4, u5) = some x14 → ∀ (H : Heap) (locs : List Loc) (ls : Array Slot), va_P G vwCl [(t_h, .inr (3, [.ref t_settings_h, .ref t_first_h, .ref t_second_h, .ref t_layers_h, .ref t_costs_h, .ref t_keys_h])), (t_layers_h, .inr (7, [.int t_layers_width, .int t_layers_most, .ref t_layers_cells_h, .int t_layers_lines])), (t_layers_cells_h, .inl (cI, t_layers_cells_n, .inl t_layers_cells_a))] H → va_D A [(t_h, .inr (3, [.ref t_settings_h, .ref t_first_h, .ref t_second_h, .ref t_layers_h, .ref t_costs_h, .ref t_keys_h])), (t_layers_h, .inr (7, [.int t_layers_width, .int t_layers_most, .ref t_layers_cells_h, .int t_layers_lines])), (t_layers_cells_h, .inl (cI, t_layers_cells_n, .inl t_layers_cells_a))] → va_S A s.heap H locs → lv_has ls 4 [(0, .ref t_h), (1, .int x1), (2, .int u4), (3, .int u5)] → W p l e rmX3_wayToLayer s m args below meth c H locs 0 0 Q (F0 m 17 ls []) := by
      intro n
      induction n with
      | zero => intro u4 u5 hz; exact (it_zero hz).elim
      | succ n ih =>
        intro u4 u5 hz H locs ls hP hD hS hl
        obtain ⟨x9, hf, hq⟩ := it_succ hz
        unfold fX3_wayToLayer_L1 at hf
        dsimp only [un2] at hf
        refine lv_iload_n hx hb dX3_wayToLayer_17 rfl (lv_at hl 3 rfl) ?_
        refine lv_aload_n hx hb dX3_wayToLayer_18 rfl (lv_at hl 0 rfl) ?_
        refine va_get (D := G) (ci := 3) (v := .ref t_layers_h) (C := RX3) (T := TX3) (N := 6) hx hb hts iwX3 hown hK hP 0 rfl rfl 3 (by decide) fl_22 (fun _ h9 => h9) rfl dX3_wayToLayer_19 ?_
        obtain ⟨r6, hc7, hf⟩ := ob_some hf
        refine af_iR (va_runV (As := []) (rest := [.int u5]) ⟨hx, hb, hml, hown, hts⟩ (k_X7_size l G cI cJ (t_h := t_layers_h) (t_cells_h := t_layers_cells_h) (t_width := t_layers_width) (t_most := t_layers_most) (t_lines := t_layers_lines) (sz := _) (hf := hc7)) (cwV 0 hts gX3_wayToLayer_X7_size rfl rfl rfl (by decide +kernel) ⟨Nat.le_of_ble_eq_true rfl, Nat.le_of_ble_eq_true rfl⟩) (preV0 (ci := 7) (q0 := 0) (C := RX7) (wc := [(t_layers_h, .inr (7, [.int t_layers_width, .int t_layers_most, .ref t_layers_cells_h, .int t_layers_lines]))]) hK hP hD hN [1] rfl rfl (by decide) rfl rfl) rfl rfl hl.1 rfl (lv_room (Nat.le_of_ble_eq_true rfl)) dX3_wayToLayer_22 ⟨Nat.zero_le _, Nat.zero_le _⟩) hP hD hS hA [1] rfl (fun H locs hP hS => ?_)
        refine lv_icmp_ge (tgt := 53) hx hb dX3_wayToLayer_25 (by decide) (fun c8 => ?_) (fun c8 => ?_)
        · have hf := ift hf c8
          cases hf
          exact hx1_0 _ hq _ _ _ hP hD hS (lv_sub hl [2] rfl)
        · have hf := iff_ hf c8
          refine lv_iload_n hx hb dX3_wayToLayer_28 rfl (lv_at hl 2 rfl) ?_
          refine lv_iload_n hx hb dX3_wayToLayer_29 rfl (lv_at hl 1 rfl) ?_
          refine lv_aload_n hx hb dX3_wayToLayer_30 rfl (lv_at hl 0 rfl) ?_
          refine va_get (D := G) (ci := 3) (v := .ref t_layers_h) (C := RX3) (T := TX3) (N := 6) hx hb hts iwX3 hown hK hP 0 rfl rfl 3 (by decide) fl_22 (fun _ h9 => h9) rfl dX3_wayToLayer_31 ?_
          refine lv_iload_n hx hb dX3_wayToLayer_34 rfl (lv_at hl 3 rfl) ?_
          refine lv_iconst (v := 0) hx hb dX3_wayToLayer_35 (by decide) ?_
          obtain ⟨r9, hc10, hf⟩ := ob_some hf
          refine af_iR (va_runV (As := [.int u5, .int 0]) (rest := [.int x1, .int u4]) ⟨hx, hb, hml, hown, hts⟩ (k_X7_at l G cI cJ (t_h := t_layers_h) (t_cells_h := t_layers_cells_h) (t_width := t_layers_width) (t_most := t_layers_most) (t_lines := t_layers_lines) (t_cells_n := t_layers_cells_n) (t_cells_a := t_layers_cells_a) (x1 := u5) (x2 := 0) (sz := _) (hf := hc10)) (cwV 2 hts gX3_wayToLayer_X7_at rfl rfl rfl (by decide +kernel) ⟨Nat.le_of_ble_eq_true rfl, Nat.le_of_ble_eq_true rfl⟩) (preV0 (ci := 7) (q0 := 0) (C := RX7) (wc := [(t_layers_h, .inr (7, [.int t_layers_width, .int t_layers_most, .ref t_layers_cells_h, .int t_layers_lines])), (t_layers_cells_h, .inl (cI, t_layers_cells_n, .inl t_layers_cells_a))]) hK hP hD hN [1, 2] rfl rfl (by decide) rfl rfl) rfl rfl hl.1 rfl (lv_room (Nat.le_of_ble_eq_true rfl)) dX3_wayToLayer_36 ⟨Nat.zero_le _, Nat.zero_le _⟩) hP hD hS hA [1, 2] rfl (fun H locs hP hS => ?_)
          refine lv_isub hx hb dX3_wayToLayer_39 ?_
          refine va_mabs hx hb (hml.trans hl.1.symm) hown lb_65 lbs_65 lbi_65 lbc_65 (Nat.le_of_ble_eq_true rfl) (Nat.le_of_ble_eq_true rfl) (Nat.zero_le _) (Nat.zero_le _) dX3_wayToLayer_40 ?_
          refine lv_topi (fun v11 ev11 => ?_)
          have hf := bv_at ev11 hf
          refine va_mmin hx hb (hml.trans hl.1.symm) hown lb_70 lbs_70 lbi_70 lbc_70 (Nat.le_of_ble_eq_true rfl) (Nat.le_of_ble_eq_true rfl) (Nat.zero_le _) (Nat.zero_le _) dX3_wayToLayer_43 ?_
          refine lv_topi (fun v12 ev12 => ?_)
          have hf := bv_at ev12 hf
          refine lv_istore_n (lv' := [(2, .int v12), (0, .ref t_h), (1, .int x1), (3, .int u5)]) hx hb dX3_wayToLayer_46 rfl hl (by decide) rfl (fun ls hl => ?_)
          obtain ⟨v13, ev13⟩ : ∃ y : Int32, y = u5 + 1 := ⟨_, rfl⟩
          have hf := bv_at ev13 hf
          refine lv_iinc (v := v13) (lv' := [(3, .int v13), (2, .int v12), (0, .ref t_h), (1, .int x1)]) hx hb dX3_wayToLayer_47 hl (k := 3) rfl (by rw [ev13]; rfl) (by decide) rfl (fun ls hl => ?_)
          refine lv_goto (tgt := 17) hx hb dX3_wayToLayer_50 (by decide) ?_
          cases hf
          exact ih _ _ hq _ _ _ hP hD hS (lv_sub hl [2, 3, 1, 0] rfl)
    exact hl1 _ _ _ ht1 _ _ _ hP hD hS (lv_sub hl [2, 3, 1, 0] rfl)
  · have hf := ift hf c3
    refine lv_iconst (v := 0) hx hb dX3_wayToLayer_10 (by decide) ?_
    exact hret 0 11 _ _ _ dX3_wayToLayer_11 hf hP hD hS
set_option maxRecDepth 20000 in
theorem ggX3_costOf_X7_at : GoodIn wsX3_costOf wsX7_at := goodIn_r _ [9, 10, 11, 43, 44, 45, 46] (by decide +kernel) (by decide +kernel)
set_option maxRecDepth 20000 in
theorem gX3_costOf_X7_at : GoodIn wsX3_costOf (wsV RX3 33 RX7 yX7_at wsX7_at) := goodIn_app (goodIn_of _ (by decide +kernel)) ggX3_costOf_X7_at
set_option maxRecDepth 20000 in
theorem ggX3_costOf_X3_wayToLayer : GoodIn wsX3_costOf wsX3_wayToLayer := goodIn_r _ [16, 17, 18, 19, 20, 21, 22, 23, 24, 25, 26, 27, 28, 8, 29, 30, 5, 6, 7, 9, 10, 11, 31, 32, 33, 34, 35, 36, 43, 44, 45, 46] (by decide +kernel) (by decide +kernel)
set_option maxRecDepth 20000 in
theorem gX3_costOf_X3_wayToLayer : GoodIn wsX3_costOf (wsV RX3 56 RX3 yX3_wayToLayer wsX3_wayToLayer) := goodIn_app (goodIn_of _ (by decide +kernel)) ggX3_costOf_X3_wayToLayer
theorem dX3_costOf_0 : decode cX3_costOf 0 = .ok (.aload_n 0, 1) := by decide +kernel
theorem dX3_costOf_1 : decode cX3_costOf 1 = .ok (.getfield 15, 3) := by decide +kernel
theorem dX3_costOf_4 : decode cX3_costOf 4 = .ok (.iload_n 1, 1) := by decide +kernel
theorem dX3_costOf_5 : decode cX3_costOf 5 = .ok (.iconst 0, 1) := by decide +kernel
theorem dX3_costOf_6 : decode cX3_costOf 6 = .ok (.invokevirtual 33, 3) := by decide +kernel
theorem dX3_costOf_9 : decode cX3_costOf 9 = .ok (.aload_n 0, 1) := by decide +kernel
theorem dX3_costOf_10 : decode cX3_costOf 10 = .ok (.getfield 19, 3) := by decide +kernel
theorem dX3_costOf_13 : decode cX3_costOf 13 = .ok (.iload_n 2, 1) := by decide +kernel
theorem dX3_costOf_14 : decode cX3_costOf 14 = .ok (.iconst 0, 1) := by decide +kernel
theorem dX3_costOf_15 : decode cX3_costOf 15 = .ok (.invokevirtual 33, 3) := by decide +kernel
theorem dX3_costOf_18 : decode cX3_costOf 18 = .ok (.isub, 1) := by decide +kernel
theorem dX3_costOf_19 : decode cX3_costOf 19 = .ok (.i2l, 1) := by decide +kernel
theorem dX3_costOf_20 : decode cX3_costOf 20 = .ok (.lstore_n 3, 1) := by decide +kernel
theorem dX3_costOf_21 : decode cX3_costOf 21 = .ok (.lload_n 3, 1) := by decide +kernel
theorem dX3_costOf_22 : decode cX3_costOf 22 = .ok (.lconst 0, 1) := by decide +kernel
theorem dX3_costOf_23 : decode cX3_costOf 23 = .ok (.lcmp, 1) := by decide +kernel
theorem dX3_costOf_24 : decode cX3_costOf 24 = .ok (.ifCond .gt 5, 3) := by decide +kernel
theorem dX3_costOf_27 : decode cX3_costOf 27 = .ok (.iconst (-1), 1) := by decide +kernel
theorem dX3_costOf_28 : decode cX3_costOf 28 = .ok (.ireturn, 1) := by decide +kernel
theorem dX3_costOf_29 : decode cX3_costOf 29 = .ok (.ldc2_w 39, 3) := by decide +kernel
theorem dX3_costOf_32 : decode cX3_costOf 32 = .ok (.aload_n 0, 1) := by decide +kernel
theorem dX3_costOf_33 : decode cX3_costOf 33 = .ok (.getfield 9, 3) := by decide +kernel
theorem dX3_costOf_36 : decode cX3_costOf 36 = .ok (.getfield 41, 3) := by decide +kernel
theorem dX3_costOf_39 : decode cX3_costOf 39 = .ok (.i2l, 1) := by decide +kernel
theorem dX3_costOf_40 : decode cX3_costOf 40 = .ok (.lmul, 1) := by decide +kernel
theorem dX3_costOf_41 : decode cX3_costOf 41 = .ok (.lstore 5, 2) := by decide +kernel
theorem dX3_costOf_43 : decode cX3_costOf 43 = .ok (.lload 5, 2) := by decide +kernel
theorem dX3_costOf_45 : decode cX3_costOf 45 = .ok (.aload_n 0, 1) := by decide +kernel
theorem dX3_costOf_46 : decode cX3_costOf 46 = .ok (.getfield 9, 3) := by decide +kernel
theorem dX3_costOf_49 : decode cX3_costOf 49 = .ok (.getfield 47, 3) := by decide +kernel
theorem dX3_costOf_52 : decode cX3_costOf 52 = .ok (.i2l, 1) := by decide +kernel
theorem dX3_costOf_53 : decode cX3_costOf 53 = .ok (.lload_n 3, 1) := by decide +kernel
theorem dX3_costOf_54 : decode cX3_costOf 54 = .ok (.lmul, 1) := by decide +kernel
theorem dX3_costOf_55 : decode cX3_costOf 55 = .ok (.lcmp, 1) := by decide +kernel
theorem dX3_costOf_56 : decode cX3_costOf 56 = .ok (.ifCond .lt 19, 3) := by decide +kernel
theorem dX3_costOf_59 : decode cX3_costOf 59 = .ok (.lload 5, 2) := by decide +kernel
theorem dX3_costOf_61 : decode cX3_costOf 61 = .ok (.aload_n 0, 1) := by decide +kernel
theorem dX3_costOf_62 : decode cX3_costOf 62 = .ok (.getfield 9, 3) := by decide +kernel
theorem dX3_costOf_65 : decode cX3_costOf 65 = .ok (.getfield 50, 3) := by decide +kernel
theorem dX3_costOf_68 : decode cX3_costOf 68 = .ok (.i2l, 1) := by decide +kernel
theorem dX3_costOf_69 : decode cX3_costOf 69 = .ok (.lload_n 3, 1) := by decide +kernel
theorem dX3_costOf_70 : decode cX3_costOf 70 = .ok (.lmul, 1) := by decide +kernel
theorem dX3_costOf_71 : decode cX3_costOf 71 = .ok (.lcmp, 1) := by decide +kernel
theorem dX3_costOf_72 : decode cX3_costOf 72 = .ok (.ifCond .le 5, 3) := by decide +kernel
theorem dX3_costOf_75 : decode cX3_costOf 75 = .ok (.iconst (-1), 1) := by decide +kernel
theorem dX3_costOf_76 : decode cX3_costOf 76 = .ok (.ireturn, 1) := by decide +kernel
theorem dX3_costOf_77 : decode cX3_costOf 77 = .ok (.aload_n 0, 1) := by decide +kernel
theorem dX3_costOf_78 : decode cX3_costOf 78 = .ok (.getfield 15, 3) := by decide +kernel
theorem dX3_costOf_81 : decode cX3_costOf 81 = .ok (.iload_n 1, 1) := by decide +kernel
theorem dX3_costOf_82 : decode cX3_costOf 82 = .ok (.iconst 1, 1) := by decide +kernel
theorem dX3_costOf_83 : decode cX3_costOf 83 = .ok (.invokevirtual 33, 3) := by decide +kernel
theorem dX3_costOf_86 : decode cX3_costOf 86 = .ok (.aload_n 0, 1) := by decide +kernel
theorem dX3_costOf_87 : decode cX3_costOf 87 = .ok (.getfield 19, 3) := by decide +kernel
theorem dX3_costOf_90 : decode cX3_costOf 90 = .ok (.iload_n 2, 1) := by decide +kernel
theorem dX3_costOf_91 : decode cX3_costOf 91 = .ok (.iconst 1, 1) := by decide +kernel
theorem dX3_costOf_92 : decode cX3_costOf 92 = .ok (.invokevirtual 33, 3) := by decide +kernel
theorem dX3_costOf_95 : decode cX3_costOf 95 = .ok (.if_icmp .ne 7, 3) := by decide +kernel
theorem dX3_costOf_98 : decode cX3_costOf 98 = .ok (.iconst 0, 1) := by decide +kernel
theorem dX3_costOf_99 : decode cX3_costOf 99 = .ok (.goto 10, 3) := by decide +kernel
theorem dX3_costOf_102 : decode cX3_costOf 102 = .ok (.aload_n 0, 1) := by decide +kernel
theorem dX3_costOf_103 : decode cX3_costOf 103 = .ok (.getfield 9, 3) := by decide +kernel
theorem dX3_costOf_106 : decode cX3_costOf 106 = .ok (.getfield 53, 3) := by decide +kernel
theorem dX3_costOf_109 : decode cX3_costOf 109 = .ok (.istore 7, 2) := by decide +kernel
theorem dX3_costOf_111 : decode cX3_costOf 111 = .ok (.iload 7, 2) := by decide +kernel
theorem dX3_costOf_113 : decode cX3_costOf 113 = .ok (.aload_n 0, 1) := by decide +kernel
theorem dX3_costOf_114 : decode cX3_costOf 114 = .ok (.lload 5, 2) := by decide +kernel
theorem dX3_costOf_116 : decode cX3_costOf 116 = .ok (.lload_n 3, 1) := by decide +kernel
theorem dX3_costOf_117 : decode cX3_costOf 117 = .ok (.ldiv, 1) := by decide +kernel
theorem dX3_costOf_118 : decode cX3_costOf 118 = .ok (.l2i, 1) := by decide +kernel
theorem dX3_costOf_119 : decode cX3_costOf 119 = .ok (.invokevirtual 56, 3) := by decide +kernel
theorem dX3_costOf_122 : decode cX3_costOf 122 = .ok (.iadd, 1) := by decide +kernel
theorem dX3_costOf_123 : decode cX3_costOf 123 = .ok (.ireturn, 1) := by decide +kernel
set_option maxRecDepth 100000 in
def fX3_costOf (x1 : Int32) (x2 : Int32) (t_settings_base : Int32) (t_settings_low : Int32) (t_settings_high : Int32) (t_settings_unlike : Int32) (t_first_width : Int32) (t_second_width : Int32) (t_layers_width : Int32) (t_layers_lines : Int32) (t_first_cells_n : Nat) (t_first_cells_a : Nat → Int32) (t_second_cells_n : Nat) (t_second_cells_a : Nat → Int32) (t_layers_cells_n : Nat) (t_layers_cells_a : Nat → Int32) : Option (Int32) :=
  ob (fX7_at x1 0 t_first_width t_first_cells_n t_first_cells_a) fun r1 =>
  ob (fX7_at x2 0 t_second_width t_second_cells_n t_second_cells_a) fun r3 =>
  bv (Int32.toInt64 (r1 - r3)) fun v5 =>
  if 0 < (lg_cmp v5 0) then
    bv (1000 * (Int32.toInt64 t_settings_base)) fun v7 =>
    if (lg_cmp v7 ((Int32.toInt64 t_settings_low) * v5)) < 0 then
      some (-1)
    else
      if (lg_cmp v7 ((Int32.toInt64 t_settings_high) * v5)) ≤ 0 then
        ob (fX7_at x1 1 t_first_width t_first_cells_n t_first_cells_a) fun r10 =>
        ob (fX7_at x2 1 t_second_width t_second_cells_n t_second_cells_a) fun r12 =>
        ob (α := Int32) (
            if r10 = r12 then
              some 0
            else
              some t_settings_unlike
          ) fun m14 =>
        gd (decide (¬ v5 = 0)) <|
        ob (fX3_wayToLayer (Int64.toInt32 (v7 / v5)) t_layers_width t_layers_lines t_layers_cells_n t_layers_cells_a) fun r19 =>
        some (m14 + r19)
      else
        some (-1)
  else
    some (-1)
abbrev rmX3_costOf : Room := { frames := 2, cells := 0, slots := 0, locals := 46 }
theorem iwX3_costOf_X3 : ∀ w ∈ u_ws RX3 TX3 6, w ∈ wsX3_costOf := by decide +kernel
theorem iwX3_costOf_X4 : ∀ w ∈ u_ws RX4 TX4 6, w ∈ wsX3_costOf := by decide +kernel
set_option maxHeartbeats 4000000 in
set_option maxRecDepth 100000 in
theorem k_X3_costOf (l : Launch) (G : va_G) (cI cJ : ClassId) (t_h t_settings_h t_first_h t_second_h t_layers_h t_costs_h t_keys_h t_first_cells_h t_second_cells_h t_layers_cells_h : Nat) (sz : Nat) (t_settings_base : Int32) (t_settings_slip : Int32) (t_settings_low : Int32) (t_settings_high : Int32) (t_settings_unlike : Int32) (t_settings_alone : Int32) (t_first_width : Int32) (t_first_most : Int32) (t_first_lines : Int32) (t_second_width : Int32) (t_second_most : Int32) (t_second_lines : Int32) (t_layers_width : Int32) (t_layers_most : Int32) (t_layers_lines : Int32) (t_first_cells_n : Nat) (t_first_cells_a : Nat → Int32) (t_second_cells_n : Nat) (t_second_cells_a : Nat → Int32) (t_layers_cells_n : Nat) (t_layers_cells_a : Nat → Int32) (x1 : Int32) (x2 : Int32) {o_r : Int32} (hf : fX3_costOf x1 x2 t_settings_base t_settings_low t_settings_high t_settings_unlike t_first_width t_second_width t_layers_width t_layers_lines t_first_cells_n t_first_cells_a t_second_cells_n t_second_cells_a t_layers_cells_n t_layers_cells_a = some o_r) : MetI l yX3_costOf wsX3_costOf rmX3_costOf [.ref t_h, .int x1, .int x2] G cI cJ [(t_h, .inr (3, [.ref t_settings_h, .ref t_first_h, .ref t_second_h, .ref t_layers_h, .ref t_costs_h, .ref t_keys_h])), (t_settings_h, .inr (4, [.int t_settings_base, .int t_settings_slip, .int t_settings_low, .int t_settings_high, .int t_settings_unlike, .int t_settings_alone])), (t_first_h, .inr (7, [.int t_first_width, .int t_first_most, .ref t_first_cells_h, .int t_first_lines])), (t_second_h, .inr (7, [.int t_second_width, .int t_second_most, .ref t_second_cells_h, .int t_second_lines])), (t_layers_h, .inr (7, [.int t_layers_width, .int t_layers_most, .ref t_layers_cells_h, .int t_layers_lines])), (t_first_cells_h, .inl (cI, t_first_cells_n, .inl t_first_cells_a)), (t_second_cells_h, .inl (cI, t_second_cells_n, .inl t_second_cells_a)), (t_layers_cells_h, .inl (cI, t_layers_cells_n, .inl t_layers_cells_a))] [(t_h, .inr (3, [.ref t_settings_h, .ref t_first_h, .ref t_second_h, .ref t_layers_h, .ref t_costs_h, .ref t_keys_h])), (t_settings_h, .inr (4, [.int t_settings_base, .int t_settings_slip, .int t_settings_low, .int t_settings_high, .int t_settings_unlike, .int t_settings_alone])), (t_first_h, .inr (7, [.int t_first_width, .int t_first_most, .ref t_first_cells_h, .int t_first_lines])), (t_second_h, .inr (7, [.int t_second_width, .int t_second_most, .ref t_second_cells_h, .int t_second_lines])), (t_layers_h, .inr (7, [.int t_layers_width, .int t_layers_most, .ref t_layers_cells_h, .int t_layers_lines])), (t_first_cells_h, .inl (cI, t_first_cells_n, .inl t_first_cells_a)), (t_second_cells_h, .inl (cI, t_second_cells_n, .inl t_second_cells_a)), (t_layers_cells_h, .inl (cI, t_layers_cells_n, .inl t_layers_cells_a))] sz o_r := by
  refine en_0 (l := l) (y := yX3_costOf) (wsl := wsX3_costOf) (rm := rmX3_costOf) (av := [.ref t_h, .int x1, .int x2]) (G := G) (cI := cI) (cJ := cJ) (w0 := [(t_h, .inr (3, [.ref t_settings_h, .ref t_first_h, .ref t_second_h, .ref t_layers_h, .ref t_costs_h, .ref t_keys_h])), (t_settings_h, .inr (4, [.int t_settings_base, .int t_settings_slip, .int t_settings_low, .int t_settings_high, .int t_settings_unlike, .int t_settings_alone])), (t_first_h, .inr (7, [.int t_first_width, .int t_first_most, .ref t_first_cells_h, .int t_first_lines])), (t_second_h, .inr (7, [.int t_second_width, .int t_second_most, .ref t_second_cells_h, .int t_second_lines])), (t_layers_h, .inr (7, [.int t_layers_width, .int t_layers_most, .ref t_layers_cells_h, .int t_layers_lines])), (t_first_cells_h, .inl (cI, t_first_cells_n, .inl t_first_cells_a)), (t_second_cells_h, .inl (cI, t_second_cells_n, .inl t_second_cells_a)), (t_layers_cells_h, .inl (cI, t_layers_cells_n, .inl t_layers_cells_a))]) (sz := sz) (Qf := fun A => Qi0 G cI cJ [(t_h, .inr (3, [.ref t_settings_h, .ref t_first_h, .ref t_second_h, .ref t_layers_h, .ref t_costs_h, .ref t_keys_h])), (t_settings_h, .inr (4, [.int t_settings_base, .int t_settings_slip, .int t_settings_low, .int t_settings_high, .int t_settings_unlike, .int t_settings_alone])), (t_first_h, .inr (7, [.int t_first_width, .int t_first_most, .ref t_first_cells_h, .int t_first_lines])), (t_second_h, .inr (7, [.int t_second_width, .int t_second_most, .ref t_second_cells_h, .int t_second_lines])), (t_layers_h, .inr (7, [.int t_layers_width, .int t_layers_most, .ref t_layers_cells_h, .int t_layers_lines])), (t_first_cells_h, .inl (cI, t_first_cells_n, .inl t_first_cells_a)), (t_second_cells_h, .inl (cI, t_second_cells_n, .inl t_second_cells_a)), (t_layers_cells_h, .inl (cI, t_layers_cells_n, .inl t_layers_cells_a))] o_r A) (cc := cX3_costOf) (maxL := 8) (ret := (some .int)) RX3 (by decide +kernel) rfl rfl (Nat.le_of_ble_eq_true rfl) ?_
  intro p e s m args below meth c A ls Q hQ hx hb hr hts hown hlocks hml hN hK hP hD hS hA hl
  have hl : lv_has ls 8 [(0, .ref t_h), (1, .int x1), (2, .int x2)] := hl
  have iwX3 := iwX3_costOf_X3
  have iwX4 := iwX3_costOf_X4
  have fl_9 := hts (.fieldLink RX3 9 "CloudOffice$Matching" "settings" "LCloudOffice$Settings;") (by decide +kernel)
  have fl_15 := hts (.fieldLink RX3 15 "CloudOffice$Matching" "first" "LCloudOffice$Table;") (by decide +kernel)
  have fl_19 := hts (.fieldLink RX3 19 "CloudOffice$Matching" "second" "LCloudOffice$Table;") (by decide +kernel)
  have fl_41 : (Cond.fieldLinkNest RX3 41 "CloudOffice$Settings" "base" "I" "CloudOffice").before args s = true := nst_get hN 10 rfl rfl
  have fl_47 : (Cond.fieldLinkNest RX3 47 "CloudOffice$Settings" "low" "I" "CloudOffice").before args s = true := nst_get hN 11 rfl rfl
  have fl_50 : (Cond.fieldLinkNest RX3 50 "CloudOffice$Settings" "high" "I" "CloudOffice").before args s = true := nst_get hN 12 rfl rfl
  have fl_53 : (Cond.fieldLinkNest RX3 53 "CloudOffice$Settings" "unlike" "I" "CloudOffice").before args s = true := nst_get hN 13 rfl rfl
  have kc_39 := hts (.constantLong RX3 39 (1000)) (by decide +kernel)
  have hret : ∀ (o_r9 : Int32) (pc : Nat) (H : Heap) (locs : List Loc) (ls : Array Slot), decode cX3_costOf pc = .ok (.ireturn, 1) → some o_r9 = some o_r → va_P G vwCl [(t_h, .inr (3, [.ref t_settings_h, .ref t_first_h, .ref t_second_h, .ref t_layers_h, .ref t_costs_h, .ref t_keys_h])), (t_settings_h, .inr (4, [.int t_settings_base, .int t_settings_slip, .int t_settings_low, .int t_settings_high, .int t_settings_unlike, .int t_settings_alone])), (t_first_h, .inr (7, [.int t_first_width, .int t_first_most, .ref t_first_cells_h, .int t_first_lines])), (t_second_h, .inr (7, [.int t_second_width, .int t_second_most, .ref t_second_cells_h, .int t_second_lines])), (t_layers_h, .inr (7, [.int t_layers_width, .int t_layers_most, .ref t_layers_cells_h, .int t_layers_lines])), (t_first_cells_h, .inl (cI, t_first_cells_n, .inl t_first_cells_a)), (t_second_cells_h, .inl (cI, t_second_cells_n, .inl t_second_cells_a)), (t_layers_cells_h, .inl (cI, t_layers_cells_n, .inl t_layers_cells_a))] H → va_D A [(t_h, .inr (3, [.ref t_settings_h, .ref t_first_h, .ref t_second_h, .ref t_layers_h, .ref t_costs_h, .ref t_keys_h])), (t_settings_h, .inr (4, [.int t_settings_base, .int t_settings_slip, .int t_settings_low, .int t_settings_high, .int t_settings_unlike, .int t_settings_alone])), (t_first_h, .inr (7, [.int t_first_width, .int t_first_most, .ref t_first_cells_h, .int t_first_lines])), (t_second_h, .inr (7, [.int t_second_width, .int t_second_most, .ref t_second_cells_h, .int t_second_lines])), (t_layers_h, .inr (7, [.int t_layers_width, .int t_layers_most, .ref t_layers_cells_h, .int t_layers_lines])), (t_first_cells_h, .inl (cI, t_first_cells_n, .inl t_first_cells_a)), (t_second_cells_h, .inl (cI, t_second_cells_n, .inl t_second_cells_a)), (t_layers_cells_h, .inl (cI, t_layers_cells_n, .inl t_layers_cells_a))] → va_S A s.heap H locs → W p l e rmX3_costOf s m args below meth c H locs 0 0 Q (F0 m pc ls [.int o_r9]) := by
    intro o_r9 pc H locs ls hdg he hP hD hS
    cases he
    subst hQ
    exact rt_i hx hb hr hlocks hK hP hD hS rfl hdg
  clear hQ
  unfold fX3_costOf at hf
  refine lv_aload_n hx hb dX3_costOf_0 rfl (lv_at hl 0 rfl) ?_
  refine va_get (D := G) (ci := 3) (v := .ref t_first_h) (C := RX3) (T := TX3) (N := 6) hx hb hts iwX3 hown hK hP 0 rfl rfl 1 (by decide) fl_15 (fun _ h9 => h9) rfl dX3_costOf_1 ?_
  refine lv_iload_n hx hb dX3_costOf_4 rfl (lv_at hl 1 rfl) ?_
  refine lv_iconst (v := 0) hx hb dX3_costOf_5 (by decide) ?_
  obtain ⟨r1, hc2, hf⟩ := ob_some hf
  refine af_iR (va_runV (As := [.int x1, .int 0]) (rest := []) ⟨hx, hb, hml, hown, hts⟩ (k_X7_at l G cI cJ (t_h := t_first_h) (t_cells_h := t_first_cells_h) (t_width := t_first_width) (t_most := t_first_most) (t_lines := t_first_lines) (t_cells_n := t_first_cells_n) (t_cells_a := t_first_cells_a) (x1 := x1) (x2 := 0) (sz := _) (hf := hc2)) (cwV 2 hts gX3_costOf_X7_at rfl rfl rfl (by decide +kernel) ⟨Nat.le_of_ble_eq_true rfl, Nat.le_of_ble_eq_true rfl⟩) (preV0 (ci := 7) (q0 := 0) (C := RX7) (wc := [(t_first_h, .inr (7, [.int t_first_width, .int t_first_most, .ref t_first_cells_h, .int t_first_lines])), (t_first_cells_h, .inl (cI, t_first_cells_n, .inl t_first_cells_a))]) hK hP hD hN [2, 5] rfl rfl (by decide) rfl rfl) rfl rfl hl.1 rfl (lv_room (Nat.le_of_ble_eq_true rfl)) dX3_costOf_6 ⟨Nat.zero_le _, Nat.zero_le _⟩) hP hD hS hA [2, 5] rfl (fun H locs hP hS => ?_)
  refine lv_aload_n hx hb dX3_costOf_9 rfl (lv_at hl 0 rfl) ?_
  refine va_get (D := G) (ci := 3) (v := .ref t_second_h) (C := RX3) (T := TX3) (N := 6) hx hb hts iwX3 hown hK hP 0 rfl rfl 2 (by decide) fl_19 (fun _ h9 => h9) rfl dX3_costOf_10 ?_
  refine lv_iload_n hx hb dX3_costOf_13 rfl (lv_at hl 2 rfl) ?_
  refine lv_iconst (v := 0) hx hb dX3_costOf_14 (by decide) ?_
  obtain ⟨r3, hc4, hf⟩ := ob_some hf
  refine af_iR (va_runV (As := [.int x2, .int 0]) (rest := [.int r1]) ⟨hx, hb, hml, hown, hts⟩ (k_X7_at l G cI cJ (t_h := t_second_h) (t_cells_h := t_second_cells_h) (t_width := t_second_width) (t_most := t_second_most) (t_lines := t_second_lines) (t_cells_n := t_second_cells_n) (t_cells_a := t_second_cells_a) (x1 := x2) (x2 := 0) (sz := _) (hf := hc4)) (cwV 2 hts gX3_costOf_X7_at rfl rfl rfl (by decide +kernel) ⟨Nat.le_of_ble_eq_true rfl, Nat.le_of_ble_eq_true rfl⟩) (preV0 (ci := 7) (q0 := 0) (C := RX7) (wc := [(t_second_h, .inr (7, [.int t_second_width, .int t_second_most, .ref t_second_cells_h, .int t_second_lines])), (t_second_cells_h, .inl (cI, t_second_cells_n, .inl t_second_cells_a))]) hK hP hD hN [3, 6] rfl rfl (by decide) rfl rfl) rfl rfl hl.1 rfl (lv_room (Nat.le_of_ble_eq_true rfl)) dX3_costOf_15 ⟨Nat.zero_le _, Nat.zero_le _⟩) hP hD hS hA [3, 6] rfl (fun H locs hP hS => ?_)
  refine lv_isub hx hb dX3_costOf_18 ?_
  refine lv_i2l (v := Int32.toInt64 (r1 - r3)) hx hb dX3_costOf_19 rfl ?_
  refine lv_topl (fun v5 ev5 => ?_)
  have hf := bv_at ev5 hf
  refine lv_lstore_n (lv' := [(3, .long v5), (0, .ref t_h), (1, .int x1), (2, .int x2)]) hx hb dX3_costOf_20 rfl hl (by decide) rfl (fun ls hl => ?_)
  refine lv_lload_n hx hb dX3_costOf_21 rfl (lv_at hl 0 rfl) ?_
  refine lv_lconst (v := 0) hx hb dX3_costOf_22 (by decide) ?_
  refine W.lcmp hx hb dX3_costOf_23 ?_
  refine lv_if_gt (tgt := 29) hx hb dX3_costOf_24 (by decide) (fun c6 => ?_) (fun c6 => ?_)
  · have hf := ift hf c6
    refine lv_ldc2 (v := 1000) hx hb hown kc_39 dX3_costOf_29 ?_
    refine lv_aload_n hx hb dX3_costOf_32 rfl (lv_at hl 1 rfl) ?_
    refine va_get (D := G) (ci := 3) (v := .ref t_settings_h) (C := RX3) (T := TX3) (N := 6) hx hb hts iwX3 hown hK hP 0 rfl rfl 0 (by decide) fl_9 (fun _ h9 => h9) rfl dX3_costOf_33 ?_
    refine va_getN (D := G) (ci := 4) (v := .int t_settings_base) (C := RX4) (T := TX4) (N := 6) hx hb hts iwX4 hown hK hP 1 rfl rfl 0 (by decide) fl_41 (fun _ h9 => h9) rfl dX3_costOf_36 ?_
    refine lv_i2l (v := Int32.toInt64 t_settings_base) hx hb dX3_costOf_39 rfl ?_
    refine lv_lmul hx hb dX3_costOf_40 ?_
    refine lv_topl (fun v7 ev7 => ?_)
    have hf := bv_at ev7 hf
    refine lv_lstore (lv' := [(5, .long v7), (3, .long v5), (0, .ref t_h), (1, .int x1), (2, .int x2)]) hx hb dX3_costOf_41 hl (by decide) rfl (fun ls hl => ?_)
    refine lv_lload hx hb dX3_costOf_43 (lv_at hl 0 rfl) ?_
    refine lv_aload_n hx hb dX3_costOf_45 rfl (lv_at hl 2 rfl) ?_
    refine va_get (D := G) (ci := 3) (v := .ref t_settings_h) (C := RX3) (T := TX3) (N := 6) hx hb hts iwX3 hown hK hP 0 rfl rfl 0 (by decide) fl_9 (fun _ h9 => h9) rfl dX3_costOf_46 ?_
    refine va_getN (D := G) (ci := 4) (v := .int t_settings_low) (C := RX4) (T := TX4) (N := 6) hx hb hts iwX4 hown hK hP 1 rfl rfl 2 (by decide) fl_47 (fun _ h9 => h9) rfl dX3_costOf_49 ?_
    refine lv_i2l (v := Int32.toInt64 t_settings_low) hx hb dX3_costOf_52 rfl ?_
    refine lv_lload_n hx hb dX3_costOf_53 rfl (lv_at hl 1 rfl) ?_
    refine lv_lmul hx hb dX3_costOf_54 ?_
    refine W.lcmp hx hb dX3_costOf_55 ?_
    refine lv_if_lt (tgt := 75) hx hb dX3_costOf_56 (by decide) (fun c8 => ?_) (fun c8 => ?_)
    · have hf := ift hf c8
      refine lv_iconst (v := (-1)) hx hb dX3_costOf_75 (by decide) ?_
      exact hret (-1) 76 _ _ _ dX3_costOf_76 hf hP hD hS
    · have hf := iff_ hf c8
      refine lv_lload hx hb dX3_costOf_59 (lv_at hl 0 rfl) ?_
      refine lv_aload_n hx hb dX3_costOf_61 rfl (lv_at hl 2 rfl) ?_
      refine va_get (D := G) (ci := 3) (v := .ref t_settings_h) (C := RX3) (T := TX3) (N := 6) hx hb hts iwX3 hown hK hP 0 rfl rfl 0 (by decide) fl_9 (fun _ h9 => h9) rfl dX3_costOf_62 ?_
      refine va_getN (D := G) (ci := 4) (v := .int t_settings_high) (C := RX4) (T := TX4) (N := 6) hx hb hts iwX4 hown hK hP 1 rfl rfl 3 (by decide) fl_50 (fun _ h9 => h9) rfl dX3_costOf_65 ?_
      refine lv_i2l (v := Int32.toInt64 t_settings_high) hx hb dX3_costOf_68 rfl ?_
      refine lv_lload_n hx hb dX3_costOf_69 rfl (lv_at hl 1 rfl) ?_
      refine lv_lmul hx hb dX3_costOf_70 ?_
      refine W.lcmp hx hb dX3_costOf_71 ?_
      refine lv_if_le (tgt := 77) hx hb dX3_costOf_72 (by decide) (fun c9 => ?_) (fun c9 => ?_)
      · have hf := ift hf c9
        refine lv_aload_n hx hb dX3_costOf_77 rfl (lv_at hl 2 rfl) ?_
        refine va_get (D := G) (ci := 3) (v := .ref t_first_h) (C := RX3) (T := TX3) (N := 6) hx hb hts iwX3 hown hK hP 0 rfl rfl 1 (by decide) fl_15 (fun _ h9 => h9) rfl dX3_costOf_78 ?_
        refine lv_iload_n hx hb dX3_costOf_81 rfl (lv_at hl 3 rfl) ?_
        refine lv_iconst (v := 1) hx hb dX3_costOf_82 (by decide) ?_
        obtain ⟨r10, hc11, hf⟩ := ob_some hf
        refine af_iR (va_runV (As := [.int x1, .int 1]) (rest := []) ⟨hx, hb, hml, hown, hts⟩ (k_X7_at l G cI cJ (t_h := t_first_h) (t_cells_h := t_first_cells_h) (t_width := t_first_width) (t_most := t_first_most) (t_lines := t_first_lines) (t_cells_n := t_first_cells_n) (t_cells_a := t_first_cells_a) (x1 := x1) (x2 := 1) (sz := _) (hf := hc11)) (cwV 2 hts gX3_costOf_X7_at rfl rfl rfl (by decide +kernel) ⟨Nat.le_of_ble_eq_true rfl, Nat.le_of_ble_eq_true rfl⟩) (preV0 (ci := 7) (q0 := 0) (C := RX7) (wc := [(t_first_h, .inr (7, [.int t_first_width, .int t_first_most, .ref t_first_cells_h, .int t_first_lines])), (t_first_cells_h, .inl (cI, t_first_cells_n, .inl t_first_cells_a))]) hK hP hD hN [2, 5] rfl rfl (by decide) rfl rfl) rfl rfl hl.1 rfl (lv_room (Nat.le_of_ble_eq_true rfl)) dX3_costOf_83 ⟨Nat.zero_le _, Nat.zero_le _⟩) hP hD hS hA [2, 5] rfl (fun H locs hP hS => ?_)
        refine lv_aload_n hx hb dX3_costOf_86 rfl (lv_at hl 2 rfl) ?_
        refine va_get (D := G) (ci := 3) (v := .ref t_second_h) (C := RX3) (T := TX3) (N := 6) hx hb hts iwX3 hown hK hP 0 rfl rfl 2 (by decide) fl_19 (fun _ h9 => h9) rfl dX3_costOf_87 ?_
        refine lv_iload_n hx hb dX3_costOf_90 rfl (lv_at hl 4 rfl) ?_
        refine lv_iconst (v := 1) hx hb dX3_costOf_91 (by decide) ?_
        obtain ⟨r12, hc13, hf⟩ := ob_some hf
        refine af_iR (va_runV (As := [.int x2, .int 1]) (rest := [.int r10]) ⟨hx, hb, hml, hown, hts⟩ (k_X7_at l G cI cJ (t_h := t_second_h) (t_cells_h := t_second_cells_h) (t_width := t_second_width) (t_most := t_second_most) (t_lines := t_second_lines) (t_cells_n := t_second_cells_n) (t_cells_a := t_second_cells_a) (x1 := x2) (x2 := 1) (sz := _) (hf := hc13)) (cwV 2 hts gX3_costOf_X7_at rfl rfl rfl (by decide +kernel) ⟨Nat.le_of_ble_eq_true rfl, Nat.le_of_ble_eq_true rfl⟩) (preV0 (ci := 7) (q0 := 0) (C := RX7) (wc := [(t_second_h, .inr (7, [.int t_second_width, .int t_second_most, .ref t_second_cells_h, .int t_second_lines])), (t_second_cells_h, .inl (cI, t_second_cells_n, .inl t_second_cells_a))]) hK hP hD hN [3, 6] rfl rfl (by decide) rfl rfl) rfl rfl hl.1 rfl (lv_room (Nat.le_of_ble_eq_true rfl)) dX3_costOf_92 ⟨Nat.zero_le _, Nat.zero_le _⟩) hP hD hS hA [3, 6] rfl (fun H locs hP hS => ?_)
        obtain ⟨m14, hr15, hf⟩ := ob_some hf
        have hj16 : ∀ (m149 : Int32), some m149 = some m14 → ∀ (H : Heap) (locs : List Loc) (ls : Array Slot), va_P G vwCl [(t_h, .inr (3, [.ref t_settings_h, .ref t_first_h, .ref t_second_h, .ref t_layers_h, .ref t_costs_h, .ref t_keys_h])), (t_settings_h, .inr (4, [.int t_settings_base, .int t_settings_slip, .int t_settings_low, .int t_settings_high, .int t_settings_unlike, .int t_settings_alone])), (t_first_h, .inr (7, [.int t_first_width, .int t_first_most, .ref t_first_cells_h, .int t_first_lines])), (t_second_h, .inr (7, [.int t_second_width, .int t_second_most, .ref t_second_cells_h, .int t_second_lines])), (t_layers_h, .inr (7, [.int t_layers_width, .int t_layers_most, .ref t_layers_cells_h, .int t_layers_lines])), (t_first_cells_h, .inl (cI, t_first_cells_n, .inl t_first_cells_a)), (t_second_cells_h, .inl (cI, t_second_cells_n, .inl t_second_cells_a)), (t_layers_cells_h, .inl (cI, t_layers_cells_n, .inl t_layers_cells_a))] H → va_D A [(t_h, .inr (3, [.ref t_settings_h, .ref t_first_h, .ref t_second_h, .ref t_layers_h, .ref t_costs_h, .ref t_keys_h])), (t_settings_h, .inr (4, [.int t_settings_base, .int t_settings_slip, .int t_settings_low, .int t_settings_high, .int t_settings_unlike, .int t_settings_alone])), (t_first_h, .inr (7, [.int t_first_width, .int t_first_most, .ref t_first_cells_h, .int t_first_lines])), (t_second_h, .inr (7, [.int t_second_width, .int t_second_most, .ref t_second_cells_h, .int t_second_lines])), (t_layers_h, .inr (7, [.int t_layers_width, .int t_layers_most, .ref t_layers_cells_h, .int t_layers_lines])), (t_first_cells_h, .inl (cI, t_first_cells_n, .inl t_first_cells_a)), (t_second_cells_h, .inl (cI, t_second_cells_n, .inl t_second_cells_a)), (t_layers_cells_h, .inl (cI, t_layers_cells_n, .inl t_layers_cells_a))] → va_S A s.heap H locs → lv_has ls 8 [(0, .ref t_h), (3, .long v5), (5, .long v7)] → W p l e rmX3_costOf s m args below meth c H locs 0 0 Q (F0 m 109 ls [.int m149]) := by
          intro m149 he H locs ls hP hD hS hl
          cases he
          refine lv_istore (lv' := [(7, .int m14), (0, .ref t_h), (3, .long v5), (5, .long v7)]) hx hb dX3_costOf_109 hl (by decide) rfl (fun ls hl => ?_)
          refine lv_iload hx hb dX3_costOf_111 (lv_at hl 0 rfl) ?_
          refine lv_aload_n hx hb dX3_costOf_113 rfl (lv_at hl 1 rfl) ?_
          refine lv_lload hx hb dX3_costOf_114 (lv_at hl 3 rfl) ?_
          refine lv_lload_n hx hb dX3_costOf_116 rfl (lv_at hl 2 rfl) ?_
          obtain ⟨h18, hf⟩ := gd_some hf
          refine lv_ldiv hx hb dX3_costOf_117 (of_decide_eq_true h18) ?_
          refine lv_l2i (v := Int64.toInt32 (v7 / v5)) hx hb dX3_costOf_118 rfl ?_
          obtain ⟨r19, hc20, hf⟩ := ob_some hf
          refine af_iR (va_runV (As := [.int (Int64.toInt32 (v7 / v5))]) (rest := [.int m14]) ⟨hx, hb, hml, hown, hts⟩ (k_X3_wayToLayer l G cI cJ (t_h := t_h) (t_settings_h := t_settings_h) (t_first_h := t_first_h) (t_second_h := t_second_h) (t_layers_h := t_layers_h) (t_costs_h := t_costs_h) (t_keys_h := t_keys_h) (t_layers_cells_h := t_layers_cells_h) (t_layers_width := t_layers_width) (t_layers_most := t_layers_most) (t_layers_lines := t_layers_lines) (t_layers_cells_n := t_layers_cells_n) (t_layers_cells_a := t_layers_cells_a) (x1 := (Int64.toInt32 (v7 / v5))) (sz := _) (hf := hc20)) (cwV 1 hts gX3_costOf_X3_wayToLayer rfl rfl rfl (by decide +kernel) ⟨Nat.le_of_ble_eq_true rfl, Nat.le_of_ble_eq_true rfl⟩) (preV0 (ci := 3) (q0 := 0) (C := RX3) (wc := [(t_h, .inr (3, [.ref t_settings_h, .ref t_first_h, .ref t_second_h, .ref t_layers_h, .ref t_costs_h, .ref t_keys_h])), (t_layers_h, .inr (7, [.int t_layers_width, .int t_layers_most, .ref t_layers_cells_h, .int t_layers_lines])), (t_layers_cells_h, .inl (cI, t_layers_cells_n, .inl t_layers_cells_a))]) hK hP hD hN [0, 4, 7] rfl rfl (by decide) rfl rfl) rfl rfl hl.1 rfl (lv_room (Nat.le_of_ble_eq_true rfl)) dX3_costOf_119 ⟨Nat.zero_le _, Nat.zero_le _⟩) hP hD hS hA [0, 4, 7] rfl (fun H locs hP hS => ?_)
          refine lv_iadd hx hb dX3_costOf_122 ?_
          exact hret (m14 + r19) 123 _ _ _ dX3_costOf_123 hf hP hD hS
        replace hf := hr15
        refine lv_icmp_ne (tgt := 102) hx hb dX3_costOf_95 (by decide) (fun c17 => ?_) (fun c17 => ?_)
        · have hf := iff_ hf c17
          refine lv_aload_n hx hb dX3_costOf_102 rfl (lv_at hl 2 rfl) ?_
          refine va_get (D := G) (ci := 3) (v := .ref t_settings_h) (C := RX3) (T := TX3) (N := 6) hx hb hts iwX3 hown hK hP 0 rfl rfl 0 (by decide) fl_9 (fun _ h9 => h9) rfl dX3_costOf_103 ?_
          refine va_getN (D := G) (ci := 4) (v := .int t_settings_unlike) (C := RX4) (T := TX4) (N := 6) hx hb hts iwX4 hown hK hP 1 rfl rfl 4 (by decide) fl_53 (fun _ h9 => h9) rfl dX3_costOf_106 ?_
          exact hj16 _ hf _ _ _ hP hD hS (lv_sub hl [2, 1, 0] rfl)
        · have hf := ift hf c17
          refine lv_iconst (v := 0) hx hb dX3_costOf_98 (by decide) ?_
          refine lv_goto (tgt := 109) hx hb dX3_costOf_99 (by decide) ?_
          exact hj16 _ hf _ _ _ hP hD hS (lv_sub hl [2, 1, 0] rfl)
      · have hf := iff_ hf c9
        refine lv_iconst (v := (-1)) hx hb dX3_costOf_75 (by decide) ?_
        exact hret (-1) 76 _ _ _ dX3_costOf_76 hf hP hD hS
  · have hf := iff_ hf c6
    refine lv_iconst (v := (-1)) hx hb dX3_costOf_27 (by decide) ?_
    exact hret (-1) 28 _ _ _ dX3_costOf_28 hf hP hD hS
theorem dX3_bringIn_0 : decode cX3_bringIn 0 = .ok (.sipush 255, 3) := by decide +kernel
theorem dX3_bringIn_3 : decode cX3_bringIn 3 = .ok (.istore_n 2, 1) := by decide +kernel
theorem dX3_bringIn_4 : decode cX3_bringIn 4 = .ok (.iload_n 2, 1) := by decide +kernel
theorem dX3_bringIn_5 : decode cX3_bringIn 5 = .ok (.ifCond .lt 133, 3) := by decide +kernel
theorem dX3_bringIn_8 : decode cX3_bringIn 8 = .ok (.aload_n 0, 1) := by decide +kernel
theorem dX3_bringIn_9 : decode cX3_bringIn 9 = .ok (.getfield 29, 3) := by decide +kernel
theorem dX3_bringIn_12 : decode cX3_bringIn 12 = .ok (.iload_n 2, 1) := by decide +kernel
theorem dX3_bringIn_13 : decode cX3_bringIn 13 = .ok (.laload, 1) := by decide +kernel
theorem dX3_bringIn_14 : decode cX3_bringIn 14 = .ok (.lstore_n 3, 1) := by decide +kernel
theorem dX3_bringIn_15 : decode cX3_bringIn 15 = .ok (.lload_n 3, 1) := by decide +kernel
theorem dX3_bringIn_16 : decode cX3_bringIn 16 = .ok (.ldc2_w 73, 3) := by decide +kernel
theorem dX3_bringIn_19 : decode cX3_bringIn 19 = .ok (.lcmp, 1) := by decide +kernel
theorem dX3_bringIn_20 : decode cX3_bringIn 20 = .ok (.ifCond .eq 17, 3) := by decide +kernel
theorem dX3_bringIn_23 : decode cX3_bringIn 23 = .ok (.lload_n 3, 1) := by decide +kernel
theorem dX3_bringIn_24 : decode cX3_bringIn 24 = .ok (.aload_n 0, 1) := by decide +kernel
theorem dX3_bringIn_25 : decode cX3_bringIn 25 = .ok (.getfield 9, 3) := by decide +kernel
theorem dX3_bringIn_28 : decode cX3_bringIn 28 = .ok (.getfield 89, 3) := by decide +kernel
theorem dX3_bringIn_31 : decode cX3_bringIn 31 = .ok (.i2l, 1) := by decide +kernel
theorem dX3_bringIn_32 : decode cX3_bringIn 32 = .ok (.bipush 32, 2) := by decide +kernel
theorem dX3_bringIn_34 : decode cX3_bringIn 34 = .ok (.lshl, 1) := by decide +kernel
theorem dX3_bringIn_35 : decode cX3_bringIn 35 = .ok (.ladd, 1) := by decide +kernel
theorem dX3_bringIn_36 : decode cX3_bringIn 36 = .ok (.lstore_n 3, 1) := by decide +kernel
theorem dX3_bringIn_37 : decode cX3_bringIn 37 = .ok (.iconst 0, 1) := by decide +kernel
theorem dX3_bringIn_38 : decode cX3_bringIn 38 = .ok (.istore 5, 2) := by decide +kernel
theorem dX3_bringIn_40 : decode cX3_bringIn 40 = .ok (.iload 5, 2) := by decide +kernel
theorem dX3_bringIn_42 : decode cX3_bringIn 42 = .ok (.bipush 8, 2) := by decide +kernel
theorem dX3_bringIn_44 : decode cX3_bringIn 44 = .ok (.if_icmp .ge 81, 3) := by decide +kernel
theorem dX3_bringIn_47 : decode cX3_bringIn 47 = .ok (.iload_n 2, 1) := by decide +kernel
theorem dX3_bringIn_48 : decode cX3_bringIn 48 = .ok (.iconst 1, 1) := by decide +kernel
theorem dX3_bringIn_49 : decode cX3_bringIn 49 = .ok (.iload 5, 2) := by decide +kernel
theorem dX3_bringIn_51 : decode cX3_bringIn 51 = .ok (.ishl, 1) := by decide +kernel
theorem dX3_bringIn_52 : decode cX3_bringIn 52 = .ok (.iand, 1) := by decide +kernel
theorem dX3_bringIn_53 : decode cX3_bringIn 53 = .ok (.ifCond .eq 66, 3) := by decide +kernel
theorem dX3_bringIn_56 : decode cX3_bringIn 56 = .ok (.aload_n 0, 1) := by decide +kernel
theorem dX3_bringIn_57 : decode cX3_bringIn 57 = .ok (.getfield 25, 3) := by decide +kernel
theorem dX3_bringIn_60 : decode cX3_bringIn 60 = .ok (.iload 5, 2) := by decide +kernel
theorem dX3_bringIn_62 : decode cX3_bringIn 62 = .ok (.iaload, 1) := by decide +kernel
theorem dX3_bringIn_63 : decode cX3_bringIn 63 = .ok (.iconst (-1), 1) := by decide +kernel
theorem dX3_bringIn_64 : decode cX3_bringIn 64 = .ok (.if_icmp .ne 6, 3) := by decide +kernel
theorem dX3_bringIn_67 : decode cX3_bringIn 67 = .ok (.goto 52, 3) := by decide +kernel
theorem dX3_bringIn_70 : decode cX3_bringIn 70 = .ok (.aload_n 0, 1) := by decide +kernel
theorem dX3_bringIn_71 : decode cX3_bringIn 71 = .ok (.getfield 29, 3) := by decide +kernel
theorem dX3_bringIn_74 : decode cX3_bringIn 74 = .ok (.iload_n 2, 1) := by decide +kernel
theorem dX3_bringIn_75 : decode cX3_bringIn 75 = .ok (.iconst 1, 1) := by decide +kernel
theorem dX3_bringIn_76 : decode cX3_bringIn 76 = .ok (.iload 5, 2) := by decide +kernel
theorem dX3_bringIn_78 : decode cX3_bringIn 78 = .ok (.ishl, 1) := by decide +kernel
theorem dX3_bringIn_79 : decode cX3_bringIn 79 = .ok (.ixor, 1) := by decide +kernel
theorem dX3_bringIn_80 : decode cX3_bringIn 80 = .ok (.laload, 1) := by decide +kernel
theorem dX3_bringIn_81 : decode cX3_bringIn 81 = .ok (.lstore 6, 2) := by decide +kernel
theorem dX3_bringIn_83 : decode cX3_bringIn 83 = .ok (.lload 6, 2) := by decide +kernel
theorem dX3_bringIn_85 : decode cX3_bringIn 85 = .ok (.ldc2_w 73, 3) := by decide +kernel
theorem dX3_bringIn_88 : decode cX3_bringIn 88 = .ok (.lcmp, 1) := by decide +kernel
theorem dX3_bringIn_89 : decode cX3_bringIn 89 = .ok (.ifCond .eq 30, 3) := by decide +kernel
theorem dX3_bringIn_92 : decode cX3_bringIn 92 = .ok (.lload_n 3, 1) := by decide +kernel
theorem dX3_bringIn_93 : decode cX3_bringIn 93 = .ok (.lload 6, 2) := by decide +kernel
theorem dX3_bringIn_95 : decode cX3_bringIn 95 = .ok (.aload_n 0, 1) := by decide +kernel
theorem dX3_bringIn_96 : decode cX3_bringIn 96 = .ok (.getfield 25, 3) := by decide +kernel
theorem dX3_bringIn_99 : decode cX3_bringIn 99 = .ok (.iload 5, 2) := by decide +kernel
theorem dX3_bringIn_101 : decode cX3_bringIn 101 = .ok (.iaload, 1) := by decide +kernel
theorem dX3_bringIn_102 : decode cX3_bringIn 102 = .ok (.i2l, 1) := by decide +kernel
theorem dX3_bringIn_103 : decode cX3_bringIn 103 = .ok (.bipush 32, 2) := by decide +kernel
theorem dX3_bringIn_105 : decode cX3_bringIn 105 = .ok (.lshl, 1) := by decide +kernel
theorem dX3_bringIn_106 : decode cX3_bringIn 106 = .ok (.ladd, 1) := by decide +kernel
theorem dX3_bringIn_107 : decode cX3_bringIn 107 = .ok (.iload 5, 2) := by decide +kernel
theorem dX3_bringIn_109 : decode cX3_bringIn 109 = .ok (.i2l, 1) := by decide +kernel
theorem dX3_bringIn_110 : decode cX3_bringIn 110 = .ok (.lconst 1, 1) := by decide +kernel
theorem dX3_bringIn_111 : decode cX3_bringIn 111 = .ok (.ladd, 1) := by decide +kernel
theorem dX3_bringIn_112 : decode cX3_bringIn 112 = .ok (.iload_n 1, 1) := by decide +kernel
theorem dX3_bringIn_113 : decode cX3_bringIn 113 = .ok (.lshl, 1) := by decide +kernel
theorem dX3_bringIn_114 : decode cX3_bringIn 114 = .ok (.ladd, 1) := by decide +kernel
theorem dX3_bringIn_115 : decode cX3_bringIn 115 = .ok (.invokestatic 92, 3) := by decide +kernel
theorem dX3_bringIn_118 : decode cX3_bringIn 118 = .ok (.lstore_n 3, 1) := by decide +kernel
theorem dX3_bringIn_119 : decode cX3_bringIn 119 = .ok (.iinc 5 1, 3) := by decide +kernel
theorem dX3_bringIn_122 : decode cX3_bringIn 122 = .ok (.goto (-82), 3) := by decide +kernel
theorem dX3_bringIn_125 : decode cX3_bringIn 125 = .ok (.aload_n 0, 1) := by decide +kernel
theorem dX3_bringIn_126 : decode cX3_bringIn 126 = .ok (.getfield 29, 3) := by decide +kernel
theorem dX3_bringIn_129 : decode cX3_bringIn 129 = .ok (.iload_n 2, 1) := by decide +kernel
theorem dX3_bringIn_130 : decode cX3_bringIn 130 = .ok (.lload_n 3, 1) := by decide +kernel
theorem dX3_bringIn_131 : decode cX3_bringIn 131 = .ok (.lastore, 1) := by decide +kernel
theorem dX3_bringIn_132 : decode cX3_bringIn 132 = .ok (.iinc 2 (-1), 3) := by decide +kernel
theorem dX3_bringIn_135 : decode cX3_bringIn 135 = .ok (.goto (-131), 3) := by decide +kernel
theorem dX3_bringIn_138 : decode cX3_bringIn 138 = .ok (.return_, 1) := by decide +kernel
set_option maxRecDepth 100000 in
def fX3_bringIn_L2 (u1 : Int32) (t_costs_a : Nat → Int32) (u2 : Nat → Int64) (x1 : Int32) : (Int64 × Int32) → Option ((Int64) ⊕ (Int64 × Int32)) := un2 fun (u11 : Int64) (u12 : Int32) =>
  if 8 ≤ u12 then
    some (.inl u11)
  else
    ob (α := Int64) (
        if (u1 &&& ((1 : Int32) <<< (u12 &&& 31))) = 0 then
          some u11
        else
          gd (bnd u12 8) <|
          if (t_costs_a (Int32.toNatClampNeg u12)) = (-1) then
            some u11
          else
            gd (bnd (u1 ^^^ ((1 : Int32) <<< (u12 &&& 31))) 256) <|
            bv (u2 (Int32.toNatClampNeg (u1 ^^^ ((1 : Int32) <<< (u12 &&& 31))))) fun v21 =>
            if (lg_cmp v21 1152921504606846976) = 0 then
              some u11
            else
              gd (bnd u12 8) <|
              bv (if ((v21 + ((Int32.toInt64 (t_costs_a (Int32.toNatClampNeg u12))) <<< (Int32.toInt64 32 &&& 63))) + (((Int32.toInt64 u12) + 1) <<< (Int32.toInt64 x1 &&& 63))) < u11 then ((v21 + ((Int32.toInt64 (t_costs_a (Int32.toNatClampNeg u12))) <<< (Int32.toInt64 32 &&& 63))) + (((Int32.toInt64 u12) + 1) <<< (Int32.toInt64 x1 &&& 63))) else u11) fun v24 =>
              some v24
      ) fun m14 =>
    bv (u12 + 1) fun v25 =>
    some (.inr (m14, v25))
set_option maxRecDepth 100000 in
def fX3_bringIn_L1 (t_settings_alone : Int32) (t_costs_a : Nat → Int32) (x1 : Int32) : (Int32 × (Nat → Int64)) → Option (((Nat → Int64)) ⊕ (Int32 × (Nat → Int64))) := un2 fun (u1 : Int32) (u2 : Nat → Int64) =>
  if u1 < 0 then
    some (.inl u2)
  else
    gd (bnd u1 256) <|
    bv (u2 (Int32.toNatClampNeg u1)) fun v5 =>
    ob (α := Int64) (
        if (lg_cmp v5 1152921504606846976) = 0 then
          some v5
        else
          bv (v5 + ((Int32.toInt64 t_settings_alone) <<< (Int32.toInt64 32 &&& 63))) fun v10 =>
          some v10
      ) fun m6 =>
    ob (it (fX3_bringIn_L2 u1 t_costs_a u2 x1) 100000 (m6, 0)) fun x26 =>
    gd (bnd u1 256) <|
    bv (vp_updL u2 (Int32.toNatClampNeg u1) x26) fun a28 =>
    bv (u1 + (-1)) fun v29 =>
    some (.inr (v29, a28))
set_option maxRecDepth 100000 in
def fX3_bringIn (x1 : Int32) (t_settings_alone : Int32) (t_costs_a : Nat → Int32) (t_keys_a : Nat → Int64) : Option ((Nat → Int64)) :=
  ob (it (fX3_bringIn_L1 t_settings_alone t_costs_a x1) 100000 (255, t_keys_a)) fun x30 =>
  some x30
abbrev rmX3_bringIn : Room := { frames := 1, cells := 0, slots := 0, locals := 23 }
theorem iwX3_bringIn_X3 : ∀ w ∈ u_ws RX3 TX3 6, w ∈ wsX3_bringIn := by decide +kernel
theorem iwX3_bringIn_X4 : ∀ w ∈ u_ws RX4 TX4 6, w ∈ wsX3_bringIn := by decide +kernel
set_option maxHeartbeats 4000000 in
set_option maxRecDepth 100000 in
theorem k_X3_bringIn (l : Launch) (G : va_G) (cI cJ : ClassId) (t_h t_settings_h t_first_h t_second_h t_layers_h t_costs_h t_keys_h : Nat) (sz : Nat) (t_settings_base : Int32) (t_settings_slip : Int32) (t_settings_low : Int32) (t_settings_high : Int32) (t_settings_unlike : Int32) (t_settings_alone : Int32) (t_costs_a : Nat → Int32) (t_keys_a : Nat → Int64) (x1 : Int32) {o_t_keys_a : Nat → Int64} (hf : fX3_bringIn x1 t_settings_alone t_costs_a t_keys_a = some o_t_keys_a) : MetU l yX3_bringIn wsX3_bringIn rmX3_bringIn [.ref t_h, .int x1] G cI cJ [(t_h, .inr (3, [.ref t_settings_h, .ref t_first_h, .ref t_second_h, .ref t_layers_h, .ref t_costs_h, .ref t_keys_h])), (t_settings_h, .inr (4, [.int t_settings_base, .int t_settings_slip, .int t_settings_low, .int t_settings_high, .int t_settings_unlike, .int t_settings_alone])), (t_costs_h, .inl (cI, 8, .inl t_costs_a)), (t_keys_h, .inl (cJ, 256, .inr (.inl t_keys_a)))] [(t_h, .inr (3, [.ref t_settings_h, .ref t_first_h, .ref t_second_h, .ref t_layers_h, .ref t_costs_h, .ref t_keys_h])), (t_settings_h, .inr (4, [.int t_settings_base, .int t_settings_slip, .int t_settings_low, .int t_settings_high, .int t_settings_unlike, .int t_settings_alone])), (t_costs_h, .inl (cI, 8, .inl t_costs_a)), (t_keys_h, .inl (cJ, 256, .inr (.inl o_t_keys_a)))] sz := by
  refine en_0 (l := l) (y := yX3_bringIn) (wsl := wsX3_bringIn) (rm := rmX3_bringIn) (av := [.ref t_h, .int x1]) (G := G) (cI := cI) (cJ := cJ) (w0 := [(t_h, .inr (3, [.ref t_settings_h, .ref t_first_h, .ref t_second_h, .ref t_layers_h, .ref t_costs_h, .ref t_keys_h])), (t_settings_h, .inr (4, [.int t_settings_base, .int t_settings_slip, .int t_settings_low, .int t_settings_high, .int t_settings_unlike, .int t_settings_alone])), (t_costs_h, .inl (cI, 8, .inl t_costs_a)), (t_keys_h, .inl (cJ, 256, .inr (.inl t_keys_a)))]) (sz := sz) (Qf := fun A => Qv0 G cI cJ [(t_h, .inr (3, [.ref t_settings_h, .ref t_first_h, .ref t_second_h, .ref t_layers_h, .ref t_costs_h, .ref t_keys_h])), (t_settings_h, .inr (4, [.int t_settings_base, .int t_settings_slip, .int t_settings_low, .int t_settings_high, .int t_settings_unlike, .int t_settings_alone])), (t_costs_h, .inl (cI, 8, .inl t_costs_a)), (t_keys_h, .inl (cJ, 256, .inr (.inl o_t_keys_a)))] A) (cc := cX3_bringIn) (maxL := 8) (ret := none) RX3 (by decide +kernel) rfl rfl (Nat.le_of_ble_eq_true rfl) ?_
  intro p e s m args below meth c A ls Q hQ hx hb hr hts hown hlocks hml hN hK hP hD hS hA hl
  have hl : lv_has ls 8 [(0, .ref t_h), (1, .int x1)] := hl
  have iwX3 := iwX3_bringIn_X3
  have iwX4 := iwX3_bringIn_X4
  have fl_9 := hts (.fieldLink RX3 9 "CloudOffice$Matching" "settings" "LCloudOffice$Settings;") (by decide +kernel)
  have fl_25 := hts (.fieldLink RX3 25 "CloudOffice$Matching" "costs" "[I") (by decide +kernel)
  have fl_29 := hts (.fieldLink RX3 29 "CloudOffice$Matching" "keys" "[J") (by decide +kernel)
  have fl_89 : (Cond.fieldLinkNest RX3 89 "CloudOffice$Settings" "alone" "I" "CloudOffice").before args s = true := nst_get hN 14 rfl rfl
  have kc_73 := hts (.constantLong RX3 73 (1152921504606846976)) (by decide +kernel)
  have lb_92 := hts (.methodLink RX3 92 Lib.MathLoose.min_long.x) (by decide +kernel)
  have lbs_92 := hts (.static Lib.MathLoose.min_long.x) (by decide +kernel)
  have lbi_92 := hts (.initialized "java/lang/Math") (by decide +kernel)
  have lbc_92 := hts (.code Lib.MathLoose.min_long.x Lib.MathLoose.min_long.code 4 (some .long)) (by decide +kernel)
  have hret : ∀ (o_t_keys_a9 : Nat → Int64) (pc : Nat) (H : Heap) (locs : List Loc) (ls : Array Slot), decode cX3_bringIn pc = .ok (.return_, 1) → some o_t_keys_a9 = some o_t_keys_a → va_P G vwCl [(t_h, .inr (3, [.ref t_settings_h, .ref t_first_h, .ref t_second_h, .ref t_layers_h, .ref t_costs_h, .ref t_keys_h])), (t_settings_h, .inr (4, [.int t_settings_base, .int t_settings_slip, .int t_settings_low, .int t_settings_high, .int t_settings_unlike, .int t_settings_alone])), (t_costs_h, .inl (cI, 8, .inl t_costs_a)), (t_keys_h, .inl (cJ, 256, .inr (.inl o_t_keys_a9)))] H → va_D A [(t_h, .inr (3, [.ref t_settings_h, .ref t_first_h, .ref t_second_h, .ref t_layers_h, .ref t_costs_h, .ref t_keys_h])), (t_settings_h, .inr (4, [.int t_settings_base, .int t_settings_slip, .int t_settings_low, .int t_settings_high, .int t_settings_unlike, .int t_settings_alone])), (t_costs_h, .inl (cI, 8, .inl t_costs_a)), (t_keys_h, .inl (cJ, 256, .inr (.inl o_t_keys_a9)))] → va_S A s.heap H locs → W p l e rmX3_bringIn s m args below meth c H locs 0 0 Q (F0 m pc ls []) := by
    intro o_t_keys_a9 pc H locs ls hdg he hP hD hS
    cases he
    subst hQ
    exact rt_v hx hb hr hlocks hK hP hD hS hdg
  clear hQ
  unfold fX3_bringIn at hf
  refine lv_sipush (v := 255) hx hb dX3_bringIn_0 (by decide) ?_
  refine lv_istore_n (lv' := [(2, .int 255), (0, .ref t_h), (1, .int x1)]) hx hb dX3_bringIn_3 rfl hl (by decide) rfl (fun ls hl => ?_)
  obtain ⟨x30, ht1, hf⟩ := ob_some hf
  have hx1_0 : ∀ (x309 : Nat → Int64), x309 = x30 → ∀ (H : Heap) (locs : List Loc) (ls : Array Slot), va_P G vwCl [(t_h, .inr (3, [.ref t_settings_h, .ref t_first_h, .ref t_second_h, .ref t_layers_h, .ref t_costs_h, .ref t_keys_h])), (t_settings_h, .inr (4, [.int t_settings_base, .int t_settings_slip, .int t_settings_low, .int t_settings_high, .int t_settings_unlike, .int t_settings_alone])), (t_costs_h, .inl (cI, 8, .inl t_costs_a)), (t_keys_h, .inl (cJ, 256, .inr (.inl x309)))] H → va_D A [(t_h, .inr (3, [.ref t_settings_h, .ref t_first_h, .ref t_second_h, .ref t_layers_h, .ref t_costs_h, .ref t_keys_h])), (t_settings_h, .inr (4, [.int t_settings_base, .int t_settings_slip, .int t_settings_low, .int t_settings_high, .int t_settings_unlike, .int t_settings_alone])), (t_costs_h, .inl (cI, 8, .inl t_costs_a)), (t_keys_h, .inl (cJ, 256, .inr (.inl x309)))] → va_S A s.heap H locs → lv_has ls 8 [] → W p l e rmX3_bringIn s m args below meth c H locs 0 0 Q (F0 m 138 ls []) := by
    intro x309 he H locs ls hP hD hS hl
    cases he
    exact hret x30 138 _ _ _ dX3_bringIn_138 hf hP hD hS
  clear hf
  have hl1 : ∀ (n : Nat) (u1 : Int32) (u2 : Nat → Int64), it (fX3_bringIn_L1 t_settings_alone t_costs_a x1) n (u1, u2) = some x30 → ∀ (H : Heap) (locs : List Loc) (ls : Array Slot), va_P G vwCl [(t_h, .inr (3, [.ref t_settings_h, .ref t_first_h, .ref t_second_h, .ref t_layers_h, .ref t_costs_h, .ref t_keys_h])), (t_settings_h, .inr (4, [.int t_settings_base, .int t_settings_slip, .int t_settings_low, .int t_settings_high, .int t_settings_unlike, .int t_settings_alone])), (t_costs_h, .inl (cI, 8, .inl t_costs_a)), (t_keys_h, .inl (cJ, 256, .inr (.inl u2)))] H → va_D A [(t_h, .inr (3, [.ref t_settings_h, .ref t_first_h, .ref t_second_h, .ref t_layers_h, .ref t_costs_h, .ref t_keys_h])), (t_settings_h, .inr (4, [.int t_settings_base, .int t_settings_slip, .int t_settings_low, .int t_settings_high, .int t_settings_unlike, .int t_settings_alone])), (t_costs_h, .inl (cI, 8, .inl t_costs_a)), (t_keys_h, .inl (cJ, 256, .inr (.inl u2)))] → va_S A s.heap H locs → lv_has ls 8 [(0, .ref t_h), (1, .int x1), (2, .int u1)] → W p l e rmX3_bringIn s m args below meth c H locs 0 0 Q (F0 m 4 ls []) := by
    intro n
    induction n with
    | zero => intro u1 u2 hz; exact (it_zero hz).elim
    | succ n ih =>
      intro u1 u2 hz H locs ls hP hD hS hl
      obtain ⟨x9, hf, hq⟩ := it_succ hz
      unfold fX3_bringIn_L1 at hf
      dsimp only [un2] at hf
      refine lv_iload_n hx hb dX3_bringIn_4 rfl (lv_at hl 2 rfl) ?_
      refine lv_if_lt (tgt := 138) hx hb dX3_bringIn_5 (by decide) (fun c3 => ?_) (fun c3 => ?_)
      · have hf := ift hf c3
        cases hf
        exact hx1_0 _ hq _ _ _ hP hD hS (lv_sub hl [] rfl)
      · have hf := iff_ hf c3
        refine lv_aload_n hx hb dX3_bringIn_8 rfl (lv_at hl 0 rfl) ?_
        refine va_get (D := G) (ci := 3) (v := .ref t_keys_h) (C := RX3) (T := TX3) (N := 6) hx hb hts iwX3 hown hK hP 0 rfl rfl 5 (by decide) fl_29 (fun _ h9 => h9) rfl dX3_bringIn_9 ?_
        refine lv_iload_n hx hb dX3_bringIn_12 rfl (lv_at hl 2 rfl) ?_
        obtain ⟨h4, hf⟩ := gd_some hf
        refine va_lald hx hb hK hP 3 1 rfl rfl (bnd_in h4) dX3_bringIn_13 ?_
        refine lv_topl (fun v5 ev5 => ?_)
        have hf := bv_at ev5 hf
        refine lv_lstore_n (lv' := [(3, .long v5), (0, .ref t_h), (1, .int x1), (2, .int u1)]) hx hb dX3_bringIn_14 rfl hl (by decide) rfl (fun ls hl => ?_)
        refine lv_lload_n hx hb dX3_bringIn_15 rfl (lv_at hl 0 rfl) ?_
        refine lv_ldc2 (v := 1152921504606846976) hx hb hown kc_73 dX3_bringIn_16 ?_
        refine W.lcmp hx hb dX3_bringIn_19 ?_
        obtain ⟨m6, hr7, hf⟩ := ob_some hf
        have hj8 : ∀ (m69 : Int64), some m69 = some m6 → ∀ (H : Heap) (locs : List Loc) (ls : Array Slot), va_P G vwCl [(t_h, .inr (3, [.ref t_settings_h, .ref t_first_h, .ref t_second_h, .ref t_layers_h, .ref t_costs_h, .ref t_keys_h])), (t_settings_h, .inr (4, [.int t_settings_base, .int t_settings_slip, .int t_settings_low, .int t_settings_high, .int t_settings_unlike, .int t_settings_alone])), (t_costs_h, .inl (cI, 8, .inl t_costs_a)), (t_keys_h, .inl (cJ, 256, .inr (.inl u2)))] H → va_D A [(t_h, .inr (3, [.ref t_settings_h, .ref t_first_h, .ref t_second_h, .ref t_layers_h, .ref t_costs_h, .ref t_keys_h])), (t_settings_h, .inr (4, [.int t_settings_base, .int t_settings_slip, .int t_settings_low, .int t_settings_high, .int t_settings_unlike, .int t_settings_alone])), (t_costs_h, .inl (cI, 8, .inl t_costs_a)), (t_keys_h, .inl (cJ, 256, .inr (.inl u2)))] → va_S A s.heap H locs → lv_has ls 8 [(0, .ref t_h), (1, .int x1), (2, .int u1), (3, .long m69)] → W p l e rmX3_bringIn s m args below meth c H locs 0 0 Q (F0 m 37 ls []) := by
          intro m69 he H locs ls hP hD hS hl
          cases he
          refine lv_iconst (v := 0) hx hb dX3_bringIn_37 (by decide) ?_
          refine lv_istore (lv' := [(5, .int 0), (0, .ref t_h), (1, .int x1), (2, .int u1), (3, .long m6)]) hx hb dX3_bringIn_38 hl (by decide) rfl (fun ls hl => ?_)
          obtain ⟨x26, ht2, hf⟩ := ob_some hf
          have hx2_0 : ∀ (x269 : Int64), x269 = x26 → ∀ (H : Heap) (locs : List Loc) (ls : Array Slot), va_P G vwCl [(t_h, .inr (3, [.ref t_settings_h, .ref t_first_h, .ref t_second_h, .ref t_layers_h, .ref t_costs_h, .ref t_keys_h])), (t_settings_h, .inr (4, [.int t_settings_base, .int t_settings_slip, .int t_settings_low, .int t_settings_high, .int t_settings_unlike, .int t_settings_alone])), (t_costs_h, .inl (cI, 8, .inl t_costs_a)), (t_keys_h, .inl (cJ, 256, .inr (.inl u2)))] H → va_D A [(t_h, .inr (3, [.ref t_settings_h, .ref t_first_h, .ref t_second_h, .ref t_layers_h, .ref t_costs_h, .ref t_keys_h])), (t_settings_h, .inr (4, [.int t_settings_base, .int t_settings_slip, .int t_settings_low, .int t_settings_high, .int t_settings_unlike, .int t_settings_alone])), (t_costs_h, .inl (cI, 8, .inl t_costs_a)), (t_keys_h, .inl (cJ, 256, .inr (.inl u2)))] → va_S A s.heap H locs → lv_has ls 8 [(0, .ref t_h), (1, .int x1), (2, .int u1), (3, .long x269)] → W p l e rmX3_bringIn s m args below meth c H locs 0 0 Q (F0 m 125 ls []) := by
            intro x269 he H locs ls hP hD hS hl
            cases he
            refine lv_aload_n hx hb dX3_bringIn_125 rfl (lv_at hl 0 rfl) ?_
            refine va_get (D := G) (ci := 3) (v := .ref t_keys_h) (C := RX3) (T := TX3) (N := 6) hx hb hts iwX3 hown hK hP 0 rfl rfl 5 (by decide) fl_29 (fun _ h9 => h9) rfl dX3_bringIn_126 ?_
            refine lv_iload_n hx hb dX3_bringIn_129 rfl (lv_at hl 2 rfl) ?_
            refine lv_lload_n hx hb dX3_bringIn_130 rfl (lv_at hl 3 rfl) ?_
            obtain ⟨h27, hf⟩ := gd_some hf
            obtain ⟨a28, ea28⟩ : ∃ y : Nat → Int64, y = vp_updL u2 (Int32.toNatClampNeg u1) x26 := ⟨_, rfl⟩
            have hf := bv_at ea28 hf
            refine va_last hx hb hK hP hD hS 3 1 rfl rfl (bnd_in h27) dX3_bringIn_131 (fun H locs hP hD hS => ?_)
            have hP : va_P G vwCl [(t_h, .inr (3, [.ref t_settings_h, .ref t_first_h, .ref t_second_h, .ref t_layers_h, .ref t_costs_h, .ref t_keys_h])), (t_settings_h, .inr (4, [.int t_settings_base, .int t_settings_slip, .int t_settings_low, .int t_settings_high, .int t_settings_unlike, .int t_settings_alone])), (t_costs_h, .inl (cI, 8, .inl t_costs_a)), (t_keys_h, .inl (cJ, 256, .inr (.inl a28)))] H := by rw [ea28]; exact hP
            have hD : va_D A [(t_h, .inr (3, [.ref t_settings_h, .ref t_first_h, .ref t_second_h, .ref t_layers_h, .ref t_costs_h, .ref t_keys_h])), (t_settings_h, .inr (4, [.int t_settings_base, .int t_settings_slip, .int t_settings_low, .int t_settings_high, .int t_settings_unlike, .int t_settings_alone])), (t_costs_h, .inl (cI, 8, .inl t_costs_a)), (t_keys_h, .inl (cJ, 256, .inr (.inl a28)))] := by rw [ea28]; exact hD
            obtain ⟨v29, ev29⟩ : ∃ y : Int32, y = u1 + (-1) := ⟨_, rfl⟩
            have hf := bv_at ev29 hf
            refine lv_iinc (v := v29) (lv' := [(2, .int v29), (0, .ref t_h), (1, .int x1), (3, .long x26)]) hx hb dX3_bringIn_132 hl (k := 2) rfl (by rw [ev29]; rfl) (by decide) rfl (fun ls hl => ?_)
            refine lv_goto (tgt := 4) hx hb dX3_bringIn_135 (by decide) ?_
            cases hf
            exact ih _ _ hq _ _ _ hP hD hS (lv_sub hl [1, 2, 0] rfl)
          clear hf
          have hl2 : ∀ (n : Nat) (u11 : Int64) (u12 : Int32), it (fX3_bringIn_L2 u1 t_costs_a u2 x1) n (u11, u12) = some x26 → ∀ (H : Heap) (locs : List Loc) (ls : Array Slot), va_P G vwCl [(t_h, .inr (3, [.ref t_settings_h, .ref t_first_h, .ref t_second_h, .ref t_layers_h, .ref t_costs_h, .ref t_keys_h])), (t_settings_h, .inr (4, [.int t_settings_base, .int t_settings_slip, .int t_settings_low, .int t_settings_high, .int t_settings_unlike, .int t_settings_alone])), (t_costs_h, .inl (cI, 8, .inl t_costs_a)), (t_keys_h, .inl (cJ, 256, .inr (.inl u2)))] H → va_D A [(t_h, .inr (3, [.ref t_settings_h, .ref t_first_h, .ref t_second_h, .ref t_layers_h, .ref t_costs_h, .ref t_keys_h])), (t_settings_h, .inr (4, [.int t_settings_base, .int t_settings_slip, .int t_settings_low, .int t_settings_high, .int t_settings_unlike, .int t_settings_alone])), (t_costs_h, .inl (cI, 8, .inl t_costs_a)), (t_keys_h, .inl (cJ, 256, .inr (.inl u2)))] → va_S A s.heap H locs → lv_has ls 8 [(0, .ref t_h), (1, .int x1), (2, .int u1), (3, .long u11), (5, .int u12)] → W p l e rmX3_bringIn s m args below meth c H locs 0 0 Q (F0 m 40 ls []) := by
            intro n
            induction n with
            | zero => intro u11 u12 hz; exact (it_zero hz).elim
            | succ n ih =>
              intro u11 u12 hz H locs ls hP hD hS hl
              obtain ⟨x9, hf, hq⟩ := it_succ hz
              unfold fX3_bringIn_L2 at hf
              dsimp only [un2] at hf
              refine lv_iload hx hb dX3_bringIn_40 (lv_at hl 4 rfl) ?_
              refine lv_bipush (v := 8) hx hb dX3_bringIn_42 (by decide) ?_
              refine lv_icmp_ge (tgt := 125) hx hb dX3_bringIn_44 (by decide) (fun c13 => ?_) (fun c13 => ?_)
              · have hf := ift hf c13
                cases hf
                exact hx2_0 _ hq _ _ _ hP hD hS (lv_sub hl [0, 1, 2, 3] rfl)
              · have hf := iff_ hf c13
                refine lv_iload_n hx hb dX3_bringIn_47 rfl (lv_at hl 2 rfl) ?_
                refine lv_iconst (v := 1) hx hb dX3_bringIn_48 (by decide) ?_
                refine lv_iload hx hb dX3_bringIn_49 (lv_at hl 4 rfl) ?_
                refine lv_ishl hx hb dX3_bringIn_51 ?_
                refine lv_iand hx hb dX3_bringIn_52 ?_
                obtain ⟨m14, hr15, hf⟩ := ob_some hf
                have hj16 : ∀ (m149 : Int64), some m149 = some m14 → ∀ (H : Heap) (locs : List Loc) (ls : Array Slot), va_P G vwCl [(t_h, .inr (3, [.ref t_settings_h, .ref t_first_h, .ref t_second_h, .ref t_layers_h, .ref t_costs_h, .ref t_keys_h])), (t_settings_h, .inr (4, [.int t_settings_base, .int t_settings_slip, .int t_settings_low, .int t_settings_high, .int t_settings_unlike, .int t_settings_alone])), (t_costs_h, .inl (cI, 8, .inl t_costs_a)), (t_keys_h, .inl (cJ, 256, .inr (.inl u2)))] H → va_D A [(t_h, .inr (3, [.ref t_settings_h, .ref t_first_h, .ref t_second_h, .ref t_layers_h, .ref t_costs_h, .ref t_keys_h])), (t_settings_h, .inr (4, [.int t_settings_base, .int t_settings_slip, .int t_settings_low, .int t_settings_high, .int t_settings_unlike, .int t_settings_alone])), (t_costs_h, .inl (cI, 8, .inl t_costs_a)), (t_keys_h, .inl (cJ, 256, .inr (.inl u2)))] → va_S A s.heap H locs → lv_has ls 8 [(0, .ref t_h), (1, .int x1), (2, .int u1), (3, .long m149), (5, .int u12)] → W p l e rmX3_bringIn s m args below meth c H locs 0 0 Q (F0 m 119 ls []) := by
                  intro m149 he H locs ls hP hD hS hl
                  cases he
                  obtain ⟨v25, ev25⟩ : ∃ y : Int32, y = u12 + 1 := ⟨_, rfl⟩
                  have hf := bv_at ev25 hf
                  refine lv_iinc (v := v25) (lv' := [(5, .int v25), (0, .ref t_h), (1, .int x1), (2, .int u1), (3, .long m14)]) hx hb dX3_bringIn_119 hl (k := 4) rfl (by rw [ev25]; rfl) (by decide) rfl (fun ls hl => ?_)
                  refine lv_goto (tgt := 40) hx hb dX3_bringIn_122 (by decide) ?_
                  cases hf
                  exact ih _ _ hq _ _ _ hP hD hS (lv_sub hl [1, 2, 3, 4, 0] rfl)
                replace hf := hr15
                refine lv_if_eq (tgt := 119) hx hb dX3_bringIn_53 (by decide) (fun c17 => ?_) (fun c17 => ?_)
                · have hf := ift hf c17
                  exact hj16 _ hf _ _ _ hP hD hS (lv_sub hl [0, 1, 2, 3, 4] rfl)
                · have hf := iff_ hf c17
                  refine lv_aload_n hx hb dX3_bringIn_56 rfl (lv_at hl 0 rfl) ?_
                  refine va_get (D := G) (ci := 3) (v := .ref t_costs_h) (C := RX3) (T := TX3) (N := 6) hx hb hts iwX3 hown hK hP 0 rfl rfl 4 (by decide) fl_25 (fun _ h9 => h9) rfl dX3_bringIn_57 ?_
                  refine lv_iload hx hb dX3_bringIn_60 (lv_at hl 4 rfl) ?_
                  obtain ⟨h18, hf⟩ := gd_some hf
                  refine va_iald hx hb hK hP 2 0 rfl rfl (bnd_in h18) dX3_bringIn_62 ?_
                  refine lv_iconst (v := (-1)) hx hb dX3_bringIn_63 (by decide) ?_
                  refine lv_icmp_ne (tgt := 70) hx hb dX3_bringIn_64 (by decide) (fun c19 => ?_) (fun c19 => ?_)
                  · have hf := iff_ hf c19
                    refine lv_aload_n hx hb dX3_bringIn_70 rfl (lv_at hl 0 rfl) ?_
                    refine va_get (D := G) (ci := 3) (v := .ref t_keys_h) (C := RX3) (T := TX3) (N := 6) hx hb hts iwX3 hown hK hP 0 rfl rfl 5 (by decide) fl_29 (fun _ h9 => h9) rfl dX3_bringIn_71 ?_
                    refine lv_iload_n hx hb dX3_bringIn_74 rfl (lv_at hl 2 rfl) ?_
                    refine lv_iconst (v := 1) hx hb dX3_bringIn_75 (by decide) ?_
                    refine lv_iload hx hb dX3_bringIn_76 (lv_at hl 4 rfl) ?_
                    refine lv_ishl hx hb dX3_bringIn_78 ?_
                    refine lv_ixor hx hb dX3_bringIn_79 ?_
                    obtain ⟨h20, hf⟩ := gd_some hf
                    refine va_lald hx hb hK hP 3 1 rfl rfl (bnd_in h20) dX3_bringIn_80 ?_
                    refine lv_topl (fun v21 ev21 => ?_)
                    have hf := bv_at ev21 hf
                    refine lv_lstore (lv' := [(6, .long v21), (0, .ref t_h), (1, .int x1), (2, .int u1), (3, .long u11), (5, .int u12)]) hx hb dX3_bringIn_81 hl (by decide) rfl (fun ls hl => ?_)
                    refine lv_lload hx hb dX3_bringIn_83 (lv_at hl 0 rfl) ?_
                    refine lv_ldc2 (v := 1152921504606846976) hx hb hown kc_73 dX3_bringIn_85 ?_
                    refine W.lcmp hx hb dX3_bringIn_88 ?_
                    refine lv_if_eq (tgt := 119) hx hb dX3_bringIn_89 (by decide) (fun c22 => ?_) (fun c22 => ?_)
                    · have hf := ift hf c22
                      exact hj16 _ hf _ _ _ hP hD hS (lv_sub hl [1, 2, 3, 4, 5] rfl)
                    · have hf := iff_ hf c22
                      refine lv_lload_n hx hb dX3_bringIn_92 rfl (lv_at hl 4 rfl) ?_
                      refine lv_lload hx hb dX3_bringIn_93 (lv_at hl 0 rfl) ?_
                      refine lv_aload_n hx hb dX3_bringIn_95 rfl (lv_at hl 1 rfl) ?_
                      refine va_get (D := G) (ci := 3) (v := .ref t_costs_h) (C := RX3) (T := TX3) (N := 6) hx hb hts iwX3 hown hK hP 0 rfl rfl 4 (by decide) fl_25 (fun _ h9 => h9) rfl dX3_bringIn_96 ?_
                      refine lv_iload hx hb dX3_bringIn_99 (lv_at hl 5 rfl) ?_
                      obtain ⟨h23, hf⟩ := gd_some hf
                      refine va_iald hx hb hK hP 2 0 rfl rfl (bnd_in h23) dX3_bringIn_101 ?_
                      refine lv_i2l (v := Int32.toInt64 (t_costs_a (Int32.toNatClampNeg u12))) hx hb dX3_bringIn_102 rfl ?_
                      refine lv_bipush (v := 32) hx hb dX3_bringIn_103 (by decide) ?_
                      refine lv_lshl (v := (Int32.toInt64 (t_costs_a (Int32.toNatClampNeg u12))) <<< (Int32.toInt64 32 &&& 63)) hx hb dX3_bringIn_105 rfl ?_
                      refine lv_ladd hx hb dX3_bringIn_106 ?_
                      refine lv_iload hx hb dX3_bringIn_107 (lv_at hl 5 rfl) ?_
                      refine lv_i2l (v := Int32.toInt64 u12) hx hb dX3_bringIn_109 rfl ?_
                      refine lv_lconst (v := 1) hx hb dX3_bringIn_110 (by decide) ?_
                      refine lv_ladd hx hb dX3_bringIn_111 ?_
                      refine lv_iload_n hx hb dX3_bringIn_112 rfl (lv_at hl 2 rfl) ?_
                      refine lv_lshl (v := ((Int32.toInt64 u12) + 1) <<< (Int32.toInt64 x1 &&& 63)) hx hb dX3_bringIn_113 rfl ?_
                      refine lv_ladd hx hb dX3_bringIn_114 ?_
                      refine va_mmin_long hx hb (hml.trans hl.1.symm) hown lb_92 lbs_92 lbi_92 lbc_92 (Nat.le_of_ble_eq_true rfl) (Nat.le_of_ble_eq_true rfl) (Nat.zero_le _) (Nat.zero_le _) dX3_bringIn_115 ?_
                      refine lv_topl (fun v24 ev24 => ?_)
                      have hf := bv_at ev24 hf
                      refine lv_lstore_n (lv' := [(3, .long v24), (6, .long v21), (0, .ref t_h), (1, .int x1), (2, .int u1), (5, .int u12)]) hx hb dX3_bringIn_118 rfl hl (by decide) rfl (fun ls hl => ?_)
                      exact hj16 _ hf _ _ _ hP hD hS (lv_sub hl [2, 3, 4, 0, 5] rfl)
                  · have hf := ift hf c19
                    refine lv_goto (tgt := 119) hx hb dX3_bringIn_67 (by decide) ?_
                    exact hj16 _ hf _ _ _ hP hD hS (lv_sub hl [0, 1, 2, 3, 4] rfl)
          exact hl2 _ _ _ ht2 _ _ _ hP hD hS (lv_sub hl [1, 2, 3, 4, 0] rfl)
        replace hf := hr7
        refine lv_if_eq (tgt := 37) hx hb dX3_bringIn_20 (by decide) (fun c9 => ?_) (fun c9 => ?_)
        · have hf := ift hf c9
          exact hj8 _ hf _ _ _ hP hD hS (lv_sub hl [1, 2, 3, 0] rfl)
        · have hf := iff_ hf c9
          refine lv_lload_n hx hb dX3_bringIn_23 rfl (lv_at hl 0 rfl) ?_
          refine lv_aload_n hx hb dX3_bringIn_24 rfl (lv_at hl 1 rfl) ?_
          refine va_get (D := G) (ci := 3) (v := .ref t_settings_h) (C := RX3) (T := TX3) (N := 6) hx hb hts iwX3 hown hK hP 0 rfl rfl 0 (by decide) fl_9 (fun _ h9 => h9) rfl dX3_bringIn_25 ?_
          refine va_getN (D := G) (ci := 4) (v := .int t_settings_alone) (C := RX4) (T := TX4) (N := 6) hx hb hts iwX4 hown hK hP 1 rfl rfl 5 (by decide) fl_89 (fun _ h9 => h9) rfl dX3_bringIn_28 ?_
          refine lv_i2l (v := Int32.toInt64 t_settings_alone) hx hb dX3_bringIn_31 rfl ?_
          refine lv_bipush (v := 32) hx hb dX3_bringIn_32 (by decide) ?_
          refine lv_lshl (v := (Int32.toInt64 t_settings_alone) <<< (Int32.toInt64 32 &&& 63)) hx hb dX3_bringIn_34 rfl ?_
          refine lv_ladd hx hb dX3_bringIn_35 ?_
          refine lv_topl (fun v10 ev10 => ?_)
          have hf := bv_at ev10 hf
          refine lv_lstore_n (lv' := [(3, .long v10), (0, .ref t_h), (1, .int x1), (2, .int u1)]) hx hb dX3_bringIn_36 rfl hl (by decide) rfl (fun ls hl => ?_)
          exact hj8 _ hf _ _ _ hP hD hS (lv_sub hl [1, 2, 3, 0] rfl)
  exact hl1 _ _ _ ht1 _ _ _ hP hD hS (lv_sub hl [1, 2, 0] rfl)
set_option maxRecDepth 20000 in
theorem ggX3_fillCosts_X7_size : GoodIn wsX3_fillCosts wsX7_size := goodIn_r _ [7, 8, 42, 43, 44, 45] (by decide +kernel) (by decide +kernel)
set_option maxRecDepth 20000 in
theorem gX3_fillCosts_X7_size : GoodIn wsX3_fillCosts (wsV RX3 60 RX7 yX7_size wsX7_size) := goodIn_app (goodIn_of _ (by decide +kernel)) ggX3_fillCosts_X7_size
set_option maxRecDepth 20000 in
theorem ggX3_fillCosts_X3_costOf : GoodIn wsX3_fillCosts wsX3_costOf := goodIn_r _ [13, 14, 2, 15, 16, 17, 18, 19, 6, 20, 21, 22, 23, 24, 25, 12, 26, 27, 28, 29, 30, 31, 32, 33, 34, 35, 3, 4, 5, 7, 8, 36, 37, 38, 39, 40, 41, 46, 47, 48, 49, 50, 51, 42, 43, 44, 45] (by decide +kernel) (by decide +kernel)
set_option maxRecDepth 20000 in
theorem gX3_fillCosts_X3_costOf : GoodIn wsX3_fillCosts (wsV RX3 86 RX3 yX3_costOf wsX3_costOf) := goodIn_app (goodIn_of _ (by decide +kernel)) ggX3_fillCosts_X3_costOf
theorem dX3_fillCosts_0 : decode cX3_fillCosts 0 = .ok (.iconst 0, 1) := by decide +kernel
theorem dX3_fillCosts_1 : decode cX3_fillCosts 1 = .ok (.istore_n 2, 1) := by decide +kernel
theorem dX3_fillCosts_2 : decode cX3_fillCosts 2 = .ok (.iload_n 2, 1) := by decide +kernel
theorem dX3_fillCosts_3 : decode cX3_fillCosts 3 = .ok (.bipush 8, 2) := by decide +kernel
theorem dX3_fillCosts_5 : decode cX3_fillCosts 5 = .ok (.if_icmp .ge 36, 3) := by decide +kernel
theorem dX3_fillCosts_8 : decode cX3_fillCosts 8 = .ok (.aload_n 0, 1) := by decide +kernel
theorem dX3_fillCosts_9 : decode cX3_fillCosts 9 = .ok (.getfield 25, 3) := by decide +kernel
theorem dX3_fillCosts_12 : decode cX3_fillCosts 12 = .ok (.iload_n 2, 1) := by decide +kernel
theorem dX3_fillCosts_13 : decode cX3_fillCosts 13 = .ok (.iload_n 2, 1) := by decide +kernel
theorem dX3_fillCosts_14 : decode cX3_fillCosts 14 = .ok (.aload_n 0, 1) := by decide +kernel
theorem dX3_fillCosts_15 : decode cX3_fillCosts 15 = .ok (.getfield 19, 3) := by decide +kernel
theorem dX3_fillCosts_18 : decode cX3_fillCosts 18 = .ok (.invokevirtual 60, 3) := by decide +kernel
theorem dX3_fillCosts_21 : decode cX3_fillCosts 21 = .ok (.if_icmp .ge 12, 3) := by decide +kernel
theorem dX3_fillCosts_24 : decode cX3_fillCosts 24 = .ok (.aload_n 0, 1) := by decide +kernel
theorem dX3_fillCosts_25 : decode cX3_fillCosts 25 = .ok (.iload_n 1, 1) := by decide +kernel
theorem dX3_fillCosts_26 : decode cX3_fillCosts 26 = .ok (.iload_n 2, 1) := by decide +kernel
theorem dX3_fillCosts_27 : decode cX3_fillCosts 27 = .ok (.invokevirtual 86, 3) := by decide +kernel
theorem dX3_fillCosts_30 : decode cX3_fillCosts 30 = .ok (.goto 4, 3) := by decide +kernel
theorem dX3_fillCosts_33 : decode cX3_fillCosts 33 = .ok (.iconst (-1), 1) := by decide +kernel
theorem dX3_fillCosts_34 : decode cX3_fillCosts 34 = .ok (.iastore, 1) := by decide +kernel
theorem dX3_fillCosts_35 : decode cX3_fillCosts 35 = .ok (.iinc 2 1, 3) := by decide +kernel
theorem dX3_fillCosts_38 : decode cX3_fillCosts 38 = .ok (.goto (-36), 3) := by decide +kernel
theorem dX3_fillCosts_41 : decode cX3_fillCosts 41 = .ok (.return_, 1) := by decide +kernel
set_option maxRecDepth 100000 in
def fX3_fillCosts_L1 (t_second_lines : Int32) (x1 : Int32) (t_settings_base : Int32) (t_settings_low : Int32) (t_settings_high : Int32) (t_settings_unlike : Int32) (t_first_width : Int32) (t_second_width : Int32) (t_layers_width : Int32) (t_layers_lines : Int32) (t_first_cells_n : Nat) (t_first_cells_a : Nat → Int32) (t_second_cells_n : Nat) (t_second_cells_a : Nat → Int32) (t_layers_cells_n : Nat) (t_layers_cells_a : Nat → Int32) : (Int32 × (Nat → Int32)) → Option (((Nat → Int32)) ⊕ (Int32 × (Nat → Int32))) := un2 fun (u1 : Int32) (u2 : Nat → Int32) =>
  if 8 ≤ u1 then
    some (.inl u2)
  else
    ob (fX7_size t_second_lines) fun r4 =>
    ob (α := Int32) (
        if r4 ≤ u1 then
          some (-1)
        else
          ob (fX3_costOf x1 u1 t_settings_base t_settings_low t_settings_high t_settings_unlike t_first_width t_second_width t_layers_width t_layers_lines t_first_cells_n t_first_cells_a t_second_cells_n t_second_cells_a t_layers_cells_n t_layers_cells_a) fun r10 =>
          some r10
      ) fun m6 =>
    gd (bnd u1 8) <|
    bv (upd u2 (Int32.toNatClampNeg u1) m6) fun a13 =>
    bv (u1 + 1) fun v14 =>
    some (.inr (v14, a13))
set_option maxRecDepth 100000 in
def fX3_fillCosts (x1 : Int32) (t_settings_base : Int32) (t_settings_low : Int32) (t_settings_high : Int32) (t_settings_unlike : Int32) (t_first_width : Int32) (t_second_width : Int32) (t_second_lines : Int32) (t_layers_width : Int32) (t_layers_lines : Int32) (t_costs_a : Nat → Int32) (t_first_cells_n : Nat) (t_first_cells_a : Nat → Int32) (t_second_cells_n : Nat) (t_second_cells_a : Nat → Int32) (t_layers_cells_n : Nat) (t_layers_cells_a : Nat → Int32) : Option ((Nat → Int32)) :=
  ob (it (fX3_fillCosts_L1 t_second_lines x1 t_settings_base t_settings_low t_settings_high t_settings_unlike t_first_width t_second_width t_layers_width t_layers_lines t_first_cells_n t_first_cells_a t_second_cells_n t_second_cells_a t_layers_cells_n t_layers_cells_a) 100000 (0, t_costs_a)) fun x15 =>
  some x15
abbrev rmX3_fillCosts : Room := { frames := 3, cells := 0, slots := 0, locals := 73 }
theorem iwX3_fillCosts_X3 : ∀ w ∈ u_ws RX3 TX3 6, w ∈ wsX3_fillCosts := by decide +kernel
set_option maxHeartbeats 4000000 in
set_option maxRecDepth 100000 in
theorem k_X3_fillCosts (l : Launch) (G : va_G) (cI cJ : ClassId) (t_h t_settings_h t_first_h t_second_h t_layers_h t_costs_h t_keys_h t_first_cells_h t_second_cells_h t_layers_cells_h : Nat) (sz : Nat) (t_settings_base : Int32) (t_settings_slip : Int32) (t_settings_low : Int32) (t_settings_high : Int32) (t_settings_unlike : Int32) (t_settings_alone : Int32) (t_first_width : Int32) (t_first_most : Int32) (t_first_lines : Int32) (t_second_width : Int32) (t_second_most : Int32) (t_second_lines : Int32) (t_layers_width : Int32) (t_layers_most : Int32) (t_layers_lines : Int32) (t_costs_a : Nat → Int32) (t_first_cells_n : Nat) (t_first_cells_a : Nat → Int32) (t_second_cells_n : Nat) (t_second_cells_a : Nat → Int32) (t_layers_cells_n : Nat) (t_layers_cells_a : Nat → Int32) (x1 : Int32) {o_t_costs_a : Nat → Int32} (hf : fX3_fillCosts x1 t_settings_base t_settings_low t_settings_high t_settings_unlike t_first_width t_second_width t_second_lines t_layers_width t_layers_lines t_costs_a t_first_cells_n t_first_cells_a t_second_cells_n t_second_cells_a t_layers_cells_n t_layers_cells_a = some o_t_costs_a) : MetU l yX3_fillCosts wsX3_fillCosts rmX3_fillCosts [.ref t_h, .int x1] G cI cJ [(t_h, .inr (3, [.ref t_settings_h, .ref t_first_h, .ref t_second_h, .ref t_layers_h, .ref t_costs_h, .ref t_keys_h])), (t_settings_h, .inr (4, [.int t_settings_base, .int t_settings_slip, .int t_settings_low, .int t_settings_high, .int t_settings_unlike, .int t_settings_alone])), (t_first_h, .inr (7, [.int t_first_width, .int t_first_most, .ref t_first_cells_h, .int t_first_lines])), (t_second_h, .inr (7, [.int t_second_width, .int t_second_most, .ref t_second_cells_h, .int t_second_lines])), (t_layers_h, .inr (7, [.int t_layers_width, .int t_layers_most, .ref t_layers_cells_h, .int t_layers_lines])), (t_costs_h, .inl (cI, 8, .inl t_costs_a)), (t_first_cells_h, .inl (cI, t_first_cells_n, .inl t_first_cells_a)), (t_second_cells_h, .inl (cI, t_second_cells_n, .inl t_second_cells_a)), (t_layers_cells_h, .inl (cI, t_layers_cells_n, .inl t_layers_cells_a))] [(t_h, .inr (3, [.ref t_settings_h, .ref t_first_h, .ref t_second_h, .ref t_layers_h, .ref t_costs_h, .ref t_keys_h])), (t_settings_h, .inr (4, [.int t_settings_base, .int t_settings_slip, .int t_settings_low, .int t_settings_high, .int t_settings_unlike, .int t_settings_alone])), (t_first_h, .inr (7, [.int t_first_width, .int t_first_most, .ref t_first_cells_h, .int t_first_lines])), (t_second_h, .inr (7, [.int t_second_width, .int t_second_most, .ref t_second_cells_h, .int t_second_lines])), (t_layers_h, .inr (7, [.int t_layers_width, .int t_layers_most, .ref t_layers_cells_h, .int t_layers_lines])), (t_costs_h, .inl (cI, 8, .inl o_t_costs_a)), (t_first_cells_h, .inl (cI, t_first_cells_n, .inl t_first_cells_a)), (t_second_cells_h, .inl (cI, t_second_cells_n, .inl t_second_cells_a)), (t_layers_cells_h, .inl (cI, t_layers_cells_n, .inl t_layers_cells_a))] sz := by
  refine en_0 (l := l) (y := yX3_fillCosts) (wsl := wsX3_fillCosts) (rm := rmX3_fillCosts) (av := [.ref t_h, .int x1]) (G := G) (cI := cI) (cJ := cJ) (w0 := [(t_h, .inr (3, [.ref t_settings_h, .ref t_first_h, .ref t_second_h, .ref t_layers_h, .ref t_costs_h, .ref t_keys_h])), (t_settings_h, .inr (4, [.int t_settings_base, .int t_settings_slip, .int t_settings_low, .int t_settings_high, .int t_settings_unlike, .int t_settings_alone])), (t_first_h, .inr (7, [.int t_first_width, .int t_first_most, .ref t_first_cells_h, .int t_first_lines])), (t_second_h, .inr (7, [.int t_second_width, .int t_second_most, .ref t_second_cells_h, .int t_second_lines])), (t_layers_h, .inr (7, [.int t_layers_width, .int t_layers_most, .ref t_layers_cells_h, .int t_layers_lines])), (t_costs_h, .inl (cI, 8, .inl t_costs_a)), (t_first_cells_h, .inl (cI, t_first_cells_n, .inl t_first_cells_a)), (t_second_cells_h, .inl (cI, t_second_cells_n, .inl t_second_cells_a)), (t_layers_cells_h, .inl (cI, t_layers_cells_n, .inl t_layers_cells_a))]) (sz := sz) (Qf := fun A => Qv0 G cI cJ [(t_h, .inr (3, [.ref t_settings_h, .ref t_first_h, .ref t_second_h, .ref t_layers_h, .ref t_costs_h, .ref t_keys_h])), (t_settings_h, .inr (4, [.int t_settings_base, .int t_settings_slip, .int t_settings_low, .int t_settings_high, .int t_settings_unlike, .int t_settings_alone])), (t_first_h, .inr (7, [.int t_first_width, .int t_first_most, .ref t_first_cells_h, .int t_first_lines])), (t_second_h, .inr (7, [.int t_second_width, .int t_second_most, .ref t_second_cells_h, .int t_second_lines])), (t_layers_h, .inr (7, [.int t_layers_width, .int t_layers_most, .ref t_layers_cells_h, .int t_layers_lines])), (t_costs_h, .inl (cI, 8, .inl o_t_costs_a)), (t_first_cells_h, .inl (cI, t_first_cells_n, .inl t_first_cells_a)), (t_second_cells_h, .inl (cI, t_second_cells_n, .inl t_second_cells_a)), (t_layers_cells_h, .inl (cI, t_layers_cells_n, .inl t_layers_cells_a))] A) (cc := cX3_fillCosts) (maxL := 3) (ret := none) RX3 (by decide +kernel) rfl rfl (Nat.le_of_ble_eq_true rfl) ?_
  intro p e s m args below meth c A ls Q hQ hx hb hr hts hown hlocks hml hN hK hP hD hS hA hl
  have hl : lv_has ls 3 [(0, .ref t_h), (1, .int x1)] := hl
  have iwX3 := iwX3_fillCosts_X3
  have fl_19 := hts (.fieldLink RX3 19 "CloudOffice$Matching" "second" "LCloudOffice$Table;") (by decide +kernel)
  have fl_25 := hts (.fieldLink RX3 25 "CloudOffice$Matching" "costs" "[I") (by decide +kernel)
  have hret : ∀ (o_t_costs_a9 : Nat → Int32) (pc : Nat) (H : Heap) (locs : List Loc) (ls : Array Slot), decode cX3_fillCosts pc = .ok (.return_, 1) → some o_t_costs_a9 = some o_t_costs_a → va_P G vwCl [(t_h, .inr (3, [.ref t_settings_h, .ref t_first_h, .ref t_second_h, .ref t_layers_h, .ref t_costs_h, .ref t_keys_h])), (t_settings_h, .inr (4, [.int t_settings_base, .int t_settings_slip, .int t_settings_low, .int t_settings_high, .int t_settings_unlike, .int t_settings_alone])), (t_first_h, .inr (7, [.int t_first_width, .int t_first_most, .ref t_first_cells_h, .int t_first_lines])), (t_second_h, .inr (7, [.int t_second_width, .int t_second_most, .ref t_second_cells_h, .int t_second_lines])), (t_layers_h, .inr (7, [.int t_layers_width, .int t_layers_most, .ref t_layers_cells_h, .int t_layers_lines])), (t_costs_h, .inl (cI, 8, .inl o_t_costs_a9)), (t_first_cells_h, .inl (cI, t_first_cells_n, .inl t_first_cells_a)), (t_second_cells_h, .inl (cI, t_second_cells_n, .inl t_second_cells_a)), (t_layers_cells_h, .inl (cI, t_layers_cells_n, .inl t_layers_cells_a))] H → va_D A [(t_h, .inr (3, [.ref t_settings_h, .ref t_first_h, .ref t_second_h, .ref t_layers_h, .ref t_costs_h, .ref t_keys_h])), (t_settings_h, .inr (4, [.int t_settings_base, .int t_settings_slip, .int t_settings_low, .int t_settings_high, .int t_settings_unlike, .int t_settings_alone])), (t_first_h, .inr (7, [.int t_first_width, .int t_first_most, .ref t_first_cells_h, .int t_first_lines])), (t_second_h, .inr (7, [.int t_second_width, .int t_second_most, .ref t_second_cells_h, .int t_second_lines])), (t_layers_h, .inr (7, [.int t_layers_width, .int t_layers_most, .ref t_layers_cells_h, .int t_layers_lines])), (t_costs_h, .inl (cI, 8, .inl o_t_costs_a9)), (t_first_cells_h, .inl (cI, t_first_cells_n, .inl t_first_cells_a)), (t_second_cells_h, .inl (cI, t_second_cells_n, .inl t_second_cells_a)), (t_layers_cells_h, .inl (cI, t_layers_cells_n, .inl t_layers_cells_a))] → va_S A s.heap H locs → W p l e rmX3_fillCosts s m args below meth c H locs 0 0 Q (F0 m pc ls []) := by
    intro o_t_costs_a9 pc H locs ls hdg he hP hD hS
    cases he
    subst hQ
    exact rt_v hx hb hr hlocks hK hP hD hS hdg
  clear hQ
  unfold fX3_fillCosts at hf
  refine lv_iconst (v := 0) hx hb dX3_fillCosts_0 (by decide) ?_
  refine lv_istore_n (lv' := [(2, .int 0), (0, .ref t_h), (1, .int x1)]) hx hb dX3_fillCosts_1 rfl hl (by decide) rfl (fun ls hl => ?_)
  obtain ⟨x15, ht1, hf⟩ := ob_some hf
  have hx1_0 : ∀ (x159 : Nat → Int32), x159 = x15 → ∀ (H : Heap) (locs : List Loc) (ls : Array Slot), va_P G vwCl [(t_h, .inr (3, [.ref t_settings_h, .ref t_first_h, .ref t_second_h, .ref t_layers_h, .ref t_costs_h, .ref t_keys_h])), (t_settings_h, .inr (4, [.int t_settings_base, .int t_settings_slip, .int t_settings_low, .int t_settings_high, .int t_settings_unlike, .int t_settings_alone])), (t_first_h, .inr (7, [.int t_first_width, .int t_first_most, .ref t_first_cells_h, .int t_first_lines])), (t_second_h, .inr (7, [.int t_second_width, .int t_second_most, .ref t_second_cells_h, .int t_second_lines])), (t_layers_h, .inr (7, [.int t_layers_width, .int t_layers_most, .ref t_layers_cells_h, .int t_layers_lines])), (t_costs_h, .inl (cI, 8, .inl x159)), (t_first_cells_h, .inl (cI, t_first_cells_n, .inl t_first_cells_a)), (t_second_cells_h, .inl (cI, t_second_cells_n, .inl t_second_cells_a)), (t_layers_cells_h, .inl (cI, t_layers_cells_n, .inl t_layers_cells_a))] H → va_D A [(t_h, .inr (3, [.ref t_settings_h, .ref t_first_h, .ref t_second_h, .ref t_layers_h, .ref t_costs_h, .ref t_keys_h])), (t_settings_h, .inr (4, [.int t_settings_base, .int t_settings_slip, .int t_settings_low, .int t_settings_high, .int t_settings_unlike, .int t_settings_alone])), (t_first_h, .inr (7, [.int t_first_width, .int t_first_most, .ref t_first_cells_h, .int t_first_lines])), (t_second_h, .inr (7, [.int t_second_width, .int t_second_most, .ref t_second_cells_h, .int t_second_lines])), (t_layers_h, .inr (7, [.int t_layers_width, .int t_layers_most, .ref t_layers_cells_h, .int t_layers_lines])), (t_costs_h, .inl (cI, 8, .inl x159)), (t_first_cells_h, .inl (cI, t_first_cells_n, .inl t_first_cells_a)), (t_second_cells_h, .inl (cI, t_second_cells_n, .inl t_second_cells_a)), (t_layers_cells_h, .inl (cI, t_layers_cells_n, .inl t_layers_cells_a))] → va_S A s.heap H locs → lv_has ls 3 [] → W p l e rmX3_fillCosts s m args below meth c H locs 0 0 Q (F0 m 41 ls []) := by
    intro x159 he H locs ls hP hD hS hl
    cases he
    exact hret x15 41 _ _ _ dX3_fillCosts_41 hf hP hD hS
  clear hf
  have hl1 : ∀ (n : Nat) (u1 : Int32) (u2 : Nat → Int32), it (fX3_fillCosts_L1 t_second_lines x1 t_settings_base t_settings_low t_settings_high t_settings_unlike t_first_width t_second_width t_layers_width t_layers_lines t_first_cells_n t_first_cells_a t_second_cells_n t_second_cells_a t_layers_cells_n t_layers_cells_a) n (u1, u2) = some x15 → ∀ (H : Heap) (locs : List Loc) (ls : Array Slot), va_P G vwCl [(t_h, .inr (3, [.ref t_settings_h, .ref t_first_h, .ref t_second_h, .ref t_layers_h, .ref t_costs_h, .ref t_keys_h])), (t_settings_h, .inr (4, [.int t_settings_base, .int t_settings_slip, .int t_settings_low, .int t_settings_high, .int t_settings_unlike, .int t_settings_alone])), (t_first_h, .inr (7, [.int t_first_width, .int t_first_most, .ref t_first_cells_h, .int t_first_lines])), (t_second_h, .inr (7, [.int t_second_width, .int t_second_most, .ref t_second_cells_h, .int t_second_lines])), (t_layers_h, .inr (7, [.int t_layers_width, .int t_layers_most, .ref t_layers_cells_h, .int t_layers_lines])), (t_costs_h, .inl (cI, 8, .inl u2)), (t_first_cells_h, .inl (cI, t_first_cells_n, .inl t_first_cells_a)), (t_second_cells_h, .inl (cI, t_second_cells_n, .inl t_second_cells_a)), (t_layers_cells_h, .inl (cI, t_layers_cells_n, .inl t_layers_cells_a))] H → va_D A [(t_h, .inr (3, [.ref t_settings_h, .ref t_first_h, .ref t_second_h, .ref t_layers_h, .ref t_costs_h, .ref t_keys_h])), (t_settings_h, .inr (4, [.int t_settings_base, .int t_settings_slip, .int t_settings_low, .int t_settings_high, .int t_settings_unlike, .int t_settings_alone])), (t_first_h, .inr (7, [.int t_first_width, .int t_first_most, .ref t_first_cells_h, .int t_first_lines])), (t_second_h, .inr (7, [.int t_second_width, .int t_second_most, .ref t_second_cells_h, .int t_second_lines])), (t_layers_h, .inr (7, [.int t_layers_width, .int t_layers_most, .ref t_layers_cells_h, .int t_layers_lines])), (t_costs_h, .inl (cI, 8, .inl u2)), (t_first_cells_h, .inl (cI, t_first_cells_n, .inl t_first_cells_a)), (t_second_cells_h, .inl (cI, t_second_cells_n, .inl t_second_cells_a)), (t_layers_cells_h, .inl (cI, t_layers_cells_n, .inl t_layers_cells_a))] → va_S A s.heap H locs → lv_has ls 3 [(0, .ref t_h), (1, .int x1), (2, .int u1)] → W p l e rmX3_fillCosts s m args below meth c H locs 0 0 Q (F0 m 2 ls []) := by
    intro n
    induction n with
    | zero => intro u1 u2 hz; exact (it_zero hz).elim
    | succ n ih =>
      intro u1 u2 hz H locs ls hP hD hS hl
      obtain ⟨x9, hf, hq⟩ := it_succ hz
      unfold fX3_fillCosts_L1 at hf
      dsimp only [un2] at hf
      refine lv_iload_n hx hb dX3_fillCosts_2 rfl (lv_at hl 2 rfl) ?_
      refine lv_bipush (v := 8) hx hb dX3_fillCosts_3 (by decide) ?_
      refine lv_icmp_ge (tgt := 41) hx hb dX3_fillCosts_5 (by decide) (fun c3 => ?_) (fun c3 => ?_)
      · have hf := ift hf c3
        cases hf
        exact hx1_0 _ hq _ _ _ hP hD hS (lv_sub hl [] rfl)
      · have hf := iff_ hf c3
        refine lv_aload_n hx hb dX3_fillCosts_8 rfl (lv_at hl 0 rfl) ?_
        refine va_get (D := G) (ci := 3) (v := .ref t_costs_h) (C := RX3) (T := TX3) (N := 6) hx hb hts iwX3 hown hK hP 0 rfl rfl 4 (by decide) fl_25 (fun _ h9 => h9) rfl dX3_fillCosts_9 ?_
        refine lv_iload_n hx hb dX3_fillCosts_12 rfl (lv_at hl 2 rfl) ?_
        refine lv_iload_n hx hb dX3_fillCosts_13 rfl (lv_at hl 2 rfl) ?_
        refine lv_aload_n hx hb dX3_fillCosts_14 rfl (lv_at hl 0 rfl) ?_
        refine va_get (D := G) (ci := 3) (v := .ref t_second_h) (C := RX3) (T := TX3) (N := 6) hx hb hts iwX3 hown hK hP 0 rfl rfl 2 (by decide) fl_19 (fun _ h9 => h9) rfl dX3_fillCosts_15 ?_
        obtain ⟨r4, hc5, hf⟩ := ob_some hf
        refine af_iR (va_runV (As := []) (rest := [.int u1, .int u1, .ref t_costs_h]) ⟨hx, hb, hml, hown, hts⟩ (k_X7_size l G cI cJ (t_h := t_second_h) (t_cells_h := t_second_cells_h) (t_width := t_second_width) (t_most := t_second_most) (t_lines := t_second_lines) (sz := _) (hf := hc5)) (cwV 0 hts gX3_fillCosts_X7_size rfl rfl rfl (by decide +kernel) ⟨Nat.le_of_ble_eq_true rfl, Nat.le_of_ble_eq_true rfl⟩) (preV0 (ci := 7) (q0 := 0) (C := RX7) (wc := [(t_second_h, .inr (7, [.int t_second_width, .int t_second_most, .ref t_second_cells_h, .int t_second_lines]))]) hK hP hD hN [3] rfl rfl (by decide) rfl rfl) rfl rfl hl.1 rfl (lv_room (Nat.le_of_ble_eq_true rfl)) dX3_fillCosts_18 ⟨Nat.zero_le _, Nat.zero_le _⟩) hP hD hS hA [3] rfl (fun H locs hP hS => ?_)
        obtain ⟨m6, hr7, hf⟩ := ob_some hf
        have hj8 : ∀ (m69 : Int32), some m69 = some m6 → ∀ (H : Heap) (locs : List Loc) (ls : Array Slot), va_P G vwCl [(t_h, .inr (3, [.ref t_settings_h, .ref t_first_h, .ref t_second_h, .ref t_layers_h, .ref t_costs_h, .ref t_keys_h])), (t_settings_h, .inr (4, [.int t_settings_base, .int t_settings_slip, .int t_settings_low, .int t_settings_high, .int t_settings_unlike, .int t_settings_alone])), (t_first_h, .inr (7, [.int t_first_width, .int t_first_most, .ref t_first_cells_h, .int t_first_lines])), (t_second_h, .inr (7, [.int t_second_width, .int t_second_most, .ref t_second_cells_h, .int t_second_lines])), (t_layers_h, .inr (7, [.int t_layers_width, .int t_layers_most, .ref t_layers_cells_h, .int t_layers_lines])), (t_costs_h, .inl (cI, 8, .inl u2)), (t_first_cells_h, .inl (cI, t_first_cells_n, .inl t_first_cells_a)), (t_second_cells_h, .inl (cI, t_second_cells_n, .inl t_second_cells_a)), (t_layers_cells_h, .inl (cI, t_layers_cells_n, .inl t_layers_cells_a))] H → va_D A [(t_h, .inr (3, [.ref t_settings_h, .ref t_first_h, .ref t_second_h, .ref t_layers_h, .ref t_costs_h, .ref t_keys_h])), (t_settings_h, .inr (4, [.int t_settings_base, .int t_settings_slip, .int t_settings_low, .int t_settings_high, .int t_settings_unlike, .int t_settings_alone])), (t_first_h, .inr (7, [.int t_first_width, .int t_first_most, .ref t_first_cells_h, .int t_first_lines])), (t_second_h, .inr (7, [.int t_second_width, .int t_second_most, .ref t_second_cells_h, .int t_second_lines])), (t_layers_h, .inr (7, [.int t_layers_width, .int t_layers_most, .ref t_layers_cells_h, .int t_layers_lines])), (t_costs_h, .inl (cI, 8, .inl u2)), (t_first_cells_h, .inl (cI, t_first_cells_n, .inl t_first_cells_a)), (t_second_cells_h, .inl (cI, t_second_cells_n, .inl t_second_cells_a)), (t_layers_cells_h, .inl (cI, t_layers_cells_n, .inl t_layers_cells_a))] → va_S A s.heap H locs → lv_has ls 3 [(0, .ref t_h), (1, .int x1), (2, .int u1)] → W p l e rmX3_fillCosts s m args below meth c H locs 0 0 Q (F0 m 34 ls [.int m69, .int u1, .ref t_costs_h]) := by
          intro m69 he H locs ls hP hD hS hl
          cases he
          obtain ⟨h12, hf⟩ := gd_some hf
          obtain ⟨a13, ea13⟩ : ∃ y : Nat → Int32, y = upd u2 (Int32.toNatClampNeg u1) m6 := ⟨_, rfl⟩
          have hf := bv_at ea13 hf
          refine va_iast hx hb hK hP hD hS 5 0 rfl rfl (bnd_in h12) dX3_fillCosts_34 (fun H locs hP hD hS => ?_)
          have hP : va_P G vwCl [(t_h, .inr (3, [.ref t_settings_h, .ref t_first_h, .ref t_second_h, .ref t_layers_h, .ref t_costs_h, .ref t_keys_h])), (t_settings_h, .inr (4, [.int t_settings_base, .int t_settings_slip, .int t_settings_low, .int t_settings_high, .int t_settings_unlike, .int t_settings_alone])), (t_first_h, .inr (7, [.int t_first_width, .int t_first_most, .ref t_first_cells_h, .int t_first_lines])), (t_second_h, .inr (7, [.int t_second_width, .int t_second_most, .ref t_second_cells_h, .int t_second_lines])), (t_layers_h, .inr (7, [.int t_layers_width, .int t_layers_most, .ref t_layers_cells_h, .int t_layers_lines])), (t_costs_h, .inl (cI, 8, .inl a13)), (t_first_cells_h, .inl (cI, t_first_cells_n, .inl t_first_cells_a)), (t_second_cells_h, .inl (cI, t_second_cells_n, .inl t_second_cells_a)), (t_layers_cells_h, .inl (cI, t_layers_cells_n, .inl t_layers_cells_a))] H := by rw [ea13]; exact hP
          have hD : va_D A [(t_h, .inr (3, [.ref t_settings_h, .ref t_first_h, .ref t_second_h, .ref t_layers_h, .ref t_costs_h, .ref t_keys_h])), (t_settings_h, .inr (4, [.int t_settings_base, .int t_settings_slip, .int t_settings_low, .int t_settings_high, .int t_settings_unlike, .int t_settings_alone])), (t_first_h, .inr (7, [.int t_first_width, .int t_first_most, .ref t_first_cells_h, .int t_first_lines])), (t_second_h, .inr (7, [.int t_second_width, .int t_second_most, .ref t_second_cells_h, .int t_second_lines])), (t_layers_h, .inr (7, [.int t_layers_width, .int t_layers_most, .ref t_layers_cells_h, .int t_layers_lines])), (t_costs_h, .inl (cI, 8, .inl a13)), (t_first_cells_h, .inl (cI, t_first_cells_n, .inl t_first_cells_a)), (t_second_cells_h, .inl (cI, t_second_cells_n, .inl t_second_cells_a)), (t_layers_cells_h, .inl (cI, t_layers_cells_n, .inl t_layers_cells_a))] := by rw [ea13]; exact hD
          obtain ⟨v14, ev14⟩ : ∃ y : Int32, y = u1 + 1 := ⟨_, rfl⟩
          have hf := bv_at ev14 hf
          refine lv_iinc (v := v14) (lv' := [(2, .int v14), (0, .ref t_h), (1, .int x1)]) hx hb dX3_fillCosts_35 hl (k := 2) rfl (by rw [ev14]; rfl) (by decide) rfl (fun ls hl => ?_)
          refine lv_goto (tgt := 2) hx hb dX3_fillCosts_38 (by decide) ?_
          cases hf
          exact ih _ _ hq _ _ _ hP hD hS (lv_sub hl [1, 2, 0] rfl)
        replace hf := hr7
        refine lv_icmp_ge (tgt := 33) hx hb dX3_fillCosts_21 (by decide) (fun c9 => ?_) (fun c9 => ?_)
        · have hf := ift hf c9
          refine lv_iconst (v := (-1)) hx hb dX3_fillCosts_33 (by decide) ?_
          exact hj8 _ hf _ _ _ hP hD hS (lv_sub hl [0, 1, 2] rfl)
        · have hf := iff_ hf c9
          refine lv_aload_n hx hb dX3_fillCosts_24 rfl (lv_at hl 0 rfl) ?_
          refine lv_iload_n hx hb dX3_fillCosts_25 rfl (lv_at hl 1 rfl) ?_
          refine lv_iload_n hx hb dX3_fillCosts_26 rfl (lv_at hl 2 rfl) ?_
          obtain ⟨r10, hc11, hf⟩ := ob_some hf
          refine af_iR (va_runV (As := [.int x1, .int u1]) (rest := [.int u1, .ref t_costs_h]) ⟨hx, hb, hml, hown, hts⟩ (k_X3_costOf l G cI cJ (t_h := t_h) (t_settings_h := t_settings_h) (t_first_h := t_first_h) (t_second_h := t_second_h) (t_layers_h := t_layers_h) (t_costs_h := t_costs_h) (t_keys_h := t_keys_h) (t_first_cells_h := t_first_cells_h) (t_second_cells_h := t_second_cells_h) (t_layers_cells_h := t_layers_cells_h) (t_settings_base := t_settings_base) (t_settings_slip := t_settings_slip) (t_settings_low := t_settings_low) (t_settings_high := t_settings_high) (t_settings_unlike := t_settings_unlike) (t_settings_alone := t_settings_alone) (t_first_width := t_first_width) (t_first_most := t_first_most) (t_first_lines := t_first_lines) (t_second_width := t_second_width) (t_second_most := t_second_most) (t_second_lines := t_second_lines) (t_layers_width := t_layers_width) (t_layers_most := t_layers_most) (t_layers_lines := t_layers_lines) (t_first_cells_n := t_first_cells_n) (t_first_cells_a := t_first_cells_a) (t_second_cells_n := t_second_cells_n) (t_second_cells_a := t_second_cells_a) (t_layers_cells_n := t_layers_cells_n) (t_layers_cells_a := t_layers_cells_a) (x1 := x1) (x2 := u1) (sz := _) (hf := hc11)) (cwV 2 hts gX3_fillCosts_X3_costOf rfl rfl rfl (by decide +kernel) ⟨Nat.le_of_ble_eq_true rfl, Nat.le_of_ble_eq_true rfl⟩) (preV0 (ci := 3) (q0 := 0) (C := RX3) (wc := [(t_h, .inr (3, [.ref t_settings_h, .ref t_first_h, .ref t_second_h, .ref t_layers_h, .ref t_costs_h, .ref t_keys_h])), (t_settings_h, .inr (4, [.int t_settings_base, .int t_settings_slip, .int t_settings_low, .int t_settings_high, .int t_settings_unlike, .int t_settings_alone])), (t_first_h, .inr (7, [.int t_first_width, .int t_first_most, .ref t_first_cells_h, .int t_first_lines])), (t_second_h, .inr (7, [.int t_second_width, .int t_second_most, .ref t_second_cells_h, .int t_second_lines])), (t_layers_h, .inr (7, [.int t_layers_width, .int t_layers_most, .ref t_layers_cells_h, .int t_layers_lines])), (t_first_cells_h, .inl (cI, t_first_cells_n, .inl t_first_cells_a)), (t_second_cells_h, .inl (cI, t_second_cells_n, .inl t_second_cells_a)), (t_layers_cells_h, .inl (cI, t_layers_cells_n, .inl t_layers_cells_a))]) hK hP hD hN [0, 1, 2, 3, 4, 6, 7, 8] rfl rfl (by decide) rfl rfl) rfl rfl hl.1 rfl (lv_room (Nat.le_of_ble_eq_true rfl)) dX3_fillCosts_27 ⟨Nat.zero_le _, Nat.zero_le _⟩) hP hD hS hA [0, 1, 2, 3, 4, 6, 7, 8] rfl (fun H locs hP hS => ?_)
          refine lv_goto (tgt := 34) hx hb dX3_fillCosts_30 (by decide) ?_
          exact hj8 _ hf _ _ _ hP hD hS (lv_sub hl [0, 1, 2] rfl)
  exact hl1 _ _ _ ht1 _ _ _ hP hD hS (lv_sub hl [1, 2, 0] rfl)
set_option maxRecDepth 20000 in
theorem ggX3_leastWithTheSecondsAlone_X7_size : GoodIn wsX3_leastWithTheSecondsAlone wsX7_size := goodIn_r _ [13, 14, 34, 35, 36, 37] (by decide +kernel) (by decide +kernel)
set_option maxRecDepth 20000 in
theorem gX3_leastWithTheSecondsAlone_X7_size : GoodIn wsX3_leastWithTheSecondsAlone (wsV RX3 60 RX7 yX7_size wsX7_size) := goodIn_app (goodIn_of _ (by decide +kernel)) ggX3_leastWithTheSecondsAlone_X7_size
set_option maxRecDepth 20000 in
theorem ggX3_leastWithTheSecondsAlone_J6_bitCount_0f7a4 : GoodIn wsX3_leastWithTheSecondsAlone wsJ6_bitCount_0f7a4 := goodIn_r _ [18, 19, 20, 21] (by decide +kernel) (by decide +kernel)
set_option maxRecDepth 20000 in
theorem gX3_leastWithTheSecondsAlone_J6_bitCount_0f7a4 : GoodIn wsX3_leastWithTheSecondsAlone (va_wsS RX3 95 yJ6_bitCount_0f7a4 wsJ6_bitCount_0f7a4) := goodIn_app (goodIn_of _ (by decide +kernel)) ggX3_leastWithTheSecondsAlone_J6_bitCount_0f7a4
theorem dX3_leastWithTheSecondsAlone_0 : decode cX3_leastWithTheSecondsAlone 0 = .ok (.ldc2_w 73, 3) := by decide +kernel
theorem dX3_leastWithTheSecondsAlone_3 : decode cX3_leastWithTheSecondsAlone 3 = .ok (.lstore_n 1, 1) := by decide +kernel
theorem dX3_leastWithTheSecondsAlone_4 : decode cX3_leastWithTheSecondsAlone 4 = .ok (.iconst 0, 1) := by decide +kernel
theorem dX3_leastWithTheSecondsAlone_5 : decode cX3_leastWithTheSecondsAlone 5 = .ok (.istore_n 3, 1) := by decide +kernel
theorem dX3_leastWithTheSecondsAlone_6 : decode cX3_leastWithTheSecondsAlone 6 = .ok (.iload_n 3, 1) := by decide +kernel
theorem dX3_leastWithTheSecondsAlone_7 : decode cX3_leastWithTheSecondsAlone 7 = .ok (.sipush 256, 3) := by decide +kernel
theorem dX3_leastWithTheSecondsAlone_10 : decode cX3_leastWithTheSecondsAlone 10 = .ok (.if_icmp .ge 63, 3) := by decide +kernel
theorem dX3_leastWithTheSecondsAlone_13 : decode cX3_leastWithTheSecondsAlone 13 = .ok (.aload_n 0, 1) := by decide +kernel
theorem dX3_leastWithTheSecondsAlone_14 : decode cX3_leastWithTheSecondsAlone 14 = .ok (.getfield 29, 3) := by decide +kernel
theorem dX3_leastWithTheSecondsAlone_17 : decode cX3_leastWithTheSecondsAlone 17 = .ok (.iload_n 3, 1) := by decide +kernel
theorem dX3_leastWithTheSecondsAlone_18 : decode cX3_leastWithTheSecondsAlone 18 = .ok (.laload, 1) := by decide +kernel
theorem dX3_leastWithTheSecondsAlone_19 : decode cX3_leastWithTheSecondsAlone 19 = .ok (.ldc2_w 73, 3) := by decide +kernel
theorem dX3_leastWithTheSecondsAlone_22 : decode cX3_leastWithTheSecondsAlone 22 = .ok (.lcmp, 1) := by decide +kernel
theorem dX3_leastWithTheSecondsAlone_23 : decode cX3_leastWithTheSecondsAlone 23 = .ok (.ifCond .eq 44, 3) := by decide +kernel
theorem dX3_leastWithTheSecondsAlone_26 : decode cX3_leastWithTheSecondsAlone 26 = .ok (.aload_n 0, 1) := by decide +kernel
theorem dX3_leastWithTheSecondsAlone_27 : decode cX3_leastWithTheSecondsAlone 27 = .ok (.getfield 19, 3) := by decide +kernel
theorem dX3_leastWithTheSecondsAlone_30 : decode cX3_leastWithTheSecondsAlone 30 = .ok (.invokevirtual 60, 3) := by decide +kernel
theorem dX3_leastWithTheSecondsAlone_33 : decode cX3_leastWithTheSecondsAlone 33 = .ok (.iload_n 3, 1) := by decide +kernel
theorem dX3_leastWithTheSecondsAlone_34 : decode cX3_leastWithTheSecondsAlone 34 = .ok (.invokestatic 95, 3) := by decide +kernel
theorem dX3_leastWithTheSecondsAlone_37 : decode cX3_leastWithTheSecondsAlone 37 = .ok (.isub, 1) := by decide +kernel
theorem dX3_leastWithTheSecondsAlone_38 : decode cX3_leastWithTheSecondsAlone 38 = .ok (.i2l, 1) := by decide +kernel
theorem dX3_leastWithTheSecondsAlone_39 : decode cX3_leastWithTheSecondsAlone 39 = .ok (.lstore 4, 2) := by decide +kernel
theorem dX3_leastWithTheSecondsAlone_41 : decode cX3_leastWithTheSecondsAlone 41 = .ok (.lload_n 1, 1) := by decide +kernel
theorem dX3_leastWithTheSecondsAlone_42 : decode cX3_leastWithTheSecondsAlone 42 = .ok (.aload_n 0, 1) := by decide +kernel
theorem dX3_leastWithTheSecondsAlone_43 : decode cX3_leastWithTheSecondsAlone 43 = .ok (.getfield 29, 3) := by decide +kernel
theorem dX3_leastWithTheSecondsAlone_46 : decode cX3_leastWithTheSecondsAlone 46 = .ok (.iload_n 3, 1) := by decide +kernel
theorem dX3_leastWithTheSecondsAlone_47 : decode cX3_leastWithTheSecondsAlone 47 = .ok (.laload, 1) := by decide +kernel
theorem dX3_leastWithTheSecondsAlone_48 : decode cX3_leastWithTheSecondsAlone 48 = .ok (.lload 4, 2) := by decide +kernel
theorem dX3_leastWithTheSecondsAlone_50 : decode cX3_leastWithTheSecondsAlone 50 = .ok (.aload_n 0, 1) := by decide +kernel
theorem dX3_leastWithTheSecondsAlone_51 : decode cX3_leastWithTheSecondsAlone 51 = .ok (.getfield 9, 3) := by decide +kernel
theorem dX3_leastWithTheSecondsAlone_54 : decode cX3_leastWithTheSecondsAlone 54 = .ok (.getfield 89, 3) := by decide +kernel
theorem dX3_leastWithTheSecondsAlone_57 : decode cX3_leastWithTheSecondsAlone 57 = .ok (.i2l, 1) := by decide +kernel
theorem dX3_leastWithTheSecondsAlone_58 : decode cX3_leastWithTheSecondsAlone 58 = .ok (.lmul, 1) := by decide +kernel
theorem dX3_leastWithTheSecondsAlone_59 : decode cX3_leastWithTheSecondsAlone 59 = .ok (.bipush 32, 2) := by decide +kernel
theorem dX3_leastWithTheSecondsAlone_61 : decode cX3_leastWithTheSecondsAlone 61 = .ok (.lshl, 1) := by decide +kernel
theorem dX3_leastWithTheSecondsAlone_62 : decode cX3_leastWithTheSecondsAlone 62 = .ok (.ladd, 1) := by decide +kernel
theorem dX3_leastWithTheSecondsAlone_63 : decode cX3_leastWithTheSecondsAlone 63 = .ok (.invokestatic 92, 3) := by decide +kernel
theorem dX3_leastWithTheSecondsAlone_66 : decode cX3_leastWithTheSecondsAlone 66 = .ok (.lstore_n 1, 1) := by decide +kernel
theorem dX3_leastWithTheSecondsAlone_67 : decode cX3_leastWithTheSecondsAlone 67 = .ok (.iinc 3 1, 3) := by decide +kernel
theorem dX3_leastWithTheSecondsAlone_70 : decode cX3_leastWithTheSecondsAlone 70 = .ok (.goto (-64), 3) := by decide +kernel
theorem dX3_leastWithTheSecondsAlone_73 : decode cX3_leastWithTheSecondsAlone 73 = .ok (.lload_n 1, 1) := by decide +kernel
theorem dX3_leastWithTheSecondsAlone_74 : decode cX3_leastWithTheSecondsAlone 74 = .ok (.lreturn, 1) := by decide +kernel
set_option maxRecDepth 100000 in
def fX3_leastWithTheSecondsAlone_L1 (t_keys_a : Nat → Int64) (t_second_lines : Int32) (t_settings_alone : Int32) : (Int64 × Int32) → Option ((Int64) ⊕ (Int64 × Int32)) := un2 fun (u1 : Int64) (u2 : Int32) =>
  if 256 ≤ u2 then
    some (.inl u1)
  else
    gd (bnd u2 256) <|
    ob (α := Int64) (
        if (lg_cmp (t_keys_a (Int32.toNatClampNeg u2)) 1152921504606846976) = 0 then
          some u1
        else
          ob (fX7_size t_second_lines) fun r9 =>
          ob (fJ6_bitCount_0f7a4 u2) fun r11 =>
          bv (Int32.toInt64 (r9 - r11)) fun v13 =>
          gd (bnd u2 256) <|
          bv (if ((t_keys_a (Int32.toNatClampNeg u2)) + ((v13 * (Int32.toInt64 t_settings_alone)) <<< (Int32.toInt64 32 &&& 63))) < u1 then ((t_keys_a (Int32.toNatClampNeg u2)) + ((v13 * (Int32.toInt64 t_settings_alone)) <<< (Int32.toInt64 32 &&& 63))) else u1) fun v15 =>
          some v15
      ) fun m5 =>
    bv (u2 + 1) fun v16 =>
    some (.inr (m5, v16))
set_option maxRecDepth 100000 in
def fX3_leastWithTheSecondsAlone (t_settings_alone : Int32) (t_second_lines : Int32) (t_keys_a : Nat → Int64) : Option (Int64) :=
  ob (it (fX3_leastWithTheSecondsAlone_L1 t_keys_a t_second_lines t_settings_alone) 100000 (1152921504606846976, 0)) fun x17 =>
  some x17
abbrev rmX3_leastWithTheSecondsAlone : Room := { frames := 1, cells := 0, slots := 0, locals := 23 }
theorem iwX3_leastWithTheSecondsAlone_X3 : ∀ w ∈ u_ws RX3 TX3 6, w ∈ wsX3_leastWithTheSecondsAlone := by decide +kernel
theorem iwX3_leastWithTheSecondsAlone_X4 : ∀ w ∈ u_ws RX4 TX4 6, w ∈ wsX3_leastWithTheSecondsAlone := by decide +kernel
set_option maxHeartbeats 4000000 in
set_option maxRecDepth 100000 in
theorem k_X3_leastWithTheSecondsAlone (l : Launch) (G : va_G) (cI cJ : ClassId) (t_h t_settings_h t_first_h t_second_h t_layers_h t_costs_h t_keys_h t_second_cells_h : Nat) (sz : Nat) (t_settings_base : Int32) (t_settings_slip : Int32) (t_settings_low : Int32) (t_settings_high : Int32) (t_settings_unlike : Int32) (t_settings_alone : Int32) (t_second_width : Int32) (t_second_most : Int32) (t_second_lines : Int32) (t_keys_a : Nat → Int64) {o_r : Int64} (hf : fX3_leastWithTheSecondsAlone t_settings_alone t_second_lines t_keys_a = some o_r) : MetL l yX3_leastWithTheSecondsAlone wsX3_leastWithTheSecondsAlone rmX3_leastWithTheSecondsAlone [.ref t_h] G cI cJ [(t_h, .inr (3, [.ref t_settings_h, .ref t_first_h, .ref t_second_h, .ref t_layers_h, .ref t_costs_h, .ref t_keys_h])), (t_settings_h, .inr (4, [.int t_settings_base, .int t_settings_slip, .int t_settings_low, .int t_settings_high, .int t_settings_unlike, .int t_settings_alone])), (t_second_h, .inr (7, [.int t_second_width, .int t_second_most, .ref t_second_cells_h, .int t_second_lines])), (t_keys_h, .inl (cJ, 256, .inr (.inl t_keys_a)))] [(t_h, .inr (3, [.ref t_settings_h, .ref t_first_h, .ref t_second_h, .ref t_layers_h, .ref t_costs_h, .ref t_keys_h])), (t_settings_h, .inr (4, [.int t_settings_base, .int t_settings_slip, .int t_settings_low, .int t_settings_high, .int t_settings_unlike, .int t_settings_alone])), (t_second_h, .inr (7, [.int t_second_width, .int t_second_most, .ref t_second_cells_h, .int t_second_lines])), (t_keys_h, .inl (cJ, 256, .inr (.inl t_keys_a)))] sz o_r := by
  refine en_0 (l := l) (y := yX3_leastWithTheSecondsAlone) (wsl := wsX3_leastWithTheSecondsAlone) (rm := rmX3_leastWithTheSecondsAlone) (av := [.ref t_h]) (G := G) (cI := cI) (cJ := cJ) (w0 := [(t_h, .inr (3, [.ref t_settings_h, .ref t_first_h, .ref t_second_h, .ref t_layers_h, .ref t_costs_h, .ref t_keys_h])), (t_settings_h, .inr (4, [.int t_settings_base, .int t_settings_slip, .int t_settings_low, .int t_settings_high, .int t_settings_unlike, .int t_settings_alone])), (t_second_h, .inr (7, [.int t_second_width, .int t_second_most, .ref t_second_cells_h, .int t_second_lines])), (t_keys_h, .inl (cJ, 256, .inr (.inl t_keys_a)))]) (sz := sz) (Qf := fun A => Ql0 G cI cJ [(t_h, .inr (3, [.ref t_settings_h, .ref t_first_h, .ref t_second_h, .ref t_layers_h, .ref t_costs_h, .ref t_keys_h])), (t_settings_h, .inr (4, [.int t_settings_base, .int t_settings_slip, .int t_settings_low, .int t_settings_high, .int t_settings_unlike, .int t_settings_alone])), (t_second_h, .inr (7, [.int t_second_width, .int t_second_most, .ref t_second_cells_h, .int t_second_lines])), (t_keys_h, .inl (cJ, 256, .inr (.inl t_keys_a)))] o_r A) (cc := cX3_leastWithTheSecondsAlone) (maxL := 6) (ret := (some .long)) RX3 (by decide +kernel) rfl rfl (Nat.le_of_ble_eq_true rfl) ?_
  intro p e s m args below meth c A ls Q hQ hx hb hr hts hown hlocks hml hN hK hP hD hS hA hl
  have hl : lv_has ls 6 [(0, .ref t_h)] := hl
  have iwX3 := iwX3_leastWithTheSecondsAlone_X3
  have iwX4 := iwX3_leastWithTheSecondsAlone_X4
  have fl_9 := hts (.fieldLink RX3 9 "CloudOffice$Matching" "settings" "LCloudOffice$Settings;") (by decide +kernel)
  have fl_19 := hts (.fieldLink RX3 19 "CloudOffice$Matching" "second" "LCloudOffice$Table;") (by decide +kernel)
  have fl_29 := hts (.fieldLink RX3 29 "CloudOffice$Matching" "keys" "[J") (by decide +kernel)
  have fl_89 : (Cond.fieldLinkNest RX3 89 "CloudOffice$Settings" "alone" "I" "CloudOffice").before args s = true := nst_get hN 14 rfl rfl
  have kc_73 := hts (.constantLong RX3 73 (1152921504606846976)) (by decide +kernel)
  have lb_92 := hts (.methodLink RX3 92 Lib.MathLoose.min_long.x) (by decide +kernel)
  have lbs_92 := hts (.static Lib.MathLoose.min_long.x) (by decide +kernel)
  have lbi_92 := hts (.initialized "java/lang/Math") (by decide +kernel)
  have lbc_92 := hts (.code Lib.MathLoose.min_long.x Lib.MathLoose.min_long.code 4 (some .long)) (by decide +kernel)
  have hret : ∀ (o_r9 : Int64) (pc : Nat) (H : Heap) (locs : List Loc) (ls : Array Slot), decode cX3_leastWithTheSecondsAlone pc = .ok (.lreturn, 1) → some o_r9 = some o_r → va_P G vwCl [(t_h, .inr (3, [.ref t_settings_h, .ref t_first_h, .ref t_second_h, .ref t_layers_h, .ref t_costs_h, .ref t_keys_h])), (t_settings_h, .inr (4, [.int t_settings_base, .int t_settings_slip, .int t_settings_low, .int t_settings_high, .int t_settings_unlike, .int t_settings_alone])), (t_second_h, .inr (7, [.int t_second_width, .int t_second_most, .ref t_second_cells_h, .int t_second_lines])), (t_keys_h, .inl (cJ, 256, .inr (.inl t_keys_a)))] H → va_D A [(t_h, .inr (3, [.ref t_settings_h, .ref t_first_h, .ref t_second_h, .ref t_layers_h, .ref t_costs_h, .ref t_keys_h])), (t_settings_h, .inr (4, [.int t_settings_base, .int t_settings_slip, .int t_settings_low, .int t_settings_high, .int t_settings_unlike, .int t_settings_alone])), (t_second_h, .inr (7, [.int t_second_width, .int t_second_most, .ref t_second_cells_h, .int t_second_lines])), (t_keys_h, .inl (cJ, 256, .inr (.inl t_keys_a)))] → va_S A s.heap H locs → W p l e rmX3_leastWithTheSecondsAlone s m args below meth c H locs 0 0 Q (F0 m pc ls [.long o_r9]) := by
    intro o_r9 pc H locs ls hdg he hP hD hS
    cases he
    subst hQ
    exact rt_l hx hb hr hlocks hK hP hD hS rfl hdg
  clear hQ
  unfold fX3_leastWithTheSecondsAlone at hf
  refine lv_ldc2 (v := 1152921504606846976) hx hb hown kc_73 dX3_leastWithTheSecondsAlone_0 ?_
  refine lv_lstore_n (lv' := [(1, .long 1152921504606846976), (0, .ref t_h)]) hx hb dX3_leastWithTheSecondsAlone_3 rfl hl (by decide) rfl (fun ls hl => ?_)
  refine lv_iconst (v := 0) hx hb dX3_leastWithTheSecondsAlone_4 (by decide) ?_
  refine lv_istore_n (lv' := [(3, .int 0), (1, .long 1152921504606846976), (0, .ref t_h)]) hx hb dX3_leastWithTheSecondsAlone_5 rfl hl (by decide) rfl (fun ls hl => ?_)
  obtain ⟨x17, ht1, hf⟩ := ob_some hf
  have hx1_0 : ∀ (x179 : Int64), x179 = x17 → ∀ (H : Heap) (locs : List Loc) (ls : Array Slot), va_P G vwCl [(t_h, .inr (3, [.ref t_settings_h, .ref t_first_h, .ref t_second_h, .ref t_layers_h, .ref t_costs_h, .ref t_keys_h])), (t_settings_h, .inr (4, [.int t_settings_base, .int t_settings_slip, .int t_settings_low, .int t_settings_high, .int t_settings_unlike, .int t_settings_alone])), (t_second_h, .inr (7, [.int t_second_width, .int t_second_most, .ref t_second_cells_h, .int t_second_lines])), (t_keys_h, .inl (cJ, 256, .inr (.inl t_keys_a)))] H → va_D A [(t_h, .inr (3, [.ref t_settings_h, .ref t_first_h, .ref t_second_h, .ref t_layers_h, .ref t_costs_h, .ref t_keys_h])), (t_settings_h, .inr (4, [.int t_settings_base, .int t_settings_slip, .int t_settings_low, .int t_settings_high, .int t_settings_unlike, .int t_settings_alone])), (t_second_h, .inr (7, [.int t_second_width, .int t_second_most, .ref t_second_cells_h, .int t_second_lines])), (t_keys_h, .inl (cJ, 256, .inr (.inl t_keys_a)))] → va_S A s.heap H locs → lv_has ls 6 [(1, .long x179)] → W p l e rmX3_leastWithTheSecondsAlone s m args below meth c H locs 0 0 Q (F0 m 73 ls []) := by
    intro x179 he H locs ls hP hD hS hl
    cases he
    refine lv_lload_n hx hb dX3_leastWithTheSecondsAlone_73 rfl (lv_at hl 0 rfl) ?_
    exact hret x17 74 _ _ _ dX3_leastWithTheSecondsAlone_74 hf hP hD hS
  clear hf
  have hl1 : ∀ (n : Nat) (u1 : Int64) (u2 : Int32), it (fX3_leastWithTheSecondsAlone_L1 t_keys_a t_second_lines t_settings_alone) n (u1, u2) = some x17 → ∀ (H : Heap) (locs : List Loc) (ls : Array Slot), va_P G vwCl [(t_h, .inr (3, [.ref t_settings_h, .ref t_first_h, .ref t_second_h, .ref t_layers_h, .ref t_costs_h, .ref t_keys_h])), (t_settings_h, .inr (4, [.int t_settings_base, .int t_settings_slip, .int t_settings_low, .int t_settings_high, .int t_settings_unlike, .int t_settings_alone])), (t_second_h, .inr (7, [.int t_second_width, .int t_second_most, .ref t_second_cells_h, .int t_second_lines])), (t_keys_h, .inl (cJ, 256, .inr (.inl t_keys_a)))] H → va_D A [(t_h, .inr (3, [.ref t_settings_h, .ref t_first_h, .ref t_second_h, .ref t_layers_h, .ref t_costs_h, .ref t_keys_h])), (t_settings_h, .inr (4, [.int t_settings_base, .int t_settings_slip, .int t_settings_low, .int t_settings_high, .int t_settings_unlike, .int t_settings_alone])), (t_second_h, .inr (7, [.int t_second_width, .int t_second_most, .ref t_second_cells_h, .int t_second_lines])), (t_keys_h, .inl (cJ, 256, .inr (.inl t_keys_a)))] → va_S A s.heap H locs → lv_has ls 6 [(0, .ref t_h), (1, .long u1), (3, .int u2)] → W p l e rmX3_leastWithTheSecondsAlone s m args below meth c H locs 0 0 Q (F0 m 6 ls []) := by
    intro n
    induction n with
    | zero => intro u1 u2 hz; exact (it_zero hz).elim
    | succ n ih =>
      intro u1 u2 hz H locs ls hP hD hS hl
      obtain ⟨x9, hf, hq⟩ := it_succ hz
      unfold fX3_leastWithTheSecondsAlone_L1 at hf
      dsimp only [un2] at hf
      refine lv_iload_n hx hb dX3_leastWithTheSecondsAlone_6 rfl (lv_at hl 2 rfl) ?_
      refine lv_sipush (v := 256) hx hb dX3_leastWithTheSecondsAlone_7 (by decide) ?_
      refine lv_icmp_ge (tgt := 73) hx hb dX3_leastWithTheSecondsAlone_10 (by decide) (fun c3 => ?_) (fun c3 => ?_)
      · have hf := ift hf c3
        cases hf
        exact hx1_0 _ hq _ _ _ hP hD hS (lv_sub hl [1] rfl)
      · have hf := iff_ hf c3
        refine lv_aload_n hx hb dX3_leastWithTheSecondsAlone_13 rfl (lv_at hl 0 rfl) ?_
        refine va_get (D := G) (ci := 3) (v := .ref t_keys_h) (C := RX3) (T := TX3) (N := 6) hx hb hts iwX3 hown hK hP 0 rfl rfl 5 (by decide) fl_29 (fun _ h9 => h9) rfl dX3_leastWithTheSecondsAlone_14 ?_
        refine lv_iload_n hx hb dX3_leastWithTheSecondsAlone_17 rfl (lv_at hl 2 rfl) ?_
        obtain ⟨h4, hf⟩ := gd_some hf
        refine va_lald hx hb hK hP 3 1 rfl rfl (bnd_in h4) dX3_leastWithTheSecondsAlone_18 ?_
        refine lv_ldc2 (v := 1152921504606846976) hx hb hown kc_73 dX3_leastWithTheSecondsAlone_19 ?_
        refine W.lcmp hx hb dX3_leastWithTheSecondsAlone_22 ?_
        obtain ⟨m5, hr6, hf⟩ := ob_some hf
        have hj7 : ∀ (m59 : Int64), some m59 = some m5 → ∀ (H : Heap) (locs : List Loc) (ls : Array Slot), va_P G vwCl [(t_h, .inr (3, [.ref t_settings_h, .ref t_first_h, .ref t_second_h, .ref t_layers_h, .ref t_costs_h, .ref t_keys_h])), (t_settings_h, .inr (4, [.int t_settings_base, .int t_settings_slip, .int t_settings_low, .int t_settings_high, .int t_settings_unlike, .int t_settings_alone])), (t_second_h, .inr (7, [.int t_second_width, .int t_second_most, .ref t_second_cells_h, .int t_second_lines])), (t_keys_h, .inl (cJ, 256, .inr (.inl t_keys_a)))] H → va_D A [(t_h, .inr (3, [.ref t_settings_h, .ref t_first_h, .ref t_second_h, .ref t_layers_h, .ref t_costs_h, .ref t_keys_h])), (t_settings_h, .inr (4, [.int t_settings_base, .int t_settings_slip, .int t_settings_low, .int t_settings_high, .int t_settings_unlike, .int t_settings_alone])), (t_second_h, .inr (7, [.int t_second_width, .int t_second_most, .ref t_second_cells_h, .int t_second_lines])), (t_keys_h, .inl (cJ, 256, .inr (.inl t_keys_a)))] → va_S A s.heap H locs → lv_has ls 6 [(0, .ref t_h), (1, .long m59), (3, .int u2)] → W p l e rmX3_leastWithTheSecondsAlone s m args below meth c H locs 0 0 Q (F0 m 67 ls []) := by
          intro m59 he H locs ls hP hD hS hl
          cases he
          obtain ⟨v16, ev16⟩ : ∃ y : Int32, y = u2 + 1 := ⟨_, rfl⟩
          have hf := bv_at ev16 hf
          refine lv_iinc (v := v16) (lv' := [(3, .int v16), (0, .ref t_h), (1, .long m5)]) hx hb dX3_leastWithTheSecondsAlone_67 hl (k := 2) rfl (by rw [ev16]; rfl) (by decide) rfl (fun ls hl => ?_)
          refine lv_goto (tgt := 6) hx hb dX3_leastWithTheSecondsAlone_70 (by decide) ?_
          cases hf
          exact ih _ _ hq _ _ _ hP hD hS (lv_sub hl [1, 2, 0] rfl)
        replace hf := hr6
        refine lv_if_eq (tgt := 67) hx hb dX3_leastWithTheSecondsAlone_23 (by decide) (fun c8 => ?_) (fun c8 => ?_)
        · have hf := ift hf c8
          exact hj7 _ hf _ _ _ hP hD hS (lv_sub hl [0, 1, 2] rfl)
        · have hf := iff_ hf c8
          refine lv_aload_n hx hb dX3_leastWithTheSecondsAlone_26 rfl (lv_at hl 0 rfl) ?_
          refine va_get (D := G) (ci := 3) (v := .ref t_second_h) (C := RX3) (T := TX3) (N := 6) hx hb hts iwX3 hown hK hP 0 rfl rfl 2 (by decide) fl_19 (fun _ h9 => h9) rfl dX3_leastWithTheSecondsAlone_27 ?_
          obtain ⟨r9, hc10, hf⟩ := ob_some hf
          refine af_iR (va_runV (As := []) (rest := []) ⟨hx, hb, hml, hown, hts⟩ (k_X7_size l G cI cJ (t_h := t_second_h) (t_cells_h := t_second_cells_h) (t_width := t_second_width) (t_most := t_second_most) (t_lines := t_second_lines) (sz := _) (hf := hc10)) (cwV 0 hts gX3_leastWithTheSecondsAlone_X7_size rfl rfl rfl (by decide +kernel) ⟨Nat.le_of_ble_eq_true rfl, Nat.le_of_ble_eq_true rfl⟩) (preV0 (ci := 7) (q0 := 0) (C := RX7) (wc := [(t_second_h, .inr (7, [.int t_second_width, .int t_second_most, .ref t_second_cells_h, .int t_second_lines]))]) hK hP hD hN [2] rfl rfl (by decide) rfl rfl) rfl rfl hl.1 rfl (lv_room (Nat.le_of_ble_eq_true rfl)) dX3_leastWithTheSecondsAlone_30 ⟨Nat.zero_le _, Nat.zero_le _⟩) hP hD hS hA [2] rfl (fun H locs hP hS => ?_)
          refine lv_iload_n hx hb dX3_leastWithTheSecondsAlone_33 rfl (lv_at hl 2 rfl) ?_
          obtain ⟨r11, hc12, hf⟩ := ob_some hf
          refine af_iR (va_runS (As := [.int u2]) (rest := [.int r9]) ⟨hx, hb, hml, hown, hts⟩ (k_J6_bitCount_0f7a4 l G cI cJ (x0 := u2) (sz := _) (hf := hc12)) (va_cwS 1 hts gX3_leastWithTheSecondsAlone_J6_bitCount_0f7a4 rfl rfl rfl (by decide +kernel) ⟨Nat.le_of_ble_eq_true rfl, Nat.le_of_ble_eq_true rfl⟩) (preS0 (wc := []) hK hP hD hN [] rfl rfl (by decide)) rfl rfl hl.1 rfl (lv_room (Nat.le_of_ble_eq_true rfl)) dX3_leastWithTheSecondsAlone_34 ⟨Nat.zero_le _, Nat.zero_le _⟩) hP hD hS hA [] rfl (fun H locs hP hS => ?_)
          refine lv_isub hx hb dX3_leastWithTheSecondsAlone_37 ?_
          refine lv_i2l (v := Int32.toInt64 (r9 - r11)) hx hb dX3_leastWithTheSecondsAlone_38 rfl ?_
          refine lv_topl (fun v13 ev13 => ?_)
          have hf := bv_at ev13 hf
          refine lv_lstore (lv' := [(4, .long v13), (0, .ref t_h), (1, .long u1), (3, .int u2)]) hx hb dX3_leastWithTheSecondsAlone_39 hl (by decide) rfl (fun ls hl => ?_)
          refine lv_lload_n hx hb dX3_leastWithTheSecondsAlone_41 rfl (lv_at hl 2 rfl) ?_
          refine lv_aload_n hx hb dX3_leastWithTheSecondsAlone_42 rfl (lv_at hl 1 rfl) ?_
          refine va_get (D := G) (ci := 3) (v := .ref t_keys_h) (C := RX3) (T := TX3) (N := 6) hx hb hts iwX3 hown hK hP 0 rfl rfl 5 (by decide) fl_29 (fun _ h9 => h9) rfl dX3_leastWithTheSecondsAlone_43 ?_
          refine lv_iload_n hx hb dX3_leastWithTheSecondsAlone_46 rfl (lv_at hl 3 rfl) ?_
          obtain ⟨h14, hf⟩ := gd_some hf
          refine va_lald hx hb hK hP 3 1 rfl rfl (bnd_in h14) dX3_leastWithTheSecondsAlone_47 ?_
          refine lv_lload hx hb dX3_leastWithTheSecondsAlone_48 (lv_at hl 0 rfl) ?_
          refine lv_aload_n hx hb dX3_leastWithTheSecondsAlone_50 rfl (lv_at hl 1 rfl) ?_
          refine va_get (D := G) (ci := 3) (v := .ref t_settings_h) (C := RX3) (T := TX3) (N := 6) hx hb hts iwX3 hown hK hP 0 rfl rfl 0 (by decide) fl_9 (fun _ h9 => h9) rfl dX3_leastWithTheSecondsAlone_51 ?_
          refine va_getN (D := G) (ci := 4) (v := .int t_settings_alone) (C := RX4) (T := TX4) (N := 6) hx hb hts iwX4 hown hK hP 1 rfl rfl 5 (by decide) fl_89 (fun _ h9 => h9) rfl dX3_leastWithTheSecondsAlone_54 ?_
          refine lv_i2l (v := Int32.toInt64 t_settings_alone) hx hb dX3_leastWithTheSecondsAlone_57 rfl ?_
          refine lv_lmul hx hb dX3_leastWithTheSecondsAlone_58 ?_
          refine lv_bipush (v := 32) hx hb dX3_leastWithTheSecondsAlone_59 (by decide) ?_
          refine lv_lshl (v := (v13 * (Int32.toInt64 t_settings_alone)) <<< (Int32.toInt64 32 &&& 63)) hx hb dX3_leastWithTheSecondsAlone_61 rfl ?_
          refine lv_ladd hx hb dX3_leastWithTheSecondsAlone_62 ?_
          refine va_mmin_long hx hb (hml.trans hl.1.symm) hown lb_92 lbs_92 lbi_92 lbc_92 (Nat.le_of_ble_eq_true rfl) (Nat.le_of_ble_eq_true rfl) (Nat.zero_le _) (Nat.zero_le _) dX3_leastWithTheSecondsAlone_63 ?_
          refine lv_topl (fun v15 ev15 => ?_)
          have hf := bv_at ev15 hf
          refine lv_lstore_n (lv' := [(1, .long v15), (4, .long v13), (0, .ref t_h), (3, .int u2)]) hx hb dX3_leastWithTheSecondsAlone_66 rfl hl (by decide) rfl (fun ls hl => ?_)
          exact hj7 _ hf _ _ _ hP hD hS (lv_sub hl [2, 0, 3] rfl)
  exact hl1 _ _ _ ht1 _ _ _ hP hD hS (lv_sub hl [2, 1, 0] rfl)
set_option maxRecDepth 20000 in
theorem ggX3_bestKey_X7_size : GoodIn wsX3_bestKey wsX7_size := goodIn_r _ [8, 9, 66, 67, 68, 69] (by decide +kernel) (by decide +kernel)
set_option maxRecDepth 20000 in
theorem gX3_bestKey_X7_size : GoodIn wsX3_bestKey (wsV RX3 60 RX7 yX7_size wsX7_size) := goodIn_app (goodIn_of _ (by decide +kernel)) ggX3_bestKey_X7_size
set_option maxRecDepth 20000 in
theorem ggX3_bestKey_X3_fillCosts : GoodIn wsX3_bestKey wsX3_fillCosts := goodIn_r _ [14, 15, 16, 4, 5, 6, 7, 8, 9, 17, 18, 19, 13, 20, 3, 21, 22, 23, 24, 25, 26, 27, 28, 29, 30, 31, 32, 33, 34, 35, 36, 37, 38, 39, 40, 41, 60, 61, 62, 63, 64, 65, 66, 67, 68, 69, 70, 71, 72, 73, 74, 75] (by decide +kernel) (by decide +kernel)
set_option maxRecDepth 20000 in
theorem gX3_bestKey_X3_fillCosts : GoodIn wsX3_bestKey (wsV RX3 75 RX3 yX3_fillCosts wsX3_fillCosts) := goodIn_app (goodIn_of _ (by decide +kernel)) ggX3_bestKey_X3_fillCosts
set_option maxRecDepth 20000 in
theorem ggX3_bestKey_X3_bringIn : GoodIn wsX3_bestKey wsX3_bringIn := goodIn_r _ [45, 1, 2, 22, 15, 46, 47, 37, 48, 60, 61, 62, 63, 64, 65, 70, 71, 72, 73, 74, 75] (by decide +kernel) (by decide +kernel)
set_option maxRecDepth 20000 in
theorem gX3_bestKey_X3_bringIn : GoodIn wsX3_bestKey (wsV RX3 79 RX3 yX3_bringIn wsX3_bringIn) := goodIn_app (goodIn_of _ (by decide +kernel)) ggX3_bestKey_X3_bringIn
set_option maxRecDepth 20000 in
theorem ggX3_bestKey_X3_leastWithTheSecondsAlone : GoodIn wsX3_bestKey wsX3_leastWithTheSecondsAlone := goodIn_r _ [52, 2, 1, 16, 22, 46, 47, 37, 48, 4, 5, 6, 7, 8, 9, 53, 54, 55, 56, 57, 58, 59, 60, 61, 62, 63, 64, 65, 70, 71, 72, 73, 74, 75, 66, 67, 68, 69] (by decide +kernel) (by decide +kernel)
set_option maxRecDepth 20000 in
theorem gX3_bestKey_X3_leastWithTheSecondsAlone : GoodIn wsX3_bestKey (wsV RX3 82 RX3 yX3_leastWithTheSecondsAlone wsX3_leastWithTheSecondsAlone) := goodIn_app (goodIn_of _ (by decide +kernel)) ggX3_bestKey_X3_leastWithTheSecondsAlone
theorem dX3_bestKey_0 : decode cX3_bestKey 0 = .ok (.iconst 0, 1) := by decide +kernel
theorem dX3_bestKey_1 : decode cX3_bestKey 1 = .ok (.istore_n 1, 1) := by decide +kernel
theorem dX3_bestKey_2 : decode cX3_bestKey 2 = .ok (.iload_n 1, 1) := by decide +kernel
theorem dX3_bestKey_3 : decode cX3_bestKey 3 = .ok (.sipush 256, 3) := by decide +kernel
theorem dX3_bestKey_6 : decode cX3_bestKey 6 = .ok (.if_icmp .ge 18, 3) := by decide +kernel
theorem dX3_bestKey_9 : decode cX3_bestKey 9 = .ok (.aload_n 0, 1) := by decide +kernel
theorem dX3_bestKey_10 : decode cX3_bestKey 10 = .ok (.getfield 29, 3) := by decide +kernel
theorem dX3_bestKey_13 : decode cX3_bestKey 13 = .ok (.iload_n 1, 1) := by decide +kernel
theorem dX3_bestKey_14 : decode cX3_bestKey 14 = .ok (.ldc2_w 73, 3) := by decide +kernel
theorem dX3_bestKey_17 : decode cX3_bestKey 17 = .ok (.lastore, 1) := by decide +kernel
theorem dX3_bestKey_18 : decode cX3_bestKey 18 = .ok (.iinc 1 1, 3) := by decide +kernel
theorem dX3_bestKey_21 : decode cX3_bestKey 21 = .ok (.goto (-19), 3) := by decide +kernel
theorem dX3_bestKey_24 : decode cX3_bestKey 24 = .ok (.aload_n 0, 1) := by decide +kernel
theorem dX3_bestKey_25 : decode cX3_bestKey 25 = .ok (.getfield 29, 3) := by decide +kernel
theorem dX3_bestKey_28 : decode cX3_bestKey 28 = .ok (.iconst 0, 1) := by decide +kernel
theorem dX3_bestKey_29 : decode cX3_bestKey 29 = .ok (.lconst 0, 1) := by decide +kernel
theorem dX3_bestKey_30 : decode cX3_bestKey 30 = .ok (.lastore, 1) := by decide +kernel
theorem dX3_bestKey_31 : decode cX3_bestKey 31 = .ok (.iconst 0, 1) := by decide +kernel
theorem dX3_bestKey_32 : decode cX3_bestKey 32 = .ok (.istore_n 1, 1) := by decide +kernel
theorem dX3_bestKey_33 : decode cX3_bestKey 33 = .ok (.iload_n 1, 1) := by decide +kernel
theorem dX3_bestKey_34 : decode cX3_bestKey 34 = .ok (.aload_n 0, 1) := by decide +kernel
theorem dX3_bestKey_35 : decode cX3_bestKey 35 = .ok (.getfield 15, 3) := by decide +kernel
theorem dX3_bestKey_38 : decode cX3_bestKey 38 = .ok (.invokevirtual 60, 3) := by decide +kernel
theorem dX3_bestKey_41 : decode cX3_bestKey 41 = .ok (.if_icmp .ge 30, 3) := by decide +kernel
theorem dX3_bestKey_44 : decode cX3_bestKey 44 = .ok (.iload_n 1, 1) := by decide +kernel
theorem dX3_bestKey_45 : decode cX3_bestKey 45 = .ok (.bipush 8, 2) := by decide +kernel
theorem dX3_bestKey_47 : decode cX3_bestKey 47 = .ok (.if_icmp .ge 24, 3) := by decide +kernel
theorem dX3_bestKey_50 : decode cX3_bestKey 50 = .ok (.aload_n 0, 1) := by decide +kernel
theorem dX3_bestKey_51 : decode cX3_bestKey 51 = .ok (.iload_n 1, 1) := by decide +kernel
theorem dX3_bestKey_52 : decode cX3_bestKey 52 = .ok (.invokevirtual 75, 3) := by decide +kernel
theorem dX3_bestKey_55 : decode cX3_bestKey 55 = .ok (.aload_n 0, 1) := by decide +kernel
theorem dX3_bestKey_56 : decode cX3_bestKey 56 = .ok (.iconst 4, 1) := by decide +kernel
theorem dX3_bestKey_57 : decode cX3_bestKey 57 = .ok (.bipush 7, 2) := by decide +kernel
theorem dX3_bestKey_59 : decode cX3_bestKey 59 = .ok (.iload_n 1, 1) := by decide +kernel
theorem dX3_bestKey_60 : decode cX3_bestKey 60 = .ok (.isub, 1) := by decide +kernel
theorem dX3_bestKey_61 : decode cX3_bestKey 61 = .ok (.imul, 1) := by decide +kernel
theorem dX3_bestKey_62 : decode cX3_bestKey 62 = .ok (.invokevirtual 79, 3) := by decide +kernel
theorem dX3_bestKey_65 : decode cX3_bestKey 65 = .ok (.iinc 1 1, 3) := by decide +kernel
theorem dX3_bestKey_68 : decode cX3_bestKey 68 = .ok (.goto (-35), 3) := by decide +kernel
theorem dX3_bestKey_71 : decode cX3_bestKey 71 = .ok (.aload_n 0, 1) := by decide +kernel
theorem dX3_bestKey_72 : decode cX3_bestKey 72 = .ok (.invokevirtual 82, 3) := by decide +kernel
theorem dX3_bestKey_75 : decode cX3_bestKey 75 = .ok (.lreturn, 1) := by decide +kernel
set_option maxRecDepth 100000 in
def fX3_bestKey_L1  : (Int32 × (Nat → Int64)) → Option (((Nat → Int64)) ⊕ (Int32 × (Nat → Int64))) := un2 fun (u1 : Int32) (u2 : Nat → Int64) =>
  if 256 ≤ u1 then
    some (.inl u2)
  else
    gd (bnd u1 256) <|
    bv (vp_updL u2 (Int32.toNatClampNeg u1) 1152921504606846976) fun a5 =>
    bv (u1 + 1) fun v6 =>
    some (.inr (v6, a5))
set_option maxRecDepth 100000 in
def fX3_bestKey_L2 (t_first_lines : Int32) (t_settings_base : Int32) (t_settings_low : Int32) (t_settings_high : Int32) (t_settings_unlike : Int32) (t_first_width : Int32) (t_second_width : Int32) (t_second_lines : Int32) (t_layers_width : Int32) (t_layers_lines : Int32) (t_first_cells_n : Nat) (t_first_cells_a : Nat → Int32) (t_second_cells_n : Nat) (t_second_cells_a : Nat → Int32) (t_layers_cells_n : Nat) (t_layers_cells_a : Nat → Int32) (t_settings_alone : Int32) : (Int32 × (Nat → Int32) × (Nat → Int64)) → Option (((Nat → Int32) × (Nat → Int64)) ⊕ (Int32 × (Nat → Int32) × (Nat → Int64))) := un3 fun (u10 : Int32) (u11 : Nat → Int32) (u12 : Nat → Int64) =>
  ob (fX7_size t_first_lines) fun r13 =>
  if r13 ≤ u10 then
    some (.inl (u11, u12))
  else
    if 8 ≤ u10 then
      some (.inl (u11, u12))
    else
      ob (fX3_fillCosts u10 t_settings_base t_settings_low t_settings_high t_settings_unlike t_first_width t_second_width t_second_lines t_layers_width t_layers_lines u11 t_first_cells_n t_first_cells_a t_second_cells_n t_second_cells_a t_layers_cells_n t_layers_cells_a) fun w17 =>
      ob (fX3_bringIn (4 * (7 - u10)) t_settings_alone w17 u12) fun w19 =>
      bv (u10 + 1) fun v21 =>
      some (.inr (v21, w17, w19))
set_option maxRecDepth 100000 in
def fX3_bestKey (t_settings_base : Int32) (t_settings_low : Int32) (t_settings_high : Int32) (t_settings_unlike : Int32) (t_settings_alone : Int32) (t_first_width : Int32) (t_first_lines : Int32) (t_second_width : Int32) (t_second_lines : Int32) (t_layers_width : Int32) (t_layers_lines : Int32) (t_costs_a : Nat → Int32) (t_keys_a : Nat → Int64) (t_first_cells_n : Nat) (t_first_cells_a : Nat → Int32) (t_second_cells_n : Nat) (t_second_cells_a : Nat → Int32) (t_layers_cells_n : Nat) (t_layers_cells_a : Nat → Int32) : Option (Int64 × (Nat → Int32) × (Nat → Int64)) :=
  ob (it (fX3_bestKey_L1) 100000 (0, t_keys_a)) fun x7 =>
  gd (bnd 0 256) <|
  bv (vp_updL x7 (Int32.toNatClampNeg 0) 0) fun a9 =>
  ob2 (it (fX3_bestKey_L2 t_first_lines t_settings_base t_settings_low t_settings_high t_settings_unlike t_first_width t_second_width t_second_lines t_layers_width t_layers_lines t_first_cells_n t_first_cells_a t_second_cells_n t_second_cells_a t_layers_cells_n t_layers_cells_a t_settings_alone) 100000 (0, t_costs_a, a9)) fun x22 x23 =>
  ob (fX3_leastWithTheSecondsAlone t_settings_alone t_second_lines x23) fun r24 =>
  some (r24, x22, x23)
abbrev rmX3_bestKey : Room := { frames := 4, cells := 0, slots := 0, locals := 95 }
theorem iwX3_bestKey_X3 : ∀ w ∈ u_ws RX3 TX3 6, w ∈ wsX3_bestKey := by decide +kernel
set_option maxHeartbeats 4000000 in
set_option maxRecDepth 100000 in
theorem k_X3_bestKey (l : Launch) (G : va_G) (cI cJ : ClassId) (t_h t_settings_h t_first_h t_second_h t_layers_h t_costs_h t_keys_h t_first_cells_h t_second_cells_h t_layers_cells_h : Nat) (sz : Nat) (t_settings_base : Int32) (t_settings_slip : Int32) (t_settings_low : Int32) (t_settings_high : Int32) (t_settings_unlike : Int32) (t_settings_alone : Int32) (t_first_width : Int32) (t_first_most : Int32) (t_first_lines : Int32) (t_second_width : Int32) (t_second_most : Int32) (t_second_lines : Int32) (t_layers_width : Int32) (t_layers_most : Int32) (t_layers_lines : Int32) (t_costs_a : Nat → Int32) (t_keys_a : Nat → Int64) (t_first_cells_n : Nat) (t_first_cells_a : Nat → Int32) (t_second_cells_n : Nat) (t_second_cells_a : Nat → Int32) (t_layers_cells_n : Nat) (t_layers_cells_a : Nat → Int32) {o_r : Int64} {o_t_costs_a : Nat → Int32} {o_t_keys_a : Nat → Int64} (hf : fX3_bestKey t_settings_base t_settings_low t_settings_high t_settings_unlike t_settings_alone t_first_width t_first_lines t_second_width t_second_lines t_layers_width t_layers_lines t_costs_a t_keys_a t_first_cells_n t_first_cells_a t_second_cells_n t_second_cells_a t_layers_cells_n t_layers_cells_a = some (o_r, o_t_costs_a, o_t_keys_a)) : MetL l yX3_bestKey wsX3_bestKey rmX3_bestKey [.ref t_h] G cI cJ [(t_h, .inr (3, [.ref t_settings_h, .ref t_first_h, .ref t_second_h, .ref t_layers_h, .ref t_costs_h, .ref t_keys_h])), (t_settings_h, .inr (4, [.int t_settings_base, .int t_settings_slip, .int t_settings_low, .int t_settings_high, .int t_settings_unlike, .int t_settings_alone])), (t_first_h, .inr (7, [.int t_first_width, .int t_first_most, .ref t_first_cells_h, .int t_first_lines])), (t_second_h, .inr (7, [.int t_second_width, .int t_second_most, .ref t_second_cells_h, .int t_second_lines])), (t_layers_h, .inr (7, [.int t_layers_width, .int t_layers_most, .ref t_layers_cells_h, .int t_layers_lines])), (t_costs_h, .inl (cI, 8, .inl t_costs_a)), (t_keys_h, .inl (cJ, 256, .inr (.inl t_keys_a))), (t_first_cells_h, .inl (cI, t_first_cells_n, .inl t_first_cells_a)), (t_second_cells_h, .inl (cI, t_second_cells_n, .inl t_second_cells_a)), (t_layers_cells_h, .inl (cI, t_layers_cells_n, .inl t_layers_cells_a))] [(t_h, .inr (3, [.ref t_settings_h, .ref t_first_h, .ref t_second_h, .ref t_layers_h, .ref t_costs_h, .ref t_keys_h])), (t_settings_h, .inr (4, [.int t_settings_base, .int t_settings_slip, .int t_settings_low, .int t_settings_high, .int t_settings_unlike, .int t_settings_alone])), (t_first_h, .inr (7, [.int t_first_width, .int t_first_most, .ref t_first_cells_h, .int t_first_lines])), (t_second_h, .inr (7, [.int t_second_width, .int t_second_most, .ref t_second_cells_h, .int t_second_lines])), (t_layers_h, .inr (7, [.int t_layers_width, .int t_layers_most, .ref t_layers_cells_h, .int t_layers_lines])), (t_costs_h, .inl (cI, 8, .inl o_t_costs_a)), (t_keys_h, .inl (cJ, 256, .inr (.inl o_t_keys_a))), (t_first_cells_h, .inl (cI, t_first_cells_n, .inl t_first_cells_a)), (t_second_cells_h, .inl (cI, t_second_cells_n, .inl t_second_cells_a)), (t_layers_cells_h, .inl (cI, t_layers_cells_n, .inl t_layers_cells_a))] sz o_r := by
  refine en_0 (l := l) (y := yX3_bestKey) (wsl := wsX3_bestKey) (rm := rmX3_bestKey) (av := [.ref t_h]) (G := G) (cI := cI) (cJ := cJ) (w0 := [(t_h, .inr (3, [.ref t_settings_h, .ref t_first_h, .ref t_second_h, .ref t_layers_h, .ref t_costs_h, .ref t_keys_h])), (t_settings_h, .inr (4, [.int t_settings_base, .int t_settings_slip, .int t_settings_low, .int t_settings_high, .int t_settings_unlike, .int t_settings_alone])), (t_first_h, .inr (7, [.int t_first_width, .int t_first_most, .ref t_first_cells_h, .int t_first_lines])), (t_second_h, .inr (7, [.int t_second_width, .int t_second_most, .ref t_second_cells_h, .int t_second_lines])), (t_layers_h, .inr (7, [.int t_layers_width, .int t_layers_most, .ref t_layers_cells_h, .int t_layers_lines])), (t_costs_h, .inl (cI, 8, .inl t_costs_a)), (t_keys_h, .inl (cJ, 256, .inr (.inl t_keys_a))), (t_first_cells_h, .inl (cI, t_first_cells_n, .inl t_first_cells_a)), (t_second_cells_h, .inl (cI, t_second_cells_n, .inl t_second_cells_a)), (t_layers_cells_h, .inl (cI, t_layers_cells_n, .inl t_layers_cells_a))]) (sz := sz) (Qf := fun A => Ql0 G cI cJ [(t_h, .inr (3, [.ref t_settings_h, .ref t_first_h, .ref t_second_h, .ref t_layers_h, .ref t_costs_h, .ref t_keys_h])), (t_settings_h, .inr (4, [.int t_settings_base, .int t_settings_slip, .int t_settings_low, .int t_settings_high, .int t_settings_unlike, .int t_settings_alone])), (t_first_h, .inr (7, [.int t_first_width, .int t_first_most, .ref t_first_cells_h, .int t_first_lines])), (t_second_h, .inr (7, [.int t_second_width, .int t_second_most, .ref t_second_cells_h, .int t_second_lines])), (t_layers_h, .inr (7, [.int t_layers_width, .int t_layers_most, .ref t_layers_cells_h, .int t_layers_lines])), (t_costs_h, .inl (cI, 8, .inl o_t_costs_a)), (t_keys_h, .inl (cJ, 256, .inr (.inl o_t_keys_a))), (t_first_cells_h, .inl (cI, t_first_cells_n, .inl t_first_cells_a)), (t_second_cells_h, .inl (cI, t_second_cells_n, .inl t_second_cells_a)), (t_layers_cells_h, .inl (cI, t_layers_cells_n, .inl t_layers_cells_a))] o_r A) (cc := cX3_bestKey) (maxL := 2) (ret := (some .long)) RX3 (by decide +kernel) rfl rfl (Nat.le_of_ble_eq_true rfl) ?_
  intro p e s m args below meth c A ls Q hQ hx hb hr hts hown hlocks hml hN hK hP hD hS hA hl
  have hl : lv_has ls 2 [(0, .ref t_h)] := hl
  have iwX3 := iwX3_bestKey_X3
  have fl_15 := hts (.fieldLink RX3 15 "CloudOffice$Matching" "first" "LCloudOffice$Table;") (by decide +kernel)
  have fl_29 := hts (.fieldLink RX3 29 "CloudOffice$Matching" "keys" "[J") (by decide +kernel)
  have kc_73 := hts (.constantLong RX3 73 (1152921504606846976)) (by decide +kernel)
  have hret : ∀ (o_r9 : Int64) (o_t_costs_a9 : Nat → Int32) (o_t_keys_a9 : Nat → Int64) (pc : Nat) (H : Heap) (locs : List Loc) (ls : Array Slot), decode cX3_bestKey pc = .ok (.lreturn, 1) → some (o_r9, o_t_costs_a9, o_t_keys_a9) = some (o_r, o_t_costs_a, o_t_keys_a) → va_P G vwCl [(t_h, .inr (3, [.ref t_settings_h, .ref t_first_h, .ref t_second_h, .ref t_layers_h, .ref t_costs_h, .ref t_keys_h])), (t_settings_h, .inr (4, [.int t_settings_base, .int t_settings_slip, .int t_settings_low, .int t_settings_high, .int t_settings_unlike, .int t_settings_alone])), (t_first_h, .inr (7, [.int t_first_width, .int t_first_most, .ref t_first_cells_h, .int t_first_lines])), (t_second_h, .inr (7, [.int t_second_width, .int t_second_most, .ref t_second_cells_h, .int t_second_lines])), (t_layers_h, .inr (7, [.int t_layers_width, .int t_layers_most, .ref t_layers_cells_h, .int t_layers_lines])), (t_costs_h, .inl (cI, 8, .inl o_t_costs_a9)), (t_keys_h, .inl (cJ, 256, .inr (.inl o_t_keys_a9))), (t_first_cells_h, .inl (cI, t_first_cells_n, .inl t_first_cells_a)), (t_second_cells_h, .inl (cI, t_second_cells_n, .inl t_second_cells_a)), (t_layers_cells_h, .inl (cI, t_layers_cells_n, .inl t_layers_cells_a))] H → va_D A [(t_h, .inr (3, [.ref t_settings_h, .ref t_first_h, .ref t_second_h, .ref t_layers_h, .ref t_costs_h, .ref t_keys_h])), (t_settings_h, .inr (4, [.int t_settings_base, .int t_settings_slip, .int t_settings_low, .int t_settings_high, .int t_settings_unlike, .int t_settings_alone])), (t_first_h, .inr (7, [.int t_first_width, .int t_first_most, .ref t_first_cells_h, .int t_first_lines])), (t_second_h, .inr (7, [.int t_second_width, .int t_second_most, .ref t_second_cells_h, .int t_second_lines])), (t_layers_h, .inr (7, [.int t_layers_width, .int t_layers_most, .ref t_layers_cells_h, .int t_layers_lines])), (t_costs_h, .inl (cI, 8, .inl o_t_costs_a9)), (t_keys_h, .inl (cJ, 256, .inr (.inl o_t_keys_a9))), (t_first_cells_h, .inl (cI, t_first_cells_n, .inl t_first_cells_a)), (t_second_cells_h, .inl (cI, t_second_cells_n, .inl t_second_cells_a)), (t_layers_cells_h, .inl (cI, t_layers_cells_n, .inl t_layers_cells_a))] → va_S A s.heap H locs → W p l e rmX3_bestKey s m args below meth c H locs 0 0 Q (F0 m pc ls [.long o_r9]) := by
    intro o_r9 o_t_costs_a9 o_t_keys_a9 pc H locs ls hdg he hP hD hS
    cases he
    subst hQ
    exact rt_l hx hb hr hlocks hK hP hD hS rfl hdg
  clear hQ
  unfold fX3_bestKey at hf
  refine lv_iconst (v := 0) hx hb dX3_bestKey_0 (by decide) ?_
  refine lv_istore_n (lv' := [(1, .int 0), (0, .ref t_h)]) hx hb dX3_bestKey_1 rfl hl (by decide) rfl (fun ls hl => ?_)
  obtain ⟨x7, ht1, hf⟩ := ob_some hf
  have hx1_0 : ∀ (x79 : Nat → Int64), x79 = x7 → ∀ (H : Heap) (locs : List Loc) (ls : Array Slot), va_P G vwCl [(t_h, .inr (3, [.ref t_settings_h, .ref t_first_h, .ref t_second_h, .ref t_layers_h, .ref t_costs_h, .ref t_keys_h])), (t_settings_h, .inr (4, [.int t_settings_base, .int t_settings_slip, .int t_settings_low, .int t_settings_high, .int t_settings_unlike, .int t_settings_alone])), (t_first_h, .inr (7, [.int t_first_width, .int t_first_most, .ref t_first_cells_h, .int t_first_lines])), (t_second_h, .inr (7, [.int t_second_width, .int t_second_most, .ref t_second_cells_h, .int t_second_lines])), (t_layers_h, .inr (7, [.int t_layers_width, .int t_layers_most, .ref t_layers_cells_h, .int t_layers_lines])), (t_costs_h, .inl (cI, 8, .inl t_costs_a)), (t_keys_h, .inl (cJ, 256, .inr (.inl x79))), (t_first_cells_h, .inl (cI, t_first_cells_n, .inl t_first_cells_a)), (t_second_cells_h, .inl (cI, t_second_cells_n, .inl t_second_cells_a)), (t_layers_cells_h, .inl (cI, t_layers_cells_n, .inl t_layers_cells_a))] H → va_D A [(t_h, .inr (3, [.ref t_settings_h, .ref t_first_h, .ref t_second_h, .ref t_layers_h, .ref t_costs_h, .ref t_keys_h])), (t_settings_h, .inr (4, [.int t_settings_base, .int t_settings_slip, .int t_settings_low, .int t_settings_high, .int t_settings_unlike, .int t_settings_alone])), (t_first_h, .inr (7, [.int t_first_width, .int t_first_most, .ref t_first_cells_h, .int t_first_lines])), (t_second_h, .inr (7, [.int t_second_width, .int t_second_most, .ref t_second_cells_h, .int t_second_lines])), (t_layers_h, .inr (7, [.int t_layers_width, .int t_layers_most, .ref t_layers_cells_h, .int t_layers_lines])), (t_costs_h, .inl (cI, 8, .inl t_costs_a)), (t_keys_h, .inl (cJ, 256, .inr (.inl x79))), (t_first_cells_h, .inl (cI, t_first_cells_n, .inl t_first_cells_a)), (t_second_cells_h, .inl (cI, t_second_cells_n, .inl t_second_cells_a)), (t_layers_cells_h, .inl (cI, t_layers_cells_n, .inl t_layers_cells_a))] → va_S A s.heap H locs → lv_has ls 2 [(0, .ref t_h)] → W p l e rmX3_bestKey s m args below meth c H locs 0 0 Q (F0 m 24 ls []) := by
    intro x79 he H locs ls hP hD hS hl
    cases he
    refine lv_aload_n hx hb dX3_bestKey_24 rfl (lv_at hl 0 rfl) ?_
    refine va_get (D := G) (ci := 3) (v := .ref t_keys_h) (C := RX3) (T := TX3) (N := 6) hx hb hts iwX3 hown hK hP 0 rfl rfl 5 (by decide) fl_29 (fun _ h9 => h9) rfl dX3_bestKey_25 ?_
    refine lv_iconst (v := 0) hx hb dX3_bestKey_28 (by decide) ?_
    refine lv_lconst (v := 0) hx hb dX3_bestKey_29 (by decide) ?_
    obtain ⟨h8, hf⟩ := gd_some hf
    obtain ⟨a9, ea9⟩ : ∃ y : Nat → Int64, y = vp_updL x7 (Int32.toNatClampNeg 0) 0 := ⟨_, rfl⟩
    have hf := bv_at ea9 hf
    refine va_last hx hb hK hP hD hS 6 1 rfl rfl (bnd_in h8) dX3_bestKey_30 (fun H locs hP hD hS => ?_)
    have hP : va_P G vwCl [(t_h, .inr (3, [.ref t_settings_h, .ref t_first_h, .ref t_second_h, .ref t_layers_h, .ref t_costs_h, .ref t_keys_h])), (t_settings_h, .inr (4, [.int t_settings_base, .int t_settings_slip, .int t_settings_low, .int t_settings_high, .int t_settings_unlike, .int t_settings_alone])), (t_first_h, .inr (7, [.int t_first_width, .int t_first_most, .ref t_first_cells_h, .int t_first_lines])), (t_second_h, .inr (7, [.int t_second_width, .int t_second_most, .ref t_second_cells_h, .int t_second_lines])), (t_layers_h, .inr (7, [.int t_layers_width, .int t_layers_most, .ref t_layers_cells_h, .int t_layers_lines])), (t_costs_h, .inl (cI, 8, .inl t_costs_a)), (t_keys_h, .inl (cJ, 256, .inr (.inl a9))), (t_first_cells_h, .inl (cI, t_first_cells_n, .inl t_first_cells_a)), (t_second_cells_h, .inl (cI, t_second_cells_n, .inl t_second_cells_a)), (t_layers_cells_h, .inl (cI, t_layers_cells_n, .inl t_layers_cells_a))] H := by rw [ea9]; exact hP
    have hD : va_D A [(t_h, .inr (3, [.ref t_settings_h, .ref t_first_h, .ref t_second_h, .ref t_layers_h, .ref t_costs_h, .ref t_keys_h])), (t_settings_h, .inr (4, [.int t_settings_base, .int t_settings_slip, .int t_settings_low, .int t_settings_high, .int t_settings_unlike, .int t_settings_alone])), (t_first_h, .inr (7, [.int t_first_width, .int t_first_most, .ref t_first_cells_h, .int t_first_lines])), (t_second_h, .inr (7, [.int t_second_width, .int t_second_most, .ref t_second_cells_h, .int t_second_lines])), (t_layers_h, .inr (7, [.int t_layers_width, .int t_layers_most, .ref t_layers_cells_h, .int t_layers_lines])), (t_costs_h, .inl (cI, 8, .inl t_costs_a)), (t_keys_h, .inl (cJ, 256, .inr (.inl a9))), (t_first_cells_h, .inl (cI, t_first_cells_n, .inl t_first_cells_a)), (t_second_cells_h, .inl (cI, t_second_cells_n, .inl t_second_cells_a)), (t_layers_cells_h, .inl (cI, t_layers_cells_n, .inl t_layers_cells_a))] := by rw [ea9]; exact hD
    refine lv_iconst (v := 0) hx hb dX3_bestKey_31 (by decide) ?_
    refine lv_istore_n (lv' := [(1, .int 0), (0, .ref t_h)]) hx hb dX3_bestKey_32 rfl hl (by decide) rfl (fun ls hl => ?_)
    obtain ⟨x22, x23, ht2, hf⟩ := ob2_some hf
    have hx2_0 : ∀ (x229 : Nat → Int32) (x239 : Nat → Int64), (x229, x239) = (x22, x23) → ∀ (H : Heap) (locs : List Loc) (ls : Array Slot), va_P G vwCl [(t_h, .inr (3, [.ref t_settings_h, .ref t_first_h, .ref t_second_h, .ref t_layers_h, .ref t_costs_h, .ref t_keys_h])), (t_settings_h, .inr (4, [.int t_settings_base, .int t_settings_slip, .int t_settings_low, .int t_settings_high, .int t_settings_unlike, .int t_settings_alone])), (t_first_h, .inr (7, [.int t_first_width, .int t_first_most, .ref t_first_cells_h, .int t_first_lines])), (t_second_h, .inr (7, [.int t_second_width, .int t_second_most, .ref t_second_cells_h, .int t_second_lines])), (t_layers_h, .inr (7, [.int t_layers_width, .int t_layers_most, .ref t_layers_cells_h, .int t_layers_lines])), (t_costs_h, .inl (cI, 8, .inl x229)), (t_keys_h, .inl (cJ, 256, .inr (.inl x239))), (t_first_cells_h, .inl (cI, t_first_cells_n, .inl t_first_cells_a)), (t_second_cells_h, .inl (cI, t_second_cells_n, .inl t_second_cells_a)), (t_layers_cells_h, .inl (cI, t_layers_cells_n, .inl t_layers_cells_a))] H → va_D A [(t_h, .inr (3, [.ref t_settings_h, .ref t_first_h, .ref t_second_h, .ref t_layers_h, .ref t_costs_h, .ref t_keys_h])), (t_settings_h, .inr (4, [.int t_settings_base, .int t_settings_slip, .int t_settings_low, .int t_settings_high, .int t_settings_unlike, .int t_settings_alone])), (t_first_h, .inr (7, [.int t_first_width, .int t_first_most, .ref t_first_cells_h, .int t_first_lines])), (t_second_h, .inr (7, [.int t_second_width, .int t_second_most, .ref t_second_cells_h, .int t_second_lines])), (t_layers_h, .inr (7, [.int t_layers_width, .int t_layers_most, .ref t_layers_cells_h, .int t_layers_lines])), (t_costs_h, .inl (cI, 8, .inl x229)), (t_keys_h, .inl (cJ, 256, .inr (.inl x239))), (t_first_cells_h, .inl (cI, t_first_cells_n, .inl t_first_cells_a)), (t_second_cells_h, .inl (cI, t_second_cells_n, .inl t_second_cells_a)), (t_layers_cells_h, .inl (cI, t_layers_cells_n, .inl t_layers_cells_a))] → va_S A s.heap H locs → lv_has ls 2 [(0, .ref t_h)] → W p l e rmX3_bestKey s m args below meth c H locs 0 0 Q (F0 m 71 ls []) := by
      intro x229 x239 he H locs ls hP hD hS hl
      cases he
      refine lv_aload_n hx hb dX3_bestKey_71 rfl (lv_at hl 0 rfl) ?_
      obtain ⟨r24, hc25, hf⟩ := ob_some hf
      refine af_lR (va_runV (As := []) (rest := []) ⟨hx, hb, hml, hown, hts⟩ (k_X3_leastWithTheSecondsAlone l G cI cJ (t_h := t_h) (t_settings_h := t_settings_h) (t_first_h := t_first_h) (t_second_h := t_second_h) (t_layers_h := t_layers_h) (t_costs_h := t_costs_h) (t_keys_h := t_keys_h) (t_second_cells_h := t_second_cells_h) (t_settings_base := t_settings_base) (t_settings_slip := t_settings_slip) (t_settings_low := t_settings_low) (t_settings_high := t_settings_high) (t_settings_unlike := t_settings_unlike) (t_settings_alone := t_settings_alone) (t_second_width := t_second_width) (t_second_most := t_second_most) (t_second_lines := t_second_lines) (t_keys_a := x23) (sz := _) (hf := hc25)) (cwV 0 hts gX3_bestKey_X3_leastWithTheSecondsAlone rfl rfl rfl (by decide +kernel) ⟨Nat.le_of_ble_eq_true rfl, Nat.le_of_ble_eq_true rfl⟩) (preV0 (ci := 3) (q0 := 0) (C := RX3) (wc := [(t_h, .inr (3, [.ref t_settings_h, .ref t_first_h, .ref t_second_h, .ref t_layers_h, .ref t_costs_h, .ref t_keys_h])), (t_settings_h, .inr (4, [.int t_settings_base, .int t_settings_slip, .int t_settings_low, .int t_settings_high, .int t_settings_unlike, .int t_settings_alone])), (t_second_h, .inr (7, [.int t_second_width, .int t_second_most, .ref t_second_cells_h, .int t_second_lines])), (t_keys_h, .inl (cJ, 256, .inr (.inl x23)))]) hK hP hD hN [0, 1, 3, 6] rfl rfl (by decide) rfl rfl) rfl rfl hl.1 rfl (lv_room (Nat.le_of_ble_eq_true rfl)) dX3_bestKey_72 ⟨Nat.zero_le _, Nat.zero_le _⟩) hP hD hS hA [0, 1, 3, 6] rfl (fun H locs hP hS => ?_)
      exact hret r24 x22 x23 75 _ _ _ dX3_bestKey_75 hf hP hD hS
    clear hf
    have hl2 : ∀ (n : Nat) (u10 : Int32) (u11 : Nat → Int32) (u12 : Nat → Int64), it (fX3_bestKey_L2 t_first_lines t_settings_base t_settings_low t_settings_high t_settings_unlike t_first_width t_second_width t_second_lines t_layers_width t_layers_lines t_first_cells_n t_first_cells_a t_second_cells_n t_second_cells_a t_layers_cells_n t_layers_cells_a t_settings_alone) n (u10, u11, u12) = some (x22, x23) → ∀ (H : Heap) (locs : List Loc) (ls : Array Slot), va_P G vwCl [(t_h, .inr (3, [.ref t_settings_h, .ref t_first_h, .ref t_second_h, .ref t_layers_h, .ref t_costs_h, .ref t_keys_h])), (t_settings_h, .inr (4, [.int t_settings_base, .int t_settings_slip, .int t_settings_low, .int t_settings_high, .int t_settings_unlike, .int t_settings_alone])), (t_first_h, .inr (7, [.int t_first_width, .int t_first_most, .ref t_first_cells_h, .int t_first_lines])), (t_second_h, .inr (7, [.int t_second_width, .int t_second_most, .ref t_second_cells_h, .int t_second_lines])), (t_layers_h, .inr (7, [.int t_layers_width, .int t_layers_most, .ref t_layers_cells_h, .int t_layers_lines])), (t_costs_h, .inl (cI, 8, .inl u11)), (t_keys_h, .inl (cJ, 256, .inr (.inl u12))), (t_first_cells_h, .inl (cI, t_first_cells_n, .inl t_first_cells_a)), (t_second_cells_h, .inl (cI, t_second_cells_n, .inl t_second_cells_a)), (t_layers_cells_h, .inl (cI, t_layers_cells_n, .inl t_layers_cells_a))] H → va_D A [(t_h, .inr (3, [.ref t_settings_h, .ref t_first_h, .ref t_second_h, .ref t_layers_h, .ref t_costs_h, .ref t_keys_h])), (t_settings_h, .inr (4, [.int t_settings_base, .int t_settings_slip, .int t_settings_low, .int t_settings_high, .int t_settings_unlike, .int t_settings_alone])), (t_first_h, .inr (7, [.int t_first_width, .int t_first_most, .ref t_first_cells_h, .int t_first_lines])), (t_second_h, .inr (7, [.int t_second_width, .int t_second_most, .ref t_second_cells_h, .int t_second_lines])), (t_layers_h, .inr (7, [.int t_layers_width, .int t_layers_most, .ref t_layers_cells_h, .int t_layers_lines])), (t_costs_h, .inl (cI, 8, .inl u11)), (t_keys_h, .inl (cJ, 256, .inr (.inl u12))), (t_first_cells_h, .inl (cI, t_first_cells_n, .inl t_first_cells_a)), (t_second_cells_h, .inl (cI, t_second_cells_n, .inl t_second_cells_a)), (t_layers_cells_h, .inl (cI, t_layers_cells_n, .inl t_layers_cells_a))] → va_S A s.heap H locs → lv_has ls 2 [(0, .ref t_h), (1, .int u10)] → W p l e rmX3_bestKey s m args below meth c H locs 0 0 Q (F0 m 33 ls []) := by
      intro n
      induction n with
      | zero => intro u10 u11 u12 hz; exact (it_zero hz).elim
      | succ n ih =>
        intro u10 u11 u12 hz H locs ls hP hD hS hl
        obtain ⟨x9, hf, hq⟩ := it_succ hz
        unfold fX3_bestKey_L2 at hf
        dsimp only [un3] at hf
        refine lv_iload_n hx hb dX3_bestKey_33 rfl (lv_at hl 1 rfl) ?_
        refine lv_aload_n hx hb dX3_bestKey_34 rfl (lv_at hl 0 rfl) ?_
        refine va_get (D := G) (ci := 3) (v := .ref t_first_h) (C := RX3) (T := TX3) (N := 6) hx hb hts iwX3 hown hK hP 0 rfl rfl 1 (by decide) fl_15 (fun _ h9 => h9) rfl dX3_bestKey_35 ?_
        obtain ⟨r13, hc14, hf⟩ := ob_some hf
        refine af_iR (va_runV (As := []) (rest := [.int u10]) ⟨hx, hb, hml, hown, hts⟩ (k_X7_size l G cI cJ (t_h := t_first_h) (t_cells_h := t_first_cells_h) (t_width := t_first_width) (t_most := t_first_most) (t_lines := t_first_lines) (sz := _) (hf := hc14)) (cwV 0 hts gX3_bestKey_X7_size rfl rfl rfl (by decide +kernel) ⟨Nat.le_of_ble_eq_true rfl, Nat.le_of_ble_eq_true rfl⟩) (preV0 (ci := 7) (q0 := 0) (C := RX7) (wc := [(t_first_h, .inr (7, [.int t_first_width, .int t_first_most, .ref t_first_cells_h, .int t_first_lines]))]) hK hP hD hN [2] rfl rfl (by decide) rfl rfl) rfl rfl hl.1 rfl (lv_room (Nat.le_of_ble_eq_true rfl)) dX3_bestKey_38 ⟨Nat.zero_le _, Nat.zero_le _⟩) hP hD hS hA [2] rfl (fun H locs hP hS => ?_)
        refine lv_icmp_ge (tgt := 71) hx hb dX3_bestKey_41 (by decide) (fun c15 => ?_) (fun c15 => ?_)
        · have hf := ift hf c15
          cases hf
          exact hx2_0 _ _ hq _ _ _ hP hD hS (lv_sub hl [0] rfl)
        · have hf := iff_ hf c15
          refine lv_iload_n hx hb dX3_bestKey_44 rfl (lv_at hl 1 rfl) ?_
          refine lv_bipush (v := 8) hx hb dX3_bestKey_45 (by decide) ?_
          refine lv_icmp_ge (tgt := 71) hx hb dX3_bestKey_47 (by decide) (fun c16 => ?_) (fun c16 => ?_)
          · have hf := ift hf c16
            cases hf
            exact hx2_0 _ _ hq _ _ _ hP hD hS (lv_sub hl [0] rfl)
          · have hf := iff_ hf c16
            refine lv_aload_n hx hb dX3_bestKey_50 rfl (lv_at hl 0 rfl) ?_
            refine lv_iload_n hx hb dX3_bestKey_51 rfl (lv_at hl 1 rfl) ?_
            obtain ⟨w17, hc18, hf⟩ := ob_some hf
            refine af_vW (wr := [(t_keys_h, .inl (cJ, 256, .inr (.inl u12)))]) (ws2 := [(t_h, .inr (3, [.ref t_settings_h, .ref t_first_h, .ref t_second_h, .ref t_layers_h, .ref t_costs_h, .ref t_keys_h])), (t_settings_h, .inr (4, [.int t_settings_base, .int t_settings_slip, .int t_settings_low, .int t_settings_high, .int t_settings_unlike, .int t_settings_alone])), (t_first_h, .inr (7, [.int t_first_width, .int t_first_most, .ref t_first_cells_h, .int t_first_lines])), (t_second_h, .inr (7, [.int t_second_width, .int t_second_most, .ref t_second_cells_h, .int t_second_lines])), (t_layers_h, .inr (7, [.int t_layers_width, .int t_layers_most, .ref t_layers_cells_h, .int t_layers_lines])), (t_costs_h, .inl (cI, 8, .inl w17)), (t_keys_h, .inl (cJ, 256, .inr (.inl u12))), (t_first_cells_h, .inl (cI, t_first_cells_n, .inl t_first_cells_a)), (t_second_cells_h, .inl (cI, t_second_cells_n, .inl t_second_cells_a)), (t_layers_cells_h, .inl (cI, t_layers_cells_n, .inl t_layers_cells_a))]) (va_runV (As := [.int u10]) (rest := []) ⟨hx, hb, hml, hown, hts⟩ (k_X3_fillCosts l G cI cJ (t_h := t_h) (t_settings_h := t_settings_h) (t_first_h := t_first_h) (t_second_h := t_second_h) (t_layers_h := t_layers_h) (t_costs_h := t_costs_h) (t_keys_h := t_keys_h) (t_first_cells_h := t_first_cells_h) (t_second_cells_h := t_second_cells_h) (t_layers_cells_h := t_layers_cells_h) (t_settings_base := t_settings_base) (t_settings_slip := t_settings_slip) (t_settings_low := t_settings_low) (t_settings_high := t_settings_high) (t_settings_unlike := t_settings_unlike) (t_settings_alone := t_settings_alone) (t_first_width := t_first_width) (t_first_most := t_first_most) (t_first_lines := t_first_lines) (t_second_width := t_second_width) (t_second_most := t_second_most) (t_second_lines := t_second_lines) (t_layers_width := t_layers_width) (t_layers_most := t_layers_most) (t_layers_lines := t_layers_lines) (t_costs_a := u11) (t_first_cells_n := t_first_cells_n) (t_first_cells_a := t_first_cells_a) (t_second_cells_n := t_second_cells_n) (t_second_cells_a := t_second_cells_a) (t_layers_cells_n := t_layers_cells_n) (t_layers_cells_a := t_layers_cells_a) (x1 := u10) (sz := _) (hf := hc18)) (cwV 1 hts gX3_bestKey_X3_fillCosts rfl rfl rfl (by decide +kernel) ⟨Nat.le_of_ble_eq_true rfl, Nat.le_of_ble_eq_true rfl⟩) (preV0 (ci := 3) (q0 := 0) (C := RX3) (wc := [(t_h, .inr (3, [.ref t_settings_h, .ref t_first_h, .ref t_second_h, .ref t_layers_h, .ref t_costs_h, .ref t_keys_h])), (t_settings_h, .inr (4, [.int t_settings_base, .int t_settings_slip, .int t_settings_low, .int t_settings_high, .int t_settings_unlike, .int t_settings_alone])), (t_first_h, .inr (7, [.int t_first_width, .int t_first_most, .ref t_first_cells_h, .int t_first_lines])), (t_second_h, .inr (7, [.int t_second_width, .int t_second_most, .ref t_second_cells_h, .int t_second_lines])), (t_layers_h, .inr (7, [.int t_layers_width, .int t_layers_most, .ref t_layers_cells_h, .int t_layers_lines])), (t_costs_h, .inl (cI, 8, .inl u11)), (t_first_cells_h, .inl (cI, t_first_cells_n, .inl t_first_cells_a)), (t_second_cells_h, .inl (cI, t_second_cells_n, .inl t_second_cells_a)), (t_layers_cells_h, .inl (cI, t_layers_cells_n, .inl t_layers_cells_a))]) hK hP hD hN [0, 1, 2, 3, 4, 5, 7, 8, 9] rfl rfl (by decide) rfl rfl) rfl rfl hl.1 rfl (lv_room (Nat.le_of_ble_eq_true rfl)) dX3_bestKey_52 ⟨Nat.zero_le _, Nat.zero_le _⟩) hP hD hS hA [0, 1, 2, 3, 4, 5, 7, 8, 9] [6] [1, 2, 3, 4, 5, 6, 0, 7, 8, 9] rfl rfl (by decide) (by decide) rfl rfl (by decide) (fun H locs hP hD hS => ?_)
            refine lv_aload_n hx hb dX3_bestKey_55 rfl (lv_at hl 0 rfl) ?_
            refine lv_iconst (v := 4) hx hb dX3_bestKey_56 (by decide) ?_
            refine lv_bipush (v := 7) hx hb dX3_bestKey_57 (by decide) ?_
            refine lv_iload_n hx hb dX3_bestKey_59 rfl (lv_at hl 1 rfl) ?_
            refine lv_isub hx hb dX3_bestKey_60 ?_
            refine lv_imul hx hb dX3_bestKey_61 ?_
            obtain ⟨w19, hc20, hf⟩ := ob_some hf
            refine af_vW (wr := [(t_first_h, .inr (7, [.int t_first_width, .int t_first_most, .ref t_first_cells_h, .int t_first_lines])), (t_second_h, .inr (7, [.int t_second_width, .int t_second_most, .ref t_second_cells_h, .int t_second_lines])), (t_layers_h, .inr (7, [.int t_layers_width, .int t_layers_most, .ref t_layers_cells_h, .int t_layers_lines])), (t_first_cells_h, .inl (cI, t_first_cells_n, .inl t_first_cells_a)), (t_second_cells_h, .inl (cI, t_second_cells_n, .inl t_second_cells_a)), (t_layers_cells_h, .inl (cI, t_layers_cells_n, .inl t_layers_cells_a))]) (ws2 := [(t_h, .inr (3, [.ref t_settings_h, .ref t_first_h, .ref t_second_h, .ref t_layers_h, .ref t_costs_h, .ref t_keys_h])), (t_settings_h, .inr (4, [.int t_settings_base, .int t_settings_slip, .int t_settings_low, .int t_settings_high, .int t_settings_unlike, .int t_settings_alone])), (t_first_h, .inr (7, [.int t_first_width, .int t_first_most, .ref t_first_cells_h, .int t_first_lines])), (t_second_h, .inr (7, [.int t_second_width, .int t_second_most, .ref t_second_cells_h, .int t_second_lines])), (t_layers_h, .inr (7, [.int t_layers_width, .int t_layers_most, .ref t_layers_cells_h, .int t_layers_lines])), (t_costs_h, .inl (cI, 8, .inl w17)), (t_keys_h, .inl (cJ, 256, .inr (.inl w19))), (t_first_cells_h, .inl (cI, t_first_cells_n, .inl t_first_cells_a)), (t_second_cells_h, .inl (cI, t_second_cells_n, .inl t_second_cells_a)), (t_layers_cells_h, .inl (cI, t_layers_cells_n, .inl t_layers_cells_a))]) (va_runV (As := [.int (4 * (7 - u10))]) (rest := []) ⟨hx, hb, hml, hown, hts⟩ (k_X3_bringIn l G cI cJ (t_h := t_h) (t_settings_h := t_settings_h) (t_first_h := t_first_h) (t_second_h := t_second_h) (t_layers_h := t_layers_h) (t_costs_h := t_costs_h) (t_keys_h := t_keys_h) (t_settings_base := t_settings_base) (t_settings_slip := t_settings_slip) (t_settings_low := t_settings_low) (t_settings_high := t_settings_high) (t_settings_unlike := t_settings_unlike) (t_settings_alone := t_settings_alone) (t_costs_a := w17) (t_keys_a := u12) (x1 := (4 * (7 - u10))) (sz := _) (hf := hc20)) (cwV 1 hts gX3_bestKey_X3_bringIn rfl rfl rfl (by decide +kernel) ⟨Nat.le_of_ble_eq_true rfl, Nat.le_of_ble_eq_true rfl⟩) (preV0 (ci := 3) (q0 := 0) (C := RX3) (wc := [(t_h, .inr (3, [.ref t_settings_h, .ref t_first_h, .ref t_second_h, .ref t_layers_h, .ref t_costs_h, .ref t_keys_h])), (t_settings_h, .inr (4, [.int t_settings_base, .int t_settings_slip, .int t_settings_low, .int t_settings_high, .int t_settings_unlike, .int t_settings_alone])), (t_costs_h, .inl (cI, 8, .inl w17)), (t_keys_h, .inl (cJ, 256, .inr (.inl u12)))]) hK hP hD hN [0, 1, 5, 6] rfl rfl (by decide) rfl rfl) rfl rfl hl.1 rfl (lv_room (Nat.le_of_ble_eq_true rfl)) dX3_bestKey_62 ⟨Nat.zero_le _, Nat.zero_le _⟩) hP hD hS hA [0, 1, 5, 6] [2, 3, 4, 7, 8, 9] [6, 7, 0, 1, 2, 8, 9, 3, 4, 5] rfl rfl (by decide) (by decide) rfl rfl (by decide) (fun H locs hP hD hS => ?_)
            obtain ⟨v21, ev21⟩ : ∃ y : Int32, y = u10 + 1 := ⟨_, rfl⟩
            have hf := bv_at ev21 hf
            refine lv_iinc (v := v21) (lv' := [(1, .int v21), (0, .ref t_h)]) hx hb dX3_bestKey_65 hl (k := 1) rfl (by rw [ev21]; rfl) (by decide) rfl (fun ls hl => ?_)
            refine lv_goto (tgt := 33) hx hb dX3_bestKey_68 (by decide) ?_
            cases hf
            exact ih _ _ _ hq _ _ _ hP hD hS (lv_sub hl [1, 0] rfl)
    exact hl2 _ _ _ _ ht2 _ _ _ hP hD hS (lv_sub hl [1, 0] rfl)
  clear hf
  have hl1 : ∀ (n : Nat) (u1 : Int32) (u2 : Nat → Int64), it (fX3_bestKey_L1) n (u1, u2) = some x7 → ∀ (H : Heap) (locs : List Loc) (ls : Array Slot), va_P G vwCl [(t_h, .inr (3, [.ref t_settings_h, .ref t_first_h, .ref t_second_h, .ref t_layers_h, .ref t_costs_h, .ref t_keys_h])), (t_settings_h, .inr (4, [.int t_settings_base, .int t_settings_slip, .int t_settings_low, .int t_settings_high, .int t_settings_unlike, .int t_settings_alone])), (t_first_h, .inr (7, [.int t_first_width, .int t_first_most, .ref t_first_cells_h, .int t_first_lines])), (t_second_h, .inr (7, [.int t_second_width, .int t_second_most, .ref t_second_cells_h, .int t_second_lines])), (t_layers_h, .inr (7, [.int t_layers_width, .int t_layers_most, .ref t_layers_cells_h, .int t_layers_lines])), (t_costs_h, .inl (cI, 8, .inl t_costs_a)), (t_keys_h, .inl (cJ, 256, .inr (.inl u2))), (t_first_cells_h, .inl (cI, t_first_cells_n, .inl t_first_cells_a)), (t_second_cells_h, .inl (cI, t_second_cells_n, .inl t_second_cells_a)), (t_layers_cells_h, .inl (cI, t_layers_cells_n, .inl t_layers_cells_a))] H → va_D A [(t_h, .inr (3, [.ref t_settings_h, .ref t_first_h, .ref t_second_h, .ref t_layers_h, .ref t_costs_h, .ref t_keys_h])), (t_settings_h, .inr (4, [.int t_settings_base, .int t_settings_slip, .int t_settings_low, .int t_settings_high, .int t_settings_unlike, .int t_settings_alone])), (t_first_h, .inr (7, [.int t_first_width, .int t_first_most, .ref t_first_cells_h, .int t_first_lines])), (t_second_h, .inr (7, [.int t_second_width, .int t_second_most, .ref t_second_cells_h, .int t_second_lines])), (t_layers_h, .inr (7, [.int t_layers_width, .int t_layers_most, .ref t_layers_cells_h, .int t_layers_lines])), (t_costs_h, .inl (cI, 8, .inl t_costs_a)), (t_keys_h, .inl (cJ, 256, .inr (.inl u2))), (t_first_cells_h, .inl (cI, t_first_cells_n, .inl t_first_cells_a)), (t_second_cells_h, .inl (cI, t_second_cells_n, .inl t_second_cells_a)), (t_layers_cells_h, .inl (cI, t_layers_cells_n, .inl t_layers_cells_a))] → va_S A s.heap H locs → lv_has ls 2 [(0, .ref t_h), (1, .int u1)] → W p l e rmX3_bestKey s m args below meth c H locs 0 0 Q (F0 m 2 ls []) := by
    intro n
    induction n with
    | zero => intro u1 u2 hz; exact (it_zero hz).elim
    | succ n ih =>
      intro u1 u2 hz H locs ls hP hD hS hl
      obtain ⟨x9, hf, hq⟩ := it_succ hz
      unfold fX3_bestKey_L1 at hf
      dsimp only [un2] at hf
      refine lv_iload_n hx hb dX3_bestKey_2 rfl (lv_at hl 1 rfl) ?_
      refine lv_sipush (v := 256) hx hb dX3_bestKey_3 (by decide) ?_
      refine lv_icmp_ge (tgt := 24) hx hb dX3_bestKey_6 (by decide) (fun c3 => ?_) (fun c3 => ?_)
      · have hf := ift hf c3
        cases hf
        exact hx1_0 _ hq _ _ _ hP hD hS (lv_sub hl [0] rfl)
      · have hf := iff_ hf c3
        refine lv_aload_n hx hb dX3_bestKey_9 rfl (lv_at hl 0 rfl) ?_
        refine va_get (D := G) (ci := 3) (v := .ref t_keys_h) (C := RX3) (T := TX3) (N := 6) hx hb hts iwX3 hown hK hP 0 rfl rfl 5 (by decide) fl_29 (fun _ h9 => h9) rfl dX3_bestKey_10 ?_
        refine lv_iload_n hx hb dX3_bestKey_13 rfl (lv_at hl 1 rfl) ?_
        refine lv_ldc2 (v := 1152921504606846976) hx hb hown kc_73 dX3_bestKey_14 ?_
        obtain ⟨h4, hf⟩ := gd_some hf
        obtain ⟨a5, ea5⟩ : ∃ y : Nat → Int64, y = vp_updL u2 (Int32.toNatClampNeg u1) 1152921504606846976 := ⟨_, rfl⟩
        have hf := bv_at ea5 hf
        refine va_last hx hb hK hP hD hS 6 1 rfl rfl (bnd_in h4) dX3_bestKey_17 (fun H locs hP hD hS => ?_)
        have hP : va_P G vwCl [(t_h, .inr (3, [.ref t_settings_h, .ref t_first_h, .ref t_second_h, .ref t_layers_h, .ref t_costs_h, .ref t_keys_h])), (t_settings_h, .inr (4, [.int t_settings_base, .int t_settings_slip, .int t_settings_low, .int t_settings_high, .int t_settings_unlike, .int t_settings_alone])), (t_first_h, .inr (7, [.int t_first_width, .int t_first_most, .ref t_first_cells_h, .int t_first_lines])), (t_second_h, .inr (7, [.int t_second_width, .int t_second_most, .ref t_second_cells_h, .int t_second_lines])), (t_layers_h, .inr (7, [.int t_layers_width, .int t_layers_most, .ref t_layers_cells_h, .int t_layers_lines])), (t_costs_h, .inl (cI, 8, .inl t_costs_a)), (t_keys_h, .inl (cJ, 256, .inr (.inl a5))), (t_first_cells_h, .inl (cI, t_first_cells_n, .inl t_first_cells_a)), (t_second_cells_h, .inl (cI, t_second_cells_n, .inl t_second_cells_a)), (t_layers_cells_h, .inl (cI, t_layers_cells_n, .inl t_layers_cells_a))] H := by rw [ea5]; exact hP
        have hD : va_D A [(t_h, .inr (3, [.ref t_settings_h, .ref t_first_h, .ref t_second_h, .ref t_layers_h, .ref t_costs_h, .ref t_keys_h])), (t_settings_h, .inr (4, [.int t_settings_base, .int t_settings_slip, .int t_settings_low, .int t_settings_high, .int t_settings_unlike, .int t_settings_alone])), (t_first_h, .inr (7, [.int t_first_width, .int t_first_most, .ref t_first_cells_h, .int t_first_lines])), (t_second_h, .inr (7, [.int t_second_width, .int t_second_most, .ref t_second_cells_h, .int t_second_lines])), (t_layers_h, .inr (7, [.int t_layers_width, .int t_layers_most, .ref t_layers_cells_h, .int t_layers_lines])), (t_costs_h, .inl (cI, 8, .inl t_costs_a)), (t_keys_h, .inl (cJ, 256, .inr (.inl a5))), (t_first_cells_h, .inl (cI, t_first_cells_n, .inl t_first_cells_a)), (t_second_cells_h, .inl (cI, t_second_cells_n, .inl t_second_cells_a)), (t_layers_cells_h, .inl (cI, t_layers_cells_n, .inl t_layers_cells_a))] := by rw [ea5]; exact hD
        obtain ⟨v6, ev6⟩ : ∃ y : Int32, y = u1 + 1 := ⟨_, rfl⟩
        have hf := bv_at ev6 hf
        refine lv_iinc (v := v6) (lv' := [(1, .int v6), (0, .ref t_h)]) hx hb dX3_bestKey_18 hl (k := 1) rfl (by rw [ev6]; rfl) (by decide) rfl (fun ls hl => ?_)
        refine lv_goto (tgt := 2) hx hb dX3_bestKey_21 (by decide) ?_
        cases hf
        exact ih _ _ hq _ _ _ hP hD hS (lv_sub hl [1, 0] rfl)
  exact hl1 _ _ _ ht1 _ _ _ hP hD hS (lv_sub hl [1, 0] rfl)
theorem dX3_sumOf_0 : decode cX3_sumOf 0 = .ok (.lload_n 1, 1) := by decide +kernel
theorem dX3_sumOf_1 : decode cX3_sumOf 1 = .ok (.bipush 32, 2) := by decide +kernel
theorem dX3_sumOf_3 : decode cX3_sumOf 3 = .ok (.lshr, 1) := by decide +kernel
theorem dX3_sumOf_4 : decode cX3_sumOf 4 = .ok (.l2i, 1) := by decide +kernel
theorem dX3_sumOf_5 : decode cX3_sumOf 5 = .ok (.ireturn, 1) := by decide +kernel
set_option maxRecDepth 100000 in
def fX3_sumOf (x1 : Int64) : Option (Int32) :=
  some (Int64.toInt32 (x1 >>> (Int32.toInt64 32 &&& 63)))
abbrev rmX3_sumOf : Room := { frames := 0, cells := 0, slots := 0, locals := 0 }
set_option maxHeartbeats 4000000 in
set_option maxRecDepth 100000 in
theorem k_X3_sumOf (l : Launch) (G : va_G) (cI cJ : ClassId) (t_h t_settings_h t_first_h t_second_h t_layers_h t_costs_h t_keys_h : Nat) (sz : Nat) (x1 : Int64) {o_r : Int32} (hf : fX3_sumOf x1 = some o_r) : MetI l yX3_sumOf wsX3_sumOf rmX3_sumOf [.ref t_h, .long x1] G cI cJ [(t_h, .inr (3, [.ref t_settings_h, .ref t_first_h, .ref t_second_h, .ref t_layers_h, .ref t_costs_h, .ref t_keys_h]))] [(t_h, .inr (3, [.ref t_settings_h, .ref t_first_h, .ref t_second_h, .ref t_layers_h, .ref t_costs_h, .ref t_keys_h]))] sz o_r := by
  refine en_0 (l := l) (y := yX3_sumOf) (wsl := wsX3_sumOf) (rm := rmX3_sumOf) (av := [.ref t_h, .long x1]) (G := G) (cI := cI) (cJ := cJ) (w0 := [(t_h, .inr (3, [.ref t_settings_h, .ref t_first_h, .ref t_second_h, .ref t_layers_h, .ref t_costs_h, .ref t_keys_h]))]) (sz := sz) (Qf := fun A => Qi0 G cI cJ [(t_h, .inr (3, [.ref t_settings_h, .ref t_first_h, .ref t_second_h, .ref t_layers_h, .ref t_costs_h, .ref t_keys_h]))] o_r A) (cc := cX3_sumOf) (maxL := 3) (ret := (some .int)) RX3 (by decide +kernel) rfl rfl (Nat.le_of_ble_eq_true rfl) ?_
  intro p e s m args below meth c A ls Q hQ hx hb hr hts hown hlocks hml hN hK hP hD hS hA hl
  have hl : lv_has ls 3 [(0, .ref t_h), (1, .long x1)] := hl
  have hret : ∀ (o_r9 : Int32) (pc : Nat) (H : Heap) (locs : List Loc) (ls : Array Slot), decode cX3_sumOf pc = .ok (.ireturn, 1) → some o_r9 = some o_r → va_P G vwCl [(t_h, .inr (3, [.ref t_settings_h, .ref t_first_h, .ref t_second_h, .ref t_layers_h, .ref t_costs_h, .ref t_keys_h]))] H → va_D A [(t_h, .inr (3, [.ref t_settings_h, .ref t_first_h, .ref t_second_h, .ref t_layers_h, .ref t_costs_h, .ref t_keys_h]))] → va_S A s.heap H locs → W p l e rmX3_sumOf s m args below meth c H locs 0 0 Q (F0 m pc ls [.int o_r9]) := by
    intro o_r9 pc H locs ls hdg he hP hD hS
    cases he
    subst hQ
    exact rt_i hx hb hr hlocks hK hP hD hS rfl hdg
  clear hQ
  unfold fX3_sumOf at hf
  refine lv_lload_n hx hb dX3_sumOf_0 rfl (lv_at hl 1 rfl) ?_
  refine lv_bipush (v := 32) hx hb dX3_sumOf_1 (by decide) ?_
  refine lv_lshr (v := x1 >>> (Int32.toInt64 32 &&& 63)) hx hb dX3_sumOf_3 rfl ?_
  refine lv_l2i (v := Int64.toInt32 (x1 >>> (Int32.toInt64 32 &&& 63))) hx hb dX3_sumOf_4 rfl ?_
  exact hret (Int64.toInt32 (x1 >>> (Int32.toInt64 32 &&& 63))) 5 _ _ _ dX3_sumOf_5 hf hP hD hS
theorem dX3_partnerOf_0 : decode cX3_partnerOf 0 = .ok (.lload_n 1, 1) := by decide +kernel
theorem dX3_partnerOf_1 : decode cX3_partnerOf 1 = .ok (.iconst 4, 1) := by decide +kernel
theorem dX3_partnerOf_2 : decode cX3_partnerOf 2 = .ok (.bipush 7, 2) := by decide +kernel
theorem dX3_partnerOf_4 : decode cX3_partnerOf 4 = .ok (.iload_n 3, 1) := by decide +kernel
theorem dX3_partnerOf_5 : decode cX3_partnerOf 5 = .ok (.isub, 1) := by decide +kernel
theorem dX3_partnerOf_6 : decode cX3_partnerOf 6 = .ok (.imul, 1) := by decide +kernel
theorem dX3_partnerOf_7 : decode cX3_partnerOf 7 = .ok (.lshr, 1) := by decide +kernel
theorem dX3_partnerOf_8 : decode cX3_partnerOf 8 = .ok (.ldc2_w 100, 3) := by decide +kernel
theorem dX3_partnerOf_11 : decode cX3_partnerOf 11 = .ok (.land, 1) := by decide +kernel
theorem dX3_partnerOf_12 : decode cX3_partnerOf 12 = .ok (.l2i, 1) := by decide +kernel
theorem dX3_partnerOf_13 : decode cX3_partnerOf 13 = .ok (.iconst 1, 1) := by decide +kernel
theorem dX3_partnerOf_14 : decode cX3_partnerOf 14 = .ok (.isub, 1) := by decide +kernel
theorem dX3_partnerOf_15 : decode cX3_partnerOf 15 = .ok (.ireturn, 1) := by decide +kernel
set_option maxRecDepth 100000 in
def fX3_partnerOf (x1 : Int64) (x3 : Int32) : Option (Int32) :=
  some ((Int64.toInt32 ((x1 >>> (Int32.toInt64 (4 * (7 - x3)) &&& 63)) &&& 15)) - 1)
abbrev rmX3_partnerOf : Room := { frames := 0, cells := 0, slots := 0, locals := 0 }
set_option maxHeartbeats 4000000 in
set_option maxRecDepth 100000 in
theorem k_X3_partnerOf (l : Launch) (G : va_G) (cI cJ : ClassId) (t_h t_settings_h t_first_h t_second_h t_layers_h t_costs_h t_keys_h : Nat) (sz : Nat) (x1 : Int64) (x3 : Int32) {o_r : Int32} (hf : fX3_partnerOf x1 x3 = some o_r) : MetI l yX3_partnerOf wsX3_partnerOf rmX3_partnerOf [.ref t_h, .long x1, .int x3] G cI cJ [(t_h, .inr (3, [.ref t_settings_h, .ref t_first_h, .ref t_second_h, .ref t_layers_h, .ref t_costs_h, .ref t_keys_h]))] [(t_h, .inr (3, [.ref t_settings_h, .ref t_first_h, .ref t_second_h, .ref t_layers_h, .ref t_costs_h, .ref t_keys_h]))] sz o_r := by
  refine en_0 (l := l) (y := yX3_partnerOf) (wsl := wsX3_partnerOf) (rm := rmX3_partnerOf) (av := [.ref t_h, .long x1, .int x3]) (G := G) (cI := cI) (cJ := cJ) (w0 := [(t_h, .inr (3, [.ref t_settings_h, .ref t_first_h, .ref t_second_h, .ref t_layers_h, .ref t_costs_h, .ref t_keys_h]))]) (sz := sz) (Qf := fun A => Qi0 G cI cJ [(t_h, .inr (3, [.ref t_settings_h, .ref t_first_h, .ref t_second_h, .ref t_layers_h, .ref t_costs_h, .ref t_keys_h]))] o_r A) (cc := cX3_partnerOf) (maxL := 4) (ret := (some .int)) RX3 (by decide +kernel) rfl rfl (Nat.le_of_ble_eq_true rfl) ?_
  intro p e s m args below meth c A ls Q hQ hx hb hr hts hown hlocks hml hN hK hP hD hS hA hl
  have hl : lv_has ls 4 [(0, .ref t_h), (1, .long x1), (3, .int x3)] := hl
  have kc_100 := hts (.constantLong RX3 100 (15)) (by decide +kernel)
  have hret : ∀ (o_r9 : Int32) (pc : Nat) (H : Heap) (locs : List Loc) (ls : Array Slot), decode cX3_partnerOf pc = .ok (.ireturn, 1) → some o_r9 = some o_r → va_P G vwCl [(t_h, .inr (3, [.ref t_settings_h, .ref t_first_h, .ref t_second_h, .ref t_layers_h, .ref t_costs_h, .ref t_keys_h]))] H → va_D A [(t_h, .inr (3, [.ref t_settings_h, .ref t_first_h, .ref t_second_h, .ref t_layers_h, .ref t_costs_h, .ref t_keys_h]))] → va_S A s.heap H locs → W p l e rmX3_partnerOf s m args below meth c H locs 0 0 Q (F0 m pc ls [.int o_r9]) := by
    intro o_r9 pc H locs ls hdg he hP hD hS
    cases he
    subst hQ
    exact rt_i hx hb hr hlocks hK hP hD hS rfl hdg
  clear hQ
  unfold fX3_partnerOf at hf
  refine lv_lload_n hx hb dX3_partnerOf_0 rfl (lv_at hl 1 rfl) ?_
  refine lv_iconst (v := 4) hx hb dX3_partnerOf_1 (by decide) ?_
  refine lv_bipush (v := 7) hx hb dX3_partnerOf_2 (by decide) ?_
  refine lv_iload_n hx hb dX3_partnerOf_4 rfl (lv_at hl 2 rfl) ?_
  refine lv_isub hx hb dX3_partnerOf_5 ?_
  refine lv_imul hx hb dX3_partnerOf_6 ?_
  refine lv_lshr (v := x1 >>> (Int32.toInt64 (4 * (7 - x3)) &&& 63)) hx hb dX3_partnerOf_7 rfl ?_
  refine lv_ldc2 (v := 15) hx hb hown kc_100 dX3_partnerOf_8 ?_
  refine lv_land hx hb dX3_partnerOf_11 ?_
  refine lv_l2i (v := Int64.toInt32 ((x1 >>> (Int32.toInt64 (4 * (7 - x3)) &&& 63)) &&& 15)) hx hb dX3_partnerOf_12 rfl ?_
  refine lv_iconst (v := 1) hx hb dX3_partnerOf_13 (by decide) ?_
  refine lv_isub hx hb dX3_partnerOf_14 ?_
  exact hret ((Int64.toInt32 ((x1 >>> (Int32.toInt64 (4 * (7 - x3)) &&& 63)) &&& 15)) - 1) 15 _ _ _ dX3_partnerOf_15 hf hP hD hS
