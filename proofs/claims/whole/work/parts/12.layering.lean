set_option maxRecDepth 20000 in
theorem ggX2_bringDown_X7_size : GoodIn wsX2_bringDown wsX7_size := goodIn_r _ [8, 9, 20, 21, 22, 23] (by decide +kernel) (by decide +kernel)
set_option maxRecDepth 20000 in
theorem gX2_bringDown_X7_size : GoodIn wsX2_bringDown (wsV RX2 35 RX7 yX7_size wsX7_size) := goodIn_app (goodIn_of _ (by decide +kernel)) ggX2_bringDown_X7_size
set_option maxRecDepth 20000 in
theorem ggX2_bringDown_X7_at : GoodIn wsX2_bringDown wsX7_at := goodIn_r _ [13, 14, 15, 20, 21, 22, 23] (by decide +kernel) (by decide +kernel)
set_option maxRecDepth 20000 in
theorem gX2_bringDown_X7_at : GoodIn wsX2_bringDown (wsV RX2 41 RX7 yX7_at wsX7_at) := goodIn_app (goodIn_of _ (by decide +kernel)) ggX2_bringDown_X7_at
theorem dX2_bringDown_0 : decode cX2_bringDown 0 = .ok (.iconst 0, 1) := by decide +kernel
theorem dX2_bringDown_1 : decode cX2_bringDown 1 = .ok (.istore_n 2, 1) := by decide +kernel
theorem dX2_bringDown_2 : decode cX2_bringDown 2 = .ok (.iload_n 2, 1) := by decide +kernel
theorem dX2_bringDown_3 : decode cX2_bringDown 3 = .ok (.aload_n 0, 1) := by decide +kernel
theorem dX2_bringDown_4 : decode cX2_bringDown 4 = .ok (.getfield 9, 3) := by decide +kernel
theorem dX2_bringDown_7 : decode cX2_bringDown 7 = .ok (.invokevirtual 35, 3) := by decide +kernel
theorem dX2_bringDown_10 : decode cX2_bringDown 10 = .ok (.if_icmp .ge 65, 3) := by decide +kernel
theorem dX2_bringDown_13 : decode cX2_bringDown 13 = .ok (.iload_n 2, 1) := by decide +kernel
theorem dX2_bringDown_14 : decode cX2_bringDown 14 = .ok (.bipush 24, 2) := by decide +kernel
theorem dX2_bringDown_16 : decode cX2_bringDown 16 = .ok (.if_icmp .ge 59, 3) := by decide +kernel
theorem dX2_bringDown_19 : decode cX2_bringDown 19 = .ok (.iload_n 1, 1) := by decide +kernel
theorem dX2_bringDown_20 : decode cX2_bringDown 20 = .ok (.aload_n 0, 1) := by decide +kernel
theorem dX2_bringDown_21 : decode cX2_bringDown 21 = .ok (.getfield 9, 3) := by decide +kernel
theorem dX2_bringDown_24 : decode cX2_bringDown 24 = .ok (.iload_n 2, 1) := by decide +kernel
theorem dX2_bringDown_25 : decode cX2_bringDown 25 = .ok (.iconst 2, 1) := by decide +kernel
theorem dX2_bringDown_26 : decode cX2_bringDown 26 = .ok (.invokevirtual 41, 3) := by decide +kernel
theorem dX2_bringDown_29 : decode cX2_bringDown 29 = .ok (.imul, 1) := by decide +kernel
theorem dX2_bringDown_30 : decode cX2_bringDown 30 = .ok (.sipush 1000, 3) := by decide +kernel
theorem dX2_bringDown_33 : decode cX2_bringDown 33 = .ok (.idiv, 1) := by decide +kernel
theorem dX2_bringDown_34 : decode cX2_bringDown 34 = .ok (.istore_n 3, 1) := by decide +kernel
theorem dX2_bringDown_35 : decode cX2_bringDown 35 = .ok (.aload_n 0, 1) := by decide +kernel
theorem dX2_bringDown_36 : decode cX2_bringDown 36 = .ok (.getfield 15, 3) := by decide +kernel
theorem dX2_bringDown_39 : decode cX2_bringDown 39 = .ok (.iload_n 2, 1) := by decide +kernel
theorem dX2_bringDown_40 : decode cX2_bringDown 40 = .ok (.aload_n 0, 1) := by decide +kernel
theorem dX2_bringDown_41 : decode cX2_bringDown 41 = .ok (.getfield 9, 3) := by decide +kernel
theorem dX2_bringDown_44 : decode cX2_bringDown 44 = .ok (.iload_n 2, 1) := by decide +kernel
theorem dX2_bringDown_45 : decode cX2_bringDown 45 = .ok (.iconst 0, 1) := by decide +kernel
theorem dX2_bringDown_46 : decode cX2_bringDown 46 = .ok (.invokevirtual 41, 3) := by decide +kernel
theorem dX2_bringDown_49 : decode cX2_bringDown 49 = .ok (.iload_n 3, 1) := by decide +kernel
theorem dX2_bringDown_50 : decode cX2_bringDown 50 = .ok (.isub, 1) := by decide +kernel
theorem dX2_bringDown_51 : decode cX2_bringDown 51 = .ok (.iastore, 1) := by decide +kernel
theorem dX2_bringDown_52 : decode cX2_bringDown 52 = .ok (.aload_n 0, 1) := by decide +kernel
theorem dX2_bringDown_53 : decode cX2_bringDown 53 = .ok (.getfield 19, 3) := by decide +kernel
theorem dX2_bringDown_56 : decode cX2_bringDown 56 = .ok (.iload_n 2, 1) := by decide +kernel
theorem dX2_bringDown_57 : decode cX2_bringDown 57 = .ok (.aload_n 0, 1) := by decide +kernel
theorem dX2_bringDown_58 : decode cX2_bringDown 58 = .ok (.getfield 9, 3) := by decide +kernel
theorem dX2_bringDown_61 : decode cX2_bringDown 61 = .ok (.iload_n 2, 1) := by decide +kernel
theorem dX2_bringDown_62 : decode cX2_bringDown 62 = .ok (.iconst 1, 1) := by decide +kernel
theorem dX2_bringDown_63 : decode cX2_bringDown 63 = .ok (.invokevirtual 41, 3) := by decide +kernel
theorem dX2_bringDown_66 : decode cX2_bringDown 66 = .ok (.iload_n 3, 1) := by decide +kernel
theorem dX2_bringDown_67 : decode cX2_bringDown 67 = .ok (.isub, 1) := by decide +kernel
theorem dX2_bringDown_68 : decode cX2_bringDown 68 = .ok (.iastore, 1) := by decide +kernel
theorem dX2_bringDown_69 : decode cX2_bringDown 69 = .ok (.iinc 2 1, 3) := by decide +kernel
theorem dX2_bringDown_72 : decode cX2_bringDown 72 = .ok (.goto (-70), 3) := by decide +kernel
theorem dX2_bringDown_75 : decode cX2_bringDown 75 = .ok (.return_, 1) := by decide +kernel
set_option maxRecDepth 100000 in
def fX2_bringDown_L1 (t_heights_lines : Int32) (t_heights_width : Int32) (t_heights_cells_n : Nat) (t_heights_cells_a : Nat → Int32) (x1 : Int32) : (Int32 × (Nat → Int32) × (Nat → Int32)) → Option (((Nat → Int32) × (Nat → Int32)) ⊕ (Int32 × (Nat → Int32) × (Nat → Int32))) := un3 fun (u1 : Int32) (u2 : Nat → Int32) (u3 : Nat → Int32) =>
  ob (fX7_size t_heights_lines) fun r4 =>
  if r4 ≤ u1 then
    some (.inl (u2, u3))
  else
    if 24 ≤ u1 then
      some (.inl (u2, u3))
    else
      ob (fX7_at u1 2 t_heights_width t_heights_cells_n t_heights_cells_a) fun r8 =>
      bv ((x1 * r8) / 1000) fun v10 =>
      ob (fX7_at u1 0 t_heights_width t_heights_cells_n t_heights_cells_a) fun r11 =>
      bv (r11 - v10) fun v13 =>
      gd (bnd u1 24) <|
      bv (upd u2 (Int32.toNatClampNeg u1) v13) fun a15 =>
      ob (fX7_at u1 1 t_heights_width t_heights_cells_n t_heights_cells_a) fun r16 =>
      bv (r16 - v10) fun v18 =>
      gd (bnd u1 24) <|
      bv (upd u3 (Int32.toNatClampNeg u1) v18) fun a20 =>
      bv (u1 + 1) fun v21 =>
      some (.inr (v21, a15, a20))
set_option maxRecDepth 100000 in
def fX2_bringDown (x1 : Int32) (t_heights_width : Int32) (t_heights_lines : Int32) (t_lows_a : Nat → Int32) (t_highs_a : Nat → Int32) (t_heights_cells_n : Nat) (t_heights_cells_a : Nat → Int32) : Option ((Nat → Int32) × (Nat → Int32)) :=
  ob2 (it (fX2_bringDown_L1 t_heights_lines t_heights_width t_heights_cells_n t_heights_cells_a x1) 100000 (0, t_lows_a, t_highs_a)) fun x22 x23 =>
  some (x22, x23)
abbrev rmX2_bringDown : Room := { frames := 1, cells := 0, slots := 0, locals := 23 }
theorem iwX2_bringDown_X2 : ∀ w ∈ u_ws RX2 TX2 4, w ∈ wsX2_bringDown := by decide +kernel
set_option maxHeartbeats 4000000 in
set_option maxRecDepth 100000 in
theorem k_X2_bringDown (l : Launch) (G : va_G) (cI cJ : ClassId) (t_h t_heights_h t_lows_h t_highs_h t_found_h t_heights_cells_h : Nat) (sz : Nat) (t_heights_width : Int32) (t_heights_most : Int32) (t_heights_lines : Int32) (t_lows_a : Nat → Int32) (t_highs_a : Nat → Int32) (t_heights_cells_n : Nat) (t_heights_cells_a : Nat → Int32) (x1 : Int32) {o_t_lows_a : Nat → Int32} {o_t_highs_a : Nat → Int32} (hf : fX2_bringDown x1 t_heights_width t_heights_lines t_lows_a t_highs_a t_heights_cells_n t_heights_cells_a = some (o_t_lows_a, o_t_highs_a)) : MetU l yX2_bringDown wsX2_bringDown rmX2_bringDown [.ref t_h, .int x1] G cI cJ [(t_h, .inr (2, [.ref t_heights_h, .ref t_lows_h, .ref t_highs_h, .ref t_found_h])), (t_heights_h, .inr (7, [.int t_heights_width, .int t_heights_most, .ref t_heights_cells_h, .int t_heights_lines])), (t_lows_h, .inl (cI, 24, .inl t_lows_a)), (t_highs_h, .inl (cI, 24, .inl t_highs_a)), (t_heights_cells_h, .inl (cI, t_heights_cells_n, .inl t_heights_cells_a))] [(t_h, .inr (2, [.ref t_heights_h, .ref t_lows_h, .ref t_highs_h, .ref t_found_h])), (t_heights_h, .inr (7, [.int t_heights_width, .int t_heights_most, .ref t_heights_cells_h, .int t_heights_lines])), (t_lows_h, .inl (cI, 24, .inl o_t_lows_a)), (t_highs_h, .inl (cI, 24, .inl o_t_highs_a)), (t_heights_cells_h, .inl (cI, t_heights_cells_n, .inl t_heights_cells_a))] sz := by
  refine en_0 (l := l) (y := yX2_bringDown) (wsl := wsX2_bringDown) (rm := rmX2_bringDown) (av := [.ref t_h, .int x1]) (G := G) (cI := cI) (cJ := cJ) (w0 := [(t_h, .inr (2, [.ref t_heights_h, .ref t_lows_h, .ref t_highs_h, .ref t_found_h])), (t_heights_h, .inr (7, [.int t_heights_width, .int t_heights_most, .ref t_heights_cells_h, .int t_heights_lines])), (t_lows_h, .inl (cI, 24, .inl t_lows_a)), (t_highs_h, .inl (cI, 24, .inl t_highs_a)), (t_heights_cells_h, .inl (cI, t_heights_cells_n, .inl t_heights_cells_a))]) (sz := sz) (Qf := fun A => Qv0 G cI cJ [(t_h, .inr (2, [.ref t_heights_h, .ref t_lows_h, .ref t_highs_h, .ref t_found_h])), (t_heights_h, .inr (7, [.int t_heights_width, .int t_heights_most, .ref t_heights_cells_h, .int t_heights_lines])), (t_lows_h, .inl (cI, 24, .inl o_t_lows_a)), (t_highs_h, .inl (cI, 24, .inl o_t_highs_a)), (t_heights_cells_h, .inl (cI, t_heights_cells_n, .inl t_heights_cells_a))] A) (cc := cX2_bringDown) (maxL := 4) (ret := none) RX2 (by decide +kernel) rfl rfl (Nat.le_of_ble_eq_true rfl) ?_
  intro p e s m args below meth c A ls Q hQ hx hb hr hts hown hlocks hml hN hK hP hD hS hA hl
  have hl : lv_has ls 4 [(0, .ref t_h), (1, .int x1)] := hl
  have iwX2 := iwX2_bringDown_X2
  have fl_9 := hts (.fieldLink RX2 9 "CloudOffice$Layering" "heights" "LCloudOffice$Table;") (by decide +kernel)
  have fl_15 := hts (.fieldLink RX2 15 "CloudOffice$Layering" "lows" "[I") (by decide +kernel)
  have fl_19 := hts (.fieldLink RX2 19 "CloudOffice$Layering" "highs" "[I") (by decide +kernel)
  have hret : ∀ (o_t_lows_a9 : Nat → Int32) (o_t_highs_a9 : Nat → Int32) (pc : Nat) (H : Heap) (locs : List Loc) (ls : Array Slot), decode cX2_bringDown pc = .ok (.return_, 1) → some (o_t_lows_a9, o_t_highs_a9) = some (o_t_lows_a, o_t_highs_a) → va_P G vwCl [(t_h, .inr (2, [.ref t_heights_h, .ref t_lows_h, .ref t_highs_h, .ref t_found_h])), (t_heights_h, .inr (7, [.int t_heights_width, .int t_heights_most, .ref t_heights_cells_h, .int t_heights_lines])), (t_lows_h, .inl (cI, 24, .inl o_t_lows_a9)), (t_highs_h, .inl (cI, 24, .inl o_t_highs_a9)), (t_heights_cells_h, .inl (cI, t_heights_cells_n, .inl t_heights_cells_a))] H → va_D A [(t_h, .inr (2, [.ref t_heights_h, .ref t_lows_h, .ref t_highs_h, .ref t_found_h])), (t_heights_h, .inr (7, [.int t_heights_width, .int t_heights_most, .ref t_heights_cells_h, .int t_heights_lines])), (t_lows_h, .inl (cI, 24, .inl o_t_lows_a9)), (t_highs_h, .inl (cI, 24, .inl o_t_highs_a9)), (t_heights_cells_h, .inl (cI, t_heights_cells_n, .inl t_heights_cells_a))] → va_S A s.heap H locs → W p l e rmX2_bringDown s m args below meth c H locs 0 0 Q (F0 m pc ls []) := by
    intro o_t_lows_a9 o_t_highs_a9 pc H locs ls hdg he hP hD hS
    cases he
    subst hQ
    exact rt_v hx hb hr hlocks hK hP hD hS hdg
  clear hQ
  unfold fX2_bringDown at hf
  refine lv_iconst (v := 0) hx hb dX2_bringDown_0 (by decide) ?_
  refine lv_istore_n (lv' := [(2, .int 0), (0, .ref t_h), (1, .int x1)]) hx hb dX2_bringDown_1 rfl hl (by decide) rfl (fun ls hl => ?_)
  obtain ⟨x22, x23, ht1, hf⟩ := ob2_some hf
  have hx1_0 : ∀ (x229 : Nat → Int32) (x239 : Nat → Int32), (x229, x239) = (x22, x23) → ∀ (H : Heap) (locs : List Loc) (ls : Array Slot), va_P G vwCl [(t_h, .inr (2, [.ref t_heights_h, .ref t_lows_h, .ref t_highs_h, .ref t_found_h])), (t_heights_h, .inr (7, [.int t_heights_width, .int t_heights_most, .ref t_heights_cells_h, .int t_heights_lines])), (t_lows_h, .inl (cI, 24, .inl x229)), (t_highs_h, .inl (cI, 24, .inl x239)), (t_heights_cells_h, .inl (cI, t_heights_cells_n, .inl t_heights_cells_a))] H → va_D A [(t_h, .inr (2, [.ref t_heights_h, .ref t_lows_h, .ref t_highs_h, .ref t_found_h])), (t_heights_h, .inr (7, [.int t_heights_width, .int t_heights_most, .ref t_heights_cells_h, .int t_heights_lines])), (t_lows_h, .inl (cI, 24, .inl x229)), (t_highs_h, .inl (cI, 24, .inl x239)), (t_heights_cells_h, .inl (cI, t_heights_cells_n, .inl t_heights_cells_a))] → va_S A s.heap H locs → lv_has ls 4 [] → W p l e rmX2_bringDown s m args below meth c H locs 0 0 Q (F0 m 75 ls []) := by
    intro x229 x239 he H locs ls hP hD hS hl
    cases he
    exact hret x22 x23 75 _ _ _ dX2_bringDown_75 hf hP hD hS
  clear hf
  have hl1 : ∀ (n : Nat) (u1 : Int32) (u2 : Nat → Int32) (u3 : Nat → Int32), it (fX2_bringDown_L1 t_heights_lines t_heights_width t_heights_cells_n t_heights_cells_a x1) n (u1, u2, u3) = some (x22, x23) → ∀ (H : Heap) (locs : List Loc) (ls : Array Slot), va_P G vwCl [(t_h, .inr (2, [.ref t_heights_h, .ref t_lows_h, .ref t_highs_h, .ref t_found_h])), (t_heights_h, .inr (7, [.int t_heights_width, .int t_heights_most, .ref t_heights_cells_h, .int t_heights_lines])), (t_lows_h, .inl (cI, 24, .inl u2)), (t_highs_h, .inl (cI, 24, .inl u3)), (t_heights_cells_h, .inl (cI, t_heights_cells_n, .inl t_heights_cells_a))] H → va_D A [(t_h, .inr (2, [.ref t_heights_h, .ref t_lows_h, .ref t_highs_h, .ref t_found_h])), (t_heights_h, .inr (7, [.int t_heights_width, .int t_heights_most, .ref t_heights_cells_h, .int t_heights_lines])), (t_lows_h, .inl (cI, 24, .inl u2)), (t_highs_h, .inl (cI, 24, .inl u3)), (t_heights_cells_h, .inl (cI, t_heights_cells_n, .inl t_heights_cells_a))] → va_S A s.heap H locs → lv_has ls 4 [(0, .ref t_h), (1, .int x1), (2, .int u1)] → W p l e rmX2_bringDown s m args below meth c H locs 0 0 Q (F0 m 2 ls []) := by
    intro n
    induction n with
    | zero => intro u1 u2 u3 hz; exact (it_zero hz).elim
    | succ n ih =>
      intro u1 u2 u3 hz H locs ls hP hD hS hl
      obtain ⟨x9, hf, hq⟩ := it_succ hz
      unfold fX2_bringDown_L1 at hf
      dsimp only [un3] at hf
      refine lv_iload_n hx hb dX2_bringDown_2 rfl (lv_at hl 2 rfl) ?_
      refine lv_aload_n hx hb dX2_bringDown_3 rfl (lv_at hl 0 rfl) ?_
      refine va_get (D := G) (ci := 2) (v := .ref t_heights_h) (C := RX2) (T := TX2) (N := 4) hx hb hts iwX2 hown hK hP 0 rfl rfl 0 (by decide) fl_9 (fun _ h9 => h9) rfl dX2_bringDown_4 ?_
      obtain ⟨r4, hc5, hf⟩ := ob_some hf
      refine af_iR (va_runV (As := []) (rest := [.int u1]) ⟨hx, hb, hml, hown, hts⟩ (k_X7_size l G cI cJ (t_h := t_heights_h) (t_cells_h := t_heights_cells_h) (t_width := t_heights_width) (t_most := t_heights_most) (t_lines := t_heights_lines) (sz := _) (hf := hc5)) (cwV 0 hts gX2_bringDown_X7_size rfl rfl rfl (by decide +kernel) ⟨Nat.le_of_ble_eq_true rfl, Nat.le_of_ble_eq_true rfl⟩) (preV0 (ci := 7) (q0 := 0) (C := RX7) (wc := [(t_heights_h, .inr (7, [.int t_heights_width, .int t_heights_most, .ref t_heights_cells_h, .int t_heights_lines]))]) hK hP hD hN [1] rfl rfl (by decide) rfl rfl) rfl rfl hl.1 rfl (lv_room (Nat.le_of_ble_eq_true rfl)) dX2_bringDown_7 ⟨Nat.zero_le _, Nat.zero_le _⟩) hP hD hS hA [1] rfl (fun H locs hP hS => ?_)
      refine lv_icmp_ge (tgt := 75) hx hb dX2_bringDown_10 (by decide) (fun c6 => ?_) (fun c6 => ?_)
      · have hf := ift hf c6
        cases hf
        exact hx1_0 _ _ hq _ _ _ hP hD hS (lv_sub hl [] rfl)
      · have hf := iff_ hf c6
        refine lv_iload_n hx hb dX2_bringDown_13 rfl (lv_at hl 2 rfl) ?_
        refine lv_bipush (v := 24) hx hb dX2_bringDown_14 (by decide) ?_
        refine lv_icmp_ge (tgt := 75) hx hb dX2_bringDown_16 (by decide) (fun c7 => ?_) (fun c7 => ?_)
        · have hf := ift hf c7
          cases hf
          exact hx1_0 _ _ hq _ _ _ hP hD hS (lv_sub hl [] rfl)
        · have hf := iff_ hf c7
          refine lv_iload_n hx hb dX2_bringDown_19 rfl (lv_at hl 1 rfl) ?_
          refine lv_aload_n hx hb dX2_bringDown_20 rfl (lv_at hl 0 rfl) ?_
          refine va_get (D := G) (ci := 2) (v := .ref t_heights_h) (C := RX2) (T := TX2) (N := 4) hx hb hts iwX2 hown hK hP 0 rfl rfl 0 (by decide) fl_9 (fun _ h9 => h9) rfl dX2_bringDown_21 ?_
          refine lv_iload_n hx hb dX2_bringDown_24 rfl (lv_at hl 2 rfl) ?_
          refine lv_iconst (v := 2) hx hb dX2_bringDown_25 (by decide) ?_
          obtain ⟨r8, hc9, hf⟩ := ob_some hf
          refine af_iR (va_runV (As := [.int u1, .int 2]) (rest := [.int x1]) ⟨hx, hb, hml, hown, hts⟩ (k_X7_at l G cI cJ (t_h := t_heights_h) (t_cells_h := t_heights_cells_h) (t_width := t_heights_width) (t_most := t_heights_most) (t_lines := t_heights_lines) (t_cells_n := t_heights_cells_n) (t_cells_a := t_heights_cells_a) (x1 := u1) (x2 := 2) (sz := _) (hf := hc9)) (cwV 2 hts gX2_bringDown_X7_at rfl rfl rfl (by decide +kernel) ⟨Nat.le_of_ble_eq_true rfl, Nat.le_of_ble_eq_true rfl⟩) (preV0 (ci := 7) (q0 := 0) (C := RX7) (wc := [(t_heights_h, .inr (7, [.int t_heights_width, .int t_heights_most, .ref t_heights_cells_h, .int t_heights_lines])), (t_heights_cells_h, .inl (cI, t_heights_cells_n, .inl t_heights_cells_a))]) hK hP hD hN [1, 4] rfl rfl (by decide) rfl rfl) rfl rfl hl.1 rfl (lv_room (Nat.le_of_ble_eq_true rfl)) dX2_bringDown_26 ⟨Nat.zero_le _, Nat.zero_le _⟩) hP hD hS hA [1, 4] rfl (fun H locs hP hS => ?_)
          refine lv_imul hx hb dX2_bringDown_29 ?_
          refine lv_sipush (v := 1000) hx hb dX2_bringDown_30 (by decide) ?_
          refine lv_idiv hx hb dX2_bringDown_33 (by decide) ?_
          refine lv_topi (fun v10 ev10 => ?_)
          have hf := bv_at ev10 hf
          refine lv_istore_n (lv' := [(3, .int v10), (0, .ref t_h), (1, .int x1), (2, .int u1)]) hx hb dX2_bringDown_34 rfl hl (by decide) rfl (fun ls hl => ?_)
          refine lv_aload_n hx hb dX2_bringDown_35 rfl (lv_at hl 1 rfl) ?_
          refine va_get (D := G) (ci := 2) (v := .ref t_lows_h) (C := RX2) (T := TX2) (N := 4) hx hb hts iwX2 hown hK hP 0 rfl rfl 1 (by decide) fl_15 (fun _ h9 => h9) rfl dX2_bringDown_36 ?_
          refine lv_iload_n hx hb dX2_bringDown_39 rfl (lv_at hl 3 rfl) ?_
          refine lv_aload_n hx hb dX2_bringDown_40 rfl (lv_at hl 1 rfl) ?_
          refine va_get (D := G) (ci := 2) (v := .ref t_heights_h) (C := RX2) (T := TX2) (N := 4) hx hb hts iwX2 hown hK hP 0 rfl rfl 0 (by decide) fl_9 (fun _ h9 => h9) rfl dX2_bringDown_41 ?_
          refine lv_iload_n hx hb dX2_bringDown_44 rfl (lv_at hl 3 rfl) ?_
          refine lv_iconst (v := 0) hx hb dX2_bringDown_45 (by decide) ?_
          obtain ⟨r11, hc12, hf⟩ := ob_some hf
          refine af_iR (va_runV (As := [.int u1, .int 0]) (rest := [.int u1, .ref t_lows_h]) ⟨hx, hb, hml, hown, hts⟩ (k_X7_at l G cI cJ (t_h := t_heights_h) (t_cells_h := t_heights_cells_h) (t_width := t_heights_width) (t_most := t_heights_most) (t_lines := t_heights_lines) (t_cells_n := t_heights_cells_n) (t_cells_a := t_heights_cells_a) (x1 := u1) (x2 := 0) (sz := _) (hf := hc12)) (cwV 2 hts gX2_bringDown_X7_at rfl rfl rfl (by decide +kernel) ⟨Nat.le_of_ble_eq_true rfl, Nat.le_of_ble_eq_true rfl⟩) (preV0 (ci := 7) (q0 := 0) (C := RX7) (wc := [(t_heights_h, .inr (7, [.int t_heights_width, .int t_heights_most, .ref t_heights_cells_h, .int t_heights_lines])), (t_heights_cells_h, .inl (cI, t_heights_cells_n, .inl t_heights_cells_a))]) hK hP hD hN [1, 4] rfl rfl (by decide) rfl rfl) rfl rfl hl.1 rfl (lv_room (Nat.le_of_ble_eq_true rfl)) dX2_bringDown_46 ⟨Nat.zero_le _, Nat.zero_le _⟩) hP hD hS hA [1, 4] rfl (fun H locs hP hS => ?_)
          refine lv_iload_n hx hb dX2_bringDown_49 rfl (lv_at hl 0 rfl) ?_
          refine lv_isub hx hb dX2_bringDown_50 ?_
          refine lv_topi (fun v13 ev13 => ?_)
          have hf := bv_at ev13 hf
          obtain ⟨h14, hf⟩ := gd_some hf
          obtain ⟨a15, ea15⟩ : ∃ y : Nat → Int32, y = upd u2 (Int32.toNatClampNeg u1) v13 := ⟨_, rfl⟩
          have hf := bv_at ea15 hf
          refine va_iast hx hb hK hP hD hS 2 0 rfl rfl (bnd_in h14) dX2_bringDown_51 (fun H locs hP hD hS => ?_)
          have hP : va_P G vwCl [(t_h, .inr (2, [.ref t_heights_h, .ref t_lows_h, .ref t_highs_h, .ref t_found_h])), (t_heights_h, .inr (7, [.int t_heights_width, .int t_heights_most, .ref t_heights_cells_h, .int t_heights_lines])), (t_lows_h, .inl (cI, 24, .inl a15)), (t_highs_h, .inl (cI, 24, .inl u3)), (t_heights_cells_h, .inl (cI, t_heights_cells_n, .inl t_heights_cells_a))] H := by rw [ea15]; exact hP
          have hD : va_D A [(t_h, .inr (2, [.ref t_heights_h, .ref t_lows_h, .ref t_highs_h, .ref t_found_h])), (t_heights_h, .inr (7, [.int t_heights_width, .int t_heights_most, .ref t_heights_cells_h, .int t_heights_lines])), (t_lows_h, .inl (cI, 24, .inl a15)), (t_highs_h, .inl (cI, 24, .inl u3)), (t_heights_cells_h, .inl (cI, t_heights_cells_n, .inl t_heights_cells_a))] := by rw [ea15]; exact hD
          refine lv_aload_n hx hb dX2_bringDown_52 rfl (lv_at hl 1 rfl) ?_
          refine va_get (D := G) (ci := 2) (v := .ref t_highs_h) (C := RX2) (T := TX2) (N := 4) hx hb hts iwX2 hown hK hP 0 rfl rfl 2 (by decide) fl_19 (fun _ h9 => h9) rfl dX2_bringDown_53 ?_
          refine lv_iload_n hx hb dX2_bringDown_56 rfl (lv_at hl 3 rfl) ?_
          refine lv_aload_n hx hb dX2_bringDown_57 rfl (lv_at hl 1 rfl) ?_
          refine va_get (D := G) (ci := 2) (v := .ref t_heights_h) (C := RX2) (T := TX2) (N := 4) hx hb hts iwX2 hown hK hP 0 rfl rfl 0 (by decide) fl_9 (fun _ h9 => h9) rfl dX2_bringDown_58 ?_
          refine lv_iload_n hx hb dX2_bringDown_61 rfl (lv_at hl 3 rfl) ?_
          refine lv_iconst (v := 1) hx hb dX2_bringDown_62 (by decide) ?_
          obtain ⟨r16, hc17, hf⟩ := ob_some hf
          refine af_iR (va_runV (As := [.int u1, .int 1]) (rest := [.int u1, .ref t_highs_h]) ⟨hx, hb, hml, hown, hts⟩ (k_X7_at l G cI cJ (t_h := t_heights_h) (t_cells_h := t_heights_cells_h) (t_width := t_heights_width) (t_most := t_heights_most) (t_lines := t_heights_lines) (t_cells_n := t_heights_cells_n) (t_cells_a := t_heights_cells_a) (x1 := u1) (x2 := 1) (sz := _) (hf := hc17)) (cwV 2 hts gX2_bringDown_X7_at rfl rfl rfl (by decide +kernel) ⟨Nat.le_of_ble_eq_true rfl, Nat.le_of_ble_eq_true rfl⟩) (preV0 (ci := 7) (q0 := 0) (C := RX7) (wc := [(t_heights_h, .inr (7, [.int t_heights_width, .int t_heights_most, .ref t_heights_cells_h, .int t_heights_lines])), (t_heights_cells_h, .inl (cI, t_heights_cells_n, .inl t_heights_cells_a))]) hK hP hD hN [1, 4] rfl rfl (by decide) rfl rfl) rfl rfl hl.1 rfl (lv_room (Nat.le_of_ble_eq_true rfl)) dX2_bringDown_63 ⟨Nat.zero_le _, Nat.zero_le _⟩) hP hD hS hA [1, 4] rfl (fun H locs hP hS => ?_)
          refine lv_iload_n hx hb dX2_bringDown_66 rfl (lv_at hl 0 rfl) ?_
          refine lv_isub hx hb dX2_bringDown_67 ?_
          refine lv_topi (fun v18 ev18 => ?_)
          have hf := bv_at ev18 hf
          obtain ⟨h19, hf⟩ := gd_some hf
          obtain ⟨a20, ea20⟩ : ∃ y : Nat → Int32, y = upd u3 (Int32.toNatClampNeg u1) v18 := ⟨_, rfl⟩
          have hf := bv_at ea20 hf
          refine va_iast hx hb hK hP hD hS 3 0 rfl rfl (bnd_in h19) dX2_bringDown_68 (fun H locs hP hD hS => ?_)
          have hP : va_P G vwCl [(t_h, .inr (2, [.ref t_heights_h, .ref t_lows_h, .ref t_highs_h, .ref t_found_h])), (t_heights_h, .inr (7, [.int t_heights_width, .int t_heights_most, .ref t_heights_cells_h, .int t_heights_lines])), (t_lows_h, .inl (cI, 24, .inl a15)), (t_highs_h, .inl (cI, 24, .inl a20)), (t_heights_cells_h, .inl (cI, t_heights_cells_n, .inl t_heights_cells_a))] H := by rw [ea20]; exact hP
          have hD : va_D A [(t_h, .inr (2, [.ref t_heights_h, .ref t_lows_h, .ref t_highs_h, .ref t_found_h])), (t_heights_h, .inr (7, [.int t_heights_width, .int t_heights_most, .ref t_heights_cells_h, .int t_heights_lines])), (t_lows_h, .inl (cI, 24, .inl a15)), (t_highs_h, .inl (cI, 24, .inl a20)), (t_heights_cells_h, .inl (cI, t_heights_cells_n, .inl t_heights_cells_a))] := by rw [ea20]; exact hD
          obtain ⟨v21, ev21⟩ : ∃ y : Int32, y = u1 + 1 := ⟨_, rfl⟩
          have hf := bv_at ev21 hf
          refine lv_iinc (v := v21) (lv' := [(2, .int v21), (3, .int v10), (0, .ref t_h), (1, .int x1)]) hx hb dX2_bringDown_69 hl (k := 3) rfl (by rw [ev21]; rfl) (by decide) rfl (fun ls hl => ?_)
          refine lv_goto (tgt := 2) hx hb dX2_bringDown_72 (by decide) ?_
          cases hf
          exact ih _ _ _ hq _ _ _ hP hD hS (lv_sub hl [2, 3, 0] rfl)
  exact hl1 _ _ _ _ ht1 _ _ _ hP hD hS (lv_sub hl [1, 2, 0] rfl)
set_option maxRecDepth 20000 in
theorem ggX2_leastHighAbove_X7_size : GoodIn wsX2_leastHighAbove wsX7_size := goodIn_r _ [9, 10, 15, 16, 17, 18] (by decide +kernel) (by decide +kernel)
set_option maxRecDepth 20000 in
theorem gX2_leastHighAbove_X7_size : GoodIn wsX2_leastHighAbove (wsV RX2 35 RX7 yX7_size wsX7_size) := goodIn_app (goodIn_of _ (by decide +kernel)) ggX2_leastHighAbove_X7_size
theorem dX2_leastHighAbove_0 : decode cX2_leastHighAbove 0 = .ok (.ldc 34, 2) := by decide +kernel
theorem dX2_leastHighAbove_2 : decode cX2_leastHighAbove 2 = .ok (.istore_n 2, 1) := by decide +kernel
theorem dX2_leastHighAbove_3 : decode cX2_leastHighAbove 3 = .ok (.iconst 0, 1) := by decide +kernel
theorem dX2_leastHighAbove_4 : decode cX2_leastHighAbove 4 = .ok (.istore_n 3, 1) := by decide +kernel
theorem dX2_leastHighAbove_5 : decode cX2_leastHighAbove 5 = .ok (.iload_n 3, 1) := by decide +kernel
theorem dX2_leastHighAbove_6 : decode cX2_leastHighAbove 6 = .ok (.aload_n 0, 1) := by decide +kernel
theorem dX2_leastHighAbove_7 : decode cX2_leastHighAbove 7 = .ok (.getfield 9, 3) := by decide +kernel
theorem dX2_leastHighAbove_10 : decode cX2_leastHighAbove 10 = .ok (.invokevirtual 35, 3) := by decide +kernel
theorem dX2_leastHighAbove_13 : decode cX2_leastHighAbove 13 = .ok (.if_icmp .ge 42, 3) := by decide +kernel
theorem dX2_leastHighAbove_16 : decode cX2_leastHighAbove 16 = .ok (.iload_n 3, 1) := by decide +kernel
theorem dX2_leastHighAbove_17 : decode cX2_leastHighAbove 17 = .ok (.bipush 24, 2) := by decide +kernel
theorem dX2_leastHighAbove_19 : decode cX2_leastHighAbove 19 = .ok (.if_icmp .ge 36, 3) := by decide +kernel
theorem dX2_leastHighAbove_22 : decode cX2_leastHighAbove 22 = .ok (.aload_n 0, 1) := by decide +kernel
theorem dX2_leastHighAbove_23 : decode cX2_leastHighAbove 23 = .ok (.getfield 15, 3) := by decide +kernel
theorem dX2_leastHighAbove_26 : decode cX2_leastHighAbove 26 = .ok (.iload_n 3, 1) := by decide +kernel
theorem dX2_leastHighAbove_27 : decode cX2_leastHighAbove 27 = .ok (.iaload, 1) := by decide +kernel
theorem dX2_leastHighAbove_28 : decode cX2_leastHighAbove 28 = .ok (.iload_n 1, 1) := by decide +kernel
theorem dX2_leastHighAbove_29 : decode cX2_leastHighAbove 29 = .ok (.if_icmp .le 20, 3) := by decide +kernel
theorem dX2_leastHighAbove_32 : decode cX2_leastHighAbove 32 = .ok (.aload_n 0, 1) := by decide +kernel
theorem dX2_leastHighAbove_33 : decode cX2_leastHighAbove 33 = .ok (.getfield 19, 3) := by decide +kernel
theorem dX2_leastHighAbove_36 : decode cX2_leastHighAbove 36 = .ok (.iload_n 3, 1) := by decide +kernel
theorem dX2_leastHighAbove_37 : decode cX2_leastHighAbove 37 = .ok (.iaload, 1) := by decide +kernel
theorem dX2_leastHighAbove_38 : decode cX2_leastHighAbove 38 = .ok (.iload_n 2, 1) := by decide +kernel
theorem dX2_leastHighAbove_39 : decode cX2_leastHighAbove 39 = .ok (.if_icmp .ge 10, 3) := by decide +kernel
theorem dX2_leastHighAbove_42 : decode cX2_leastHighAbove 42 = .ok (.aload_n 0, 1) := by decide +kernel
theorem dX2_leastHighAbove_43 : decode cX2_leastHighAbove 43 = .ok (.getfield 19, 3) := by decide +kernel
theorem dX2_leastHighAbove_46 : decode cX2_leastHighAbove 46 = .ok (.iload_n 3, 1) := by decide +kernel
theorem dX2_leastHighAbove_47 : decode cX2_leastHighAbove 47 = .ok (.iaload, 1) := by decide +kernel
theorem dX2_leastHighAbove_48 : decode cX2_leastHighAbove 48 = .ok (.istore_n 2, 1) := by decide +kernel
theorem dX2_leastHighAbove_49 : decode cX2_leastHighAbove 49 = .ok (.iinc 3 1, 3) := by decide +kernel
theorem dX2_leastHighAbove_52 : decode cX2_leastHighAbove 52 = .ok (.goto (-47), 3) := by decide +kernel
theorem dX2_leastHighAbove_55 : decode cX2_leastHighAbove 55 = .ok (.iload_n 2, 1) := by decide +kernel
theorem dX2_leastHighAbove_56 : decode cX2_leastHighAbove 56 = .ok (.ireturn, 1) := by decide +kernel
set_option maxRecDepth 100000 in
def fX2_leastHighAbove_L1 (t_heights_lines : Int32) (t_lows_a : Nat → Int32) (x1 : Int32) (t_highs_a : Nat → Int32) : (Int32 × Int32) → Option ((Int32) ⊕ (Int32 × Int32)) := un2 fun (u1 : Int32) (u2 : Int32) =>
  ob (fX7_size t_heights_lines) fun r3 =>
  if r3 ≤ u2 then
    some (.inl u1)
  else
    if 24 ≤ u2 then
      some (.inl u1)
    else
      gd (bnd u2 24) <|
      ob (α := Int32) (
          if (t_lows_a (Int32.toNatClampNeg u2)) ≤ x1 then
            some u1
          else
            gd (bnd u2 24) <|
            if u1 ≤ (t_highs_a (Int32.toNatClampNeg u2)) then
              some u1
            else
              gd (bnd u2 24) <|
              bv (t_highs_a (Int32.toNatClampNeg u2)) fun v15 =>
              some v15
        ) fun m8 =>
      bv (u2 + 1) fun v16 =>
      some (.inr (m8, v16))
set_option maxRecDepth 100000 in
def fX2_leastHighAbove (x1 : Int32) (t_heights_lines : Int32) (t_lows_a : Nat → Int32) (t_highs_a : Nat → Int32) : Option (Int32) :=
  ob (it (fX2_leastHighAbove_L1 t_heights_lines t_lows_a x1 t_highs_a) 100000 (1000000, 0)) fun x17 =>
  some x17
abbrev rmX2_leastHighAbove : Room := { frames := 1, cells := 0, slots := 0, locals := 20 }
theorem iwX2_leastHighAbove_X2 : ∀ w ∈ u_ws RX2 TX2 4, w ∈ wsX2_leastHighAbove := by decide +kernel
set_option maxHeartbeats 4000000 in
set_option maxRecDepth 100000 in
theorem k_X2_leastHighAbove (l : Launch) (G : va_G) (cI cJ : ClassId) (t_h t_heights_h t_lows_h t_highs_h t_found_h t_heights_cells_h : Nat) (sz : Nat) (t_heights_width : Int32) (t_heights_most : Int32) (t_heights_lines : Int32) (t_lows_a : Nat → Int32) (t_highs_a : Nat → Int32) (x1 : Int32) {o_r : Int32} (hf : fX2_leastHighAbove x1 t_heights_lines t_lows_a t_highs_a = some o_r) : MetI l yX2_leastHighAbove wsX2_leastHighAbove rmX2_leastHighAbove [.ref t_h, .int x1] G cI cJ [(t_h, .inr (2, [.ref t_heights_h, .ref t_lows_h, .ref t_highs_h, .ref t_found_h])), (t_heights_h, .inr (7, [.int t_heights_width, .int t_heights_most, .ref t_heights_cells_h, .int t_heights_lines])), (t_lows_h, .inl (cI, 24, .inl t_lows_a)), (t_highs_h, .inl (cI, 24, .inl t_highs_a))] [(t_h, .inr (2, [.ref t_heights_h, .ref t_lows_h, .ref t_highs_h, .ref t_found_h])), (t_heights_h, .inr (7, [.int t_heights_width, .int t_heights_most, .ref t_heights_cells_h, .int t_heights_lines])), (t_lows_h, .inl (cI, 24, .inl t_lows_a)), (t_highs_h, .inl (cI, 24, .inl t_highs_a))] sz o_r := by
  refine en_0 (l := l) (y := yX2_leastHighAbove) (wsl := wsX2_leastHighAbove) (rm := rmX2_leastHighAbove) (av := [.ref t_h, .int x1]) (G := G) (cI := cI) (cJ := cJ) (w0 := [(t_h, .inr (2, [.ref t_heights_h, .ref t_lows_h, .ref t_highs_h, .ref t_found_h])), (t_heights_h, .inr (7, [.int t_heights_width, .int t_heights_most, .ref t_heights_cells_h, .int t_heights_lines])), (t_lows_h, .inl (cI, 24, .inl t_lows_a)), (t_highs_h, .inl (cI, 24, .inl t_highs_a))]) (sz := sz) (Qf := fun A => Qi0 G cI cJ [(t_h, .inr (2, [.ref t_heights_h, .ref t_lows_h, .ref t_highs_h, .ref t_found_h])), (t_heights_h, .inr (7, [.int t_heights_width, .int t_heights_most, .ref t_heights_cells_h, .int t_heights_lines])), (t_lows_h, .inl (cI, 24, .inl t_lows_a)), (t_highs_h, .inl (cI, 24, .inl t_highs_a))] o_r A) (cc := cX2_leastHighAbove) (maxL := 4) (ret := (some .int)) RX2 (by decide +kernel) rfl rfl (Nat.le_of_ble_eq_true rfl) ?_
  intro p e s m args below meth c A ls Q hQ hx hb hr hts hown hlocks hml hN hK hP hD hS hA hl
  have hl : lv_has ls 4 [(0, .ref t_h), (1, .int x1)] := hl
  have iwX2 := iwX2_leastHighAbove_X2
  have fl_9 := hts (.fieldLink RX2 9 "CloudOffice$Layering" "heights" "LCloudOffice$Table;") (by decide +kernel)
  have fl_15 := hts (.fieldLink RX2 15 "CloudOffice$Layering" "lows" "[I") (by decide +kernel)
  have fl_19 := hts (.fieldLink RX2 19 "CloudOffice$Layering" "highs" "[I") (by decide +kernel)
  have kc_34 := hts (.constant RX2 34 (1000000)) (by decide +kernel)
  have hret : ∀ (o_r9 : Int32) (pc : Nat) (H : Heap) (locs : List Loc) (ls : Array Slot), decode cX2_leastHighAbove pc = .ok (.ireturn, 1) → some o_r9 = some o_r → va_P G vwCl [(t_h, .inr (2, [.ref t_heights_h, .ref t_lows_h, .ref t_highs_h, .ref t_found_h])), (t_heights_h, .inr (7, [.int t_heights_width, .int t_heights_most, .ref t_heights_cells_h, .int t_heights_lines])), (t_lows_h, .inl (cI, 24, .inl t_lows_a)), (t_highs_h, .inl (cI, 24, .inl t_highs_a))] H → va_D A [(t_h, .inr (2, [.ref t_heights_h, .ref t_lows_h, .ref t_highs_h, .ref t_found_h])), (t_heights_h, .inr (7, [.int t_heights_width, .int t_heights_most, .ref t_heights_cells_h, .int t_heights_lines])), (t_lows_h, .inl (cI, 24, .inl t_lows_a)), (t_highs_h, .inl (cI, 24, .inl t_highs_a))] → va_S A s.heap H locs → W p l e rmX2_leastHighAbove s m args below meth c H locs 0 0 Q (F0 m pc ls [.int o_r9]) := by
    intro o_r9 pc H locs ls hdg he hP hD hS
    cases he
    subst hQ
    exact rt_i hx hb hr hlocks hK hP hD hS rfl hdg
  clear hQ
  unfold fX2_leastHighAbove at hf
  refine lv_ldc (v := 1000000) hx hb hown kc_34 dX2_leastHighAbove_0 ?_
  refine lv_istore_n (lv' := [(2, .int 1000000), (0, .ref t_h), (1, .int x1)]) hx hb dX2_leastHighAbove_2 rfl hl (by decide) rfl (fun ls hl => ?_)
  refine lv_iconst (v := 0) hx hb dX2_leastHighAbove_3 (by decide) ?_
  refine lv_istore_n (lv' := [(3, .int 0), (2, .int 1000000), (0, .ref t_h), (1, .int x1)]) hx hb dX2_leastHighAbove_4 rfl hl (by decide) rfl (fun ls hl => ?_)
  obtain ⟨x17, ht1, hf⟩ := ob_some hf
  have hx1_0 : ∀ (x179 : Int32), x179 = x17 → ∀ (H : Heap) (locs : List Loc) (ls : Array Slot), va_P G vwCl [(t_h, .inr (2, [.ref t_heights_h, .ref t_lows_h, .ref t_highs_h, .ref t_found_h])), (t_heights_h, .inr (7, [.int t_heights_width, .int t_heights_most, .ref t_heights_cells_h, .int t_heights_lines])), (t_lows_h, .inl (cI, 24, .inl t_lows_a)), (t_highs_h, .inl (cI, 24, .inl t_highs_a))] H → va_D A [(t_h, .inr (2, [.ref t_heights_h, .ref t_lows_h, .ref t_highs_h, .ref t_found_h])), (t_heights_h, .inr (7, [.int t_heights_width, .int t_heights_most, .ref t_heights_cells_h, .int t_heights_lines])), (t_lows_h, .inl (cI, 24, .inl t_lows_a)), (t_highs_h, .inl (cI, 24, .inl t_highs_a))] → va_S A s.heap H locs → lv_has ls 4 [(2, .int x179)] → W p l e rmX2_leastHighAbove s m args below meth c H locs 0 0 Q (F0 m 55 ls []) := by
    intro x179 he H locs ls hP hD hS hl
    cases he
    refine lv_iload_n hx hb dX2_leastHighAbove_55 rfl (lv_at hl 0 rfl) ?_
    exact hret x17 56 _ _ _ dX2_leastHighAbove_56 hf hP hD hS
  clear hf
  have hl1 : ∀ (n : Nat) (u1 : Int32) (u2 : Int32), it (fX2_leastHighAbove_L1 t_heights_lines t_lows_a x1 t_highs_a) n (u1, u2) = some x17 → ∀ (H : Heap) (locs : List Loc) (ls : Array Slot), va_P G vwCl [(t_h, .inr (2, [.ref t_heights_h, .ref t_lows_h, .ref t_highs_h, .ref t_found_h])), (t_heights_h, .inr (7, [.int t_heights_width, .int t_heights_most, .ref t_heights_cells_h, .int t_heights_lines])), (t_lows_h, .inl (cI, 24, .inl t_lows_a)), (t_highs_h, .inl (cI, 24, .inl t_highs_a))] H → va_D A [(t_h, .inr (2, [.ref t_heights_h, .ref t_lows_h, .ref t_highs_h, .ref t_found_h])), (t_heights_h, .inr (7, [.int t_heights_width, .int t_heights_most, .ref t_heights_cells_h, .int t_heights_lines])), (t_lows_h, .inl (cI, 24, .inl t_lows_a)), (t_highs_h, .inl (cI, 24, .inl t_highs_a))] → va_S A s.heap H locs → lv_has ls 4 [(0, .ref t_h), (1, .int x1), (2, .int u1), (3, .int u2)] → W p l e rmX2_leastHighAbove s m args below meth c H locs 0 0 Q (F0 m 5 ls []) := by
    intro n
    induction n with
    | zero => intro u1 u2 hz; exact (it_zero hz).elim
    | succ n ih =>
      intro u1 u2 hz H locs ls hP hD hS hl
      obtain ⟨x9, hf, hq⟩ := it_succ hz
      unfold fX2_leastHighAbove_L1 at hf
      dsimp only [un2] at hf
      refine lv_iload_n hx hb dX2_leastHighAbove_5 rfl (lv_at hl 3 rfl) ?_
      refine lv_aload_n hx hb dX2_leastHighAbove_6 rfl (lv_at hl 0 rfl) ?_
      refine va_get (D := G) (ci := 2) (v := .ref t_heights_h) (C := RX2) (T := TX2) (N := 4) hx hb hts iwX2 hown hK hP 0 rfl rfl 0 (by decide) fl_9 (fun _ h9 => h9) rfl dX2_leastHighAbove_7 ?_
      obtain ⟨r3, hc4, hf⟩ := ob_some hf
      refine af_iR (va_runV (As := []) (rest := [.int u2]) ⟨hx, hb, hml, hown, hts⟩ (k_X7_size l G cI cJ (t_h := t_heights_h) (t_cells_h := t_heights_cells_h) (t_width := t_heights_width) (t_most := t_heights_most) (t_lines := t_heights_lines) (sz := _) (hf := hc4)) (cwV 0 hts gX2_leastHighAbove_X7_size rfl rfl rfl (by decide +kernel) ⟨Nat.le_of_ble_eq_true rfl, Nat.le_of_ble_eq_true rfl⟩) (preV0 (ci := 7) (q0 := 0) (C := RX7) (wc := [(t_heights_h, .inr (7, [.int t_heights_width, .int t_heights_most, .ref t_heights_cells_h, .int t_heights_lines]))]) hK hP hD hN [1] rfl rfl (by decide) rfl rfl) rfl rfl hl.1 rfl (lv_room (Nat.le_of_ble_eq_true rfl)) dX2_leastHighAbove_10 ⟨Nat.zero_le _, Nat.zero_le _⟩) hP hD hS hA [1] rfl (fun H locs hP hS => ?_)
      refine lv_icmp_ge (tgt := 55) hx hb dX2_leastHighAbove_13 (by decide) (fun c5 => ?_) (fun c5 => ?_)
      · have hf := ift hf c5
        cases hf
        exact hx1_0 _ hq _ _ _ hP hD hS (lv_sub hl [2] rfl)
      · have hf := iff_ hf c5
        refine lv_iload_n hx hb dX2_leastHighAbove_16 rfl (lv_at hl 3 rfl) ?_
        refine lv_bipush (v := 24) hx hb dX2_leastHighAbove_17 (by decide) ?_
        refine lv_icmp_ge (tgt := 55) hx hb dX2_leastHighAbove_19 (by decide) (fun c6 => ?_) (fun c6 => ?_)
        · have hf := ift hf c6
          cases hf
          exact hx1_0 _ hq _ _ _ hP hD hS (lv_sub hl [2] rfl)
        · have hf := iff_ hf c6
          refine lv_aload_n hx hb dX2_leastHighAbove_22 rfl (lv_at hl 0 rfl) ?_
          refine va_get (D := G) (ci := 2) (v := .ref t_lows_h) (C := RX2) (T := TX2) (N := 4) hx hb hts iwX2 hown hK hP 0 rfl rfl 1 (by decide) fl_15 (fun _ h9 => h9) rfl dX2_leastHighAbove_23 ?_
          refine lv_iload_n hx hb dX2_leastHighAbove_26 rfl (lv_at hl 3 rfl) ?_
          obtain ⟨h7, hf⟩ := gd_some hf
          refine va_iald hx hb hK hP 2 0 rfl rfl (bnd_in h7) dX2_leastHighAbove_27 ?_
          refine lv_iload_n hx hb dX2_leastHighAbove_28 rfl (lv_at hl 1 rfl) ?_
          obtain ⟨m8, hr9, hf⟩ := ob_some hf
          have hj10 : ∀ (m89 : Int32), some m89 = some m8 → ∀ (H : Heap) (locs : List Loc) (ls : Array Slot), va_P G vwCl [(t_h, .inr (2, [.ref t_heights_h, .ref t_lows_h, .ref t_highs_h, .ref t_found_h])), (t_heights_h, .inr (7, [.int t_heights_width, .int t_heights_most, .ref t_heights_cells_h, .int t_heights_lines])), (t_lows_h, .inl (cI, 24, .inl t_lows_a)), (t_highs_h, .inl (cI, 24, .inl t_highs_a))] H → va_D A [(t_h, .inr (2, [.ref t_heights_h, .ref t_lows_h, .ref t_highs_h, .ref t_found_h])), (t_heights_h, .inr (7, [.int t_heights_width, .int t_heights_most, .ref t_heights_cells_h, .int t_heights_lines])), (t_lows_h, .inl (cI, 24, .inl t_lows_a)), (t_highs_h, .inl (cI, 24, .inl t_highs_a))] → va_S A s.heap H locs → lv_has ls 4 [(0, .ref t_h), (1, .int x1), (2, .int m89), (3, .int u2)] → W p l e rmX2_leastHighAbove s m args below meth c H locs 0 0 Q (F0 m 49 ls []) := by
            intro m89 he H locs ls hP hD hS hl
            cases he
            obtain ⟨v16, ev16⟩ : ∃ y : Int32, y = u2 + 1 := ⟨_, rfl⟩
            have hf := bv_at ev16 hf
            refine lv_iinc (v := v16) (lv' := [(3, .int v16), (0, .ref t_h), (1, .int x1), (2, .int m8)]) hx hb dX2_leastHighAbove_49 hl (k := 3) rfl (by rw [ev16]; rfl) (by decide) rfl (fun ls hl => ?_)
            refine lv_goto (tgt := 5) hx hb dX2_leastHighAbove_52 (by decide) ?_
            cases hf
            exact ih _ _ hq _ _ _ hP hD hS (lv_sub hl [1, 2, 3, 0] rfl)
          replace hf := hr9
          refine lv_icmp_le (tgt := 49) hx hb dX2_leastHighAbove_29 (by decide) (fun c11 => ?_) (fun c11 => ?_)
          · have hf := ift hf c11
            exact hj10 _ hf _ _ _ hP hD hS (lv_sub hl [0, 1, 2, 3] rfl)
          · have hf := iff_ hf c11
            refine lv_aload_n hx hb dX2_leastHighAbove_32 rfl (lv_at hl 0 rfl) ?_
            refine va_get (D := G) (ci := 2) (v := .ref t_highs_h) (C := RX2) (T := TX2) (N := 4) hx hb hts iwX2 hown hK hP 0 rfl rfl 2 (by decide) fl_19 (fun _ h9 => h9) rfl dX2_leastHighAbove_33 ?_
            refine lv_iload_n hx hb dX2_leastHighAbove_36 rfl (lv_at hl 3 rfl) ?_
            obtain ⟨h12, hf⟩ := gd_some hf
            refine va_iald hx hb hK hP 3 0 rfl rfl (bnd_in h12) dX2_leastHighAbove_37 ?_
            refine lv_iload_n hx hb dX2_leastHighAbove_38 rfl (lv_at hl 2 rfl) ?_
            refine lv_icmp_ge (tgt := 49) hx hb dX2_leastHighAbove_39 (by decide) (fun c13 => ?_) (fun c13 => ?_)
            · have hf := ift hf c13
              exact hj10 _ hf _ _ _ hP hD hS (lv_sub hl [0, 1, 2, 3] rfl)
            · have hf := iff_ hf c13
              refine lv_aload_n hx hb dX2_leastHighAbove_42 rfl (lv_at hl 0 rfl) ?_
              refine va_get (D := G) (ci := 2) (v := .ref t_highs_h) (C := RX2) (T := TX2) (N := 4) hx hb hts iwX2 hown hK hP 0 rfl rfl 2 (by decide) fl_19 (fun _ h9 => h9) rfl dX2_leastHighAbove_43 ?_
              refine lv_iload_n hx hb dX2_leastHighAbove_46 rfl (lv_at hl 3 rfl) ?_
              obtain ⟨h14, hf⟩ := gd_some hf
              refine va_iald hx hb hK hP 3 0 rfl rfl (bnd_in h14) dX2_leastHighAbove_47 ?_
              refine lv_topi (fun v15 ev15 => ?_)
              have hf := bv_at ev15 hf
              refine lv_istore_n (lv' := [(2, .int v15), (0, .ref t_h), (1, .int x1), (3, .int u2)]) hx hb dX2_leastHighAbove_48 rfl hl (by decide) rfl (fun ls hl => ?_)
              exact hj10 _ hf _ _ _ hP hD hS (lv_sub hl [1, 2, 0, 3] rfl)
  exact hl1 _ _ _ ht1 _ _ _ hP hD hS (lv_sub hl [2, 3, 1, 0] rfl)
set_option maxRecDepth 20000 in
theorem ggX2_fill_X2_bringDown : GoodIn wsX2_fill wsX2_bringDown := goodIn_r _ [8, 9, 10, 11, 12, 13, 14, 15, 16, 17, 18, 19, 20, 21, 22, 23, 28, 29, 30, 31, 32, 33, 34, 35] (by decide +kernel) (by decide +kernel)
set_option maxRecDepth 20000 in
theorem gX2_fill_X2_bringDown : GoodIn wsX2_fill (wsV RX2 25 RX2 yX2_bringDown wsX2_bringDown) := goodIn_app (goodIn_of _ (by decide +kernel)) ggX2_fill_X2_bringDown
set_option maxRecDepth 20000 in
theorem ggX2_fill_X2_leastHighAbove : GoodIn wsX2_fill wsX2_leastHighAbove := goodIn_r _ [27, 2, 9, 10, 11, 12, 13, 14, 15, 16, 17, 28, 29, 30, 31, 32, 33, 34, 35] (by decide +kernel) (by decide +kernel)
set_option maxRecDepth 20000 in
theorem gX2_fill_X2_leastHighAbove : GoodIn wsX2_fill (wsV RX2 30 RX2 yX2_leastHighAbove wsX2_leastHighAbove) := goodIn_app (goodIn_of _ (by decide +kernel)) ggX2_fill_X2_leastHighAbove
theorem dX2_fill_0 : decode cX2_fill 0 = .ok (.aload_n 0, 1) := by decide +kernel
theorem dX2_fill_1 : decode cX2_fill 1 = .ok (.iload_n 1, 1) := by decide +kernel
theorem dX2_fill_2 : decode cX2_fill 2 = .ok (.invokevirtual 25, 3) := by decide +kernel
theorem dX2_fill_5 : decode cX2_fill 5 = .ok (.iconst 0, 1) := by decide +kernel
theorem dX2_fill_6 : decode cX2_fill 6 = .ok (.istore_n 3, 1) := by decide +kernel
theorem dX2_fill_7 : decode cX2_fill 7 = .ok (.ldc 29, 2) := by decide +kernel
theorem dX2_fill_9 : decode cX2_fill 9 = .ok (.istore 4, 2) := by decide +kernel
theorem dX2_fill_11 : decode cX2_fill 11 = .ok (.iconst 0, 1) := by decide +kernel
theorem dX2_fill_12 : decode cX2_fill 12 = .ok (.istore 5, 2) := by decide +kernel
theorem dX2_fill_14 : decode cX2_fill 14 = .ok (.iload 5, 2) := by decide +kernel
theorem dX2_fill_16 : decode cX2_fill 16 = .ok (.bipush 24, 2) := by decide +kernel
theorem dX2_fill_18 : decode cX2_fill 18 = .ok (.if_icmp .ge 45, 3) := by decide +kernel
theorem dX2_fill_21 : decode cX2_fill 21 = .ok (.iload 5, 2) := by decide +kernel
theorem dX2_fill_23 : decode cX2_fill 23 = .ok (.iload_n 2, 1) := by decide +kernel
theorem dX2_fill_24 : decode cX2_fill 24 = .ok (.if_icmp .ge 39, 3) := by decide +kernel
theorem dX2_fill_27 : decode cX2_fill 27 = .ok (.aload_n 0, 1) := by decide +kernel
theorem dX2_fill_28 : decode cX2_fill 28 = .ok (.iload 4, 2) := by decide +kernel
theorem dX2_fill_30 : decode cX2_fill 30 = .ok (.invokevirtual 30, 3) := by decide +kernel
theorem dX2_fill_33 : decode cX2_fill 33 = .ok (.istore 4, 2) := by decide +kernel
theorem dX2_fill_35 : decode cX2_fill 35 = .ok (.iload 4, 2) := by decide +kernel
theorem dX2_fill_37 : decode cX2_fill 37 = .ok (.ldc 34, 2) := by decide +kernel
theorem dX2_fill_39 : decode cX2_fill 39 = .ok (.if_icmp .ne 6, 3) := by decide +kernel
theorem dX2_fill_42 : decode cX2_fill 42 = .ok (.goto 21, 3) := by decide +kernel
theorem dX2_fill_45 : decode cX2_fill 45 = .ok (.aload_n 0, 1) := by decide +kernel
theorem dX2_fill_46 : decode cX2_fill 46 = .ok (.getfield 22, 3) := by decide +kernel
theorem dX2_fill_49 : decode cX2_fill 49 = .ok (.iload 5, 2) := by decide +kernel
theorem dX2_fill_51 : decode cX2_fill 51 = .ok (.iload 4, 2) := by decide +kernel
theorem dX2_fill_53 : decode cX2_fill 53 = .ok (.iastore, 1) := by decide +kernel
theorem dX2_fill_54 : decode cX2_fill 54 = .ok (.iinc 3 1, 3) := by decide +kernel
theorem dX2_fill_57 : decode cX2_fill 57 = .ok (.iinc 5 1, 3) := by decide +kernel
theorem dX2_fill_60 : decode cX2_fill 60 = .ok (.goto (-46), 3) := by decide +kernel
theorem dX2_fill_63 : decode cX2_fill 63 = .ok (.iload_n 3, 1) := by decide +kernel
theorem dX2_fill_64 : decode cX2_fill 64 = .ok (.ireturn, 1) := by decide +kernel
set_option maxRecDepth 100000 in
def fX2_fill_L1 (x2 : Int32) (t_heights_lines : Int32) (w1 : Nat → Int32) (w2 : Nat → Int32) : (Int32 × Int32 × Int32 × (Nat → Int32)) → Option ((Int32 × (Nat → Int32)) ⊕ (Int32 × Int32 × Int32 × (Nat → Int32))) := un4 fun (u4 : Int32) (u5 : Int32) (u6 : Int32) (u7 : Nat → Int32) =>
  if 24 ≤ u6 then
    some (.inl (u4, u7))
  else
    if x2 ≤ u6 then
      some (.inl (u4, u7))
    else
      ob (fX2_leastHighAbove u5 t_heights_lines w1 w2) fun r10 =>
      if r10 = 1000000 then
        some (.inl (u4, u7))
      else
        gd (bnd u6 24) <|
        bv (upd u7 (Int32.toNatClampNeg u6) r10) fun a14 =>
        bv (u4 + 1) fun v15 =>
        bv (u6 + 1) fun v16 =>
        some (.inr (v15, r10, v16, a14))
set_option maxRecDepth 100000 in
def fX2_fill (x1 : Int32) (x2 : Int32) (t_heights_width : Int32) (t_heights_lines : Int32) (t_lows_a : Nat → Int32) (t_highs_a : Nat → Int32) (t_found_a : Nat → Int32) (t_heights_cells_n : Nat) (t_heights_cells_a : Nat → Int32) : Option (Int32 × (Nat → Int32) × (Nat → Int32) × (Nat → Int32)) :=
  ob2 (fX2_bringDown x1 t_heights_width t_heights_lines t_lows_a t_highs_a t_heights_cells_n t_heights_cells_a) fun w1 w2 =>
  ob2 (it (fX2_fill_L1 x2 t_heights_lines w1 w2) 100000 (0, (-1000000), 0, t_found_a)) fun x17 x18 =>
  some (x17, w1, w2, x18)
abbrev rmX2_fill : Room := { frames := 2, cells := 0, slots := 0, locals := 46 }
theorem iwX2_fill_X2 : ∀ w ∈ u_ws RX2 TX2 4, w ∈ wsX2_fill := by decide +kernel
set_option maxHeartbeats 4000000 in
set_option maxRecDepth 100000 in
theorem k_X2_fill (l : Launch) (G : va_G) (cI cJ : ClassId) (t_h t_heights_h t_lows_h t_highs_h t_found_h t_heights_cells_h : Nat) (sz : Nat) (t_heights_width : Int32) (t_heights_most : Int32) (t_heights_lines : Int32) (t_lows_a : Nat → Int32) (t_highs_a : Nat → Int32) (t_found_a : Nat → Int32) (t_heights_cells_n : Nat) (t_heights_cells_a : Nat → Int32) (x1 : Int32) (x2 : Int32) {o_r : Int32} {o_t_lows_a : Nat → Int32} {o_t_highs_a : Nat → Int32} {o_t_found_a : Nat → Int32} (hf : fX2_fill x1 x2 t_heights_width t_heights_lines t_lows_a t_highs_a t_found_a t_heights_cells_n t_heights_cells_a = some (o_r, o_t_lows_a, o_t_highs_a, o_t_found_a)) : MetI l yX2_fill wsX2_fill rmX2_fill [.ref t_h, .int x1, .int x2] G cI cJ [(t_h, .inr (2, [.ref t_heights_h, .ref t_lows_h, .ref t_highs_h, .ref t_found_h])), (t_heights_h, .inr (7, [.int t_heights_width, .int t_heights_most, .ref t_heights_cells_h, .int t_heights_lines])), (t_lows_h, .inl (cI, 24, .inl t_lows_a)), (t_highs_h, .inl (cI, 24, .inl t_highs_a)), (t_found_h, .inl (cI, 24, .inl t_found_a)), (t_heights_cells_h, .inl (cI, t_heights_cells_n, .inl t_heights_cells_a))] [(t_h, .inr (2, [.ref t_heights_h, .ref t_lows_h, .ref t_highs_h, .ref t_found_h])), (t_heights_h, .inr (7, [.int t_heights_width, .int t_heights_most, .ref t_heights_cells_h, .int t_heights_lines])), (t_lows_h, .inl (cI, 24, .inl o_t_lows_a)), (t_highs_h, .inl (cI, 24, .inl o_t_highs_a)), (t_found_h, .inl (cI, 24, .inl o_t_found_a)), (t_heights_cells_h, .inl (cI, t_heights_cells_n, .inl t_heights_cells_a))] sz o_r := by
  refine en_0 (l := l) (y := yX2_fill) (wsl := wsX2_fill) (rm := rmX2_fill) (av := [.ref t_h, .int x1, .int x2]) (G := G) (cI := cI) (cJ := cJ) (w0 := [(t_h, .inr (2, [.ref t_heights_h, .ref t_lows_h, .ref t_highs_h, .ref t_found_h])), (t_heights_h, .inr (7, [.int t_heights_width, .int t_heights_most, .ref t_heights_cells_h, .int t_heights_lines])), (t_lows_h, .inl (cI, 24, .inl t_lows_a)), (t_highs_h, .inl (cI, 24, .inl t_highs_a)), (t_found_h, .inl (cI, 24, .inl t_found_a)), (t_heights_cells_h, .inl (cI, t_heights_cells_n, .inl t_heights_cells_a))]) (sz := sz) (Qf := fun A => Qi0 G cI cJ [(t_h, .inr (2, [.ref t_heights_h, .ref t_lows_h, .ref t_highs_h, .ref t_found_h])), (t_heights_h, .inr (7, [.int t_heights_width, .int t_heights_most, .ref t_heights_cells_h, .int t_heights_lines])), (t_lows_h, .inl (cI, 24, .inl o_t_lows_a)), (t_highs_h, .inl (cI, 24, .inl o_t_highs_a)), (t_found_h, .inl (cI, 24, .inl o_t_found_a)), (t_heights_cells_h, .inl (cI, t_heights_cells_n, .inl t_heights_cells_a))] o_r A) (cc := cX2_fill) (maxL := 6) (ret := (some .int)) RX2 (by decide +kernel) rfl rfl (Nat.le_of_ble_eq_true rfl) ?_
  intro p e s m args below meth c A ls Q hQ hx hb hr hts hown hlocks hml hN hK hP hD hS hA hl
  have hl : lv_has ls 6 [(0, .ref t_h), (1, .int x1), (2, .int x2)] := hl
  have iwX2 := iwX2_fill_X2
  have fl_22 := hts (.fieldLink RX2 22 "CloudOffice$Layering" "found" "[I") (by decide +kernel)
  have kc_29 := hts (.constant RX2 29 (-1000000)) (by decide +kernel)
  have kc_34 := hts (.constant RX2 34 (1000000)) (by decide +kernel)
  have hret : ∀ (o_r9 : Int32) (o_t_lows_a9 : Nat → Int32) (o_t_highs_a9 : Nat → Int32) (o_t_found_a9 : Nat → Int32) (pc : Nat) (H : Heap) (locs : List Loc) (ls : Array Slot), decode cX2_fill pc = .ok (.ireturn, 1) → some (o_r9, o_t_lows_a9, o_t_highs_a9, o_t_found_a9) = some (o_r, o_t_lows_a, o_t_highs_a, o_t_found_a) → va_P G vwCl [(t_h, .inr (2, [.ref t_heights_h, .ref t_lows_h, .ref t_highs_h, .ref t_found_h])), (t_heights_h, .inr (7, [.int t_heights_width, .int t_heights_most, .ref t_heights_cells_h, .int t_heights_lines])), (t_lows_h, .inl (cI, 24, .inl o_t_lows_a9)), (t_highs_h, .inl (cI, 24, .inl o_t_highs_a9)), (t_found_h, .inl (cI, 24, .inl o_t_found_a9)), (t_heights_cells_h, .inl (cI, t_heights_cells_n, .inl t_heights_cells_a))] H → va_D A [(t_h, .inr (2, [.ref t_heights_h, .ref t_lows_h, .ref t_highs_h, .ref t_found_h])), (t_heights_h, .inr (7, [.int t_heights_width, .int t_heights_most, .ref t_heights_cells_h, .int t_heights_lines])), (t_lows_h, .inl (cI, 24, .inl o_t_lows_a9)), (t_highs_h, .inl (cI, 24, .inl o_t_highs_a9)), (t_found_h, .inl (cI, 24, .inl o_t_found_a9)), (t_heights_cells_h, .inl (cI, t_heights_cells_n, .inl t_heights_cells_a))] → va_S A s.heap H locs → W p l e rmX2_fill s m args below meth c H locs 0 0 Q (F0 m pc ls [.int o_r9]) := by
    intro o_r9 o_t_lows_a9 o_t_highs_a9 o_t_found_a9 pc H locs ls hdg he hP hD hS
    cases he
    subst hQ
    exact rt_i hx hb hr hlocks hK hP hD hS rfl hdg
  clear hQ
  unfold fX2_fill at hf
  refine lv_aload_n hx hb dX2_fill_0 rfl (lv_at hl 0 rfl) ?_
  refine lv_iload_n hx hb dX2_fill_1 rfl (lv_at hl 1 rfl) ?_
  obtain ⟨w1, w2, hc3, hf⟩ := ob2_some hf
  refine af_vW (wr := [(t_found_h, .inl (cI, 24, .inl t_found_a))]) (ws2 := [(t_h, .inr (2, [.ref t_heights_h, .ref t_lows_h, .ref t_highs_h, .ref t_found_h])), (t_heights_h, .inr (7, [.int t_heights_width, .int t_heights_most, .ref t_heights_cells_h, .int t_heights_lines])), (t_lows_h, .inl (cI, 24, .inl w1)), (t_highs_h, .inl (cI, 24, .inl w2)), (t_found_h, .inl (cI, 24, .inl t_found_a)), (t_heights_cells_h, .inl (cI, t_heights_cells_n, .inl t_heights_cells_a))]) (va_runV (As := [.int x1]) (rest := []) ⟨hx, hb, hml, hown, hts⟩ (k_X2_bringDown l G cI cJ (t_h := t_h) (t_heights_h := t_heights_h) (t_lows_h := t_lows_h) (t_highs_h := t_highs_h) (t_found_h := t_found_h) (t_heights_cells_h := t_heights_cells_h) (t_heights_width := t_heights_width) (t_heights_most := t_heights_most) (t_heights_lines := t_heights_lines) (t_lows_a := t_lows_a) (t_highs_a := t_highs_a) (t_heights_cells_n := t_heights_cells_n) (t_heights_cells_a := t_heights_cells_a) (x1 := x1) (sz := _) (hf := hc3)) (cwV 1 hts gX2_fill_X2_bringDown rfl rfl rfl (by decide +kernel) ⟨Nat.le_of_ble_eq_true rfl, Nat.le_of_ble_eq_true rfl⟩) (preV0 (ci := 2) (q0 := 0) (C := RX2) (wc := [(t_h, .inr (2, [.ref t_heights_h, .ref t_lows_h, .ref t_highs_h, .ref t_found_h])), (t_heights_h, .inr (7, [.int t_heights_width, .int t_heights_most, .ref t_heights_cells_h, .int t_heights_lines])), (t_lows_h, .inl (cI, 24, .inl t_lows_a)), (t_highs_h, .inl (cI, 24, .inl t_highs_a)), (t_heights_cells_h, .inl (cI, t_heights_cells_n, .inl t_heights_cells_a))]) hK hP hD hN [0, 1, 2, 3, 5] rfl rfl (by decide) rfl rfl) rfl rfl hl.1 rfl (lv_room (Nat.le_of_ble_eq_true rfl)) dX2_fill_2 ⟨Nat.zero_le _, Nat.zero_le _⟩) hP hD hS hA [0, 1, 2, 3, 5] [4] [1, 2, 3, 4, 0, 5] rfl rfl (by decide) (by decide) rfl rfl (by decide) (fun H locs hP hD hS => ?_)
  refine lv_iconst (v := 0) hx hb dX2_fill_5 (by decide) ?_
  refine lv_istore_n (lv' := [(3, .int 0), (0, .ref t_h), (1, .int x1), (2, .int x2)]) hx hb dX2_fill_6 rfl hl (by decide) rfl (fun ls hl => ?_)
  refine lv_ldc (v := (-1000000)) hx hb hown kc_29 dX2_fill_7 ?_
  refine lv_istore (lv' := [(4, .int (-1000000)), (3, .int 0), (0, .ref t_h), (1, .int x1), (2, .int x2)]) hx hb dX2_fill_9 hl (by decide) rfl (fun ls hl => ?_)
  refine lv_iconst (v := 0) hx hb dX2_fill_11 (by decide) ?_
  refine lv_istore (lv' := [(5, .int 0), (4, .int (-1000000)), (3, .int 0), (0, .ref t_h), (1, .int x1), (2, .int x2)]) hx hb dX2_fill_12 hl (by decide) rfl (fun ls hl => ?_)
  obtain ⟨x17, x18, ht1, hf⟩ := ob2_some hf
  have hx1_0 : ∀ (x179 : Int32) (x189 : Nat → Int32), (x179, x189) = (x17, x18) → ∀ (H : Heap) (locs : List Loc) (ls : Array Slot), va_P G vwCl [(t_h, .inr (2, [.ref t_heights_h, .ref t_lows_h, .ref t_highs_h, .ref t_found_h])), (t_heights_h, .inr (7, [.int t_heights_width, .int t_heights_most, .ref t_heights_cells_h, .int t_heights_lines])), (t_lows_h, .inl (cI, 24, .inl w1)), (t_highs_h, .inl (cI, 24, .inl w2)), (t_found_h, .inl (cI, 24, .inl x189)), (t_heights_cells_h, .inl (cI, t_heights_cells_n, .inl t_heights_cells_a))] H → va_D A [(t_h, .inr (2, [.ref t_heights_h, .ref t_lows_h, .ref t_highs_h, .ref t_found_h])), (t_heights_h, .inr (7, [.int t_heights_width, .int t_heights_most, .ref t_heights_cells_h, .int t_heights_lines])), (t_lows_h, .inl (cI, 24, .inl w1)), (t_highs_h, .inl (cI, 24, .inl w2)), (t_found_h, .inl (cI, 24, .inl x189)), (t_heights_cells_h, .inl (cI, t_heights_cells_n, .inl t_heights_cells_a))] → va_S A s.heap H locs → lv_has ls 6 [(3, .int x179)] → W p l e rmX2_fill s m args below meth c H locs 0 0 Q (F0 m 63 ls []) := by
    intro x179 x189 he H locs ls hP hD hS hl
    cases he
    refine lv_iload_n hx hb dX2_fill_63 rfl (lv_at hl 0 rfl) ?_
    exact hret x17 w1 w2 x18 64 _ _ _ dX2_fill_64 hf hP hD hS
  clear hf
  have hl1 : ∀ (n : Nat) (u4 : Int32) (u5 : Int32) (u6 : Int32) (u7 : Nat → Int32), it (fX2_fill_L1 x2 t_heights_lines w1 w2) n (u4, u5, u6, u7) = some (x17, x18) → ∀ (H : Heap) (locs : List Loc) (ls : Array Slot), va_P G vwCl [(t_h, .inr (2, [.ref t_heights_h, .ref t_lows_h, .ref t_highs_h, .ref t_found_h])), (t_heights_h, .inr (7, [.int t_heights_width, .int t_heights_most, .ref t_heights_cells_h, .int t_heights_lines])), (t_lows_h, .inl (cI, 24, .inl w1)), (t_highs_h, .inl (cI, 24, .inl w2)), (t_found_h, .inl (cI, 24, .inl u7)), (t_heights_cells_h, .inl (cI, t_heights_cells_n, .inl t_heights_cells_a))] H → va_D A [(t_h, .inr (2, [.ref t_heights_h, .ref t_lows_h, .ref t_highs_h, .ref t_found_h])), (t_heights_h, .inr (7, [.int t_heights_width, .int t_heights_most, .ref t_heights_cells_h, .int t_heights_lines])), (t_lows_h, .inl (cI, 24, .inl w1)), (t_highs_h, .inl (cI, 24, .inl w2)), (t_found_h, .inl (cI, 24, .inl u7)), (t_heights_cells_h, .inl (cI, t_heights_cells_n, .inl t_heights_cells_a))] → va_S A s.heap H locs → lv_has ls 6 [(0, .ref t_h), (2, .int x2), (3, .int u4), (4, .int u5), (5, .int u6)] → W p l e rmX2_fill s m args below meth c H locs 0 0 Q (F0 m 14 ls []) := by
    intro n
    induction n with
    | zero => intro u4 u5 u6 u7 hz; exact (it_zero hz).elim
    | succ n ih =>
      intro u4 u5 u6 u7 hz H locs ls hP hD hS hl
      obtain ⟨x9, hf, hq⟩ := it_succ hz
      unfold fX2_fill_L1 at hf
      dsimp only [un4] at hf
      refine lv_iload hx hb dX2_fill_14 (lv_at hl 4 rfl) ?_
      refine lv_bipush (v := 24) hx hb dX2_fill_16 (by decide) ?_
      refine lv_icmp_ge (tgt := 63) hx hb dX2_fill_18 (by decide) (fun c8 => ?_) (fun c8 => ?_)
      · have hf := ift hf c8
        cases hf
        exact hx1_0 _ _ hq _ _ _ hP hD hS (lv_sub hl [2] rfl)
      · have hf := iff_ hf c8
        refine lv_iload hx hb dX2_fill_21 (lv_at hl 4 rfl) ?_
        refine lv_iload_n hx hb dX2_fill_23 rfl (lv_at hl 1 rfl) ?_
        refine lv_icmp_ge (tgt := 63) hx hb dX2_fill_24 (by decide) (fun c9 => ?_) (fun c9 => ?_)
        · have hf := ift hf c9
          cases hf
          exact hx1_0 _ _ hq _ _ _ hP hD hS (lv_sub hl [2] rfl)
        · have hf := iff_ hf c9
          refine lv_aload_n hx hb dX2_fill_27 rfl (lv_at hl 0 rfl) ?_
          refine lv_iload hx hb dX2_fill_28 (lv_at hl 3 rfl) ?_
          obtain ⟨r10, hc11, hf⟩ := ob_some hf
          refine af_iR (va_runV (As := [.int u5]) (rest := []) ⟨hx, hb, hml, hown, hts⟩ (k_X2_leastHighAbove l G cI cJ (t_h := t_h) (t_heights_h := t_heights_h) (t_lows_h := t_lows_h) (t_highs_h := t_highs_h) (t_found_h := t_found_h) (t_heights_cells_h := t_heights_cells_h) (t_heights_width := t_heights_width) (t_heights_most := t_heights_most) (t_heights_lines := t_heights_lines) (t_lows_a := w1) (t_highs_a := w2) (x1 := u5) (sz := _) (hf := hc11)) (cwV 1 hts gX2_fill_X2_leastHighAbove rfl rfl rfl (by decide +kernel) ⟨Nat.le_of_ble_eq_true rfl, Nat.le_of_ble_eq_true rfl⟩) (preV0 (ci := 2) (q0 := 0) (C := RX2) (wc := [(t_h, .inr (2, [.ref t_heights_h, .ref t_lows_h, .ref t_highs_h, .ref t_found_h])), (t_heights_h, .inr (7, [.int t_heights_width, .int t_heights_most, .ref t_heights_cells_h, .int t_heights_lines])), (t_lows_h, .inl (cI, 24, .inl w1)), (t_highs_h, .inl (cI, 24, .inl w2))]) hK hP hD hN [0, 1, 2, 3] rfl rfl (by decide) rfl rfl) rfl rfl hl.1 rfl (lv_room (Nat.le_of_ble_eq_true rfl)) dX2_fill_30 ⟨Nat.zero_le _, Nat.zero_le _⟩) hP hD hS hA [0, 1, 2, 3] rfl (fun H locs hP hS => ?_)
          refine lv_istore (lv' := [(4, .int r10), (0, .ref t_h), (2, .int x2), (3, .int u4), (5, .int u6)]) hx hb dX2_fill_33 hl (by decide) rfl (fun ls hl => ?_)
          refine lv_iload hx hb dX2_fill_35 (lv_at hl 0 rfl) ?_
          refine lv_ldc (v := 1000000) hx hb hown kc_34 dX2_fill_37 ?_
          refine lv_icmp_ne (tgt := 45) hx hb dX2_fill_39 (by decide) (fun c12 => ?_) (fun c12 => ?_)
          · have hf := iff_ hf c12
            refine lv_aload_n hx hb dX2_fill_45 rfl (lv_at hl 1 rfl) ?_
            refine va_get (D := G) (ci := 2) (v := .ref t_found_h) (C := RX2) (T := TX2) (N := 4) hx hb hts iwX2 hown hK hP 0 rfl rfl 3 (by decide) fl_22 (fun _ h9 => h9) rfl dX2_fill_46 ?_
            refine lv_iload hx hb dX2_fill_49 (lv_at hl 4 rfl) ?_
            refine lv_iload hx hb dX2_fill_51 (lv_at hl 0 rfl) ?_
            obtain ⟨h13, hf⟩ := gd_some hf
            obtain ⟨a14, ea14⟩ : ∃ y : Nat → Int32, y = upd u7 (Int32.toNatClampNeg u6) r10 := ⟨_, rfl⟩
            have hf := bv_at ea14 hf
            refine va_iast hx hb hK hP hD hS 4 0 rfl rfl (bnd_in h13) dX2_fill_53 (fun H locs hP hD hS => ?_)
            have hP : va_P G vwCl [(t_h, .inr (2, [.ref t_heights_h, .ref t_lows_h, .ref t_highs_h, .ref t_found_h])), (t_heights_h, .inr (7, [.int t_heights_width, .int t_heights_most, .ref t_heights_cells_h, .int t_heights_lines])), (t_lows_h, .inl (cI, 24, .inl w1)), (t_highs_h, .inl (cI, 24, .inl w2)), (t_found_h, .inl (cI, 24, .inl a14)), (t_heights_cells_h, .inl (cI, t_heights_cells_n, .inl t_heights_cells_a))] H := by rw [ea14]; exact hP
            have hD : va_D A [(t_h, .inr (2, [.ref t_heights_h, .ref t_lows_h, .ref t_highs_h, .ref t_found_h])), (t_heights_h, .inr (7, [.int t_heights_width, .int t_heights_most, .ref t_heights_cells_h, .int t_heights_lines])), (t_lows_h, .inl (cI, 24, .inl w1)), (t_highs_h, .inl (cI, 24, .inl w2)), (t_found_h, .inl (cI, 24, .inl a14)), (t_heights_cells_h, .inl (cI, t_heights_cells_n, .inl t_heights_cells_a))] := by rw [ea14]; exact hD
            obtain ⟨v15, ev15⟩ : ∃ y : Int32, y = u4 + 1 := ⟨_, rfl⟩
            have hf := bv_at ev15 hf
            refine lv_iinc (v := v15) (lv' := [(3, .int v15), (4, .int r10), (0, .ref t_h), (2, .int x2), (5, .int u6)]) hx hb dX2_fill_54 hl (k := 3) rfl (by rw [ev15]; rfl) (by decide) rfl (fun ls hl => ?_)
            obtain ⟨v16, ev16⟩ : ∃ y : Int32, y = u6 + 1 := ⟨_, rfl⟩
            have hf := bv_at ev16 hf
            refine lv_iinc (v := v16) (lv' := [(5, .int v16), (3, .int v15), (4, .int r10), (0, .ref t_h), (2, .int x2)]) hx hb dX2_fill_57 hl (k := 4) rfl (by rw [ev16]; rfl) (by decide) rfl (fun ls hl => ?_)
            refine lv_goto (tgt := 14) hx hb dX2_fill_60 (by decide) ?_
            cases hf
            exact ih _ _ _ _ hq _ _ _ hP hD hS (lv_sub hl [3, 4, 1, 2, 0] rfl)
          · have hf := ift hf c12
            refine lv_goto (tgt := 63) hx hb dX2_fill_42 (by decide) ?_
            cases hf
            exact hx1_0 _ _ hq _ _ _ hP hD hS (lv_sub hl [3] rfl)
  exact hl1 _ _ _ _ _ ht1 _ _ _ hP hD hS (lv_sub hl [3, 5, 2, 1, 0] rfl)
theorem dX2_layerAt_0 : decode cX2_layerAt 0 = .ok (.iload_n 1, 1) := by decide +kernel
theorem dX2_layerAt_1 : decode cX2_layerAt 1 = .ok (.ifCond .lt 18, 3) := by decide +kernel
theorem dX2_layerAt_4 : decode cX2_layerAt 4 = .ok (.iload_n 1, 1) := by decide +kernel
theorem dX2_layerAt_5 : decode cX2_layerAt 5 = .ok (.bipush 24, 2) := by decide +kernel
theorem dX2_layerAt_7 : decode cX2_layerAt 7 = .ok (.if_icmp .ge 12, 3) := by decide +kernel
theorem dX2_layerAt_10 : decode cX2_layerAt 10 = .ok (.aload_n 0, 1) := by decide +kernel
theorem dX2_layerAt_11 : decode cX2_layerAt 11 = .ok (.getfield 22, 3) := by decide +kernel
theorem dX2_layerAt_14 : decode cX2_layerAt 14 = .ok (.iload_n 1, 1) := by decide +kernel
theorem dX2_layerAt_15 : decode cX2_layerAt 15 = .ok (.iaload, 1) := by decide +kernel
theorem dX2_layerAt_16 : decode cX2_layerAt 16 = .ok (.goto 4, 3) := by decide +kernel
theorem dX2_layerAt_19 : decode cX2_layerAt 19 = .ok (.iconst (-1), 1) := by decide +kernel
theorem dX2_layerAt_20 : decode cX2_layerAt 20 = .ok (.ireturn, 1) := by decide +kernel
set_option maxRecDepth 100000 in
def fX2_layerAt (x1 : Int32) (t_found_a : Nat → Int32) : Option (Int32) :=
  if x1 < 0 then
    some (-1)
  else
    if 24 ≤ x1 then
      some (-1)
    else
      gd (bnd x1 24) <|
      some (t_found_a (Int32.toNatClampNeg x1))
abbrev rmX2_layerAt : Room := { frames := 0, cells := 0, slots := 0, locals := 0 }
theorem iwX2_layerAt_X2 : ∀ w ∈ u_ws RX2 TX2 4, w ∈ wsX2_layerAt := by decide +kernel
set_option maxHeartbeats 4000000 in
set_option maxRecDepth 100000 in
theorem k_X2_layerAt (l : Launch) (G : va_G) (cI cJ : ClassId) (t_h t_heights_h t_lows_h t_highs_h t_found_h : Nat) (sz : Nat) (t_found_a : Nat → Int32) (x1 : Int32) {o_r : Int32} (hf : fX2_layerAt x1 t_found_a = some o_r) : MetI l yX2_layerAt wsX2_layerAt rmX2_layerAt [.ref t_h, .int x1] G cI cJ [(t_h, .inr (2, [.ref t_heights_h, .ref t_lows_h, .ref t_highs_h, .ref t_found_h])), (t_found_h, .inl (cI, 24, .inl t_found_a))] [(t_h, .inr (2, [.ref t_heights_h, .ref t_lows_h, .ref t_highs_h, .ref t_found_h])), (t_found_h, .inl (cI, 24, .inl t_found_a))] sz o_r := by
  refine en_0 (l := l) (y := yX2_layerAt) (wsl := wsX2_layerAt) (rm := rmX2_layerAt) (av := [.ref t_h, .int x1]) (G := G) (cI := cI) (cJ := cJ) (w0 := [(t_h, .inr (2, [.ref t_heights_h, .ref t_lows_h, .ref t_highs_h, .ref t_found_h])), (t_found_h, .inl (cI, 24, .inl t_found_a))]) (sz := sz) (Qf := fun A => Qi0 G cI cJ [(t_h, .inr (2, [.ref t_heights_h, .ref t_lows_h, .ref t_highs_h, .ref t_found_h])), (t_found_h, .inl (cI, 24, .inl t_found_a))] o_r A) (cc := cX2_layerAt) (maxL := 2) (ret := (some .int)) RX2 (by decide +kernel) rfl rfl (Nat.le_of_ble_eq_true rfl) ?_
  intro p e s m args below meth c A ls Q hQ hx hb hr hts hown hlocks hml hN hK hP hD hS hA hl
  have hl : lv_has ls 2 [(0, .ref t_h), (1, .int x1)] := hl
  have iwX2 := iwX2_layerAt_X2
  have fl_22 := hts (.fieldLink RX2 22 "CloudOffice$Layering" "found" "[I") (by decide +kernel)
  have hret : ∀ (o_r9 : Int32) (pc : Nat) (H : Heap) (locs : List Loc) (ls : Array Slot), decode cX2_layerAt pc = .ok (.ireturn, 1) → some o_r9 = some o_r → va_P G vwCl [(t_h, .inr (2, [.ref t_heights_h, .ref t_lows_h, .ref t_highs_h, .ref t_found_h])), (t_found_h, .inl (cI, 24, .inl t_found_a))] H → va_D A [(t_h, .inr (2, [.ref t_heights_h, .ref t_lows_h, .ref t_highs_h, .ref t_found_h])), (t_found_h, .inl (cI, 24, .inl t_found_a))] → va_S A s.heap H locs → W p l e rmX2_layerAt s m args below meth c H locs 0 0 Q (F0 m pc ls [.int o_r9]) := by
    intro o_r9 pc H locs ls hdg he hP hD hS
    cases he
    subst hQ
    exact rt_i hx hb hr hlocks hK hP hD hS rfl hdg
  clear hQ
  unfold fX2_layerAt at hf
  refine lv_iload_n hx hb dX2_layerAt_0 rfl (lv_at hl 1 rfl) ?_
  refine lv_if_lt (tgt := 19) hx hb dX2_layerAt_1 (by decide) (fun c1 => ?_) (fun c1 => ?_)
  · have hf := ift hf c1
    refine lv_iconst (v := (-1)) hx hb dX2_layerAt_19 (by decide) ?_
    exact hret (-1) 20 _ _ _ dX2_layerAt_20 hf hP hD hS
  · have hf := iff_ hf c1
    refine lv_iload_n hx hb dX2_layerAt_4 rfl (lv_at hl 1 rfl) ?_
    refine lv_bipush (v := 24) hx hb dX2_layerAt_5 (by decide) ?_
    refine lv_icmp_ge (tgt := 19) hx hb dX2_layerAt_7 (by decide) (fun c2 => ?_) (fun c2 => ?_)
    · have hf := ift hf c2
      refine lv_iconst (v := (-1)) hx hb dX2_layerAt_19 (by decide) ?_
      exact hret (-1) 20 _ _ _ dX2_layerAt_20 hf hP hD hS
    · have hf := iff_ hf c2
      refine lv_aload_n hx hb dX2_layerAt_10 rfl (lv_at hl 0 rfl) ?_
      refine va_get (D := G) (ci := 2) (v := .ref t_found_h) (C := RX2) (T := TX2) (N := 4) hx hb hts iwX2 hown hK hP 0 rfl rfl 3 (by decide) fl_22 (fun _ h9 => h9) rfl dX2_layerAt_11 ?_
      refine lv_iload_n hx hb dX2_layerAt_14 rfl (lv_at hl 1 rfl) ?_
      obtain ⟨h3, hf⟩ := gd_some hf
      refine va_iald hx hb hK hP 1 0 rfl rfl (bnd_in h3) dX2_layerAt_15 ?_
      refine lv_goto (tgt := 20) hx hb dX2_layerAt_16 (by decide) ?_
      exact hret (t_found_a (Int32.toNatClampNeg x1)) 20 _ _ _ dX2_layerAt_20 hf hP hD hS
set_option maxRecDepth 20000 in
theorem ggX2_bestTilt_X2_fill : GoodIn wsX2_bestTilt wsX2_fill := goodIn_r _ [5, 6, 7, 8, 9, 10, 11, 4, 12, 13, 14, 15, 16, 17, 18, 19, 20, 21, 22, 23, 24, 25, 26, 27, 28, 29, 30, 31, 32, 33, 34, 35, 36, 37, 38, 39] (by decide +kernel) (by decide +kernel)
set_option maxRecDepth 20000 in
theorem gX2_bestTilt_X2_fill : GoodIn wsX2_bestTilt (wsV RX2 45 RX2 yX2_fill wsX2_fill) := goodIn_app (goodIn_of _ (by decide +kernel)) ggX2_bestTilt_X2_fill
theorem dX2_bestTilt_0 : decode cX2_bestTilt 0 = .ok (.iconst 0, 1) := by decide +kernel
theorem dX2_bestTilt_1 : decode cX2_bestTilt 1 = .ok (.istore_n 1, 1) := by decide +kernel
theorem dX2_bestTilt_2 : decode cX2_bestTilt 2 = .ok (.aload_n 0, 1) := by decide +kernel
theorem dX2_bestTilt_3 : decode cX2_bestTilt 3 = .ok (.iconst 0, 1) := by decide +kernel
theorem dX2_bestTilt_4 : decode cX2_bestTilt 4 = .ok (.bipush 24, 2) := by decide +kernel
theorem dX2_bestTilt_6 : decode cX2_bestTilt 6 = .ok (.invokevirtual 45, 3) := by decide +kernel
theorem dX2_bestTilt_9 : decode cX2_bestTilt 9 = .ok (.istore_n 2, 1) := by decide +kernel
theorem dX2_bestTilt_10 : decode cX2_bestTilt 10 = .ok (.iconst 1, 1) := by decide +kernel
theorem dX2_bestTilt_11 : decode cX2_bestTilt 11 = .ok (.istore_n 3, 1) := by decide +kernel
theorem dX2_bestTilt_12 : decode cX2_bestTilt 12 = .ok (.iload_n 3, 1) := by decide +kernel
theorem dX2_bestTilt_13 : decode cX2_bestTilt 13 = .ok (.bipush 50, 2) := by decide +kernel
theorem dX2_bestTilt_15 : decode cX2_bestTilt 15 = .ok (.if_icmp .gt 49, 3) := by decide +kernel
theorem dX2_bestTilt_18 : decode cX2_bestTilt 18 = .ok (.aload_n 0, 1) := by decide +kernel
theorem dX2_bestTilt_19 : decode cX2_bestTilt 19 = .ok (.iload_n 3, 1) := by decide +kernel
theorem dX2_bestTilt_20 : decode cX2_bestTilt 20 = .ok (.iload_n 2, 1) := by decide +kernel
theorem dX2_bestTilt_21 : decode cX2_bestTilt 21 = .ok (.invokevirtual 45, 3) := by decide +kernel
theorem dX2_bestTilt_24 : decode cX2_bestTilt 24 = .ok (.istore 4, 2) := by decide +kernel
theorem dX2_bestTilt_26 : decode cX2_bestTilt 26 = .ok (.iload 4, 2) := by decide +kernel
theorem dX2_bestTilt_28 : decode cX2_bestTilt 28 = .ok (.iload_n 2, 1) := by decide +kernel
theorem dX2_bestTilt_29 : decode cX2_bestTilt 29 = .ok (.if_icmp .ge 8, 3) := by decide +kernel
theorem dX2_bestTilt_32 : decode cX2_bestTilt 32 = .ok (.iload 4, 2) := by decide +kernel
theorem dX2_bestTilt_34 : decode cX2_bestTilt 34 = .ok (.istore_n 2, 1) := by decide +kernel
theorem dX2_bestTilt_35 : decode cX2_bestTilt 35 = .ok (.iload_n 3, 1) := by decide +kernel
theorem dX2_bestTilt_36 : decode cX2_bestTilt 36 = .ok (.istore_n 1, 1) := by decide +kernel
theorem dX2_bestTilt_37 : decode cX2_bestTilt 37 = .ok (.aload_n 0, 1) := by decide +kernel
theorem dX2_bestTilt_38 : decode cX2_bestTilt 38 = .ok (.iload_n 3, 1) := by decide +kernel
theorem dX2_bestTilt_39 : decode cX2_bestTilt 39 = .ok (.ineg, 1) := by decide +kernel
theorem dX2_bestTilt_40 : decode cX2_bestTilt 40 = .ok (.iload_n 2, 1) := by decide +kernel
theorem dX2_bestTilt_41 : decode cX2_bestTilt 41 = .ok (.invokevirtual 45, 3) := by decide +kernel
theorem dX2_bestTilt_44 : decode cX2_bestTilt 44 = .ok (.istore 5, 2) := by decide +kernel
theorem dX2_bestTilt_46 : decode cX2_bestTilt 46 = .ok (.iload 5, 2) := by decide +kernel
theorem dX2_bestTilt_48 : decode cX2_bestTilt 48 = .ok (.iload_n 2, 1) := by decide +kernel
theorem dX2_bestTilt_49 : decode cX2_bestTilt 49 = .ok (.if_icmp .ge 9, 3) := by decide +kernel
theorem dX2_bestTilt_52 : decode cX2_bestTilt 52 = .ok (.iload 5, 2) := by decide +kernel
theorem dX2_bestTilt_54 : decode cX2_bestTilt 54 = .ok (.istore_n 2, 1) := by decide +kernel
theorem dX2_bestTilt_55 : decode cX2_bestTilt 55 = .ok (.iload_n 3, 1) := by decide +kernel
theorem dX2_bestTilt_56 : decode cX2_bestTilt 56 = .ok (.ineg, 1) := by decide +kernel
theorem dX2_bestTilt_57 : decode cX2_bestTilt 57 = .ok (.istore_n 1, 1) := by decide +kernel
theorem dX2_bestTilt_58 : decode cX2_bestTilt 58 = .ok (.iinc 3 1, 3) := by decide +kernel
theorem dX2_bestTilt_61 : decode cX2_bestTilt 61 = .ok (.goto (-49), 3) := by decide +kernel
theorem dX2_bestTilt_64 : decode cX2_bestTilt 64 = .ok (.iload_n 1, 1) := by decide +kernel
theorem dX2_bestTilt_65 : decode cX2_bestTilt 65 = .ok (.ireturn, 1) := by decide +kernel
set_option maxRecDepth 100000 in
def fX2_bestTilt_L1 (t_heights_width : Int32) (t_heights_lines : Int32) (t_heights_cells_n : Nat) (t_heights_cells_a : Nat → Int32) : (Int32 × Int32 × Int32 × (Nat → Int32) × (Nat → Int32) × (Nat → Int32)) → Option ((Int32 × (Nat → Int32) × (Nat → Int32) × (Nat → Int32)) ⊕ (Int32 × Int32 × Int32 × (Nat → Int32) × (Nat → Int32) × (Nat → Int32))) := un6 fun (u6 : Int32) (u7 : Int32) (u8 : Int32) (u9 : Nat → Int32) (u10 : Nat → Int32) (u11 : Nat → Int32) =>
  if 50 < u8 then
    some (.inl (u6, u9, u10, u11))
  else
    ob4 (fX2_fill u8 u7 t_heights_width t_heights_lines u9 u10 u11 t_heights_cells_n t_heights_cells_a) fun r13 w14 w15 w16 =>
    ob2 (α0 := Int32) (α1 := Int32) (
        if u7 ≤ r13 then
          some (u6, u7)
        else
          some (u8, r13)
      ) fun m18 m19 =>
    ob4 (fX2_fill (-u8) m19 t_heights_width t_heights_lines w14 w15 w16 t_heights_cells_n t_heights_cells_a) fun r23 w24 w25 w26 =>
    ob2 (α0 := Int32) (α1 := Int32) (
        if m19 ≤ r23 then
          some (m18, m19)
        else
          bv (-u8) fun v33 =>
          some (v33, r23)
      ) fun m28 m29 =>
    bv (u8 + 1) fun v34 =>
    some (.inr (m28, m29, v34, w24, w25, w26))
set_option maxRecDepth 100000 in
def fX2_bestTilt (t_heights_width : Int32) (t_heights_lines : Int32) (t_lows_a : Nat → Int32) (t_highs_a : Nat → Int32) (t_found_a : Nat → Int32) (t_heights_cells_n : Nat) (t_heights_cells_a : Nat → Int32) : Option (Int32 × (Nat → Int32) × (Nat → Int32) × (Nat → Int32)) :=
  ob4 (fX2_fill 0 24 t_heights_width t_heights_lines t_lows_a t_highs_a t_found_a t_heights_cells_n t_heights_cells_a) fun r1 w2 w3 w4 =>
  ob4 (it (fX2_bestTilt_L1 t_heights_width t_heights_lines t_heights_cells_n t_heights_cells_a) 100000 (0, r1, 1, w2, w3, w4)) fun x35 x36 x37 x38 =>
  some (x35, x36, x37, x38)
abbrev rmX2_bestTilt : Room := { frames := 3, cells := 0, slots := 0, locals := 71 }
set_option maxHeartbeats 4000000 in
set_option maxRecDepth 100000 in
theorem k_X2_bestTilt (l : Launch) (G : va_G) (cI cJ : ClassId) (t_h t_heights_h t_lows_h t_highs_h t_found_h t_heights_cells_h : Nat) (sz : Nat) (t_heights_width : Int32) (t_heights_most : Int32) (t_heights_lines : Int32) (t_lows_a : Nat → Int32) (t_highs_a : Nat → Int32) (t_found_a : Nat → Int32) (t_heights_cells_n : Nat) (t_heights_cells_a : Nat → Int32) {o_r : Int32} {o_t_lows_a : Nat → Int32} {o_t_highs_a : Nat → Int32} {o_t_found_a : Nat → Int32} (hf : fX2_bestTilt t_heights_width t_heights_lines t_lows_a t_highs_a t_found_a t_heights_cells_n t_heights_cells_a = some (o_r, o_t_lows_a, o_t_highs_a, o_t_found_a)) : MetI l yX2_bestTilt wsX2_bestTilt rmX2_bestTilt [.ref t_h] G cI cJ [(t_h, .inr (2, [.ref t_heights_h, .ref t_lows_h, .ref t_highs_h, .ref t_found_h])), (t_heights_h, .inr (7, [.int t_heights_width, .int t_heights_most, .ref t_heights_cells_h, .int t_heights_lines])), (t_lows_h, .inl (cI, 24, .inl t_lows_a)), (t_highs_h, .inl (cI, 24, .inl t_highs_a)), (t_found_h, .inl (cI, 24, .inl t_found_a)), (t_heights_cells_h, .inl (cI, t_heights_cells_n, .inl t_heights_cells_a))] [(t_h, .inr (2, [.ref t_heights_h, .ref t_lows_h, .ref t_highs_h, .ref t_found_h])), (t_heights_h, .inr (7, [.int t_heights_width, .int t_heights_most, .ref t_heights_cells_h, .int t_heights_lines])), (t_lows_h, .inl (cI, 24, .inl o_t_lows_a)), (t_highs_h, .inl (cI, 24, .inl o_t_highs_a)), (t_found_h, .inl (cI, 24, .inl o_t_found_a)), (t_heights_cells_h, .inl (cI, t_heights_cells_n, .inl t_heights_cells_a))] sz o_r := by
  refine en_0 (l := l) (y := yX2_bestTilt) (wsl := wsX2_bestTilt) (rm := rmX2_bestTilt) (av := [.ref t_h]) (G := G) (cI := cI) (cJ := cJ) (w0 := [(t_h, .inr (2, [.ref t_heights_h, .ref t_lows_h, .ref t_highs_h, .ref t_found_h])), (t_heights_h, .inr (7, [.int t_heights_width, .int t_heights_most, .ref t_heights_cells_h, .int t_heights_lines])), (t_lows_h, .inl (cI, 24, .inl t_lows_a)), (t_highs_h, .inl (cI, 24, .inl t_highs_a)), (t_found_h, .inl (cI, 24, .inl t_found_a)), (t_heights_cells_h, .inl (cI, t_heights_cells_n, .inl t_heights_cells_a))]) (sz := sz) (Qf := fun A => Qi0 G cI cJ [(t_h, .inr (2, [.ref t_heights_h, .ref t_lows_h, .ref t_highs_h, .ref t_found_h])), (t_heights_h, .inr (7, [.int t_heights_width, .int t_heights_most, .ref t_heights_cells_h, .int t_heights_lines])), (t_lows_h, .inl (cI, 24, .inl o_t_lows_a)), (t_highs_h, .inl (cI, 24, .inl o_t_highs_a)), (t_found_h, .inl (cI, 24, .inl o_t_found_a)), (t_heights_cells_h, .inl (cI, t_heights_cells_n, .inl t_heights_cells_a))] o_r A) (cc := cX2_bestTilt) (maxL := 6) (ret := (some .int)) RX2 (by decide +kernel) rfl rfl (Nat.le_of_ble_eq_true rfl) ?_
  intro p e s m args below meth c A ls Q hQ hx hb hr hts hown hlocks hml hN hK hP hD hS hA hl
  have hl : lv_has ls 6 [(0, .ref t_h)] := hl
  have hret : ∀ (o_r9 : Int32) (o_t_lows_a9 : Nat → Int32) (o_t_highs_a9 : Nat → Int32) (o_t_found_a9 : Nat → Int32) (pc : Nat) (H : Heap) (locs : List Loc) (ls : Array Slot), decode cX2_bestTilt pc = .ok (.ireturn, 1) → some (o_r9, o_t_lows_a9, o_t_highs_a9, o_t_found_a9) = some (o_r, o_t_lows_a, o_t_highs_a, o_t_found_a) → va_P G vwCl [(t_h, .inr (2, [.ref t_heights_h, .ref t_lows_h, .ref t_highs_h, .ref t_found_h])), (t_heights_h, .inr (7, [.int t_heights_width, .int t_heights_most, .ref t_heights_cells_h, .int t_heights_lines])), (t_lows_h, .inl (cI, 24, .inl o_t_lows_a9)), (t_highs_h, .inl (cI, 24, .inl o_t_highs_a9)), (t_found_h, .inl (cI, 24, .inl o_t_found_a9)), (t_heights_cells_h, .inl (cI, t_heights_cells_n, .inl t_heights_cells_a))] H → va_D A [(t_h, .inr (2, [.ref t_heights_h, .ref t_lows_h, .ref t_highs_h, .ref t_found_h])), (t_heights_h, .inr (7, [.int t_heights_width, .int t_heights_most, .ref t_heights_cells_h, .int t_heights_lines])), (t_lows_h, .inl (cI, 24, .inl o_t_lows_a9)), (t_highs_h, .inl (cI, 24, .inl o_t_highs_a9)), (t_found_h, .inl (cI, 24, .inl o_t_found_a9)), (t_heights_cells_h, .inl (cI, t_heights_cells_n, .inl t_heights_cells_a))] → va_S A s.heap H locs → W p l e rmX2_bestTilt s m args below meth c H locs 0 0 Q (F0 m pc ls [.int o_r9]) := by
    intro o_r9 o_t_lows_a9 o_t_highs_a9 o_t_found_a9 pc H locs ls hdg he hP hD hS
    cases he
    subst hQ
    exact rt_i hx hb hr hlocks hK hP hD hS rfl hdg
  clear hQ
  unfold fX2_bestTilt at hf
  refine lv_iconst (v := 0) hx hb dX2_bestTilt_0 (by decide) ?_
  refine lv_istore_n (lv' := [(1, .int 0), (0, .ref t_h)]) hx hb dX2_bestTilt_1 rfl hl (by decide) rfl (fun ls hl => ?_)
  refine lv_aload_n hx hb dX2_bestTilt_2 rfl (lv_at hl 1 rfl) ?_
  refine lv_iconst (v := 0) hx hb dX2_bestTilt_3 (by decide) ?_
  refine lv_bipush (v := 24) hx hb dX2_bestTilt_4 (by decide) ?_
  obtain ⟨r1, w2, w3, w4, hc5, hf⟩ := ob4_some hf
  refine af_iW (wr := []) (ws2 := [(t_h, .inr (2, [.ref t_heights_h, .ref t_lows_h, .ref t_highs_h, .ref t_found_h])), (t_heights_h, .inr (7, [.int t_heights_width, .int t_heights_most, .ref t_heights_cells_h, .int t_heights_lines])), (t_lows_h, .inl (cI, 24, .inl w2)), (t_highs_h, .inl (cI, 24, .inl w3)), (t_found_h, .inl (cI, 24, .inl w4)), (t_heights_cells_h, .inl (cI, t_heights_cells_n, .inl t_heights_cells_a))]) (va_runV (As := [.int 0, .int 24]) (rest := []) ⟨hx, hb, hml, hown, hts⟩ (k_X2_fill l G cI cJ (t_h := t_h) (t_heights_h := t_heights_h) (t_lows_h := t_lows_h) (t_highs_h := t_highs_h) (t_found_h := t_found_h) (t_heights_cells_h := t_heights_cells_h) (t_heights_width := t_heights_width) (t_heights_most := t_heights_most) (t_heights_lines := t_heights_lines) (t_lows_a := t_lows_a) (t_highs_a := t_highs_a) (t_found_a := t_found_a) (t_heights_cells_n := t_heights_cells_n) (t_heights_cells_a := t_heights_cells_a) (x1 := 0) (x2 := 24) (sz := _) (hf := hc5)) (cwV 2 hts gX2_bestTilt_X2_fill rfl rfl rfl (by decide +kernel) ⟨Nat.le_of_ble_eq_true rfl, Nat.le_of_ble_eq_true rfl⟩) (preV0 (ci := 2) (q0 := 0) (C := RX2) (wc := [(t_h, .inr (2, [.ref t_heights_h, .ref t_lows_h, .ref t_highs_h, .ref t_found_h])), (t_heights_h, .inr (7, [.int t_heights_width, .int t_heights_most, .ref t_heights_cells_h, .int t_heights_lines])), (t_lows_h, .inl (cI, 24, .inl t_lows_a)), (t_highs_h, .inl (cI, 24, .inl t_highs_a)), (t_found_h, .inl (cI, 24, .inl t_found_a)), (t_heights_cells_h, .inl (cI, t_heights_cells_n, .inl t_heights_cells_a))]) hK hP hD hN [0, 1, 2, 3, 4, 5] rfl rfl (by decide) rfl rfl) rfl rfl hl.1 rfl (lv_room (Nat.le_of_ble_eq_true rfl)) dX2_bestTilt_6 ⟨Nat.zero_le _, Nat.zero_le _⟩) hP hD hS hA [0, 1, 2, 3, 4, 5] [] [0, 1, 2, 3, 4, 5] rfl rfl (by decide) (by decide) rfl rfl (by decide) (fun H locs hP hD hS => ?_)
  refine lv_istore_n (lv' := [(2, .int r1), (1, .int 0), (0, .ref t_h)]) hx hb dX2_bestTilt_9 rfl hl (by decide) rfl (fun ls hl => ?_)
  refine lv_iconst (v := 1) hx hb dX2_bestTilt_10 (by decide) ?_
  refine lv_istore_n (lv' := [(3, .int 1), (2, .int r1), (1, .int 0), (0, .ref t_h)]) hx hb dX2_bestTilt_11 rfl hl (by decide) rfl (fun ls hl => ?_)
  obtain ⟨x35, x36, x37, x38, ht1, hf⟩ := ob4_some hf
  have hx1_0 : ∀ (x359 : Int32) (x369 : Nat → Int32) (x379 : Nat → Int32) (x389 : Nat → Int32), (x359, x369, x379, x389) = (x35, x36, x37, x38) → ∀ (H : Heap) (locs : List Loc) (ls : Array Slot), va_P G vwCl [(t_h, .inr (2, [.ref t_heights_h, .ref t_lows_h, .ref t_highs_h, .ref t_found_h])), (t_heights_h, .inr (7, [.int t_heights_width, .int t_heights_most, .ref t_heights_cells_h, .int t_heights_lines])), (t_lows_h, .inl (cI, 24, .inl x369)), (t_highs_h, .inl (cI, 24, .inl x379)), (t_found_h, .inl (cI, 24, .inl x389)), (t_heights_cells_h, .inl (cI, t_heights_cells_n, .inl t_heights_cells_a))] H → va_D A [(t_h, .inr (2, [.ref t_heights_h, .ref t_lows_h, .ref t_highs_h, .ref t_found_h])), (t_heights_h, .inr (7, [.int t_heights_width, .int t_heights_most, .ref t_heights_cells_h, .int t_heights_lines])), (t_lows_h, .inl (cI, 24, .inl x369)), (t_highs_h, .inl (cI, 24, .inl x379)), (t_found_h, .inl (cI, 24, .inl x389)), (t_heights_cells_h, .inl (cI, t_heights_cells_n, .inl t_heights_cells_a))] → va_S A s.heap H locs → lv_has ls 6 [(1, .int x359)] → W p l e rmX2_bestTilt s m args below meth c H locs 0 0 Q (F0 m 64 ls []) := by
    intro x359 x369 x379 x389 he H locs ls hP hD hS hl
    cases he
    refine lv_iload_n hx hb dX2_bestTilt_64 rfl (lv_at hl 0 rfl) ?_
    exact hret x35 x36 x37 x38 65 _ _ _ dX2_bestTilt_65 hf hP hD hS
  clear hf
  have hl1 : ∀ (n : Nat) (u6 : Int32) (u7 : Int32) (u8 : Int32) (u9 : Nat → Int32) (u10 : Nat → Int32) (u11 : Nat → Int32), it (fX2_bestTilt_L1 t_heights_width t_heights_lines t_heights_cells_n t_heights_cells_a) n (u6, u7, u8, u9, u10, u11) = some (x35, x36, x37, x38) → ∀ (H : Heap) (locs : List Loc) (ls : Array Slot), va_P G vwCl [(t_h, .inr (2, [.ref t_heights_h, .ref t_lows_h, .ref t_highs_h, .ref t_found_h])), (t_heights_h, .inr (7, [.int t_heights_width, .int t_heights_most, .ref t_heights_cells_h, .int t_heights_lines])), (t_lows_h, .inl (cI, 24, .inl u9)), (t_highs_h, .inl (cI, 24, .inl u10)), (t_found_h, .inl (cI, 24, .inl u11)), (t_heights_cells_h, .inl (cI, t_heights_cells_n, .inl t_heights_cells_a))] H → va_D A [(t_h, .inr (2, [.ref t_heights_h, .ref t_lows_h, .ref t_highs_h, .ref t_found_h])), (t_heights_h, .inr (7, [.int t_heights_width, .int t_heights_most, .ref t_heights_cells_h, .int t_heights_lines])), (t_lows_h, .inl (cI, 24, .inl u9)), (t_highs_h, .inl (cI, 24, .inl u10)), (t_found_h, .inl (cI, 24, .inl u11)), (t_heights_cells_h, .inl (cI, t_heights_cells_n, .inl t_heights_cells_a))] → va_S A s.heap H locs → lv_has ls 6 [(0, .ref t_h), (1, .int u6), (2, .int u7), (3, .int u8)] → W p l e rmX2_bestTilt s m args below meth c H locs 0 0 Q (F0 m 12 ls []) := by
    intro n
    induction n with
    | zero => intro u6 u7 u8 u9 u10 u11 hz; exact (it_zero hz).elim
    | succ n ih =>
      intro u6 u7 u8 u9 u10 u11 hz H locs ls hP hD hS hl
      obtain ⟨x9, hf, hq⟩ := it_succ hz
      unfold fX2_bestTilt_L1 at hf
      dsimp only [un6] at hf
      refine lv_iload_n hx hb dX2_bestTilt_12 rfl (lv_at hl 3 rfl) ?_
      refine lv_bipush (v := 50) hx hb dX2_bestTilt_13 (by decide) ?_
      refine lv_icmp_gt (tgt := 64) hx hb dX2_bestTilt_15 (by decide) (fun c12 => ?_) (fun c12 => ?_)
      · have hf := ift hf c12
        cases hf
        exact hx1_0 _ _ _ _ hq _ _ _ hP hD hS (lv_sub hl [1] rfl)
      · have hf := iff_ hf c12
        refine lv_aload_n hx hb dX2_bestTilt_18 rfl (lv_at hl 0 rfl) ?_
        refine lv_iload_n hx hb dX2_bestTilt_19 rfl (lv_at hl 3 rfl) ?_
        refine lv_iload_n hx hb dX2_bestTilt_20 rfl (lv_at hl 2 rfl) ?_
        obtain ⟨r13, w14, w15, w16, hc17, hf⟩ := ob4_some hf
        refine af_iW (wr := []) (ws2 := [(t_h, .inr (2, [.ref t_heights_h, .ref t_lows_h, .ref t_highs_h, .ref t_found_h])), (t_heights_h, .inr (7, [.int t_heights_width, .int t_heights_most, .ref t_heights_cells_h, .int t_heights_lines])), (t_lows_h, .inl (cI, 24, .inl w14)), (t_highs_h, .inl (cI, 24, .inl w15)), (t_found_h, .inl (cI, 24, .inl w16)), (t_heights_cells_h, .inl (cI, t_heights_cells_n, .inl t_heights_cells_a))]) (va_runV (As := [.int u8, .int u7]) (rest := []) ⟨hx, hb, hml, hown, hts⟩ (k_X2_fill l G cI cJ (t_h := t_h) (t_heights_h := t_heights_h) (t_lows_h := t_lows_h) (t_highs_h := t_highs_h) (t_found_h := t_found_h) (t_heights_cells_h := t_heights_cells_h) (t_heights_width := t_heights_width) (t_heights_most := t_heights_most) (t_heights_lines := t_heights_lines) (t_lows_a := u9) (t_highs_a := u10) (t_found_a := u11) (t_heights_cells_n := t_heights_cells_n) (t_heights_cells_a := t_heights_cells_a) (x1 := u8) (x2 := u7) (sz := _) (hf := hc17)) (cwV 2 hts gX2_bestTilt_X2_fill rfl rfl rfl (by decide +kernel) ⟨Nat.le_of_ble_eq_true rfl, Nat.le_of_ble_eq_true rfl⟩) (preV0 (ci := 2) (q0 := 0) (C := RX2) (wc := [(t_h, .inr (2, [.ref t_heights_h, .ref t_lows_h, .ref t_highs_h, .ref t_found_h])), (t_heights_h, .inr (7, [.int t_heights_width, .int t_heights_most, .ref t_heights_cells_h, .int t_heights_lines])), (t_lows_h, .inl (cI, 24, .inl u9)), (t_highs_h, .inl (cI, 24, .inl u10)), (t_found_h, .inl (cI, 24, .inl u11)), (t_heights_cells_h, .inl (cI, t_heights_cells_n, .inl t_heights_cells_a))]) hK hP hD hN [0, 1, 2, 3, 4, 5] rfl rfl (by decide) rfl rfl) rfl rfl hl.1 rfl (lv_room (Nat.le_of_ble_eq_true rfl)) dX2_bestTilt_21 ⟨Nat.zero_le _, Nat.zero_le _⟩) hP hD hS hA [0, 1, 2, 3, 4, 5] [] [0, 1, 2, 3, 4, 5] rfl rfl (by decide) (by decide) rfl rfl (by decide) (fun H locs hP hD hS => ?_)
        refine lv_istore (lv' := [(4, .int r13), (0, .ref t_h), (1, .int u6), (2, .int u7), (3, .int u8)]) hx hb dX2_bestTilt_24 hl (by decide) rfl (fun ls hl => ?_)
        refine lv_iload hx hb dX2_bestTilt_26 (lv_at hl 0 rfl) ?_
        refine lv_iload_n hx hb dX2_bestTilt_28 rfl (lv_at hl 3 rfl) ?_
        obtain ⟨m18, m19, hr20, hf⟩ := ob2_some hf
        have hj21 : ∀ (m189 : Int32) (m199 : Int32), some (m189, m199) = some (m18, m19) → ∀ (H : Heap) (locs : List Loc) (ls : Array Slot), va_P G vwCl [(t_h, .inr (2, [.ref t_heights_h, .ref t_lows_h, .ref t_highs_h, .ref t_found_h])), (t_heights_h, .inr (7, [.int t_heights_width, .int t_heights_most, .ref t_heights_cells_h, .int t_heights_lines])), (t_lows_h, .inl (cI, 24, .inl w14)), (t_highs_h, .inl (cI, 24, .inl w15)), (t_found_h, .inl (cI, 24, .inl w16)), (t_heights_cells_h, .inl (cI, t_heights_cells_n, .inl t_heights_cells_a))] H → va_D A [(t_h, .inr (2, [.ref t_heights_h, .ref t_lows_h, .ref t_highs_h, .ref t_found_h])), (t_heights_h, .inr (7, [.int t_heights_width, .int t_heights_most, .ref t_heights_cells_h, .int t_heights_lines])), (t_lows_h, .inl (cI, 24, .inl w14)), (t_highs_h, .inl (cI, 24, .inl w15)), (t_found_h, .inl (cI, 24, .inl w16)), (t_heights_cells_h, .inl (cI, t_heights_cells_n, .inl t_heights_cells_a))] → va_S A s.heap H locs → lv_has ls 6 [(0, .ref t_h), (1, .int m189), (2, .int m199), (3, .int u8)] → W p l e rmX2_bestTilt s m args below meth c H locs 0 0 Q (F0 m 37 ls []) := by
          intro m189 m199 he H locs ls hP hD hS hl
          cases he
          refine lv_aload_n hx hb dX2_bestTilt_37 rfl (lv_at hl 0 rfl) ?_
          refine lv_iload_n hx hb dX2_bestTilt_38 rfl (lv_at hl 3 rfl) ?_
          refine lv_ineg hx hb dX2_bestTilt_39 ?_
          refine lv_iload_n hx hb dX2_bestTilt_40 rfl (lv_at hl 2 rfl) ?_
          obtain ⟨r23, w24, w25, w26, hc27, hf⟩ := ob4_some hf
          refine af_iW (wr := []) (ws2 := [(t_h, .inr (2, [.ref t_heights_h, .ref t_lows_h, .ref t_highs_h, .ref t_found_h])), (t_heights_h, .inr (7, [.int t_heights_width, .int t_heights_most, .ref t_heights_cells_h, .int t_heights_lines])), (t_lows_h, .inl (cI, 24, .inl w24)), (t_highs_h, .inl (cI, 24, .inl w25)), (t_found_h, .inl (cI, 24, .inl w26)), (t_heights_cells_h, .inl (cI, t_heights_cells_n, .inl t_heights_cells_a))]) (va_runV (As := [.int (-u8), .int m19]) (rest := []) ⟨hx, hb, hml, hown, hts⟩ (k_X2_fill l G cI cJ (t_h := t_h) (t_heights_h := t_heights_h) (t_lows_h := t_lows_h) (t_highs_h := t_highs_h) (t_found_h := t_found_h) (t_heights_cells_h := t_heights_cells_h) (t_heights_width := t_heights_width) (t_heights_most := t_heights_most) (t_heights_lines := t_heights_lines) (t_lows_a := w14) (t_highs_a := w15) (t_found_a := w16) (t_heights_cells_n := t_heights_cells_n) (t_heights_cells_a := t_heights_cells_a) (x1 := (-u8)) (x2 := m19) (sz := _) (hf := hc27)) (cwV 2 hts gX2_bestTilt_X2_fill rfl rfl rfl (by decide +kernel) ⟨Nat.le_of_ble_eq_true rfl, Nat.le_of_ble_eq_true rfl⟩) (preV0 (ci := 2) (q0 := 0) (C := RX2) (wc := [(t_h, .inr (2, [.ref t_heights_h, .ref t_lows_h, .ref t_highs_h, .ref t_found_h])), (t_heights_h, .inr (7, [.int t_heights_width, .int t_heights_most, .ref t_heights_cells_h, .int t_heights_lines])), (t_lows_h, .inl (cI, 24, .inl w14)), (t_highs_h, .inl (cI, 24, .inl w15)), (t_found_h, .inl (cI, 24, .inl w16)), (t_heights_cells_h, .inl (cI, t_heights_cells_n, .inl t_heights_cells_a))]) hK hP hD hN [0, 1, 2, 3, 4, 5] rfl rfl (by decide) rfl rfl) rfl rfl hl.1 rfl (lv_room (Nat.le_of_ble_eq_true rfl)) dX2_bestTilt_41 ⟨Nat.zero_le _, Nat.zero_le _⟩) hP hD hS hA [0, 1, 2, 3, 4, 5] [] [0, 1, 2, 3, 4, 5] rfl rfl (by decide) (by decide) rfl rfl (by decide) (fun H locs hP hD hS => ?_)
          refine lv_istore (lv' := [(5, .int r23), (0, .ref t_h), (1, .int m18), (2, .int m19), (3, .int u8)]) hx hb dX2_bestTilt_44 hl (by decide) rfl (fun ls hl => ?_)
          refine lv_iload hx hb dX2_bestTilt_46 (lv_at hl 0 rfl) ?_
          refine lv_iload_n hx hb dX2_bestTilt_48 rfl (lv_at hl 3 rfl) ?_
          obtain ⟨m28, m29, hr30, hf⟩ := ob2_some hf
          have hj31 : ∀ (m289 : Int32) (m299 : Int32), some (m289, m299) = some (m28, m29) → ∀ (H : Heap) (locs : List Loc) (ls : Array Slot), va_P G vwCl [(t_h, .inr (2, [.ref t_heights_h, .ref t_lows_h, .ref t_highs_h, .ref t_found_h])), (t_heights_h, .inr (7, [.int t_heights_width, .int t_heights_most, .ref t_heights_cells_h, .int t_heights_lines])), (t_lows_h, .inl (cI, 24, .inl w24)), (t_highs_h, .inl (cI, 24, .inl w25)), (t_found_h, .inl (cI, 24, .inl w26)), (t_heights_cells_h, .inl (cI, t_heights_cells_n, .inl t_heights_cells_a))] H → va_D A [(t_h, .inr (2, [.ref t_heights_h, .ref t_lows_h, .ref t_highs_h, .ref t_found_h])), (t_heights_h, .inr (7, [.int t_heights_width, .int t_heights_most, .ref t_heights_cells_h, .int t_heights_lines])), (t_lows_h, .inl (cI, 24, .inl w24)), (t_highs_h, .inl (cI, 24, .inl w25)), (t_found_h, .inl (cI, 24, .inl w26)), (t_heights_cells_h, .inl (cI, t_heights_cells_n, .inl t_heights_cells_a))] → va_S A s.heap H locs → lv_has ls 6 [(0, .ref t_h), (1, .int m289), (2, .int m299), (3, .int u8)] → W p l e rmX2_bestTilt s m args below meth c H locs 0 0 Q (F0 m 58 ls []) := by
            intro m289 m299 he H locs ls hP hD hS hl
            cases he
            obtain ⟨v34, ev34⟩ : ∃ y : Int32, y = u8 + 1 := ⟨_, rfl⟩
            have hf := bv_at ev34 hf
            refine lv_iinc (v := v34) (lv' := [(3, .int v34), (0, .ref t_h), (1, .int m28), (2, .int m29)]) hx hb dX2_bestTilt_58 hl (k := 3) rfl (by rw [ev34]; rfl) (by decide) rfl (fun ls hl => ?_)
            refine lv_goto (tgt := 12) hx hb dX2_bestTilt_61 (by decide) ?_
            cases hf
            exact ih _ _ _ _ _ _ hq _ _ _ hP hD hS (lv_sub hl [1, 2, 3, 0] rfl)
          replace hf := hr30
          refine lv_icmp_ge (tgt := 58) hx hb dX2_bestTilt_49 (by decide) (fun c32 => ?_) (fun c32 => ?_)
          · have hf := ift hf c32
            exact hj31 _ _ hf _ _ _ hP hD hS (lv_sub hl [1, 2, 3, 4] rfl)
          · have hf := iff_ hf c32
            refine lv_iload hx hb dX2_bestTilt_52 (lv_at hl 0 rfl) ?_
            refine lv_istore_n (lv' := [(2, .int r23), (5, .int r23), (0, .ref t_h), (1, .int m18), (3, .int u8)]) hx hb dX2_bestTilt_54 rfl hl (by decide) rfl (fun ls hl => ?_)
            refine lv_iload_n hx hb dX2_bestTilt_55 rfl (lv_at hl 4 rfl) ?_
            refine lv_ineg hx hb dX2_bestTilt_56 ?_
            refine lv_topi (fun v33 ev33 => ?_)
            have hf := bv_at ev33 hf
            refine lv_istore_n (lv' := [(1, .int v33), (2, .int r23), (5, .int r23), (0, .ref t_h), (3, .int u8)]) hx hb dX2_bestTilt_57 rfl hl (by decide) rfl (fun ls hl => ?_)
            exact hj31 _ _ hf _ _ _ hP hD hS (lv_sub hl [3, 0, 1, 4] rfl)
        replace hf := hr20
        refine lv_icmp_ge (tgt := 37) hx hb dX2_bestTilt_29 (by decide) (fun c22 => ?_) (fun c22 => ?_)
        · have hf := ift hf c22
          exact hj21 _ _ hf _ _ _ hP hD hS (lv_sub hl [1, 2, 3, 4] rfl)
        · have hf := iff_ hf c22
          refine lv_iload hx hb dX2_bestTilt_32 (lv_at hl 0 rfl) ?_
          refine lv_istore_n (lv' := [(2, .int r13), (4, .int r13), (0, .ref t_h), (1, .int u6), (3, .int u8)]) hx hb dX2_bestTilt_34 rfl hl (by decide) rfl (fun ls hl => ?_)
          refine lv_iload_n hx hb dX2_bestTilt_35 rfl (lv_at hl 4 rfl) ?_
          refine lv_istore_n (lv' := [(1, .int u8), (2, .int r13), (4, .int r13), (0, .ref t_h), (3, .int u8)]) hx hb dX2_bestTilt_36 rfl hl (by decide) rfl (fun ls hl => ?_)
          exact hj21 _ _ hf _ _ _ hP hD hS (lv_sub hl [3, 0, 1, 4] rfl)
  exact hl1 _ _ _ _ _ _ _ ht1 _ _ _ hP hD hS (lv_sub hl [3, 2, 1, 0] rfl)
