set_option maxRecDepth 20000 in
theorem ggX0_isJoined_X9_isWithin : GoodIn wsX0_isJoined wsX9_isWithin := goodIn_r _ [5] (by decide +kernel) (by decide +kernel)
theorem dX0_isJoined_0 : decode cX0_isJoined 0 = .ok (.iload_n 1, 1) := by decide +kernel
theorem dX0_isJoined_1 : decode cX0_isJoined 1 = .ok (.iconst 0, 1) := by decide +kernel
theorem dX0_isJoined_2 : decode cX0_isJoined 2 = .ok (.iconst 5, 1) := by decide +kernel
theorem dX0_isJoined_3 : decode cX0_isJoined 3 = .ok (.invokestatic 40, 3) := by decide +kernel
theorem dX0_isJoined_6 : decode cX0_isJoined 6 = .ok (.ifCond .eq 18, 3) := by decide +kernel
theorem dX0_isJoined_9 : decode cX0_isJoined 9 = .ok (.aload_n 0, 1) := by decide +kernel
theorem dX0_isJoined_10 : decode cX0_isJoined 10 = .ok (.getfield 15, 3) := by decide +kernel
theorem dX0_isJoined_13 : decode cX0_isJoined 13 = .ok (.iload_n 1, 1) := by decide +kernel
theorem dX0_isJoined_14 : decode cX0_isJoined 14 = .ok (.iaload, 1) := by decide +kernel
theorem dX0_isJoined_15 : decode cX0_isJoined 15 = .ok (.ldc 44, 2) := by decide +kernel
theorem dX0_isJoined_17 : decode cX0_isJoined 17 = .ok (.if_icmp .eq 7, 3) := by decide +kernel
theorem dX0_isJoined_20 : decode cX0_isJoined 20 = .ok (.iconst 1, 1) := by decide +kernel
theorem dX0_isJoined_21 : decode cX0_isJoined 21 = .ok (.goto 4, 3) := by decide +kernel
theorem dX0_isJoined_24 : decode cX0_isJoined 24 = .ok (.iconst 0, 1) := by decide +kernel
theorem dX0_isJoined_25 : decode cX0_isJoined 25 = .ok (.ireturn, 1) := by decide +kernel
set_option maxRecDepth 100000 in
def fX0_isJoined (x1 : Int32) (t_bents_a : Nat → Int32) : Option (Bool) :=
  ob (fX9_isWithin x1 0 5) fun r1 =>
  if (b2i r1) = 0 then
    some false
  else
    gd (bnd x1 6) <|
    if (t_bents_a (Int32.toNatClampNeg x1)) = 1000000 then
      some false
    else
      some true
abbrev rmX0_isJoined : Room := { frames := 1, cells := 0, slots := 0, locals := 22 }
theorem iwX0_isJoined_X0 : ∀ w ∈ u_ws RX0 TX0 2, w ∈ wsX0_isJoined := by decide +kernel
set_option maxHeartbeats 4000000 in
set_option maxRecDepth 100000 in
theorem k_X0_isJoined (l : Launch) (G : va_G) (cI cJ : ClassId) (t_h t_pairs_h t_bents_h : Nat) (sz : Nat) (t_bents_a : Nat → Int32) (x1 : Int32) {o_r : Bool} (hf : fX0_isJoined x1 t_bents_a = some o_r) : MetI l yX0_isJoined wsX0_isJoined rmX0_isJoined [.ref t_h, .int x1] G cI cJ [(t_h, .inr (0, [.ref t_pairs_h, .ref t_bents_h])), (t_bents_h, .inl (cI, 6, .inl t_bents_a))] [(t_h, .inr (0, [.ref t_pairs_h, .ref t_bents_h])), (t_bents_h, .inl (cI, 6, .inl t_bents_a))] sz (b2i o_r) := by
  refine en_0 (l := l) (y := yX0_isJoined) (wsl := wsX0_isJoined) (rm := rmX0_isJoined) (av := [.ref t_h, .int x1]) (G := G) (cI := cI) (cJ := cJ) (w0 := [(t_h, .inr (0, [.ref t_pairs_h, .ref t_bents_h])), (t_bents_h, .inl (cI, 6, .inl t_bents_a))]) (sz := sz) (Qf := fun A => Qi0 G cI cJ [(t_h, .inr (0, [.ref t_pairs_h, .ref t_bents_h])), (t_bents_h, .inl (cI, 6, .inl t_bents_a))] (b2i o_r) A) (cc := cX0_isJoined) (maxL := 2) (ret := (some .boolean)) RX0 (by decide +kernel) rfl rfl (Nat.le_of_ble_eq_true rfl) ?_
  intro p e s m args below meth c A ls Q hQ hx hb hr hts hown hlocks hml hN hK hP hD hS hA hl
  have hl : lv_has ls 2 [(0, .ref t_h), (1, .int x1)] := hl
  have iwX0 := iwX0_isJoined_X0
  have fl_15 := hts (.fieldLink RX0 15 "CloudOffice$Boards" "bents" "[I") (by decide +kernel)
  have kc_44 := hts (.constant RX0 44 (1000000)) (by decide +kernel)
  have hret : ∀ (o_r9 : Bool) (pc : Nat) (H : Heap) (locs : List Loc) (ls : Array Slot), decode cX0_isJoined pc = .ok (.ireturn, 1) → some o_r9 = some o_r → va_P G vwCl [(t_h, .inr (0, [.ref t_pairs_h, .ref t_bents_h])), (t_bents_h, .inl (cI, 6, .inl t_bents_a))] H → va_D A [(t_h, .inr (0, [.ref t_pairs_h, .ref t_bents_h])), (t_bents_h, .inl (cI, 6, .inl t_bents_a))] → va_S A s.heap H locs → W p l e rmX0_isJoined s m args below meth c H locs 0 0 Q (F0 m pc ls [.int (b2i o_r9)]) := by
    intro o_r9 pc H locs ls hdg he hP hD hS
    cases he
    subst hQ
    exact rt_z hx hb hr hlocks hK hP hD hS (b2i_narrow _) rfl hdg
  clear hQ
  unfold fX0_isJoined at hf
  refine lv_iload_n hx hb dX0_isJoined_0 rfl (lv_at hl 1 rfl) ?_
  refine lv_iconst (v := 0) hx hb dX0_isJoined_1 (by decide) ?_
  refine lv_iconst (v := 5) hx hb dX0_isJoined_2 (by decide) ?_
  obtain ⟨r1, hc2, hf⟩ := ob_some hf
  refine af_iR (va_runSN (As := [.int x1, .int 0, .int 5]) (rest := []) ⟨hx, hb, hml, hown, hts⟩ (k_X9_isWithin l G cI cJ (x0 := x1) (x1 := 0) (x2 := 5) (sz := _) (hf := hc2)) ⟨va_cnB 3 hts ggX0_isJoined_X9_isWithin rfl rfl rfl (hN _ (List.mem_of_getElem? (i := 17) rfl)) (hts (.initialized RX9) (by decide +kernel)) (by decide +kernel) ⟨Nat.le_of_ble_eq_true rfl, Nat.le_of_ble_eq_true rfl⟩, hts (.static yX9_isWithin) (by decide +kernel), trivial⟩ (preS0 (wc := []) hK hP hD hN [] rfl rfl (by decide)) rfl rfl hl.1 rfl (lv_room (Nat.le_of_ble_eq_true rfl)) dX0_isJoined_3 ⟨Nat.zero_le _, Nat.zero_le _⟩) hP hD hS hA [] rfl (fun H locs hP hS => ?_)
  refine lv_if_eq (tgt := 24) hx hb dX0_isJoined_6 (by decide) (fun c3 => ?_) (fun c3 => ?_)
  · have hf := ift hf c3
    refine lv_iconst (v := 0) hx hb dX0_isJoined_24 (by decide) ?_
    exact hret false 25 _ _ _ dX0_isJoined_25 hf hP hD hS
  · have hf := iff_ hf c3
    refine lv_aload_n hx hb dX0_isJoined_9 rfl (lv_at hl 0 rfl) ?_
    refine va_get (D := G) (ci := 0) (v := .ref t_bents_h) (C := RX0) (T := TX0) (N := 2) hx hb hts iwX0 hown hK hP 0 rfl rfl 1 (by decide) fl_15 (fun _ h9 => h9) rfl dX0_isJoined_10 ?_
    refine lv_iload_n hx hb dX0_isJoined_13 rfl (lv_at hl 1 rfl) ?_
    obtain ⟨h4, hf⟩ := gd_some hf
    refine va_iald hx hb hK hP 1 0 rfl rfl (bnd_in h4) dX0_isJoined_14 ?_
    refine lv_ldc (v := 1000000) hx hb hown kc_44 dX0_isJoined_15 ?_
    refine lv_icmp_eq (tgt := 24) hx hb dX0_isJoined_17 (by decide) (fun c5 => ?_) (fun c5 => ?_)
    · have hf := ift hf c5
      refine lv_iconst (v := 0) hx hb dX0_isJoined_24 (by decide) ?_
      exact hret false 25 _ _ _ dX0_isJoined_25 hf hP hD hS
    · have hf := iff_ hf c5
      refine lv_iconst (v := 1) hx hb dX0_isJoined_20 (by decide) ?_
      refine lv_goto (tgt := 25) hx hb dX0_isJoined_21 (by decide) ?_
      exact hret true 25 _ _ _ dX0_isJoined_25 hf hP hD hS
set_option maxRecDepth 20000 in
theorem ggX0_areAllJoined_X7_size : GoodIn wsX0_areAllJoined wsX7_size := goodIn_r _ [6, 7, 26, 27, 28, 29] (by decide +kernel) (by decide +kernel)
set_option maxRecDepth 20000 in
theorem gX0_areAllJoined_X7_size : GoodIn wsX0_areAllJoined (wsV RX0 23 RX7 yX7_size wsX7_size) := goodIn_app (goodIn_of _ (by decide +kernel)) ggX0_areAllJoined_X7_size
set_option maxRecDepth 20000 in
theorem ggX0_areAllJoined_X7_at : GoodIn wsX0_areAllJoined wsX7_at := goodIn_r _ [11, 12, 13, 26, 27, 28, 29] (by decide +kernel) (by decide +kernel)
set_option maxRecDepth 20000 in
theorem gX0_areAllJoined_X7_at : GoodIn wsX0_areAllJoined (wsV RX0 33 RX7 yX7_at wsX7_at) := goodIn_app (goodIn_of _ (by decide +kernel)) ggX0_areAllJoined_X7_at
set_option maxRecDepth 20000 in
theorem ggX0_areAllJoined_X0_isJoined : GoodIn wsX0_areAllJoined wsX0_isJoined := goodIn_r _ [18, 19, 20, 21, 22, 23, 24, 25] (by decide +kernel) (by decide +kernel)
set_option maxRecDepth 20000 in
theorem gX0_areAllJoined_X0_isJoined : GoodIn wsX0_areAllJoined (wsV RX0 37 RX0 yX0_isJoined wsX0_isJoined) := goodIn_app (goodIn_of _ (by decide +kernel)) ggX0_areAllJoined_X0_isJoined
theorem dX0_areAllJoined_0 : decode cX0_areAllJoined 0 = .ok (.iconst 0, 1) := by decide +kernel
theorem dX0_areAllJoined_1 : decode cX0_areAllJoined 1 = .ok (.istore_n 1, 1) := by decide +kernel
theorem dX0_areAllJoined_2 : decode cX0_areAllJoined 2 = .ok (.iload_n 1, 1) := by decide +kernel
theorem dX0_areAllJoined_3 : decode cX0_areAllJoined 3 = .ok (.aload_n 0, 1) := by decide +kernel
theorem dX0_areAllJoined_4 : decode cX0_areAllJoined 4 = .ok (.getfield 9, 3) := by decide +kernel
theorem dX0_areAllJoined_7 : decode cX0_areAllJoined 7 = .ok (.invokevirtual 23, 3) := by decide +kernel
theorem dX0_areAllJoined_10 : decode cX0_areAllJoined 10 = .ok (.if_icmp .ge 43, 3) := by decide +kernel
theorem dX0_areAllJoined_13 : decode cX0_areAllJoined 13 = .ok (.aload_n 0, 1) := by decide +kernel
theorem dX0_areAllJoined_14 : decode cX0_areAllJoined 14 = .ok (.aload_n 0, 1) := by decide +kernel
theorem dX0_areAllJoined_15 : decode cX0_areAllJoined 15 = .ok (.getfield 9, 3) := by decide +kernel
theorem dX0_areAllJoined_18 : decode cX0_areAllJoined 18 = .ok (.iload_n 1, 1) := by decide +kernel
theorem dX0_areAllJoined_19 : decode cX0_areAllJoined 19 = .ok (.iconst 0, 1) := by decide +kernel
theorem dX0_areAllJoined_20 : decode cX0_areAllJoined 20 = .ok (.invokevirtual 33, 3) := by decide +kernel
theorem dX0_areAllJoined_23 : decode cX0_areAllJoined 23 = .ok (.invokevirtual 37, 3) := by decide +kernel
theorem dX0_areAllJoined_26 : decode cX0_areAllJoined 26 = .ok (.ifCond .eq 19, 3) := by decide +kernel
theorem dX0_areAllJoined_29 : decode cX0_areAllJoined 29 = .ok (.aload_n 0, 1) := by decide +kernel
theorem dX0_areAllJoined_30 : decode cX0_areAllJoined 30 = .ok (.aload_n 0, 1) := by decide +kernel
theorem dX0_areAllJoined_31 : decode cX0_areAllJoined 31 = .ok (.getfield 9, 3) := by decide +kernel
theorem dX0_areAllJoined_34 : decode cX0_areAllJoined 34 = .ok (.iload_n 1, 1) := by decide +kernel
theorem dX0_areAllJoined_35 : decode cX0_areAllJoined 35 = .ok (.iconst 1, 1) := by decide +kernel
theorem dX0_areAllJoined_36 : decode cX0_areAllJoined 36 = .ok (.invokevirtual 33, 3) := by decide +kernel
theorem dX0_areAllJoined_39 : decode cX0_areAllJoined 39 = .ok (.invokevirtual 37, 3) := by decide +kernel
theorem dX0_areAllJoined_42 : decode cX0_areAllJoined 42 = .ok (.ifCond .ne 5, 3) := by decide +kernel
theorem dX0_areAllJoined_45 : decode cX0_areAllJoined 45 = .ok (.iconst 0, 1) := by decide +kernel
theorem dX0_areAllJoined_46 : decode cX0_areAllJoined 46 = .ok (.ireturn, 1) := by decide +kernel
theorem dX0_areAllJoined_47 : decode cX0_areAllJoined 47 = .ok (.iinc 1 1, 3) := by decide +kernel
theorem dX0_areAllJoined_50 : decode cX0_areAllJoined 50 = .ok (.goto (-48), 3) := by decide +kernel
theorem dX0_areAllJoined_53 : decode cX0_areAllJoined 53 = .ok (.iconst 1, 1) := by decide +kernel
theorem dX0_areAllJoined_54 : decode cX0_areAllJoined 54 = .ok (.ireturn, 1) := by decide +kernel
set_option maxRecDepth 100000 in
def fX0_areAllJoined_L1 (t_pairs_lines : Int32) (t_pairs_width : Int32) (t_pairs_cells_n : Nat) (t_pairs_cells_a : Nat → Int32) (t_bents_a : Nat → Int32) : Int32 → Option (((Unit) ⊕ (Unit)) ⊕ (Int32)) := fun (u1 : Int32) =>
  ob (fX7_size t_pairs_lines) fun r2 =>
  if r2 ≤ u1 then
    some (.inl (.inl ()))
  else
    ob (fX7_at u1 0 t_pairs_width t_pairs_cells_n t_pairs_cells_a) fun r5 =>
    ob (fX0_isJoined r5 t_bents_a) fun r7 =>
    if (b2i r7) = 0 then
      some (.inl (.inr ()))
    else
      ob (fX7_at u1 1 t_pairs_width t_pairs_cells_n t_pairs_cells_a) fun r10 =>
      ob (fX0_isJoined r10 t_bents_a) fun r12 =>
      if (b2i r12) = 0 then
        some (.inl (.inr ()))
      else
        bv (u1 + 1) fun v15 =>
        some (.inr v15)
set_option maxRecDepth 100000 in
def fX0_areAllJoined (t_pairs_width : Int32) (t_pairs_lines : Int32) (t_bents_a : Nat → Int32) (t_pairs_cells_n : Nat) (t_pairs_cells_a : Nat → Int32) : Option (Bool) :=
  osc (it (fX0_areAllJoined_L1 t_pairs_lines t_pairs_width t_pairs_cells_n t_pairs_cells_a t_bents_a) 100000 0)
    (fun _ =>
      some true
    )
    (fun _ =>
      some false
    )
abbrev rmX0_areAllJoined : Room := { frames := 2, cells := 0, slots := 0, locals := 43 }
theorem iwX0_areAllJoined_X0 : ∀ w ∈ u_ws RX0 TX0 2, w ∈ wsX0_areAllJoined := by decide +kernel
set_option maxHeartbeats 4000000 in
set_option maxRecDepth 100000 in
theorem k_X0_areAllJoined (l : Launch) (G : va_G) (cI cJ : ClassId) (t_h t_pairs_h t_bents_h t_pairs_cells_h : Nat) (sz : Nat) (t_pairs_width : Int32) (t_pairs_most : Int32) (t_pairs_lines : Int32) (t_bents_a : Nat → Int32) (t_pairs_cells_n : Nat) (t_pairs_cells_a : Nat → Int32) {o_r : Bool} (hf : fX0_areAllJoined t_pairs_width t_pairs_lines t_bents_a t_pairs_cells_n t_pairs_cells_a = some o_r) : MetI l yX0_areAllJoined wsX0_areAllJoined rmX0_areAllJoined [.ref t_h] G cI cJ [(t_h, .inr (0, [.ref t_pairs_h, .ref t_bents_h])), (t_pairs_h, .inr (7, [.int t_pairs_width, .int t_pairs_most, .ref t_pairs_cells_h, .int t_pairs_lines])), (t_bents_h, .inl (cI, 6, .inl t_bents_a)), (t_pairs_cells_h, .inl (cI, t_pairs_cells_n, .inl t_pairs_cells_a))] [(t_h, .inr (0, [.ref t_pairs_h, .ref t_bents_h])), (t_pairs_h, .inr (7, [.int t_pairs_width, .int t_pairs_most, .ref t_pairs_cells_h, .int t_pairs_lines])), (t_bents_h, .inl (cI, 6, .inl t_bents_a)), (t_pairs_cells_h, .inl (cI, t_pairs_cells_n, .inl t_pairs_cells_a))] sz (b2i o_r) := by
  refine en_0 (l := l) (y := yX0_areAllJoined) (wsl := wsX0_areAllJoined) (rm := rmX0_areAllJoined) (av := [.ref t_h]) (G := G) (cI := cI) (cJ := cJ) (w0 := [(t_h, .inr (0, [.ref t_pairs_h, .ref t_bents_h])), (t_pairs_h, .inr (7, [.int t_pairs_width, .int t_pairs_most, .ref t_pairs_cells_h, .int t_pairs_lines])), (t_bents_h, .inl (cI, 6, .inl t_bents_a)), (t_pairs_cells_h, .inl (cI, t_pairs_cells_n, .inl t_pairs_cells_a))]) (sz := sz) (Qf := fun A => Qi0 G cI cJ [(t_h, .inr (0, [.ref t_pairs_h, .ref t_bents_h])), (t_pairs_h, .inr (7, [.int t_pairs_width, .int t_pairs_most, .ref t_pairs_cells_h, .int t_pairs_lines])), (t_bents_h, .inl (cI, 6, .inl t_bents_a)), (t_pairs_cells_h, .inl (cI, t_pairs_cells_n, .inl t_pairs_cells_a))] (b2i o_r) A) (cc := cX0_areAllJoined) (maxL := 2) (ret := (some .boolean)) RX0 (by decide +kernel) rfl rfl (Nat.le_of_ble_eq_true rfl) ?_
  intro p e s m args below meth c A ls Q hQ hx hb hr hts hown hlocks hml hN hK hP hD hS hA hl
  have hl : lv_has ls 2 [(0, .ref t_h)] := hl
  have iwX0 := iwX0_areAllJoined_X0
  have fl_9 := hts (.fieldLink RX0 9 "CloudOffice$Boards" "pairs" "LCloudOffice$Table;") (by decide +kernel)
  have hret : ∀ (o_r9 : Bool) (pc : Nat) (H : Heap) (locs : List Loc) (ls : Array Slot), decode cX0_areAllJoined pc = .ok (.ireturn, 1) → some o_r9 = some o_r → va_P G vwCl [(t_h, .inr (0, [.ref t_pairs_h, .ref t_bents_h])), (t_pairs_h, .inr (7, [.int t_pairs_width, .int t_pairs_most, .ref t_pairs_cells_h, .int t_pairs_lines])), (t_bents_h, .inl (cI, 6, .inl t_bents_a)), (t_pairs_cells_h, .inl (cI, t_pairs_cells_n, .inl t_pairs_cells_a))] H → va_D A [(t_h, .inr (0, [.ref t_pairs_h, .ref t_bents_h])), (t_pairs_h, .inr (7, [.int t_pairs_width, .int t_pairs_most, .ref t_pairs_cells_h, .int t_pairs_lines])), (t_bents_h, .inl (cI, 6, .inl t_bents_a)), (t_pairs_cells_h, .inl (cI, t_pairs_cells_n, .inl t_pairs_cells_a))] → va_S A s.heap H locs → W p l e rmX0_areAllJoined s m args below meth c H locs 0 0 Q (F0 m pc ls [.int (b2i o_r9)]) := by
    intro o_r9 pc H locs ls hdg he hP hD hS
    cases he
    subst hQ
    exact rt_z hx hb hr hlocks hK hP hD hS (b2i_narrow _) rfl hdg
  clear hQ
  unfold fX0_areAllJoined at hf
  refine lv_iconst (v := 0) hx hb dX0_areAllJoined_0 (by decide) ?_
  refine lv_istore_n (lv' := [(1, .int 0), (0, .ref t_h)]) hx hb dX0_areAllJoined_1 rfl hl (by decide) rfl (fun ls hl => ?_)
  obtain ⟨e1, ht1, hf⟩ := osc_some hf
  have hx1_0 : (.inl () : (Unit) ⊕ (Unit)) = e1 → ∀ (H : Heap) (locs : List Loc) (ls : Array Slot), va_P G vwCl [(t_h, .inr (0, [.ref t_pairs_h, .ref t_bents_h])), (t_pairs_h, .inr (7, [.int t_pairs_width, .int t_pairs_most, .ref t_pairs_cells_h, .int t_pairs_lines])), (t_bents_h, .inl (cI, 6, .inl t_bents_a)), (t_pairs_cells_h, .inl (cI, t_pairs_cells_n, .inl t_pairs_cells_a))] H → va_D A [(t_h, .inr (0, [.ref t_pairs_h, .ref t_bents_h])), (t_pairs_h, .inr (7, [.int t_pairs_width, .int t_pairs_most, .ref t_pairs_cells_h, .int t_pairs_lines])), (t_bents_h, .inl (cI, 6, .inl t_bents_a)), (t_pairs_cells_h, .inl (cI, t_pairs_cells_n, .inl t_pairs_cells_a))] → va_S A s.heap H locs → lv_has ls 2 [] → W p l e rmX0_areAllJoined s m args below meth c H locs 0 0 Q (F0 m 53 ls []) := by
    intro  he H locs ls hP hD hS hl
    subst he
    have hf := osc_l hf
    refine lv_iconst (v := 1) hx hb dX0_areAllJoined_53 (by decide) ?_
    exact hret true 54 _ _ _ dX0_areAllJoined_54 hf hP hD hS
  have hx1_1 : (.inr () : (Unit) ⊕ (Unit)) = e1 → ∀ (H : Heap) (locs : List Loc) (ls : Array Slot), va_P G vwCl [(t_h, .inr (0, [.ref t_pairs_h, .ref t_bents_h])), (t_pairs_h, .inr (7, [.int t_pairs_width, .int t_pairs_most, .ref t_pairs_cells_h, .int t_pairs_lines])), (t_bents_h, .inl (cI, 6, .inl t_bents_a)), (t_pairs_cells_h, .inl (cI, t_pairs_cells_n, .inl t_pairs_cells_a))] H → va_D A [(t_h, .inr (0, [.ref t_pairs_h, .ref t_bents_h])), (t_pairs_h, .inr (7, [.int t_pairs_width, .int t_pairs_most, .ref t_pairs_cells_h, .int t_pairs_lines])), (t_bents_h, .inl (cI, 6, .inl t_bents_a)), (t_pairs_cells_h, .inl (cI, t_pairs_cells_n, .inl t_pairs_cells_a))] → va_S A s.heap H locs → lv_has ls 2 [] → W p l e rmX0_areAllJoined s m args below meth c H locs 0 0 Q (F0 m 45 ls []) := by
    intro  he H locs ls hP hD hS hl
    subst he
    have hf := osc_r hf
    refine lv_iconst (v := 0) hx hb dX0_areAllJoined_45 (by decide) ?_
    exact hret false 46 _ _ _ dX0_areAllJoined_46 hf hP hD hS
  clear hf
  have hl1 : ∀ (n : Nat) (u1 : Int32), it (fX0_areAllJoined_L1 t_pairs_lines t_pairs_width t_pairs_cells_n t_pairs_cells_a t_bents_a) n u1 = some e1 → ∀ (H : Heap) (locs : List Loc) (ls : Array Slot), va_P G vwCl [(t_h, .inr (0, [.ref t_pairs_h, .ref t_bents_h])), (t_pairs_h, .inr (7, [.int t_pairs_width, .int t_pairs_most, .ref t_pairs_cells_h, .int t_pairs_lines])), (t_bents_h, .inl (cI, 6, .inl t_bents_a)), (t_pairs_cells_h, .inl (cI, t_pairs_cells_n, .inl t_pairs_cells_a))] H → va_D A [(t_h, .inr (0, [.ref t_pairs_h, .ref t_bents_h])), (t_pairs_h, .inr (7, [.int t_pairs_width, .int t_pairs_most, .ref t_pairs_cells_h, .int t_pairs_lines])), (t_bents_h, .inl (cI, 6, .inl t_bents_a)), (t_pairs_cells_h, .inl (cI, t_pairs_cells_n, .inl t_pairs_cells_a))] → va_S A s.heap H locs → lv_has ls 2 [(0, .ref t_h), (1, .int u1)] → W p l e rmX0_areAllJoined s m args below meth c H locs 0 0 Q (F0 m 2 ls []) := by
    intro n
    induction n with
    | zero => intro u1 hz; exact (it_zero hz).elim
    | succ n ih =>
      intro u1 hz H locs ls hP hD hS hl
      obtain ⟨x9, hf, hq⟩ := it_succ hz
      unfold fX0_areAllJoined_L1 at hf
      refine lv_iload_n hx hb dX0_areAllJoined_2 rfl (lv_at hl 1 rfl) ?_
      refine lv_aload_n hx hb dX0_areAllJoined_3 rfl (lv_at hl 0 rfl) ?_
      refine va_get (D := G) (ci := 0) (v := .ref t_pairs_h) (C := RX0) (T := TX0) (N := 2) hx hb hts iwX0 hown hK hP 0 rfl rfl 0 (by decide) fl_9 (fun _ h9 => h9) rfl dX0_areAllJoined_4 ?_
      obtain ⟨r2, hc3, hf⟩ := ob_some hf
      refine af_iR (va_runV (As := []) (rest := [.int u1]) ⟨hx, hb, hml, hown, hts⟩ (k_X7_size l G cI cJ (t_h := t_pairs_h) (t_cells_h := t_pairs_cells_h) (t_width := t_pairs_width) (t_most := t_pairs_most) (t_lines := t_pairs_lines) (sz := _) (hf := hc3)) (cwV 0 hts gX0_areAllJoined_X7_size rfl rfl rfl (by decide +kernel) ⟨Nat.le_of_ble_eq_true rfl, Nat.le_of_ble_eq_true rfl⟩) (preV0 (ci := 7) (q0 := 0) (C := RX7) (wc := [(t_pairs_h, .inr (7, [.int t_pairs_width, .int t_pairs_most, .ref t_pairs_cells_h, .int t_pairs_lines]))]) hK hP hD hN [1] rfl rfl (by decide) rfl rfl) rfl rfl hl.1 rfl (lv_room (Nat.le_of_ble_eq_true rfl)) dX0_areAllJoined_7 ⟨Nat.zero_le _, Nat.zero_le _⟩) hP hD hS hA [1] rfl (fun H locs hP hS => ?_)
      refine lv_icmp_ge (tgt := 53) hx hb dX0_areAllJoined_10 (by decide) (fun c4 => ?_) (fun c4 => ?_)
      · have hf := ift hf c4
        cases hf
        exact hx1_0  hq _ _ _ hP hD hS (lv_sub hl [] rfl)
      · have hf := iff_ hf c4
        refine lv_aload_n hx hb dX0_areAllJoined_13 rfl (lv_at hl 0 rfl) ?_
        refine lv_aload_n hx hb dX0_areAllJoined_14 rfl (lv_at hl 0 rfl) ?_
        refine va_get (D := G) (ci := 0) (v := .ref t_pairs_h) (C := RX0) (T := TX0) (N := 2) hx hb hts iwX0 hown hK hP 0 rfl rfl 0 (by decide) fl_9 (fun _ h9 => h9) rfl dX0_areAllJoined_15 ?_
        refine lv_iload_n hx hb dX0_areAllJoined_18 rfl (lv_at hl 1 rfl) ?_
        refine lv_iconst (v := 0) hx hb dX0_areAllJoined_19 (by decide) ?_
        obtain ⟨r5, hc6, hf⟩ := ob_some hf
        refine af_iR (va_runV (As := [.int u1, .int 0]) (rest := [.ref t_h]) ⟨hx, hb, hml, hown, hts⟩ (k_X7_at l G cI cJ (t_h := t_pairs_h) (t_cells_h := t_pairs_cells_h) (t_width := t_pairs_width) (t_most := t_pairs_most) (t_lines := t_pairs_lines) (t_cells_n := t_pairs_cells_n) (t_cells_a := t_pairs_cells_a) (x1 := u1) (x2 := 0) (sz := _) (hf := hc6)) (cwV 2 hts gX0_areAllJoined_X7_at rfl rfl rfl (by decide +kernel) ⟨Nat.le_of_ble_eq_true rfl, Nat.le_of_ble_eq_true rfl⟩) (preV0 (ci := 7) (q0 := 0) (C := RX7) (wc := [(t_pairs_h, .inr (7, [.int t_pairs_width, .int t_pairs_most, .ref t_pairs_cells_h, .int t_pairs_lines])), (t_pairs_cells_h, .inl (cI, t_pairs_cells_n, .inl t_pairs_cells_a))]) hK hP hD hN [1, 3] rfl rfl (by decide) rfl rfl) rfl rfl hl.1 rfl (lv_room (Nat.le_of_ble_eq_true rfl)) dX0_areAllJoined_20 ⟨Nat.zero_le _, Nat.zero_le _⟩) hP hD hS hA [1, 3] rfl (fun H locs hP hS => ?_)
        obtain ⟨r7, hc8, hf⟩ := ob_some hf
        refine af_iR (va_runV (As := [.int r5]) (rest := []) ⟨hx, hb, hml, hown, hts⟩ (k_X0_isJoined l G cI cJ (t_h := t_h) (t_pairs_h := t_pairs_h) (t_bents_h := t_bents_h) (t_bents_a := t_bents_a) (x1 := r5) (sz := _) (hf := hc8)) (cwV 1 hts gX0_areAllJoined_X0_isJoined rfl rfl rfl (by decide +kernel) ⟨Nat.le_of_ble_eq_true rfl, Nat.le_of_ble_eq_true rfl⟩) (preV0 (ci := 0) (q0 := 0) (C := RX0) (wc := [(t_h, .inr (0, [.ref t_pairs_h, .ref t_bents_h])), (t_bents_h, .inl (cI, 6, .inl t_bents_a))]) hK hP hD hN [0, 2] rfl rfl (by decide) rfl rfl) rfl rfl hl.1 rfl (lv_room (Nat.le_of_ble_eq_true rfl)) dX0_areAllJoined_23 ⟨Nat.zero_le _, Nat.zero_le _⟩) hP hD hS hA [0, 2] rfl (fun H locs hP hS => ?_)
        refine lv_if_eq (tgt := 45) hx hb dX0_areAllJoined_26 (by decide) (fun c9 => ?_) (fun c9 => ?_)
        · have hf := ift hf c9
          cases hf
          exact hx1_1  hq _ _ _ hP hD hS (lv_sub hl [] rfl)
        · have hf := iff_ hf c9
          refine lv_aload_n hx hb dX0_areAllJoined_29 rfl (lv_at hl 0 rfl) ?_
          refine lv_aload_n hx hb dX0_areAllJoined_30 rfl (lv_at hl 0 rfl) ?_
          refine va_get (D := G) (ci := 0) (v := .ref t_pairs_h) (C := RX0) (T := TX0) (N := 2) hx hb hts iwX0 hown hK hP 0 rfl rfl 0 (by decide) fl_9 (fun _ h9 => h9) rfl dX0_areAllJoined_31 ?_
          refine lv_iload_n hx hb dX0_areAllJoined_34 rfl (lv_at hl 1 rfl) ?_
          refine lv_iconst (v := 1) hx hb dX0_areAllJoined_35 (by decide) ?_
          obtain ⟨r10, hc11, hf⟩ := ob_some hf
          refine af_iR (va_runV (As := [.int u1, .int 1]) (rest := [.ref t_h]) ⟨hx, hb, hml, hown, hts⟩ (k_X7_at l G cI cJ (t_h := t_pairs_h) (t_cells_h := t_pairs_cells_h) (t_width := t_pairs_width) (t_most := t_pairs_most) (t_lines := t_pairs_lines) (t_cells_n := t_pairs_cells_n) (t_cells_a := t_pairs_cells_a) (x1 := u1) (x2 := 1) (sz := _) (hf := hc11)) (cwV 2 hts gX0_areAllJoined_X7_at rfl rfl rfl (by decide +kernel) ⟨Nat.le_of_ble_eq_true rfl, Nat.le_of_ble_eq_true rfl⟩) (preV0 (ci := 7) (q0 := 0) (C := RX7) (wc := [(t_pairs_h, .inr (7, [.int t_pairs_width, .int t_pairs_most, .ref t_pairs_cells_h, .int t_pairs_lines])), (t_pairs_cells_h, .inl (cI, t_pairs_cells_n, .inl t_pairs_cells_a))]) hK hP hD hN [1, 3] rfl rfl (by decide) rfl rfl) rfl rfl hl.1 rfl (lv_room (Nat.le_of_ble_eq_true rfl)) dX0_areAllJoined_36 ⟨Nat.zero_le _, Nat.zero_le _⟩) hP hD hS hA [1, 3] rfl (fun H locs hP hS => ?_)
          obtain ⟨r12, hc13, hf⟩ := ob_some hf
          refine af_iR (va_runV (As := [.int r10]) (rest := []) ⟨hx, hb, hml, hown, hts⟩ (k_X0_isJoined l G cI cJ (t_h := t_h) (t_pairs_h := t_pairs_h) (t_bents_h := t_bents_h) (t_bents_a := t_bents_a) (x1 := r10) (sz := _) (hf := hc13)) (cwV 1 hts gX0_areAllJoined_X0_isJoined rfl rfl rfl (by decide +kernel) ⟨Nat.le_of_ble_eq_true rfl, Nat.le_of_ble_eq_true rfl⟩) (preV0 (ci := 0) (q0 := 0) (C := RX0) (wc := [(t_h, .inr (0, [.ref t_pairs_h, .ref t_bents_h])), (t_bents_h, .inl (cI, 6, .inl t_bents_a))]) hK hP hD hN [0, 2] rfl rfl (by decide) rfl rfl) rfl rfl hl.1 rfl (lv_room (Nat.le_of_ble_eq_true rfl)) dX0_areAllJoined_39 ⟨Nat.zero_le _, Nat.zero_le _⟩) hP hD hS hA [0, 2] rfl (fun H locs hP hS => ?_)
          refine lv_if_ne (tgt := 47) hx hb dX0_areAllJoined_42 (by decide) (fun c14 => ?_) (fun c14 => ?_)
          · have hf := iff_ hf c14
            obtain ⟨v15, ev15⟩ : ∃ y : Int32, y = u1 + 1 := ⟨_, rfl⟩
            have hf := bv_at ev15 hf
            refine lv_iinc (v := v15) (lv' := [(1, .int v15), (0, .ref t_h)]) hx hb dX0_areAllJoined_47 hl (k := 1) rfl (by rw [ev15]; rfl) (by decide) rfl (fun ls hl => ?_)
            refine lv_goto (tgt := 2) hx hb dX0_areAllJoined_50 (by decide) ?_
            cases hf
            exact ih _ hq _ _ _ hP hD hS (lv_sub hl [1, 0] rfl)
          · have hf := ift hf c14
            cases hf
            exact hx1_1  hq _ _ _ hP hD hS (lv_sub hl [] rfl)
  exact hl1 _ _ ht1 _ _ _ hP hD hS (lv_sub hl [1, 0] rfl)
set_option maxRecDepth 20000 in
theorem ggX0_lower_X9_isWithin : GoodIn wsX0_lower wsX9_isWithin := goodIn_r _ [4] (by decide +kernel) (by decide +kernel)
set_option maxRecDepth 20000 in
theorem ggX0_lower_X0_isJoined : GoodIn wsX0_lower wsX0_isJoined := goodIn_r _ [9, 1, 10, 2, 3, 4, 11, 12] (by decide +kernel) (by decide +kernel)
set_option maxRecDepth 20000 in
theorem gX0_lower_X0_isJoined : GoodIn wsX0_lower (wsV RX0 37 RX0 yX0_isJoined wsX0_isJoined) := goodIn_app (goodIn_of _ (by decide +kernel)) ggX0_lower_X0_isJoined
theorem dX0_lower_0 : decode cX0_lower 0 = .ok (.iload_n 1, 1) := by decide +kernel
theorem dX0_lower_1 : decode cX0_lower 1 = .ok (.iconst 0, 1) := by decide +kernel
theorem dX0_lower_2 : decode cX0_lower 2 = .ok (.iconst 5, 1) := by decide +kernel
theorem dX0_lower_3 : decode cX0_lower 3 = .ok (.invokestatic 40, 3) := by decide +kernel
theorem dX0_lower_6 : decode cX0_lower 6 = .ok (.ifCond .eq 11, 3) := by decide +kernel
theorem dX0_lower_9 : decode cX0_lower 9 = .ok (.aload_n 0, 1) := by decide +kernel
theorem dX0_lower_10 : decode cX0_lower 10 = .ok (.iload_n 2, 1) := by decide +kernel
theorem dX0_lower_11 : decode cX0_lower 11 = .ok (.invokevirtual 37, 3) := by decide +kernel
theorem dX0_lower_14 : decode cX0_lower 14 = .ok (.ifCond .ne 5, 3) := by decide +kernel
theorem dX0_lower_17 : decode cX0_lower 17 = .ok (.iconst 0, 1) := by decide +kernel
theorem dX0_lower_18 : decode cX0_lower 18 = .ok (.ireturn, 1) := by decide +kernel
theorem dX0_lower_19 : decode cX0_lower 19 = .ok (.aload_n 0, 1) := by decide +kernel
theorem dX0_lower_20 : decode cX0_lower 20 = .ok (.getfield 15, 3) := by decide +kernel
theorem dX0_lower_23 : decode cX0_lower 23 = .ok (.iload_n 2, 1) := by decide +kernel
theorem dX0_lower_24 : decode cX0_lower 24 = .ok (.iaload, 1) := by decide +kernel
theorem dX0_lower_25 : decode cX0_lower 25 = .ok (.iload_n 3, 1) := by decide +kernel
theorem dX0_lower_26 : decode cX0_lower 26 = .ok (.iadd, 1) := by decide +kernel
theorem dX0_lower_27 : decode cX0_lower 27 = .ok (.istore 4, 2) := by decide +kernel
theorem dX0_lower_29 : decode cX0_lower 29 = .ok (.iload 4, 2) := by decide +kernel
theorem dX0_lower_31 : decode cX0_lower 31 = .ok (.aload_n 0, 1) := by decide +kernel
theorem dX0_lower_32 : decode cX0_lower 32 = .ok (.getfield 15, 3) := by decide +kernel
theorem dX0_lower_35 : decode cX0_lower 35 = .ok (.iload_n 1, 1) := by decide +kernel
theorem dX0_lower_36 : decode cX0_lower 36 = .ok (.iaload, 1) := by decide +kernel
theorem dX0_lower_37 : decode cX0_lower 37 = .ok (.if_icmp .lt 5, 3) := by decide +kernel
theorem dX0_lower_40 : decode cX0_lower 40 = .ok (.iconst 0, 1) := by decide +kernel
theorem dX0_lower_41 : decode cX0_lower 41 = .ok (.ireturn, 1) := by decide +kernel
theorem dX0_lower_42 : decode cX0_lower 42 = .ok (.aload_n 0, 1) := by decide +kernel
theorem dX0_lower_43 : decode cX0_lower 43 = .ok (.getfield 15, 3) := by decide +kernel
theorem dX0_lower_46 : decode cX0_lower 46 = .ok (.iload_n 1, 1) := by decide +kernel
theorem dX0_lower_47 : decode cX0_lower 47 = .ok (.iload 4, 2) := by decide +kernel
theorem dX0_lower_49 : decode cX0_lower 49 = .ok (.iastore, 1) := by decide +kernel
theorem dX0_lower_50 : decode cX0_lower 50 = .ok (.iconst 1, 1) := by decide +kernel
theorem dX0_lower_51 : decode cX0_lower 51 = .ok (.ireturn, 1) := by decide +kernel
set_option maxRecDepth 100000 in
def fX0_lower (x1 : Int32) (x2 : Int32) (x3 : Int32) (t_bents_a : Nat → Int32) : Option (Bool × (Nat → Int32)) :=
  ob (fX9_isWithin x1 0 5) fun r1 =>
  if (b2i r1) = 0 then
    some (false, t_bents_a)
  else
    ob (fX0_isJoined x2 t_bents_a) fun r4 =>
    if (b2i r4) = 0 then
      some (false, t_bents_a)
    else
      gd (bnd x2 6) <|
      bv ((t_bents_a (Int32.toNatClampNeg x2)) + x3) fun v8 =>
      gd (bnd x1 6) <|
      if v8 < (t_bents_a (Int32.toNatClampNeg x1)) then
        gd (bnd x1 6) <|
        bv (upd t_bents_a (Int32.toNatClampNeg x1) v8) fun a12 =>
        some (true, a12)
      else
        some (false, t_bents_a)
abbrev rmX0_lower : Room := { frames := 2, cells := 0, slots := 0, locals := 43 }
theorem iwX0_lower_X0 : ∀ w ∈ u_ws RX0 TX0 2, w ∈ wsX0_lower := by decide +kernel
set_option maxHeartbeats 4000000 in
set_option maxRecDepth 100000 in
theorem k_X0_lower (l : Launch) (G : va_G) (cI cJ : ClassId) (t_h t_pairs_h t_bents_h : Nat) (sz : Nat) (t_bents_a : Nat → Int32) (x1 : Int32) (x2 : Int32) (x3 : Int32) {o_r : Bool} {o_t_bents_a : Nat → Int32} (hf : fX0_lower x1 x2 x3 t_bents_a = some (o_r, o_t_bents_a)) : MetI l yX0_lower wsX0_lower rmX0_lower [.ref t_h, .int x1, .int x2, .int x3] G cI cJ [(t_h, .inr (0, [.ref t_pairs_h, .ref t_bents_h])), (t_bents_h, .inl (cI, 6, .inl t_bents_a))] [(t_h, .inr (0, [.ref t_pairs_h, .ref t_bents_h])), (t_bents_h, .inl (cI, 6, .inl o_t_bents_a))] sz (b2i o_r) := by
  refine en_0 (l := l) (y := yX0_lower) (wsl := wsX0_lower) (rm := rmX0_lower) (av := [.ref t_h, .int x1, .int x2, .int x3]) (G := G) (cI := cI) (cJ := cJ) (w0 := [(t_h, .inr (0, [.ref t_pairs_h, .ref t_bents_h])), (t_bents_h, .inl (cI, 6, .inl t_bents_a))]) (sz := sz) (Qf := fun A => Qi0 G cI cJ [(t_h, .inr (0, [.ref t_pairs_h, .ref t_bents_h])), (t_bents_h, .inl (cI, 6, .inl o_t_bents_a))] (b2i o_r) A) (cc := cX0_lower) (maxL := 5) (ret := (some .boolean)) RX0 (by decide +kernel) rfl rfl (Nat.le_of_ble_eq_true rfl) ?_
  intro p e s m args below meth c A ls Q hQ hx hb hr hts hown hlocks hml hN hK hP hD hS hA hl
  have hl : lv_has ls 5 [(0, .ref t_h), (1, .int x1), (2, .int x2), (3, .int x3)] := hl
  have iwX0 := iwX0_lower_X0
  have fl_15 := hts (.fieldLink RX0 15 "CloudOffice$Boards" "bents" "[I") (by decide +kernel)
  have hret : ∀ (o_r9 : Bool) (o_t_bents_a9 : Nat → Int32) (pc : Nat) (H : Heap) (locs : List Loc) (ls : Array Slot), decode cX0_lower pc = .ok (.ireturn, 1) → some (o_r9, o_t_bents_a9) = some (o_r, o_t_bents_a) → va_P G vwCl [(t_h, .inr (0, [.ref t_pairs_h, .ref t_bents_h])), (t_bents_h, .inl (cI, 6, .inl o_t_bents_a9))] H → va_D A [(t_h, .inr (0, [.ref t_pairs_h, .ref t_bents_h])), (t_bents_h, .inl (cI, 6, .inl o_t_bents_a9))] → va_S A s.heap H locs → W p l e rmX0_lower s m args below meth c H locs 0 0 Q (F0 m pc ls [.int (b2i o_r9)]) := by
    intro o_r9 o_t_bents_a9 pc H locs ls hdg he hP hD hS
    cases he
    subst hQ
    exact rt_z hx hb hr hlocks hK hP hD hS (b2i_narrow _) rfl hdg
  clear hQ
  unfold fX0_lower at hf
  refine lv_iload_n hx hb dX0_lower_0 rfl (lv_at hl 1 rfl) ?_
  refine lv_iconst (v := 0) hx hb dX0_lower_1 (by decide) ?_
  refine lv_iconst (v := 5) hx hb dX0_lower_2 (by decide) ?_
  obtain ⟨r1, hc2, hf⟩ := ob_some hf
  refine af_iR (va_runSN (As := [.int x1, .int 0, .int 5]) (rest := []) ⟨hx, hb, hml, hown, hts⟩ (k_X9_isWithin l G cI cJ (x0 := x1) (x1 := 0) (x2 := 5) (sz := _) (hf := hc2)) ⟨va_cnB 3 hts ggX0_lower_X9_isWithin rfl rfl rfl (hN _ (List.mem_of_getElem? (i := 17) rfl)) (hts (.initialized RX9) (by decide +kernel)) (by decide +kernel) ⟨Nat.le_of_ble_eq_true rfl, Nat.le_of_ble_eq_true rfl⟩, hts (.static yX9_isWithin) (by decide +kernel), trivial⟩ (preS0 (wc := []) hK hP hD hN [] rfl rfl (by decide)) rfl rfl hl.1 rfl (lv_room (Nat.le_of_ble_eq_true rfl)) dX0_lower_3 ⟨Nat.zero_le _, Nat.zero_le _⟩) hP hD hS hA [] rfl (fun H locs hP hS => ?_)
  refine lv_if_eq (tgt := 17) hx hb dX0_lower_6 (by decide) (fun c3 => ?_) (fun c3 => ?_)
  · have hf := ift hf c3
    refine lv_iconst (v := 0) hx hb dX0_lower_17 (by decide) ?_
    exact hret false t_bents_a 18 _ _ _ dX0_lower_18 hf hP hD hS
  · have hf := iff_ hf c3
    refine lv_aload_n hx hb dX0_lower_9 rfl (lv_at hl 0 rfl) ?_
    refine lv_iload_n hx hb dX0_lower_10 rfl (lv_at hl 2 rfl) ?_
    obtain ⟨r4, hc5, hf⟩ := ob_some hf
    refine af_iR (va_runV (As := [.int x2]) (rest := []) ⟨hx, hb, hml, hown, hts⟩ (k_X0_isJoined l G cI cJ (t_h := t_h) (t_pairs_h := t_pairs_h) (t_bents_h := t_bents_h) (t_bents_a := t_bents_a) (x1 := x2) (sz := _) (hf := hc5)) (cwV 1 hts gX0_lower_X0_isJoined rfl rfl rfl (by decide +kernel) ⟨Nat.le_of_ble_eq_true rfl, Nat.le_of_ble_eq_true rfl⟩) (preV0 (ci := 0) (q0 := 0) (C := RX0) (wc := [(t_h, .inr (0, [.ref t_pairs_h, .ref t_bents_h])), (t_bents_h, .inl (cI, 6, .inl t_bents_a))]) hK hP hD hN [0, 1] rfl rfl (by decide) rfl rfl) rfl rfl hl.1 rfl (lv_room (Nat.le_of_ble_eq_true rfl)) dX0_lower_11 ⟨Nat.zero_le _, Nat.zero_le _⟩) hP hD hS hA [0, 1] rfl (fun H locs hP hS => ?_)
    refine lv_if_ne (tgt := 19) hx hb dX0_lower_14 (by decide) (fun c6 => ?_) (fun c6 => ?_)
    · have hf := iff_ hf c6
      refine lv_aload_n hx hb dX0_lower_19 rfl (lv_at hl 0 rfl) ?_
      refine va_get (D := G) (ci := 0) (v := .ref t_bents_h) (C := RX0) (T := TX0) (N := 2) hx hb hts iwX0 hown hK hP 0 rfl rfl 1 (by decide) fl_15 (fun _ h9 => h9) rfl dX0_lower_20 ?_
      refine lv_iload_n hx hb dX0_lower_23 rfl (lv_at hl 2 rfl) ?_
      obtain ⟨h7, hf⟩ := gd_some hf
      refine va_iald hx hb hK hP 1 0 rfl rfl (bnd_in h7) dX0_lower_24 ?_
      refine lv_iload_n hx hb dX0_lower_25 rfl (lv_at hl 3 rfl) ?_
      refine lv_iadd hx hb dX0_lower_26 ?_
      refine lv_topi (fun v8 ev8 => ?_)
      have hf := bv_at ev8 hf
      refine lv_istore (lv' := [(4, .int v8), (0, .ref t_h), (1, .int x1), (2, .int x2), (3, .int x3)]) hx hb dX0_lower_27 hl (by decide) rfl (fun ls hl => ?_)
      refine lv_iload hx hb dX0_lower_29 (lv_at hl 0 rfl) ?_
      refine lv_aload_n hx hb dX0_lower_31 rfl (lv_at hl 1 rfl) ?_
      refine va_get (D := G) (ci := 0) (v := .ref t_bents_h) (C := RX0) (T := TX0) (N := 2) hx hb hts iwX0 hown hK hP 0 rfl rfl 1 (by decide) fl_15 (fun _ h9 => h9) rfl dX0_lower_32 ?_
      refine lv_iload_n hx hb dX0_lower_35 rfl (lv_at hl 2 rfl) ?_
      obtain ⟨h9, hf⟩ := gd_some hf
      refine va_iald hx hb hK hP 1 0 rfl rfl (bnd_in h9) dX0_lower_36 ?_
      refine lv_icmp_lt (tgt := 42) hx hb dX0_lower_37 (by decide) (fun c10 => ?_) (fun c10 => ?_)
      · have hf := ift hf c10
        refine lv_aload_n hx hb dX0_lower_42 rfl (lv_at hl 1 rfl) ?_
        refine va_get (D := G) (ci := 0) (v := .ref t_bents_h) (C := RX0) (T := TX0) (N := 2) hx hb hts iwX0 hown hK hP 0 rfl rfl 1 (by decide) fl_15 (fun _ h9 => h9) rfl dX0_lower_43 ?_
        refine lv_iload_n hx hb dX0_lower_46 rfl (lv_at hl 2 rfl) ?_
        refine lv_iload hx hb dX0_lower_47 (lv_at hl 0 rfl) ?_
        obtain ⟨h11, hf⟩ := gd_some hf
        obtain ⟨a12, ea12⟩ : ∃ y : Nat → Int32, y = upd t_bents_a (Int32.toNatClampNeg x1) v8 := ⟨_, rfl⟩
        have hf := bv_at ea12 hf
        refine va_iast hx hb hK hP hD hS 1 0 rfl rfl (bnd_in h11) dX0_lower_49 (fun H locs hP hD hS => ?_)
        have hP : va_P G vwCl [(t_h, .inr (0, [.ref t_pairs_h, .ref t_bents_h])), (t_bents_h, .inl (cI, 6, .inl a12))] H := by rw [ea12]; exact hP
        have hD : va_D A [(t_h, .inr (0, [.ref t_pairs_h, .ref t_bents_h])), (t_bents_h, .inl (cI, 6, .inl a12))] := by rw [ea12]; exact hD
        refine lv_iconst (v := 1) hx hb dX0_lower_50 (by decide) ?_
        exact hret true a12 51 _ _ _ dX0_lower_51 hf hP hD hS
      · have hf := iff_ hf c10
        refine lv_iconst (v := 0) hx hb dX0_lower_40 (by decide) ?_
        exact hret false t_bents_a 41 _ _ _ dX0_lower_41 hf hP hD hS
    · have hf := ift hf c6
      refine lv_iconst (v := 0) hx hb dX0_lower_17 (by decide) ?_
      exact hret false t_bents_a 18 _ _ _ dX0_lower_18 hf hP hD hS
set_option maxRecDepth 20000 in
theorem ggX0_lowerAll_X7_size : GoodIn wsX0_lowerAll wsX7_size := goodIn_r _ [6, 7, 30, 31, 32, 33] (by decide +kernel) (by decide +kernel)
set_option maxRecDepth 20000 in
theorem gX0_lowerAll_X7_size : GoodIn wsX0_lowerAll (wsV RX0 23 RX7 yX7_size wsX7_size) := goodIn_app (goodIn_of _ (by decide +kernel)) ggX0_lowerAll_X7_size
set_option maxRecDepth 20000 in
theorem ggX0_lowerAll_X7_at : GoodIn wsX0_lowerAll wsX7_at := goodIn_r _ [11, 12, 13, 30, 31, 32, 33] (by decide +kernel) (by decide +kernel)
set_option maxRecDepth 20000 in
theorem gX0_lowerAll_X7_at : GoodIn wsX0_lowerAll (wsV RX0 33 RX7 yX7_at wsX7_at) := goodIn_app (goodIn_of _ (by decide +kernel)) ggX0_lowerAll_X7_at
set_option maxRecDepth 20000 in
theorem ggX0_lowerAll_X0_lower : GoodIn wsX0_lowerAll wsX0_lower := goodIn_r _ [18, 19, 20, 21, 22, 23, 24, 25, 17, 26, 27, 28, 29] (by decide +kernel) (by decide +kernel)
set_option maxRecDepth 20000 in
theorem gX0_lowerAll_X0_lower : GoodIn wsX0_lowerAll (wsV RX0 48 RX0 yX0_lower wsX0_lower) := goodIn_app (goodIn_of _ (by decide +kernel)) ggX0_lowerAll_X0_lower
theorem dX0_lowerAll_0 : decode cX0_lowerAll 0 = .ok (.iconst 0, 1) := by decide +kernel
theorem dX0_lowerAll_1 : decode cX0_lowerAll 1 = .ok (.istore_n 2, 1) := by decide +kernel
theorem dX0_lowerAll_2 : decode cX0_lowerAll 2 = .ok (.iconst 0, 1) := by decide +kernel
theorem dX0_lowerAll_3 : decode cX0_lowerAll 3 = .ok (.istore_n 3, 1) := by decide +kernel
theorem dX0_lowerAll_4 : decode cX0_lowerAll 4 = .ok (.iload_n 3, 1) := by decide +kernel
theorem dX0_lowerAll_5 : decode cX0_lowerAll 5 = .ok (.aload_n 0, 1) := by decide +kernel
theorem dX0_lowerAll_6 : decode cX0_lowerAll 6 = .ok (.getfield 9, 3) := by decide +kernel
theorem dX0_lowerAll_9 : decode cX0_lowerAll 9 = .ok (.invokevirtual 23, 3) := by decide +kernel
theorem dX0_lowerAll_12 : decode cX0_lowerAll 12 = .ok (.if_icmp .ge 72, 3) := by decide +kernel
theorem dX0_lowerAll_15 : decode cX0_lowerAll 15 = .ok (.aload_n 0, 1) := by decide +kernel
theorem dX0_lowerAll_16 : decode cX0_lowerAll 16 = .ok (.getfield 9, 3) := by decide +kernel
theorem dX0_lowerAll_19 : decode cX0_lowerAll 19 = .ok (.iload_n 3, 1) := by decide +kernel
theorem dX0_lowerAll_20 : decode cX0_lowerAll 20 = .ok (.iconst 0, 1) := by decide +kernel
theorem dX0_lowerAll_21 : decode cX0_lowerAll 21 = .ok (.invokevirtual 33, 3) := by decide +kernel
theorem dX0_lowerAll_24 : decode cX0_lowerAll 24 = .ok (.istore 4, 2) := by decide +kernel
theorem dX0_lowerAll_26 : decode cX0_lowerAll 26 = .ok (.aload_n 0, 1) := by decide +kernel
theorem dX0_lowerAll_27 : decode cX0_lowerAll 27 = .ok (.getfield 9, 3) := by decide +kernel
theorem dX0_lowerAll_30 : decode cX0_lowerAll 30 = .ok (.iload_n 3, 1) := by decide +kernel
theorem dX0_lowerAll_31 : decode cX0_lowerAll 31 = .ok (.iconst 1, 1) := by decide +kernel
theorem dX0_lowerAll_32 : decode cX0_lowerAll 32 = .ok (.invokevirtual 33, 3) := by decide +kernel
theorem dX0_lowerAll_35 : decode cX0_lowerAll 35 = .ok (.istore 5, 2) := by decide +kernel
theorem dX0_lowerAll_37 : decode cX0_lowerAll 37 = .ok (.aload_n 0, 1) := by decide +kernel
theorem dX0_lowerAll_38 : decode cX0_lowerAll 38 = .ok (.getfield 9, 3) := by decide +kernel
theorem dX0_lowerAll_41 : decode cX0_lowerAll 41 = .ok (.iload_n 3, 1) := by decide +kernel
theorem dX0_lowerAll_42 : decode cX0_lowerAll 42 = .ok (.iconst 2, 1) := by decide +kernel
theorem dX0_lowerAll_43 : decode cX0_lowerAll 43 = .ok (.invokevirtual 33, 3) := by decide +kernel
theorem dX0_lowerAll_46 : decode cX0_lowerAll 46 = .ok (.istore 6, 2) := by decide +kernel
theorem dX0_lowerAll_48 : decode cX0_lowerAll 48 = .ok (.iload_n 2, 1) := by decide +kernel
theorem dX0_lowerAll_49 : decode cX0_lowerAll 49 = .ok (.aload_n 0, 1) := by decide +kernel
theorem dX0_lowerAll_50 : decode cX0_lowerAll 50 = .ok (.iload 4, 2) := by decide +kernel
theorem dX0_lowerAll_52 : decode cX0_lowerAll 52 = .ok (.iload 5, 2) := by decide +kernel
theorem dX0_lowerAll_54 : decode cX0_lowerAll 54 = .ok (.iload 6, 2) := by decide +kernel
theorem dX0_lowerAll_56 : decode cX0_lowerAll 56 = .ok (.iload_n 1, 1) := by decide +kernel
theorem dX0_lowerAll_57 : decode cX0_lowerAll 57 = .ok (.iadd, 1) := by decide +kernel
theorem dX0_lowerAll_58 : decode cX0_lowerAll 58 = .ok (.invokevirtual 48, 3) := by decide +kernel
theorem dX0_lowerAll_61 : decode cX0_lowerAll 61 = .ok (.ior, 1) := by decide +kernel
theorem dX0_lowerAll_62 : decode cX0_lowerAll 62 = .ok (.istore_n 2, 1) := by decide +kernel
theorem dX0_lowerAll_63 : decode cX0_lowerAll 63 = .ok (.iload_n 2, 1) := by decide +kernel
theorem dX0_lowerAll_64 : decode cX0_lowerAll 64 = .ok (.aload_n 0, 1) := by decide +kernel
theorem dX0_lowerAll_65 : decode cX0_lowerAll 65 = .ok (.iload 5, 2) := by decide +kernel
theorem dX0_lowerAll_67 : decode cX0_lowerAll 67 = .ok (.iload 4, 2) := by decide +kernel
theorem dX0_lowerAll_69 : decode cX0_lowerAll 69 = .ok (.iload_n 1, 1) := by decide +kernel
theorem dX0_lowerAll_70 : decode cX0_lowerAll 70 = .ok (.iload 6, 2) := by decide +kernel
theorem dX0_lowerAll_72 : decode cX0_lowerAll 72 = .ok (.isub, 1) := by decide +kernel
theorem dX0_lowerAll_73 : decode cX0_lowerAll 73 = .ok (.invokevirtual 48, 3) := by decide +kernel
theorem dX0_lowerAll_76 : decode cX0_lowerAll 76 = .ok (.ior, 1) := by decide +kernel
theorem dX0_lowerAll_77 : decode cX0_lowerAll 77 = .ok (.istore_n 2, 1) := by decide +kernel
theorem dX0_lowerAll_78 : decode cX0_lowerAll 78 = .ok (.iinc 3 1, 3) := by decide +kernel
theorem dX0_lowerAll_81 : decode cX0_lowerAll 81 = .ok (.goto (-77), 3) := by decide +kernel
theorem dX0_lowerAll_84 : decode cX0_lowerAll 84 = .ok (.iload_n 2, 1) := by decide +kernel
theorem dX0_lowerAll_85 : decode cX0_lowerAll 85 = .ok (.ireturn, 1) := by decide +kernel
set_option maxRecDepth 100000 in
def fX0_lowerAll_L1 (t_pairs_lines : Int32) (t_pairs_width : Int32) (t_pairs_cells_n : Nat) (t_pairs_cells_a : Nat → Int32) (x1 : Int32) : (Int32 × Int32 × (Nat → Int32)) → Option ((Int32 × (Nat → Int32)) ⊕ (Int32 × Int32 × (Nat → Int32))) := un3 fun (u1 : Int32) (u2 : Int32) (u3 : Nat → Int32) =>
  ob (fX7_size t_pairs_lines) fun r4 =>
  if r4 ≤ u2 then
    some (.inl (u1, u3))
  else
    ob (fX7_at u2 0 t_pairs_width t_pairs_cells_n t_pairs_cells_a) fun r7 =>
    ob (fX7_at u2 1 t_pairs_width t_pairs_cells_n t_pairs_cells_a) fun r9 =>
    ob (fX7_at u2 2 t_pairs_width t_pairs_cells_n t_pairs_cells_a) fun r11 =>
    ob2 (fX0_lower r7 r9 (r11 + x1) u3) fun r13 w14 =>
    bv (u1 ||| (b2i r13)) fun v16 =>
    ob2 (fX0_lower r9 r7 (x1 - r11) w14) fun r17 w18 =>
    bv (v16 ||| (b2i r17)) fun v20 =>
    bv (u2 + 1) fun v21 =>
    some (.inr (v20, v21, w18))
set_option maxRecDepth 100000 in
def fX0_lowerAll (x1 : Int32) (t_pairs_width : Int32) (t_pairs_lines : Int32) (t_bents_a : Nat → Int32) (t_pairs_cells_n : Nat) (t_pairs_cells_a : Nat → Int32) : Option (Bool × (Nat → Int32)) :=
  ob2 (it (fX0_lowerAll_L1 t_pairs_lines t_pairs_width t_pairs_cells_n t_pairs_cells_a x1) 100000 (0, 0, t_bents_a)) fun x22 x23 =>
  gd (decide (x22 = 0 ∨ x22 = 1)) <|
  some (decide (x22 = 1), x23)
abbrev rmX0_lowerAll : Room := { frames := 3, cells := 0, slots := 0, locals := 67 }
theorem iwX0_lowerAll_X0 : ∀ w ∈ u_ws RX0 TX0 2, w ∈ wsX0_lowerAll := by decide +kernel
set_option maxHeartbeats 4000000 in
set_option maxRecDepth 100000 in
theorem k_X0_lowerAll (l : Launch) (G : va_G) (cI cJ : ClassId) (t_h t_pairs_h t_bents_h t_pairs_cells_h : Nat) (sz : Nat) (t_pairs_width : Int32) (t_pairs_most : Int32) (t_pairs_lines : Int32) (t_bents_a : Nat → Int32) (t_pairs_cells_n : Nat) (t_pairs_cells_a : Nat → Int32) (x1 : Int32) {o_r : Bool} {o_t_bents_a : Nat → Int32} (hf : fX0_lowerAll x1 t_pairs_width t_pairs_lines t_bents_a t_pairs_cells_n t_pairs_cells_a = some (o_r, o_t_bents_a)) : MetI l yX0_lowerAll wsX0_lowerAll rmX0_lowerAll [.ref t_h, .int x1] G cI cJ [(t_h, .inr (0, [.ref t_pairs_h, .ref t_bents_h])), (t_pairs_h, .inr (7, [.int t_pairs_width, .int t_pairs_most, .ref t_pairs_cells_h, .int t_pairs_lines])), (t_bents_h, .inl (cI, 6, .inl t_bents_a)), (t_pairs_cells_h, .inl (cI, t_pairs_cells_n, .inl t_pairs_cells_a))] [(t_h, .inr (0, [.ref t_pairs_h, .ref t_bents_h])), (t_pairs_h, .inr (7, [.int t_pairs_width, .int t_pairs_most, .ref t_pairs_cells_h, .int t_pairs_lines])), (t_bents_h, .inl (cI, 6, .inl o_t_bents_a)), (t_pairs_cells_h, .inl (cI, t_pairs_cells_n, .inl t_pairs_cells_a))] sz (b2i o_r) := by
  refine en_0 (l := l) (y := yX0_lowerAll) (wsl := wsX0_lowerAll) (rm := rmX0_lowerAll) (av := [.ref t_h, .int x1]) (G := G) (cI := cI) (cJ := cJ) (w0 := [(t_h, .inr (0, [.ref t_pairs_h, .ref t_bents_h])), (t_pairs_h, .inr (7, [.int t_pairs_width, .int t_pairs_most, .ref t_pairs_cells_h, .int t_pairs_lines])), (t_bents_h, .inl (cI, 6, .inl t_bents_a)), (t_pairs_cells_h, .inl (cI, t_pairs_cells_n, .inl t_pairs_cells_a))]) (sz := sz) (Qf := fun A => Qi0 G cI cJ [(t_h, .inr (0, [.ref t_pairs_h, .ref t_bents_h])), (t_pairs_h, .inr (7, [.int t_pairs_width, .int t_pairs_most, .ref t_pairs_cells_h, .int t_pairs_lines])), (t_bents_h, .inl (cI, 6, .inl o_t_bents_a)), (t_pairs_cells_h, .inl (cI, t_pairs_cells_n, .inl t_pairs_cells_a))] (b2i o_r) A) (cc := cX0_lowerAll) (maxL := 7) (ret := (some .boolean)) RX0 (by decide +kernel) rfl rfl (Nat.le_of_ble_eq_true rfl) ?_
  intro p e s m args below meth c A ls Q hQ hx hb hr hts hown hlocks hml hN hK hP hD hS hA hl
  have hl : lv_has ls 7 [(0, .ref t_h), (1, .int x1)] := hl
  have iwX0 := iwX0_lowerAll_X0
  have fl_9 := hts (.fieldLink RX0 9 "CloudOffice$Boards" "pairs" "LCloudOffice$Table;") (by decide +kernel)
  have hret : ∀ (o_r9 : Bool) (o_t_bents_a9 : Nat → Int32) (pc : Nat) (H : Heap) (locs : List Loc) (ls : Array Slot), decode cX0_lowerAll pc = .ok (.ireturn, 1) → some (o_r9, o_t_bents_a9) = some (o_r, o_t_bents_a) → va_P G vwCl [(t_h, .inr (0, [.ref t_pairs_h, .ref t_bents_h])), (t_pairs_h, .inr (7, [.int t_pairs_width, .int t_pairs_most, .ref t_pairs_cells_h, .int t_pairs_lines])), (t_bents_h, .inl (cI, 6, .inl o_t_bents_a9)), (t_pairs_cells_h, .inl (cI, t_pairs_cells_n, .inl t_pairs_cells_a))] H → va_D A [(t_h, .inr (0, [.ref t_pairs_h, .ref t_bents_h])), (t_pairs_h, .inr (7, [.int t_pairs_width, .int t_pairs_most, .ref t_pairs_cells_h, .int t_pairs_lines])), (t_bents_h, .inl (cI, 6, .inl o_t_bents_a9)), (t_pairs_cells_h, .inl (cI, t_pairs_cells_n, .inl t_pairs_cells_a))] → va_S A s.heap H locs → W p l e rmX0_lowerAll s m args below meth c H locs 0 0 Q (F0 m pc ls [.int (b2i o_r9)]) := by
    intro o_r9 o_t_bents_a9 pc H locs ls hdg he hP hD hS
    cases he
    subst hQ
    exact rt_z hx hb hr hlocks hK hP hD hS (b2i_narrow _) rfl hdg
  clear hQ
  unfold fX0_lowerAll at hf
  refine lv_iconst (v := 0) hx hb dX0_lowerAll_0 (by decide) ?_
  refine lv_istore_n (lv' := [(2, .int 0), (0, .ref t_h), (1, .int x1)]) hx hb dX0_lowerAll_1 rfl hl (by decide) rfl (fun ls hl => ?_)
  refine lv_iconst (v := 0) hx hb dX0_lowerAll_2 (by decide) ?_
  refine lv_istore_n (lv' := [(3, .int 0), (2, .int 0), (0, .ref t_h), (1, .int x1)]) hx hb dX0_lowerAll_3 rfl hl (by decide) rfl (fun ls hl => ?_)
  obtain ⟨x22, x23, ht1, hf⟩ := ob2_some hf
  have hx1_0 : ∀ (x229 : Int32) (x239 : Nat → Int32), (x229, x239) = (x22, x23) → ∀ (H : Heap) (locs : List Loc) (ls : Array Slot), va_P G vwCl [(t_h, .inr (0, [.ref t_pairs_h, .ref t_bents_h])), (t_pairs_h, .inr (7, [.int t_pairs_width, .int t_pairs_most, .ref t_pairs_cells_h, .int t_pairs_lines])), (t_bents_h, .inl (cI, 6, .inl x239)), (t_pairs_cells_h, .inl (cI, t_pairs_cells_n, .inl t_pairs_cells_a))] H → va_D A [(t_h, .inr (0, [.ref t_pairs_h, .ref t_bents_h])), (t_pairs_h, .inr (7, [.int t_pairs_width, .int t_pairs_most, .ref t_pairs_cells_h, .int t_pairs_lines])), (t_bents_h, .inl (cI, 6, .inl x239)), (t_pairs_cells_h, .inl (cI, t_pairs_cells_n, .inl t_pairs_cells_a))] → va_S A s.heap H locs → lv_has ls 7 [(2, .int x229)] → W p l e rmX0_lowerAll s m args below meth c H locs 0 0 Q (F0 m 84 ls []) := by
    intro x229 x239 he H locs ls hP hD hS hl
    cases he
    refine lv_iload_n hx hb dX0_lowerAll_84 rfl (lv_at hl 0 rfl) ?_
    obtain ⟨h24, hf⟩ := gd_some hf
    have h24 := z01 (of_decide_eq_true h24)
    rw [h24]
    exact hret (decide (x22 = 1)) x23 85 _ _ _ dX0_lowerAll_85 hf hP hD hS
  clear hf
  have hl1 : ∀ (n : Nat) (u1 : Int32) (u2 : Int32) (u3 : Nat → Int32), it (fX0_lowerAll_L1 t_pairs_lines t_pairs_width t_pairs_cells_n t_pairs_cells_a x1) n (u1, u2, u3) = some (x22, x23) → ∀ (H : Heap) (locs : List Loc) (ls : Array Slot), va_P G vwCl [(t_h, .inr (0, [.ref t_pairs_h, .ref t_bents_h])), (t_pairs_h, .inr (7, [.int t_pairs_width, .int t_pairs_most, .ref t_pairs_cells_h, .int t_pairs_lines])), (t_bents_h, .inl (cI, 6, .inl u3)), (t_pairs_cells_h, .inl (cI, t_pairs_cells_n, .inl t_pairs_cells_a))] H → va_D A [(t_h, .inr (0, [.ref t_pairs_h, .ref t_bents_h])), (t_pairs_h, .inr (7, [.int t_pairs_width, .int t_pairs_most, .ref t_pairs_cells_h, .int t_pairs_lines])), (t_bents_h, .inl (cI, 6, .inl u3)), (t_pairs_cells_h, .inl (cI, t_pairs_cells_n, .inl t_pairs_cells_a))] → va_S A s.heap H locs → lv_has ls 7 [(0, .ref t_h), (1, .int x1), (2, .int u1), (3, .int u2)] → W p l e rmX0_lowerAll s m args below meth c H locs 0 0 Q (F0 m 4 ls []) := by
    intro n
    induction n with
    | zero => intro u1 u2 u3 hz; exact (it_zero hz).elim
    | succ n ih =>
      intro u1 u2 u3 hz H locs ls hP hD hS hl
      obtain ⟨x9, hf, hq⟩ := it_succ hz
      unfold fX0_lowerAll_L1 at hf
      dsimp only [un3] at hf
      refine lv_iload_n hx hb dX0_lowerAll_4 rfl (lv_at hl 3 rfl) ?_
      refine lv_aload_n hx hb dX0_lowerAll_5 rfl (lv_at hl 0 rfl) ?_
      refine va_get (D := G) (ci := 0) (v := .ref t_pairs_h) (C := RX0) (T := TX0) (N := 2) hx hb hts iwX0 hown hK hP 0 rfl rfl 0 (by decide) fl_9 (fun _ h9 => h9) rfl dX0_lowerAll_6 ?_
      obtain ⟨r4, hc5, hf⟩ := ob_some hf
      refine af_iR (va_runV (As := []) (rest := [.int u2]) ⟨hx, hb, hml, hown, hts⟩ (k_X7_size l G cI cJ (t_h := t_pairs_h) (t_cells_h := t_pairs_cells_h) (t_width := t_pairs_width) (t_most := t_pairs_most) (t_lines := t_pairs_lines) (sz := _) (hf := hc5)) (cwV 0 hts gX0_lowerAll_X7_size rfl rfl rfl (by decide +kernel) ⟨Nat.le_of_ble_eq_true rfl, Nat.le_of_ble_eq_true rfl⟩) (preV0 (ci := 7) (q0 := 0) (C := RX7) (wc := [(t_pairs_h, .inr (7, [.int t_pairs_width, .int t_pairs_most, .ref t_pairs_cells_h, .int t_pairs_lines]))]) hK hP hD hN [1] rfl rfl (by decide) rfl rfl) rfl rfl hl.1 rfl (lv_room (Nat.le_of_ble_eq_true rfl)) dX0_lowerAll_9 ⟨Nat.zero_le _, Nat.zero_le _⟩) hP hD hS hA [1] rfl (fun H locs hP hS => ?_)
      refine lv_icmp_ge (tgt := 84) hx hb dX0_lowerAll_12 (by decide) (fun c6 => ?_) (fun c6 => ?_)
      · have hf := ift hf c6
        cases hf
        exact hx1_0 _ _ hq _ _ _ hP hD hS (lv_sub hl [2] rfl)
      · have hf := iff_ hf c6
        refine lv_aload_n hx hb dX0_lowerAll_15 rfl (lv_at hl 0 rfl) ?_
        refine va_get (D := G) (ci := 0) (v := .ref t_pairs_h) (C := RX0) (T := TX0) (N := 2) hx hb hts iwX0 hown hK hP 0 rfl rfl 0 (by decide) fl_9 (fun _ h9 => h9) rfl dX0_lowerAll_16 ?_
        refine lv_iload_n hx hb dX0_lowerAll_19 rfl (lv_at hl 3 rfl) ?_
        refine lv_iconst (v := 0) hx hb dX0_lowerAll_20 (by decide) ?_
        obtain ⟨r7, hc8, hf⟩ := ob_some hf
        refine af_iR (va_runV (As := [.int u2, .int 0]) (rest := []) ⟨hx, hb, hml, hown, hts⟩ (k_X7_at l G cI cJ (t_h := t_pairs_h) (t_cells_h := t_pairs_cells_h) (t_width := t_pairs_width) (t_most := t_pairs_most) (t_lines := t_pairs_lines) (t_cells_n := t_pairs_cells_n) (t_cells_a := t_pairs_cells_a) (x1 := u2) (x2 := 0) (sz := _) (hf := hc8)) (cwV 2 hts gX0_lowerAll_X7_at rfl rfl rfl (by decide +kernel) ⟨Nat.le_of_ble_eq_true rfl, Nat.le_of_ble_eq_true rfl⟩) (preV0 (ci := 7) (q0 := 0) (C := RX7) (wc := [(t_pairs_h, .inr (7, [.int t_pairs_width, .int t_pairs_most, .ref t_pairs_cells_h, .int t_pairs_lines])), (t_pairs_cells_h, .inl (cI, t_pairs_cells_n, .inl t_pairs_cells_a))]) hK hP hD hN [1, 3] rfl rfl (by decide) rfl rfl) rfl rfl hl.1 rfl (lv_room (Nat.le_of_ble_eq_true rfl)) dX0_lowerAll_21 ⟨Nat.zero_le _, Nat.zero_le _⟩) hP hD hS hA [1, 3] rfl (fun H locs hP hS => ?_)
        refine lv_istore (lv' := [(4, .int r7), (0, .ref t_h), (1, .int x1), (2, .int u1), (3, .int u2)]) hx hb dX0_lowerAll_24 hl (by decide) rfl (fun ls hl => ?_)
        refine lv_aload_n hx hb dX0_lowerAll_26 rfl (lv_at hl 1 rfl) ?_
        refine va_get (D := G) (ci := 0) (v := .ref t_pairs_h) (C := RX0) (T := TX0) (N := 2) hx hb hts iwX0 hown hK hP 0 rfl rfl 0 (by decide) fl_9 (fun _ h9 => h9) rfl dX0_lowerAll_27 ?_
        refine lv_iload_n hx hb dX0_lowerAll_30 rfl (lv_at hl 4 rfl) ?_
        refine lv_iconst (v := 1) hx hb dX0_lowerAll_31 (by decide) ?_
        obtain ⟨r9, hc10, hf⟩ := ob_some hf
        refine af_iR (va_runV (As := [.int u2, .int 1]) (rest := []) ⟨hx, hb, hml, hown, hts⟩ (k_X7_at l G cI cJ (t_h := t_pairs_h) (t_cells_h := t_pairs_cells_h) (t_width := t_pairs_width) (t_most := t_pairs_most) (t_lines := t_pairs_lines) (t_cells_n := t_pairs_cells_n) (t_cells_a := t_pairs_cells_a) (x1 := u2) (x2 := 1) (sz := _) (hf := hc10)) (cwV 2 hts gX0_lowerAll_X7_at rfl rfl rfl (by decide +kernel) ⟨Nat.le_of_ble_eq_true rfl, Nat.le_of_ble_eq_true rfl⟩) (preV0 (ci := 7) (q0 := 0) (C := RX7) (wc := [(t_pairs_h, .inr (7, [.int t_pairs_width, .int t_pairs_most, .ref t_pairs_cells_h, .int t_pairs_lines])), (t_pairs_cells_h, .inl (cI, t_pairs_cells_n, .inl t_pairs_cells_a))]) hK hP hD hN [1, 3] rfl rfl (by decide) rfl rfl) rfl rfl hl.1 rfl (lv_room (Nat.le_of_ble_eq_true rfl)) dX0_lowerAll_32 ⟨Nat.zero_le _, Nat.zero_le _⟩) hP hD hS hA [1, 3] rfl (fun H locs hP hS => ?_)
        refine lv_istore (lv' := [(5, .int r9), (4, .int r7), (0, .ref t_h), (1, .int x1), (2, .int u1), (3, .int u2)]) hx hb dX0_lowerAll_35 hl (by decide) rfl (fun ls hl => ?_)
        refine lv_aload_n hx hb dX0_lowerAll_37 rfl (lv_at hl 2 rfl) ?_
        refine va_get (D := G) (ci := 0) (v := .ref t_pairs_h) (C := RX0) (T := TX0) (N := 2) hx hb hts iwX0 hown hK hP 0 rfl rfl 0 (by decide) fl_9 (fun _ h9 => h9) rfl dX0_lowerAll_38 ?_
        refine lv_iload_n hx hb dX0_lowerAll_41 rfl (lv_at hl 5 rfl) ?_
        refine lv_iconst (v := 2) hx hb dX0_lowerAll_42 (by decide) ?_
        obtain ⟨r11, hc12, hf⟩ := ob_some hf
        refine af_iR (va_runV (As := [.int u2, .int 2]) (rest := []) ⟨hx, hb, hml, hown, hts⟩ (k_X7_at l G cI cJ (t_h := t_pairs_h) (t_cells_h := t_pairs_cells_h) (t_width := t_pairs_width) (t_most := t_pairs_most) (t_lines := t_pairs_lines) (t_cells_n := t_pairs_cells_n) (t_cells_a := t_pairs_cells_a) (x1 := u2) (x2 := 2) (sz := _) (hf := hc12)) (cwV 2 hts gX0_lowerAll_X7_at rfl rfl rfl (by decide +kernel) ⟨Nat.le_of_ble_eq_true rfl, Nat.le_of_ble_eq_true rfl⟩) (preV0 (ci := 7) (q0 := 0) (C := RX7) (wc := [(t_pairs_h, .inr (7, [.int t_pairs_width, .int t_pairs_most, .ref t_pairs_cells_h, .int t_pairs_lines])), (t_pairs_cells_h, .inl (cI, t_pairs_cells_n, .inl t_pairs_cells_a))]) hK hP hD hN [1, 3] rfl rfl (by decide) rfl rfl) rfl rfl hl.1 rfl (lv_room (Nat.le_of_ble_eq_true rfl)) dX0_lowerAll_43 ⟨Nat.zero_le _, Nat.zero_le _⟩) hP hD hS hA [1, 3] rfl (fun H locs hP hS => ?_)
        refine lv_istore (lv' := [(6, .int r11), (5, .int r9), (4, .int r7), (0, .ref t_h), (1, .int x1), (2, .int u1), (3, .int u2)]) hx hb dX0_lowerAll_46 hl (by decide) rfl (fun ls hl => ?_)
        refine lv_iload_n hx hb dX0_lowerAll_48 rfl (lv_at hl 5 rfl) ?_
        refine lv_aload_n hx hb dX0_lowerAll_49 rfl (lv_at hl 3 rfl) ?_
        refine lv_iload hx hb dX0_lowerAll_50 (lv_at hl 2 rfl) ?_
        refine lv_iload hx hb dX0_lowerAll_52 (lv_at hl 1 rfl) ?_
        refine lv_iload hx hb dX0_lowerAll_54 (lv_at hl 0 rfl) ?_
        refine lv_iload_n hx hb dX0_lowerAll_56 rfl (lv_at hl 4 rfl) ?_
        refine lv_iadd hx hb dX0_lowerAll_57 ?_
        obtain ⟨r13, w14, hc15, hf⟩ := ob2_some hf
        refine af_iW (wr := [(t_pairs_h, .inr (7, [.int t_pairs_width, .int t_pairs_most, .ref t_pairs_cells_h, .int t_pairs_lines])), (t_pairs_cells_h, .inl (cI, t_pairs_cells_n, .inl t_pairs_cells_a))]) (ws2 := [(t_h, .inr (0, [.ref t_pairs_h, .ref t_bents_h])), (t_pairs_h, .inr (7, [.int t_pairs_width, .int t_pairs_most, .ref t_pairs_cells_h, .int t_pairs_lines])), (t_bents_h, .inl (cI, 6, .inl w14)), (t_pairs_cells_h, .inl (cI, t_pairs_cells_n, .inl t_pairs_cells_a))]) (va_runV (As := [.int r7, .int r9, .int (r11 + x1)]) (rest := [.int u1]) ⟨hx, hb, hml, hown, hts⟩ (k_X0_lower l G cI cJ (t_h := t_h) (t_pairs_h := t_pairs_h) (t_bents_h := t_bents_h) (t_bents_a := u3) (x1 := r7) (x2 := r9) (x3 := (r11 + x1)) (sz := _) (hf := hc15)) (cwV 3 hts gX0_lowerAll_X0_lower rfl rfl rfl (by decide +kernel) ⟨Nat.le_of_ble_eq_true rfl, Nat.le_of_ble_eq_true rfl⟩) (preV0 (ci := 0) (q0 := 0) (C := RX0) (wc := [(t_h, .inr (0, [.ref t_pairs_h, .ref t_bents_h])), (t_bents_h, .inl (cI, 6, .inl u3))]) hK hP hD hN [0, 2] rfl rfl (by decide) rfl rfl) rfl rfl hl.1 rfl (lv_room (Nat.le_of_ble_eq_true rfl)) dX0_lowerAll_58 ⟨Nat.zero_le _, Nat.zero_le _⟩) hP hD hS hA [0, 2] [1, 3] [2, 0, 3, 1] rfl rfl (by decide) (by decide) rfl rfl (by decide) (fun H locs hP hD hS => ?_)
        refine lv_ior hx hb dX0_lowerAll_61 ?_
        refine lv_topi (fun v16 ev16 => ?_)
        have hf := bv_at ev16 hf
        refine lv_istore_n (lv' := [(2, .int v16), (6, .int r11), (5, .int r9), (4, .int r7), (0, .ref t_h), (1, .int x1), (3, .int u2)]) hx hb dX0_lowerAll_62 rfl hl (by decide) rfl (fun ls hl => ?_)
        refine lv_iload_n hx hb dX0_lowerAll_63 rfl (lv_at hl 0 rfl) ?_
        refine lv_aload_n hx hb dX0_lowerAll_64 rfl (lv_at hl 4 rfl) ?_
        refine lv_iload hx hb dX0_lowerAll_65 (lv_at hl 2 rfl) ?_
        refine lv_iload hx hb dX0_lowerAll_67 (lv_at hl 3 rfl) ?_
        refine lv_iload_n hx hb dX0_lowerAll_69 rfl (lv_at hl 5 rfl) ?_
        refine lv_iload hx hb dX0_lowerAll_70 (lv_at hl 1 rfl) ?_
        refine lv_isub hx hb dX0_lowerAll_72 ?_
        obtain ⟨r17, w18, hc19, hf⟩ := ob2_some hf
        refine af_iW (wr := [(t_pairs_h, .inr (7, [.int t_pairs_width, .int t_pairs_most, .ref t_pairs_cells_h, .int t_pairs_lines])), (t_pairs_cells_h, .inl (cI, t_pairs_cells_n, .inl t_pairs_cells_a))]) (ws2 := [(t_h, .inr (0, [.ref t_pairs_h, .ref t_bents_h])), (t_pairs_h, .inr (7, [.int t_pairs_width, .int t_pairs_most, .ref t_pairs_cells_h, .int t_pairs_lines])), (t_bents_h, .inl (cI, 6, .inl w18)), (t_pairs_cells_h, .inl (cI, t_pairs_cells_n, .inl t_pairs_cells_a))]) (va_runV (As := [.int r9, .int r7, .int (x1 - r11)]) (rest := [.int v16]) ⟨hx, hb, hml, hown, hts⟩ (k_X0_lower l G cI cJ (t_h := t_h) (t_pairs_h := t_pairs_h) (t_bents_h := t_bents_h) (t_bents_a := w14) (x1 := r9) (x2 := r7) (x3 := (x1 - r11)) (sz := _) (hf := hc19)) (cwV 3 hts gX0_lowerAll_X0_lower rfl rfl rfl (by decide +kernel) ⟨Nat.le_of_ble_eq_true rfl, Nat.le_of_ble_eq_true rfl⟩) (preV0 (ci := 0) (q0 := 0) (C := RX0) (wc := [(t_h, .inr (0, [.ref t_pairs_h, .ref t_bents_h])), (t_bents_h, .inl (cI, 6, .inl w14))]) hK hP hD hN [0, 2] rfl rfl (by decide) rfl rfl) rfl rfl hl.1 rfl (lv_room (Nat.le_of_ble_eq_true rfl)) dX0_lowerAll_73 ⟨Nat.zero_le _, Nat.zero_le _⟩) hP hD hS hA [0, 2] [1, 3] [2, 0, 3, 1] rfl rfl (by decide) (by decide) rfl rfl (by decide) (fun H locs hP hD hS => ?_)
        refine lv_ior hx hb dX0_lowerAll_76 ?_
        refine lv_topi (fun v20 ev20 => ?_)
        have hf := bv_at ev20 hf
        refine lv_istore_n (lv' := [(2, .int v20), (6, .int r11), (5, .int r9), (4, .int r7), (0, .ref t_h), (1, .int x1), (3, .int u2)]) hx hb dX0_lowerAll_77 rfl hl (by decide) rfl (fun ls hl => ?_)
        obtain ⟨v21, ev21⟩ : ∃ y : Int32, y = u2 + 1 := ⟨_, rfl⟩
        have hf := bv_at ev21 hf
        refine lv_iinc (v := v21) (lv' := [(3, .int v21), (2, .int v20), (6, .int r11), (5, .int r9), (4, .int r7), (0, .ref t_h), (1, .int x1)]) hx hb dX0_lowerAll_78 hl (k := 6) rfl (by rw [ev21]; rfl) (by decide) rfl (fun ls hl => ?_)
        refine lv_goto (tgt := 4) hx hb dX0_lowerAll_81 (by decide) ?_
        cases hf
        exact ih _ _ _ hq _ _ _ hP hD hS (lv_sub hl [5, 6, 1, 0] rfl)
  exact hl1 _ _ _ _ ht1 _ _ _ hP hD hS (lv_sub hl [2, 3, 1, 0] rfl)
set_option maxRecDepth 20000 in
theorem ggX0_settle_X0_lowerAll : GoodIn wsX0_settle wsX0_lowerAll := goodIn_r _ [7, 8, 9, 10, 11, 12, 13, 14, 15, 16, 17, 18, 19, 20, 21, 22, 23, 6, 24, 1, 25, 26, 27, 28, 29, 30, 31, 2, 32, 33, 34, 35, 36, 37] (by decide +kernel) (by decide +kernel)
set_option maxRecDepth 20000 in
theorem gX0_settle_X0_lowerAll : GoodIn wsX0_settle (wsV RX0 45 RX0 yX0_lowerAll wsX0_lowerAll) := goodIn_app (goodIn_of _ (by decide +kernel)) ggX0_settle_X0_lowerAll
theorem dX0_settle_0 : decode cX0_settle 0 = .ok (.aload_n 0, 1) := by decide +kernel
theorem dX0_settle_1 : decode cX0_settle 1 = .ok (.getfield 15, 3) := by decide +kernel
theorem dX0_settle_4 : decode cX0_settle 4 = .ok (.iconst 0, 1) := by decide +kernel
theorem dX0_settle_5 : decode cX0_settle 5 = .ok (.iconst 0, 1) := by decide +kernel
theorem dX0_settle_6 : decode cX0_settle 6 = .ok (.iastore, 1) := by decide +kernel
theorem dX0_settle_7 : decode cX0_settle 7 = .ok (.iconst 1, 1) := by decide +kernel
theorem dX0_settle_8 : decode cX0_settle 8 = .ok (.istore_n 2, 1) := by decide +kernel
theorem dX0_settle_9 : decode cX0_settle 9 = .ok (.iload_n 2, 1) := by decide +kernel
theorem dX0_settle_10 : decode cX0_settle 10 = .ok (.bipush 6, 2) := by decide +kernel
theorem dX0_settle_12 : decode cX0_settle 12 = .ok (.if_icmp .ge 17, 3) := by decide +kernel
theorem dX0_settle_15 : decode cX0_settle 15 = .ok (.aload_n 0, 1) := by decide +kernel
theorem dX0_settle_16 : decode cX0_settle 16 = .ok (.getfield 15, 3) := by decide +kernel
theorem dX0_settle_19 : decode cX0_settle 19 = .ok (.iload_n 2, 1) := by decide +kernel
theorem dX0_settle_20 : decode cX0_settle 20 = .ok (.ldc 44, 2) := by decide +kernel
theorem dX0_settle_22 : decode cX0_settle 22 = .ok (.iastore, 1) := by decide +kernel
theorem dX0_settle_23 : decode cX0_settle 23 = .ok (.iinc 2 1, 3) := by decide +kernel
theorem dX0_settle_26 : decode cX0_settle 26 = .ok (.goto (-17), 3) := by decide +kernel
theorem dX0_settle_29 : decode cX0_settle 29 = .ok (.iconst 0, 1) := by decide +kernel
theorem dX0_settle_30 : decode cX0_settle 30 = .ok (.istore_n 2, 1) := by decide +kernel
theorem dX0_settle_31 : decode cX0_settle 31 = .ok (.iload_n 2, 1) := by decide +kernel
theorem dX0_settle_32 : decode cX0_settle 32 = .ok (.bipush 6, 2) := by decide +kernel
theorem dX0_settle_34 : decode cX0_settle 34 = .ok (.if_icmp .ge 19, 3) := by decide +kernel
theorem dX0_settle_37 : decode cX0_settle 37 = .ok (.aload_n 0, 1) := by decide +kernel
theorem dX0_settle_38 : decode cX0_settle 38 = .ok (.iload_n 1, 1) := by decide +kernel
theorem dX0_settle_39 : decode cX0_settle 39 = .ok (.invokevirtual 45, 3) := by decide +kernel
theorem dX0_settle_42 : decode cX0_settle 42 = .ok (.ifCond .ne 5, 3) := by decide +kernel
theorem dX0_settle_45 : decode cX0_settle 45 = .ok (.iconst 1, 1) := by decide +kernel
theorem dX0_settle_46 : decode cX0_settle 46 = .ok (.ireturn, 1) := by decide +kernel
theorem dX0_settle_47 : decode cX0_settle 47 = .ok (.iinc 2 1, 3) := by decide +kernel
theorem dX0_settle_50 : decode cX0_settle 50 = .ok (.goto (-19), 3) := by decide +kernel
theorem dX0_settle_53 : decode cX0_settle 53 = .ok (.iconst 0, 1) := by decide +kernel
theorem dX0_settle_54 : decode cX0_settle 54 = .ok (.ireturn, 1) := by decide +kernel
set_option maxRecDepth 100000 in
def fX0_settle_L1  : (Int32 × (Nat → Int32)) → Option (((Nat → Int32)) ⊕ (Int32 × (Nat → Int32))) := un2 fun (u3 : Int32) (u4 : Nat → Int32) =>
  if 6 ≤ u3 then
    some (.inl u4)
  else
    gd (bnd u3 6) <|
    bv (upd u4 (Int32.toNatClampNeg u3) 1000000) fun a7 =>
    bv (u3 + 1) fun v8 =>
    some (.inr (v8, a7))
set_option maxRecDepth 100000 in
def fX0_settle_L2 (x1 : Int32) (t_pairs_width : Int32) (t_pairs_lines : Int32) (t_pairs_cells_n : Nat) (t_pairs_cells_a : Nat → Int32) : (Int32 × (Nat → Int32)) → Option ((((Nat → Int32)) ⊕ ((Nat → Int32))) ⊕ (Int32 × (Nat → Int32))) := un2 fun (u10 : Int32) (u11 : Nat → Int32) =>
  if 6 ≤ u10 then
    some (.inl (.inl u11))
  else
    ob2 (fX0_lowerAll x1 t_pairs_width t_pairs_lines u11 t_pairs_cells_n t_pairs_cells_a) fun r13 w14 =>
    if (b2i r13) = 0 then
      some (.inl (.inr w14))
    else
      bv (u10 + 1) fun v17 =>
      some (.inr (v17, w14))
set_option maxRecDepth 100000 in
def fX0_settle (x1 : Int32) (t_pairs_width : Int32) (t_pairs_lines : Int32) (t_bents_a : Nat → Int32) (t_pairs_cells_n : Nat) (t_pairs_cells_a : Nat → Int32) : Option (Bool × (Nat → Int32)) :=
  gd (bnd 0 6) <|
  bv (upd t_bents_a (Int32.toNatClampNeg 0) 0) fun a2 =>
  ob (it (fX0_settle_L1) 100000 (1, a2)) fun x9 =>
  osc (it (fX0_settle_L2 x1 t_pairs_width t_pairs_lines t_pairs_cells_n t_pairs_cells_a) 100000 (0, x9))
    (fun x18 =>
      some (false, x18)
    )
    (fun x19 =>
      some (true, x19)
    )
abbrev rmX0_settle : Room := { frames := 4, cells := 0, slots := 0, locals := 93 }
theorem iwX0_settle_X0 : ∀ w ∈ u_ws RX0 TX0 2, w ∈ wsX0_settle := by decide +kernel
set_option maxHeartbeats 4000000 in
set_option maxRecDepth 100000 in
theorem k_X0_settle (l : Launch) (G : va_G) (cI cJ : ClassId) (t_h t_pairs_h t_bents_h t_pairs_cells_h : Nat) (sz : Nat) (t_pairs_width : Int32) (t_pairs_most : Int32) (t_pairs_lines : Int32) (t_bents_a : Nat → Int32) (t_pairs_cells_n : Nat) (t_pairs_cells_a : Nat → Int32) (x1 : Int32) {o_r : Bool} {o_t_bents_a : Nat → Int32} (hf : fX0_settle x1 t_pairs_width t_pairs_lines t_bents_a t_pairs_cells_n t_pairs_cells_a = some (o_r, o_t_bents_a)) : MetI l yX0_settle wsX0_settle rmX0_settle [.ref t_h, .int x1] G cI cJ [(t_h, .inr (0, [.ref t_pairs_h, .ref t_bents_h])), (t_pairs_h, .inr (7, [.int t_pairs_width, .int t_pairs_most, .ref t_pairs_cells_h, .int t_pairs_lines])), (t_bents_h, .inl (cI, 6, .inl t_bents_a)), (t_pairs_cells_h, .inl (cI, t_pairs_cells_n, .inl t_pairs_cells_a))] [(t_h, .inr (0, [.ref t_pairs_h, .ref t_bents_h])), (t_pairs_h, .inr (7, [.int t_pairs_width, .int t_pairs_most, .ref t_pairs_cells_h, .int t_pairs_lines])), (t_bents_h, .inl (cI, 6, .inl o_t_bents_a)), (t_pairs_cells_h, .inl (cI, t_pairs_cells_n, .inl t_pairs_cells_a))] sz (b2i o_r) := by
  refine en_0 (l := l) (y := yX0_settle) (wsl := wsX0_settle) (rm := rmX0_settle) (av := [.ref t_h, .int x1]) (G := G) (cI := cI) (cJ := cJ) (w0 := [(t_h, .inr (0, [.ref t_pairs_h, .ref t_bents_h])), (t_pairs_h, .inr (7, [.int t_pairs_width, .int t_pairs_most, .ref t_pairs_cells_h, .int t_pairs_lines])), (t_bents_h, .inl (cI, 6, .inl t_bents_a)), (t_pairs_cells_h, .inl (cI, t_pairs_cells_n, .inl t_pairs_cells_a))]) (sz := sz) (Qf := fun A => Qi0 G cI cJ [(t_h, .inr (0, [.ref t_pairs_h, .ref t_bents_h])), (t_pairs_h, .inr (7, [.int t_pairs_width, .int t_pairs_most, .ref t_pairs_cells_h, .int t_pairs_lines])), (t_bents_h, .inl (cI, 6, .inl o_t_bents_a)), (t_pairs_cells_h, .inl (cI, t_pairs_cells_n, .inl t_pairs_cells_a))] (b2i o_r) A) (cc := cX0_settle) (maxL := 3) (ret := (some .boolean)) RX0 (by decide +kernel) rfl rfl (Nat.le_of_ble_eq_true rfl) ?_
  intro p e s m args below meth c A ls Q hQ hx hb hr hts hown hlocks hml hN hK hP hD hS hA hl
  have hl : lv_has ls 3 [(0, .ref t_h), (1, .int x1)] := hl
  have iwX0 := iwX0_settle_X0
  have fl_15 := hts (.fieldLink RX0 15 "CloudOffice$Boards" "bents" "[I") (by decide +kernel)
  have kc_44 := hts (.constant RX0 44 (1000000)) (by decide +kernel)
  have hret : ∀ (o_r9 : Bool) (o_t_bents_a9 : Nat → Int32) (pc : Nat) (H : Heap) (locs : List Loc) (ls : Array Slot), decode cX0_settle pc = .ok (.ireturn, 1) → some (o_r9, o_t_bents_a9) = some (o_r, o_t_bents_a) → va_P G vwCl [(t_h, .inr (0, [.ref t_pairs_h, .ref t_bents_h])), (t_pairs_h, .inr (7, [.int t_pairs_width, .int t_pairs_most, .ref t_pairs_cells_h, .int t_pairs_lines])), (t_bents_h, .inl (cI, 6, .inl o_t_bents_a9)), (t_pairs_cells_h, .inl (cI, t_pairs_cells_n, .inl t_pairs_cells_a))] H → va_D A [(t_h, .inr (0, [.ref t_pairs_h, .ref t_bents_h])), (t_pairs_h, .inr (7, [.int t_pairs_width, .int t_pairs_most, .ref t_pairs_cells_h, .int t_pairs_lines])), (t_bents_h, .inl (cI, 6, .inl o_t_bents_a9)), (t_pairs_cells_h, .inl (cI, t_pairs_cells_n, .inl t_pairs_cells_a))] → va_S A s.heap H locs → W p l e rmX0_settle s m args below meth c H locs 0 0 Q (F0 m pc ls [.int (b2i o_r9)]) := by
    intro o_r9 o_t_bents_a9 pc H locs ls hdg he hP hD hS
    cases he
    subst hQ
    exact rt_z hx hb hr hlocks hK hP hD hS (b2i_narrow _) rfl hdg
  clear hQ
  unfold fX0_settle at hf
  refine lv_aload_n hx hb dX0_settle_0 rfl (lv_at hl 0 rfl) ?_
  refine va_get (D := G) (ci := 0) (v := .ref t_bents_h) (C := RX0) (T := TX0) (N := 2) hx hb hts iwX0 hown hK hP 0 rfl rfl 1 (by decide) fl_15 (fun _ h9 => h9) rfl dX0_settle_1 ?_
  refine lv_iconst (v := 0) hx hb dX0_settle_4 (by decide) ?_
  refine lv_iconst (v := 0) hx hb dX0_settle_5 (by decide) ?_
  obtain ⟨h1, hf⟩ := gd_some hf
  obtain ⟨a2, ea2⟩ : ∃ y : Nat → Int32, y = upd t_bents_a (Int32.toNatClampNeg 0) 0 := ⟨_, rfl⟩
  have hf := bv_at ea2 hf
  refine va_iast hx hb hK hP hD hS 2 0 rfl rfl (bnd_in h1) dX0_settle_6 (fun H locs hP hD hS => ?_)
  have hP : va_P G vwCl [(t_h, .inr (0, [.ref t_pairs_h, .ref t_bents_h])), (t_pairs_h, .inr (7, [.int t_pairs_width, .int t_pairs_most, .ref t_pairs_cells_h, .int t_pairs_lines])), (t_bents_h, .inl (cI, 6, .inl a2)), (t_pairs_cells_h, .inl (cI, t_pairs_cells_n, .inl t_pairs_cells_a))] H := by rw [ea2]; exact hP
  have hD : va_D A [(t_h, .inr (0, [.ref t_pairs_h, .ref t_bents_h])), (t_pairs_h, .inr (7, [.int t_pairs_width, .int t_pairs_most, .ref t_pairs_cells_h, .int t_pairs_lines])), (t_bents_h, .inl (cI, 6, .inl a2)), (t_pairs_cells_h, .inl (cI, t_pairs_cells_n, .inl t_pairs_cells_a))] := by rw [ea2]; exact hD
  refine lv_iconst (v := 1) hx hb dX0_settle_7 (by decide) ?_
  refine lv_istore_n (lv' := [(2, .int 1), (0, .ref t_h), (1, .int x1)]) hx hb dX0_settle_8 rfl hl (by decide) rfl (fun ls hl => ?_)
  obtain ⟨x9, ht1, hf⟩ := ob_some hf
  have hx1_0 : ∀ (x99 : Nat → Int32), x99 = x9 → ∀ (H : Heap) (locs : List Loc) (ls : Array Slot), va_P G vwCl [(t_h, .inr (0, [.ref t_pairs_h, .ref t_bents_h])), (t_pairs_h, .inr (7, [.int t_pairs_width, .int t_pairs_most, .ref t_pairs_cells_h, .int t_pairs_lines])), (t_bents_h, .inl (cI, 6, .inl x99)), (t_pairs_cells_h, .inl (cI, t_pairs_cells_n, .inl t_pairs_cells_a))] H → va_D A [(t_h, .inr (0, [.ref t_pairs_h, .ref t_bents_h])), (t_pairs_h, .inr (7, [.int t_pairs_width, .int t_pairs_most, .ref t_pairs_cells_h, .int t_pairs_lines])), (t_bents_h, .inl (cI, 6, .inl x99)), (t_pairs_cells_h, .inl (cI, t_pairs_cells_n, .inl t_pairs_cells_a))] → va_S A s.heap H locs → lv_has ls 3 [(0, .ref t_h), (1, .int x1)] → W p l e rmX0_settle s m args below meth c H locs 0 0 Q (F0 m 29 ls []) := by
    intro x99 he H locs ls hP hD hS hl
    cases he
    refine lv_iconst (v := 0) hx hb dX0_settle_29 (by decide) ?_
    refine lv_istore_n (lv' := [(2, .int 0), (0, .ref t_h), (1, .int x1)]) hx hb dX0_settle_30 rfl hl (by decide) rfl (fun ls hl => ?_)
    obtain ⟨e2, ht2, hf⟩ := osc_some hf
    have hx2_0 : ∀ (x189 : Nat → Int32), (.inl x189 : ((Nat → Int32)) ⊕ ((Nat → Int32))) = e2 → ∀ (H : Heap) (locs : List Loc) (ls : Array Slot), va_P G vwCl [(t_h, .inr (0, [.ref t_pairs_h, .ref t_bents_h])), (t_pairs_h, .inr (7, [.int t_pairs_width, .int t_pairs_most, .ref t_pairs_cells_h, .int t_pairs_lines])), (t_bents_h, .inl (cI, 6, .inl x189)), (t_pairs_cells_h, .inl (cI, t_pairs_cells_n, .inl t_pairs_cells_a))] H → va_D A [(t_h, .inr (0, [.ref t_pairs_h, .ref t_bents_h])), (t_pairs_h, .inr (7, [.int t_pairs_width, .int t_pairs_most, .ref t_pairs_cells_h, .int t_pairs_lines])), (t_bents_h, .inl (cI, 6, .inl x189)), (t_pairs_cells_h, .inl (cI, t_pairs_cells_n, .inl t_pairs_cells_a))] → va_S A s.heap H locs → lv_has ls 3 [] → W p l e rmX0_settle s m args below meth c H locs 0 0 Q (F0 m 53 ls []) := by
      intro x189 he H locs ls hP hD hS hl
      subst he
      have hf := osc_l hf
      refine lv_iconst (v := 0) hx hb dX0_settle_53 (by decide) ?_
      exact hret false x189 54 _ _ _ dX0_settle_54 hf hP hD hS
    have hx2_1 : ∀ (x199 : Nat → Int32), (.inr x199 : ((Nat → Int32)) ⊕ ((Nat → Int32))) = e2 → ∀ (H : Heap) (locs : List Loc) (ls : Array Slot), va_P G vwCl [(t_h, .inr (0, [.ref t_pairs_h, .ref t_bents_h])), (t_pairs_h, .inr (7, [.int t_pairs_width, .int t_pairs_most, .ref t_pairs_cells_h, .int t_pairs_lines])), (t_bents_h, .inl (cI, 6, .inl x199)), (t_pairs_cells_h, .inl (cI, t_pairs_cells_n, .inl t_pairs_cells_a))] H → va_D A [(t_h, .inr (0, [.ref t_pairs_h, .ref t_bents_h])), (t_pairs_h, .inr (7, [.int t_pairs_width, .int t_pairs_most, .ref t_pairs_cells_h, .int t_pairs_lines])), (t_bents_h, .inl (cI, 6, .inl x199)), (t_pairs_cells_h, .inl (cI, t_pairs_cells_n, .inl t_pairs_cells_a))] → va_S A s.heap H locs → lv_has ls 3 [] → W p l e rmX0_settle s m args below meth c H locs 0 0 Q (F0 m 45 ls []) := by
      intro x199 he H locs ls hP hD hS hl
      subst he
      have hf := osc_r hf
      refine lv_iconst (v := 1) hx hb dX0_settle_45 (by decide) ?_
      exact hret true x199 46 _ _ _ dX0_settle_46 hf hP hD hS
    clear hf
    have hl2 : ∀ (n : Nat) (u10 : Int32) (u11 : Nat → Int32), it (fX0_settle_L2 x1 t_pairs_width t_pairs_lines t_pairs_cells_n t_pairs_cells_a) n (u10, u11) = some e2 → ∀ (H : Heap) (locs : List Loc) (ls : Array Slot), va_P G vwCl [(t_h, .inr (0, [.ref t_pairs_h, .ref t_bents_h])), (t_pairs_h, .inr (7, [.int t_pairs_width, .int t_pairs_most, .ref t_pairs_cells_h, .int t_pairs_lines])), (t_bents_h, .inl (cI, 6, .inl u11)), (t_pairs_cells_h, .inl (cI, t_pairs_cells_n, .inl t_pairs_cells_a))] H → va_D A [(t_h, .inr (0, [.ref t_pairs_h, .ref t_bents_h])), (t_pairs_h, .inr (7, [.int t_pairs_width, .int t_pairs_most, .ref t_pairs_cells_h, .int t_pairs_lines])), (t_bents_h, .inl (cI, 6, .inl u11)), (t_pairs_cells_h, .inl (cI, t_pairs_cells_n, .inl t_pairs_cells_a))] → va_S A s.heap H locs → lv_has ls 3 [(0, .ref t_h), (1, .int x1), (2, .int u10)] → W p l e rmX0_settle s m args below meth c H locs 0 0 Q (F0 m 31 ls []) := by
      intro n
      induction n with
      | zero => intro u10 u11 hz; exact (it_zero hz).elim
      | succ n ih =>
        intro u10 u11 hz H locs ls hP hD hS hl
        obtain ⟨x9, hf, hq⟩ := it_succ hz
        unfold fX0_settle_L2 at hf
        dsimp only [un2] at hf
        refine lv_iload_n hx hb dX0_settle_31 rfl (lv_at hl 2 rfl) ?_
        refine lv_bipush (v := 6) hx hb dX0_settle_32 (by decide) ?_
        refine lv_icmp_ge (tgt := 53) hx hb dX0_settle_34 (by decide) (fun c12 => ?_) (fun c12 => ?_)
        · have hf := ift hf c12
          cases hf
          exact hx2_0 _ hq _ _ _ hP hD hS (lv_sub hl [] rfl)
        · have hf := iff_ hf c12
          refine lv_aload_n hx hb dX0_settle_37 rfl (lv_at hl 0 rfl) ?_
          refine lv_iload_n hx hb dX0_settle_38 rfl (lv_at hl 1 rfl) ?_
          obtain ⟨r13, w14, hc15, hf⟩ := ob2_some hf
          refine af_iW (wr := []) (ws2 := [(t_h, .inr (0, [.ref t_pairs_h, .ref t_bents_h])), (t_pairs_h, .inr (7, [.int t_pairs_width, .int t_pairs_most, .ref t_pairs_cells_h, .int t_pairs_lines])), (t_bents_h, .inl (cI, 6, .inl w14)), (t_pairs_cells_h, .inl (cI, t_pairs_cells_n, .inl t_pairs_cells_a))]) (va_runV (As := [.int x1]) (rest := []) ⟨hx, hb, hml, hown, hts⟩ (k_X0_lowerAll l G cI cJ (t_h := t_h) (t_pairs_h := t_pairs_h) (t_bents_h := t_bents_h) (t_pairs_cells_h := t_pairs_cells_h) (t_pairs_width := t_pairs_width) (t_pairs_most := t_pairs_most) (t_pairs_lines := t_pairs_lines) (t_bents_a := u11) (t_pairs_cells_n := t_pairs_cells_n) (t_pairs_cells_a := t_pairs_cells_a) (x1 := x1) (sz := _) (hf := hc15)) (cwV 1 hts gX0_settle_X0_lowerAll rfl rfl rfl (by decide +kernel) ⟨Nat.le_of_ble_eq_true rfl, Nat.le_of_ble_eq_true rfl⟩) (preV0 (ci := 0) (q0 := 0) (C := RX0) (wc := [(t_h, .inr (0, [.ref t_pairs_h, .ref t_bents_h])), (t_pairs_h, .inr (7, [.int t_pairs_width, .int t_pairs_most, .ref t_pairs_cells_h, .int t_pairs_lines])), (t_bents_h, .inl (cI, 6, .inl u11)), (t_pairs_cells_h, .inl (cI, t_pairs_cells_n, .inl t_pairs_cells_a))]) hK hP hD hN [0, 1, 2, 3] rfl rfl (by decide) rfl rfl) rfl rfl hl.1 rfl (lv_room (Nat.le_of_ble_eq_true rfl)) dX0_settle_39 ⟨Nat.zero_le _, Nat.zero_le _⟩) hP hD hS hA [0, 1, 2, 3] [] [0, 1, 2, 3] rfl rfl (by decide) (by decide) rfl rfl (by decide) (fun H locs hP hD hS => ?_)
          refine lv_if_ne (tgt := 47) hx hb dX0_settle_42 (by decide) (fun c16 => ?_) (fun c16 => ?_)
          · have hf := iff_ hf c16
            obtain ⟨v17, ev17⟩ : ∃ y : Int32, y = u10 + 1 := ⟨_, rfl⟩
            have hf := bv_at ev17 hf
            refine lv_iinc (v := v17) (lv' := [(2, .int v17), (0, .ref t_h), (1, .int x1)]) hx hb dX0_settle_47 hl (k := 2) rfl (by rw [ev17]; rfl) (by decide) rfl (fun ls hl => ?_)
            refine lv_goto (tgt := 31) hx hb dX0_settle_50 (by decide) ?_
            cases hf
            exact ih _ _ hq _ _ _ hP hD hS (lv_sub hl [1, 2, 0] rfl)
          · have hf := ift hf c16
            cases hf
            exact hx2_1 _ hq _ _ _ hP hD hS (lv_sub hl [] rfl)
    exact hl2 _ _ _ ht2 _ _ _ hP hD hS (lv_sub hl [1, 2, 0] rfl)
  clear hf
  have hl1 : ∀ (n : Nat) (u3 : Int32) (u4 : Nat → Int32), it (fX0_settle_L1) n (u3, u4) = some x9 → ∀ (H : Heap) (locs : List Loc) (ls : Array Slot), va_P G vwCl [(t_h, .inr (0, [.ref t_pairs_h, .ref t_bents_h])), (t_pairs_h, .inr (7, [.int t_pairs_width, .int t_pairs_most, .ref t_pairs_cells_h, .int t_pairs_lines])), (t_bents_h, .inl (cI, 6, .inl u4)), (t_pairs_cells_h, .inl (cI, t_pairs_cells_n, .inl t_pairs_cells_a))] H → va_D A [(t_h, .inr (0, [.ref t_pairs_h, .ref t_bents_h])), (t_pairs_h, .inr (7, [.int t_pairs_width, .int t_pairs_most, .ref t_pairs_cells_h, .int t_pairs_lines])), (t_bents_h, .inl (cI, 6, .inl u4)), (t_pairs_cells_h, .inl (cI, t_pairs_cells_n, .inl t_pairs_cells_a))] → va_S A s.heap H locs → lv_has ls 3 [(0, .ref t_h), (1, .int x1), (2, .int u3)] → W p l e rmX0_settle s m args below meth c H locs 0 0 Q (F0 m 9 ls []) := by
    intro n
    induction n with
    | zero => intro u3 u4 hz; exact (it_zero hz).elim
    | succ n ih =>
      intro u3 u4 hz H locs ls hP hD hS hl
      obtain ⟨x9, hf, hq⟩ := it_succ hz
      unfold fX0_settle_L1 at hf
      dsimp only [un2] at hf
      refine lv_iload_n hx hb dX0_settle_9 rfl (lv_at hl 2 rfl) ?_
      refine lv_bipush (v := 6) hx hb dX0_settle_10 (by decide) ?_
      refine lv_icmp_ge (tgt := 29) hx hb dX0_settle_12 (by decide) (fun c5 => ?_) (fun c5 => ?_)
      · have hf := ift hf c5
        cases hf
        exact hx1_0 _ hq _ _ _ hP hD hS (lv_sub hl [0, 1] rfl)
      · have hf := iff_ hf c5
        refine lv_aload_n hx hb dX0_settle_15 rfl (lv_at hl 0 rfl) ?_
        refine va_get (D := G) (ci := 0) (v := .ref t_bents_h) (C := RX0) (T := TX0) (N := 2) hx hb hts iwX0 hown hK hP 0 rfl rfl 1 (by decide) fl_15 (fun _ h9 => h9) rfl dX0_settle_16 ?_
        refine lv_iload_n hx hb dX0_settle_19 rfl (lv_at hl 2 rfl) ?_
        refine lv_ldc (v := 1000000) hx hb hown kc_44 dX0_settle_20 ?_
        obtain ⟨h6, hf⟩ := gd_some hf
        obtain ⟨a7, ea7⟩ : ∃ y : Nat → Int32, y = upd u4 (Int32.toNatClampNeg u3) 1000000 := ⟨_, rfl⟩
        have hf := bv_at ea7 hf
        refine va_iast hx hb hK hP hD hS 2 0 rfl rfl (bnd_in h6) dX0_settle_22 (fun H locs hP hD hS => ?_)
        have hP : va_P G vwCl [(t_h, .inr (0, [.ref t_pairs_h, .ref t_bents_h])), (t_pairs_h, .inr (7, [.int t_pairs_width, .int t_pairs_most, .ref t_pairs_cells_h, .int t_pairs_lines])), (t_bents_h, .inl (cI, 6, .inl a7)), (t_pairs_cells_h, .inl (cI, t_pairs_cells_n, .inl t_pairs_cells_a))] H := by rw [ea7]; exact hP
        have hD : va_D A [(t_h, .inr (0, [.ref t_pairs_h, .ref t_bents_h])), (t_pairs_h, .inr (7, [.int t_pairs_width, .int t_pairs_most, .ref t_pairs_cells_h, .int t_pairs_lines])), (t_bents_h, .inl (cI, 6, .inl a7)), (t_pairs_cells_h, .inl (cI, t_pairs_cells_n, .inl t_pairs_cells_a))] := by rw [ea7]; exact hD
        obtain ⟨v8, ev8⟩ : ∃ y : Int32, y = u3 + 1 := ⟨_, rfl⟩
        have hf := bv_at ev8 hf
        refine lv_iinc (v := v8) (lv' := [(2, .int v8), (0, .ref t_h), (1, .int x1)]) hx hb dX0_settle_23 hl (k := 2) rfl (by rw [ev8]; rfl) (by decide) rfl (fun ls hl => ?_)
        refine lv_goto (tgt := 9) hx hb dX0_settle_26 (by decide) ?_
        cases hf
        exact ih _ _ hq _ _ _ hP hD hS (lv_sub hl [1, 2, 0] rfl)
  exact hl1 _ _ _ ht1 _ _ _ hP hD hS (lv_sub hl [1, 2, 0] rfl)
set_option maxRecDepth 20000 in
theorem ggX0_leastWorst_X0_settle : GoodIn wsX0_leastWorst wsX0_settle := goodIn_r _ [6, 7, 8, 9, 10, 11, 5, 12, 1, 13, 14, 15, 16, 17, 18, 19, 20, 21, 22, 23, 24, 25, 26, 27, 28, 29, 30, 31, 32, 33, 34, 35, 40, 41, 42, 43, 44, 45] (by decide +kernel) (by decide +kernel)
set_option maxRecDepth 20000 in
theorem gX0_leastWorst_X0_settle : GoodIn wsX0_leastWorst (wsV RX0 19 RX0 yX0_settle wsX0_settle) := goodIn_app (goodIn_of _ (by decide +kernel)) ggX0_leastWorst_X0_settle
set_option maxRecDepth 20000 in
theorem ggX0_leastWorst_X7_size : GoodIn wsX0_leastWorst wsX7_size := goodIn_r _ [17, 18, 42, 43, 44, 45] (by decide +kernel) (by decide +kernel)
set_option maxRecDepth 20000 in
theorem gX0_leastWorst_X7_size : GoodIn wsX0_leastWorst (wsV RX0 23 RX7 yX7_size wsX7_size) := goodIn_app (goodIn_of _ (by decide +kernel)) ggX0_leastWorst_X7_size
set_option maxRecDepth 20000 in
theorem ggX0_leastWorst_X0_areAllJoined : GoodIn wsX0_leastWorst wsX0_areAllJoined := goodIn_r _ [39, 1, 13, 14, 15, 16, 17, 18, 19, 20, 21, 22, 23, 24, 32, 33, 34, 5, 35, 7, 8, 29, 30, 31, 40, 41, 42, 43, 44, 45] (by decide +kernel) (by decide +kernel)
set_option maxRecDepth 20000 in
theorem gX0_leastWorst_X0_areAllJoined : GoodIn wsX0_leastWorst (wsV RX0 29 RX0 yX0_areAllJoined wsX0_areAllJoined) := goodIn_app (goodIn_of _ (by decide +kernel)) ggX0_leastWorst_X0_areAllJoined
theorem dX0_leastWorst_0 : decode cX0_leastWorst 0 = .ok (.aload_n 0, 1) := by decide +kernel
theorem dX0_leastWorst_1 : decode cX0_leastWorst 1 = .ok (.sipush 2000, 3) := by decide +kernel
theorem dX0_leastWorst_4 : decode cX0_leastWorst 4 = .ok (.invokevirtual 19, 3) := by decide +kernel
theorem dX0_leastWorst_7 : decode cX0_leastWorst 7 = .ok (.pop, 1) := by decide +kernel
theorem dX0_leastWorst_8 : decode cX0_leastWorst 8 = .ok (.aload_n 0, 1) := by decide +kernel
theorem dX0_leastWorst_9 : decode cX0_leastWorst 9 = .ok (.getfield 9, 3) := by decide +kernel
theorem dX0_leastWorst_12 : decode cX0_leastWorst 12 = .ok (.invokevirtual 23, 3) := by decide +kernel
theorem dX0_leastWorst_15 : decode cX0_leastWorst 15 = .ok (.ifCond .eq 10, 3) := by decide +kernel
theorem dX0_leastWorst_18 : decode cX0_leastWorst 18 = .ok (.aload_n 0, 1) := by decide +kernel
theorem dX0_leastWorst_19 : decode cX0_leastWorst 19 = .ok (.invokevirtual 29, 3) := by decide +kernel
theorem dX0_leastWorst_22 : decode cX0_leastWorst 22 = .ok (.ifCond .ne 5, 3) := by decide +kernel
theorem dX0_leastWorst_25 : decode cX0_leastWorst 25 = .ok (.iconst (-1), 1) := by decide +kernel
theorem dX0_leastWorst_26 : decode cX0_leastWorst 26 = .ok (.ireturn, 1) := by decide +kernel
theorem dX0_leastWorst_27 : decode cX0_leastWorst 27 = .ok (.iconst 0, 1) := by decide +kernel
theorem dX0_leastWorst_28 : decode cX0_leastWorst 28 = .ok (.istore_n 1, 1) := by decide +kernel
theorem dX0_leastWorst_29 : decode cX0_leastWorst 29 = .ok (.sipush 2000, 3) := by decide +kernel
theorem dX0_leastWorst_32 : decode cX0_leastWorst 32 = .ok (.istore_n 2, 1) := by decide +kernel
theorem dX0_leastWorst_33 : decode cX0_leastWorst 33 = .ok (.iconst 0, 1) := by decide +kernel
theorem dX0_leastWorst_34 : decode cX0_leastWorst 34 = .ok (.istore_n 3, 1) := by decide +kernel
theorem dX0_leastWorst_35 : decode cX0_leastWorst 35 = .ok (.iload_n 3, 1) := by decide +kernel
theorem dX0_leastWorst_36 : decode cX0_leastWorst 36 = .ok (.bipush 11, 2) := by decide +kernel
theorem dX0_leastWorst_38 : decode cX0_leastWorst 38 = .ok (.if_icmp .ge 41, 3) := by decide +kernel
theorem dX0_leastWorst_41 : decode cX0_leastWorst 41 = .ok (.iload_n 1, 1) := by decide +kernel
theorem dX0_leastWorst_42 : decode cX0_leastWorst 42 = .ok (.iload_n 2, 1) := by decide +kernel
theorem dX0_leastWorst_43 : decode cX0_leastWorst 43 = .ok (.if_icmp .ge 36, 3) := by decide +kernel
theorem dX0_leastWorst_46 : decode cX0_leastWorst 46 = .ok (.iload_n 1, 1) := by decide +kernel
theorem dX0_leastWorst_47 : decode cX0_leastWorst 47 = .ok (.iload_n 2, 1) := by decide +kernel
theorem dX0_leastWorst_48 : decode cX0_leastWorst 48 = .ok (.iadd, 1) := by decide +kernel
theorem dX0_leastWorst_49 : decode cX0_leastWorst 49 = .ok (.iconst 2, 1) := by decide +kernel
theorem dX0_leastWorst_50 : decode cX0_leastWorst 50 = .ok (.idiv, 1) := by decide +kernel
theorem dX0_leastWorst_51 : decode cX0_leastWorst 51 = .ok (.istore 4, 2) := by decide +kernel
theorem dX0_leastWorst_53 : decode cX0_leastWorst 53 = .ok (.aload_n 0, 1) := by decide +kernel
theorem dX0_leastWorst_54 : decode cX0_leastWorst 54 = .ok (.iload 4, 2) := by decide +kernel
theorem dX0_leastWorst_56 : decode cX0_leastWorst 56 = .ok (.invokevirtual 19, 3) := by decide +kernel
theorem dX0_leastWorst_59 : decode cX0_leastWorst 59 = .ok (.ifCond .eq 9, 3) := by decide +kernel
theorem dX0_leastWorst_62 : decode cX0_leastWorst 62 = .ok (.iload 4, 2) := by decide +kernel
theorem dX0_leastWorst_64 : decode cX0_leastWorst 64 = .ok (.istore_n 2, 1) := by decide +kernel
theorem dX0_leastWorst_65 : decode cX0_leastWorst 65 = .ok (.goto 8, 3) := by decide +kernel
theorem dX0_leastWorst_68 : decode cX0_leastWorst 68 = .ok (.iload 4, 2) := by decide +kernel
theorem dX0_leastWorst_70 : decode cX0_leastWorst 70 = .ok (.iconst 1, 1) := by decide +kernel
theorem dX0_leastWorst_71 : decode cX0_leastWorst 71 = .ok (.iadd, 1) := by decide +kernel
theorem dX0_leastWorst_72 : decode cX0_leastWorst 72 = .ok (.istore_n 1, 1) := by decide +kernel
theorem dX0_leastWorst_73 : decode cX0_leastWorst 73 = .ok (.iinc 3 1, 3) := by decide +kernel
theorem dX0_leastWorst_76 : decode cX0_leastWorst 76 = .ok (.goto (-41), 3) := by decide +kernel
theorem dX0_leastWorst_79 : decode cX0_leastWorst 79 = .ok (.aload_n 0, 1) := by decide +kernel
theorem dX0_leastWorst_80 : decode cX0_leastWorst 80 = .ok (.iload_n 2, 1) := by decide +kernel
theorem dX0_leastWorst_81 : decode cX0_leastWorst 81 = .ok (.invokevirtual 19, 3) := by decide +kernel
theorem dX0_leastWorst_84 : decode cX0_leastWorst 84 = .ok (.pop, 1) := by decide +kernel
theorem dX0_leastWorst_85 : decode cX0_leastWorst 85 = .ok (.iload_n 2, 1) := by decide +kernel
theorem dX0_leastWorst_86 : decode cX0_leastWorst 86 = .ok (.ireturn, 1) := by decide +kernel
set_option maxRecDepth 100000 in
def fX0_leastWorst_L1 (t_pairs_width : Int32) (t_pairs_lines : Int32) (t_pairs_cells_n : Nat) (t_pairs_cells_a : Nat → Int32) : (Int32 × Int32 × Int32 × (Nat → Int32)) → Option ((Int32 × (Nat → Int32)) ⊕ (Int32 × Int32 × Int32 × (Nat → Int32))) := un4 fun (u10 : Int32) (u11 : Int32) (u12 : Int32) (u13 : Nat → Int32) =>
  if 11 ≤ u12 then
    some (.inl (u11, u13))
  else
    if u11 ≤ u10 then
      some (.inl (u11, u13))
    else
      bv ((u10 + u11) / 2) fun v16 =>
      ob2 (fX0_settle v16 t_pairs_width t_pairs_lines u13 t_pairs_cells_n t_pairs_cells_a) fun r17 w18 =>
      ob2 (α0 := Int32) (α1 := Int32) (
          if (b2i r17) = 0 then
            bv (v16 + 1) fun v25 =>
            some (v25, u11)
          else
            some (u10, v16)
        ) fun m20 m21 =>
      bv (u12 + 1) fun v26 =>
      some (.inr (m20, m21, v26, w18))
set_option maxRecDepth 100000 in
def fX0_leastWorst (t_pairs_width : Int32) (t_pairs_lines : Int32) (t_bents_a : Nat → Int32) (t_pairs_cells_n : Nat) (t_pairs_cells_a : Nat → Int32) : Option (Int32 × (Nat → Int32)) :=
  ob2 (fX0_settle 2000 t_pairs_width t_pairs_lines t_bents_a t_pairs_cells_n t_pairs_cells_a) fun r1 w2 =>
  ob (fX7_size t_pairs_lines) fun r4 =>
  if r4 = 0 then
    some ((-1), w2)
  else
    ob (fX0_areAllJoined t_pairs_width t_pairs_lines w2 t_pairs_cells_n t_pairs_cells_a) fun r7 =>
    if (b2i r7) = 0 then
      some ((-1), w2)
    else
      ob2 (it (fX0_leastWorst_L1 t_pairs_width t_pairs_lines t_pairs_cells_n t_pairs_cells_a) 100000 (0, 2000, 0, w2)) fun x27 x28 =>
      ob2 (fX0_settle x27 t_pairs_width t_pairs_lines x28 t_pairs_cells_n t_pairs_cells_a) fun r29 w30 =>
      some (x27, w30)
abbrev rmX0_leastWorst : Room := { frames := 5, cells := 0, slots := 0, locals := 115 }
theorem iwX0_leastWorst_X0 : ∀ w ∈ u_ws RX0 TX0 2, w ∈ wsX0_leastWorst := by decide +kernel
set_option maxHeartbeats 4000000 in
set_option maxRecDepth 100000 in
theorem k_X0_leastWorst (l : Launch) (G : va_G) (cI cJ : ClassId) (t_h t_pairs_h t_bents_h t_pairs_cells_h : Nat) (sz : Nat) (t_pairs_width : Int32) (t_pairs_most : Int32) (t_pairs_lines : Int32) (t_bents_a : Nat → Int32) (t_pairs_cells_n : Nat) (t_pairs_cells_a : Nat → Int32) {o_r : Int32} {o_t_bents_a : Nat → Int32} (hf : fX0_leastWorst t_pairs_width t_pairs_lines t_bents_a t_pairs_cells_n t_pairs_cells_a = some (o_r, o_t_bents_a)) : MetI l yX0_leastWorst wsX0_leastWorst rmX0_leastWorst [.ref t_h] G cI cJ [(t_h, .inr (0, [.ref t_pairs_h, .ref t_bents_h])), (t_pairs_h, .inr (7, [.int t_pairs_width, .int t_pairs_most, .ref t_pairs_cells_h, .int t_pairs_lines])), (t_bents_h, .inl (cI, 6, .inl t_bents_a)), (t_pairs_cells_h, .inl (cI, t_pairs_cells_n, .inl t_pairs_cells_a))] [(t_h, .inr (0, [.ref t_pairs_h, .ref t_bents_h])), (t_pairs_h, .inr (7, [.int t_pairs_width, .int t_pairs_most, .ref t_pairs_cells_h, .int t_pairs_lines])), (t_bents_h, .inl (cI, 6, .inl o_t_bents_a)), (t_pairs_cells_h, .inl (cI, t_pairs_cells_n, .inl t_pairs_cells_a))] sz o_r := by
  refine en_0 (l := l) (y := yX0_leastWorst) (wsl := wsX0_leastWorst) (rm := rmX0_leastWorst) (av := [.ref t_h]) (G := G) (cI := cI) (cJ := cJ) (w0 := [(t_h, .inr (0, [.ref t_pairs_h, .ref t_bents_h])), (t_pairs_h, .inr (7, [.int t_pairs_width, .int t_pairs_most, .ref t_pairs_cells_h, .int t_pairs_lines])), (t_bents_h, .inl (cI, 6, .inl t_bents_a)), (t_pairs_cells_h, .inl (cI, t_pairs_cells_n, .inl t_pairs_cells_a))]) (sz := sz) (Qf := fun A => Qi0 G cI cJ [(t_h, .inr (0, [.ref t_pairs_h, .ref t_bents_h])), (t_pairs_h, .inr (7, [.int t_pairs_width, .int t_pairs_most, .ref t_pairs_cells_h, .int t_pairs_lines])), (t_bents_h, .inl (cI, 6, .inl o_t_bents_a)), (t_pairs_cells_h, .inl (cI, t_pairs_cells_n, .inl t_pairs_cells_a))] o_r A) (cc := cX0_leastWorst) (maxL := 5) (ret := (some .int)) RX0 (by decide +kernel) rfl rfl (Nat.le_of_ble_eq_true rfl) ?_
  intro p e s m args below meth c A ls Q hQ hx hb hr hts hown hlocks hml hN hK hP hD hS hA hl
  have hl : lv_has ls 5 [(0, .ref t_h)] := hl
  have iwX0 := iwX0_leastWorst_X0
  have fl_9 := hts (.fieldLink RX0 9 "CloudOffice$Boards" "pairs" "LCloudOffice$Table;") (by decide +kernel)
  have hret : ∀ (o_r9 : Int32) (o_t_bents_a9 : Nat → Int32) (pc : Nat) (H : Heap) (locs : List Loc) (ls : Array Slot), decode cX0_leastWorst pc = .ok (.ireturn, 1) → some (o_r9, o_t_bents_a9) = some (o_r, o_t_bents_a) → va_P G vwCl [(t_h, .inr (0, [.ref t_pairs_h, .ref t_bents_h])), (t_pairs_h, .inr (7, [.int t_pairs_width, .int t_pairs_most, .ref t_pairs_cells_h, .int t_pairs_lines])), (t_bents_h, .inl (cI, 6, .inl o_t_bents_a9)), (t_pairs_cells_h, .inl (cI, t_pairs_cells_n, .inl t_pairs_cells_a))] H → va_D A [(t_h, .inr (0, [.ref t_pairs_h, .ref t_bents_h])), (t_pairs_h, .inr (7, [.int t_pairs_width, .int t_pairs_most, .ref t_pairs_cells_h, .int t_pairs_lines])), (t_bents_h, .inl (cI, 6, .inl o_t_bents_a9)), (t_pairs_cells_h, .inl (cI, t_pairs_cells_n, .inl t_pairs_cells_a))] → va_S A s.heap H locs → W p l e rmX0_leastWorst s m args below meth c H locs 0 0 Q (F0 m pc ls [.int o_r9]) := by
    intro o_r9 o_t_bents_a9 pc H locs ls hdg he hP hD hS
    cases he
    subst hQ
    exact rt_i hx hb hr hlocks hK hP hD hS rfl hdg
  clear hQ
  unfold fX0_leastWorst at hf
  refine lv_aload_n hx hb dX0_leastWorst_0 rfl (lv_at hl 0 rfl) ?_
  refine lv_sipush (v := 2000) hx hb dX0_leastWorst_1 (by decide) ?_
  obtain ⟨r1, w2, hc3, hf⟩ := ob2_some hf
  refine af_iW (wr := []) (ws2 := [(t_h, .inr (0, [.ref t_pairs_h, .ref t_bents_h])), (t_pairs_h, .inr (7, [.int t_pairs_width, .int t_pairs_most, .ref t_pairs_cells_h, .int t_pairs_lines])), (t_bents_h, .inl (cI, 6, .inl w2)), (t_pairs_cells_h, .inl (cI, t_pairs_cells_n, .inl t_pairs_cells_a))]) (va_runV (As := [.int 2000]) (rest := []) ⟨hx, hb, hml, hown, hts⟩ (k_X0_settle l G cI cJ (t_h := t_h) (t_pairs_h := t_pairs_h) (t_bents_h := t_bents_h) (t_pairs_cells_h := t_pairs_cells_h) (t_pairs_width := t_pairs_width) (t_pairs_most := t_pairs_most) (t_pairs_lines := t_pairs_lines) (t_bents_a := t_bents_a) (t_pairs_cells_n := t_pairs_cells_n) (t_pairs_cells_a := t_pairs_cells_a) (x1 := 2000) (sz := _) (hf := hc3)) (cwV 1 hts gX0_leastWorst_X0_settle rfl rfl rfl (by decide +kernel) ⟨Nat.le_of_ble_eq_true rfl, Nat.le_of_ble_eq_true rfl⟩) (preV0 (ci := 0) (q0 := 0) (C := RX0) (wc := [(t_h, .inr (0, [.ref t_pairs_h, .ref t_bents_h])), (t_pairs_h, .inr (7, [.int t_pairs_width, .int t_pairs_most, .ref t_pairs_cells_h, .int t_pairs_lines])), (t_bents_h, .inl (cI, 6, .inl t_bents_a)), (t_pairs_cells_h, .inl (cI, t_pairs_cells_n, .inl t_pairs_cells_a))]) hK hP hD hN [0, 1, 2, 3] rfl rfl (by decide) rfl rfl) rfl rfl hl.1 rfl (lv_room (Nat.le_of_ble_eq_true rfl)) dX0_leastWorst_4 ⟨Nat.zero_le _, Nat.zero_le _⟩) hP hD hS hA [0, 1, 2, 3] [] [0, 1, 2, 3] rfl rfl (by decide) (by decide) rfl rfl (by decide) (fun H locs hP hD hS => ?_)
  refine lv_pop hx hb dX0_leastWorst_7 rfl ?_
  refine lv_aload_n hx hb dX0_leastWorst_8 rfl (lv_at hl 0 rfl) ?_
  refine va_get (D := G) (ci := 0) (v := .ref t_pairs_h) (C := RX0) (T := TX0) (N := 2) hx hb hts iwX0 hown hK hP 0 rfl rfl 0 (by decide) fl_9 (fun _ h9 => h9) rfl dX0_leastWorst_9 ?_
  obtain ⟨r4, hc5, hf⟩ := ob_some hf
  refine af_iR (va_runV (As := []) (rest := []) ⟨hx, hb, hml, hown, hts⟩ (k_X7_size l G cI cJ (t_h := t_pairs_h) (t_cells_h := t_pairs_cells_h) (t_width := t_pairs_width) (t_most := t_pairs_most) (t_lines := t_pairs_lines) (sz := _) (hf := hc5)) (cwV 0 hts gX0_leastWorst_X7_size rfl rfl rfl (by decide +kernel) ⟨Nat.le_of_ble_eq_true rfl, Nat.le_of_ble_eq_true rfl⟩) (preV0 (ci := 7) (q0 := 0) (C := RX7) (wc := [(t_pairs_h, .inr (7, [.int t_pairs_width, .int t_pairs_most, .ref t_pairs_cells_h, .int t_pairs_lines]))]) hK hP hD hN [1] rfl rfl (by decide) rfl rfl) rfl rfl hl.1 rfl (lv_room (Nat.le_of_ble_eq_true rfl)) dX0_leastWorst_12 ⟨Nat.zero_le _, Nat.zero_le _⟩) hP hD hS hA [1] rfl (fun H locs hP hS => ?_)
  refine lv_if_eq (tgt := 25) hx hb dX0_leastWorst_15 (by decide) (fun c6 => ?_) (fun c6 => ?_)
  · have hf := ift hf c6
    refine lv_iconst (v := (-1)) hx hb dX0_leastWorst_25 (by decide) ?_
    exact hret (-1) w2 26 _ _ _ dX0_leastWorst_26 hf hP hD hS
  · have hf := iff_ hf c6
    refine lv_aload_n hx hb dX0_leastWorst_18 rfl (lv_at hl 0 rfl) ?_
    obtain ⟨r7, hc8, hf⟩ := ob_some hf
    refine af_iR (va_runV (As := []) (rest := []) ⟨hx, hb, hml, hown, hts⟩ (k_X0_areAllJoined l G cI cJ (t_h := t_h) (t_pairs_h := t_pairs_h) (t_bents_h := t_bents_h) (t_pairs_cells_h := t_pairs_cells_h) (t_pairs_width := t_pairs_width) (t_pairs_most := t_pairs_most) (t_pairs_lines := t_pairs_lines) (t_bents_a := w2) (t_pairs_cells_n := t_pairs_cells_n) (t_pairs_cells_a := t_pairs_cells_a) (sz := _) (hf := hc8)) (cwV 0 hts gX0_leastWorst_X0_areAllJoined rfl rfl rfl (by decide +kernel) ⟨Nat.le_of_ble_eq_true rfl, Nat.le_of_ble_eq_true rfl⟩) (preV0 (ci := 0) (q0 := 0) (C := RX0) (wc := [(t_h, .inr (0, [.ref t_pairs_h, .ref t_bents_h])), (t_pairs_h, .inr (7, [.int t_pairs_width, .int t_pairs_most, .ref t_pairs_cells_h, .int t_pairs_lines])), (t_bents_h, .inl (cI, 6, .inl w2)), (t_pairs_cells_h, .inl (cI, t_pairs_cells_n, .inl t_pairs_cells_a))]) hK hP hD hN [0, 1, 2, 3] rfl rfl (by decide) rfl rfl) rfl rfl hl.1 rfl (lv_room (Nat.le_of_ble_eq_true rfl)) dX0_leastWorst_19 ⟨Nat.zero_le _, Nat.zero_le _⟩) hP hD hS hA [0, 1, 2, 3] rfl (fun H locs hP hS => ?_)
    refine lv_if_ne (tgt := 27) hx hb dX0_leastWorst_22 (by decide) (fun c9 => ?_) (fun c9 => ?_)
    · have hf := iff_ hf c9
      refine lv_iconst (v := 0) hx hb dX0_leastWorst_27 (by decide) ?_
      refine lv_istore_n (lv' := [(1, .int 0), (0, .ref t_h)]) hx hb dX0_leastWorst_28 rfl hl (by decide) rfl (fun ls hl => ?_)
      refine lv_sipush (v := 2000) hx hb dX0_leastWorst_29 (by decide) ?_
      refine lv_istore_n (lv' := [(2, .int 2000), (1, .int 0), (0, .ref t_h)]) hx hb dX0_leastWorst_32 rfl hl (by decide) rfl (fun ls hl => ?_)
      refine lv_iconst (v := 0) hx hb dX0_leastWorst_33 (by decide) ?_
      refine lv_istore_n (lv' := [(3, .int 0), (2, .int 2000), (1, .int 0), (0, .ref t_h)]) hx hb dX0_leastWorst_34 rfl hl (by decide) rfl (fun ls hl => ?_)
      obtain ⟨x27, x28, ht1, hf⟩ := ob2_some hf
      have hx1_0 : ∀ (x279 : Int32) (x289 : Nat → Int32), (x279, x289) = (x27, x28) → ∀ (H : Heap) (locs : List Loc) (ls : Array Slot), va_P G vwCl [(t_h, .inr (0, [.ref t_pairs_h, .ref t_bents_h])), (t_pairs_h, .inr (7, [.int t_pairs_width, .int t_pairs_most, .ref t_pairs_cells_h, .int t_pairs_lines])), (t_bents_h, .inl (cI, 6, .inl x289)), (t_pairs_cells_h, .inl (cI, t_pairs_cells_n, .inl t_pairs_cells_a))] H → va_D A [(t_h, .inr (0, [.ref t_pairs_h, .ref t_bents_h])), (t_pairs_h, .inr (7, [.int t_pairs_width, .int t_pairs_most, .ref t_pairs_cells_h, .int t_pairs_lines])), (t_bents_h, .inl (cI, 6, .inl x289)), (t_pairs_cells_h, .inl (cI, t_pairs_cells_n, .inl t_pairs_cells_a))] → va_S A s.heap H locs → lv_has ls 5 [(0, .ref t_h), (2, .int x279)] → W p l e rmX0_leastWorst s m args below meth c H locs 0 0 Q (F0 m 79 ls []) := by
        intro x279 x289 he H locs ls hP hD hS hl
        cases he
        refine lv_aload_n hx hb dX0_leastWorst_79 rfl (lv_at hl 0 rfl) ?_
        refine lv_iload_n hx hb dX0_leastWorst_80 rfl (lv_at hl 1 rfl) ?_
        obtain ⟨r29, w30, hc31, hf⟩ := ob2_some hf
        refine af_iW (wr := []) (ws2 := [(t_h, .inr (0, [.ref t_pairs_h, .ref t_bents_h])), (t_pairs_h, .inr (7, [.int t_pairs_width, .int t_pairs_most, .ref t_pairs_cells_h, .int t_pairs_lines])), (t_bents_h, .inl (cI, 6, .inl w30)), (t_pairs_cells_h, .inl (cI, t_pairs_cells_n, .inl t_pairs_cells_a))]) (va_runV (As := [.int x27]) (rest := []) ⟨hx, hb, hml, hown, hts⟩ (k_X0_settle l G cI cJ (t_h := t_h) (t_pairs_h := t_pairs_h) (t_bents_h := t_bents_h) (t_pairs_cells_h := t_pairs_cells_h) (t_pairs_width := t_pairs_width) (t_pairs_most := t_pairs_most) (t_pairs_lines := t_pairs_lines) (t_bents_a := x28) (t_pairs_cells_n := t_pairs_cells_n) (t_pairs_cells_a := t_pairs_cells_a) (x1 := x27) (sz := _) (hf := hc31)) (cwV 1 hts gX0_leastWorst_X0_settle rfl rfl rfl (by decide +kernel) ⟨Nat.le_of_ble_eq_true rfl, Nat.le_of_ble_eq_true rfl⟩) (preV0 (ci := 0) (q0 := 0) (C := RX0) (wc := [(t_h, .inr (0, [.ref t_pairs_h, .ref t_bents_h])), (t_pairs_h, .inr (7, [.int t_pairs_width, .int t_pairs_most, .ref t_pairs_cells_h, .int t_pairs_lines])), (t_bents_h, .inl (cI, 6, .inl x28)), (t_pairs_cells_h, .inl (cI, t_pairs_cells_n, .inl t_pairs_cells_a))]) hK hP hD hN [0, 1, 2, 3] rfl rfl (by decide) rfl rfl) rfl rfl hl.1 rfl (lv_room (Nat.le_of_ble_eq_true rfl)) dX0_leastWorst_81 ⟨Nat.zero_le _, Nat.zero_le _⟩) hP hD hS hA [0, 1, 2, 3] [] [0, 1, 2, 3] rfl rfl (by decide) (by decide) rfl rfl (by decide) (fun H locs hP hD hS => ?_)
        refine lv_pop hx hb dX0_leastWorst_84 rfl ?_
        refine lv_iload_n hx hb dX0_leastWorst_85 rfl (lv_at hl 1 rfl) ?_
        exact hret x27 w30 86 _ _ _ dX0_leastWorst_86 hf hP hD hS
      clear hf
      have hl1 : ∀ (n : Nat) (u10 : Int32) (u11 : Int32) (u12 : Int32) (u13 : Nat → Int32), it (fX0_leastWorst_L1 t_pairs_width t_pairs_lines t_pairs_cells_n t_pairs_cells_a) n (u10, u11, u12, u13) = some (x27, x28) → ∀ (H : Heap) (locs : List Loc) (ls : Array Slot), va_P G vwCl [(t_h, .inr (0, [.ref t_pairs_h, .ref t_bents_h])), (t_pairs_h, .inr (7, [.int t_pairs_width, .int t_pairs_most, .ref t_pairs_cells_h, .int t_pairs_lines])), (t_bents_h, .inl (cI, 6, .inl u13)), (t_pairs_cells_h, .inl (cI, t_pairs_cells_n, .inl t_pairs_cells_a))] H → va_D A [(t_h, .inr (0, [.ref t_pairs_h, .ref t_bents_h])), (t_pairs_h, .inr (7, [.int t_pairs_width, .int t_pairs_most, .ref t_pairs_cells_h, .int t_pairs_lines])), (t_bents_h, .inl (cI, 6, .inl u13)), (t_pairs_cells_h, .inl (cI, t_pairs_cells_n, .inl t_pairs_cells_a))] → va_S A s.heap H locs → lv_has ls 5 [(0, .ref t_h), (1, .int u10), (2, .int u11), (3, .int u12)] → W p l e rmX0_leastWorst s m args below meth c H locs 0 0 Q (F0 m 35 ls []) := by
        intro n
        induction n with
        | zero => intro u10 u11 u12 u13 hz; exact (it_zero hz).elim
        | succ n ih =>
          intro u10 u11 u12 u13 hz H locs ls hP hD hS hl
          obtain ⟨x9, hf, hq⟩ := it_succ hz
          unfold fX0_leastWorst_L1 at hf
          dsimp only [un4] at hf
          refine lv_iload_n hx hb dX0_leastWorst_35 rfl (lv_at hl 3 rfl) ?_
          refine lv_bipush (v := 11) hx hb dX0_leastWorst_36 (by decide) ?_
          refine lv_icmp_ge (tgt := 79) hx hb dX0_leastWorst_38 (by decide) (fun c14 => ?_) (fun c14 => ?_)
          · have hf := ift hf c14
            cases hf
            exact hx1_0 _ _ hq _ _ _ hP hD hS (lv_sub hl [0, 2] rfl)
          · have hf := iff_ hf c14
            refine lv_iload_n hx hb dX0_leastWorst_41 rfl (lv_at hl 1 rfl) ?_
            refine lv_iload_n hx hb dX0_leastWorst_42 rfl (lv_at hl 2 rfl) ?_
            refine lv_icmp_ge (tgt := 79) hx hb dX0_leastWorst_43 (by decide) (fun c15 => ?_) (fun c15 => ?_)
            · have hf := ift hf c15
              cases hf
              exact hx1_0 _ _ hq _ _ _ hP hD hS (lv_sub hl [0, 2] rfl)
            · have hf := iff_ hf c15
              refine lv_iload_n hx hb dX0_leastWorst_46 rfl (lv_at hl 1 rfl) ?_
              refine lv_iload_n hx hb dX0_leastWorst_47 rfl (lv_at hl 2 rfl) ?_
              refine lv_iadd hx hb dX0_leastWorst_48 ?_
              refine lv_iconst (v := 2) hx hb dX0_leastWorst_49 (by decide) ?_
              refine lv_idiv hx hb dX0_leastWorst_50 (by decide) ?_
              refine lv_topi (fun v16 ev16 => ?_)
              have hf := bv_at ev16 hf
              refine lv_istore (lv' := [(4, .int v16), (0, .ref t_h), (1, .int u10), (2, .int u11), (3, .int u12)]) hx hb dX0_leastWorst_51 hl (by decide) rfl (fun ls hl => ?_)
              refine lv_aload_n hx hb dX0_leastWorst_53 rfl (lv_at hl 1 rfl) ?_
              refine lv_iload hx hb dX0_leastWorst_54 (lv_at hl 0 rfl) ?_
              obtain ⟨r17, w18, hc19, hf⟩ := ob2_some hf
              refine af_iW (wr := []) (ws2 := [(t_h, .inr (0, [.ref t_pairs_h, .ref t_bents_h])), (t_pairs_h, .inr (7, [.int t_pairs_width, .int t_pairs_most, .ref t_pairs_cells_h, .int t_pairs_lines])), (t_bents_h, .inl (cI, 6, .inl w18)), (t_pairs_cells_h, .inl (cI, t_pairs_cells_n, .inl t_pairs_cells_a))]) (va_runV (As := [.int v16]) (rest := []) ⟨hx, hb, hml, hown, hts⟩ (k_X0_settle l G cI cJ (t_h := t_h) (t_pairs_h := t_pairs_h) (t_bents_h := t_bents_h) (t_pairs_cells_h := t_pairs_cells_h) (t_pairs_width := t_pairs_width) (t_pairs_most := t_pairs_most) (t_pairs_lines := t_pairs_lines) (t_bents_a := u13) (t_pairs_cells_n := t_pairs_cells_n) (t_pairs_cells_a := t_pairs_cells_a) (x1 := v16) (sz := _) (hf := hc19)) (cwV 1 hts gX0_leastWorst_X0_settle rfl rfl rfl (by decide +kernel) ⟨Nat.le_of_ble_eq_true rfl, Nat.le_of_ble_eq_true rfl⟩) (preV0 (ci := 0) (q0 := 0) (C := RX0) (wc := [(t_h, .inr (0, [.ref t_pairs_h, .ref t_bents_h])), (t_pairs_h, .inr (7, [.int t_pairs_width, .int t_pairs_most, .ref t_pairs_cells_h, .int t_pairs_lines])), (t_bents_h, .inl (cI, 6, .inl u13)), (t_pairs_cells_h, .inl (cI, t_pairs_cells_n, .inl t_pairs_cells_a))]) hK hP hD hN [0, 1, 2, 3] rfl rfl (by decide) rfl rfl) rfl rfl hl.1 rfl (lv_room (Nat.le_of_ble_eq_true rfl)) dX0_leastWorst_56 ⟨Nat.zero_le _, Nat.zero_le _⟩) hP hD hS hA [0, 1, 2, 3] [] [0, 1, 2, 3] rfl rfl (by decide) (by decide) rfl rfl (by decide) (fun H locs hP hD hS => ?_)
              obtain ⟨m20, m21, hr22, hf⟩ := ob2_some hf
              have hj23 : ∀ (m209 : Int32) (m219 : Int32), some (m209, m219) = some (m20, m21) → ∀ (H : Heap) (locs : List Loc) (ls : Array Slot), va_P G vwCl [(t_h, .inr (0, [.ref t_pairs_h, .ref t_bents_h])), (t_pairs_h, .inr (7, [.int t_pairs_width, .int t_pairs_most, .ref t_pairs_cells_h, .int t_pairs_lines])), (t_bents_h, .inl (cI, 6, .inl w18)), (t_pairs_cells_h, .inl (cI, t_pairs_cells_n, .inl t_pairs_cells_a))] H → va_D A [(t_h, .inr (0, [.ref t_pairs_h, .ref t_bents_h])), (t_pairs_h, .inr (7, [.int t_pairs_width, .int t_pairs_most, .ref t_pairs_cells_h, .int t_pairs_lines])), (t_bents_h, .inl (cI, 6, .inl w18)), (t_pairs_cells_h, .inl (cI, t_pairs_cells_n, .inl t_pairs_cells_a))] → va_S A s.heap H locs → lv_has ls 5 [(0, .ref t_h), (1, .int m209), (2, .int m219), (3, .int u12)] → W p l e rmX0_leastWorst s m args below meth c H locs 0 0 Q (F0 m 73 ls []) := by
                intro m209 m219 he H locs ls hP hD hS hl
                cases he
                obtain ⟨v26, ev26⟩ : ∃ y : Int32, y = u12 + 1 := ⟨_, rfl⟩
                have hf := bv_at ev26 hf
                refine lv_iinc (v := v26) (lv' := [(3, .int v26), (0, .ref t_h), (1, .int m20), (2, .int m21)]) hx hb dX0_leastWorst_73 hl (k := 3) rfl (by rw [ev26]; rfl) (by decide) rfl (fun ls hl => ?_)
                refine lv_goto (tgt := 35) hx hb dX0_leastWorst_76 (by decide) ?_
                cases hf
                exact ih _ _ _ _ hq _ _ _ hP hD hS (lv_sub hl [1, 2, 3, 0] rfl)
              replace hf := hr22
              refine lv_if_eq (tgt := 68) hx hb dX0_leastWorst_59 (by decide) (fun c24 => ?_) (fun c24 => ?_)
              · have hf := ift hf c24
                refine lv_iload hx hb dX0_leastWorst_68 (lv_at hl 0 rfl) ?_
                refine lv_iconst (v := 1) hx hb dX0_leastWorst_70 (by decide) ?_
                refine lv_iadd hx hb dX0_leastWorst_71 ?_
                refine lv_topi (fun v25 ev25 => ?_)
                have hf := bv_at ev25 hf
                refine lv_istore_n (lv' := [(1, .int v25), (4, .int v16), (0, .ref t_h), (2, .int u11), (3, .int u12)]) hx hb dX0_leastWorst_72 rfl hl (by decide) rfl (fun ls hl => ?_)
                exact hj23 _ _ hf _ _ _ hP hD hS (lv_sub hl [2, 0, 3, 4] rfl)
              · have hf := iff_ hf c24
                refine lv_iload hx hb dX0_leastWorst_62 (lv_at hl 0 rfl) ?_
                refine lv_istore_n (lv' := [(2, .int v16), (4, .int v16), (0, .ref t_h), (1, .int u10), (3, .int u12)]) hx hb dX0_leastWorst_64 rfl hl (by decide) rfl (fun ls hl => ?_)
                refine lv_goto (tgt := 73) hx hb dX0_leastWorst_65 (by decide) ?_
                exact hj23 _ _ hf _ _ _ hP hD hS (lv_sub hl [2, 3, 0, 4] rfl)
      exact hl1 _ _ _ _ _ ht1 _ _ _ hP hD hS (lv_sub hl [3, 2, 1, 0] rfl)
    · have hf := ift hf c9
      refine lv_iconst (v := (-1)) hx hb dX0_leastWorst_25 (by decide) ?_
      exact hret (-1) w2 26 _ _ _ dX0_leastWorst_26 hf hP hD hS
set_option maxRecDepth 20000 in
theorem ggX0_bentOf_X9_isWithin : GoodIn wsX0_bentOf wsX9_isWithin := goodIn_r _ [4] (by decide +kernel) (by decide +kernel)
theorem dX0_bentOf_0 : decode cX0_bentOf 0 = .ok (.iload_n 1, 1) := by decide +kernel
theorem dX0_bentOf_1 : decode cX0_bentOf 1 = .ok (.iconst 0, 1) := by decide +kernel
theorem dX0_bentOf_2 : decode cX0_bentOf 2 = .ok (.iconst 5, 1) := by decide +kernel
theorem dX0_bentOf_3 : decode cX0_bentOf 3 = .ok (.invokestatic 40, 3) := by decide +kernel
theorem dX0_bentOf_6 : decode cX0_bentOf 6 = .ok (.ifCond .eq 12, 3) := by decide +kernel
theorem dX0_bentOf_9 : decode cX0_bentOf 9 = .ok (.aload_n 0, 1) := by decide +kernel
theorem dX0_bentOf_10 : decode cX0_bentOf 10 = .ok (.getfield 15, 3) := by decide +kernel
theorem dX0_bentOf_13 : decode cX0_bentOf 13 = .ok (.iload_n 1, 1) := by decide +kernel
theorem dX0_bentOf_14 : decode cX0_bentOf 14 = .ok (.iaload, 1) := by decide +kernel
theorem dX0_bentOf_15 : decode cX0_bentOf 15 = .ok (.goto 4, 3) := by decide +kernel
theorem dX0_bentOf_18 : decode cX0_bentOf 18 = .ok (.iconst 0, 1) := by decide +kernel
theorem dX0_bentOf_19 : decode cX0_bentOf 19 = .ok (.ireturn, 1) := by decide +kernel
set_option maxRecDepth 100000 in
def fX0_bentOf (x1 : Int32) (t_bents_a : Nat → Int32) : Option (Int32) :=
  ob (fX9_isWithin x1 0 5) fun r1 =>
  if (b2i r1) = 0 then
    some 0
  else
    gd (bnd x1 6) <|
    some (t_bents_a (Int32.toNatClampNeg x1))
abbrev rmX0_bentOf : Room := { frames := 1, cells := 0, slots := 0, locals := 22 }
theorem iwX0_bentOf_X0 : ∀ w ∈ u_ws RX0 TX0 2, w ∈ wsX0_bentOf := by decide +kernel
set_option maxHeartbeats 4000000 in
set_option maxRecDepth 100000 in
theorem k_X0_bentOf (l : Launch) (G : va_G) (cI cJ : ClassId) (t_h t_pairs_h t_bents_h : Nat) (sz : Nat) (t_bents_a : Nat → Int32) (x1 : Int32) {o_r : Int32} (hf : fX0_bentOf x1 t_bents_a = some o_r) : MetI l yX0_bentOf wsX0_bentOf rmX0_bentOf [.ref t_h, .int x1] G cI cJ [(t_h, .inr (0, [.ref t_pairs_h, .ref t_bents_h])), (t_bents_h, .inl (cI, 6, .inl t_bents_a))] [(t_h, .inr (0, [.ref t_pairs_h, .ref t_bents_h])), (t_bents_h, .inl (cI, 6, .inl t_bents_a))] sz o_r := by
  refine en_0 (l := l) (y := yX0_bentOf) (wsl := wsX0_bentOf) (rm := rmX0_bentOf) (av := [.ref t_h, .int x1]) (G := G) (cI := cI) (cJ := cJ) (w0 := [(t_h, .inr (0, [.ref t_pairs_h, .ref t_bents_h])), (t_bents_h, .inl (cI, 6, .inl t_bents_a))]) (sz := sz) (Qf := fun A => Qi0 G cI cJ [(t_h, .inr (0, [.ref t_pairs_h, .ref t_bents_h])), (t_bents_h, .inl (cI, 6, .inl t_bents_a))] o_r A) (cc := cX0_bentOf) (maxL := 2) (ret := (some .int)) RX0 (by decide +kernel) rfl rfl (Nat.le_of_ble_eq_true rfl) ?_
  intro p e s m args below meth c A ls Q hQ hx hb hr hts hown hlocks hml hN hK hP hD hS hA hl
  have hl : lv_has ls 2 [(0, .ref t_h), (1, .int x1)] := hl
  have iwX0 := iwX0_bentOf_X0
  have fl_15 := hts (.fieldLink RX0 15 "CloudOffice$Boards" "bents" "[I") (by decide +kernel)
  have hret : ∀ (o_r9 : Int32) (pc : Nat) (H : Heap) (locs : List Loc) (ls : Array Slot), decode cX0_bentOf pc = .ok (.ireturn, 1) → some o_r9 = some o_r → va_P G vwCl [(t_h, .inr (0, [.ref t_pairs_h, .ref t_bents_h])), (t_bents_h, .inl (cI, 6, .inl t_bents_a))] H → va_D A [(t_h, .inr (0, [.ref t_pairs_h, .ref t_bents_h])), (t_bents_h, .inl (cI, 6, .inl t_bents_a))] → va_S A s.heap H locs → W p l e rmX0_bentOf s m args below meth c H locs 0 0 Q (F0 m pc ls [.int o_r9]) := by
    intro o_r9 pc H locs ls hdg he hP hD hS
    cases he
    subst hQ
    exact rt_i hx hb hr hlocks hK hP hD hS rfl hdg
  clear hQ
  unfold fX0_bentOf at hf
  refine lv_iload_n hx hb dX0_bentOf_0 rfl (lv_at hl 1 rfl) ?_
  refine lv_iconst (v := 0) hx hb dX0_bentOf_1 (by decide) ?_
  refine lv_iconst (v := 5) hx hb dX0_bentOf_2 (by decide) ?_
  obtain ⟨r1, hc2, hf⟩ := ob_some hf
  refine af_iR (va_runSN (As := [.int x1, .int 0, .int 5]) (rest := []) ⟨hx, hb, hml, hown, hts⟩ (k_X9_isWithin l G cI cJ (x0 := x1) (x1 := 0) (x2 := 5) (sz := _) (hf := hc2)) ⟨va_cnB 3 hts ggX0_bentOf_X9_isWithin rfl rfl rfl (hN _ (List.mem_of_getElem? (i := 17) rfl)) (hts (.initialized RX9) (by decide +kernel)) (by decide +kernel) ⟨Nat.le_of_ble_eq_true rfl, Nat.le_of_ble_eq_true rfl⟩, hts (.static yX9_isWithin) (by decide +kernel), trivial⟩ (preS0 (wc := []) hK hP hD hN [] rfl rfl (by decide)) rfl rfl hl.1 rfl (lv_room (Nat.le_of_ble_eq_true rfl)) dX0_bentOf_3 ⟨Nat.zero_le _, Nat.zero_le _⟩) hP hD hS hA [] rfl (fun H locs hP hS => ?_)
  refine lv_if_eq (tgt := 18) hx hb dX0_bentOf_6 (by decide) (fun c3 => ?_) (fun c3 => ?_)
  · have hf := ift hf c3
    refine lv_iconst (v := 0) hx hb dX0_bentOf_18 (by decide) ?_
    exact hret 0 19 _ _ _ dX0_bentOf_19 hf hP hD hS
  · have hf := iff_ hf c3
    refine lv_aload_n hx hb dX0_bentOf_9 rfl (lv_at hl 0 rfl) ?_
    refine va_get (D := G) (ci := 0) (v := .ref t_bents_h) (C := RX0) (T := TX0) (N := 2) hx hb hts iwX0 hown hK hP 0 rfl rfl 1 (by decide) fl_15 (fun _ h9 => h9) rfl dX0_bentOf_10 ?_
    refine lv_iload_n hx hb dX0_bentOf_13 rfl (lv_at hl 1 rfl) ?_
    obtain ⟨h4, hf⟩ := gd_some hf
    refine va_iald hx hb hK hP 1 0 rfl rfl (bnd_in h4) dX0_bentOf_14 ?_
    refine lv_goto (tgt := 19) hx hb dX0_bentOf_15 (by decide) ?_
    exact hret (t_bents_a (Int32.toNatClampNeg x1)) 19 _ _ _ dX0_bentOf_19 hf hP hD hS
