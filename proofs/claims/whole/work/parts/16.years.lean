theorem dX8_apart_0 : decode cX8_apart 0 = .ok (.iload_n 0, 1) := by decide +kernel
theorem dX8_apart_1 : decode cX8_apart 1 = .ok (.iload_n 1, 1) := by decide +kernel
theorem dX8_apart_2 : decode cX8_apart 2 = .ok (.isub, 1) := by decide +kernel
theorem dX8_apart_3 : decode cX8_apart 3 = .ok (.invokestatic 43, 3) := by decide +kernel
theorem dX8_apart_6 : decode cX8_apart 6 = .ok (.istore_n 3, 1) := by decide +kernel
theorem dX8_apart_7 : decode cX8_apart 7 = .ok (.iload_n 3, 1) := by decide +kernel
theorem dX8_apart_8 : decode cX8_apart 8 = .ok (.iload_n 2, 1) := by decide +kernel
theorem dX8_apart_9 : decode cX8_apart 9 = .ok (.iload_n 3, 1) := by decide +kernel
theorem dX8_apart_10 : decode cX8_apart 10 = .ok (.isub, 1) := by decide +kernel
theorem dX8_apart_11 : decode cX8_apart 11 = .ok (.invokestatic 49, 3) := by decide +kernel
theorem dX8_apart_14 : decode cX8_apart 14 = .ok (.ireturn, 1) := by decide +kernel
set_option maxRecDepth 100000 in
def fX8_apart (x0 : Int32) (x1 : Int32) (x2 : Int32) : Option (Int32) :=
  bv (if 0 ≤ (x0 - x1) then (x0 - x1) else 0 - (x0 - x1)) fun v1 =>
  bv (if (x2 - v1) < v1 then (x2 - v1) else v1) fun v2 =>
  some v2
abbrev rmX8_apart : Room := { frames := 1, cells := 0, slots := 0, locals := 23 }
set_option maxHeartbeats 4000000 in
set_option maxRecDepth 100000 in
theorem k_X8_apart (l : Launch) (G : va_G) (cI cJ : ClassId) (sz : Nat) (x0 : Int32) (x1 : Int32) (x2 : Int32) {o_r : Int32} (hf : fX8_apart x0 x1 x2 = some o_r) : MetI l yX8_apart wsX8_apart rmX8_apart [.int x0, .int x1, .int x2] G cI cJ [] [] sz o_r := by
  refine en_0 (l := l) (y := yX8_apart) (wsl := wsX8_apart) (rm := rmX8_apart) (av := [.int x0, .int x1, .int x2]) (G := G) (cI := cI) (cJ := cJ) (w0 := []) (sz := sz) (Qf := fun A => Qi0 G cI cJ [] o_r A) (cc := cX8_apart) (maxL := 4) (ret := (some .int)) RX8 (by decide +kernel) rfl rfl (Nat.le_of_ble_eq_true rfl) ?_
  intro p e s m args below meth c A ls Q hQ hx hb hr hts hown hlocks hml hN hK hP hD hS hA hl
  have hl : lv_has ls 4 [(0, .int x0), (1, .int x1), (2, .int x2)] := hl
  have lb_43 := hts (.methodLink RX8 43 Lib.Math.abs.name) (by decide +kernel)
  have lbs_43 := hts (.static Lib.Math.abs.name) (by decide +kernel)
  have lbi_43 := hts (.initialized "java/lang/Math") (by decide +kernel)
  have lbc_43 := hts (.code Lib.Math.abs.name Lib.Math.abs.code 1 (some .int)) (by decide +kernel)
  have lb_49 := hts (.methodLink RX8 49 Lib.Math.min.name) (by decide +kernel)
  have lbs_49 := hts (.static Lib.Math.min.name) (by decide +kernel)
  have lbi_49 := hts (.initialized "java/lang/Math") (by decide +kernel)
  have lbc_49 := hts (.code Lib.Math.min.name Lib.Math.min.code 2 (some .int)) (by decide +kernel)
  have hret : ∀ (o_r9 : Int32) (pc : Nat) (H : Heap) (locs : List Loc) (ls : Array Slot), decode cX8_apart pc = .ok (.ireturn, 1) → some o_r9 = some o_r → va_P G vwCl [] H → va_D A [] → va_S A s.heap H locs → W p l e rmX8_apart s m args below meth c H locs 0 0 Q (F0 m pc ls [.int o_r9]) := by
    intro o_r9 pc H locs ls hdg he hP hD hS
    cases he
    subst hQ
    exact rt_i hx hb hr hlocks hK hP hD hS rfl hdg
  clear hQ
  unfold fX8_apart at hf
  refine lv_iload_n hx hb dX8_apart_0 rfl (lv_at hl 0 rfl) ?_
  refine lv_iload_n hx hb dX8_apart_1 rfl (lv_at hl 1 rfl) ?_
  refine lv_isub hx hb dX8_apart_2 ?_
  refine va_mabs hx hb (hml.trans hl.1.symm) hown lb_43 lbs_43 lbi_43 lbc_43 (Nat.le_of_ble_eq_true rfl) (Nat.le_of_ble_eq_true rfl) (Nat.zero_le _) (Nat.zero_le _) dX8_apart_3 ?_
  refine lv_topi (fun v1 ev1 => ?_)
  have hf := bv_at ev1 hf
  refine lv_istore_n (lv' := [(3, .int v1), (0, .int x0), (1, .int x1), (2, .int x2)]) hx hb dX8_apart_6 rfl hl (by decide) rfl (fun ls hl => ?_)
  refine lv_iload_n hx hb dX8_apart_7 rfl (lv_at hl 0 rfl) ?_
  refine lv_iload_n hx hb dX8_apart_8 rfl (lv_at hl 3 rfl) ?_
  refine lv_iload_n hx hb dX8_apart_9 rfl (lv_at hl 0 rfl) ?_
  refine lv_isub hx hb dX8_apart_10 ?_
  refine va_mmin hx hb (hml.trans hl.1.symm) hown lb_49 lbs_49 lbi_49 lbc_49 (Nat.le_of_ble_eq_true rfl) (Nat.le_of_ble_eq_true rfl) (Nat.zero_le _) (Nat.zero_le _) dX8_apart_11 ?_
  refine lv_topi (fun v2 ev2 => ?_)
  have hf := bv_at ev2 hf
  exact hret v2 14 _ _ _ dX8_apart_14 hf hP hD hS
theorem dX8_take_0 : decode cX8_take 0 = .ok (.aload_n 0, 1) := by decide +kernel
theorem dX8_take_1 : decode cX8_take 1 = .ok (.getfield 19, 3) := by decide +kernel
theorem dX8_take_4 : decode cX8_take 4 = .ok (.ifCond .le 12, 3) := by decide +kernel
theorem dX8_take_7 : decode cX8_take 7 = .ok (.iload_n 1, 1) := by decide +kernel
theorem dX8_take_8 : decode cX8_take 8 = .ok (.aload_n 0, 1) := by decide +kernel
theorem dX8_take_9 : decode cX8_take 9 = .ok (.getfield 22, 3) := by decide +kernel
theorem dX8_take_12 : decode cX8_take 12 = .ok (.if_icmp .le 4, 3) := by decide +kernel
theorem dX8_take_15 : decode cX8_take 15 = .ok (.return_, 1) := by decide +kernel
theorem dX8_take_16 : decode cX8_take 16 = .ok (.aload_n 0, 1) := by decide +kernel
theorem dX8_take_17 : decode cX8_take 17 = .ok (.getfield 19, 3) := by decide +kernel
theorem dX8_take_20 : decode cX8_take 20 = .ok (.ifCond .eq 11, 3) := by decide +kernel
theorem dX8_take_23 : decode cX8_take 23 = .ok (.iload_n 1, 1) := by decide +kernel
theorem dX8_take_24 : decode cX8_take 24 = .ok (.aload_n 0, 1) := by decide +kernel
theorem dX8_take_25 : decode cX8_take 25 = .ok (.getfield 22, 3) := by decide +kernel
theorem dX8_take_28 : decode cX8_take 28 = .ok (.if_icmp .ge 18, 3) := by decide +kernel
theorem dX8_take_31 : decode cX8_take 31 = .ok (.aload_n 0, 1) := by decide +kernel
theorem dX8_take_32 : decode cX8_take 32 = .ok (.iconst 0, 1) := by decide +kernel
theorem dX8_take_33 : decode cX8_take 33 = .ok (.putfield 15, 3) := by decide +kernel
theorem dX8_take_36 : decode cX8_take 36 = .ok (.aload_n 0, 1) := by decide +kernel
theorem dX8_take_37 : decode cX8_take 37 = .ok (.iconst 0, 1) := by decide +kernel
theorem dX8_take_38 : decode cX8_take 38 = .ok (.putfield 19, 3) := by decide +kernel
theorem dX8_take_41 : decode cX8_take 41 = .ok (.aload_n 0, 1) := by decide +kernel
theorem dX8_take_42 : decode cX8_take 42 = .ok (.iload_n 1, 1) := by decide +kernel
theorem dX8_take_43 : decode cX8_take 43 = .ok (.putfield 22, 3) := by decide +kernel
theorem dX8_take_46 : decode cX8_take 46 = .ok (.aload_n 0, 1) := by decide +kernel
theorem dX8_take_47 : decode cX8_take 47 = .ok (.dup, 1) := by decide +kernel
theorem dX8_take_48 : decode cX8_take 48 = .ok (.getfield 15, 3) := by decide +kernel
theorem dX8_take_51 : decode cX8_take 51 = .ok (.iload_n 2, 1) := by decide +kernel
theorem dX8_take_52 : decode cX8_take 52 = .ok (.iadd, 1) := by decide +kernel
theorem dX8_take_53 : decode cX8_take 53 = .ok (.putfield 15, 3) := by decide +kernel
theorem dX8_take_56 : decode cX8_take 56 = .ok (.aload_n 0, 1) := by decide +kernel
theorem dX8_take_57 : decode cX8_take 57 = .ok (.dup, 1) := by decide +kernel
theorem dX8_take_58 : decode cX8_take 58 = .ok (.getfield 19, 3) := by decide +kernel
theorem dX8_take_61 : decode cX8_take 61 = .ok (.iconst 1, 1) := by decide +kernel
theorem dX8_take_62 : decode cX8_take 62 = .ok (.iadd, 1) := by decide +kernel
theorem dX8_take_63 : decode cX8_take 63 = .ok (.putfield 19, 3) := by decide +kernel
theorem dX8_take_66 : decode cX8_take 66 = .ok (.return_, 1) := by decide +kernel
set_option maxRecDepth 100000 in
def fX8_take (x1 : Int32) (x2 : Int32) (t_sum : Int32) (t_many : Int32) (t_distance : Int32) : Option (Int32 × Int32 × Int32) :=
  if t_many ≤ 0 then
    ob3 (α0 := Int32) (α1 := Int32) (α2 := Int32) (
        if t_many = 0 then
          some (0, 0, x1)
        else
          if t_distance ≤ x1 then
            some (t_sum, t_many, t_distance)
          else
            some (0, 0, x1)
      ) fun m2 m3 m4 =>
    bv (m2 + x2) fun v9 =>
    bv (m3 + 1) fun v10 =>
    some (v9, v10, m4)
  else
    if x1 ≤ t_distance then
      ob3 (α0 := Int32) (α1 := Int32) (α2 := Int32) (
          if t_many = 0 then
            some (0, 0, x1)
          else
            if t_distance ≤ x1 then
              some (t_sum, t_many, t_distance)
            else
              some (0, 0, x1)
        ) fun m12 m13 m14 =>
      bv (m12 + x2) fun v19 =>
      bv (m13 + 1) fun v20 =>
      some (v19, v20, m14)
    else
      some (t_sum, t_many, t_distance)
abbrev rmX8_take : Room := { frames := 0, cells := 0, slots := 0, locals := 0 }
theorem iwX8_take_X8 : ∀ w ∈ u_ws RX8 TX8 4, w ∈ wsX8_take := by decide +kernel
set_option maxHeartbeats 4000000 in
set_option maxRecDepth 100000 in
theorem k_X8_take (l : Launch) (G : va_G) (cI cJ : ClassId) (t_h t_rows_h : Nat) (sz : Nat) (t_sum : Int32) (t_many : Int32) (t_distance : Int32) (x1 : Int32) (x2 : Int32) {o_t_sum : Int32} {o_t_many : Int32} {o_t_distance : Int32} (hf : fX8_take x1 x2 t_sum t_many t_distance = some (o_t_sum, o_t_many, o_t_distance)) : MetU l yX8_take wsX8_take rmX8_take [.ref t_h, .int x1, .int x2] G cI cJ [(t_h, .inr (8, [.ref t_rows_h, .int t_sum, .int t_many, .int t_distance]))] [(t_h, .inr (8, [.ref t_rows_h, .int o_t_sum, .int o_t_many, .int o_t_distance]))] sz := by
  refine en_0 (l := l) (y := yX8_take) (wsl := wsX8_take) (rm := rmX8_take) (av := [.ref t_h, .int x1, .int x2]) (G := G) (cI := cI) (cJ := cJ) (w0 := [(t_h, .inr (8, [.ref t_rows_h, .int t_sum, .int t_many, .int t_distance]))]) (sz := sz) (Qf := fun A => Qv0 G cI cJ [(t_h, .inr (8, [.ref t_rows_h, .int o_t_sum, .int o_t_many, .int o_t_distance]))] A) (cc := cX8_take) (maxL := 3) (ret := none) RX8 (by decide +kernel) rfl rfl (Nat.le_of_ble_eq_true rfl) ?_
  intro p e s m args below meth c A ls Q hQ hx hb hr hts hown hlocks hml hN hK hP hD hS hA hl
  have hl : lv_has ls 3 [(0, .ref t_h), (1, .int x1), (2, .int x2)] := hl
  have iwX8 := iwX8_take_X8
  have fl_15 := hts (.fieldLink RX8 15 "CloudOffice$Years" "sum" "I") (by decide +kernel)
  have fl_19 := hts (.fieldLink RX8 19 "CloudOffice$Years" "many" "I") (by decide +kernel)
  have fl_22 := hts (.fieldLink RX8 22 "CloudOffice$Years" "distance" "I") (by decide +kernel)
  have hret : ∀ (o_t_sum9 : Int32) (o_t_many9 : Int32) (o_t_distance9 : Int32) (pc : Nat) (H : Heap) (locs : List Loc) (ls : Array Slot), decode cX8_take pc = .ok (.return_, 1) → some (o_t_sum9, o_t_many9, o_t_distance9) = some (o_t_sum, o_t_many, o_t_distance) → va_P G vwCl [(t_h, .inr (8, [.ref t_rows_h, .int o_t_sum9, .int o_t_many9, .int o_t_distance9]))] H → va_D A [(t_h, .inr (8, [.ref t_rows_h, .int o_t_sum9, .int o_t_many9, .int o_t_distance9]))] → va_S A s.heap H locs → W p l e rmX8_take s m args below meth c H locs 0 0 Q (F0 m pc ls []) := by
    intro o_t_sum9 o_t_many9 o_t_distance9 pc H locs ls hdg he hP hD hS
    cases he
    subst hQ
    exact rt_v hx hb hr hlocks hK hP hD hS hdg
  clear hQ
  unfold fX8_take at hf
  refine lv_aload_n hx hb dX8_take_0 rfl (lv_at hl 0 rfl) ?_
  refine va_get (D := G) (ci := 8) (v := .int t_many) (C := RX8) (T := TX8) (N := 4) hx hb hts iwX8 hown hK hP 0 rfl rfl 2 (by decide) fl_19 (fun _ h9 => h9) rfl dX8_take_1 ?_
  refine lv_if_le (tgt := 16) hx hb dX8_take_4 (by decide) (fun c1 => ?_) (fun c1 => ?_)
  · have hf := ift hf c1
    refine lv_aload_n hx hb dX8_take_16 rfl (lv_at hl 0 rfl) ?_
    refine va_get (D := G) (ci := 8) (v := .int t_many) (C := RX8) (T := TX8) (N := 4) hx hb hts iwX8 hown hK hP 0 rfl rfl 2 (by decide) fl_19 (fun _ h9 => h9) rfl dX8_take_17 ?_
    obtain ⟨m2, m3, m4, hr5, hf⟩ := ob3_some hf
    have hj6 : ∀ (m29 : Int32) (m39 : Int32) (m49 : Int32), some (m29, m39, m49) = some (m2, m3, m4) → ∀ (H : Heap) (locs : List Loc) (ls : Array Slot), va_P G vwCl [(t_h, .inr (8, [.ref t_rows_h, .int m29, .int m39, .int m49]))] H → va_D A [(t_h, .inr (8, [.ref t_rows_h, .int m29, .int m39, .int m49]))] → va_S A s.heap H locs → lv_has ls 3 [(0, .ref t_h), (2, .int x2)] → W p l e rmX8_take s m args below meth c H locs 0 0 Q (F0 m 46 ls []) := by
      intro m29 m39 m49 he H locs ls hP hD hS hl
      cases he
      refine lv_aload_n hx hb dX8_take_46 rfl (lv_at hl 0 rfl) ?_
      refine lv_dup hx hb dX8_take_47 rfl ?_
      refine va_get (D := G) (ci := 8) (v := .int m2) (C := RX8) (T := TX8) (N := 4) hx hb hts iwX8 hown hK hP 0 rfl rfl 1 (by decide) fl_15 (fun _ h9 => h9) rfl dX8_take_48 ?_
      refine lv_iload_n hx hb dX8_take_51 rfl (lv_at hl 1 rfl) ?_
      refine lv_iadd hx hb dX8_take_52 ?_
      refine lv_topi (fun v9 ev9 => ?_)
      have hf := bv_at ev9 hf
      refine va_put (D := G) (ci := 8) (v := .int v9) (ty := .int) (C := RX8) (T := TX8) (N := 4) hx hb hts iwX8 tyX8 tyX8_ok nmX8 hown hK hP hD hS 0 rfl rfl 1 (by decide) fl_15 (fun _ h9 => h9) rfl (by decide +kernel) rfl rfl (Nat.le_of_ble_eq_true rfl) dX8_take_53 (fun H locs hP hD hS => ?_)
      have hP : va_P G vwCl [(t_h, .inr (8, [.ref t_rows_h, .int v9, .int m3, .int m4]))] H := hP
      have hD : va_D A [(t_h, .inr (8, [.ref t_rows_h, .int v9, .int m3, .int m4]))] := hD
      refine lv_aload_n hx hb dX8_take_56 rfl (lv_at hl 0 rfl) ?_
      refine lv_dup hx hb dX8_take_57 rfl ?_
      refine va_get (D := G) (ci := 8) (v := .int m3) (C := RX8) (T := TX8) (N := 4) hx hb hts iwX8 hown hK hP 0 rfl rfl 2 (by decide) fl_19 (fun _ h9 => h9) rfl dX8_take_58 ?_
      refine lv_iconst (v := 1) hx hb dX8_take_61 (by decide) ?_
      refine lv_iadd hx hb dX8_take_62 ?_
      refine lv_topi (fun v10 ev10 => ?_)
      have hf := bv_at ev10 hf
      refine va_put (D := G) (ci := 8) (v := .int v10) (ty := .int) (C := RX8) (T := TX8) (N := 4) hx hb hts iwX8 tyX8 tyX8_ok nmX8 hown hK hP hD hS 0 rfl rfl 2 (by decide) fl_19 (fun _ h9 => h9) rfl (by decide +kernel) rfl rfl (Nat.le_of_ble_eq_true rfl) dX8_take_63 (fun H locs hP hD hS => ?_)
      have hP : va_P G vwCl [(t_h, .inr (8, [.ref t_rows_h, .int v9, .int v10, .int m4]))] H := hP
      have hD : va_D A [(t_h, .inr (8, [.ref t_rows_h, .int v9, .int v10, .int m4]))] := hD
      exact hret v9 v10 m4 66 _ _ _ dX8_take_66 hf hP hD hS
    replace hf := hr5
    refine lv_if_eq (tgt := 31) hx hb dX8_take_20 (by decide) (fun c7 => ?_) (fun c7 => ?_)
    · have hf := ift hf c7
      refine lv_aload_n hx hb dX8_take_31 rfl (lv_at hl 0 rfl) ?_
      refine lv_iconst (v := 0) hx hb dX8_take_32 (by decide) ?_
      refine va_put (D := G) (ci := 8) (v := .int 0) (ty := .int) (C := RX8) (T := TX8) (N := 4) hx hb hts iwX8 tyX8 tyX8_ok nmX8 hown hK hP hD hS 0 rfl rfl 1 (by decide) fl_15 (fun _ h9 => h9) rfl (by decide +kernel) rfl rfl (Nat.le_of_ble_eq_true rfl) dX8_take_33 (fun H locs hP hD hS => ?_)
      have hP : va_P G vwCl [(t_h, .inr (8, [.ref t_rows_h, .int 0, .int t_many, .int t_distance]))] H := hP
      have hD : va_D A [(t_h, .inr (8, [.ref t_rows_h, .int 0, .int t_many, .int t_distance]))] := hD
      refine lv_aload_n hx hb dX8_take_36 rfl (lv_at hl 0 rfl) ?_
      refine lv_iconst (v := 0) hx hb dX8_take_37 (by decide) ?_
      refine va_put (D := G) (ci := 8) (v := .int 0) (ty := .int) (C := RX8) (T := TX8) (N := 4) hx hb hts iwX8 tyX8 tyX8_ok nmX8 hown hK hP hD hS 0 rfl rfl 2 (by decide) fl_19 (fun _ h9 => h9) rfl (by decide +kernel) rfl rfl (Nat.le_of_ble_eq_true rfl) dX8_take_38 (fun H locs hP hD hS => ?_)
      have hP : va_P G vwCl [(t_h, .inr (8, [.ref t_rows_h, .int 0, .int 0, .int t_distance]))] H := hP
      have hD : va_D A [(t_h, .inr (8, [.ref t_rows_h, .int 0, .int 0, .int t_distance]))] := hD
      refine lv_aload_n hx hb dX8_take_41 rfl (lv_at hl 0 rfl) ?_
      refine lv_iload_n hx hb dX8_take_42 rfl (lv_at hl 1 rfl) ?_
      refine va_put (D := G) (ci := 8) (v := .int x1) (ty := .int) (C := RX8) (T := TX8) (N := 4) hx hb hts iwX8 tyX8 tyX8_ok nmX8 hown hK hP hD hS 0 rfl rfl 3 (by decide) fl_22 (fun _ h9 => h9) rfl (by decide +kernel) rfl rfl (Nat.le_of_ble_eq_true rfl) dX8_take_43 (fun H locs hP hD hS => ?_)
      have hP : va_P G vwCl [(t_h, .inr (8, [.ref t_rows_h, .int 0, .int 0, .int x1]))] H := hP
      have hD : va_D A [(t_h, .inr (8, [.ref t_rows_h, .int 0, .int 0, .int x1]))] := hD
      exact hj6 _ _ _ hf _ _ _ hP hD hS (lv_sub hl [0, 2] rfl)
    · have hf := iff_ hf c7
      refine lv_iload_n hx hb dX8_take_23 rfl (lv_at hl 1 rfl) ?_
      refine lv_aload_n hx hb dX8_take_24 rfl (lv_at hl 0 rfl) ?_
      refine va_get (D := G) (ci := 8) (v := .int t_distance) (C := RX8) (T := TX8) (N := 4) hx hb hts iwX8 hown hK hP 0 rfl rfl 3 (by decide) fl_22 (fun _ h9 => h9) rfl dX8_take_25 ?_
      refine lv_icmp_ge (tgt := 46) hx hb dX8_take_28 (by decide) (fun c8 => ?_) (fun c8 => ?_)
      · have hf := ift hf c8
        exact hj6 _ _ _ hf _ _ _ hP hD hS (lv_sub hl [0, 2] rfl)
      · have hf := iff_ hf c8
        refine lv_aload_n hx hb dX8_take_31 rfl (lv_at hl 0 rfl) ?_
        refine lv_iconst (v := 0) hx hb dX8_take_32 (by decide) ?_
        refine va_put (D := G) (ci := 8) (v := .int 0) (ty := .int) (C := RX8) (T := TX8) (N := 4) hx hb hts iwX8 tyX8 tyX8_ok nmX8 hown hK hP hD hS 0 rfl rfl 1 (by decide) fl_15 (fun _ h9 => h9) rfl (by decide +kernel) rfl rfl (Nat.le_of_ble_eq_true rfl) dX8_take_33 (fun H locs hP hD hS => ?_)
        have hP : va_P G vwCl [(t_h, .inr (8, [.ref t_rows_h, .int 0, .int t_many, .int t_distance]))] H := hP
        have hD : va_D A [(t_h, .inr (8, [.ref t_rows_h, .int 0, .int t_many, .int t_distance]))] := hD
        refine lv_aload_n hx hb dX8_take_36 rfl (lv_at hl 0 rfl) ?_
        refine lv_iconst (v := 0) hx hb dX8_take_37 (by decide) ?_
        refine va_put (D := G) (ci := 8) (v := .int 0) (ty := .int) (C := RX8) (T := TX8) (N := 4) hx hb hts iwX8 tyX8 tyX8_ok nmX8 hown hK hP hD hS 0 rfl rfl 2 (by decide) fl_19 (fun _ h9 => h9) rfl (by decide +kernel) rfl rfl (Nat.le_of_ble_eq_true rfl) dX8_take_38 (fun H locs hP hD hS => ?_)
        have hP : va_P G vwCl [(t_h, .inr (8, [.ref t_rows_h, .int 0, .int 0, .int t_distance]))] H := hP
        have hD : va_D A [(t_h, .inr (8, [.ref t_rows_h, .int 0, .int 0, .int t_distance]))] := hD
        refine lv_aload_n hx hb dX8_take_41 rfl (lv_at hl 0 rfl) ?_
        refine lv_iload_n hx hb dX8_take_42 rfl (lv_at hl 1 rfl) ?_
        refine va_put (D := G) (ci := 8) (v := .int x1) (ty := .int) (C := RX8) (T := TX8) (N := 4) hx hb hts iwX8 tyX8 tyX8_ok nmX8 hown hK hP hD hS 0 rfl rfl 3 (by decide) fl_22 (fun _ h9 => h9) rfl (by decide +kernel) rfl rfl (Nat.le_of_ble_eq_true rfl) dX8_take_43 (fun H locs hP hD hS => ?_)
        have hP : va_P G vwCl [(t_h, .inr (8, [.ref t_rows_h, .int 0, .int 0, .int x1]))] H := hP
        have hD : va_D A [(t_h, .inr (8, [.ref t_rows_h, .int 0, .int 0, .int x1]))] := hD
        exact hj6 _ _ _ hf _ _ _ hP hD hS (lv_sub hl [0, 2] rfl)
  · have hf := iff_ hf c1
    refine lv_iload_n hx hb dX8_take_7 rfl (lv_at hl 1 rfl) ?_
    refine lv_aload_n hx hb dX8_take_8 rfl (lv_at hl 0 rfl) ?_
    refine va_get (D := G) (ci := 8) (v := .int t_distance) (C := RX8) (T := TX8) (N := 4) hx hb hts iwX8 hown hK hP 0 rfl rfl 3 (by decide) fl_22 (fun _ h9 => h9) rfl dX8_take_9 ?_
    refine lv_icmp_le (tgt := 16) hx hb dX8_take_12 (by decide) (fun c11 => ?_) (fun c11 => ?_)
    · have hf := ift hf c11
      refine lv_aload_n hx hb dX8_take_16 rfl (lv_at hl 0 rfl) ?_
      refine va_get (D := G) (ci := 8) (v := .int t_many) (C := RX8) (T := TX8) (N := 4) hx hb hts iwX8 hown hK hP 0 rfl rfl 2 (by decide) fl_19 (fun _ h9 => h9) rfl dX8_take_17 ?_
      obtain ⟨m12, m13, m14, hr15, hf⟩ := ob3_some hf
      have hj16 : ∀ (m129 : Int32) (m139 : Int32) (m149 : Int32), some (m129, m139, m149) = some (m12, m13, m14) → ∀ (H : Heap) (locs : List Loc) (ls : Array Slot), va_P G vwCl [(t_h, .inr (8, [.ref t_rows_h, .int m129, .int m139, .int m149]))] H → va_D A [(t_h, .inr (8, [.ref t_rows_h, .int m129, .int m139, .int m149]))] → va_S A s.heap H locs → lv_has ls 3 [(0, .ref t_h), (2, .int x2)] → W p l e rmX8_take s m args below meth c H locs 0 0 Q (F0 m 46 ls []) := by
        intro m129 m139 m149 he H locs ls hP hD hS hl
        cases he
        refine lv_aload_n hx hb dX8_take_46 rfl (lv_at hl 0 rfl) ?_
        refine lv_dup hx hb dX8_take_47 rfl ?_
        refine va_get (D := G) (ci := 8) (v := .int m12) (C := RX8) (T := TX8) (N := 4) hx hb hts iwX8 hown hK hP 0 rfl rfl 1 (by decide) fl_15 (fun _ h9 => h9) rfl dX8_take_48 ?_
        refine lv_iload_n hx hb dX8_take_51 rfl (lv_at hl 1 rfl) ?_
        refine lv_iadd hx hb dX8_take_52 ?_
        refine lv_topi (fun v19 ev19 => ?_)
        have hf := bv_at ev19 hf
        refine va_put (D := G) (ci := 8) (v := .int v19) (ty := .int) (C := RX8) (T := TX8) (N := 4) hx hb hts iwX8 tyX8 tyX8_ok nmX8 hown hK hP hD hS 0 rfl rfl 1 (by decide) fl_15 (fun _ h9 => h9) rfl (by decide +kernel) rfl rfl (Nat.le_of_ble_eq_true rfl) dX8_take_53 (fun H locs hP hD hS => ?_)
        have hP : va_P G vwCl [(t_h, .inr (8, [.ref t_rows_h, .int v19, .int m13, .int m14]))] H := hP
        have hD : va_D A [(t_h, .inr (8, [.ref t_rows_h, .int v19, .int m13, .int m14]))] := hD
        refine lv_aload_n hx hb dX8_take_56 rfl (lv_at hl 0 rfl) ?_
        refine lv_dup hx hb dX8_take_57 rfl ?_
        refine va_get (D := G) (ci := 8) (v := .int m13) (C := RX8) (T := TX8) (N := 4) hx hb hts iwX8 hown hK hP 0 rfl rfl 2 (by decide) fl_19 (fun _ h9 => h9) rfl dX8_take_58 ?_
        refine lv_iconst (v := 1) hx hb dX8_take_61 (by decide) ?_
        refine lv_iadd hx hb dX8_take_62 ?_
        refine lv_topi (fun v20 ev20 => ?_)
        have hf := bv_at ev20 hf
        refine va_put (D := G) (ci := 8) (v := .int v20) (ty := .int) (C := RX8) (T := TX8) (N := 4) hx hb hts iwX8 tyX8 tyX8_ok nmX8 hown hK hP hD hS 0 rfl rfl 2 (by decide) fl_19 (fun _ h9 => h9) rfl (by decide +kernel) rfl rfl (Nat.le_of_ble_eq_true rfl) dX8_take_63 (fun H locs hP hD hS => ?_)
        have hP : va_P G vwCl [(t_h, .inr (8, [.ref t_rows_h, .int v19, .int v20, .int m14]))] H := hP
        have hD : va_D A [(t_h, .inr (8, [.ref t_rows_h, .int v19, .int v20, .int m14]))] := hD
        exact hret v19 v20 m14 66 _ _ _ dX8_take_66 hf hP hD hS
      replace hf := hr15
      refine lv_if_eq (tgt := 31) hx hb dX8_take_20 (by decide) (fun c17 => ?_) (fun c17 => ?_)
      · have hf := ift hf c17
        refine lv_aload_n hx hb dX8_take_31 rfl (lv_at hl 0 rfl) ?_
        refine lv_iconst (v := 0) hx hb dX8_take_32 (by decide) ?_
        refine va_put (D := G) (ci := 8) (v := .int 0) (ty := .int) (C := RX8) (T := TX8) (N := 4) hx hb hts iwX8 tyX8 tyX8_ok nmX8 hown hK hP hD hS 0 rfl rfl 1 (by decide) fl_15 (fun _ h9 => h9) rfl (by decide +kernel) rfl rfl (Nat.le_of_ble_eq_true rfl) dX8_take_33 (fun H locs hP hD hS => ?_)
        have hP : va_P G vwCl [(t_h, .inr (8, [.ref t_rows_h, .int 0, .int t_many, .int t_distance]))] H := hP
        have hD : va_D A [(t_h, .inr (8, [.ref t_rows_h, .int 0, .int t_many, .int t_distance]))] := hD
        refine lv_aload_n hx hb dX8_take_36 rfl (lv_at hl 0 rfl) ?_
        refine lv_iconst (v := 0) hx hb dX8_take_37 (by decide) ?_
        refine va_put (D := G) (ci := 8) (v := .int 0) (ty := .int) (C := RX8) (T := TX8) (N := 4) hx hb hts iwX8 tyX8 tyX8_ok nmX8 hown hK hP hD hS 0 rfl rfl 2 (by decide) fl_19 (fun _ h9 => h9) rfl (by decide +kernel) rfl rfl (Nat.le_of_ble_eq_true rfl) dX8_take_38 (fun H locs hP hD hS => ?_)
        have hP : va_P G vwCl [(t_h, .inr (8, [.ref t_rows_h, .int 0, .int 0, .int t_distance]))] H := hP
        have hD : va_D A [(t_h, .inr (8, [.ref t_rows_h, .int 0, .int 0, .int t_distance]))] := hD
        refine lv_aload_n hx hb dX8_take_41 rfl (lv_at hl 0 rfl) ?_
        refine lv_iload_n hx hb dX8_take_42 rfl (lv_at hl 1 rfl) ?_
        refine va_put (D := G) (ci := 8) (v := .int x1) (ty := .int) (C := RX8) (T := TX8) (N := 4) hx hb hts iwX8 tyX8 tyX8_ok nmX8 hown hK hP hD hS 0 rfl rfl 3 (by decide) fl_22 (fun _ h9 => h9) rfl (by decide +kernel) rfl rfl (Nat.le_of_ble_eq_true rfl) dX8_take_43 (fun H locs hP hD hS => ?_)
        have hP : va_P G vwCl [(t_h, .inr (8, [.ref t_rows_h, .int 0, .int 0, .int x1]))] H := hP
        have hD : va_D A [(t_h, .inr (8, [.ref t_rows_h, .int 0, .int 0, .int x1]))] := hD
        exact hj16 _ _ _ hf _ _ _ hP hD hS (lv_sub hl [0, 2] rfl)
      · have hf := iff_ hf c17
        refine lv_iload_n hx hb dX8_take_23 rfl (lv_at hl 1 rfl) ?_
        refine lv_aload_n hx hb dX8_take_24 rfl (lv_at hl 0 rfl) ?_
        refine va_get (D := G) (ci := 8) (v := .int t_distance) (C := RX8) (T := TX8) (N := 4) hx hb hts iwX8 hown hK hP 0 rfl rfl 3 (by decide) fl_22 (fun _ h9 => h9) rfl dX8_take_25 ?_
        refine lv_icmp_ge (tgt := 46) hx hb dX8_take_28 (by decide) (fun c18 => ?_) (fun c18 => ?_)
        · have hf := ift hf c18
          exact hj16 _ _ _ hf _ _ _ hP hD hS (lv_sub hl [0, 2] rfl)
        · have hf := iff_ hf c18
          refine lv_aload_n hx hb dX8_take_31 rfl (lv_at hl 0 rfl) ?_
          refine lv_iconst (v := 0) hx hb dX8_take_32 (by decide) ?_
          refine va_put (D := G) (ci := 8) (v := .int 0) (ty := .int) (C := RX8) (T := TX8) (N := 4) hx hb hts iwX8 tyX8 tyX8_ok nmX8 hown hK hP hD hS 0 rfl rfl 1 (by decide) fl_15 (fun _ h9 => h9) rfl (by decide +kernel) rfl rfl (Nat.le_of_ble_eq_true rfl) dX8_take_33 (fun H locs hP hD hS => ?_)
          have hP : va_P G vwCl [(t_h, .inr (8, [.ref t_rows_h, .int 0, .int t_many, .int t_distance]))] H := hP
          have hD : va_D A [(t_h, .inr (8, [.ref t_rows_h, .int 0, .int t_many, .int t_distance]))] := hD
          refine lv_aload_n hx hb dX8_take_36 rfl (lv_at hl 0 rfl) ?_
          refine lv_iconst (v := 0) hx hb dX8_take_37 (by decide) ?_
          refine va_put (D := G) (ci := 8) (v := .int 0) (ty := .int) (C := RX8) (T := TX8) (N := 4) hx hb hts iwX8 tyX8 tyX8_ok nmX8 hown hK hP hD hS 0 rfl rfl 2 (by decide) fl_19 (fun _ h9 => h9) rfl (by decide +kernel) rfl rfl (Nat.le_of_ble_eq_true rfl) dX8_take_38 (fun H locs hP hD hS => ?_)
          have hP : va_P G vwCl [(t_h, .inr (8, [.ref t_rows_h, .int 0, .int 0, .int t_distance]))] H := hP
          have hD : va_D A [(t_h, .inr (8, [.ref t_rows_h, .int 0, .int 0, .int t_distance]))] := hD
          refine lv_aload_n hx hb dX8_take_41 rfl (lv_at hl 0 rfl) ?_
          refine lv_iload_n hx hb dX8_take_42 rfl (lv_at hl 1 rfl) ?_
          refine va_put (D := G) (ci := 8) (v := .int x1) (ty := .int) (C := RX8) (T := TX8) (N := 4) hx hb hts iwX8 tyX8 tyX8_ok nmX8 hown hK hP hD hS 0 rfl rfl 3 (by decide) fl_22 (fun _ h9 => h9) rfl (by decide +kernel) rfl rfl (Nat.le_of_ble_eq_true rfl) dX8_take_43 (fun H locs hP hD hS => ?_)
          have hP : va_P G vwCl [(t_h, .inr (8, [.ref t_rows_h, .int 0, .int 0, .int x1]))] H := hP
          have hD : va_D A [(t_h, .inr (8, [.ref t_rows_h, .int 0, .int 0, .int x1]))] := hD
          exact hj16 _ _ _ hf _ _ _ hP hD hS (lv_sub hl [0, 2] rfl)
    · have hf := iff_ hf c11
      exact hret t_sum t_many t_distance 15 _ _ _ dX8_take_15 hf hP hD hS
set_option maxRecDepth 20000 in
theorem ggX8_look_X7_size : GoodIn wsX8_look wsX7_size := goodIn_r _ [9, 10, 36, 37, 38, 39] (by decide +kernel) (by decide +kernel)
set_option maxRecDepth 20000 in
theorem gX8_look_X7_size : GoodIn wsX8_look (wsV RX8 25 RX7 yX7_size wsX7_size) := goodIn_app (goodIn_of _ (by decide +kernel)) ggX8_look_X7_size
set_option maxRecDepth 20000 in
theorem ggX8_look_X7_at : GoodIn wsX8_look wsX7_at := goodIn_r _ [14, 15, 16, 36, 37, 38, 39] (by decide +kernel) (by decide +kernel)
set_option maxRecDepth 20000 in
theorem gX8_look_X7_at : GoodIn wsX8_look (wsV RX8 31 RX7 yX7_at wsX7_at) := goodIn_app (goodIn_of _ (by decide +kernel)) ggX8_look_X7_at
set_option maxRecDepth 20000 in
theorem ggX8_look_X8_apart : GoodIn wsX8_look wsX8_apart := goodIn_r _ [20, 21, 22, 23, 24, 25, 26, 27] (by decide +kernel) (by decide +kernel)
set_option maxRecDepth 20000 in
theorem gX8_look_X8_apart : GoodIn wsX8_look (va_wsS RX8 35 yX8_apart wsX8_apart) := goodIn_app (goodIn_of _ (by decide +kernel)) ggX8_look_X8_apart
set_option maxRecDepth 20000 in
theorem ggX8_look_X8_take : GoodIn wsX8_look wsX8_take := goodIn_r _ [31, 2, 3, 1, 32, 33, 34, 35] (by decide +kernel) (by decide +kernel)
set_option maxRecDepth 20000 in
theorem gX8_look_X8_take : GoodIn wsX8_look (wsV RX8 39 RX8 yX8_take wsX8_take) := goodIn_app (goodIn_of _ (by decide +kernel)) ggX8_look_X8_take
theorem dX8_look_0 : decode cX8_look 0 = .ok (.aload_n 0, 1) := by decide +kernel
theorem dX8_look_1 : decode cX8_look 1 = .ok (.iconst 0, 1) := by decide +kernel
theorem dX8_look_2 : decode cX8_look 2 = .ok (.putfield 15, 3) := by decide +kernel
theorem dX8_look_5 : decode cX8_look 5 = .ok (.aload_n 0, 1) := by decide +kernel
theorem dX8_look_6 : decode cX8_look 6 = .ok (.iconst 0, 1) := by decide +kernel
theorem dX8_look_7 : decode cX8_look 7 = .ok (.putfield 19, 3) := by decide +kernel
theorem dX8_look_10 : decode cX8_look 10 = .ok (.aload_n 0, 1) := by decide +kernel
theorem dX8_look_11 : decode cX8_look 11 = .ok (.iconst (-1), 1) := by decide +kernel
theorem dX8_look_12 : decode cX8_look 12 = .ok (.putfield 22, 3) := by decide +kernel
theorem dX8_look_15 : decode cX8_look 15 = .ok (.iconst 0, 1) := by decide +kernel
theorem dX8_look_16 : decode cX8_look 16 = .ok (.istore 4, 2) := by decide +kernel
theorem dX8_look_18 : decode cX8_look 18 = .ok (.iload 4, 2) := by decide +kernel
theorem dX8_look_20 : decode cX8_look 20 = .ok (.aload_n 0, 1) := by decide +kernel
theorem dX8_look_21 : decode cX8_look 21 = .ok (.getfield 9, 3) := by decide +kernel
theorem dX8_look_24 : decode cX8_look 24 = .ok (.invokevirtual 25, 3) := by decide +kernel
theorem dX8_look_27 : decode cX8_look 27 = .ok (.if_icmp .ge 92, 3) := by decide +kernel
theorem dX8_look_30 : decode cX8_look 30 = .ok (.aload_n 0, 1) := by decide +kernel
theorem dX8_look_31 : decode cX8_look 31 = .ok (.getfield 9, 3) := by decide +kernel
theorem dX8_look_34 : decode cX8_look 34 = .ok (.iload 4, 2) := by decide +kernel
theorem dX8_look_36 : decode cX8_look 36 = .ok (.iconst 0, 1) := by decide +kernel
theorem dX8_look_37 : decode cX8_look 37 = .ok (.invokevirtual 31, 3) := by decide +kernel
theorem dX8_look_40 : decode cX8_look 40 = .ok (.iload_n 1, 1) := by decide +kernel
theorem dX8_look_41 : decode cX8_look 41 = .ok (.if_icmp .ne 72, 3) := by decide +kernel
theorem dX8_look_44 : decode cX8_look 44 = .ok (.aload_n 0, 1) := by decide +kernel
theorem dX8_look_45 : decode cX8_look 45 = .ok (.getfield 9, 3) := by decide +kernel
theorem dX8_look_48 : decode cX8_look 48 = .ok (.iload 4, 2) := by decide +kernel
theorem dX8_look_50 : decode cX8_look 50 = .ok (.iconst 3, 1) := by decide +kernel
theorem dX8_look_51 : decode cX8_look 51 = .ok (.invokevirtual 31, 3) := by decide +kernel
theorem dX8_look_54 : decode cX8_look 54 = .ok (.iconst (-1), 1) := by decide +kernel
theorem dX8_look_55 : decode cX8_look 55 = .ok (.if_icmp .eq 58, 3) := by decide +kernel
theorem dX8_look_58 : decode cX8_look 58 = .ok (.iload_n 2, 1) := by decide +kernel
theorem dX8_look_59 : decode cX8_look 59 = .ok (.aload_n 0, 1) := by decide +kernel
theorem dX8_look_60 : decode cX8_look 60 = .ok (.getfield 9, 3) := by decide +kernel
theorem dX8_look_63 : decode cX8_look 63 = .ok (.iload 4, 2) := by decide +kernel
theorem dX8_look_65 : decode cX8_look 65 = .ok (.iconst 1, 1) := by decide +kernel
theorem dX8_look_66 : decode cX8_look 66 = .ok (.invokevirtual 31, 3) := by decide +kernel
theorem dX8_look_69 : decode cX8_look 69 = .ok (.bipush 24, 2) := by decide +kernel
theorem dX8_look_71 : decode cX8_look 71 = .ok (.invokestatic 35, 3) := by decide +kernel
theorem dX8_look_74 : decode cX8_look 74 = .ok (.istore 5, 2) := by decide +kernel
theorem dX8_look_76 : decode cX8_look 76 = .ok (.iload_n 3, 1) := by decide +kernel
theorem dX8_look_77 : decode cX8_look 77 = .ok (.aload_n 0, 1) := by decide +kernel
theorem dX8_look_78 : decode cX8_look 78 = .ok (.getfield 9, 3) := by decide +kernel
theorem dX8_look_81 : decode cX8_look 81 = .ok (.iload 4, 2) := by decide +kernel
theorem dX8_look_83 : decode cX8_look 83 = .ok (.iconst 2, 1) := by decide +kernel
theorem dX8_look_84 : decode cX8_look 84 = .ok (.invokevirtual 31, 3) := by decide +kernel
theorem dX8_look_87 : decode cX8_look 87 = .ok (.bipush 8, 2) := by decide +kernel
theorem dX8_look_89 : decode cX8_look 89 = .ok (.invokestatic 35, 3) := by decide +kernel
theorem dX8_look_92 : decode cX8_look 92 = .ok (.istore 6, 2) := by decide +kernel
theorem dX8_look_94 : decode cX8_look 94 = .ok (.aload_n 0, 1) := by decide +kernel
theorem dX8_look_95 : decode cX8_look 95 = .ok (.iload 5, 2) := by decide +kernel
theorem dX8_look_97 : decode cX8_look 97 = .ok (.iload 6, 2) := by decide +kernel
theorem dX8_look_99 : decode cX8_look 99 = .ok (.iadd, 1) := by decide +kernel
theorem dX8_look_100 : decode cX8_look 100 = .ok (.aload_n 0, 1) := by decide +kernel
theorem dX8_look_101 : decode cX8_look 101 = .ok (.getfield 9, 3) := by decide +kernel
theorem dX8_look_104 : decode cX8_look 104 = .ok (.iload 4, 2) := by decide +kernel
theorem dX8_look_106 : decode cX8_look 106 = .ok (.iconst 3, 1) := by decide +kernel
theorem dX8_look_107 : decode cX8_look 107 = .ok (.invokevirtual 31, 3) := by decide +kernel
theorem dX8_look_110 : decode cX8_look 110 = .ok (.invokevirtual 39, 3) := by decide +kernel
theorem dX8_look_113 : decode cX8_look 113 = .ok (.iinc 4 1, 3) := by decide +kernel
theorem dX8_look_116 : decode cX8_look 116 = .ok (.goto (-98), 3) := by decide +kernel
theorem dX8_look_119 : decode cX8_look 119 = .ok (.return_, 1) := by decide +kernel
set_option maxRecDepth 100000 in
def fX8_look_L1 (t_rows_lines : Int32) (t_rows_width : Int32) (t_rows_cells_n : Nat) (t_rows_cells_a : Nat → Int32) (x1 : Int32) (x2 : Int32) (x3 : Int32) : (Int32 × Int32 × Int32 × Int32) → Option ((Int32 × Int32 × Int32) ⊕ (Int32 × Int32 × Int32 × Int32)) := un4 fun (u1 : Int32) (u2 : Int32) (u3 : Int32) (u4 : Int32) =>
  ob (fX7_size t_rows_lines) fun r5 =>
  if r5 ≤ u1 then
    some (.inl (u2, u3, u4))
  else
    ob (fX7_at u1 0 t_rows_width t_rows_cells_n t_rows_cells_a) fun r8 =>
    ob3 (α0 := Int32) (α1 := Int32) (α2 := Int32) (
        if r8 = x1 then
          ob (fX7_at u1 3 t_rows_width t_rows_cells_n t_rows_cells_a) fun r16 =>
          if r16 = (-1) then
            some (u2, u3, u4)
          else
            ob (fX7_at u1 1 t_rows_width t_rows_cells_n t_rows_cells_a) fun r19 =>
            ob (fX8_apart x2 r19 24) fun r21 =>
            ob (fX7_at u1 2 t_rows_width t_rows_cells_n t_rows_cells_a) fun r23 =>
            ob (fX8_apart x3 r23 8) fun r25 =>
            ob (fX7_at u1 3 t_rows_width t_rows_cells_n t_rows_cells_a) fun r27 =>
            ob3 (fX8_take (r21 + r25) r27 u2 u3 u4) fun w29 w30 w31 =>
            some (w29, w30, w31)
        else
          some (u2, u3, u4)
      ) fun m10 m11 m12 =>
    bv (u1 + 1) fun v33 =>
    some (.inr (v33, m10, m11, m12))
set_option maxRecDepth 100000 in
def fX8_look (x1 : Int32) (x2 : Int32) (x3 : Int32) (t_sum : Int32) (t_many : Int32) (t_distance : Int32) (t_rows_width : Int32) (t_rows_lines : Int32) (t_rows_cells_n : Nat) (t_rows_cells_a : Nat → Int32) : Option (Int32 × Int32 × Int32) :=
  ob3 (it (fX8_look_L1 t_rows_lines t_rows_width t_rows_cells_n t_rows_cells_a x1 x2 x3) 100000 (0, 0, 0, (-1))) fun x34 x35 x36 =>
  some (x34, x35, x36)
abbrev rmX8_look : Room := { frames := 2, cells := 0, slots := 0, locals := 46 }
theorem iwX8_look_X8 : ∀ w ∈ u_ws RX8 TX8 4, w ∈ wsX8_look := by decide +kernel
set_option maxHeartbeats 4000000 in
set_option maxRecDepth 100000 in
theorem k_X8_look (l : Launch) (G : va_G) (cI cJ : ClassId) (t_h t_rows_h t_rows_cells_h : Nat) (sz : Nat) (t_sum : Int32) (t_many : Int32) (t_distance : Int32) (t_rows_width : Int32) (t_rows_most : Int32) (t_rows_lines : Int32) (t_rows_cells_n : Nat) (t_rows_cells_a : Nat → Int32) (x1 : Int32) (x2 : Int32) (x3 : Int32) {o_t_sum : Int32} {o_t_many : Int32} {o_t_distance : Int32} (hf : fX8_look x1 x2 x3 t_sum t_many t_distance t_rows_width t_rows_lines t_rows_cells_n t_rows_cells_a = some (o_t_sum, o_t_many, o_t_distance)) : MetU l yX8_look wsX8_look rmX8_look [.ref t_h, .int x1, .int x2, .int x3] G cI cJ [(t_h, .inr (8, [.ref t_rows_h, .int t_sum, .int t_many, .int t_distance])), (t_rows_h, .inr (7, [.int t_rows_width, .int t_rows_most, .ref t_rows_cells_h, .int t_rows_lines])), (t_rows_cells_h, .inl (cI, t_rows_cells_n, .inl t_rows_cells_a))] [(t_h, .inr (8, [.ref t_rows_h, .int o_t_sum, .int o_t_many, .int o_t_distance])), (t_rows_h, .inr (7, [.int t_rows_width, .int t_rows_most, .ref t_rows_cells_h, .int t_rows_lines])), (t_rows_cells_h, .inl (cI, t_rows_cells_n, .inl t_rows_cells_a))] sz := by
  refine en_0 (l := l) (y := yX8_look) (wsl := wsX8_look) (rm := rmX8_look) (av := [.ref t_h, .int x1, .int x2, .int x3]) (G := G) (cI := cI) (cJ := cJ) (w0 := [(t_h, .inr (8, [.ref t_rows_h, .int t_sum, .int t_many, .int t_distance])), (t_rows_h, .inr (7, [.int t_rows_width, .int t_rows_most, .ref t_rows_cells_h, .int t_rows_lines])), (t_rows_cells_h, .inl (cI, t_rows_cells_n, .inl t_rows_cells_a))]) (sz := sz) (Qf := fun A => Qv0 G cI cJ [(t_h, .inr (8, [.ref t_rows_h, .int o_t_sum, .int o_t_many, .int o_t_distance])), (t_rows_h, .inr (7, [.int t_rows_width, .int t_rows_most, .ref t_rows_cells_h, .int t_rows_lines])), (t_rows_cells_h, .inl (cI, t_rows_cells_n, .inl t_rows_cells_a))] A) (cc := cX8_look) (maxL := 7) (ret := none) RX8 (by decide +kernel) rfl rfl (Nat.le_of_ble_eq_true rfl) ?_
  intro p e s m args below meth c A ls Q hQ hx hb hr hts hown hlocks hml hN hK hP hD hS hA hl
  have hl : lv_has ls 7 [(0, .ref t_h), (1, .int x1), (2, .int x2), (3, .int x3)] := hl
  have iwX8 := iwX8_look_X8
  have fl_9 := hts (.fieldLink RX8 9 "CloudOffice$Years" "rows" "LCloudOffice$Table;") (by decide +kernel)
  have fl_15 := hts (.fieldLink RX8 15 "CloudOffice$Years" "sum" "I") (by decide +kernel)
  have fl_19 := hts (.fieldLink RX8 19 "CloudOffice$Years" "many" "I") (by decide +kernel)
  have fl_22 := hts (.fieldLink RX8 22 "CloudOffice$Years" "distance" "I") (by decide +kernel)
  have hret : ∀ (o_t_sum9 : Int32) (o_t_many9 : Int32) (o_t_distance9 : Int32) (pc : Nat) (H : Heap) (locs : List Loc) (ls : Array Slot), decode cX8_look pc = .ok (.return_, 1) → some (o_t_sum9, o_t_many9, o_t_distance9) = some (o_t_sum, o_t_many, o_t_distance) → va_P G vwCl [(t_h, .inr (8, [.ref t_rows_h, .int o_t_sum9, .int o_t_many9, .int o_t_distance9])), (t_rows_h, .inr (7, [.int t_rows_width, .int t_rows_most, .ref t_rows_cells_h, .int t_rows_lines])), (t_rows_cells_h, .inl (cI, t_rows_cells_n, .inl t_rows_cells_a))] H → va_D A [(t_h, .inr (8, [.ref t_rows_h, .int o_t_sum9, .int o_t_many9, .int o_t_distance9])), (t_rows_h, .inr (7, [.int t_rows_width, .int t_rows_most, .ref t_rows_cells_h, .int t_rows_lines])), (t_rows_cells_h, .inl (cI, t_rows_cells_n, .inl t_rows_cells_a))] → va_S A s.heap H locs → W p l e rmX8_look s m args below meth c H locs 0 0 Q (F0 m pc ls []) := by
    intro o_t_sum9 o_t_many9 o_t_distance9 pc H locs ls hdg he hP hD hS
    cases he
    subst hQ
    exact rt_v hx hb hr hlocks hK hP hD hS hdg
  clear hQ
  unfold fX8_look at hf
  refine lv_aload_n hx hb dX8_look_0 rfl (lv_at hl 0 rfl) ?_
  refine lv_iconst (v := 0) hx hb dX8_look_1 (by decide) ?_
  refine va_put (D := G) (ci := 8) (v := .int 0) (ty := .int) (C := RX8) (T := TX8) (N := 4) hx hb hts iwX8 tyX8 tyX8_ok nmX8 hown hK hP hD hS 0 rfl rfl 1 (by decide) fl_15 (fun _ h9 => h9) rfl (by decide +kernel) rfl rfl (Nat.le_of_ble_eq_true rfl) dX8_look_2 (fun H locs hP hD hS => ?_)
  have hP : va_P G vwCl [(t_h, .inr (8, [.ref t_rows_h, .int 0, .int t_many, .int t_distance])), (t_rows_h, .inr (7, [.int t_rows_width, .int t_rows_most, .ref t_rows_cells_h, .int t_rows_lines])), (t_rows_cells_h, .inl (cI, t_rows_cells_n, .inl t_rows_cells_a))] H := hP
  have hD : va_D A [(t_h, .inr (8, [.ref t_rows_h, .int 0, .int t_many, .int t_distance])), (t_rows_h, .inr (7, [.int t_rows_width, .int t_rows_most, .ref t_rows_cells_h, .int t_rows_lines])), (t_rows_cells_h, .inl (cI, t_rows_cells_n, .inl t_rows_cells_a))] := hD
  refine lv_aload_n hx hb dX8_look_5 rfl (lv_at hl 0 rfl) ?_
  refine lv_iconst (v := 0) hx hb dX8_look_6 (by decide) ?_
  refine va_put (D := G) (ci := 8) (v := .int 0) (ty := .int) (C := RX8) (T := TX8) (N := 4) hx hb hts iwX8 tyX8 tyX8_ok nmX8 hown hK hP hD hS 0 rfl rfl 2 (by decide) fl_19 (fun _ h9 => h9) rfl (by decide +kernel) rfl rfl (Nat.le_of_ble_eq_true rfl) dX8_look_7 (fun H locs hP hD hS => ?_)
  have hP : va_P G vwCl [(t_h, .inr (8, [.ref t_rows_h, .int 0, .int 0, .int t_distance])), (t_rows_h, .inr (7, [.int t_rows_width, .int t_rows_most, .ref t_rows_cells_h, .int t_rows_lines])), (t_rows_cells_h, .inl (cI, t_rows_cells_n, .inl t_rows_cells_a))] H := hP
  have hD : va_D A [(t_h, .inr (8, [.ref t_rows_h, .int 0, .int 0, .int t_distance])), (t_rows_h, .inr (7, [.int t_rows_width, .int t_rows_most, .ref t_rows_cells_h, .int t_rows_lines])), (t_rows_cells_h, .inl (cI, t_rows_cells_n, .inl t_rows_cells_a))] := hD
  refine lv_aload_n hx hb dX8_look_10 rfl (lv_at hl 0 rfl) ?_
  refine lv_iconst (v := (-1)) hx hb dX8_look_11 (by decide) ?_
  refine va_put (D := G) (ci := 8) (v := .int (-1)) (ty := .int) (C := RX8) (T := TX8) (N := 4) hx hb hts iwX8 tyX8 tyX8_ok nmX8 hown hK hP hD hS 0 rfl rfl 3 (by decide) fl_22 (fun _ h9 => h9) rfl (by decide +kernel) rfl rfl (Nat.le_of_ble_eq_true rfl) dX8_look_12 (fun H locs hP hD hS => ?_)
  have hP : va_P G vwCl [(t_h, .inr (8, [.ref t_rows_h, .int 0, .int 0, .int (-1)])), (t_rows_h, .inr (7, [.int t_rows_width, .int t_rows_most, .ref t_rows_cells_h, .int t_rows_lines])), (t_rows_cells_h, .inl (cI, t_rows_cells_n, .inl t_rows_cells_a))] H := hP
  have hD : va_D A [(t_h, .inr (8, [.ref t_rows_h, .int 0, .int 0, .int (-1)])), (t_rows_h, .inr (7, [.int t_rows_width, .int t_rows_most, .ref t_rows_cells_h, .int t_rows_lines])), (t_rows_cells_h, .inl (cI, t_rows_cells_n, .inl t_rows_cells_a))] := hD
  refine lv_iconst (v := 0) hx hb dX8_look_15 (by decide) ?_
  refine lv_istore (lv' := [(4, .int 0), (0, .ref t_h), (1, .int x1), (2, .int x2), (3, .int x3)]) hx hb dX8_look_16 hl (by decide) rfl (fun ls hl => ?_)
  obtain ⟨x34, x35, x36, ht1, hf⟩ := ob3_some hf
  have hx1_0 : ∀ (x349 : Int32) (x359 : Int32) (x369 : Int32), (x349, x359, x369) = (x34, x35, x36) → ∀ (H : Heap) (locs : List Loc) (ls : Array Slot), va_P G vwCl [(t_h, .inr (8, [.ref t_rows_h, .int x349, .int x359, .int x369])), (t_rows_h, .inr (7, [.int t_rows_width, .int t_rows_most, .ref t_rows_cells_h, .int t_rows_lines])), (t_rows_cells_h, .inl (cI, t_rows_cells_n, .inl t_rows_cells_a))] H → va_D A [(t_h, .inr (8, [.ref t_rows_h, .int x349, .int x359, .int x369])), (t_rows_h, .inr (7, [.int t_rows_width, .int t_rows_most, .ref t_rows_cells_h, .int t_rows_lines])), (t_rows_cells_h, .inl (cI, t_rows_cells_n, .inl t_rows_cells_a))] → va_S A s.heap H locs → lv_has ls 7 [] → W p l e rmX8_look s m args below meth c H locs 0 0 Q (F0 m 119 ls []) := by
    intro x349 x359 x369 he H locs ls hP hD hS hl
    cases he
    exact hret x34 x35 x36 119 _ _ _ dX8_look_119 hf hP hD hS
  clear hf
  have hl1 : ∀ (n : Nat) (u1 : Int32) (u2 : Int32) (u3 : Int32) (u4 : Int32), it (fX8_look_L1 t_rows_lines t_rows_width t_rows_cells_n t_rows_cells_a x1 x2 x3) n (u1, u2, u3, u4) = some (x34, x35, x36) → ∀ (H : Heap) (locs : List Loc) (ls : Array Slot), va_P G vwCl [(t_h, .inr (8, [.ref t_rows_h, .int u2, .int u3, .int u4])), (t_rows_h, .inr (7, [.int t_rows_width, .int t_rows_most, .ref t_rows_cells_h, .int t_rows_lines])), (t_rows_cells_h, .inl (cI, t_rows_cells_n, .inl t_rows_cells_a))] H → va_D A [(t_h, .inr (8, [.ref t_rows_h, .int u2, .int u3, .int u4])), (t_rows_h, .inr (7, [.int t_rows_width, .int t_rows_most, .ref t_rows_cells_h, .int t_rows_lines])), (t_rows_cells_h, .inl (cI, t_rows_cells_n, .inl t_rows_cells_a))] → va_S A s.heap H locs → lv_has ls 7 [(0, .ref t_h), (1, .int x1), (2, .int x2), (3, .int x3), (4, .int u1)] → W p l e rmX8_look s m args below meth c H locs 0 0 Q (F0 m 18 ls []) := by
    intro n
    induction n with
    | zero => intro u1 u2 u3 u4 hz; exact (it_zero hz).elim
    | succ n ih =>
      intro u1 u2 u3 u4 hz H locs ls hP hD hS hl
      obtain ⟨x9, hf, hq⟩ := it_succ hz
      unfold fX8_look_L1 at hf
      dsimp only [un4] at hf
      refine lv_iload hx hb dX8_look_18 (lv_at hl 4 rfl) ?_
      refine lv_aload_n hx hb dX8_look_20 rfl (lv_at hl 0 rfl) ?_
      refine va_get (D := G) (ci := 8) (v := .ref t_rows_h) (C := RX8) (T := TX8) (N := 4) hx hb hts iwX8 hown hK hP 0 rfl rfl 0 (by decide) fl_9 (fun _ h9 => h9) rfl dX8_look_21 ?_
      obtain ⟨r5, hc6, hf⟩ := ob_some hf
      refine af_iR (va_runV (As := []) (rest := [.int u1]) ⟨hx, hb, hml, hown, hts⟩ (k_X7_size l G cI cJ (t_h := t_rows_h) (t_cells_h := t_rows_cells_h) (t_width := t_rows_width) (t_most := t_rows_most) (t_lines := t_rows_lines) (sz := _) (hf := hc6)) (cwV 0 hts gX8_look_X7_size rfl rfl rfl (by decide +kernel) ⟨Nat.le_of_ble_eq_true rfl, Nat.le_of_ble_eq_true rfl⟩) (preV0 (ci := 7) (q0 := 0) (C := RX7) (wc := [(t_rows_h, .inr (7, [.int t_rows_width, .int t_rows_most, .ref t_rows_cells_h, .int t_rows_lines]))]) hK hP hD hN [1] rfl rfl (by decide) rfl rfl) rfl rfl hl.1 rfl (lv_room (Nat.le_of_ble_eq_true rfl)) dX8_look_24 ⟨Nat.zero_le _, Nat.zero_le _⟩) hP hD hS hA [1] rfl (fun H locs hP hS => ?_)
      refine lv_icmp_ge (tgt := 119) hx hb dX8_look_27 (by decide) (fun c7 => ?_) (fun c7 => ?_)
      · have hf := ift hf c7
        cases hf
        exact hx1_0 _ _ _ hq _ _ _ hP hD hS (lv_sub hl [] rfl)
      · have hf := iff_ hf c7
        refine lv_aload_n hx hb dX8_look_30 rfl (lv_at hl 0 rfl) ?_
        refine va_get (D := G) (ci := 8) (v := .ref t_rows_h) (C := RX8) (T := TX8) (N := 4) hx hb hts iwX8 hown hK hP 0 rfl rfl 0 (by decide) fl_9 (fun _ h9 => h9) rfl dX8_look_31 ?_
        refine lv_iload hx hb dX8_look_34 (lv_at hl 4 rfl) ?_
        refine lv_iconst (v := 0) hx hb dX8_look_36 (by decide) ?_
        obtain ⟨r8, hc9, hf⟩ := ob_some hf
        refine af_iR (va_runV (As := [.int u1, .int 0]) (rest := []) ⟨hx, hb, hml, hown, hts⟩ (k_X7_at l G cI cJ (t_h := t_rows_h) (t_cells_h := t_rows_cells_h) (t_width := t_rows_width) (t_most := t_rows_most) (t_lines := t_rows_lines) (t_cells_n := t_rows_cells_n) (t_cells_a := t_rows_cells_a) (x1 := u1) (x2 := 0) (sz := _) (hf := hc9)) (cwV 2 hts gX8_look_X7_at rfl rfl rfl (by decide +kernel) ⟨Nat.le_of_ble_eq_true rfl, Nat.le_of_ble_eq_true rfl⟩) (preV0 (ci := 7) (q0 := 0) (C := RX7) (wc := [(t_rows_h, .inr (7, [.int t_rows_width, .int t_rows_most, .ref t_rows_cells_h, .int t_rows_lines])), (t_rows_cells_h, .inl (cI, t_rows_cells_n, .inl t_rows_cells_a))]) hK hP hD hN [1, 2] rfl rfl (by decide) rfl rfl) rfl rfl hl.1 rfl (lv_room (Nat.le_of_ble_eq_true rfl)) dX8_look_37 ⟨Nat.zero_le _, Nat.zero_le _⟩) hP hD hS hA [1, 2] rfl (fun H locs hP hS => ?_)
        refine lv_iload_n hx hb dX8_look_40 rfl (lv_at hl 1 rfl) ?_
        obtain ⟨m10, m11, m12, hr13, hf⟩ := ob3_some hf
        have hj14 : ∀ (m109 : Int32) (m119 : Int32) (m129 : Int32), some (m109, m119, m129) = some (m10, m11, m12) → ∀ (H : Heap) (locs : List Loc) (ls : Array Slot), va_P G vwCl [(t_h, .inr (8, [.ref t_rows_h, .int m109, .int m119, .int m129])), (t_rows_h, .inr (7, [.int t_rows_width, .int t_rows_most, .ref t_rows_cells_h, .int t_rows_lines])), (t_rows_cells_h, .inl (cI, t_rows_cells_n, .inl t_rows_cells_a))] H → va_D A [(t_h, .inr (8, [.ref t_rows_h, .int m109, .int m119, .int m129])), (t_rows_h, .inr (7, [.int t_rows_width, .int t_rows_most, .ref t_rows_cells_h, .int t_rows_lines])), (t_rows_cells_h, .inl (cI, t_rows_cells_n, .inl t_rows_cells_a))] → va_S A s.heap H locs → lv_has ls 7 [(0, .ref t_h), (1, .int x1), (2, .int x2), (3, .int x3), (4, .int u1)] → W p l e rmX8_look s m args below meth c H locs 0 0 Q (F0 m 113 ls []) := by
          intro m109 m119 m129 he H locs ls hP hD hS hl
          cases he
          obtain ⟨v33, ev33⟩ : ∃ y : Int32, y = u1 + 1 := ⟨_, rfl⟩
          have hf := bv_at ev33 hf
          refine lv_iinc (v := v33) (lv' := [(4, .int v33), (0, .ref t_h), (1, .int x1), (2, .int x2), (3, .int x3)]) hx hb dX8_look_113 hl (k := 4) rfl (by rw [ev33]; rfl) (by decide) rfl (fun ls hl => ?_)
          refine lv_goto (tgt := 18) hx hb dX8_look_116 (by decide) ?_
          cases hf
          exact ih _ _ _ _ hq _ _ _ hP hD hS (lv_sub hl [1, 2, 3, 4, 0] rfl)
        replace hf := hr13
        refine lv_icmp_ne (tgt := 113) hx hb dX8_look_41 (by decide) (fun c15 => ?_) (fun c15 => ?_)
        · have hf := iff_ hf c15
          exact hj14 _ _ _ hf _ _ _ hP hD hS (lv_sub hl [0, 1, 2, 3, 4] rfl)
        · have hf := ift hf c15
          refine lv_aload_n hx hb dX8_look_44 rfl (lv_at hl 0 rfl) ?_
          refine va_get (D := G) (ci := 8) (v := .ref t_rows_h) (C := RX8) (T := TX8) (N := 4) hx hb hts iwX8 hown hK hP 0 rfl rfl 0 (by decide) fl_9 (fun _ h9 => h9) rfl dX8_look_45 ?_
          refine lv_iload hx hb dX8_look_48 (lv_at hl 4 rfl) ?_
          refine lv_iconst (v := 3) hx hb dX8_look_50 (by decide) ?_
          obtain ⟨r16, hc17, hf⟩ := ob_some hf
          refine af_iR (va_runV (As := [.int u1, .int 3]) (rest := []) ⟨hx, hb, hml, hown, hts⟩ (k_X7_at l G cI cJ (t_h := t_rows_h) (t_cells_h := t_rows_cells_h) (t_width := t_rows_width) (t_most := t_rows_most) (t_lines := t_rows_lines) (t_cells_n := t_rows_cells_n) (t_cells_a := t_rows_cells_a) (x1 := u1) (x2 := 3) (sz := _) (hf := hc17)) (cwV 2 hts gX8_look_X7_at rfl rfl rfl (by decide +kernel) ⟨Nat.le_of_ble_eq_true rfl, Nat.le_of_ble_eq_true rfl⟩) (preV0 (ci := 7) (q0 := 0) (C := RX7) (wc := [(t_rows_h, .inr (7, [.int t_rows_width, .int t_rows_most, .ref t_rows_cells_h, .int t_rows_lines])), (t_rows_cells_h, .inl (cI, t_rows_cells_n, .inl t_rows_cells_a))]) hK hP hD hN [1, 2] rfl rfl (by decide) rfl rfl) rfl rfl hl.1 rfl (lv_room (Nat.le_of_ble_eq_true rfl)) dX8_look_51 ⟨Nat.zero_le _, Nat.zero_le _⟩) hP hD hS hA [1, 2] rfl (fun H locs hP hS => ?_)
          refine lv_iconst (v := (-1)) hx hb dX8_look_54 (by decide) ?_
          refine lv_icmp_eq (tgt := 113) hx hb dX8_look_55 (by decide) (fun c18 => ?_) (fun c18 => ?_)
          · have hf := ift hf c18
            exact hj14 _ _ _ hf _ _ _ hP hD hS (lv_sub hl [0, 1, 2, 3, 4] rfl)
          · have hf := iff_ hf c18
            refine lv_iload_n hx hb dX8_look_58 rfl (lv_at hl 2 rfl) ?_
            refine lv_aload_n hx hb dX8_look_59 rfl (lv_at hl 0 rfl) ?_
            refine va_get (D := G) (ci := 8) (v := .ref t_rows_h) (C := RX8) (T := TX8) (N := 4) hx hb hts iwX8 hown hK hP 0 rfl rfl 0 (by decide) fl_9 (fun _ h9 => h9) rfl dX8_look_60 ?_
            refine lv_iload hx hb dX8_look_63 (lv_at hl 4 rfl) ?_
            refine lv_iconst (v := 1) hx hb dX8_look_65 (by decide) ?_
            obtain ⟨r19, hc20, hf⟩ := ob_some hf
            refine af_iR (va_runV (As := [.int u1, .int 1]) (rest := [.int x2]) ⟨hx, hb, hml, hown, hts⟩ (k_X7_at l G cI cJ (t_h := t_rows_h) (t_cells_h := t_rows_cells_h) (t_width := t_rows_width) (t_most := t_rows_most) (t_lines := t_rows_lines) (t_cells_n := t_rows_cells_n) (t_cells_a := t_rows_cells_a) (x1 := u1) (x2 := 1) (sz := _) (hf := hc20)) (cwV 2 hts gX8_look_X7_at rfl rfl rfl (by decide +kernel) ⟨Nat.le_of_ble_eq_true rfl, Nat.le_of_ble_eq_true rfl⟩) (preV0 (ci := 7) (q0 := 0) (C := RX7) (wc := [(t_rows_h, .inr (7, [.int t_rows_width, .int t_rows_most, .ref t_rows_cells_h, .int t_rows_lines])), (t_rows_cells_h, .inl (cI, t_rows_cells_n, .inl t_rows_cells_a))]) hK hP hD hN [1, 2] rfl rfl (by decide) rfl rfl) rfl rfl hl.1 rfl (lv_room (Nat.le_of_ble_eq_true rfl)) dX8_look_66 ⟨Nat.zero_le _, Nat.zero_le _⟩) hP hD hS hA [1, 2] rfl (fun H locs hP hS => ?_)
            refine lv_bipush (v := 24) hx hb dX8_look_69 (by decide) ?_
            obtain ⟨r21, hc22, hf⟩ := ob_some hf
            refine af_iR (va_runS (As := [.int x2, .int r19, .int 24]) (rest := []) ⟨hx, hb, hml, hown, hts⟩ (k_X8_apart l G cI cJ (x0 := x2) (x1 := r19) (x2 := 24) (sz := _) (hf := hc22)) (va_cwS 3 hts gX8_look_X8_apart rfl rfl rfl (by decide +kernel) ⟨Nat.le_of_ble_eq_true rfl, Nat.le_of_ble_eq_true rfl⟩) (preS0 (wc := []) hK hP hD hN [] rfl rfl (by decide)) rfl rfl hl.1 rfl (lv_room (Nat.le_of_ble_eq_true rfl)) dX8_look_71 ⟨Nat.zero_le _, Nat.zero_le _⟩) hP hD hS hA [] rfl (fun H locs hP hS => ?_)
            refine lv_istore (lv' := [(5, .int r21), (0, .ref t_h), (1, .int x1), (2, .int x2), (3, .int x3), (4, .int u1)]) hx hb dX8_look_74 hl (by decide) rfl (fun ls hl => ?_)
            refine lv_iload_n hx hb dX8_look_76 rfl (lv_at hl 4 rfl) ?_
            refine lv_aload_n hx hb dX8_look_77 rfl (lv_at hl 1 rfl) ?_
            refine va_get (D := G) (ci := 8) (v := .ref t_rows_h) (C := RX8) (T := TX8) (N := 4) hx hb hts iwX8 hown hK hP 0 rfl rfl 0 (by decide) fl_9 (fun _ h9 => h9) rfl dX8_look_78 ?_
            refine lv_iload hx hb dX8_look_81 (lv_at hl 5 rfl) ?_
            refine lv_iconst (v := 2) hx hb dX8_look_83 (by decide) ?_
            obtain ⟨r23, hc24, hf⟩ := ob_some hf
            refine af_iR (va_runV (As := [.int u1, .int 2]) (rest := [.int x3]) ⟨hx, hb, hml, hown, hts⟩ (k_X7_at l G cI cJ (t_h := t_rows_h) (t_cells_h := t_rows_cells_h) (t_width := t_rows_width) (t_most := t_rows_most) (t_lines := t_rows_lines) (t_cells_n := t_rows_cells_n) (t_cells_a := t_rows_cells_a) (x1 := u1) (x2 := 2) (sz := _) (hf := hc24)) (cwV 2 hts gX8_look_X7_at rfl rfl rfl (by decide +kernel) ⟨Nat.le_of_ble_eq_true rfl, Nat.le_of_ble_eq_true rfl⟩) (preV0 (ci := 7) (q0 := 0) (C := RX7) (wc := [(t_rows_h, .inr (7, [.int t_rows_width, .int t_rows_most, .ref t_rows_cells_h, .int t_rows_lines])), (t_rows_cells_h, .inl (cI, t_rows_cells_n, .inl t_rows_cells_a))]) hK hP hD hN [1, 2] rfl rfl (by decide) rfl rfl) rfl rfl hl.1 rfl (lv_room (Nat.le_of_ble_eq_true rfl)) dX8_look_84 ⟨Nat.zero_le _, Nat.zero_le _⟩) hP hD hS hA [1, 2] rfl (fun H locs hP hS => ?_)
            refine lv_bipush (v := 8) hx hb dX8_look_87 (by decide) ?_
            obtain ⟨r25, hc26, hf⟩ := ob_some hf
            refine af_iR (va_runS (As := [.int x3, .int r23, .int 8]) (rest := []) ⟨hx, hb, hml, hown, hts⟩ (k_X8_apart l G cI cJ (x0 := x3) (x1 := r23) (x2 := 8) (sz := _) (hf := hc26)) (va_cwS 3 hts gX8_look_X8_apart rfl rfl rfl (by decide +kernel) ⟨Nat.le_of_ble_eq_true rfl, Nat.le_of_ble_eq_true rfl⟩) (preS0 (wc := []) hK hP hD hN [] rfl rfl (by decide)) rfl rfl hl.1 rfl (lv_room (Nat.le_of_ble_eq_true rfl)) dX8_look_89 ⟨Nat.zero_le _, Nat.zero_le _⟩) hP hD hS hA [] rfl (fun H locs hP hS => ?_)
            refine lv_istore (lv' := [(6, .int r25), (5, .int r21), (0, .ref t_h), (1, .int x1), (2, .int x2), (3, .int x3), (4, .int u1)]) hx hb dX8_look_92 hl (by decide) rfl (fun ls hl => ?_)
            refine lv_aload_n hx hb dX8_look_94 rfl (lv_at hl 2 rfl) ?_
            refine lv_iload hx hb dX8_look_95 (lv_at hl 1 rfl) ?_
            refine lv_iload hx hb dX8_look_97 (lv_at hl 0 rfl) ?_
            refine lv_iadd hx hb dX8_look_99 ?_
            refine lv_aload_n hx hb dX8_look_100 rfl (lv_at hl 2 rfl) ?_
            refine va_get (D := G) (ci := 8) (v := .ref t_rows_h) (C := RX8) (T := TX8) (N := 4) hx hb hts iwX8 hown hK hP 0 rfl rfl 0 (by decide) fl_9 (fun _ h9 => h9) rfl dX8_look_101 ?_
            refine lv_iload hx hb dX8_look_104 (lv_at hl 6 rfl) ?_
            refine lv_iconst (v := 3) hx hb dX8_look_106 (by decide) ?_
            obtain ⟨r27, hc28, hf⟩ := ob_some hf
            refine af_iR (va_runV (As := [.int u1, .int 3]) (rest := [.int (r21 + r25), .ref t_h]) ⟨hx, hb, hml, hown, hts⟩ (k_X7_at l G cI cJ (t_h := t_rows_h) (t_cells_h := t_rows_cells_h) (t_width := t_rows_width) (t_most := t_rows_most) (t_lines := t_rows_lines) (t_cells_n := t_rows_cells_n) (t_cells_a := t_rows_cells_a) (x1 := u1) (x2 := 3) (sz := _) (hf := hc28)) (cwV 2 hts gX8_look_X7_at rfl rfl rfl (by decide +kernel) ⟨Nat.le_of_ble_eq_true rfl, Nat.le_of_ble_eq_true rfl⟩) (preV0 (ci := 7) (q0 := 0) (C := RX7) (wc := [(t_rows_h, .inr (7, [.int t_rows_width, .int t_rows_most, .ref t_rows_cells_h, .int t_rows_lines])), (t_rows_cells_h, .inl (cI, t_rows_cells_n, .inl t_rows_cells_a))]) hK hP hD hN [1, 2] rfl rfl (by decide) rfl rfl) rfl rfl hl.1 rfl (lv_room (Nat.le_of_ble_eq_true rfl)) dX8_look_107 ⟨Nat.zero_le _, Nat.zero_le _⟩) hP hD hS hA [1, 2] rfl (fun H locs hP hS => ?_)
            obtain ⟨w29, w30, w31, hc32, hf⟩ := ob3_some hf
            refine af_vW (wr := [(t_rows_h, .inr (7, [.int t_rows_width, .int t_rows_most, .ref t_rows_cells_h, .int t_rows_lines])), (t_rows_cells_h, .inl (cI, t_rows_cells_n, .inl t_rows_cells_a))]) (ws2 := [(t_h, .inr (8, [.ref t_rows_h, .int w29, .int w30, .int w31])), (t_rows_h, .inr (7, [.int t_rows_width, .int t_rows_most, .ref t_rows_cells_h, .int t_rows_lines])), (t_rows_cells_h, .inl (cI, t_rows_cells_n, .inl t_rows_cells_a))]) (va_runV (As := [.int (r21 + r25), .int r27]) (rest := []) ⟨hx, hb, hml, hown, hts⟩ (k_X8_take l G cI cJ (t_h := t_h) (t_rows_h := t_rows_h) (t_sum := u2) (t_many := u3) (t_distance := u4) (x1 := (r21 + r25)) (x2 := r27) (sz := _) (hf := hc32)) (cwV 2 hts gX8_look_X8_take rfl rfl rfl (by decide +kernel) ⟨Nat.le_of_ble_eq_true rfl, Nat.le_of_ble_eq_true rfl⟩) (preV0 (ci := 8) (q0 := 0) (C := RX8) (wc := [(t_h, .inr (8, [.ref t_rows_h, .int u2, .int u3, .int u4]))]) hK hP hD hN [0] rfl rfl (by decide) rfl rfl) rfl rfl hl.1 rfl (lv_room (Nat.le_of_ble_eq_true rfl)) dX8_look_110 ⟨Nat.zero_le _, Nat.zero_le _⟩) hP hD hS hA [0] [1, 2] [2, 0, 1] rfl rfl (by decide) (by decide) rfl rfl (by decide) (fun H locs hP hD hS => ?_)
            exact hj14 _ _ _ hf _ _ _ hP hD hS (lv_sub hl [2, 3, 4, 5, 6] rfl)
  exact hl1 _ _ _ _ _ ht1 _ _ _ hP hD hS (lv_sub hl [1, 2, 3, 4, 0] rfl)
theorem dX8_mean_0 : decode cX8_mean 0 = .ok (.aload_n 0, 1) := by decide +kernel
theorem dX8_mean_1 : decode cX8_mean 1 = .ok (.getfield 19, 3) := by decide +kernel
theorem dX8_mean_4 : decode cX8_mean 4 = .ok (.ifCond .le 15, 3) := by decide +kernel
theorem dX8_mean_7 : decode cX8_mean 7 = .ok (.aload_n 0, 1) := by decide +kernel
theorem dX8_mean_8 : decode cX8_mean 8 = .ok (.getfield 15, 3) := by decide +kernel
theorem dX8_mean_11 : decode cX8_mean 11 = .ok (.aload_n 0, 1) := by decide +kernel
theorem dX8_mean_12 : decode cX8_mean 12 = .ok (.getfield 19, 3) := by decide +kernel
theorem dX8_mean_15 : decode cX8_mean 15 = .ok (.idiv, 1) := by decide +kernel
theorem dX8_mean_16 : decode cX8_mean 16 = .ok (.goto 4, 3) := by decide +kernel
theorem dX8_mean_19 : decode cX8_mean 19 = .ok (.iconst (-1), 1) := by decide +kernel
theorem dX8_mean_20 : decode cX8_mean 20 = .ok (.ireturn, 1) := by decide +kernel
set_option maxRecDepth 100000 in
def fX8_mean (t_sum : Int32) (t_many : Int32) : Option (Int32) :=
  if t_many ≤ 0 then
    some (-1)
  else
    gd (decide (¬ t_many = 0)) <|
    some (t_sum / t_many)
abbrev rmX8_mean : Room := { frames := 0, cells := 0, slots := 0, locals := 0 }
theorem iwX8_mean_X8 : ∀ w ∈ u_ws RX8 TX8 4, w ∈ wsX8_mean := by decide +kernel
set_option maxHeartbeats 4000000 in
set_option maxRecDepth 100000 in
theorem k_X8_mean (l : Launch) (G : va_G) (cI cJ : ClassId) (t_h t_rows_h : Nat) (sz : Nat) (t_sum : Int32) (t_many : Int32) (t_distance : Int32) {o_r : Int32} (hf : fX8_mean t_sum t_many = some o_r) : MetI l yX8_mean wsX8_mean rmX8_mean [.ref t_h] G cI cJ [(t_h, .inr (8, [.ref t_rows_h, .int t_sum, .int t_many, .int t_distance]))] [(t_h, .inr (8, [.ref t_rows_h, .int t_sum, .int t_many, .int t_distance]))] sz o_r := by
  refine en_0 (l := l) (y := yX8_mean) (wsl := wsX8_mean) (rm := rmX8_mean) (av := [.ref t_h]) (G := G) (cI := cI) (cJ := cJ) (w0 := [(t_h, .inr (8, [.ref t_rows_h, .int t_sum, .int t_many, .int t_distance]))]) (sz := sz) (Qf := fun A => Qi0 G cI cJ [(t_h, .inr (8, [.ref t_rows_h, .int t_sum, .int t_many, .int t_distance]))] o_r A) (cc := cX8_mean) (maxL := 1) (ret := (some .int)) RX8 (by decide +kernel) rfl rfl (Nat.le_of_ble_eq_true rfl) ?_
  intro p e s m args below meth c A ls Q hQ hx hb hr hts hown hlocks hml hN hK hP hD hS hA hl
  have hl : lv_has ls 1 [(0, .ref t_h)] := hl
  have iwX8 := iwX8_mean_X8
  have fl_15 := hts (.fieldLink RX8 15 "CloudOffice$Years" "sum" "I") (by decide +kernel)
  have fl_19 := hts (.fieldLink RX8 19 "CloudOffice$Years" "many" "I") (by decide +kernel)
  have hret : ∀ (o_r9 : Int32) (pc : Nat) (H : Heap) (locs : List Loc) (ls : Array Slot), decode cX8_mean pc = .ok (.ireturn, 1) → some o_r9 = some o_r → va_P G vwCl [(t_h, .inr (8, [.ref t_rows_h, .int t_sum, .int t_many, .int t_distance]))] H → va_D A [(t_h, .inr (8, [.ref t_rows_h, .int t_sum, .int t_many, .int t_distance]))] → va_S A s.heap H locs → W p l e rmX8_mean s m args below meth c H locs 0 0 Q (F0 m pc ls [.int o_r9]) := by
    intro o_r9 pc H locs ls hdg he hP hD hS
    cases he
    subst hQ
    exact rt_i hx hb hr hlocks hK hP hD hS rfl hdg
  clear hQ
  unfold fX8_mean at hf
  refine lv_aload_n hx hb dX8_mean_0 rfl (lv_at hl 0 rfl) ?_
  refine va_get (D := G) (ci := 8) (v := .int t_many) (C := RX8) (T := TX8) (N := 4) hx hb hts iwX8 hown hK hP 0 rfl rfl 2 (by decide) fl_19 (fun _ h9 => h9) rfl dX8_mean_1 ?_
  refine lv_if_le (tgt := 19) hx hb dX8_mean_4 (by decide) (fun c1 => ?_) (fun c1 => ?_)
  · have hf := ift hf c1
    refine lv_iconst (v := (-1)) hx hb dX8_mean_19 (by decide) ?_
    exact hret (-1) 20 _ _ _ dX8_mean_20 hf hP hD hS
  · have hf := iff_ hf c1
    refine lv_aload_n hx hb dX8_mean_7 rfl (lv_at hl 0 rfl) ?_
    refine va_get (D := G) (ci := 8) (v := .int t_sum) (C := RX8) (T := TX8) (N := 4) hx hb hts iwX8 hown hK hP 0 rfl rfl 1 (by decide) fl_15 (fun _ h9 => h9) rfl dX8_mean_8 ?_
    refine lv_aload_n hx hb dX8_mean_11 rfl (lv_at hl 0 rfl) ?_
    refine va_get (D := G) (ci := 8) (v := .int t_many) (C := RX8) (T := TX8) (N := 4) hx hb hts iwX8 hown hK hP 0 rfl rfl 2 (by decide) fl_19 (fun _ h9 => h9) rfl dX8_mean_12 ?_
    obtain ⟨h2, hf⟩ := gd_some hf
    refine lv_idiv hx hb dX8_mean_15 (of_decide_eq_true h2) ?_
    refine lv_goto (tgt := 20) hx hb dX8_mean_16 (by decide) ?_
    exact hret (t_sum / t_many) 20 _ _ _ dX8_mean_20 hf hP hD hS
theorem dX5_votesAgainst_0 : decode cX5_votesAgainst 0 = .ok (.iconst 0, 1) := by decide +kernel
theorem dX5_votesAgainst_1 : decode cX5_votesAgainst 1 = .ok (.istore_n 3, 1) := by decide +kernel
theorem dX5_votesAgainst_2 : decode cX5_votesAgainst 2 = .ok (.iconst 0, 1) := by decide +kernel
theorem dX5_votesAgainst_3 : decode cX5_votesAgainst 3 = .ok (.istore 4, 2) := by decide +kernel
theorem dX5_votesAgainst_5 : decode cX5_votesAgainst 5 = .ok (.iload 4, 2) := by decide +kernel
theorem dX5_votesAgainst_7 : decode cX5_votesAgainst 7 = .ok (.bipush 8, 2) := by decide +kernel
theorem dX5_votesAgainst_9 : decode cX5_votesAgainst 9 = .ok (.if_icmp .ge 52, 3) := by decide +kernel
theorem dX5_votesAgainst_12 : decode cX5_votesAgainst 12 = .ok (.iload_n 1, 1) := by decide +kernel
theorem dX5_votesAgainst_13 : decode cX5_votesAgainst 13 = .ok (.bipush 8, 2) := by decide +kernel
theorem dX5_votesAgainst_15 : decode cX5_votesAgainst 15 = .ok (.imul, 1) := by decide +kernel
theorem dX5_votesAgainst_16 : decode cX5_votesAgainst 16 = .ok (.iload 4, 2) := by decide +kernel
theorem dX5_votesAgainst_18 : decode cX5_votesAgainst 18 = .ok (.iadd, 1) := by decide +kernel
theorem dX5_votesAgainst_19 : decode cX5_votesAgainst 19 = .ok (.istore 5, 2) := by decide +kernel
theorem dX5_votesAgainst_21 : decode cX5_votesAgainst 21 = .ok (.iload_n 2, 1) := by decide +kernel
theorem dX5_votesAgainst_22 : decode cX5_votesAgainst 22 = .ok (.iconst 1, 1) := by decide +kernel
theorem dX5_votesAgainst_23 : decode cX5_votesAgainst 23 = .ok (.iload 4, 2) := by decide +kernel
theorem dX5_votesAgainst_25 : decode cX5_votesAgainst 25 = .ok (.ishl, 1) := by decide +kernel
theorem dX5_votesAgainst_26 : decode cX5_votesAgainst 26 = .ok (.iand, 1) := by decide +kernel
theorem dX5_votesAgainst_27 : decode cX5_votesAgainst 27 = .ok (.ifCond .eq 28, 3) := by decide +kernel
theorem dX5_votesAgainst_30 : decode cX5_votesAgainst 30 = .ok (.iload 5, 2) := by decide +kernel
theorem dX5_votesAgainst_32 : decode cX5_votesAgainst 32 = .ok (.ifCond .lt 23, 3) := by decide +kernel
theorem dX5_votesAgainst_35 : decode cX5_votesAgainst 35 = .ok (.iload 5, 2) := by decide +kernel
theorem dX5_votesAgainst_37 : decode cX5_votesAgainst 37 = .ok (.aload_n 0, 1) := by decide +kernel
theorem dX5_votesAgainst_38 : decode cX5_votesAgainst 38 = .ok (.getfield 15, 3) := by decide +kernel
theorem dX5_votesAgainst_41 : decode cX5_votesAgainst 41 = .ok (.arraylength, 1) := by decide +kernel
theorem dX5_votesAgainst_42 : decode cX5_votesAgainst 42 = .ok (.if_icmp .ge 13, 3) := by decide +kernel
theorem dX5_votesAgainst_45 : decode cX5_votesAgainst 45 = .ok (.iload_n 3, 1) := by decide +kernel
theorem dX5_votesAgainst_46 : decode cX5_votesAgainst 46 = .ok (.aload_n 0, 1) := by decide +kernel
theorem dX5_votesAgainst_47 : decode cX5_votesAgainst 47 = .ok (.getfield 15, 3) := by decide +kernel
theorem dX5_votesAgainst_50 : decode cX5_votesAgainst 50 = .ok (.iload 5, 2) := by decide +kernel
theorem dX5_votesAgainst_52 : decode cX5_votesAgainst 52 = .ok (.iaload, 1) := by decide +kernel
theorem dX5_votesAgainst_53 : decode cX5_votesAgainst 53 = .ok (.iadd, 1) := by decide +kernel
theorem dX5_votesAgainst_54 : decode cX5_votesAgainst 54 = .ok (.istore_n 3, 1) := by decide +kernel
theorem dX5_votesAgainst_55 : decode cX5_votesAgainst 55 = .ok (.iinc 4 1, 3) := by decide +kernel
theorem dX5_votesAgainst_58 : decode cX5_votesAgainst 58 = .ok (.goto (-53), 3) := by decide +kernel
theorem dX5_votesAgainst_61 : decode cX5_votesAgainst 61 = .ok (.iload_n 3, 1) := by decide +kernel
theorem dX5_votesAgainst_62 : decode cX5_votesAgainst 62 = .ok (.ireturn, 1) := by decide +kernel
set_option maxRecDepth 100000 in
def fX5_votesAgainst_L1 (x1 : Int32) (x2 : Int32) (t_votes_a : Nat → Int32) : (Int32 × Int32) → Option ((Int32) ⊕ (Int32 × Int32)) := un2 fun (u1 : Int32) (u2 : Int32) =>
  if 8 ≤ u2 then
    some (.inl u1)
  else
    bv ((x1 * 8) + u2) fun v4 =>
    ob (α := Int32) (
        if (x2 &&& ((1 : Int32) <<< (u2 &&& 31))) = 0 then
          some u1
        else
          if v4 < 0 then
            some u1
          else
            if 64 ≤ v4 then
              some u1
            else
              gd (bnd v4 64) <|
              bv (u1 + (t_votes_a (Int32.toNatClampNeg v4))) fun v12 =>
              some v12
      ) fun m5 =>
    bv (u2 + 1) fun v13 =>
    some (.inr (m5, v13))
set_option maxRecDepth 100000 in
def fX5_votesAgainst (x1 : Int32) (x2 : Int32) (t_votes_a : Nat → Int32) : Option (Int32) :=
  ob (it (fX5_votesAgainst_L1 x1 x2 t_votes_a) 100000 (0, 0)) fun x14 =>
  some x14
abbrev rmX5_votesAgainst : Room := { frames := 0, cells := 0, slots := 0, locals := 0 }
theorem iwX5_votesAgainst_X5 : ∀ w ∈ u_ws RX5 TX5 3, w ∈ wsX5_votesAgainst := by decide +kernel
set_option maxHeartbeats 4000000 in
set_option maxRecDepth 100000 in
theorem k_X5_votesAgainst (l : Launch) (G : va_G) (cI cJ : ClassId) (t_h t_notes_h t_votes_h t_keys_h : Nat) (sz : Nat) (t_votes_a : Nat → Int32) (x1 : Int32) (x2 : Int32) {o_r : Int32} (hf : fX5_votesAgainst x1 x2 t_votes_a = some o_r) : MetI l yX5_votesAgainst wsX5_votesAgainst rmX5_votesAgainst [.ref t_h, .int x1, .int x2] G cI cJ [(t_h, .inr (5, [.ref t_notes_h, .ref t_votes_h, .ref t_keys_h])), (t_votes_h, .inl (cI, 64, .inl t_votes_a))] [(t_h, .inr (5, [.ref t_notes_h, .ref t_votes_h, .ref t_keys_h])), (t_votes_h, .inl (cI, 64, .inl t_votes_a))] sz o_r := by
  refine en_0 (l := l) (y := yX5_votesAgainst) (wsl := wsX5_votesAgainst) (rm := rmX5_votesAgainst) (av := [.ref t_h, .int x1, .int x2]) (G := G) (cI := cI) (cJ := cJ) (w0 := [(t_h, .inr (5, [.ref t_notes_h, .ref t_votes_h, .ref t_keys_h])), (t_votes_h, .inl (cI, 64, .inl t_votes_a))]) (sz := sz) (Qf := fun A => Qi0 G cI cJ [(t_h, .inr (5, [.ref t_notes_h, .ref t_votes_h, .ref t_keys_h])), (t_votes_h, .inl (cI, 64, .inl t_votes_a))] o_r A) (cc := cX5_votesAgainst) (maxL := 6) (ret := (some .int)) RX5 (by decide +kernel) rfl rfl (Nat.le_of_ble_eq_true rfl) ?_
  intro p e s m args below meth c A ls Q hQ hx hb hr hts hown hlocks hml hN hK hP hD hS hA hl
  have hl : lv_has ls 6 [(0, .ref t_h), (1, .int x1), (2, .int x2)] := hl
  have iwX5 := iwX5_votesAgainst_X5
  have fl_15 := hts (.fieldLink RX5 15 "CloudOffice$Sheets" "votes" "[I") (by decide +kernel)
  have hret : ∀ (o_r9 : Int32) (pc : Nat) (H : Heap) (locs : List Loc) (ls : Array Slot), decode cX5_votesAgainst pc = .ok (.ireturn, 1) → some o_r9 = some o_r → va_P G vwCl [(t_h, .inr (5, [.ref t_notes_h, .ref t_votes_h, .ref t_keys_h])), (t_votes_h, .inl (cI, 64, .inl t_votes_a))] H → va_D A [(t_h, .inr (5, [.ref t_notes_h, .ref t_votes_h, .ref t_keys_h])), (t_votes_h, .inl (cI, 64, .inl t_votes_a))] → va_S A s.heap H locs → W p l e rmX5_votesAgainst s m args below meth c H locs 0 0 Q (F0 m pc ls [.int o_r9]) := by
    intro o_r9 pc H locs ls hdg he hP hD hS
    cases he
    subst hQ
    exact rt_i hx hb hr hlocks hK hP hD hS rfl hdg
  clear hQ
  unfold fX5_votesAgainst at hf
  refine lv_iconst (v := 0) hx hb dX5_votesAgainst_0 (by decide) ?_
  refine lv_istore_n (lv' := [(3, .int 0), (0, .ref t_h), (1, .int x1), (2, .int x2)]) hx hb dX5_votesAgainst_1 rfl hl (by decide) rfl (fun ls hl => ?_)
  refine lv_iconst (v := 0) hx hb dX5_votesAgainst_2 (by decide) ?_
  refine lv_istore (lv' := [(4, .int 0), (3, .int 0), (0, .ref t_h), (1, .int x1), (2, .int x2)]) hx hb dX5_votesAgainst_3 hl (by decide) rfl (fun ls hl => ?_)
  obtain ⟨x14, ht1, hf⟩ := ob_some hf
  have hx1_0 : ∀ (x149 : Int32), x149 = x14 → ∀ (H : Heap) (locs : List Loc) (ls : Array Slot), va_P G vwCl [(t_h, .inr (5, [.ref t_notes_h, .ref t_votes_h, .ref t_keys_h])), (t_votes_h, .inl (cI, 64, .inl t_votes_a))] H → va_D A [(t_h, .inr (5, [.ref t_notes_h, .ref t_votes_h, .ref t_keys_h])), (t_votes_h, .inl (cI, 64, .inl t_votes_a))] → va_S A s.heap H locs → lv_has ls 6 [(3, .int x149)] → W p l e rmX5_votesAgainst s m args below meth c H locs 0 0 Q (F0 m 61 ls []) := by
    intro x149 he H locs ls hP hD hS hl
    cases he
    refine lv_iload_n hx hb dX5_votesAgainst_61 rfl (lv_at hl 0 rfl) ?_
    exact hret x14 62 _ _ _ dX5_votesAgainst_62 hf hP hD hS
  clear hf
  have hl1 : ∀ (n : Nat) (u1 : Int32) (u2 : Int32), it (fX5_votesAgainst_L1 x1 x2 t_votes_a) n (u1, u2) = some x14 → ∀ (H : Heap) (locs : List Loc) (ls : Array Slot), va_P G vwCl [(t_h, .inr (5, [.ref t_notes_h, .ref t_votes_h, .ref t_keys_h])), (t_votes_h, .inl (cI, 64, .inl t_votes_a))] H → va_D A [(t_h, .inr (5, [.ref t_notes_h, .ref t_votes_h, .ref t_keys_h])), (t_votes_h, .inl (cI, 64, .inl t_votes_a))] → va_S A s.heap H locs → lv_has ls 6 [(0, .ref t_h), (1, .int x1), (2, .int x2), (3, .int u1), (4, .int u2)] → W p l e rmX5_votesAgainst s m args below meth c H locs 0 0 Q (F0 m 5 ls []) := by
    intro n
    induction n with
    | zero => intro u1 u2 hz; exact (it_zero hz).elim
    | succ n ih =>
      intro u1 u2 hz H locs ls hP hD hS hl
      obtain ⟨x9, hf, hq⟩ := it_succ hz
      unfold fX5_votesAgainst_L1 at hf
      dsimp only [un2] at hf
      refine lv_iload hx hb dX5_votesAgainst_5 (lv_at hl 4 rfl) ?_
      refine lv_bipush (v := 8) hx hb dX5_votesAgainst_7 (by decide) ?_
      refine lv_icmp_ge (tgt := 61) hx hb dX5_votesAgainst_9 (by decide) (fun c3 => ?_) (fun c3 => ?_)
      · have hf := ift hf c3
        cases hf
        exact hx1_0 _ hq _ _ _ hP hD hS (lv_sub hl [3] rfl)
      · have hf := iff_ hf c3
        refine lv_iload_n hx hb dX5_votesAgainst_12 rfl (lv_at hl 1 rfl) ?_
        refine lv_bipush (v := 8) hx hb dX5_votesAgainst_13 (by decide) ?_
        refine lv_imul hx hb dX5_votesAgainst_15 ?_
        refine lv_iload hx hb dX5_votesAgainst_16 (lv_at hl 4 rfl) ?_
        refine lv_iadd hx hb dX5_votesAgainst_18 ?_
        refine lv_topi (fun v4 ev4 => ?_)
        have hf := bv_at ev4 hf
        refine lv_istore (lv' := [(5, .int v4), (0, .ref t_h), (1, .int x1), (2, .int x2), (3, .int u1), (4, .int u2)]) hx hb dX5_votesAgainst_19 hl (by decide) rfl (fun ls hl => ?_)
        refine lv_iload_n hx hb dX5_votesAgainst_21 rfl (lv_at hl 3 rfl) ?_
        refine lv_iconst (v := 1) hx hb dX5_votesAgainst_22 (by decide) ?_
        refine lv_iload hx hb dX5_votesAgainst_23 (lv_at hl 5 rfl) ?_
        refine lv_ishl hx hb dX5_votesAgainst_25 ?_
        refine lv_iand hx hb dX5_votesAgainst_26 ?_
        obtain ⟨m5, hr6, hf⟩ := ob_some hf
        have hj7 : ∀ (m59 : Int32), some m59 = some m5 → ∀ (H : Heap) (locs : List Loc) (ls : Array Slot), va_P G vwCl [(t_h, .inr (5, [.ref t_notes_h, .ref t_votes_h, .ref t_keys_h])), (t_votes_h, .inl (cI, 64, .inl t_votes_a))] H → va_D A [(t_h, .inr (5, [.ref t_notes_h, .ref t_votes_h, .ref t_keys_h])), (t_votes_h, .inl (cI, 64, .inl t_votes_a))] → va_S A s.heap H locs → lv_has ls 6 [(0, .ref t_h), (1, .int x1), (2, .int x2), (3, .int m59), (4, .int u2)] → W p l e rmX5_votesAgainst s m args below meth c H locs 0 0 Q (F0 m 55 ls []) := by
          intro m59 he H locs ls hP hD hS hl
          cases he
          obtain ⟨v13, ev13⟩ : ∃ y : Int32, y = u2 + 1 := ⟨_, rfl⟩
          have hf := bv_at ev13 hf
          refine lv_iinc (v := v13) (lv' := [(4, .int v13), (0, .ref t_h), (1, .int x1), (2, .int x2), (3, .int m5)]) hx hb dX5_votesAgainst_55 hl (k := 4) rfl (by rw [ev13]; rfl) (by decide) rfl (fun ls hl => ?_)
          refine lv_goto (tgt := 5) hx hb dX5_votesAgainst_58 (by decide) ?_
          cases hf
          exact ih _ _ hq _ _ _ hP hD hS (lv_sub hl [1, 2, 3, 4, 0] rfl)
        replace hf := hr6
        refine lv_if_eq (tgt := 55) hx hb dX5_votesAgainst_27 (by decide) (fun c8 => ?_) (fun c8 => ?_)
        · have hf := ift hf c8
          exact hj7 _ hf _ _ _ hP hD hS (lv_sub hl [1, 2, 3, 4, 5] rfl)
        · have hf := iff_ hf c8
          refine lv_iload hx hb dX5_votesAgainst_30 (lv_at hl 0 rfl) ?_
          refine lv_if_lt (tgt := 55) hx hb dX5_votesAgainst_32 (by decide) (fun c9 => ?_) (fun c9 => ?_)
          · have hf := ift hf c9
            exact hj7 _ hf _ _ _ hP hD hS (lv_sub hl [1, 2, 3, 4, 5] rfl)
          · have hf := iff_ hf c9
            refine lv_iload hx hb dX5_votesAgainst_35 (lv_at hl 0 rfl) ?_
            refine lv_aload_n hx hb dX5_votesAgainst_37 rfl (lv_at hl 1 rfl) ?_
            refine va_get (D := G) (ci := 5) (v := .ref t_votes_h) (C := RX5) (T := TX5) (N := 3) hx hb hts iwX5 hown hK hP 0 rfl rfl 1 (by decide) fl_15 (fun _ h9 => h9) rfl dX5_votesAgainst_38 ?_
            refine va_alen (v := 64) hx hb hK hP 1 0 rfl rfl rfl dX5_votesAgainst_41 ?_
            refine lv_icmp_ge (tgt := 55) hx hb dX5_votesAgainst_42 (by decide) (fun c10 => ?_) (fun c10 => ?_)
            · have hf := ift hf c10
              exact hj7 _ hf _ _ _ hP hD hS (lv_sub hl [1, 2, 3, 4, 5] rfl)
            · have hf := iff_ hf c10
              refine lv_iload_n hx hb dX5_votesAgainst_45 rfl (lv_at hl 4 rfl) ?_
              refine lv_aload_n hx hb dX5_votesAgainst_46 rfl (lv_at hl 1 rfl) ?_
              refine va_get (D := G) (ci := 5) (v := .ref t_votes_h) (C := RX5) (T := TX5) (N := 3) hx hb hts iwX5 hown hK hP 0 rfl rfl 1 (by decide) fl_15 (fun _ h9 => h9) rfl dX5_votesAgainst_47 ?_
              refine lv_iload hx hb dX5_votesAgainst_50 (lv_at hl 0 rfl) ?_
              obtain ⟨h11, hf⟩ := gd_some hf
              refine va_iald hx hb hK hP 1 0 rfl rfl (bnd_in h11) dX5_votesAgainst_52 ?_
              refine lv_iadd hx hb dX5_votesAgainst_53 ?_
              refine lv_topi (fun v12 ev12 => ?_)
              have hf := bv_at ev12 hf
              refine lv_istore_n (lv' := [(3, .int v12), (5, .int v4), (0, .ref t_h), (1, .int x1), (2, .int x2), (4, .int u2)]) hx hb dX5_votesAgainst_54 rfl hl (by decide) rfl (fun ls hl => ?_)
              exact hj7 _ hf _ _ _ hP hD hS (lv_sub hl [2, 3, 4, 0, 5] rfl)
  exact hl1 _ _ _ ht1 _ _ _ hP hD hS (lv_sub hl [2, 3, 4, 1, 0] rfl)
set_option maxRecDepth 20000 in
theorem ggX5_bestOf_J6_bitCount_0f7a4 : GoodIn wsX5_bestOf wsJ6_bitCount_0f7a4 := goodIn_r _ [10, 11, 12, 13] (by decide +kernel) (by decide +kernel)
set_option maxRecDepth 20000 in
theorem gX5_bestOf_J6_bitCount_0f7a4 : GoodIn wsX5_bestOf (va_wsS RX5 40 yJ6_bitCount_0f7a4 wsJ6_bitCount_0f7a4) := goodIn_app (goodIn_of _ (by decide +kernel)) ggX5_bestOf_J6_bitCount_0f7a4
set_option maxRecDepth 20000 in
theorem ggX5_bestOf_X5_votesAgainst : GoodIn wsX5_bestOf wsX5_votesAgainst := goodIn_r _ [18, 19, 20, 21, 22] (by decide +kernel) (by decide +kernel)
set_option maxRecDepth 20000 in
theorem gX5_bestOf_X5_votesAgainst : GoodIn wsX5_bestOf (wsV RX5 48 RX5 yX5_votesAgainst wsX5_votesAgainst) := goodIn_app (goodIn_of _ (by decide +kernel)) ggX5_bestOf_X5_votesAgainst
theorem dX5_bestOf_0 : decode cX5_bestOf 0 = .ok (.iconst 3, 1) := by decide +kernel
theorem dX5_bestOf_1 : decode cX5_bestOf 1 = .ok (.bipush 8, 2) := by decide +kernel
theorem dX5_bestOf_3 : decode cX5_bestOf 3 = .ok (.iload_n 1, 1) := by decide +kernel
theorem dX5_bestOf_4 : decode cX5_bestOf 4 = .ok (.invokestatic 40, 3) := by decide +kernel
theorem dX5_bestOf_7 : decode cX5_bestOf 7 = .ok (.isub, 1) := by decide +kernel
theorem dX5_bestOf_8 : decode cX5_bestOf 8 = .ok (.imul, 1) := by decide +kernel
theorem dX5_bestOf_9 : decode cX5_bestOf 9 = .ok (.istore_n 2, 1) := by decide +kernel
theorem dX5_bestOf_10 : decode cX5_bestOf 10 = .ok (.ldc2_w 46, 3) := by decide +kernel
theorem dX5_bestOf_13 : decode cX5_bestOf 13 = .ok (.lstore_n 3, 1) := by decide +kernel
theorem dX5_bestOf_14 : decode cX5_bestOf 14 = .ok (.iconst 0, 1) := by decide +kernel
theorem dX5_bestOf_15 : decode cX5_bestOf 15 = .ok (.istore 5, 2) := by decide +kernel
theorem dX5_bestOf_17 : decode cX5_bestOf 17 = .ok (.iload 5, 2) := by decide +kernel
theorem dX5_bestOf_19 : decode cX5_bestOf 19 = .ok (.bipush 8, 2) := by decide +kernel
theorem dX5_bestOf_21 : decode cX5_bestOf 21 = .ok (.if_icmp .ge 73, 3) := by decide +kernel
theorem dX5_bestOf_24 : decode cX5_bestOf 24 = .ok (.iload_n 1, 1) := by decide +kernel
theorem dX5_bestOf_25 : decode cX5_bestOf 25 = .ok (.iconst 1, 1) := by decide +kernel
theorem dX5_bestOf_26 : decode cX5_bestOf 26 = .ok (.iload 5, 2) := by decide +kernel
theorem dX5_bestOf_28 : decode cX5_bestOf 28 = .ok (.ishl, 1) := by decide +kernel
theorem dX5_bestOf_29 : decode cX5_bestOf 29 = .ok (.iconst (-1), 1) := by decide +kernel
theorem dX5_bestOf_30 : decode cX5_bestOf 30 = .ok (.ixor, 1) := by decide +kernel
theorem dX5_bestOf_31 : decode cX5_bestOf 31 = .ok (.iand, 1) := by decide +kernel
theorem dX5_bestOf_32 : decode cX5_bestOf 32 = .ok (.istore 6, 2) := by decide +kernel
theorem dX5_bestOf_34 : decode cX5_bestOf 34 = .ok (.iload 6, 2) := by decide +kernel
theorem dX5_bestOf_36 : decode cX5_bestOf 36 = .ok (.iload_n 1, 1) := by decide +kernel
theorem dX5_bestOf_37 : decode cX5_bestOf 37 = .ok (.if_icmp .eq 51, 3) := by decide +kernel
theorem dX5_bestOf_40 : decode cX5_bestOf 40 = .ok (.iload 6, 2) := by decide +kernel
theorem dX5_bestOf_42 : decode cX5_bestOf 42 = .ok (.ifCond .lt 46, 3) := by decide +kernel
theorem dX5_bestOf_45 : decode cX5_bestOf 45 = .ok (.iload 6, 2) := by decide +kernel
theorem dX5_bestOf_47 : decode cX5_bestOf 47 = .ok (.sipush 256, 3) := by decide +kernel
theorem dX5_bestOf_50 : decode cX5_bestOf 50 = .ok (.if_icmp .ge 38, 3) := by decide +kernel
theorem dX5_bestOf_53 : decode cX5_bestOf 53 = .ok (.aload_n 0, 1) := by decide +kernel
theorem dX5_bestOf_54 : decode cX5_bestOf 54 = .ok (.iload 5, 2) := by decide +kernel
theorem dX5_bestOf_56 : decode cX5_bestOf 56 = .ok (.iload 6, 2) := by decide +kernel
theorem dX5_bestOf_58 : decode cX5_bestOf 58 = .ok (.invokevirtual 48, 3) := by decide +kernel
theorem dX5_bestOf_61 : decode cX5_bestOf 61 = .ok (.i2l, 1) := by decide +kernel
theorem dX5_bestOf_62 : decode cX5_bestOf 62 = .ok (.lstore 7, 2) := by decide +kernel
theorem dX5_bestOf_64 : decode cX5_bestOf 64 = .ok (.lload_n 3, 1) := by decide +kernel
theorem dX5_bestOf_65 : decode cX5_bestOf 65 = .ok (.aload_n 0, 1) := by decide +kernel
theorem dX5_bestOf_66 : decode cX5_bestOf 66 = .ok (.getfield 19, 3) := by decide +kernel
theorem dX5_bestOf_69 : decode cX5_bestOf 69 = .ok (.iload 6, 2) := by decide +kernel
theorem dX5_bestOf_71 : decode cX5_bestOf 71 = .ok (.laload, 1) := by decide +kernel
theorem dX5_bestOf_72 : decode cX5_bestOf 72 = .ok (.lload 7, 2) := by decide +kernel
theorem dX5_bestOf_74 : decode cX5_bestOf 74 = .ok (.bipush 24, 2) := by decide +kernel
theorem dX5_bestOf_76 : decode cX5_bestOf 76 = .ok (.lshl, 1) := by decide +kernel
theorem dX5_bestOf_77 : decode cX5_bestOf 77 = .ok (.ladd, 1) := by decide +kernel
theorem dX5_bestOf_78 : decode cX5_bestOf 78 = .ok (.iload 5, 2) := by decide +kernel
theorem dX5_bestOf_80 : decode cX5_bestOf 80 = .ok (.i2l, 1) := by decide +kernel
theorem dX5_bestOf_81 : decode cX5_bestOf 81 = .ok (.iload_n 2, 1) := by decide +kernel
theorem dX5_bestOf_82 : decode cX5_bestOf 82 = .ok (.lshl, 1) := by decide +kernel
theorem dX5_bestOf_83 : decode cX5_bestOf 83 = .ok (.ladd, 1) := by decide +kernel
theorem dX5_bestOf_84 : decode cX5_bestOf 84 = .ok (.invokestatic 51, 3) := by decide +kernel
theorem dX5_bestOf_87 : decode cX5_bestOf 87 = .ok (.lstore_n 3, 1) := by decide +kernel
theorem dX5_bestOf_88 : decode cX5_bestOf 88 = .ok (.iinc 5 1, 3) := by decide +kernel
theorem dX5_bestOf_91 : decode cX5_bestOf 91 = .ok (.goto (-74), 3) := by decide +kernel
theorem dX5_bestOf_94 : decode cX5_bestOf 94 = .ok (.lload_n 3, 1) := by decide +kernel
theorem dX5_bestOf_95 : decode cX5_bestOf 95 = .ok (.lreturn, 1) := by decide +kernel
set_option maxRecDepth 100000 in
def fX5_bestOf_L1 (x1 : Int32) (t_votes_a : Nat → Int32) (t_keys_a : Nat → Int64) (v3 : Int32) : (Int64 × Int32) → Option ((Int64) ⊕ (Int64 × Int32)) := un2 fun (u4 : Int64) (u5 : Int32) =>
  if 8 ≤ u5 then
    some (.inl u4)
  else
    bv (x1 &&& (((1 : Int32) <<< (u5 &&& 31)) ^^^ (-1))) fun v7 =>
    ob (α := Int64) (
        if v7 = x1 then
          some u4
        else
          if v7 < 0 then
            some u4
          else
            if 256 ≤ v7 then
              some u4
            else
              ob (fX5_votesAgainst u5 v7 t_votes_a) fun r14 =>
              bv (Int32.toInt64 r14) fun v16 =>
              gd (bnd v7 256) <|
              bv (if (((t_keys_a (Int32.toNatClampNeg v7)) + (v16 <<< (Int32.toInt64 24 &&& 63))) + ((Int32.toInt64 u5) <<< (Int32.toInt64 v3 &&& 63))) < u4 then (((t_keys_a (Int32.toNatClampNeg v7)) + (v16 <<< (Int32.toInt64 24 &&& 63))) + ((Int32.toInt64 u5) <<< (Int32.toInt64 v3 &&& 63))) else u4) fun v18 =>
              some v18
      ) fun m8 =>
    bv (u5 + 1) fun v19 =>
    some (.inr (m8, v19))
set_option maxRecDepth 100000 in
def fX5_bestOf (x1 : Int32) (t_votes_a : Nat → Int32) (t_keys_a : Nat → Int64) : Option (Int64) :=
  ob (fJ6_bitCount_0f7a4 x1) fun r1 =>
  bv (3 * (8 - r1)) fun v3 =>
  ob (it (fX5_bestOf_L1 x1 t_votes_a t_keys_a v3) 100000 (1152921504606846976, 0)) fun x20 =>
  some x20
abbrev rmX5_bestOf : Room := { frames := 1, cells := 0, slots := 0, locals := 25 }
theorem iwX5_bestOf_X5 : ∀ w ∈ u_ws RX5 TX5 3, w ∈ wsX5_bestOf := by decide +kernel
set_option maxHeartbeats 4000000 in
set_option maxRecDepth 100000 in
theorem k_X5_bestOf (l : Launch) (G : va_G) (cI cJ : ClassId) (t_h t_notes_h t_votes_h t_keys_h : Nat) (sz : Nat) (t_votes_a : Nat → Int32) (t_keys_a : Nat → Int64) (x1 : Int32) {o_r : Int64} (hf : fX5_bestOf x1 t_votes_a t_keys_a = some o_r) : MetL l yX5_bestOf wsX5_bestOf rmX5_bestOf [.ref t_h, .int x1] G cI cJ [(t_h, .inr (5, [.ref t_notes_h, .ref t_votes_h, .ref t_keys_h])), (t_votes_h, .inl (cI, 64, .inl t_votes_a)), (t_keys_h, .inl (cJ, 256, .inr (.inl t_keys_a)))] [(t_h, .inr (5, [.ref t_notes_h, .ref t_votes_h, .ref t_keys_h])), (t_votes_h, .inl (cI, 64, .inl t_votes_a)), (t_keys_h, .inl (cJ, 256, .inr (.inl t_keys_a)))] sz o_r := by
  refine en_0 (l := l) (y := yX5_bestOf) (wsl := wsX5_bestOf) (rm := rmX5_bestOf) (av := [.ref t_h, .int x1]) (G := G) (cI := cI) (cJ := cJ) (w0 := [(t_h, .inr (5, [.ref t_notes_h, .ref t_votes_h, .ref t_keys_h])), (t_votes_h, .inl (cI, 64, .inl t_votes_a)), (t_keys_h, .inl (cJ, 256, .inr (.inl t_keys_a)))]) (sz := sz) (Qf := fun A => Ql0 G cI cJ [(t_h, .inr (5, [.ref t_notes_h, .ref t_votes_h, .ref t_keys_h])), (t_votes_h, .inl (cI, 64, .inl t_votes_a)), (t_keys_h, .inl (cJ, 256, .inr (.inl t_keys_a)))] o_r A) (cc := cX5_bestOf) (maxL := 9) (ret := (some .long)) RX5 (by decide +kernel) rfl rfl (Nat.le_of_ble_eq_true rfl) ?_
  intro p e s m args below meth c A ls Q hQ hx hb hr hts hown hlocks hml hN hK hP hD hS hA hl
  have hl : lv_has ls 9 [(0, .ref t_h), (1, .int x1)] := hl
  have iwX5 := iwX5_bestOf_X5
  have fl_19 := hts (.fieldLink RX5 19 "CloudOffice$Sheets" "keys" "[J") (by decide +kernel)
  have kc_46 := hts (.constantLong RX5 46 (1152921504606846976)) (by decide +kernel)
  have lb_51 := hts (.methodLink RX5 51 Lib.MathLoose.min_long.x) (by decide +kernel)
  have lbs_51 := hts (.static Lib.MathLoose.min_long.x) (by decide +kernel)
  have lbi_51 := hts (.initialized "java/lang/Math") (by decide +kernel)
  have lbc_51 := hts (.code Lib.MathLoose.min_long.x Lib.MathLoose.min_long.code 4 (some .long)) (by decide +kernel)
  have hret : ∀ (o_r9 : Int64) (pc : Nat) (H : Heap) (locs : List Loc) (ls : Array Slot), decode cX5_bestOf pc = .ok (.lreturn, 1) → some o_r9 = some o_r → va_P G vwCl [(t_h, .inr (5, [.ref t_notes_h, .ref t_votes_h, .ref t_keys_h])), (t_votes_h, .inl (cI, 64, .inl t_votes_a)), (t_keys_h, .inl (cJ, 256, .inr (.inl t_keys_a)))] H → va_D A [(t_h, .inr (5, [.ref t_notes_h, .ref t_votes_h, .ref t_keys_h])), (t_votes_h, .inl (cI, 64, .inl t_votes_a)), (t_keys_h, .inl (cJ, 256, .inr (.inl t_keys_a)))] → va_S A s.heap H locs → W p l e rmX5_bestOf s m args below meth c H locs 0 0 Q (F0 m pc ls [.long o_r9]) := by
    intro o_r9 pc H locs ls hdg he hP hD hS
    cases he
    subst hQ
    exact rt_l hx hb hr hlocks hK hP hD hS rfl hdg
  clear hQ
  unfold fX5_bestOf at hf
  refine lv_iconst (v := 3) hx hb dX5_bestOf_0 (by decide) ?_
  refine lv_bipush (v := 8) hx hb dX5_bestOf_1 (by decide) ?_
  refine lv_iload_n hx hb dX5_bestOf_3 rfl (lv_at hl 1 rfl) ?_
  obtain ⟨r1, hc2, hf⟩ := ob_some hf
  refine af_iR (va_runS (As := [.int x1]) (rest := [.int 8, .int 3]) ⟨hx, hb, hml, hown, hts⟩ (k_J6_bitCount_0f7a4 l G cI cJ (x0 := x1) (sz := _) (hf := hc2)) (va_cwS 1 hts gX5_bestOf_J6_bitCount_0f7a4 rfl rfl rfl (by decide +kernel) ⟨Nat.le_of_ble_eq_true rfl, Nat.le_of_ble_eq_true rfl⟩) (preS0 (wc := []) hK hP hD hN [] rfl rfl (by decide)) rfl rfl hl.1 rfl (lv_room (Nat.le_of_ble_eq_true rfl)) dX5_bestOf_4 ⟨Nat.zero_le _, Nat.zero_le _⟩) hP hD hS hA [] rfl (fun H locs hP hS => ?_)
  refine lv_isub hx hb dX5_bestOf_7 ?_
  refine lv_imul hx hb dX5_bestOf_8 ?_
  refine lv_topi (fun v3 ev3 => ?_)
  have hf := bv_at ev3 hf
  refine lv_istore_n (lv' := [(2, .int v3), (0, .ref t_h), (1, .int x1)]) hx hb dX5_bestOf_9 rfl hl (by decide) rfl (fun ls hl => ?_)
  refine lv_ldc2 (v := 1152921504606846976) hx hb hown kc_46 dX5_bestOf_10 ?_
  refine lv_lstore_n (lv' := [(3, .long 1152921504606846976), (2, .int v3), (0, .ref t_h), (1, .int x1)]) hx hb dX5_bestOf_13 rfl hl (by decide) rfl (fun ls hl => ?_)
  refine lv_iconst (v := 0) hx hb dX5_bestOf_14 (by decide) ?_
  refine lv_istore (lv' := [(5, .int 0), (3, .long 1152921504606846976), (2, .int v3), (0, .ref t_h), (1, .int x1)]) hx hb dX5_bestOf_15 hl (by decide) rfl (fun ls hl => ?_)
  obtain ⟨x20, ht1, hf⟩ := ob_some hf
  have hx1_0 : ∀ (x209 : Int64), x209 = x20 → ∀ (H : Heap) (locs : List Loc) (ls : Array Slot), va_P G vwCl [(t_h, .inr (5, [.ref t_notes_h, .ref t_votes_h, .ref t_keys_h])), (t_votes_h, .inl (cI, 64, .inl t_votes_a)), (t_keys_h, .inl (cJ, 256, .inr (.inl t_keys_a)))] H → va_D A [(t_h, .inr (5, [.ref t_notes_h, .ref t_votes_h, .ref t_keys_h])), (t_votes_h, .inl (cI, 64, .inl t_votes_a)), (t_keys_h, .inl (cJ, 256, .inr (.inl t_keys_a)))] → va_S A s.heap H locs → lv_has ls 9 [(3, .long x209)] → W p l e rmX5_bestOf s m args below meth c H locs 0 0 Q (F0 m 94 ls []) := by
    intro x209 he H locs ls hP hD hS hl
    cases he
    refine lv_lload_n hx hb dX5_bestOf_94 rfl (lv_at hl 0 rfl) ?_
    exact hret x20 95 _ _ _ dX5_bestOf_95 hf hP hD hS
  clear hf
  have hl1 : ∀ (n : Nat) (u4 : Int64) (u5 : Int32), it (fX5_bestOf_L1 x1 t_votes_a t_keys_a v3) n (u4, u5) = some x20 → ∀ (H : Heap) (locs : List Loc) (ls : Array Slot), va_P G vwCl [(t_h, .inr (5, [.ref t_notes_h, .ref t_votes_h, .ref t_keys_h])), (t_votes_h, .inl (cI, 64, .inl t_votes_a)), (t_keys_h, .inl (cJ, 256, .inr (.inl t_keys_a)))] H → va_D A [(t_h, .inr (5, [.ref t_notes_h, .ref t_votes_h, .ref t_keys_h])), (t_votes_h, .inl (cI, 64, .inl t_votes_a)), (t_keys_h, .inl (cJ, 256, .inr (.inl t_keys_a)))] → va_S A s.heap H locs → lv_has ls 9 [(0, .ref t_h), (1, .int x1), (2, .int v3), (3, .long u4), (5, .int u5)] → W p l e rmX5_bestOf s m args below meth c H locs 0 0 Q (F0 m 17 ls []) := by
    intro n
    induction n with
    | zero => intro u4 u5 hz; exact (it_zero hz).elim
    | succ n ih =>
      intro u4 u5 hz H locs ls hP hD hS hl
      obtain ⟨x9, hf, hq⟩ := it_succ hz
      unfold fX5_bestOf_L1 at hf
      dsimp only [un2] at hf
      refine lv_iload hx hb dX5_bestOf_17 (lv_at hl 4 rfl) ?_
      refine lv_bipush (v := 8) hx hb dX5_bestOf_19 (by decide) ?_
      refine lv_icmp_ge (tgt := 94) hx hb dX5_bestOf_21 (by decide) (fun c6 => ?_) (fun c6 => ?_)
      · have hf := ift hf c6
        cases hf
        exact hx1_0 _ hq _ _ _ hP hD hS (lv_sub hl [3] rfl)
      · have hf := iff_ hf c6
        refine lv_iload_n hx hb dX5_bestOf_24 rfl (lv_at hl 1 rfl) ?_
        refine lv_iconst (v := 1) hx hb dX5_bestOf_25 (by decide) ?_
        refine lv_iload hx hb dX5_bestOf_26 (lv_at hl 4 rfl) ?_
        refine lv_ishl hx hb dX5_bestOf_28 ?_
        refine lv_iconst (v := (-1)) hx hb dX5_bestOf_29 (by decide) ?_
        refine lv_ixor hx hb dX5_bestOf_30 ?_
        refine lv_iand hx hb dX5_bestOf_31 ?_
        refine lv_topi (fun v7 ev7 => ?_)
        have hf := bv_at ev7 hf
        refine lv_istore (lv' := [(6, .int v7), (0, .ref t_h), (1, .int x1), (2, .int v3), (3, .long u4), (5, .int u5)]) hx hb dX5_bestOf_32 hl (by decide) rfl (fun ls hl => ?_)
        refine lv_iload hx hb dX5_bestOf_34 (lv_at hl 0 rfl) ?_
        refine lv_iload_n hx hb dX5_bestOf_36 rfl (lv_at hl 2 rfl) ?_
        obtain ⟨m8, hr9, hf⟩ := ob_some hf
        have hj10 : ∀ (m89 : Int64), some m89 = some m8 → ∀ (H : Heap) (locs : List Loc) (ls : Array Slot), va_P G vwCl [(t_h, .inr (5, [.ref t_notes_h, .ref t_votes_h, .ref t_keys_h])), (t_votes_h, .inl (cI, 64, .inl t_votes_a)), (t_keys_h, .inl (cJ, 256, .inr (.inl t_keys_a)))] H → va_D A [(t_h, .inr (5, [.ref t_notes_h, .ref t_votes_h, .ref t_keys_h])), (t_votes_h, .inl (cI, 64, .inl t_votes_a)), (t_keys_h, .inl (cJ, 256, .inr (.inl t_keys_a)))] → va_S A s.heap H locs → lv_has ls 9 [(0, .ref t_h), (1, .int x1), (2, .int v3), (3, .long m89), (5, .int u5)] → W p l e rmX5_bestOf s m args below meth c H locs 0 0 Q (F0 m 88 ls []) := by
          intro m89 he H locs ls hP hD hS hl
          cases he
          obtain ⟨v19, ev19⟩ : ∃ y : Int32, y = u5 + 1 := ⟨_, rfl⟩
          have hf := bv_at ev19 hf
          refine lv_iinc (v := v19) (lv' := [(5, .int v19), (0, .ref t_h), (1, .int x1), (2, .int v3), (3, .long m8)]) hx hb dX5_bestOf_88 hl (k := 4) rfl (by rw [ev19]; rfl) (by decide) rfl (fun ls hl => ?_)
          refine lv_goto (tgt := 17) hx hb dX5_bestOf_91 (by decide) ?_
          cases hf
          exact ih _ _ hq _ _ _ hP hD hS (lv_sub hl [1, 2, 3, 4, 0] rfl)
        replace hf := hr9
        refine lv_icmp_eq (tgt := 88) hx hb dX5_bestOf_37 (by decide) (fun c11 => ?_) (fun c11 => ?_)
        · have hf := ift hf c11
          exact hj10 _ hf _ _ _ hP hD hS (lv_sub hl [1, 2, 3, 4, 5] rfl)
        · have hf := iff_ hf c11
          refine lv_iload hx hb dX5_bestOf_40 (lv_at hl 0 rfl) ?_
          refine lv_if_lt (tgt := 88) hx hb dX5_bestOf_42 (by decide) (fun c12 => ?_) (fun c12 => ?_)
          · have hf := ift hf c12
            exact hj10 _ hf _ _ _ hP hD hS (lv_sub hl [1, 2, 3, 4, 5] rfl)
          · have hf := iff_ hf c12
            refine lv_iload hx hb dX5_bestOf_45 (lv_at hl 0 rfl) ?_
            refine lv_sipush (v := 256) hx hb dX5_bestOf_47 (by decide) ?_
            refine lv_icmp_ge (tgt := 88) hx hb dX5_bestOf_50 (by decide) (fun c13 => ?_) (fun c13 => ?_)
            · have hf := ift hf c13
              exact hj10 _ hf _ _ _ hP hD hS (lv_sub hl [1, 2, 3, 4, 5] rfl)
            · have hf := iff_ hf c13
              refine lv_aload_n hx hb dX5_bestOf_53 rfl (lv_at hl 1 rfl) ?_
              refine lv_iload hx hb dX5_bestOf_54 (lv_at hl 5 rfl) ?_
              refine lv_iload hx hb dX5_bestOf_56 (lv_at hl 0 rfl) ?_
              obtain ⟨r14, hc15, hf⟩ := ob_some hf
              refine af_iR (va_runV (As := [.int u5, .int v7]) (rest := []) ⟨hx, hb, hml, hown, hts⟩ (k_X5_votesAgainst l G cI cJ (t_h := t_h) (t_notes_h := t_notes_h) (t_votes_h := t_votes_h) (t_keys_h := t_keys_h) (t_votes_a := t_votes_a) (x1 := u5) (x2 := v7) (sz := _) (hf := hc15)) (cwV 2 hts gX5_bestOf_X5_votesAgainst rfl rfl rfl (by decide +kernel) ⟨Nat.le_of_ble_eq_true rfl, Nat.le_of_ble_eq_true rfl⟩) (preV0 (ci := 5) (q0 := 0) (C := RX5) (wc := [(t_h, .inr (5, [.ref t_notes_h, .ref t_votes_h, .ref t_keys_h])), (t_votes_h, .inl (cI, 64, .inl t_votes_a))]) hK hP hD hN [0, 1] rfl rfl (by decide) rfl rfl) rfl rfl hl.1 rfl (lv_room (Nat.le_of_ble_eq_true rfl)) dX5_bestOf_58 ⟨Nat.zero_le _, Nat.zero_le _⟩) hP hD hS hA [0, 1] rfl (fun H locs hP hS => ?_)
              refine lv_i2l (v := Int32.toInt64 r14) hx hb dX5_bestOf_61 rfl ?_
              refine lv_topl (fun v16 ev16 => ?_)
              have hf := bv_at ev16 hf
              refine lv_lstore (lv' := [(7, .long v16), (6, .int v7), (0, .ref t_h), (1, .int x1), (2, .int v3), (3, .long u4), (5, .int u5)]) hx hb dX5_bestOf_62 hl (by decide) rfl (fun ls hl => ?_)
              refine lv_lload_n hx hb dX5_bestOf_64 rfl (lv_at hl 5 rfl) ?_
              refine lv_aload_n hx hb dX5_bestOf_65 rfl (lv_at hl 2 rfl) ?_
              refine va_get (D := G) (ci := 5) (v := .ref t_keys_h) (C := RX5) (T := TX5) (N := 3) hx hb hts iwX5 hown hK hP 0 rfl rfl 2 (by decide) fl_19 (fun _ h9 => h9) rfl dX5_bestOf_66 ?_
              refine lv_iload hx hb dX5_bestOf_69 (lv_at hl 1 rfl) ?_
              obtain ⟨h17, hf⟩ := gd_some hf
              refine va_lald hx hb hK hP 2 1 rfl rfl (bnd_in h17) dX5_bestOf_71 ?_
              refine lv_lload hx hb dX5_bestOf_72 (lv_at hl 0 rfl) ?_
              refine lv_bipush (v := 24) hx hb dX5_bestOf_74 (by decide) ?_
              refine lv_lshl (v := v16 <<< (Int32.toInt64 24 &&& 63)) hx hb dX5_bestOf_76 rfl ?_
              refine lv_ladd hx hb dX5_bestOf_77 ?_
              refine lv_iload hx hb dX5_bestOf_78 (lv_at hl 6 rfl) ?_
              refine lv_i2l (v := Int32.toInt64 u5) hx hb dX5_bestOf_80 rfl ?_
              refine lv_iload_n hx hb dX5_bestOf_81 rfl (lv_at hl 4 rfl) ?_
              refine lv_lshl (v := (Int32.toInt64 u5) <<< (Int32.toInt64 v3 &&& 63)) hx hb dX5_bestOf_82 rfl ?_
              refine lv_ladd hx hb dX5_bestOf_83 ?_
              refine va_mmin_long hx hb (hml.trans hl.1.symm) hown lb_51 lbs_51 lbi_51 lbc_51 (Nat.le_of_ble_eq_true rfl) (Nat.le_of_ble_eq_true rfl) (Nat.zero_le _) (Nat.zero_le _) dX5_bestOf_84 ?_
              refine lv_topl (fun v18 ev18 => ?_)
              have hf := bv_at ev18 hf
              refine lv_lstore_n (lv' := [(3, .long v18), (7, .long v16), (6, .int v7), (0, .ref t_h), (1, .int x1), (2, .int v3), (5, .int u5)]) hx hb dX5_bestOf_87 rfl hl (by decide) rfl (fun ls hl => ?_)
              exact hj10 _ hf _ _ _ hP hD hS (lv_sub hl [3, 4, 5, 0, 6] rfl)
  exact hl1 _ _ _ ht1 _ _ _ hP hD hS (lv_sub hl [3, 4, 2, 1, 0] rfl)
set_option maxRecDepth 20000 in
theorem ggX5_countVotes_X7_size : GoodIn wsX5_countVotes wsX7_size := goodIn_r _ [7, 8, 18, 19, 20, 21] (by decide +kernel) (by decide +kernel)
set_option maxRecDepth 20000 in
theorem gX5_countVotes_X7_size : GoodIn wsX5_countVotes (wsV RX5 30 RX7 yX7_size wsX7_size) := goodIn_app (goodIn_of _ (by decide +kernel)) ggX5_countVotes_X7_size
set_option maxRecDepth 20000 in
theorem ggX5_countVotes_X7_at : GoodIn wsX5_countVotes wsX7_at := goodIn_r _ [12, 13, 14, 18, 19, 20, 21] (by decide +kernel) (by decide +kernel)
set_option maxRecDepth 20000 in
theorem gX5_countVotes_X7_at : GoodIn wsX5_countVotes (wsV RX5 36 RX7 yX7_at wsX7_at) := goodIn_app (goodIn_of _ (by decide +kernel)) ggX5_countVotes_X7_at
theorem dX5_countVotes_0 : decode cX5_countVotes 0 = .ok (.iconst 0, 1) := by decide +kernel
theorem dX5_countVotes_1 : decode cX5_countVotes 1 = .ok (.istore_n 1, 1) := by decide +kernel
theorem dX5_countVotes_2 : decode cX5_countVotes 2 = .ok (.iload_n 1, 1) := by decide +kernel
theorem dX5_countVotes_3 : decode cX5_countVotes 3 = .ok (.aload_n 0, 1) := by decide +kernel
theorem dX5_countVotes_4 : decode cX5_countVotes 4 = .ok (.getfield 15, 3) := by decide +kernel
theorem dX5_countVotes_7 : decode cX5_countVotes 7 = .ok (.arraylength, 1) := by decide +kernel
theorem dX5_countVotes_8 : decode cX5_countVotes 8 = .ok (.if_icmp .ge 16, 3) := by decide +kernel
theorem dX5_countVotes_11 : decode cX5_countVotes 11 = .ok (.aload_n 0, 1) := by decide +kernel
theorem dX5_countVotes_12 : decode cX5_countVotes 12 = .ok (.getfield 15, 3) := by decide +kernel
theorem dX5_countVotes_15 : decode cX5_countVotes 15 = .ok (.iload_n 1, 1) := by decide +kernel
theorem dX5_countVotes_16 : decode cX5_countVotes 16 = .ok (.iconst 0, 1) := by decide +kernel
theorem dX5_countVotes_17 : decode cX5_countVotes 17 = .ok (.iastore, 1) := by decide +kernel
theorem dX5_countVotes_18 : decode cX5_countVotes 18 = .ok (.iinc 1 1, 3) := by decide +kernel
theorem dX5_countVotes_21 : decode cX5_countVotes 21 = .ok (.goto (-19), 3) := by decide +kernel
theorem dX5_countVotes_24 : decode cX5_countVotes 24 = .ok (.iconst 0, 1) := by decide +kernel
theorem dX5_countVotes_25 : decode cX5_countVotes 25 = .ok (.istore_n 1, 1) := by decide +kernel
theorem dX5_countVotes_26 : decode cX5_countVotes 26 = .ok (.iload_n 1, 1) := by decide +kernel
theorem dX5_countVotes_27 : decode cX5_countVotes 27 = .ok (.aload_n 0, 1) := by decide +kernel
theorem dX5_countVotes_28 : decode cX5_countVotes 28 = .ok (.getfield 9, 3) := by decide +kernel
theorem dX5_countVotes_31 : decode cX5_countVotes 31 = .ok (.invokevirtual 30, 3) := by decide +kernel
theorem dX5_countVotes_34 : decode cX5_countVotes 34 = .ok (.if_icmp .ge 55, 3) := by decide +kernel
theorem dX5_countVotes_37 : decode cX5_countVotes 37 = .ok (.aload_n 0, 1) := by decide +kernel
theorem dX5_countVotes_38 : decode cX5_countVotes 38 = .ok (.getfield 9, 3) := by decide +kernel
theorem dX5_countVotes_41 : decode cX5_countVotes 41 = .ok (.iload_n 1, 1) := by decide +kernel
theorem dX5_countVotes_42 : decode cX5_countVotes 42 = .ok (.iconst 0, 1) := by decide +kernel
theorem dX5_countVotes_43 : decode cX5_countVotes 43 = .ok (.invokevirtual 36, 3) := by decide +kernel
theorem dX5_countVotes_46 : decode cX5_countVotes 46 = .ok (.bipush 8, 2) := by decide +kernel
theorem dX5_countVotes_48 : decode cX5_countVotes 48 = .ok (.imul, 1) := by decide +kernel
theorem dX5_countVotes_49 : decode cX5_countVotes 49 = .ok (.aload_n 0, 1) := by decide +kernel
theorem dX5_countVotes_50 : decode cX5_countVotes 50 = .ok (.getfield 9, 3) := by decide +kernel
theorem dX5_countVotes_53 : decode cX5_countVotes 53 = .ok (.iload_n 1, 1) := by decide +kernel
theorem dX5_countVotes_54 : decode cX5_countVotes 54 = .ok (.iconst 1, 1) := by decide +kernel
theorem dX5_countVotes_55 : decode cX5_countVotes 55 = .ok (.invokevirtual 36, 3) := by decide +kernel
theorem dX5_countVotes_58 : decode cX5_countVotes 58 = .ok (.iadd, 1) := by decide +kernel
theorem dX5_countVotes_59 : decode cX5_countVotes 59 = .ok (.istore_n 2, 1) := by decide +kernel
theorem dX5_countVotes_60 : decode cX5_countVotes 60 = .ok (.iload_n 2, 1) := by decide +kernel
theorem dX5_countVotes_61 : decode cX5_countVotes 61 = .ok (.ifCond .lt 22, 3) := by decide +kernel
theorem dX5_countVotes_64 : decode cX5_countVotes 64 = .ok (.iload_n 2, 1) := by decide +kernel
theorem dX5_countVotes_65 : decode cX5_countVotes 65 = .ok (.aload_n 0, 1) := by decide +kernel
theorem dX5_countVotes_66 : decode cX5_countVotes 66 = .ok (.getfield 15, 3) := by decide +kernel
theorem dX5_countVotes_69 : decode cX5_countVotes 69 = .ok (.arraylength, 1) := by decide +kernel
theorem dX5_countVotes_70 : decode cX5_countVotes 70 = .ok (.if_icmp .ge 13, 3) := by decide +kernel
theorem dX5_countVotes_73 : decode cX5_countVotes 73 = .ok (.aload_n 0, 1) := by decide +kernel
theorem dX5_countVotes_74 : decode cX5_countVotes 74 = .ok (.getfield 15, 3) := by decide +kernel
theorem dX5_countVotes_77 : decode cX5_countVotes 77 = .ok (.iload_n 2, 1) := by decide +kernel
theorem dX5_countVotes_78 : decode cX5_countVotes 78 = .ok (.dup2, 1) := by decide +kernel
theorem dX5_countVotes_79 : decode cX5_countVotes 79 = .ok (.iaload, 1) := by decide +kernel
theorem dX5_countVotes_80 : decode cX5_countVotes 80 = .ok (.iconst 1, 1) := by decide +kernel
theorem dX5_countVotes_81 : decode cX5_countVotes 81 = .ok (.iadd, 1) := by decide +kernel
theorem dX5_countVotes_82 : decode cX5_countVotes 82 = .ok (.iastore, 1) := by decide +kernel
theorem dX5_countVotes_83 : decode cX5_countVotes 83 = .ok (.iinc 1 1, 3) := by decide +kernel
theorem dX5_countVotes_86 : decode cX5_countVotes 86 = .ok (.goto (-60), 3) := by decide +kernel
theorem dX5_countVotes_89 : decode cX5_countVotes 89 = .ok (.return_, 1) := by decide +kernel
set_option maxRecDepth 100000 in
def fX5_countVotes_L1  : (Int32 × (Nat → Int32)) → Option (((Nat → Int32)) ⊕ (Int32 × (Nat → Int32))) := un2 fun (u1 : Int32) (u2 : Nat → Int32) =>
  if 64 ≤ u1 then
    some (.inl u2)
  else
    gd (bnd u1 64) <|
    bv (upd u2 (Int32.toNatClampNeg u1) 0) fun a5 =>
    bv (u1 + 1) fun v6 =>
    some (.inr (v6, a5))
set_option maxRecDepth 100000 in
def fX5_countVotes_L2 (t_notes_lines : Int32) (t_notes_width : Int32) (t_notes_cells_n : Nat) (t_notes_cells_a : Nat → Int32) : (Int32 × (Nat → Int32)) → Option (((Nat → Int32)) ⊕ (Int32 × (Nat → Int32))) := un2 fun (u8 : Int32) (u9 : Nat → Int32) =>
  ob (fX7_size t_notes_lines) fun r10 =>
  if r10 ≤ u8 then
    some (.inl u9)
  else
    ob (fX7_at u8 0 t_notes_width t_notes_cells_n t_notes_cells_a) fun r13 =>
    ob (fX7_at u8 1 t_notes_width t_notes_cells_n t_notes_cells_a) fun r15 =>
    bv ((r13 * 8) + r15) fun v17 =>
    ob (α := Nat → Int32) (
        if v17 < 0 then
          some u9
        else
          if 64 ≤ v17 then
            some u9
          else
            gd (bnd v17 64) <|
            bv ((u9 (Int32.toNatClampNeg v17)) + 1) fun v24 =>
            gd (bnd v17 64) <|
            bv (upd u9 (Int32.toNatClampNeg v17) v24) fun a26 =>
            some a26
      ) fun m18 =>
    bv (u8 + 1) fun v27 =>
    some (.inr (v27, m18))
set_option maxRecDepth 100000 in
def fX5_countVotes (t_notes_width : Int32) (t_notes_lines : Int32) (t_votes_a : Nat → Int32) (t_notes_cells_n : Nat) (t_notes_cells_a : Nat → Int32) : Option ((Nat → Int32)) :=
  ob (it (fX5_countVotes_L1) 100000 (0, t_votes_a)) fun x7 =>
  ob (it (fX5_countVotes_L2 t_notes_lines t_notes_width t_notes_cells_n t_notes_cells_a) 100000 (0, x7)) fun x28 =>
  some x28
abbrev rmX5_countVotes : Room := { frames := 1, cells := 0, slots := 0, locals := 23 }
theorem iwX5_countVotes_X5 : ∀ w ∈ u_ws RX5 TX5 3, w ∈ wsX5_countVotes := by decide +kernel
set_option maxHeartbeats 4000000 in
set_option maxRecDepth 100000 in
theorem k_X5_countVotes (l : Launch) (G : va_G) (cI cJ : ClassId) (t_h t_notes_h t_votes_h t_keys_h t_notes_cells_h : Nat) (sz : Nat) (t_notes_width : Int32) (t_notes_most : Int32) (t_notes_lines : Int32) (t_votes_a : Nat → Int32) (t_notes_cells_n : Nat) (t_notes_cells_a : Nat → Int32) {o_t_votes_a : Nat → Int32} (hf : fX5_countVotes t_notes_width t_notes_lines t_votes_a t_notes_cells_n t_notes_cells_a = some o_t_votes_a) : MetU l yX5_countVotes wsX5_countVotes rmX5_countVotes [.ref t_h] G cI cJ [(t_h, .inr (5, [.ref t_notes_h, .ref t_votes_h, .ref t_keys_h])), (t_notes_h, .inr (7, [.int t_notes_width, .int t_notes_most, .ref t_notes_cells_h, .int t_notes_lines])), (t_votes_h, .inl (cI, 64, .inl t_votes_a)), (t_notes_cells_h, .inl (cI, t_notes_cells_n, .inl t_notes_cells_a))] [(t_h, .inr (5, [.ref t_notes_h, .ref t_votes_h, .ref t_keys_h])), (t_notes_h, .inr (7, [.int t_notes_width, .int t_notes_most, .ref t_notes_cells_h, .int t_notes_lines])), (t_votes_h, .inl (cI, 64, .inl o_t_votes_a)), (t_notes_cells_h, .inl (cI, t_notes_cells_n, .inl t_notes_cells_a))] sz := by
  refine en_0 (l := l) (y := yX5_countVotes) (wsl := wsX5_countVotes) (rm := rmX5_countVotes) (av := [.ref t_h]) (G := G) (cI := cI) (cJ := cJ) (w0 := [(t_h, .inr (5, [.ref t_notes_h, .ref t_votes_h, .ref t_keys_h])), (t_notes_h, .inr (7, [.int t_notes_width, .int t_notes_most, .ref t_notes_cells_h, .int t_notes_lines])), (t_votes_h, .inl (cI, 64, .inl t_votes_a)), (t_notes_cells_h, .inl (cI, t_notes_cells_n, .inl t_notes_cells_a))]) (sz := sz) (Qf := fun A => Qv0 G cI cJ [(t_h, .inr (5, [.ref t_notes_h, .ref t_votes_h, .ref t_keys_h])), (t_notes_h, .inr (7, [.int t_notes_width, .int t_notes_most, .ref t_notes_cells_h, .int t_notes_lines])), (t_votes_h, .inl (cI, 64, .inl o_t_votes_a)), (t_notes_cells_h, .inl (cI, t_notes_cells_n, .inl t_notes_cells_a))] A) (cc := cX5_countVotes) (maxL := 3) (ret := none) RX5 (by decide +kernel) rfl rfl (Nat.le_of_ble_eq_true rfl) ?_
  intro p e s m args below meth c A ls Q hQ hx hb hr hts hown hlocks hml hN hK hP hD hS hA hl
  have hl : lv_has ls 3 [(0, .ref t_h)] := hl
  have iwX5 := iwX5_countVotes_X5
  have fl_9 := hts (.fieldLink RX5 9 "CloudOffice$Sheets" "notes" "LCloudOffice$Table;") (by decide +kernel)
  have fl_15 := hts (.fieldLink RX5 15 "CloudOffice$Sheets" "votes" "[I") (by decide +kernel)
  have hret : ∀ (o_t_votes_a9 : Nat → Int32) (pc : Nat) (H : Heap) (locs : List Loc) (ls : Array Slot), decode cX5_countVotes pc = .ok (.return_, 1) → some o_t_votes_a9 = some o_t_votes_a → va_P G vwCl [(t_h, .inr (5, [.ref t_notes_h, .ref t_votes_h, .ref t_keys_h])), (t_notes_h, .inr (7, [.int t_notes_width, .int t_notes_most, .ref t_notes_cells_h, .int t_notes_lines])), (t_votes_h, .inl (cI, 64, .inl o_t_votes_a9)), (t_notes_cells_h, .inl (cI, t_notes_cells_n, .inl t_notes_cells_a))] H → va_D A [(t_h, .inr (5, [.ref t_notes_h, .ref t_votes_h, .ref t_keys_h])), (t_notes_h, .inr (7, [.int t_notes_width, .int t_notes_most, .ref t_notes_cells_h, .int t_notes_lines])), (t_votes_h, .inl (cI, 64, .inl o_t_votes_a9)), (t_notes_cells_h, .inl (cI, t_notes_cells_n, .inl t_notes_cells_a))] → va_S A s.heap H locs → W p l e rmX5_countVotes s m args below meth c H locs 0 0 Q (F0 m pc ls []) := by
    intro o_t_votes_a9 pc H locs ls hdg he hP hD hS
    cases he
    subst hQ
    exact rt_v hx hb hr hlocks hK hP hD hS hdg
  clear hQ
  unfold fX5_countVotes at hf
  refine lv_iconst (v := 0) hx hb dX5_countVotes_0 (by decide) ?_
  refine lv_istore_n (lv' := [(1, .int 0), (0, .ref t_h)]) hx hb dX5_countVotes_1 rfl hl (by decide) rfl (fun ls hl => ?_)
  obtain ⟨x7, ht1, hf⟩ := ob_some hf
  have hx1_0 : ∀ (x79 : Nat → Int32), x79 = x7 → ∀ (H : Heap) (locs : List Loc) (ls : Array Slot), va_P G vwCl [(t_h, .inr (5, [.ref t_notes_h, .ref t_votes_h, .ref t_keys_h])), (t_notes_h, .inr (7, [.int t_notes_width, .int t_notes_most, .ref t_notes_cells_h, .int t_notes_lines])), (t_votes_h, .inl (cI, 64, .inl x79)), (t_notes_cells_h, .inl (cI, t_notes_cells_n, .inl t_notes_cells_a))] H → va_D A [(t_h, .inr (5, [.ref t_notes_h, .ref t_votes_h, .ref t_keys_h])), (t_notes_h, .inr (7, [.int t_notes_width, .int t_notes_most, .ref t_notes_cells_h, .int t_notes_lines])), (t_votes_h, .inl (cI, 64, .inl x79)), (t_notes_cells_h, .inl (cI, t_notes_cells_n, .inl t_notes_cells_a))] → va_S A s.heap H locs → lv_has ls 3 [(0, .ref t_h)] → W p l e rmX5_countVotes s m args below meth c H locs 0 0 Q (F0 m 24 ls []) := by
    intro x79 he H locs ls hP hD hS hl
    cases he
    refine lv_iconst (v := 0) hx hb dX5_countVotes_24 (by decide) ?_
    refine lv_istore_n (lv' := [(1, .int 0), (0, .ref t_h)]) hx hb dX5_countVotes_25 rfl hl (by decide) rfl (fun ls hl => ?_)
    obtain ⟨x28, ht2, hf⟩ := ob_some hf
    have hx2_0 : ∀ (x289 : Nat → Int32), x289 = x28 → ∀ (H : Heap) (locs : List Loc) (ls : Array Slot), va_P G vwCl [(t_h, .inr (5, [.ref t_notes_h, .ref t_votes_h, .ref t_keys_h])), (t_notes_h, .inr (7, [.int t_notes_width, .int t_notes_most, .ref t_notes_cells_h, .int t_notes_lines])), (t_votes_h, .inl (cI, 64, .inl x289)), (t_notes_cells_h, .inl (cI, t_notes_cells_n, .inl t_notes_cells_a))] H → va_D A [(t_h, .inr (5, [.ref t_notes_h, .ref t_votes_h, .ref t_keys_h])), (t_notes_h, .inr (7, [.int t_notes_width, .int t_notes_most, .ref t_notes_cells_h, .int t_notes_lines])), (t_votes_h, .inl (cI, 64, .inl x289)), (t_notes_cells_h, .inl (cI, t_notes_cells_n, .inl t_notes_cells_a))] → va_S A s.heap H locs → lv_has ls 3 [] → W p l e rmX5_countVotes s m args below meth c H locs 0 0 Q (F0 m 89 ls []) := by
      intro x289 he H locs ls hP hD hS hl
      cases he
      exact hret x28 89 _ _ _ dX5_countVotes_89 hf hP hD hS
    clear hf
    have hl2 : ∀ (n : Nat) (u8 : Int32) (u9 : Nat → Int32), it (fX5_countVotes_L2 t_notes_lines t_notes_width t_notes_cells_n t_notes_cells_a) n (u8, u9) = some x28 → ∀ (H : Heap) (locs : List Loc) (ls : Array Slot), va_P G vwCl [(t_h, .inr (5, [.ref t_notes_h, .ref t_votes_h, .ref t_keys_h])), (t_notes_h, .inr (7, [.int t_notes_width, .int t_notes_most, .ref t_notes_cells_h, .int t_notes_lines])), (t_votes_h, .inl (cI, 64, .inl u9)), (t_notes_cells_h, .inl (cI, t_notes_cells_n, .inl t_notes_cells_a))] H → va_D A [(t_h, .inr (5, [.ref t_notes_h, .ref t_votes_h, .ref t_keys_h])), (t_notes_h, .inr (7, [.int t_notes_width, .int t_notes_most, .ref t_notes_cells_h, .int t_notes_lines])), (t_votes_h, .inl (cI, 64, .inl u9)), (t_notes_cells_h, .inl (cI, t_notes_cells_n, .inl t_notes_cells_a))] → va_S A s.heap H locs → lv_has ls 3 [(0, .ref t_h), (1, .int u8)] → W p l e rmX5_countVotes s m args below meth c H locs 0 0 Q (F0 m 26 ls []) := by
      intro n
      induction n with
      | zero => intro u8 u9 hz; exact (it_zero hz).elim
      | succ n ih =>
        intro u8 u9 hz H locs ls hP hD hS hl
        obtain ⟨x9, hf, hq⟩ := it_succ hz
        unfold fX5_countVotes_L2 at hf
        dsimp only [un2] at hf
        refine lv_iload_n hx hb dX5_countVotes_26 rfl (lv_at hl 1 rfl) ?_
        refine lv_aload_n hx hb dX5_countVotes_27 rfl (lv_at hl 0 rfl) ?_
        refine va_get (D := G) (ci := 5) (v := .ref t_notes_h) (C := RX5) (T := TX5) (N := 3) hx hb hts iwX5 hown hK hP 0 rfl rfl 0 (by decide) fl_9 (fun _ h9 => h9) rfl dX5_countVotes_28 ?_
        obtain ⟨r10, hc11, hf⟩ := ob_some hf
        refine af_iR (va_runV (As := []) (rest := [.int u8]) ⟨hx, hb, hml, hown, hts⟩ (k_X7_size l G cI cJ (t_h := t_notes_h) (t_cells_h := t_notes_cells_h) (t_width := t_notes_width) (t_most := t_notes_most) (t_lines := t_notes_lines) (sz := _) (hf := hc11)) (cwV 0 hts gX5_countVotes_X7_size rfl rfl rfl (by decide +kernel) ⟨Nat.le_of_ble_eq_true rfl, Nat.le_of_ble_eq_true rfl⟩) (preV0 (ci := 7) (q0 := 0) (C := RX7) (wc := [(t_notes_h, .inr (7, [.int t_notes_width, .int t_notes_most, .ref t_notes_cells_h, .int t_notes_lines]))]) hK hP hD hN [1] rfl rfl (by decide) rfl rfl) rfl rfl hl.1 rfl (lv_room (Nat.le_of_ble_eq_true rfl)) dX5_countVotes_31 ⟨Nat.zero_le _, Nat.zero_le _⟩) hP hD hS hA [1] rfl (fun H locs hP hS => ?_)
        refine lv_icmp_ge (tgt := 89) hx hb dX5_countVotes_34 (by decide) (fun c12 => ?_) (fun c12 => ?_)
        · have hf := ift hf c12
          cases hf
          exact hx2_0 _ hq _ _ _ hP hD hS (lv_sub hl [] rfl)
        · have hf := iff_ hf c12
          refine lv_aload_n hx hb dX5_countVotes_37 rfl (lv_at hl 0 rfl) ?_
          refine va_get (D := G) (ci := 5) (v := .ref t_notes_h) (C := RX5) (T := TX5) (N := 3) hx hb hts iwX5 hown hK hP 0 rfl rfl 0 (by decide) fl_9 (fun _ h9 => h9) rfl dX5_countVotes_38 ?_
          refine lv_iload_n hx hb dX5_countVotes_41 rfl (lv_at hl 1 rfl) ?_
          refine lv_iconst (v := 0) hx hb dX5_countVotes_42 (by decide) ?_
          obtain ⟨r13, hc14, hf⟩ := ob_some hf
          refine af_iR (va_runV (As := [.int u8, .int 0]) (rest := []) ⟨hx, hb, hml, hown, hts⟩ (k_X7_at l G cI cJ (t_h := t_notes_h) (t_cells_h := t_notes_cells_h) (t_width := t_notes_width) (t_most := t_notes_most) (t_lines := t_notes_lines) (t_cells_n := t_notes_cells_n) (t_cells_a := t_notes_cells_a) (x1 := u8) (x2 := 0) (sz := _) (hf := hc14)) (cwV 2 hts gX5_countVotes_X7_at rfl rfl rfl (by decide +kernel) ⟨Nat.le_of_ble_eq_true rfl, Nat.le_of_ble_eq_true rfl⟩) (preV0 (ci := 7) (q0 := 0) (C := RX7) (wc := [(t_notes_h, .inr (7, [.int t_notes_width, .int t_notes_most, .ref t_notes_cells_h, .int t_notes_lines])), (t_notes_cells_h, .inl (cI, t_notes_cells_n, .inl t_notes_cells_a))]) hK hP hD hN [1, 3] rfl rfl (by decide) rfl rfl) rfl rfl hl.1 rfl (lv_room (Nat.le_of_ble_eq_true rfl)) dX5_countVotes_43 ⟨Nat.zero_le _, Nat.zero_le _⟩) hP hD hS hA [1, 3] rfl (fun H locs hP hS => ?_)
          refine lv_bipush (v := 8) hx hb dX5_countVotes_46 (by decide) ?_
          refine lv_imul hx hb dX5_countVotes_48 ?_
          refine lv_aload_n hx hb dX5_countVotes_49 rfl (lv_at hl 0 rfl) ?_
          refine va_get (D := G) (ci := 5) (v := .ref t_notes_h) (C := RX5) (T := TX5) (N := 3) hx hb hts iwX5 hown hK hP 0 rfl rfl 0 (by decide) fl_9 (fun _ h9 => h9) rfl dX5_countVotes_50 ?_
          refine lv_iload_n hx hb dX5_countVotes_53 rfl (lv_at hl 1 rfl) ?_
          refine lv_iconst (v := 1) hx hb dX5_countVotes_54 (by decide) ?_
          obtain ⟨r15, hc16, hf⟩ := ob_some hf
          refine af_iR (va_runV (As := [.int u8, .int 1]) (rest := [.int (r13 * 8)]) ⟨hx, hb, hml, hown, hts⟩ (k_X7_at l G cI cJ (t_h := t_notes_h) (t_cells_h := t_notes_cells_h) (t_width := t_notes_width) (t_most := t_notes_most) (t_lines := t_notes_lines) (t_cells_n := t_notes_cells_n) (t_cells_a := t_notes_cells_a) (x1 := u8) (x2 := 1) (sz := _) (hf := hc16)) (cwV 2 hts gX5_countVotes_X7_at rfl rfl rfl (by decide +kernel) ⟨Nat.le_of_ble_eq_true rfl, Nat.le_of_ble_eq_true rfl⟩) (preV0 (ci := 7) (q0 := 0) (C := RX7) (wc := [(t_notes_h, .inr (7, [.int t_notes_width, .int t_notes_most, .ref t_notes_cells_h, .int t_notes_lines])), (t_notes_cells_h, .inl (cI, t_notes_cells_n, .inl t_notes_cells_a))]) hK hP hD hN [1, 3] rfl rfl (by decide) rfl rfl) rfl rfl hl.1 rfl (lv_room (Nat.le_of_ble_eq_true rfl)) dX5_countVotes_55 ⟨Nat.zero_le _, Nat.zero_le _⟩) hP hD hS hA [1, 3] rfl (fun H locs hP hS => ?_)
          refine lv_iadd hx hb dX5_countVotes_58 ?_
          refine lv_topi (fun v17 ev17 => ?_)
          have hf := bv_at ev17 hf
          refine lv_istore_n (lv' := [(2, .int v17), (0, .ref t_h), (1, .int u8)]) hx hb dX5_countVotes_59 rfl hl (by decide) rfl (fun ls hl => ?_)
          refine lv_iload_n hx hb dX5_countVotes_60 rfl (lv_at hl 0 rfl) ?_
          obtain ⟨m18, hr19, hf⟩ := ob_some hf
          have hj20 : ∀ (m189 : Nat → Int32), some m189 = some m18 → ∀ (H : Heap) (locs : List Loc) (ls : Array Slot), va_P G vwCl [(t_h, .inr (5, [.ref t_notes_h, .ref t_votes_h, .ref t_keys_h])), (t_notes_h, .inr (7, [.int t_notes_width, .int t_notes_most, .ref t_notes_cells_h, .int t_notes_lines])), (t_votes_h, .inl (cI, 64, .inl m189)), (t_notes_cells_h, .inl (cI, t_notes_cells_n, .inl t_notes_cells_a))] H → va_D A [(t_h, .inr (5, [.ref t_notes_h, .ref t_votes_h, .ref t_keys_h])), (t_notes_h, .inr (7, [.int t_notes_width, .int t_notes_most, .ref t_notes_cells_h, .int t_notes_lines])), (t_votes_h, .inl (cI, 64, .inl m189)), (t_notes_cells_h, .inl (cI, t_notes_cells_n, .inl t_notes_cells_a))] → va_S A s.heap H locs → lv_has ls 3 [(0, .ref t_h), (1, .int u8)] → W p l e rmX5_countVotes s m args below meth c H locs 0 0 Q (F0 m 83 ls []) := by
            intro m189 he H locs ls hP hD hS hl
            cases he
            obtain ⟨v27, ev27⟩ : ∃ y : Int32, y = u8 + 1 := ⟨_, rfl⟩
            have hf := bv_at ev27 hf
            refine lv_iinc (v := v27) (lv' := [(1, .int v27), (0, .ref t_h)]) hx hb dX5_countVotes_83 hl (k := 1) rfl (by rw [ev27]; rfl) (by decide) rfl (fun ls hl => ?_)
            refine lv_goto (tgt := 26) hx hb dX5_countVotes_86 (by decide) ?_
            cases hf
            exact ih _ _ hq _ _ _ hP hD hS (lv_sub hl [1, 0] rfl)
          replace hf := hr19
          refine lv_if_lt (tgt := 83) hx hb dX5_countVotes_61 (by decide) (fun c21 => ?_) (fun c21 => ?_)
          · have hf := ift hf c21
            exact hj20 _ hf _ _ _ hP hD hS (lv_sub hl [1, 2] rfl)
          · have hf := iff_ hf c21
            refine lv_iload_n hx hb dX5_countVotes_64 rfl (lv_at hl 0 rfl) ?_
            refine lv_aload_n hx hb dX5_countVotes_65 rfl (lv_at hl 1 rfl) ?_
            refine va_get (D := G) (ci := 5) (v := .ref t_votes_h) (C := RX5) (T := TX5) (N := 3) hx hb hts iwX5 hown hK hP 0 rfl rfl 1 (by decide) fl_15 (fun _ h9 => h9) rfl dX5_countVotes_66 ?_
            refine va_alen (v := 64) hx hb hK hP 2 0 rfl rfl rfl dX5_countVotes_69 ?_
            refine lv_icmp_ge (tgt := 83) hx hb dX5_countVotes_70 (by decide) (fun c22 => ?_) (fun c22 => ?_)
            · have hf := ift hf c22
              exact hj20 _ hf _ _ _ hP hD hS (lv_sub hl [1, 2] rfl)
            · have hf := iff_ hf c22
              refine lv_aload_n hx hb dX5_countVotes_73 rfl (lv_at hl 1 rfl) ?_
              refine va_get (D := G) (ci := 5) (v := .ref t_votes_h) (C := RX5) (T := TX5) (N := 3) hx hb hts iwX5 hown hK hP 0 rfl rfl 1 (by decide) fl_15 (fun _ h9 => h9) rfl dX5_countVotes_74 ?_
              refine lv_iload_n hx hb dX5_countVotes_77 rfl (lv_at hl 0 rfl) ?_
              refine lv_dup2_11 hx hb dX5_countVotes_78 rfl rfl ?_
              obtain ⟨h23, hf⟩ := gd_some hf
              refine va_iald hx hb hK hP 2 0 rfl rfl (bnd_in h23) dX5_countVotes_79 ?_
              refine lv_iconst (v := 1) hx hb dX5_countVotes_80 (by decide) ?_
              refine lv_iadd hx hb dX5_countVotes_81 ?_
              refine lv_topi (fun v24 ev24 => ?_)
              have hf := bv_at ev24 hf
              obtain ⟨h25, hf⟩ := gd_some hf
              obtain ⟨a26, ea26⟩ : ∃ y : Nat → Int32, y = upd u9 (Int32.toNatClampNeg v17) v24 := ⟨_, rfl⟩
              have hf := bv_at ea26 hf
              refine va_iast hx hb hK hP hD hS 2 0 rfl rfl (bnd_in h25) dX5_countVotes_82 (fun H locs hP hD hS => ?_)
              have hP : va_P G vwCl [(t_h, .inr (5, [.ref t_notes_h, .ref t_votes_h, .ref t_keys_h])), (t_notes_h, .inr (7, [.int t_notes_width, .int t_notes_most, .ref t_notes_cells_h, .int t_notes_lines])), (t_votes_h, .inl (cI, 64, .inl a26)), (t_notes_cells_h, .inl (cI, t_notes_cells_n, .inl t_notes_cells_a))] H := by rw [ea26]; exact hP
              have hD : va_D A [(t_h, .inr (5, [.ref t_notes_h, .ref t_votes_h, .ref t_keys_h])), (t_notes_h, .inr (7, [.int t_notes_width, .int t_notes_most, .ref t_notes_cells_h, .int t_notes_lines])), (t_votes_h, .inl (cI, 64, .inl a26)), (t_notes_cells_h, .inl (cI, t_notes_cells_n, .inl t_notes_cells_a))] := by rw [ea26]; exact hD
              exact hj20 _ hf _ _ _ hP hD hS (lv_sub hl [1, 2] rfl)
    exact hl2 _ _ _ ht2 _ _ _ hP hD hS (lv_sub hl [1, 0] rfl)
  clear hf
  have hl1 : ∀ (n : Nat) (u1 : Int32) (u2 : Nat → Int32), it (fX5_countVotes_L1) n (u1, u2) = some x7 → ∀ (H : Heap) (locs : List Loc) (ls : Array Slot), va_P G vwCl [(t_h, .inr (5, [.ref t_notes_h, .ref t_votes_h, .ref t_keys_h])), (t_notes_h, .inr (7, [.int t_notes_width, .int t_notes_most, .ref t_notes_cells_h, .int t_notes_lines])), (t_votes_h, .inl (cI, 64, .inl u2)), (t_notes_cells_h, .inl (cI, t_notes_cells_n, .inl t_notes_cells_a))] H → va_D A [(t_h, .inr (5, [.ref t_notes_h, .ref t_votes_h, .ref t_keys_h])), (t_notes_h, .inr (7, [.int t_notes_width, .int t_notes_most, .ref t_notes_cells_h, .int t_notes_lines])), (t_votes_h, .inl (cI, 64, .inl u2)), (t_notes_cells_h, .inl (cI, t_notes_cells_n, .inl t_notes_cells_a))] → va_S A s.heap H locs → lv_has ls 3 [(0, .ref t_h), (1, .int u1)] → W p l e rmX5_countVotes s m args below meth c H locs 0 0 Q (F0 m 2 ls []) := by
    intro n
    induction n with
    | zero => intro u1 u2 hz; exact (it_zero hz).elim
    | succ n ih =>
      intro u1 u2 hz H locs ls hP hD hS hl
      obtain ⟨x9, hf, hq⟩ := it_succ hz
      unfold fX5_countVotes_L1 at hf
      dsimp only [un2] at hf
      refine lv_iload_n hx hb dX5_countVotes_2 rfl (lv_at hl 1 rfl) ?_
      refine lv_aload_n hx hb dX5_countVotes_3 rfl (lv_at hl 0 rfl) ?_
      refine va_get (D := G) (ci := 5) (v := .ref t_votes_h) (C := RX5) (T := TX5) (N := 3) hx hb hts iwX5 hown hK hP 0 rfl rfl 1 (by decide) fl_15 (fun _ h9 => h9) rfl dX5_countVotes_4 ?_
      refine va_alen (v := 64) hx hb hK hP 2 0 rfl rfl rfl dX5_countVotes_7 ?_
      refine lv_icmp_ge (tgt := 24) hx hb dX5_countVotes_8 (by decide) (fun c3 => ?_) (fun c3 => ?_)
      · have hf := ift hf c3
        cases hf
        exact hx1_0 _ hq _ _ _ hP hD hS (lv_sub hl [0] rfl)
      · have hf := iff_ hf c3
        refine lv_aload_n hx hb dX5_countVotes_11 rfl (lv_at hl 0 rfl) ?_
        refine va_get (D := G) (ci := 5) (v := .ref t_votes_h) (C := RX5) (T := TX5) (N := 3) hx hb hts iwX5 hown hK hP 0 rfl rfl 1 (by decide) fl_15 (fun _ h9 => h9) rfl dX5_countVotes_12 ?_
        refine lv_iload_n hx hb dX5_countVotes_15 rfl (lv_at hl 1 rfl) ?_
        refine lv_iconst (v := 0) hx hb dX5_countVotes_16 (by decide) ?_
        obtain ⟨h4, hf⟩ := gd_some hf
        obtain ⟨a5, ea5⟩ : ∃ y : Nat → Int32, y = upd u2 (Int32.toNatClampNeg u1) 0 := ⟨_, rfl⟩
        have hf := bv_at ea5 hf
        refine va_iast hx hb hK hP hD hS 2 0 rfl rfl (bnd_in h4) dX5_countVotes_17 (fun H locs hP hD hS => ?_)
        have hP : va_P G vwCl [(t_h, .inr (5, [.ref t_notes_h, .ref t_votes_h, .ref t_keys_h])), (t_notes_h, .inr (7, [.int t_notes_width, .int t_notes_most, .ref t_notes_cells_h, .int t_notes_lines])), (t_votes_h, .inl (cI, 64, .inl a5)), (t_notes_cells_h, .inl (cI, t_notes_cells_n, .inl t_notes_cells_a))] H := by rw [ea5]; exact hP
        have hD : va_D A [(t_h, .inr (5, [.ref t_notes_h, .ref t_votes_h, .ref t_keys_h])), (t_notes_h, .inr (7, [.int t_notes_width, .int t_notes_most, .ref t_notes_cells_h, .int t_notes_lines])), (t_votes_h, .inl (cI, 64, .inl a5)), (t_notes_cells_h, .inl (cI, t_notes_cells_n, .inl t_notes_cells_a))] := by rw [ea5]; exact hD
        obtain ⟨v6, ev6⟩ : ∃ y : Int32, y = u1 + 1 := ⟨_, rfl⟩
        have hf := bv_at ev6 hf
        refine lv_iinc (v := v6) (lv' := [(1, .int v6), (0, .ref t_h)]) hx hb dX5_countVotes_18 hl (k := 1) rfl (by rw [ev6]; rfl) (by decide) rfl (fun ls hl => ?_)
        refine lv_goto (tgt := 2) hx hb dX5_countVotes_21 (by decide) ?_
        cases hf
        exact ih _ _ hq _ _ _ hP hD hS (lv_sub hl [1, 0] rfl)
  exact hl1 _ _ _ ht1 _ _ _ hP hD hS (lv_sub hl [1, 0] rfl)
set_option maxRecDepth 20000 in
theorem ggX5_bestKey_X5_countVotes : GoodIn wsX5_bestKey wsX5_countVotes := goodIn_r _ [6, 7, 8, 9, 10, 11, 12, 13, 14, 15, 16, 17, 18, 19, 20, 41, 42, 43, 44, 45, 46, 47] (by decide +kernel) (by decide +kernel)
set_option maxRecDepth 20000 in
theorem gX5_bestKey_X5_countVotes : GoodIn wsX5_bestKey (wsV RX5 23 RX5 yX5_countVotes wsX5_countVotes) := goodIn_app (goodIn_of _ (by decide +kernel)) ggX5_bestKey_X5_countVotes
set_option maxRecDepth 20000 in
theorem ggX5_bestKey_X5_bestOf : GoodIn wsX5_bestKey wsX5_bestOf := goodIn_r _ [24, 25, 1, 26, 27, 28, 29, 30, 31, 32, 33, 34, 35, 36, 37, 38, 39, 5, 40, 7, 41, 42, 43] (by decide +kernel) (by decide +kernel)
set_option maxRecDepth 20000 in
theorem gX5_bestKey_X5_bestOf : GoodIn wsX5_bestKey (wsV RX5 26 RX5 yX5_bestOf wsX5_bestOf) := goodIn_app (goodIn_of _ (by decide +kernel)) ggX5_bestKey_X5_bestOf
theorem dX5_bestKey_0 : decode cX5_bestKey 0 = .ok (.aload_n 0, 1) := by decide +kernel
theorem dX5_bestKey_1 : decode cX5_bestKey 1 = .ok (.invokevirtual 23, 3) := by decide +kernel
theorem dX5_bestKey_4 : decode cX5_bestKey 4 = .ok (.aload_n 0, 1) := by decide +kernel
theorem dX5_bestKey_5 : decode cX5_bestKey 5 = .ok (.getfield 19, 3) := by decide +kernel
theorem dX5_bestKey_8 : decode cX5_bestKey 8 = .ok (.iconst 0, 1) := by decide +kernel
theorem dX5_bestKey_9 : decode cX5_bestKey 9 = .ok (.lconst 0, 1) := by decide +kernel
theorem dX5_bestKey_10 : decode cX5_bestKey 10 = .ok (.lastore, 1) := by decide +kernel
theorem dX5_bestKey_11 : decode cX5_bestKey 11 = .ok (.iconst 1, 1) := by decide +kernel
theorem dX5_bestKey_12 : decode cX5_bestKey 12 = .ok (.istore_n 1, 1) := by decide +kernel
theorem dX5_bestKey_13 : decode cX5_bestKey 13 = .ok (.iload_n 1, 1) := by decide +kernel
theorem dX5_bestKey_14 : decode cX5_bestKey 14 = .ok (.sipush 256, 3) := by decide +kernel
theorem dX5_bestKey_17 : decode cX5_bestKey 17 = .ok (.if_icmp .ge 20, 3) := by decide +kernel
theorem dX5_bestKey_20 : decode cX5_bestKey 20 = .ok (.aload_n 0, 1) := by decide +kernel
theorem dX5_bestKey_21 : decode cX5_bestKey 21 = .ok (.getfield 19, 3) := by decide +kernel
theorem dX5_bestKey_24 : decode cX5_bestKey 24 = .ok (.iload_n 1, 1) := by decide +kernel
theorem dX5_bestKey_25 : decode cX5_bestKey 25 = .ok (.aload_n 0, 1) := by decide +kernel
theorem dX5_bestKey_26 : decode cX5_bestKey 26 = .ok (.iload_n 1, 1) := by decide +kernel
theorem dX5_bestKey_27 : decode cX5_bestKey 27 = .ok (.invokevirtual 26, 3) := by decide +kernel
theorem dX5_bestKey_30 : decode cX5_bestKey 30 = .ok (.lastore, 1) := by decide +kernel
theorem dX5_bestKey_31 : decode cX5_bestKey 31 = .ok (.iinc 1 1, 3) := by decide +kernel
theorem dX5_bestKey_34 : decode cX5_bestKey 34 = .ok (.goto (-21), 3) := by decide +kernel
theorem dX5_bestKey_37 : decode cX5_bestKey 37 = .ok (.aload_n 0, 1) := by decide +kernel
theorem dX5_bestKey_38 : decode cX5_bestKey 38 = .ok (.getfield 19, 3) := by decide +kernel
theorem dX5_bestKey_41 : decode cX5_bestKey 41 = .ok (.sipush 255, 3) := by decide +kernel
theorem dX5_bestKey_44 : decode cX5_bestKey 44 = .ok (.laload, 1) := by decide +kernel
theorem dX5_bestKey_45 : decode cX5_bestKey 45 = .ok (.lreturn, 1) := by decide +kernel
set_option maxRecDepth 100000 in
def fX5_bestKey_L1 (w1 : Nat → Int32) : (Int32 × (Nat → Int64)) → Option (((Nat → Int64)) ⊕ (Int32 × (Nat → Int64))) := un2 fun (u5 : Int32) (u6 : Nat → Int64) =>
  if 256 ≤ u5 then
    some (.inl u6)
  else
    ob (fX5_bestOf u5 w1 u6) fun r8 =>
    gd (bnd u5 256) <|
    bv (vp_updL u6 (Int32.toNatClampNeg u5) r8) fun a11 =>
    bv (u5 + 1) fun v12 =>
    some (.inr (v12, a11))
set_option maxRecDepth 100000 in
def fX5_bestKey (t_notes_width : Int32) (t_notes_lines : Int32) (t_votes_a : Nat → Int32) (t_keys_a : Nat → Int64) (t_notes_cells_n : Nat) (t_notes_cells_a : Nat → Int32) : Option (Int64 × (Nat → Int32) × (Nat → Int64)) :=
  ob (fX5_countVotes t_notes_width t_notes_lines t_votes_a t_notes_cells_n t_notes_cells_a) fun w1 =>
  gd (bnd 0 256) <|
  bv (vp_updL t_keys_a (Int32.toNatClampNeg 0) 0) fun a4 =>
  ob (it (fX5_bestKey_L1 w1) 100000 (1, a4)) fun x13 =>
  gd (bnd 255 256) <|
  some (x13 (Int32.toNatClampNeg 255), w1, x13)
abbrev rmX5_bestKey : Room := { frames := 2, cells := 0, slots := 0, locals := 53 }
theorem iwX5_bestKey_X5 : ∀ w ∈ u_ws RX5 TX5 3, w ∈ wsX5_bestKey := by decide +kernel
set_option maxHeartbeats 4000000 in
set_option maxRecDepth 100000 in
theorem k_X5_bestKey (l : Launch) (G : va_G) (cI cJ : ClassId) (t_h t_notes_h t_votes_h t_keys_h t_notes_cells_h : Nat) (sz : Nat) (t_notes_width : Int32) (t_notes_most : Int32) (t_notes_lines : Int32) (t_votes_a : Nat → Int32) (t_keys_a : Nat → Int64) (t_notes_cells_n : Nat) (t_notes_cells_a : Nat → Int32) {o_r : Int64} {o_t_votes_a : Nat → Int32} {o_t_keys_a : Nat → Int64} (hf : fX5_bestKey t_notes_width t_notes_lines t_votes_a t_keys_a t_notes_cells_n t_notes_cells_a = some (o_r, o_t_votes_a, o_t_keys_a)) : MetL l yX5_bestKey wsX5_bestKey rmX5_bestKey [.ref t_h] G cI cJ [(t_h, .inr (5, [.ref t_notes_h, .ref t_votes_h, .ref t_keys_h])), (t_notes_h, .inr (7, [.int t_notes_width, .int t_notes_most, .ref t_notes_cells_h, .int t_notes_lines])), (t_votes_h, .inl (cI, 64, .inl t_votes_a)), (t_keys_h, .inl (cJ, 256, .inr (.inl t_keys_a))), (t_notes_cells_h, .inl (cI, t_notes_cells_n, .inl t_notes_cells_a))] [(t_h, .inr (5, [.ref t_notes_h, .ref t_votes_h, .ref t_keys_h])), (t_notes_h, .inr (7, [.int t_notes_width, .int t_notes_most, .ref t_notes_cells_h, .int t_notes_lines])), (t_votes_h, .inl (cI, 64, .inl o_t_votes_a)), (t_keys_h, .inl (cJ, 256, .inr (.inl o_t_keys_a))), (t_notes_cells_h, .inl (cI, t_notes_cells_n, .inl t_notes_cells_a))] sz o_r := by
  refine en_0 (l := l) (y := yX5_bestKey) (wsl := wsX5_bestKey) (rm := rmX5_bestKey) (av := [.ref t_h]) (G := G) (cI := cI) (cJ := cJ) (w0 := [(t_h, .inr (5, [.ref t_notes_h, .ref t_votes_h, .ref t_keys_h])), (t_notes_h, .inr (7, [.int t_notes_width, .int t_notes_most, .ref t_notes_cells_h, .int t_notes_lines])), (t_votes_h, .inl (cI, 64, .inl t_votes_a)), (t_keys_h, .inl (cJ, 256, .inr (.inl t_keys_a))), (t_notes_cells_h, .inl (cI, t_notes_cells_n, .inl t_notes_cells_a))]) (sz := sz) (Qf := fun A => Ql0 G cI cJ [(t_h, .inr (5, [.ref t_notes_h, .ref t_votes_h, .ref t_keys_h])), (t_notes_h, .inr (7, [.int t_notes_width, .int t_notes_most, .ref t_notes_cells_h, .int t_notes_lines])), (t_votes_h, .inl (cI, 64, .inl o_t_votes_a)), (t_keys_h, .inl (cJ, 256, .inr (.inl o_t_keys_a))), (t_notes_cells_h, .inl (cI, t_notes_cells_n, .inl t_notes_cells_a))] o_r A) (cc := cX5_bestKey) (maxL := 2) (ret := (some .long)) RX5 (by decide +kernel) rfl rfl (Nat.le_of_ble_eq_true rfl) ?_
  intro p e s m args below meth c A ls Q hQ hx hb hr hts hown hlocks hml hN hK hP hD hS hA hl
  have hl : lv_has ls 2 [(0, .ref t_h)] := hl
  have iwX5 := iwX5_bestKey_X5
  have fl_19 := hts (.fieldLink RX5 19 "CloudOffice$Sheets" "keys" "[J") (by decide +kernel)
  have hret : ∀ (o_r9 : Int64) (o_t_votes_a9 : Nat → Int32) (o_t_keys_a9 : Nat → Int64) (pc : Nat) (H : Heap) (locs : List Loc) (ls : Array Slot), decode cX5_bestKey pc = .ok (.lreturn, 1) → some (o_r9, o_t_votes_a9, o_t_keys_a9) = some (o_r, o_t_votes_a, o_t_keys_a) → va_P G vwCl [(t_h, .inr (5, [.ref t_notes_h, .ref t_votes_h, .ref t_keys_h])), (t_notes_h, .inr (7, [.int t_notes_width, .int t_notes_most, .ref t_notes_cells_h, .int t_notes_lines])), (t_votes_h, .inl (cI, 64, .inl o_t_votes_a9)), (t_keys_h, .inl (cJ, 256, .inr (.inl o_t_keys_a9))), (t_notes_cells_h, .inl (cI, t_notes_cells_n, .inl t_notes_cells_a))] H → va_D A [(t_h, .inr (5, [.ref t_notes_h, .ref t_votes_h, .ref t_keys_h])), (t_notes_h, .inr (7, [.int t_notes_width, .int t_notes_most, .ref t_notes_cells_h, .int t_notes_lines])), (t_votes_h, .inl (cI, 64, .inl o_t_votes_a9)), (t_keys_h, .inl (cJ, 256, .inr (.inl o_t_keys_a9))), (t_notes_cells_h, .inl (cI, t_notes_cells_n, .inl t_notes_cells_a))] → va_S A s.heap H locs → W p l e rmX5_bestKey s m args below meth c H locs 0 0 Q (F0 m pc ls [.long o_r9]) := by
    intro o_r9 o_t_votes_a9 o_t_keys_a9 pc H locs ls hdg he hP hD hS
    cases he
    subst hQ
    exact rt_l hx hb hr hlocks hK hP hD hS rfl hdg
  clear hQ
  unfold fX5_bestKey at hf
  refine lv_aload_n hx hb dX5_bestKey_0 rfl (lv_at hl 0 rfl) ?_
  obtain ⟨w1, hc2, hf⟩ := ob_some hf
  refine af_vW (wr := [(t_keys_h, .inl (cJ, 256, .inr (.inl t_keys_a)))]) (ws2 := [(t_h, .inr (5, [.ref t_notes_h, .ref t_votes_h, .ref t_keys_h])), (t_notes_h, .inr (7, [.int t_notes_width, .int t_notes_most, .ref t_notes_cells_h, .int t_notes_lines])), (t_votes_h, .inl (cI, 64, .inl w1)), (t_keys_h, .inl (cJ, 256, .inr (.inl t_keys_a))), (t_notes_cells_h, .inl (cI, t_notes_cells_n, .inl t_notes_cells_a))]) (va_runV (As := []) (rest := []) ⟨hx, hb, hml, hown, hts⟩ (k_X5_countVotes l G cI cJ (t_h := t_h) (t_notes_h := t_notes_h) (t_votes_h := t_votes_h) (t_keys_h := t_keys_h) (t_notes_cells_h := t_notes_cells_h) (t_notes_width := t_notes_width) (t_notes_most := t_notes_most) (t_notes_lines := t_notes_lines) (t_votes_a := t_votes_a) (t_notes_cells_n := t_notes_cells_n) (t_notes_cells_a := t_notes_cells_a) (sz := _) (hf := hc2)) (cwV 0 hts gX5_bestKey_X5_countVotes rfl rfl rfl (by decide +kernel) ⟨Nat.le_of_ble_eq_true rfl, Nat.le_of_ble_eq_true rfl⟩) (preV0 (ci := 5) (q0 := 0) (C := RX5) (wc := [(t_h, .inr (5, [.ref t_notes_h, .ref t_votes_h, .ref t_keys_h])), (t_notes_h, .inr (7, [.int t_notes_width, .int t_notes_most, .ref t_notes_cells_h, .int t_notes_lines])), (t_votes_h, .inl (cI, 64, .inl t_votes_a)), (t_notes_cells_h, .inl (cI, t_notes_cells_n, .inl t_notes_cells_a))]) hK hP hD hN [0, 1, 2, 4] rfl rfl (by decide) rfl rfl) rfl rfl hl.1 rfl (lv_room (Nat.le_of_ble_eq_true rfl)) dX5_bestKey_1 ⟨Nat.zero_le _, Nat.zero_le _⟩) hP hD hS hA [0, 1, 2, 4] [3] [1, 2, 3, 0, 4] rfl rfl (by decide) (by decide) rfl rfl (by decide) (fun H locs hP hD hS => ?_)
  refine lv_aload_n hx hb dX5_bestKey_4 rfl (lv_at hl 0 rfl) ?_
  refine va_get (D := G) (ci := 5) (v := .ref t_keys_h) (C := RX5) (T := TX5) (N := 3) hx hb hts iwX5 hown hK hP 0 rfl rfl 2 (by decide) fl_19 (fun _ h9 => h9) rfl dX5_bestKey_5 ?_
  refine lv_iconst (v := 0) hx hb dX5_bestKey_8 (by decide) ?_
  refine lv_lconst (v := 0) hx hb dX5_bestKey_9 (by decide) ?_
  obtain ⟨h3, hf⟩ := gd_some hf
  obtain ⟨a4, ea4⟩ : ∃ y : Nat → Int64, y = vp_updL t_keys_a (Int32.toNatClampNeg 0) 0 := ⟨_, rfl⟩
  have hf := bv_at ea4 hf
  refine va_last hx hb hK hP hD hS 3 1 rfl rfl (bnd_in h3) dX5_bestKey_10 (fun H locs hP hD hS => ?_)
  have hP : va_P G vwCl [(t_h, .inr (5, [.ref t_notes_h, .ref t_votes_h, .ref t_keys_h])), (t_notes_h, .inr (7, [.int t_notes_width, .int t_notes_most, .ref t_notes_cells_h, .int t_notes_lines])), (t_votes_h, .inl (cI, 64, .inl w1)), (t_keys_h, .inl (cJ, 256, .inr (.inl a4))), (t_notes_cells_h, .inl (cI, t_notes_cells_n, .inl t_notes_cells_a))] H := by rw [ea4]; exact hP
  have hD : va_D A [(t_h, .inr (5, [.ref t_notes_h, .ref t_votes_h, .ref t_keys_h])), (t_notes_h, .inr (7, [.int t_notes_width, .int t_notes_most, .ref t_notes_cells_h, .int t_notes_lines])), (t_votes_h, .inl (cI, 64, .inl w1)), (t_keys_h, .inl (cJ, 256, .inr (.inl a4))), (t_notes_cells_h, .inl (cI, t_notes_cells_n, .inl t_notes_cells_a))] := by rw [ea4]; exact hD
  refine lv_iconst (v := 1) hx hb dX5_bestKey_11 (by decide) ?_
  refine lv_istore_n (lv' := [(1, .int 1), (0, .ref t_h)]) hx hb dX5_bestKey_12 rfl hl (by decide) rfl (fun ls hl => ?_)
  obtain ⟨x13, ht1, hf⟩ := ob_some hf
  have hx1_0 : ∀ (x139 : Nat → Int64), x139 = x13 → ∀ (H : Heap) (locs : List Loc) (ls : Array Slot), va_P G vwCl [(t_h, .inr (5, [.ref t_notes_h, .ref t_votes_h, .ref t_keys_h])), (t_notes_h, .inr (7, [.int t_notes_width, .int t_notes_most, .ref t_notes_cells_h, .int t_notes_lines])), (t_votes_h, .inl (cI, 64, .inl w1)), (t_keys_h, .inl (cJ, 256, .inr (.inl x139))), (t_notes_cells_h, .inl (cI, t_notes_cells_n, .inl t_notes_cells_a))] H → va_D A [(t_h, .inr (5, [.ref t_notes_h, .ref t_votes_h, .ref t_keys_h])), (t_notes_h, .inr (7, [.int t_notes_width, .int t_notes_most, .ref t_notes_cells_h, .int t_notes_lines])), (t_votes_h, .inl (cI, 64, .inl w1)), (t_keys_h, .inl (cJ, 256, .inr (.inl x139))), (t_notes_cells_h, .inl (cI, t_notes_cells_n, .inl t_notes_cells_a))] → va_S A s.heap H locs → lv_has ls 2 [(0, .ref t_h)] → W p l e rmX5_bestKey s m args below meth c H locs 0 0 Q (F0 m 37 ls []) := by
    intro x139 he H locs ls hP hD hS hl
    cases he
    refine lv_aload_n hx hb dX5_bestKey_37 rfl (lv_at hl 0 rfl) ?_
    refine va_get (D := G) (ci := 5) (v := .ref t_keys_h) (C := RX5) (T := TX5) (N := 3) hx hb hts iwX5 hown hK hP 0 rfl rfl 2 (by decide) fl_19 (fun _ h9 => h9) rfl dX5_bestKey_38 ?_
    refine lv_sipush (v := 255) hx hb dX5_bestKey_41 (by decide) ?_
    obtain ⟨h14, hf⟩ := gd_some hf
    refine va_lald hx hb hK hP 3 1 rfl rfl (bnd_in h14) dX5_bestKey_44 ?_
    exact hret (x13 (Int32.toNatClampNeg 255)) w1 x13 45 _ _ _ dX5_bestKey_45 hf hP hD hS
  clear hf
  have hl1 : ∀ (n : Nat) (u5 : Int32) (u6 : Nat → Int64), it (fX5_bestKey_L1 w1) n (u5, u6) = some x13 → ∀ (H : Heap) (locs : List Loc) (ls : Array Slot), va_P G vwCl [(t_h, .inr (5, [.ref t_notes_h, .ref t_votes_h, .ref t_keys_h])), (t_notes_h, .inr (7, [.int t_notes_width, .int t_notes_most, .ref t_notes_cells_h, .int t_notes_lines])), (t_votes_h, .inl (cI, 64, .inl w1)), (t_keys_h, .inl (cJ, 256, .inr (.inl u6))), (t_notes_cells_h, .inl (cI, t_notes_cells_n, .inl t_notes_cells_a))] H → va_D A [(t_h, .inr (5, [.ref t_notes_h, .ref t_votes_h, .ref t_keys_h])), (t_notes_h, .inr (7, [.int t_notes_width, .int t_notes_most, .ref t_notes_cells_h, .int t_notes_lines])), (t_votes_h, .inl (cI, 64, .inl w1)), (t_keys_h, .inl (cJ, 256, .inr (.inl u6))), (t_notes_cells_h, .inl (cI, t_notes_cells_n, .inl t_notes_cells_a))] → va_S A s.heap H locs → lv_has ls 2 [(0, .ref t_h), (1, .int u5)] → W p l e rmX5_bestKey s m args below meth c H locs 0 0 Q (F0 m 13 ls []) := by
    intro n
    induction n with
    | zero => intro u5 u6 hz; exact (it_zero hz).elim
    | succ n ih =>
      intro u5 u6 hz H locs ls hP hD hS hl
      obtain ⟨x9, hf, hq⟩ := it_succ hz
      unfold fX5_bestKey_L1 at hf
      dsimp only [un2] at hf
      refine lv_iload_n hx hb dX5_bestKey_13 rfl (lv_at hl 1 rfl) ?_
      refine lv_sipush (v := 256) hx hb dX5_bestKey_14 (by decide) ?_
      refine lv_icmp_ge (tgt := 37) hx hb dX5_bestKey_17 (by decide) (fun c7 => ?_) (fun c7 => ?_)
      · have hf := ift hf c7
        cases hf
        exact hx1_0 _ hq _ _ _ hP hD hS (lv_sub hl [0] rfl)
      · have hf := iff_ hf c7
        refine lv_aload_n hx hb dX5_bestKey_20 rfl (lv_at hl 0 rfl) ?_
        refine va_get (D := G) (ci := 5) (v := .ref t_keys_h) (C := RX5) (T := TX5) (N := 3) hx hb hts iwX5 hown hK hP 0 rfl rfl 2 (by decide) fl_19 (fun _ h9 => h9) rfl dX5_bestKey_21 ?_
        refine lv_iload_n hx hb dX5_bestKey_24 rfl (lv_at hl 1 rfl) ?_
        refine lv_aload_n hx hb dX5_bestKey_25 rfl (lv_at hl 0 rfl) ?_
        refine lv_iload_n hx hb dX5_bestKey_26 rfl (lv_at hl 1 rfl) ?_
        obtain ⟨r8, hc9, hf⟩ := ob_some hf
        refine af_lR (va_runV (As := [.int u5]) (rest := [.int u5, .ref t_keys_h]) ⟨hx, hb, hml, hown, hts⟩ (k_X5_bestOf l G cI cJ (t_h := t_h) (t_notes_h := t_notes_h) (t_votes_h := t_votes_h) (t_keys_h := t_keys_h) (t_votes_a := w1) (t_keys_a := u6) (x1 := u5) (sz := _) (hf := hc9)) (cwV 1 hts gX5_bestKey_X5_bestOf rfl rfl rfl (by decide +kernel) ⟨Nat.le_of_ble_eq_true rfl, Nat.le_of_ble_eq_true rfl⟩) (preV0 (ci := 5) (q0 := 0) (C := RX5) (wc := [(t_h, .inr (5, [.ref t_notes_h, .ref t_votes_h, .ref t_keys_h])), (t_votes_h, .inl (cI, 64, .inl w1)), (t_keys_h, .inl (cJ, 256, .inr (.inl u6)))]) hK hP hD hN [0, 2, 3] rfl rfl (by decide) rfl rfl) rfl rfl hl.1 rfl (lv_room (Nat.le_of_ble_eq_true rfl)) dX5_bestKey_27 ⟨Nat.zero_le _, Nat.zero_le _⟩) hP hD hS hA [0, 2, 3] rfl (fun H locs hP hS => ?_)
        obtain ⟨h10, hf⟩ := gd_some hf
        obtain ⟨a11, ea11⟩ : ∃ y : Nat → Int64, y = vp_updL u6 (Int32.toNatClampNeg u5) r8 := ⟨_, rfl⟩
        have hf := bv_at ea11 hf
        refine va_last hx hb hK hP hD hS 3 1 rfl rfl (bnd_in h10) dX5_bestKey_30 (fun H locs hP hD hS => ?_)
        have hP : va_P G vwCl [(t_h, .inr (5, [.ref t_notes_h, .ref t_votes_h, .ref t_keys_h])), (t_notes_h, .inr (7, [.int t_notes_width, .int t_notes_most, .ref t_notes_cells_h, .int t_notes_lines])), (t_votes_h, .inl (cI, 64, .inl w1)), (t_keys_h, .inl (cJ, 256, .inr (.inl a11))), (t_notes_cells_h, .inl (cI, t_notes_cells_n, .inl t_notes_cells_a))] H := by rw [ea11]; exact hP
        have hD : va_D A [(t_h, .inr (5, [.ref t_notes_h, .ref t_votes_h, .ref t_keys_h])), (t_notes_h, .inr (7, [.int t_notes_width, .int t_notes_most, .ref t_notes_cells_h, .int t_notes_lines])), (t_votes_h, .inl (cI, 64, .inl w1)), (t_keys_h, .inl (cJ, 256, .inr (.inl a11))), (t_notes_cells_h, .inl (cI, t_notes_cells_n, .inl t_notes_cells_a))] := by rw [ea11]; exact hD
        obtain ⟨v12, ev12⟩ : ∃ y : Int32, y = u5 + 1 := ⟨_, rfl⟩
        have hf := bv_at ev12 hf
        refine lv_iinc (v := v12) (lv' := [(1, .int v12), (0, .ref t_h)]) hx hb dX5_bestKey_31 hl (k := 1) rfl (by rw [ev12]; rfl) (by decide) rfl (fun ls hl => ?_)
        refine lv_goto (tgt := 13) hx hb dX5_bestKey_34 (by decide) ?_
        cases hf
        exact ih _ _ hq _ _ _ hP hD hS (lv_sub hl [1, 0] rfl)
  exact hl1 _ _ _ ht1 _ _ _ hP hD hS (lv_sub hl [1, 0] rfl)
theorem dX5_quarrelOf_0 : decode cX5_quarrelOf 0 = .ok (.lload_n 1, 1) := by decide +kernel
theorem dX5_quarrelOf_1 : decode cX5_quarrelOf 1 = .ok (.bipush 24, 2) := by decide +kernel
theorem dX5_quarrelOf_3 : decode cX5_quarrelOf 3 = .ok (.lshr, 1) := by decide +kernel
theorem dX5_quarrelOf_4 : decode cX5_quarrelOf 4 = .ok (.l2i, 1) := by decide +kernel
theorem dX5_quarrelOf_5 : decode cX5_quarrelOf 5 = .ok (.ireturn, 1) := by decide +kernel
set_option maxRecDepth 100000 in
def fX5_quarrelOf (x1 : Int64) : Option (Int32) :=
  some (Int64.toInt32 (x1 >>> (Int32.toInt64 24 &&& 63)))
abbrev rmX5_quarrelOf : Room := { frames := 0, cells := 0, slots := 0, locals := 0 }
set_option maxHeartbeats 4000000 in
set_option maxRecDepth 100000 in
theorem k_X5_quarrelOf (l : Launch) (G : va_G) (cI cJ : ClassId) (t_h t_notes_h t_votes_h t_keys_h : Nat) (sz : Nat) (x1 : Int64) {o_r : Int32} (hf : fX5_quarrelOf x1 = some o_r) : MetI l yX5_quarrelOf wsX5_quarrelOf rmX5_quarrelOf [.ref t_h, .long x1] G cI cJ [(t_h, .inr (5, [.ref t_notes_h, .ref t_votes_h, .ref t_keys_h]))] [(t_h, .inr (5, [.ref t_notes_h, .ref t_votes_h, .ref t_keys_h]))] sz o_r := by
  refine en_0 (l := l) (y := yX5_quarrelOf) (wsl := wsX5_quarrelOf) (rm := rmX5_quarrelOf) (av := [.ref t_h, .long x1]) (G := G) (cI := cI) (cJ := cJ) (w0 := [(t_h, .inr (5, [.ref t_notes_h, .ref t_votes_h, .ref t_keys_h]))]) (sz := sz) (Qf := fun A => Qi0 G cI cJ [(t_h, .inr (5, [.ref t_notes_h, .ref t_votes_h, .ref t_keys_h]))] o_r A) (cc := cX5_quarrelOf) (maxL := 3) (ret := (some .int)) RX5 (by decide +kernel) rfl rfl (Nat.le_of_ble_eq_true rfl) ?_
  intro p e s m args below meth c A ls Q hQ hx hb hr hts hown hlocks hml hN hK hP hD hS hA hl
  have hl : lv_has ls 3 [(0, .ref t_h), (1, .long x1)] := hl
  have hret : ∀ (o_r9 : Int32) (pc : Nat) (H : Heap) (locs : List Loc) (ls : Array Slot), decode cX5_quarrelOf pc = .ok (.ireturn, 1) → some o_r9 = some o_r → va_P G vwCl [(t_h, .inr (5, [.ref t_notes_h, .ref t_votes_h, .ref t_keys_h]))] H → va_D A [(t_h, .inr (5, [.ref t_notes_h, .ref t_votes_h, .ref t_keys_h]))] → va_S A s.heap H locs → W p l e rmX5_quarrelOf s m args below meth c H locs 0 0 Q (F0 m pc ls [.int o_r9]) := by
    intro o_r9 pc H locs ls hdg he hP hD hS
    cases he
    subst hQ
    exact rt_i hx hb hr hlocks hK hP hD hS rfl hdg
  clear hQ
  unfold fX5_quarrelOf at hf
  refine lv_lload_n hx hb dX5_quarrelOf_0 rfl (lv_at hl 1 rfl) ?_
  refine lv_bipush (v := 24) hx hb dX5_quarrelOf_1 (by decide) ?_
  refine lv_lshr (v := x1 >>> (Int32.toInt64 24 &&& 63)) hx hb dX5_quarrelOf_3 rfl ?_
  refine lv_l2i (v := Int64.toInt32 (x1 >>> (Int32.toInt64 24 &&& 63))) hx hb dX5_quarrelOf_4 rfl ?_
  exact hret (Int64.toInt32 (x1 >>> (Int32.toInt64 24 &&& 63))) 5 _ _ _ dX5_quarrelOf_5 hf hP hD hS
theorem dX5_formAt_0 : decode cX5_formAt 0 = .ok (.lload_n 1, 1) := by decide +kernel
theorem dX5_formAt_1 : decode cX5_formAt 1 = .ok (.iconst 3, 1) := by decide +kernel
theorem dX5_formAt_2 : decode cX5_formAt 2 = .ok (.bipush 7, 2) := by decide +kernel
theorem dX5_formAt_4 : decode cX5_formAt 4 = .ok (.iload_n 3, 1) := by decide +kernel
theorem dX5_formAt_5 : decode cX5_formAt 5 = .ok (.isub, 1) := by decide +kernel
theorem dX5_formAt_6 : decode cX5_formAt 6 = .ok (.imul, 1) := by decide +kernel
theorem dX5_formAt_7 : decode cX5_formAt 7 = .ok (.lshr, 1) := by decide +kernel
theorem dX5_formAt_8 : decode cX5_formAt 8 = .ok (.ldc2_w 57, 3) := by decide +kernel
theorem dX5_formAt_11 : decode cX5_formAt 11 = .ok (.land, 1) := by decide +kernel
theorem dX5_formAt_12 : decode cX5_formAt 12 = .ok (.l2i, 1) := by decide +kernel
theorem dX5_formAt_13 : decode cX5_formAt 13 = .ok (.ireturn, 1) := by decide +kernel
set_option maxRecDepth 100000 in
def fX5_formAt (x1 : Int64) (x3 : Int32) : Option (Int32) :=
  some (Int64.toInt32 ((x1 >>> (Int32.toInt64 (3 * (7 - x3)) &&& 63)) &&& 7))
abbrev rmX5_formAt : Room := { frames := 0, cells := 0, slots := 0, locals := 0 }
set_option maxHeartbeats 4000000 in
set_option maxRecDepth 100000 in
theorem k_X5_formAt (l : Launch) (G : va_G) (cI cJ : ClassId) (t_h t_notes_h t_votes_h t_keys_h : Nat) (sz : Nat) (x1 : Int64) (x3 : Int32) {o_r : Int32} (hf : fX5_formAt x1 x3 = some o_r) : MetI l yX5_formAt wsX5_formAt rmX5_formAt [.ref t_h, .long x1, .int x3] G cI cJ [(t_h, .inr (5, [.ref t_notes_h, .ref t_votes_h, .ref t_keys_h]))] [(t_h, .inr (5, [.ref t_notes_h, .ref t_votes_h, .ref t_keys_h]))] sz o_r := by
  refine en_0 (l := l) (y := yX5_formAt) (wsl := wsX5_formAt) (rm := rmX5_formAt) (av := [.ref t_h, .long x1, .int x3]) (G := G) (cI := cI) (cJ := cJ) (w0 := [(t_h, .inr (5, [.ref t_notes_h, .ref t_votes_h, .ref t_keys_h]))]) (sz := sz) (Qf := fun A => Qi0 G cI cJ [(t_h, .inr (5, [.ref t_notes_h, .ref t_votes_h, .ref t_keys_h]))] o_r A) (cc := cX5_formAt) (maxL := 4) (ret := (some .int)) RX5 (by decide +kernel) rfl rfl (Nat.le_of_ble_eq_true rfl) ?_
  intro p e s m args below meth c A ls Q hQ hx hb hr hts hown hlocks hml hN hK hP hD hS hA hl
  have hl : lv_has ls 4 [(0, .ref t_h), (1, .long x1), (3, .int x3)] := hl
  have kc_57 := hts (.constantLong RX5 57 (7)) (by decide +kernel)
  have hret : ∀ (o_r9 : Int32) (pc : Nat) (H : Heap) (locs : List Loc) (ls : Array Slot), decode cX5_formAt pc = .ok (.ireturn, 1) → some o_r9 = some o_r → va_P G vwCl [(t_h, .inr (5, [.ref t_notes_h, .ref t_votes_h, .ref t_keys_h]))] H → va_D A [(t_h, .inr (5, [.ref t_notes_h, .ref t_votes_h, .ref t_keys_h]))] → va_S A s.heap H locs → W p l e rmX5_formAt s m args below meth c H locs 0 0 Q (F0 m pc ls [.int o_r9]) := by
    intro o_r9 pc H locs ls hdg he hP hD hS
    cases he
    subst hQ
    exact rt_i hx hb hr hlocks hK hP hD hS rfl hdg
  clear hQ
  unfold fX5_formAt at hf
  refine lv_lload_n hx hb dX5_formAt_0 rfl (lv_at hl 1 rfl) ?_
  refine lv_iconst (v := 3) hx hb dX5_formAt_1 (by decide) ?_
  refine lv_bipush (v := 7) hx hb dX5_formAt_2 (by decide) ?_
  refine lv_iload_n hx hb dX5_formAt_4 rfl (lv_at hl 2 rfl) ?_
  refine lv_isub hx hb dX5_formAt_5 ?_
  refine lv_imul hx hb dX5_formAt_6 ?_
  refine lv_lshr (v := x1 >>> (Int32.toInt64 (3 * (7 - x3)) &&& 63)) hx hb dX5_formAt_7 rfl ?_
  refine lv_ldc2 (v := 7) hx hb hown kc_57 dX5_formAt_8 ?_
  refine lv_land hx hb dX5_formAt_11 ?_
  refine lv_l2i (v := Int64.toInt32 ((x1 >>> (Int32.toInt64 (3 * (7 - x3)) &&& 63)) &&& 7)) hx hb dX5_formAt_12 rfl ?_
  exact hret (Int64.toInt32 ((x1 >>> (Int32.toInt64 (3 * (7 - x3)) &&& 63)) &&& 7)) 13 _ _ _ dX5_formAt_13 hf hP hD hS
