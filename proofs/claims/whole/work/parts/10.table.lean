theorem dX7_size_0 : decode cX7_size 0 = .ok (.aload_n 0, 1) := by decide +kernel
theorem dX7_size_1 : decode cX7_size 1 = .ok (.getfield 28, 3) := by decide +kernel
theorem dX7_size_4 : decode cX7_size 4 = .ok (.ireturn, 1) := by decide +kernel
set_option maxRecDepth 100000 in
def fX7_size (t_lines : Int32) : Option (Int32) :=
  some t_lines
abbrev rmX7_size : Room := { frames := 0, cells := 0, slots := 0, locals := 0 }
theorem iwX7_size_X7 : ∀ w ∈ u_ws RX7 TX7 4, w ∈ wsX7_size := by decide +kernel
set_option maxHeartbeats 4000000 in
set_option maxRecDepth 100000 in
theorem k_X7_size (l : Launch) (G : va_G) (cI cJ : ClassId) (t_h t_cells_h : Nat) (sz : Nat) (t_width : Int32) (t_most : Int32) (t_lines : Int32) {o_r : Int32} (hf : fX7_size t_lines = some o_r) : MetI l yX7_size wsX7_size rmX7_size [.ref t_h] G cI cJ [(t_h, .inr (7, [.int t_width, .int t_most, .ref t_cells_h, .int t_lines]))] [(t_h, .inr (7, [.int t_width, .int t_most, .ref t_cells_h, .int t_lines]))] sz o_r := by
  refine en_0 (l := l) (y := yX7_size) (wsl := wsX7_size) (rm := rmX7_size) (av := [.ref t_h]) (G := G) (cI := cI) (cJ := cJ) (w0 := [(t_h, .inr (7, [.int t_width, .int t_most, .ref t_cells_h, .int t_lines]))]) (sz := sz) (Qf := fun A => Qi0 G cI cJ [(t_h, .inr (7, [.int t_width, .int t_most, .ref t_cells_h, .int t_lines]))] o_r A) (cc := cX7_size) (maxL := 1) (ret := (some .int)) RX7 (by decide +kernel) rfl rfl (Nat.le_of_ble_eq_true rfl) ?_
  intro p e s m args below meth c A ls Q hQ hx hb hr hts hown hlocks hml hN hK hP hD hS hA hl
  have hl : lv_has ls 1 [(0, .ref t_h)] := hl
  have iwX7 := iwX7_size_X7
  have fl_28 := hts (.fieldLink RX7 28 "CloudOffice$Table" "lines" "I") (by decide +kernel)
  have hret : ∀ (o_r9 : Int32) (pc : Nat) (H : Heap) (locs : List Loc) (ls : Array Slot), decode cX7_size pc = .ok (.ireturn, 1) → some o_r9 = some o_r → va_P G vwCl [(t_h, .inr (7, [.int t_width, .int t_most, .ref t_cells_h, .int t_lines]))] H → va_D A [(t_h, .inr (7, [.int t_width, .int t_most, .ref t_cells_h, .int t_lines]))] → va_S A s.heap H locs → W p l e rmX7_size s m args below meth c H locs 0 0 Q (F0 m pc ls [.int o_r9]) := by
    intro o_r9 pc H locs ls hdg he hP hD hS
    cases he
    subst hQ
    exact rt_i hx hb hr hlocks hK hP hD hS rfl hdg
  clear hQ
  unfold fX7_size at hf
  refine lv_aload_n hx hb dX7_size_0 rfl (lv_at hl 0 rfl) ?_
  refine va_get (D := G) (ci := 7) (v := .int t_lines) (C := RX7) (T := TX7) (N := 4) hx hb hts iwX7 hown hK hP 0 rfl rfl 3 (by decide) fl_28 (fun _ h9 => h9) rfl dX7_size_1 ?_
  exact hret t_lines 4 _ _ _ dX7_size_4 hf hP hD hS
theorem dX7_has_0 : decode cX7_has 0 = .ok (.iload_n 1, 1) := by decide +kernel
theorem dX7_has_1 : decode cX7_has 1 = .ok (.ifCond .lt 15, 3) := by decide +kernel
theorem dX7_has_4 : decode cX7_has 4 = .ok (.iload_n 1, 1) := by decide +kernel
theorem dX7_has_5 : decode cX7_has 5 = .ok (.aload_n 0, 1) := by decide +kernel
theorem dX7_has_6 : decode cX7_has 6 = .ok (.getfield 28, 3) := by decide +kernel
theorem dX7_has_9 : decode cX7_has 9 = .ok (.if_icmp .ge 7, 3) := by decide +kernel
theorem dX7_has_12 : decode cX7_has 12 = .ok (.iconst 1, 1) := by decide +kernel
theorem dX7_has_13 : decode cX7_has 13 = .ok (.goto 4, 3) := by decide +kernel
theorem dX7_has_16 : decode cX7_has 16 = .ok (.iconst 0, 1) := by decide +kernel
theorem dX7_has_17 : decode cX7_has 17 = .ok (.ireturn, 1) := by decide +kernel
set_option maxRecDepth 100000 in
def fX7_has (x1 : Int32) (t_lines : Int32) : Option (Bool) :=
  if x1 < 0 then
    some false
  else
    if t_lines ≤ x1 then
      some false
    else
      some true
abbrev rmX7_has : Room := { frames := 0, cells := 0, slots := 0, locals := 0 }
theorem iwX7_has_X7 : ∀ w ∈ u_ws RX7 TX7 4, w ∈ wsX7_has := by decide +kernel
set_option maxHeartbeats 4000000 in
set_option maxRecDepth 100000 in
theorem k_X7_has (l : Launch) (G : va_G) (cI cJ : ClassId) (t_h t_cells_h : Nat) (sz : Nat) (t_width : Int32) (t_most : Int32) (t_lines : Int32) (x1 : Int32) {o_r : Bool} (hf : fX7_has x1 t_lines = some o_r) : MetI l yX7_has wsX7_has rmX7_has [.ref t_h, .int x1] G cI cJ [(t_h, .inr (7, [.int t_width, .int t_most, .ref t_cells_h, .int t_lines]))] [(t_h, .inr (7, [.int t_width, .int t_most, .ref t_cells_h, .int t_lines]))] sz (b2i o_r) := by
  refine en_0 (l := l) (y := yX7_has) (wsl := wsX7_has) (rm := rmX7_has) (av := [.ref t_h, .int x1]) (G := G) (cI := cI) (cJ := cJ) (w0 := [(t_h, .inr (7, [.int t_width, .int t_most, .ref t_cells_h, .int t_lines]))]) (sz := sz) (Qf := fun A => Qi0 G cI cJ [(t_h, .inr (7, [.int t_width, .int t_most, .ref t_cells_h, .int t_lines]))] (b2i o_r) A) (cc := cX7_has) (maxL := 2) (ret := (some .boolean)) RX7 (by decide +kernel) rfl rfl (Nat.le_of_ble_eq_true rfl) ?_
  intro p e s m args below meth c A ls Q hQ hx hb hr hts hown hlocks hml hN hK hP hD hS hA hl
  have hl : lv_has ls 2 [(0, .ref t_h), (1, .int x1)] := hl
  have iwX7 := iwX7_has_X7
  have fl_28 := hts (.fieldLink RX7 28 "CloudOffice$Table" "lines" "I") (by decide +kernel)
  have hret : ∀ (o_r9 : Bool) (pc : Nat) (H : Heap) (locs : List Loc) (ls : Array Slot), decode cX7_has pc = .ok (.ireturn, 1) → some o_r9 = some o_r → va_P G vwCl [(t_h, .inr (7, [.int t_width, .int t_most, .ref t_cells_h, .int t_lines]))] H → va_D A [(t_h, .inr (7, [.int t_width, .int t_most, .ref t_cells_h, .int t_lines]))] → va_S A s.heap H locs → W p l e rmX7_has s m args below meth c H locs 0 0 Q (F0 m pc ls [.int (b2i o_r9)]) := by
    intro o_r9 pc H locs ls hdg he hP hD hS
    cases he
    subst hQ
    exact rt_z hx hb hr hlocks hK hP hD hS (b2i_narrow _) rfl hdg
  clear hQ
  unfold fX7_has at hf
  refine lv_iload_n hx hb dX7_has_0 rfl (lv_at hl 1 rfl) ?_
  refine lv_if_lt (tgt := 16) hx hb dX7_has_1 (by decide) (fun c1 => ?_) (fun c1 => ?_)
  · have hf := ift hf c1
    refine lv_iconst (v := 0) hx hb dX7_has_16 (by decide) ?_
    exact hret false 17 _ _ _ dX7_has_17 hf hP hD hS
  · have hf := iff_ hf c1
    refine lv_iload_n hx hb dX7_has_4 rfl (lv_at hl 1 rfl) ?_
    refine lv_aload_n hx hb dX7_has_5 rfl (lv_at hl 0 rfl) ?_
    refine va_get (D := G) (ci := 7) (v := .int t_lines) (C := RX7) (T := TX7) (N := 4) hx hb hts iwX7 hown hK hP 0 rfl rfl 3 (by decide) fl_28 (fun _ h9 => h9) rfl dX7_has_6 ?_
    refine lv_icmp_ge (tgt := 16) hx hb dX7_has_9 (by decide) (fun c2 => ?_) (fun c2 => ?_)
    · have hf := ift hf c2
      refine lv_iconst (v := 0) hx hb dX7_has_16 (by decide) ?_
      exact hret false 17 _ _ _ dX7_has_17 hf hP hD hS
    · have hf := iff_ hf c2
      refine lv_iconst (v := 1) hx hb dX7_has_12 (by decide) ?_
      refine lv_goto (tgt := 17) hx hb dX7_has_13 (by decide) ?_
      exact hret true 17 _ _ _ dX7_has_17 hf hP hD hS
theorem dX7_at_0 : decode cX7_at 0 = .ok (.iload_n 1, 1) := by decide +kernel
theorem dX7_at_1 : decode cX7_at 1 = .ok (.aload_n 0, 1) := by decide +kernel
theorem dX7_at_2 : decode cX7_at 2 = .ok (.getfield 9, 3) := by decide +kernel
theorem dX7_at_5 : decode cX7_at 5 = .ok (.imul, 1) := by decide +kernel
theorem dX7_at_6 : decode cX7_at 6 = .ok (.iload_n 2, 1) := by decide +kernel
theorem dX7_at_7 : decode cX7_at 7 = .ok (.iadd, 1) := by decide +kernel
theorem dX7_at_8 : decode cX7_at 8 = .ok (.istore_n 3, 1) := by decide +kernel
theorem dX7_at_9 : decode cX7_at 9 = .ok (.iload_n 3, 1) := by decide +kernel
theorem dX7_at_10 : decode cX7_at 10 = .ok (.ifCond .lt 21, 3) := by decide +kernel
theorem dX7_at_13 : decode cX7_at 13 = .ok (.iload_n 3, 1) := by decide +kernel
theorem dX7_at_14 : decode cX7_at 14 = .ok (.aload_n 0, 1) := by decide +kernel
theorem dX7_at_15 : decode cX7_at 15 = .ok (.getfield 24, 3) := by decide +kernel
theorem dX7_at_18 : decode cX7_at 18 = .ok (.arraylength, 1) := by decide +kernel
theorem dX7_at_19 : decode cX7_at 19 = .ok (.if_icmp .ge 12, 3) := by decide +kernel
theorem dX7_at_22 : decode cX7_at 22 = .ok (.aload_n 0, 1) := by decide +kernel
theorem dX7_at_23 : decode cX7_at 23 = .ok (.getfield 24, 3) := by decide +kernel
theorem dX7_at_26 : decode cX7_at 26 = .ok (.iload_n 3, 1) := by decide +kernel
theorem dX7_at_27 : decode cX7_at 27 = .ok (.iaload, 1) := by decide +kernel
theorem dX7_at_28 : decode cX7_at 28 = .ok (.goto 4, 3) := by decide +kernel
theorem dX7_at_31 : decode cX7_at 31 = .ok (.iconst 0, 1) := by decide +kernel
theorem dX7_at_32 : decode cX7_at 32 = .ok (.ireturn, 1) := by decide +kernel
set_option maxRecDepth 100000 in
def fX7_at (x1 : Int32) (x2 : Int32) (t_width : Int32) (t_cells_n : Nat) (t_cells_a : Nat → Int32) : Option (Int32) :=
  bv ((x1 * t_width) + x2) fun v1 =>
  if v1 < 0 then
    some 0
  else
    if (Int32.ofNat t_cells_n) ≤ v1 then
      some 0
    else
      gd (bnd v1 t_cells_n) <|
      some (t_cells_a (Int32.toNatClampNeg v1))
abbrev rmX7_at : Room := { frames := 0, cells := 0, slots := 0, locals := 0 }
theorem iwX7_at_X7 : ∀ w ∈ u_ws RX7 TX7 4, w ∈ wsX7_at := by decide +kernel
set_option maxHeartbeats 4000000 in
set_option maxRecDepth 100000 in
theorem k_X7_at (l : Launch) (G : va_G) (cI cJ : ClassId) (t_h t_cells_h : Nat) (sz : Nat) (t_width : Int32) (t_most : Int32) (t_lines : Int32) (t_cells_n : Nat) (t_cells_a : Nat → Int32) (x1 : Int32) (x2 : Int32) {o_r : Int32} (hf : fX7_at x1 x2 t_width t_cells_n t_cells_a = some o_r) : MetI l yX7_at wsX7_at rmX7_at [.ref t_h, .int x1, .int x2] G cI cJ [(t_h, .inr (7, [.int t_width, .int t_most, .ref t_cells_h, .int t_lines])), (t_cells_h, .inl (cI, t_cells_n, .inl t_cells_a))] [(t_h, .inr (7, [.int t_width, .int t_most, .ref t_cells_h, .int t_lines])), (t_cells_h, .inl (cI, t_cells_n, .inl t_cells_a))] sz o_r := by
  refine en_0 (l := l) (y := yX7_at) (wsl := wsX7_at) (rm := rmX7_at) (av := [.ref t_h, .int x1, .int x2]) (G := G) (cI := cI) (cJ := cJ) (w0 := [(t_h, .inr (7, [.int t_width, .int t_most, .ref t_cells_h, .int t_lines])), (t_cells_h, .inl (cI, t_cells_n, .inl t_cells_a))]) (sz := sz) (Qf := fun A => Qi0 G cI cJ [(t_h, .inr (7, [.int t_width, .int t_most, .ref t_cells_h, .int t_lines])), (t_cells_h, .inl (cI, t_cells_n, .inl t_cells_a))] o_r A) (cc := cX7_at) (maxL := 4) (ret := (some .int)) RX7 (by decide +kernel) rfl rfl (Nat.le_of_ble_eq_true rfl) ?_
  intro p e s m args below meth c A ls Q hQ hx hb hr hts hown hlocks hml hN hK hP hD hS hA hl
  have hl : lv_has ls 4 [(0, .ref t_h), (1, .int x1), (2, .int x2)] := hl
  have iwX7 := iwX7_at_X7
  have fl_9 := hts (.fieldLink RX7 9 "CloudOffice$Table" "width" "I") (by decide +kernel)
  have fl_24 := hts (.fieldLink RX7 24 "CloudOffice$Table" "cells" "[I") (by decide +kernel)
  have hret : ∀ (o_r9 : Int32) (pc : Nat) (H : Heap) (locs : List Loc) (ls : Array Slot), decode cX7_at pc = .ok (.ireturn, 1) → some o_r9 = some o_r → va_P G vwCl [(t_h, .inr (7, [.int t_width, .int t_most, .ref t_cells_h, .int t_lines])), (t_cells_h, .inl (cI, t_cells_n, .inl t_cells_a))] H → va_D A [(t_h, .inr (7, [.int t_width, .int t_most, .ref t_cells_h, .int t_lines])), (t_cells_h, .inl (cI, t_cells_n, .inl t_cells_a))] → va_S A s.heap H locs → W p l e rmX7_at s m args below meth c H locs 0 0 Q (F0 m pc ls [.int o_r9]) := by
    intro o_r9 pc H locs ls hdg he hP hD hS
    cases he
    subst hQ
    exact rt_i hx hb hr hlocks hK hP hD hS rfl hdg
  clear hQ
  unfold fX7_at at hf
  refine lv_iload_n hx hb dX7_at_0 rfl (lv_at hl 1 rfl) ?_
  refine lv_aload_n hx hb dX7_at_1 rfl (lv_at hl 0 rfl) ?_
  refine va_get (D := G) (ci := 7) (v := .int t_width) (C := RX7) (T := TX7) (N := 4) hx hb hts iwX7 hown hK hP 0 rfl rfl 0 (by decide) fl_9 (fun _ h9 => h9) rfl dX7_at_2 ?_
  refine lv_imul hx hb dX7_at_5 ?_
  refine lv_iload_n hx hb dX7_at_6 rfl (lv_at hl 2 rfl) ?_
  refine lv_iadd hx hb dX7_at_7 ?_
  refine lv_topi (fun v1 ev1 => ?_)
  have hf := bv_at ev1 hf
  refine lv_istore_n (lv' := [(3, .int v1), (0, .ref t_h), (1, .int x1), (2, .int x2)]) hx hb dX7_at_8 rfl hl (by decide) rfl (fun ls hl => ?_)
  refine lv_iload_n hx hb dX7_at_9 rfl (lv_at hl 0 rfl) ?_
  refine lv_if_lt (tgt := 31) hx hb dX7_at_10 (by decide) (fun c2 => ?_) (fun c2 => ?_)
  · have hf := ift hf c2
    refine lv_iconst (v := 0) hx hb dX7_at_31 (by decide) ?_
    exact hret 0 32 _ _ _ dX7_at_32 hf hP hD hS
  · have hf := iff_ hf c2
    refine lv_iload_n hx hb dX7_at_13 rfl (lv_at hl 0 rfl) ?_
    refine lv_aload_n hx hb dX7_at_14 rfl (lv_at hl 1 rfl) ?_
    refine va_get (D := G) (ci := 7) (v := .ref t_cells_h) (C := RX7) (T := TX7) (N := 4) hx hb hts iwX7 hown hK hP 0 rfl rfl 2 (by decide) fl_24 (fun _ h9 => h9) rfl dX7_at_15 ?_
    refine va_alen (v := Int32.ofNat t_cells_n) hx hb hK hP 1 0 rfl rfl rfl dX7_at_18 ?_
    refine lv_icmp_ge (tgt := 31) hx hb dX7_at_19 (by decide) (fun c3 => ?_) (fun c3 => ?_)
    · have hf := ift hf c3
      refine lv_iconst (v := 0) hx hb dX7_at_31 (by decide) ?_
      exact hret 0 32 _ _ _ dX7_at_32 hf hP hD hS
    · have hf := iff_ hf c3
      refine lv_aload_n hx hb dX7_at_22 rfl (lv_at hl 1 rfl) ?_
      refine va_get (D := G) (ci := 7) (v := .ref t_cells_h) (C := RX7) (T := TX7) (N := 4) hx hb hts iwX7 hown hK hP 0 rfl rfl 2 (by decide) fl_24 (fun _ h9 => h9) rfl dX7_at_23 ?_
      refine lv_iload_n hx hb dX7_at_26 rfl (lv_at hl 0 rfl) ?_
      obtain ⟨h4, hf⟩ := gd_some hf
      refine va_iald hx hb hK hP 1 0 rfl rfl (bnd_in h4) dX7_at_27 ?_
      refine lv_goto (tgt := 32) hx hb dX7_at_28 (by decide) ?_
      exact hret (t_cells_a (Int32.toNatClampNeg v1)) 32 _ _ _ dX7_at_32 hf hP hD hS
theorem dX7_put_0 : decode cX7_put 0 = .ok (.aload_n 0, 1) := by decide +kernel
theorem dX7_put_1 : decode cX7_put 1 = .ok (.getfield 28, 3) := by decide +kernel
theorem dX7_put_4 : decode cX7_put 4 = .ok (.aload_n 0, 1) := by decide +kernel
theorem dX7_put_5 : decode cX7_put 5 = .ok (.getfield 9, 3) := by decide +kernel
theorem dX7_put_8 : decode cX7_put 8 = .ok (.imul, 1) := by decide +kernel
theorem dX7_put_9 : decode cX7_put 9 = .ok (.iload_n 1, 1) := by decide +kernel
theorem dX7_put_10 : decode cX7_put 10 = .ok (.iadd, 1) := by decide +kernel
theorem dX7_put_11 : decode cX7_put 11 = .ok (.istore_n 3, 1) := by decide +kernel
theorem dX7_put_12 : decode cX7_put 12 = .ok (.iload_n 1, 1) := by decide +kernel
theorem dX7_put_13 : decode cX7_put 13 = .ok (.aload_n 0, 1) := by decide +kernel
theorem dX7_put_14 : decode cX7_put 14 = .ok (.getfield 9, 3) := by decide +kernel
theorem dX7_put_17 : decode cX7_put 17 = .ok (.if_icmp .ge 23, 3) := by decide +kernel
theorem dX7_put_20 : decode cX7_put 20 = .ok (.iload_n 3, 1) := by decide +kernel
theorem dX7_put_21 : decode cX7_put 21 = .ok (.ifCond .lt 19, 3) := by decide +kernel
theorem dX7_put_24 : decode cX7_put 24 = .ok (.iload_n 3, 1) := by decide +kernel
theorem dX7_put_25 : decode cX7_put 25 = .ok (.aload_n 0, 1) := by decide +kernel
theorem dX7_put_26 : decode cX7_put 26 = .ok (.getfield 24, 3) := by decide +kernel
theorem dX7_put_29 : decode cX7_put 29 = .ok (.arraylength, 1) := by decide +kernel
theorem dX7_put_30 : decode cX7_put 30 = .ok (.if_icmp .ge 10, 3) := by decide +kernel
theorem dX7_put_33 : decode cX7_put 33 = .ok (.aload_n 0, 1) := by decide +kernel
theorem dX7_put_34 : decode cX7_put 34 = .ok (.getfield 24, 3) := by decide +kernel
theorem dX7_put_37 : decode cX7_put 37 = .ok (.iload_n 3, 1) := by decide +kernel
theorem dX7_put_38 : decode cX7_put 38 = .ok (.iload_n 2, 1) := by decide +kernel
theorem dX7_put_39 : decode cX7_put 39 = .ok (.iastore, 1) := by decide +kernel
theorem dX7_put_40 : decode cX7_put 40 = .ok (.return_, 1) := by decide +kernel
set_option maxRecDepth 100000 in
def fX7_put (x1 : Int32) (x2 : Int32) (t_width : Int32) (t_lines : Int32) (t_cells_n : Nat) (t_cells_a : Nat → Int32) : Option ((Nat → Int32)) :=
  bv ((t_lines * t_width) + x1) fun v1 =>
  if t_width ≤ x1 then
    some t_cells_a
  else
    if v1 < 0 then
      some t_cells_a
    else
      if (Int32.ofNat t_cells_n) ≤ v1 then
        some t_cells_a
      else
        gd (bnd v1 t_cells_n) <|
        bv (upd t_cells_a (Int32.toNatClampNeg v1) x2) fun a6 =>
        some a6
abbrev rmX7_put : Room := { frames := 0, cells := 0, slots := 0, locals := 0 }
theorem iwX7_put_X7 : ∀ w ∈ u_ws RX7 TX7 4, w ∈ wsX7_put := by decide +kernel
set_option maxHeartbeats 4000000 in
set_option maxRecDepth 100000 in
theorem k_X7_put (l : Launch) (G : va_G) (cI cJ : ClassId) (t_h t_cells_h : Nat) (sz : Nat) (t_width : Int32) (t_most : Int32) (t_lines : Int32) (t_cells_n : Nat) (t_cells_a : Nat → Int32) (x1 : Int32) (x2 : Int32) {o_t_cells_a : Nat → Int32} (hf : fX7_put x1 x2 t_width t_lines t_cells_n t_cells_a = some o_t_cells_a) : MetU l yX7_put wsX7_put rmX7_put [.ref t_h, .int x1, .int x2] G cI cJ [(t_h, .inr (7, [.int t_width, .int t_most, .ref t_cells_h, .int t_lines])), (t_cells_h, .inl (cI, t_cells_n, .inl t_cells_a))] [(t_h, .inr (7, [.int t_width, .int t_most, .ref t_cells_h, .int t_lines])), (t_cells_h, .inl (cI, t_cells_n, .inl o_t_cells_a))] sz := by
  refine en_0 (l := l) (y := yX7_put) (wsl := wsX7_put) (rm := rmX7_put) (av := [.ref t_h, .int x1, .int x2]) (G := G) (cI := cI) (cJ := cJ) (w0 := [(t_h, .inr (7, [.int t_width, .int t_most, .ref t_cells_h, .int t_lines])), (t_cells_h, .inl (cI, t_cells_n, .inl t_cells_a))]) (sz := sz) (Qf := fun A => Qv0 G cI cJ [(t_h, .inr (7, [.int t_width, .int t_most, .ref t_cells_h, .int t_lines])), (t_cells_h, .inl (cI, t_cells_n, .inl o_t_cells_a))] A) (cc := cX7_put) (maxL := 4) (ret := none) RX7 (by decide +kernel) rfl rfl (Nat.le_of_ble_eq_true rfl) ?_
  intro p e s m args below meth c A ls Q hQ hx hb hr hts hown hlocks hml hN hK hP hD hS hA hl
  have hl : lv_has ls 4 [(0, .ref t_h), (1, .int x1), (2, .int x2)] := hl
  have iwX7 := iwX7_put_X7
  have fl_9 := hts (.fieldLink RX7 9 "CloudOffice$Table" "width" "I") (by decide +kernel)
  have fl_24 := hts (.fieldLink RX7 24 "CloudOffice$Table" "cells" "[I") (by decide +kernel)
  have fl_28 := hts (.fieldLink RX7 28 "CloudOffice$Table" "lines" "I") (by decide +kernel)
  have hret : ∀ (o_t_cells_a9 : Nat → Int32) (pc : Nat) (H : Heap) (locs : List Loc) (ls : Array Slot), decode cX7_put pc = .ok (.return_, 1) → some o_t_cells_a9 = some o_t_cells_a → va_P G vwCl [(t_h, .inr (7, [.int t_width, .int t_most, .ref t_cells_h, .int t_lines])), (t_cells_h, .inl (cI, t_cells_n, .inl o_t_cells_a9))] H → va_D A [(t_h, .inr (7, [.int t_width, .int t_most, .ref t_cells_h, .int t_lines])), (t_cells_h, .inl (cI, t_cells_n, .inl o_t_cells_a9))] → va_S A s.heap H locs → W p l e rmX7_put s m args below meth c H locs 0 0 Q (F0 m pc ls []) := by
    intro o_t_cells_a9 pc H locs ls hdg he hP hD hS
    cases he
    subst hQ
    exact rt_v hx hb hr hlocks hK hP hD hS hdg
  clear hQ
  unfold fX7_put at hf
  refine lv_aload_n hx hb dX7_put_0 rfl (lv_at hl 0 rfl) ?_
  refine va_get (D := G) (ci := 7) (v := .int t_lines) (C := RX7) (T := TX7) (N := 4) hx hb hts iwX7 hown hK hP 0 rfl rfl 3 (by decide) fl_28 (fun _ h9 => h9) rfl dX7_put_1 ?_
  refine lv_aload_n hx hb dX7_put_4 rfl (lv_at hl 0 rfl) ?_
  refine va_get (D := G) (ci := 7) (v := .int t_width) (C := RX7) (T := TX7) (N := 4) hx hb hts iwX7 hown hK hP 0 rfl rfl 0 (by decide) fl_9 (fun _ h9 => h9) rfl dX7_put_5 ?_
  refine lv_imul hx hb dX7_put_8 ?_
  refine lv_iload_n hx hb dX7_put_9 rfl (lv_at hl 1 rfl) ?_
  refine lv_iadd hx hb dX7_put_10 ?_
  refine lv_topi (fun v1 ev1 => ?_)
  have hf := bv_at ev1 hf
  refine lv_istore_n (lv' := [(3, .int v1), (0, .ref t_h), (1, .int x1), (2, .int x2)]) hx hb dX7_put_11 rfl hl (by decide) rfl (fun ls hl => ?_)
  refine lv_iload_n hx hb dX7_put_12 rfl (lv_at hl 2 rfl) ?_
  refine lv_aload_n hx hb dX7_put_13 rfl (lv_at hl 1 rfl) ?_
  refine va_get (D := G) (ci := 7) (v := .int t_width) (C := RX7) (T := TX7) (N := 4) hx hb hts iwX7 hown hK hP 0 rfl rfl 0 (by decide) fl_9 (fun _ h9 => h9) rfl dX7_put_14 ?_
  refine lv_icmp_ge (tgt := 40) hx hb dX7_put_17 (by decide) (fun c2 => ?_) (fun c2 => ?_)
  · have hf := ift hf c2
    exact hret t_cells_a 40 _ _ _ dX7_put_40 hf hP hD hS
  · have hf := iff_ hf c2
    refine lv_iload_n hx hb dX7_put_20 rfl (lv_at hl 0 rfl) ?_
    refine lv_if_lt (tgt := 40) hx hb dX7_put_21 (by decide) (fun c3 => ?_) (fun c3 => ?_)
    · have hf := ift hf c3
      exact hret t_cells_a 40 _ _ _ dX7_put_40 hf hP hD hS
    · have hf := iff_ hf c3
      refine lv_iload_n hx hb dX7_put_24 rfl (lv_at hl 0 rfl) ?_
      refine lv_aload_n hx hb dX7_put_25 rfl (lv_at hl 1 rfl) ?_
      refine va_get (D := G) (ci := 7) (v := .ref t_cells_h) (C := RX7) (T := TX7) (N := 4) hx hb hts iwX7 hown hK hP 0 rfl rfl 2 (by decide) fl_24 (fun _ h9 => h9) rfl dX7_put_26 ?_
      refine va_alen (v := Int32.ofNat t_cells_n) hx hb hK hP 1 0 rfl rfl rfl dX7_put_29 ?_
      refine lv_icmp_ge (tgt := 40) hx hb dX7_put_30 (by decide) (fun c4 => ?_) (fun c4 => ?_)
      · have hf := ift hf c4
        exact hret t_cells_a 40 _ _ _ dX7_put_40 hf hP hD hS
      · have hf := iff_ hf c4
        refine lv_aload_n hx hb dX7_put_33 rfl (lv_at hl 1 rfl) ?_
        refine va_get (D := G) (ci := 7) (v := .ref t_cells_h) (C := RX7) (T := TX7) (N := 4) hx hb hts iwX7 hown hK hP 0 rfl rfl 2 (by decide) fl_24 (fun _ h9 => h9) rfl dX7_put_34 ?_
        refine lv_iload_n hx hb dX7_put_37 rfl (lv_at hl 0 rfl) ?_
        refine lv_iload_n hx hb dX7_put_38 rfl (lv_at hl 3 rfl) ?_
        obtain ⟨h5, hf⟩ := gd_some hf
        obtain ⟨a6, ea6⟩ : ∃ y : Nat → Int32, y = upd t_cells_a (Int32.toNatClampNeg v1) x2 := ⟨_, rfl⟩
        have hf := bv_at ea6 hf
        refine va_iast hx hb hK hP hD hS 1 0 rfl rfl (bnd_in h5) dX7_put_39 (fun H locs hP hD hS => ?_)
        have hP : va_P G vwCl [(t_h, .inr (7, [.int t_width, .int t_most, .ref t_cells_h, .int t_lines])), (t_cells_h, .inl (cI, t_cells_n, .inl a6))] H := by rw [ea6]; exact hP
        have hD : va_D A [(t_h, .inr (7, [.int t_width, .int t_most, .ref t_cells_h, .int t_lines])), (t_cells_h, .inl (cI, t_cells_n, .inl a6))] := by rw [ea6]; exact hD
        exact hret a6 40 _ _ _ dX7_put_40 hf hP hD hS
set_option maxRecDepth 20000 in
theorem ggX7_add_X7_put : GoodIn wsX7_add wsX7_put := goodIn_r _ [7, 1, 8, 9, 10, 11, 12, 13] (by decide +kernel) (by decide +kernel)
set_option maxRecDepth 20000 in
theorem gX7_add_X7_put : GoodIn wsX7_add (wsV RX7 31 RX7 yX7_put wsX7_put) := goodIn_app (goodIn_of _ (by decide +kernel)) ggX7_add_X7_put
theorem dX7_add_0 : decode cX7_add 0 = .ok (.aload_n 0, 1) := by decide +kernel
theorem dX7_add_1 : decode cX7_add 1 = .ok (.getfield 28, 3) := by decide +kernel
theorem dX7_add_4 : decode cX7_add 4 = .ok (.aload_n 0, 1) := by decide +kernel
theorem dX7_add_5 : decode cX7_add 5 = .ok (.getfield 15, 3) := by decide +kernel
theorem dX7_add_8 : decode cX7_add 8 = .ok (.if_icmp .lt 6, 3) := by decide +kernel
theorem dX7_add_11 : decode cX7_add 11 = .ok (.bipush (-4), 2) := by decide +kernel
theorem dX7_add_13 : decode cX7_add 13 = .ok (.ireturn, 1) := by decide +kernel
theorem dX7_add_14 : decode cX7_add 14 = .ok (.aload_n 0, 1) := by decide +kernel
theorem dX7_add_15 : decode cX7_add 15 = .ok (.iconst 0, 1) := by decide +kernel
theorem dX7_add_16 : decode cX7_add 16 = .ok (.iload_n 1, 1) := by decide +kernel
theorem dX7_add_17 : decode cX7_add 17 = .ok (.invokevirtual 31, 3) := by decide +kernel
theorem dX7_add_20 : decode cX7_add 20 = .ok (.aload_n 0, 1) := by decide +kernel
theorem dX7_add_21 : decode cX7_add 21 = .ok (.iconst 1, 1) := by decide +kernel
theorem dX7_add_22 : decode cX7_add 22 = .ok (.iload_n 2, 1) := by decide +kernel
theorem dX7_add_23 : decode cX7_add 23 = .ok (.invokevirtual 31, 3) := by decide +kernel
theorem dX7_add_26 : decode cX7_add 26 = .ok (.aload_n 0, 1) := by decide +kernel
theorem dX7_add_27 : decode cX7_add 27 = .ok (.iconst 2, 1) := by decide +kernel
theorem dX7_add_28 : decode cX7_add 28 = .ok (.iload_n 3, 1) := by decide +kernel
theorem dX7_add_29 : decode cX7_add 29 = .ok (.invokevirtual 31, 3) := by decide +kernel
theorem dX7_add_32 : decode cX7_add 32 = .ok (.aload_n 0, 1) := by decide +kernel
theorem dX7_add_33 : decode cX7_add 33 = .ok (.iconst 3, 1) := by decide +kernel
theorem dX7_add_34 : decode cX7_add 34 = .ok (.iload 4, 2) := by decide +kernel
theorem dX7_add_36 : decode cX7_add 36 = .ok (.invokevirtual 31, 3) := by decide +kernel
theorem dX7_add_39 : decode cX7_add 39 = .ok (.aload_n 0, 1) := by decide +kernel
theorem dX7_add_40 : decode cX7_add 40 = .ok (.dup, 1) := by decide +kernel
theorem dX7_add_41 : decode cX7_add 41 = .ok (.getfield 28, 3) := by decide +kernel
theorem dX7_add_44 : decode cX7_add 44 = .ok (.iconst 1, 1) := by decide +kernel
theorem dX7_add_45 : decode cX7_add 45 = .ok (.iadd, 1) := by decide +kernel
theorem dX7_add_46 : decode cX7_add 46 = .ok (.putfield 28, 3) := by decide +kernel
theorem dX7_add_49 : decode cX7_add 49 = .ok (.aload_n 0, 1) := by decide +kernel
theorem dX7_add_50 : decode cX7_add 50 = .ok (.getfield 28, 3) := by decide +kernel
theorem dX7_add_53 : decode cX7_add 53 = .ok (.ireturn, 1) := by decide +kernel
set_option maxRecDepth 100000 in
def fX7_add (x1 : Int32) (x2 : Int32) (x3 : Int32) (x4 : Int32) (t_width : Int32) (t_most : Int32) (t_lines : Int32) (t_cells_n : Nat) (t_cells_a : Nat → Int32) : Option (Int32 × Int32 × (Nat → Int32)) :=
  if t_lines < t_most then
    ob (fX7_put 0 x1 t_width t_lines t_cells_n t_cells_a) fun w2 =>
    ob (fX7_put 1 x2 t_width t_lines t_cells_n w2) fun w4 =>
    ob (fX7_put 2 x3 t_width t_lines t_cells_n w4) fun w6 =>
    ob (fX7_put 3 x4 t_width t_lines t_cells_n w6) fun w8 =>
    bv (t_lines + 1) fun v10 =>
    some (v10, v10, w8)
  else
    some ((-4), t_lines, t_cells_a)
abbrev rmX7_add : Room := { frames := 1, cells := 0, slots := 0, locals := 23 }
theorem iwX7_add_X7 : ∀ w ∈ u_ws RX7 TX7 4, w ∈ wsX7_add := by decide +kernel
set_option maxHeartbeats 4000000 in
set_option maxRecDepth 100000 in
theorem k_X7_add (l : Launch) (G : va_G) (cI cJ : ClassId) (t_h t_cells_h : Nat) (sz : Nat) (t_width : Int32) (t_most : Int32) (t_lines : Int32) (t_cells_n : Nat) (t_cells_a : Nat → Int32) (x1 : Int32) (x2 : Int32) (x3 : Int32) (x4 : Int32) {o_r : Int32} {o_t_lines : Int32} {o_t_cells_a : Nat → Int32} (hf : fX7_add x1 x2 x3 x4 t_width t_most t_lines t_cells_n t_cells_a = some (o_r, o_t_lines, o_t_cells_a)) : MetI l yX7_add wsX7_add rmX7_add [.ref t_h, .int x1, .int x2, .int x3, .int x4] G cI cJ [(t_h, .inr (7, [.int t_width, .int t_most, .ref t_cells_h, .int t_lines])), (t_cells_h, .inl (cI, t_cells_n, .inl t_cells_a))] [(t_h, .inr (7, [.int t_width, .int t_most, .ref t_cells_h, .int o_t_lines])), (t_cells_h, .inl (cI, t_cells_n, .inl o_t_cells_a))] sz o_r := by
  refine en_0 (l := l) (y := yX7_add) (wsl := wsX7_add) (rm := rmX7_add) (av := [.ref t_h, .int x1, .int x2, .int x3, .int x4]) (G := G) (cI := cI) (cJ := cJ) (w0 := [(t_h, .inr (7, [.int t_width, .int t_most, .ref t_cells_h, .int t_lines])), (t_cells_h, .inl (cI, t_cells_n, .inl t_cells_a))]) (sz := sz) (Qf := fun A => Qi0 G cI cJ [(t_h, .inr (7, [.int t_width, .int t_most, .ref t_cells_h, .int o_t_lines])), (t_cells_h, .inl (cI, t_cells_n, .inl o_t_cells_a))] o_r A) (cc := cX7_add) (maxL := 5) (ret := (some .int)) RX7 (by decide +kernel) rfl rfl (Nat.le_of_ble_eq_true rfl) ?_
  intro p e s m args below meth c A ls Q hQ hx hb hr hts hown hlocks hml hN hK hP hD hS hA hl
  have hl : lv_has ls 5 [(0, .ref t_h), (1, .int x1), (2, .int x2), (3, .int x3), (4, .int x4)] := hl
  have iwX7 := iwX7_add_X7
  have fl_15 := hts (.fieldLink RX7 15 "CloudOffice$Table" "most" "I") (by decide +kernel)
  have fl_28 := hts (.fieldLink RX7 28 "CloudOffice$Table" "lines" "I") (by decide +kernel)
  have hret : ∀ (o_r9 : Int32) (o_t_lines9 : Int32) (o_t_cells_a9 : Nat → Int32) (pc : Nat) (H : Heap) (locs : List Loc) (ls : Array Slot), decode cX7_add pc = .ok (.ireturn, 1) → some (o_r9, o_t_lines9, o_t_cells_a9) = some (o_r, o_t_lines, o_t_cells_a) → va_P G vwCl [(t_h, .inr (7, [.int t_width, .int t_most, .ref t_cells_h, .int o_t_lines9])), (t_cells_h, .inl (cI, t_cells_n, .inl o_t_cells_a9))] H → va_D A [(t_h, .inr (7, [.int t_width, .int t_most, .ref t_cells_h, .int o_t_lines9])), (t_cells_h, .inl (cI, t_cells_n, .inl o_t_cells_a9))] → va_S A s.heap H locs → W p l e rmX7_add s m args below meth c H locs 0 0 Q (F0 m pc ls [.int o_r9]) := by
    intro o_r9 o_t_lines9 o_t_cells_a9 pc H locs ls hdg he hP hD hS
    cases he
    subst hQ
    exact rt_i hx hb hr hlocks hK hP hD hS rfl hdg
  clear hQ
  unfold fX7_add at hf
  refine lv_aload_n hx hb dX7_add_0 rfl (lv_at hl 0 rfl) ?_
  refine va_get (D := G) (ci := 7) (v := .int t_lines) (C := RX7) (T := TX7) (N := 4) hx hb hts iwX7 hown hK hP 0 rfl rfl 3 (by decide) fl_28 (fun _ h9 => h9) rfl dX7_add_1 ?_
  refine lv_aload_n hx hb dX7_add_4 rfl (lv_at hl 0 rfl) ?_
  refine va_get (D := G) (ci := 7) (v := .int t_most) (C := RX7) (T := TX7) (N := 4) hx hb hts iwX7 hown hK hP 0 rfl rfl 1 (by decide) fl_15 (fun _ h9 => h9) rfl dX7_add_5 ?_
  refine lv_icmp_lt (tgt := 14) hx hb dX7_add_8 (by decide) (fun c1 => ?_) (fun c1 => ?_)
  · have hf := ift hf c1
    refine lv_aload_n hx hb dX7_add_14 rfl (lv_at hl 0 rfl) ?_
    refine lv_iconst (v := 0) hx hb dX7_add_15 (by decide) ?_
    refine lv_iload_n hx hb dX7_add_16 rfl (lv_at hl 1 rfl) ?_
    obtain ⟨w2, hc3, hf⟩ := ob_some hf
    refine af_vW (wr := []) (ws2 := [(t_h, .inr (7, [.int t_width, .int t_most, .ref t_cells_h, .int t_lines])), (t_cells_h, .inl (cI, t_cells_n, .inl w2))]) (va_runV (As := [.int 0, .int x1]) (rest := []) ⟨hx, hb, hml, hown, hts⟩ (k_X7_put l G cI cJ (t_h := t_h) (t_cells_h := t_cells_h) (t_width := t_width) (t_most := t_most) (t_lines := t_lines) (t_cells_n := t_cells_n) (t_cells_a := t_cells_a) (x1 := 0) (x2 := x1) (sz := _) (hf := hc3)) (cwV 2 hts gX7_add_X7_put rfl rfl rfl (by decide +kernel) ⟨Nat.le_of_ble_eq_true rfl, Nat.le_of_ble_eq_true rfl⟩) (preV0 (ci := 7) (q0 := 0) (C := RX7) (wc := [(t_h, .inr (7, [.int t_width, .int t_most, .ref t_cells_h, .int t_lines])), (t_cells_h, .inl (cI, t_cells_n, .inl t_cells_a))]) hK hP hD hN [0, 1] rfl rfl (by decide) rfl rfl) rfl rfl hl.1 rfl (lv_room (Nat.le_of_ble_eq_true rfl)) dX7_add_17 ⟨Nat.zero_le _, Nat.zero_le _⟩) hP hD hS hA [0, 1] [] [0, 1] rfl rfl (by decide) (by decide) rfl rfl (by decide) (fun H locs hP hD hS => ?_)
    refine lv_aload_n hx hb dX7_add_20 rfl (lv_at hl 0 rfl) ?_
    refine lv_iconst (v := 1) hx hb dX7_add_21 (by decide) ?_
    refine lv_iload_n hx hb dX7_add_22 rfl (lv_at hl 2 rfl) ?_
    obtain ⟨w4, hc5, hf⟩ := ob_some hf
    refine af_vW (wr := []) (ws2 := [(t_h, .inr (7, [.int t_width, .int t_most, .ref t_cells_h, .int t_lines])), (t_cells_h, .inl (cI, t_cells_n, .inl w4))]) (va_runV (As := [.int 1, .int x2]) (rest := []) ⟨hx, hb, hml, hown, hts⟩ (k_X7_put l G cI cJ (t_h := t_h) (t_cells_h := t_cells_h) (t_width := t_width) (t_most := t_most) (t_lines := t_lines) (t_cells_n := t_cells_n) (t_cells_a := w2) (x1 := 1) (x2 := x2) (sz := _) (hf := hc5)) (cwV 2 hts gX7_add_X7_put rfl rfl rfl (by decide +kernel) ⟨Nat.le_of_ble_eq_true rfl, Nat.le_of_ble_eq_true rfl⟩) (preV0 (ci := 7) (q0 := 0) (C := RX7) (wc := [(t_h, .inr (7, [.int t_width, .int t_most, .ref t_cells_h, .int t_lines])), (t_cells_h, .inl (cI, t_cells_n, .inl w2))]) hK hP hD hN [0, 1] rfl rfl (by decide) rfl rfl) rfl rfl hl.1 rfl (lv_room (Nat.le_of_ble_eq_true rfl)) dX7_add_23 ⟨Nat.zero_le _, Nat.zero_le _⟩) hP hD hS hA [0, 1] [] [0, 1] rfl rfl (by decide) (by decide) rfl rfl (by decide) (fun H locs hP hD hS => ?_)
    refine lv_aload_n hx hb dX7_add_26 rfl (lv_at hl 0 rfl) ?_
    refine lv_iconst (v := 2) hx hb dX7_add_27 (by decide) ?_
    refine lv_iload_n hx hb dX7_add_28 rfl (lv_at hl 3 rfl) ?_
    obtain ⟨w6, hc7, hf⟩ := ob_some hf
    refine af_vW (wr := []) (ws2 := [(t_h, .inr (7, [.int t_width, .int t_most, .ref t_cells_h, .int t_lines])), (t_cells_h, .inl (cI, t_cells_n, .inl w6))]) (va_runV (As := [.int 2, .int x3]) (rest := []) ⟨hx, hb, hml, hown, hts⟩ (k_X7_put l G cI cJ (t_h := t_h) (t_cells_h := t_cells_h) (t_width := t_width) (t_most := t_most) (t_lines := t_lines) (t_cells_n := t_cells_n) (t_cells_a := w4) (x1 := 2) (x2 := x3) (sz := _) (hf := hc7)) (cwV 2 hts gX7_add_X7_put rfl rfl rfl (by decide +kernel) ⟨Nat.le_of_ble_eq_true rfl, Nat.le_of_ble_eq_true rfl⟩) (preV0 (ci := 7) (q0 := 0) (C := RX7) (wc := [(t_h, .inr (7, [.int t_width, .int t_most, .ref t_cells_h, .int t_lines])), (t_cells_h, .inl (cI, t_cells_n, .inl w4))]) hK hP hD hN [0, 1] rfl rfl (by decide) rfl rfl) rfl rfl hl.1 rfl (lv_room (Nat.le_of_ble_eq_true rfl)) dX7_add_29 ⟨Nat.zero_le _, Nat.zero_le _⟩) hP hD hS hA [0, 1] [] [0, 1] rfl rfl (by decide) (by decide) rfl rfl (by decide) (fun H locs hP hD hS => ?_)
    refine lv_aload_n hx hb dX7_add_32 rfl (lv_at hl 0 rfl) ?_
    refine lv_iconst (v := 3) hx hb dX7_add_33 (by decide) ?_
    refine lv_iload hx hb dX7_add_34 (lv_at hl 4 rfl) ?_
    obtain ⟨w8, hc9, hf⟩ := ob_some hf
    refine af_vW (wr := []) (ws2 := [(t_h, .inr (7, [.int t_width, .int t_most, .ref t_cells_h, .int t_lines])), (t_cells_h, .inl (cI, t_cells_n, .inl w8))]) (va_runV (As := [.int 3, .int x4]) (rest := []) ⟨hx, hb, hml, hown, hts⟩ (k_X7_put l G cI cJ (t_h := t_h) (t_cells_h := t_cells_h) (t_width := t_width) (t_most := t_most) (t_lines := t_lines) (t_cells_n := t_cells_n) (t_cells_a := w6) (x1 := 3) (x2 := x4) (sz := _) (hf := hc9)) (cwV 2 hts gX7_add_X7_put rfl rfl rfl (by decide +kernel) ⟨Nat.le_of_ble_eq_true rfl, Nat.le_of_ble_eq_true rfl⟩) (preV0 (ci := 7) (q0 := 0) (C := RX7) (wc := [(t_h, .inr (7, [.int t_width, .int t_most, .ref t_cells_h, .int t_lines])), (t_cells_h, .inl (cI, t_cells_n, .inl w6))]) hK hP hD hN [0, 1] rfl rfl (by decide) rfl rfl) rfl rfl hl.1 rfl (lv_room (Nat.le_of_ble_eq_true rfl)) dX7_add_36 ⟨Nat.zero_le _, Nat.zero_le _⟩) hP hD hS hA [0, 1] [] [0, 1] rfl rfl (by decide) (by decide) rfl rfl (by decide) (fun H locs hP hD hS => ?_)
    refine lv_aload_n hx hb dX7_add_39 rfl (lv_at hl 0 rfl) ?_
    refine lv_dup hx hb dX7_add_40 rfl ?_
    refine va_get (D := G) (ci := 7) (v := .int t_lines) (C := RX7) (T := TX7) (N := 4) hx hb hts iwX7 hown hK hP 0 rfl rfl 3 (by decide) fl_28 (fun _ h9 => h9) rfl dX7_add_41 ?_
    refine lv_iconst (v := 1) hx hb dX7_add_44 (by decide) ?_
    refine lv_iadd hx hb dX7_add_45 ?_
    refine lv_topi (fun v10 ev10 => ?_)
    have hf := bv_at ev10 hf
    refine va_put (D := G) (ci := 7) (v := .int v10) (ty := .int) (C := RX7) (T := TX7) (N := 4) hx hb hts iwX7 tyX7 tyX7_ok nmX7 hown hK hP hD hS 0 rfl rfl 3 (by decide) fl_28 (fun _ h9 => h9) rfl (by decide +kernel) rfl rfl (Nat.le_of_ble_eq_true rfl) dX7_add_46 (fun H locs hP hD hS => ?_)
    have hP : va_P G vwCl [(t_h, .inr (7, [.int t_width, .int t_most, .ref t_cells_h, .int v10])), (t_cells_h, .inl (cI, t_cells_n, .inl w8))] H := hP
    have hD : va_D A [(t_h, .inr (7, [.int t_width, .int t_most, .ref t_cells_h, .int v10])), (t_cells_h, .inl (cI, t_cells_n, .inl w8))] := hD
    refine lv_aload_n hx hb dX7_add_49 rfl (lv_at hl 0 rfl) ?_
    refine va_get (D := G) (ci := 7) (v := .int v10) (C := RX7) (T := TX7) (N := 4) hx hb hts iwX7 hown hK hP 0 rfl rfl 3 (by decide) fl_28 (fun _ h9 => h9) rfl dX7_add_50 ?_
    exact hret v10 v10 w8 53 _ _ _ dX7_add_53 hf hP hD hS
  · have hf := iff_ hf c1
    refine lv_bipush (v := (-4)) hx hb dX7_add_11 (by decide) ?_
    exact hret (-4) t_lines t_cells_a 13 _ _ _ dX7_add_13 hf hP hD hS
set_option maxRecDepth 20000 in
theorem ggX7_addNumbered_X7_add : GoodIn wsX7_addNumbered wsX7_add := goodIn_r _ [5, 6, 7, 8, 9, 10, 4, 11, 12, 13, 14, 15, 16, 17] (by decide +kernel) (by decide +kernel)
set_option maxRecDepth 20000 in
theorem gX7_addNumbered_X7_add : GoodIn wsX7_addNumbered (wsV RX7 35 RX7 yX7_add wsX7_add) := goodIn_app (goodIn_of _ (by decide +kernel)) ggX7_addNumbered_X7_add
theorem dX7_addNumbered_0 : decode cX7_addNumbered 0 = .ok (.aload_n 0, 1) := by decide +kernel
theorem dX7_addNumbered_1 : decode cX7_addNumbered 1 = .ok (.iload_n 1, 1) := by decide +kernel
theorem dX7_addNumbered_2 : decode cX7_addNumbered 2 = .ok (.iload_n 2, 1) := by decide +kernel
theorem dX7_addNumbered_3 : decode cX7_addNumbered 3 = .ok (.iload_n 3, 1) := by decide +kernel
theorem dX7_addNumbered_4 : decode cX7_addNumbered 4 = .ok (.iload 4, 2) := by decide +kernel
theorem dX7_addNumbered_6 : decode cX7_addNumbered 6 = .ok (.invokevirtual 35, 3) := by decide +kernel
theorem dX7_addNumbered_9 : decode cX7_addNumbered 9 = .ok (.istore 5, 2) := by decide +kernel
theorem dX7_addNumbered_11 : decode cX7_addNumbered 11 = .ok (.iload 5, 2) := by decide +kernel
theorem dX7_addNumbered_13 : decode cX7_addNumbered 13 = .ok (.bipush (-4), 2) := by decide +kernel
theorem dX7_addNumbered_15 : decode cX7_addNumbered 15 = .ok (.if_icmp .ne 8, 3) := by decide +kernel
theorem dX7_addNumbered_18 : decode cX7_addNumbered 18 = .ok (.bipush (-4), 2) := by decide +kernel
theorem dX7_addNumbered_20 : decode cX7_addNumbered 20 = .ok (.goto 7, 3) := by decide +kernel
theorem dX7_addNumbered_23 : decode cX7_addNumbered 23 = .ok (.iload 5, 2) := by decide +kernel
theorem dX7_addNumbered_25 : decode cX7_addNumbered 25 = .ok (.iconst 1, 1) := by decide +kernel
theorem dX7_addNumbered_26 : decode cX7_addNumbered 26 = .ok (.isub, 1) := by decide +kernel
theorem dX7_addNumbered_27 : decode cX7_addNumbered 27 = .ok (.ireturn, 1) := by decide +kernel
set_option maxRecDepth 100000 in
def fX7_addNumbered (x1 : Int32) (x2 : Int32) (x3 : Int32) (x4 : Int32) (t_width : Int32) (t_most : Int32) (t_lines : Int32) (t_cells_n : Nat) (t_cells_a : Nat → Int32) : Option (Int32 × Int32 × (Nat → Int32)) :=
  ob3 (fX7_add x1 x2 x3 x4 t_width t_most t_lines t_cells_n t_cells_a) fun r1 w2 w3 =>
  if r1 = (-4) then
    some ((-4), w2, w3)
  else
    some (r1 - 1, w2, w3)
abbrev rmX7_addNumbered : Room := { frames := 2, cells := 0, slots := 0, locals := 47 }
set_option maxHeartbeats 4000000 in
set_option maxRecDepth 100000 in
theorem k_X7_addNumbered (l : Launch) (G : va_G) (cI cJ : ClassId) (t_h t_cells_h : Nat) (sz : Nat) (t_width : Int32) (t_most : Int32) (t_lines : Int32) (t_cells_n : Nat) (t_cells_a : Nat → Int32) (x1 : Int32) (x2 : Int32) (x3 : Int32) (x4 : Int32) {o_r : Int32} {o_t_lines : Int32} {o_t_cells_a : Nat → Int32} (hf : fX7_addNumbered x1 x2 x3 x4 t_width t_most t_lines t_cells_n t_cells_a = some (o_r, o_t_lines, o_t_cells_a)) : MetI l yX7_addNumbered wsX7_addNumbered rmX7_addNumbered [.ref t_h, .int x1, .int x2, .int x3, .int x4] G cI cJ [(t_h, .inr (7, [.int t_width, .int t_most, .ref t_cells_h, .int t_lines])), (t_cells_h, .inl (cI, t_cells_n, .inl t_cells_a))] [(t_h, .inr (7, [.int t_width, .int t_most, .ref t_cells_h, .int o_t_lines])), (t_cells_h, .inl (cI, t_cells_n, .inl o_t_cells_a))] sz o_r := by
  refine en_0 (l := l) (y := yX7_addNumbered) (wsl := wsX7_addNumbered) (rm := rmX7_addNumbered) (av := [.ref t_h, .int x1, .int x2, .int x3, .int x4]) (G := G) (cI := cI) (cJ := cJ) (w0 := [(t_h, .inr (7, [.int t_width, .int t_most, .ref t_cells_h, .int t_lines])), (t_cells_h, .inl (cI, t_cells_n, .inl t_cells_a))]) (sz := sz) (Qf := fun A => Qi0 G cI cJ [(t_h, .inr (7, [.int t_width, .int t_most, .ref t_cells_h, .int o_t_lines])), (t_cells_h, .inl (cI, t_cells_n, .inl o_t_cells_a))] o_r A) (cc := cX7_addNumbered) (maxL := 6) (ret := (some .int)) RX7 (by decide +kernel) rfl rfl (Nat.le_of_ble_eq_true rfl) ?_
  intro p e s m args below meth c A ls Q hQ hx hb hr hts hown hlocks hml hN hK hP hD hS hA hl
  have hl : lv_has ls 6 [(0, .ref t_h), (1, .int x1), (2, .int x2), (3, .int x3), (4, .int x4)] := hl
  have hret : ∀ (o_r9 : Int32) (o_t_lines9 : Int32) (o_t_cells_a9 : Nat → Int32) (pc : Nat) (H : Heap) (locs : List Loc) (ls : Array Slot), decode cX7_addNumbered pc = .ok (.ireturn, 1) → some (o_r9, o_t_lines9, o_t_cells_a9) = some (o_r, o_t_lines, o_t_cells_a) → va_P G vwCl [(t_h, .inr (7, [.int t_width, .int t_most, .ref t_cells_h, .int o_t_lines9])), (t_cells_h, .inl (cI, t_cells_n, .inl o_t_cells_a9))] H → va_D A [(t_h, .inr (7, [.int t_width, .int t_most, .ref t_cells_h, .int o_t_lines9])), (t_cells_h, .inl (cI, t_cells_n, .inl o_t_cells_a9))] → va_S A s.heap H locs → W p l e rmX7_addNumbered s m args below meth c H locs 0 0 Q (F0 m pc ls [.int o_r9]) := by
    intro o_r9 o_t_lines9 o_t_cells_a9 pc H locs ls hdg he hP hD hS
    cases he
    subst hQ
    exact rt_i hx hb hr hlocks hK hP hD hS rfl hdg
  clear hQ
  unfold fX7_addNumbered at hf
  refine lv_aload_n hx hb dX7_addNumbered_0 rfl (lv_at hl 0 rfl) ?_
  refine lv_iload_n hx hb dX7_addNumbered_1 rfl (lv_at hl 1 rfl) ?_
  refine lv_iload_n hx hb dX7_addNumbered_2 rfl (lv_at hl 2 rfl) ?_
  refine lv_iload_n hx hb dX7_addNumbered_3 rfl (lv_at hl 3 rfl) ?_
  refine lv_iload hx hb dX7_addNumbered_4 (lv_at hl 4 rfl) ?_
  obtain ⟨r1, w2, w3, hc4, hf⟩ := ob3_some hf
  refine af_iW (wr := []) (ws2 := [(t_h, .inr (7, [.int t_width, .int t_most, .ref t_cells_h, .int w2])), (t_cells_h, .inl (cI, t_cells_n, .inl w3))]) (va_runV (As := [.int x1, .int x2, .int x3, .int x4]) (rest := []) ⟨hx, hb, hml, hown, hts⟩ (k_X7_add l G cI cJ (t_h := t_h) (t_cells_h := t_cells_h) (t_width := t_width) (t_most := t_most) (t_lines := t_lines) (t_cells_n := t_cells_n) (t_cells_a := t_cells_a) (x1 := x1) (x2 := x2) (x3 := x3) (x4 := x4) (sz := _) (hf := hc4)) (cwV 4 hts gX7_addNumbered_X7_add rfl rfl rfl (by decide +kernel) ⟨Nat.le_of_ble_eq_true rfl, Nat.le_of_ble_eq_true rfl⟩) (preV0 (ci := 7) (q0 := 0) (C := RX7) (wc := [(t_h, .inr (7, [.int t_width, .int t_most, .ref t_cells_h, .int t_lines])), (t_cells_h, .inl (cI, t_cells_n, .inl t_cells_a))]) hK hP hD hN [0, 1] rfl rfl (by decide) rfl rfl) rfl rfl hl.1 rfl (lv_room (Nat.le_of_ble_eq_true rfl)) dX7_addNumbered_6 ⟨Nat.zero_le _, Nat.zero_le _⟩) hP hD hS hA [0, 1] [] [0, 1] rfl rfl (by decide) (by decide) rfl rfl (by decide) (fun H locs hP hD hS => ?_)
  refine lv_istore (lv' := [(5, .int r1), (0, .ref t_h), (1, .int x1), (2, .int x2), (3, .int x3), (4, .int x4)]) hx hb dX7_addNumbered_9 hl (by decide) rfl (fun ls hl => ?_)
  refine lv_iload hx hb dX7_addNumbered_11 (lv_at hl 0 rfl) ?_
  refine lv_bipush (v := (-4)) hx hb dX7_addNumbered_13 (by decide) ?_
  refine lv_icmp_ne (tgt := 23) hx hb dX7_addNumbered_15 (by decide) (fun c5 => ?_) (fun c5 => ?_)
  · have hf := iff_ hf c5
    refine lv_iload hx hb dX7_addNumbered_23 (lv_at hl 0 rfl) ?_
    refine lv_iconst (v := 1) hx hb dX7_addNumbered_25 (by decide) ?_
    refine lv_isub hx hb dX7_addNumbered_26 ?_
    exact hret (r1 - 1) w2 w3 27 _ _ _ dX7_addNumbered_27 hf hP hD hS
  · have hf := ift hf c5
    refine lv_bipush (v := (-4)) hx hb dX7_addNumbered_18 (by decide) ?_
    refine lv_goto (tgt := 27) hx hb dX7_addNumbered_20 (by decide) ?_
    exact hret (-4) w2 w3 27 _ _ _ dX7_addNumbered_27 hf hP hD hS
theorem dX7_empty_0 : decode cX7_empty 0 = .ok (.aload_n 0, 1) := by decide +kernel
theorem dX7_empty_1 : decode cX7_empty 1 = .ok (.getfield 28, 3) := by decide +kernel
theorem dX7_empty_4 : decode cX7_empty 4 = .ok (.istore_n 1, 1) := by decide +kernel
theorem dX7_empty_5 : decode cX7_empty 5 = .ok (.aload_n 0, 1) := by decide +kernel
theorem dX7_empty_6 : decode cX7_empty 6 = .ok (.iconst 0, 1) := by decide +kernel
theorem dX7_empty_7 : decode cX7_empty 7 = .ok (.putfield 28, 3) := by decide +kernel
theorem dX7_empty_10 : decode cX7_empty 10 = .ok (.iload_n 1, 1) := by decide +kernel
theorem dX7_empty_11 : decode cX7_empty 11 = .ok (.ireturn, 1) := by decide +kernel
set_option maxRecDepth 100000 in
def fX7_empty (t_lines : Int32) : Option (Int32 × Int32) :=
  some (t_lines, 0)
abbrev rmX7_empty : Room := { frames := 0, cells := 0, slots := 0, locals := 0 }
theorem iwX7_empty_X7 : ∀ w ∈ u_ws RX7 TX7 4, w ∈ wsX7_empty := by decide +kernel
set_option maxHeartbeats 4000000 in
set_option maxRecDepth 100000 in
theorem k_X7_empty (l : Launch) (G : va_G) (cI cJ : ClassId) (t_h t_cells_h : Nat) (sz : Nat) (t_width : Int32) (t_most : Int32) (t_lines : Int32) {o_r : Int32} {o_t_lines : Int32} (hf : fX7_empty t_lines = some (o_r, o_t_lines)) : MetI l yX7_empty wsX7_empty rmX7_empty [.ref t_h] G cI cJ [(t_h, .inr (7, [.int t_width, .int t_most, .ref t_cells_h, .int t_lines]))] [(t_h, .inr (7, [.int t_width, .int t_most, .ref t_cells_h, .int o_t_lines]))] sz o_r := by
  refine en_0 (l := l) (y := yX7_empty) (wsl := wsX7_empty) (rm := rmX7_empty) (av := [.ref t_h]) (G := G) (cI := cI) (cJ := cJ) (w0 := [(t_h, .inr (7, [.int t_width, .int t_most, .ref t_cells_h, .int t_lines]))]) (sz := sz) (Qf := fun A => Qi0 G cI cJ [(t_h, .inr (7, [.int t_width, .int t_most, .ref t_cells_h, .int o_t_lines]))] o_r A) (cc := cX7_empty) (maxL := 2) (ret := (some .int)) RX7 (by decide +kernel) rfl rfl (Nat.le_of_ble_eq_true rfl) ?_
  intro p e s m args below meth c A ls Q hQ hx hb hr hts hown hlocks hml hN hK hP hD hS hA hl
  have hl : lv_has ls 2 [(0, .ref t_h)] := hl
  have iwX7 := iwX7_empty_X7
  have fl_28 := hts (.fieldLink RX7 28 "CloudOffice$Table" "lines" "I") (by decide +kernel)
  have hret : ∀ (o_r9 : Int32) (o_t_lines9 : Int32) (pc : Nat) (H : Heap) (locs : List Loc) (ls : Array Slot), decode cX7_empty pc = .ok (.ireturn, 1) → some (o_r9, o_t_lines9) = some (o_r, o_t_lines) → va_P G vwCl [(t_h, .inr (7, [.int t_width, .int t_most, .ref t_cells_h, .int o_t_lines9]))] H → va_D A [(t_h, .inr (7, [.int t_width, .int t_most, .ref t_cells_h, .int o_t_lines9]))] → va_S A s.heap H locs → W p l e rmX7_empty s m args below meth c H locs 0 0 Q (F0 m pc ls [.int o_r9]) := by
    intro o_r9 o_t_lines9 pc H locs ls hdg he hP hD hS
    cases he
    subst hQ
    exact rt_i hx hb hr hlocks hK hP hD hS rfl hdg
  clear hQ
  unfold fX7_empty at hf
  refine lv_aload_n hx hb dX7_empty_0 rfl (lv_at hl 0 rfl) ?_
  refine va_get (D := G) (ci := 7) (v := .int t_lines) (C := RX7) (T := TX7) (N := 4) hx hb hts iwX7 hown hK hP 0 rfl rfl 3 (by decide) fl_28 (fun _ h9 => h9) rfl dX7_empty_1 ?_
  refine lv_istore_n (lv' := [(1, .int t_lines), (0, .ref t_h)]) hx hb dX7_empty_4 rfl hl (by decide) rfl (fun ls hl => ?_)
  refine lv_aload_n hx hb dX7_empty_5 rfl (lv_at hl 1 rfl) ?_
  refine lv_iconst (v := 0) hx hb dX7_empty_6 (by decide) ?_
  refine va_put (D := G) (ci := 7) (v := .int 0) (ty := .int) (C := RX7) (T := TX7) (N := 4) hx hb hts iwX7 tyX7 tyX7_ok nmX7 hown hK hP hD hS 0 rfl rfl 3 (by decide) fl_28 (fun _ h9 => h9) rfl (by decide +kernel) rfl rfl (Nat.le_of_ble_eq_true rfl) dX7_empty_7 (fun H locs hP hD hS => ?_)
  have hP : va_P G vwCl [(t_h, .inr (7, [.int t_width, .int t_most, .ref t_cells_h, .int 0]))] H := hP
  have hD : va_D A [(t_h, .inr (7, [.int t_width, .int t_most, .ref t_cells_h, .int 0]))] := hD
  refine lv_iload_n hx hb dX7_empty_10 rfl (lv_at hl 0 rfl) ?_
  exact hret t_lines 0 11 _ _ _ dX7_empty_11 hf hP hD hS
theorem dX7_mixInto_0 : decode cX7_mixInto 0 = .ok (.lload_n 1, 1) := by decide +kernel
theorem dX7_mixInto_1 : decode cX7_mixInto 1 = .ok (.lstore_n 3, 1) := by decide +kernel
theorem dX7_mixInto_2 : decode cX7_mixInto 2 = .ok (.aload_n 0, 1) := by decide +kernel
theorem dX7_mixInto_3 : decode cX7_mixInto 3 = .ok (.getfield 28, 3) := by decide +kernel
theorem dX7_mixInto_6 : decode cX7_mixInto 6 = .ok (.aload_n 0, 1) := by decide +kernel
theorem dX7_mixInto_7 : decode cX7_mixInto 7 = .ok (.getfield 9, 3) := by decide +kernel
theorem dX7_mixInto_10 : decode cX7_mixInto 10 = .ok (.imul, 1) := by decide +kernel
theorem dX7_mixInto_11 : decode cX7_mixInto 11 = .ok (.aload_n 0, 1) := by decide +kernel
theorem dX7_mixInto_12 : decode cX7_mixInto 12 = .ok (.getfield 24, 3) := by decide +kernel
theorem dX7_mixInto_15 : decode cX7_mixInto 15 = .ok (.arraylength, 1) := by decide +kernel
theorem dX7_mixInto_16 : decode cX7_mixInto 16 = .ok (.invokestatic 39, 3) := by decide +kernel
theorem dX7_mixInto_19 : decode cX7_mixInto 19 = .ok (.istore 5, 2) := by decide +kernel
theorem dX7_mixInto_21 : decode cX7_mixInto 21 = .ok (.iconst 0, 1) := by decide +kernel
theorem dX7_mixInto_22 : decode cX7_mixInto 22 = .ok (.istore 6, 2) := by decide +kernel
theorem dX7_mixInto_24 : decode cX7_mixInto 24 = .ok (.iload 6, 2) := by decide +kernel
theorem dX7_mixInto_26 : decode cX7_mixInto 26 = .ok (.iload 5, 2) := by decide +kernel
theorem dX7_mixInto_28 : decode cX7_mixInto 28 = .ok (.if_icmp .ge 24, 3) := by decide +kernel
theorem dX7_mixInto_31 : decode cX7_mixInto 31 = .ok (.ldc2_w 42, 3) := by decide +kernel
theorem dX7_mixInto_34 : decode cX7_mixInto 34 = .ok (.lload_n 3, 1) := by decide +kernel
theorem dX7_mixInto_35 : decode cX7_mixInto 35 = .ok (.lmul, 1) := by decide +kernel
theorem dX7_mixInto_36 : decode cX7_mixInto 36 = .ok (.aload_n 0, 1) := by decide +kernel
theorem dX7_mixInto_37 : decode cX7_mixInto 37 = .ok (.getfield 24, 3) := by decide +kernel
theorem dX7_mixInto_40 : decode cX7_mixInto 40 = .ok (.iload 6, 2) := by decide +kernel
theorem dX7_mixInto_42 : decode cX7_mixInto 42 = .ok (.iaload, 1) := by decide +kernel
theorem dX7_mixInto_43 : decode cX7_mixInto 43 = .ok (.i2l, 1) := by decide +kernel
theorem dX7_mixInto_44 : decode cX7_mixInto 44 = .ok (.ladd, 1) := by decide +kernel
theorem dX7_mixInto_45 : decode cX7_mixInto 45 = .ok (.lstore_n 3, 1) := by decide +kernel
theorem dX7_mixInto_46 : decode cX7_mixInto 46 = .ok (.iinc 6 1, 3) := by decide +kernel
theorem dX7_mixInto_49 : decode cX7_mixInto 49 = .ok (.goto (-25), 3) := by decide +kernel
theorem dX7_mixInto_52 : decode cX7_mixInto 52 = .ok (.lload_n 3, 1) := by decide +kernel
theorem dX7_mixInto_53 : decode cX7_mixInto 53 = .ok (.lreturn, 1) := by decide +kernel
set_option maxRecDepth 100000 in
def fX7_mixInto_L1 (v1 : Int32) (t_cells_n : Nat) (t_cells_a : Nat → Int32) : (Int64 × Int32) → Option ((Int64) ⊕ (Int64 × Int32)) := un2 fun (u2 : Int64) (u3 : Int32) =>
  if v1 ≤ u3 then
    some (.inl u2)
  else
    gd (bnd u3 t_cells_n) <|
    bv ((31 * u2) + (Int32.toInt64 (t_cells_a (Int32.toNatClampNeg u3)))) fun v6 =>
    bv (u3 + 1) fun v7 =>
    some (.inr (v6, v7))
set_option maxRecDepth 100000 in
def fX7_mixInto (x1 : Int64) (t_width : Int32) (t_lines : Int32) (t_cells_n : Nat) (t_cells_a : Nat → Int32) : Option (Int64) :=
  bv (if (Int32.ofNat t_cells_n) < (t_lines * t_width) then (Int32.ofNat t_cells_n) else (t_lines * t_width)) fun v1 =>
  ob (it (fX7_mixInto_L1 v1 t_cells_n t_cells_a) 100000 (x1, 0)) fun x8 =>
  some x8
abbrev rmX7_mixInto : Room := { frames := 1, cells := 0, slots := 0, locals := 23 }
theorem iwX7_mixInto_X7 : ∀ w ∈ u_ws RX7 TX7 4, w ∈ wsX7_mixInto := by decide +kernel
set_option maxHeartbeats 4000000 in
set_option maxRecDepth 100000 in
theorem k_X7_mixInto (l : Launch) (G : va_G) (cI cJ : ClassId) (t_h t_cells_h : Nat) (sz : Nat) (t_width : Int32) (t_most : Int32) (t_lines : Int32) (t_cells_n : Nat) (t_cells_a : Nat → Int32) (x1 : Int64) {o_r : Int64} (hf : fX7_mixInto x1 t_width t_lines t_cells_n t_cells_a = some o_r) : MetL l yX7_mixInto wsX7_mixInto rmX7_mixInto [.ref t_h, .long x1] G cI cJ [(t_h, .inr (7, [.int t_width, .int t_most, .ref t_cells_h, .int t_lines])), (t_cells_h, .inl (cI, t_cells_n, .inl t_cells_a))] [(t_h, .inr (7, [.int t_width, .int t_most, .ref t_cells_h, .int t_lines])), (t_cells_h, .inl (cI, t_cells_n, .inl t_cells_a))] sz o_r := by
  refine en_0 (l := l) (y := yX7_mixInto) (wsl := wsX7_mixInto) (rm := rmX7_mixInto) (av := [.ref t_h, .long x1]) (G := G) (cI := cI) (cJ := cJ) (w0 := [(t_h, .inr (7, [.int t_width, .int t_most, .ref t_cells_h, .int t_lines])), (t_cells_h, .inl (cI, t_cells_n, .inl t_cells_a))]) (sz := sz) (Qf := fun A => Ql0 G cI cJ [(t_h, .inr (7, [.int t_width, .int t_most, .ref t_cells_h, .int t_lines])), (t_cells_h, .inl (cI, t_cells_n, .inl t_cells_a))] o_r A) (cc := cX7_mixInto) (maxL := 7) (ret := (some .long)) RX7 (by decide +kernel) rfl rfl (Nat.le_of_ble_eq_true rfl) ?_
  intro p e s m args below meth c A ls Q hQ hx hb hr hts hown hlocks hml hN hK hP hD hS hA hl
  have hl : lv_has ls 7 [(0, .ref t_h), (1, .long x1)] := hl
  have iwX7 := iwX7_mixInto_X7
  have fl_9 := hts (.fieldLink RX7 9 "CloudOffice$Table" "width" "I") (by decide +kernel)
  have fl_24 := hts (.fieldLink RX7 24 "CloudOffice$Table" "cells" "[I") (by decide +kernel)
  have fl_28 := hts (.fieldLink RX7 28 "CloudOffice$Table" "lines" "I") (by decide +kernel)
  have kc_42 := hts (.constantLong RX7 42 (31)) (by decide +kernel)
  have lb_39 := hts (.methodLink RX7 39 Lib.Math.min.name) (by decide +kernel)
  have lbs_39 := hts (.static Lib.Math.min.name) (by decide +kernel)
  have lbi_39 := hts (.initialized "java/lang/Math") (by decide +kernel)
  have lbc_39 := hts (.code Lib.Math.min.name Lib.Math.min.code 2 (some .int)) (by decide +kernel)
  have hret : ∀ (o_r9 : Int64) (pc : Nat) (H : Heap) (locs : List Loc) (ls : Array Slot), decode cX7_mixInto pc = .ok (.lreturn, 1) → some o_r9 = some o_r → va_P G vwCl [(t_h, .inr (7, [.int t_width, .int t_most, .ref t_cells_h, .int t_lines])), (t_cells_h, .inl (cI, t_cells_n, .inl t_cells_a))] H → va_D A [(t_h, .inr (7, [.int t_width, .int t_most, .ref t_cells_h, .int t_lines])), (t_cells_h, .inl (cI, t_cells_n, .inl t_cells_a))] → va_S A s.heap H locs → W p l e rmX7_mixInto s m args below meth c H locs 0 0 Q (F0 m pc ls [.long o_r9]) := by
    intro o_r9 pc H locs ls hdg he hP hD hS
    cases he
    subst hQ
    exact rt_l hx hb hr hlocks hK hP hD hS rfl hdg
  clear hQ
  unfold fX7_mixInto at hf
  refine lv_lload_n hx hb dX7_mixInto_0 rfl (lv_at hl 1 rfl) ?_
  refine lv_lstore_n (lv' := [(3, .long x1), (0, .ref t_h), (1, .long x1)]) hx hb dX7_mixInto_1 rfl hl (by decide) rfl (fun ls hl => ?_)
  refine lv_aload_n hx hb dX7_mixInto_2 rfl (lv_at hl 1 rfl) ?_
  refine va_get (D := G) (ci := 7) (v := .int t_lines) (C := RX7) (T := TX7) (N := 4) hx hb hts iwX7 hown hK hP 0 rfl rfl 3 (by decide) fl_28 (fun _ h9 => h9) rfl dX7_mixInto_3 ?_
  refine lv_aload_n hx hb dX7_mixInto_6 rfl (lv_at hl 1 rfl) ?_
  refine va_get (D := G) (ci := 7) (v := .int t_width) (C := RX7) (T := TX7) (N := 4) hx hb hts iwX7 hown hK hP 0 rfl rfl 0 (by decide) fl_9 (fun _ h9 => h9) rfl dX7_mixInto_7 ?_
  refine lv_imul hx hb dX7_mixInto_10 ?_
  refine lv_aload_n hx hb dX7_mixInto_11 rfl (lv_at hl 1 rfl) ?_
  refine va_get (D := G) (ci := 7) (v := .ref t_cells_h) (C := RX7) (T := TX7) (N := 4) hx hb hts iwX7 hown hK hP 0 rfl rfl 2 (by decide) fl_24 (fun _ h9 => h9) rfl dX7_mixInto_12 ?_
  refine va_alen (v := Int32.ofNat t_cells_n) hx hb hK hP 1 0 rfl rfl rfl dX7_mixInto_15 ?_
  refine va_mmin hx hb (hml.trans hl.1.symm) hown lb_39 lbs_39 lbi_39 lbc_39 (Nat.le_of_ble_eq_true rfl) (Nat.le_of_ble_eq_true rfl) (Nat.zero_le _) (Nat.zero_le _) dX7_mixInto_16 ?_
  refine lv_topi (fun v1 ev1 => ?_)
  have hf := bv_at ev1 hf
  refine lv_istore (lv' := [(5, .int v1), (3, .long x1), (0, .ref t_h), (1, .long x1)]) hx hb dX7_mixInto_19 hl (by decide) rfl (fun ls hl => ?_)
  refine lv_iconst (v := 0) hx hb dX7_mixInto_21 (by decide) ?_
  refine lv_istore (lv' := [(6, .int 0), (5, .int v1), (3, .long x1), (0, .ref t_h), (1, .long x1)]) hx hb dX7_mixInto_22 hl (by decide) rfl (fun ls hl => ?_)
  obtain ⟨x8, ht1, hf⟩ := ob_some hf
  have hx1_0 : ∀ (x89 : Int64), x89 = x8 → ∀ (H : Heap) (locs : List Loc) (ls : Array Slot), va_P G vwCl [(t_h, .inr (7, [.int t_width, .int t_most, .ref t_cells_h, .int t_lines])), (t_cells_h, .inl (cI, t_cells_n, .inl t_cells_a))] H → va_D A [(t_h, .inr (7, [.int t_width, .int t_most, .ref t_cells_h, .int t_lines])), (t_cells_h, .inl (cI, t_cells_n, .inl t_cells_a))] → va_S A s.heap H locs → lv_has ls 7 [(3, .long x89)] → W p l e rmX7_mixInto s m args below meth c H locs 0 0 Q (F0 m 52 ls []) := by
    intro x89 he H locs ls hP hD hS hl
    cases he
    refine lv_lload_n hx hb dX7_mixInto_52 rfl (lv_at hl 0 rfl) ?_
    exact hret x8 53 _ _ _ dX7_mixInto_53 hf hP hD hS
  clear hf
  have hl1 : ∀ (n : Nat) (u2 : Int64) (u3 : Int32), it (fX7_mixInto_L1 v1 t_cells_n t_cells_a) n (u2, u3) = some x8 → ∀ (H : Heap) (locs : List Loc) (ls : Array Slot), va_P G vwCl [(t_h, .inr (7, [.int t_width, .int t_most, .ref t_cells_h, .int t_lines])), (t_cells_h, .inl (cI, t_cells_n, .inl t_cells_a))] H → va_D A [(t_h, .inr (7, [.int t_width, .int t_most, .ref t_cells_h, .int t_lines])), (t_cells_h, .inl (cI, t_cells_n, .inl t_cells_a))] → va_S A s.heap H locs → lv_has ls 7 [(0, .ref t_h), (3, .long u2), (5, .int v1), (6, .int u3)] → W p l e rmX7_mixInto s m args below meth c H locs 0 0 Q (F0 m 24 ls []) := by
    intro n
    induction n with
    | zero => intro u2 u3 hz; exact (it_zero hz).elim
    | succ n ih =>
      intro u2 u3 hz H locs ls hP hD hS hl
      obtain ⟨x9, hf, hq⟩ := it_succ hz
      unfold fX7_mixInto_L1 at hf
      dsimp only [un2] at hf
      refine lv_iload hx hb dX7_mixInto_24 (lv_at hl 3 rfl) ?_
      refine lv_iload hx hb dX7_mixInto_26 (lv_at hl 2 rfl) ?_
      refine lv_icmp_ge (tgt := 52) hx hb dX7_mixInto_28 (by decide) (fun c4 => ?_) (fun c4 => ?_)
      · have hf := ift hf c4
        cases hf
        exact hx1_0 _ hq _ _ _ hP hD hS (lv_sub hl [1] rfl)
      · have hf := iff_ hf c4
        refine lv_ldc2 (v := 31) hx hb hown kc_42 dX7_mixInto_31 ?_
        refine lv_lload_n hx hb dX7_mixInto_34 rfl (lv_at hl 1 rfl) ?_
        refine lv_lmul hx hb dX7_mixInto_35 ?_
        refine lv_aload_n hx hb dX7_mixInto_36 rfl (lv_at hl 0 rfl) ?_
        refine va_get (D := G) (ci := 7) (v := .ref t_cells_h) (C := RX7) (T := TX7) (N := 4) hx hb hts iwX7 hown hK hP 0 rfl rfl 2 (by decide) fl_24 (fun _ h9 => h9) rfl dX7_mixInto_37 ?_
        refine lv_iload hx hb dX7_mixInto_40 (lv_at hl 3 rfl) ?_
        obtain ⟨h5, hf⟩ := gd_some hf
        refine va_iald hx hb hK hP 1 0 rfl rfl (bnd_in h5) dX7_mixInto_42 ?_
        refine lv_i2l (v := Int32.toInt64 (t_cells_a (Int32.toNatClampNeg u3))) hx hb dX7_mixInto_43 rfl ?_
        refine lv_ladd hx hb dX7_mixInto_44 ?_
        refine lv_topl (fun v6 ev6 => ?_)
        have hf := bv_at ev6 hf
        refine lv_lstore_n (lv' := [(3, .long v6), (0, .ref t_h), (5, .int v1), (6, .int u3)]) hx hb dX7_mixInto_45 rfl hl (by decide) rfl (fun ls hl => ?_)
        obtain ⟨v7, ev7⟩ : ∃ y : Int32, y = u3 + 1 := ⟨_, rfl⟩
        have hf := bv_at ev7 hf
        refine lv_iinc (v := v7) (lv' := [(6, .int v7), (3, .long v6), (0, .ref t_h), (5, .int v1)]) hx hb dX7_mixInto_46 hl (k := 3) rfl (by rw [ev7]; rfl) (by decide) rfl (fun ls hl => ?_)
        refine lv_goto (tgt := 24) hx hb dX7_mixInto_49 (by decide) ?_
        cases hf
        exact ih _ _ hq _ _ _ hP hD hS (lv_sub hl [2, 1, 3, 0] rfl)
  exact hl1 _ _ _ ht1 _ _ _ hP hD hS (lv_sub hl [3, 2, 1, 0] rfl)
