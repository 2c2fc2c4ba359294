theorem dX1_commonDivisor_0 : decode cX1_commonDivisor 0 = .ok (.lload_n 0, 1) := by decide +kernel
theorem dX1_commonDivisor_1 : decode cX1_commonDivisor 1 = .ok (.lstore 4, 2) := by decide +kernel
theorem dX1_commonDivisor_3 : decode cX1_commonDivisor 3 = .ok (.lload_n 2, 1) := by decide +kernel
theorem dX1_commonDivisor_4 : decode cX1_commonDivisor 4 = .ok (.lstore 6, 2) := by decide +kernel
theorem dX1_commonDivisor_6 : decode cX1_commonDivisor 6 = .ok (.iconst 0, 1) := by decide +kernel
theorem dX1_commonDivisor_7 : decode cX1_commonDivisor 7 = .ok (.istore 8, 2) := by decide +kernel
theorem dX1_commonDivisor_9 : decode cX1_commonDivisor 9 = .ok (.iload 8, 2) := by decide +kernel
theorem dX1_commonDivisor_11 : decode cX1_commonDivisor 11 = .ok (.bipush 100, 2) := by decide +kernel
theorem dX1_commonDivisor_13 : decode cX1_commonDivisor 13 = .ok (.if_icmp .ge 31, 3) := by decide +kernel
theorem dX1_commonDivisor_16 : decode cX1_commonDivisor 16 = .ok (.lload 6, 2) := by decide +kernel
theorem dX1_commonDivisor_18 : decode cX1_commonDivisor 18 = .ok (.lconst 0, 1) := by decide +kernel
theorem dX1_commonDivisor_19 : decode cX1_commonDivisor 19 = .ok (.lcmp, 1) := by decide +kernel
theorem dX1_commonDivisor_20 : decode cX1_commonDivisor 20 = .ok (.ifCond .eq 24, 3) := by decide +kernel
theorem dX1_commonDivisor_23 : decode cX1_commonDivisor 23 = .ok (.lload 4, 2) := by decide +kernel
theorem dX1_commonDivisor_25 : decode cX1_commonDivisor 25 = .ok (.lload 6, 2) := by decide +kernel
theorem dX1_commonDivisor_27 : decode cX1_commonDivisor 27 = .ok (.lrem, 1) := by decide +kernel
theorem dX1_commonDivisor_28 : decode cX1_commonDivisor 28 = .ok (.lstore 9, 2) := by decide +kernel
theorem dX1_commonDivisor_30 : decode cX1_commonDivisor 30 = .ok (.lload 6, 2) := by decide +kernel
theorem dX1_commonDivisor_32 : decode cX1_commonDivisor 32 = .ok (.lstore 4, 2) := by decide +kernel
theorem dX1_commonDivisor_34 : decode cX1_commonDivisor 34 = .ok (.lload 9, 2) := by decide +kernel
theorem dX1_commonDivisor_36 : decode cX1_commonDivisor 36 = .ok (.lstore 6, 2) := by decide +kernel
theorem dX1_commonDivisor_38 : decode cX1_commonDivisor 38 = .ok (.iinc 8 1, 3) := by decide +kernel
theorem dX1_commonDivisor_41 : decode cX1_commonDivisor 41 = .ok (.goto (-32), 3) := by decide +kernel
theorem dX1_commonDivisor_44 : decode cX1_commonDivisor 44 = .ok (.lload 4, 2) := by decide +kernel
theorem dX1_commonDivisor_46 : decode cX1_commonDivisor 46 = .ok (.lreturn, 1) := by decide +kernel
set_option maxRecDepth 100000 in
def fX1_commonDivisor_L1  : (Int64 × Int64 × Int32) → Option ((Int64) ⊕ (Int64 × Int64 × Int32)) := un3 fun (u1 : Int64) (u2 : Int64) (u3 : Int32) =>
  if 100 ≤ u3 then
    some (.inl u1)
  else
    if (lg_cmp u2 0) = 0 then
      some (.inl u1)
    else
      gd (decide (¬ u2 = 0)) <|
      bv (u1 - u1 / u2 * u2) fun v7 =>
      bv (u3 + 1) fun v8 =>
      some (.inr (u2, v7, v8))
set_option maxRecDepth 100000 in
def fX1_commonDivisor (x0 : Int64) (x2 : Int64) : Option (Int64) :=
  ob (it (fX1_commonDivisor_L1) 100000 (x0, x2, 0)) fun x9 =>
  some x9
abbrev rmX1_commonDivisor : Room := { frames := 0, cells := 0, slots := 0, locals := 0 }
set_option maxHeartbeats 4000000 in
set_option maxRecDepth 100000 in
theorem k_X1_commonDivisor (l : Launch) (G : va_G) (cI cJ : ClassId) (sz : Nat) (x0 : Int64) (x2 : Int64) {o_r : Int64} (hf : fX1_commonDivisor x0 x2 = some o_r) : MetL l yX1_commonDivisor wsX1_commonDivisor rmX1_commonDivisor [.long x0, .long x2] G cI cJ [] [] sz o_r := by
  refine en_0 (l := l) (y := yX1_commonDivisor) (wsl := wsX1_commonDivisor) (rm := rmX1_commonDivisor) (av := [.long x0, .long x2]) (G := G) (cI := cI) (cJ := cJ) (w0 := []) (sz := sz) (Qf := fun A => Ql0 G cI cJ [] o_r A) (cc := cX1_commonDivisor) (maxL := 11) (ret := (some .long)) RX1 (by decide +kernel) rfl rfl (Nat.le_of_ble_eq_true rfl) ?_
  intro p e s m args below meth c A ls Q hQ hx hb hr hts hown hlocks hml hN hK hP hD hS hA hl
  have hl : lv_has ls 11 [(0, .long x0), (2, .long x2)] := hl
  have hret : ∀ (o_r9 : Int64) (pc : Nat) (H : Heap) (locs : List Loc) (ls : Array Slot), decode cX1_commonDivisor pc = .ok (.lreturn, 1) → some o_r9 = some o_r → va_P G vwCl [] H → va_D A [] → va_S A s.heap H locs → W p l e rmX1_commonDivisor s m args below meth c H locs 0 0 Q (F0 m pc ls [.long o_r9]) := by
    intro o_r9 pc H locs ls hdg he hP hD hS
    cases he
    subst hQ
    exact rt_l hx hb hr hlocks hK hP hD hS rfl hdg
  clear hQ
  unfold fX1_commonDivisor at hf
  refine lv_lload_n hx hb dX1_commonDivisor_0 rfl (lv_at hl 0 rfl) ?_
  refine lv_lstore (lv' := [(4, .long x0), (0, .long x0), (2, .long x2)]) hx hb dX1_commonDivisor_1 hl (by decide) rfl (fun ls hl => ?_)
  refine lv_lload_n hx hb dX1_commonDivisor_3 rfl (lv_at hl 2 rfl) ?_
  refine lv_lstore (lv' := [(6, .long x2), (4, .long x0), (0, .long x0), (2, .long x2)]) hx hb dX1_commonDivisor_4 hl (by decide) rfl (fun ls hl => ?_)
  refine lv_iconst (v := 0) hx hb dX1_commonDivisor_6 (by decide) ?_
  refine lv_istore (lv' := [(8, .int 0), (6, .long x2), (4, .long x0), (0, .long x0), (2, .long x2)]) hx hb dX1_commonDivisor_7 hl (by decide) rfl (fun ls hl => ?_)
  obtain ⟨x9, ht1, hf⟩ := ob_some hf
  have hx1_0 : ∀ (x99 : Int64), x99 = x9 → ∀ (H : Heap) (locs : List Loc) (ls : Array Slot), va_P G vwCl [] H → va_D A [] → va_S A s.heap H locs → lv_has ls 11 [(4, .long x99)] → W p l e rmX1_commonDivisor s m args below meth c H locs 0 0 Q (F0 m 44 ls []) := by
    intro x99 he H locs ls hP hD hS hl
    cases he
    refine lv_lload hx hb dX1_commonDivisor_44 (lv_at hl 0 rfl) ?_
    exact hret x9 46 _ _ _ dX1_commonDivisor_46 hf hP hD hS
  clear hf
  have hl1 : ∀ (n : Nat) (u1 : Int64) (u2 : Int64) (u3 : Int32), it (fX1_commonDivisor_L1) n (u1, u2, u3) = some x9 → ∀ (H : Heap) (locs : List Loc) (ls : Array Slot), va_P G vwCl [] H → va_D A [] → va_S A s.heap H locs → lv_has ls 11 [(4, .long u1), (6, .long u2), (8, .int u3)] → W p l e rmX1_commonDivisor s m args below meth c H locs 0 0 Q (F0 m 9 ls []) := by
    intro n
    induction n with
    | zero => intro u1 u2 u3 hz; exact (it_zero hz).elim
    | succ n ih =>
      intro u1 u2 u3 hz H locs ls hP hD hS hl
      obtain ⟨x9, hf, hq⟩ := it_succ hz
      unfold fX1_commonDivisor_L1 at hf
      dsimp only [un3] at hf
      refine lv_iload hx hb dX1_commonDivisor_9 (lv_at hl 2 rfl) ?_
      refine lv_bipush (v := 100) hx hb dX1_commonDivisor_11 (by decide) ?_
      refine lv_icmp_ge (tgt := 44) hx hb dX1_commonDivisor_13 (by decide) (fun c4 => ?_) (fun c4 => ?_)
      · have hf := ift hf c4
        cases hf
        exact hx1_0 _ hq _ _ _ hP hD hS (lv_sub hl [0] rfl)
      · have hf := iff_ hf c4
        refine lv_lload hx hb dX1_commonDivisor_16 (lv_at hl 1 rfl) ?_
        refine lv_lconst (v := 0) hx hb dX1_commonDivisor_18 (by decide) ?_
        refine W.lcmp hx hb dX1_commonDivisor_19 ?_
        refine lv_if_eq (tgt := 44) hx hb dX1_commonDivisor_20 (by decide) (fun c5 => ?_) (fun c5 => ?_)
        · have hf := ift hf c5
          cases hf
          exact hx1_0 _ hq _ _ _ hP hD hS (lv_sub hl [0] rfl)
        · have hf := iff_ hf c5
          refine lv_lload hx hb dX1_commonDivisor_23 (lv_at hl 0 rfl) ?_
          refine lv_lload hx hb dX1_commonDivisor_25 (lv_at hl 1 rfl) ?_
          obtain ⟨h6, hf⟩ := gd_some hf
          refine lv_lrem hx hb dX1_commonDivisor_27 (of_decide_eq_true h6) ?_
          refine lv_topl (fun v7 ev7 => ?_)
          have hf := bv_at ev7 hf
          refine lv_lstore (lv' := [(9, .long v7), (4, .long u1), (6, .long u2), (8, .int u3)]) hx hb dX1_commonDivisor_28 hl (by decide) rfl (fun ls hl => ?_)
          refine lv_lload hx hb dX1_commonDivisor_30 (lv_at hl 2 rfl) ?_
          refine lv_lstore (lv' := [(4, .long u2), (9, .long v7), (6, .long u2), (8, .int u3)]) hx hb dX1_commonDivisor_32 hl (by decide) rfl (fun ls hl => ?_)
          refine lv_lload hx hb dX1_commonDivisor_34 (lv_at hl 1 rfl) ?_
          refine lv_lstore (lv' := [(6, .long v7), (4, .long u2), (9, .long v7), (8, .int u3)]) hx hb dX1_commonDivisor_36 hl (by decide) rfl (fun ls hl => ?_)
          obtain ⟨v8, ev8⟩ : ∃ y : Int32, y = u3 + 1 := ⟨_, rfl⟩
          have hf := bv_at ev8 hf
          refine lv_iinc (v := v8) (lv' := [(8, .int v8), (6, .long v7), (4, .long u2), (9, .long v7)]) hx hb dX1_commonDivisor_38 hl (k := 3) rfl (by rw [ev8]; rfl) (by decide) rfl (fun ls hl => ?_)
          refine lv_goto (tgt := 9) hx hb dX1_commonDivisor_41 (by decide) ?_
          cases hf
          exact ih _ _ _ hq _ _ _ hP hD hS (lv_sub hl [2, 1, 0] rfl)
  exact hl1 _ _ _ _ ht1 _ _ _ hP hD hS (lv_sub hl [2, 1, 0] rfl)
set_option maxRecDepth 20000 in
theorem ggX1_put_X1_commonDivisor : GoodIn wsX1_put wsX1_commonDivisor := goodIn_r _ [10] (by decide +kernel) (by decide +kernel)
set_option maxRecDepth 20000 in
theorem gX1_put_X1_commonDivisor : GoodIn wsX1_put (va_wsS RX1 22 yX1_commonDivisor wsX1_commonDivisor) := goodIn_app (goodIn_of _ (by decide +kernel)) ggX1_put_X1_commonDivisor
theorem dX1_put_0 : decode cX1_put 0 = .ok (.lload_n 3, 1) := by decide +kernel
theorem dX1_put_1 : decode cX1_put 1 = .ok (.lconst 0, 1) := by decide +kernel
theorem dX1_put_2 : decode cX1_put 2 = .ok (.lcmp, 1) := by decide +kernel
theorem dX1_put_3 : decode cX1_put 3 = .ok (.ifCond .gt 4, 3) := by decide +kernel
theorem dX1_put_6 : decode cX1_put 6 = .ok (.return_, 1) := by decide +kernel
theorem dX1_put_7 : decode cX1_put 7 = .ok (.lload_n 1, 1) := by decide +kernel
theorem dX1_put_8 : decode cX1_put 8 = .ok (.invokestatic 16, 3) := by decide +kernel
theorem dX1_put_11 : decode cX1_put 11 = .ok (.lload_n 3, 1) := by decide +kernel
theorem dX1_put_12 : decode cX1_put 12 = .ok (.invokestatic 22, 3) := by decide +kernel
theorem dX1_put_15 : decode cX1_put 15 = .ok (.lstore 5, 2) := by decide +kernel
theorem dX1_put_17 : decode cX1_put 17 = .ok (.lload 5, 2) := by decide +kernel
theorem dX1_put_19 : decode cX1_put 19 = .ok (.lconst 0, 1) := by decide +kernel
theorem dX1_put_20 : decode cX1_put 20 = .ok (.lcmp, 1) := by decide +kernel
theorem dX1_put_21 : decode cX1_put 21 = .ok (.ifCond .gt 4, 3) := by decide +kernel
theorem dX1_put_24 : decode cX1_put 24 = .ok (.return_, 1) := by decide +kernel
theorem dX1_put_25 : decode cX1_put 25 = .ok (.aload_n 0, 1) := by decide +kernel
theorem dX1_put_26 : decode cX1_put 26 = .ok (.lload_n 1, 1) := by decide +kernel
theorem dX1_put_27 : decode cX1_put 27 = .ok (.lload 5, 2) := by decide +kernel
theorem dX1_put_29 : decode cX1_put 29 = .ok (.ldiv, 1) := by decide +kernel
theorem dX1_put_30 : decode cX1_put 30 = .ok (.putfield 7, 3) := by decide +kernel
theorem dX1_put_33 : decode cX1_put 33 = .ok (.aload_n 0, 1) := by decide +kernel
theorem dX1_put_34 : decode cX1_put 34 = .ok (.lload_n 3, 1) := by decide +kernel
theorem dX1_put_35 : decode cX1_put 35 = .ok (.lload 5, 2) := by decide +kernel
theorem dX1_put_37 : decode cX1_put 37 = .ok (.ldiv, 1) := by decide +kernel
theorem dX1_put_38 : decode cX1_put 38 = .ok (.putfield 13, 3) := by decide +kernel
theorem dX1_put_41 : decode cX1_put 41 = .ok (.return_, 1) := by decide +kernel
set_option maxRecDepth 100000 in
def fX1_put (x1 : Int64) (x3 : Int64) (t_above : Int64) (t_below : Int64) : Option (Int64 × Int64) :=
  if 0 < (lg_cmp x3 0) then
    bv (if 0 < x1 then x1 else -x1) fun v2 =>
    ob (fX1_commonDivisor v2 x3) fun r3 =>
    if 0 < (lg_cmp r3 0) then
      gd (decide (¬ r3 = 0)) <|
      bv (x1 / r3) fun v7 =>
      gd (decide (¬ r3 = 0)) <|
      bv (x3 / r3) fun v9 =>
      some (v7, v9)
    else
      some (t_above, t_below)
  else
    some (t_above, t_below)
abbrev rmX1_put : Room := { frames := 1, cells := 0, slots := 0, locals := 30 }
theorem iwX1_put_X1 : ∀ w ∈ u_ws RX1 TX1 2, w ∈ wsX1_put := by decide +kernel
set_option maxHeartbeats 4000000 in
set_option maxRecDepth 100000 in
theorem k_X1_put (l : Launch) (G : va_G) (cI cJ : ClassId) (t_h : Nat) (sz : Nat) (t_above : Int64) (t_below : Int64) (x1 : Int64) (x3 : Int64) {o_t_above : Int64} {o_t_below : Int64} (hf : fX1_put x1 x3 t_above t_below = some (o_t_above, o_t_below)) : MetU l yX1_put wsX1_put rmX1_put [.ref t_h, .long x1, .long x3] G cI cJ [(t_h, .inr (1, [.long t_above, .long t_below]))] [(t_h, .inr (1, [.long o_t_above, .long o_t_below]))] sz := by
  refine en_0 (l := l) (y := yX1_put) (wsl := wsX1_put) (rm := rmX1_put) (av := [.ref t_h, .long x1, .long x3]) (G := G) (cI := cI) (cJ := cJ) (w0 := [(t_h, .inr (1, [.long t_above, .long t_below]))]) (sz := sz) (Qf := fun A => Qv0 G cI cJ [(t_h, .inr (1, [.long o_t_above, .long o_t_below]))] A) (cc := cX1_put) (maxL := 7) (ret := none) RX1 (by decide +kernel) rfl rfl (Nat.le_of_ble_eq_true rfl) ?_
  intro p e s m args below meth c A ls Q hQ hx hb hr hts hown hlocks hml hN hK hP hD hS hA hl
  have hl : lv_has ls 7 [(0, .ref t_h), (1, .long x1), (3, .long x3)] := hl
  have iwX1 := iwX1_put_X1
  have fl_7 := hts (.fieldLink RX1 7 "CloudOffice$Fraction" "above" "J") (by decide +kernel)
  have fl_13 := hts (.fieldLink RX1 13 "CloudOffice$Fraction" "below" "J") (by decide +kernel)
  have lb_16 := hts (.methodLink RX1 16 Lib.MathLoose.abs_long.x) (by decide +kernel)
  have lbs_16 := hts (.static Lib.MathLoose.abs_long.x) (by decide +kernel)
  have lbi_16 := hts (.initialized "java/lang/Math") (by decide +kernel)
  have lbc_16 := hts (.code Lib.MathLoose.abs_long.x Lib.MathLoose.abs_long.code 2 (some .long)) (by decide +kernel)
  have hret : ∀ (o_t_above9 : Int64) (o_t_below9 : Int64) (pc : Nat) (H : Heap) (locs : List Loc) (ls : Array Slot), decode cX1_put pc = .ok (.return_, 1) → some (o_t_above9, o_t_below9) = some (o_t_above, o_t_below) → va_P G vwCl [(t_h, .inr (1, [.long o_t_above9, .long o_t_below9]))] H → va_D A [(t_h, .inr (1, [.long o_t_above9, .long o_t_below9]))] → va_S A s.heap H locs → W p l e rmX1_put s m args below meth c H locs 0 0 Q (F0 m pc ls []) := by
    intro o_t_above9 o_t_below9 pc H locs ls hdg he hP hD hS
    cases he
    subst hQ
    exact rt_v hx hb hr hlocks hK hP hD hS hdg
  clear hQ
  unfold fX1_put at hf
  refine lv_lload_n hx hb dX1_put_0 rfl (lv_at hl 2 rfl) ?_
  refine lv_lconst (v := 0) hx hb dX1_put_1 (by decide) ?_
  refine W.lcmp hx hb dX1_put_2 ?_
  refine lv_if_gt (tgt := 7) hx hb dX1_put_3 (by decide) (fun c1 => ?_) (fun c1 => ?_)
  · have hf := ift hf c1
    refine lv_lload_n hx hb dX1_put_7 rfl (lv_at hl 1 rfl) ?_
    refine va_mabs_long hx hb (hml.trans hl.1.symm) hown lb_16 lbs_16 lbi_16 lbc_16 (Nat.le_of_ble_eq_true rfl) (Nat.le_of_ble_eq_true rfl) (Nat.zero_le _) (Nat.zero_le _) dX1_put_8 ?_
    refine lv_topl (fun v2 ev2 => ?_)
    have hf := bv_at ev2 hf
    refine lv_lload_n hx hb dX1_put_11 rfl (lv_at hl 2 rfl) ?_
    obtain ⟨r3, hc4, hf⟩ := ob_some hf
    refine af_lR (va_runS (As := [.long v2, .long x3]) (rest := []) ⟨hx, hb, hml, hown, hts⟩ (k_X1_commonDivisor l G cI cJ (x0 := v2) (x2 := x3) (sz := _) (hf := hc4)) (va_cwS 2 hts gX1_put_X1_commonDivisor rfl rfl rfl (by decide +kernel) ⟨Nat.le_of_ble_eq_true rfl, Nat.le_of_ble_eq_true rfl⟩) (preS0 (wc := []) hK hP hD hN [] rfl rfl (by decide)) rfl rfl hl.1 rfl (lv_room (Nat.le_of_ble_eq_true rfl)) dX1_put_12 ⟨Nat.zero_le _, Nat.zero_le _⟩) hP hD hS hA [] rfl (fun H locs hP hS => ?_)
    refine lv_lstore (lv' := [(5, .long r3), (0, .ref t_h), (1, .long x1), (3, .long x3)]) hx hb dX1_put_15 hl (by decide) rfl (fun ls hl => ?_)
    refine lv_lload hx hb dX1_put_17 (lv_at hl 0 rfl) ?_
    refine lv_lconst (v := 0) hx hb dX1_put_19 (by decide) ?_
    refine W.lcmp hx hb dX1_put_20 ?_
    refine lv_if_gt (tgt := 25) hx hb dX1_put_21 (by decide) (fun c5 => ?_) (fun c5 => ?_)
    · have hf := ift hf c5
      refine lv_aload_n hx hb dX1_put_25 rfl (lv_at hl 1 rfl) ?_
      refine lv_lload_n hx hb dX1_put_26 rfl (lv_at hl 2 rfl) ?_
      refine lv_lload hx hb dX1_put_27 (lv_at hl 0 rfl) ?_
      obtain ⟨h6, hf⟩ := gd_some hf
      refine lv_ldiv hx hb dX1_put_29 (of_decide_eq_true h6) ?_
      refine lv_topl (fun v7 ev7 => ?_)
      have hf := bv_at ev7 hf
      refine va_put (D := G) (ci := 1) (v := .long v7) (ty := .long) (C := RX1) (T := TX1) (N := 2) hx hb hts iwX1 tyX1 tyX1_ok nmX1 hown hK hP hD hS 0 rfl rfl 0 (by decide) fl_7 (fun _ h9 => h9) rfl (by decide +kernel) rfl rfl (Nat.le_of_ble_eq_true rfl) dX1_put_30 (fun H locs hP hD hS => ?_)
      have hP : va_P G vwCl [(t_h, .inr (1, [.long v7, .long t_below]))] H := hP
      have hD : va_D A [(t_h, .inr (1, [.long v7, .long t_below]))] := hD
      refine lv_aload_n hx hb dX1_put_33 rfl (lv_at hl 1 rfl) ?_
      refine lv_lload_n hx hb dX1_put_34 rfl (lv_at hl 3 rfl) ?_
      refine lv_lload hx hb dX1_put_35 (lv_at hl 0 rfl) ?_
      obtain ⟨h8, hf⟩ := gd_some hf
      refine lv_ldiv hx hb dX1_put_37 (of_decide_eq_true h8) ?_
      refine lv_topl (fun v9 ev9 => ?_)
      have hf := bv_at ev9 hf
      refine va_put (D := G) (ci := 1) (v := .long v9) (ty := .long) (C := RX1) (T := TX1) (N := 2) hx hb hts iwX1 tyX1 tyX1_ok nmX1 hown hK hP hD hS 0 rfl rfl 1 (by decide) fl_13 (fun _ h9 => h9) rfl (by decide +kernel) rfl rfl (Nat.le_of_ble_eq_true rfl) dX1_put_38 (fun H locs hP hD hS => ?_)
      have hP : va_P G vwCl [(t_h, .inr (1, [.long v7, .long v9]))] H := hP
      have hD : va_D A [(t_h, .inr (1, [.long v7, .long v9]))] := hD
      exact hret v7 v9 41 _ _ _ dX1_put_41 hf hP hD hS
    · have hf := iff_ hf c5
      exact hret t_above t_below 24 _ _ _ dX1_put_24 hf hP hD hS
  · have hf := iff_ hf c1
    exact hret t_above t_below 6 _ _ _ dX1_put_6 hf hP hD hS
theorem dJ9_floorDiv_f86c9_0 : decode cJ9_floorDiv_f86c9 0 = .ok (.lload_n 0, 1) := by decide +kernel
theorem dJ9_floorDiv_f86c9_1 : decode cJ9_floorDiv_f86c9 1 = .ok (.lload_n 2, 1) := by decide +kernel
theorem dJ9_floorDiv_f86c9_2 : decode cJ9_floorDiv_f86c9 2 = .ok (.ldiv, 1) := by decide +kernel
theorem dJ9_floorDiv_f86c9_3 : decode cJ9_floorDiv_f86c9 3 = .ok (.lstore 4, 2) := by decide +kernel
theorem dJ9_floorDiv_f86c9_5 : decode cJ9_floorDiv_f86c9 5 = .ok (.lload_n 0, 1) := by decide +kernel
theorem dJ9_floorDiv_f86c9_6 : decode cJ9_floorDiv_f86c9 6 = .ok (.lload_n 2, 1) := by decide +kernel
theorem dJ9_floorDiv_f86c9_7 : decode cJ9_floorDiv_f86c9 7 = .ok (.lxor, 1) := by decide +kernel
theorem dJ9_floorDiv_f86c9_8 : decode cJ9_floorDiv_f86c9 8 = .ok (.lconst 0, 1) := by decide +kernel
theorem dJ9_floorDiv_f86c9_9 : decode cJ9_floorDiv_f86c9 9 = .ok (.lcmp, 1) := by decide +kernel
theorem dJ9_floorDiv_f86c9_10 : decode cJ9_floorDiv_f86c9 10 = .ok (.ifCond .ge 17, 3) := by decide +kernel
theorem dJ9_floorDiv_f86c9_13 : decode cJ9_floorDiv_f86c9 13 = .ok (.lload 4, 2) := by decide +kernel
theorem dJ9_floorDiv_f86c9_15 : decode cJ9_floorDiv_f86c9 15 = .ok (.lload_n 2, 1) := by decide +kernel
theorem dJ9_floorDiv_f86c9_16 : decode cJ9_floorDiv_f86c9 16 = .ok (.lmul, 1) := by decide +kernel
theorem dJ9_floorDiv_f86c9_17 : decode cJ9_floorDiv_f86c9 17 = .ok (.lload_n 0, 1) := by decide +kernel
theorem dJ9_floorDiv_f86c9_18 : decode cJ9_floorDiv_f86c9 18 = .ok (.lcmp, 1) := by decide +kernel
theorem dJ9_floorDiv_f86c9_19 : decode cJ9_floorDiv_f86c9 19 = .ok (.ifCond .eq 8, 3) := by decide +kernel
theorem dJ9_floorDiv_f86c9_22 : decode cJ9_floorDiv_f86c9 22 = .ok (.lload 4, 2) := by decide +kernel
theorem dJ9_floorDiv_f86c9_24 : decode cJ9_floorDiv_f86c9 24 = .ok (.lconst 1, 1) := by decide +kernel
theorem dJ9_floorDiv_f86c9_25 : decode cJ9_floorDiv_f86c9 25 = .ok (.lsub, 1) := by decide +kernel
theorem dJ9_floorDiv_f86c9_26 : decode cJ9_floorDiv_f86c9 26 = .ok (.lreturn, 1) := by decide +kernel
theorem dJ9_floorDiv_f86c9_27 : decode cJ9_floorDiv_f86c9 27 = .ok (.lload 4, 2) := by decide +kernel
theorem dJ9_floorDiv_f86c9_29 : decode cJ9_floorDiv_f86c9 29 = .ok (.lreturn, 1) := by decide +kernel
set_option maxRecDepth 100000 in
def fJ9_floorDiv_f86c9 (x0 : Int64) (x2 : Int64) : Option (Int64) :=
  gd (decide (¬ x2 = 0)) <|
  bv (x0 / x2) fun v2 =>
  if 0 ≤ (lg_cmp (x0 ^^^ x2) 0) then
    some v2
  else
    if (lg_cmp (v2 * x2) x0) = 0 then
      some v2
    else
      some (v2 - 1)
abbrev rmJ9_floorDiv_f86c9 : Room := { frames := 0, cells := 0, slots := 0, locals := 0 }
set_option maxHeartbeats 4000000 in
set_option maxRecDepth 100000 in
theorem k_J9_floorDiv_f86c9 (l : Launch) (G : va_G) (cI cJ : ClassId) (sz : Nat) (x0 : Int64) (x2 : Int64) {o_r : Int64} (hf : fJ9_floorDiv_f86c9 x0 x2 = some o_r) : MetL l yJ9_floorDiv_f86c9 wsJ9_floorDiv_f86c9 rmJ9_floorDiv_f86c9 [.long x0, .long x2] G cI cJ [] [] sz o_r := by
  refine en_0 (l := l) (y := yJ9_floorDiv_f86c9) (wsl := wsJ9_floorDiv_f86c9) (rm := rmJ9_floorDiv_f86c9) (av := [.long x0, .long x2]) (G := G) (cI := cI) (cJ := cJ) (w0 := []) (sz := sz) (Qf := fun A => Ql0 G cI cJ [] o_r A) (cc := cJ9_floorDiv_f86c9) (maxL := 6) (ret := (some .long)) RJ9 (by decide +kernel) rfl rfl (Nat.le_of_ble_eq_true rfl) ?_
  intro p e s m args below meth c A ls Q hQ hx hb hr hts hown hlocks hml hN hK hP hD hS hA hl
  have hl : lv_has ls 6 [(0, .long x0), (2, .long x2)] := hl
  have hret : ∀ (o_r9 : Int64) (pc : Nat) (H : Heap) (locs : List Loc) (ls : Array Slot), decode cJ9_floorDiv_f86c9 pc = .ok (.lreturn, 1) → some o_r9 = some o_r → va_P G vwCl [] H → va_D A [] → va_S A s.heap H locs → W p l e rmJ9_floorDiv_f86c9 s m args below meth c H locs 0 0 Q (F0 m pc ls [.long o_r9]) := by
    intro o_r9 pc H locs ls hdg he hP hD hS
    cases he
    subst hQ
    exact rt_l hx hb hr hlocks hK hP hD hS rfl hdg
  clear hQ
  unfold fJ9_floorDiv_f86c9 at hf
  refine lv_lload_n hx hb dJ9_floorDiv_f86c9_0 rfl (lv_at hl 0 rfl) ?_
  refine lv_lload_n hx hb dJ9_floorDiv_f86c9_1 rfl (lv_at hl 1 rfl) ?_
  obtain ⟨h1, hf⟩ := gd_some hf
  refine lv_ldiv hx hb dJ9_floorDiv_f86c9_2 (of_decide_eq_true h1) ?_
  refine lv_topl (fun v2 ev2 => ?_)
  have hf := bv_at ev2 hf
  refine lv_lstore (lv' := [(4, .long v2), (0, .long x0), (2, .long x2)]) hx hb dJ9_floorDiv_f86c9_3 hl (by decide) rfl (fun ls hl => ?_)
  refine lv_lload_n hx hb dJ9_floorDiv_f86c9_5 rfl (lv_at hl 1 rfl) ?_
  refine lv_lload_n hx hb dJ9_floorDiv_f86c9_6 rfl (lv_at hl 2 rfl) ?_
  refine lv_lxor hx hb dJ9_floorDiv_f86c9_7 ?_
  refine lv_lconst (v := 0) hx hb dJ9_floorDiv_f86c9_8 (by decide) ?_
  refine W.lcmp hx hb dJ9_floorDiv_f86c9_9 ?_
  refine lv_if_ge (tgt := 27) hx hb dJ9_floorDiv_f86c9_10 (by decide) (fun c3 => ?_) (fun c3 => ?_)
  · have hf := ift hf c3
    refine lv_lload hx hb dJ9_floorDiv_f86c9_27 (lv_at hl 0 rfl) ?_
    exact hret v2 29 _ _ _ dJ9_floorDiv_f86c9_29 hf hP hD hS
  · have hf := iff_ hf c3
    refine lv_lload hx hb dJ9_floorDiv_f86c9_13 (lv_at hl 0 rfl) ?_
    refine lv_lload_n hx hb dJ9_floorDiv_f86c9_15 rfl (lv_at hl 2 rfl) ?_
    refine lv_lmul hx hb dJ9_floorDiv_f86c9_16 ?_
    refine lv_lload_n hx hb dJ9_floorDiv_f86c9_17 rfl (lv_at hl 1 rfl) ?_
    refine W.lcmp hx hb dJ9_floorDiv_f86c9_18 ?_
    refine lv_if_eq (tgt := 27) hx hb dJ9_floorDiv_f86c9_19 (by decide) (fun c4 => ?_) (fun c4 => ?_)
    · have hf := ift hf c4
      refine lv_lload hx hb dJ9_floorDiv_f86c9_27 (lv_at hl 0 rfl) ?_
      exact hret v2 29 _ _ _ dJ9_floorDiv_f86c9_29 hf hP hD hS
    · have hf := iff_ hf c4
      refine lv_lload hx hb dJ9_floorDiv_f86c9_22 (lv_at hl 0 rfl) ?_
      refine lv_lconst (v := 1) hx hb dJ9_floorDiv_f86c9_24 (by decide) ?_
      refine lv_lsub hx hb dJ9_floorDiv_f86c9_25 ?_
      exact hret (v2 - 1) 26 _ _ _ dJ9_floorDiv_f86c9_26 hf hP hD hS
set_option maxRecDepth 20000 in
theorem ggX1_cutDown_J9_floorDiv_f86c9 : GoodIn wsX1_cutDown wsJ9_floorDiv_f86c9 := goodIn_r _ [6] (by decide +kernel) (by decide +kernel)
set_option maxRecDepth 20000 in
theorem gX1_cutDown_J9_floorDiv_f86c9 : GoodIn wsX1_cutDown (va_wsS RX1 26 yJ9_floorDiv_f86c9 wsJ9_floorDiv_f86c9) := goodIn_app (goodIn_of _ (by decide +kernel)) ggX1_cutDown_J9_floorDiv_f86c9
theorem dX1_cutDown_0 : decode cX1_cutDown 0 = .ok (.aload_n 0, 1) := by decide +kernel
theorem dX1_cutDown_1 : decode cX1_cutDown 1 = .ok (.getfield 13, 3) := by decide +kernel
theorem dX1_cutDown_4 : decode cX1_cutDown 4 = .ok (.lconst 0, 1) := by decide +kernel
theorem dX1_cutDown_5 : decode cX1_cutDown 5 = .ok (.lcmp, 1) := by decide +kernel
theorem dX1_cutDown_6 : decode cX1_cutDown 6 = .ok (.ifCond .ne 7, 3) := by decide +kernel
theorem dX1_cutDown_9 : decode cX1_cutDown 9 = .ok (.lconst 0, 1) := by decide +kernel
theorem dX1_cutDown_10 : decode cX1_cutDown 10 = .ok (.goto 14, 3) := by decide +kernel
theorem dX1_cutDown_13 : decode cX1_cutDown 13 = .ok (.aload_n 0, 1) := by decide +kernel
theorem dX1_cutDown_14 : decode cX1_cutDown 14 = .ok (.getfield 7, 3) := by decide +kernel
theorem dX1_cutDown_17 : decode cX1_cutDown 17 = .ok (.aload_n 0, 1) := by decide +kernel
theorem dX1_cutDown_18 : decode cX1_cutDown 18 = .ok (.getfield 13, 3) := by decide +kernel
theorem dX1_cutDown_21 : decode cX1_cutDown 21 = .ok (.invokestatic 26, 3) := by decide +kernel
theorem dX1_cutDown_24 : decode cX1_cutDown 24 = .ok (.lreturn, 1) := by decide +kernel
set_option maxRecDepth 100000 in
def fX1_cutDown (t_above : Int64) (t_below : Int64) : Option (Int64) :=
  if (lg_cmp t_below 0) = 0 then
    some 0
  else
    ob (fJ9_floorDiv_f86c9 t_above t_below) fun r2 =>
    some r2
abbrev rmX1_cutDown : Room := { frames := 1, cells := 0, slots := 0, locals := 25 }
theorem iwX1_cutDown_X1 : ∀ w ∈ u_ws RX1 TX1 2, w ∈ wsX1_cutDown := by decide +kernel
set_option maxHeartbeats 4000000 in
set_option maxRecDepth 100000 in
theorem k_X1_cutDown (l : Launch) (G : va_G) (cI cJ : ClassId) (t_h : Nat) (sz : Nat) (t_above : Int64) (t_below : Int64) {o_r : Int64} (hf : fX1_cutDown t_above t_below = some o_r) : MetL l yX1_cutDown wsX1_cutDown rmX1_cutDown [.ref t_h] G cI cJ [(t_h, .inr (1, [.long t_above, .long t_below]))] [(t_h, .inr (1, [.long t_above, .long t_below]))] sz o_r := by
  refine en_0 (l := l) (y := yX1_cutDown) (wsl := wsX1_cutDown) (rm := rmX1_cutDown) (av := [.ref t_h]) (G := G) (cI := cI) (cJ := cJ) (w0 := [(t_h, .inr (1, [.long t_above, .long t_below]))]) (sz := sz) (Qf := fun A => Ql0 G cI cJ [(t_h, .inr (1, [.long t_above, .long t_below]))] o_r A) (cc := cX1_cutDown) (maxL := 1) (ret := (some .long)) RX1 (by decide +kernel) rfl rfl (Nat.le_of_ble_eq_true rfl) ?_
  intro p e s m args below meth c A ls Q hQ hx hb hr hts hown hlocks hml hN hK hP hD hS hA hl
  have hl : lv_has ls 1 [(0, .ref t_h)] := hl
  have iwX1 := iwX1_cutDown_X1
  have fl_7 := hts (.fieldLink RX1 7 "CloudOffice$Fraction" "above" "J") (by decide +kernel)
  have fl_13 := hts (.fieldLink RX1 13 "CloudOffice$Fraction" "below" "J") (by decide +kernel)
  have hret : ∀ (o_r9 : Int64) (pc : Nat) (H : Heap) (locs : List Loc) (ls : Array Slot), decode cX1_cutDown pc = .ok (.lreturn, 1) → some o_r9 = some o_r → va_P G vwCl [(t_h, .inr (1, [.long t_above, .long t_below]))] H → va_D A [(t_h, .inr (1, [.long t_above, .long t_below]))] → va_S A s.heap H locs → W p l e rmX1_cutDown s m args below meth c H locs 0 0 Q (F0 m pc ls [.long o_r9]) := by
    intro o_r9 pc H locs ls hdg he hP hD hS
    cases he
    subst hQ
    exact rt_l hx hb hr hlocks hK hP hD hS rfl hdg
  clear hQ
  unfold fX1_cutDown at hf
  refine lv_aload_n hx hb dX1_cutDown_0 rfl (lv_at hl 0 rfl) ?_
  refine va_get (D := G) (ci := 1) (v := .long t_below) (C := RX1) (T := TX1) (N := 2) hx hb hts iwX1 hown hK hP 0 rfl rfl 1 (by decide) fl_13 (fun _ h9 => h9) rfl dX1_cutDown_1 ?_
  refine lv_lconst (v := 0) hx hb dX1_cutDown_4 (by decide) ?_
  refine W.lcmp hx hb dX1_cutDown_5 ?_
  refine lv_if_ne (tgt := 13) hx hb dX1_cutDown_6 (by decide) (fun c1 => ?_) (fun c1 => ?_)
  · have hf := iff_ hf c1
    refine lv_aload_n hx hb dX1_cutDown_13 rfl (lv_at hl 0 rfl) ?_
    refine va_get (D := G) (ci := 1) (v := .long t_above) (C := RX1) (T := TX1) (N := 2) hx hb hts iwX1 hown hK hP 0 rfl rfl 0 (by decide) fl_7 (fun _ h9 => h9) rfl dX1_cutDown_14 ?_
    refine lv_aload_n hx hb dX1_cutDown_17 rfl (lv_at hl 0 rfl) ?_
    refine va_get (D := G) (ci := 1) (v := .long t_below) (C := RX1) (T := TX1) (N := 2) hx hb hts iwX1 hown hK hP 0 rfl rfl 1 (by decide) fl_13 (fun _ h9 => h9) rfl dX1_cutDown_18 ?_
    obtain ⟨r2, hc3, hf⟩ := ob_some hf
    refine af_lR (va_runS (As := [.long t_above, .long t_below]) (rest := []) ⟨hx, hb, hml, hown, hts⟩ (k_J9_floorDiv_f86c9 l G cI cJ (x0 := t_above) (x2 := t_below) (sz := _) (hf := hc3)) (va_cwS 2 hts gX1_cutDown_J9_floorDiv_f86c9 rfl rfl rfl (by decide +kernel) ⟨Nat.le_of_ble_eq_true rfl, Nat.le_of_ble_eq_true rfl⟩) (preS0 (wc := []) hK hP hD hN [] rfl rfl (by decide)) rfl rfl hl.1 rfl (lv_room (Nat.le_of_ble_eq_true rfl)) dX1_cutDown_21 ⟨Nat.zero_le _, Nat.zero_le _⟩) hP hD hS hA [] rfl (fun H locs hP hS => ?_)
    exact hret r2 24 _ _ _ dX1_cutDown_24 hf hP hD hS
  · have hf := ift hf c1
    refine lv_lconst (v := 0) hx hb dX1_cutDown_9 (by decide) ?_
    refine lv_goto (tgt := 24) hx hb dX1_cutDown_10 (by decide) ?_
    exact hret 0 24 _ _ _ dX1_cutDown_24 hf hP hD hS
theorem dX1_isAtMost_0 : decode cX1_isAtMost 0 = .ok (.aload_n 0, 1) := by decide +kernel
theorem dX1_isAtMost_1 : decode cX1_isAtMost 1 = .ok (.getfield 7, 3) := by decide +kernel
theorem dX1_isAtMost_4 : decode cX1_isAtMost 4 = .ok (.aload_n 1, 1) := by decide +kernel
theorem dX1_isAtMost_5 : decode cX1_isAtMost 5 = .ok (.getfield 13, 3) := by decide +kernel
theorem dX1_isAtMost_8 : decode cX1_isAtMost 8 = .ok (.lmul, 1) := by decide +kernel
theorem dX1_isAtMost_9 : decode cX1_isAtMost 9 = .ok (.aload_n 1, 1) := by decide +kernel
theorem dX1_isAtMost_10 : decode cX1_isAtMost 10 = .ok (.getfield 7, 3) := by decide +kernel
theorem dX1_isAtMost_13 : decode cX1_isAtMost 13 = .ok (.aload_n 0, 1) := by decide +kernel
theorem dX1_isAtMost_14 : decode cX1_isAtMost 14 = .ok (.getfield 13, 3) := by decide +kernel
theorem dX1_isAtMost_17 : decode cX1_isAtMost 17 = .ok (.lmul, 1) := by decide +kernel
theorem dX1_isAtMost_18 : decode cX1_isAtMost 18 = .ok (.lcmp, 1) := by decide +kernel
theorem dX1_isAtMost_19 : decode cX1_isAtMost 19 = .ok (.ifCond .gt 7, 3) := by decide +kernel
theorem dX1_isAtMost_22 : decode cX1_isAtMost 22 = .ok (.iconst 1, 1) := by decide +kernel
theorem dX1_isAtMost_23 : decode cX1_isAtMost 23 = .ok (.goto 4, 3) := by decide +kernel
theorem dX1_isAtMost_26 : decode cX1_isAtMost 26 = .ok (.iconst 0, 1) := by decide +kernel
theorem dX1_isAtMost_27 : decode cX1_isAtMost 27 = .ok (.ireturn, 1) := by decide +kernel
set_option maxRecDepth 100000 in
def fX1_isAtMost (t_above : Int64) (t_below : Int64) (L1_above : Int64) (L1_below : Int64) : Option (Bool) :=
  if 0 < (lg_cmp (t_above * L1_below) (L1_above * t_below)) then
    some false
  else
    some true
abbrev rmX1_isAtMost : Room := { frames := 0, cells := 0, slots := 0, locals := 0 }
theorem iwX1_isAtMost_X1 : ∀ w ∈ u_ws RX1 TX1 2, w ∈ wsX1_isAtMost := by decide +kernel
set_option maxHeartbeats 4000000 in
set_option maxRecDepth 100000 in
theorem k_X1_isAtMost (l : Launch) (G : va_G) (cI cJ : ClassId) (t_h L1_h : Nat) (sz : Nat) (t_above : Int64) (t_below : Int64) (L1_above : Int64) (L1_below : Int64) {o_r : Bool} (hf : fX1_isAtMost t_above t_below L1_above L1_below = some o_r) : MetI l yX1_isAtMost wsX1_isAtMost rmX1_isAtMost [.ref t_h, .ref L1_h] G cI cJ [(t_h, .inr (1, [.long t_above, .long t_below])), (L1_h, .inr (1, [.long L1_above, .long L1_below]))] [(t_h, .inr (1, [.long t_above, .long t_below])), (L1_h, .inr (1, [.long L1_above, .long L1_below]))] sz (b2i o_r) := by
  refine en_0 (l := l) (y := yX1_isAtMost) (wsl := wsX1_isAtMost) (rm := rmX1_isAtMost) (av := [.ref t_h, .ref L1_h]) (G := G) (cI := cI) (cJ := cJ) (w0 := [(t_h, .inr (1, [.long t_above, .long t_below])), (L1_h, .inr (1, [.long L1_above, .long L1_below]))]) (sz := sz) (Qf := fun A => Qi0 G cI cJ [(t_h, .inr (1, [.long t_above, .long t_below])), (L1_h, .inr (1, [.long L1_above, .long L1_below]))] (b2i o_r) A) (cc := cX1_isAtMost) (maxL := 2) (ret := (some .boolean)) RX1 (by decide +kernel) rfl rfl (Nat.le_of_ble_eq_true rfl) ?_
  intro p e s m args below meth c A ls Q hQ hx hb hr hts hown hlocks hml hN hK hP hD hS hA hl
  have hl : lv_has ls 2 [(0, .ref t_h), (1, .ref L1_h)] := hl
  have iwX1 := iwX1_isAtMost_X1
  have fl_7 := hts (.fieldLink RX1 7 "CloudOffice$Fraction" "above" "J") (by decide +kernel)
  have fl_13 := hts (.fieldLink RX1 13 "CloudOffice$Fraction" "below" "J") (by decide +kernel)
  have hret : ∀ (o_r9 : Bool) (pc : Nat) (H : Heap) (locs : List Loc) (ls : Array Slot), decode cX1_isAtMost pc = .ok (.ireturn, 1) → some o_r9 = some o_r → va_P G vwCl [(t_h, .inr (1, [.long t_above, .long t_below])), (L1_h, .inr (1, [.long L1_above, .long L1_below]))] H → va_D A [(t_h, .inr (1, [.long t_above, .long t_below])), (L1_h, .inr (1, [.long L1_above, .long L1_below]))] → va_S A s.heap H locs → W p l e rmX1_isAtMost s m args below meth c H locs 0 0 Q (F0 m pc ls [.int (b2i o_r9)]) := by
    intro o_r9 pc H locs ls hdg he hP hD hS
    cases he
    subst hQ
    exact rt_z hx hb hr hlocks hK hP hD hS (b2i_narrow _) rfl hdg
  clear hQ
  unfold fX1_isAtMost at hf
  refine lv_aload_n hx hb dX1_isAtMost_0 rfl (lv_at hl 0 rfl) ?_
  refine va_get (D := G) (ci := 1) (v := .long t_above) (C := RX1) (T := TX1) (N := 2) hx hb hts iwX1 hown hK hP 0 rfl rfl 0 (by decide) fl_7 (fun _ h9 => h9) rfl dX1_isAtMost_1 ?_
  refine lv_aload_n hx hb dX1_isAtMost_4 rfl (lv_at hl 1 rfl) ?_
  refine va_get (D := G) (ci := 1) (v := .long L1_below) (C := RX1) (T := TX1) (N := 2) hx hb hts iwX1 hown hK hP 1 rfl rfl 1 (by decide) fl_13 (fun _ h9 => h9) rfl dX1_isAtMost_5 ?_
  refine lv_lmul hx hb dX1_isAtMost_8 ?_
  refine lv_aload_n hx hb dX1_isAtMost_9 rfl (lv_at hl 1 rfl) ?_
  refine va_get (D := G) (ci := 1) (v := .long L1_above) (C := RX1) (T := TX1) (N := 2) hx hb hts iwX1 hown hK hP 1 rfl rfl 0 (by decide) fl_7 (fun _ h9 => h9) rfl dX1_isAtMost_10 ?_
  refine lv_aload_n hx hb dX1_isAtMost_13 rfl (lv_at hl 0 rfl) ?_
  refine va_get (D := G) (ci := 1) (v := .long t_below) (C := RX1) (T := TX1) (N := 2) hx hb hts iwX1 hown hK hP 0 rfl rfl 1 (by decide) fl_13 (fun _ h9 => h9) rfl dX1_isAtMost_14 ?_
  refine lv_lmul hx hb dX1_isAtMost_17 ?_
  refine W.lcmp hx hb dX1_isAtMost_18 ?_
  refine lv_if_gt (tgt := 26) hx hb dX1_isAtMost_19 (by decide) (fun c1 => ?_) (fun c1 => ?_)
  · have hf := ift hf c1
    refine lv_iconst (v := 0) hx hb dX1_isAtMost_26 (by decide) ?_
    exact hret false 27 _ _ _ dX1_isAtMost_27 hf hP hD hS
  · have hf := iff_ hf c1
    refine lv_iconst (v := 1) hx hb dX1_isAtMost_22 (by decide) ?_
    refine lv_goto (tgt := 27) hx hb dX1_isAtMost_23 (by decide) ?_
    exact hret true 27 _ _ _ dX1_isAtMost_27 hf hP hD hS
theorem dX1_mixInto_0 : decode cX1_mixInto 0 = .ok (.ldc2_w 29, 3) := by decide +kernel
theorem dX1_mixInto_3 : decode cX1_mixInto 3 = .ok (.ldc2_w 29, 3) := by decide +kernel
theorem dX1_mixInto_6 : decode cX1_mixInto 6 = .ok (.lload_n 1, 1) := by decide +kernel
theorem dX1_mixInto_7 : decode cX1_mixInto 7 = .ok (.lmul, 1) := by decide +kernel
theorem dX1_mixInto_8 : decode cX1_mixInto 8 = .ok (.aload_n 0, 1) := by decide +kernel
theorem dX1_mixInto_9 : decode cX1_mixInto 9 = .ok (.getfield 7, 3) := by decide +kernel
theorem dX1_mixInto_12 : decode cX1_mixInto 12 = .ok (.ladd, 1) := by decide +kernel
theorem dX1_mixInto_13 : decode cX1_mixInto 13 = .ok (.lmul, 1) := by decide +kernel
theorem dX1_mixInto_14 : decode cX1_mixInto 14 = .ok (.aload_n 0, 1) := by decide +kernel
theorem dX1_mixInto_15 : decode cX1_mixInto 15 = .ok (.getfield 13, 3) := by decide +kernel
theorem dX1_mixInto_18 : decode cX1_mixInto 18 = .ok (.ladd, 1) := by decide +kernel
theorem dX1_mixInto_19 : decode cX1_mixInto 19 = .ok (.lreturn, 1) := by decide +kernel
set_option maxRecDepth 100000 in
def fX1_mixInto (x1 : Int64) (t_above : Int64) (t_below : Int64) : Option (Int64) :=
  some ((31 * ((31 * x1) + t_above)) + t_below)
abbrev rmX1_mixInto : Room := { frames := 0, cells := 0, slots := 0, locals := 0 }
theorem iwX1_mixInto_X1 : ∀ w ∈ u_ws RX1 TX1 2, w ∈ wsX1_mixInto := by decide +kernel
set_option maxHeartbeats 4000000 in
set_option maxRecDepth 100000 in
theorem k_X1_mixInto (l : Launch) (G : va_G) (cI cJ : ClassId) (t_h : Nat) (sz : Nat) (t_above : Int64) (t_below : Int64) (x1 : Int64) {o_r : Int64} (hf : fX1_mixInto x1 t_above t_below = some o_r) : MetL l yX1_mixInto wsX1_mixInto rmX1_mixInto [.ref t_h, .long x1] G cI cJ [(t_h, .inr (1, [.long t_above, .long t_below]))] [(t_h, .inr (1, [.long t_above, .long t_below]))] sz o_r := by
  refine en_0 (l := l) (y := yX1_mixInto) (wsl := wsX1_mixInto) (rm := rmX1_mixInto) (av := [.ref t_h, .long x1]) (G := G) (cI := cI) (cJ := cJ) (w0 := [(t_h, .inr (1, [.long t_above, .long t_below]))]) (sz := sz) (Qf := fun A => Ql0 G cI cJ [(t_h, .inr (1, [.long t_above, .long t_below]))] o_r A) (cc := cX1_mixInto) (maxL := 3) (ret := (some .long)) RX1 (by decide +kernel) rfl rfl (Nat.le_of_ble_eq_true rfl) ?_
  intro p e s m args below meth c A ls Q hQ hx hb hr hts hown hlocks hml hN hK hP hD hS hA hl
  have hl : lv_has ls 3 [(0, .ref t_h), (1, .long x1)] := hl
  have iwX1 := iwX1_mixInto_X1
  have fl_7 := hts (.fieldLink RX1 7 "CloudOffice$Fraction" "above" "J") (by decide +kernel)
  have fl_13 := hts (.fieldLink RX1 13 "CloudOffice$Fraction" "below" "J") (by decide +kernel)
  have kc_29 := hts (.constantLong RX1 29 (31)) (by decide +kernel)
  have hret : ∀ (o_r9 : Int64) (pc : Nat) (H : Heap) (locs : List Loc) (ls : Array Slot), decode cX1_mixInto pc = .ok (.lreturn, 1) → some o_r9 = some o_r → va_P G vwCl [(t_h, .inr (1, [.long t_above, .long t_below]))] H → va_D A [(t_h, .inr (1, [.long t_above, .long t_below]))] → va_S A s.heap H locs → W p l e rmX1_mixInto s m args below meth c H locs 0 0 Q (F0 m pc ls [.long o_r9]) := by
    intro o_r9 pc H locs ls hdg he hP hD hS
    cases he
    subst hQ
    exact rt_l hx hb hr hlocks hK hP hD hS rfl hdg
  clear hQ
  unfold fX1_mixInto at hf
  refine lv_ldc2 (v := 31) hx hb hown kc_29 dX1_mixInto_0 ?_
  refine lv_ldc2 (v := 31) hx hb hown kc_29 dX1_mixInto_3 ?_
  refine lv_lload_n hx hb dX1_mixInto_6 rfl (lv_at hl 1 rfl) ?_
  refine lv_lmul hx hb dX1_mixInto_7 ?_
  refine lv_aload_n hx hb dX1_mixInto_8 rfl (lv_at hl 0 rfl) ?_
  refine va_get (D := G) (ci := 1) (v := .long t_above) (C := RX1) (T := TX1) (N := 2) hx hb hts iwX1 hown hK hP 0 rfl rfl 0 (by decide) fl_7 (fun _ h9 => h9) rfl dX1_mixInto_9 ?_
  refine lv_ladd hx hb dX1_mixInto_12 ?_
  refine lv_lmul hx hb dX1_mixInto_13 ?_
  refine lv_aload_n hx hb dX1_mixInto_14 rfl (lv_at hl 0 rfl) ?_
  refine va_get (D := G) (ci := 1) (v := .long t_below) (C := RX1) (T := TX1) (N := 2) hx hb hts iwX1 hown hK hP 0 rfl rfl 1 (by decide) fl_13 (fun _ h9 => h9) rfl dX1_mixInto_15 ?_
  refine lv_ladd hx hb dX1_mixInto_18 ?_
  exact hret ((31 * ((31 * x1) + t_above)) + t_below) 19 _ _ _ dX1_mixInto_19 hf hP hD hS
theorem dX4_mixInto_0 : decode cX4_mixInto 0 = .ok (.lload_n 1, 1) := by decide +kernel
theorem dX4_mixInto_1 : decode cX4_mixInto 1 = .ok (.lstore_n 3, 1) := by decide +kernel
theorem dX4_mixInto_2 : decode cX4_mixInto 2 = .ok (.ldc2_w 28, 3) := by decide +kernel
theorem dX4_mixInto_5 : decode cX4_mixInto 5 = .ok (.lload_n 3, 1) := by decide +kernel
theorem dX4_mixInto_6 : decode cX4_mixInto 6 = .ok (.lmul, 1) := by decide +kernel
theorem dX4_mixInto_7 : decode cX4_mixInto 7 = .ok (.aload_n 0, 1) := by decide +kernel
theorem dX4_mixInto_8 : decode cX4_mixInto 8 = .ok (.getfield 7, 3) := by decide +kernel
theorem dX4_mixInto_11 : decode cX4_mixInto 11 = .ok (.i2l, 1) := by decide +kernel
theorem dX4_mixInto_12 : decode cX4_mixInto 12 = .ok (.ladd, 1) := by decide +kernel
theorem dX4_mixInto_13 : decode cX4_mixInto 13 = .ok (.lstore_n 3, 1) := by decide +kernel
theorem dX4_mixInto_14 : decode cX4_mixInto 14 = .ok (.ldc2_w 28, 3) := by decide +kernel
theorem dX4_mixInto_17 : decode cX4_mixInto 17 = .ok (.lload_n 3, 1) := by decide +kernel
theorem dX4_mixInto_18 : decode cX4_mixInto 18 = .ok (.lmul, 1) := by decide +kernel
theorem dX4_mixInto_19 : decode cX4_mixInto 19 = .ok (.aload_n 0, 1) := by decide +kernel
theorem dX4_mixInto_20 : decode cX4_mixInto 20 = .ok (.getfield 13, 3) := by decide +kernel
theorem dX4_mixInto_23 : decode cX4_mixInto 23 = .ok (.i2l, 1) := by decide +kernel
theorem dX4_mixInto_24 : decode cX4_mixInto 24 = .ok (.ladd, 1) := by decide +kernel
theorem dX4_mixInto_25 : decode cX4_mixInto 25 = .ok (.lstore_n 3, 1) := by decide +kernel
theorem dX4_mixInto_26 : decode cX4_mixInto 26 = .ok (.ldc2_w 28, 3) := by decide +kernel
theorem dX4_mixInto_29 : decode cX4_mixInto 29 = .ok (.lload_n 3, 1) := by decide +kernel
theorem dX4_mixInto_30 : decode cX4_mixInto 30 = .ok (.lmul, 1) := by decide +kernel
theorem dX4_mixInto_31 : decode cX4_mixInto 31 = .ok (.aload_n 0, 1) := by decide +kernel
theorem dX4_mixInto_32 : decode cX4_mixInto 32 = .ok (.getfield 16, 3) := by decide +kernel
theorem dX4_mixInto_35 : decode cX4_mixInto 35 = .ok (.i2l, 1) := by decide +kernel
theorem dX4_mixInto_36 : decode cX4_mixInto 36 = .ok (.ladd, 1) := by decide +kernel
theorem dX4_mixInto_37 : decode cX4_mixInto 37 = .ok (.lstore_n 3, 1) := by decide +kernel
theorem dX4_mixInto_38 : decode cX4_mixInto 38 = .ok (.ldc2_w 28, 3) := by decide +kernel
theorem dX4_mixInto_41 : decode cX4_mixInto 41 = .ok (.lload_n 3, 1) := by decide +kernel
theorem dX4_mixInto_42 : decode cX4_mixInto 42 = .ok (.lmul, 1) := by decide +kernel
theorem dX4_mixInto_43 : decode cX4_mixInto 43 = .ok (.aload_n 0, 1) := by decide +kernel
theorem dX4_mixInto_44 : decode cX4_mixInto 44 = .ok (.getfield 19, 3) := by decide +kernel
theorem dX4_mixInto_47 : decode cX4_mixInto 47 = .ok (.i2l, 1) := by decide +kernel
theorem dX4_mixInto_48 : decode cX4_mixInto 48 = .ok (.ladd, 1) := by decide +kernel
theorem dX4_mixInto_49 : decode cX4_mixInto 49 = .ok (.lstore_n 3, 1) := by decide +kernel
theorem dX4_mixInto_50 : decode cX4_mixInto 50 = .ok (.ldc2_w 28, 3) := by decide +kernel
theorem dX4_mixInto_53 : decode cX4_mixInto 53 = .ok (.lload_n 3, 1) := by decide +kernel
theorem dX4_mixInto_54 : decode cX4_mixInto 54 = .ok (.lmul, 1) := by decide +kernel
theorem dX4_mixInto_55 : decode cX4_mixInto 55 = .ok (.aload_n 0, 1) := by decide +kernel
theorem dX4_mixInto_56 : decode cX4_mixInto 56 = .ok (.getfield 22, 3) := by decide +kernel
theorem dX4_mixInto_59 : decode cX4_mixInto 59 = .ok (.i2l, 1) := by decide +kernel
theorem dX4_mixInto_60 : decode cX4_mixInto 60 = .ok (.ladd, 1) := by decide +kernel
theorem dX4_mixInto_61 : decode cX4_mixInto 61 = .ok (.lstore_n 3, 1) := by decide +kernel
theorem dX4_mixInto_62 : decode cX4_mixInto 62 = .ok (.ldc2_w 28, 3) := by decide +kernel
theorem dX4_mixInto_65 : decode cX4_mixInto 65 = .ok (.lload_n 3, 1) := by decide +kernel
theorem dX4_mixInto_66 : decode cX4_mixInto 66 = .ok (.lmul, 1) := by decide +kernel
theorem dX4_mixInto_67 : decode cX4_mixInto 67 = .ok (.aload_n 0, 1) := by decide +kernel
theorem dX4_mixInto_68 : decode cX4_mixInto 68 = .ok (.getfield 25, 3) := by decide +kernel
theorem dX4_mixInto_71 : decode cX4_mixInto 71 = .ok (.i2l, 1) := by decide +kernel
theorem dX4_mixInto_72 : decode cX4_mixInto 72 = .ok (.ladd, 1) := by decide +kernel
theorem dX4_mixInto_73 : decode cX4_mixInto 73 = .ok (.lreturn, 1) := by decide +kernel
set_option maxRecDepth 100000 in
def fX4_mixInto (x1 : Int64) (t_base : Int32) (t_slip : Int32) (t_low : Int32) (t_high : Int32) (t_unlike : Int32) (t_alone : Int32) : Option (Int64) :=
  bv ((31 * x1) + (Int32.toInt64 t_base)) fun v1 =>
  bv ((31 * v1) + (Int32.toInt64 t_slip)) fun v2 =>
  bv ((31 * v2) + (Int32.toInt64 t_low)) fun v3 =>
  bv ((31 * v3) + (Int32.toInt64 t_high)) fun v4 =>
  bv ((31 * v4) + (Int32.toInt64 t_unlike)) fun v5 =>
  some ((31 * v5) + (Int32.toInt64 t_alone))
abbrev rmX4_mixInto : Room := { frames := 0, cells := 0, slots := 0, locals := 0 }
theorem iwX4_mixInto_X4 : ∀ w ∈ u_ws RX4 TX4 6, w ∈ wsX4_mixInto := by decide +kernel
set_option maxHeartbeats 4000000 in
set_option maxRecDepth 100000 in
theorem k_X4_mixInto (l : Launch) (G : va_G) (cI cJ : ClassId) (t_h : Nat) (sz : Nat) (t_base : Int32) (t_slip : Int32) (t_low : Int32) (t_high : Int32) (t_unlike : Int32) (t_alone : Int32) (x1 : Int64) {o_r : Int64} (hf : fX4_mixInto x1 t_base t_slip t_low t_high t_unlike t_alone = some o_r) : MetL l yX4_mixInto wsX4_mixInto rmX4_mixInto [.ref t_h, .long x1] G cI cJ [(t_h, .inr (4, [.int t_base, .int t_slip, .int t_low, .int t_high, .int t_unlike, .int t_alone]))] [(t_h, .inr (4, [.int t_base, .int t_slip, .int t_low, .int t_high, .int t_unlike, .int t_alone]))] sz o_r := by
  refine en_0 (l := l) (y := yX4_mixInto) (wsl := wsX4_mixInto) (rm := rmX4_mixInto) (av := [.ref t_h, .long x1]) (G := G) (cI := cI) (cJ := cJ) (w0 := [(t_h, .inr (4, [.int t_base, .int t_slip, .int t_low, .int t_high, .int t_unlike, .int t_alone]))]) (sz := sz) (Qf := fun A => Ql0 G cI cJ [(t_h, .inr (4, [.int t_base, .int t_slip, .int t_low, .int t_high, .int t_unlike, .int t_alone]))] o_r A) (cc := cX4_mixInto) (maxL := 5) (ret := (some .long)) RX4 (by decide +kernel) rfl rfl (Nat.le_of_ble_eq_true rfl) ?_
  intro p e s m args below meth c A ls Q hQ hx hb hr hts hown hlocks hml hN hK hP hD hS hA hl
  have hl : lv_has ls 5 [(0, .ref t_h), (1, .long x1)] := hl
  have iwX4 := iwX4_mixInto_X4
  have fl_7 := hts (.fieldLink RX4 7 "CloudOffice$Settings" "base" "I") (by decide +kernel)
  have fl_13 := hts (.fieldLink RX4 13 "CloudOffice$Settings" "slip" "I") (by decide +kernel)
  have fl_16 := hts (.fieldLink RX4 16 "CloudOffice$Settings" "low" "I") (by decide +kernel)
  have fl_19 := hts (.fieldLink RX4 19 "CloudOffice$Settings" "high" "I") (by decide +kernel)
  have fl_22 := hts (.fieldLink RX4 22 "CloudOffice$Settings" "unlike" "I") (by decide +kernel)
  have fl_25 := hts (.fieldLink RX4 25 "CloudOffice$Settings" "alone" "I") (by decide +kernel)
  have kc_28 := hts (.constantLong RX4 28 (31)) (by decide +kernel)
  have hret : ∀ (o_r9 : Int64) (pc : Nat) (H : Heap) (locs : List Loc) (ls : Array Slot), decode cX4_mixInto pc = .ok (.lreturn, 1) → some o_r9 = some o_r → va_P G vwCl [(t_h, .inr (4, [.int t_base, .int t_slip, .int t_low, .int t_high, .int t_unlike, .int t_alone]))] H → va_D A [(t_h, .inr (4, [.int t_base, .int t_slip, .int t_low, .int t_high, .int t_unlike, .int t_alone]))] → va_S A s.heap H locs → W p l e rmX4_mixInto s m args below meth c H locs 0 0 Q (F0 m pc ls [.long o_r9]) := by
    intro o_r9 pc H locs ls hdg he hP hD hS
    cases he
    subst hQ
    exact rt_l hx hb hr hlocks hK hP hD hS rfl hdg
  clear hQ
  unfold fX4_mixInto at hf
  refine lv_lload_n hx hb dX4_mixInto_0 rfl (lv_at hl 1 rfl) ?_
  refine lv_lstore_n (lv' := [(3, .long x1), (0, .ref t_h), (1, .long x1)]) hx hb dX4_mixInto_1 rfl hl (by decide) rfl (fun ls hl => ?_)
  refine lv_ldc2 (v := 31) hx hb hown kc_28 dX4_mixInto_2 ?_
  refine lv_lload_n hx hb dX4_mixInto_5 rfl (lv_at hl 0 rfl) ?_
  refine lv_lmul hx hb dX4_mixInto_6 ?_
  refine lv_aload_n hx hb dX4_mixInto_7 rfl (lv_at hl 1 rfl) ?_
  refine va_get (D := G) (ci := 4) (v := .int t_base) (C := RX4) (T := TX4) (N := 6) hx hb hts iwX4 hown hK hP 0 rfl rfl 0 (by decide) fl_7 (fun _ h9 => h9) rfl dX4_mixInto_8 ?_
  refine lv_i2l (v := Int32.toInt64 t_base) hx hb dX4_mixInto_11 rfl ?_
  refine lv_ladd hx hb dX4_mixInto_12 ?_
  refine lv_topl (fun v1 ev1 => ?_)
  have hf := bv_at ev1 hf
  refine lv_lstore_n (lv' := [(3, .long v1), (0, .ref t_h), (1, .long x1)]) hx hb dX4_mixInto_13 rfl hl (by decide) rfl (fun ls hl => ?_)
  refine lv_ldc2 (v := 31) hx hb hown kc_28 dX4_mixInto_14 ?_
  refine lv_lload_n hx hb dX4_mixInto_17 rfl (lv_at hl 0 rfl) ?_
  refine lv_lmul hx hb dX4_mixInto_18 ?_
  refine lv_aload_n hx hb dX4_mixInto_19 rfl (lv_at hl 1 rfl) ?_
  refine va_get (D := G) (ci := 4) (v := .int t_slip) (C := RX4) (T := TX4) (N := 6) hx hb hts iwX4 hown hK hP 0 rfl rfl 1 (by decide) fl_13 (fun _ h9 => h9) rfl dX4_mixInto_20 ?_
  refine lv_i2l (v := Int32.toInt64 t_slip) hx hb dX4_mixInto_23 rfl ?_
  refine lv_ladd hx hb dX4_mixInto_24 ?_
  refine lv_topl (fun v2 ev2 => ?_)
  have hf := bv_at ev2 hf
  refine lv_lstore_n (lv' := [(3, .long v2), (0, .ref t_h), (1, .long x1)]) hx hb dX4_mixInto_25 rfl hl (by decide) rfl (fun ls hl => ?_)
  refine lv_ldc2 (v := 31) hx hb hown kc_28 dX4_mixInto_26 ?_
  refine lv_lload_n hx hb dX4_mixInto_29 rfl (lv_at hl 0 rfl) ?_
  refine lv_lmul hx hb dX4_mixInto_30 ?_
  refine lv_aload_n hx hb dX4_mixInto_31 rfl (lv_at hl 1 rfl) ?_
  refine va_get (D := G) (ci := 4) (v := .int t_low) (C := RX4) (T := TX4) (N := 6) hx hb hts iwX4 hown hK hP 0 rfl rfl 2 (by decide) fl_16 (fun _ h9 => h9) rfl dX4_mixInto_32 ?_
  refine lv_i2l (v := Int32.toInt64 t_low) hx hb dX4_mixInto_35 rfl ?_
  refine lv_ladd hx hb dX4_mixInto_36 ?_
  refine lv_topl (fun v3 ev3 => ?_)
  have hf := bv_at ev3 hf
  refine lv_lstore_n (lv' := [(3, .long v3), (0, .ref t_h), (1, .long x1)]) hx hb dX4_mixInto_37 rfl hl (by decide) rfl (fun ls hl => ?_)
  refine lv_ldc2 (v := 31) hx hb hown kc_28 dX4_mixInto_38 ?_
  refine lv_lload_n hx hb dX4_mixInto_41 rfl (lv_at hl 0 rfl) ?_
  refine lv_lmul hx hb dX4_mixInto_42 ?_
  refine lv_aload_n hx hb dX4_mixInto_43 rfl (lv_at hl 1 rfl) ?_
  refine va_get (D := G) (ci := 4) (v := .int t_high) (C := RX4) (T := TX4) (N := 6) hx hb hts iwX4 hown hK hP 0 rfl rfl 3 (by decide) fl_19 (fun _ h9 => h9) rfl dX4_mixInto_44 ?_
  refine lv_i2l (v := Int32.toInt64 t_high) hx hb dX4_mixInto_47 rfl ?_
  refine lv_ladd hx hb dX4_mixInto_48 ?_
  refine lv_topl (fun v4 ev4 => ?_)
  have hf := bv_at ev4 hf
  refine lv_lstore_n (lv' := [(3, .long v4), (0, .ref t_h), (1, .long x1)]) hx hb dX4_mixInto_49 rfl hl (by decide) rfl (fun ls hl => ?_)
  refine lv_ldc2 (v := 31) hx hb hown kc_28 dX4_mixInto_50 ?_
  refine lv_lload_n hx hb dX4_mixInto_53 rfl (lv_at hl 0 rfl) ?_
  refine lv_lmul hx hb dX4_mixInto_54 ?_
  refine lv_aload_n hx hb dX4_mixInto_55 rfl (lv_at hl 1 rfl) ?_
  refine va_get (D := G) (ci := 4) (v := .int t_unlike) (C := RX4) (T := TX4) (N := 6) hx hb hts iwX4 hown hK hP 0 rfl rfl 4 (by decide) fl_22 (fun _ h9 => h9) rfl dX4_mixInto_56 ?_
  refine lv_i2l (v := Int32.toInt64 t_unlike) hx hb dX4_mixInto_59 rfl ?_
  refine lv_ladd hx hb dX4_mixInto_60 ?_
  refine lv_topl (fun v5 ev5 => ?_)
  have hf := bv_at ev5 hf
  refine lv_lstore_n (lv' := [(3, .long v5), (0, .ref t_h), (1, .long x1)]) hx hb dX4_mixInto_61 rfl hl (by decide) rfl (fun ls hl => ?_)
  refine lv_ldc2 (v := 31) hx hb hown kc_28 dX4_mixInto_62 ?_
  refine lv_lload_n hx hb dX4_mixInto_65 rfl (lv_at hl 0 rfl) ?_
  refine lv_lmul hx hb dX4_mixInto_66 ?_
  refine lv_aload_n hx hb dX4_mixInto_67 rfl (lv_at hl 1 rfl) ?_
  refine va_get (D := G) (ci := 4) (v := .int t_alone) (C := RX4) (T := TX4) (N := 6) hx hb hts iwX4 hown hK hP 0 rfl rfl 5 (by decide) fl_25 (fun _ h9 => h9) rfl dX4_mixInto_68 ?_
  refine lv_i2l (v := Int32.toInt64 t_alone) hx hb dX4_mixInto_71 rfl ?_
  refine lv_ladd hx hb dX4_mixInto_72 ?_
  exact hret ((31 * v5) + (Int32.toInt64 t_alone)) 73 _ _ _ dX4_mixInto_73 hf hP hD hS
theorem dJ6_bitCount_0f7a4_0 : decode cJ6_bitCount_0f7a4 0 = .ok (.iload_n 0, 1) := by decide +kernel
theorem dJ6_bitCount_0f7a4_1 : decode cJ6_bitCount_0f7a4 1 = .ok (.iload_n 0, 1) := by decide +kernel
theorem dJ6_bitCount_0f7a4_2 : decode cJ6_bitCount_0f7a4 2 = .ok (.iconst 1, 1) := by decide +kernel
theorem dJ6_bitCount_0f7a4_3 : decode cJ6_bitCount_0f7a4 3 = .ok (.iushr, 1) := by decide +kernel
theorem dJ6_bitCount_0f7a4_4 : decode cJ6_bitCount_0f7a4 4 = .ok (.ldc_w 265, 3) := by decide +kernel
theorem dJ6_bitCount_0f7a4_7 : decode cJ6_bitCount_0f7a4 7 = .ok (.iand, 1) := by decide +kernel
theorem dJ6_bitCount_0f7a4_8 : decode cJ6_bitCount_0f7a4 8 = .ok (.isub, 1) := by decide +kernel
theorem dJ6_bitCount_0f7a4_9 : decode cJ6_bitCount_0f7a4 9 = .ok (.istore_n 0, 1) := by decide +kernel
theorem dJ6_bitCount_0f7a4_10 : decode cJ6_bitCount_0f7a4 10 = .ok (.iload_n 0, 1) := by decide +kernel
theorem dJ6_bitCount_0f7a4_11 : decode cJ6_bitCount_0f7a4 11 = .ok (.ldc_w 266, 3) := by decide +kernel
theorem dJ6_bitCount_0f7a4_14 : decode cJ6_bitCount_0f7a4 14 = .ok (.iand, 1) := by decide +kernel
theorem dJ6_bitCount_0f7a4_15 : decode cJ6_bitCount_0f7a4 15 = .ok (.iload_n 0, 1) := by decide +kernel
theorem dJ6_bitCount_0f7a4_16 : decode cJ6_bitCount_0f7a4 16 = .ok (.iconst 2, 1) := by decide +kernel
theorem dJ6_bitCount_0f7a4_17 : decode cJ6_bitCount_0f7a4 17 = .ok (.iushr, 1) := by decide +kernel
theorem dJ6_bitCount_0f7a4_18 : decode cJ6_bitCount_0f7a4 18 = .ok (.ldc_w 266, 3) := by decide +kernel
theorem dJ6_bitCount_0f7a4_21 : decode cJ6_bitCount_0f7a4 21 = .ok (.iand, 1) := by decide +kernel
theorem dJ6_bitCount_0f7a4_22 : decode cJ6_bitCount_0f7a4 22 = .ok (.iadd, 1) := by decide +kernel
theorem dJ6_bitCount_0f7a4_23 : decode cJ6_bitCount_0f7a4 23 = .ok (.istore_n 0, 1) := by decide +kernel
theorem dJ6_bitCount_0f7a4_24 : decode cJ6_bitCount_0f7a4 24 = .ok (.iload_n 0, 1) := by decide +kernel
theorem dJ6_bitCount_0f7a4_25 : decode cJ6_bitCount_0f7a4 25 = .ok (.iload_n 0, 1) := by decide +kernel
theorem dJ6_bitCount_0f7a4_26 : decode cJ6_bitCount_0f7a4 26 = .ok (.iconst 4, 1) := by decide +kernel
theorem dJ6_bitCount_0f7a4_27 : decode cJ6_bitCount_0f7a4 27 = .ok (.iushr, 1) := by decide +kernel
theorem dJ6_bitCount_0f7a4_28 : decode cJ6_bitCount_0f7a4 28 = .ok (.iadd, 1) := by decide +kernel
theorem dJ6_bitCount_0f7a4_29 : decode cJ6_bitCount_0f7a4 29 = .ok (.ldc_w 267, 3) := by decide +kernel
theorem dJ6_bitCount_0f7a4_32 : decode cJ6_bitCount_0f7a4 32 = .ok (.iand, 1) := by decide +kernel
theorem dJ6_bitCount_0f7a4_33 : decode cJ6_bitCount_0f7a4 33 = .ok (.istore_n 0, 1) := by decide +kernel
theorem dJ6_bitCount_0f7a4_34 : decode cJ6_bitCount_0f7a4 34 = .ok (.iload_n 0, 1) := by decide +kernel
theorem dJ6_bitCount_0f7a4_35 : decode cJ6_bitCount_0f7a4 35 = .ok (.iload_n 0, 1) := by decide +kernel
theorem dJ6_bitCount_0f7a4_36 : decode cJ6_bitCount_0f7a4 36 = .ok (.bipush 8, 2) := by decide +kernel
theorem dJ6_bitCount_0f7a4_38 : decode cJ6_bitCount_0f7a4 38 = .ok (.iushr, 1) := by decide +kernel
theorem dJ6_bitCount_0f7a4_39 : decode cJ6_bitCount_0f7a4 39 = .ok (.iadd, 1) := by decide +kernel
theorem dJ6_bitCount_0f7a4_40 : decode cJ6_bitCount_0f7a4 40 = .ok (.istore_n 0, 1) := by decide +kernel
theorem dJ6_bitCount_0f7a4_41 : decode cJ6_bitCount_0f7a4 41 = .ok (.iload_n 0, 1) := by decide +kernel
theorem dJ6_bitCount_0f7a4_42 : decode cJ6_bitCount_0f7a4 42 = .ok (.iload_n 0, 1) := by decide +kernel
theorem dJ6_bitCount_0f7a4_43 : decode cJ6_bitCount_0f7a4 43 = .ok (.bipush 16, 2) := by decide +kernel
theorem dJ6_bitCount_0f7a4_45 : decode cJ6_bitCount_0f7a4 45 = .ok (.iushr, 1) := by decide +kernel
theorem dJ6_bitCount_0f7a4_46 : decode cJ6_bitCount_0f7a4 46 = .ok (.iadd, 1) := by decide +kernel
theorem dJ6_bitCount_0f7a4_47 : decode cJ6_bitCount_0f7a4 47 = .ok (.istore_n 0, 1) := by decide +kernel
theorem dJ6_bitCount_0f7a4_48 : decode cJ6_bitCount_0f7a4 48 = .ok (.iload_n 0, 1) := by decide +kernel
theorem dJ6_bitCount_0f7a4_49 : decode cJ6_bitCount_0f7a4 49 = .ok (.bipush 63, 2) := by decide +kernel
theorem dJ6_bitCount_0f7a4_51 : decode cJ6_bitCount_0f7a4 51 = .ok (.iand, 1) := by decide +kernel
theorem dJ6_bitCount_0f7a4_52 : decode cJ6_bitCount_0f7a4 52 = .ok (.ireturn, 1) := by decide +kernel
set_option maxRecDepth 100000 in
def fJ6_bitCount_0f7a4 (x0 : Int32) : Option (Int32) :=
  bv (x0 - (((Int32.toUInt32 x0 >>> (Int32.toUInt32 1 &&& Int32.toUInt32 31)).toInt32) &&& 1431655765)) fun v1 =>
  bv ((v1 &&& 858993459) + (((Int32.toUInt32 v1 >>> (Int32.toUInt32 2 &&& Int32.toUInt32 31)).toInt32) &&& 858993459)) fun v2 =>
  bv ((v2 + ((Int32.toUInt32 v2 >>> (Int32.toUInt32 4 &&& Int32.toUInt32 31)).toInt32)) &&& 252645135) fun v3 =>
  bv (v3 + ((Int32.toUInt32 v3 >>> (Int32.toUInt32 8 &&& Int32.toUInt32 31)).toInt32)) fun v4 =>
  bv (v4 + ((Int32.toUInt32 v4 >>> (Int32.toUInt32 16 &&& Int32.toUInt32 31)).toInt32)) fun v5 =>
  some (v5 &&& 63)
abbrev rmJ6_bitCount_0f7a4 : Room := { frames := 0, cells := 0, slots := 0, locals := 0 }
set_option maxHeartbeats 4000000 in
set_option maxRecDepth 100000 in
theorem k_J6_bitCount_0f7a4 (l : Launch) (G : va_G) (cI cJ : ClassId) (sz : Nat) (x0 : Int32) {o_r : Int32} (hf : fJ6_bitCount_0f7a4 x0 = some o_r) : MetI l yJ6_bitCount_0f7a4 wsJ6_bitCount_0f7a4 rmJ6_bitCount_0f7a4 [.int x0] G cI cJ [] [] sz o_r := by
  refine en_0 (l := l) (y := yJ6_bitCount_0f7a4) (wsl := wsJ6_bitCount_0f7a4) (rm := rmJ6_bitCount_0f7a4) (av := [.int x0]) (G := G) (cI := cI) (cJ := cJ) (w0 := []) (sz := sz) (Qf := fun A => Qi0 G cI cJ [] o_r A) (cc := cJ6_bitCount_0f7a4) (maxL := 1) (ret := (some .int)) RJ6 (by decide +kernel) rfl rfl (Nat.le_of_ble_eq_true rfl) ?_
  intro p e s m args below meth c A ls Q hQ hx hb hr hts hown hlocks hml hN hK hP hD hS hA hl
  have hl : lv_has ls 1 [(0, .int x0)] := hl
  have kc_265 := hts (.constant RJ6 265 (1431655765)) (by decide +kernel)
  have kc_266 := hts (.constant RJ6 266 (858993459)) (by decide +kernel)
  have kc_267 := hts (.constant RJ6 267 (252645135)) (by decide +kernel)
  have hret : ∀ (o_r9 : Int32) (pc : Nat) (H : Heap) (locs : List Loc) (ls : Array Slot), decode cJ6_bitCount_0f7a4 pc = .ok (.ireturn, 1) → some o_r9 = some o_r → va_P G vwCl [] H → va_D A [] → va_S A s.heap H locs → W p l e rmJ6_bitCount_0f7a4 s m args below meth c H locs 0 0 Q (F0 m pc ls [.int o_r9]) := by
    intro o_r9 pc H locs ls hdg he hP hD hS
    cases he
    subst hQ
    exact rt_i hx hb hr hlocks hK hP hD hS rfl hdg
  clear hQ
  unfold fJ6_bitCount_0f7a4 at hf
  refine lv_iload_n hx hb dJ6_bitCount_0f7a4_0 rfl (lv_at hl 0 rfl) ?_
  refine lv_iload_n hx hb dJ6_bitCount_0f7a4_1 rfl (lv_at hl 0 rfl) ?_
  refine lv_iconst (v := 1) hx hb dJ6_bitCount_0f7a4_2 (by decide) ?_
  refine lv_iushr (v := (Int32.toUInt32 x0 >>> (Int32.toUInt32 1 &&& Int32.toUInt32 31)).toInt32) hx hb dJ6_bitCount_0f7a4_3 rfl ?_
  refine lv_ldcw (v := 1431655765) hx hb hown kc_265 dJ6_bitCount_0f7a4_4 ?_
  refine lv_iand hx hb dJ6_bitCount_0f7a4_7 ?_
  refine lv_isub hx hb dJ6_bitCount_0f7a4_8 ?_
  refine lv_topi (fun v1 ev1 => ?_)
  have hf := bv_at ev1 hf
  refine lv_istore_n (lv' := [(0, .int v1)]) hx hb dJ6_bitCount_0f7a4_9 rfl hl (by decide) rfl (fun ls hl => ?_)
  refine lv_iload_n hx hb dJ6_bitCount_0f7a4_10 rfl (lv_at hl 0 rfl) ?_
  refine lv_ldcw (v := 858993459) hx hb hown kc_266 dJ6_bitCount_0f7a4_11 ?_
  refine lv_iand hx hb dJ6_bitCount_0f7a4_14 ?_
  refine lv_iload_n hx hb dJ6_bitCount_0f7a4_15 rfl (lv_at hl 0 rfl) ?_
  refine lv_iconst (v := 2) hx hb dJ6_bitCount_0f7a4_16 (by decide) ?_
  refine lv_iushr (v := (Int32.toUInt32 v1 >>> (Int32.toUInt32 2 &&& Int32.toUInt32 31)).toInt32) hx hb dJ6_bitCount_0f7a4_17 rfl ?_
  refine lv_ldcw (v := 858993459) hx hb hown kc_266 dJ6_bitCount_0f7a4_18 ?_
  refine lv_iand hx hb dJ6_bitCount_0f7a4_21 ?_
  refine lv_iadd hx hb dJ6_bitCount_0f7a4_22 ?_
  refine lv_topi (fun v2 ev2 => ?_)
  have hf := bv_at ev2 hf
  refine lv_istore_n (lv' := [(0, .int v2)]) hx hb dJ6_bitCount_0f7a4_23 rfl hl (by decide) rfl (fun ls hl => ?_)
  refine lv_iload_n hx hb dJ6_bitCount_0f7a4_24 rfl (lv_at hl 0 rfl) ?_
  refine lv_iload_n hx hb dJ6_bitCount_0f7a4_25 rfl (lv_at hl 0 rfl) ?_
  refine lv_iconst (v := 4) hx hb dJ6_bitCount_0f7a4_26 (by decide) ?_
  refine lv_iushr (v := (Int32.toUInt32 v2 >>> (Int32.toUInt32 4 &&& Int32.toUInt32 31)).toInt32) hx hb dJ6_bitCount_0f7a4_27 rfl ?_
  refine lv_iadd hx hb dJ6_bitCount_0f7a4_28 ?_
  refine lv_ldcw (v := 252645135) hx hb hown kc_267 dJ6_bitCount_0f7a4_29 ?_
  refine lv_iand hx hb dJ6_bitCount_0f7a4_32 ?_
  refine lv_topi (fun v3 ev3 => ?_)
  have hf := bv_at ev3 hf
  refine lv_istore_n (lv' := [(0, .int v3)]) hx hb dJ6_bitCount_0f7a4_33 rfl hl (by decide) rfl (fun ls hl => ?_)
  refine lv_iload_n hx hb dJ6_bitCount_0f7a4_34 rfl (lv_at hl 0 rfl) ?_
  refine lv_iload_n hx hb dJ6_bitCount_0f7a4_35 rfl (lv_at hl 0 rfl) ?_
  refine lv_bipush (v := 8) hx hb dJ6_bitCount_0f7a4_36 (by decide) ?_
  refine lv_iushr (v := (Int32.toUInt32 v3 >>> (Int32.toUInt32 8 &&& Int32.toUInt32 31)).toInt32) hx hb dJ6_bitCount_0f7a4_38 rfl ?_
  refine lv_iadd hx hb dJ6_bitCount_0f7a4_39 ?_
  refine lv_topi (fun v4 ev4 => ?_)
  have hf := bv_at ev4 hf
  refine lv_istore_n (lv' := [(0, .int v4)]) hx hb dJ6_bitCount_0f7a4_40 rfl hl (by decide) rfl (fun ls hl => ?_)
  refine lv_iload_n hx hb dJ6_bitCount_0f7a4_41 rfl (lv_at hl 0 rfl) ?_
  refine lv_iload_n hx hb dJ6_bitCount_0f7a4_42 rfl (lv_at hl 0 rfl) ?_
  refine lv_bipush (v := 16) hx hb dJ6_bitCount_0f7a4_43 (by decide) ?_
  refine lv_iushr (v := (Int32.toUInt32 v4 >>> (Int32.toUInt32 16 &&& Int32.toUInt32 31)).toInt32) hx hb dJ6_bitCount_0f7a4_45 rfl ?_
  refine lv_iadd hx hb dJ6_bitCount_0f7a4_46 ?_
  refine lv_topi (fun v5 ev5 => ?_)
  have hf := bv_at ev5 hf
  refine lv_istore_n (lv' := [(0, .int v5)]) hx hb dJ6_bitCount_0f7a4_47 rfl hl (by decide) rfl (fun ls hl => ?_)
  refine lv_iload_n hx hb dJ6_bitCount_0f7a4_48 rfl (lv_at hl 0 rfl) ?_
  refine lv_bipush (v := 63) hx hb dJ6_bitCount_0f7a4_49 (by decide) ?_
  refine lv_iand hx hb dJ6_bitCount_0f7a4_51 ?_
  exact hret (v5 &&& 63) 52 _ _ _ dJ6_bitCount_0f7a4_52 hf hP hD hS
theorem dX9_isWithin_0 : decode cX9_isWithin 0 = .ok (.iload_n 0, 1) := by decide +kernel
theorem dX9_isWithin_1 : decode cX9_isWithin 1 = .ok (.iload_n 1, 1) := by decide +kernel
theorem dX9_isWithin_2 : decode cX9_isWithin 2 = .ok (.if_icmp .lt 12, 3) := by decide +kernel
theorem dX9_isWithin_5 : decode cX9_isWithin 5 = .ok (.iload_n 0, 1) := by decide +kernel
theorem dX9_isWithin_6 : decode cX9_isWithin 6 = .ok (.iload_n 2, 1) := by decide +kernel
theorem dX9_isWithin_7 : decode cX9_isWithin 7 = .ok (.if_icmp .gt 7, 3) := by decide +kernel
theorem dX9_isWithin_10 : decode cX9_isWithin 10 = .ok (.iconst 1, 1) := by decide +kernel
theorem dX9_isWithin_11 : decode cX9_isWithin 11 = .ok (.goto 4, 3) := by decide +kernel
theorem dX9_isWithin_14 : decode cX9_isWithin 14 = .ok (.iconst 0, 1) := by decide +kernel
theorem dX9_isWithin_15 : decode cX9_isWithin 15 = .ok (.ireturn, 1) := by decide +kernel
set_option maxRecDepth 100000 in
def fX9_isWithin (x0 : Int32) (x1 : Int32) (x2 : Int32) : Option (Bool) :=
  if x0 < x1 then
    some false
  else
    if x2 < x0 then
      some false
    else
      some true
abbrev rmX9_isWithin : Room := { frames := 0, cells := 0, slots := 0, locals := 0 }
set_option maxHeartbeats 4000000 in
set_option maxRecDepth 100000 in
theorem k_X9_isWithin (l : Launch) (G : va_G) (cI cJ : ClassId) (sz : Nat) (x0 : Int32) (x1 : Int32) (x2 : Int32) {o_r : Bool} (hf : fX9_isWithin x0 x1 x2 = some o_r) : MetI l yX9_isWithin wsX9_isWithin rmX9_isWithin [.int x0, .int x1, .int x2] G cI cJ [] [] sz (b2i o_r) := by
  refine en_0 (l := l) (y := yX9_isWithin) (wsl := wsX9_isWithin) (rm := rmX9_isWithin) (av := [.int x0, .int x1, .int x2]) (G := G) (cI := cI) (cJ := cJ) (w0 := []) (sz := sz) (Qf := fun A => Qi0 G cI cJ [] (b2i o_r) A) (cc := cX9_isWithin) (maxL := 3) (ret := (some .boolean)) RX9 (by decide +kernel) rfl rfl (Nat.le_of_ble_eq_true rfl) ?_
  intro p e s m args below meth c A ls Q hQ hx hb hr hts hown hlocks hml hN hK hP hD hS hA hl
  have hl : lv_has ls 3 [(0, .int x0), (1, .int x1), (2, .int x2)] := hl
  have hret : ∀ (o_r9 : Bool) (pc : Nat) (H : Heap) (locs : List Loc) (ls : Array Slot), decode cX9_isWithin pc = .ok (.ireturn, 1) → some o_r9 = some o_r → va_P G vwCl [] H → va_D A [] → va_S A s.heap H locs → W p l e rmX9_isWithin s m args below meth c H locs 0 0 Q (F0 m pc ls [.int (b2i o_r9)]) := by
    intro o_r9 pc H locs ls hdg he hP hD hS
    cases he
    subst hQ
    exact rt_z hx hb hr hlocks hK hP hD hS (b2i_narrow _) rfl hdg
  clear hQ
  unfold fX9_isWithin at hf
  refine lv_iload_n hx hb dX9_isWithin_0 rfl (lv_at hl 0 rfl) ?_
  refine lv_iload_n hx hb dX9_isWithin_1 rfl (lv_at hl 1 rfl) ?_
  refine lv_icmp_lt (tgt := 14) hx hb dX9_isWithin_2 (by decide) (fun c1 => ?_) (fun c1 => ?_)
  · have hf := ift hf c1
    refine lv_iconst (v := 0) hx hb dX9_isWithin_14 (by decide) ?_
    exact hret false 15 _ _ _ dX9_isWithin_15 hf hP hD hS
  · have hf := iff_ hf c1
    refine lv_iload_n hx hb dX9_isWithin_5 rfl (lv_at hl 0 rfl) ?_
    refine lv_iload_n hx hb dX9_isWithin_6 rfl (lv_at hl 2 rfl) ?_
    refine lv_icmp_gt (tgt := 14) hx hb dX9_isWithin_7 (by decide) (fun c2 => ?_) (fun c2 => ?_)
    · have hf := ift hf c2
      refine lv_iconst (v := 0) hx hb dX9_isWithin_14 (by decide) ?_
      exact hret false 15 _ _ _ dX9_isWithin_15 hf hP hD hS
    · have hf := iff_ hf c2
      refine lv_iconst (v := 1) hx hb dX9_isWithin_10 (by decide) ?_
      refine lv_goto (tgt := 15) hx hb dX9_isWithin_11 (by decide) ?_
      exact hret true 15 _ _ _ dX9_isWithin_15 hf hP hD hS
set_option maxRecDepth 20000 in
theorem ggX9_isLean_X9_isWithin : GoodIn wsX9_isLean wsX9_isWithin := goodIn_r _ [4] (by decide +kernel) (by decide +kernel)
set_option maxRecDepth 20000 in
theorem gX9_isLean_X9_isWithin : GoodIn wsX9_isLean (va_wsS RX9 105 yX9_isWithin wsX9_isWithin) := goodIn_app (goodIn_of _ (by decide +kernel)) ggX9_isLean_X9_isWithin
theorem dX9_isLean_0 : decode cX9_isLean 0 = .ok (.iload_n 0, 1) := by decide +kernel
theorem dX9_isLean_1 : decode cX9_isLean 1 = .ok (.sipush (-20000), 3) := by decide +kernel
theorem dX9_isLean_4 : decode cX9_isLean 4 = .ok (.sipush 20000, 3) := by decide +kernel
theorem dX9_isLean_7 : decode cX9_isLean 7 = .ok (.invokestatic 105, 3) := by decide +kernel
theorem dX9_isLean_10 : decode cX9_isLean 10 = .ok (.ireturn, 1) := by decide +kernel
set_option maxRecDepth 100000 in
def fX9_isLean (x0 : Int32) : Option (Bool) :=
  ob (fX9_isWithin x0 (-20000) 20000) fun r1 =>
  some r1
abbrev rmX9_isLean : Room := { frames := 1, cells := 0, slots := 0, locals := 22 }
set_option maxHeartbeats 4000000 in
set_option maxRecDepth 100000 in
theorem k_X9_isLean (l : Launch) (G : va_G) (cI cJ : ClassId) (sz : Nat) (x0 : Int32) {o_r : Bool} (hf : fX9_isLean x0 = some o_r) : MetI l yX9_isLean wsX9_isLean rmX9_isLean [.int x0] G cI cJ [] [] sz (b2i o_r) := by
  refine en_0 (l := l) (y := yX9_isLean) (wsl := wsX9_isLean) (rm := rmX9_isLean) (av := [.int x0]) (G := G) (cI := cI) (cJ := cJ) (w0 := []) (sz := sz) (Qf := fun A => Qi0 G cI cJ [] (b2i o_r) A) (cc := cX9_isLean) (maxL := 1) (ret := (some .boolean)) RX9 (by decide +kernel) rfl rfl (Nat.le_of_ble_eq_true rfl) ?_
  intro p e s m args below meth c A ls Q hQ hx hb hr hts hown hlocks hml hN hK hP hD hS hA hl
  have hl : lv_has ls 1 [(0, .int x0)] := hl
  have hret : ∀ (o_r9 : Bool) (pc : Nat) (H : Heap) (locs : List Loc) (ls : Array Slot), decode cX9_isLean pc = .ok (.ireturn, 1) → some o_r9 = some o_r → va_P G vwCl [] H → va_D A [] → va_S A s.heap H locs → W p l e rmX9_isLean s m args below meth c H locs 0 0 Q (F0 m pc ls [.int (b2i o_r9)]) := by
    intro o_r9 pc H locs ls hdg he hP hD hS
    cases he
    subst hQ
    exact rt_z hx hb hr hlocks hK hP hD hS (b2i_narrow _) rfl hdg
  clear hQ
  unfold fX9_isLean at hf
  refine lv_iload_n hx hb dX9_isLean_0 rfl (lv_at hl 0 rfl) ?_
  refine lv_sipush (v := (-20000)) hx hb dX9_isLean_1 (by decide) ?_
  refine lv_sipush (v := 20000) hx hb dX9_isLean_4 (by decide) ?_
  obtain ⟨r1, hc2, hf⟩ := ob_some hf
  refine af_iR (va_runS (As := [.int x0, .int (-20000), .int 20000]) (rest := []) ⟨hx, hb, hml, hown, hts⟩ (k_X9_isWithin l G cI cJ (x0 := x0) (x1 := (-20000)) (x2 := 20000) (sz := _) (hf := hc2)) (va_cwS 3 hts gX9_isLean_X9_isWithin rfl rfl rfl (by decide +kernel) ⟨Nat.le_of_ble_eq_true rfl, Nat.le_of_ble_eq_true rfl⟩) (preS0 (wc := []) hK hP hD hN [] rfl rfl (by decide)) rfl rfl hl.1 rfl (lv_room (Nat.le_of_ble_eq_true rfl)) dX9_isLean_7 ⟨Nat.zero_le _, Nat.zero_le _⟩) hP hD hS hA [] rfl (fun H locs hP hS => ?_)
  exact hret r1 10 _ _ _ dX9_isLean_10 hf hP hD hS
set_option maxRecDepth 20000 in
theorem ggX9_isForm_X9_isWithin : GoodIn wsX9_isForm wsX9_isWithin := goodIn_r _ [4] (by decide +kernel) (by decide +kernel)
set_option maxRecDepth 20000 in
theorem gX9_isForm_X9_isWithin : GoodIn wsX9_isForm (va_wsS RX9 105 yX9_isWithin wsX9_isWithin) := goodIn_app (goodIn_of _ (by decide +kernel)) ggX9_isForm_X9_isWithin
theorem dX9_isForm_0 : decode cX9_isForm 0 = .ok (.iload_n 0, 1) := by decide +kernel
theorem dX9_isForm_1 : decode cX9_isForm 1 = .ok (.iconst 0, 1) := by decide +kernel
theorem dX9_isForm_2 : decode cX9_isForm 2 = .ok (.bipush 7, 2) := by decide +kernel
theorem dX9_isForm_4 : decode cX9_isForm 4 = .ok (.invokestatic 105, 3) := by decide +kernel
theorem dX9_isForm_7 : decode cX9_isForm 7 = .ok (.ireturn, 1) := by decide +kernel
set_option maxRecDepth 100000 in
def fX9_isForm (x0 : Int32) : Option (Bool) :=
  ob (fX9_isWithin x0 0 7) fun r1 =>
  some r1
abbrev rmX9_isForm : Room := { frames := 1, cells := 0, slots := 0, locals := 22 }
set_option maxHeartbeats 4000000 in
set_option maxRecDepth 100000 in
theorem k_X9_isForm (l : Launch) (G : va_G) (cI cJ : ClassId) (sz : Nat) (x0 : Int32) {o_r : Bool} (hf : fX9_isForm x0 = some o_r) : MetI l yX9_isForm wsX9_isForm rmX9_isForm [.int x0] G cI cJ [] [] sz (b2i o_r) := by
  refine en_0 (l := l) (y := yX9_isForm) (wsl := wsX9_isForm) (rm := rmX9_isForm) (av := [.int x0]) (G := G) (cI := cI) (cJ := cJ) (w0 := []) (sz := sz) (Qf := fun A => Qi0 G cI cJ [] (b2i o_r) A) (cc := cX9_isForm) (maxL := 1) (ret := (some .boolean)) RX9 (by decide +kernel) rfl rfl (Nat.le_of_ble_eq_true rfl) ?_
  intro p e s m args below meth c A ls Q hQ hx hb hr hts hown hlocks hml hN hK hP hD hS hA hl
  have hl : lv_has ls 1 [(0, .int x0)] := hl
  have hret : ∀ (o_r9 : Bool) (pc : Nat) (H : Heap) (locs : List Loc) (ls : Array Slot), decode cX9_isForm pc = .ok (.ireturn, 1) → some o_r9 = some o_r → va_P G vwCl [] H → va_D A [] → va_S A s.heap H locs → W p l e rmX9_isForm s m args below meth c H locs 0 0 Q (F0 m pc ls [.int (b2i o_r9)]) := by
    intro o_r9 pc H locs ls hdg he hP hD hS
    cases he
    subst hQ
    exact rt_z hx hb hr hlocks hK hP hD hS (b2i_narrow _) rfl hdg
  clear hQ
  unfold fX9_isForm at hf
  refine lv_iload_n hx hb dX9_isForm_0 rfl (lv_at hl 0 rfl) ?_
  refine lv_iconst (v := 0) hx hb dX9_isForm_1 (by decide) ?_
  refine lv_bipush (v := 7) hx hb dX9_isForm_2 (by decide) ?_
  obtain ⟨r1, hc2, hf⟩ := ob_some hf
  refine af_iR (va_runS (As := [.int x0, .int 0, .int 7]) (rest := []) ⟨hx, hb, hml, hown, hts⟩ (k_X9_isWithin l G cI cJ (x0 := x0) (x1 := 0) (x2 := 7) (sz := _) (hf := hc2)) (va_cwS 3 hts gX9_isForm_X9_isWithin rfl rfl rfl (by decide +kernel) ⟨Nat.le_of_ble_eq_true rfl, Nat.le_of_ble_eq_true rfl⟩) (preS0 (wc := []) hK hP hD hN [] rfl rfl (by decide)) rfl rfl hl.1 rfl (lv_room (Nat.le_of_ble_eq_true rfl)) dX9_isForm_4 ⟨Nat.zero_le _, Nat.zero_le _⟩) hP hD hS hA [] rfl (fun H locs hP hS => ?_)
  exact hret r1 7 _ _ _ dX9_isForm_7 hf hP hD hS
set_option maxRecDepth 20000 in
theorem ggX9_isPuffAndMinute_X9_isWithin : GoodIn wsX9_isPuffAndMinute wsX9_isWithin := goodIn_r _ [4] (by decide +kernel) (by decide +kernel)
set_option maxRecDepth 20000 in
theorem gX9_isPuffAndMinute_X9_isWithin : GoodIn wsX9_isPuffAndMinute (va_wsS RX9 105 yX9_isWithin wsX9_isWithin) := goodIn_app (goodIn_of _ (by decide +kernel)) ggX9_isPuffAndMinute_X9_isWithin
theorem dX9_isPuffAndMinute_0 : decode cX9_isPuffAndMinute 0 = .ok (.iload_n 0, 1) := by decide +kernel
theorem dX9_isPuffAndMinute_1 : decode cX9_isPuffAndMinute 1 = .ok (.iconst 0, 1) := by decide +kernel
theorem dX9_isPuffAndMinute_2 : decode cX9_isPuffAndMinute 2 = .ok (.bipush 7, 2) := by decide +kernel
theorem dX9_isPuffAndMinute_4 : decode cX9_isPuffAndMinute 4 = .ok (.invokestatic 105, 3) := by decide +kernel
theorem dX9_isPuffAndMinute_7 : decode cX9_isPuffAndMinute 7 = .ok (.ifCond .eq 18, 3) := by decide +kernel
theorem dX9_isPuffAndMinute_10 : decode cX9_isPuffAndMinute 10 = .ok (.iload_n 1, 1) := by decide +kernel
theorem dX9_isPuffAndMinute_11 : decode cX9_isPuffAndMinute 11 = .ok (.iconst 0, 1) := by decide +kernel
theorem dX9_isPuffAndMinute_12 : decode cX9_isPuffAndMinute 12 = .ok (.sipush 1439, 3) := by decide +kernel
theorem dX9_isPuffAndMinute_15 : decode cX9_isPuffAndMinute 15 = .ok (.invokestatic 105, 3) := by decide +kernel
theorem dX9_isPuffAndMinute_18 : decode cX9_isPuffAndMinute 18 = .ok (.ifCond .eq 7, 3) := by decide +kernel
theorem dX9_isPuffAndMinute_21 : decode cX9_isPuffAndMinute 21 = .ok (.iconst 1, 1) := by decide +kernel
theorem dX9_isPuffAndMinute_22 : decode cX9_isPuffAndMinute 22 = .ok (.goto 4, 3) := by decide +kernel
theorem dX9_isPuffAndMinute_25 : decode cX9_isPuffAndMinute 25 = .ok (.iconst 0, 1) := by decide +kernel
theorem dX9_isPuffAndMinute_26 : decode cX9_isPuffAndMinute 26 = .ok (.ireturn, 1) := by decide +kernel
set_option maxRecDepth 100000 in
def fX9_isPuffAndMinute (x0 : Int32) (x1 : Int32) : Option (Bool) :=
  ob (fX9_isWithin x0 0 7) fun r1 =>
  if (b2i r1) = 0 then
    some false
  else
    ob (fX9_isWithin x1 0 1439) fun r4 =>
    if (b2i r4) = 0 then
      some false
    else
      some true
abbrev rmX9_isPuffAndMinute : Room := { frames := 1, cells := 0, slots := 0, locals := 22 }
set_option maxHeartbeats 4000000 in
set_option maxRecDepth 100000 in
theorem k_X9_isPuffAndMinute (l : Launch) (G : va_G) (cI cJ : ClassId) (sz : Nat) (x0 : Int32) (x1 : Int32) {o_r : Bool} (hf : fX9_isPuffAndMinute x0 x1 = some o_r) : MetI l yX9_isPuffAndMinute wsX9_isPuffAndMinute rmX9_isPuffAndMinute [.int x0, .int x1] G cI cJ [] [] sz (b2i o_r) := by
  refine en_0 (l := l) (y := yX9_isPuffAndMinute) (wsl := wsX9_isPuffAndMinute) (rm := rmX9_isPuffAndMinute) (av := [.int x0, .int x1]) (G := G) (cI := cI) (cJ := cJ) (w0 := []) (sz := sz) (Qf := fun A => Qi0 G cI cJ [] (b2i o_r) A) (cc := cX9_isPuffAndMinute) (maxL := 2) (ret := (some .boolean)) RX9 (by decide +kernel) rfl rfl (Nat.le_of_ble_eq_true rfl) ?_
  intro p e s m args below meth c A ls Q hQ hx hb hr hts hown hlocks hml hN hK hP hD hS hA hl
  have hl : lv_has ls 2 [(0, .int x0), (1, .int x1)] := hl
  have hret : ∀ (o_r9 : Bool) (pc : Nat) (H : Heap) (locs : List Loc) (ls : Array Slot), decode cX9_isPuffAndMinute pc = .ok (.ireturn, 1) → some o_r9 = some o_r → va_P G vwCl [] H → va_D A [] → va_S A s.heap H locs → W p l e rmX9_isPuffAndMinute s m args below meth c H locs 0 0 Q (F0 m pc ls [.int (b2i o_r9)]) := by
    intro o_r9 pc H locs ls hdg he hP hD hS
    cases he
    subst hQ
    exact rt_z hx hb hr hlocks hK hP hD hS (b2i_narrow _) rfl hdg
  clear hQ
  unfold fX9_isPuffAndMinute at hf
  refine lv_iload_n hx hb dX9_isPuffAndMinute_0 rfl (lv_at hl 0 rfl) ?_
  refine lv_iconst (v := 0) hx hb dX9_isPuffAndMinute_1 (by decide) ?_
  refine lv_bipush (v := 7) hx hb dX9_isPuffAndMinute_2 (by decide) ?_
  obtain ⟨r1, hc2, hf⟩ := ob_some hf
  refine af_iR (va_runS (As := [.int x0, .int 0, .int 7]) (rest := []) ⟨hx, hb, hml, hown, hts⟩ (k_X9_isWithin l G cI cJ (x0 := x0) (x1 := 0) (x2 := 7) (sz := _) (hf := hc2)) (va_cwS 3 hts gX9_isPuffAndMinute_X9_isWithin rfl rfl rfl (by decide +kernel) ⟨Nat.le_of_ble_eq_true rfl, Nat.le_of_ble_eq_true rfl⟩) (preS0 (wc := []) hK hP hD hN [] rfl rfl (by decide)) rfl rfl hl.1 rfl (lv_room (Nat.le_of_ble_eq_true rfl)) dX9_isPuffAndMinute_4 ⟨Nat.zero_le _, Nat.zero_le _⟩) hP hD hS hA [] rfl (fun H locs hP hS => ?_)
  refine lv_if_eq (tgt := 25) hx hb dX9_isPuffAndMinute_7 (by decide) (fun c3 => ?_) (fun c3 => ?_)
  · have hf := ift hf c3
    refine lv_iconst (v := 0) hx hb dX9_isPuffAndMinute_25 (by decide) ?_
    exact hret false 26 _ _ _ dX9_isPuffAndMinute_26 hf hP hD hS
  · have hf := iff_ hf c3
    refine lv_iload_n hx hb dX9_isPuffAndMinute_10 rfl (lv_at hl 1 rfl) ?_
    refine lv_iconst (v := 0) hx hb dX9_isPuffAndMinute_11 (by decide) ?_
    refine lv_sipush (v := 1439) hx hb dX9_isPuffAndMinute_12 (by decide) ?_
    obtain ⟨r4, hc5, hf⟩ := ob_some hf
    refine af_iR (va_runS (As := [.int x1, .int 0, .int 1439]) (rest := []) ⟨hx, hb, hml, hown, hts⟩ (k_X9_isWithin l G cI cJ (x0 := x1) (x1 := 0) (x2 := 1439) (sz := _) (hf := hc5)) (va_cwS 3 hts gX9_isPuffAndMinute_X9_isWithin rfl rfl rfl (by decide +kernel) ⟨Nat.le_of_ble_eq_true rfl, Nat.le_of_ble_eq_true rfl⟩) (preS0 (wc := []) hK hP hD hN [] rfl rfl (by decide)) rfl rfl hl.1 rfl (lv_room (Nat.le_of_ble_eq_true rfl)) dX9_isPuffAndMinute_15 ⟨Nat.zero_le _, Nat.zero_le _⟩) hP hD hS hA [] rfl (fun H locs hP hS => ?_)
    refine lv_if_eq (tgt := 25) hx hb dX9_isPuffAndMinute_18 (by decide) (fun c6 => ?_) (fun c6 => ?_)
    · have hf := ift hf c6
      refine lv_iconst (v := 0) hx hb dX9_isPuffAndMinute_25 (by decide) ?_
      exact hret false 26 _ _ _ dX9_isPuffAndMinute_26 hf hP hD hS
    · have hf := iff_ hf c6
      refine lv_iconst (v := 1) hx hb dX9_isPuffAndMinute_21 (by decide) ?_
      refine lv_goto (tgt := 26) hx hb dX9_isPuffAndMinute_22 (by decide) ?_
      exact hret true 26 _ _ _ dX9_isPuffAndMinute_26 hf hP hD hS
set_option maxRecDepth 20000 in
theorem ggX9_isFormHourWind_X9_isForm : GoodIn wsX9_isFormHourWind wsX9_isForm := goodIn_r _ [4, 5, 6, 3, 7] (by decide +kernel) (by decide +kernel)
set_option maxRecDepth 20000 in
theorem gX9_isFormHourWind_X9_isForm : GoodIn wsX9_isFormHourWind (va_wsS RX9 248 yX9_isForm wsX9_isForm) := goodIn_app (goodIn_of _ (by decide +kernel)) ggX9_isFormHourWind_X9_isForm
set_option maxRecDepth 20000 in
theorem ggX9_isFormHourWind_X9_isWithin : GoodIn wsX9_isFormHourWind wsX9_isWithin := goodIn_r _ [7] (by decide +kernel) (by decide +kernel)
set_option maxRecDepth 20000 in
theorem gX9_isFormHourWind_X9_isWithin : GoodIn wsX9_isFormHourWind (va_wsS RX9 105 yX9_isWithin wsX9_isWithin) := goodIn_app (goodIn_of _ (by decide +kernel)) ggX9_isFormHourWind_X9_isWithin
theorem dX9_isFormHourWind_0 : decode cX9_isFormHourWind 0 = .ok (.iload_n 0, 1) := by decide +kernel
theorem dX9_isFormHourWind_1 : decode cX9_isFormHourWind 1 = .ok (.invokestatic 248, 3) := by decide +kernel
theorem dX9_isFormHourWind_4 : decode cX9_isFormHourWind 4 = .ok (.ifCond .eq 27, 3) := by decide +kernel
theorem dX9_isFormHourWind_7 : decode cX9_isFormHourWind 7 = .ok (.iload_n 1, 1) := by decide +kernel
theorem dX9_isFormHourWind_8 : decode cX9_isFormHourWind 8 = .ok (.iconst 0, 1) := by decide +kernel
theorem dX9_isFormHourWind_9 : decode cX9_isFormHourWind 9 = .ok (.bipush 23, 2) := by decide +kernel
theorem dX9_isFormHourWind_11 : decode cX9_isFormHourWind 11 = .ok (.invokestatic 105, 3) := by decide +kernel
theorem dX9_isFormHourWind_14 : decode cX9_isFormHourWind 14 = .ok (.ifCond .eq 17, 3) := by decide +kernel
theorem dX9_isFormHourWind_17 : decode cX9_isFormHourWind 17 = .ok (.iload_n 2, 1) := by decide +kernel
theorem dX9_isFormHourWind_18 : decode cX9_isFormHourWind 18 = .ok (.iconst 0, 1) := by decide +kernel
theorem dX9_isFormHourWind_19 : decode cX9_isFormHourWind 19 = .ok (.bipush 7, 2) := by decide +kernel
theorem dX9_isFormHourWind_21 : decode cX9_isFormHourWind 21 = .ok (.invokestatic 105, 3) := by decide +kernel
theorem dX9_isFormHourWind_24 : decode cX9_isFormHourWind 24 = .ok (.ifCond .eq 7, 3) := by decide +kernel
theorem dX9_isFormHourWind_27 : decode cX9_isFormHourWind 27 = .ok (.iconst 1, 1) := by decide +kernel
theorem dX9_isFormHourWind_28 : decode cX9_isFormHourWind 28 = .ok (.goto 4, 3) := by decide +kernel
theorem dX9_isFormHourWind_31 : decode cX9_isFormHourWind 31 = .ok (.iconst 0, 1) := by decide +kernel
theorem dX9_isFormHourWind_32 : decode cX9_isFormHourWind 32 = .ok (.ireturn, 1) := by decide +kernel
set_option maxRecDepth 100000 in
def fX9_isFormHourWind (x0 : Int32) (x1 : Int32) (x2 : Int32) : Option (Bool) :=
  ob (fX9_isForm x0) fun r1 =>
  if (b2i r1) = 0 then
    some false
  else
    ob (fX9_isWithin x1 0 23) fun r4 =>
    if (b2i r4) = 0 then
      some false
    else
      ob (fX9_isWithin x2 0 7) fun r7 =>
      if (b2i r7) = 0 then
        some false
      else
        some true
abbrev rmX9_isFormHourWind : Room := { frames := 2, cells := 0, slots := 0, locals := 42 }
set_option maxHeartbeats 4000000 in
set_option maxRecDepth 100000 in
theorem k_X9_isFormHourWind (l : Launch) (G : va_G) (cI cJ : ClassId) (sz : Nat) (x0 : Int32) (x1 : Int32) (x2 : Int32) {o_r : Bool} (hf : fX9_isFormHourWind x0 x1 x2 = some o_r) : MetI l yX9_isFormHourWind wsX9_isFormHourWind rmX9_isFormHourWind [.int x0, .int x1, .int x2] G cI cJ [] [] sz (b2i o_r) := by
  refine en_0 (l := l) (y := yX9_isFormHourWind) (wsl := wsX9_isFormHourWind) (rm := rmX9_isFormHourWind) (av := [.int x0, .int x1, .int x2]) (G := G) (cI := cI) (cJ := cJ) (w0 := []) (sz := sz) (Qf := fun A => Qi0 G cI cJ [] (b2i o_r) A) (cc := cX9_isFormHourWind) (maxL := 3) (ret := (some .boolean)) RX9 (by decide +kernel) rfl rfl (Nat.le_of_ble_eq_true rfl) ?_
  intro p e s m args below meth c A ls Q hQ hx hb hr hts hown hlocks hml hN hK hP hD hS hA hl
  have hl : lv_has ls 3 [(0, .int x0), (1, .int x1), (2, .int x2)] := hl
  have hret : ∀ (o_r9 : Bool) (pc : Nat) (H : Heap) (locs : List Loc) (ls : Array Slot), decode cX9_isFormHourWind pc = .ok (.ireturn, 1) → some o_r9 = some o_r → va_P G vwCl [] H → va_D A [] → va_S A s.heap H locs → W p l e rmX9_isFormHourWind s m args below meth c H locs 0 0 Q (F0 m pc ls [.int (b2i o_r9)]) := by
    intro o_r9 pc H locs ls hdg he hP hD hS
    cases he
    subst hQ
    exact rt_z hx hb hr hlocks hK hP hD hS (b2i_narrow _) rfl hdg
  clear hQ
  unfold fX9_isFormHourWind at hf
  refine lv_iload_n hx hb dX9_isFormHourWind_0 rfl (lv_at hl 0 rfl) ?_
  obtain ⟨r1, hc2, hf⟩ := ob_some hf
  refine af_iR (va_runS (As := [.int x0]) (rest := []) ⟨hx, hb, hml, hown, hts⟩ (k_X9_isForm l G cI cJ (x0 := x0) (sz := _) (hf := hc2)) (va_cwS 1 hts gX9_isFormHourWind_X9_isForm rfl rfl rfl (by decide +kernel) ⟨Nat.le_of_ble_eq_true rfl, Nat.le_of_ble_eq_true rfl⟩) (preS0 (wc := []) hK hP hD hN [] rfl rfl (by decide)) rfl rfl hl.1 rfl (lv_room (Nat.le_of_ble_eq_true rfl)) dX9_isFormHourWind_1 ⟨Nat.zero_le _, Nat.zero_le _⟩) hP hD hS hA [] rfl (fun H locs hP hS => ?_)
  refine lv_if_eq (tgt := 31) hx hb dX9_isFormHourWind_4 (by decide) (fun c3 => ?_) (fun c3 => ?_)
  · have hf := ift hf c3
    refine lv_iconst (v := 0) hx hb dX9_isFormHourWind_31 (by decide) ?_
    exact hret false 32 _ _ _ dX9_isFormHourWind_32 hf hP hD hS
  · have hf := iff_ hf c3
    refine lv_iload_n hx hb dX9_isFormHourWind_7 rfl (lv_at hl 1 rfl) ?_
    refine lv_iconst (v := 0) hx hb dX9_isFormHourWind_8 (by decide) ?_
    refine lv_bipush (v := 23) hx hb dX9_isFormHourWind_9 (by decide) ?_
    obtain ⟨r4, hc5, hf⟩ := ob_some hf
    refine af_iR (va_runS (As := [.int x1, .int 0, .int 23]) (rest := []) ⟨hx, hb, hml, hown, hts⟩ (k_X9_isWithin l G cI cJ (x0 := x1) (x1 := 0) (x2 := 23) (sz := _) (hf := hc5)) (va_cwS 3 hts gX9_isFormHourWind_X9_isWithin rfl rfl rfl (by decide +kernel) ⟨Nat.le_of_ble_eq_true rfl, Nat.le_of_ble_eq_true rfl⟩) (preS0 (wc := []) hK hP hD hN [] rfl rfl (by decide)) rfl rfl hl.1 rfl (lv_room (Nat.le_of_ble_eq_true rfl)) dX9_isFormHourWind_11 ⟨Nat.zero_le _, Nat.zero_le _⟩) hP hD hS hA [] rfl (fun H locs hP hS => ?_)
    refine lv_if_eq (tgt := 31) hx hb dX9_isFormHourWind_14 (by decide) (fun c6 => ?_) (fun c6 => ?_)
    · have hf := ift hf c6
      refine lv_iconst (v := 0) hx hb dX9_isFormHourWind_31 (by decide) ?_
      exact hret false 32 _ _ _ dX9_isFormHourWind_32 hf hP hD hS
    · have hf := iff_ hf c6
      refine lv_iload_n hx hb dX9_isFormHourWind_17 rfl (lv_at hl 2 rfl) ?_
      refine lv_iconst (v := 0) hx hb dX9_isFormHourWind_18 (by decide) ?_
      refine lv_bipush (v := 7) hx hb dX9_isFormHourWind_19 (by decide) ?_
      obtain ⟨r7, hc8, hf⟩ := ob_some hf
      refine af_iR (va_runS (As := [.int x2, .int 0, .int 7]) (rest := []) ⟨hx, hb, hml, hown, hts⟩ (k_X9_isWithin l G cI cJ (x0 := x2) (x1 := 0) (x2 := 7) (sz := _) (hf := hc8)) (va_cwS 3 hts gX9_isFormHourWind_X9_isWithin rfl rfl rfl (by decide +kernel) ⟨Nat.le_of_ble_eq_true rfl, Nat.le_of_ble_eq_true rfl⟩) (preS0 (wc := []) hK hP hD hN [] rfl rfl (by decide)) rfl rfl hl.1 rfl (lv_room (Nat.le_of_ble_eq_true rfl)) dX9_isFormHourWind_21 ⟨Nat.zero_le _, Nat.zero_le _⟩) hP hD hS hA [] rfl (fun H locs hP hS => ?_)
      refine lv_if_eq (tgt := 31) hx hb dX9_isFormHourWind_24 (by decide) (fun c9 => ?_) (fun c9 => ?_)
      · have hf := ift hf c9
        refine lv_iconst (v := 0) hx hb dX9_isFormHourWind_31 (by decide) ?_
        exact hret false 32 _ _ _ dX9_isFormHourWind_32 hf hP hD hS
      · have hf := iff_ hf c9
        refine lv_iconst (v := 1) hx hb dX9_isFormHourWind_27 (by decide) ?_
        refine lv_goto (tgt := 32) hx hb dX9_isFormHourWind_28 (by decide) ?_
        exact hret true 32 _ _ _ dX9_isFormHourWind_32 hf hP hD hS
