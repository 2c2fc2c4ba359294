theorem dX10_in_0 : decode cX10_in 0 = .ok (.iload_n 0, 1) := by decide +kernel
theorem dX10_in_1 : decode cX10_in 1 = .ok (.iload_n 1, 1) := by decide +kernel
theorem dX10_in_2 : decode cX10_in 2 = .ok (.if_icmp .lt 12, 3) := by decide +kernel
theorem dX10_in_5 : decode cX10_in 5 = .ok (.iload_n 0, 1) := by decide +kernel
theorem dX10_in_6 : decode cX10_in 6 = .ok (.iload_n 2, 1) := by decide +kernel
theorem dX10_in_7 : decode cX10_in 7 = .ok (.if_icmp .gt 7, 3) := by decide +kernel
theorem dX10_in_10 : decode cX10_in 10 = .ok (.iconst 1, 1) := by decide +kernel
theorem dX10_in_11 : decode cX10_in 11 = .ok (.goto 4, 3) := by decide +kernel
theorem dX10_in_14 : decode cX10_in 14 = .ok (.iconst 0, 1) := by decide +kernel
theorem dX10_in_15 : decode cX10_in 15 = .ok (.ireturn, 1) := by decide +kernel
set_option maxRecDepth 100000 in
def fX10_in (x0 : Int32) (x1 : Int32) (x2 : Int32) : Option (Bool) :=
  if x0 < x1 then
    some false
  else
    if x2 < x0 then
      some false
    else
      some true
abbrev rmX10_in : Room := { frames := 0, cells := 0, slots := 0, locals := 0 }
set_option maxHeartbeats 4000000 in
set_option maxRecDepth 100000 in
theorem k_X10_in (l : Launch) (G : va_G) (cI cJ : ClassId) (sz : Nat) (x0 : Int32) (x1 : Int32) (x2 : Int32) {o_r : Bool} (hf : fX10_in x0 x1 x2 = some o_r) : MetI l yX10_in wsX10_in rmX10_in [.int x0, .int x1, .int x2] G cI cJ [] [] sz (b2i o_r) := by
  refine en_0 (l := l) (y := yX10_in) (wsl := wsX10_in) (rm := rmX10_in) (av := [.int x0, .int x1, .int x2]) (G := G) (cI := cI) (cJ := cJ) (w0 := []) (sz := sz) (Qf := fun A => Qi0 G cI cJ [] (b2i o_r) A) (cc := cX10_in) (maxL := 3) (ret := (some .boolean)) RX10 (by decide +kernel) rfl rfl (Nat.le_of_ble_eq_true rfl) ?_
  intro p e s m args below meth c A ls Q hQ hx hb hr hts hown hlocks hml hN hK hP hD hS hA hl
  have hl : lv_has ls 3 [(0, .int x0), (1, .int x1), (2, .int x2)] := hl
  have hret : ∀ (o_r9 : Bool) (pc : Nat) (H : Heap) (locs : List Loc) (ls : Array Slot), decode cX10_in pc = .ok (.ireturn, 1) → some o_r9 = some o_r → va_P G vwCl [] H → va_D A [] → va_S A s.heap H locs → W p l e rmX10_in s m args below meth c H locs 0 0 Q (F0 m pc ls [.int (b2i o_r9)]) := by
    intro o_r9 pc H locs ls hdg he hP hD hS
    cases he
    subst hQ
    exact rt_z hx hb hr hlocks hK hP hD hS (b2i_narrow _) rfl hdg
  clear hQ
  unfold fX10_in at hf
  refine lv_iload_n hx hb dX10_in_0 rfl (lv_at hl 0 rfl) ?_
  refine lv_iload_n hx hb dX10_in_1 rfl (lv_at hl 1 rfl) ?_
  refine lv_icmp_lt (tgt := 14) hx hb dX10_in_2 (by decide) (fun c1 => ?_) (fun c1 => ?_)
  · have hf := ift hf c1
    refine lv_iconst (v := 0) hx hb dX10_in_14 (by decide) ?_
    exact hret false 15 _ _ _ dX10_in_15 hf hP hD hS
  · have hf := iff_ hf c1
    refine lv_iload_n hx hb dX10_in_5 rfl (lv_at hl 0 rfl) ?_
    refine lv_iload_n hx hb dX10_in_6 rfl (lv_at hl 2 rfl) ?_
    refine lv_icmp_gt (tgt := 14) hx hb dX10_in_7 (by decide) (fun c2 => ?_) (fun c2 => ?_)
    · have hf := ift hf c2
      refine lv_iconst (v := 0) hx hb dX10_in_14 (by decide) ?_
      exact hret false 15 _ _ _ dX10_in_15 hf hP hD hS
    · have hf := iff_ hf c2
      refine lv_iconst (v := 1) hx hb dX10_in_10 (by decide) ?_
      refine lv_goto (tgt := 15) hx hb dX10_in_11 (by decide) ?_
      exact hret true 15 _ _ _ dX10_in_15 hf hP hD hS
theorem dX10_divisor_0 : decode cX10_divisor 0 = .ok (.lload_n 0, 1) := by decide +kernel
theorem dX10_divisor_1 : decode cX10_divisor 1 = .ok (.lconst 0, 1) := by decide +kernel
theorem dX10_divisor_2 : decode cX10_divisor 2 = .ok (.lcmp, 1) := by decide +kernel
theorem dX10_divisor_3 : decode cX10_divisor 3 = .ok (.ifCond .ge 8, 3) := by decide +kernel
theorem dX10_divisor_6 : decode cX10_divisor 6 = .ok (.lload_n 0, 1) := by decide +kernel
theorem dX10_divisor_7 : decode cX10_divisor 7 = .ok (.lneg, 1) := by decide +kernel
theorem dX10_divisor_8 : decode cX10_divisor 8 = .ok (.goto 4, 3) := by decide +kernel
theorem dX10_divisor_11 : decode cX10_divisor 11 = .ok (.lload_n 0, 1) := by decide +kernel
theorem dX10_divisor_12 : decode cX10_divisor 12 = .ok (.lstore 4, 2) := by decide +kernel
theorem dX10_divisor_14 : decode cX10_divisor 14 = .ok (.lload_n 2, 1) := by decide +kernel
theorem dX10_divisor_15 : decode cX10_divisor 15 = .ok (.lconst 0, 1) := by decide +kernel
theorem dX10_divisor_16 : decode cX10_divisor 16 = .ok (.lcmp, 1) := by decide +kernel
theorem dX10_divisor_17 : decode cX10_divisor 17 = .ok (.ifCond .ge 8, 3) := by decide +kernel
theorem dX10_divisor_20 : decode cX10_divisor 20 = .ok (.lload_n 2, 1) := by decide +kernel
theorem dX10_divisor_21 : decode cX10_divisor 21 = .ok (.lneg, 1) := by decide +kernel
theorem dX10_divisor_22 : decode cX10_divisor 22 = .ok (.goto 4, 3) := by decide +kernel
theorem dX10_divisor_25 : decode cX10_divisor 25 = .ok (.lload_n 2, 1) := by decide +kernel
theorem dX10_divisor_26 : decode cX10_divisor 26 = .ok (.lstore 6, 2) := by decide +kernel
theorem dX10_divisor_28 : decode cX10_divisor 28 = .ok (.lload 6, 2) := by decide +kernel
theorem dX10_divisor_30 : decode cX10_divisor 30 = .ok (.lconst 0, 1) := by decide +kernel
theorem dX10_divisor_31 : decode cX10_divisor 31 = .ok (.lcmp, 1) := by decide +kernel
theorem dX10_divisor_32 : decode cX10_divisor 32 = .ok (.ifCond .eq 21, 3) := by decide +kernel
theorem dX10_divisor_35 : decode cX10_divisor 35 = .ok (.lload 4, 2) := by decide +kernel
theorem dX10_divisor_37 : decode cX10_divisor 37 = .ok (.lload 6, 2) := by decide +kernel
theorem dX10_divisor_39 : decode cX10_divisor 39 = .ok (.lrem, 1) := by decide +kernel
theorem dX10_divisor_40 : decode cX10_divisor 40 = .ok (.lstore 8, 2) := by decide +kernel
theorem dX10_divisor_42 : decode cX10_divisor 42 = .ok (.lload 6, 2) := by decide +kernel
theorem dX10_divisor_44 : decode cX10_divisor 44 = .ok (.lstore 4, 2) := by decide +kernel
theorem dX10_divisor_46 : decode cX10_divisor 46 = .ok (.lload 8, 2) := by decide +kernel
theorem dX10_divisor_48 : decode cX10_divisor 48 = .ok (.lstore 6, 2) := by decide +kernel
theorem dX10_divisor_50 : decode cX10_divisor 50 = .ok (.goto (-22), 3) := by decide +kernel
theorem dX10_divisor_53 : decode cX10_divisor 53 = .ok (.lload 4, 2) := by decide +kernel
theorem dX10_divisor_55 : decode cX10_divisor 55 = .ok (.lreturn, 1) := by decide +kernel
set_option maxRecDepth 100000 in
def fX10_divisor_L1  : (Int64 × Int64) → Option ((Int64) ⊕ (Int64 × Int64)) := un2 fun (u9 : Int64) (u10 : Int64) =>
  if (lg_cmp u10 0) = 0 then
    some (.inl u9)
  else
    gd (decide (¬ u10 = 0)) <|
    bv (u9 - u9 / u10 * u10) fun v13 =>
    some (.inr (u10, v13))
set_option maxRecDepth 100000 in
def fX10_divisor (x0 : Int64) (x2 : Int64) : Option (Int64) :=
  ob (α := Int64) (
      if 0 ≤ (lg_cmp x0 0) then
        some x0
      else
        some (-x0)
    ) fun m1 =>
  ob (α := Int64) (
      if 0 ≤ (lg_cmp x2 0) then
        some x2
      else
        some (-x2)
    ) fun m5 =>
  ob (it (fX10_divisor_L1) 100000 (m1, m5)) fun x14 =>
  some x14
abbrev rmX10_divisor : Room := { frames := 0, cells := 0, slots := 0, locals := 0 }
set_option maxHeartbeats 4000000 in
set_option maxRecDepth 100000 in
theorem k_X10_divisor (l : Launch) (G : va_G) (cI cJ : ClassId) (sz : Nat) (x0 : Int64) (x2 : Int64) {o_r : Int64} (hf : fX10_divisor x0 x2 = some o_r) : MetL l yX10_divisor wsX10_divisor rmX10_divisor [.long x0, .long x2] G cI cJ [] [] sz o_r := by
  refine en_0 (l := l) (y := yX10_divisor) (wsl := wsX10_divisor) (rm := rmX10_divisor) (av := [.long x0, .long x2]) (G := G) (cI := cI) (cJ := cJ) (w0 := []) (sz := sz) (Qf := fun A => Ql0 G cI cJ [] o_r A) (cc := cX10_divisor) (maxL := 10) (ret := (some .long)) RX10 (by decide +kernel) rfl rfl (Nat.le_of_ble_eq_true rfl) ?_
  intro p e s m args below meth c A ls Q hQ hx hb hr hts hown hlocks hml hN hK hP hD hS hA hl
  have hl : lv_has ls 10 [(0, .long x0), (2, .long x2)] := hl
  have hret : ∀ (o_r9 : Int64) (pc : Nat) (H : Heap) (locs : List Loc) (ls : Array Slot), decode cX10_divisor pc = .ok (.lreturn, 1) → some o_r9 = some o_r → va_P G vwCl [] H → va_D A [] → va_S A s.heap H locs → W p l e rmX10_divisor s m args below meth c H locs 0 0 Q (F0 m pc ls [.long o_r9]) := by
    intro o_r9 pc H locs ls hdg he hP hD hS
    cases he
    subst hQ
    exact rt_l hx hb hr hlocks hK hP hD hS rfl hdg
  clear hQ
  unfold fX10_divisor at hf
  refine lv_lload_n hx hb dX10_divisor_0 rfl (lv_at hl 0 rfl) ?_
  refine lv_lconst (v := 0) hx hb dX10_divisor_1 (by decide) ?_
  refine W.lcmp hx hb dX10_divisor_2 ?_
  obtain ⟨m1, hr2, hf⟩ := ob_some hf
  have hj3 : ∀ (m19 : Int64), some m19 = some m1 → ∀ (H : Heap) (locs : List Loc) (ls : Array Slot), va_P G vwCl [] H → va_D A [] → va_S A s.heap H locs → lv_has ls 10 [(2, .long x2)] → W p l e rmX10_divisor s m args below meth c H locs 0 0 Q (F0 m 12 ls [.long m19]) := by
    intro m19 he H locs ls hP hD hS hl
    cases he
    refine lv_lstore (lv' := [(4, .long m1), (2, .long x2)]) hx hb dX10_divisor_12 hl (by decide) rfl (fun ls hl => ?_)
    refine lv_lload_n hx hb dX10_divisor_14 rfl (lv_at hl 1 rfl) ?_
    refine lv_lconst (v := 0) hx hb dX10_divisor_15 (by decide) ?_
    refine W.lcmp hx hb dX10_divisor_16 ?_
    obtain ⟨m5, hr6, hf⟩ := ob_some hf
    have hj7 : ∀ (m59 : Int64), some m59 = some m5 → ∀ (H : Heap) (locs : List Loc) (ls : Array Slot), va_P G vwCl [] H → va_D A [] → va_S A s.heap H locs → lv_has ls 10 [(4, .long m1)] → W p l e rmX10_divisor s m args below meth c H locs 0 0 Q (F0 m 26 ls [.long m59]) := by
      intro m59 he H locs ls hP hD hS hl
      cases he
      refine lv_lstore (lv' := [(6, .long m5), (4, .long m1)]) hx hb dX10_divisor_26 hl (by decide) rfl (fun ls hl => ?_)
      obtain ⟨x14, ht1, hf⟩ := ob_some hf
      have hx1_0 : ∀ (x149 : Int64), x149 = x14 → ∀ (H : Heap) (locs : List Loc) (ls : Array Slot), va_P G vwCl [] H → va_D A [] → va_S A s.heap H locs → lv_has ls 10 [(4, .long x149)] → W p l e rmX10_divisor s m args below meth c H locs 0 0 Q (F0 m 53 ls []) := by
        intro x149 he H locs ls hP hD hS hl
        cases he
        refine lv_lload hx hb dX10_divisor_53 (lv_at hl 0 rfl) ?_
        exact hret x14 55 _ _ _ dX10_divisor_55 hf hP hD hS
      clear hf
      have hl1 : ∀ (n : Nat) (u9 : Int64) (u10 : Int64), it (fX10_divisor_L1) n (u9, u10) = some x14 → ∀ (H : Heap) (locs : List Loc) (ls : Array Slot), va_P G vwCl [] H → va_D A [] → va_S A s.heap H locs → lv_has ls 10 [(4, .long u9), (6, .long u10)] → W p l e rmX10_divisor s m args below meth c H locs 0 0 Q (F0 m 28 ls []) := by
        intro n
        induction n with
        | zero => intro u9 u10 hz; exact (it_zero hz).elim
        | succ n ih =>
          intro u9 u10 hz H locs ls hP hD hS hl
          obtain ⟨x9, hf, hq⟩ := it_succ hz
          unfold fX10_divisor_L1 at hf
          dsimp only [un2] at hf
          refine lv_lload hx hb dX10_divisor_28 (lv_at hl 1 rfl) ?_
          refine lv_lconst (v := 0) hx hb dX10_divisor_30 (by decide) ?_
          refine W.lcmp hx hb dX10_divisor_31 ?_
          refine lv_if_eq (tgt := 53) hx hb dX10_divisor_32 (by decide) (fun c11 => ?_) (fun c11 => ?_)
          · have hf := ift hf c11
            cases hf
            exact hx1_0 _ hq _ _ _ hP hD hS (lv_sub hl [0] rfl)
          · have hf := iff_ hf c11
            refine lv_lload hx hb dX10_divisor_35 (lv_at hl 0 rfl) ?_
            refine lv_lload hx hb dX10_divisor_37 (lv_at hl 1 rfl) ?_
            obtain ⟨h12, hf⟩ := gd_some hf
            refine lv_lrem hx hb dX10_divisor_39 (of_decide_eq_true h12) ?_
            refine lv_topl (fun v13 ev13 => ?_)
            have hf := bv_at ev13 hf
            refine lv_lstore (lv' := [(8, .long v13), (4, .long u9), (6, .long u10)]) hx hb dX10_divisor_40 hl (by decide) rfl (fun ls hl => ?_)
            refine lv_lload hx hb dX10_divisor_42 (lv_at hl 2 rfl) ?_
            refine lv_lstore (lv' := [(4, .long u10), (8, .long v13), (6, .long u10)]) hx hb dX10_divisor_44 hl (by decide) rfl (fun ls hl => ?_)
            refine lv_lload hx hb dX10_divisor_46 (lv_at hl 1 rfl) ?_
            refine lv_lstore (lv' := [(6, .long v13), (4, .long u10), (8, .long v13)]) hx hb dX10_divisor_48 hl (by decide) rfl (fun ls hl => ?_)
            refine lv_goto (tgt := 28) hx hb dX10_divisor_50 (by decide) ?_
            cases hf
            exact ih _ _ hq _ _ _ hP hD hS (lv_sub hl [1, 0] rfl)
      exact hl1 _ _ _ ht1 _ _ _ hP hD hS (lv_sub hl [1, 0] rfl)
    replace hf := hr6
    refine lv_if_ge (tgt := 25) hx hb dX10_divisor_17 (by decide) (fun c8 => ?_) (fun c8 => ?_)
    · have hf := ift hf c8
      refine lv_lload_n hx hb dX10_divisor_25 rfl (lv_at hl 1 rfl) ?_
      exact hj7 _ hf _ _ _ hP hD hS (lv_sub hl [0] rfl)
    · have hf := iff_ hf c8
      refine lv_lload_n hx hb dX10_divisor_20 rfl (lv_at hl 1 rfl) ?_
      refine lv_lneg hx hb dX10_divisor_21 ?_
      refine lv_goto (tgt := 26) hx hb dX10_divisor_22 (by decide) ?_
      exact hj7 _ hf _ _ _ hP hD hS (lv_sub hl [0] rfl)
  replace hf := hr2
  refine lv_if_ge (tgt := 11) hx hb dX10_divisor_3 (by decide) (fun c4 => ?_) (fun c4 => ?_)
  · have hf := ift hf c4
    refine lv_lload_n hx hb dX10_divisor_11 rfl (lv_at hl 0 rfl) ?_
    exact hj3 _ hf _ _ _ hP hD hS (lv_sub hl [1] rfl)
  · have hf := iff_ hf c4
    refine lv_lload_n hx hb dX10_divisor_6 rfl (lv_at hl 0 rfl) ?_
    refine lv_lneg hx hb dX10_divisor_7 ?_
    refine lv_goto (tgt := 12) hx hb dX10_divisor_8 (by decide) ?_
    exact hj3 _ hf _ _ _ hP hD hS (lv_sub hl [1] rfl)
set_option maxRecDepth 20000 in
theorem ggX10_tells_X10_divisor : GoodIn wsX10_tells wsX10_divisor := goodIn_r _ [6] (by decide +kernel) (by decide +kernel)
set_option maxRecDepth 20000 in
theorem gX10_tells_X10_divisor : GoodIn wsX10_tells (va_wsS RX10 84 yX10_divisor wsX10_divisor) := goodIn_app (goodIn_of _ (by decide +kernel)) ggX10_tells_X10_divisor
theorem dX10_tells_0 : decode cX10_tells 0 = .ok (.lload_n 1, 1) := by decide +kernel
theorem dX10_tells_1 : decode cX10_tells 1 = .ok (.lload_n 3, 1) := by decide +kernel
theorem dX10_tells_2 : decode cX10_tells 2 = .ok (.invokestatic 84, 3) := by decide +kernel
theorem dX10_tells_5 : decode cX10_tells 5 = .ok (.lstore 5, 2) := by decide +kernel
theorem dX10_tells_7 : decode cX10_tells 7 = .ok (.aload_n 0, 1) := by decide +kernel
theorem dX10_tells_8 : decode cX10_tells 8 = .ok (.lload_n 1, 1) := by decide +kernel
theorem dX10_tells_9 : decode cX10_tells 9 = .ok (.lload 5, 2) := by decide +kernel
theorem dX10_tells_11 : decode cX10_tells 11 = .ok (.ldiv, 1) := by decide +kernel
theorem dX10_tells_12 : decode cX10_tells 12 = .ok (.putfield 77, 3) := by decide +kernel
theorem dX10_tells_15 : decode cX10_tells 15 = .ok (.aload_n 0, 1) := by decide +kernel
theorem dX10_tells_16 : decode cX10_tells 16 = .ok (.lload_n 3, 1) := by decide +kernel
theorem dX10_tells_17 : decode cX10_tells 17 = .ok (.lload 5, 2) := by decide +kernel
theorem dX10_tells_19 : decode cX10_tells 19 = .ok (.ldiv, 1) := by decide +kernel
theorem dX10_tells_20 : decode cX10_tells 20 = .ok (.putfield 81, 3) := by decide +kernel
theorem dX10_tells_23 : decode cX10_tells 23 = .ok (.iconst 1, 1) := by decide +kernel
theorem dX10_tells_24 : decode cX10_tells 24 = .ok (.ireturn, 1) := by decide +kernel
set_option maxRecDepth 100000 in
def fX10_tells (x1 : Int64) (x3 : Int64) (t_above : Int64) (t_below : Int64) : Option (Int32 × Int64 × Int64) :=
  ob (fX10_divisor x1 x3) fun r1 =>
  gd (decide (¬ r1 = 0)) <|
  bv (x1 / r1) fun v4 =>
  gd (decide (¬ r1 = 0)) <|
  bv (x3 / r1) fun v6 =>
  some (1, v4, v6)
abbrev rmX10_tells : Room := { frames := 1, cells := 0, slots := 0, locals := 29 }
theorem iwX10_tells_X10 : ∀ w ∈ u_ws RX10 TX10 36, w ∈ wsX10_tells := by decide +kernel
set_option maxHeartbeats 4000000 in
set_option maxRecDepth 100000 in
theorem k_X10_tells (l : Launch) (G : va_G) (cI cJ : ClassId) (t_h t_edges_h t_lean_h t_word_h t_layer_h t_least_h t_sight_h t_shadow_h t_spanLow_h t_spanHigh_h t_spanAt_h t_numbers_h t_pair_h t_most_h t_row_h t_under_h t_agreed_h : Nat) (sz : Nat) (t_baseWay : Int32) (t_slip : Int32) (t_low : Int32) (t_high : Int32) (t_unlike : Int32) (t_alone : Int32) (t_above : Int64) (t_below : Int64) (t_layers : Int32) (t_sights : Int32) (t_shadows : Int32) (t_endAbove : Int64) (t_endBelow : Int64) (t_speedAbove : Int64) (t_speedBelow : Int64) (t_spans : Int32) (t_found : Int32) (t_pairs : Int32) (t_rows : Int32) (t_notes : Int32) (x1 : Int64) (x3 : Int64) {o_r : Int32} {o_t_above : Int64} {o_t_below : Int64} (hf : fX10_tells x1 x3 t_above t_below = some (o_r, o_t_above, o_t_below)) : MetI l yX10_tells wsX10_tells rmX10_tells [.ref t_h, .long x1, .long x3] G cI cJ [(t_h, .inr (10, [.int t_baseWay, .int t_slip, .int t_low, .int t_high, .int t_unlike, .int t_alone, .long t_above, .long t_below, .ref t_edges_h, .ref t_lean_h, .ref t_word_h, .int t_layers, .ref t_layer_h, .ref t_least_h, .int t_sights, .ref t_sight_h, .int t_shadows, .ref t_shadow_h, .long t_endAbove, .long t_endBelow, .long t_speedAbove, .long t_speedBelow, .int t_spans, .ref t_spanLow_h, .ref t_spanHigh_h, .ref t_spanAt_h, .int t_found, .ref t_numbers_h, .int t_pairs, .ref t_pair_h, .ref t_most_h, .int t_rows, .ref t_row_h, .int t_notes, .ref t_under_h, .ref t_agreed_h]))] [(t_h, .inr (10, [.int t_baseWay, .int t_slip, .int t_low, .int t_high, .int t_unlike, .int t_alone, .long o_t_above, .long o_t_below, .ref t_edges_h, .ref t_lean_h, .ref t_word_h, .int t_layers, .ref t_layer_h, .ref t_least_h, .int t_sights, .ref t_sight_h, .int t_shadows, .ref t_shadow_h, .long t_endAbove, .long t_endBelow, .long t_speedAbove, .long t_speedBelow, .int t_spans, .ref t_spanLow_h, .ref t_spanHigh_h, .ref t_spanAt_h, .int t_found, .ref t_numbers_h, .int t_pairs, .ref t_pair_h, .ref t_most_h, .int t_rows, .ref t_row_h, .int t_notes, .ref t_under_h, .ref t_agreed_h]))] sz o_r := by
  refine en_0 (l := l) (y := yX10_tells) (wsl := wsX10_tells) (rm := rmX10_tells) (av := [.ref t_h, .long x1, .long x3]) (G := G) (cI := cI) (cJ := cJ) (w0 := [(t_h, .inr (10, [.int t_baseWay, .int t_slip, .int t_low, .int t_high, .int t_unlike, .int t_alone, .long t_above, .long t_below, .ref t_edges_h, .ref t_lean_h, .ref t_word_h, .int t_layers, .ref t_layer_h, .ref t_least_h, .int t_sights, .ref t_sight_h, .int t_shadows, .ref t_shadow_h, .long t_endAbove, .long t_endBelow, .long t_speedAbove, .long t_speedBelow, .int t_spans, .ref t_spanLow_h, .ref t_spanHigh_h, .ref t_spanAt_h, .int t_found, .ref t_numbers_h, .int t_pairs, .ref t_pair_h, .ref t_most_h, .int t_rows, .ref t_row_h, .int t_notes, .ref t_under_h, .ref t_agreed_h]))]) (sz := sz) (Qf := fun A => Qi0 G cI cJ [(t_h, .inr (10, [.int t_baseWay, .int t_slip, .int t_low, .int t_high, .int t_unlike, .int t_alone, .long o_t_above, .long o_t_below, .ref t_edges_h, .ref t_lean_h, .ref t_word_h, .int t_layers, .ref t_layer_h, .ref t_least_h, .int t_sights, .ref t_sight_h, .int t_shadows, .ref t_shadow_h, .long t_endAbove, .long t_endBelow, .long t_speedAbove, .long t_speedBelow, .int t_spans, .ref t_spanLow_h, .ref t_spanHigh_h, .ref t_spanAt_h, .int t_found, .ref t_numbers_h, .int t_pairs, .ref t_pair_h, .ref t_most_h, .int t_rows, .ref t_row_h, .int t_notes, .ref t_under_h, .ref t_agreed_h]))] o_r A) (cc := cX10_tells) (maxL := 7) (ret := (some .int)) RX10 (by decide +kernel) rfl rfl (Nat.le_of_ble_eq_true rfl) ?_
  intro p e s m args below meth c A ls Q hQ hx hb hr hts hown hlocks hml hN hK hP hD hS hA hl
  have hl : lv_has ls 7 [(0, .ref t_h), (1, .long x1), (3, .long x3)] := hl
  have iwX10 := iwX10_tells_X10
  have fl_77 := hts (.fieldLink RX10 77 "CloudOfficeModel" "above" "J") (by decide +kernel)
  have fl_81 := hts (.fieldLink RX10 81 "CloudOfficeModel" "below" "J") (by decide +kernel)
  have hret : ∀ (o_r9 : Int32) (o_t_above9 : Int64) (o_t_below9 : Int64) (pc : Nat) (H : Heap) (locs : List Loc) (ls : Array Slot), decode cX10_tells pc = .ok (.ireturn, 1) → some (o_r9, o_t_above9, o_t_below9) = some (o_r, o_t_above, o_t_below) → va_P G vwCl [(t_h, .inr (10, [.int t_baseWay, .int t_slip, .int t_low, .int t_high, .int t_unlike, .int t_alone, .long o_t_above9, .long o_t_below9, .ref t_edges_h, .ref t_lean_h, .ref t_word_h, .int t_layers, .ref t_layer_h, .ref t_least_h, .int t_sights, .ref t_sight_h, .int t_shadows, .ref t_shadow_h, .long t_endAbove, .long t_endBelow, .long t_speedAbove, .long t_speedBelow, .int t_spans, .ref t_spanLow_h, .ref t_spanHigh_h, .ref t_spanAt_h, .int t_found, .ref t_numbers_h, .int t_pairs, .ref t_pair_h, .ref t_most_h, .int t_rows, .ref t_row_h, .int t_notes, .ref t_under_h, .ref t_agreed_h]))] H → va_D A [(t_h, .inr (10, [.int t_baseWay, .int t_slip, .int t_low, .int t_high, .int t_unlike, .int t_alone, .long o_t_above9, .long o_t_below9, .ref t_edges_h, .ref t_lean_h, .ref t_word_h, .int t_layers, .ref t_layer_h, .ref t_least_h, .int t_sights, .ref t_sight_h, .int t_shadows, .ref t_shadow_h, .long t_endAbove, .long t_endBelow, .long t_speedAbove, .long t_speedBelow, .int t_spans, .ref t_spanLow_h, .ref t_spanHigh_h, .ref t_spanAt_h, .int t_found, .ref t_numbers_h, .int t_pairs, .ref t_pair_h, .ref t_most_h, .int t_rows, .ref t_row_h, .int t_notes, .ref t_under_h, .ref t_agreed_h]))] → va_S A s.heap H locs → W p l e rmX10_tells s m args below meth c H locs 0 0 Q (F0 m pc ls [.int o_r9]) := by
    intro o_r9 o_t_above9 o_t_below9 pc H locs ls hdg he hP hD hS
    cases he
    subst hQ
    exact rt_i hx hb hr hlocks hK hP hD hS rfl hdg
  clear hQ
  unfold fX10_tells at hf
  refine lv_lload_n hx hb dX10_tells_0 rfl (lv_at hl 1 rfl) ?_
  refine lv_lload_n hx hb dX10_tells_1 rfl (lv_at hl 2 rfl) ?_
  obtain ⟨r1, hc2, hf⟩ := ob_some hf
  refine af_lR (va_runS (As := [.long x1, .long x3]) (rest := []) ⟨hx, hb, hml, hown, hts⟩ (k_X10_divisor l G cI cJ (x0 := x1) (x2 := x3) (sz := _) (hf := hc2)) (va_cwS 2 hts gX10_tells_X10_divisor rfl rfl rfl (by decide +kernel) ⟨Nat.le_of_ble_eq_true rfl, Nat.le_of_ble_eq_true rfl⟩) (preS0 (wc := []) hK hP hD hN [] rfl rfl (by decide)) rfl rfl hl.1 rfl (lv_room (Nat.le_of_ble_eq_true rfl)) dX10_tells_2 ⟨Nat.zero_le _, Nat.zero_le _⟩) hP hD hS hA [] rfl (fun H locs hP hS => ?_)
  refine lv_lstore (lv' := [(5, .long r1), (0, .ref t_h), (1, .long x1), (3, .long x3)]) hx hb dX10_tells_5 hl (by decide) rfl (fun ls hl => ?_)
  refine lv_aload_n hx hb dX10_tells_7 rfl (lv_at hl 1 rfl) ?_
  refine lv_lload_n hx hb dX10_tells_8 rfl (lv_at hl 2 rfl) ?_
  refine lv_lload hx hb dX10_tells_9 (lv_at hl 0 rfl) ?_
  obtain ⟨h3, hf⟩ := gd_some hf
  refine lv_ldiv hx hb dX10_tells_11 (of_decide_eq_true h3) ?_
  refine lv_topl (fun v4 ev4 => ?_)
  have hf := bv_at ev4 hf
  refine va_put (D := G) (ci := 10) (v := .long v4) (ty := .long) (C := RX10) (T := TX10) (N := 36) hx hb hts iwX10 tyX10 tyX10_ok nmX10 hown hK hP hD hS 0 rfl rfl 6 (by decide) fl_77 (fun _ h9 => h9) rfl (by decide +kernel) rfl rfl (Nat.le_of_ble_eq_true rfl) dX10_tells_12 (fun H locs hP hD hS => ?_)
  have hP : va_P G vwCl [(t_h, .inr (10, [.int t_baseWay, .int t_slip, .int t_low, .int t_high, .int t_unlike, .int t_alone, .long v4, .long t_below, .ref t_edges_h, .ref t_lean_h, .ref t_word_h, .int t_layers, .ref t_layer_h, .ref t_least_h, .int t_sights, .ref t_sight_h, .int t_shadows, .ref t_shadow_h, .long t_endAbove, .long t_endBelow, .long t_speedAbove, .long t_speedBelow, .int t_spans, .ref t_spanLow_h, .ref t_spanHigh_h, .ref t_spanAt_h, .int t_found, .ref t_numbers_h, .int t_pairs, .ref t_pair_h, .ref t_most_h, .int t_rows, .ref t_row_h, .int t_notes, .ref t_under_h, .ref t_agreed_h]))] H := hP
  have hD : va_D A [(t_h, .inr (10, [.int t_baseWay, .int t_slip, .int t_low, .int t_high, .int t_unlike, .int t_alone, .long v4, .long t_below, .ref t_edges_h, .ref t_lean_h, .ref t_word_h, .int t_layers, .ref t_layer_h, .ref t_least_h, .int t_sights, .ref t_sight_h, .int t_shadows, .ref t_shadow_h, .long t_endAbove, .long t_endBelow, .long t_speedAbove, .long t_speedBelow, .int t_spans, .ref t_spanLow_h, .ref t_spanHigh_h, .ref t_spanAt_h, .int t_found, .ref t_numbers_h, .int t_pairs, .ref t_pair_h, .ref t_most_h, .int t_rows, .ref t_row_h, .int t_notes, .ref t_under_h, .ref t_agreed_h]))] := hD
  refine lv_aload_n hx hb dX10_tells_15 rfl (lv_at hl 1 rfl) ?_
  refine lv_lload_n hx hb dX10_tells_16 rfl (lv_at hl 3 rfl) ?_
  refine lv_lload hx hb dX10_tells_17 (lv_at hl 0 rfl) ?_
  obtain ⟨h5, hf⟩ := gd_some hf
  refine lv_ldiv hx hb dX10_tells_19 (of_decide_eq_true h5) ?_
  refine lv_topl (fun v6 ev6 => ?_)
  have hf := bv_at ev6 hf
  refine va_put (D := G) (ci := 10) (v := .long v6) (ty := .long) (C := RX10) (T := TX10) (N := 36) hx hb hts iwX10 tyX10 tyX10_ok nmX10 hown hK hP hD hS 0 rfl rfl 7 (by decide) fl_81 (fun _ h9 => h9) rfl (by decide +kernel) rfl rfl (Nat.le_of_ble_eq_true rfl) dX10_tells_20 (fun H locs hP hD hS => ?_)
  have hP : va_P G vwCl [(t_h, .inr (10, [.int t_baseWay, .int t_slip, .int t_low, .int t_high, .int t_unlike, .int t_alone, .long v4, .long v6, .ref t_edges_h, .ref t_lean_h, .ref t_word_h, .int t_layers, .ref t_layer_h, .ref t_least_h, .int t_sights, .ref t_sight_h, .int t_shadows, .ref t_shadow_h, .long t_endAbove, .long t_endBelow, .long t_speedAbove, .long t_speedBelow, .int t_spans, .ref t_spanLow_h, .ref t_spanHigh_h, .ref t_spanAt_h, .int t_found, .ref t_numbers_h, .int t_pairs, .ref t_pair_h, .ref t_most_h, .int t_rows, .ref t_row_h, .int t_notes, .ref t_under_h, .ref t_agreed_h]))] H := hP
  have hD : va_D A [(t_h, .inr (10, [.int t_baseWay, .int t_slip, .int t_low, .int t_high, .int t_unlike, .int t_alone, .long v4, .long v6, .ref t_edges_h, .ref t_lean_h, .ref t_word_h, .int t_layers, .ref t_layer_h, .ref t_least_h, .int t_sights, .ref t_sight_h, .int t_shadows, .ref t_shadow_h, .long t_endAbove, .long t_endBelow, .long t_speedAbove, .long t_speedBelow, .int t_spans, .ref t_spanLow_h, .ref t_spanHigh_h, .ref t_spanAt_h, .int t_found, .ref t_numbers_h, .int t_pairs, .ref t_pair_h, .ref t_most_h, .int t_rows, .ref t_row_h, .int t_notes, .ref t_under_h, .ref t_agreed_h]))] := hD
  refine lv_iconst (v := 1) hx hb dX10_tells_23 (by decide) ?_
  exact hret 1 v4 v6 24 _ _ _ dX10_tells_24 hf hP hD hS
set_option maxRecDepth 20000 in
theorem ggX10_base_X10_in : GoodIn wsX10_base wsX10_in := goodIn_r _ [7] (by decide +kernel) (by decide +kernel)
set_option maxRecDepth 20000 in
theorem gX10_base_X10_in : GoodIn wsX10_base (va_wsS RX10 89 yX10_in wsX10_in) := goodIn_app (goodIn_of _ (by decide +kernel)) ggX10_base_X10_in
theorem dX10_base_0 : decode cX10_base 0 = .ok (.iload_n 1, 1) := by decide +kernel
theorem dX10_base_1 : decode cX10_base 1 = .ok (.bipush 10, 2) := by decide +kernel
theorem dX10_base_3 : decode cX10_base 3 = .ok (.ldc 88, 2) := by decide +kernel
theorem dX10_base_5 : decode cX10_base 5 = .ok (.invokestatic 89, 3) := by decide +kernel
theorem dX10_base_8 : decode cX10_base 8 = .ok (.ifCond .eq 14, 3) := by decide +kernel
theorem dX10_base_11 : decode cX10_base 11 = .ok (.iload_n 2, 1) := by decide +kernel
theorem dX10_base_12 : decode cX10_base 12 = .ok (.iconst 0, 1) := by decide +kernel
theorem dX10_base_13 : decode cX10_base 13 = .ok (.sipush 1000, 3) := by decide +kernel
theorem dX10_base_16 : decode cX10_base 16 = .ok (.invokestatic 89, 3) := by decide +kernel
theorem dX10_base_19 : decode cX10_base 19 = .ok (.ifCond .ne 6, 3) := by decide +kernel
theorem dX10_base_22 : decode cX10_base 22 = .ok (.bipush (-2), 2) := by decide +kernel
theorem dX10_base_24 : decode cX10_base 24 = .ok (.ireturn, 1) := by decide +kernel
theorem dX10_base_25 : decode cX10_base 25 = .ok (.aload_n 0, 1) := by decide +kernel
theorem dX10_base_26 : decode cX10_base 26 = .ok (.iload_n 1, 1) := by decide +kernel
theorem dX10_base_27 : decode cX10_base 27 = .ok (.putfield 58, 3) := by decide +kernel
theorem dX10_base_30 : decode cX10_base 30 = .ok (.aload_n 0, 1) := by decide +kernel
theorem dX10_base_31 : decode cX10_base 31 = .ok (.iload_n 2, 1) := by decide +kernel
theorem dX10_base_32 : decode cX10_base 32 = .ok (.putfield 62, 3) := by decide +kernel
theorem dX10_base_35 : decode cX10_base 35 = .ok (.iconst 1, 1) := by decide +kernel
theorem dX10_base_36 : decode cX10_base 36 = .ok (.ireturn, 1) := by decide +kernel
set_option maxRecDepth 100000 in
def fX10_base (x1 : Int32) (x2 : Int32) (t_baseWay : Int32) (t_slip : Int32) : Option (Int32 × Int32 × Int32) :=
  ob (fX10_in x1 10 100000) fun r1 =>
  if (b2i r1) = 0 then
    some ((-2), t_baseWay, t_slip)
  else
    ob (fX10_in x2 0 1000) fun r4 =>
    if (b2i r4) = 0 then
      some ((-2), t_baseWay, t_slip)
    else
      some (1, x1, x2)
abbrev rmX10_base : Room := { frames := 1, cells := 0, slots := 0, locals := 22 }
theorem iwX10_base_X10 : ∀ w ∈ u_ws RX10 TX10 36, w ∈ wsX10_base := by decide +kernel
set_option maxHeartbeats 4000000 in
set_option maxRecDepth 100000 in
theorem k_X10_base (l : Launch) (G : va_G) (cI cJ : ClassId) (t_h t_edges_h t_lean_h t_word_h t_layer_h t_least_h t_sight_h t_shadow_h t_spanLow_h t_spanHigh_h t_spanAt_h t_numbers_h t_pair_h t_most_h t_row_h t_under_h t_agreed_h : Nat) (sz : Nat) (t_baseWay : Int32) (t_slip : Int32) (t_low : Int32) (t_high : Int32) (t_unlike : Int32) (t_alone : Int32) (t_above : Int64) (t_below : Int64) (t_layers : Int32) (t_sights : Int32) (t_shadows : Int32) (t_endAbove : Int64) (t_endBelow : Int64) (t_speedAbove : Int64) (t_speedBelow : Int64) (t_spans : Int32) (t_found : Int32) (t_pairs : Int32) (t_rows : Int32) (t_notes : Int32) (x1 : Int32) (x2 : Int32) {o_r : Int32} {o_t_baseWay : Int32} {o_t_slip : Int32} (hf : fX10_base x1 x2 t_baseWay t_slip = some (o_r, o_t_baseWay, o_t_slip)) : MetI l yX10_base wsX10_base rmX10_base [.ref t_h, .int x1, .int x2] G cI cJ [(t_h, .inr (10, [.int t_baseWay, .int t_slip, .int t_low, .int t_high, .int t_unlike, .int t_alone, .long t_above, .long t_below, .ref t_edges_h, .ref t_lean_h, .ref t_word_h, .int t_layers, .ref t_layer_h, .ref t_least_h, .int t_sights, .ref t_sight_h, .int t_shadows, .ref t_shadow_h, .long t_endAbove, .long t_endBelow, .long t_speedAbove, .long t_speedBelow, .int t_spans, .ref t_spanLow_h, .ref t_spanHigh_h, .ref t_spanAt_h, .int t_found, .ref t_numbers_h, .int t_pairs, .ref t_pair_h, .ref t_most_h, .int t_rows, .ref t_row_h, .int t_notes, .ref t_under_h, .ref t_agreed_h]))] [(t_h, .inr (10, [.int o_t_baseWay, .int o_t_slip, .int t_low, .int t_high, .int t_unlike, .int t_alone, .long t_above, .long t_below, .ref t_edges_h, .ref t_lean_h, .ref t_word_h, .int t_layers, .ref t_layer_h, .ref t_least_h, .int t_sights, .ref t_sight_h, .int t_shadows, .ref t_shadow_h, .long t_endAbove, .long t_endBelow, .long t_speedAbove, .long t_speedBelow, .int t_spans, .ref t_spanLow_h, .ref t_spanHigh_h, .ref t_spanAt_h, .int t_found, .ref t_numbers_h, .int t_pairs, .ref t_pair_h, .ref t_most_h, .int t_rows, .ref t_row_h, .int t_notes, .ref t_under_h, .ref t_agreed_h]))] sz o_r := by
  refine en_0 (l := l) (y := yX10_base) (wsl := wsX10_base) (rm := rmX10_base) (av := [.ref t_h, .int x1, .int x2]) (G := G) (cI := cI) (cJ := cJ) (w0 := [(t_h, .inr (10, [.int t_baseWay, .int t_slip, .int t_low, .int t_high, .int t_unlike, .int t_alone, .long t_above, .long t_below, .ref t_edges_h, .ref t_lean_h, .ref t_word_h, .int t_layers, .ref t_layer_h, .ref t_least_h, .int t_sights, .ref t_sight_h, .int t_shadows, .ref t_shadow_h, .long t_endAbove, .long t_endBelow, .long t_speedAbove, .long t_speedBelow, .int t_spans, .ref t_spanLow_h, .ref t_spanHigh_h, .ref t_spanAt_h, .int t_found, .ref t_numbers_h, .int t_pairs, .ref t_pair_h, .ref t_most_h, .int t_rows, .ref t_row_h, .int t_notes, .ref t_under_h, .ref t_agreed_h]))]) (sz := sz) (Qf := fun A => Qi0 G cI cJ [(t_h, .inr (10, [.int o_t_baseWay, .int o_t_slip, .int t_low, .int t_high, .int t_unlike, .int t_alone, .long t_above, .long t_below, .ref t_edges_h, .ref t_lean_h, .ref t_word_h, .int t_layers, .ref t_layer_h, .ref t_least_h, .int t_sights, .ref t_sight_h, .int t_shadows, .ref t_shadow_h, .long t_endAbove, .long t_endBelow, .long t_speedAbove, .long t_speedBelow, .int t_spans, .ref t_spanLow_h, .ref t_spanHigh_h, .ref t_spanAt_h, .int t_found, .ref t_numbers_h, .int t_pairs, .ref t_pair_h, .ref t_most_h, .int t_rows, .ref t_row_h, .int t_notes, .ref t_under_h, .ref t_agreed_h]))] o_r A) (cc := cX10_base) (maxL := 3) (ret := (some .int)) RX10 (by decide +kernel) rfl rfl (Nat.le_of_ble_eq_true rfl) ?_
  intro p e s m args below meth c A ls Q hQ hx hb hr hts hown hlocks hml hN hK hP hD hS hA hl
  have hl : lv_has ls 3 [(0, .ref t_h), (1, .int x1), (2, .int x2)] := hl
  have iwX10 := iwX10_base_X10
  have fl_58 := hts (.fieldLink RX10 58 "CloudOfficeModel" "baseWay" "I") (by decide +kernel)
  have fl_62 := hts (.fieldLink RX10 62 "CloudOfficeModel" "slip" "I") (by decide +kernel)
  have kc_88 := hts (.constant RX10 88 (100000)) (by decide +kernel)
  have hret : ∀ (o_r9 : Int32) (o_t_baseWay9 : Int32) (o_t_slip9 : Int32) (pc : Nat) (H : Heap) (locs : List Loc) (ls : Array Slot), decode cX10_base pc = .ok (.ireturn, 1) → some (o_r9, o_t_baseWay9, o_t_slip9) = some (o_r, o_t_baseWay, o_t_slip) → va_P G vwCl [(t_h, .inr (10, [.int o_t_baseWay9, .int o_t_slip9, .int t_low, .int t_high, .int t_unlike, .int t_alone, .long t_above, .long t_below, .ref t_edges_h, .ref t_lean_h, .ref t_word_h, .int t_layers, .ref t_layer_h, .ref t_least_h, .int t_sights, .ref t_sight_h, .int t_shadows, .ref t_shadow_h, .long t_endAbove, .long t_endBelow, .long t_speedAbove, .long t_speedBelow, .int t_spans, .ref t_spanLow_h, .ref t_spanHigh_h, .ref t_spanAt_h, .int t_found, .ref t_numbers_h, .int t_pairs, .ref t_pair_h, .ref t_most_h, .int t_rows, .ref t_row_h, .int t_notes, .ref t_under_h, .ref t_agreed_h]))] H → va_D A [(t_h, .inr (10, [.int o_t_baseWay9, .int o_t_slip9, .int t_low, .int t_high, .int t_unlike, .int t_alone, .long t_above, .long t_below, .ref t_edges_h, .ref t_lean_h, .ref t_word_h, .int t_layers, .ref t_layer_h, .ref t_least_h, .int t_sights, .ref t_sight_h, .int t_shadows, .ref t_shadow_h, .long t_endAbove, .long t_endBelow, .long t_speedAbove, .long t_speedBelow, .int t_spans, .ref t_spanLow_h, .ref t_spanHigh_h, .ref t_spanAt_h, .int t_found, .ref t_numbers_h, .int t_pairs, .ref t_pair_h, .ref t_most_h, .int t_rows, .ref t_row_h, .int t_notes, .ref t_under_h, .ref t_agreed_h]))] → va_S A s.heap H locs → W p l e rmX10_base s m args below meth c H locs 0 0 Q (F0 m pc ls [.int o_r9]) := by
    intro o_r9 o_t_baseWay9 o_t_slip9 pc H locs ls hdg he hP hD hS
    cases he
    subst hQ
    exact rt_i hx hb hr hlocks hK hP hD hS rfl hdg
  clear hQ
  unfold fX10_base at hf
  refine lv_iload_n hx hb dX10_base_0 rfl (lv_at hl 1 rfl) ?_
  refine lv_bipush (v := 10) hx hb dX10_base_1 (by decide) ?_
  refine lv_ldc (v := 100000) hx hb hown kc_88 dX10_base_3 ?_
  obtain ⟨r1, hc2, hf⟩ := ob_some hf
  refine af_iR (va_runS (As := [.int x1, .int 10, .int 100000]) (rest := []) ⟨hx, hb, hml, hown, hts⟩ (k_X10_in l G cI cJ (x0 := x1) (x1 := 10) (x2 := 100000) (sz := _) (hf := hc2)) (va_cwS 3 hts gX10_base_X10_in rfl rfl rfl (by decide +kernel) ⟨Nat.le_of_ble_eq_true rfl, Nat.le_of_ble_eq_true rfl⟩) (preS0 (wc := []) hK hP hD hN [] rfl rfl (by decide)) rfl rfl hl.1 rfl (lv_room (Nat.le_of_ble_eq_true rfl)) dX10_base_5 ⟨Nat.zero_le _, Nat.zero_le _⟩) hP hD hS hA [] rfl (fun H locs hP hS => ?_)
  refine lv_if_eq (tgt := 22) hx hb dX10_base_8 (by decide) (fun c3 => ?_) (fun c3 => ?_)
  · have hf := ift hf c3
    refine lv_bipush (v := (-2)) hx hb dX10_base_22 (by decide) ?_
    exact hret (-2) t_baseWay t_slip 24 _ _ _ dX10_base_24 hf hP hD hS
  · have hf := iff_ hf c3
    refine lv_iload_n hx hb dX10_base_11 rfl (lv_at hl 2 rfl) ?_
    refine lv_iconst (v := 0) hx hb dX10_base_12 (by decide) ?_
    refine lv_sipush (v := 1000) hx hb dX10_base_13 (by decide) ?_
    obtain ⟨r4, hc5, hf⟩ := ob_some hf
    refine af_iR (va_runS (As := [.int x2, .int 0, .int 1000]) (rest := []) ⟨hx, hb, hml, hown, hts⟩ (k_X10_in l G cI cJ (x0 := x2) (x1 := 0) (x2 := 1000) (sz := _) (hf := hc5)) (va_cwS 3 hts gX10_base_X10_in rfl rfl rfl (by decide +kernel) ⟨Nat.le_of_ble_eq_true rfl, Nat.le_of_ble_eq_true rfl⟩) (preS0 (wc := []) hK hP hD hN [] rfl rfl (by decide)) rfl rfl hl.1 rfl (lv_room (Nat.le_of_ble_eq_true rfl)) dX10_base_16 ⟨Nat.zero_le _, Nat.zero_le _⟩) hP hD hS hA [] rfl (fun H locs hP hS => ?_)
    refine lv_if_ne (tgt := 25) hx hb dX10_base_19 (by decide) (fun c6 => ?_) (fun c6 => ?_)
    · have hf := iff_ hf c6
      refine lv_aload_n hx hb dX10_base_25 rfl (lv_at hl 0 rfl) ?_
      refine lv_iload_n hx hb dX10_base_26 rfl (lv_at hl 1 rfl) ?_
      refine va_put (D := G) (ci := 10) (v := .int x1) (ty := .int) (C := RX10) (T := TX10) (N := 36) hx hb hts iwX10 tyX10 tyX10_ok nmX10 hown hK hP hD hS 0 rfl rfl 0 (by decide) fl_58 (fun _ h9 => h9) rfl (by decide +kernel) rfl rfl (Nat.le_of_ble_eq_true rfl) dX10_base_27 (fun H locs hP hD hS => ?_)
      have hP : va_P G vwCl [(t_h, .inr (10, [.int x1, .int t_slip, .int t_low, .int t_high, .int t_unlike, .int t_alone, .long t_above, .long t_below, .ref t_edges_h, .ref t_lean_h, .ref t_word_h, .int t_layers, .ref t_layer_h, .ref t_least_h, .int t_sights, .ref t_sight_h, .int t_shadows, .ref t_shadow_h, .long t_endAbove, .long t_endBelow, .long t_speedAbove, .long t_speedBelow, .int t_spans, .ref t_spanLow_h, .ref t_spanHigh_h, .ref t_spanAt_h, .int t_found, .ref t_numbers_h, .int t_pairs, .ref t_pair_h, .ref t_most_h, .int t_rows, .ref t_row_h, .int t_notes, .ref t_under_h, .ref t_agreed_h]))] H := hP
      have hD : va_D A [(t_h, .inr (10, [.int x1, .int t_slip, .int t_low, .int t_high, .int t_unlike, .int t_alone, .long t_above, .long t_below, .ref t_edges_h, .ref t_lean_h, .ref t_word_h, .int t_layers, .ref t_layer_h, .ref t_least_h, .int t_sights, .ref t_sight_h, .int t_shadows, .ref t_shadow_h, .long t_endAbove, .long t_endBelow, .long t_speedAbove, .long t_speedBelow, .int t_spans, .ref t_spanLow_h, .ref t_spanHigh_h, .ref t_spanAt_h, .int t_found, .ref t_numbers_h, .int t_pairs, .ref t_pair_h, .ref t_most_h, .int t_rows, .ref t_row_h, .int t_notes, .ref t_under_h, .ref t_agreed_h]))] := hD
      refine lv_aload_n hx hb dX10_base_30 rfl (lv_at hl 0 rfl) ?_
      refine lv_iload_n hx hb dX10_base_31 rfl (lv_at hl 2 rfl) ?_
      refine va_put (D := G) (ci := 10) (v := .int x2) (ty := .int) (C := RX10) (T := TX10) (N := 36) hx hb hts iwX10 tyX10 tyX10_ok nmX10 hown hK hP hD hS 0 rfl rfl 1 (by decide) fl_62 (fun _ h9 => h9) rfl (by decide +kernel) rfl rfl (Nat.le_of_ble_eq_true rfl) dX10_base_32 (fun H locs hP hD hS => ?_)
      have hP : va_P G vwCl [(t_h, .inr (10, [.int x1, .int x2, .int t_low, .int t_high, .int t_unlike, .int t_alone, .long t_above, .long t_below, .ref t_edges_h, .ref t_lean_h, .ref t_word_h, .int t_layers, .ref t_layer_h, .ref t_least_h, .int t_sights, .ref t_sight_h, .int t_shadows, .ref t_shadow_h, .long t_endAbove, .long t_endBelow, .long t_speedAbove, .long t_speedBelow, .int t_spans, .ref t_spanLow_h, .ref t_spanHigh_h, .ref t_spanAt_h, .int t_found, .ref t_numbers_h, .int t_pairs, .ref t_pair_h, .ref t_most_h, .int t_rows, .ref t_row_h, .int t_notes, .ref t_under_h, .ref t_agreed_h]))] H := hP
      have hD : va_D A [(t_h, .inr (10, [.int x1, .int x2, .int t_low, .int t_high, .int t_unlike, .int t_alone, .long t_above, .long t_below, .ref t_edges_h, .ref t_lean_h, .ref t_word_h, .int t_layers, .ref t_layer_h, .ref t_least_h, .int t_sights, .ref t_sight_h, .int t_shadows, .ref t_shadow_h, .long t_endAbove, .long t_endBelow, .long t_speedAbove, .long t_speedBelow, .int t_spans, .ref t_spanLow_h, .ref t_spanHigh_h, .ref t_spanAt_h, .int t_found, .ref t_numbers_h, .int t_pairs, .ref t_pair_h, .ref t_most_h, .int t_rows, .ref t_row_h, .int t_notes, .ref t_under_h, .ref t_agreed_h]))] := hD
      refine lv_iconst (v := 1) hx hb dX10_base_35 (by decide) ?_
      exact hret 1 x1 x2 36 _ _ _ dX10_base_36 hf hP hD hS
    · have hf := ift hf c6
      refine lv_bipush (v := (-2)) hx hb dX10_base_22 (by decide) ?_
      exact hret (-2) t_baseWay t_slip 24 _ _ _ dX10_base_24 hf hP hD hS
set_option maxRecDepth 20000 in
theorem ggX10_isLean_X10_in : GoodIn wsX10_isLean wsX10_in := goodIn_r _ [4] (by decide +kernel) (by decide +kernel)
set_option maxRecDepth 20000 in
theorem gX10_isLean_X10_in : GoodIn wsX10_isLean (va_wsS RX10 89 yX10_in wsX10_in) := goodIn_app (goodIn_of _ (by decide +kernel)) ggX10_isLean_X10_in
theorem dX10_isLean_0 : decode cX10_isLean 0 = .ok (.iload_n 0, 1) := by decide +kernel
theorem dX10_isLean_1 : decode cX10_isLean 1 = .ok (.sipush (-20000), 3) := by decide +kernel
theorem dX10_isLean_4 : decode cX10_isLean 4 = .ok (.sipush 20000, 3) := by decide +kernel
theorem dX10_isLean_7 : decode cX10_isLean 7 = .ok (.invokestatic 89, 3) := by decide +kernel
theorem dX10_isLean_10 : decode cX10_isLean 10 = .ok (.ireturn, 1) := by decide +kernel
set_option maxRecDepth 100000 in
def fX10_isLean (x0 : Int32) : Option (Bool) :=
  ob (fX10_in x0 (-20000) 20000) fun r1 =>
  some r1
abbrev rmX10_isLean : Room := { frames := 1, cells := 0, slots := 0, locals := 22 }
set_option maxHeartbeats 4000000 in
set_option maxRecDepth 100000 in
theorem k_X10_isLean (l : Launch) (G : va_G) (cI cJ : ClassId) (sz : Nat) (x0 : Int32) {o_r : Bool} (hf : fX10_isLean x0 = some o_r) : MetI l yX10_isLean wsX10_isLean rmX10_isLean [.int x0] G cI cJ [] [] sz (b2i o_r) := by
  refine en_0 (l := l) (y := yX10_isLean) (wsl := wsX10_isLean) (rm := rmX10_isLean) (av := [.int x0]) (G := G) (cI := cI) (cJ := cJ) (w0 := []) (sz := sz) (Qf := fun A => Qi0 G cI cJ [] (b2i o_r) A) (cc := cX10_isLean) (maxL := 1) (ret := (some .boolean)) RX10 (by decide +kernel) rfl rfl (Nat.le_of_ble_eq_true rfl) ?_
  intro p e s m args below meth c A ls Q hQ hx hb hr hts hown hlocks hml hN hK hP hD hS hA hl
  have hl : lv_has ls 1 [(0, .int x0)] := hl
  have hret : ∀ (o_r9 : Bool) (pc : Nat) (H : Heap) (locs : List Loc) (ls : Array Slot), decode cX10_isLean pc = .ok (.ireturn, 1) → some o_r9 = some o_r → va_P G vwCl [] H → va_D A [] → va_S A s.heap H locs → W p l e rmX10_isLean s m args below meth c H locs 0 0 Q (F0 m pc ls [.int (b2i o_r9)]) := by
    intro o_r9 pc H locs ls hdg he hP hD hS
    cases he
    subst hQ
    exact rt_z hx hb hr hlocks hK hP hD hS (b2i_narrow _) rfl hdg
  clear hQ
  unfold fX10_isLean at hf
  refine lv_iload_n hx hb dX10_isLean_0 rfl (lv_at hl 0 rfl) ?_
  refine lv_sipush (v := (-20000)) hx hb dX10_isLean_1 (by decide) ?_
  refine lv_sipush (v := 20000) hx hb dX10_isLean_4 (by decide) ?_
  obtain ⟨r1, hc2, hf⟩ := ob_some hf
  refine af_iR (va_runS (As := [.int x0, .int (-20000), .int 20000]) (rest := []) ⟨hx, hb, hml, hown, hts⟩ (k_X10_in l G cI cJ (x0 := x0) (x1 := (-20000)) (x2 := 20000) (sz := _) (hf := hc2)) (va_cwS 3 hts gX10_isLean_X10_in rfl rfl rfl (by decide +kernel) ⟨Nat.le_of_ble_eq_true rfl, Nat.le_of_ble_eq_true rfl⟩) (preS0 (wc := []) hK hP hD hN [] rfl rfl (by decide)) rfl rfl hl.1 rfl (lv_room (Nat.le_of_ble_eq_true rfl)) dX10_isLean_7 ⟨Nat.zero_le _, Nat.zero_le _⟩) hP hD hS hA [] rfl (fun H locs hP hS => ?_)
  exact hret r1 10 _ _ _ dX10_isLean_10 hf hP hD hS
set_option maxRecDepth 20000 in
theorem ggX10_edge_X10_in : GoodIn wsX10_edge wsX10_in := goodIn_r _ [7] (by decide +kernel) (by decide +kernel)
set_option maxRecDepth 20000 in
theorem gX10_edge_X10_in : GoodIn wsX10_edge (va_wsS RX10 89 yX10_in wsX10_in) := goodIn_app (goodIn_of _ (by decide +kernel)) ggX10_edge_X10_in
set_option maxRecDepth 20000 in
theorem ggX10_edge_X10_isLean : GoodIn wsX10_edge wsX10_isLean := goodIn_r _ [10, 4, 5, 6, 7] (by decide +kernel) (by decide +kernel)
set_option maxRecDepth 20000 in
theorem gX10_edge_X10_isLean : GoodIn wsX10_edge (va_wsS RX10 93 yX10_isLean wsX10_isLean) := goodIn_app (goodIn_of _ (by decide +kernel)) ggX10_edge_X10_isLean
theorem dX10_edge_0 : decode cX10_edge 0 = .ok (.iload_n 1, 1) := by decide +kernel
theorem dX10_edge_1 : decode cX10_edge 1 = .ok (.iconst 0, 1) := by decide +kernel
theorem dX10_edge_2 : decode cX10_edge 2 = .ok (.iconst 1, 1) := by decide +kernel
theorem dX10_edge_3 : decode cX10_edge 3 = .ok (.invokestatic 89, 3) := by decide +kernel
theorem dX10_edge_6 : decode cX10_edge 6 = .ok (.ifCond .eq 20, 3) := by decide +kernel
theorem dX10_edge_9 : decode cX10_edge 9 = .ok (.iload_n 2, 1) := by decide +kernel
theorem dX10_edge_10 : decode cX10_edge 10 = .ok (.invokestatic 93, 3) := by decide +kernel
theorem dX10_edge_13 : decode cX10_edge 13 = .ok (.ifCond .eq 13, 3) := by decide +kernel
theorem dX10_edge_16 : decode cX10_edge 16 = .ok (.iload_n 3, 1) := by decide +kernel
theorem dX10_edge_17 : decode cX10_edge 17 = .ok (.iconst 0, 1) := by decide +kernel
theorem dX10_edge_18 : decode cX10_edge 18 = .ok (.bipush 9, 2) := by decide +kernel
theorem dX10_edge_20 : decode cX10_edge 20 = .ok (.invokestatic 89, 3) := by decide +kernel
theorem dX10_edge_23 : decode cX10_edge 23 = .ok (.ifCond .ne 6, 3) := by decide +kernel
theorem dX10_edge_26 : decode cX10_edge 26 = .ok (.bipush (-2), 2) := by decide +kernel
theorem dX10_edge_28 : decode cX10_edge 28 = .ok (.ireturn, 1) := by decide +kernel
theorem dX10_edge_29 : decode cX10_edge 29 = .ok (.aload_n 0, 1) := by decide +kernel
theorem dX10_edge_30 : decode cX10_edge 30 = .ok (.getfield 7, 3) := by decide +kernel
theorem dX10_edge_33 : decode cX10_edge 33 = .ok (.iload_n 1, 1) := by decide +kernel
theorem dX10_edge_34 : decode cX10_edge 34 = .ok (.iaload, 1) := by decide +kernel
theorem dX10_edge_35 : decode cX10_edge 35 = .ok (.bipush 8, 2) := by decide +kernel
theorem dX10_edge_37 : decode cX10_edge 37 = .ok (.if_icmp .ne 6, 3) := by decide +kernel
theorem dX10_edge_40 : decode cX10_edge 40 = .ok (.bipush (-4), 2) := by decide +kernel
theorem dX10_edge_42 : decode cX10_edge 42 = .ok (.ireturn, 1) := by decide +kernel
theorem dX10_edge_43 : decode cX10_edge 43 = .ok (.aload_n 0, 1) := by decide +kernel
theorem dX10_edge_44 : decode cX10_edge 44 = .ok (.getfield 13, 3) := by decide +kernel
theorem dX10_edge_47 : decode cX10_edge 47 = .ok (.bipush 8, 2) := by decide +kernel
theorem dX10_edge_49 : decode cX10_edge 49 = .ok (.iload_n 1, 1) := by decide +kernel
theorem dX10_edge_50 : decode cX10_edge 50 = .ok (.imul, 1) := by decide +kernel
theorem dX10_edge_51 : decode cX10_edge 51 = .ok (.aload_n 0, 1) := by decide +kernel
theorem dX10_edge_52 : decode cX10_edge 52 = .ok (.getfield 7, 3) := by decide +kernel
theorem dX10_edge_55 : decode cX10_edge 55 = .ok (.iload_n 1, 1) := by decide +kernel
theorem dX10_edge_56 : decode cX10_edge 56 = .ok (.iaload, 1) := by decide +kernel
theorem dX10_edge_57 : decode cX10_edge 57 = .ok (.iadd, 1) := by decide +kernel
theorem dX10_edge_58 : decode cX10_edge 58 = .ok (.iload_n 2, 1) := by decide +kernel
theorem dX10_edge_59 : decode cX10_edge 59 = .ok (.iastore, 1) := by decide +kernel
theorem dX10_edge_60 : decode cX10_edge 60 = .ok (.aload_n 0, 1) := by decide +kernel
theorem dX10_edge_61 : decode cX10_edge 61 = .ok (.getfield 16, 3) := by decide +kernel
theorem dX10_edge_64 : decode cX10_edge 64 = .ok (.bipush 8, 2) := by decide +kernel
theorem dX10_edge_66 : decode cX10_edge 66 = .ok (.iload_n 1, 1) := by decide +kernel
theorem dX10_edge_67 : decode cX10_edge 67 = .ok (.imul, 1) := by decide +kernel
theorem dX10_edge_68 : decode cX10_edge 68 = .ok (.aload_n 0, 1) := by decide +kernel
theorem dX10_edge_69 : decode cX10_edge 69 = .ok (.getfield 7, 3) := by decide +kernel
theorem dX10_edge_72 : decode cX10_edge 72 = .ok (.iload_n 1, 1) := by decide +kernel
theorem dX10_edge_73 : decode cX10_edge 73 = .ok (.iaload, 1) := by decide +kernel
theorem dX10_edge_74 : decode cX10_edge 74 = .ok (.iadd, 1) := by decide +kernel
theorem dX10_edge_75 : decode cX10_edge 75 = .ok (.iload_n 3, 1) := by decide +kernel
theorem dX10_edge_76 : decode cX10_edge 76 = .ok (.iastore, 1) := by decide +kernel
theorem dX10_edge_77 : decode cX10_edge 77 = .ok (.aload_n 0, 1) := by decide +kernel
theorem dX10_edge_78 : decode cX10_edge 78 = .ok (.getfield 7, 3) := by decide +kernel
theorem dX10_edge_81 : decode cX10_edge 81 = .ok (.iload_n 1, 1) := by decide +kernel
theorem dX10_edge_82 : decode cX10_edge 82 = .ok (.dup2, 1) := by decide +kernel
theorem dX10_edge_83 : decode cX10_edge 83 = .ok (.iaload, 1) := by decide +kernel
theorem dX10_edge_84 : decode cX10_edge 84 = .ok (.iconst 1, 1) := by decide +kernel
theorem dX10_edge_85 : decode cX10_edge 85 = .ok (.iadd, 1) := by decide +kernel
theorem dX10_edge_86 : decode cX10_edge 86 = .ok (.iastore, 1) := by decide +kernel
theorem dX10_edge_87 : decode cX10_edge 87 = .ok (.aload_n 0, 1) := by decide +kernel
theorem dX10_edge_88 : decode cX10_edge 88 = .ok (.getfield 7, 3) := by decide +kernel
theorem dX10_edge_91 : decode cX10_edge 91 = .ok (.iload_n 1, 1) := by decide +kernel
theorem dX10_edge_92 : decode cX10_edge 92 = .ok (.iaload, 1) := by decide +kernel
theorem dX10_edge_93 : decode cX10_edge 93 = .ok (.ireturn, 1) := by decide +kernel
set_option maxRecDepth 100000 in
def fX10_edge (x1 : Int32) (x2 : Int32) (x3 : Int32) (t_edges_a : Nat → Int32) (t_lean_a : Nat → Int32) (t_word_a : Nat → Int32) : Option (Int32 × (Nat → Int32) × (Nat → Int32) × (Nat → Int32)) :=
  ob (fX10_in x1 0 1) fun r1 =>
  if (b2i r1) = 0 then
    some ((-2), t_edges_a, t_lean_a, t_word_a)
  else
    ob (fX10_isLean x2) fun r4 =>
    if (b2i r4) = 0 then
      some ((-2), t_edges_a, t_lean_a, t_word_a)
    else
      ob (fX10_in x3 0 9) fun r7 =>
      if (b2i r7) = 0 then
        some ((-2), t_edges_a, t_lean_a, t_word_a)
      else
        gd (bnd x1 2) <|
        if (t_edges_a (Int32.toNatClampNeg x1)) = 8 then
          some ((-4), t_edges_a, t_lean_a, t_word_a)
        else
          gd (bnd x1 2) <|
          gd (bnd ((8 * x1) + (t_edges_a (Int32.toNatClampNeg x1))) 16) <|
          bv (upd t_lean_a (Int32.toNatClampNeg ((8 * x1) + (t_edges_a (Int32.toNatClampNeg x1)))) x2) fun a14 =>
          gd (bnd x1 2) <|
          gd (bnd ((8 * x1) + (t_edges_a (Int32.toNatClampNeg x1))) 16) <|
          bv (upd t_word_a (Int32.toNatClampNeg ((8 * x1) + (t_edges_a (Int32.toNatClampNeg x1)))) x3) fun a17 =>
          gd (bnd x1 2) <|
          bv ((t_edges_a (Int32.toNatClampNeg x1)) + 1) fun v19 =>
          gd (bnd x1 2) <|
          bv (upd t_edges_a (Int32.toNatClampNeg x1) v19) fun a21 =>
          gd (bnd x1 2) <|
          some (a21 (Int32.toNatClampNeg x1), a21, a14, a17)
abbrev rmX10_edge : Room := { frames := 2, cells := 0, slots := 0, locals := 42 }
theorem iwX10_edge_X10 : ∀ w ∈ u_ws RX10 TX10 36, w ∈ wsX10_edge := by decide +kernel
set_option maxHeartbeats 4000000 in
set_option maxRecDepth 100000 in
theorem k_X10_edge (l : Launch) (G : va_G) (cI cJ : ClassId) (t_h t_edges_h t_lean_h t_word_h t_layer_h t_least_h t_sight_h t_shadow_h t_spanLow_h t_spanHigh_h t_spanAt_h t_numbers_h t_pair_h t_most_h t_row_h t_under_h t_agreed_h : Nat) (sz : Nat) (t_baseWay : Int32) (t_slip : Int32) (t_low : Int32) (t_high : Int32) (t_unlike : Int32) (t_alone : Int32) (t_above : Int64) (t_below : Int64) (t_layers : Int32) (t_sights : Int32) (t_shadows : Int32) (t_endAbove : Int64) (t_endBelow : Int64) (t_speedAbove : Int64) (t_speedBelow : Int64) (t_spans : Int32) (t_found : Int32) (t_pairs : Int32) (t_rows : Int32) (t_notes : Int32) (t_edges_a : Nat → Int32) (t_lean_a : Nat → Int32) (t_word_a : Nat → Int32) (x1 : Int32) (x2 : Int32) (x3 : Int32) {o_r : Int32} {o_t_edges_a : Nat → Int32} {o_t_lean_a : Nat → Int32} {o_t_word_a : Nat → Int32} (hf : fX10_edge x1 x2 x3 t_edges_a t_lean_a t_word_a = some (o_r, o_t_edges_a, o_t_lean_a, o_t_word_a)) : MetI l yX10_edge wsX10_edge rmX10_edge [.ref t_h, .int x1, .int x2, .int x3] G cI cJ [(t_h, .inr (10, [.int t_baseWay, .int t_slip, .int t_low, .int t_high, .int t_unlike, .int t_alone, .long t_above, .long t_below, .ref t_edges_h, .ref t_lean_h, .ref t_word_h, .int t_layers, .ref t_layer_h, .ref t_least_h, .int t_sights, .ref t_sight_h, .int t_shadows, .ref t_shadow_h, .long t_endAbove, .long t_endBelow, .long t_speedAbove, .long t_speedBelow, .int t_spans, .ref t_spanLow_h, .ref t_spanHigh_h, .ref t_spanAt_h, .int t_found, .ref t_numbers_h, .int t_pairs, .ref t_pair_h, .ref t_most_h, .int t_rows, .ref t_row_h, .int t_notes, .ref t_under_h, .ref t_agreed_h])), (t_edges_h, .inl (cI, 2, .inl t_edges_a)), (t_lean_h, .inl (cI, 16, .inl t_lean_a)), (t_word_h, .inl (cI, 16, .inl t_word_a))] [(t_h, .inr (10, [.int t_baseWay, .int t_slip, .int t_low, .int t_high, .int t_unlike, .int t_alone, .long t_above, .long t_below, .ref t_edges_h, .ref t_lean_h, .ref t_word_h, .int t_layers, .ref t_layer_h, .ref t_least_h, .int t_sights, .ref t_sight_h, .int t_shadows, .ref t_shadow_h, .long t_endAbove, .long t_endBelow, .long t_speedAbove, .long t_speedBelow, .int t_spans, .ref t_spanLow_h, .ref t_spanHigh_h, .ref t_spanAt_h, .int t_found, .ref t_numbers_h, .int t_pairs, .ref t_pair_h, .ref t_most_h, .int t_rows, .ref t_row_h, .int t_notes, .ref t_under_h, .ref t_agreed_h])), (t_edges_h, .inl (cI, 2, .inl o_t_edges_a)), (t_lean_h, .inl (cI, 16, .inl o_t_lean_a)), (t_word_h, .inl (cI, 16, .inl o_t_word_a))] sz o_r := by
  refine en_0 (l := l) (y := yX10_edge) (wsl := wsX10_edge) (rm := rmX10_edge) (av := [.ref t_h, .int x1, .int x2, .int x3]) (G := G) (cI := cI) (cJ := cJ) (w0 := [(t_h, .inr (10, [.int t_baseWay, .int t_slip, .int t_low, .int t_high, .int t_unlike, .int t_alone, .long t_above, .long t_below, .ref t_edges_h, .ref t_lean_h, .ref t_word_h, .int t_layers, .ref t_layer_h, .ref t_least_h, .int t_sights, .ref t_sight_h, .int t_shadows, .ref t_shadow_h, .long t_endAbove, .long t_endBelow, .long t_speedAbove, .long t_speedBelow, .int t_spans, .ref t_spanLow_h, .ref t_spanHigh_h, .ref t_spanAt_h, .int t_found, .ref t_numbers_h, .int t_pairs, .ref t_pair_h, .ref t_most_h, .int t_rows, .ref t_row_h, .int t_notes, .ref t_under_h, .ref t_agreed_h])), (t_edges_h, .inl (cI, 2, .inl t_edges_a)), (t_lean_h, .inl (cI, 16, .inl t_lean_a)), (t_word_h, .inl (cI, 16, .inl t_word_a))]) (sz := sz) (Qf := fun A => Qi0 G cI cJ [(t_h, .inr (10, [.int t_baseWay, .int t_slip, .int t_low, .int t_high, .int t_unlike, .int t_alone, .long t_above, .long t_below, .ref t_edges_h, .ref t_lean_h, .ref t_word_h, .int t_layers, .ref t_layer_h, .ref t_least_h, .int t_sights, .ref t_sight_h, .int t_shadows, .ref t_shadow_h, .long t_endAbove, .long t_endBelow, .long t_speedAbove, .long t_speedBelow, .int t_spans, .ref t_spanLow_h, .ref t_spanHigh_h, .ref t_spanAt_h, .int t_found, .ref t_numbers_h, .int t_pairs, .ref t_pair_h, .ref t_most_h, .int t_rows, .ref t_row_h, .int t_notes, .ref t_under_h, .ref t_agreed_h])), (t_edges_h, .inl (cI, 2, .inl o_t_edges_a)), (t_lean_h, .inl (cI, 16, .inl o_t_lean_a)), (t_word_h, .inl (cI, 16, .inl o_t_word_a))] o_r A) (cc := cX10_edge) (maxL := 4) (ret := (some .int)) RX10 (by decide +kernel) rfl rfl (Nat.le_of_ble_eq_true rfl) ?_
  intro p e s m args below meth c A ls Q hQ hx hb hr hts hown hlocks hml hN hK hP hD hS hA hl
  have hl : lv_has ls 4 [(0, .ref t_h), (1, .int x1), (2, .int x2), (3, .int x3)] := hl
  have iwX10 := iwX10_edge_X10
  have fl_7 := hts (.fieldLink RX10 7 "CloudOfficeModel" "edges" "[I") (by decide +kernel)
  have fl_13 := hts (.fieldLink RX10 13 "CloudOfficeModel" "lean" "[I") (by decide +kernel)
  have fl_16 := hts (.fieldLink RX10 16 "CloudOfficeModel" "word" "[I") (by decide +kernel)
  have hret : ∀ (o_r9 : Int32) (o_t_edges_a9 : Nat → Int32) (o_t_lean_a9 : Nat → Int32) (o_t_word_a9 : Nat → Int32) (pc : Nat) (H : Heap) (locs : List Loc) (ls : Array Slot), decode cX10_edge pc = .ok (.ireturn, 1) → some (o_r9, o_t_edges_a9, o_t_lean_a9, o_t_word_a9) = some (o_r, o_t_edges_a, o_t_lean_a, o_t_word_a) → va_P G vwCl [(t_h, .inr (10, [.int t_baseWay, .int t_slip, .int t_low, .int t_high, .int t_unlike, .int t_alone, .long t_above, .long t_below, .ref t_edges_h, .ref t_lean_h, .ref t_word_h, .int t_layers, .ref t_layer_h, .ref t_least_h, .int t_sights, .ref t_sight_h, .int t_shadows, .ref t_shadow_h, .long t_endAbove, .long t_endBelow, .long t_speedAbove, .long t_speedBelow, .int t_spans, .ref t_spanLow_h, .ref t_spanHigh_h, .ref t_spanAt_h, .int t_found, .ref t_numbers_h, .int t_pairs, .ref t_pair_h, .ref t_most_h, .int t_rows, .ref t_row_h, .int t_notes, .ref t_under_h, .ref t_agreed_h])), (t_edges_h, .inl (cI, 2, .inl o_t_edges_a9)), (t_lean_h, .inl (cI, 16, .inl o_t_lean_a9)), (t_word_h, .inl (cI, 16, .inl o_t_word_a9))] H → va_D A [(t_h, .inr (10, [.int t_baseWay, .int t_slip, .int t_low, .int t_high, .int t_unlike, .int t_alone, .long t_above, .long t_below, .ref t_edges_h, .ref t_lean_h, .ref t_word_h, .int t_layers, .ref t_layer_h, .ref t_least_h, .int t_sights, .ref t_sight_h, .int t_shadows, .ref t_shadow_h, .long t_endAbove, .long t_endBelow, .long t_speedAbove, .long t_speedBelow, .int t_spans, .ref t_spanLow_h, .ref t_spanHigh_h, .ref t_spanAt_h, .int t_found, .ref t_numbers_h, .int t_pairs, .ref t_pair_h, .ref t_most_h, .int t_rows, .ref t_row_h, .int t_notes, .ref t_under_h, .ref t_agreed_h])), (t_edges_h, .inl (cI, 2, .inl o_t_edges_a9)), (t_lean_h, .inl (cI, 16, .inl o_t_lean_a9)), (t_word_h, .inl (cI, 16, .inl o_t_word_a9))] → va_S A s.heap H locs → W p l e rmX10_edge s m args below meth c H locs 0 0 Q (F0 m pc ls [.int o_r9]) := by
    intro o_r9 o_t_edges_a9 o_t_lean_a9 o_t_word_a9 pc H locs ls hdg he hP hD hS
    cases he
    subst hQ
    exact rt_i hx hb hr hlocks hK hP hD hS rfl hdg
  clear hQ
  unfold fX10_edge at hf
  refine lv_iload_n hx hb dX10_edge_0 rfl (lv_at hl 1 rfl) ?_
  refine lv_iconst (v := 0) hx hb dX10_edge_1 (by decide) ?_
  refine lv_iconst (v := 1) hx hb dX10_edge_2 (by decide) ?_
  obtain ⟨r1, hc2, hf⟩ := ob_some hf
  refine af_iR (va_runS (As := [.int x1, .int 0, .int 1]) (rest := []) ⟨hx, hb, hml, hown, hts⟩ (k_X10_in l G cI cJ (x0 := x1) (x1 := 0) (x2 := 1) (sz := _) (hf := hc2)) (va_cwS 3 hts gX10_edge_X10_in rfl rfl rfl (by decide +kernel) ⟨Nat.le_of_ble_eq_true rfl, Nat.le_of_ble_eq_true rfl⟩) (preS0 (wc := []) hK hP hD hN [] rfl rfl (by decide)) rfl rfl hl.1 rfl (lv_room (Nat.le_of_ble_eq_true rfl)) dX10_edge_3 ⟨Nat.zero_le _, Nat.zero_le _⟩) hP hD hS hA [] rfl (fun H locs hP hS => ?_)
  refine lv_if_eq (tgt := 26) hx hb dX10_edge_6 (by decide) (fun c3 => ?_) (fun c3 => ?_)
  · have hf := ift hf c3
    refine lv_bipush (v := (-2)) hx hb dX10_edge_26 (by decide) ?_
    exact hret (-2) t_edges_a t_lean_a t_word_a 28 _ _ _ dX10_edge_28 hf hP hD hS
  · have hf := iff_ hf c3
    refine lv_iload_n hx hb dX10_edge_9 rfl (lv_at hl 2 rfl) ?_
    obtain ⟨r4, hc5, hf⟩ := ob_some hf
    refine af_iR (va_runS (As := [.int x2]) (rest := []) ⟨hx, hb, hml, hown, hts⟩ (k_X10_isLean l G cI cJ (x0 := x2) (sz := _) (hf := hc5)) (va_cwS 1 hts gX10_edge_X10_isLean rfl rfl rfl (by decide +kernel) ⟨Nat.le_of_ble_eq_true rfl, Nat.le_of_ble_eq_true rfl⟩) (preS0 (wc := []) hK hP hD hN [] rfl rfl (by decide)) rfl rfl hl.1 rfl (lv_room (Nat.le_of_ble_eq_true rfl)) dX10_edge_10 ⟨Nat.zero_le _, Nat.zero_le _⟩) hP hD hS hA [] rfl (fun H locs hP hS => ?_)
    refine lv_if_eq (tgt := 26) hx hb dX10_edge_13 (by decide) (fun c6 => ?_) (fun c6 => ?_)
    · have hf := ift hf c6
      refine lv_bipush (v := (-2)) hx hb dX10_edge_26 (by decide) ?_
      exact hret (-2) t_edges_a t_lean_a t_word_a 28 _ _ _ dX10_edge_28 hf hP hD hS
    · have hf := iff_ hf c6
      refine lv_iload_n hx hb dX10_edge_16 rfl (lv_at hl 3 rfl) ?_
      refine lv_iconst (v := 0) hx hb dX10_edge_17 (by decide) ?_
      refine lv_bipush (v := 9) hx hb dX10_edge_18 (by decide) ?_
      obtain ⟨r7, hc8, hf⟩ := ob_some hf
      refine af_iR (va_runS (As := [.int x3, .int 0, .int 9]) (rest := []) ⟨hx, hb, hml, hown, hts⟩ (k_X10_in l G cI cJ (x0 := x3) (x1 := 0) (x2 := 9) (sz := _) (hf := hc8)) (va_cwS 3 hts gX10_edge_X10_in rfl rfl rfl (by decide +kernel) ⟨Nat.le_of_ble_eq_true rfl, Nat.le_of_ble_eq_true rfl⟩) (preS0 (wc := []) hK hP hD hN [] rfl rfl (by decide)) rfl rfl hl.1 rfl (lv_room (Nat.le_of_ble_eq_true rfl)) dX10_edge_20 ⟨Nat.zero_le _, Nat.zero_le _⟩) hP hD hS hA [] rfl (fun H locs hP hS => ?_)
      refine lv_if_ne (tgt := 29) hx hb dX10_edge_23 (by decide) (fun c9 => ?_) (fun c9 => ?_)
      · have hf := iff_ hf c9
        refine lv_aload_n hx hb dX10_edge_29 rfl (lv_at hl 0 rfl) ?_
        refine va_get (D := G) (ci := 10) (v := .ref t_edges_h) (C := RX10) (T := TX10) (N := 36) hx hb hts iwX10 hown hK hP 0 rfl rfl 8 (by decide) fl_7 (fun _ h9 => h9) rfl dX10_edge_30 ?_
        refine lv_iload_n hx hb dX10_edge_33 rfl (lv_at hl 1 rfl) ?_
        obtain ⟨h10, hf⟩ := gd_some hf
        refine va_iald hx hb hK hP 1 0 rfl rfl (bnd_in h10) dX10_edge_34 ?_
        refine lv_bipush (v := 8) hx hb dX10_edge_35 (by decide) ?_
        refine lv_icmp_ne (tgt := 43) hx hb dX10_edge_37 (by decide) (fun c11 => ?_) (fun c11 => ?_)
        · have hf := iff_ hf c11
          refine lv_aload_n hx hb dX10_edge_43 rfl (lv_at hl 0 rfl) ?_
          refine va_get (D := G) (ci := 10) (v := .ref t_lean_h) (C := RX10) (T := TX10) (N := 36) hx hb hts iwX10 hown hK hP 0 rfl rfl 9 (by decide) fl_13 (fun _ h9 => h9) rfl dX10_edge_44 ?_
          refine lv_bipush (v := 8) hx hb dX10_edge_47 (by decide) ?_
          refine lv_iload_n hx hb dX10_edge_49 rfl (lv_at hl 1 rfl) ?_
          refine lv_imul hx hb dX10_edge_50 ?_
          refine lv_aload_n hx hb dX10_edge_51 rfl (lv_at hl 0 rfl) ?_
          refine va_get (D := G) (ci := 10) (v := .ref t_edges_h) (C := RX10) (T := TX10) (N := 36) hx hb hts iwX10 hown hK hP 0 rfl rfl 8 (by decide) fl_7 (fun _ h9 => h9) rfl dX10_edge_52 ?_
          refine lv_iload_n hx hb dX10_edge_55 rfl (lv_at hl 1 rfl) ?_
          obtain ⟨h12, hf⟩ := gd_some hf
          refine va_iald hx hb hK hP 1 0 rfl rfl (bnd_in h12) dX10_edge_56 ?_
          refine lv_iadd hx hb dX10_edge_57 ?_
          refine lv_iload_n hx hb dX10_edge_58 rfl (lv_at hl 2 rfl) ?_
          obtain ⟨h13, hf⟩ := gd_some hf
          obtain ⟨a14, ea14⟩ : ∃ y : Nat → Int32, y = upd t_lean_a (Int32.toNatClampNeg ((8 * x1) + (t_edges_a (Int32.toNatClampNeg x1)))) x2 := ⟨_, rfl⟩
          have hf := bv_at ea14 hf
          refine va_iast hx hb hK hP hD hS 2 0 rfl rfl (bnd_in h13) dX10_edge_59 (fun H locs hP hD hS => ?_)
          have hP : va_P G vwCl [(t_h, .inr (10, [.int t_baseWay, .int t_slip, .int t_low, .int t_high, .int t_unlike, .int t_alone, .long t_above, .long t_below, .ref t_edges_h, .ref t_lean_h, .ref t_word_h, .int t_layers, .ref t_layer_h, .ref t_least_h, .int t_sights, .ref t_sight_h, .int t_shadows, .ref t_shadow_h, .long t_endAbove, .long t_endBelow, .long t_speedAbove, .long t_speedBelow, .int t_spans, .ref t_spanLow_h, .ref t_spanHigh_h, .ref t_spanAt_h, .int t_found, .ref t_numbers_h, .int t_pairs, .ref t_pair_h, .ref t_most_h, .int t_rows, .ref t_row_h, .int t_notes, .ref t_under_h, .ref t_agreed_h])), (t_edges_h, .inl (cI, 2, .inl t_edges_a)), (t_lean_h, .inl (cI, 16, .inl a14)), (t_word_h, .inl (cI, 16, .inl t_word_a))] H := by rw [ea14]; exact hP
          have hD : va_D A [(t_h, .inr (10, [.int t_baseWay, .int t_slip, .int t_low, .int t_high, .int t_unlike, .int t_alone, .long t_above, .long t_below, .ref t_edges_h, .ref t_lean_h, .ref t_word_h, .int t_layers, .ref t_layer_h, .ref t_least_h, .int t_sights, .ref t_sight_h, .int t_shadows, .ref t_shadow_h, .long t_endAbove, .long t_endBelow, .long t_speedAbove, .long t_speedBelow, .int t_spans, .ref t_spanLow_h, .ref t_spanHigh_h, .ref t_spanAt_h, .int t_found, .ref t_numbers_h, .int t_pairs, .ref t_pair_h, .ref t_most_h, .int t_rows, .ref t_row_h, .int t_notes, .ref t_under_h, .ref t_agreed_h])), (t_edges_h, .inl (cI, 2, .inl t_edges_a)), (t_lean_h, .inl (cI, 16, .inl a14)), (t_word_h, .inl (cI, 16, .inl t_word_a))] := by rw [ea14]; exact hD
          refine lv_aload_n hx hb dX10_edge_60 rfl (lv_at hl 0 rfl) ?_
          refine va_get (D := G) (ci := 10) (v := .ref t_word_h) (C := RX10) (T := TX10) (N := 36) hx hb hts iwX10 hown hK hP 0 rfl rfl 10 (by decide) fl_16 (fun _ h9 => h9) rfl dX10_edge_61 ?_
          refine lv_bipush (v := 8) hx hb dX10_edge_64 (by decide) ?_
          refine lv_iload_n hx hb dX10_edge_66 rfl (lv_at hl 1 rfl) ?_
          refine lv_imul hx hb dX10_edge_67 ?_
          refine lv_aload_n hx hb dX10_edge_68 rfl (lv_at hl 0 rfl) ?_
          refine va_get (D := G) (ci := 10) (v := .ref t_edges_h) (C := RX10) (T := TX10) (N := 36) hx hb hts iwX10 hown hK hP 0 rfl rfl 8 (by decide) fl_7 (fun _ h9 => h9) rfl dX10_edge_69 ?_
          refine lv_iload_n hx hb dX10_edge_72 rfl (lv_at hl 1 rfl) ?_
          obtain ⟨h15, hf⟩ := gd_some hf
          refine va_iald hx hb hK hP 1 0 rfl rfl (bnd_in h15) dX10_edge_73 ?_
          refine lv_iadd hx hb dX10_edge_74 ?_
          refine lv_iload_n hx hb dX10_edge_75 rfl (lv_at hl 3 rfl) ?_
          obtain ⟨h16, hf⟩ := gd_some hf
          obtain ⟨a17, ea17⟩ : ∃ y : Nat → Int32, y = upd t_word_a (Int32.toNatClampNeg ((8 * x1) + (t_edges_a (Int32.toNatClampNeg x1)))) x3 := ⟨_, rfl⟩
          have hf := bv_at ea17 hf
          refine va_iast hx hb hK hP hD hS 3 0 rfl rfl (bnd_in h16) dX10_edge_76 (fun H locs hP hD hS => ?_)
          have hP : va_P G vwCl [(t_h, .inr (10, [.int t_baseWay, .int t_slip, .int t_low, .int t_high, .int t_unlike, .int t_alone, .long t_above, .long t_below, .ref t_edges_h, .ref t_lean_h, .ref t_word_h, .int t_layers, .ref t_layer_h, .ref t_least_h, .int t_sights, .ref t_sight_h, .int t_shadows, .ref t_shadow_h, .long t_endAbove, .long t_endBelow, .long t_speedAbove, .long t_speedBelow, .int t_spans, .ref t_spanLow_h, .ref t_spanHigh_h, .ref t_spanAt_h, .int t_found, .ref t_numbers_h, .int t_pairs, .ref t_pair_h, .ref t_most_h, .int t_rows, .ref t_row_h, .int t_notes, .ref t_under_h, .ref t_agreed_h])), (t_edges_h, .inl (cI, 2, .inl t_edges_a)), (t_lean_h, .inl (cI, 16, .inl a14)), (t_word_h, .inl (cI, 16, .inl a17))] H := by rw [ea17]; exact hP
          have hD : va_D A [(t_h, .inr (10, [.int t_baseWay, .int t_slip, .int t_low, .int t_high, .int t_unlike, .int t_alone, .long t_above, .long t_below, .ref t_edges_h, .ref t_lean_h, .ref t_word_h, .int t_layers, .ref t_layer_h, .ref t_least_h, .int t_sights, .ref t_sight_h, .int t_shadows, .ref t_shadow_h, .long t_endAbove, .long t_endBelow, .long t_speedAbove, .long t_speedBelow, .int t_spans, .ref t_spanLow_h, .ref t_spanHigh_h, .ref t_spanAt_h, .int t_found, .ref t_numbers_h, .int t_pairs, .ref t_pair_h, .ref t_most_h, .int t_rows, .ref t_row_h, .int t_notes, .ref t_under_h, .ref t_agreed_h])), (t_edges_h, .inl (cI, 2, .inl t_edges_a)), (t_lean_h, .inl (cI, 16, .inl a14)), (t_word_h, .inl (cI, 16, .inl a17))] := by rw [ea17]; exact hD
          refine lv_aload_n hx hb dX10_edge_77 rfl (lv_at hl 0 rfl) ?_
          refine va_get (D := G) (ci := 10) (v := .ref t_edges_h) (C := RX10) (T := TX10) (N := 36) hx hb hts iwX10 hown hK hP 0 rfl rfl 8 (by decide) fl_7 (fun _ h9 => h9) rfl dX10_edge_78 ?_
          refine lv_iload_n hx hb dX10_edge_81 rfl (lv_at hl 1 rfl) ?_
          refine lv_dup2_11 hx hb dX10_edge_82 rfl rfl ?_
          obtain ⟨h18, hf⟩ := gd_some hf
          refine va_iald hx hb hK hP 1 0 rfl rfl (bnd_in h18) dX10_edge_83 ?_
          refine lv_iconst (v := 1) hx hb dX10_edge_84 (by decide) ?_
          refine lv_iadd hx hb dX10_edge_85 ?_
          refine lv_topi (fun v19 ev19 => ?_)
          have hf := bv_at ev19 hf
          obtain ⟨h20, hf⟩ := gd_some hf
          obtain ⟨a21, ea21⟩ : ∃ y : Nat → Int32, y = upd t_edges_a (Int32.toNatClampNeg x1) v19 := ⟨_, rfl⟩
          have hf := bv_at ea21 hf
          refine va_iast hx hb hK hP hD hS 1 0 rfl rfl (bnd_in h20) dX10_edge_86 (fun H locs hP hD hS => ?_)
          have hP : va_P G vwCl [(t_h, .inr (10, [.int t_baseWay, .int t_slip, .int t_low, .int t_high, .int t_unlike, .int t_alone, .long t_above, .long t_below, .ref t_edges_h, .ref t_lean_h, .ref t_word_h, .int t_layers, .ref t_layer_h, .ref t_least_h, .int t_sights, .ref t_sight_h, .int t_shadows, .ref t_shadow_h, .long t_endAbove, .long t_endBelow, .long t_speedAbove, .long t_speedBelow, .int t_spans, .ref t_spanLow_h, .ref t_spanHigh_h, .ref t_spanAt_h, .int t_found, .ref t_numbers_h, .int t_pairs, .ref t_pair_h, .ref t_most_h, .int t_rows, .ref t_row_h, .int t_notes, .ref t_under_h, .ref t_agreed_h])), (t_edges_h, .inl (cI, 2, .inl a21)), (t_lean_h, .inl (cI, 16, .inl a14)), (t_word_h, .inl (cI, 16, .inl a17))] H := by rw [ea21]; exact hP
          have hD : va_D A [(t_h, .inr (10, [.int t_baseWay, .int t_slip, .int t_low, .int t_high, .int t_unlike, .int t_alone, .long t_above, .long t_below, .ref t_edges_h, .ref t_lean_h, .ref t_word_h, .int t_layers, .ref t_layer_h, .ref t_least_h, .int t_sights, .ref t_sight_h, .int t_shadows, .ref t_shadow_h, .long t_endAbove, .long t_endBelow, .long t_speedAbove, .long t_speedBelow, .int t_spans, .ref t_spanLow_h, .ref t_spanHigh_h, .ref t_spanAt_h, .int t_found, .ref t_numbers_h, .int t_pairs, .ref t_pair_h, .ref t_most_h, .int t_rows, .ref t_row_h, .int t_notes, .ref t_under_h, .ref t_agreed_h])), (t_edges_h, .inl (cI, 2, .inl a21)), (t_lean_h, .inl (cI, 16, .inl a14)), (t_word_h, .inl (cI, 16, .inl a17))] := by rw [ea21]; exact hD
          refine lv_aload_n hx hb dX10_edge_87 rfl (lv_at hl 0 rfl) ?_
          refine va_get (D := G) (ci := 10) (v := .ref t_edges_h) (C := RX10) (T := TX10) (N := 36) hx hb hts iwX10 hown hK hP 0 rfl rfl 8 (by decide) fl_7 (fun _ h9 => h9) rfl dX10_edge_88 ?_
          refine lv_iload_n hx hb dX10_edge_91 rfl (lv_at hl 1 rfl) ?_
          obtain ⟨h22, hf⟩ := gd_some hf
          refine va_iald hx hb hK hP 1 0 rfl rfl (bnd_in h22) dX10_edge_92 ?_
          exact hret (a21 (Int32.toNatClampNeg x1)) a21 a14 a17 93 _ _ _ dX10_edge_93 hf hP hD hS
        · have hf := ift hf c11
          refine lv_bipush (v := (-4)) hx hb dX10_edge_40 (by decide) ?_
          exact hret (-4) t_edges_a t_lean_a t_word_a 42 _ _ _ dX10_edge_42 hf hP hD hS
      · have hf := ift hf c9
        refine lv_bipush (v := (-2)) hx hb dX10_edge_26 (by decide) ?_
        exact hret (-2) t_edges_a t_lean_a t_word_a 28 _ _ _ dX10_edge_28 hf hP hD hS
theorem dX10_clear_0 : decode cX10_clear 0 = .ok (.aload_n 0, 1) := by decide +kernel
theorem dX10_clear_1 : decode cX10_clear 1 = .ok (.getfield 7, 3) := by decide +kernel
theorem dX10_clear_4 : decode cX10_clear 4 = .ok (.iconst 0, 1) := by decide +kernel
theorem dX10_clear_5 : decode cX10_clear 5 = .ok (.iaload, 1) := by decide +kernel
theorem dX10_clear_6 : decode cX10_clear 6 = .ok (.aload_n 0, 1) := by decide +kernel
theorem dX10_clear_7 : decode cX10_clear 7 = .ok (.getfield 7, 3) := by decide +kernel
theorem dX10_clear_10 : decode cX10_clear 10 = .ok (.iconst 1, 1) := by decide +kernel
theorem dX10_clear_11 : decode cX10_clear 11 = .ok (.iaload, 1) := by decide +kernel
theorem dX10_clear_12 : decode cX10_clear 12 = .ok (.iadd, 1) := by decide +kernel
theorem dX10_clear_13 : decode cX10_clear 13 = .ok (.istore_n 1, 1) := by decide +kernel
theorem dX10_clear_14 : decode cX10_clear 14 = .ok (.aload_n 0, 1) := by decide +kernel
theorem dX10_clear_15 : decode cX10_clear 15 = .ok (.getfield 7, 3) := by decide +kernel
theorem dX10_clear_18 : decode cX10_clear 18 = .ok (.iconst 0, 1) := by decide +kernel
theorem dX10_clear_19 : decode cX10_clear 19 = .ok (.iconst 0, 1) := by decide +kernel
theorem dX10_clear_20 : decode cX10_clear 20 = .ok (.iastore, 1) := by decide +kernel
theorem dX10_clear_21 : decode cX10_clear 21 = .ok (.aload_n 0, 1) := by decide +kernel
theorem dX10_clear_22 : decode cX10_clear 22 = .ok (.getfield 7, 3) := by decide +kernel
theorem dX10_clear_25 : decode cX10_clear 25 = .ok (.iconst 1, 1) := by decide +kernel
theorem dX10_clear_26 : decode cX10_clear 26 = .ok (.iconst 0, 1) := by decide +kernel
theorem dX10_clear_27 : decode cX10_clear 27 = .ok (.iastore, 1) := by decide +kernel
theorem dX10_clear_28 : decode cX10_clear 28 = .ok (.iload_n 1, 1) := by decide +kernel
theorem dX10_clear_29 : decode cX10_clear 29 = .ok (.ireturn, 1) := by decide +kernel
set_option maxRecDepth 100000 in
def fX10_clear (t_edges_a : Nat → Int32) : Option (Int32 × (Nat → Int32)) :=
  gd (bnd 0 2) <|
  gd (bnd 1 2) <|
  bv ((t_edges_a (Int32.toNatClampNeg 0)) + (t_edges_a (Int32.toNatClampNeg 1))) fun v3 =>
  gd (bnd 0 2) <|
  bv (upd t_edges_a (Int32.toNatClampNeg 0) 0) fun a5 =>
  gd (bnd 1 2) <|
  bv (upd a5 (Int32.toNatClampNeg 1) 0) fun a7 =>
  some (v3, a7)
abbrev rmX10_clear : Room := { frames := 0, cells := 0, slots := 0, locals := 0 }
theorem iwX10_clear_X10 : ∀ w ∈ u_ws RX10 TX10 36, w ∈ wsX10_clear := by decide +kernel
set_option maxHeartbeats 4000000 in
set_option maxRecDepth 100000 in
theorem k_X10_clear (l : Launch) (G : va_G) (cI cJ : ClassId) (t_h t_edges_h t_lean_h t_word_h t_layer_h t_least_h t_sight_h t_shadow_h t_spanLow_h t_spanHigh_h t_spanAt_h t_numbers_h t_pair_h t_most_h t_row_h t_under_h t_agreed_h : Nat) (sz : Nat) (t_baseWay : Int32) (t_slip : Int32) (t_low : Int32) (t_high : Int32) (t_unlike : Int32) (t_alone : Int32) (t_above : Int64) (t_below : Int64) (t_layers : Int32) (t_sights : Int32) (t_shadows : Int32) (t_endAbove : Int64) (t_endBelow : Int64) (t_speedAbove : Int64) (t_speedBelow : Int64) (t_spans : Int32) (t_found : Int32) (t_pairs : Int32) (t_rows : Int32) (t_notes : Int32) (t_edges_a : Nat → Int32) {o_r : Int32} {o_t_edges_a : Nat → Int32} (hf : fX10_clear t_edges_a = some (o_r, o_t_edges_a)) : MetI l yX10_clear wsX10_clear rmX10_clear [.ref t_h] G cI cJ [(t_h, .inr (10, [.int t_baseWay, .int t_slip, .int t_low, .int t_high, .int t_unlike, .int t_alone, .long t_above, .long t_below, .ref t_edges_h, .ref t_lean_h, .ref t_word_h, .int t_layers, .ref t_layer_h, .ref t_least_h, .int t_sights, .ref t_sight_h, .int t_shadows, .ref t_shadow_h, .long t_endAbove, .long t_endBelow, .long t_speedAbove, .long t_speedBelow, .int t_spans, .ref t_spanLow_h, .ref t_spanHigh_h, .ref t_spanAt_h, .int t_found, .ref t_numbers_h, .int t_pairs, .ref t_pair_h, .ref t_most_h, .int t_rows, .ref t_row_h, .int t_notes, .ref t_under_h, .ref t_agreed_h])), (t_edges_h, .inl (cI, 2, .inl t_edges_a))] [(t_h, .inr (10, [.int t_baseWay, .int t_slip, .int t_low, .int t_high, .int t_unlike, .int t_alone, .long t_above, .long t_below, .ref t_edges_h, .ref t_lean_h, .ref t_word_h, .int t_layers, .ref t_layer_h, .ref t_least_h, .int t_sights, .ref t_sight_h, .int t_shadows, .ref t_shadow_h, .long t_endAbove, .long t_endBelow, .long t_speedAbove, .long t_speedBelow, .int t_spans, .ref t_spanLow_h, .ref t_spanHigh_h, .ref t_spanAt_h, .int t_found, .ref t_numbers_h, .int t_pairs, .ref t_pair_h, .ref t_most_h, .int t_rows, .ref t_row_h, .int t_notes, .ref t_under_h, .ref t_agreed_h])), (t_edges_h, .inl (cI, 2, .inl o_t_edges_a))] sz o_r := by
  refine en_0 (l := l) (y := yX10_clear) (wsl := wsX10_clear) (rm := rmX10_clear) (av := [.ref t_h]) (G := G) (cI := cI) (cJ := cJ) (w0 := [(t_h, .inr (10, [.int t_baseWay, .int t_slip, .int t_low, .int t_high, .int t_unlike, .int t_alone, .long t_above, .long t_below, .ref t_edges_h, .ref t_lean_h, .ref t_word_h, .int t_layers, .ref t_layer_h, .ref t_least_h, .int t_sights, .ref t_sight_h, .int t_shadows, .ref t_shadow_h, .long t_endAbove, .long t_endBelow, .long t_speedAbove, .long t_speedBelow, .int t_spans, .ref t_spanLow_h, .ref t_spanHigh_h, .ref t_spanAt_h, .int t_found, .ref t_numbers_h, .int t_pairs, .ref t_pair_h, .ref t_most_h, .int t_rows, .ref t_row_h, .int t_notes, .ref t_under_h, .ref t_agreed_h])), (t_edges_h, .inl (cI, 2, .inl t_edges_a))]) (sz := sz) (Qf := fun A => Qi0 G cI cJ [(t_h, .inr (10, [.int t_baseWay, .int t_slip, .int t_low, .int t_high, .int t_unlike, .int t_alone, .long t_above, .long t_below, .ref t_edges_h, .ref t_lean_h, .ref t_word_h, .int t_layers, .ref t_layer_h, .ref t_least_h, .int t_sights, .ref t_sight_h, .int t_shadows, .ref t_shadow_h, .long t_endAbove, .long t_endBelow, .long t_speedAbove, .long t_speedBelow, .int t_spans, .ref t_spanLow_h, .ref t_spanHigh_h, .ref t_spanAt_h, .int t_found, .ref t_numbers_h, .int t_pairs, .ref t_pair_h, .ref t_most_h, .int t_rows, .ref t_row_h, .int t_notes, .ref t_under_h, .ref t_agreed_h])), (t_edges_h, .inl (cI, 2, .inl o_t_edges_a))] o_r A) (cc := cX10_clear) (maxL := 2) (ret := (some .int)) RX10 (by decide +kernel) rfl rfl (Nat.le_of_ble_eq_true rfl) ?_
  intro p e s m args below meth c A ls Q hQ hx hb hr hts hown hlocks hml hN hK hP hD hS hA hl
  have hl : lv_has ls 2 [(0, .ref t_h)] := hl
  have iwX10 := iwX10_clear_X10
  have fl_7 := hts (.fieldLink RX10 7 "CloudOfficeModel" "edges" "[I") (by decide +kernel)
  have hret : ∀ (o_r9 : Int32) (o_t_edges_a9 : Nat → Int32) (pc : Nat) (H : Heap) (locs : List Loc) (ls : Array Slot), decode cX10_clear pc = .ok (.ireturn, 1) → some (o_r9, o_t_edges_a9) = some (o_r, o_t_edges_a) → va_P G vwCl [(t_h, .inr (10, [.int t_baseWay, .int t_slip, .int t_low, .int t_high, .int t_unlike, .int t_alone, .long t_above, .long t_below, .ref t_edges_h, .ref t_lean_h, .ref t_word_h, .int t_layers, .ref t_layer_h, .ref t_least_h, .int t_sights, .ref t_sight_h, .int t_shadows, .ref t_shadow_h, .long t_endAbove, .long t_endBelow, .long t_speedAbove, .long t_speedBelow, .int t_spans, .ref t_spanLow_h, .ref t_spanHigh_h, .ref t_spanAt_h, .int t_found, .ref t_numbers_h, .int t_pairs, .ref t_pair_h, .ref t_most_h, .int t_rows, .ref t_row_h, .int t_notes, .ref t_under_h, .ref t_agreed_h])), (t_edges_h, .inl (cI, 2, .inl o_t_edges_a9))] H → va_D A [(t_h, .inr (10, [.int t_baseWay, .int t_slip, .int t_low, .int t_high, .int t_unlike, .int t_alone, .long t_above, .long t_below, .ref t_edges_h, .ref t_lean_h, .ref t_word_h, .int t_layers, .ref t_layer_h, .ref t_least_h, .int t_sights, .ref t_sight_h, .int t_shadows, .ref t_shadow_h, .long t_endAbove, .long t_endBelow, .long t_speedAbove, .long t_speedBelow, .int t_spans, .ref t_spanLow_h, .ref t_spanHigh_h, .ref t_spanAt_h, .int t_found, .ref t_numbers_h, .int t_pairs, .ref t_pair_h, .ref t_most_h, .int t_rows, .ref t_row_h, .int t_notes, .ref t_under_h, .ref t_agreed_h])), (t_edges_h, .inl (cI, 2, .inl o_t_edges_a9))] → va_S A s.heap H locs → W p l e rmX10_clear s m args below meth c H locs 0 0 Q (F0 m pc ls [.int o_r9]) := by
    intro o_r9 o_t_edges_a9 pc H locs ls hdg he hP hD hS
    cases he
    subst hQ
    exact rt_i hx hb hr hlocks hK hP hD hS rfl hdg
  clear hQ
  unfold fX10_clear at hf
  refine lv_aload_n hx hb dX10_clear_0 rfl (lv_at hl 0 rfl) ?_
  refine va_get (D := G) (ci := 10) (v := .ref t_edges_h) (C := RX10) (T := TX10) (N := 36) hx hb hts iwX10 hown hK hP 0 rfl rfl 8 (by decide) fl_7 (fun _ h9 => h9) rfl dX10_clear_1 ?_
  refine lv_iconst (v := 0) hx hb dX10_clear_4 (by decide) ?_
  obtain ⟨h1, hf⟩ := gd_some hf
  refine va_iald hx hb hK hP 1 0 rfl rfl (bnd_in h1) dX10_clear_5 ?_
  refine lv_aload_n hx hb dX10_clear_6 rfl (lv_at hl 0 rfl) ?_
  refine va_get (D := G) (ci := 10) (v := .ref t_edges_h) (C := RX10) (T := TX10) (N := 36) hx hb hts iwX10 hown hK hP 0 rfl rfl 8 (by decide) fl_7 (fun _ h9 => h9) rfl dX10_clear_7 ?_
  refine lv_iconst (v := 1) hx hb dX10_clear_10 (by decide) ?_
  obtain ⟨h2, hf⟩ := gd_some hf
  refine va_iald hx hb hK hP 1 0 rfl rfl (bnd_in h2) dX10_clear_11 ?_
  refine lv_iadd hx hb dX10_clear_12 ?_
  refine lv_topi (fun v3 ev3 => ?_)
  have hf := bv_at ev3 hf
  refine lv_istore_n (lv' := [(1, .int v3), (0, .ref t_h)]) hx hb dX10_clear_13 rfl hl (by decide) rfl (fun ls hl => ?_)
  refine lv_aload_n hx hb dX10_clear_14 rfl (lv_at hl 1 rfl) ?_
  refine va_get (D := G) (ci := 10) (v := .ref t_edges_h) (C := RX10) (T := TX10) (N := 36) hx hb hts iwX10 hown hK hP 0 rfl rfl 8 (by decide) fl_7 (fun _ h9 => h9) rfl dX10_clear_15 ?_
  refine lv_iconst (v := 0) hx hb dX10_clear_18 (by decide) ?_
  refine lv_iconst (v := 0) hx hb dX10_clear_19 (by decide) ?_
  obtain ⟨h4, hf⟩ := gd_some hf
  obtain ⟨a5, ea5⟩ : ∃ y : Nat → Int32, y = upd t_edges_a (Int32.toNatClampNeg 0) 0 := ⟨_, rfl⟩
  have hf := bv_at ea5 hf
  refine va_iast hx hb hK hP hD hS 1 0 rfl rfl (bnd_in h4) dX10_clear_20 (fun H locs hP hD hS => ?_)
  have hP : va_P G vwCl [(t_h, .inr (10, [.int t_baseWay, .int t_slip, .int t_low, .int t_high, .int t_unlike, .int t_alone, .long t_above, .long t_below, .ref t_edges_h, .ref t_lean_h, .ref t_word_h, .int t_layers, .ref t_layer_h, .ref t_least_h, .int t_sights, .ref t_sight_h, .int t_shadows, .ref t_shadow_h, .long t_endAbove, .long t_endBelow, .long t_speedAbove, .long t_speedBelow, .int t_spans, .ref t_spanLow_h, .ref t_spanHigh_h, .ref t_spanAt_h, .int t_found, .ref t_numbers_h, .int t_pairs, .ref t_pair_h, .ref t_most_h, .int t_rows, .ref t_row_h, .int t_notes, .ref t_under_h, .ref t_agreed_h])), (t_edges_h, .inl (cI, 2, .inl a5))] H := by rw [ea5]; exact hP
  have hD : va_D A [(t_h, .inr (10, [.int t_baseWay, .int t_slip, .int t_low, .int t_high, .int t_unlike, .int t_alone, .long t_above, .long t_below, .ref t_edges_h, .ref t_lean_h, .ref t_word_h, .int t_layers, .ref t_layer_h, .ref t_least_h, .int t_sights, .ref t_sight_h, .int t_shadows, .ref t_shadow_h, .long t_endAbove, .long t_endBelow, .long t_speedAbove, .long t_speedBelow, .int t_spans, .ref t_spanLow_h, .ref t_spanHigh_h, .ref t_spanAt_h, .int t_found, .ref t_numbers_h, .int t_pairs, .ref t_pair_h, .ref t_most_h, .int t_rows, .ref t_row_h, .int t_notes, .ref t_under_h, .ref t_agreed_h])), (t_edges_h, .inl (cI, 2, .inl a5))] := by rw [ea5]; exact hD
  refine lv_aload_n hx hb dX10_clear_21 rfl (lv_at hl 1 rfl) ?_
  refine va_get (D := G) (ci := 10) (v := .ref t_edges_h) (C := RX10) (T := TX10) (N := 36) hx hb hts iwX10 hown hK hP 0 rfl rfl 8 (by decide) fl_7 (fun _ h9 => h9) rfl dX10_clear_22 ?_
  refine lv_iconst (v := 1) hx hb dX10_clear_25 (by decide) ?_
  refine lv_iconst (v := 0) hx hb dX10_clear_26 (by decide) ?_
  obtain ⟨h6, hf⟩ := gd_some hf
  obtain ⟨a7, ea7⟩ : ∃ y : Nat → Int32, y = upd a5 (Int32.toNatClampNeg 1) 0 := ⟨_, rfl⟩
  have hf := bv_at ea7 hf
  refine va_iast hx hb hK hP hD hS 1 0 rfl rfl (bnd_in h6) dX10_clear_27 (fun H locs hP hD hS => ?_)
  have hP : va_P G vwCl [(t_h, .inr (10, [.int t_baseWay, .int t_slip, .int t_low, .int t_high, .int t_unlike, .int t_alone, .long t_above, .long t_below, .ref t_edges_h, .ref t_lean_h, .ref t_word_h, .int t_layers, .ref t_layer_h, .ref t_least_h, .int t_sights, .ref t_sight_h, .int t_shadows, .ref t_shadow_h, .long t_endAbove, .long t_endBelow, .long t_speedAbove, .long t_speedBelow, .int t_spans, .ref t_spanLow_h, .ref t_spanHigh_h, .ref t_spanAt_h, .int t_found, .ref t_numbers_h, .int t_pairs, .ref t_pair_h, .ref t_most_h, .int t_rows, .ref t_row_h, .int t_notes, .ref t_under_h, .ref t_agreed_h])), (t_edges_h, .inl (cI, 2, .inl a7))] H := by rw [ea7]; exact hP
  have hD : va_D A [(t_h, .inr (10, [.int t_baseWay, .int t_slip, .int t_low, .int t_high, .int t_unlike, .int t_alone, .long t_above, .long t_below, .ref t_edges_h, .ref t_lean_h, .ref t_word_h, .int t_layers, .ref t_layer_h, .ref t_least_h, .int t_sights, .ref t_sight_h, .int t_shadows, .ref t_shadow_h, .long t_endAbove, .long t_endBelow, .long t_speedAbove, .long t_speedBelow, .int t_spans, .ref t_spanLow_h, .ref t_spanHigh_h, .ref t_spanAt_h, .int t_found, .ref t_numbers_h, .int t_pairs, .ref t_pair_h, .ref t_most_h, .int t_rows, .ref t_row_h, .int t_notes, .ref t_under_h, .ref t_agreed_h])), (t_edges_h, .inl (cI, 2, .inl a7))] := by rw [ea7]; exact hD
  refine lv_iload_n hx hb dX10_clear_28 rfl (lv_at hl 0 rfl) ?_
  exact hret v3 a7 29 _ _ _ dX10_clear_29 hf hP hD hS
set_option maxRecDepth 20000 in
theorem ggX10_height_X10_isLean : GoodIn wsX10_height wsX10_isLean := goodIn_r _ [7, 8, 9, 6, 10] (by decide +kernel) (by decide +kernel)
set_option maxRecDepth 20000 in
theorem gX10_height_X10_isLean : GoodIn wsX10_height (va_wsS RX10 93 yX10_isLean wsX10_isLean) := goodIn_app (goodIn_of _ (by decide +kernel)) ggX10_height_X10_isLean
set_option maxRecDepth 20000 in
theorem ggX10_height_X10_in : GoodIn wsX10_height wsX10_in := goodIn_r _ [10] (by decide +kernel) (by decide +kernel)
set_option maxRecDepth 20000 in
theorem gX10_height_X10_in : GoodIn wsX10_height (va_wsS RX10 89 yX10_in wsX10_in) := goodIn_app (goodIn_of _ (by decide +kernel)) ggX10_height_X10_in
set_option maxRecDepth 20000 in
theorem ggX10_height_X10_tells : GoodIn wsX10_height wsX10_tells := goodIn_r _ [14, 15, 16, 17, 18, 6, 19, 20, 21, 22, 23, 24, 25, 26, 27, 28, 29, 30, 31, 32, 33, 34, 35, 36, 37, 38, 39, 40, 41, 42, 43, 44, 45, 46, 47, 48, 49, 50, 51, 52, 53, 54, 55] (by decide +kernel) (by decide +kernel)
set_option maxRecDepth 20000 in
theorem gX10_height_X10_tells : GoodIn wsX10_height (wsV RX10 99 RX10 yX10_tells wsX10_tells) := goodIn_app (goodIn_of _ (by decide +kernel)) ggX10_height_X10_tells
theorem dX10_height_0 : decode cX10_height 0 = .ok (.iload_n 1, 1) := by decide +kernel
theorem dX10_height_1 : decode cX10_height 1 = .ok (.invokestatic 93, 3) := by decide +kernel
theorem dX10_height_4 : decode cX10_height 4 = .ok (.ifCond .eq 19, 3) := by decide +kernel
theorem dX10_height_7 : decode cX10_height 7 = .ok (.iload_n 2, 1) := by decide +kernel
theorem dX10_height_8 : decode cX10_height 8 = .ok (.invokestatic 93, 3) := by decide +kernel
theorem dX10_height_11 : decode cX10_height 11 = .ok (.ifCond .eq 12, 3) := by decide +kernel
theorem dX10_height_14 : decode cX10_height 14 = .ok (.iload_n 3, 1) := by decide +kernel
theorem dX10_height_15 : decode cX10_height 15 = .ok (.iconst 0, 1) := by decide +kernel
theorem dX10_height_16 : decode cX10_height 16 = .ok (.iconst 3, 1) := by decide +kernel
theorem dX10_height_17 : decode cX10_height 17 = .ok (.invokestatic 89, 3) := by decide +kernel
theorem dX10_height_20 : decode cX10_height 20 = .ok (.ifCond .ne 6, 3) := by decide +kernel
theorem dX10_height_23 : decode cX10_height 23 = .ok (.bipush (-2), 2) := by decide +kernel
theorem dX10_height_25 : decode cX10_height 25 = .ok (.ireturn, 1) := by decide +kernel
theorem dX10_height_26 : decode cX10_height 26 = .ok (.iload_n 1, 1) := by decide +kernel
theorem dX10_height_27 : decode cX10_height 27 = .ok (.iload_n 2, 1) := by decide +kernel
theorem dX10_height_28 : decode cX10_height 28 = .ok (.isub, 1) := by decide +kernel
theorem dX10_height_29 : decode cX10_height 29 = .ok (.istore 4, 2) := by decide +kernel
theorem dX10_height_31 : decode cX10_height 31 = .ok (.iload_n 3, 1) := by decide +kernel
theorem dX10_height_32 : decode cX10_height 32 = .ok (.iconst 2, 1) := by decide +kernel
theorem dX10_height_33 : decode cX10_height 33 = .ok (.if_icmp .ne 15, 3) := by decide +kernel
theorem dX10_height_36 : decode cX10_height 36 = .ok (.iload 4, 2) := by decide +kernel
theorem dX10_height_38 : decode cX10_height 38 = .ok (.iconst 2, 1) := by decide +kernel
theorem dX10_height_39 : decode cX10_height 39 = .ok (.aload_n 0, 1) := by decide +kernel
theorem dX10_height_40 : decode cX10_height 40 = .ok (.getfield 62, 3) := by decide +kernel
theorem dX10_height_43 : decode cX10_height 43 = .ok (.imul, 1) := by decide +kernel
theorem dX10_height_44 : decode cX10_height 44 = .ok (.iadd, 1) := by decide +kernel
theorem dX10_height_45 : decode cX10_height 45 = .ok (.goto 22, 3) := by decide +kernel
theorem dX10_height_48 : decode cX10_height 48 = .ok (.iload_n 3, 1) := by decide +kernel
theorem dX10_height_49 : decode cX10_height 49 = .ok (.iconst 3, 1) := by decide +kernel
theorem dX10_height_50 : decode cX10_height 50 = .ok (.if_icmp .ne 15, 3) := by decide +kernel
theorem dX10_height_53 : decode cX10_height 53 = .ok (.iload 4, 2) := by decide +kernel
theorem dX10_height_55 : decode cX10_height 55 = .ok (.iconst 2, 1) := by decide +kernel
theorem dX10_height_56 : decode cX10_height 56 = .ok (.aload_n 0, 1) := by decide +kernel
theorem dX10_height_57 : decode cX10_height 57 = .ok (.getfield 62, 3) := by decide +kernel
theorem dX10_height_60 : decode cX10_height 60 = .ok (.imul, 1) := by decide +kernel
theorem dX10_height_61 : decode cX10_height 61 = .ok (.isub, 1) := by decide +kernel
theorem dX10_height_62 : decode cX10_height 62 = .ok (.goto 5, 3) := by decide +kernel
theorem dX10_height_65 : decode cX10_height 65 = .ok (.iload 4, 2) := by decide +kernel
theorem dX10_height_67 : decode cX10_height 67 = .ok (.istore 5, 2) := by decide +kernel
theorem dX10_height_69 : decode cX10_height 69 = .ok (.iload 5, 2) := by decide +kernel
theorem dX10_height_71 : decode cX10_height 71 = .ok (.ifCond .gt 5, 3) := by decide +kernel
theorem dX10_height_74 : decode cX10_height 74 = .ok (.iconst 0, 1) := by decide +kernel
theorem dX10_height_75 : decode cX10_height 75 = .ok (.ireturn, 1) := by decide +kernel
theorem dX10_height_76 : decode cX10_height 76 = .ok (.aload_n 0, 1) := by decide +kernel
theorem dX10_height_77 : decode cX10_height 77 = .ok (.iload_n 3, 1) := by decide +kernel
theorem dX10_height_78 : decode cX10_height 78 = .ok (.iconst 1, 1) := by decide +kernel
theorem dX10_height_79 : decode cX10_height 79 = .ok (.if_icmp .ne 14, 3) := by decide +kernel
theorem dX10_height_82 : decode cX10_height 82 = .ok (.aload_n 0, 1) := by decide +kernel
theorem dX10_height_83 : decode cX10_height 83 = .ok (.getfield 58, 3) := by decide +kernel
theorem dX10_height_86 : decode cX10_height 86 = .ok (.i2l, 1) := by decide +kernel
theorem dX10_height_87 : decode cX10_height 87 = .ok (.iload_n 1, 1) := by decide +kernel
theorem dX10_height_88 : decode cX10_height 88 = .ok (.i2l, 1) := by decide +kernel
theorem dX10_height_89 : decode cX10_height 89 = .ok (.lmul, 1) := by decide +kernel
theorem dX10_height_90 : decode cX10_height 90 = .ok (.goto 12, 3) := by decide +kernel
theorem dX10_height_93 : decode cX10_height 93 = .ok (.ldc2_w 97, 3) := by decide +kernel
theorem dX10_height_96 : decode cX10_height 96 = .ok (.aload_n 0, 1) := by decide +kernel
theorem dX10_height_97 : decode cX10_height 97 = .ok (.getfield 58, 3) := by decide +kernel
theorem dX10_height_100 : decode cX10_height 100 = .ok (.i2l, 1) := by decide +kernel
theorem dX10_height_101 : decode cX10_height 101 = .ok (.lmul, 1) := by decide +kernel
theorem dX10_height_102 : decode cX10_height 102 = .ok (.iload 5, 2) := by decide +kernel
theorem dX10_height_104 : decode cX10_height 104 = .ok (.i2l, 1) := by decide +kernel
theorem dX10_height_105 : decode cX10_height 105 = .ok (.invokevirtual 99, 3) := by decide +kernel
theorem dX10_height_108 : decode cX10_height 108 = .ok (.ireturn, 1) := by decide +kernel
set_option maxRecDepth 100000 in
def fX10_height (x1 : Int32) (x2 : Int32) (x3 : Int32) (t_baseWay : Int32) (t_slip : Int32) (t_above : Int64) (t_below : Int64) : Option (Int32 × Int64 × Int64) :=
  ob (fX10_isLean x1) fun r1 =>
  if (b2i r1) = 0 then
    some ((-2), t_above, t_below)
  else
    ob (fX10_isLean x2) fun r4 =>
    if (b2i r4) = 0 then
      some ((-2), t_above, t_below)
    else
      ob (fX10_in x3 0 3) fun r7 =>
      if (b2i r7) = 0 then
        some ((-2), t_above, t_below)
      else
        bv (x1 - x2) fun v10 =>
        ob (α := Int32) (
            if x3 = 2 then
              some (v10 + (2 * t_slip))
            else
              if x3 = 3 then
                some (v10 - (2 * t_slip))
              else
                some v10
          ) fun m11 =>
        if 0 < m11 then
          ob (α := Int64) (
              if x3 = 1 then
                some ((Int32.toInt64 t_baseWay) * (Int32.toInt64 x1))
              else
                some (1000 * (Int32.toInt64 t_baseWay))
            ) fun m17 =>
          ob3 (fX10_tells m17 (Int32.toInt64 m11) t_above t_below) fun r21 w22 w23 =>
          some (r21, w22, w23)
        else
          some (0, t_above, t_below)
abbrev rmX10_height : Room := { frames := 2, cells := 0, slots := 0, locals := 55 }
theorem iwX10_height_X10 : ∀ w ∈ u_ws RX10 TX10 36, w ∈ wsX10_height := by decide +kernel
set_option maxHeartbeats 4000000 in
set_option maxRecDepth 100000 in
theorem k_X10_height (l : Launch) (G : va_G) (cI cJ : ClassId) (t_h t_edges_h t_lean_h t_word_h t_layer_h t_least_h t_sight_h t_shadow_h t_spanLow_h t_spanHigh_h t_spanAt_h t_numbers_h t_pair_h t_most_h t_row_h t_under_h t_agreed_h : Nat) (sz : Nat) (t_baseWay : Int32) (t_slip : Int32) (t_low : Int32) (t_high : Int32) (t_unlike : Int32) (t_alone : Int32) (t_above : Int64) (t_below : Int64) (t_layers : Int32) (t_sights : Int32) (t_shadows : Int32) (t_endAbove : Int64) (t_endBelow : Int64) (t_speedAbove : Int64) (t_speedBelow : Int64) (t_spans : Int32) (t_found : Int32) (t_pairs : Int32) (t_rows : Int32) (t_notes : Int32) (x1 : Int32) (x2 : Int32) (x3 : Int32) {o_r : Int32} {o_t_above : Int64} {o_t_below : Int64} (hf : fX10_height x1 x2 x3 t_baseWay t_slip t_above t_below = some (o_r, o_t_above, o_t_below)) : MetI l yX10_height wsX10_height rmX10_height [.ref t_h, .int x1, .int x2, .int x3] G cI cJ [(t_h, .inr (10, [.int t_baseWay, .int t_slip, .int t_low, .int t_high, .int t_unlike, .int t_alone, .long t_above, .long t_below, .ref t_edges_h, .ref t_lean_h, .ref t_word_h, .int t_layers, .ref t_layer_h, .ref t_least_h, .int t_sights, .ref t_sight_h, .int t_shadows, .ref t_shadow_h, .long t_endAbove, .long t_endBelow, .long t_speedAbove, .long t_speedBelow, .int t_spans, .ref t_spanLow_h, .ref t_spanHigh_h, .ref t_spanAt_h, .int t_found, .ref t_numbers_h, .int t_pairs, .ref t_pair_h, .ref t_most_h, .int t_rows, .ref t_row_h, .int t_notes, .ref t_under_h, .ref t_agreed_h]))] [(t_h, .inr (10, [.int t_baseWay, .int t_slip, .int t_low, .int t_high, .int t_unlike, .int t_alone, .long o_t_above, .long o_t_below, .ref t_edges_h, .ref t_lean_h, .ref t_word_h, .int t_layers, .ref t_layer_h, .ref t_least_h, .int t_sights, .ref t_sight_h, .int t_shadows, .ref t_shadow_h, .long t_endAbove, .long t_endBelow, .long t_speedAbove, .long t_speedBelow, .int t_spans, .ref t_spanLow_h, .ref t_spanHigh_h, .ref t_spanAt_h, .int t_found, .ref t_numbers_h, .int t_pairs, .ref t_pair_h, .ref t_most_h, .int t_rows, .ref t_row_h, .int t_notes, .ref t_under_h, .ref t_agreed_h]))] sz o_r := by
  refine en_0 (l := l) (y := yX10_height) (wsl := wsX10_height) (rm := rmX10_height) (av := [.ref t_h, .int x1, .int x2, .int x3]) (G := G) (cI := cI) (cJ := cJ) (w0 := [(t_h, .inr (10, [.int t_baseWay, .int t_slip, .int t_low, .int t_high, .int t_unlike, .int t_alone, .long t_above, .long t_below, .ref t_edges_h, .ref t_lean_h, .ref t_word_h, .int t_layers, .ref t_layer_h, .ref t_least_h, .int t_sights, .ref t_sight_h, .int t_shadows, .ref t_shadow_h, .long t_endAbove, .long t_endBelow, .long t_speedAbove, .long t_speedBelow, .int t_spans, .ref t_spanLow_h, .ref t_spanHigh_h, .ref t_spanAt_h, .int t_found, .ref t_numbers_h, .int t_pairs, .ref t_pair_h, .ref t_most_h, .int t_rows, .ref t_row_h, .int t_notes, .ref t_under_h, .ref t_agreed_h]))]) (sz := sz) (Qf := fun A => Qi0 G cI cJ [(t_h, .inr (10, [.int t_baseWay, .int t_slip, .int t_low, .int t_high, .int t_unlike, .int t_alone, .long o_t_above, .long o_t_below, .ref t_edges_h, .ref t_lean_h, .ref t_word_h, .int t_layers, .ref t_layer_h, .ref t_least_h, .int t_sights, .ref t_sight_h, .int t_shadows, .ref t_shadow_h, .long t_endAbove, .long t_endBelow, .long t_speedAbove, .long t_speedBelow, .int t_spans, .ref t_spanLow_h, .ref t_spanHigh_h, .ref t_spanAt_h, .int t_found, .ref t_numbers_h, .int t_pairs, .ref t_pair_h, .ref t_most_h, .int t_rows, .ref t_row_h, .int t_notes, .ref t_under_h, .ref t_agreed_h]))] o_r A) (cc := cX10_height) (maxL := 6) (ret := (some .int)) RX10 (by decide +kernel) rfl rfl (Nat.le_of_ble_eq_true rfl) ?_
  intro p e s m args below meth c A ls Q hQ hx hb hr hts hown hlocks hml hN hK hP hD hS hA hl
  have hl : lv_has ls 6 [(0, .ref t_h), (1, .int x1), (2, .int x2), (3, .int x3)] := hl
  have iwX10 := iwX10_height_X10
  have fl_58 := hts (.fieldLink RX10 58 "CloudOfficeModel" "baseWay" "I") (by decide +kernel)
  have fl_62 := hts (.fieldLink RX10 62 "CloudOfficeModel" "slip" "I") (by decide +kernel)
  have kc_97 := hts (.constantLong RX10 97 (1000)) (by decide +kernel)
  have hret : ∀ (o_r9 : Int32) (o_t_above9 : Int64) (o_t_below9 : Int64) (pc : Nat) (H : Heap) (locs : List Loc) (ls : Array Slot), decode cX10_height pc = .ok (.ireturn, 1) → some (o_r9, o_t_above9, o_t_below9) = some (o_r, o_t_above, o_t_below) → va_P G vwCl [(t_h, .inr (10, [.int t_baseWay, .int t_slip, .int t_low, .int t_high, .int t_unlike, .int t_alone, .long o_t_above9, .long o_t_below9, .ref t_edges_h, .ref t_lean_h, .ref t_word_h, .int t_layers, .ref t_layer_h, .ref t_least_h, .int t_sights, .ref t_sight_h, .int t_shadows, .ref t_shadow_h, .long t_endAbove, .long t_endBelow, .long t_speedAbove, .long t_speedBelow, .int t_spans, .ref t_spanLow_h, .ref t_spanHigh_h, .ref t_spanAt_h, .int t_found, .ref t_numbers_h, .int t_pairs, .ref t_pair_h, .ref t_most_h, .int t_rows, .ref t_row_h, .int t_notes, .ref t_under_h, .ref t_agreed_h]))] H → va_D A [(t_h, .inr (10, [.int t_baseWay, .int t_slip, .int t_low, .int t_high, .int t_unlike, .int t_alone, .long o_t_above9, .long o_t_below9, .ref t_edges_h, .ref t_lean_h, .ref t_word_h, .int t_layers, .ref t_layer_h, .ref t_least_h, .int t_sights, .ref t_sight_h, .int t_shadows, .ref t_shadow_h, .long t_endAbove, .long t_endBelow, .long t_speedAbove, .long t_speedBelow, .int t_spans, .ref t_spanLow_h, .ref t_spanHigh_h, .ref t_spanAt_h, .int t_found, .ref t_numbers_h, .int t_pairs, .ref t_pair_h, .ref t_most_h, .int t_rows, .ref t_row_h, .int t_notes, .ref t_under_h, .ref t_agreed_h]))] → va_S A s.heap H locs → W p l e rmX10_height s m args below meth c H locs 0 0 Q (F0 m pc ls [.int o_r9]) := by
    intro o_r9 o_t_above9 o_t_below9 pc H locs ls hdg he hP hD hS
    cases he
    subst hQ
    exact rt_i hx hb hr hlocks hK hP hD hS rfl hdg
  clear hQ
  unfold fX10_height at hf
  refine lv_iload_n hx hb dX10_height_0 rfl (lv_at hl 1 rfl) ?_
  obtain ⟨r1, hc2, hf⟩ := ob_some hf
  refine af_iR (va_runS (As := [.int x1]) (rest := []) ⟨hx, hb, hml, hown, hts⟩ (k_X10_isLean l G cI cJ (x0 := x1) (sz := _) (hf := hc2)) (va_cwS 1 hts gX10_height_X10_isLean rfl rfl rfl (by decide +kernel) ⟨Nat.le_of_ble_eq_true rfl, Nat.le_of_ble_eq_true rfl⟩) (preS0 (wc := []) hK hP hD hN [] rfl rfl (by decide)) rfl rfl hl.1 rfl (lv_room (Nat.le_of_ble_eq_true rfl)) dX10_height_1 ⟨Nat.zero_le _, Nat.zero_le _⟩) hP hD hS hA [] rfl (fun H locs hP hS => ?_)
  refine lv_if_eq (tgt := 23) hx hb dX10_height_4 (by decide) (fun c3 => ?_) (fun c3 => ?_)
  · have hf := ift hf c3
    refine lv_bipush (v := (-2)) hx hb dX10_height_23 (by decide) ?_
    exact hret (-2) t_above t_below 25 _ _ _ dX10_height_25 hf hP hD hS
  · have hf := iff_ hf c3
    refine lv_iload_n hx hb dX10_height_7 rfl (lv_at hl 2 rfl) ?_
    obtain ⟨r4, hc5, hf⟩ := ob_some hf
    refine af_iR (va_runS (As := [.int x2]) (rest := []) ⟨hx, hb, hml, hown, hts⟩ (k_X10_isLean l G cI cJ (x0 := x2) (sz := _) (hf := hc5)) (va_cwS 1 hts gX10_height_X10_isLean rfl rfl rfl (by decide +kernel) ⟨Nat.le_of_ble_eq_true rfl, Nat.le_of_ble_eq_true rfl⟩) (preS0 (wc := []) hK hP hD hN [] rfl rfl (by decide)) rfl rfl hl.1 rfl (lv_room (Nat.le_of_ble_eq_true rfl)) dX10_height_8 ⟨Nat.zero_le _, Nat.zero_le _⟩) hP hD hS hA [] rfl (fun H locs hP hS => ?_)
    refine lv_if_eq (tgt := 23) hx hb dX10_height_11 (by decide) (fun c6 => ?_) (fun c6 => ?_)
    · have hf := ift hf c6
      refine lv_bipush (v := (-2)) hx hb dX10_height_23 (by decide) ?_
      exact hret (-2) t_above t_below 25 _ _ _ dX10_height_25 hf hP hD hS
    · have hf := iff_ hf c6
      refine lv_iload_n hx hb dX10_height_14 rfl (lv_at hl 3 rfl) ?_
      refine lv_iconst (v := 0) hx hb dX10_height_15 (by decide) ?_
      refine lv_iconst (v := 3) hx hb dX10_height_16 (by decide) ?_
      obtain ⟨r7, hc8, hf⟩ := ob_some hf
      refine af_iR (va_runS (As := [.int x3, .int 0, .int 3]) (rest := []) ⟨hx, hb, hml, hown, hts⟩ (k_X10_in l G cI cJ (x0 := x3) (x1 := 0) (x2 := 3) (sz := _) (hf := hc8)) (va_cwS 3 hts gX10_height_X10_in rfl rfl rfl (by decide +kernel) ⟨Nat.le_of_ble_eq_true rfl, Nat.le_of_ble_eq_true rfl⟩) (preS0 (wc := []) hK hP hD hN [] rfl rfl (by decide)) rfl rfl hl.1 rfl (lv_room (Nat.le_of_ble_eq_true rfl)) dX10_height_17 ⟨Nat.zero_le _, Nat.zero_le _⟩) hP hD hS hA [] rfl (fun H locs hP hS => ?_)
      refine lv_if_ne (tgt := 26) hx hb dX10_height_20 (by decide) (fun c9 => ?_) (fun c9 => ?_)
      · have hf := iff_ hf c9
        refine lv_iload_n hx hb dX10_height_26 rfl (lv_at hl 1 rfl) ?_
        refine lv_iload_n hx hb dX10_height_27 rfl (lv_at hl 2 rfl) ?_
        refine lv_isub hx hb dX10_height_28 ?_
        refine lv_topi (fun v10 ev10 => ?_)
        have hf := bv_at ev10 hf
        refine lv_istore (lv' := [(4, .int v10), (0, .ref t_h), (1, .int x1), (2, .int x2), (3, .int x3)]) hx hb dX10_height_29 hl (by decide) rfl (fun ls hl => ?_)
        refine lv_iload_n hx hb dX10_height_31 rfl (lv_at hl 4 rfl) ?_
        refine lv_iconst (v := 2) hx hb dX10_height_32 (by decide) ?_
        obtain ⟨m11, hr12, hf⟩ := ob_some hf
        have hj13 : ∀ (m119 : Int32), some m119 = some m11 → ∀ (H : Heap) (locs : List Loc) (ls : Array Slot), va_P G vwCl [(t_h, .inr (10, [.int t_baseWay, .int t_slip, .int t_low, .int t_high, .int t_unlike, .int t_alone, .long t_above, .long t_below, .ref t_edges_h, .ref t_lean_h, .ref t_word_h, .int t_layers, .ref t_layer_h, .ref t_least_h, .int t_sights, .ref t_sight_h, .int t_shadows, .ref t_shadow_h, .long t_endAbove, .long t_endBelow, .long t_speedAbove, .long t_speedBelow, .int t_spans, .ref t_spanLow_h, .ref t_spanHigh_h, .ref t_spanAt_h, .int t_found, .ref t_numbers_h, .int t_pairs, .ref t_pair_h, .ref t_most_h, .int t_rows, .ref t_row_h, .int t_notes, .ref t_under_h, .ref t_agreed_h]))] H → va_D A [(t_h, .inr (10, [.int t_baseWay, .int t_slip, .int t_low, .int t_high, .int t_unlike, .int t_alone, .long t_above, .long t_below, .ref t_edges_h, .ref t_lean_h, .ref t_word_h, .int t_layers, .ref t_layer_h, .ref t_least_h, .int t_sights, .ref t_sight_h, .int t_shadows, .ref t_shadow_h, .long t_endAbove, .long t_endBelow, .long t_speedAbove, .long t_speedBelow, .int t_spans, .ref t_spanLow_h, .ref t_spanHigh_h, .ref t_spanAt_h, .int t_found, .ref t_numbers_h, .int t_pairs, .ref t_pair_h, .ref t_most_h, .int t_rows, .ref t_row_h, .int t_notes, .ref t_under_h, .ref t_agreed_h]))] → va_S A s.heap H locs → lv_has ls 6 [(0, .ref t_h), (1, .int x1), (3, .int x3)] → W p l e rmX10_height s m args below meth c H locs 0 0 Q (F0 m 67 ls [.int m119]) := by
          intro m119 he H locs ls hP hD hS hl
          cases he
          refine lv_istore (lv' := [(5, .int m11), (0, .ref t_h), (1, .int x1), (3, .int x3)]) hx hb dX10_height_67 hl (by decide) rfl (fun ls hl => ?_)
          refine lv_iload hx hb dX10_height_69 (lv_at hl 0 rfl) ?_
          refine lv_if_gt (tgt := 76) hx hb dX10_height_71 (by decide) (fun c16 => ?_) (fun c16 => ?_)
          · have hf := ift hf c16
            refine lv_aload_n hx hb dX10_height_76 rfl (lv_at hl 1 rfl) ?_
            refine lv_iload_n hx hb dX10_height_77 rfl (lv_at hl 3 rfl) ?_
            refine lv_iconst (v := 1) hx hb dX10_height_78 (by decide) ?_
            obtain ⟨m17, hr18, hf⟩ := ob_some hf
            have hj19 : ∀ (m179 : Int64), some m179 = some m17 → ∀ (H : Heap) (locs : List Loc) (ls : Array Slot), va_P G vwCl [(t_h, .inr (10, [.int t_baseWay, .int t_slip, .int t_low, .int t_high, .int t_unlike, .int t_alone, .long t_above, .long t_below, .ref t_edges_h, .ref t_lean_h, .ref t_word_h, .int t_layers, .ref t_layer_h, .ref t_least_h, .int t_sights, .ref t_sight_h, .int t_shadows, .ref t_shadow_h, .long t_endAbove, .long t_endBelow, .long t_speedAbove, .long t_speedBelow, .int t_spans, .ref t_spanLow_h, .ref t_spanHigh_h, .ref t_spanAt_h, .int t_found, .ref t_numbers_h, .int t_pairs, .ref t_pair_h, .ref t_most_h, .int t_rows, .ref t_row_h, .int t_notes, .ref t_under_h, .ref t_agreed_h]))] H → va_D A [(t_h, .inr (10, [.int t_baseWay, .int t_slip, .int t_low, .int t_high, .int t_unlike, .int t_alone, .long t_above, .long t_below, .ref t_edges_h, .ref t_lean_h, .ref t_word_h, .int t_layers, .ref t_layer_h, .ref t_least_h, .int t_sights, .ref t_sight_h, .int t_shadows, .ref t_shadow_h, .long t_endAbove, .long t_endBelow, .long t_speedAbove, .long t_speedBelow, .int t_spans, .ref t_spanLow_h, .ref t_spanHigh_h, .ref t_spanAt_h, .int t_found, .ref t_numbers_h, .int t_pairs, .ref t_pair_h, .ref t_most_h, .int t_rows, .ref t_row_h, .int t_notes, .ref t_under_h, .ref t_agreed_h]))] → va_S A s.heap H locs → lv_has ls 6 [(5, .int m11)] → W p l e rmX10_height s m args below meth c H locs 0 0 Q (F0 m 102 ls [.long m179, .ref t_h]) := by
              intro m179 he H locs ls hP hD hS hl
              cases he
              refine lv_iload hx hb dX10_height_102 (lv_at hl 0 rfl) ?_
              refine lv_i2l (v := Int32.toInt64 m11) hx hb dX10_height_104 rfl ?_
              obtain ⟨r21, w22, w23, hc24, hf⟩ := ob3_some hf
              refine af_iW (wr := []) (ws2 := [(t_h, .inr (10, [.int t_baseWay, .int t_slip, .int t_low, .int t_high, .int t_unlike, .int t_alone, .long w22, .long w23, .ref t_edges_h, .ref t_lean_h, .ref t_word_h, .int t_layers, .ref t_layer_h, .ref t_least_h, .int t_sights, .ref t_sight_h, .int t_shadows, .ref t_shadow_h, .long t_endAbove, .long t_endBelow, .long t_speedAbove, .long t_speedBelow, .int t_spans, .ref t_spanLow_h, .ref t_spanHigh_h, .ref t_spanAt_h, .int t_found, .ref t_numbers_h, .int t_pairs, .ref t_pair_h, .ref t_most_h, .int t_rows, .ref t_row_h, .int t_notes, .ref t_under_h, .ref t_agreed_h]))]) (va_runV (As := [.long m17, .long (Int32.toInt64 m11)]) (rest := []) ⟨hx, hb, hml, hown, hts⟩ (k_X10_tells l G cI cJ (t_h := t_h) (t_edges_h := t_edges_h) (t_lean_h := t_lean_h) (t_word_h := t_word_h) (t_layer_h := t_layer_h) (t_least_h := t_least_h) (t_sight_h := t_sight_h) (t_shadow_h := t_shadow_h) (t_spanLow_h := t_spanLow_h) (t_spanHigh_h := t_spanHigh_h) (t_spanAt_h := t_spanAt_h) (t_numbers_h := t_numbers_h) (t_pair_h := t_pair_h) (t_most_h := t_most_h) (t_row_h := t_row_h) (t_under_h := t_under_h) (t_agreed_h := t_agreed_h) (t_baseWay := t_baseWay) (t_slip := t_slip) (t_low := t_low) (t_high := t_high) (t_unlike := t_unlike) (t_alone := t_alone) (t_above := t_above) (t_below := t_below) (t_layers := t_layers) (t_sights := t_sights) (t_shadows := t_shadows) (t_endAbove := t_endAbove) (t_endBelow := t_endBelow) (t_speedAbove := t_speedAbove) (t_speedBelow := t_speedBelow) (t_spans := t_spans) (t_found := t_found) (t_pairs := t_pairs) (t_rows := t_rows) (t_notes := t_notes) (x1 := m17) (x3 := (Int32.toInt64 m11)) (sz := _) (hf := hc24)) (cwV 2 hts gX10_height_X10_tells rfl rfl rfl (by decide +kernel) ⟨Nat.le_of_ble_eq_true rfl, Nat.le_of_ble_eq_true rfl⟩) (preV0 (ci := 10) (q0 := 0) (C := RX10) (wc := [(t_h, .inr (10, [.int t_baseWay, .int t_slip, .int t_low, .int t_high, .int t_unlike, .int t_alone, .long t_above, .long t_below, .ref t_edges_h, .ref t_lean_h, .ref t_word_h, .int t_layers, .ref t_layer_h, .ref t_least_h, .int t_sights, .ref t_sight_h, .int t_shadows, .ref t_shadow_h, .long t_endAbove, .long t_endBelow, .long t_speedAbove, .long t_speedBelow, .int t_spans, .ref t_spanLow_h, .ref t_spanHigh_h, .ref t_spanAt_h, .int t_found, .ref t_numbers_h, .int t_pairs, .ref t_pair_h, .ref t_most_h, .int t_rows, .ref t_row_h, .int t_notes, .ref t_under_h, .ref t_agreed_h]))]) hK hP hD hN [0] rfl rfl (by decide) rfl rfl) rfl rfl hl.1 rfl (lv_room (Nat.le_of_ble_eq_true rfl)) dX10_height_105 ⟨Nat.zero_le _, Nat.zero_le _⟩) hP hD hS hA [0] [] [0] rfl rfl (by decide) (by decide) rfl rfl (by decide) (fun H locs hP hD hS => ?_)
              exact hret r21 w22 w23 108 _ _ _ dX10_height_108 hf hP hD hS
            replace hf := hr18
            refine lv_icmp_ne (tgt := 93) hx hb dX10_height_79 (by decide) (fun c20 => ?_) (fun c20 => ?_)
            · have hf := iff_ hf c20
              refine lv_ldc2 (v := 1000) hx hb hown kc_97 dX10_height_93 ?_
              refine lv_aload_n hx hb dX10_height_96 rfl (lv_at hl 1 rfl) ?_
              refine va_get (D := G) (ci := 10) (v := .int t_baseWay) (C := RX10) (T := TX10) (N := 36) hx hb hts iwX10 hown hK hP 0 rfl rfl 0 (by decide) fl_58 (fun _ h9 => h9) rfl dX10_height_97 ?_
              refine lv_i2l (v := Int32.toInt64 t_baseWay) hx hb dX10_height_100 rfl ?_
              refine lv_lmul hx hb dX10_height_101 ?_
              exact hj19 _ hf _ _ _ hP hD hS (lv_sub hl [0] rfl)
            · have hf := ift hf c20
              refine lv_aload_n hx hb dX10_height_82 rfl (lv_at hl 1 rfl) ?_
              refine va_get (D := G) (ci := 10) (v := .int t_baseWay) (C := RX10) (T := TX10) (N := 36) hx hb hts iwX10 hown hK hP 0 rfl rfl 0 (by decide) fl_58 (fun _ h9 => h9) rfl dX10_height_83 ?_
              refine lv_i2l (v := Int32.toInt64 t_baseWay) hx hb dX10_height_86 rfl ?_
              refine lv_iload_n hx hb dX10_height_87 rfl (lv_at hl 2 rfl) ?_
              refine lv_i2l (v := Int32.toInt64 x1) hx hb dX10_height_88 rfl ?_
              refine lv_lmul hx hb dX10_height_89 ?_
              refine lv_goto (tgt := 102) hx hb dX10_height_90 (by decide) ?_
              exact hj19 _ hf _ _ _ hP hD hS (lv_sub hl [0] rfl)
          · have hf := iff_ hf c16
            refine lv_iconst (v := 0) hx hb dX10_height_74 (by decide) ?_
            exact hret 0 t_above t_below 75 _ _ _ dX10_height_75 hf hP hD hS
        replace hf := hr12
        refine lv_icmp_ne (tgt := 48) hx hb dX10_height_33 (by decide) (fun c14 => ?_) (fun c14 => ?_)
        · have hf := iff_ hf c14
          refine lv_iload_n hx hb dX10_height_48 rfl (lv_at hl 4 rfl) ?_
          refine lv_iconst (v := 3) hx hb dX10_height_49 (by decide) ?_
          refine lv_icmp_ne (tgt := 65) hx hb dX10_height_50 (by decide) (fun c15 => ?_) (fun c15 => ?_)
          · have hf := iff_ hf c15
            refine lv_iload hx hb dX10_height_65 (lv_at hl 0 rfl) ?_
            exact hj13 _ hf _ _ _ hP hD hS (lv_sub hl [1, 2, 4] rfl)
          · have hf := ift hf c15
            refine lv_iload hx hb dX10_height_53 (lv_at hl 0 rfl) ?_
            refine lv_iconst (v := 2) hx hb dX10_height_55 (by decide) ?_
            refine lv_aload_n hx hb dX10_height_56 rfl (lv_at hl 1 rfl) ?_
            refine va_get (D := G) (ci := 10) (v := .int t_slip) (C := RX10) (T := TX10) (N := 36) hx hb hts iwX10 hown hK hP 0 rfl rfl 1 (by decide) fl_62 (fun _ h9 => h9) rfl dX10_height_57 ?_
            refine lv_imul hx hb dX10_height_60 ?_
            refine lv_isub hx hb dX10_height_61 ?_
            refine lv_goto (tgt := 67) hx hb dX10_height_62 (by decide) ?_
            exact hj13 _ hf _ _ _ hP hD hS (lv_sub hl [1, 2, 4] rfl)
        · have hf := ift hf c14
          refine lv_iload hx hb dX10_height_36 (lv_at hl 0 rfl) ?_
          refine lv_iconst (v := 2) hx hb dX10_height_38 (by decide) ?_
          refine lv_aload_n hx hb dX10_height_39 rfl (lv_at hl 1 rfl) ?_
          refine va_get (D := G) (ci := 10) (v := .int t_slip) (C := RX10) (T := TX10) (N := 36) hx hb hts iwX10 hown hK hP 0 rfl rfl 1 (by decide) fl_62 (fun _ h9 => h9) rfl dX10_height_40 ?_
          refine lv_imul hx hb dX10_height_43 ?_
          refine lv_iadd hx hb dX10_height_44 ?_
          refine lv_goto (tgt := 67) hx hb dX10_height_45 (by decide) ?_
          exact hj13 _ hf _ _ _ hP hD hS (lv_sub hl [1, 2, 4] rfl)
      · have hf := ift hf c9
        refine lv_bipush (v := (-2)) hx hb dX10_height_23 (by decide) ?_
        exact hret (-2) t_above t_below 25 _ _ _ dX10_height_25 hf hP hD hS
theorem dX10_part_0 : decode cX10_part 0 = .ok (.iload_n 1, 1) := by decide +kernel
theorem dX10_part_1 : decode cX10_part 1 = .ok (.ifCond .ne 10, 3) := by decide +kernel
theorem dX10_part_4 : decode cX10_part 4 = .ok (.aload_n 0, 1) := by decide +kernel
theorem dX10_part_5 : decode cX10_part 5 = .ok (.getfield 77, 3) := by decide +kernel
theorem dX10_part_8 : decode cX10_part 8 = .ok (.goto 18, 3) := by decide +kernel
theorem dX10_part_11 : decode cX10_part 11 = .ok (.iload_n 1, 1) := by decide +kernel
theorem dX10_part_12 : decode cX10_part 12 = .ok (.iconst 1, 1) := by decide +kernel
theorem dX10_part_13 : decode cX10_part 13 = .ok (.if_icmp .ne 10, 3) := by decide +kernel
theorem dX10_part_16 : decode cX10_part 16 = .ok (.aload_n 0, 1) := by decide +kernel
theorem dX10_part_17 : decode cX10_part 17 = .ok (.getfield 81, 3) := by decide +kernel
theorem dX10_part_20 : decode cX10_part 20 = .ok (.goto 6, 3) := by decide +kernel
theorem dX10_part_23 : decode cX10_part 23 = .ok (.ldc2_w 103, 3) := by decide +kernel
theorem dX10_part_26 : decode cX10_part 26 = .ok (.lreturn, 1) := by decide +kernel
set_option maxRecDepth 100000 in
def fX10_part (x1 : Int32) (t_above : Int64) (t_below : Int64) : Option (Int64) :=
  if x1 = 0 then
    some t_above
  else
    if x1 = 1 then
      some t_below
    else
      some (-9000000000000000000)
abbrev rmX10_part : Room := { frames := 0, cells := 0, slots := 0, locals := 0 }
theorem iwX10_part_X10 : ∀ w ∈ u_ws RX10 TX10 36, w ∈ wsX10_part := by decide +kernel
set_option maxHeartbeats 4000000 in
set_option maxRecDepth 100000 in
theorem k_X10_part (l : Launch) (G : va_G) (cI cJ : ClassId) (t_h t_edges_h t_lean_h t_word_h t_layer_h t_least_h t_sight_h t_shadow_h t_spanLow_h t_spanHigh_h t_spanAt_h t_numbers_h t_pair_h t_most_h t_row_h t_under_h t_agreed_h : Nat) (sz : Nat) (t_baseWay : Int32) (t_slip : Int32) (t_low : Int32) (t_high : Int32) (t_unlike : Int32) (t_alone : Int32) (t_above : Int64) (t_below : Int64) (t_layers : Int32) (t_sights : Int32) (t_shadows : Int32) (t_endAbove : Int64) (t_endBelow : Int64) (t_speedAbove : Int64) (t_speedBelow : Int64) (t_spans : Int32) (t_found : Int32) (t_pairs : Int32) (t_rows : Int32) (t_notes : Int32) (x1 : Int32) {o_r : Int64} (hf : fX10_part x1 t_above t_below = some o_r) : MetL l yX10_part wsX10_part rmX10_part [.ref t_h, .int x1] G cI cJ [(t_h, .inr (10, [.int t_baseWay, .int t_slip, .int t_low, .int t_high, .int t_unlike, .int t_alone, .long t_above, .long t_below, .ref t_edges_h, .ref t_lean_h, .ref t_word_h, .int t_layers, .ref t_layer_h, .ref t_least_h, .int t_sights, .ref t_sight_h, .int t_shadows, .ref t_shadow_h, .long t_endAbove, .long t_endBelow, .long t_speedAbove, .long t_speedBelow, .int t_spans, .ref t_spanLow_h, .ref t_spanHigh_h, .ref t_spanAt_h, .int t_found, .ref t_numbers_h, .int t_pairs, .ref t_pair_h, .ref t_most_h, .int t_rows, .ref t_row_h, .int t_notes, .ref t_under_h, .ref t_agreed_h]))] [(t_h, .inr (10, [.int t_baseWay, .int t_slip, .int t_low, .int t_high, .int t_unlike, .int t_alone, .long t_above, .long t_below, .ref t_edges_h, .ref t_lean_h, .ref t_word_h, .int t_layers, .ref t_layer_h, .ref t_least_h, .int t_sights, .ref t_sight_h, .int t_shadows, .ref t_shadow_h, .long t_endAbove, .long t_endBelow, .long t_speedAbove, .long t_speedBelow, .int t_spans, .ref t_spanLow_h, .ref t_spanHigh_h, .ref t_spanAt_h, .int t_found, .ref t_numbers_h, .int t_pairs, .ref t_pair_h, .ref t_most_h, .int t_rows, .ref t_row_h, .int t_notes, .ref t_under_h, .ref t_agreed_h]))] sz o_r := by
  refine en_0 (l := l) (y := yX10_part) (wsl := wsX10_part) (rm := rmX10_part) (av := [.ref t_h, .int x1]) (G := G) (cI := cI) (cJ := cJ) (w0 := [(t_h, .inr (10, [.int t_baseWay, .int t_slip, .int t_low, .int t_high, .int t_unlike, .int t_alone, .long t_above, .long t_below, .ref t_edges_h, .ref t_lean_h, .ref t_word_h, .int t_layers, .ref t_layer_h, .ref t_least_h, .int t_sights, .ref t_sight_h, .int t_shadows, .ref t_shadow_h, .long t_endAbove, .long t_endBelow, .long t_speedAbove, .long t_speedBelow, .int t_spans, .ref t_spanLow_h, .ref t_spanHigh_h, .ref t_spanAt_h, .int t_found, .ref t_numbers_h, .int t_pairs, .ref t_pair_h, .ref t_most_h, .int t_rows, .ref t_row_h, .int t_notes, .ref t_under_h, .ref t_agreed_h]))]) (sz := sz) (Qf := fun A => Ql0 G cI cJ [(t_h, .inr (10, [.int t_baseWay, .int t_slip, .int t_low, .int t_high, .int t_unlike, .int t_alone, .long t_above, .long t_below, .ref t_edges_h, .ref t_lean_h, .ref t_word_h, .int t_layers, .ref t_layer_h, .ref t_least_h, .int t_sights, .ref t_sight_h, .int t_shadows, .ref t_shadow_h, .long t_endAbove, .long t_endBelow, .long t_speedAbove, .long t_speedBelow, .int t_spans, .ref t_spanLow_h, .ref t_spanHigh_h, .ref t_spanAt_h, .int t_found, .ref t_numbers_h, .int t_pairs, .ref t_pair_h, .ref t_most_h, .int t_rows, .ref t_row_h, .int t_notes, .ref t_under_h, .ref t_agreed_h]))] o_r A) (cc := cX10_part) (maxL := 2) (ret := (some .long)) RX10 (by decide +kernel) rfl rfl (Nat.le_of_ble_eq_true rfl) ?_
  intro p e s m args below meth c A ls Q hQ hx hb hr hts hown hlocks hml hN hK hP hD hS hA hl
  have hl : lv_has ls 2 [(0, .ref t_h), (1, .int x1)] := hl
  have iwX10 := iwX10_part_X10
  have fl_77 := hts (.fieldLink RX10 77 "CloudOfficeModel" "above" "J") (by decide +kernel)
  have fl_81 := hts (.fieldLink RX10 81 "CloudOfficeModel" "below" "J") (by decide +kernel)
  have kc_103 := hts (.constantLong RX10 103 (-9000000000000000000)) (by decide +kernel)
  have hret : ∀ (o_r9 : Int64) (pc : Nat) (H : Heap) (locs : List Loc) (ls : Array Slot), decode cX10_part pc = .ok (.lreturn, 1) → some o_r9 = some o_r → va_P G vwCl [(t_h, .inr (10, [.int t_baseWay, .int t_slip, .int t_low, .int t_high, .int t_unlike, .int t_alone, .long t_above, .long t_below, .ref t_edges_h, .ref t_lean_h, .ref t_word_h, .int t_layers, .ref t_layer_h, .ref t_least_h, .int t_sights, .ref t_sight_h, .int t_shadows, .ref t_shadow_h, .long t_endAbove, .long t_endBelow, .long t_speedAbove, .long t_speedBelow, .int t_spans, .ref t_spanLow_h, .ref t_spanHigh_h, .ref t_spanAt_h, .int t_found, .ref t_numbers_h, .int t_pairs, .ref t_pair_h, .ref t_most_h, .int t_rows, .ref t_row_h, .int t_notes, .ref t_under_h, .ref t_agreed_h]))] H → va_D A [(t_h, .inr (10, [.int t_baseWay, .int t_slip, .int t_low, .int t_high, .int t_unlike, .int t_alone, .long t_above, .long t_below, .ref t_edges_h, .ref t_lean_h, .ref t_word_h, .int t_layers, .ref t_layer_h, .ref t_least_h, .int t_sights, .ref t_sight_h, .int t_shadows, .ref t_shadow_h, .long t_endAbove, .long t_endBelow, .long t_speedAbove, .long t_speedBelow, .int t_spans, .ref t_spanLow_h, .ref t_spanHigh_h, .ref t_spanAt_h, .int t_found, .ref t_numbers_h, .int t_pairs, .ref t_pair_h, .ref t_most_h, .int t_rows, .ref t_row_h, .int t_notes, .ref t_under_h, .ref t_agreed_h]))] → va_S A s.heap H locs → W p l e rmX10_part s m args below meth c H locs 0 0 Q (F0 m pc ls [.long o_r9]) := by
    intro o_r9 pc H locs ls hdg he hP hD hS
    cases he
    subst hQ
    exact rt_l hx hb hr hlocks hK hP hD hS rfl hdg
  clear hQ
  unfold fX10_part at hf
  refine lv_iload_n hx hb dX10_part_0 rfl (lv_at hl 1 rfl) ?_
  refine lv_if_ne (tgt := 11) hx hb dX10_part_1 (by decide) (fun c1 => ?_) (fun c1 => ?_)
  · have hf := iff_ hf c1
    refine lv_iload_n hx hb dX10_part_11 rfl (lv_at hl 1 rfl) ?_
    refine lv_iconst (v := 1) hx hb dX10_part_12 (by decide) ?_
    refine lv_icmp_ne (tgt := 23) hx hb dX10_part_13 (by decide) (fun c2 => ?_) (fun c2 => ?_)
    · have hf := iff_ hf c2
      refine lv_ldc2 (v := (-9000000000000000000)) hx hb hown kc_103 dX10_part_23 ?_
      exact hret (-9000000000000000000) 26 _ _ _ dX10_part_26 hf hP hD hS
    · have hf := ift hf c2
      refine lv_aload_n hx hb dX10_part_16 rfl (lv_at hl 0 rfl) ?_
      refine va_get (D := G) (ci := 10) (v := .long t_below) (C := RX10) (T := TX10) (N := 36) hx hb hts iwX10 hown hK hP 0 rfl rfl 7 (by decide) fl_81 (fun _ h9 => h9) rfl dX10_part_17 ?_
      refine lv_goto (tgt := 26) hx hb dX10_part_20 (by decide) ?_
      exact hret t_below 26 _ _ _ dX10_part_26 hf hP hD hS
  · have hf := ift hf c1
    refine lv_aload_n hx hb dX10_part_4 rfl (lv_at hl 0 rfl) ?_
    refine va_get (D := G) (ci := 10) (v := .long t_above) (C := RX10) (T := TX10) (N := 36) hx hb hts iwX10 hown hK hP 0 rfl rfl 6 (by decide) fl_77 (fun _ h9 => h9) rfl dX10_part_5 ?_
    refine lv_goto (tgt := 26) hx hb dX10_part_8 (by decide) ?_
    exact hret t_above 26 _ _ _ dX10_part_26 hf hP hD hS
theorem dX10_floor_0 : decode cX10_floor 0 = .ok (.aload_n 0, 1) := by decide +kernel
theorem dX10_floor_1 : decode cX10_floor 1 = .ok (.getfield 77, 3) := by decide +kernel
theorem dX10_floor_4 : decode cX10_floor 4 = .ok (.aload_n 0, 1) := by decide +kernel
theorem dX10_floor_5 : decode cX10_floor 5 = .ok (.getfield 81, 3) := by decide +kernel
theorem dX10_floor_8 : decode cX10_floor 8 = .ok (.ldiv, 1) := by decide +kernel
theorem dX10_floor_9 : decode cX10_floor 9 = .ok (.lstore_n 1, 1) := by decide +kernel
theorem dX10_floor_10 : decode cX10_floor 10 = .ok (.aload_n 0, 1) := by decide +kernel
theorem dX10_floor_11 : decode cX10_floor 11 = .ok (.getfield 77, 3) := by decide +kernel
theorem dX10_floor_14 : decode cX10_floor 14 = .ok (.lconst 0, 1) := by decide +kernel
theorem dX10_floor_15 : decode cX10_floor 15 = .ok (.lcmp, 1) := by decide +kernel
theorem dX10_floor_16 : decode cX10_floor 16 = .ok (.ifCond .ge 23, 3) := by decide +kernel
theorem dX10_floor_19 : decode cX10_floor 19 = .ok (.lload_n 1, 1) := by decide +kernel
theorem dX10_floor_20 : decode cX10_floor 20 = .ok (.aload_n 0, 1) := by decide +kernel
theorem dX10_floor_21 : decode cX10_floor 21 = .ok (.getfield 81, 3) := by decide +kernel
theorem dX10_floor_24 : decode cX10_floor 24 = .ok (.lmul, 1) := by decide +kernel
theorem dX10_floor_25 : decode cX10_floor 25 = .ok (.aload_n 0, 1) := by decide +kernel
theorem dX10_floor_26 : decode cX10_floor 26 = .ok (.getfield 77, 3) := by decide +kernel
theorem dX10_floor_29 : decode cX10_floor 29 = .ok (.lcmp, 1) := by decide +kernel
theorem dX10_floor_30 : decode cX10_floor 30 = .ok (.ifCond .eq 9, 3) := by decide +kernel
theorem dX10_floor_33 : decode cX10_floor 33 = .ok (.lload_n 1, 1) := by decide +kernel
theorem dX10_floor_34 : decode cX10_floor 34 = .ok (.lconst 1, 1) := by decide +kernel
theorem dX10_floor_35 : decode cX10_floor 35 = .ok (.lsub, 1) := by decide +kernel
theorem dX10_floor_36 : decode cX10_floor 36 = .ok (.goto 4, 3) := by decide +kernel
theorem dX10_floor_39 : decode cX10_floor 39 = .ok (.lload_n 1, 1) := by decide +kernel
theorem dX10_floor_40 : decode cX10_floor 40 = .ok (.lreturn, 1) := by decide +kernel
set_option maxRecDepth 100000 in
def fX10_floor (t_above : Int64) (t_below : Int64) : Option (Int64) :=
  gd (decide (¬ t_below = 0)) <|
  bv (t_above / t_below) fun v2 =>
  if 0 ≤ (lg_cmp t_above 0) then
    some v2
  else
    if (lg_cmp (v2 * t_below) t_above) = 0 then
      some v2
    else
      some (v2 - 1)
abbrev rmX10_floor : Room := { frames := 0, cells := 0, slots := 0, locals := 0 }
theorem iwX10_floor_X10 : ∀ w ∈ u_ws RX10 TX10 36, w ∈ wsX10_floor := by decide +kernel
set_option maxHeartbeats 4000000 in
set_option maxRecDepth 100000 in
theorem k_X10_floor (l : Launch) (G : va_G) (cI cJ : ClassId) (t_h t_edges_h t_lean_h t_word_h t_layer_h t_least_h t_sight_h t_shadow_h t_spanLow_h t_spanHigh_h t_spanAt_h t_numbers_h t_pair_h t_most_h t_row_h t_under_h t_agreed_h : Nat) (sz : Nat) (t_baseWay : Int32) (t_slip : Int32) (t_low : Int32) (t_high : Int32) (t_unlike : Int32) (t_alone : Int32) (t_above : Int64) (t_below : Int64) (t_layers : Int32) (t_sights : Int32) (t_shadows : Int32) (t_endAbove : Int64) (t_endBelow : Int64) (t_speedAbove : Int64) (t_speedBelow : Int64) (t_spans : Int32) (t_found : Int32) (t_pairs : Int32) (t_rows : Int32) (t_notes : Int32) {o_r : Int64} (hf : fX10_floor t_above t_below = some o_r) : MetL l yX10_floor wsX10_floor rmX10_floor [.ref t_h] G cI cJ [(t_h, .inr (10, [.int t_baseWay, .int t_slip, .int t_low, .int t_high, .int t_unlike, .int t_alone, .long t_above, .long t_below, .ref t_edges_h, .ref t_lean_h, .ref t_word_h, .int t_layers, .ref t_layer_h, .ref t_least_h, .int t_sights, .ref t_sight_h, .int t_shadows, .ref t_shadow_h, .long t_endAbove, .long t_endBelow, .long t_speedAbove, .long t_speedBelow, .int t_spans, .ref t_spanLow_h, .ref t_spanHigh_h, .ref t_spanAt_h, .int t_found, .ref t_numbers_h, .int t_pairs, .ref t_pair_h, .ref t_most_h, .int t_rows, .ref t_row_h, .int t_notes, .ref t_under_h, .ref t_agreed_h]))] [(t_h, .inr (10, [.int t_baseWay, .int t_slip, .int t_low, .int t_high, .int t_unlike, .int t_alone, .long t_above, .long t_below, .ref t_edges_h, .ref t_lean_h, .ref t_word_h, .int t_layers, .ref t_layer_h, .ref t_least_h, .int t_sights, .ref t_sight_h, .int t_shadows, .ref t_shadow_h, .long t_endAbove, .long t_endBelow, .long t_speedAbove, .long t_speedBelow, .int t_spans, .ref t_spanLow_h, .ref t_spanHigh_h, .ref t_spanAt_h, .int t_found, .ref t_numbers_h, .int t_pairs, .ref t_pair_h, .ref t_most_h, .int t_rows, .ref t_row_h, .int t_notes, .ref t_under_h, .ref t_agreed_h]))] sz o_r := by
  refine en_0 (l := l) (y := yX10_floor) (wsl := wsX10_floor) (rm := rmX10_floor) (av := [.ref t_h]) (G := G) (cI := cI) (cJ := cJ) (w0 := [(t_h, .inr (10, [.int t_baseWay, .int t_slip, .int t_low, .int t_high, .int t_unlike, .int t_alone, .long t_above, .long t_below, .ref t_edges_h, .ref t_lean_h, .ref t_word_h, .int t_layers, .ref t_layer_h, .ref t_least_h, .int t_sights, .ref t_sight_h, .int t_shadows, .ref t_shadow_h, .long t_endAbove, .long t_endBelow, .long t_speedAbove, .long t_speedBelow, .int t_spans, .ref t_spanLow_h, .ref t_spanHigh_h, .ref t_spanAt_h, .int t_found, .ref t_numbers_h, .int t_pairs, .ref t_pair_h, .ref t_most_h, .int t_rows, .ref t_row_h, .int t_notes, .ref t_under_h, .ref t_agreed_h]))]) (sz := sz) (Qf := fun A => Ql0 G cI cJ [(t_h, .inr (10, [.int t_baseWay, .int t_slip, .int t_low, .int t_high, .int t_unlike, .int t_alone, .long t_above, .long t_below, .ref t_edges_h, .ref t_lean_h, .ref t_word_h, .int t_layers, .ref t_layer_h, .ref t_least_h, .int t_sights, .ref t_sight_h, .int t_shadows, .ref t_shadow_h, .long t_endAbove, .long t_endBelow, .long t_speedAbove, .long t_speedBelow, .int t_spans, .ref t_spanLow_h, .ref t_spanHigh_h, .ref t_spanAt_h, .int t_found, .ref t_numbers_h, .int t_pairs, .ref t_pair_h, .ref t_most_h, .int t_rows, .ref t_row_h, .int t_notes, .ref t_under_h, .ref t_agreed_h]))] o_r A) (cc := cX10_floor) (maxL := 3) (ret := (some .long)) RX10 (by decide +kernel) rfl rfl (Nat.le_of_ble_eq_true rfl) ?_
  intro p e s m args below meth c A ls Q hQ hx hb hr hts hown hlocks hml hN hK hP hD hS hA hl
  have hl : lv_has ls 3 [(0, .ref t_h)] := hl
  have iwX10 := iwX10_floor_X10
  have fl_77 := hts (.fieldLink RX10 77 "CloudOfficeModel" "above" "J") (by decide +kernel)
  have fl_81 := hts (.fieldLink RX10 81 "CloudOfficeModel" "below" "J") (by decide +kernel)
  have hret : ∀ (o_r9 : Int64) (pc : Nat) (H : Heap) (locs : List Loc) (ls : Array Slot), decode cX10_floor pc = .ok (.lreturn, 1) → some o_r9 = some o_r → va_P G vwCl [(t_h, .inr (10, [.int t_baseWay, .int t_slip, .int t_low, .int t_high, .int t_unlike, .int t_alone, .long t_above, .long t_below, .ref t_edges_h, .ref t_lean_h, .ref t_word_h, .int t_layers, .ref t_layer_h, .ref t_least_h, .int t_sights, .ref t_sight_h, .int t_shadows, .ref t_shadow_h, .long t_endAbove, .long t_endBelow, .long t_speedAbove, .long t_speedBelow, .int t_spans, .ref t_spanLow_h, .ref t_spanHigh_h, .ref t_spanAt_h, .int t_found, .ref t_numbers_h, .int t_pairs, .ref t_pair_h, .ref t_most_h, .int t_rows, .ref t_row_h, .int t_notes, .ref t_under_h, .ref t_agreed_h]))] H → va_D A [(t_h, .inr (10, [.int t_baseWay, .int t_slip, .int t_low, .int t_high, .int t_unlike, .int t_alone, .long t_above, .long t_below, .ref t_edges_h, .ref t_lean_h, .ref t_word_h, .int t_layers, .ref t_layer_h, .ref t_least_h, .int t_sights, .ref t_sight_h, .int t_shadows, .ref t_shadow_h, .long t_endAbove, .long t_endBelow, .long t_speedAbove, .long t_speedBelow, .int t_spans, .ref t_spanLow_h, .ref t_spanHigh_h, .ref t_spanAt_h, .int t_found, .ref t_numbers_h, .int t_pairs, .ref t_pair_h, .ref t_most_h, .int t_rows, .ref t_row_h, .int t_notes, .ref t_under_h, .ref t_agreed_h]))] → va_S A s.heap H locs → W p l e rmX10_floor s m args below meth c H locs 0 0 Q (F0 m pc ls [.long o_r9]) := by
    intro o_r9 pc H locs ls hdg he hP hD hS
    cases he
    subst hQ
    exact rt_l hx hb hr hlocks hK hP hD hS rfl hdg
  clear hQ
  unfold fX10_floor at hf
  refine lv_aload_n hx hb dX10_floor_0 rfl (lv_at hl 0 rfl) ?_
  refine va_get (D := G) (ci := 10) (v := .long t_above) (C := RX10) (T := TX10) (N := 36) hx hb hts iwX10 hown hK hP 0 rfl rfl 6 (by decide) fl_77 (fun _ h9 => h9) rfl dX10_floor_1 ?_
  refine lv_aload_n hx hb dX10_floor_4 rfl (lv_at hl 0 rfl) ?_
  refine va_get (D := G) (ci := 10) (v := .long t_below) (C := RX10) (T := TX10) (N := 36) hx hb hts iwX10 hown hK hP 0 rfl rfl 7 (by decide) fl_81 (fun _ h9 => h9) rfl dX10_floor_5 ?_
  obtain ⟨h1, hf⟩ := gd_some hf
  refine lv_ldiv hx hb dX10_floor_8 (of_decide_eq_true h1) ?_
  refine lv_topl (fun v2 ev2 => ?_)
  have hf := bv_at ev2 hf
  refine lv_lstore_n (lv' := [(1, .long v2), (0, .ref t_h)]) hx hb dX10_floor_9 rfl hl (by decide) rfl (fun ls hl => ?_)
  refine lv_aload_n hx hb dX10_floor_10 rfl (lv_at hl 1 rfl) ?_
  refine va_get (D := G) (ci := 10) (v := .long t_above) (C := RX10) (T := TX10) (N := 36) hx hb hts iwX10 hown hK hP 0 rfl rfl 6 (by decide) fl_77 (fun _ h9 => h9) rfl dX10_floor_11 ?_
  refine lv_lconst (v := 0) hx hb dX10_floor_14 (by decide) ?_
  refine W.lcmp hx hb dX10_floor_15 ?_
  refine lv_if_ge (tgt := 39) hx hb dX10_floor_16 (by decide) (fun c3 => ?_) (fun c3 => ?_)
  · have hf := ift hf c3
    refine lv_lload_n hx hb dX10_floor_39 rfl (lv_at hl 0 rfl) ?_
    exact hret v2 40 _ _ _ dX10_floor_40 hf hP hD hS
  · have hf := iff_ hf c3
    refine lv_lload_n hx hb dX10_floor_19 rfl (lv_at hl 0 rfl) ?_
    refine lv_aload_n hx hb dX10_floor_20 rfl (lv_at hl 1 rfl) ?_
    refine va_get (D := G) (ci := 10) (v := .long t_below) (C := RX10) (T := TX10) (N := 36) hx hb hts iwX10 hown hK hP 0 rfl rfl 7 (by decide) fl_81 (fun _ h9 => h9) rfl dX10_floor_21 ?_
    refine lv_lmul hx hb dX10_floor_24 ?_
    refine lv_aload_n hx hb dX10_floor_25 rfl (lv_at hl 1 rfl) ?_
    refine va_get (D := G) (ci := 10) (v := .long t_above) (C := RX10) (T := TX10) (N := 36) hx hb hts iwX10 hown hK hP 0 rfl rfl 6 (by decide) fl_77 (fun _ h9 => h9) rfl dX10_floor_26 ?_
    refine W.lcmp hx hb dX10_floor_29 ?_
    refine lv_if_eq (tgt := 39) hx hb dX10_floor_30 (by decide) (fun c4 => ?_) (fun c4 => ?_)
    · have hf := ift hf c4
      refine lv_lload_n hx hb dX10_floor_39 rfl (lv_at hl 0 rfl) ?_
      exact hret v2 40 _ _ _ dX10_floor_40 hf hP hD hS
    · have hf := iff_ hf c4
      refine lv_lload_n hx hb dX10_floor_33 rfl (lv_at hl 0 rfl) ?_
      refine lv_lconst (v := 1) hx hb dX10_floor_34 (by decide) ?_
      refine lv_lsub hx hb dX10_floor_35 ?_
      refine lv_goto (tgt := 40) hx hb dX10_floor_36 (by decide) ?_
      exact hret (v2 - 1) 40 _ _ _ dX10_floor_40 hf hP hD hS
set_option maxRecDepth 20000 in
theorem ggX10_layer_X10_in : GoodIn wsX10_layer wsX10_in := goodIn_r _ [7] (by decide +kernel) (by decide +kernel)
set_option maxRecDepth 20000 in
theorem gX10_layer_X10_in : GoodIn wsX10_layer (va_wsS RX10 89 yX10_in wsX10_in) := goodIn_app (goodIn_of _ (by decide +kernel)) ggX10_layer_X10_in
theorem dX10_layer_0 : decode cX10_layer 0 = .ok (.iload_n 1, 1) := by decide +kernel
theorem dX10_layer_1 : decode cX10_layer 1 = .ok (.iconst 1, 1) := by decide +kernel
theorem dX10_layer_2 : decode cX10_layer 2 = .ok (.ldc 88, 2) := by decide +kernel
theorem dX10_layer_4 : decode cX10_layer 4 = .ok (.invokestatic 89, 3) := by decide +kernel
theorem dX10_layer_7 : decode cX10_layer 7 = .ok (.ifCond .ne 6, 3) := by decide +kernel
theorem dX10_layer_10 : decode cX10_layer 10 = .ok (.bipush (-2), 2) := by decide +kernel
theorem dX10_layer_12 : decode cX10_layer 12 = .ok (.ireturn, 1) := by decide +kernel
theorem dX10_layer_13 : decode cX10_layer 13 = .ok (.aload_n 0, 1) := by decide +kernel
theorem dX10_layer_14 : decode cX10_layer 14 = .ok (.getfield 105, 3) := by decide +kernel
theorem dX10_layer_17 : decode cX10_layer 17 = .ok (.bipush 6, 2) := by decide +kernel
theorem dX10_layer_19 : decode cX10_layer 19 = .ok (.if_icmp .ne 6, 3) := by decide +kernel
theorem dX10_layer_22 : decode cX10_layer 22 = .ok (.bipush (-4), 2) := by decide +kernel
theorem dX10_layer_24 : decode cX10_layer 24 = .ok (.ireturn, 1) := by decide +kernel
theorem dX10_layer_25 : decode cX10_layer 25 = .ok (.aload_n 0, 1) := by decide +kernel
theorem dX10_layer_26 : decode cX10_layer 26 = .ok (.getfield 19, 3) := by decide +kernel
theorem dX10_layer_29 : decode cX10_layer 29 = .ok (.aload_n 0, 1) := by decide +kernel
theorem dX10_layer_30 : decode cX10_layer 30 = .ok (.getfield 105, 3) := by decide +kernel
theorem dX10_layer_33 : decode cX10_layer 33 = .ok (.iload_n 1, 1) := by decide +kernel
theorem dX10_layer_34 : decode cX10_layer 34 = .ok (.iastore, 1) := by decide +kernel
theorem dX10_layer_35 : decode cX10_layer 35 = .ok (.aload_n 0, 1) := by decide +kernel
theorem dX10_layer_36 : decode cX10_layer 36 = .ok (.dup, 1) := by decide +kernel
theorem dX10_layer_37 : decode cX10_layer 37 = .ok (.getfield 105, 3) := by decide +kernel
theorem dX10_layer_40 : decode cX10_layer 40 = .ok (.iconst 1, 1) := by decide +kernel
theorem dX10_layer_41 : decode cX10_layer 41 = .ok (.iadd, 1) := by decide +kernel
theorem dX10_layer_42 : decode cX10_layer 42 = .ok (.putfield 105, 3) := by decide +kernel
theorem dX10_layer_45 : decode cX10_layer 45 = .ok (.aload_n 0, 1) := by decide +kernel
theorem dX10_layer_46 : decode cX10_layer 46 = .ok (.getfield 105, 3) := by decide +kernel
theorem dX10_layer_49 : decode cX10_layer 49 = .ok (.ireturn, 1) := by decide +kernel
set_option maxRecDepth 100000 in
def fX10_layer (x1 : Int32) (t_layers : Int32) (t_layer_a : Nat → Int32) : Option (Int32 × Int32 × (Nat → Int32)) :=
  ob (fX10_in x1 1 100000) fun r1 =>
  if (b2i r1) = 0 then
    some ((-2), t_layers, t_layer_a)
  else
    if t_layers = 6 then
      some ((-4), t_layers, t_layer_a)
    else
      gd (bnd t_layers 6) <|
      bv (upd t_layer_a (Int32.toNatClampNeg t_layers) x1) fun a6 =>
      bv (t_layers + 1) fun v7 =>
      some (v7, v7, a6)
abbrev rmX10_layer : Room := { frames := 1, cells := 0, slots := 0, locals := 22 }
theorem iwX10_layer_X10 : ∀ w ∈ u_ws RX10 TX10 36, w ∈ wsX10_layer := by decide +kernel
set_option maxHeartbeats 4000000 in
set_option maxRecDepth 100000 in
theorem k_X10_layer (l : Launch) (G : va_G) (cI cJ : ClassId) (t_h t_edges_h t_lean_h t_word_h t_layer_h t_least_h t_sight_h t_shadow_h t_spanLow_h t_spanHigh_h t_spanAt_h t_numbers_h t_pair_h t_most_h t_row_h t_under_h t_agreed_h : Nat) (sz : Nat) (t_baseWay : Int32) (t_slip : Int32) (t_low : Int32) (t_high : Int32) (t_unlike : Int32) (t_alone : Int32) (t_above : Int64) (t_below : Int64) (t_layers : Int32) (t_sights : Int32) (t_shadows : Int32) (t_endAbove : Int64) (t_endBelow : Int64) (t_speedAbove : Int64) (t_speedBelow : Int64) (t_spans : Int32) (t_found : Int32) (t_pairs : Int32) (t_rows : Int32) (t_notes : Int32) (t_layer_a : Nat → Int32) (x1 : Int32) {o_r : Int32} {o_t_layers : Int32} {o_t_layer_a : Nat → Int32} (hf : fX10_layer x1 t_layers t_layer_a = some (o_r, o_t_layers, o_t_layer_a)) : MetI l yX10_layer wsX10_layer rmX10_layer [.ref t_h, .int x1] G cI cJ [(t_h, .inr (10, [.int t_baseWay, .int t_slip, .int t_low, .int t_high, .int t_unlike, .int t_alone, .long t_above, .long t_below, .ref t_edges_h, .ref t_lean_h, .ref t_word_h, .int t_layers, .ref t_layer_h, .ref t_least_h, .int t_sights, .ref t_sight_h, .int t_shadows, .ref t_shadow_h, .long t_endAbove, .long t_endBelow, .long t_speedAbove, .long t_speedBelow, .int t_spans, .ref t_spanLow_h, .ref t_spanHigh_h, .ref t_spanAt_h, .int t_found, .ref t_numbers_h, .int t_pairs, .ref t_pair_h, .ref t_most_h, .int t_rows, .ref t_row_h, .int t_notes, .ref t_under_h, .ref t_agreed_h])), (t_layer_h, .inl (cI, 6, .inl t_layer_a))] [(t_h, .inr (10, [.int t_baseWay, .int t_slip, .int t_low, .int t_high, .int t_unlike, .int t_alone, .long t_above, .long t_below, .ref t_edges_h, .ref t_lean_h, .ref t_word_h, .int o_t_layers, .ref t_layer_h, .ref t_least_h, .int t_sights, .ref t_sight_h, .int t_shadows, .ref t_shadow_h, .long t_endAbove, .long t_endBelow, .long t_speedAbove, .long t_speedBelow, .int t_spans, .ref t_spanLow_h, .ref t_spanHigh_h, .ref t_spanAt_h, .int t_found, .ref t_numbers_h, .int t_pairs, .ref t_pair_h, .ref t_most_h, .int t_rows, .ref t_row_h, .int t_notes, .ref t_under_h, .ref t_agreed_h])), (t_layer_h, .inl (cI, 6, .inl o_t_layer_a))] sz o_r := by
  refine en_0 (l := l) (y := yX10_layer) (wsl := wsX10_layer) (rm := rmX10_layer) (av := [.ref t_h, .int x1]) (G := G) (cI := cI) (cJ := cJ) (w0 := [(t_h, .inr (10, [.int t_baseWay, .int t_slip, .int t_low, .int t_high, .int t_unlike, .int t_alone, .long t_above, .long t_below, .ref t_edges_h, .ref t_lean_h, .ref t_word_h, .int t_layers, .ref t_layer_h, .ref t_least_h, .int t_sights, .ref t_sight_h, .int t_shadows, .ref t_shadow_h, .long t_endAbove, .long t_endBelow, .long t_speedAbove, .long t_speedBelow, .int t_spans, .ref t_spanLow_h, .ref t_spanHigh_h, .ref t_spanAt_h, .int t_found, .ref t_numbers_h, .int t_pairs, .ref t_pair_h, .ref t_most_h, .int t_rows, .ref t_row_h, .int t_notes, .ref t_under_h, .ref t_agreed_h])), (t_layer_h, .inl (cI, 6, .inl t_layer_a))]) (sz := sz) (Qf := fun A => Qi0 G cI cJ [(t_h, .inr (10, [.int t_baseWay, .int t_slip, .int t_low, .int t_high, .int t_unlike, .int t_alone, .long t_above, .long t_below, .ref t_edges_h, .ref t_lean_h, .ref t_word_h, .int o_t_layers, .ref t_layer_h, .ref t_least_h, .int t_sights, .ref t_sight_h, .int t_shadows, .ref t_shadow_h, .long t_endAbove, .long t_endBelow, .long t_speedAbove, .long t_speedBelow, .int t_spans, .ref t_spanLow_h, .ref t_spanHigh_h, .ref t_spanAt_h, .int t_found, .ref t_numbers_h, .int t_pairs, .ref t_pair_h, .ref t_most_h, .int t_rows, .ref t_row_h, .int t_notes, .ref t_under_h, .ref t_agreed_h])), (t_layer_h, .inl (cI, 6, .inl o_t_layer_a))] o_r A) (cc := cX10_layer) (maxL := 2) (ret := (some .int)) RX10 (by decide +kernel) rfl rfl (Nat.le_of_ble_eq_true rfl) ?_
  intro p e s m args below meth c A ls Q hQ hx hb hr hts hown hlocks hml hN hK hP hD hS hA hl
  have hl : lv_has ls 2 [(0, .ref t_h), (1, .int x1)] := hl
  have iwX10 := iwX10_layer_X10
  have fl_19 := hts (.fieldLink RX10 19 "CloudOfficeModel" "layer" "[I") (by decide +kernel)
  have fl_105 := hts (.fieldLink RX10 105 "CloudOfficeModel" "layers" "I") (by decide +kernel)
  have kc_88 := hts (.constant RX10 88 (100000)) (by decide +kernel)
  have hret : ∀ (o_r9 : Int32) (o_t_layers9 : Int32) (o_t_layer_a9 : Nat → Int32) (pc : Nat) (H : Heap) (locs : List Loc) (ls : Array Slot), decode cX10_layer pc = .ok (.ireturn, 1) → some (o_r9, o_t_layers9, o_t_layer_a9) = some (o_r, o_t_layers, o_t_layer_a) → va_P G vwCl [(t_h, .inr (10, [.int t_baseWay, .int t_slip, .int t_low, .int t_high, .int t_unlike, .int t_alone, .long t_above, .long t_below, .ref t_edges_h, .ref t_lean_h, .ref t_word_h, .int o_t_layers9, .ref t_layer_h, .ref t_least_h, .int t_sights, .ref t_sight_h, .int t_shadows, .ref t_shadow_h, .long t_endAbove, .long t_endBelow, .long t_speedAbove, .long t_speedBelow, .int t_spans, .ref t_spanLow_h, .ref t_spanHigh_h, .ref t_spanAt_h, .int t_found, .ref t_numbers_h, .int t_pairs, .ref t_pair_h, .ref t_most_h, .int t_rows, .ref t_row_h, .int t_notes, .ref t_under_h, .ref t_agreed_h])), (t_layer_h, .inl (cI, 6, .inl o_t_layer_a9))] H → va_D A [(t_h, .inr (10, [.int t_baseWay, .int t_slip, .int t_low, .int t_high, .int t_unlike, .int t_alone, .long t_above, .long t_below, .ref t_edges_h, .ref t_lean_h, .ref t_word_h, .int o_t_layers9, .ref t_layer_h, .ref t_least_h, .int t_sights, .ref t_sight_h, .int t_shadows, .ref t_shadow_h, .long t_endAbove, .long t_endBelow, .long t_speedAbove, .long t_speedBelow, .int t_spans, .ref t_spanLow_h, .ref t_spanHigh_h, .ref t_spanAt_h, .int t_found, .ref t_numbers_h, .int t_pairs, .ref t_pair_h, .ref t_most_h, .int t_rows, .ref t_row_h, .int t_notes, .ref t_under_h, .ref t_agreed_h])), (t_layer_h, .inl (cI, 6, .inl o_t_layer_a9))] → va_S A s.heap H locs → W p l e rmX10_layer s m args below meth c H locs 0 0 Q (F0 m pc ls [.int o_r9]) := by
    intro o_r9 o_t_layers9 o_t_layer_a9 pc H locs ls hdg he hP hD hS
    cases he
    subst hQ
    exact rt_i hx hb hr hlocks hK hP hD hS rfl hdg
  clear hQ
  unfold fX10_layer at hf
  refine lv_iload_n hx hb dX10_layer_0 rfl (lv_at hl 1 rfl) ?_
  refine lv_iconst (v := 1) hx hb dX10_layer_1 (by decide) ?_
  refine lv_ldc (v := 100000) hx hb hown kc_88 dX10_layer_2 ?_
  obtain ⟨r1, hc2, hf⟩ := ob_some hf
  refine af_iR (va_runS (As := [.int x1, .int 1, .int 100000]) (rest := []) ⟨hx, hb, hml, hown, hts⟩ (k_X10_in l G cI cJ (x0 := x1) (x1 := 1) (x2 := 100000) (sz := _) (hf := hc2)) (va_cwS 3 hts gX10_layer_X10_in rfl rfl rfl (by decide +kernel) ⟨Nat.le_of_ble_eq_true rfl, Nat.le_of_ble_eq_true rfl⟩) (preS0 (wc := []) hK hP hD hN [] rfl rfl (by decide)) rfl rfl hl.1 rfl (lv_room (Nat.le_of_ble_eq_true rfl)) dX10_layer_4 ⟨Nat.zero_le _, Nat.zero_le _⟩) hP hD hS hA [] rfl (fun H locs hP hS => ?_)
  refine lv_if_ne (tgt := 13) hx hb dX10_layer_7 (by decide) (fun c3 => ?_) (fun c3 => ?_)
  · have hf := iff_ hf c3
    refine lv_aload_n hx hb dX10_layer_13 rfl (lv_at hl 0 rfl) ?_
    refine va_get (D := G) (ci := 10) (v := .int t_layers) (C := RX10) (T := TX10) (N := 36) hx hb hts iwX10 hown hK hP 0 rfl rfl 11 (by decide) fl_105 (fun _ h9 => h9) rfl dX10_layer_14 ?_
    refine lv_bipush (v := 6) hx hb dX10_layer_17 (by decide) ?_
    refine lv_icmp_ne (tgt := 25) hx hb dX10_layer_19 (by decide) (fun c4 => ?_) (fun c4 => ?_)
    · have hf := iff_ hf c4
      refine lv_aload_n hx hb dX10_layer_25 rfl (lv_at hl 0 rfl) ?_
      refine va_get (D := G) (ci := 10) (v := .ref t_layer_h) (C := RX10) (T := TX10) (N := 36) hx hb hts iwX10 hown hK hP 0 rfl rfl 12 (by decide) fl_19 (fun _ h9 => h9) rfl dX10_layer_26 ?_
      refine lv_aload_n hx hb dX10_layer_29 rfl (lv_at hl 0 rfl) ?_
      refine va_get (D := G) (ci := 10) (v := .int t_layers) (C := RX10) (T := TX10) (N := 36) hx hb hts iwX10 hown hK hP 0 rfl rfl 11 (by decide) fl_105 (fun _ h9 => h9) rfl dX10_layer_30 ?_
      refine lv_iload_n hx hb dX10_layer_33 rfl (lv_at hl 1 rfl) ?_
      obtain ⟨h5, hf⟩ := gd_some hf
      obtain ⟨a6, ea6⟩ : ∃ y : Nat → Int32, y = upd t_layer_a (Int32.toNatClampNeg t_layers) x1 := ⟨_, rfl⟩
      have hf := bv_at ea6 hf
      refine va_iast hx hb hK hP hD hS 1 0 rfl rfl (bnd_in h5) dX10_layer_34 (fun H locs hP hD hS => ?_)
      have hP : va_P G vwCl [(t_h, .inr (10, [.int t_baseWay, .int t_slip, .int t_low, .int t_high, .int t_unlike, .int t_alone, .long t_above, .long t_below, .ref t_edges_h, .ref t_lean_h, .ref t_word_h, .int t_layers, .ref t_layer_h, .ref t_least_h, .int t_sights, .ref t_sight_h, .int t_shadows, .ref t_shadow_h, .long t_endAbove, .long t_endBelow, .long t_speedAbove, .long t_speedBelow, .int t_spans, .ref t_spanLow_h, .ref t_spanHigh_h, .ref t_spanAt_h, .int t_found, .ref t_numbers_h, .int t_pairs, .ref t_pair_h, .ref t_most_h, .int t_rows, .ref t_row_h, .int t_notes, .ref t_under_h, .ref t_agreed_h])), (t_layer_h, .inl (cI, 6, .inl a6))] H := by rw [ea6]; exact hP
      have hD : va_D A [(t_h, .inr (10, [.int t_baseWay, .int t_slip, .int t_low, .int t_high, .int t_unlike, .int t_alone, .long t_above, .long t_below, .ref t_edges_h, .ref t_lean_h, .ref t_word_h, .int t_layers, .ref t_layer_h, .ref t_least_h, .int t_sights, .ref t_sight_h, .int t_shadows, .ref t_shadow_h, .long t_endAbove, .long t_endBelow, .long t_speedAbove, .long t_speedBelow, .int t_spans, .ref t_spanLow_h, .ref t_spanHigh_h, .ref t_spanAt_h, .int t_found, .ref t_numbers_h, .int t_pairs, .ref t_pair_h, .ref t_most_h, .int t_rows, .ref t_row_h, .int t_notes, .ref t_under_h, .ref t_agreed_h])), (t_layer_h, .inl (cI, 6, .inl a6))] := by rw [ea6]; exact hD
      refine lv_aload_n hx hb dX10_layer_35 rfl (lv_at hl 0 rfl) ?_
      refine lv_dup hx hb dX10_layer_36 rfl ?_
      refine va_get (D := G) (ci := 10) (v := .int t_layers) (C := RX10) (T := TX10) (N := 36) hx hb hts iwX10 hown hK hP 0 rfl rfl 11 (by decide) fl_105 (fun _ h9 => h9) rfl dX10_layer_37 ?_
      refine lv_iconst (v := 1) hx hb dX10_layer_40 (by decide) ?_
      refine lv_iadd hx hb dX10_layer_41 ?_
      refine lv_topi (fun v7 ev7 => ?_)
      have hf := bv_at ev7 hf
      refine va_put (D := G) (ci := 10) (v := .int v7) (ty := .int) (C := RX10) (T := TX10) (N := 36) hx hb hts iwX10 tyX10 tyX10_ok nmX10 hown hK hP hD hS 0 rfl rfl 11 (by decide) fl_105 (fun _ h9 => h9) rfl (by decide +kernel) rfl rfl (Nat.le_of_ble_eq_true rfl) dX10_layer_42 (fun H locs hP hD hS => ?_)
      have hP : va_P G vwCl [(t_h, .inr (10, [.int t_baseWay, .int t_slip, .int t_low, .int t_high, .int t_unlike, .int t_alone, .long t_above, .long t_below, .ref t_edges_h, .ref t_lean_h, .ref t_word_h, .int v7, .ref t_layer_h, .ref t_least_h, .int t_sights, .ref t_sight_h, .int t_shadows, .ref t_shadow_h, .long t_endAbove, .long t_endBelow, .long t_speedAbove, .long t_speedBelow, .int t_spans, .ref t_spanLow_h, .ref t_spanHigh_h, .ref t_spanAt_h, .int t_found, .ref t_numbers_h, .int t_pairs, .ref t_pair_h, .ref t_most_h, .int t_rows, .ref t_row_h, .int t_notes, .ref t_under_h, .ref t_agreed_h])), (t_layer_h, .inl (cI, 6, .inl a6))] H := hP
      have hD : va_D A [(t_h, .inr (10, [.int t_baseWay, .int t_slip, .int t_low, .int t_high, .int t_unlike, .int t_alone, .long t_above, .long t_below, .ref t_edges_h, .ref t_lean_h, .ref t_word_h, .int v7, .ref t_layer_h, .ref t_least_h, .int t_sights, .ref t_sight_h, .int t_shadows, .ref t_shadow_h, .long t_endAbove, .long t_endBelow, .long t_speedAbove, .long t_speedBelow, .int t_spans, .ref t_spanLow_h, .ref t_spanHigh_h, .ref t_spanAt_h, .int t_found, .ref t_numbers_h, .int t_pairs, .ref t_pair_h, .ref t_most_h, .int t_rows, .ref t_row_h, .int t_notes, .ref t_under_h, .ref t_agreed_h])), (t_layer_h, .inl (cI, 6, .inl a6))] := hD
      refine lv_aload_n hx hb dX10_layer_45 rfl (lv_at hl 0 rfl) ?_
      refine va_get (D := G) (ci := 10) (v := .int v7) (C := RX10) (T := TX10) (N := 36) hx hb hts iwX10 hown hK hP 0 rfl rfl 11 (by decide) fl_105 (fun _ h9 => h9) rfl dX10_layer_46 ?_
      exact hret v7 v7 a6 49 _ _ _ dX10_layer_49 hf hP hD hS
    · have hf := ift hf c4
      refine lv_bipush (v := (-4)) hx hb dX10_layer_22 (by decide) ?_
      exact hret (-4) t_layers t_layer_a 24 _ _ _ dX10_layer_24 hf hP hD hS
  · have hf := ift hf c3
    refine lv_bipush (v := (-2)) hx hb dX10_layer_10 (by decide) ?_
    exact hret (-2) t_layers t_layer_a 12 _ _ _ dX10_layer_12 hf hP hD hS
set_option maxRecDepth 20000 in
theorem ggX10_rules_X10_in : GoodIn wsX10_rules wsX10_in := goodIn_r _ [9] (by decide +kernel) (by decide +kernel)
set_option maxRecDepth 20000 in
theorem gX10_rules_X10_in : GoodIn wsX10_rules (va_wsS RX10 89 yX10_in wsX10_in) := goodIn_app (goodIn_of _ (by decide +kernel)) ggX10_rules_X10_in
theorem dX10_rules_0 : decode cX10_rules 0 = .ok (.iload_n 1, 1) := by decide +kernel
theorem dX10_rules_1 : decode cX10_rules 1 = .ok (.iconst 1, 1) := by decide +kernel
theorem dX10_rules_2 : decode cX10_rules 2 = .ok (.ldc 88, 2) := by decide +kernel
theorem dX10_rules_4 : decode cX10_rules 4 = .ok (.invokestatic 89, 3) := by decide +kernel
theorem dX10_rules_7 : decode cX10_rules 7 = .ok (.ifCond .eq 36, 3) := by decide +kernel
theorem dX10_rules_10 : decode cX10_rules 10 = .ok (.iload_n 2, 1) := by decide +kernel
theorem dX10_rules_11 : decode cX10_rules 11 = .ok (.iload_n 1, 1) := by decide +kernel
theorem dX10_rules_12 : decode cX10_rules 12 = .ok (.ldc 88, 2) := by decide +kernel
theorem dX10_rules_14 : decode cX10_rules 14 = .ok (.invokestatic 89, 3) := by decide +kernel
theorem dX10_rules_17 : decode cX10_rules 17 = .ok (.ifCond .eq 26, 3) := by decide +kernel
theorem dX10_rules_20 : decode cX10_rules 20 = .ok (.iload_n 3, 1) := by decide +kernel
theorem dX10_rules_21 : decode cX10_rules 21 = .ok (.iconst 0, 1) := by decide +kernel
theorem dX10_rules_22 : decode cX10_rules 22 = .ok (.sipush 1000, 3) := by decide +kernel
theorem dX10_rules_25 : decode cX10_rules 25 = .ok (.invokestatic 89, 3) := by decide +kernel
theorem dX10_rules_28 : decode cX10_rules 28 = .ok (.ifCond .eq 15, 3) := by decide +kernel
theorem dX10_rules_31 : decode cX10_rules 31 = .ok (.iload 4, 2) := by decide +kernel
theorem dX10_rules_33 : decode cX10_rules 33 = .ok (.iconst 0, 1) := by decide +kernel
theorem dX10_rules_34 : decode cX10_rules 34 = .ok (.sipush 1000, 3) := by decide +kernel
theorem dX10_rules_37 : decode cX10_rules 37 = .ok (.invokestatic 89, 3) := by decide +kernel
theorem dX10_rules_40 : decode cX10_rules 40 = .ok (.ifCond .ne 6, 3) := by decide +kernel
theorem dX10_rules_43 : decode cX10_rules 43 = .ok (.bipush (-2), 2) := by decide +kernel
theorem dX10_rules_45 : decode cX10_rules 45 = .ok (.ireturn, 1) := by decide +kernel
theorem dX10_rules_46 : decode cX10_rules 46 = .ok (.aload_n 0, 1) := by decide +kernel
theorem dX10_rules_47 : decode cX10_rules 47 = .ok (.iload_n 1, 1) := by decide +kernel
theorem dX10_rules_48 : decode cX10_rules 48 = .ok (.putfield 65, 3) := by decide +kernel
theorem dX10_rules_51 : decode cX10_rules 51 = .ok (.aload_n 0, 1) := by decide +kernel
theorem dX10_rules_52 : decode cX10_rules 52 = .ok (.iload_n 2, 1) := by decide +kernel
theorem dX10_rules_53 : decode cX10_rules 53 = .ok (.putfield 68, 3) := by decide +kernel
theorem dX10_rules_56 : decode cX10_rules 56 = .ok (.aload_n 0, 1) := by decide +kernel
theorem dX10_rules_57 : decode cX10_rules 57 = .ok (.iload_n 3, 1) := by decide +kernel
theorem dX10_rules_58 : decode cX10_rules 58 = .ok (.putfield 71, 3) := by decide +kernel
theorem dX10_rules_61 : decode cX10_rules 61 = .ok (.aload_n 0, 1) := by decide +kernel
theorem dX10_rules_62 : decode cX10_rules 62 = .ok (.iload 4, 2) := by decide +kernel
theorem dX10_rules_64 : decode cX10_rules 64 = .ok (.putfield 74, 3) := by decide +kernel
theorem dX10_rules_67 : decode cX10_rules 67 = .ok (.iconst 1, 1) := by decide +kernel
theorem dX10_rules_68 : decode cX10_rules 68 = .ok (.ireturn, 1) := by decide +kernel
set_option maxRecDepth 100000 in
def fX10_rules (x1 : Int32) (x2 : Int32) (x3 : Int32) (x4 : Int32) (t_low : Int32) (t_high : Int32) (t_unlike : Int32) (t_alone : Int32) : Option (Int32 × Int32 × Int32 × Int32 × Int32) :=
  ob (fX10_in x1 1 100000) fun r1 =>
  if (b2i r1) = 0 then
    some ((-2), t_low, t_high, t_unlike, t_alone)
  else
    ob (fX10_in x2 x1 100000) fun r4 =>
    if (b2i r4) = 0 then
      some ((-2), t_low, t_high, t_unlike, t_alone)
    else
      ob (fX10_in x3 0 1000) fun r7 =>
      if (b2i r7) = 0 then
        some ((-2), t_low, t_high, t_unlike, t_alone)
      else
        ob (fX10_in x4 0 1000) fun r10 =>
        if (b2i r10) = 0 then
          some ((-2), t_low, t_high, t_unlike, t_alone)
        else
          some (1, x1, x2, x3, x4)
abbrev rmX10_rules : Room := { frames := 1, cells := 0, slots := 0, locals := 22 }
theorem iwX10_rules_X10 : ∀ w ∈ u_ws RX10 TX10 36, w ∈ wsX10_rules := by decide +kernel
set_option maxHeartbeats 4000000 in
set_option maxRecDepth 100000 in
theorem k_X10_rules (l : Launch) (G : va_G) (cI cJ : ClassId) (t_h t_edges_h t_lean_h t_word_h t_layer_h t_least_h t_sight_h t_shadow_h t_spanLow_h t_spanHigh_h t_spanAt_h t_numbers_h t_pair_h t_most_h t_row_h t_under_h t_agreed_h : Nat) (sz : Nat) (t_baseWay : Int32) (t_slip : Int32) (t_low : Int32) (t_high : Int32) (t_unlike : Int32) (t_alone : Int32) (t_above : Int64) (t_below : Int64) (t_layers : Int32) (t_sights : Int32) (t_shadows : Int32) (t_endAbove : Int64) (t_endBelow : Int64) (t_speedAbove : Int64) (t_speedBelow : Int64) (t_spans : Int32) (t_found : Int32) (t_pairs : Int32) (t_rows : Int32) (t_notes : Int32) (x1 : Int32) (x2 : Int32) (x3 : Int32) (x4 : Int32) {o_r : Int32} {o_t_low : Int32} {o_t_high : Int32} {o_t_unlike : Int32} {o_t_alone : Int32} (hf : fX10_rules x1 x2 x3 x4 t_low t_high t_unlike t_alone = some (o_r, o_t_low, o_t_high, o_t_unlike, o_t_alone)) : MetI l yX10_rules wsX10_rules rmX10_rules [.ref t_h, .int x1, .int x2, .int x3, .int x4] G cI cJ [(t_h, .inr (10, [.int t_baseWay, .int t_slip, .int t_low, .int t_high, .int t_unlike, .int t_alone, .long t_above, .long t_below, .ref t_edges_h, .ref t_lean_h, .ref t_word_h, .int t_layers, .ref t_layer_h, .ref t_least_h, .int t_sights, .ref t_sight_h, .int t_shadows, .ref t_shadow_h, .long t_endAbove, .long t_endBelow, .long t_speedAbove, .long t_speedBelow, .int t_spans, .ref t_spanLow_h, .ref t_spanHigh_h, .ref t_spanAt_h, .int t_found, .ref t_numbers_h, .int t_pairs, .ref t_pair_h, .ref t_most_h, .int t_rows, .ref t_row_h, .int t_notes, .ref t_under_h, .ref t_agreed_h]))] [(t_h, .inr (10, [.int t_baseWay, .int t_slip, .int o_t_low, .int o_t_high, .int o_t_unlike, .int o_t_alone, .long t_above, .long t_below, .ref t_edges_h, .ref t_lean_h, .ref t_word_h, .int t_layers, .ref t_layer_h, .ref t_least_h, .int t_sights, .ref t_sight_h, .int t_shadows, .ref t_shadow_h, .long t_endAbove, .long t_endBelow, .long t_speedAbove, .long t_speedBelow, .int t_spans, .ref t_spanLow_h, .ref t_spanHigh_h, .ref t_spanAt_h, .int t_found, .ref t_numbers_h, .int t_pairs, .ref t_pair_h, .ref t_most_h, .int t_rows, .ref t_row_h, .int t_notes, .ref t_under_h, .ref t_agreed_h]))] sz o_r := by
  refine en_0 (l := l) (y := yX10_rules) (wsl := wsX10_rules) (rm := rmX10_rules) (av := [.ref t_h, .int x1, .int x2, .int x3, .int x4]) (G := G) (cI := cI) (cJ := cJ) (w0 := [(t_h, .inr (10, [.int t_baseWay, .int t_slip, .int t_low, .int t_high, .int t_unlike, .int t_alone, .long t_above, .long t_below, .ref t_edges_h, .ref t_lean_h, .ref t_word_h, .int t_layers, .ref t_layer_h, .ref t_least_h, .int t_sights, .ref t_sight_h, .int t_shadows, .ref t_shadow_h, .long t_endAbove, .long t_endBelow, .long t_speedAbove, .long t_speedBelow, .int t_spans, .ref t_spanLow_h, .ref t_spanHigh_h, .ref t_spanAt_h, .int t_found, .ref t_numbers_h, .int t_pairs, .ref t_pair_h, .ref t_most_h, .int t_rows, .ref t_row_h, .int t_notes, .ref t_under_h, .ref t_agreed_h]))]) (sz := sz) (Qf := fun A => Qi0 G cI cJ [(t_h, .inr (10, [.int t_baseWay, .int t_slip, .int o_t_low, .int o_t_high, .int o_t_unlike, .int o_t_alone, .long t_above, .long t_below, .ref t_edges_h, .ref t_lean_h, .ref t_word_h, .int t_layers, .ref t_layer_h, .ref t_least_h, .int t_sights, .ref t_sight_h, .int t_shadows, .ref t_shadow_h, .long t_endAbove, .long t_endBelow, .long t_speedAbove, .long t_speedBelow, .int t_spans, .ref t_spanLow_h, .ref t_spanHigh_h, .ref t_spanAt_h, .int t_found, .ref t_numbers_h, .int t_pairs, .ref t_pair_h, .ref t_most_h, .int t_rows, .ref t_row_h, .int t_notes, .ref t_under_h, .ref t_agreed_h]))] o_r A) (cc := cX10_rules) (maxL := 5) (ret := (some .int)) RX10 (by decide +kernel) rfl rfl (Nat.le_of_ble_eq_true rfl) ?_
  intro p e s m args below meth c A ls Q hQ hx hb hr hts hown hlocks hml hN hK hP hD hS hA hl
  have hl : lv_has ls 5 [(0, .ref t_h), (1, .int x1), (2, .int x2), (3, .int x3), (4, .int x4)] := hl
  have iwX10 := iwX10_rules_X10
  have fl_65 := hts (.fieldLink RX10 65 "CloudOfficeModel" "low" "I") (by decide +kernel)
  have fl_68 := hts (.fieldLink RX10 68 "CloudOfficeModel" "high" "I") (by decide +kernel)
  have fl_71 := hts (.fieldLink RX10 71 "CloudOfficeModel" "unlike" "I") (by decide +kernel)
  have fl_74 := hts (.fieldLink RX10 74 "CloudOfficeModel" "alone" "I") (by decide +kernel)
  have kc_88 := hts (.constant RX10 88 (100000)) (by decide +kernel)
  have hret : ∀ (o_r9 : Int32) (o_t_low9 : Int32) (o_t_high9 : Int32) (o_t_unlike9 : Int32) (o_t_alone9 : Int32) (pc : Nat) (H : Heap) (locs : List Loc) (ls : Array Slot), decode cX10_rules pc = .ok (.ireturn, 1) → some (o_r9, o_t_low9, o_t_high9, o_t_unlike9, o_t_alone9) = some (o_r, o_t_low, o_t_high, o_t_unlike, o_t_alone) → va_P G vwCl [(t_h, .inr (10, [.int t_baseWay, .int t_slip, .int o_t_low9, .int o_t_high9, .int o_t_unlike9, .int o_t_alone9, .long t_above, .long t_below, .ref t_edges_h, .ref t_lean_h, .ref t_word_h, .int t_layers, .ref t_layer_h, .ref t_least_h, .int t_sights, .ref t_sight_h, .int t_shadows, .ref t_shadow_h, .long t_endAbove, .long t_endBelow, .long t_speedAbove, .long t_speedBelow, .int t_spans, .ref t_spanLow_h, .ref t_spanHigh_h, .ref t_spanAt_h, .int t_found, .ref t_numbers_h, .int t_pairs, .ref t_pair_h, .ref t_most_h, .int t_rows, .ref t_row_h, .int t_notes, .ref t_under_h, .ref t_agreed_h]))] H → va_D A [(t_h, .inr (10, [.int t_baseWay, .int t_slip, .int o_t_low9, .int o_t_high9, .int o_t_unlike9, .int o_t_alone9, .long t_above, .long t_below, .ref t_edges_h, .ref t_lean_h, .ref t_word_h, .int t_layers, .ref t_layer_h, .ref t_least_h, .int t_sights, .ref t_sight_h, .int t_shadows, .ref t_shadow_h, .long t_endAbove, .long t_endBelow, .long t_speedAbove, .long t_speedBelow, .int t_spans, .ref t_spanLow_h, .ref t_spanHigh_h, .ref t_spanAt_h, .int t_found, .ref t_numbers_h, .int t_pairs, .ref t_pair_h, .ref t_most_h, .int t_rows, .ref t_row_h, .int t_notes, .ref t_under_h, .ref t_agreed_h]))] → va_S A s.heap H locs → W p l e rmX10_rules s m args below meth c H locs 0 0 Q (F0 m pc ls [.int o_r9]) := by
    intro o_r9 o_t_low9 o_t_high9 o_t_unlike9 o_t_alone9 pc H locs ls hdg he hP hD hS
    cases he
    subst hQ
    exact rt_i hx hb hr hlocks hK hP hD hS rfl hdg
  clear hQ
  unfold fX10_rules at hf
  refine lv_iload_n hx hb dX10_rules_0 rfl (lv_at hl 1 rfl) ?_
  refine lv_iconst (v := 1) hx hb dX10_rules_1 (by decide) ?_
  refine lv_ldc (v := 100000) hx hb hown kc_88 dX10_rules_2 ?_
  obtain ⟨r1, hc2, hf⟩ := ob_some hf
  refine af_iR (va_runS (As := [.int x1, .int 1, .int 100000]) (rest := []) ⟨hx, hb, hml, hown, hts⟩ (k_X10_in l G cI cJ (x0 := x1) (x1 := 1) (x2 := 100000) (sz := _) (hf := hc2)) (va_cwS 3 hts gX10_rules_X10_in rfl rfl rfl (by decide +kernel) ⟨Nat.le_of_ble_eq_true rfl, Nat.le_of_ble_eq_true rfl⟩) (preS0 (wc := []) hK hP hD hN [] rfl rfl (by decide)) rfl rfl hl.1 rfl (lv_room (Nat.le_of_ble_eq_true rfl)) dX10_rules_4 ⟨Nat.zero_le _, Nat.zero_le _⟩) hP hD hS hA [] rfl (fun H locs hP hS => ?_)
  refine lv_if_eq (tgt := 43) hx hb dX10_rules_7 (by decide) (fun c3 => ?_) (fun c3 => ?_)
  · have hf := ift hf c3
    refine lv_bipush (v := (-2)) hx hb dX10_rules_43 (by decide) ?_
    exact hret (-2) t_low t_high t_unlike t_alone 45 _ _ _ dX10_rules_45 hf hP hD hS
  · have hf := iff_ hf c3
    refine lv_iload_n hx hb dX10_rules_10 rfl (lv_at hl 2 rfl) ?_
    refine lv_iload_n hx hb dX10_rules_11 rfl (lv_at hl 1 rfl) ?_
    refine lv_ldc (v := 100000) hx hb hown kc_88 dX10_rules_12 ?_
    obtain ⟨r4, hc5, hf⟩ := ob_some hf
    refine af_iR (va_runS (As := [.int x2, .int x1, .int 100000]) (rest := []) ⟨hx, hb, hml, hown, hts⟩ (k_X10_in l G cI cJ (x0 := x2) (x1 := x1) (x2 := 100000) (sz := _) (hf := hc5)) (va_cwS 3 hts gX10_rules_X10_in rfl rfl rfl (by decide +kernel) ⟨Nat.le_of_ble_eq_true rfl, Nat.le_of_ble_eq_true rfl⟩) (preS0 (wc := []) hK hP hD hN [] rfl rfl (by decide)) rfl rfl hl.1 rfl (lv_room (Nat.le_of_ble_eq_true rfl)) dX10_rules_14 ⟨Nat.zero_le _, Nat.zero_le _⟩) hP hD hS hA [] rfl (fun H locs hP hS => ?_)
    refine lv_if_eq (tgt := 43) hx hb dX10_rules_17 (by decide) (fun c6 => ?_) (fun c6 => ?_)
    · have hf := ift hf c6
      refine lv_bipush (v := (-2)) hx hb dX10_rules_43 (by decide) ?_
      exact hret (-2) t_low t_high t_unlike t_alone 45 _ _ _ dX10_rules_45 hf hP hD hS
    · have hf := iff_ hf c6
      refine lv_iload_n hx hb dX10_rules_20 rfl (lv_at hl 3 rfl) ?_
      refine lv_iconst (v := 0) hx hb dX10_rules_21 (by decide) ?_
      refine lv_sipush (v := 1000) hx hb dX10_rules_22 (by decide) ?_
      obtain ⟨r7, hc8, hf⟩ := ob_some hf
      refine af_iR (va_runS (As := [.int x3, .int 0, .int 1000]) (rest := []) ⟨hx, hb, hml, hown, hts⟩ (k_X10_in l G cI cJ (x0 := x3) (x1 := 0) (x2 := 1000) (sz := _) (hf := hc8)) (va_cwS 3 hts gX10_rules_X10_in rfl rfl rfl (by decide +kernel) ⟨Nat.le_of_ble_eq_true rfl, Nat.le_of_ble_eq_true rfl⟩) (preS0 (wc := []) hK hP hD hN [] rfl rfl (by decide)) rfl rfl hl.1 rfl (lv_room (Nat.le_of_ble_eq_true rfl)) dX10_rules_25 ⟨Nat.zero_le _, Nat.zero_le _⟩) hP hD hS hA [] rfl (fun H locs hP hS => ?_)
      refine lv_if_eq (tgt := 43) hx hb dX10_rules_28 (by decide) (fun c9 => ?_) (fun c9 => ?_)
      · have hf := ift hf c9
        refine lv_bipush (v := (-2)) hx hb dX10_rules_43 (by decide) ?_
        exact hret (-2) t_low t_high t_unlike t_alone 45 _ _ _ dX10_rules_45 hf hP hD hS
      · have hf := iff_ hf c9
        refine lv_iload hx hb dX10_rules_31 (lv_at hl 4 rfl) ?_
        refine lv_iconst (v := 0) hx hb dX10_rules_33 (by decide) ?_
        refine lv_sipush (v := 1000) hx hb dX10_rules_34 (by decide) ?_
        obtain ⟨r10, hc11, hf⟩ := ob_some hf
        refine af_iR (va_runS (As := [.int x4, .int 0, .int 1000]) (rest := []) ⟨hx, hb, hml, hown, hts⟩ (k_X10_in l G cI cJ (x0 := x4) (x1 := 0) (x2 := 1000) (sz := _) (hf := hc11)) (va_cwS 3 hts gX10_rules_X10_in rfl rfl rfl (by decide +kernel) ⟨Nat.le_of_ble_eq_true rfl, Nat.le_of_ble_eq_true rfl⟩) (preS0 (wc := []) hK hP hD hN [] rfl rfl (by decide)) rfl rfl hl.1 rfl (lv_room (Nat.le_of_ble_eq_true rfl)) dX10_rules_37 ⟨Nat.zero_le _, Nat.zero_le _⟩) hP hD hS hA [] rfl (fun H locs hP hS => ?_)
        refine lv_if_ne (tgt := 46) hx hb dX10_rules_40 (by decide) (fun c12 => ?_) (fun c12 => ?_)
        · have hf := iff_ hf c12
          refine lv_aload_n hx hb dX10_rules_46 rfl (lv_at hl 0 rfl) ?_
          refine lv_iload_n hx hb dX10_rules_47 rfl (lv_at hl 1 rfl) ?_
          refine va_put (D := G) (ci := 10) (v := .int x1) (ty := .int) (C := RX10) (T := TX10) (N := 36) hx hb hts iwX10 tyX10 tyX10_ok nmX10 hown hK hP hD hS 0 rfl rfl 2 (by decide) fl_65 (fun _ h9 => h9) rfl (by decide +kernel) rfl rfl (Nat.le_of_ble_eq_true rfl) dX10_rules_48 (fun H locs hP hD hS => ?_)
          have hP : va_P G vwCl [(t_h, .inr (10, [.int t_baseWay, .int t_slip, .int x1, .int t_high, .int t_unlike, .int t_alone, .long t_above, .long t_below, .ref t_edges_h, .ref t_lean_h, .ref t_word_h, .int t_layers, .ref t_layer_h, .ref t_least_h, .int t_sights, .ref t_sight_h, .int t_shadows, .ref t_shadow_h, .long t_endAbove, .long t_endBelow, .long t_speedAbove, .long t_speedBelow, .int t_spans, .ref t_spanLow_h, .ref t_spanHigh_h, .ref t_spanAt_h, .int t_found, .ref t_numbers_h, .int t_pairs, .ref t_pair_h, .ref t_most_h, .int t_rows, .ref t_row_h, .int t_notes, .ref t_under_h, .ref t_agreed_h]))] H := hP
          have hD : va_D A [(t_h, .inr (10, [.int t_baseWay, .int t_slip, .int x1, .int t_high, .int t_unlike, .int t_alone, .long t_above, .long t_below, .ref t_edges_h, .ref t_lean_h, .ref t_word_h, .int t_layers, .ref t_layer_h, .ref t_least_h, .int t_sights, .ref t_sight_h, .int t_shadows, .ref t_shadow_h, .long t_endAbove, .long t_endBelow, .long t_speedAbove, .long t_speedBelow, .int t_spans, .ref t_spanLow_h, .ref t_spanHigh_h, .ref t_spanAt_h, .int t_found, .ref t_numbers_h, .int t_pairs, .ref t_pair_h, .ref t_most_h, .int t_rows, .ref t_row_h, .int t_notes, .ref t_under_h, .ref t_agreed_h]))] := hD
          refine lv_aload_n hx hb dX10_rules_51 rfl (lv_at hl 0 rfl) ?_
          refine lv_iload_n hx hb dX10_rules_52 rfl (lv_at hl 2 rfl) ?_
          refine va_put (D := G) (ci := 10) (v := .int x2) (ty := .int) (C := RX10) (T := TX10) (N := 36) hx hb hts iwX10 tyX10 tyX10_ok nmX10 hown hK hP hD hS 0 rfl rfl 3 (by decide) fl_68 (fun _ h9 => h9) rfl (by decide +kernel) rfl rfl (Nat.le_of_ble_eq_true rfl) dX10_rules_53 (fun H locs hP hD hS => ?_)
          have hP : va_P G vwCl [(t_h, .inr (10, [.int t_baseWay, .int t_slip, .int x1, .int x2, .int t_unlike, .int t_alone, .long t_above, .long t_below, .ref t_edges_h, .ref t_lean_h, .ref t_word_h, .int t_layers, .ref t_layer_h, .ref t_least_h, .int t_sights, .ref t_sight_h, .int t_shadows, .ref t_shadow_h, .long t_endAbove, .long t_endBelow, .long t_speedAbove, .long t_speedBelow, .int t_spans, .ref t_spanLow_h, .ref t_spanHigh_h, .ref t_spanAt_h, .int t_found, .ref t_numbers_h, .int t_pairs, .ref t_pair_h, .ref t_most_h, .int t_rows, .ref t_row_h, .int t_notes, .ref t_under_h, .ref t_agreed_h]))] H := hP
          have hD : va_D A [(t_h, .inr (10, [.int t_baseWay, .int t_slip, .int x1, .int x2, .int t_unlike, .int t_alone, .long t_above, .long t_below, .ref t_edges_h, .ref t_lean_h, .ref t_word_h, .int t_layers, .ref t_layer_h, .ref t_least_h, .int t_sights, .ref t_sight_h, .int t_shadows, .ref t_shadow_h, .long t_endAbove, .long t_endBelow, .long t_speedAbove, .long t_speedBelow, .int t_spans, .ref t_spanLow_h, .ref t_spanHigh_h, .ref t_spanAt_h, .int t_found, .ref t_numbers_h, .int t_pairs, .ref t_pair_h, .ref t_most_h, .int t_rows, .ref t_row_h, .int t_notes, .ref t_under_h, .ref t_agreed_h]))] := hD
          refine lv_aload_n hx hb dX10_rules_56 rfl (lv_at hl 0 rfl) ?_
          refine lv_iload_n hx hb dX10_rules_57 rfl (lv_at hl 3 rfl) ?_
          refine va_put (D := G) (ci := 10) (v := .int x3) (ty := .int) (C := RX10) (T := TX10) (N := 36) hx hb hts iwX10 tyX10 tyX10_ok nmX10 hown hK hP hD hS 0 rfl rfl 4 (by decide) fl_71 (fun _ h9 => h9) rfl (by decide +kernel) rfl rfl (Nat.le_of_ble_eq_true rfl) dX10_rules_58 (fun H locs hP hD hS => ?_)
          have hP : va_P G vwCl [(t_h, .inr (10, [.int t_baseWay, .int t_slip, .int x1, .int x2, .int x3, .int t_alone, .long t_above, .long t_below, .ref t_edges_h, .ref t_lean_h, .ref t_word_h, .int t_layers, .ref t_layer_h, .ref t_least_h, .int t_sights, .ref t_sight_h, .int t_shadows, .ref t_shadow_h, .long t_endAbove, .long t_endBelow, .long t_speedAbove, .long t_speedBelow, .int t_spans, .ref t_spanLow_h, .ref t_spanHigh_h, .ref t_spanAt_h, .int t_found, .ref t_numbers_h, .int t_pairs, .ref t_pair_h, .ref t_most_h, .int t_rows, .ref t_row_h, .int t_notes, .ref t_under_h, .ref t_agreed_h]))] H := hP
          have hD : va_D A [(t_h, .inr (10, [.int t_baseWay, .int t_slip, .int x1, .int x2, .int x3, .int t_alone, .long t_above, .long t_below, .ref t_edges_h, .ref t_lean_h, .ref t_word_h, .int t_layers, .ref t_layer_h, .ref t_least_h, .int t_sights, .ref t_sight_h, .int t_shadows, .ref t_shadow_h, .long t_endAbove, .long t_endBelow, .long t_speedAbove, .long t_speedBelow, .int t_spans, .ref t_spanLow_h, .ref t_spanHigh_h, .ref t_spanAt_h, .int t_found, .ref t_numbers_h, .int t_pairs, .ref t_pair_h, .ref t_most_h, .int t_rows, .ref t_row_h, .int t_notes, .ref t_under_h, .ref t_agreed_h]))] := hD
          refine lv_aload_n hx hb dX10_rules_61 rfl (lv_at hl 0 rfl) ?_
          refine lv_iload hx hb dX10_rules_62 (lv_at hl 4 rfl) ?_
          refine va_put (D := G) (ci := 10) (v := .int x4) (ty := .int) (C := RX10) (T := TX10) (N := 36) hx hb hts iwX10 tyX10 tyX10_ok nmX10 hown hK hP hD hS 0 rfl rfl 5 (by decide) fl_74 (fun _ h9 => h9) rfl (by decide +kernel) rfl rfl (Nat.le_of_ble_eq_true rfl) dX10_rules_64 (fun H locs hP hD hS => ?_)
          have hP : va_P G vwCl [(t_h, .inr (10, [.int t_baseWay, .int t_slip, .int x1, .int x2, .int x3, .int x4, .long t_above, .long t_below, .ref t_edges_h, .ref t_lean_h, .ref t_word_h, .int t_layers, .ref t_layer_h, .ref t_least_h, .int t_sights, .ref t_sight_h, .int t_shadows, .ref t_shadow_h, .long t_endAbove, .long t_endBelow, .long t_speedAbove, .long t_speedBelow, .int t_spans, .ref t_spanLow_h, .ref t_spanHigh_h, .ref t_spanAt_h, .int t_found, .ref t_numbers_h, .int t_pairs, .ref t_pair_h, .ref t_most_h, .int t_rows, .ref t_row_h, .int t_notes, .ref t_under_h, .ref t_agreed_h]))] H := hP
          have hD : va_D A [(t_h, .inr (10, [.int t_baseWay, .int t_slip, .int x1, .int x2, .int x3, .int x4, .long t_above, .long t_below, .ref t_edges_h, .ref t_lean_h, .ref t_word_h, .int t_layers, .ref t_layer_h, .ref t_least_h, .int t_sights, .ref t_sight_h, .int t_shadows, .ref t_shadow_h, .long t_endAbove, .long t_endBelow, .long t_speedAbove, .long t_speedBelow, .int t_spans, .ref t_spanLow_h, .ref t_spanHigh_h, .ref t_spanAt_h, .int t_found, .ref t_numbers_h, .int t_pairs, .ref t_pair_h, .ref t_most_h, .int t_rows, .ref t_row_h, .int t_notes, .ref t_under_h, .ref t_agreed_h]))] := hD
          refine lv_iconst (v := 1) hx hb dX10_rules_67 (by decide) ?_
          exact hret 1 x1 x2 x3 x4 68 _ _ _ dX10_rules_68 hf hP hD hS
        · have hf := ift hf c12
          refine lv_bipush (v := (-2)) hx hb dX10_rules_43 (by decide) ?_
          exact hret (-2) t_low t_high t_unlike t_alone 45 _ _ _ dX10_rules_45 hf hP hD hS
theorem dX10_costOf_0 : decode cX10_costOf 0 = .ok (.aload_n 0, 1) := by decide +kernel
theorem dX10_costOf_1 : decode cX10_costOf 1 = .ok (.getfield 13, 3) := by decide +kernel
theorem dX10_costOf_4 : decode cX10_costOf 4 = .ok (.iload_n 1, 1) := by decide +kernel
theorem dX10_costOf_5 : decode cX10_costOf 5 = .ok (.iaload, 1) := by decide +kernel
theorem dX10_costOf_6 : decode cX10_costOf 6 = .ok (.aload_n 0, 1) := by decide +kernel
theorem dX10_costOf_7 : decode cX10_costOf 7 = .ok (.getfield 13, 3) := by decide +kernel
theorem dX10_costOf_10 : decode cX10_costOf 10 = .ok (.bipush 8, 2) := by decide +kernel
theorem dX10_costOf_12 : decode cX10_costOf 12 = .ok (.iload_n 2, 1) := by decide +kernel
theorem dX10_costOf_13 : decode cX10_costOf 13 = .ok (.iadd, 1) := by decide +kernel
theorem dX10_costOf_14 : decode cX10_costOf 14 = .ok (.iaload, 1) := by decide +kernel
theorem dX10_costOf_15 : decode cX10_costOf 15 = .ok (.isub, 1) := by decide +kernel
theorem dX10_costOf_16 : decode cX10_costOf 16 = .ok (.i2l, 1) := by decide +kernel
theorem dX10_costOf_17 : decode cX10_costOf 17 = .ok (.lstore_n 3, 1) := by decide +kernel
theorem dX10_costOf_18 : decode cX10_costOf 18 = .ok (.ldc2_w 97, 3) := by decide +kernel
theorem dX10_costOf_21 : decode cX10_costOf 21 = .ok (.aload_n 0, 1) := by decide +kernel
theorem dX10_costOf_22 : decode cX10_costOf 22 = .ok (.getfield 58, 3) := by decide +kernel
theorem dX10_costOf_25 : decode cX10_costOf 25 = .ok (.i2l, 1) := by decide +kernel
theorem dX10_costOf_26 : decode cX10_costOf 26 = .ok (.lmul, 1) := by decide +kernel
theorem dX10_costOf_27 : decode cX10_costOf 27 = .ok (.lstore 5, 2) := by decide +kernel
theorem dX10_costOf_29 : decode cX10_costOf 29 = .ok (.lload_n 3, 1) := by decide +kernel
theorem dX10_costOf_30 : decode cX10_costOf 30 = .ok (.lconst 0, 1) := by decide +kernel
theorem dX10_costOf_31 : decode cX10_costOf 31 = .ok (.lcmp, 1) := by decide +kernel
theorem dX10_costOf_32 : decode cX10_costOf 32 = .ok (.ifCond .le 29, 3) := by decide +kernel
theorem dX10_costOf_35 : decode cX10_costOf 35 = .ok (.lload 5, 2) := by decide +kernel
theorem dX10_costOf_37 : decode cX10_costOf 37 = .ok (.aload_n 0, 1) := by decide +kernel
theorem dX10_costOf_38 : decode cX10_costOf 38 = .ok (.getfield 65, 3) := by decide +kernel
theorem dX10_costOf_41 : decode cX10_costOf 41 = .ok (.i2l, 1) := by decide +kernel
theorem dX10_costOf_42 : decode cX10_costOf 42 = .ok (.lload_n 3, 1) := by decide +kernel
theorem dX10_costOf_43 : decode cX10_costOf 43 = .ok (.lmul, 1) := by decide +kernel
theorem dX10_costOf_44 : decode cX10_costOf 44 = .ok (.lcmp, 1) := by decide +kernel
theorem dX10_costOf_45 : decode cX10_costOf 45 = .ok (.ifCond .lt 16, 3) := by decide +kernel
theorem dX10_costOf_48 : decode cX10_costOf 48 = .ok (.lload 5, 2) := by decide +kernel
theorem dX10_costOf_50 : decode cX10_costOf 50 = .ok (.aload_n 0, 1) := by decide +kernel
theorem dX10_costOf_51 : decode cX10_costOf 51 = .ok (.getfield 68, 3) := by decide +kernel
theorem dX10_costOf_54 : decode cX10_costOf 54 = .ok (.i2l, 1) := by decide +kernel
theorem dX10_costOf_55 : decode cX10_costOf 55 = .ok (.lload_n 3, 1) := by decide +kernel
theorem dX10_costOf_56 : decode cX10_costOf 56 = .ok (.lmul, 1) := by decide +kernel
theorem dX10_costOf_57 : decode cX10_costOf 57 = .ok (.lcmp, 1) := by decide +kernel
theorem dX10_costOf_58 : decode cX10_costOf 58 = .ok (.ifCond .le 5, 3) := by decide +kernel
theorem dX10_costOf_61 : decode cX10_costOf 61 = .ok (.iconst (-1), 1) := by decide +kernel
theorem dX10_costOf_62 : decode cX10_costOf 62 = .ok (.ireturn, 1) := by decide +kernel
theorem dX10_costOf_63 : decode cX10_costOf 63 = .ok (.aload_n 0, 1) := by decide +kernel
theorem dX10_costOf_64 : decode cX10_costOf 64 = .ok (.getfield 16, 3) := by decide +kernel
theorem dX10_costOf_67 : decode cX10_costOf 67 = .ok (.iload_n 1, 1) := by decide +kernel
theorem dX10_costOf_68 : decode cX10_costOf 68 = .ok (.iaload, 1) := by decide +kernel
theorem dX10_costOf_69 : decode cX10_costOf 69 = .ok (.aload_n 0, 1) := by decide +kernel
theorem dX10_costOf_70 : decode cX10_costOf 70 = .ok (.getfield 16, 3) := by decide +kernel
theorem dX10_costOf_73 : decode cX10_costOf 73 = .ok (.bipush 8, 2) := by decide +kernel
theorem dX10_costOf_75 : decode cX10_costOf 75 = .ok (.iload_n 2, 1) := by decide +kernel
theorem dX10_costOf_76 : decode cX10_costOf 76 = .ok (.iadd, 1) := by decide +kernel
theorem dX10_costOf_77 : decode cX10_costOf 77 = .ok (.iaload, 1) := by decide +kernel
theorem dX10_costOf_78 : decode cX10_costOf 78 = .ok (.if_icmp .ne 7, 3) := by decide +kernel
theorem dX10_costOf_81 : decode cX10_costOf 81 = .ok (.iconst 0, 1) := by decide +kernel
theorem dX10_costOf_82 : decode cX10_costOf 82 = .ok (.goto 7, 3) := by decide +kernel
theorem dX10_costOf_85 : decode cX10_costOf 85 = .ok (.aload_n 0, 1) := by decide +kernel
theorem dX10_costOf_86 : decode cX10_costOf 86 = .ok (.getfield 71, 3) := by decide +kernel
theorem dX10_costOf_89 : decode cX10_costOf 89 = .ok (.istore 7, 2) := by decide +kernel
theorem dX10_costOf_91 : decode cX10_costOf 91 = .ok (.lload 5, 2) := by decide +kernel
theorem dX10_costOf_93 : decode cX10_costOf 93 = .ok (.lload_n 3, 1) := by decide +kernel
theorem dX10_costOf_94 : decode cX10_costOf 94 = .ok (.ldiv, 1) := by decide +kernel
theorem dX10_costOf_95 : decode cX10_costOf 95 = .ok (.l2i, 1) := by decide +kernel
theorem dX10_costOf_96 : decode cX10_costOf 96 = .ok (.istore 8, 2) := by decide +kernel
theorem dX10_costOf_98 : decode cX10_costOf 98 = .ok (.iconst 0, 1) := by decide +kernel
theorem dX10_costOf_99 : decode cX10_costOf 99 = .ok (.istore 9, 2) := by decide +kernel
theorem dX10_costOf_101 : decode cX10_costOf 101 = .ok (.iconst 0, 1) := by decide +kernel
theorem dX10_costOf_102 : decode cX10_costOf 102 = .ok (.istore 10, 2) := by decide +kernel
theorem dX10_costOf_104 : decode cX10_costOf 104 = .ok (.iload 10, 2) := by decide +kernel
theorem dX10_costOf_106 : decode cX10_costOf 106 = .ok (.aload_n 0, 1) := by decide +kernel
theorem dX10_costOf_107 : decode cX10_costOf 107 = .ok (.getfield 105, 3) := by decide +kernel
theorem dX10_costOf_110 : decode cX10_costOf 110 = .ok (.if_icmp .ge 67, 3) := by decide +kernel
theorem dX10_costOf_113 : decode cX10_costOf 113 = .ok (.iload 8, 2) := by decide +kernel
theorem dX10_costOf_115 : decode cX10_costOf 115 = .ok (.aload_n 0, 1) := by decide +kernel
theorem dX10_costOf_116 : decode cX10_costOf 116 = .ok (.getfield 19, 3) := by decide +kernel
theorem dX10_costOf_119 : decode cX10_costOf 119 = .ok (.iload 10, 2) := by decide +kernel
theorem dX10_costOf_121 : decode cX10_costOf 121 = .ok (.iaload, 1) := by decide +kernel
theorem dX10_costOf_122 : decode cX10_costOf 122 = .ok (.if_icmp .ge 16, 3) := by decide +kernel
theorem dX10_costOf_125 : decode cX10_costOf 125 = .ok (.aload_n 0, 1) := by decide +kernel
theorem dX10_costOf_126 : decode cX10_costOf 126 = .ok (.getfield 19, 3) := by decide +kernel
theorem dX10_costOf_129 : decode cX10_costOf 129 = .ok (.iload 10, 2) := by decide +kernel
theorem dX10_costOf_131 : decode cX10_costOf 131 = .ok (.iaload, 1) := by decide +kernel
theorem dX10_costOf_132 : decode cX10_costOf 132 = .ok (.iload 8, 2) := by decide +kernel
theorem dX10_costOf_134 : decode cX10_costOf 134 = .ok (.isub, 1) := by decide +kernel
theorem dX10_costOf_135 : decode cX10_costOf 135 = .ok (.goto 13, 3) := by decide +kernel
theorem dX10_costOf_138 : decode cX10_costOf 138 = .ok (.iload 8, 2) := by decide +kernel
theorem dX10_costOf_140 : decode cX10_costOf 140 = .ok (.aload_n 0, 1) := by decide +kernel
theorem dX10_costOf_141 : decode cX10_costOf 141 = .ok (.getfield 19, 3) := by decide +kernel
theorem dX10_costOf_144 : decode cX10_costOf 144 = .ok (.iload 10, 2) := by decide +kernel
theorem dX10_costOf_146 : decode cX10_costOf 146 = .ok (.iaload, 1) := by decide +kernel
theorem dX10_costOf_147 : decode cX10_costOf 147 = .ok (.isub, 1) := by decide +kernel
theorem dX10_costOf_148 : decode cX10_costOf 148 = .ok (.istore 11, 2) := by decide +kernel
theorem dX10_costOf_150 : decode cX10_costOf 150 = .ok (.iload 10, 2) := by decide +kernel
theorem dX10_costOf_152 : decode cX10_costOf 152 = .ok (.ifCond .eq 10, 3) := by decide +kernel
theorem dX10_costOf_155 : decode cX10_costOf 155 = .ok (.iload 11, 2) := by decide +kernel
theorem dX10_costOf_157 : decode cX10_costOf 157 = .ok (.iload 9, 2) := by decide +kernel
theorem dX10_costOf_159 : decode cX10_costOf 159 = .ok (.if_icmp .ge 8, 3) := by decide +kernel
theorem dX10_costOf_162 : decode cX10_costOf 162 = .ok (.iload 11, 2) := by decide +kernel
theorem dX10_costOf_164 : decode cX10_costOf 164 = .ok (.goto 5, 3) := by decide +kernel
theorem dX10_costOf_167 : decode cX10_costOf 167 = .ok (.iload 9, 2) := by decide +kernel
theorem dX10_costOf_169 : decode cX10_costOf 169 = .ok (.istore 9, 2) := by decide +kernel
theorem dX10_costOf_171 : decode cX10_costOf 171 = .ok (.iinc 10 1, 3) := by decide +kernel
theorem dX10_costOf_174 : decode cX10_costOf 174 = .ok (.goto (-70), 3) := by decide +kernel
theorem dX10_costOf_177 : decode cX10_costOf 177 = .ok (.iload 7, 2) := by decide +kernel
theorem dX10_costOf_179 : decode cX10_costOf 179 = .ok (.iload 9, 2) := by decide +kernel
theorem dX10_costOf_181 : decode cX10_costOf 181 = .ok (.iadd, 1) := by decide +kernel
theorem dX10_costOf_182 : decode cX10_costOf 182 = .ok (.ireturn, 1) := by decide +kernel
set_option maxRecDepth 100000 in
def fX10_costOf_L1 (t_layers : Int32) (t_layer_a : Nat → Int32) (v15 : Int32) : (Int32 × Int32) → Option ((Int32) ⊕ (Int32 × Int32)) := un2 fun (u16 : Int32) (u17 : Int32) =>
  if t_layers ≤ u17 then
    some (.inl u16)
  else
    gd (bnd u17 6) <|
    ob (α := Int32) (
        if (t_layer_a (Int32.toNatClampNeg u17)) ≤ v15 then
          gd (bnd u17 6) <|
          some (v15 - (t_layer_a (Int32.toNatClampNeg u17)))
        else
          gd (bnd u17 6) <|
          some ((t_layer_a (Int32.toNatClampNeg u17)) - v15)
      ) fun m20 =>
    ob (α := Int32) (
        if u17 = 0 then
          some m20
        else
          if u16 ≤ m20 then
            some u16
          else
            some m20
      ) fun m26 =>
    bv (u17 + 1) fun v31 =>
    some (.inr (m26, v31))
set_option maxRecDepth 100000 in
def fX10_costOf (x1 : Int32) (x2 : Int32) (t_baseWay : Int32) (t_low : Int32) (t_high : Int32) (t_unlike : Int32) (t_layers : Int32) (t_lean_a : Nat → Int32) (t_word_a : Nat → Int32) (t_layer_a : Nat → Int32) : Option (Int32) :=
  gd (bnd x1 16) <|
  gd (bnd (8 + x2) 16) <|
  bv (Int32.toInt64 ((t_lean_a (Int32.toNatClampNeg x1)) - (t_lean_a (Int32.toNatClampNeg (8 + x2))))) fun v3 =>
  bv (1000 * (Int32.toInt64 t_baseWay)) fun v4 =>
  if (lg_cmp v3 0) ≤ 0 then
    some (-1)
  else
    if (lg_cmp v4 ((Int32.toInt64 t_low) * v3)) < 0 then
      some (-1)
    else
      if (lg_cmp v4 ((Int32.toInt64 t_high) * v3)) ≤ 0 then
        gd (bnd x1 16) <|
        gd (bnd (8 + x2) 16) <|
        ob (α := Int32) (
            if (t_word_a (Int32.toNatClampNeg x1)) = (t_word_a (Int32.toNatClampNeg (8 + x2))) then
              some 0
            else
              some t_unlike
          ) fun m10 =>
        gd (decide (¬ v3 = 0)) <|
        bv (Int64.toInt32 (v4 / v3)) fun v15 =>
        ob (it (fX10_costOf_L1 t_layers t_layer_a v15) 100000 (0, 0)) fun x32 =>
        some (m10 + x32)
      else
        some (-1)
abbrev rmX10_costOf : Room := { frames := 0, cells := 0, slots := 0, locals := 0 }
theorem iwX10_costOf_X10 : ∀ w ∈ u_ws RX10 TX10 36, w ∈ wsX10_costOf := by decide +kernel
set_option maxHeartbeats 4000000 in
set_option maxRecDepth 100000 in
theorem k_X10_costOf (l : Launch) (G : va_G) (cI cJ : ClassId) (t_h t_edges_h t_lean_h t_word_h t_layer_h t_least_h t_sight_h t_shadow_h t_spanLow_h t_spanHigh_h t_spanAt_h t_numbers_h t_pair_h t_most_h t_row_h t_under_h t_agreed_h : Nat) (sz : Nat) (t_baseWay : Int32) (t_slip : Int32) (t_low : Int32) (t_high : Int32) (t_unlike : Int32) (t_alone : Int32) (t_above : Int64) (t_below : Int64) (t_layers : Int32) (t_sights : Int32) (t_shadows : Int32) (t_endAbove : Int64) (t_endBelow : Int64) (t_speedAbove : Int64) (t_speedBelow : Int64) (t_spans : Int32) (t_found : Int32) (t_pairs : Int32) (t_rows : Int32) (t_notes : Int32) (t_lean_a : Nat → Int32) (t_word_a : Nat → Int32) (t_layer_a : Nat → Int32) (x1 : Int32) (x2 : Int32) {o_r : Int32} (hf : fX10_costOf x1 x2 t_baseWay t_low t_high t_unlike t_layers t_lean_a t_word_a t_layer_a = some o_r) : MetI l yX10_costOf wsX10_costOf rmX10_costOf [.ref t_h, .int x1, .int x2] G cI cJ [(t_h, .inr (10, [.int t_baseWay, .int t_slip, .int t_low, .int t_high, .int t_unlike, .int t_alone, .long t_above, .long t_below, .ref t_edges_h, .ref t_lean_h, .ref t_word_h, .int t_layers, .ref t_layer_h, .ref t_least_h, .int t_sights, .ref t_sight_h, .int t_shadows, .ref t_shadow_h, .long t_endAbove, .long t_endBelow, .long t_speedAbove, .long t_speedBelow, .int t_spans, .ref t_spanLow_h, .ref t_spanHigh_h, .ref t_spanAt_h, .int t_found, .ref t_numbers_h, .int t_pairs, .ref t_pair_h, .ref t_most_h, .int t_rows, .ref t_row_h, .int t_notes, .ref t_under_h, .ref t_agreed_h])), (t_lean_h, .inl (cI, 16, .inl t_lean_a)), (t_word_h, .inl (cI, 16, .inl t_word_a)), (t_layer_h, .inl (cI, 6, .inl t_layer_a))] [(t_h, .inr (10, [.int t_baseWay, .int t_slip, .int t_low, .int t_high, .int t_unlike, .int t_alone, .long t_above, .long t_below, .ref t_edges_h, .ref t_lean_h, .ref t_word_h, .int t_layers, .ref t_layer_h, .ref t_least_h, .int t_sights, .ref t_sight_h, .int t_shadows, .ref t_shadow_h, .long t_endAbove, .long t_endBelow, .long t_speedAbove, .long t_speedBelow, .int t_spans, .ref t_spanLow_h, .ref t_spanHigh_h, .ref t_spanAt_h, .int t_found, .ref t_numbers_h, .int t_pairs, .ref t_pair_h, .ref t_most_h, .int t_rows, .ref t_row_h, .int t_notes, .ref t_under_h, .ref t_agreed_h])), (t_lean_h, .inl (cI, 16, .inl t_lean_a)), (t_word_h, .inl (cI, 16, .inl t_word_a)), (t_layer_h, .inl (cI, 6, .inl t_layer_a))] sz o_r := by
  refine en_0 (l := l) (y := yX10_costOf) (wsl := wsX10_costOf) (rm := rmX10_costOf) (av := [.ref t_h, .int x1, .int x2]) (G := G) (cI := cI) (cJ := cJ) (w0 := [(t_h, .inr (10, [.int t_baseWay, .int t_slip, .int t_low, .int t_high, .int t_unlike, .int t_alone, .long t_above, .long t_below, .ref t_edges_h, .ref t_lean_h, .ref t_word_h, .int t_layers, .ref t_layer_h, .ref t_least_h, .int t_sights, .ref t_sight_h, .int t_shadows, .ref t_shadow_h, .long t_endAbove, .long t_endBelow, .long t_speedAbove, .long t_speedBelow, .int t_spans, .ref t_spanLow_h, .ref t_spanHigh_h, .ref t_spanAt_h, .int t_found, .ref t_numbers_h, .int t_pairs, .ref t_pair_h, .ref t_most_h, .int t_rows, .ref t_row_h, .int t_notes, .ref t_under_h, .ref t_agreed_h])), (t_lean_h, .inl (cI, 16, .inl t_lean_a)), (t_word_h, .inl (cI, 16, .inl t_word_a)), (t_layer_h, .inl (cI, 6, .inl t_layer_a))]) (sz := sz) (Qf := fun A => Qi0 G cI cJ [(t_h, .inr (10, [.int t_baseWay, .int t_slip, .int t_low, .int t_high, .int t_unlike, .int t_alone, .long t_above, .long t_below, .ref t_edges_h, .ref t_lean_h, .ref t_word_h, .int t_layers, .ref t_layer_h, .ref t_least_h, .int t_sights, .ref t_sight_h, .int t_shadows, .ref t_shadow_h, .long t_endAbove, .long t_endBelow, .long t_speedAbove, .long t_speedBelow, .int t_spans, .ref t_spanLow_h, .ref t_spanHigh_h, .ref t_spanAt_h, .int t_found, .ref t_numbers_h, .int t_pairs, .ref t_pair_h, .ref t_most_h, .int t_rows, .ref t_row_h, .int t_notes, .ref t_under_h, .ref t_agreed_h])), (t_lean_h, .inl (cI, 16, .inl t_lean_a)), (t_word_h, .inl (cI, 16, .inl t_word_a)), (t_layer_h, .inl (cI, 6, .inl t_layer_a))] o_r A) (cc := cX10_costOf) (maxL := 12) (ret := (some .int)) RX10 (by decide +kernel) rfl rfl (Nat.le_of_ble_eq_true rfl) ?_
  intro p e s m args below meth c A ls Q hQ hx hb hr hts hown hlocks hml hN hK hP hD hS hA hl
  have hl : lv_has ls 12 [(0, .ref t_h), (1, .int x1), (2, .int x2)] := hl
  have iwX10 := iwX10_costOf_X10
  have fl_13 := hts (.fieldLink RX10 13 "CloudOfficeModel" "lean" "[I") (by decide +kernel)
  have fl_16 := hts (.fieldLink RX10 16 "CloudOfficeModel" "word" "[I") (by decide +kernel)
  have fl_19 := hts (.fieldLink RX10 19 "CloudOfficeModel" "layer" "[I") (by decide +kernel)
  have fl_58 := hts (.fieldLink RX10 58 "CloudOfficeModel" "baseWay" "I") (by decide +kernel)
  have fl_65 := hts (.fieldLink RX10 65 "CloudOfficeModel" "low" "I") (by decide +kernel)
  have fl_68 := hts (.fieldLink RX10 68 "CloudOfficeModel" "high" "I") (by decide +kernel)
  have fl_71 := hts (.fieldLink RX10 71 "CloudOfficeModel" "unlike" "I") (by decide +kernel)
  have fl_105 := hts (.fieldLink RX10 105 "CloudOfficeModel" "layers" "I") (by decide +kernel)
  have kc_97 := hts (.constantLong RX10 97 (1000)) (by decide +kernel)
  have hret : ∀ (o_r9 : Int32) (pc : Nat) (H : Heap) (locs : List Loc) (ls : Array Slot), decode cX10_costOf pc = .ok (.ireturn, 1) → some o_r9 = some o_r → va_P G vwCl [(t_h, .inr (10, [.int t_baseWay, .int t_slip, .int t_low, .int t_high, .int t_unlike, .int t_alone, .long t_above, .long t_below, .ref t_edges_h, .ref t_lean_h, .ref t_word_h, .int t_layers, .ref t_layer_h, .ref t_least_h, .int t_sights, .ref t_sight_h, .int t_shadows, .ref t_shadow_h, .long t_endAbove, .long t_endBelow, .long t_speedAbove, .long t_speedBelow, .int t_spans, .ref t_spanLow_h, .ref t_spanHigh_h, .ref t_spanAt_h, .int t_found, .ref t_numbers_h, .int t_pairs, .ref t_pair_h, .ref t_most_h, .int t_rows, .ref t_row_h, .int t_notes, .ref t_under_h, .ref t_agreed_h])), (t_lean_h, .inl (cI, 16, .inl t_lean_a)), (t_word_h, .inl (cI, 16, .inl t_word_a)), (t_layer_h, .inl (cI, 6, .inl t_layer_a))] H → va_D A [(t_h, .inr (10, [.int t_baseWay, .int t_slip, .int t_low, .int t_high, .int t_unlike, .int t_alone, .long t_above, .long t_below, .ref t_edges_h, .ref t_lean_h, .ref t_word_h, .int t_layers, .ref t_layer_h, .ref t_least_h, .int t_sights, .ref t_sight_h, .int t_shadows, .ref t_shadow_h, .long t_endAbove, .long t_endBelow, .long t_speedAbove, .long t_speedBelow, .int t_spans, .ref t_spanLow_h, .ref t_spanHigh_h, .ref t_spanAt_h, .int t_found, .ref t_numbers_h, .int t_pairs, .ref t_pair_h, .ref t_most_h, .int t_rows, .ref t_row_h, .int t_notes, .ref t_under_h, .ref t_agreed_h])), (t_lean_h, .inl (cI, 16, .inl t_lean_a)), (t_word_h, .inl (cI, 16, .inl t_word_a)), (t_layer_h, .inl (cI, 6, .inl t_layer_a))] → va_S A s.heap H locs → W p l e rmX10_costOf s m args below meth c H locs 0 0 Q (F0 m pc ls [.int o_r9]) := by
    intro o_r9 pc H locs ls hdg he hP hD hS
    cases he
    subst hQ
    exact rt_i hx hb hr hlocks hK hP hD hS rfl hdg
  clear hQ
  unfold fX10_costOf at hf
  refine lv_aload_n hx hb dX10_costOf_0 rfl (lv_at hl 0 rfl) ?_
  refine va_get (D := G) (ci := 10) (v := .ref t_lean_h) (C := RX10) (T := TX10) (N := 36) hx hb hts iwX10 hown hK hP 0 rfl rfl 9 (by decide) fl_13 (fun _ h9 => h9) rfl dX10_costOf_1 ?_
  refine lv_iload_n hx hb dX10_costOf_4 rfl (lv_at hl 1 rfl) ?_
  obtain ⟨h1, hf⟩ := gd_some hf
  refine va_iald hx hb hK hP 1 0 rfl rfl (bnd_in h1) dX10_costOf_5 ?_
  refine lv_aload_n hx hb dX10_costOf_6 rfl (lv_at hl 0 rfl) ?_
  refine va_get (D := G) (ci := 10) (v := .ref t_lean_h) (C := RX10) (T := TX10) (N := 36) hx hb hts iwX10 hown hK hP 0 rfl rfl 9 (by decide) fl_13 (fun _ h9 => h9) rfl dX10_costOf_7 ?_
  refine lv_bipush (v := 8) hx hb dX10_costOf_10 (by decide) ?_
  refine lv_iload_n hx hb dX10_costOf_12 rfl (lv_at hl 2 rfl) ?_
  refine lv_iadd hx hb dX10_costOf_13 ?_
  obtain ⟨h2, hf⟩ := gd_some hf
  refine va_iald hx hb hK hP 1 0 rfl rfl (bnd_in h2) dX10_costOf_14 ?_
  refine lv_isub hx hb dX10_costOf_15 ?_
  refine lv_i2l (v := Int32.toInt64 ((t_lean_a (Int32.toNatClampNeg x1)) - (t_lean_a (Int32.toNatClampNeg (8 + x2))))) hx hb dX10_costOf_16 rfl ?_
  refine lv_topl (fun v3 ev3 => ?_)
  have hf := bv_at ev3 hf
  refine lv_lstore_n (lv' := [(3, .long v3), (0, .ref t_h), (1, .int x1), (2, .int x2)]) hx hb dX10_costOf_17 rfl hl (by decide) rfl (fun ls hl => ?_)
  refine lv_ldc2 (v := 1000) hx hb hown kc_97 dX10_costOf_18 ?_
  refine lv_aload_n hx hb dX10_costOf_21 rfl (lv_at hl 1 rfl) ?_
  refine va_get (D := G) (ci := 10) (v := .int t_baseWay) (C := RX10) (T := TX10) (N := 36) hx hb hts iwX10 hown hK hP 0 rfl rfl 0 (by decide) fl_58 (fun _ h9 => h9) rfl dX10_costOf_22 ?_
  refine lv_i2l (v := Int32.toInt64 t_baseWay) hx hb dX10_costOf_25 rfl ?_
  refine lv_lmul hx hb dX10_costOf_26 ?_
  refine lv_topl (fun v4 ev4 => ?_)
  have hf := bv_at ev4 hf
  refine lv_lstore (lv' := [(5, .long v4), (3, .long v3), (0, .ref t_h), (1, .int x1), (2, .int x2)]) hx hb dX10_costOf_27 hl (by decide) rfl (fun ls hl => ?_)
  refine lv_lload_n hx hb dX10_costOf_29 rfl (lv_at hl 1 rfl) ?_
  refine lv_lconst (v := 0) hx hb dX10_costOf_30 (by decide) ?_
  refine W.lcmp hx hb dX10_costOf_31 ?_
  refine lv_if_le (tgt := 61) hx hb dX10_costOf_32 (by decide) (fun c5 => ?_) (fun c5 => ?_)
  · have hf := ift hf c5
    refine lv_iconst (v := (-1)) hx hb dX10_costOf_61 (by decide) ?_
    exact hret (-1) 62 _ _ _ dX10_costOf_62 hf hP hD hS
  · have hf := iff_ hf c5
    refine lv_lload hx hb dX10_costOf_35 (lv_at hl 0 rfl) ?_
    refine lv_aload_n hx hb dX10_costOf_37 rfl (lv_at hl 2 rfl) ?_
    refine va_get (D := G) (ci := 10) (v := .int t_low) (C := RX10) (T := TX10) (N := 36) hx hb hts iwX10 hown hK hP 0 rfl rfl 2 (by decide) fl_65 (fun _ h9 => h9) rfl dX10_costOf_38 ?_
    refine lv_i2l (v := Int32.toInt64 t_low) hx hb dX10_costOf_41 rfl ?_
    refine lv_lload_n hx hb dX10_costOf_42 rfl (lv_at hl 1 rfl) ?_
    refine lv_lmul hx hb dX10_costOf_43 ?_
    refine W.lcmp hx hb dX10_costOf_44 ?_
    refine lv_if_lt (tgt := 61) hx hb dX10_costOf_45 (by decide) (fun c6 => ?_) (fun c6 => ?_)
    · have hf := ift hf c6
      refine lv_iconst (v := (-1)) hx hb dX10_costOf_61 (by decide) ?_
      exact hret (-1) 62 _ _ _ dX10_costOf_62 hf hP hD hS
    · have hf := iff_ hf c6
      refine lv_lload hx hb dX10_costOf_48 (lv_at hl 0 rfl) ?_
      refine lv_aload_n hx hb dX10_costOf_50 rfl (lv_at hl 2 rfl) ?_
      refine va_get (D := G) (ci := 10) (v := .int t_high) (C := RX10) (T := TX10) (N := 36) hx hb hts iwX10 hown hK hP 0 rfl rfl 3 (by decide) fl_68 (fun _ h9 => h9) rfl dX10_costOf_51 ?_
      refine lv_i2l (v := Int32.toInt64 t_high) hx hb dX10_costOf_54 rfl ?_
      refine lv_lload_n hx hb dX10_costOf_55 rfl (lv_at hl 1 rfl) ?_
      refine lv_lmul hx hb dX10_costOf_56 ?_
      refine W.lcmp hx hb dX10_costOf_57 ?_
      refine lv_if_le (tgt := 63) hx hb dX10_costOf_58 (by decide) (fun c7 => ?_) (fun c7 => ?_)
      · have hf := ift hf c7
        refine lv_aload_n hx hb dX10_costOf_63 rfl (lv_at hl 2 rfl) ?_
        refine va_get (D := G) (ci := 10) (v := .ref t_word_h) (C := RX10) (T := TX10) (N := 36) hx hb hts iwX10 hown hK hP 0 rfl rfl 10 (by decide) fl_16 (fun _ h9 => h9) rfl dX10_costOf_64 ?_
        refine lv_iload_n hx hb dX10_costOf_67 rfl (lv_at hl 3 rfl) ?_
        obtain ⟨h8, hf⟩ := gd_some hf
        refine va_iald hx hb hK hP 2 0 rfl rfl (bnd_in h8) dX10_costOf_68 ?_
        refine lv_aload_n hx hb dX10_costOf_69 rfl (lv_at hl 2 rfl) ?_
        refine va_get (D := G) (ci := 10) (v := .ref t_word_h) (C := RX10) (T := TX10) (N := 36) hx hb hts iwX10 hown hK hP 0 rfl rfl 10 (by decide) fl_16 (fun _ h9 => h9) rfl dX10_costOf_70 ?_
        refine lv_bipush (v := 8) hx hb dX10_costOf_73 (by decide) ?_
        refine lv_iload_n hx hb dX10_costOf_75 rfl (lv_at hl 4 rfl) ?_
        refine lv_iadd hx hb dX10_costOf_76 ?_
        obtain ⟨h9, hf⟩ := gd_some hf
        refine va_iald hx hb hK hP 2 0 rfl rfl (bnd_in h9) dX10_costOf_77 ?_
        obtain ⟨m10, hr11, hf⟩ := ob_some hf
        have hj12 : ∀ (m109 : Int32), some m109 = some m10 → ∀ (H : Heap) (locs : List Loc) (ls : Array Slot), va_P G vwCl [(t_h, .inr (10, [.int t_baseWay, .int t_slip, .int t_low, .int t_high, .int t_unlike, .int t_alone, .long t_above, .long t_below, .ref t_edges_h, .ref t_lean_h, .ref t_word_h, .int t_layers, .ref t_layer_h, .ref t_least_h, .int t_sights, .ref t_sight_h, .int t_shadows, .ref t_shadow_h, .long t_endAbove, .long t_endBelow, .long t_speedAbove, .long t_speedBelow, .int t_spans, .ref t_spanLow_h, .ref t_spanHigh_h, .ref t_spanAt_h, .int t_found, .ref t_numbers_h, .int t_pairs, .ref t_pair_h, .ref t_most_h, .int t_rows, .ref t_row_h, .int t_notes, .ref t_under_h, .ref t_agreed_h])), (t_lean_h, .inl (cI, 16, .inl t_lean_a)), (t_word_h, .inl (cI, 16, .inl t_word_a)), (t_layer_h, .inl (cI, 6, .inl t_layer_a))] H → va_D A [(t_h, .inr (10, [.int t_baseWay, .int t_slip, .int t_low, .int t_high, .int t_unlike, .int t_alone, .long t_above, .long t_below, .ref t_edges_h, .ref t_lean_h, .ref t_word_h, .int t_layers, .ref t_layer_h, .ref t_least_h, .int t_sights, .ref t_sight_h, .int t_shadows, .ref t_shadow_h, .long t_endAbove, .long t_endBelow, .long t_speedAbove, .long t_speedBelow, .int t_spans, .ref t_spanLow_h, .ref t_spanHigh_h, .ref t_spanAt_h, .int t_found, .ref t_numbers_h, .int t_pairs, .ref t_pair_h, .ref t_most_h, .int t_rows, .ref t_row_h, .int t_notes, .ref t_under_h, .ref t_agreed_h])), (t_lean_h, .inl (cI, 16, .inl t_lean_a)), (t_word_h, .inl (cI, 16, .inl t_word_a)), (t_layer_h, .inl (cI, 6, .inl t_layer_a))] → va_S A s.heap H locs → lv_has ls 12 [(0, .ref t_h), (3, .long v3), (5, .long v4)] → W p l e rmX10_costOf s m args below meth c H locs 0 0 Q (F0 m 89 ls [.int m109]) := by
          intro m109 he H locs ls hP hD hS hl
          cases he
          refine lv_istore (lv' := [(7, .int m10), (0, .ref t_h), (3, .long v3), (5, .long v4)]) hx hb dX10_costOf_89 hl (by decide) rfl (fun ls hl => ?_)
          refine lv_lload hx hb dX10_costOf_91 (lv_at hl 3 rfl) ?_
          refine lv_lload_n hx hb dX10_costOf_93 rfl (lv_at hl 2 rfl) ?_
          obtain ⟨h14, hf⟩ := gd_some hf
          refine lv_ldiv hx hb dX10_costOf_94 (of_decide_eq_true h14) ?_
          refine lv_l2i (v := Int64.toInt32 (v4 / v3)) hx hb dX10_costOf_95 rfl ?_
          refine lv_topi (fun v15 ev15 => ?_)
          have hf := bv_at ev15 hf
          refine lv_istore (lv' := [(8, .int v15), (7, .int m10), (0, .ref t_h), (3, .long v3), (5, .long v4)]) hx hb dX10_costOf_96 hl (by decide) rfl (fun ls hl => ?_)
          refine lv_iconst (v := 0) hx hb dX10_costOf_98 (by decide) ?_
          refine lv_istore (lv' := [(9, .int 0), (8, .int v15), (7, .int m10), (0, .ref t_h), (3, .long v3), (5, .long v4)]) hx hb dX10_costOf_99 hl (by decide) rfl (fun ls hl => ?_)
          refine lv_iconst (v := 0) hx hb dX10_costOf_101 (by decide) ?_
          refine lv_istore (lv' := [(10, .int 0), (9, .int 0), (8, .int v15), (7, .int m10), (0, .ref t_h), (3, .long v3), (5, .long v4)]) hx hb dX10_costOf_102 hl (by decide) rfl (fun ls hl => ?_)
          obtain ⟨x32, ht1, hf⟩ := ob_some hf
          have hx1_0 : ∀ (x329 : Int32), x329 = x32 → ∀ (H : Heap) (locs : List Loc) (ls : Array Slot), va_P G vwCl [(t_h, .inr (10, [.int t_baseWay, .int t_slip, .int t_low, .int t_high, .int t_unlike, .int t_alone, .long t_above, .long t_below, .ref t_edges_h, .ref t_lean_h, .ref t_word_h, .int t_layers, .ref t_layer_h, .ref t_least_h, .int t_sights, .ref t_sight_h, .int t_shadows, .ref t_shadow_h, .long t_endAbove, .long t_endBelow, .long t_speedAbove, .long t_speedBelow, .int t_spans, .ref t_spanLow_h, .ref t_spanHigh_h, .ref t_spanAt_h, .int t_found, .ref t_numbers_h, .int t_pairs, .ref t_pair_h, .ref t_most_h, .int t_rows, .ref t_row_h, .int t_notes, .ref t_under_h, .ref t_agreed_h])), (t_lean_h, .inl (cI, 16, .inl t_lean_a)), (t_word_h, .inl (cI, 16, .inl t_word_a)), (t_layer_h, .inl (cI, 6, .inl t_layer_a))] H → va_D A [(t_h, .inr (10, [.int t_baseWay, .int t_slip, .int t_low, .int t_high, .int t_unlike, .int t_alone, .long t_above, .long t_below, .ref t_edges_h, .ref t_lean_h, .ref t_word_h, .int t_layers, .ref t_layer_h, .ref t_least_h, .int t_sights, .ref t_sight_h, .int t_shadows, .ref t_shadow_h, .long t_endAbove, .long t_endBelow, .long t_speedAbove, .long t_speedBelow, .int t_spans, .ref t_spanLow_h, .ref t_spanHigh_h, .ref t_spanAt_h, .int t_found, .ref t_numbers_h, .int t_pairs, .ref t_pair_h, .ref t_most_h, .int t_rows, .ref t_row_h, .int t_notes, .ref t_under_h, .ref t_agreed_h])), (t_lean_h, .inl (cI, 16, .inl t_lean_a)), (t_word_h, .inl (cI, 16, .inl t_word_a)), (t_layer_h, .inl (cI, 6, .inl t_layer_a))] → va_S A s.heap H locs → lv_has ls 12 [(7, .int m10), (9, .int x329)] → W p l e rmX10_costOf s m args below meth c H locs 0 0 Q (F0 m 177 ls []) := by
            intro x329 he H locs ls hP hD hS hl
            cases he
            refine lv_iload hx hb dX10_costOf_177 (lv_at hl 0 rfl) ?_
            refine lv_iload hx hb dX10_costOf_179 (lv_at hl 1 rfl) ?_
            refine lv_iadd hx hb dX10_costOf_181 ?_
            exact hret (m10 + x32) 182 _ _ _ dX10_costOf_182 hf hP hD hS
          clear hf
          have hl1 : ∀ (n : Nat) (u16 : Int32) (u17 : Int32), it (fX10_costOf_L1 t_layers t_layer_a v15) n (u16, u17) = some x32 → ∀ (H : Heap) (locs : List Loc) (ls : Array Slot), va_P G vwCl [(t_h, .inr (10, [.int t_baseWay, .int t_slip, .int t_low, .int t_high, .int t_unlike, .int t_alone, .long t_above, .long t_below, .ref t_edges_h, .ref t_lean_h, .ref t_word_h, .int t_layers, .ref t_layer_h, .ref t_least_h, .int t_sights, .ref t_sight_h, .int t_shadows, .ref t_shadow_h, .long t_endAbove, .long t_endBelow, .long t_speedAbove, .long t_speedBelow, .int t_spans, .ref t_spanLow_h, .ref t_spanHigh_h, .ref t_spanAt_h, .int t_found, .ref t_numbers_h, .int t_pairs, .ref t_pair_h, .ref t_most_h, .int t_rows, .ref t_row_h, .int t_notes, .ref t_under_h, .ref t_agreed_h])), (t_lean_h, .inl (cI, 16, .inl t_lean_a)), (t_word_h, .inl (cI, 16, .inl t_word_a)), (t_layer_h, .inl (cI, 6, .inl t_layer_a))] H → va_D A [(t_h, .inr (10, [.int t_baseWay, .int t_slip, .int t_low, .int t_high, .int t_unlike, .int t_alone, .long t_above, .long t_below, .ref t_edges_h, .ref t_lean_h, .ref t_word_h, .int t_layers, .ref t_layer_h, .ref t_least_h, .int t_sights, .ref t_sight_h, .int t_shadows, .ref t_shadow_h, .long t_endAbove, .long t_endBelow, .long t_speedAbove, .long t_speedBelow, .int t_spans, .ref t_spanLow_h, .ref t_spanHigh_h, .ref t_spanAt_h, .int t_found, .ref t_numbers_h, .int t_pairs, .ref t_pair_h, .ref t_most_h, .int t_rows, .ref t_row_h, .int t_notes, .ref t_under_h, .ref t_agreed_h])), (t_lean_h, .inl (cI, 16, .inl t_lean_a)), (t_word_h, .inl (cI, 16, .inl t_word_a)), (t_layer_h, .inl (cI, 6, .inl t_layer_a))] → va_S A s.heap H locs → lv_has ls 12 [(0, .ref t_h), (7, .int m10), (8, .int v15), (9, .int u16), (10, .int u17)] → W p l e rmX10_costOf s m args below meth c H locs 0 0 Q (F0 m 104 ls []) := by
            intro n
            induction n with
            | zero => intro u16 u17 hz; exact (it_zero hz).elim
            | succ n ih =>
              intro u16 u17 hz H locs ls hP hD hS hl
              obtain ⟨x9, hf, hq⟩ := it_succ hz
              unfold fX10_costOf_L1 at hf
              dsimp only [un2] at hf
              refine lv_iload hx hb dX10_costOf_104 (lv_at hl 4 rfl) ?_
              refine lv_aload_n hx hb dX10_costOf_106 rfl (lv_at hl 0 rfl) ?_
              refine va_get (D := G) (ci := 10) (v := .int t_layers) (C := RX10) (T := TX10) (N := 36) hx hb hts iwX10 hown hK hP 0 rfl rfl 11 (by decide) fl_105 (fun _ h9 => h9) rfl dX10_costOf_107 ?_
              refine lv_icmp_ge (tgt := 177) hx hb dX10_costOf_110 (by decide) (fun c18 => ?_) (fun c18 => ?_)
              · have hf := ift hf c18
                cases hf
                exact hx1_0 _ hq _ _ _ hP hD hS (lv_sub hl [1, 3] rfl)
              · have hf := iff_ hf c18
                refine lv_iload hx hb dX10_costOf_113 (lv_at hl 2 rfl) ?_
                refine lv_aload_n hx hb dX10_costOf_115 rfl (lv_at hl 0 rfl) ?_
                refine va_get (D := G) (ci := 10) (v := .ref t_layer_h) (C := RX10) (T := TX10) (N := 36) hx hb hts iwX10 hown hK hP 0 rfl rfl 12 (by decide) fl_19 (fun _ h9 => h9) rfl dX10_costOf_116 ?_
                refine lv_iload hx hb dX10_costOf_119 (lv_at hl 4 rfl) ?_
                obtain ⟨h19, hf⟩ := gd_some hf
                refine va_iald hx hb hK hP 3 0 rfl rfl (bnd_in h19) dX10_costOf_121 ?_
                obtain ⟨m20, hr21, hf⟩ := ob_some hf
                have hj22 : ∀ (m209 : Int32), some m209 = some m20 → ∀ (H : Heap) (locs : List Loc) (ls : Array Slot), va_P G vwCl [(t_h, .inr (10, [.int t_baseWay, .int t_slip, .int t_low, .int t_high, .int t_unlike, .int t_alone, .long t_above, .long t_below, .ref t_edges_h, .ref t_lean_h, .ref t_word_h, .int t_layers, .ref t_layer_h, .ref t_least_h, .int t_sights, .ref t_sight_h, .int t_shadows, .ref t_shadow_h, .long t_endAbove, .long t_endBelow, .long t_speedAbove, .long t_speedBelow, .int t_spans, .ref t_spanLow_h, .ref t_spanHigh_h, .ref t_spanAt_h, .int t_found, .ref t_numbers_h, .int t_pairs, .ref t_pair_h, .ref t_most_h, .int t_rows, .ref t_row_h, .int t_notes, .ref t_under_h, .ref t_agreed_h])), (t_lean_h, .inl (cI, 16, .inl t_lean_a)), (t_word_h, .inl (cI, 16, .inl t_word_a)), (t_layer_h, .inl (cI, 6, .inl t_layer_a))] H → va_D A [(t_h, .inr (10, [.int t_baseWay, .int t_slip, .int t_low, .int t_high, .int t_unlike, .int t_alone, .long t_above, .long t_below, .ref t_edges_h, .ref t_lean_h, .ref t_word_h, .int t_layers, .ref t_layer_h, .ref t_least_h, .int t_sights, .ref t_sight_h, .int t_shadows, .ref t_shadow_h, .long t_endAbove, .long t_endBelow, .long t_speedAbove, .long t_speedBelow, .int t_spans, .ref t_spanLow_h, .ref t_spanHigh_h, .ref t_spanAt_h, .int t_found, .ref t_numbers_h, .int t_pairs, .ref t_pair_h, .ref t_most_h, .int t_rows, .ref t_row_h, .int t_notes, .ref t_under_h, .ref t_agreed_h])), (t_lean_h, .inl (cI, 16, .inl t_lean_a)), (t_word_h, .inl (cI, 16, .inl t_word_a)), (t_layer_h, .inl (cI, 6, .inl t_layer_a))] → va_S A s.heap H locs → lv_has ls 12 [(0, .ref t_h), (7, .int m10), (8, .int v15), (9, .int u16), (10, .int u17)] → W p l e rmX10_costOf s m args below meth c H locs 0 0 Q (F0 m 148 ls [.int m209]) := by
                  intro m209 he H locs ls hP hD hS hl
                  cases he
                  refine lv_istore (lv' := [(11, .int m20), (0, .ref t_h), (7, .int m10), (8, .int v15), (9, .int u16), (10, .int u17)]) hx hb dX10_costOf_148 hl (by decide) rfl (fun ls hl => ?_)
                  refine lv_iload hx hb dX10_costOf_150 (lv_at hl 5 rfl) ?_
                  obtain ⟨m26, hr27, hf⟩ := ob_some hf
                  have hj28 : ∀ (m269 : Int32), some m269 = some m26 → ∀ (H : Heap) (locs : List Loc) (ls : Array Slot), va_P G vwCl [(t_h, .inr (10, [.int t_baseWay, .int t_slip, .int t_low, .int t_high, .int t_unlike, .int t_alone, .long t_above, .long t_below, .ref t_edges_h, .ref t_lean_h, .ref t_word_h, .int t_layers, .ref t_layer_h, .ref t_least_h, .int t_sights, .ref t_sight_h, .int t_shadows, .ref t_shadow_h, .long t_endAbove, .long t_endBelow, .long t_speedAbove, .long t_speedBelow, .int t_spans, .ref t_spanLow_h, .ref t_spanHigh_h, .ref t_spanAt_h, .int t_found, .ref t_numbers_h, .int t_pairs, .ref t_pair_h, .ref t_most_h, .int t_rows, .ref t_row_h, .int t_notes, .ref t_under_h, .ref t_agreed_h])), (t_lean_h, .inl (cI, 16, .inl t_lean_a)), (t_word_h, .inl (cI, 16, .inl t_word_a)), (t_layer_h, .inl (cI, 6, .inl t_layer_a))] H → va_D A [(t_h, .inr (10, [.int t_baseWay, .int t_slip, .int t_low, .int t_high, .int t_unlike, .int t_alone, .long t_above, .long t_below, .ref t_edges_h, .ref t_lean_h, .ref t_word_h, .int t_layers, .ref t_layer_h, .ref t_least_h, .int t_sights, .ref t_sight_h, .int t_shadows, .ref t_shadow_h, .long t_endAbove, .long t_endBelow, .long t_speedAbove, .long t_speedBelow, .int t_spans, .ref t_spanLow_h, .ref t_spanHigh_h, .ref t_spanAt_h, .int t_found, .ref t_numbers_h, .int t_pairs, .ref t_pair_h, .ref t_most_h, .int t_rows, .ref t_row_h, .int t_notes, .ref t_under_h, .ref t_agreed_h])), (t_lean_h, .inl (cI, 16, .inl t_lean_a)), (t_word_h, .inl (cI, 16, .inl t_word_a)), (t_layer_h, .inl (cI, 6, .inl t_layer_a))] → va_S A s.heap H locs → lv_has ls 12 [(0, .ref t_h), (7, .int m10), (8, .int v15), (10, .int u17)] → W p l e rmX10_costOf s m args below meth c H locs 0 0 Q (F0 m 169 ls [.int m269]) := by
                    intro m269 he H locs ls hP hD hS hl
                    cases he
                    refine lv_istore (lv' := [(9, .int m26), (0, .ref t_h), (7, .int m10), (8, .int v15), (10, .int u17)]) hx hb dX10_costOf_169 hl (by decide) rfl (fun ls hl => ?_)
                    obtain ⟨v31, ev31⟩ : ∃ y : Int32, y = u17 + 1 := ⟨_, rfl⟩
                    have hf := bv_at ev31 hf
                    refine lv_iinc (v := v31) (lv' := [(10, .int v31), (9, .int m26), (0, .ref t_h), (7, .int m10), (8, .int v15)]) hx hb dX10_costOf_171 hl (k := 4) rfl (by rw [ev31]; rfl) (by decide) rfl (fun ls hl => ?_)
                    refine lv_goto (tgt := 104) hx hb dX10_costOf_174 (by decide) ?_
                    cases hf
                    exact ih _ _ hq _ _ _ hP hD hS (lv_sub hl [2, 3, 4, 1, 0] rfl)
                  replace hf := hr27
                  refine lv_if_eq (tgt := 162) hx hb dX10_costOf_152 (by decide) (fun c29 => ?_) (fun c29 => ?_)
                  · have hf := ift hf c29
                    refine lv_iload hx hb dX10_costOf_162 (lv_at hl 0 rfl) ?_
                    refine lv_goto (tgt := 169) hx hb dX10_costOf_164 (by decide) ?_
                    exact hj28 _ hf _ _ _ hP hD hS (lv_sub hl [1, 2, 3, 5] rfl)
                  · have hf := iff_ hf c29
                    refine lv_iload hx hb dX10_costOf_155 (lv_at hl 0 rfl) ?_
                    refine lv_iload hx hb dX10_costOf_157 (lv_at hl 4 rfl) ?_
                    refine lv_icmp_ge (tgt := 167) hx hb dX10_costOf_159 (by decide) (fun c30 => ?_) (fun c30 => ?_)
                    · have hf := ift hf c30
                      refine lv_iload hx hb dX10_costOf_167 (lv_at hl 4 rfl) ?_
                      exact hj28 _ hf _ _ _ hP hD hS (lv_sub hl [1, 2, 3, 5] rfl)
                    · have hf := iff_ hf c30
                      refine lv_iload hx hb dX10_costOf_162 (lv_at hl 0 rfl) ?_
                      refine lv_goto (tgt := 169) hx hb dX10_costOf_164 (by decide) ?_
                      exact hj28 _ hf _ _ _ hP hD hS (lv_sub hl [1, 2, 3, 5] rfl)
                replace hf := hr21
                refine lv_icmp_ge (tgt := 138) hx hb dX10_costOf_122 (by decide) (fun c23 => ?_) (fun c23 => ?_)
                · have hf := ift hf c23
                  refine lv_iload hx hb dX10_costOf_138 (lv_at hl 2 rfl) ?_
                  refine lv_aload_n hx hb dX10_costOf_140 rfl (lv_at hl 0 rfl) ?_
                  refine va_get (D := G) (ci := 10) (v := .ref t_layer_h) (C := RX10) (T := TX10) (N := 36) hx hb hts iwX10 hown hK hP 0 rfl rfl 12 (by decide) fl_19 (fun _ h9 => h9) rfl dX10_costOf_141 ?_
                  refine lv_iload hx hb dX10_costOf_144 (lv_at hl 4 rfl) ?_
                  obtain ⟨h24, hf⟩ := gd_some hf
                  refine va_iald hx hb hK hP 3 0 rfl rfl (bnd_in h24) dX10_costOf_146 ?_
                  refine lv_isub hx hb dX10_costOf_147 ?_
                  exact hj22 _ hf _ _ _ hP hD hS (lv_sub hl [0, 1, 2, 3, 4] rfl)
                · have hf := iff_ hf c23
                  refine lv_aload_n hx hb dX10_costOf_125 rfl (lv_at hl 0 rfl) ?_
                  refine va_get (D := G) (ci := 10) (v := .ref t_layer_h) (C := RX10) (T := TX10) (N := 36) hx hb hts iwX10 hown hK hP 0 rfl rfl 12 (by decide) fl_19 (fun _ h9 => h9) rfl dX10_costOf_126 ?_
                  refine lv_iload hx hb dX10_costOf_129 (lv_at hl 4 rfl) ?_
                  obtain ⟨h25, hf⟩ := gd_some hf
                  refine va_iald hx hb hK hP 3 0 rfl rfl (bnd_in h25) dX10_costOf_131 ?_
                  refine lv_iload hx hb dX10_costOf_132 (lv_at hl 2 rfl) ?_
                  refine lv_isub hx hb dX10_costOf_134 ?_
                  refine lv_goto (tgt := 148) hx hb dX10_costOf_135 (by decide) ?_
                  exact hj22 _ hf _ _ _ hP hD hS (lv_sub hl [0, 1, 2, 3, 4] rfl)
          exact hl1 _ _ _ ht1 _ _ _ hP hD hS (lv_sub hl [4, 3, 2, 1, 0] rfl)
        replace hf := hr11
        refine lv_icmp_ne (tgt := 85) hx hb dX10_costOf_78 (by decide) (fun c13 => ?_) (fun c13 => ?_)
        · have hf := iff_ hf c13
          refine lv_aload_n hx hb dX10_costOf_85 rfl (lv_at hl 2 rfl) ?_
          refine va_get (D := G) (ci := 10) (v := .int t_unlike) (C := RX10) (T := TX10) (N := 36) hx hb hts iwX10 hown hK hP 0 rfl rfl 4 (by decide) fl_71 (fun _ h9 => h9) rfl dX10_costOf_86 ?_
          exact hj12 _ hf _ _ _ hP hD hS (lv_sub hl [2, 1, 0] rfl)
        · have hf := ift hf c13
          refine lv_iconst (v := 0) hx hb dX10_costOf_81 (by decide) ?_
          refine lv_goto (tgt := 89) hx hb dX10_costOf_82 (by decide) ?_
          exact hj12 _ hf _ _ _ hP hD hS (lv_sub hl [2, 1, 0] rfl)
      · have hf := iff_ hf c7
        refine lv_iconst (v := (-1)) hx hb dX10_costOf_61 (by decide) ?_
        exact hret (-1) 62 _ _ _ dX10_costOf_62 hf hP hD hS
set_option maxRecDepth 20000 in
theorem ggX10_cost_X10_in : GoodIn wsX10_cost wsX10_in := goodIn_r _ [5] (by decide +kernel) (by decide +kernel)
set_option maxRecDepth 20000 in
theorem gX10_cost_X10_in : GoodIn wsX10_cost (va_wsS RX10 89 yX10_in wsX10_in) := goodIn_app (goodIn_of _ (by decide +kernel)) ggX10_cost_X10_in
set_option maxRecDepth 20000 in
theorem ggX10_cost_X10_costOf : GoodIn wsX10_cost wsX10_costOf := goodIn_r _ [9, 10, 11, 12, 13, 14, 15, 16, 17, 18, 19, 20, 21, 22, 23, 24, 25, 26, 27, 28, 29, 30, 31, 32, 33, 34, 35, 36, 37, 38, 39, 40, 41, 42, 43, 44, 45, 46, 47, 48, 49, 50, 51, 52, 53, 54] (by decide +kernel) (by decide +kernel)
set_option maxRecDepth 20000 in
theorem gX10_cost_X10_costOf : GoodIn wsX10_cost (wsV RX10 108 RX10 yX10_costOf wsX10_costOf) := goodIn_app (goodIn_of _ (by decide +kernel)) ggX10_cost_X10_costOf
theorem dX10_cost_0 : decode cX10_cost 0 = .ok (.iload_n 1, 1) := by decide +kernel
theorem dX10_cost_1 : decode cX10_cost 1 = .ok (.iconst 0, 1) := by decide +kernel
theorem dX10_cost_2 : decode cX10_cost 2 = .ok (.aload_n 0, 1) := by decide +kernel
theorem dX10_cost_3 : decode cX10_cost 3 = .ok (.getfield 7, 3) := by decide +kernel
theorem dX10_cost_6 : decode cX10_cost 6 = .ok (.iconst 0, 1) := by decide +kernel
theorem dX10_cost_7 : decode cX10_cost 7 = .ok (.iaload, 1) := by decide +kernel
theorem dX10_cost_8 : decode cX10_cost 8 = .ok (.iconst 1, 1) := by decide +kernel
theorem dX10_cost_9 : decode cX10_cost 9 = .ok (.isub, 1) := by decide +kernel
theorem dX10_cost_10 : decode cX10_cost 10 = .ok (.invokestatic 89, 3) := by decide +kernel
theorem dX10_cost_13 : decode cX10_cost 13 = .ok (.ifCond .eq 28, 3) := by decide +kernel
theorem dX10_cost_16 : decode cX10_cost 16 = .ok (.iload_n 2, 1) := by decide +kernel
theorem dX10_cost_17 : decode cX10_cost 17 = .ok (.iconst 0, 1) := by decide +kernel
theorem dX10_cost_18 : decode cX10_cost 18 = .ok (.aload_n 0, 1) := by decide +kernel
theorem dX10_cost_19 : decode cX10_cost 19 = .ok (.getfield 7, 3) := by decide +kernel
theorem dX10_cost_22 : decode cX10_cost 22 = .ok (.iconst 1, 1) := by decide +kernel
theorem dX10_cost_23 : decode cX10_cost 23 = .ok (.iaload, 1) := by decide +kernel
theorem dX10_cost_24 : decode cX10_cost 24 = .ok (.iconst 1, 1) := by decide +kernel
theorem dX10_cost_25 : decode cX10_cost 25 = .ok (.isub, 1) := by decide +kernel
theorem dX10_cost_26 : decode cX10_cost 26 = .ok (.invokestatic 89, 3) := by decide +kernel
theorem dX10_cost_29 : decode cX10_cost 29 = .ok (.ifCond .eq 12, 3) := by decide +kernel
theorem dX10_cost_32 : decode cX10_cost 32 = .ok (.aload_n 0, 1) := by decide +kernel
theorem dX10_cost_33 : decode cX10_cost 33 = .ok (.iload_n 1, 1) := by decide +kernel
theorem dX10_cost_34 : decode cX10_cost 34 = .ok (.iload_n 2, 1) := by decide +kernel
theorem dX10_cost_35 : decode cX10_cost 35 = .ok (.invokevirtual 108, 3) := by decide +kernel
theorem dX10_cost_38 : decode cX10_cost 38 = .ok (.goto 5, 3) := by decide +kernel
theorem dX10_cost_41 : decode cX10_cost 41 = .ok (.bipush (-2), 2) := by decide +kernel
theorem dX10_cost_43 : decode cX10_cost 43 = .ok (.ireturn, 1) := by decide +kernel
set_option maxRecDepth 100000 in
def fX10_cost (x1 : Int32) (x2 : Int32) (t_baseWay : Int32) (t_low : Int32) (t_high : Int32) (t_unlike : Int32) (t_layers : Int32) (t_edges_a : Nat → Int32) (t_lean_a : Nat → Int32) (t_word_a : Nat → Int32) (t_layer_a : Nat → Int32) : Option (Int32) :=
  gd (bnd 0 2) <|
  ob (fX10_in x1 0 ((t_edges_a (Int32.toNatClampNeg 0)) - 1)) fun r2 =>
  if (b2i r2) = 0 then
    some (-2)
  else
    gd (bnd 1 2) <|
    ob (fX10_in x2 0 ((t_edges_a (Int32.toNatClampNeg 1)) - 1)) fun r6 =>
    if (b2i r6) = 0 then
      some (-2)
    else
      ob (fX10_costOf x1 x2 t_baseWay t_low t_high t_unlike t_layers t_lean_a t_word_a t_layer_a) fun r9 =>
      some r9
abbrev rmX10_cost : Room := { frames := 1, cells := 0, slots := 0, locals := 31 }
theorem iwX10_cost_X10 : ∀ w ∈ u_ws RX10 TX10 36, w ∈ wsX10_cost := by decide +kernel
set_option maxHeartbeats 4000000 in
set_option maxRecDepth 100000 in
theorem k_X10_cost (l : Launch) (G : va_G) (cI cJ : ClassId) (t_h t_edges_h t_lean_h t_word_h t_layer_h t_least_h t_sight_h t_shadow_h t_spanLow_h t_spanHigh_h t_spanAt_h t_numbers_h t_pair_h t_most_h t_row_h t_under_h t_agreed_h : Nat) (sz : Nat) (t_baseWay : Int32) (t_slip : Int32) (t_low : Int32) (t_high : Int32) (t_unlike : Int32) (t_alone : Int32) (t_above : Int64) (t_below : Int64) (t_layers : Int32) (t_sights : Int32) (t_shadows : Int32) (t_endAbove : Int64) (t_endBelow : Int64) (t_speedAbove : Int64) (t_speedBelow : Int64) (t_spans : Int32) (t_found : Int32) (t_pairs : Int32) (t_rows : Int32) (t_notes : Int32) (t_edges_a : Nat → Int32) (t_lean_a : Nat → Int32) (t_word_a : Nat → Int32) (t_layer_a : Nat → Int32) (x1 : Int32) (x2 : Int32) {o_r : Int32} (hf : fX10_cost x1 x2 t_baseWay t_low t_high t_unlike t_layers t_edges_a t_lean_a t_word_a t_layer_a = some o_r) : MetI l yX10_cost wsX10_cost rmX10_cost [.ref t_h, .int x1, .int x2] G cI cJ [(t_h, .inr (10, [.int t_baseWay, .int t_slip, .int t_low, .int t_high, .int t_unlike, .int t_alone, .long t_above, .long t_below, .ref t_edges_h, .ref t_lean_h, .ref t_word_h, .int t_layers, .ref t_layer_h, .ref t_least_h, .int t_sights, .ref t_sight_h, .int t_shadows, .ref t_shadow_h, .long t_endAbove, .long t_endBelow, .long t_speedAbove, .long t_speedBelow, .int t_spans, .ref t_spanLow_h, .ref t_spanHigh_h, .ref t_spanAt_h, .int t_found, .ref t_numbers_h, .int t_pairs, .ref t_pair_h, .ref t_most_h, .int t_rows, .ref t_row_h, .int t_notes, .ref t_under_h, .ref t_agreed_h])), (t_edges_h, .inl (cI, 2, .inl t_edges_a)), (t_lean_h, .inl (cI, 16, .inl t_lean_a)), (t_word_h, .inl (cI, 16, .inl t_word_a)), (t_layer_h, .inl (cI, 6, .inl t_layer_a))] [(t_h, .inr (10, [.int t_baseWay, .int t_slip, .int t_low, .int t_high, .int t_unlike, .int t_alone, .long t_above, .long t_below, .ref t_edges_h, .ref t_lean_h, .ref t_word_h, .int t_layers, .ref t_layer_h, .ref t_least_h, .int t_sights, .ref t_sight_h, .int t_shadows, .ref t_shadow_h, .long t_endAbove, .long t_endBelow, .long t_speedAbove, .long t_speedBelow, .int t_spans, .ref t_spanLow_h, .ref t_spanHigh_h, .ref t_spanAt_h, .int t_found, .ref t_numbers_h, .int t_pairs, .ref t_pair_h, .ref t_most_h, .int t_rows, .ref t_row_h, .int t_notes, .ref t_under_h, .ref t_agreed_h])), (t_edges_h, .inl (cI, 2, .inl t_edges_a)), (t_lean_h, .inl (cI, 16, .inl t_lean_a)), (t_word_h, .inl (cI, 16, .inl t_word_a)), (t_layer_h, .inl (cI, 6, .inl t_layer_a))] sz o_r := by
  refine en_0 (l := l) (y := yX10_cost) (wsl := wsX10_cost) (rm := rmX10_cost) (av := [.ref t_h, .int x1, .int x2]) (G := G) (cI := cI) (cJ := cJ) (w0 := [(t_h, .inr (10, [.int t_baseWay, .int t_slip, .int t_low, .int t_high, .int t_unlike, .int t_alone, .long t_above, .long t_below, .ref t_edges_h, .ref t_lean_h, .ref t_word_h, .int t_layers, .ref t_layer_h, .ref t_least_h, .int t_sights, .ref t_sight_h, .int t_shadows, .ref t_shadow_h, .long t_endAbove, .long t_endBelow, .long t_speedAbove, .long t_speedBelow, .int t_spans, .ref t_spanLow_h, .ref t_spanHigh_h, .ref t_spanAt_h, .int t_found, .ref t_numbers_h, .int t_pairs, .ref t_pair_h, .ref t_most_h, .int t_rows, .ref t_row_h, .int t_notes, .ref t_under_h, .ref t_agreed_h])), (t_edges_h, .inl (cI, 2, .inl t_edges_a)), (t_lean_h, .inl (cI, 16, .inl t_lean_a)), (t_word_h, .inl (cI, 16, .inl t_word_a)), (t_layer_h, .inl (cI, 6, .inl t_layer_a))]) (sz := sz) (Qf := fun A => Qi0 G cI cJ [(t_h, .inr (10, [.int t_baseWay, .int t_slip, .int t_low, .int t_high, .int t_unlike, .int t_alone, .long t_above, .long t_below, .ref t_edges_h, .ref t_lean_h, .ref t_word_h, .int t_layers, .ref t_layer_h, .ref t_least_h, .int t_sights, .ref t_sight_h, .int t_shadows, .ref t_shadow_h, .long t_endAbove, .long t_endBelow, .long t_speedAbove, .long t_speedBelow, .int t_spans, .ref t_spanLow_h, .ref t_spanHigh_h, .ref t_spanAt_h, .int t_found, .ref t_numbers_h, .int t_pairs, .ref t_pair_h, .ref t_most_h, .int t_rows, .ref t_row_h, .int t_notes, .ref t_under_h, .ref t_agreed_h])), (t_edges_h, .inl (cI, 2, .inl t_edges_a)), (t_lean_h, .inl (cI, 16, .inl t_lean_a)), (t_word_h, .inl (cI, 16, .inl t_word_a)), (t_layer_h, .inl (cI, 6, .inl t_layer_a))] o_r A) (cc := cX10_cost) (maxL := 3) (ret := (some .int)) RX10 (by decide +kernel) rfl rfl (Nat.le_of_ble_eq_true rfl) ?_
  intro p e s m args below meth c A ls Q hQ hx hb hr hts hown hlocks hml hN hK hP hD hS hA hl
  have hl : lv_has ls 3 [(0, .ref t_h), (1, .int x1), (2, .int x2)] := hl
  have iwX10 := iwX10_cost_X10
  have fl_7 := hts (.fieldLink RX10 7 "CloudOfficeModel" "edges" "[I") (by decide +kernel)
  have hret : ∀ (o_r9 : Int32) (pc : Nat) (H : Heap) (locs : List Loc) (ls : Array Slot), decode cX10_cost pc = .ok (.ireturn, 1) → some o_r9 = some o_r → va_P G vwCl [(t_h, .inr (10, [.int t_baseWay, .int t_slip, .int t_low, .int t_high, .int t_unlike, .int t_alone, .long t_above, .long t_below, .ref t_edges_h, .ref t_lean_h, .ref t_word_h, .int t_layers, .ref t_layer_h, .ref t_least_h, .int t_sights, .ref t_sight_h, .int t_shadows, .ref t_shadow_h, .long t_endAbove, .long t_endBelow, .long t_speedAbove, .long t_speedBelow, .int t_spans, .ref t_spanLow_h, .ref t_spanHigh_h, .ref t_spanAt_h, .int t_found, .ref t_numbers_h, .int t_pairs, .ref t_pair_h, .ref t_most_h, .int t_rows, .ref t_row_h, .int t_notes, .ref t_under_h, .ref t_agreed_h])), (t_edges_h, .inl (cI, 2, .inl t_edges_a)), (t_lean_h, .inl (cI, 16, .inl t_lean_a)), (t_word_h, .inl (cI, 16, .inl t_word_a)), (t_layer_h, .inl (cI, 6, .inl t_layer_a))] H → va_D A [(t_h, .inr (10, [.int t_baseWay, .int t_slip, .int t_low, .int t_high, .int t_unlike, .int t_alone, .long t_above, .long t_below, .ref t_edges_h, .ref t_lean_h, .ref t_word_h, .int t_layers, .ref t_layer_h, .ref t_least_h, .int t_sights, .ref t_sight_h, .int t_shadows, .ref t_shadow_h, .long t_endAbove, .long t_endBelow, .long t_speedAbove, .long t_speedBelow, .int t_spans, .ref t_spanLow_h, .ref t_spanHigh_h, .ref t_spanAt_h, .int t_found, .ref t_numbers_h, .int t_pairs, .ref t_pair_h, .ref t_most_h, .int t_rows, .ref t_row_h, .int t_notes, .ref t_under_h, .ref t_agreed_h])), (t_edges_h, .inl (cI, 2, .inl t_edges_a)), (t_lean_h, .inl (cI, 16, .inl t_lean_a)), (t_word_h, .inl (cI, 16, .inl t_word_a)), (t_layer_h, .inl (cI, 6, .inl t_layer_a))] → va_S A s.heap H locs → W p l e rmX10_cost s m args below meth c H locs 0 0 Q (F0 m pc ls [.int o_r9]) := by
    intro o_r9 pc H locs ls hdg he hP hD hS
    cases he
    subst hQ
    exact rt_i hx hb hr hlocks hK hP hD hS rfl hdg
  clear hQ
  unfold fX10_cost at hf
  refine lv_iload_n hx hb dX10_cost_0 rfl (lv_at hl 1 rfl) ?_
  refine lv_iconst (v := 0) hx hb dX10_cost_1 (by decide) ?_
  refine lv_aload_n hx hb dX10_cost_2 rfl (lv_at hl 0 rfl) ?_
  refine va_get (D := G) (ci := 10) (v := .ref t_edges_h) (C := RX10) (T := TX10) (N := 36) hx hb hts iwX10 hown hK hP 0 rfl rfl 8 (by decide) fl_7 (fun _ h9 => h9) rfl dX10_cost_3 ?_
  refine lv_iconst (v := 0) hx hb dX10_cost_6 (by decide) ?_
  obtain ⟨h1, hf⟩ := gd_some hf
  refine va_iald hx hb hK hP 1 0 rfl rfl (bnd_in h1) dX10_cost_7 ?_
  refine lv_iconst (v := 1) hx hb dX10_cost_8 (by decide) ?_
  refine lv_isub hx hb dX10_cost_9 ?_
  obtain ⟨r2, hc3, hf⟩ := ob_some hf
  refine af_iR (va_runS (As := [.int x1, .int 0, .int ((t_edges_a (Int32.toNatClampNeg 0)) - 1)]) (rest := []) ⟨hx, hb, hml, hown, hts⟩ (k_X10_in l G cI cJ (x0 := x1) (x1 := 0) (x2 := ((t_edges_a (Int32.toNatClampNeg 0)) - 1)) (sz := _) (hf := hc3)) (va_cwS 3 hts gX10_cost_X10_in rfl rfl rfl (by decide +kernel) ⟨Nat.le_of_ble_eq_true rfl, Nat.le_of_ble_eq_true rfl⟩) (preS0 (wc := []) hK hP hD hN [] rfl rfl (by decide)) rfl rfl hl.1 rfl (lv_room (Nat.le_of_ble_eq_true rfl)) dX10_cost_10 ⟨Nat.zero_le _, Nat.zero_le _⟩) hP hD hS hA [] rfl (fun H locs hP hS => ?_)
  refine lv_if_eq (tgt := 41) hx hb dX10_cost_13 (by decide) (fun c4 => ?_) (fun c4 => ?_)
  · have hf := ift hf c4
    refine lv_bipush (v := (-2)) hx hb dX10_cost_41 (by decide) ?_
    exact hret (-2) 43 _ _ _ dX10_cost_43 hf hP hD hS
  · have hf := iff_ hf c4
    refine lv_iload_n hx hb dX10_cost_16 rfl (lv_at hl 2 rfl) ?_
    refine lv_iconst (v := 0) hx hb dX10_cost_17 (by decide) ?_
    refine lv_aload_n hx hb dX10_cost_18 rfl (lv_at hl 0 rfl) ?_
    refine va_get (D := G) (ci := 10) (v := .ref t_edges_h) (C := RX10) (T := TX10) (N := 36) hx hb hts iwX10 hown hK hP 0 rfl rfl 8 (by decide) fl_7 (fun _ h9 => h9) rfl dX10_cost_19 ?_
    refine lv_iconst (v := 1) hx hb dX10_cost_22 (by decide) ?_
    obtain ⟨h5, hf⟩ := gd_some hf
    refine va_iald hx hb hK hP 1 0 rfl rfl (bnd_in h5) dX10_cost_23 ?_
    refine lv_iconst (v := 1) hx hb dX10_cost_24 (by decide) ?_
    refine lv_isub hx hb dX10_cost_25 ?_
    obtain ⟨r6, hc7, hf⟩ := ob_some hf
    refine af_iR (va_runS (As := [.int x2, .int 0, .int ((t_edges_a (Int32.toNatClampNeg 1)) - 1)]) (rest := []) ⟨hx, hb, hml, hown, hts⟩ (k_X10_in l G cI cJ (x0 := x2) (x1 := 0) (x2 := ((t_edges_a (Int32.toNatClampNeg 1)) - 1)) (sz := _) (hf := hc7)) (va_cwS 3 hts gX10_cost_X10_in rfl rfl rfl (by decide +kernel) ⟨Nat.le_of_ble_eq_true rfl, Nat.le_of_ble_eq_true rfl⟩) (preS0 (wc := []) hK hP hD hN [] rfl rfl (by decide)) rfl rfl hl.1 rfl (lv_room (Nat.le_of_ble_eq_true rfl)) dX10_cost_26 ⟨Nat.zero_le _, Nat.zero_le _⟩) hP hD hS hA [] rfl (fun H locs hP hS => ?_)
    refine lv_if_eq (tgt := 41) hx hb dX10_cost_29 (by decide) (fun c8 => ?_) (fun c8 => ?_)
    · have hf := ift hf c8
      refine lv_bipush (v := (-2)) hx hb dX10_cost_41 (by decide) ?_
      exact hret (-2) 43 _ _ _ dX10_cost_43 hf hP hD hS
    · have hf := iff_ hf c8
      refine lv_aload_n hx hb dX10_cost_32 rfl (lv_at hl 0 rfl) ?_
      refine lv_iload_n hx hb dX10_cost_33 rfl (lv_at hl 1 rfl) ?_
      refine lv_iload_n hx hb dX10_cost_34 rfl (lv_at hl 2 rfl) ?_
      obtain ⟨r9, hc10, hf⟩ := ob_some hf
      refine af_iR (va_runV (As := [.int x1, .int x2]) (rest := []) ⟨hx, hb, hml, hown, hts⟩ (k_X10_costOf l G cI cJ (t_h := t_h) (t_edges_h := t_edges_h) (t_lean_h := t_lean_h) (t_word_h := t_word_h) (t_layer_h := t_layer_h) (t_least_h := t_least_h) (t_sight_h := t_sight_h) (t_shadow_h := t_shadow_h) (t_spanLow_h := t_spanLow_h) (t_spanHigh_h := t_spanHigh_h) (t_spanAt_h := t_spanAt_h) (t_numbers_h := t_numbers_h) (t_pair_h := t_pair_h) (t_most_h := t_most_h) (t_row_h := t_row_h) (t_under_h := t_under_h) (t_agreed_h := t_agreed_h) (t_baseWay := t_baseWay) (t_slip := t_slip) (t_low := t_low) (t_high := t_high) (t_unlike := t_unlike) (t_alone := t_alone) (t_above := t_above) (t_below := t_below) (t_layers := t_layers) (t_sights := t_sights) (t_shadows := t_shadows) (t_endAbove := t_endAbove) (t_endBelow := t_endBelow) (t_speedAbove := t_speedAbove) (t_speedBelow := t_speedBelow) (t_spans := t_spans) (t_found := t_found) (t_pairs := t_pairs) (t_rows := t_rows) (t_notes := t_notes) (t_lean_a := t_lean_a) (t_word_a := t_word_a) (t_layer_a := t_layer_a) (x1 := x1) (x2 := x2) (sz := _) (hf := hc10)) (cwV 2 hts gX10_cost_X10_costOf rfl rfl rfl (by decide +kernel) ⟨Nat.le_of_ble_eq_true rfl, Nat.le_of_ble_eq_true rfl⟩) (preV0 (ci := 10) (q0 := 0) (C := RX10) (wc := [(t_h, .inr (10, [.int t_baseWay, .int t_slip, .int t_low, .int t_high, .int t_unlike, .int t_alone, .long t_above, .long t_below, .ref t_edges_h, .ref t_lean_h, .ref t_word_h, .int t_layers, .ref t_layer_h, .ref t_least_h, .int t_sights, .ref t_sight_h, .int t_shadows, .ref t_shadow_h, .long t_endAbove, .long t_endBelow, .long t_speedAbove, .long t_speedBelow, .int t_spans, .ref t_spanLow_h, .ref t_spanHigh_h, .ref t_spanAt_h, .int t_found, .ref t_numbers_h, .int t_pairs, .ref t_pair_h, .ref t_most_h, .int t_rows, .ref t_row_h, .int t_notes, .ref t_under_h, .ref t_agreed_h])), (t_lean_h, .inl (cI, 16, .inl t_lean_a)), (t_word_h, .inl (cI, 16, .inl t_word_a)), (t_layer_h, .inl (cI, 6, .inl t_layer_a))]) hK hP hD hN [0, 2, 3, 4] rfl rfl (by decide) rfl rfl) rfl rfl hl.1 rfl (lv_room (Nat.le_of_ble_eq_true rfl)) dX10_cost_35 ⟨Nat.zero_le _, Nat.zero_le _⟩) hP hD hS hA [0, 2, 3, 4] rfl (fun H locs hP hS => ?_)
      refine lv_goto (tgt := 43) hx hb dX10_cost_38 (by decide) ?_
      exact hret r9 43 _ _ _ dX10_cost_43 hf hP hD hS
theorem dX10_sizeOf_0 : decode cX10_sizeOf 0 = .ok (.iconst 0, 1) := by decide +kernel
theorem dX10_sizeOf_1 : decode cX10_sizeOf 1 = .ok (.istore_n 1, 1) := by decide +kernel
theorem dX10_sizeOf_2 : decode cX10_sizeOf 2 = .ok (.iload_n 0, 1) := by decide +kernel
theorem dX10_sizeOf_3 : decode cX10_sizeOf 3 = .ok (.istore_n 2, 1) := by decide +kernel
theorem dX10_sizeOf_4 : decode cX10_sizeOf 4 = .ok (.iload_n 2, 1) := by decide +kernel
theorem dX10_sizeOf_5 : decode cX10_sizeOf 5 = .ok (.ifCond .le 16, 3) := by decide +kernel
theorem dX10_sizeOf_8 : decode cX10_sizeOf 8 = .ok (.iload_n 1, 1) := by decide +kernel
theorem dX10_sizeOf_9 : decode cX10_sizeOf 9 = .ok (.iload_n 2, 1) := by decide +kernel
theorem dX10_sizeOf_10 : decode cX10_sizeOf 10 = .ok (.iconst 1, 1) := by decide +kernel
theorem dX10_sizeOf_11 : decode cX10_sizeOf 11 = .ok (.iand, 1) := by decide +kernel
theorem dX10_sizeOf_12 : decode cX10_sizeOf 12 = .ok (.iadd, 1) := by decide +kernel
theorem dX10_sizeOf_13 : decode cX10_sizeOf 13 = .ok (.istore_n 1, 1) := by decide +kernel
theorem dX10_sizeOf_14 : decode cX10_sizeOf 14 = .ok (.iload_n 2, 1) := by decide +kernel
theorem dX10_sizeOf_15 : decode cX10_sizeOf 15 = .ok (.iconst 1, 1) := by decide +kernel
theorem dX10_sizeOf_16 : decode cX10_sizeOf 16 = .ok (.ishr, 1) := by decide +kernel
theorem dX10_sizeOf_17 : decode cX10_sizeOf 17 = .ok (.istore_n 2, 1) := by decide +kernel
theorem dX10_sizeOf_18 : decode cX10_sizeOf 18 = .ok (.goto (-14), 3) := by decide +kernel
theorem dX10_sizeOf_21 : decode cX10_sizeOf 21 = .ok (.iload_n 1, 1) := by decide +kernel
theorem dX10_sizeOf_22 : decode cX10_sizeOf 22 = .ok (.ireturn, 1) := by decide +kernel
set_option maxRecDepth 100000 in
def fX10_sizeOf_L1  : (Int32 × Int32) → Option ((Int32) ⊕ (Int32 × Int32)) := un2 fun (u1 : Int32) (u2 : Int32) =>
  if u2 ≤ 0 then
    some (.inl u1)
  else
    bv (u1 + (u2 &&& 1)) fun v4 =>
    bv (u2 >>> (1 &&& 31)) fun v5 =>
    some (.inr (v4, v5))
set_option maxRecDepth 100000 in
def fX10_sizeOf (x0 : Int32) : Option (Int32) :=
  ob (it (fX10_sizeOf_L1) 100000 (0, x0)) fun x6 =>
  some x6
abbrev rmX10_sizeOf : Room := { frames := 0, cells := 0, slots := 0, locals := 0 }
set_option maxHeartbeats 4000000 in
set_option maxRecDepth 100000 in
theorem k_X10_sizeOf (l : Launch) (G : va_G) (cI cJ : ClassId) (sz : Nat) (x0 : Int32) {o_r : Int32} (hf : fX10_sizeOf x0 = some o_r) : MetI l yX10_sizeOf wsX10_sizeOf rmX10_sizeOf [.int x0] G cI cJ [] [] sz o_r := by
  refine en_0 (l := l) (y := yX10_sizeOf) (wsl := wsX10_sizeOf) (rm := rmX10_sizeOf) (av := [.int x0]) (G := G) (cI := cI) (cJ := cJ) (w0 := []) (sz := sz) (Qf := fun A => Qi0 G cI cJ [] o_r A) (cc := cX10_sizeOf) (maxL := 3) (ret := (some .int)) RX10 (by decide +kernel) rfl rfl (Nat.le_of_ble_eq_true rfl) ?_
  intro p e s m args below meth c A ls Q hQ hx hb hr hts hown hlocks hml hN hK hP hD hS hA hl
  have hl : lv_has ls 3 [(0, .int x0)] := hl
  have hret : ∀ (o_r9 : Int32) (pc : Nat) (H : Heap) (locs : List Loc) (ls : Array Slot), decode cX10_sizeOf pc = .ok (.ireturn, 1) → some o_r9 = some o_r → va_P G vwCl [] H → va_D A [] → va_S A s.heap H locs → W p l e rmX10_sizeOf s m args below meth c H locs 0 0 Q (F0 m pc ls [.int o_r9]) := by
    intro o_r9 pc H locs ls hdg he hP hD hS
    cases he
    subst hQ
    exact rt_i hx hb hr hlocks hK hP hD hS rfl hdg
  clear hQ
  unfold fX10_sizeOf at hf
  refine lv_iconst (v := 0) hx hb dX10_sizeOf_0 (by decide) ?_
  refine lv_istore_n (lv' := [(1, .int 0), (0, .int x0)]) hx hb dX10_sizeOf_1 rfl hl (by decide) rfl (fun ls hl => ?_)
  refine lv_iload_n hx hb dX10_sizeOf_2 rfl (lv_at hl 1 rfl) ?_
  refine lv_istore_n (lv' := [(2, .int x0), (1, .int 0), (0, .int x0)]) hx hb dX10_sizeOf_3 rfl hl (by decide) rfl (fun ls hl => ?_)
  obtain ⟨x6, ht1, hf⟩ := ob_some hf
  have hx1_0 : ∀ (x69 : Int32), x69 = x6 → ∀ (H : Heap) (locs : List Loc) (ls : Array Slot), va_P G vwCl [] H → va_D A [] → va_S A s.heap H locs → lv_has ls 3 [(1, .int x69)] → W p l e rmX10_sizeOf s m args below meth c H locs 0 0 Q (F0 m 21 ls []) := by
    intro x69 he H locs ls hP hD hS hl
    cases he
    refine lv_iload_n hx hb dX10_sizeOf_21 rfl (lv_at hl 0 rfl) ?_
    exact hret x6 22 _ _ _ dX10_sizeOf_22 hf hP hD hS
  clear hf
  have hl1 : ∀ (n : Nat) (u1 : Int32) (u2 : Int32), it (fX10_sizeOf_L1) n (u1, u2) = some x6 → ∀ (H : Heap) (locs : List Loc) (ls : Array Slot), va_P G vwCl [] H → va_D A [] → va_S A s.heap H locs → lv_has ls 3 [(1, .int u1), (2, .int u2)] → W p l e rmX10_sizeOf s m args below meth c H locs 0 0 Q (F0 m 4 ls []) := by
    intro n
    induction n with
    | zero => intro u1 u2 hz; exact (it_zero hz).elim
    | succ n ih =>
      intro u1 u2 hz H locs ls hP hD hS hl
      obtain ⟨x9, hf, hq⟩ := it_succ hz
      unfold fX10_sizeOf_L1 at hf
      dsimp only [un2] at hf
      refine lv_iload_n hx hb dX10_sizeOf_4 rfl (lv_at hl 1 rfl) ?_
      refine lv_if_le (tgt := 21) hx hb dX10_sizeOf_5 (by decide) (fun c3 => ?_) (fun c3 => ?_)
      · have hf := ift hf c3
        cases hf
        exact hx1_0 _ hq _ _ _ hP hD hS (lv_sub hl [0] rfl)
      · have hf := iff_ hf c3
        refine lv_iload_n hx hb dX10_sizeOf_8 rfl (lv_at hl 0 rfl) ?_
        refine lv_iload_n hx hb dX10_sizeOf_9 rfl (lv_at hl 1 rfl) ?_
        refine lv_iconst (v := 1) hx hb dX10_sizeOf_10 (by decide) ?_
        refine lv_iand hx hb dX10_sizeOf_11 ?_
        refine lv_iadd hx hb dX10_sizeOf_12 ?_
        refine lv_topi (fun v4 ev4 => ?_)
        have hf := bv_at ev4 hf
        refine lv_istore_n (lv' := [(1, .int v4), (2, .int u2)]) hx hb dX10_sizeOf_13 rfl hl (by decide) rfl (fun ls hl => ?_)
        refine lv_iload_n hx hb dX10_sizeOf_14 rfl (lv_at hl 1 rfl) ?_
        refine lv_iconst (v := 1) hx hb dX10_sizeOf_15 (by decide) ?_
        refine lv_ishr hx hb dX10_sizeOf_16 ?_
        refine lv_topi (fun v5 ev5 => ?_)
        have hf := bv_at ev5 hf
        refine lv_istore_n (lv' := [(2, .int v5), (1, .int v4)]) hx hb dX10_sizeOf_17 rfl hl (by decide) rfl (fun ls hl => ?_)
        refine lv_goto (tgt := 4) hx hb dX10_sizeOf_18 (by decide) ?_
        cases hf
        exact ih _ _ hq _ _ _ hP hD hS (lv_sub hl [1, 0] rfl)
  exact hl1 _ _ _ ht1 _ _ _ hP hD hS (lv_sub hl [1, 0] rfl)
set_option maxRecDepth 20000 in
theorem ggX10_findLeast_X10_sizeOf : GoodIn wsX10_findLeast wsX10_sizeOf := goodIn_r _ [7] (by decide +kernel) (by decide +kernel)
set_option maxRecDepth 20000 in
theorem gX10_findLeast_X10_sizeOf : GoodIn wsX10_findLeast (va_wsS RX10 112 yX10_sizeOf wsX10_sizeOf) := goodIn_app (goodIn_of _ (by decide +kernel)) ggX10_findLeast_X10_sizeOf
set_option maxRecDepth 20000 in
theorem ggX10_findLeast_X10_costOf : GoodIn wsX10_findLeast wsX10_costOf := goodIn_r _ [11, 12, 13, 14, 15, 16, 17, 18, 19, 20, 21, 22, 23, 24, 25, 26, 27, 28, 29, 30, 31, 32, 33, 34, 35, 36, 37, 38, 39, 40, 41, 42, 43, 44, 45, 46, 47, 48, 49, 50, 51, 52, 53, 54, 55, 56] (by decide +kernel) (by decide +kernel)
set_option maxRecDepth 20000 in
theorem gX10_findLeast_X10_costOf : GoodIn wsX10_findLeast (wsV RX10 108 RX10 yX10_costOf wsX10_costOf) := goodIn_app (goodIn_of _ (by decide +kernel)) ggX10_findLeast_X10_costOf
theorem dX10_findLeast_0 : decode cX10_findLeast 0 = .ok (.iconst 1, 1) := by decide +kernel
theorem dX10_findLeast_1 : decode cX10_findLeast 1 = .ok (.aload_n 0, 1) := by decide +kernel
theorem dX10_findLeast_2 : decode cX10_findLeast 2 = .ok (.getfield 7, 3) := by decide +kernel
theorem dX10_findLeast_5 : decode cX10_findLeast 5 = .ok (.iconst 1, 1) := by decide +kernel
theorem dX10_findLeast_6 : decode cX10_findLeast 6 = .ok (.iaload, 1) := by decide +kernel
theorem dX10_findLeast_7 : decode cX10_findLeast 7 = .ok (.ishl, 1) := by decide +kernel
theorem dX10_findLeast_8 : decode cX10_findLeast 8 = .ok (.istore_n 1, 1) := by decide +kernel
theorem dX10_findLeast_9 : decode cX10_findLeast 9 = .ok (.iconst 0, 1) := by decide +kernel
theorem dX10_findLeast_10 : decode cX10_findLeast 10 = .ok (.istore_n 2, 1) := by decide +kernel
theorem dX10_findLeast_11 : decode cX10_findLeast 11 = .ok (.iload_n 2, 1) := by decide +kernel
theorem dX10_findLeast_12 : decode cX10_findLeast 12 = .ok (.iload_n 1, 1) := by decide +kernel
theorem dX10_findLeast_13 : decode cX10_findLeast 13 = .ok (.if_icmp .ge 42, 3) := by decide +kernel
theorem dX10_findLeast_16 : decode cX10_findLeast 16 = .ok (.aload_n 0, 1) := by decide +kernel
theorem dX10_findLeast_17 : decode cX10_findLeast 17 = .ok (.getfield 22, 3) := by decide +kernel
theorem dX10_findLeast_20 : decode cX10_findLeast 20 = .ok (.sipush 256, 3) := by decide +kernel
theorem dX10_findLeast_23 : decode cX10_findLeast 23 = .ok (.aload_n 0, 1) := by decide +kernel
theorem dX10_findLeast_24 : decode cX10_findLeast 24 = .ok (.getfield 7, 3) := by decide +kernel
theorem dX10_findLeast_27 : decode cX10_findLeast 27 = .ok (.iconst 0, 1) := by decide +kernel
theorem dX10_findLeast_28 : decode cX10_findLeast 28 = .ok (.iaload, 1) := by decide +kernel
theorem dX10_findLeast_29 : decode cX10_findLeast 29 = .ok (.imul, 1) := by decide +kernel
theorem dX10_findLeast_30 : decode cX10_findLeast 30 = .ok (.iload_n 2, 1) := by decide +kernel
theorem dX10_findLeast_31 : decode cX10_findLeast 31 = .ok (.iadd, 1) := by decide +kernel
theorem dX10_findLeast_32 : decode cX10_findLeast 32 = .ok (.aload_n 0, 1) := by decide +kernel
theorem dX10_findLeast_33 : decode cX10_findLeast 33 = .ok (.getfield 74, 3) := by decide +kernel
theorem dX10_findLeast_36 : decode cX10_findLeast 36 = .ok (.aload_n 0, 1) := by decide +kernel
theorem dX10_findLeast_37 : decode cX10_findLeast 37 = .ok (.getfield 7, 3) := by decide +kernel
theorem dX10_findLeast_40 : decode cX10_findLeast 40 = .ok (.iconst 1, 1) := by decide +kernel
theorem dX10_findLeast_41 : decode cX10_findLeast 41 = .ok (.iaload, 1) := by decide +kernel
theorem dX10_findLeast_42 : decode cX10_findLeast 42 = .ok (.iload_n 2, 1) := by decide +kernel
theorem dX10_findLeast_43 : decode cX10_findLeast 43 = .ok (.invokestatic 112, 3) := by decide +kernel
theorem dX10_findLeast_46 : decode cX10_findLeast 46 = .ok (.isub, 1) := by decide +kernel
theorem dX10_findLeast_47 : decode cX10_findLeast 47 = .ok (.imul, 1) := by decide +kernel
theorem dX10_findLeast_48 : decode cX10_findLeast 48 = .ok (.iastore, 1) := by decide +kernel
theorem dX10_findLeast_49 : decode cX10_findLeast 49 = .ok (.iinc 2 1, 3) := by decide +kernel
theorem dX10_findLeast_52 : decode cX10_findLeast 52 = .ok (.goto (-41), 3) := by decide +kernel
theorem dX10_findLeast_55 : decode cX10_findLeast 55 = .ok (.aload_n 0, 1) := by decide +kernel
theorem dX10_findLeast_56 : decode cX10_findLeast 56 = .ok (.getfield 7, 3) := by decide +kernel
theorem dX10_findLeast_59 : decode cX10_findLeast 59 = .ok (.iconst 0, 1) := by decide +kernel
theorem dX10_findLeast_60 : decode cX10_findLeast 60 = .ok (.iaload, 1) := by decide +kernel
theorem dX10_findLeast_61 : decode cX10_findLeast 61 = .ok (.iconst 1, 1) := by decide +kernel
theorem dX10_findLeast_62 : decode cX10_findLeast 62 = .ok (.isub, 1) := by decide +kernel
theorem dX10_findLeast_63 : decode cX10_findLeast 63 = .ok (.istore_n 2, 1) := by decide +kernel
theorem dX10_findLeast_64 : decode cX10_findLeast 64 = .ok (.iload_n 2, 1) := by decide +kernel
theorem dX10_findLeast_65 : decode cX10_findLeast 65 = .ok (.ifCond .lt 150, 3) := by decide +kernel
theorem dX10_findLeast_68 : decode cX10_findLeast 68 = .ok (.iconst 0, 1) := by decide +kernel
theorem dX10_findLeast_69 : decode cX10_findLeast 69 = .ok (.istore_n 3, 1) := by decide +kernel
theorem dX10_findLeast_70 : decode cX10_findLeast 70 = .ok (.iload_n 3, 1) := by decide +kernel
theorem dX10_findLeast_71 : decode cX10_findLeast 71 = .ok (.iload_n 1, 1) := by decide +kernel
theorem dX10_findLeast_72 : decode cX10_findLeast 72 = .ok (.if_icmp .ge 137, 3) := by decide +kernel
theorem dX10_findLeast_75 : decode cX10_findLeast 75 = .ok (.aload_n 0, 1) := by decide +kernel
theorem dX10_findLeast_76 : decode cX10_findLeast 76 = .ok (.getfield 74, 3) := by decide +kernel
theorem dX10_findLeast_79 : decode cX10_findLeast 79 = .ok (.aload_n 0, 1) := by decide +kernel
theorem dX10_findLeast_80 : decode cX10_findLeast 80 = .ok (.getfield 22, 3) := by decide +kernel
theorem dX10_findLeast_83 : decode cX10_findLeast 83 = .ok (.sipush 256, 3) := by decide +kernel
theorem dX10_findLeast_86 : decode cX10_findLeast 86 = .ok (.iload_n 2, 1) := by decide +kernel
theorem dX10_findLeast_87 : decode cX10_findLeast 87 = .ok (.iconst 1, 1) := by decide +kernel
theorem dX10_findLeast_88 : decode cX10_findLeast 88 = .ok (.iadd, 1) := by decide +kernel
theorem dX10_findLeast_89 : decode cX10_findLeast 89 = .ok (.imul, 1) := by decide +kernel
theorem dX10_findLeast_90 : decode cX10_findLeast 90 = .ok (.iload_n 3, 1) := by decide +kernel
theorem dX10_findLeast_91 : decode cX10_findLeast 91 = .ok (.iadd, 1) := by decide +kernel
theorem dX10_findLeast_92 : decode cX10_findLeast 92 = .ok (.iaload, 1) := by decide +kernel
theorem dX10_findLeast_93 : decode cX10_findLeast 93 = .ok (.iadd, 1) := by decide +kernel
theorem dX10_findLeast_94 : decode cX10_findLeast 94 = .ok (.istore 4, 2) := by decide +kernel
theorem dX10_findLeast_96 : decode cX10_findLeast 96 = .ok (.iconst 0, 1) := by decide +kernel
theorem dX10_findLeast_97 : decode cX10_findLeast 97 = .ok (.istore 5, 2) := by decide +kernel
theorem dX10_findLeast_99 : decode cX10_findLeast 99 = .ok (.iload 5, 2) := by decide +kernel
theorem dX10_findLeast_101 : decode cX10_findLeast 101 = .ok (.aload_n 0, 1) := by decide +kernel
theorem dX10_findLeast_102 : decode cX10_findLeast 102 = .ok (.getfield 7, 3) := by decide +kernel
theorem dX10_findLeast_105 : decode cX10_findLeast 105 = .ok (.iconst 1, 1) := by decide +kernel
theorem dX10_findLeast_106 : decode cX10_findLeast 106 = .ok (.iaload, 1) := by decide +kernel
theorem dX10_findLeast_107 : decode cX10_findLeast 107 = .ok (.if_icmp .ge 82, 3) := by decide +kernel
theorem dX10_findLeast_110 : decode cX10_findLeast 110 = .ok (.iload_n 3, 1) := by decide +kernel
theorem dX10_findLeast_111 : decode cX10_findLeast 111 = .ok (.iload 5, 2) := by decide +kernel
theorem dX10_findLeast_113 : decode cX10_findLeast 113 = .ok (.ishr, 1) := by decide +kernel
theorem dX10_findLeast_114 : decode cX10_findLeast 114 = .ok (.iconst 1, 1) := by decide +kernel
theorem dX10_findLeast_115 : decode cX10_findLeast 115 = .ok (.iand, 1) := by decide +kernel
theorem dX10_findLeast_116 : decode cX10_findLeast 116 = .ok (.ifCond .ne 13, 3) := by decide +kernel
theorem dX10_findLeast_119 : decode cX10_findLeast 119 = .ok (.aload_n 0, 1) := by decide +kernel
theorem dX10_findLeast_120 : decode cX10_findLeast 120 = .ok (.iload_n 2, 1) := by decide +kernel
theorem dX10_findLeast_121 : decode cX10_findLeast 121 = .ok (.iload 5, 2) := by decide +kernel
theorem dX10_findLeast_123 : decode cX10_findLeast 123 = .ok (.invokevirtual 108, 3) := by decide +kernel
theorem dX10_findLeast_126 : decode cX10_findLeast 126 = .ok (.goto 4, 3) := by decide +kernel
theorem dX10_findLeast_129 : decode cX10_findLeast 129 = .ok (.iconst (-1), 1) := by decide +kernel
theorem dX10_findLeast_130 : decode cX10_findLeast 130 = .ok (.istore 6, 2) := by decide +kernel
theorem dX10_findLeast_132 : decode cX10_findLeast 132 = .ok (.iload 6, 2) := by decide +kernel
theorem dX10_findLeast_134 : decode cX10_findLeast 134 = .ok (.iconst (-1), 1) := by decide +kernel
theorem dX10_findLeast_135 : decode cX10_findLeast 135 = .ok (.if_icmp .ne 8, 3) := by decide +kernel
theorem dX10_findLeast_138 : decode cX10_findLeast 138 = .ok (.iload 4, 2) := by decide +kernel
theorem dX10_findLeast_140 : decode cX10_findLeast 140 = .ok (.goto 25, 3) := by decide +kernel
theorem dX10_findLeast_143 : decode cX10_findLeast 143 = .ok (.iload 6, 2) := by decide +kernel
theorem dX10_findLeast_145 : decode cX10_findLeast 145 = .ok (.aload_n 0, 1) := by decide +kernel
theorem dX10_findLeast_146 : decode cX10_findLeast 146 = .ok (.getfield 22, 3) := by decide +kernel
theorem dX10_findLeast_149 : decode cX10_findLeast 149 = .ok (.sipush 256, 3) := by decide +kernel
theorem dX10_findLeast_152 : decode cX10_findLeast 152 = .ok (.iload_n 2, 1) := by decide +kernel
theorem dX10_findLeast_153 : decode cX10_findLeast 153 = .ok (.iconst 1, 1) := by decide +kernel
theorem dX10_findLeast_154 : decode cX10_findLeast 154 = .ok (.iadd, 1) := by decide +kernel
theorem dX10_findLeast_155 : decode cX10_findLeast 155 = .ok (.imul, 1) := by decide +kernel
theorem dX10_findLeast_156 : decode cX10_findLeast 156 = .ok (.iload_n 3, 1) := by decide +kernel
theorem dX10_findLeast_157 : decode cX10_findLeast 157 = .ok (.iconst 1, 1) := by decide +kernel
theorem dX10_findLeast_158 : decode cX10_findLeast 158 = .ok (.iload 5, 2) := by decide +kernel
theorem dX10_findLeast_160 : decode cX10_findLeast 160 = .ok (.ishl, 1) := by decide +kernel
theorem dX10_findLeast_161 : decode cX10_findLeast 161 = .ok (.ior, 1) := by decide +kernel
theorem dX10_findLeast_162 : decode cX10_findLeast 162 = .ok (.iadd, 1) := by decide +kernel
theorem dX10_findLeast_163 : decode cX10_findLeast 163 = .ok (.iaload, 1) := by decide +kernel
theorem dX10_findLeast_164 : decode cX10_findLeast 164 = .ok (.iadd, 1) := by decide +kernel
theorem dX10_findLeast_165 : decode cX10_findLeast 165 = .ok (.istore 7, 2) := by decide +kernel
theorem dX10_findLeast_167 : decode cX10_findLeast 167 = .ok (.iload 7, 2) := by decide +kernel
theorem dX10_findLeast_169 : decode cX10_findLeast 169 = .ok (.iload 4, 2) := by decide +kernel
theorem dX10_findLeast_171 : decode cX10_findLeast 171 = .ok (.if_icmp .ge 8, 3) := by decide +kernel
theorem dX10_findLeast_174 : decode cX10_findLeast 174 = .ok (.iload 7, 2) := by decide +kernel
theorem dX10_findLeast_176 : decode cX10_findLeast 176 = .ok (.goto 5, 3) := by decide +kernel
theorem dX10_findLeast_179 : decode cX10_findLeast 179 = .ok (.iload 4, 2) := by decide +kernel
theorem dX10_findLeast_181 : decode cX10_findLeast 181 = .ok (.istore 4, 2) := by decide +kernel
theorem dX10_findLeast_183 : decode cX10_findLeast 183 = .ok (.iinc 5 1, 3) := by decide +kernel
theorem dX10_findLeast_186 : decode cX10_findLeast 186 = .ok (.goto (-87), 3) := by decide +kernel
theorem dX10_findLeast_189 : decode cX10_findLeast 189 = .ok (.aload_n 0, 1) := by decide +kernel
theorem dX10_findLeast_190 : decode cX10_findLeast 190 = .ok (.getfield 22, 3) := by decide +kernel
theorem dX10_findLeast_193 : decode cX10_findLeast 193 = .ok (.sipush 256, 3) := by decide +kernel
theorem dX10_findLeast_196 : decode cX10_findLeast 196 = .ok (.iload_n 2, 1) := by decide +kernel
theorem dX10_findLeast_197 : decode cX10_findLeast 197 = .ok (.imul, 1) := by decide +kernel
theorem dX10_findLeast_198 : decode cX10_findLeast 198 = .ok (.iload_n 3, 1) := by decide +kernel
theorem dX10_findLeast_199 : decode cX10_findLeast 199 = .ok (.iadd, 1) := by decide +kernel
theorem dX10_findLeast_200 : decode cX10_findLeast 200 = .ok (.iload 4, 2) := by decide +kernel
theorem dX10_findLeast_202 : decode cX10_findLeast 202 = .ok (.iastore, 1) := by decide +kernel
theorem dX10_findLeast_203 : decode cX10_findLeast 203 = .ok (.iinc 3 1, 3) := by decide +kernel
theorem dX10_findLeast_206 : decode cX10_findLeast 206 = .ok (.goto (-136), 3) := by decide +kernel
theorem dX10_findLeast_209 : decode cX10_findLeast 209 = .ok (.iinc 2 (-1), 3) := by decide +kernel
theorem dX10_findLeast_212 : decode cX10_findLeast 212 = .ok (.goto (-148), 3) := by decide +kernel
theorem dX10_findLeast_215 : decode cX10_findLeast 215 = .ok (.return_, 1) := by decide +kernel
set_option maxRecDepth 100000 in
def fX10_findLeast_L1 (v2 : Int32) (t_alone : Int32) (t_edges_a : Nat → Int32) : (Int32 × (Nat → Int32)) → Option (((Nat → Int32)) ⊕ (Int32 × (Nat → Int32))) := un2 fun (u3 : Int32) (u4 : Nat → Int32) =>
  if v2 ≤ u3 then
    some (.inl u4)
  else
    gd (bnd 0 2) <|
    gd (bnd 1 2) <|
    ob (fX10_sizeOf u3) fun r8 =>
    bv (t_alone * ((t_edges_a (Int32.toNatClampNeg 1)) - r8)) fun v10 =>
    gd (bnd ((256 * (t_edges_a (Int32.toNatClampNeg 0))) + u3) 2304) <|
    bv (upd u4 (Int32.toNatClampNeg ((256 * (t_edges_a (Int32.toNatClampNeg 0))) + u3)) v10) fun a12 =>
    bv (u3 + 1) fun v13 =>
    some (.inr (v13, a12))
set_option maxRecDepth 100000 in
def fX10_findLeast_L4 (t_edges_a : Nat → Int32) (u20 : Int32) (u17 : Int32) (t_baseWay : Int32) (t_low : Int32) (t_high : Int32) (t_unlike : Int32) (t_layers : Int32) (t_lean_a : Nat → Int32) (t_word_a : Nat → Int32) (t_layer_a : Nat → Int32) (u21 : Nat → Int32) : (Int32 × Int32) → Option ((Int32) ⊕ (Int32 × Int32)) := un2 fun (u25 : Int32) (u26 : Int32) =>
  gd (bnd 1 2) <|
  if (t_edges_a (Int32.toNatClampNeg 1)) ≤ u26 then
    some (.inl u25)
  else
    ob (α := Int32) (
        if ((u20 >>> (u26 &&& 31)) &&& 1) = 0 then
          ob (fX10_costOf u17 u26 t_baseWay t_low t_high t_unlike t_layers t_lean_a t_word_a t_layer_a) fun r33 =>
          some r33
        else
          some (-1)
      ) fun m29 =>
    ob (α := Int32) (
        if m29 = (-1) then
          some u25
        else
          gd (bnd ((256 * (u17 + 1)) + (u20 ||| ((1 : Int32) <<< (u26 &&& 31)))) 2304) <|
          some (m29 + (u21 (Int32.toNatClampNeg ((256 * (u17 + 1)) + (u20 ||| ((1 : Int32) <<< (u26 &&& 31)))))))
      ) fun m35 =>
    ob (α := Int32) (
        if u25 ≤ m35 then
          some u25
        else
          some m35
      ) fun m40 =>
    bv (u26 + 1) fun v44 =>
    some (.inr (m40, v44))
set_option maxRecDepth 100000 in
def fX10_findLeast_L3 (v2 : Int32) (u17 : Int32) (t_alone : Int32) (t_edges_a : Nat → Int32) (t_baseWay : Int32) (t_low : Int32) (t_high : Int32) (t_unlike : Int32) (t_layers : Int32) (t_lean_a : Nat → Int32) (t_word_a : Nat → Int32) (t_layer_a : Nat → Int32) : (Int32 × (Nat → Int32)) → Option (((Nat → Int32)) ⊕ (Int32 × (Nat → Int32))) := un2 fun (u20 : Int32) (u21 : Nat → Int32) =>
  if v2 ≤ u20 then
    some (.inl u21)
  else
    gd (bnd ((256 * (u17 + 1)) + u20) 2304) <|
    bv (t_alone + (u21 (Int32.toNatClampNeg ((256 * (u17 + 1)) + u20)))) fun v24 =>
    ob (it (fX10_findLeast_L4 t_edges_a u20 u17 t_baseWay t_low t_high t_unlike t_layers t_lean_a t_word_a t_layer_a u21) 100000 (v24, 0)) fun x45 =>
    gd (bnd ((256 * u17) + u20) 2304) <|
    bv (upd u21 (Int32.toNatClampNeg ((256 * u17) + u20)) x45) fun a47 =>
    bv (u20 + 1) fun v48 =>
    some (.inr (v48, a47))
set_option maxRecDepth 100000 in
def fX10_findLeast_L2 (v2 : Int32) (t_alone : Int32) (t_edges_a : Nat → Int32) (t_baseWay : Int32) (t_low : Int32) (t_high : Int32) (t_unlike : Int32) (t_layers : Int32) (t_lean_a : Nat → Int32) (t_word_a : Nat → Int32) (t_layer_a : Nat → Int32) : (Int32 × (Nat → Int32)) → Option (((Nat → Int32)) ⊕ (Int32 × (Nat → Int32))) := un2 fun (u17 : Int32) (u18 : Nat → Int32) =>
  if u17 < 0 then
    some (.inl u18)
  else
    ob (it (fX10_findLeast_L3 v2 u17 t_alone t_edges_a t_baseWay t_low t_high t_unlike t_layers t_lean_a t_word_a t_layer_a) 100000 (0, u18)) fun x49 =>
    bv (u17 + (-1)) fun v50 =>
    some (.inr (v50, x49))
set_option maxRecDepth 100000 in
def fX10_findLeast (t_baseWay : Int32) (t_low : Int32) (t_high : Int32) (t_unlike : Int32) (t_alone : Int32) (t_layers : Int32) (t_edges_a : Nat → Int32) (t_lean_a : Nat → Int32) (t_word_a : Nat → Int32) (t_layer_a : Nat → Int32) (t_least_a : Nat → Int32) : Option ((Nat → Int32)) :=
  gd (bnd 1 2) <|
  bv ((1 : Int32) <<< ((t_edges_a (Int32.toNatClampNeg 1)) &&& 31)) fun v2 =>
  ob (it (fX10_findLeast_L1 v2 t_alone t_edges_a) 100000 (0, t_least_a)) fun x14 =>
  gd (bnd 0 2) <|
  bv ((t_edges_a (Int32.toNatClampNeg 0)) - 1) fun v16 =>
  ob (it (fX10_findLeast_L2 v2 t_alone t_edges_a t_baseWay t_low t_high t_unlike t_layers t_lean_a t_word_a t_layer_a) 100000 (v16, x14)) fun x51 =>
  some x51
abbrev rmX10_findLeast : Room := { frames := 1, cells := 0, slots := 0, locals := 31 }
theorem iwX10_findLeast_X10 : ∀ w ∈ u_ws RX10 TX10 36, w ∈ wsX10_findLeast := by decide +kernel
set_option maxHeartbeats 4000000 in
set_option maxRecDepth 100000 in
theorem k_X10_findLeast (l : Launch) (G : va_G) (cI cJ : ClassId) (t_h t_edges_h t_lean_h t_word_h t_layer_h t_least_h t_sight_h t_shadow_h t_spanLow_h t_spanHigh_h t_spanAt_h t_numbers_h t_pair_h t_most_h t_row_h t_under_h t_agreed_h : Nat) (sz : Nat) (t_baseWay : Int32) (t_slip : Int32) (t_low : Int32) (t_high : Int32) (t_unlike : Int32) (t_alone : Int32) (t_above : Int64) (t_below : Int64) (t_layers : Int32) (t_sights : Int32) (t_shadows : Int32) (t_endAbove : Int64) (t_endBelow : Int64) (t_speedAbove : Int64) (t_speedBelow : Int64) (t_spans : Int32) (t_found : Int32) (t_pairs : Int32) (t_rows : Int32) (t_notes : Int32) (t_edges_a : Nat → Int32) (t_lean_a : Nat → Int32) (t_word_a : Nat → Int32) (t_layer_a : Nat → Int32) (t_least_a : Nat → Int32) {o_t_least_a : Nat → Int32} (hf : fX10_findLeast t_baseWay t_low t_high t_unlike t_alone t_layers t_edges_a t_lean_a t_word_a t_layer_a t_least_a = some o_t_least_a) : MetU l yX10_findLeast wsX10_findLeast rmX10_findLeast [.ref t_h] G cI cJ [(t_h, .inr (10, [.int t_baseWay, .int t_slip, .int t_low, .int t_high, .int t_unlike, .int t_alone, .long t_above, .long t_below, .ref t_edges_h, .ref t_lean_h, .ref t_word_h, .int t_layers, .ref t_layer_h, .ref t_least_h, .int t_sights, .ref t_sight_h, .int t_shadows, .ref t_shadow_h, .long t_endAbove, .long t_endBelow, .long t_speedAbove, .long t_speedBelow, .int t_spans, .ref t_spanLow_h, .ref t_spanHigh_h, .ref t_spanAt_h, .int t_found, .ref t_numbers_h, .int t_pairs, .ref t_pair_h, .ref t_most_h, .int t_rows, .ref t_row_h, .int t_notes, .ref t_under_h, .ref t_agreed_h])), (t_edges_h, .inl (cI, 2, .inl t_edges_a)), (t_lean_h, .inl (cI, 16, .inl t_lean_a)), (t_word_h, .inl (cI, 16, .inl t_word_a)), (t_layer_h, .inl (cI, 6, .inl t_layer_a)), (t_least_h, .inl (cI, 2304, .inl t_least_a))] [(t_h, .inr (10, [.int t_baseWay, .int t_slip, .int t_low, .int t_high, .int t_unlike, .int t_alone, .long t_above, .long t_below, .ref t_edges_h, .ref t_lean_h, .ref t_word_h, .int t_layers, .ref t_layer_h, .ref t_least_h, .int t_sights, .ref t_sight_h, .int t_shadows, .ref t_shadow_h, .long t_endAbove, .long t_endBelow, .long t_speedAbove, .long t_speedBelow, .int t_spans, .ref t_spanLow_h, .ref t_spanHigh_h, .ref t_spanAt_h, .int t_found, .ref t_numbers_h, .int t_pairs, .ref t_pair_h, .ref t_most_h, .int t_rows, .ref t_row_h, .int t_notes, .ref t_under_h, .ref t_agreed_h])), (t_edges_h, .inl (cI, 2, .inl t_edges_a)), (t_lean_h, .inl (cI, 16, .inl t_lean_a)), (t_word_h, .inl (cI, 16, .inl t_word_a)), (t_layer_h, .inl (cI, 6, .inl t_layer_a)), (t_least_h, .inl (cI, 2304, .inl o_t_least_a))] sz := by
  refine en_0 (l := l) (y := yX10_findLeast) (wsl := wsX10_findLeast) (rm := rmX10_findLeast) (av := [.ref t_h]) (G := G) (cI := cI) (cJ := cJ) (w0 := [(t_h, .inr (10, [.int t_baseWay, .int t_slip, .int t_low, .int t_high, .int t_unlike, .int t_alone, .long t_above, .long t_below, .ref t_edges_h, .ref t_lean_h, .ref t_word_h, .int t_layers, .ref t_layer_h, .ref t_least_h, .int t_sights, .ref t_sight_h, .int t_shadows, .ref t_shadow_h, .long t_endAbove, .long t_endBelow, .long t_speedAbove, .long t_speedBelow, .int t_spans, .ref t_spanLow_h, .ref t_spanHigh_h, .ref t_spanAt_h, .int t_found, .ref t_numbers_h, .int t_pairs, .ref t_pair_h, .ref t_most_h, .int t_rows, .ref t_row_h, .int t_notes, .ref t_under_h, .ref t_agreed_h])), (t_edges_h, .inl (cI, 2, .inl t_edges_a)), (t_lean_h, .inl (cI, 16, .inl t_lean_a)), (t_word_h, .inl (cI, 16, .inl t_word_a)), (t_layer_h, .inl (cI, 6, .inl t_layer_a)), (t_least_h, .inl (cI, 2304, .inl t_least_a))]) (sz := sz) (Qf := fun A => Qv0 G cI cJ [(t_h, .inr (10, [.int t_baseWay, .int t_slip, .int t_low, .int t_high, .int t_unlike, .int t_alone, .long t_above, .long t_below, .ref t_edges_h, .ref t_lean_h, .ref t_word_h, .int t_layers, .ref t_layer_h, .ref t_least_h, .int t_sights, .ref t_sight_h, .int t_shadows, .ref t_shadow_h, .long t_endAbove, .long t_endBelow, .long t_speedAbove, .long t_speedBelow, .int t_spans, .ref t_spanLow_h, .ref t_spanHigh_h, .ref t_spanAt_h, .int t_found, .ref t_numbers_h, .int t_pairs, .ref t_pair_h, .ref t_most_h, .int t_rows, .ref t_row_h, .int t_notes, .ref t_under_h, .ref t_agreed_h])), (t_edges_h, .inl (cI, 2, .inl t_edges_a)), (t_lean_h, .inl (cI, 16, .inl t_lean_a)), (t_word_h, .inl (cI, 16, .inl t_word_a)), (t_layer_h, .inl (cI, 6, .inl t_layer_a)), (t_least_h, .inl (cI, 2304, .inl o_t_least_a))] A) (cc := cX10_findLeast) (maxL := 8) (ret := none) RX10 (by decide +kernel) rfl rfl (Nat.le_of_ble_eq_true rfl) ?_
  intro p e s m args below meth c A ls Q hQ hx hb hr hts hown hlocks hml hN hK hP hD hS hA hl
  have hl : lv_has ls 8 [(0, .ref t_h)] := hl
  have iwX10 := iwX10_findLeast_X10
  have fl_7 := hts (.fieldLink RX10 7 "CloudOfficeModel" "edges" "[I") (by decide +kernel)
  have fl_22 := hts (.fieldLink RX10 22 "CloudOfficeModel" "least" "[I") (by decide +kernel)
  have fl_74 := hts (.fieldLink RX10 74 "CloudOfficeModel" "alone" "I") (by decide +kernel)
  have hret : ∀ (o_t_least_a9 : Nat → Int32) (pc : Nat) (H : Heap) (locs : List Loc) (ls : Array Slot), decode cX10_findLeast pc = .ok (.return_, 1) → some o_t_least_a9 = some o_t_least_a → va_P G vwCl [(t_h, .inr (10, [.int t_baseWay, .int t_slip, .int t_low, .int t_high, .int t_unlike, .int t_alone, .long t_above, .long t_below, .ref t_edges_h, .ref t_lean_h, .ref t_word_h, .int t_layers, .ref t_layer_h, .ref t_least_h, .int t_sights, .ref t_sight_h, .int t_shadows, .ref t_shadow_h, .long t_endAbove, .long t_endBelow, .long t_speedAbove, .long t_speedBelow, .int t_spans, .ref t_spanLow_h, .ref t_spanHigh_h, .ref t_spanAt_h, .int t_found, .ref t_numbers_h, .int t_pairs, .ref t_pair_h, .ref t_most_h, .int t_rows, .ref t_row_h, .int t_notes, .ref t_under_h, .ref t_agreed_h])), (t_edges_h, .inl (cI, 2, .inl t_edges_a)), (t_lean_h, .inl (cI, 16, .inl t_lean_a)), (t_word_h, .inl (cI, 16, .inl t_word_a)), (t_layer_h, .inl (cI, 6, .inl t_layer_a)), (t_least_h, .inl (cI, 2304, .inl o_t_least_a9))] H → va_D A [(t_h, .inr (10, [.int t_baseWay, .int t_slip, .int t_low, .int t_high, .int t_unlike, .int t_alone, .long t_above, .long t_below, .ref t_edges_h, .ref t_lean_h, .ref t_word_h, .int t_layers, .ref t_layer_h, .ref t_least_h, .int t_sights, .ref t_sight_h, .int t_shadows, .ref t_shadow_h, .long t_endAbove, .long t_endBelow, .long t_speedAbove, .long t_speedBelow, .int t_spans, .ref t_spanLow_h, .ref t_spanHigh_h, .ref t_spanAt_h, .int t_found, .ref t_numbers_h, .int t_pairs, .ref t_pair_h, .ref t_most_h, .int t_rows, .ref t_row_h, .int t_notes, .ref t_under_h, .ref t_agreed_h])), (t_edges_h, .inl (cI, 2, .inl t_edges_a)), (t_lean_h, .inl (cI, 16, .inl t_lean_a)), (t_word_h, .inl (cI, 16, .inl t_word_a)), (t_layer_h, .inl (cI, 6, .inl t_layer_a)), (t_least_h, .inl (cI, 2304, .inl o_t_least_a9))] → va_S A s.heap H locs → W p l e rmX10_findLeast s m args below meth c H locs 0 0 Q (F0 m pc ls []) := by
    intro o_t_least_a9 pc H locs ls hdg he hP hD hS
    cases he
    subst hQ
    exact rt_v hx hb hr hlocks hK hP hD hS hdg
  clear hQ
  unfold fX10_findLeast at hf
  refine lv_iconst (v := 1) hx hb dX10_findLeast_0 (by decide) ?_
  refine lv_aload_n hx hb dX10_findLeast_1 rfl (lv_at hl 0 rfl) ?_
  refine va_get (D := G) (ci := 10) (v := .ref t_edges_h) (C := RX10) (T := TX10) (N := 36) hx hb hts iwX10 hown hK hP 0 rfl rfl 8 (by decide) fl_7 (fun _ h9 => h9) rfl dX10_findLeast_2 ?_
  refine lv_iconst (v := 1) hx hb dX10_findLeast_5 (by decide) ?_
  obtain ⟨h1, hf⟩ := gd_some hf
  refine va_iald hx hb hK hP 1 0 rfl rfl (bnd_in h1) dX10_findLeast_6 ?_
  refine lv_ishl hx hb dX10_findLeast_7 ?_
  refine lv_topi (fun v2 ev2 => ?_)
  have hf := bv_at ev2 hf
  refine lv_istore_n (lv' := [(1, .int v2), (0, .ref t_h)]) hx hb dX10_findLeast_8 rfl hl (by decide) rfl (fun ls hl => ?_)
  refine lv_iconst (v := 0) hx hb dX10_findLeast_9 (by decide) ?_
  refine lv_istore_n (lv' := [(2, .int 0), (1, .int v2), (0, .ref t_h)]) hx hb dX10_findLeast_10 rfl hl (by decide) rfl (fun ls hl => ?_)
  obtain ⟨x14, ht1, hf⟩ := ob_some hf
  have hx1_0 : ∀ (x149 : Nat → Int32), x149 = x14 → ∀ (H : Heap) (locs : List Loc) (ls : Array Slot), va_P G vwCl [(t_h, .inr (10, [.int t_baseWay, .int t_slip, .int t_low, .int t_high, .int t_unlike, .int t_alone, .long t_above, .long t_below, .ref t_edges_h, .ref t_lean_h, .ref t_word_h, .int t_layers, .ref t_layer_h, .ref t_least_h, .int t_sights, .ref t_sight_h, .int t_shadows, .ref t_shadow_h, .long t_endAbove, .long t_endBelow, .long t_speedAbove, .long t_speedBelow, .int t_spans, .ref t_spanLow_h, .ref t_spanHigh_h, .ref t_spanAt_h, .int t_found, .ref t_numbers_h, .int t_pairs, .ref t_pair_h, .ref t_most_h, .int t_rows, .ref t_row_h, .int t_notes, .ref t_under_h, .ref t_agreed_h])), (t_edges_h, .inl (cI, 2, .inl t_edges_a)), (t_lean_h, .inl (cI, 16, .inl t_lean_a)), (t_word_h, .inl (cI, 16, .inl t_word_a)), (t_layer_h, .inl (cI, 6, .inl t_layer_a)), (t_least_h, .inl (cI, 2304, .inl x149))] H → va_D A [(t_h, .inr (10, [.int t_baseWay, .int t_slip, .int t_low, .int t_high, .int t_unlike, .int t_alone, .long t_above, .long t_below, .ref t_edges_h, .ref t_lean_h, .ref t_word_h, .int t_layers, .ref t_layer_h, .ref t_least_h, .int t_sights, .ref t_sight_h, .int t_shadows, .ref t_shadow_h, .long t_endAbove, .long t_endBelow, .long t_speedAbove, .long t_speedBelow, .int t_spans, .ref t_spanLow_h, .ref t_spanHigh_h, .ref t_spanAt_h, .int t_found, .ref t_numbers_h, .int t_pairs, .ref t_pair_h, .ref t_most_h, .int t_rows, .ref t_row_h, .int t_notes, .ref t_under_h, .ref t_agreed_h])), (t_edges_h, .inl (cI, 2, .inl t_edges_a)), (t_lean_h, .inl (cI, 16, .inl t_lean_a)), (t_word_h, .inl (cI, 16, .inl t_word_a)), (t_layer_h, .inl (cI, 6, .inl t_layer_a)), (t_least_h, .inl (cI, 2304, .inl x149))] → va_S A s.heap H locs → lv_has ls 8 [(0, .ref t_h), (1, .int v2)] → W p l e rmX10_findLeast s m args below meth c H locs 0 0 Q (F0 m 55 ls []) := by
    intro x149 he H locs ls hP hD hS hl
    cases he
    refine lv_aload_n hx hb dX10_findLeast_55 rfl (lv_at hl 0 rfl) ?_
    refine va_get (D := G) (ci := 10) (v := .ref t_edges_h) (C := RX10) (T := TX10) (N := 36) hx hb hts iwX10 hown hK hP 0 rfl rfl 8 (by decide) fl_7 (fun _ h9 => h9) rfl dX10_findLeast_56 ?_
    refine lv_iconst (v := 0) hx hb dX10_findLeast_59 (by decide) ?_
    obtain ⟨h15, hf⟩ := gd_some hf
    refine va_iald hx hb hK hP 1 0 rfl rfl (bnd_in h15) dX10_findLeast_60 ?_
    refine lv_iconst (v := 1) hx hb dX10_findLeast_61 (by decide) ?_
    refine lv_isub hx hb dX10_findLeast_62 ?_
    refine lv_topi (fun v16 ev16 => ?_)
    have hf := bv_at ev16 hf
    refine lv_istore_n (lv' := [(2, .int v16), (0, .ref t_h), (1, .int v2)]) hx hb dX10_findLeast_63 rfl hl (by decide) rfl (fun ls hl => ?_)
    obtain ⟨x51, ht2, hf⟩ := ob_some hf
    have hx2_0 : ∀ (x519 : Nat → Int32), x519 = x51 → ∀ (H : Heap) (locs : List Loc) (ls : Array Slot), va_P G vwCl [(t_h, .inr (10, [.int t_baseWay, .int t_slip, .int t_low, .int t_high, .int t_unlike, .int t_alone, .long t_above, .long t_below, .ref t_edges_h, .ref t_lean_h, .ref t_word_h, .int t_layers, .ref t_layer_h, .ref t_least_h, .int t_sights, .ref t_sight_h, .int t_shadows, .ref t_shadow_h, .long t_endAbove, .long t_endBelow, .long t_speedAbove, .long t_speedBelow, .int t_spans, .ref t_spanLow_h, .ref t_spanHigh_h, .ref t_spanAt_h, .int t_found, .ref t_numbers_h, .int t_pairs, .ref t_pair_h, .ref t_most_h, .int t_rows, .ref t_row_h, .int t_notes, .ref t_under_h, .ref t_agreed_h])), (t_edges_h, .inl (cI, 2, .inl t_edges_a)), (t_lean_h, .inl (cI, 16, .inl t_lean_a)), (t_word_h, .inl (cI, 16, .inl t_word_a)), (t_layer_h, .inl (cI, 6, .inl t_layer_a)), (t_least_h, .inl (cI, 2304, .inl x519))] H → va_D A [(t_h, .inr (10, [.int t_baseWay, .int t_slip, .int t_low, .int t_high, .int t_unlike, .int t_alone, .long t_above, .long t_below, .ref t_edges_h, .ref t_lean_h, .ref t_word_h, .int t_layers, .ref t_layer_h, .ref t_least_h, .int t_sights, .ref t_sight_h, .int t_shadows, .ref t_shadow_h, .long t_endAbove, .long t_endBelow, .long t_speedAbove, .long t_speedBelow, .int t_spans, .ref t_spanLow_h, .ref t_spanHigh_h, .ref t_spanAt_h, .int t_found, .ref t_numbers_h, .int t_pairs, .ref t_pair_h, .ref t_most_h, .int t_rows, .ref t_row_h, .int t_notes, .ref t_under_h, .ref t_agreed_h])), (t_edges_h, .inl (cI, 2, .inl t_edges_a)), (t_lean_h, .inl (cI, 16, .inl t_lean_a)), (t_word_h, .inl (cI, 16, .inl t_word_a)), (t_layer_h, .inl (cI, 6, .inl t_layer_a)), (t_least_h, .inl (cI, 2304, .inl x519))] → va_S A s.heap H locs → lv_has ls 8 [] → W p l e rmX10_findLeast s m args below meth c H locs 0 0 Q (F0 m 215 ls []) := by
      intro x519 he H locs ls hP hD hS hl
      cases he
      exact hret x51 215 _ _ _ dX10_findLeast_215 hf hP hD hS
    clear hf
    have hl2 : ∀ (n : Nat) (u17 : Int32) (u18 : Nat → Int32), it (fX10_findLeast_L2 v2 t_alone t_edges_a t_baseWay t_low t_high t_unlike t_layers t_lean_a t_word_a t_layer_a) n (u17, u18) = some x51 → ∀ (H : Heap) (locs : List Loc) (ls : Array Slot), va_P G vwCl [(t_h, .inr (10, [.int t_baseWay, .int t_slip, .int t_low, .int t_high, .int t_unlike, .int t_alone, .long t_above, .long t_below, .ref t_edges_h, .ref t_lean_h, .ref t_word_h, .int t_layers, .ref t_layer_h, .ref t_least_h, .int t_sights, .ref t_sight_h, .int t_shadows, .ref t_shadow_h, .long t_endAbove, .long t_endBelow, .long t_speedAbove, .long t_speedBelow, .int t_spans, .ref t_spanLow_h, .ref t_spanHigh_h, .ref t_spanAt_h, .int t_found, .ref t_numbers_h, .int t_pairs, .ref t_pair_h, .ref t_most_h, .int t_rows, .ref t_row_h, .int t_notes, .ref t_under_h, .ref t_agreed_h])), (t_edges_h, .inl (cI, 2, .inl t_edges_a)), (t_lean_h, .inl (cI, 16, .inl t_lean_a)), (t_word_h, .inl (cI, 16, .inl t_word_a)), (t_layer_h, .inl (cI, 6, .inl t_layer_a)), (t_least_h, .inl (cI, 2304, .inl u18))] H → va_D A [(t_h, .inr (10, [.int t_baseWay, .int t_slip, .int t_low, .int t_high, .int t_unlike, .int t_alone, .long t_above, .long t_below, .ref t_edges_h, .ref t_lean_h, .ref t_word_h, .int t_layers, .ref t_layer_h, .ref t_least_h, .int t_sights, .ref t_sight_h, .int t_shadows, .ref t_shadow_h, .long t_endAbove, .long t_endBelow, .long t_speedAbove, .long t_speedBelow, .int t_spans, .ref t_spanLow_h, .ref t_spanHigh_h, .ref t_spanAt_h, .int t_found, .ref t_numbers_h, .int t_pairs, .ref t_pair_h, .ref t_most_h, .int t_rows, .ref t_row_h, .int t_notes, .ref t_under_h, .ref t_agreed_h])), (t_edges_h, .inl (cI, 2, .inl t_edges_a)), (t_lean_h, .inl (cI, 16, .inl t_lean_a)), (t_word_h, .inl (cI, 16, .inl t_word_a)), (t_layer_h, .inl (cI, 6, .inl t_layer_a)), (t_least_h, .inl (cI, 2304, .inl u18))] → va_S A s.heap H locs → lv_has ls 8 [(0, .ref t_h), (1, .int v2), (2, .int u17)] → W p l e rmX10_findLeast s m args below meth c H locs 0 0 Q (F0 m 64 ls []) := by
      intro n
      induction n with
      | zero => intro u17 u18 hz; exact (it_zero hz).elim
      | succ n ih =>
        intro u17 u18 hz H locs ls hP hD hS hl
        obtain ⟨x9, hf, hq⟩ := it_succ hz
        unfold fX10_findLeast_L2 at hf
        dsimp only [un2] at hf
        refine lv_iload_n hx hb dX10_findLeast_64 rfl (lv_at hl 2 rfl) ?_
        refine lv_if_lt (tgt := 215) hx hb dX10_findLeast_65 (by decide) (fun c19 => ?_) (fun c19 => ?_)
        · have hf := ift hf c19
          cases hf
          exact hx2_0 _ hq _ _ _ hP hD hS (lv_sub hl [] rfl)
        · have hf := iff_ hf c19
          refine lv_iconst (v := 0) hx hb dX10_findLeast_68 (by decide) ?_
          refine lv_istore_n (lv' := [(3, .int 0), (0, .ref t_h), (1, .int v2), (2, .int u17)]) hx hb dX10_findLeast_69 rfl hl (by decide) rfl (fun ls hl => ?_)
          obtain ⟨x49, ht3, hf⟩ := ob_some hf
          have hx3_0 : ∀ (x499 : Nat → Int32), x499 = x49 → ∀ (H : Heap) (locs : List Loc) (ls : Array Slot), va_P G vwCl [(t_h, .inr (10, [.int t_baseWay, .int t_slip, .int t_low, .int t_high, .int t_unlike, .int t_alone, .long t_above, .long t_below, .ref t_edges_h, .ref t_lean_h, .ref t_word_h, .int t_layers, .ref t_layer_h, .ref t_least_h, .int t_sights, .ref t_sight_h, .int t_shadows, .ref t_shadow_h, .long t_endAbove, .long t_endBelow, .long t_speedAbove, .long t_speedBelow, .int t_spans, .ref t_spanLow_h, .ref t_spanHigh_h, .ref t_spanAt_h, .int t_found, .ref t_numbers_h, .int t_pairs, .ref t_pair_h, .ref t_most_h, .int t_rows, .ref t_row_h, .int t_notes, .ref t_under_h, .ref t_agreed_h])), (t_edges_h, .inl (cI, 2, .inl t_edges_a)), (t_lean_h, .inl (cI, 16, .inl t_lean_a)), (t_word_h, .inl (cI, 16, .inl t_word_a)), (t_layer_h, .inl (cI, 6, .inl t_layer_a)), (t_least_h, .inl (cI, 2304, .inl x499))] H → va_D A [(t_h, .inr (10, [.int t_baseWay, .int t_slip, .int t_low, .int t_high, .int t_unlike, .int t_alone, .long t_above, .long t_below, .ref t_edges_h, .ref t_lean_h, .ref t_word_h, .int t_layers, .ref t_layer_h, .ref t_least_h, .int t_sights, .ref t_sight_h, .int t_shadows, .ref t_shadow_h, .long t_endAbove, .long t_endBelow, .long t_speedAbove, .long t_speedBelow, .int t_spans, .ref t_spanLow_h, .ref t_spanHigh_h, .ref t_spanAt_h, .int t_found, .ref t_numbers_h, .int t_pairs, .ref t_pair_h, .ref t_most_h, .int t_rows, .ref t_row_h, .int t_notes, .ref t_under_h, .ref t_agreed_h])), (t_edges_h, .inl (cI, 2, .inl t_edges_a)), (t_lean_h, .inl (cI, 16, .inl t_lean_a)), (t_word_h, .inl (cI, 16, .inl t_word_a)), (t_layer_h, .inl (cI, 6, .inl t_layer_a)), (t_least_h, .inl (cI, 2304, .inl x499))] → va_S A s.heap H locs → lv_has ls 8 [(0, .ref t_h), (1, .int v2), (2, .int u17)] → W p l e rmX10_findLeast s m args below meth c H locs 0 0 Q (F0 m 209 ls []) := by
            intro x499 he H locs ls hP hD hS hl
            cases he
            obtain ⟨v50, ev50⟩ : ∃ y : Int32, y = u17 + (-1) := ⟨_, rfl⟩
            have hf := bv_at ev50 hf
            refine lv_iinc (v := v50) (lv' := [(2, .int v50), (0, .ref t_h), (1, .int v2)]) hx hb dX10_findLeast_209 hl (k := 2) rfl (by rw [ev50]; rfl) (by decide) rfl (fun ls hl => ?_)
            refine lv_goto (tgt := 64) hx hb dX10_findLeast_212 (by decide) ?_
            cases hf
            exact ih _ _ hq _ _ _ hP hD hS (lv_sub hl [1, 2, 0] rfl)
          clear hf
          have hl3 : ∀ (n : Nat) (u20 : Int32) (u21 : Nat → Int32), it (fX10_findLeast_L3 v2 u17 t_alone t_edges_a t_baseWay t_low t_high t_unlike t_layers t_lean_a t_word_a t_layer_a) n (u20, u21) = some x49 → ∀ (H : Heap) (locs : List Loc) (ls : Array Slot), va_P G vwCl [(t_h, .inr (10, [.int t_baseWay, .int t_slip, .int t_low, .int t_high, .int t_unlike, .int t_alone, .long t_above, .long t_below, .ref t_edges_h, .ref t_lean_h, .ref t_word_h, .int t_layers, .ref t_layer_h, .ref t_least_h, .int t_sights, .ref t_sight_h, .int t_shadows, .ref t_shadow_h, .long t_endAbove, .long t_endBelow, .long t_speedAbove, .long t_speedBelow, .int t_spans, .ref t_spanLow_h, .ref t_spanHigh_h, .ref t_spanAt_h, .int t_found, .ref t_numbers_h, .int t_pairs, .ref t_pair_h, .ref t_most_h, .int t_rows, .ref t_row_h, .int t_notes, .ref t_under_h, .ref t_agreed_h])), (t_edges_h, .inl (cI, 2, .inl t_edges_a)), (t_lean_h, .inl (cI, 16, .inl t_lean_a)), (t_word_h, .inl (cI, 16, .inl t_word_a)), (t_layer_h, .inl (cI, 6, .inl t_layer_a)), (t_least_h, .inl (cI, 2304, .inl u21))] H → va_D A [(t_h, .inr (10, [.int t_baseWay, .int t_slip, .int t_low, .int t_high, .int t_unlike, .int t_alone, .long t_above, .long t_below, .ref t_edges_h, .ref t_lean_h, .ref t_word_h, .int t_layers, .ref t_layer_h, .ref t_least_h, .int t_sights, .ref t_sight_h, .int t_shadows, .ref t_shadow_h, .long t_endAbove, .long t_endBelow, .long t_speedAbove, .long t_speedBelow, .int t_spans, .ref t_spanLow_h, .ref t_spanHigh_h, .ref t_spanAt_h, .int t_found, .ref t_numbers_h, .int t_pairs, .ref t_pair_h, .ref t_most_h, .int t_rows, .ref t_row_h, .int t_notes, .ref t_under_h, .ref t_agreed_h])), (t_edges_h, .inl (cI, 2, .inl t_edges_a)), (t_lean_h, .inl (cI, 16, .inl t_lean_a)), (t_word_h, .inl (cI, 16, .inl t_word_a)), (t_layer_h, .inl (cI, 6, .inl t_layer_a)), (t_least_h, .inl (cI, 2304, .inl u21))] → va_S A s.heap H locs → lv_has ls 8 [(0, .ref t_h), (1, .int v2), (2, .int u17), (3, .int u20)] → W p l e rmX10_findLeast s m args below meth c H locs 0 0 Q (F0 m 70 ls []) := by
            intro n
            induction n with
            | zero => intro u20 u21 hz; exact (it_zero hz).elim
            | succ n ih =>
              intro u20 u21 hz H locs ls hP hD hS hl
              obtain ⟨x9, hf, hq⟩ := it_succ hz
              unfold fX10_findLeast_L3 at hf
              dsimp only [un2] at hf
              refine lv_iload_n hx hb dX10_findLeast_70 rfl (lv_at hl 3 rfl) ?_
              refine lv_iload_n hx hb dX10_findLeast_71 rfl (lv_at hl 1 rfl) ?_
              refine lv_icmp_ge (tgt := 209) hx hb dX10_findLeast_72 (by decide) (fun c22 => ?_) (fun c22 => ?_)
              · have hf := ift hf c22
                cases hf
                exact hx3_0 _ hq _ _ _ hP hD hS (lv_sub hl [0, 1, 2] rfl)
              · have hf := iff_ hf c22
                refine lv_aload_n hx hb dX10_findLeast_75 rfl (lv_at hl 0 rfl) ?_
                refine va_get (D := G) (ci := 10) (v := .int t_alone) (C := RX10) (T := TX10) (N := 36) hx hb hts iwX10 hown hK hP 0 rfl rfl 5 (by decide) fl_74 (fun _ h9 => h9) rfl dX10_findLeast_76 ?_
                refine lv_aload_n hx hb dX10_findLeast_79 rfl (lv_at hl 0 rfl) ?_
                refine va_get (D := G) (ci := 10) (v := .ref t_least_h) (C := RX10) (T := TX10) (N := 36) hx hb hts iwX10 hown hK hP 0 rfl rfl 13 (by decide) fl_22 (fun _ h9 => h9) rfl dX10_findLeast_80 ?_
                refine lv_sipush (v := 256) hx hb dX10_findLeast_83 (by decide) ?_
                refine lv_iload_n hx hb dX10_findLeast_86 rfl (lv_at hl 2 rfl) ?_
                refine lv_iconst (v := 1) hx hb dX10_findLeast_87 (by decide) ?_
                refine lv_iadd hx hb dX10_findLeast_88 ?_
                refine lv_imul hx hb dX10_findLeast_89 ?_
                refine lv_iload_n hx hb dX10_findLeast_90 rfl (lv_at hl 3 rfl) ?_
                refine lv_iadd hx hb dX10_findLeast_91 ?_
                obtain ⟨h23, hf⟩ := gd_some hf
                refine va_iald hx hb hK hP 5 0 rfl rfl (bnd_in h23) dX10_findLeast_92 ?_
                refine lv_iadd hx hb dX10_findLeast_93 ?_
                refine lv_topi (fun v24 ev24 => ?_)
                have hf := bv_at ev24 hf
                refine lv_istore (lv' := [(4, .int v24), (0, .ref t_h), (1, .int v2), (2, .int u17), (3, .int u20)]) hx hb dX10_findLeast_94 hl (by decide) rfl (fun ls hl => ?_)
                refine lv_iconst (v := 0) hx hb dX10_findLeast_96 (by decide) ?_
                refine lv_istore (lv' := [(5, .int 0), (4, .int v24), (0, .ref t_h), (1, .int v2), (2, .int u17), (3, .int u20)]) hx hb dX10_findLeast_97 hl (by decide) rfl (fun ls hl => ?_)
                obtain ⟨x45, ht4, hf⟩ := ob_some hf
                have hx4_0 : ∀ (x459 : Int32), x459 = x45 → ∀ (H : Heap) (locs : List Loc) (ls : Array Slot), va_P G vwCl [(t_h, .inr (10, [.int t_baseWay, .int t_slip, .int t_low, .int t_high, .int t_unlike, .int t_alone, .long t_above, .long t_below, .ref t_edges_h, .ref t_lean_h, .ref t_word_h, .int t_layers, .ref t_layer_h, .ref t_least_h, .int t_sights, .ref t_sight_h, .int t_shadows, .ref t_shadow_h, .long t_endAbove, .long t_endBelow, .long t_speedAbove, .long t_speedBelow, .int t_spans, .ref t_spanLow_h, .ref t_spanHigh_h, .ref t_spanAt_h, .int t_found, .ref t_numbers_h, .int t_pairs, .ref t_pair_h, .ref t_most_h, .int t_rows, .ref t_row_h, .int t_notes, .ref t_under_h, .ref t_agreed_h])), (t_edges_h, .inl (cI, 2, .inl t_edges_a)), (t_lean_h, .inl (cI, 16, .inl t_lean_a)), (t_word_h, .inl (cI, 16, .inl t_word_a)), (t_layer_h, .inl (cI, 6, .inl t_layer_a)), (t_least_h, .inl (cI, 2304, .inl u21))] H → va_D A [(t_h, .inr (10, [.int t_baseWay, .int t_slip, .int t_low, .int t_high, .int t_unlike, .int t_alone, .long t_above, .long t_below, .ref t_edges_h, .ref t_lean_h, .ref t_word_h, .int t_layers, .ref t_layer_h, .ref t_least_h, .int t_sights, .ref t_sight_h, .int t_shadows, .ref t_shadow_h, .long t_endAbove, .long t_endBelow, .long t_speedAbove, .long t_speedBelow, .int t_spans, .ref t_spanLow_h, .ref t_spanHigh_h, .ref t_spanAt_h, .int t_found, .ref t_numbers_h, .int t_pairs, .ref t_pair_h, .ref t_most_h, .int t_rows, .ref t_row_h, .int t_notes, .ref t_under_h, .ref t_agreed_h])), (t_edges_h, .inl (cI, 2, .inl t_edges_a)), (t_lean_h, .inl (cI, 16, .inl t_lean_a)), (t_word_h, .inl (cI, 16, .inl t_word_a)), (t_layer_h, .inl (cI, 6, .inl t_layer_a)), (t_least_h, .inl (cI, 2304, .inl u21))] → va_S A s.heap H locs → lv_has ls 8 [(0, .ref t_h), (1, .int v2), (2, .int u17), (3, .int u20), (4, .int x459)] → W p l e rmX10_findLeast s m args below meth c H locs 0 0 Q (F0 m 189 ls []) := by
                  intro x459 he H locs ls hP hD hS hl
                  cases he
                  refine lv_aload_n hx hb dX10_findLeast_189 rfl (lv_at hl 0 rfl) ?_
                  refine va_get (D := G) (ci := 10) (v := .ref t_least_h) (C := RX10) (T := TX10) (N := 36) hx hb hts iwX10 hown hK hP 0 rfl rfl 13 (by decide) fl_22 (fun _ h9 => h9) rfl dX10_findLeast_190 ?_
                  refine lv_sipush (v := 256) hx hb dX10_findLeast_193 (by decide) ?_
                  refine lv_iload_n hx hb dX10_findLeast_196 rfl (lv_at hl 2 rfl) ?_
                  refine lv_imul hx hb dX10_findLeast_197 ?_
                  refine lv_iload_n hx hb dX10_findLeast_198 rfl (lv_at hl 3 rfl) ?_
                  refine lv_iadd hx hb dX10_findLeast_199 ?_
                  refine lv_iload hx hb dX10_findLeast_200 (lv_at hl 4 rfl) ?_
                  obtain ⟨h46, hf⟩ := gd_some hf
                  obtain ⟨a47, ea47⟩ : ∃ y : Nat → Int32, y = upd u21 (Int32.toNatClampNeg ((256 * u17) + u20)) x45 := ⟨_, rfl⟩
                  have hf := bv_at ea47 hf
                  refine va_iast hx hb hK hP hD hS 5 0 rfl rfl (bnd_in h46) dX10_findLeast_202 (fun H locs hP hD hS => ?_)
                  have hP : va_P G vwCl [(t_h, .inr (10, [.int t_baseWay, .int t_slip, .int t_low, .int t_high, .int t_unlike, .int t_alone, .long t_above, .long t_below, .ref t_edges_h, .ref t_lean_h, .ref t_word_h, .int t_layers, .ref t_layer_h, .ref t_least_h, .int t_sights, .ref t_sight_h, .int t_shadows, .ref t_shadow_h, .long t_endAbove, .long t_endBelow, .long t_speedAbove, .long t_speedBelow, .int t_spans, .ref t_spanLow_h, .ref t_spanHigh_h, .ref t_spanAt_h, .int t_found, .ref t_numbers_h, .int t_pairs, .ref t_pair_h, .ref t_most_h, .int t_rows, .ref t_row_h, .int t_notes, .ref t_under_h, .ref t_agreed_h])), (t_edges_h, .inl (cI, 2, .inl t_edges_a)), (t_lean_h, .inl (cI, 16, .inl t_lean_a)), (t_word_h, .inl (cI, 16, .inl t_word_a)), (t_layer_h, .inl (cI, 6, .inl t_layer_a)), (t_least_h, .inl (cI, 2304, .inl a47))] H := by rw [ea47]; exact hP
                  have hD : va_D A [(t_h, .inr (10, [.int t_baseWay, .int t_slip, .int t_low, .int t_high, .int t_unlike, .int t_alone, .long t_above, .long t_below, .ref t_edges_h, .ref t_lean_h, .ref t_word_h, .int t_layers, .ref t_layer_h, .ref t_least_h, .int t_sights, .ref t_sight_h, .int t_shadows, .ref t_shadow_h, .long t_endAbove, .long t_endBelow, .long t_speedAbove, .long t_speedBelow, .int t_spans, .ref t_spanLow_h, .ref t_spanHigh_h, .ref t_spanAt_h, .int t_found, .ref t_numbers_h, .int t_pairs, .ref t_pair_h, .ref t_most_h, .int t_rows, .ref t_row_h, .int t_notes, .ref t_under_h, .ref t_agreed_h])), (t_edges_h, .inl (cI, 2, .inl t_edges_a)), (t_lean_h, .inl (cI, 16, .inl t_lean_a)), (t_word_h, .inl (cI, 16, .inl t_word_a)), (t_layer_h, .inl (cI, 6, .inl t_layer_a)), (t_least_h, .inl (cI, 2304, .inl a47))] := by rw [ea47]; exact hD
                  obtain ⟨v48, ev48⟩ : ∃ y : Int32, y = u20 + 1 := ⟨_, rfl⟩
                  have hf := bv_at ev48 hf
                  refine lv_iinc (v := v48) (lv' := [(3, .int v48), (0, .ref t_h), (1, .int v2), (2, .int u17), (4, .int x45)]) hx hb dX10_findLeast_203 hl (k := 3) rfl (by rw [ev48]; rfl) (by decide) rfl (fun ls hl => ?_)
                  refine lv_goto (tgt := 70) hx hb dX10_findLeast_206 (by decide) ?_
                  cases hf
                  exact ih _ _ hq _ _ _ hP hD hS (lv_sub hl [1, 2, 3, 0] rfl)
                clear hf
                have hl4 : ∀ (n : Nat) (u25 : Int32) (u26 : Int32), it (fX10_findLeast_L4 t_edges_a u20 u17 t_baseWay t_low t_high t_unlike t_layers t_lean_a t_word_a t_layer_a u21) n (u25, u26) = some x45 → ∀ (H : Heap) (locs : List Loc) (ls : Array Slot), va_P G vwCl [(t_h, .inr (10, [.int t_baseWay, .int t_slip, .int t_low, .int t_high, .int t_unlike, .int t_alone, .long t_above, .long t_below, .ref t_edges_h, .ref t_lean_h, .ref t_word_h, .int t_layers, .ref t_layer_h, .ref t_least_h, .int t_sights, .ref t_sight_h, .int t_shadows, .ref t_shadow_h, .long t_endAbove, .long t_endBelow, .long t_speedAbove, .long t_speedBelow, .int t_spans, .ref t_spanLow_h, .ref t_spanHigh_h, .ref t_spanAt_h, .int t_found, .ref t_numbers_h, .int t_pairs, .ref t_pair_h, .ref t_most_h, .int t_rows, .ref t_row_h, .int t_notes, .ref t_under_h, .ref t_agreed_h])), (t_edges_h, .inl (cI, 2, .inl t_edges_a)), (t_lean_h, .inl (cI, 16, .inl t_lean_a)), (t_word_h, .inl (cI, 16, .inl t_word_a)), (t_layer_h, .inl (cI, 6, .inl t_layer_a)), (t_least_h, .inl (cI, 2304, .inl u21))] H → va_D A [(t_h, .inr (10, [.int t_baseWay, .int t_slip, .int t_low, .int t_high, .int t_unlike, .int t_alone, .long t_above, .long t_below, .ref t_edges_h, .ref t_lean_h, .ref t_word_h, .int t_layers, .ref t_layer_h, .ref t_least_h, .int t_sights, .ref t_sight_h, .int t_shadows, .ref t_shadow_h, .long t_endAbove, .long t_endBelow, .long t_speedAbove, .long t_speedBelow, .int t_spans, .ref t_spanLow_h, .ref t_spanHigh_h, .ref t_spanAt_h, .int t_found, .ref t_numbers_h, .int t_pairs, .ref t_pair_h, .ref t_most_h, .int t_rows, .ref t_row_h, .int t_notes, .ref t_under_h, .ref t_agreed_h])), (t_edges_h, .inl (cI, 2, .inl t_edges_a)), (t_lean_h, .inl (cI, 16, .inl t_lean_a)), (t_word_h, .inl (cI, 16, .inl t_word_a)), (t_layer_h, .inl (cI, 6, .inl t_layer_a)), (t_least_h, .inl (cI, 2304, .inl u21))] → va_S A s.heap H locs → lv_has ls 8 [(0, .ref t_h), (1, .int v2), (2, .int u17), (3, .int u20), (4, .int u25), (5, .int u26)] → W p l e rmX10_findLeast s m args below meth c H locs 0 0 Q (F0 m 99 ls []) := by
                  intro n
                  induction n with
                  | zero => intro u25 u26 hz; exact (it_zero hz).elim
                  | succ n ih =>
                    intro u25 u26 hz H locs ls hP hD hS hl
                    obtain ⟨x9, hf, hq⟩ := it_succ hz
                    unfold fX10_findLeast_L4 at hf
                    dsimp only [un2] at hf
                    refine lv_iload hx hb dX10_findLeast_99 (lv_at hl 5 rfl) ?_
                    refine lv_aload_n hx hb dX10_findLeast_101 rfl (lv_at hl 0 rfl) ?_
                    refine va_get (D := G) (ci := 10) (v := .ref t_edges_h) (C := RX10) (T := TX10) (N := 36) hx hb hts iwX10 hown hK hP 0 rfl rfl 8 (by decide) fl_7 (fun _ h9 => h9) rfl dX10_findLeast_102 ?_
                    refine lv_iconst (v := 1) hx hb dX10_findLeast_105 (by decide) ?_
                    obtain ⟨h27, hf⟩ := gd_some hf
                    refine va_iald hx hb hK hP 1 0 rfl rfl (bnd_in h27) dX10_findLeast_106 ?_
                    refine lv_icmp_ge (tgt := 189) hx hb dX10_findLeast_107 (by decide) (fun c28 => ?_) (fun c28 => ?_)
                    · have hf := ift hf c28
                      cases hf
                      exact hx4_0 _ hq _ _ _ hP hD hS (lv_sub hl [0, 1, 2, 3, 4] rfl)
                    · have hf := iff_ hf c28
                      refine lv_iload_n hx hb dX10_findLeast_110 rfl (lv_at hl 3 rfl) ?_
                      refine lv_iload hx hb dX10_findLeast_111 (lv_at hl 5 rfl) ?_
                      refine lv_ishr hx hb dX10_findLeast_113 ?_
                      refine lv_iconst (v := 1) hx hb dX10_findLeast_114 (by decide) ?_
                      refine lv_iand hx hb dX10_findLeast_115 ?_
                      obtain ⟨m29, hr30, hf⟩ := ob_some hf
                      have hj31 : ∀ (m299 : Int32), some m299 = some m29 → ∀ (H : Heap) (locs : List Loc) (ls : Array Slot), va_P G vwCl [(t_h, .inr (10, [.int t_baseWay, .int t_slip, .int t_low, .int t_high, .int t_unlike, .int t_alone, .long t_above, .long t_below, .ref t_edges_h, .ref t_lean_h, .ref t_word_h, .int t_layers, .ref t_layer_h, .ref t_least_h, .int t_sights, .ref t_sight_h, .int t_shadows, .ref t_shadow_h, .long t_endAbove, .long t_endBelow, .long t_speedAbove, .long t_speedBelow, .int t_spans, .ref t_spanLow_h, .ref t_spanHigh_h, .ref t_spanAt_h, .int t_found, .ref t_numbers_h, .int t_pairs, .ref t_pair_h, .ref t_most_h, .int t_rows, .ref t_row_h, .int t_notes, .ref t_under_h, .ref t_agreed_h])), (t_edges_h, .inl (cI, 2, .inl t_edges_a)), (t_lean_h, .inl (cI, 16, .inl t_lean_a)), (t_word_h, .inl (cI, 16, .inl t_word_a)), (t_layer_h, .inl (cI, 6, .inl t_layer_a)), (t_least_h, .inl (cI, 2304, .inl u21))] H → va_D A [(t_h, .inr (10, [.int t_baseWay, .int t_slip, .int t_low, .int t_high, .int t_unlike, .int t_alone, .long t_above, .long t_below, .ref t_edges_h, .ref t_lean_h, .ref t_word_h, .int t_layers, .ref t_layer_h, .ref t_least_h, .int t_sights, .ref t_sight_h, .int t_shadows, .ref t_shadow_h, .long t_endAbove, .long t_endBelow, .long t_speedAbove, .long t_speedBelow, .int t_spans, .ref t_spanLow_h, .ref t_spanHigh_h, .ref t_spanAt_h, .int t_found, .ref t_numbers_h, .int t_pairs, .ref t_pair_h, .ref t_most_h, .int t_rows, .ref t_row_h, .int t_notes, .ref t_under_h, .ref t_agreed_h])), (t_edges_h, .inl (cI, 2, .inl t_edges_a)), (t_lean_h, .inl (cI, 16, .inl t_lean_a)), (t_word_h, .inl (cI, 16, .inl t_word_a)), (t_layer_h, .inl (cI, 6, .inl t_layer_a)), (t_least_h, .inl (cI, 2304, .inl u21))] → va_S A s.heap H locs → lv_has ls 8 [(0, .ref t_h), (1, .int v2), (2, .int u17), (3, .int u20), (4, .int u25), (5, .int u26)] → W p l e rmX10_findLeast s m args below meth c H locs 0 0 Q (F0 m 130 ls [.int m299]) := by
                        intro m299 he H locs ls hP hD hS hl
                        cases he
                        refine lv_istore (lv' := [(6, .int m29), (0, .ref t_h), (1, .int v2), (2, .int u17), (3, .int u20), (4, .int u25), (5, .int u26)]) hx hb dX10_findLeast_130 hl (by decide) rfl (fun ls hl => ?_)
                        refine lv_iload hx hb dX10_findLeast_132 (lv_at hl 0 rfl) ?_
                        refine lv_iconst (v := (-1)) hx hb dX10_findLeast_134 (by decide) ?_
                        obtain ⟨m35, hr36, hf⟩ := ob_some hf
                        have hj37 : ∀ (m359 : Int32), some m359 = some m35 → ∀ (H : Heap) (locs : List Loc) (ls : Array Slot), va_P G vwCl [(t_h, .inr (10, [.int t_baseWay, .int t_slip, .int t_low, .int t_high, .int t_unlike, .int t_alone, .long t_above, .long t_below, .ref t_edges_h, .ref t_lean_h, .ref t_word_h, .int t_layers, .ref t_layer_h, .ref t_least_h, .int t_sights, .ref t_sight_h, .int t_shadows, .ref t_shadow_h, .long t_endAbove, .long t_endBelow, .long t_speedAbove, .long t_speedBelow, .int t_spans, .ref t_spanLow_h, .ref t_spanHigh_h, .ref t_spanAt_h, .int t_found, .ref t_numbers_h, .int t_pairs, .ref t_pair_h, .ref t_most_h, .int t_rows, .ref t_row_h, .int t_notes, .ref t_under_h, .ref t_agreed_h])), (t_edges_h, .inl (cI, 2, .inl t_edges_a)), (t_lean_h, .inl (cI, 16, .inl t_lean_a)), (t_word_h, .inl (cI, 16, .inl t_word_a)), (t_layer_h, .inl (cI, 6, .inl t_layer_a)), (t_least_h, .inl (cI, 2304, .inl u21))] H → va_D A [(t_h, .inr (10, [.int t_baseWay, .int t_slip, .int t_low, .int t_high, .int t_unlike, .int t_alone, .long t_above, .long t_below, .ref t_edges_h, .ref t_lean_h, .ref t_word_h, .int t_layers, .ref t_layer_h, .ref t_least_h, .int t_sights, .ref t_sight_h, .int t_shadows, .ref t_shadow_h, .long t_endAbove, .long t_endBelow, .long t_speedAbove, .long t_speedBelow, .int t_spans, .ref t_spanLow_h, .ref t_spanHigh_h, .ref t_spanAt_h, .int t_found, .ref t_numbers_h, .int t_pairs, .ref t_pair_h, .ref t_most_h, .int t_rows, .ref t_row_h, .int t_notes, .ref t_under_h, .ref t_agreed_h])), (t_edges_h, .inl (cI, 2, .inl t_edges_a)), (t_lean_h, .inl (cI, 16, .inl t_lean_a)), (t_word_h, .inl (cI, 16, .inl t_word_a)), (t_layer_h, .inl (cI, 6, .inl t_layer_a)), (t_least_h, .inl (cI, 2304, .inl u21))] → va_S A s.heap H locs → lv_has ls 8 [(0, .ref t_h), (1, .int v2), (2, .int u17), (3, .int u20), (4, .int u25), (5, .int u26)] → W p l e rmX10_findLeast s m args below meth c H locs 0 0 Q (F0 m 165 ls [.int m359]) := by
                          intro m359 he H locs ls hP hD hS hl
                          cases he
                          refine lv_istore (lv' := [(7, .int m35), (0, .ref t_h), (1, .int v2), (2, .int u17), (3, .int u20), (4, .int u25), (5, .int u26)]) hx hb dX10_findLeast_165 hl (by decide) rfl (fun ls hl => ?_)
                          refine lv_iload hx hb dX10_findLeast_167 (lv_at hl 0 rfl) ?_
                          refine lv_iload hx hb dX10_findLeast_169 (lv_at hl 5 rfl) ?_
                          obtain ⟨m40, hr41, hf⟩ := ob_some hf
                          have hj42 : ∀ (m409 : Int32), some m409 = some m40 → ∀ (H : Heap) (locs : List Loc) (ls : Array Slot), va_P G vwCl [(t_h, .inr (10, [.int t_baseWay, .int t_slip, .int t_low, .int t_high, .int t_unlike, .int t_alone, .long t_above, .long t_below, .ref t_edges_h, .ref t_lean_h, .ref t_word_h, .int t_layers, .ref t_layer_h, .ref t_least_h, .int t_sights, .ref t_sight_h, .int t_shadows, .ref t_shadow_h, .long t_endAbove, .long t_endBelow, .long t_speedAbove, .long t_speedBelow, .int t_spans, .ref t_spanLow_h, .ref t_spanHigh_h, .ref t_spanAt_h, .int t_found, .ref t_numbers_h, .int t_pairs, .ref t_pair_h, .ref t_most_h, .int t_rows, .ref t_row_h, .int t_notes, .ref t_under_h, .ref t_agreed_h])), (t_edges_h, .inl (cI, 2, .inl t_edges_a)), (t_lean_h, .inl (cI, 16, .inl t_lean_a)), (t_word_h, .inl (cI, 16, .inl t_word_a)), (t_layer_h, .inl (cI, 6, .inl t_layer_a)), (t_least_h, .inl (cI, 2304, .inl u21))] H → va_D A [(t_h, .inr (10, [.int t_baseWay, .int t_slip, .int t_low, .int t_high, .int t_unlike, .int t_alone, .long t_above, .long t_below, .ref t_edges_h, .ref t_lean_h, .ref t_word_h, .int t_layers, .ref t_layer_h, .ref t_least_h, .int t_sights, .ref t_sight_h, .int t_shadows, .ref t_shadow_h, .long t_endAbove, .long t_endBelow, .long t_speedAbove, .long t_speedBelow, .int t_spans, .ref t_spanLow_h, .ref t_spanHigh_h, .ref t_spanAt_h, .int t_found, .ref t_numbers_h, .int t_pairs, .ref t_pair_h, .ref t_most_h, .int t_rows, .ref t_row_h, .int t_notes, .ref t_under_h, .ref t_agreed_h])), (t_edges_h, .inl (cI, 2, .inl t_edges_a)), (t_lean_h, .inl (cI, 16, .inl t_lean_a)), (t_word_h, .inl (cI, 16, .inl t_word_a)), (t_layer_h, .inl (cI, 6, .inl t_layer_a)), (t_least_h, .inl (cI, 2304, .inl u21))] → va_S A s.heap H locs → lv_has ls 8 [(0, .ref t_h), (1, .int v2), (2, .int u17), (3, .int u20), (5, .int u26)] → W p l e rmX10_findLeast s m args below meth c H locs 0 0 Q (F0 m 181 ls [.int m409]) := by
                            intro m409 he H locs ls hP hD hS hl
                            cases he
                            refine lv_istore (lv' := [(4, .int m40), (0, .ref t_h), (1, .int v2), (2, .int u17), (3, .int u20), (5, .int u26)]) hx hb dX10_findLeast_181 hl (by decide) rfl (fun ls hl => ?_)
                            obtain ⟨v44, ev44⟩ : ∃ y : Int32, y = u26 + 1 := ⟨_, rfl⟩
                            have hf := bv_at ev44 hf
                            refine lv_iinc (v := v44) (lv' := [(5, .int v44), (4, .int m40), (0, .ref t_h), (1, .int v2), (2, .int u17), (3, .int u20)]) hx hb dX10_findLeast_183 hl (k := 5) rfl (by rw [ev44]; rfl) (by decide) rfl (fun ls hl => ?_)
                            refine lv_goto (tgt := 99) hx hb dX10_findLeast_186 (by decide) ?_
                            cases hf
                            exact ih _ _ hq _ _ _ hP hD hS (lv_sub hl [2, 3, 4, 5, 1, 0] rfl)
                          replace hf := hr41
                          refine lv_icmp_ge (tgt := 179) hx hb dX10_findLeast_171 (by decide) (fun c43 => ?_) (fun c43 => ?_)
                          · have hf := ift hf c43
                            refine lv_iload hx hb dX10_findLeast_179 (lv_at hl 5 rfl) ?_
                            exact hj42 _ hf _ _ _ hP hD hS (lv_sub hl [1, 2, 3, 4, 6] rfl)
                          · have hf := iff_ hf c43
                            refine lv_iload hx hb dX10_findLeast_174 (lv_at hl 0 rfl) ?_
                            refine lv_goto (tgt := 181) hx hb dX10_findLeast_176 (by decide) ?_
                            exact hj42 _ hf _ _ _ hP hD hS (lv_sub hl [1, 2, 3, 4, 6] rfl)
                        replace hf := hr36
                        refine lv_icmp_ne (tgt := 143) hx hb dX10_findLeast_135 (by decide) (fun c38 => ?_) (fun c38 => ?_)
                        · have hf := iff_ hf c38
                          refine lv_iload hx hb dX10_findLeast_143 (lv_at hl 0 rfl) ?_
                          refine lv_aload_n hx hb dX10_findLeast_145 rfl (lv_at hl 1 rfl) ?_
                          refine va_get (D := G) (ci := 10) (v := .ref t_least_h) (C := RX10) (T := TX10) (N := 36) hx hb hts iwX10 hown hK hP 0 rfl rfl 13 (by decide) fl_22 (fun _ h9 => h9) rfl dX10_findLeast_146 ?_
                          refine lv_sipush (v := 256) hx hb dX10_findLeast_149 (by decide) ?_
                          refine lv_iload_n hx hb dX10_findLeast_152 rfl (lv_at hl 3 rfl) ?_
                          refine lv_iconst (v := 1) hx hb dX10_findLeast_153 (by decide) ?_
                          refine lv_iadd hx hb dX10_findLeast_154 ?_
                          refine lv_imul hx hb dX10_findLeast_155 ?_
                          refine lv_iload_n hx hb dX10_findLeast_156 rfl (lv_at hl 4 rfl) ?_
                          refine lv_iconst (v := 1) hx hb dX10_findLeast_157 (by decide) ?_
                          refine lv_iload hx hb dX10_findLeast_158 (lv_at hl 6 rfl) ?_
                          refine lv_ishl hx hb dX10_findLeast_160 ?_
                          refine lv_ior hx hb dX10_findLeast_161 ?_
                          refine lv_iadd hx hb dX10_findLeast_162 ?_
                          obtain ⟨h39, hf⟩ := gd_some hf
                          refine va_iald hx hb hK hP 5 0 rfl rfl (bnd_in h39) dX10_findLeast_163 ?_
                          refine lv_iadd hx hb dX10_findLeast_164 ?_
                          exact hj37 _ hf _ _ _ hP hD hS (lv_sub hl [1, 2, 3, 4, 5, 6] rfl)
                        · have hf := ift hf c38
                          refine lv_iload hx hb dX10_findLeast_138 (lv_at hl 5 rfl) ?_
                          refine lv_goto (tgt := 165) hx hb dX10_findLeast_140 (by decide) ?_
                          exact hj37 _ hf _ _ _ hP hD hS (lv_sub hl [1, 2, 3, 4, 5, 6] rfl)
                      replace hf := hr30
                      refine lv_if_ne (tgt := 129) hx hb dX10_findLeast_116 (by decide) (fun c32 => ?_) (fun c32 => ?_)
                      · have hf := iff_ hf c32
                        refine lv_iconst (v := (-1)) hx hb dX10_findLeast_129 (by decide) ?_
                        exact hj31 _ hf _ _ _ hP hD hS (lv_sub hl [0, 1, 2, 3, 4, 5] rfl)
                      · have hf := ift hf c32
                        refine lv_aload_n hx hb dX10_findLeast_119 rfl (lv_at hl 0 rfl) ?_
                        refine lv_iload_n hx hb dX10_findLeast_120 rfl (lv_at hl 2 rfl) ?_
                        refine lv_iload hx hb dX10_findLeast_121 (lv_at hl 5 rfl) ?_
                        obtain ⟨r33, hc34, hf⟩ := ob_some hf
                        refine af_iR (va_runV (As := [.int u17, .int u26]) (rest := []) ⟨hx, hb, hml, hown, hts⟩ (k_X10_costOf l G cI cJ (t_h := t_h) (t_edges_h := t_edges_h) (t_lean_h := t_lean_h) (t_word_h := t_word_h) (t_layer_h := t_layer_h) (t_least_h := t_least_h) (t_sight_h := t_sight_h) (t_shadow_h := t_shadow_h) (t_spanLow_h := t_spanLow_h) (t_spanHigh_h := t_spanHigh_h) (t_spanAt_h := t_spanAt_h) (t_numbers_h := t_numbers_h) (t_pair_h := t_pair_h) (t_most_h := t_most_h) (t_row_h := t_row_h) (t_under_h := t_under_h) (t_agreed_h := t_agreed_h) (t_baseWay := t_baseWay) (t_slip := t_slip) (t_low := t_low) (t_high := t_high) (t_unlike := t_unlike) (t_alone := t_alone) (t_above := t_above) (t_below := t_below) (t_layers := t_layers) (t_sights := t_sights) (t_shadows := t_shadows) (t_endAbove := t_endAbove) (t_endBelow := t_endBelow) (t_speedAbove := t_speedAbove) (t_speedBelow := t_speedBelow) (t_spans := t_spans) (t_found := t_found) (t_pairs := t_pairs) (t_rows := t_rows) (t_notes := t_notes) (t_lean_a := t_lean_a) (t_word_a := t_word_a) (t_layer_a := t_layer_a) (x1 := u17) (x2 := u26) (sz := _) (hf := hc34)) (cwV 2 hts gX10_findLeast_X10_costOf rfl rfl rfl (by decide +kernel) ⟨Nat.le_of_ble_eq_true rfl, Nat.le_of_ble_eq_true rfl⟩) (preV0 (ci := 10) (q0 := 0) (C := RX10) (wc := [(t_h, .inr (10, [.int t_baseWay, .int t_slip, .int t_low, .int t_high, .int t_unlike, .int t_alone, .long t_above, .long t_below, .ref t_edges_h, .ref t_lean_h, .ref t_word_h, .int t_layers, .ref t_layer_h, .ref t_least_h, .int t_sights, .ref t_sight_h, .int t_shadows, .ref t_shadow_h, .long t_endAbove, .long t_endBelow, .long t_speedAbove, .long t_speedBelow, .int t_spans, .ref t_spanLow_h, .ref t_spanHigh_h, .ref t_spanAt_h, .int t_found, .ref t_numbers_h, .int t_pairs, .ref t_pair_h, .ref t_most_h, .int t_rows, .ref t_row_h, .int t_notes, .ref t_under_h, .ref t_agreed_h])), (t_lean_h, .inl (cI, 16, .inl t_lean_a)), (t_word_h, .inl (cI, 16, .inl t_word_a)), (t_layer_h, .inl (cI, 6, .inl t_layer_a))]) hK hP hD hN [0, 2, 3, 4] rfl rfl (by decide) rfl rfl) rfl rfl hl.1 rfl (lv_room (Nat.le_of_ble_eq_true rfl)) dX10_findLeast_123 ⟨Nat.zero_le _, Nat.zero_le _⟩) hP hD hS hA [0, 2, 3, 4] rfl (fun H locs hP hS => ?_)
                        refine lv_goto (tgt := 130) hx hb dX10_findLeast_126 (by decide) ?_
                        exact hj31 _ hf _ _ _ hP hD hS (lv_sub hl [0, 1, 2, 3, 4, 5] rfl)
                exact hl4 _ _ _ ht4 _ _ _ hP hD hS (lv_sub hl [2, 3, 4, 5, 1, 0] rfl)
          exact hl3 _ _ _ ht3 _ _ _ hP hD hS (lv_sub hl [1, 2, 3, 0] rfl)
    exact hl2 _ _ _ ht2 _ _ _ hP hD hS (lv_sub hl [1, 2, 0] rfl)
  clear hf
  have hl1 : ∀ (n : Nat) (u3 : Int32) (u4 : Nat → Int32), it (fX10_findLeast_L1 v2 t_alone t_edges_a) n (u3, u4) = some x14 → ∀ (H : Heap) (locs : List Loc) (ls : Array Slot), va_P G vwCl [(t_h, .inr (10, [.int t_baseWay, .int t_slip, .int t_low, .int t_high, .int t_unlike, .int t_alone, .long t_above, .long t_below, .ref t_edges_h, .ref t_lean_h, .ref t_word_h, .int t_layers, .ref t_layer_h, .ref t_least_h, .int t_sights, .ref t_sight_h, .int t_shadows, .ref t_shadow_h, .long t_endAbove, .long t_endBelow, .long t_speedAbove, .long t_speedBelow, .int t_spans, .ref t_spanLow_h, .ref t_spanHigh_h, .ref t_spanAt_h, .int t_found, .ref t_numbers_h, .int t_pairs, .ref t_pair_h, .ref t_most_h, .int t_rows, .ref t_row_h, .int t_notes, .ref t_under_h, .ref t_agreed_h])), (t_edges_h, .inl (cI, 2, .inl t_edges_a)), (t_lean_h, .inl (cI, 16, .inl t_lean_a)), (t_word_h, .inl (cI, 16, .inl t_word_a)), (t_layer_h, .inl (cI, 6, .inl t_layer_a)), (t_least_h, .inl (cI, 2304, .inl u4))] H → va_D A [(t_h, .inr (10, [.int t_baseWay, .int t_slip, .int t_low, .int t_high, .int t_unlike, .int t_alone, .long t_above, .long t_below, .ref t_edges_h, .ref t_lean_h, .ref t_word_h, .int t_layers, .ref t_layer_h, .ref t_least_h, .int t_sights, .ref t_sight_h, .int t_shadows, .ref t_shadow_h, .long t_endAbove, .long t_endBelow, .long t_speedAbove, .long t_speedBelow, .int t_spans, .ref t_spanLow_h, .ref t_spanHigh_h, .ref t_spanAt_h, .int t_found, .ref t_numbers_h, .int t_pairs, .ref t_pair_h, .ref t_most_h, .int t_rows, .ref t_row_h, .int t_notes, .ref t_under_h, .ref t_agreed_h])), (t_edges_h, .inl (cI, 2, .inl t_edges_a)), (t_lean_h, .inl (cI, 16, .inl t_lean_a)), (t_word_h, .inl (cI, 16, .inl t_word_a)), (t_layer_h, .inl (cI, 6, .inl t_layer_a)), (t_least_h, .inl (cI, 2304, .inl u4))] → va_S A s.heap H locs → lv_has ls 8 [(0, .ref t_h), (1, .int v2), (2, .int u3)] → W p l e rmX10_findLeast s m args below meth c H locs 0 0 Q (F0 m 11 ls []) := by
    intro n
    induction n with
    | zero => intro u3 u4 hz; exact (it_zero hz).elim
    | succ n ih =>
      intro u3 u4 hz H locs ls hP hD hS hl
      obtain ⟨x9, hf, hq⟩ := it_succ hz
      unfold fX10_findLeast_L1 at hf
      dsimp only [un2] at hf
      refine lv_iload_n hx hb dX10_findLeast_11 rfl (lv_at hl 2 rfl) ?_
      refine lv_iload_n hx hb dX10_findLeast_12 rfl (lv_at hl 1 rfl) ?_
      refine lv_icmp_ge (tgt := 55) hx hb dX10_findLeast_13 (by decide) (fun c5 => ?_) (fun c5 => ?_)
      · have hf := ift hf c5
        cases hf
        exact hx1_0 _ hq _ _ _ hP hD hS (lv_sub hl [0, 1] rfl)
      · have hf := iff_ hf c5
        refine lv_aload_n hx hb dX10_findLeast_16 rfl (lv_at hl 0 rfl) ?_
        refine va_get (D := G) (ci := 10) (v := .ref t_least_h) (C := RX10) (T := TX10) (N := 36) hx hb hts iwX10 hown hK hP 0 rfl rfl 13 (by decide) fl_22 (fun _ h9 => h9) rfl dX10_findLeast_17 ?_
        refine lv_sipush (v := 256) hx hb dX10_findLeast_20 (by decide) ?_
        refine lv_aload_n hx hb dX10_findLeast_23 rfl (lv_at hl 0 rfl) ?_
        refine va_get (D := G) (ci := 10) (v := .ref t_edges_h) (C := RX10) (T := TX10) (N := 36) hx hb hts iwX10 hown hK hP 0 rfl rfl 8 (by decide) fl_7 (fun _ h9 => h9) rfl dX10_findLeast_24 ?_
        refine lv_iconst (v := 0) hx hb dX10_findLeast_27 (by decide) ?_
        obtain ⟨h6, hf⟩ := gd_some hf
        refine va_iald hx hb hK hP 1 0 rfl rfl (bnd_in h6) dX10_findLeast_28 ?_
        refine lv_imul hx hb dX10_findLeast_29 ?_
        refine lv_iload_n hx hb dX10_findLeast_30 rfl (lv_at hl 2 rfl) ?_
        refine lv_iadd hx hb dX10_findLeast_31 ?_
        refine lv_aload_n hx hb dX10_findLeast_32 rfl (lv_at hl 0 rfl) ?_
        refine va_get (D := G) (ci := 10) (v := .int t_alone) (C := RX10) (T := TX10) (N := 36) hx hb hts iwX10 hown hK hP 0 rfl rfl 5 (by decide) fl_74 (fun _ h9 => h9) rfl dX10_findLeast_33 ?_
        refine lv_aload_n hx hb dX10_findLeast_36 rfl (lv_at hl 0 rfl) ?_
        refine va_get (D := G) (ci := 10) (v := .ref t_edges_h) (C := RX10) (T := TX10) (N := 36) hx hb hts iwX10 hown hK hP 0 rfl rfl 8 (by decide) fl_7 (fun _ h9 => h9) rfl dX10_findLeast_37 ?_
        refine lv_iconst (v := 1) hx hb dX10_findLeast_40 (by decide) ?_
        obtain ⟨h7, hf⟩ := gd_some hf
        refine va_iald hx hb hK hP 1 0 rfl rfl (bnd_in h7) dX10_findLeast_41 ?_
        refine lv_iload_n hx hb dX10_findLeast_42 rfl (lv_at hl 2 rfl) ?_
        obtain ⟨r8, hc9, hf⟩ := ob_some hf
        refine af_iR (va_runS (As := [.int u3]) (rest := [.int (t_edges_a (Int32.toNatClampNeg 1)), .int t_alone, .int ((256 * (t_edges_a (Int32.toNatClampNeg 0))) + u3), .ref t_least_h]) ⟨hx, hb, hml, hown, hts⟩ (k_X10_sizeOf l G cI cJ (x0 := u3) (sz := _) (hf := hc9)) (va_cwS 1 hts gX10_findLeast_X10_sizeOf rfl rfl rfl (by decide +kernel) ⟨Nat.le_of_ble_eq_true rfl, Nat.le_of_ble_eq_true rfl⟩) (preS0 (wc := []) hK hP hD hN [] rfl rfl (by decide)) rfl rfl hl.1 rfl (lv_room (Nat.le_of_ble_eq_true rfl)) dX10_findLeast_43 ⟨Nat.zero_le _, Nat.zero_le _⟩) hP hD hS hA [] rfl (fun H locs hP hS => ?_)
        refine lv_isub hx hb dX10_findLeast_46 ?_
        refine lv_imul hx hb dX10_findLeast_47 ?_
        refine lv_topi (fun v10 ev10 => ?_)
        have hf := bv_at ev10 hf
        obtain ⟨h11, hf⟩ := gd_some hf
        obtain ⟨a12, ea12⟩ : ∃ y : Nat → Int32, y = upd u4 (Int32.toNatClampNeg ((256 * (t_edges_a (Int32.toNatClampNeg 0))) + u3)) v10 := ⟨_, rfl⟩
        have hf := bv_at ea12 hf
        refine va_iast hx hb hK hP hD hS 5 0 rfl rfl (bnd_in h11) dX10_findLeast_48 (fun H locs hP hD hS => ?_)
        have hP : va_P G vwCl [(t_h, .inr (10, [.int t_baseWay, .int t_slip, .int t_low, .int t_high, .int t_unlike, .int t_alone, .long t_above, .long t_below, .ref t_edges_h, .ref t_lean_h, .ref t_word_h, .int t_layers, .ref t_layer_h, .ref t_least_h, .int t_sights, .ref t_sight_h, .int t_shadows, .ref t_shadow_h, .long t_endAbove, .long t_endBelow, .long t_speedAbove, .long t_speedBelow, .int t_spans, .ref t_spanLow_h, .ref t_spanHigh_h, .ref t_spanAt_h, .int t_found, .ref t_numbers_h, .int t_pairs, .ref t_pair_h, .ref t_most_h, .int t_rows, .ref t_row_h, .int t_notes, .ref t_under_h, .ref t_agreed_h])), (t_edges_h, .inl (cI, 2, .inl t_edges_a)), (t_lean_h, .inl (cI, 16, .inl t_lean_a)), (t_word_h, .inl (cI, 16, .inl t_word_a)), (t_layer_h, .inl (cI, 6, .inl t_layer_a)), (t_least_h, .inl (cI, 2304, .inl a12))] H := by rw [ea12]; exact hP
        have hD : va_D A [(t_h, .inr (10, [.int t_baseWay, .int t_slip, .int t_low, .int t_high, .int t_unlike, .int t_alone, .long t_above, .long t_below, .ref t_edges_h, .ref t_lean_h, .ref t_word_h, .int t_layers, .ref t_layer_h, .ref t_least_h, .int t_sights, .ref t_sight_h, .int t_shadows, .ref t_shadow_h, .long t_endAbove, .long t_endBelow, .long t_speedAbove, .long t_speedBelow, .int t_spans, .ref t_spanLow_h, .ref t_spanHigh_h, .ref t_spanAt_h, .int t_found, .ref t_numbers_h, .int t_pairs, .ref t_pair_h, .ref t_most_h, .int t_rows, .ref t_row_h, .int t_notes, .ref t_under_h, .ref t_agreed_h])), (t_edges_h, .inl (cI, 2, .inl t_edges_a)), (t_lean_h, .inl (cI, 16, .inl t_lean_a)), (t_word_h, .inl (cI, 16, .inl t_word_a)), (t_layer_h, .inl (cI, 6, .inl t_layer_a)), (t_least_h, .inl (cI, 2304, .inl a12))] := by rw [ea12]; exact hD
        obtain ⟨v13, ev13⟩ : ∃ y : Int32, y = u3 + 1 := ⟨_, rfl⟩
        have hf := bv_at ev13 hf
        refine lv_iinc (v := v13) (lv' := [(2, .int v13), (0, .ref t_h), (1, .int v2)]) hx hb dX10_findLeast_49 hl (k := 2) rfl (by rw [ev13]; rfl) (by decide) rfl (fun ls hl => ?_)
        refine lv_goto (tgt := 11) hx hb dX10_findLeast_52 (by decide) ?_
        cases hf
        exact ih _ _ hq _ _ _ hP hD hS (lv_sub hl [1, 2, 0] rfl)
  exact hl1 _ _ _ ht1 _ _ _ hP hD hS (lv_sub hl [2, 1, 0] rfl)
set_option maxRecDepth 20000 in
theorem ggX10_matched_X10_in : GoodIn wsX10_matched wsX10_in := goodIn_r _ [7] (by decide +kernel) (by decide +kernel)
set_option maxRecDepth 20000 in
theorem gX10_matched_X10_in : GoodIn wsX10_matched (va_wsS RX10 89 yX10_in wsX10_in) := goodIn_app (goodIn_of _ (by decide +kernel)) ggX10_matched_X10_in
set_option maxRecDepth 20000 in
theorem ggX10_matched_X10_findLeast : GoodIn wsX10_matched wsX10_findLeast := goodIn_r _ [11, 1, 2, 3, 12, 13, 6, 14, 15, 16, 17, 18, 19, 20, 21, 22, 23, 24, 25, 26, 27, 28, 29, 30, 31, 32, 33, 34, 35, 36, 37, 38, 39, 40, 41, 42, 43, 44, 45, 46, 47, 48, 49, 50, 51, 52, 53, 54, 55, 56, 57, 58, 59, 60, 61, 62, 63] (by decide +kernel) (by decide +kernel)
set_option maxRecDepth 20000 in
theorem gX10_matched_X10_findLeast : GoodIn wsX10_matched (wsV RX10 116 RX10 yX10_findLeast wsX10_findLeast) := goodIn_app (goodIn_of _ (by decide +kernel)) ggX10_matched_X10_findLeast
set_option maxRecDepth 20000 in
theorem ggX10_matched_X10_costOf : GoodIn wsX10_matched wsX10_costOf := goodIn_r _ [18, 19, 20, 21, 22, 23, 24, 25, 26, 27, 28, 29, 30, 31, 32, 33, 34, 35, 36, 37, 38, 39, 40, 41, 42, 43, 44, 45, 46, 47, 48, 49, 50, 51, 52, 53, 54, 55, 56, 57, 58, 59, 60, 61, 62, 63] (by decide +kernel) (by decide +kernel)
set_option maxRecDepth 20000 in
theorem gX10_matched_X10_costOf : GoodIn wsX10_matched (wsV RX10 108 RX10 yX10_costOf wsX10_costOf) := goodIn_app (goodIn_of _ (by decide +kernel)) ggX10_matched_X10_costOf
theorem dX10_matched_0 : decode cX10_matched 0 = .ok (.iload_n 1, 1) := by decide +kernel
theorem dX10_matched_1 : decode cX10_matched 1 = .ok (.iconst (-1), 1) := by decide +kernel
theorem dX10_matched_2 : decode cX10_matched 2 = .ok (.aload_n 0, 1) := by decide +kernel
theorem dX10_matched_3 : decode cX10_matched 3 = .ok (.getfield 7, 3) := by decide +kernel
theorem dX10_matched_6 : decode cX10_matched 6 = .ok (.iconst 0, 1) := by decide +kernel
theorem dX10_matched_7 : decode cX10_matched 7 = .ok (.iaload, 1) := by decide +kernel
theorem dX10_matched_8 : decode cX10_matched 8 = .ok (.iconst 1, 1) := by decide +kernel
theorem dX10_matched_9 : decode cX10_matched 9 = .ok (.isub, 1) := by decide +kernel
theorem dX10_matched_10 : decode cX10_matched 10 = .ok (.invokestatic 89, 3) := by decide +kernel
theorem dX10_matched_13 : decode cX10_matched 13 = .ok (.ifCond .ne 6, 3) := by decide +kernel
theorem dX10_matched_16 : decode cX10_matched 16 = .ok (.bipush (-10), 2) := by decide +kernel
theorem dX10_matched_18 : decode cX10_matched 18 = .ok (.ireturn, 1) := by decide +kernel
theorem dX10_matched_19 : decode cX10_matched 19 = .ok (.aload_n 0, 1) := by decide +kernel
theorem dX10_matched_20 : decode cX10_matched 20 = .ok (.invokevirtual 116, 3) := by decide +kernel
theorem dX10_matched_23 : decode cX10_matched 23 = .ok (.iload_n 1, 1) := by decide +kernel
theorem dX10_matched_24 : decode cX10_matched 24 = .ok (.iconst (-1), 1) := by decide +kernel
theorem dX10_matched_25 : decode cX10_matched 25 = .ok (.if_icmp .ne 10, 3) := by decide +kernel
theorem dX10_matched_28 : decode cX10_matched 28 = .ok (.aload_n 0, 1) := by decide +kernel
theorem dX10_matched_29 : decode cX10_matched 29 = .ok (.getfield 22, 3) := by decide +kernel
theorem dX10_matched_32 : decode cX10_matched 32 = .ok (.iconst 0, 1) := by decide +kernel
theorem dX10_matched_33 : decode cX10_matched 33 = .ok (.iaload, 1) := by decide +kernel
theorem dX10_matched_34 : decode cX10_matched 34 = .ok (.ireturn, 1) := by decide +kernel
theorem dX10_matched_35 : decode cX10_matched 35 = .ok (.iconst 0, 1) := by decide +kernel
theorem dX10_matched_36 : decode cX10_matched 36 = .ok (.istore_n 2, 1) := by decide +kernel
theorem dX10_matched_37 : decode cX10_matched 37 = .ok (.iconst (-1), 1) := by decide +kernel
theorem dX10_matched_38 : decode cX10_matched 38 = .ok (.istore_n 3, 1) := by decide +kernel
theorem dX10_matched_39 : decode cX10_matched 39 = .ok (.iconst 0, 1) := by decide +kernel
theorem dX10_matched_40 : decode cX10_matched 40 = .ok (.istore 4, 2) := by decide +kernel
theorem dX10_matched_42 : decode cX10_matched 42 = .ok (.iload 4, 2) := by decide +kernel
theorem dX10_matched_44 : decode cX10_matched 44 = .ok (.iload_n 1, 1) := by decide +kernel
theorem dX10_matched_45 : decode cX10_matched 45 = .ok (.if_icmp .gt 117, 3) := by decide +kernel
theorem dX10_matched_48 : decode cX10_matched 48 = .ok (.aload_n 0, 1) := by decide +kernel
theorem dX10_matched_49 : decode cX10_matched 49 = .ok (.getfield 22, 3) := by decide +kernel
theorem dX10_matched_52 : decode cX10_matched 52 = .ok (.sipush 256, 3) := by decide +kernel
theorem dX10_matched_55 : decode cX10_matched 55 = .ok (.iload 4, 2) := by decide +kernel
theorem dX10_matched_57 : decode cX10_matched 57 = .ok (.imul, 1) := by decide +kernel
theorem dX10_matched_58 : decode cX10_matched 58 = .ok (.iload_n 2, 1) := by decide +kernel
theorem dX10_matched_59 : decode cX10_matched 59 = .ok (.iadd, 1) := by decide +kernel
theorem dX10_matched_60 : decode cX10_matched 60 = .ok (.iaload, 1) := by decide +kernel
theorem dX10_matched_61 : decode cX10_matched 61 = .ok (.istore 5, 2) := by decide +kernel
theorem dX10_matched_63 : decode cX10_matched 63 = .ok (.iconst (-1), 1) := by decide +kernel
theorem dX10_matched_64 : decode cX10_matched 64 = .ok (.istore_n 3, 1) := by decide +kernel
theorem dX10_matched_65 : decode cX10_matched 65 = .ok (.aload_n 0, 1) := by decide +kernel
theorem dX10_matched_66 : decode cX10_matched 66 = .ok (.getfield 74, 3) := by decide +kernel
theorem dX10_matched_69 : decode cX10_matched 69 = .ok (.aload_n 0, 1) := by decide +kernel
theorem dX10_matched_70 : decode cX10_matched 70 = .ok (.getfield 22, 3) := by decide +kernel
theorem dX10_matched_73 : decode cX10_matched 73 = .ok (.sipush 256, 3) := by decide +kernel
theorem dX10_matched_76 : decode cX10_matched 76 = .ok (.iload 4, 2) := by decide +kernel
theorem dX10_matched_78 : decode cX10_matched 78 = .ok (.iconst 1, 1) := by decide +kernel
theorem dX10_matched_79 : decode cX10_matched 79 = .ok (.iadd, 1) := by decide +kernel
theorem dX10_matched_80 : decode cX10_matched 80 = .ok (.imul, 1) := by decide +kernel
theorem dX10_matched_81 : decode cX10_matched 81 = .ok (.iload_n 2, 1) := by decide +kernel
theorem dX10_matched_82 : decode cX10_matched 82 = .ok (.iadd, 1) := by decide +kernel
theorem dX10_matched_83 : decode cX10_matched 83 = .ok (.iaload, 1) := by decide +kernel
theorem dX10_matched_84 : decode cX10_matched 84 = .ok (.iadd, 1) := by decide +kernel
theorem dX10_matched_85 : decode cX10_matched 85 = .ok (.iload 5, 2) := by decide +kernel
theorem dX10_matched_87 : decode cX10_matched 87 = .ok (.if_icmp .eq 69, 3) := by decide +kernel
theorem dX10_matched_90 : decode cX10_matched 90 = .ok (.iconst 0, 1) := by decide +kernel
theorem dX10_matched_91 : decode cX10_matched 91 = .ok (.istore_n 3, 1) := by decide +kernel
theorem dX10_matched_92 : decode cX10_matched 92 = .ok (.iload_n 2, 1) := by decide +kernel
theorem dX10_matched_93 : decode cX10_matched 93 = .ok (.iload_n 3, 1) := by decide +kernel
theorem dX10_matched_94 : decode cX10_matched 94 = .ok (.ishr, 1) := by decide +kernel
theorem dX10_matched_95 : decode cX10_matched 95 = .ok (.iconst 1, 1) := by decide +kernel
theorem dX10_matched_96 : decode cX10_matched 96 = .ok (.iand, 1) := by decide +kernel
theorem dX10_matched_97 : decode cX10_matched 97 = .ok (.iconst 1, 1) := by decide +kernel
theorem dX10_matched_98 : decode cX10_matched 98 = .ok (.if_icmp .eq 46, 3) := by decide +kernel
theorem dX10_matched_101 : decode cX10_matched 101 = .ok (.aload_n 0, 1) := by decide +kernel
theorem dX10_matched_102 : decode cX10_matched 102 = .ok (.iload 4, 2) := by decide +kernel
theorem dX10_matched_104 : decode cX10_matched 104 = .ok (.iload_n 3, 1) := by decide +kernel
theorem dX10_matched_105 : decode cX10_matched 105 = .ok (.invokevirtual 108, 3) := by decide +kernel
theorem dX10_matched_108 : decode cX10_matched 108 = .ok (.iconst (-1), 1) := by decide +kernel
theorem dX10_matched_109 : decode cX10_matched 109 = .ok (.if_icmp .eq 35, 3) := by decide +kernel
theorem dX10_matched_112 : decode cX10_matched 112 = .ok (.aload_n 0, 1) := by decide +kernel
theorem dX10_matched_113 : decode cX10_matched 113 = .ok (.iload 4, 2) := by decide +kernel
theorem dX10_matched_115 : decode cX10_matched 115 = .ok (.iload_n 3, 1) := by decide +kernel
theorem dX10_matched_116 : decode cX10_matched 116 = .ok (.invokevirtual 108, 3) := by decide +kernel
theorem dX10_matched_119 : decode cX10_matched 119 = .ok (.aload_n 0, 1) := by decide +kernel
theorem dX10_matched_120 : decode cX10_matched 120 = .ok (.getfield 22, 3) := by decide +kernel
theorem dX10_matched_123 : decode cX10_matched 123 = .ok (.sipush 256, 3) := by decide +kernel
theorem dX10_matched_126 : decode cX10_matched 126 = .ok (.iload 4, 2) := by decide +kernel
theorem dX10_matched_128 : decode cX10_matched 128 = .ok (.iconst 1, 1) := by decide +kernel
theorem dX10_matched_129 : decode cX10_matched 129 = .ok (.iadd, 1) := by decide +kernel
theorem dX10_matched_130 : decode cX10_matched 130 = .ok (.imul, 1) := by decide +kernel
theorem dX10_matched_131 : decode cX10_matched 131 = .ok (.iload_n 2, 1) := by decide +kernel
theorem dX10_matched_132 : decode cX10_matched 132 = .ok (.iconst 1, 1) := by decide +kernel
theorem dX10_matched_133 : decode cX10_matched 133 = .ok (.iload_n 3, 1) := by decide +kernel
theorem dX10_matched_134 : decode cX10_matched 134 = .ok (.ishl, 1) := by decide +kernel
theorem dX10_matched_135 : decode cX10_matched 135 = .ok (.ior, 1) := by decide +kernel
theorem dX10_matched_136 : decode cX10_matched 136 = .ok (.iadd, 1) := by decide +kernel
theorem dX10_matched_137 : decode cX10_matched 137 = .ok (.iaload, 1) := by decide +kernel
theorem dX10_matched_138 : decode cX10_matched 138 = .ok (.iadd, 1) := by decide +kernel
theorem dX10_matched_139 : decode cX10_matched 139 = .ok (.iload 5, 2) := by decide +kernel
theorem dX10_matched_141 : decode cX10_matched 141 = .ok (.if_icmp .eq 9, 3) := by decide +kernel
theorem dX10_matched_144 : decode cX10_matched 144 = .ok (.iinc 3 1, 3) := by decide +kernel
theorem dX10_matched_147 : decode cX10_matched 147 = .ok (.goto (-55), 3) := by decide +kernel
theorem dX10_matched_150 : decode cX10_matched 150 = .ok (.iload_n 2, 1) := by decide +kernel
theorem dX10_matched_151 : decode cX10_matched 151 = .ok (.iconst 1, 1) := by decide +kernel
theorem dX10_matched_152 : decode cX10_matched 152 = .ok (.iload_n 3, 1) := by decide +kernel
theorem dX10_matched_153 : decode cX10_matched 153 = .ok (.ishl, 1) := by decide +kernel
theorem dX10_matched_154 : decode cX10_matched 154 = .ok (.ior, 1) := by decide +kernel
theorem dX10_matched_155 : decode cX10_matched 155 = .ok (.istore_n 2, 1) := by decide +kernel
theorem dX10_matched_156 : decode cX10_matched 156 = .ok (.iinc 4 1, 3) := by decide +kernel
theorem dX10_matched_159 : decode cX10_matched 159 = .ok (.goto (-117), 3) := by decide +kernel
theorem dX10_matched_162 : decode cX10_matched 162 = .ok (.iload_n 3, 1) := by decide +kernel
theorem dX10_matched_163 : decode cX10_matched 163 = .ok (.ireturn, 1) := by decide +kernel
set_option maxRecDepth 100000 in
def fX10_matched_L2 (u8 : Int32) (u10 : Int32) (t_baseWay : Int32) (t_low : Int32) (t_high : Int32) (t_unlike : Int32) (t_layers : Int32) (t_lean_a : Nat → Int32) (t_word_a : Nat → Int32) (t_layer_a : Nat → Int32) (w5 : Nat → Int32) (v13 : Int32) : Int32 → Option ((Int32) ⊕ (Int32)) := fun (u20 : Int32) =>
  if ((u8 >>> (u20 &&& 31)) &&& 1) = 1 then
    bv (u20 + 1) fun v22 =>
    some (.inr v22)
  else
    ob (fX10_costOf u10 u20 t_baseWay t_low t_high t_unlike t_layers t_lean_a t_word_a t_layer_a) fun r23 =>
    if r23 = (-1) then
      bv (u20 + 1) fun v26 =>
      some (.inr v26)
    else
      ob (fX10_costOf u10 u20 t_baseWay t_low t_high t_unlike t_layers t_lean_a t_word_a t_layer_a) fun r27 =>
      gd (bnd ((256 * (u10 + 1)) + (u8 ||| ((1 : Int32) <<< (u20 &&& 31)))) 2304) <|
      if (r27 + (w5 (Int32.toNatClampNeg ((256 * (u10 + 1)) + (u8 ||| ((1 : Int32) <<< (u20 &&& 31))))))) = v13 then
        some (.inl u20)
      else
        bv (u20 + 1) fun v31 =>
        some (.inr v31)
set_option maxRecDepth 100000 in
def fX10_matched_L1 (x1 : Int32) (w5 : Nat → Int32) (t_alone : Int32) (t_baseWay : Int32) (t_low : Int32) (t_high : Int32) (t_unlike : Int32) (t_layers : Int32) (t_lean_a : Nat → Int32) (t_word_a : Nat → Int32) (t_layer_a : Nat → Int32) : (Int32 × Int32 × Int32) → Option ((Int32) ⊕ (Int32 × Int32 × Int32)) := un3 fun (u8 : Int32) (u9 : Int32) (u10 : Int32) =>
  if x1 < u10 then
    some (.inl u9)
  else
    gd (bnd ((256 * u10) + u8) 2304) <|
    bv (w5 (Int32.toNatClampNeg ((256 * u10) + u8))) fun v13 =>
    gd (bnd ((256 * (u10 + 1)) + u8) 2304) <|
    ob2 (α0 := Int32) (α1 := Int32) (
        if (t_alone + (w5 (Int32.toNatClampNeg ((256 * (u10 + 1)) + u8)))) = v13 then
          some ((-1), u8)
        else
          ob (it (fX10_matched_L2 u8 u10 t_baseWay t_low t_high t_unlike t_layers t_lean_a t_word_a t_layer_a w5 v13) 100000 0) fun x32 =>
          bv (u8 ||| ((1 : Int32) <<< (x32 &&& 31))) fun v33 =>
          some (x32, v33)
      ) fun m15 m16 =>
    bv (u10 + 1) fun v34 =>
    some (.inr (m16, m15, v34))
set_option maxRecDepth 100000 in
def fX10_matched (x1 : Int32) (t_baseWay : Int32) (t_low : Int32) (t_high : Int32) (t_unlike : Int32) (t_alone : Int32) (t_layers : Int32) (t_edges_a : Nat → Int32) (t_lean_a : Nat → Int32) (t_word_a : Nat → Int32) (t_layer_a : Nat → Int32) (t_least_a : Nat → Int32) : Option (Int32 × (Nat → Int32)) :=
  gd (bnd 0 2) <|
  ob (fX10_in x1 (-1) ((t_edges_a (Int32.toNatClampNeg 0)) - 1)) fun r2 =>
  if (b2i r2) = 0 then
    some ((-10), t_least_a)
  else
    ob (fX10_findLeast t_baseWay t_low t_high t_unlike t_alone t_layers t_edges_a t_lean_a t_word_a t_layer_a t_least_a) fun w5 =>
    if x1 = (-1) then
      gd (bnd 0 2304) <|
      some (w5 (Int32.toNatClampNeg 0), w5)
    else
      ob (it (fX10_matched_L1 x1 w5 t_alone t_baseWay t_low t_high t_unlike t_layers t_lean_a t_word_a t_layer_a) 100000 (0, (-1), 0)) fun x35 =>
      some (x35, w5)
abbrev rmX10_matched : Room := { frames := 2, cells := 0, slots := 0, locals := 58 }
theorem iwX10_matched_X10 : ∀ w ∈ u_ws RX10 TX10 36, w ∈ wsX10_matched := by decide +kernel
set_option maxHeartbeats 4000000 in
set_option maxRecDepth 100000 in
theorem k_X10_matched (l : Launch) (G : va_G) (cI cJ : ClassId) (t_h t_edges_h t_lean_h t_word_h t_layer_h t_least_h t_sight_h t_shadow_h t_spanLow_h t_spanHigh_h t_spanAt_h t_numbers_h t_pair_h t_most_h t_row_h t_under_h t_agreed_h : Nat) (sz : Nat) (t_baseWay : Int32) (t_slip : Int32) (t_low : Int32) (t_high : Int32) (t_unlike : Int32) (t_alone : Int32) (t_above : Int64) (t_below : Int64) (t_layers : Int32) (t_sights : Int32) (t_shadows : Int32) (t_endAbove : Int64) (t_endBelow : Int64) (t_speedAbove : Int64) (t_speedBelow : Int64) (t_spans : Int32) (t_found : Int32) (t_pairs : Int32) (t_rows : Int32) (t_notes : Int32) (t_edges_a : Nat → Int32) (t_lean_a : Nat → Int32) (t_word_a : Nat → Int32) (t_layer_a : Nat → Int32) (t_least_a : Nat → Int32) (x1 : Int32) {o_r : Int32} {o_t_least_a : Nat → Int32} (hf : fX10_matched x1 t_baseWay t_low t_high t_unlike t_alone t_layers t_edges_a t_lean_a t_word_a t_layer_a t_least_a = some (o_r, o_t_least_a)) : MetI l yX10_matched wsX10_matched rmX10_matched [.ref t_h, .int x1] G cI cJ [(t_h, .inr (10, [.int t_baseWay, .int t_slip, .int t_low, .int t_high, .int t_unlike, .int t_alone, .long t_above, .long t_below, .ref t_edges_h, .ref t_lean_h, .ref t_word_h, .int t_layers, .ref t_layer_h, .ref t_least_h, .int t_sights, .ref t_sight_h, .int t_shadows, .ref t_shadow_h, .long t_endAbove, .long t_endBelow, .long t_speedAbove, .long t_speedBelow, .int t_spans, .ref t_spanLow_h, .ref t_spanHigh_h, .ref t_spanAt_h, .int t_found, .ref t_numbers_h, .int t_pairs, .ref t_pair_h, .ref t_most_h, .int t_rows, .ref t_row_h, .int t_notes, .ref t_under_h, .ref t_agreed_h])), (t_edges_h, .inl (cI, 2, .inl t_edges_a)), (t_lean_h, .inl (cI, 16, .inl t_lean_a)), (t_word_h, .inl (cI, 16, .inl t_word_a)), (t_layer_h, .inl (cI, 6, .inl t_layer_a)), (t_least_h, .inl (cI, 2304, .inl t_least_a))] [(t_h, .inr (10, [.int t_baseWay, .int t_slip, .int t_low, .int t_high, .int t_unlike, .int t_alone, .long t_above, .long t_below, .ref t_edges_h, .ref t_lean_h, .ref t_word_h, .int t_layers, .ref t_layer_h, .ref t_least_h, .int t_sights, .ref t_sight_h, .int t_shadows, .ref t_shadow_h, .long t_endAbove, .long t_endBelow, .long t_speedAbove, .long t_speedBelow, .int t_spans, .ref t_spanLow_h, .ref t_spanHigh_h, .ref t_spanAt_h, .int t_found, .ref t_numbers_h, .int t_pairs, .ref t_pair_h, .ref t_most_h, .int t_rows, .ref t_row_h, .int t_notes, .ref t_under_h, .ref t_agreed_h])), (t_edges_h, .inl (cI, 2, .inl t_edges_a)), (t_lean_h, .inl (cI, 16, .inl t_lean_a)), (t_word_h, .inl (cI, 16, .inl t_word_a)), (t_layer_h, .inl (cI, 6, .inl t_layer_a)), (t_least_h, .inl (cI, 2304, .inl o_t_least_a))] sz o_r := by
  refine en_0 (l := l) (y := yX10_matched) (wsl := wsX10_matched) (rm := rmX10_matched) (av := [.ref t_h, .int x1]) (G := G) (cI := cI) (cJ := cJ) (w0 := [(t_h, .inr (10, [.int t_baseWay, .int t_slip, .int t_low, .int t_high, .int t_unlike, .int t_alone, .long t_above, .long t_below, .ref t_edges_h, .ref t_lean_h, .ref t_word_h, .int t_layers, .ref t_layer_h, .ref t_least_h, .int t_sights, .ref t_sight_h, .int t_shadows, .ref t_shadow_h, .long t_endAbove, .long t_endBelow, .long t_speedAbove, .long t_speedBelow, .int t_spans, .ref t_spanLow_h, .ref t_spanHigh_h, .ref t_spanAt_h, .int t_found, .ref t_numbers_h, .int t_pairs, .ref t_pair_h, .ref t_most_h, .int t_rows, .ref t_row_h, .int t_notes, .ref t_under_h, .ref t_agreed_h])), (t_edges_h, .inl (cI, 2, .inl t_edges_a)), (t_lean_h, .inl (cI, 16, .inl t_lean_a)), (t_word_h, .inl (cI, 16, .inl t_word_a)), (t_layer_h, .inl (cI, 6, .inl t_layer_a)), (t_least_h, .inl (cI, 2304, .inl t_least_a))]) (sz := sz) (Qf := fun A => Qi0 G cI cJ [(t_h, .inr (10, [.int t_baseWay, .int t_slip, .int t_low, .int t_high, .int t_unlike, .int t_alone, .long t_above, .long t_below, .ref t_edges_h, .ref t_lean_h, .ref t_word_h, .int t_layers, .ref t_layer_h, .ref t_least_h, .int t_sights, .ref t_sight_h, .int t_shadows, .ref t_shadow_h, .long t_endAbove, .long t_endBelow, .long t_speedAbove, .long t_speedBelow, .int t_spans, .ref t_spanLow_h, .ref t_spanHigh_h, .ref t_spanAt_h, .int t_found, .ref t_numbers_h, .int t_pairs, .ref t_pair_h, .ref t_most_h, .int t_rows, .ref t_row_h, .int t_notes, .ref t_under_h, .ref t_agreed_h])), (t_edges_h, .inl (cI, 2, .inl t_edges_a)), (t_lean_h, .inl (cI, 16, .inl t_lean_a)), (t_word_h, .inl (cI, 16, .inl t_word_a)), (t_layer_h, .inl (cI, 6, .inl t_layer_a)), (t_least_h, .inl (cI, 2304, .inl o_t_least_a))] o_r A) (cc := cX10_matched) (maxL := 6) (ret := (some .int)) RX10 (by decide +kernel) rfl rfl (Nat.le_of_ble_eq_true rfl) ?_
  intro p e s m args below meth c A ls Q hQ hx hb hr hts hown hlocks hml hN hK hP hD hS hA hl
  have hl : lv_has ls 6 [(0, .ref t_h), (1, .int x1)] := hl
  have iwX10 := iwX10_matched_X10
  have fl_7 := hts (.fieldLink RX10 7 "CloudOfficeModel" "edges" "[I") (by decide +kernel)
  have fl_22 := hts (.fieldLink RX10 22 "CloudOfficeModel" "least" "[I") (by decide +kernel)
  have fl_74 := hts (.fieldLink RX10 74 "CloudOfficeModel" "alone" "I") (by decide +kernel)
  have hret : ∀ (o_r9 : Int32) (o_t_least_a9 : Nat → Int32) (pc : Nat) (H : Heap) (locs : List Loc) (ls : Array Slot), decode cX10_matched pc = .ok (.ireturn, 1) → some (o_r9, o_t_least_a9) = some (o_r, o_t_least_a) → va_P G vwCl [(t_h, .inr (10, [.int t_baseWay, .int t_slip, .int t_low, .int t_high, .int t_unlike, .int t_alone, .long t_above, .long t_below, .ref t_edges_h, .ref t_lean_h, .ref t_word_h, .int t_layers, .ref t_layer_h, .ref t_least_h, .int t_sights, .ref t_sight_h, .int t_shadows, .ref t_shadow_h, .long t_endAbove, .long t_endBelow, .long t_speedAbove, .long t_speedBelow, .int t_spans, .ref t_spanLow_h, .ref t_spanHigh_h, .ref t_spanAt_h, .int t_found, .ref t_numbers_h, .int t_pairs, .ref t_pair_h, .ref t_most_h, .int t_rows, .ref t_row_h, .int t_notes, .ref t_under_h, .ref t_agreed_h])), (t_edges_h, .inl (cI, 2, .inl t_edges_a)), (t_lean_h, .inl (cI, 16, .inl t_lean_a)), (t_word_h, .inl (cI, 16, .inl t_word_a)), (t_layer_h, .inl (cI, 6, .inl t_layer_a)), (t_least_h, .inl (cI, 2304, .inl o_t_least_a9))] H → va_D A [(t_h, .inr (10, [.int t_baseWay, .int t_slip, .int t_low, .int t_high, .int t_unlike, .int t_alone, .long t_above, .long t_below, .ref t_edges_h, .ref t_lean_h, .ref t_word_h, .int t_layers, .ref t_layer_h, .ref t_least_h, .int t_sights, .ref t_sight_h, .int t_shadows, .ref t_shadow_h, .long t_endAbove, .long t_endBelow, .long t_speedAbove, .long t_speedBelow, .int t_spans, .ref t_spanLow_h, .ref t_spanHigh_h, .ref t_spanAt_h, .int t_found, .ref t_numbers_h, .int t_pairs, .ref t_pair_h, .ref t_most_h, .int t_rows, .ref t_row_h, .int t_notes, .ref t_under_h, .ref t_agreed_h])), (t_edges_h, .inl (cI, 2, .inl t_edges_a)), (t_lean_h, .inl (cI, 16, .inl t_lean_a)), (t_word_h, .inl (cI, 16, .inl t_word_a)), (t_layer_h, .inl (cI, 6, .inl t_layer_a)), (t_least_h, .inl (cI, 2304, .inl o_t_least_a9))] → va_S A s.heap H locs → W p l e rmX10_matched s m args below meth c H locs 0 0 Q (F0 m pc ls [.int o_r9]) := by
    intro o_r9 o_t_least_a9 pc H locs ls hdg he hP hD hS
    cases he
    subst hQ
    exact rt_i hx hb hr hlocks hK hP hD hS rfl hdg
  clear hQ
  unfold fX10_matched at hf
  refine lv_iload_n hx hb dX10_matched_0 rfl (lv_at hl 1 rfl) ?_
  refine lv_iconst (v := (-1)) hx hb dX10_matched_1 (by decide) ?_
  refine lv_aload_n hx hb dX10_matched_2 rfl (lv_at hl 0 rfl) ?_
  refine va_get (D := G) (ci := 10) (v := .ref t_edges_h) (C := RX10) (T := TX10) (N := 36) hx hb hts iwX10 hown hK hP 0 rfl rfl 8 (by decide) fl_7 (fun _ h9 => h9) rfl dX10_matched_3 ?_
  refine lv_iconst (v := 0) hx hb dX10_matched_6 (by decide) ?_
  obtain ⟨h1, hf⟩ := gd_some hf
  refine va_iald hx hb hK hP 1 0 rfl rfl (bnd_in h1) dX10_matched_7 ?_
  refine lv_iconst (v := 1) hx hb dX10_matched_8 (by decide) ?_
  refine lv_isub hx hb dX10_matched_9 ?_
  obtain ⟨r2, hc3, hf⟩ := ob_some hf
  refine af_iR (va_runS (As := [.int x1, .int (-1), .int ((t_edges_a (Int32.toNatClampNeg 0)) - 1)]) (rest := []) ⟨hx, hb, hml, hown, hts⟩ (k_X10_in l G cI cJ (x0 := x1) (x1 := (-1)) (x2 := ((t_edges_a (Int32.toNatClampNeg 0)) - 1)) (sz := _) (hf := hc3)) (va_cwS 3 hts gX10_matched_X10_in rfl rfl rfl (by decide +kernel) ⟨Nat.le_of_ble_eq_true rfl, Nat.le_of_ble_eq_true rfl⟩) (preS0 (wc := []) hK hP hD hN [] rfl rfl (by decide)) rfl rfl hl.1 rfl (lv_room (Nat.le_of_ble_eq_true rfl)) dX10_matched_10 ⟨Nat.zero_le _, Nat.zero_le _⟩) hP hD hS hA [] rfl (fun H locs hP hS => ?_)
  refine lv_if_ne (tgt := 19) hx hb dX10_matched_13 (by decide) (fun c4 => ?_) (fun c4 => ?_)
  · have hf := iff_ hf c4
    refine lv_aload_n hx hb dX10_matched_19 rfl (lv_at hl 0 rfl) ?_
    obtain ⟨w5, hc6, hf⟩ := ob_some hf
    refine af_vW (wr := []) (ws2 := [(t_h, .inr (10, [.int t_baseWay, .int t_slip, .int t_low, .int t_high, .int t_unlike, .int t_alone, .long t_above, .long t_below, .ref t_edges_h, .ref t_lean_h, .ref t_word_h, .int t_layers, .ref t_layer_h, .ref t_least_h, .int t_sights, .ref t_sight_h, .int t_shadows, .ref t_shadow_h, .long t_endAbove, .long t_endBelow, .long t_speedAbove, .long t_speedBelow, .int t_spans, .ref t_spanLow_h, .ref t_spanHigh_h, .ref t_spanAt_h, .int t_found, .ref t_numbers_h, .int t_pairs, .ref t_pair_h, .ref t_most_h, .int t_rows, .ref t_row_h, .int t_notes, .ref t_under_h, .ref t_agreed_h])), (t_edges_h, .inl (cI, 2, .inl t_edges_a)), (t_lean_h, .inl (cI, 16, .inl t_lean_a)), (t_word_h, .inl (cI, 16, .inl t_word_a)), (t_layer_h, .inl (cI, 6, .inl t_layer_a)), (t_least_h, .inl (cI, 2304, .inl w5))]) (va_runV (As := []) (rest := []) ⟨hx, hb, hml, hown, hts⟩ (k_X10_findLeast l G cI cJ (t_h := t_h) (t_edges_h := t_edges_h) (t_lean_h := t_lean_h) (t_word_h := t_word_h) (t_layer_h := t_layer_h) (t_least_h := t_least_h) (t_sight_h := t_sight_h) (t_shadow_h := t_shadow_h) (t_spanLow_h := t_spanLow_h) (t_spanHigh_h := t_spanHigh_h) (t_spanAt_h := t_spanAt_h) (t_numbers_h := t_numbers_h) (t_pair_h := t_pair_h) (t_most_h := t_most_h) (t_row_h := t_row_h) (t_under_h := t_under_h) (t_agreed_h := t_agreed_h) (t_baseWay := t_baseWay) (t_slip := t_slip) (t_low := t_low) (t_high := t_high) (t_unlike := t_unlike) (t_alone := t_alone) (t_above := t_above) (t_below := t_below) (t_layers := t_layers) (t_sights := t_sights) (t_shadows := t_shadows) (t_endAbove := t_endAbove) (t_endBelow := t_endBelow) (t_speedAbove := t_speedAbove) (t_speedBelow := t_speedBelow) (t_spans := t_spans) (t_found := t_found) (t_pairs := t_pairs) (t_rows := t_rows) (t_notes := t_notes) (t_edges_a := t_edges_a) (t_lean_a := t_lean_a) (t_word_a := t_word_a) (t_layer_a := t_layer_a) (t_least_a := t_least_a) (sz := _) (hf := hc6)) (cwV 0 hts gX10_matched_X10_findLeast rfl rfl rfl (by decide +kernel) ⟨Nat.le_of_ble_eq_true rfl, Nat.le_of_ble_eq_true rfl⟩) (preV0 (ci := 10) (q0 := 0) (C := RX10) (wc := [(t_h, .inr (10, [.int t_baseWay, .int t_slip, .int t_low, .int t_high, .int t_unlike, .int t_alone, .long t_above, .long t_below, .ref t_edges_h, .ref t_lean_h, .ref t_word_h, .int t_layers, .ref t_layer_h, .ref t_least_h, .int t_sights, .ref t_sight_h, .int t_shadows, .ref t_shadow_h, .long t_endAbove, .long t_endBelow, .long t_speedAbove, .long t_speedBelow, .int t_spans, .ref t_spanLow_h, .ref t_spanHigh_h, .ref t_spanAt_h, .int t_found, .ref t_numbers_h, .int t_pairs, .ref t_pair_h, .ref t_most_h, .int t_rows, .ref t_row_h, .int t_notes, .ref t_under_h, .ref t_agreed_h])), (t_edges_h, .inl (cI, 2, .inl t_edges_a)), (t_lean_h, .inl (cI, 16, .inl t_lean_a)), (t_word_h, .inl (cI, 16, .inl t_word_a)), (t_layer_h, .inl (cI, 6, .inl t_layer_a)), (t_least_h, .inl (cI, 2304, .inl t_least_a))]) hK hP hD hN [0, 1, 2, 3, 4, 5] rfl rfl (by decide) rfl rfl) rfl rfl hl.1 rfl (lv_room (Nat.le_of_ble_eq_true rfl)) dX10_matched_20 ⟨Nat.zero_le _, Nat.zero_le _⟩) hP hD hS hA [0, 1, 2, 3, 4, 5] [] [0, 1, 2, 3, 4, 5] rfl rfl (by decide) (by decide) rfl rfl (by decide) (fun H locs hP hD hS => ?_)
    refine lv_iload_n hx hb dX10_matched_23 rfl (lv_at hl 1 rfl) ?_
    refine lv_iconst (v := (-1)) hx hb dX10_matched_24 (by decide) ?_
    refine lv_icmp_ne (tgt := 35) hx hb dX10_matched_25 (by decide) (fun c7 => ?_) (fun c7 => ?_)
    · have hf := iff_ hf c7
      refine lv_iconst (v := 0) hx hb dX10_matched_35 (by decide) ?_
      refine lv_istore_n (lv' := [(2, .int 0), (0, .ref t_h), (1, .int x1)]) hx hb dX10_matched_36 rfl hl (by decide) rfl (fun ls hl => ?_)
      refine lv_iconst (v := (-1)) hx hb dX10_matched_37 (by decide) ?_
      refine lv_istore_n (lv' := [(3, .int (-1)), (2, .int 0), (0, .ref t_h), (1, .int x1)]) hx hb dX10_matched_38 rfl hl (by decide) rfl (fun ls hl => ?_)
      refine lv_iconst (v := 0) hx hb dX10_matched_39 (by decide) ?_
      refine lv_istore (lv' := [(4, .int 0), (3, .int (-1)), (2, .int 0), (0, .ref t_h), (1, .int x1)]) hx hb dX10_matched_40 hl (by decide) rfl (fun ls hl => ?_)
      obtain ⟨x35, ht1, hf⟩ := ob_some hf
      have hx1_0 : ∀ (x359 : Int32), x359 = x35 → ∀ (H : Heap) (locs : List Loc) (ls : Array Slot), va_P G vwCl [(t_h, .inr (10, [.int t_baseWay, .int t_slip, .int t_low, .int t_high, .int t_unlike, .int t_alone, .long t_above, .long t_below, .ref t_edges_h, .ref t_lean_h, .ref t_word_h, .int t_layers, .ref t_layer_h, .ref t_least_h, .int t_sights, .ref t_sight_h, .int t_shadows, .ref t_shadow_h, .long t_endAbove, .long t_endBelow, .long t_speedAbove, .long t_speedBelow, .int t_spans, .ref t_spanLow_h, .ref t_spanHigh_h, .ref t_spanAt_h, .int t_found, .ref t_numbers_h, .int t_pairs, .ref t_pair_h, .ref t_most_h, .int t_rows, .ref t_row_h, .int t_notes, .ref t_under_h, .ref t_agreed_h])), (t_edges_h, .inl (cI, 2, .inl t_edges_a)), (t_lean_h, .inl (cI, 16, .inl t_lean_a)), (t_word_h, .inl (cI, 16, .inl t_word_a)), (t_layer_h, .inl (cI, 6, .inl t_layer_a)), (t_least_h, .inl (cI, 2304, .inl w5))] H → va_D A [(t_h, .inr (10, [.int t_baseWay, .int t_slip, .int t_low, .int t_high, .int t_unlike, .int t_alone, .long t_above, .long t_below, .ref t_edges_h, .ref t_lean_h, .ref t_word_h, .int t_layers, .ref t_layer_h, .ref t_least_h, .int t_sights, .ref t_sight_h, .int t_shadows, .ref t_shadow_h, .long t_endAbove, .long t_endBelow, .long t_speedAbove, .long t_speedBelow, .int t_spans, .ref t_spanLow_h, .ref t_spanHigh_h, .ref t_spanAt_h, .int t_found, .ref t_numbers_h, .int t_pairs, .ref t_pair_h, .ref t_most_h, .int t_rows, .ref t_row_h, .int t_notes, .ref t_under_h, .ref t_agreed_h])), (t_edges_h, .inl (cI, 2, .inl t_edges_a)), (t_lean_h, .inl (cI, 16, .inl t_lean_a)), (t_word_h, .inl (cI, 16, .inl t_word_a)), (t_layer_h, .inl (cI, 6, .inl t_layer_a)), (t_least_h, .inl (cI, 2304, .inl w5))] → va_S A s.heap H locs → lv_has ls 6 [(3, .int x359)] → W p l e rmX10_matched s m args below meth c H locs 0 0 Q (F0 m 162 ls []) := by
        intro x359 he H locs ls hP hD hS hl
        cases he
        refine lv_iload_n hx hb dX10_matched_162 rfl (lv_at hl 0 rfl) ?_
        exact hret x35 w5 163 _ _ _ dX10_matched_163 hf hP hD hS
      clear hf
      have hl1 : ∀ (n : Nat) (u8 : Int32) (u9 : Int32) (u10 : Int32), it (fX10_matched_L1 x1 w5 t_alone t_baseWay t_low t_high t_unlike t_layers t_lean_a t_word_a t_layer_a) n (u8, u9, u10) = some x35 → ∀ (H : Heap) (locs : List Loc) (ls : Array Slot), va_P G vwCl [(t_h, .inr (10, [.int t_baseWay, .int t_slip, .int t_low, .int t_high, .int t_unlike, .int t_alone, .long t_above, .long t_below, .ref t_edges_h, .ref t_lean_h, .ref t_word_h, .int t_layers, .ref t_layer_h, .ref t_least_h, .int t_sights, .ref t_sight_h, .int t_shadows, .ref t_shadow_h, .long t_endAbove, .long t_endBelow, .long t_speedAbove, .long t_speedBelow, .int t_spans, .ref t_spanLow_h, .ref t_spanHigh_h, .ref t_spanAt_h, .int t_found, .ref t_numbers_h, .int t_pairs, .ref t_pair_h, .ref t_most_h, .int t_rows, .ref t_row_h, .int t_notes, .ref t_under_h, .ref t_agreed_h])), (t_edges_h, .inl (cI, 2, .inl t_edges_a)), (t_lean_h, .inl (cI, 16, .inl t_lean_a)), (t_word_h, .inl (cI, 16, .inl t_word_a)), (t_layer_h, .inl (cI, 6, .inl t_layer_a)), (t_least_h, .inl (cI, 2304, .inl w5))] H → va_D A [(t_h, .inr (10, [.int t_baseWay, .int t_slip, .int t_low, .int t_high, .int t_unlike, .int t_alone, .long t_above, .long t_below, .ref t_edges_h, .ref t_lean_h, .ref t_word_h, .int t_layers, .ref t_layer_h, .ref t_least_h, .int t_sights, .ref t_sight_h, .int t_shadows, .ref t_shadow_h, .long t_endAbove, .long t_endBelow, .long t_speedAbove, .long t_speedBelow, .int t_spans, .ref t_spanLow_h, .ref t_spanHigh_h, .ref t_spanAt_h, .int t_found, .ref t_numbers_h, .int t_pairs, .ref t_pair_h, .ref t_most_h, .int t_rows, .ref t_row_h, .int t_notes, .ref t_under_h, .ref t_agreed_h])), (t_edges_h, .inl (cI, 2, .inl t_edges_a)), (t_lean_h, .inl (cI, 16, .inl t_lean_a)), (t_word_h, .inl (cI, 16, .inl t_word_a)), (t_layer_h, .inl (cI, 6, .inl t_layer_a)), (t_least_h, .inl (cI, 2304, .inl w5))] → va_S A s.heap H locs → lv_has ls 6 [(0, .ref t_h), (1, .int x1), (2, .int u8), (3, .int u9), (4, .int u10)] → W p l e rmX10_matched s m args below meth c H locs 0 0 Q (F0 m 42 ls []) := by
        intro n
        induction n with
        | zero => intro u8 u9 u10 hz; exact (it_zero hz).elim
        | succ n ih =>
          intro u8 u9 u10 hz H locs ls hP hD hS hl
          obtain ⟨x9, hf, hq⟩ := it_succ hz
          unfold fX10_matched_L1 at hf
          dsimp only [un3] at hf
          refine lv_iload hx hb dX10_matched_42 (lv_at hl 4 rfl) ?_
          refine lv_iload_n hx hb dX10_matched_44 rfl (lv_at hl 1 rfl) ?_
          refine lv_icmp_gt (tgt := 162) hx hb dX10_matched_45 (by decide) (fun c11 => ?_) (fun c11 => ?_)
          · have hf := ift hf c11
            cases hf
            exact hx1_0 _ hq _ _ _ hP hD hS (lv_sub hl [3] rfl)
          · have hf := iff_ hf c11
            refine lv_aload_n hx hb dX10_matched_48 rfl (lv_at hl 0 rfl) ?_
            refine va_get (D := G) (ci := 10) (v := .ref t_least_h) (C := RX10) (T := TX10) (N := 36) hx hb hts iwX10 hown hK hP 0 rfl rfl 13 (by decide) fl_22 (fun _ h9 => h9) rfl dX10_matched_49 ?_
            refine lv_sipush (v := 256) hx hb dX10_matched_52 (by decide) ?_
            refine lv_iload hx hb dX10_matched_55 (lv_at hl 4 rfl) ?_
            refine lv_imul hx hb dX10_matched_57 ?_
            refine lv_iload_n hx hb dX10_matched_58 rfl (lv_at hl 2 rfl) ?_
            refine lv_iadd hx hb dX10_matched_59 ?_
            obtain ⟨h12, hf⟩ := gd_some hf
            refine va_iald hx hb hK hP 5 0 rfl rfl (bnd_in h12) dX10_matched_60 ?_
            refine lv_topi (fun v13 ev13 => ?_)
            have hf := bv_at ev13 hf
            refine lv_istore (lv' := [(5, .int v13), (0, .ref t_h), (1, .int x1), (2, .int u8), (3, .int u9), (4, .int u10)]) hx hb dX10_matched_61 hl (by decide) rfl (fun ls hl => ?_)
            refine lv_iconst (v := (-1)) hx hb dX10_matched_63 (by decide) ?_
            refine lv_istore_n (lv' := [(3, .int (-1)), (5, .int v13), (0, .ref t_h), (1, .int x1), (2, .int u8), (4, .int u10)]) hx hb dX10_matched_64 rfl hl (by decide) rfl (fun ls hl => ?_)
            refine lv_aload_n hx hb dX10_matched_65 rfl (lv_at hl 2 rfl) ?_
            refine va_get (D := G) (ci := 10) (v := .int t_alone) (C := RX10) (T := TX10) (N := 36) hx hb hts iwX10 hown hK hP 0 rfl rfl 5 (by decide) fl_74 (fun _ h9 => h9) rfl dX10_matched_66 ?_
            refine lv_aload_n hx hb dX10_matched_69 rfl (lv_at hl 2 rfl) ?_
            refine va_get (D := G) (ci := 10) (v := .ref t_least_h) (C := RX10) (T := TX10) (N := 36) hx hb hts iwX10 hown hK hP 0 rfl rfl 13 (by decide) fl_22 (fun _ h9 => h9) rfl dX10_matched_70 ?_
            refine lv_sipush (v := 256) hx hb dX10_matched_73 (by decide) ?_
            refine lv_iload hx hb dX10_matched_76 (lv_at hl 5 rfl) ?_
            refine lv_iconst (v := 1) hx hb dX10_matched_78 (by decide) ?_
            refine lv_iadd hx hb dX10_matched_79 ?_
            refine lv_imul hx hb dX10_matched_80 ?_
            refine lv_iload_n hx hb dX10_matched_81 rfl (lv_at hl 4 rfl) ?_
            refine lv_iadd hx hb dX10_matched_82 ?_
            obtain ⟨h14, hf⟩ := gd_some hf
            refine va_iald hx hb hK hP 5 0 rfl rfl (bnd_in h14) dX10_matched_83 ?_
            refine lv_iadd hx hb dX10_matched_84 ?_
            refine lv_iload hx hb dX10_matched_85 (lv_at hl 1 rfl) ?_
            obtain ⟨m15, m16, hr17, hf⟩ := ob2_some hf
            have hj18 : ∀ (m159 : Int32) (m169 : Int32), some (m159, m169) = some (m15, m16) → ∀ (H : Heap) (locs : List Loc) (ls : Array Slot), va_P G vwCl [(t_h, .inr (10, [.int t_baseWay, .int t_slip, .int t_low, .int t_high, .int t_unlike, .int t_alone, .long t_above, .long t_below, .ref t_edges_h, .ref t_lean_h, .ref t_word_h, .int t_layers, .ref t_layer_h, .ref t_least_h, .int t_sights, .ref t_sight_h, .int t_shadows, .ref t_shadow_h, .long t_endAbove, .long t_endBelow, .long t_speedAbove, .long t_speedBelow, .int t_spans, .ref t_spanLow_h, .ref t_spanHigh_h, .ref t_spanAt_h, .int t_found, .ref t_numbers_h, .int t_pairs, .ref t_pair_h, .ref t_most_h, .int t_rows, .ref t_row_h, .int t_notes, .ref t_under_h, .ref t_agreed_h])), (t_edges_h, .inl (cI, 2, .inl t_edges_a)), (t_lean_h, .inl (cI, 16, .inl t_lean_a)), (t_word_h, .inl (cI, 16, .inl t_word_a)), (t_layer_h, .inl (cI, 6, .inl t_layer_a)), (t_least_h, .inl (cI, 2304, .inl w5))] H → va_D A [(t_h, .inr (10, [.int t_baseWay, .int t_slip, .int t_low, .int t_high, .int t_unlike, .int t_alone, .long t_above, .long t_below, .ref t_edges_h, .ref t_lean_h, .ref t_word_h, .int t_layers, .ref t_layer_h, .ref t_least_h, .int t_sights, .ref t_sight_h, .int t_shadows, .ref t_shadow_h, .long t_endAbove, .long t_endBelow, .long t_speedAbove, .long t_speedBelow, .int t_spans, .ref t_spanLow_h, .ref t_spanHigh_h, .ref t_spanAt_h, .int t_found, .ref t_numbers_h, .int t_pairs, .ref t_pair_h, .ref t_most_h, .int t_rows, .ref t_row_h, .int t_notes, .ref t_under_h, .ref t_agreed_h])), (t_edges_h, .inl (cI, 2, .inl t_edges_a)), (t_lean_h, .inl (cI, 16, .inl t_lean_a)), (t_word_h, .inl (cI, 16, .inl t_word_a)), (t_layer_h, .inl (cI, 6, .inl t_layer_a)), (t_least_h, .inl (cI, 2304, .inl w5))] → va_S A s.heap H locs → lv_has ls 6 [(0, .ref t_h), (1, .int x1), (2, .int m169), (3, .int m159), (4, .int u10)] → W p l e rmX10_matched s m args below meth c H locs 0 0 Q (F0 m 156 ls []) := by
              intro m159 m169 he H locs ls hP hD hS hl
              cases he
              obtain ⟨v34, ev34⟩ : ∃ y : Int32, y = u10 + 1 := ⟨_, rfl⟩
              have hf := bv_at ev34 hf
              refine lv_iinc (v := v34) (lv' := [(4, .int v34), (0, .ref t_h), (1, .int x1), (2, .int m16), (3, .int m15)]) hx hb dX10_matched_156 hl (k := 4) rfl (by rw [ev34]; rfl) (by decide) rfl (fun ls hl => ?_)
              refine lv_goto (tgt := 42) hx hb dX10_matched_159 (by decide) ?_
              cases hf
              exact ih _ _ _ hq _ _ _ hP hD hS (lv_sub hl [1, 2, 3, 4, 0] rfl)
            replace hf := hr17
            refine lv_icmp_eq (tgt := 156) hx hb dX10_matched_87 (by decide) (fun c19 => ?_) (fun c19 => ?_)
            · have hf := ift hf c19
              exact hj18 _ _ hf _ _ _ hP hD hS (lv_sub hl [2, 3, 4, 0, 5] rfl)
            · have hf := iff_ hf c19
              refine lv_iconst (v := 0) hx hb dX10_matched_90 (by decide) ?_
              refine lv_istore_n (lv' := [(3, .int 0), (5, .int v13), (0, .ref t_h), (1, .int x1), (2, .int u8), (4, .int u10)]) hx hb dX10_matched_91 rfl hl (by decide) rfl (fun ls hl => ?_)
              obtain ⟨x32, ht2, hf⟩ := ob_some hf
              have hx2_0 : ∀ (x329 : Int32), x329 = x32 → ∀ (H : Heap) (locs : List Loc) (ls : Array Slot), va_P G vwCl [(t_h, .inr (10, [.int t_baseWay, .int t_slip, .int t_low, .int t_high, .int t_unlike, .int t_alone, .long t_above, .long t_below, .ref t_edges_h, .ref t_lean_h, .ref t_word_h, .int t_layers, .ref t_layer_h, .ref t_least_h, .int t_sights, .ref t_sight_h, .int t_shadows, .ref t_shadow_h, .long t_endAbove, .long t_endBelow, .long t_speedAbove, .long t_speedBelow, .int t_spans, .ref t_spanLow_h, .ref t_spanHigh_h, .ref t_spanAt_h, .int t_found, .ref t_numbers_h, .int t_pairs, .ref t_pair_h, .ref t_most_h, .int t_rows, .ref t_row_h, .int t_notes, .ref t_under_h, .ref t_agreed_h])), (t_edges_h, .inl (cI, 2, .inl t_edges_a)), (t_lean_h, .inl (cI, 16, .inl t_lean_a)), (t_word_h, .inl (cI, 16, .inl t_word_a)), (t_layer_h, .inl (cI, 6, .inl t_layer_a)), (t_least_h, .inl (cI, 2304, .inl w5))] H → va_D A [(t_h, .inr (10, [.int t_baseWay, .int t_slip, .int t_low, .int t_high, .int t_unlike, .int t_alone, .long t_above, .long t_below, .ref t_edges_h, .ref t_lean_h, .ref t_word_h, .int t_layers, .ref t_layer_h, .ref t_least_h, .int t_sights, .ref t_sight_h, .int t_shadows, .ref t_shadow_h, .long t_endAbove, .long t_endBelow, .long t_speedAbove, .long t_speedBelow, .int t_spans, .ref t_spanLow_h, .ref t_spanHigh_h, .ref t_spanAt_h, .int t_found, .ref t_numbers_h, .int t_pairs, .ref t_pair_h, .ref t_most_h, .int t_rows, .ref t_row_h, .int t_notes, .ref t_under_h, .ref t_agreed_h])), (t_edges_h, .inl (cI, 2, .inl t_edges_a)), (t_lean_h, .inl (cI, 16, .inl t_lean_a)), (t_word_h, .inl (cI, 16, .inl t_word_a)), (t_layer_h, .inl (cI, 6, .inl t_layer_a)), (t_least_h, .inl (cI, 2304, .inl w5))] → va_S A s.heap H locs → lv_has ls 6 [(0, .ref t_h), (1, .int x1), (2, .int u8), (3, .int x329), (4, .int u10)] → W p l e rmX10_matched s m args below meth c H locs 0 0 Q (F0 m 150 ls []) := by
                intro x329 he H locs ls hP hD hS hl
                cases he
                refine lv_iload_n hx hb dX10_matched_150 rfl (lv_at hl 2 rfl) ?_
                refine lv_iconst (v := 1) hx hb dX10_matched_151 (by decide) ?_
                refine lv_iload_n hx hb dX10_matched_152 rfl (lv_at hl 3 rfl) ?_
                refine lv_ishl hx hb dX10_matched_153 ?_
                refine lv_ior hx hb dX10_matched_154 ?_
                refine lv_topi (fun v33 ev33 => ?_)
                have hf := bv_at ev33 hf
                refine lv_istore_n (lv' := [(2, .int v33), (0, .ref t_h), (1, .int x1), (3, .int x32), (4, .int u10)]) hx hb dX10_matched_155 rfl hl (by decide) rfl (fun ls hl => ?_)
                exact hj18 _ _ hf _ _ _ hP hD hS (lv_sub hl [1, 2, 0, 3, 4] rfl)
              clear hf
              have hl2 : ∀ (n : Nat) (u20 : Int32), it (fX10_matched_L2 u8 u10 t_baseWay t_low t_high t_unlike t_layers t_lean_a t_word_a t_layer_a w5 v13) n u20 = some x32 → ∀ (H : Heap) (locs : List Loc) (ls : Array Slot), va_P G vwCl [(t_h, .inr (10, [.int t_baseWay, .int t_slip, .int t_low, .int t_high, .int t_unlike, .int t_alone, .long t_above, .long t_below, .ref t_edges_h, .ref t_lean_h, .ref t_word_h, .int t_layers, .ref t_layer_h, .ref t_least_h, .int t_sights, .ref t_sight_h, .int t_shadows, .ref t_shadow_h, .long t_endAbove, .long t_endBelow, .long t_speedAbove, .long t_speedBelow, .int t_spans, .ref t_spanLow_h, .ref t_spanHigh_h, .ref t_spanAt_h, .int t_found, .ref t_numbers_h, .int t_pairs, .ref t_pair_h, .ref t_most_h, .int t_rows, .ref t_row_h, .int t_notes, .ref t_under_h, .ref t_agreed_h])), (t_edges_h, .inl (cI, 2, .inl t_edges_a)), (t_lean_h, .inl (cI, 16, .inl t_lean_a)), (t_word_h, .inl (cI, 16, .inl t_word_a)), (t_layer_h, .inl (cI, 6, .inl t_layer_a)), (t_least_h, .inl (cI, 2304, .inl w5))] H → va_D A [(t_h, .inr (10, [.int t_baseWay, .int t_slip, .int t_low, .int t_high, .int t_unlike, .int t_alone, .long t_above, .long t_below, .ref t_edges_h, .ref t_lean_h, .ref t_word_h, .int t_layers, .ref t_layer_h, .ref t_least_h, .int t_sights, .ref t_sight_h, .int t_shadows, .ref t_shadow_h, .long t_endAbove, .long t_endBelow, .long t_speedAbove, .long t_speedBelow, .int t_spans, .ref t_spanLow_h, .ref t_spanHigh_h, .ref t_spanAt_h, .int t_found, .ref t_numbers_h, .int t_pairs, .ref t_pair_h, .ref t_most_h, .int t_rows, .ref t_row_h, .int t_notes, .ref t_under_h, .ref t_agreed_h])), (t_edges_h, .inl (cI, 2, .inl t_edges_a)), (t_lean_h, .inl (cI, 16, .inl t_lean_a)), (t_word_h, .inl (cI, 16, .inl t_word_a)), (t_layer_h, .inl (cI, 6, .inl t_layer_a)), (t_least_h, .inl (cI, 2304, .inl w5))] → va_S A s.heap H locs → lv_has ls 6 [(0, .ref t_h), (1, .int x1), (2, .int u8), (3, .int u20), (4, .int u10), (5, .int v13)] → W p l e rmX10_matched s m args below meth c H locs 0 0 Q (F0 m 92 ls []) := by
                intro n
                induction n with
                | zero => intro u20 hz; exact (it_zero hz).elim
                | succ n ih =>
                  intro u20 hz H locs ls hP hD hS hl
                  obtain ⟨x9, hf, hq⟩ := it_succ hz
                  unfold fX10_matched_L2 at hf
                  refine lv_iload_n hx hb dX10_matched_92 rfl (lv_at hl 2 rfl) ?_
                  refine lv_iload_n hx hb dX10_matched_93 rfl (lv_at hl 3 rfl) ?_
                  refine lv_ishr hx hb dX10_matched_94 ?_
                  refine lv_iconst (v := 1) hx hb dX10_matched_95 (by decide) ?_
                  refine lv_iand hx hb dX10_matched_96 ?_
                  refine lv_iconst (v := 1) hx hb dX10_matched_97 (by decide) ?_
                  refine lv_icmp_eq (tgt := 144) hx hb dX10_matched_98 (by decide) (fun c21 => ?_) (fun c21 => ?_)
                  · have hf := ift hf c21
                    obtain ⟨v22, ev22⟩ : ∃ y : Int32, y = u20 + 1 := ⟨_, rfl⟩
                    have hf := bv_at ev22 hf
                    refine lv_iinc (v := v22) (lv' := [(3, .int v22), (0, .ref t_h), (1, .int x1), (2, .int u8), (4, .int u10), (5, .int v13)]) hx hb dX10_matched_144 hl (k := 3) rfl (by rw [ev22]; rfl) (by decide) rfl (fun ls hl => ?_)
                    refine lv_goto (tgt := 92) hx hb dX10_matched_147 (by decide) ?_
                    cases hf
                    exact ih _ hq _ _ _ hP hD hS (lv_sub hl [1, 2, 3, 0, 4, 5] rfl)
                  · have hf := iff_ hf c21
                    refine lv_aload_n hx hb dX10_matched_101 rfl (lv_at hl 0 rfl) ?_
                    refine lv_iload hx hb dX10_matched_102 (lv_at hl 4 rfl) ?_
                    refine lv_iload_n hx hb dX10_matched_104 rfl (lv_at hl 3 rfl) ?_
                    obtain ⟨r23, hc24, hf⟩ := ob_some hf
                    refine af_iR (va_runV (As := [.int u10, .int u20]) (rest := []) ⟨hx, hb, hml, hown, hts⟩ (k_X10_costOf l G cI cJ (t_h := t_h) (t_edges_h := t_edges_h) (t_lean_h := t_lean_h) (t_word_h := t_word_h) (t_layer_h := t_layer_h) (t_least_h := t_least_h) (t_sight_h := t_sight_h) (t_shadow_h := t_shadow_h) (t_spanLow_h := t_spanLow_h) (t_spanHigh_h := t_spanHigh_h) (t_spanAt_h := t_spanAt_h) (t_numbers_h := t_numbers_h) (t_pair_h := t_pair_h) (t_most_h := t_most_h) (t_row_h := t_row_h) (t_under_h := t_under_h) (t_agreed_h := t_agreed_h) (t_baseWay := t_baseWay) (t_slip := t_slip) (t_low := t_low) (t_high := t_high) (t_unlike := t_unlike) (t_alone := t_alone) (t_above := t_above) (t_below := t_below) (t_layers := t_layers) (t_sights := t_sights) (t_shadows := t_shadows) (t_endAbove := t_endAbove) (t_endBelow := t_endBelow) (t_speedAbove := t_speedAbove) (t_speedBelow := t_speedBelow) (t_spans := t_spans) (t_found := t_found) (t_pairs := t_pairs) (t_rows := t_rows) (t_notes := t_notes) (t_lean_a := t_lean_a) (t_word_a := t_word_a) (t_layer_a := t_layer_a) (x1 := u10) (x2 := u20) (sz := _) (hf := hc24)) (cwV 2 hts gX10_matched_X10_costOf rfl rfl rfl (by decide +kernel) ⟨Nat.le_of_ble_eq_true rfl, Nat.le_of_ble_eq_true rfl⟩) (preV0 (ci := 10) (q0 := 0) (C := RX10) (wc := [(t_h, .inr (10, [.int t_baseWay, .int t_slip, .int t_low, .int t_high, .int t_unlike, .int t_alone, .long t_above, .long t_below, .ref t_edges_h, .ref t_lean_h, .ref t_word_h, .int t_layers, .ref t_layer_h, .ref t_least_h, .int t_sights, .ref t_sight_h, .int t_shadows, .ref t_shadow_h, .long t_endAbove, .long t_endBelow, .long t_speedAbove, .long t_speedBelow, .int t_spans, .ref t_spanLow_h, .ref t_spanHigh_h, .ref t_spanAt_h, .int t_found, .ref t_numbers_h, .int t_pairs, .ref t_pair_h, .ref t_most_h, .int t_rows, .ref t_row_h, .int t_notes, .ref t_under_h, .ref t_agreed_h])), (t_lean_h, .inl (cI, 16, .inl t_lean_a)), (t_word_h, .inl (cI, 16, .inl t_word_a)), (t_layer_h, .inl (cI, 6, .inl t_layer_a))]) hK hP hD hN [0, 2, 3, 4] rfl rfl (by decide) rfl rfl) rfl rfl hl.1 rfl (lv_room (Nat.le_of_ble_eq_true rfl)) dX10_matched_105 ⟨Nat.zero_le _, Nat.zero_le _⟩) hP hD hS hA [0, 2, 3, 4] rfl (fun H locs hP hS => ?_)
                    refine lv_iconst (v := (-1)) hx hb dX10_matched_108 (by decide) ?_
                    refine lv_icmp_eq (tgt := 144) hx hb dX10_matched_109 (by decide) (fun c25 => ?_) (fun c25 => ?_)
                    · have hf := ift hf c25
                      obtain ⟨v26, ev26⟩ : ∃ y : Int32, y = u20 + 1 := ⟨_, rfl⟩
                      have hf := bv_at ev26 hf
                      refine lv_iinc (v := v26) (lv' := [(3, .int v26), (0, .ref t_h), (1, .int x1), (2, .int u8), (4, .int u10), (5, .int v13)]) hx hb dX10_matched_144 hl (k := 3) rfl (by rw [ev26]; rfl) (by decide) rfl (fun ls hl => ?_)
                      refine lv_goto (tgt := 92) hx hb dX10_matched_147 (by decide) ?_
                      cases hf
                      exact ih _ hq _ _ _ hP hD hS (lv_sub hl [1, 2, 3, 0, 4, 5] rfl)
                    · have hf := iff_ hf c25
                      refine lv_aload_n hx hb dX10_matched_112 rfl (lv_at hl 0 rfl) ?_
                      refine lv_iload hx hb dX10_matched_113 (lv_at hl 4 rfl) ?_
                      refine lv_iload_n hx hb dX10_matched_115 rfl (lv_at hl 3 rfl) ?_
                      obtain ⟨r27, hc28, hf⟩ := ob_some hf
                      refine af_iR (va_runV (As := [.int u10, .int u20]) (rest := []) ⟨hx, hb, hml, hown, hts⟩ (k_X10_costOf l G cI cJ (t_h := t_h) (t_edges_h := t_edges_h) (t_lean_h := t_lean_h) (t_word_h := t_word_h) (t_layer_h := t_layer_h) (t_least_h := t_least_h) (t_sight_h := t_sight_h) (t_shadow_h := t_shadow_h) (t_spanLow_h := t_spanLow_h) (t_spanHigh_h := t_spanHigh_h) (t_spanAt_h := t_spanAt_h) (t_numbers_h := t_numbers_h) (t_pair_h := t_pair_h) (t_most_h := t_most_h) (t_row_h := t_row_h) (t_under_h := t_under_h) (t_agreed_h := t_agreed_h) (t_baseWay := t_baseWay) (t_slip := t_slip) (t_low := t_low) (t_high := t_high) (t_unlike := t_unlike) (t_alone := t_alone) (t_above := t_above) (t_below := t_below) (t_layers := t_layers) (t_sights := t_sights) (t_shadows := t_shadows) (t_endAbove := t_endAbove) (t_endBelow := t_endBelow) (t_speedAbove := t_speedAbove) (t_speedBelow := t_speedBelow) (t_spans := t_spans) (t_found := t_found) (t_pairs := t_pairs) (t_rows := t_rows) (t_notes := t_notes) (t_lean_a := t_lean_a) (t_word_a := t_word_a) (t_layer_a := t_layer_a) (x1 := u10) (x2 := u20) (sz := _) (hf := hc28)) (cwV 2 hts gX10_matched_X10_costOf rfl rfl rfl (by decide +kernel) ⟨Nat.le_of_ble_eq_true rfl, Nat.le_of_ble_eq_true rfl⟩) (preV0 (ci := 10) (q0 := 0) (C := RX10) (wc := [(t_h, .inr (10, [.int t_baseWay, .int t_slip, .int t_low, .int t_high, .int t_unlike, .int t_alone, .long t_above, .long t_below, .ref t_edges_h, .ref t_lean_h, .ref t_word_h, .int t_layers, .ref t_layer_h, .ref t_least_h, .int t_sights, .ref t_sight_h, .int t_shadows, .ref t_shadow_h, .long t_endAbove, .long t_endBelow, .long t_speedAbove, .long t_speedBelow, .int t_spans, .ref t_spanLow_h, .ref t_spanHigh_h, .ref t_spanAt_h, .int t_found, .ref t_numbers_h, .int t_pairs, .ref t_pair_h, .ref t_most_h, .int t_rows, .ref t_row_h, .int t_notes, .ref t_under_h, .ref t_agreed_h])), (t_lean_h, .inl (cI, 16, .inl t_lean_a)), (t_word_h, .inl (cI, 16, .inl t_word_a)), (t_layer_h, .inl (cI, 6, .inl t_layer_a))]) hK hP hD hN [0, 2, 3, 4] rfl rfl (by decide) rfl rfl) rfl rfl hl.1 rfl (lv_room (Nat.le_of_ble_eq_true rfl)) dX10_matched_116 ⟨Nat.zero_le _, Nat.zero_le _⟩) hP hD hS hA [0, 2, 3, 4] rfl (fun H locs hP hS => ?_)
                      refine lv_aload_n hx hb dX10_matched_119 rfl (lv_at hl 0 rfl) ?_
                      refine va_get (D := G) (ci := 10) (v := .ref t_least_h) (C := RX10) (T := TX10) (N := 36) hx hb hts iwX10 hown hK hP 0 rfl rfl 13 (by decide) fl_22 (fun _ h9 => h9) rfl dX10_matched_120 ?_
                      refine lv_sipush (v := 256) hx hb dX10_matched_123 (by decide) ?_
                      refine lv_iload hx hb dX10_matched_126 (lv_at hl 4 rfl) ?_
                      refine lv_iconst (v := 1) hx hb dX10_matched_128 (by decide) ?_
                      refine lv_iadd hx hb dX10_matched_129 ?_
                      refine lv_imul hx hb dX10_matched_130 ?_
                      refine lv_iload_n hx hb dX10_matched_131 rfl (lv_at hl 2 rfl) ?_
                      refine lv_iconst (v := 1) hx hb dX10_matched_132 (by decide) ?_
                      refine lv_iload_n hx hb dX10_matched_133 rfl (lv_at hl 3 rfl) ?_
                      refine lv_ishl hx hb dX10_matched_134 ?_
                      refine lv_ior hx hb dX10_matched_135 ?_
                      refine lv_iadd hx hb dX10_matched_136 ?_
                      obtain ⟨h29, hf⟩ := gd_some hf
                      refine va_iald hx hb hK hP 5 0 rfl rfl (bnd_in h29) dX10_matched_137 ?_
                      refine lv_iadd hx hb dX10_matched_138 ?_
                      refine lv_iload hx hb dX10_matched_139 (lv_at hl 5 rfl) ?_
                      refine lv_icmp_eq (tgt := 150) hx hb dX10_matched_141 (by decide) (fun c30 => ?_) (fun c30 => ?_)
                      · have hf := ift hf c30
                        cases hf
                        exact hx2_0 _ hq _ _ _ hP hD hS (lv_sub hl [0, 1, 2, 3, 4] rfl)
                      · have hf := iff_ hf c30
                        obtain ⟨v31, ev31⟩ : ∃ y : Int32, y = u20 + 1 := ⟨_, rfl⟩
                        have hf := bv_at ev31 hf
                        refine lv_iinc (v := v31) (lv' := [(3, .int v31), (0, .ref t_h), (1, .int x1), (2, .int u8), (4, .int u10), (5, .int v13)]) hx hb dX10_matched_144 hl (k := 3) rfl (by rw [ev31]; rfl) (by decide) rfl (fun ls hl => ?_)
                        refine lv_goto (tgt := 92) hx hb dX10_matched_147 (by decide) ?_
                        cases hf
                        exact ih _ hq _ _ _ hP hD hS (lv_sub hl [1, 2, 3, 0, 4, 5] rfl)
              exact hl2 _ _ ht2 _ _ _ hP hD hS (lv_sub hl [2, 3, 4, 0, 5, 1] rfl)
      exact hl1 _ _ _ _ ht1 _ _ _ hP hD hS (lv_sub hl [3, 4, 2, 1, 0] rfl)
    · have hf := ift hf c7
      refine lv_aload_n hx hb dX10_matched_28 rfl (lv_at hl 0 rfl) ?_
      refine va_get (D := G) (ci := 10) (v := .ref t_least_h) (C := RX10) (T := TX10) (N := 36) hx hb hts iwX10 hown hK hP 0 rfl rfl 13 (by decide) fl_22 (fun _ h9 => h9) rfl dX10_matched_29 ?_
      refine lv_iconst (v := 0) hx hb dX10_matched_32 (by decide) ?_
      obtain ⟨h36, hf⟩ := gd_some hf
      refine va_iald hx hb hK hP 5 0 rfl rfl (bnd_in h36) dX10_matched_33 ?_
      exact hret (w5 (Int32.toNatClampNeg 0)) w5 34 _ _ _ dX10_matched_34 hf hP hD hS
  · have hf := ift hf c4
    refine lv_bipush (v := (-10)) hx hb dX10_matched_16 (by decide) ?_
    exact hret (-10) t_least_a 18 _ _ _ dX10_matched_18 hf hP hD hS
