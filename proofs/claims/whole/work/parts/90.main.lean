set_option maxHeartbeats 8000000 in
set_option maxRecDepth 100000 in
theorem law_loop {p : Program} {l : Launch} {e : Env} {s : State} {m : MethodId} {below : List Frame} {meth : Method} {c : Code} {G : va_G} {cI cJ : ClassId} {b L : Nat} {xs : Nat → Int32} {X_h M_h : Nat} {ux um : Nat → Nat} (hL : L ≤ 2560) (C0 : lw_At p s m meth c b L xs) (hN : nst s) (hK : va_K G vwCl (ty2 cI cJ) s) : ∀ (n i : Nat), i ≤ L → L + 1 ≤ i + n → ∀ (X_fraction_above : Int64) (X_fraction_below : Int64) (X_settings_base : Int32) (X_settings_slip : Int32) (X_settings_low : Int32) (X_settings_high : Int32) (X_settings_unlike : Int32) (X_settings_alone : Int32) (X_firstEdges_lines : Int32) (X_firstEdges_cells_a : Nat → Int32) (X_secondEdges_lines : Int32) (X_secondEdges_cells_a : Nat → Int32) (X_layers_lines : Int32) (X_layers_cells_a : Nat → Int32) (X_sights_lines : Int32) (X_sights_cells_a : Nat → Int32) (X_shadows_lines : Int32) (X_shadows_cells_a : Nat → Int32) (X_heights_lines : Int32) (X_heights_cells_a : Nat → Int32) (X_pairs_lines : Int32) (X_pairs_cells_a : Nat → Int32) (X_rows_lines : Int32) (X_rows_cells_a : Nat → Int32) (X_notes_lines : Int32) (X_notes_cells_a : Nat → Int32) (X_matching_costs_a : Nat → Int32) (X_matching_keys_a : Nat → Int64) (X_speeds_sightLow_above : Int64) (X_speeds_sightLow_below : Int64) (X_speeds_sightHigh_above : Int64) (X_speeds_sightHigh_below : Int64) (X_speeds_shadowLow_above : Int64) (X_speeds_shadowLow_below : Int64) (X_speeds_shadowHigh_above : Int64) (X_speeds_shadowHigh_below : Int64) (X_layering_lows_a : Nat → Int32) (X_layering_highs_a : Nat → Int32) (X_layering_found_a : Nat → Int32) (X_boards_bents_a : Nat → Int32) (X_years_sum : Int32) (X_years_many : Int32) (X_years_distance : Int32) (X_sheets_votes_a : Nat → Int32) (X_sheets_keys_a : Nat → Int64) (M_baseWay : Int32) (M_slip : Int32) (M_low : Int32) (M_high : Int32) (M_unlike : Int32) (M_alone : Int32) (M_above : Int64) (M_below : Int64) (M_layers : Int32) (M_sights : Int32) (M_shadows : Int32) (M_endAbove : Int64) (M_endBelow : Int64) (M_speedAbove : Int64) (M_speedBelow : Int64) (M_spans : Int32) (M_found : Int32) (M_pairs : Int32) (M_rows : Int32) (M_notes : Int32) (M_edges_a : Nat → Int32) (M_lean_a : Nat → Int32) (M_word_a : Nat → Int32) (M_layer_a : Nat → Int32) (M_least_a : Nat → Int32) (M_sight_a : Nat → Int32) (M_shadow_a : Nat → Int32) (M_spanLow_a : Nat → Int32) (M_spanHigh_a : Nat → Int32) (M_spanAt_a : Nat → Int32) (M_numbers_a : Nat → Int32) (M_pair_a : Nat → Int32) (M_most_a : Nat → Int32) (M_row_a : Nat → Int32) (M_under_a : Nat → Int32) (M_agreed_a : Nat → Int32), R_set X_settings_base X_settings_slip X_settings_low X_settings_high X_settings_unlike X_settings_alone M_baseWay M_slip M_low M_high M_unlike M_alone → R_frac X_fraction_above X_fraction_below M_above M_below → R_edges X_firstEdges_lines X_firstEdges_cells_a X_secondEdges_lines X_secondEdges_cells_a M_edges_a M_lean_a M_word_a → R_layers X_layers_lines X_layers_cells_a M_layers M_layer_a → R_sights X_sights_lines X_sights_cells_a M_sights M_sight_a → R_shadows X_shadows_lines X_shadows_cells_a M_shadows M_shadow_a → R_heights X_heights_lines X_heights_cells_a M_spans M_spanLow_a M_spanHigh_a M_spanAt_a → R_pairs X_pairs_lines X_pairs_cells_a M_pairs M_pair_a → R_rows X_rows_lines X_rows_cells_a M_rows M_row_a → R_notes X_notes_lines X_notes_cells_a M_notes M_under_a → ∀ (H : Heap) (locs : List Loc) (ls : Array Slot), va_P G vwCl (wapp (wX X_h ux cI cJ X_fraction_above X_fraction_below X_settings_base X_settings_slip X_settings_low X_settings_high X_settings_unlike X_settings_alone X_firstEdges_lines X_firstEdges_cells_a X_secondEdges_lines X_secondEdges_cells_a X_layers_lines X_layers_cells_a X_sights_lines X_sights_cells_a X_shadows_lines X_shadows_cells_a X_heights_lines X_heights_cells_a X_pairs_lines X_pairs_cells_a X_rows_lines X_rows_cells_a X_notes_lines X_notes_cells_a X_matching_costs_a X_matching_keys_a X_speeds_sightLow_above X_speeds_sightLow_below X_speeds_sightHigh_above X_speeds_sightHigh_below X_speeds_shadowLow_above X_speeds_shadowLow_below X_speeds_shadowHigh_above X_speeds_shadowHigh_below X_layering_lows_a X_layering_highs_a X_layering_found_a X_boards_bents_a X_years_sum X_years_many X_years_distance X_sheets_votes_a X_sheets_keys_a) (wM M_h um cI M_baseWay M_slip M_low M_high M_unlike M_alone M_above M_below M_layers M_sights M_shadows M_endAbove M_endBelow M_speedAbove M_speedBelow M_spans M_found M_pairs M_rows M_notes M_edges_a M_lean_a M_word_a M_layer_a M_least_a M_sight_a M_shadow_a M_spanLow_a M_spanHigh_a M_spanAt_a M_numbers_a M_pair_a M_most_a M_row_a M_under_a M_agreed_a)) H → va_D (fun q : Nat => s.heap.size ≤ q) (wapp (wX X_h ux cI cJ X_fraction_above X_fraction_below X_settings_base X_settings_slip X_settings_low X_settings_high X_settings_unlike X_settings_alone X_firstEdges_lines X_firstEdges_cells_a X_secondEdges_lines X_secondEdges_cells_a X_layers_lines X_layers_cells_a X_sights_lines X_sights_cells_a X_shadows_lines X_shadows_cells_a X_heights_lines X_heights_cells_a X_pairs_lines X_pairs_cells_a X_rows_lines X_rows_cells_a X_notes_lines X_notes_cells_a X_matching_costs_a X_matching_keys_a X_speeds_sightLow_above X_speeds_sightLow_below X_speeds_sightHigh_above X_speeds_sightHigh_below X_speeds_shadowLow_above X_speeds_shadowLow_below X_speeds_shadowHigh_above X_speeds_shadowHigh_below X_layering_lows_a X_layering_highs_a X_layering_found_a X_boards_bents_a X_years_sum X_years_many X_years_distance X_sheets_votes_a X_sheets_keys_a) (wM M_h um cI M_baseWay M_slip M_low M_high M_unlike M_alone M_above M_below M_layers M_sights M_shadows M_endAbove M_endBelow M_speedAbove M_speedBelow M_spans M_found M_pairs M_rows M_notes M_edges_a M_lean_a M_word_a M_layer_a M_least_a M_sight_a M_shadow_a M_spanLow_a M_spanHigh_a M_spanAt_a M_numbers_a M_pair_a M_most_a M_row_a M_under_a M_agreed_a)) → va_S (fun q : Nat => s.heap.size ≤ q) s.heap H locs → lv_has ls 4 [(0, .ref b), (1, .ref X_h), (2, .ref M_h), (3, .int (nI i))] → W p l e room_1 s m #[Value.ref b] below meth c H locs 56 6485 (lw_Z below #[Value.ref b] s) (F0 m 18 ls []) := by
  obtain ⟨hx, hb, hr, hml, hown, hts, hX, hbl, hlocks, hgv⟩ := id C0
  have hA : ∀ q : Nat, s.heap.size ≤ q → (fun q : Nat => s.heap.size ≤ q) q := fun _ h => h
  have hbA : ¬ (fun q : Nat => s.heap.size ≤ q) b := Nat.not_le.mpr hbl
  intro n
  induction n with
  | zero => intro i h1 h2; exact absurd h2 (by omega)
  | succ n ih =>
    intro i hi hin X_fraction_above X_fraction_below X_settings_base X_settings_slip X_settings_low X_settings_high X_settings_unlike X_settings_alone X_firstEdges_lines X_firstEdges_cells_a X_secondEdges_lines X_secondEdges_cells_a X_layers_lines X_layers_cells_a X_sights_lines X_sights_cells_a X_shadows_lines X_shadows_cells_a X_heights_lines X_heights_cells_a X_pairs_lines X_pairs_cells_a X_rows_lines X_rows_cells_a X_notes_lines X_notes_cells_a X_matching_costs_a X_matching_keys_a X_speeds_sightLow_above X_speeds_sightLow_below X_speeds_sightHigh_above X_speeds_sightHigh_below X_speeds_shadowLow_above X_speeds_shadowLow_below X_speeds_shadowHigh_above X_speeds_shadowHigh_below X_layering_lows_a X_layering_highs_a X_layering_found_a X_boards_bents_a X_years_sum X_years_many X_years_distance X_sheets_votes_a X_sheets_keys_a M_baseWay M_slip M_low M_high M_unlike M_alone M_above M_below M_layers M_sights M_shadows M_endAbove M_endBelow M_speedAbove M_speedBelow M_spans M_found M_pairs M_rows M_notes M_edges_a M_lean_a M_word_a M_layer_a M_least_a M_sight_a M_shadow_a M_spanLow_a M_spanHigh_a M_spanAt_a M_numbers_a M_pair_a M_most_a M_row_a M_under_a M_agreed_a h_set h_frac h_edges h_layers h_sights h_shadows h_heights h_pairs h_rows h_notes H locs ls hP hD hS hl
    refine lv_iload_n hx hb dL_law_18 rfl (lv_at hl 3 rfl) ?_
    refine lv_aload_n hx hb dL_law_19 rfl (lv_at hl 0 rfl) ?_
    refine va_slen hx hb hX hbl hbA hS dL_law_20 ?_
    refine lv_iconst (v := 5) hx hb dL_law_21 (by decide) ?_
    refine lv_isub hx hb dL_law_22 ?_
    have ecmp : (Int32.ofNat L - 5 < nI i) ↔ L < i + 5 := by
      rw [show Int32.ofNat L = iI (L : Int) from nI_i L, nI_i, show (5 : Int32) = iI 5 from by decide, iI_sub, iI_lt (by omega) (by omega) (by omega) (by omega)]
      omega
    refine lv_icmp_gt (tgt := 1197) hx hb dL_law_23 (by decide) (fun hc => ?_) (fun hc => ?_)
    · refine lv_iconst (v := 1) hx hb dL_law_1197 (by decide) ?_
      refine va_forget (fun q hq => hS.2.2 q hq) ?_
      refine W.widen (k := 600000) (n := 7302250) (by decide) (by decide) ?_
      exact lw_ret hx hb hr hlocks dL_law_1198
    · have hi5 : i + 4 < L := by
        have hq : ¬ L < i + 5 := fun q => hc (ecmp.mpr q)
        omega
      have hnext : ∀ {X_fraction_above : Int64} {X_fraction_below : Int64} {X_settings_base : Int32} {X_settings_slip : Int32} {X_settings_low : Int32} {X_settings_high : Int32} {X_settings_unlike : Int32} {X_settings_alone : Int32} {X_firstEdges_lines : Int32} {X_firstEdges_cells_a : Nat → Int32} {X_secondEdges_lines : Int32} {X_secondEdges_cells_a : Nat → Int32} {X_layers_lines : Int32} {X_layers_cells_a : Nat → Int32} {X_sights_lines : Int32} {X_sights_cells_a : Nat → Int32} {X_shadows_lines : Int32} {X_shadows_cells_a : Nat → Int32} {X_heights_lines : Int32} {X_heights_cells_a : Nat → Int32} {X_pairs_lines : Int32} {X_pairs_cells_a : Nat → Int32} {X_rows_lines : Int32} {X_rows_cells_a : Nat → Int32} {X_notes_lines : Int32} {X_notes_cells_a : Nat → Int32} {X_matching_costs_a : Nat → Int32} {X_matching_keys_a : Nat → Int64} {X_speeds_sightLow_above : Int64} {X_speeds_sightLow_below : Int64} {X_speeds_sightHigh_above : Int64} {X_speeds_sightHigh_below : Int64} {X_speeds_shadowLow_above : Int64} {X_speeds_shadowLow_below : Int64} {X_speeds_shadowHigh_above : Int64} {X_speeds_shadowHigh_below : Int64} {X_layering_lows_a : Nat → Int32} {X_layering_highs_a : Nat → Int32} {X_layering_found_a : Nat → Int32} {X_boards_bents_a : Nat → Int32} {X_years_sum : Int32} {X_years_many : Int32} {X_years_distance : Int32} {X_sheets_votes_a : Nat → Int32} {X_sheets_keys_a : Nat → Int64} {M_baseWay : Int32} {M_slip : Int32} {M_low : Int32} {M_high : Int32} {M_unlike : Int32} {M_alone : Int32} {M_above : Int64} {M_below : Int64} {M_layers : Int32} {M_sights : Int32} {M_shadows : Int32} {M_endAbove : Int64} {M_endBelow : Int64} {M_speedAbove : Int64} {M_speedBelow : Int64} {M_spans : Int32} {M_found : Int32} {M_pairs : Int32} {M_rows : Int32} {M_notes : Int32} {M_edges_a : Nat → Int32} {M_lean_a : Nat → Int32} {M_word_a : Nat → Int32} {M_layer_a : Nat → Int32} {M_least_a : Nat → Int32} {M_sight_a : Nat → Int32} {M_shadow_a : Nat → Int32} {M_spanLow_a : Nat → Int32} {M_spanHigh_a : Nat → Int32} {M_spanAt_a : Nat → Int32} {M_numbers_a : Nat → Int32} {M_pair_a : Nat → Int32} {M_most_a : Nat → Int32} {M_row_a : Nat → Int32} {M_under_a : Nat → Int32} {M_agreed_a : Nat → Int32}, R_set X_settings_base X_settings_slip X_settings_low X_settings_high X_settings_unlike X_settings_alone M_baseWay M_slip M_low M_high M_unlike M_alone → R_frac X_fraction_above X_fraction_below M_above M_below → R_edges X_firstEdges_lines X_firstEdges_cells_a X_secondEdges_lines X_secondEdges_cells_a M_edges_a M_lean_a M_word_a → R_layers X_layers_lines X_layers_cells_a M_layers M_layer_a → R_sights X_sights_lines X_sights_cells_a M_sights M_sight_a → R_shadows X_shadows_lines X_shadows_cells_a M_shadows M_shadow_a → R_heights X_heights_lines X_heights_cells_a M_spans M_spanLow_a M_spanHigh_a M_spanAt_a → R_pairs X_pairs_lines X_pairs_cells_a M_pairs M_pair_a → R_rows X_rows_lines X_rows_cells_a M_rows M_row_a → R_notes X_notes_lines X_notes_cells_a M_notes M_under_a → ∀ (H : Heap) (locs : List Loc), va_P G vwCl (wapp (wX X_h ux cI cJ X_fraction_above X_fraction_below X_settings_base X_settings_slip X_settings_low X_settings_high X_settings_unlike X_settings_alone X_firstEdges_lines X_firstEdges_cells_a X_secondEdges_lines X_secondEdges_cells_a X_layers_lines X_layers_cells_a X_sights_lines X_sights_cells_a X_shadows_lines X_shadows_cells_a X_heights_lines X_heights_cells_a X_pairs_lines X_pairs_cells_a X_rows_lines X_rows_cells_a X_notes_lines X_notes_cells_a X_matching_costs_a X_matching_keys_a X_speeds_sightLow_above X_speeds_sightLow_below X_speeds_sightHigh_above X_speeds_sightHigh_below X_speeds_shadowLow_above X_speeds_shadowLow_below X_speeds_shadowHigh_above X_speeds_shadowHigh_below X_layering_lows_a X_layering_highs_a X_layering_found_a X_boards_bents_a X_years_sum X_years_many X_years_distance X_sheets_votes_a X_sheets_keys_a) (wM M_h um cI M_baseWay M_slip M_low M_high M_unlike M_alone M_above M_below M_layers M_sights M_shadows M_endAbove M_endBelow M_speedAbove M_speedBelow M_spans M_found M_pairs M_rows M_notes M_edges_a M_lean_a M_word_a M_layer_a M_least_a M_sight_a M_shadow_a M_spanLow_a M_spanHigh_a M_spanAt_a M_numbers_a M_pair_a M_most_a M_row_a M_under_a M_agreed_a)) H → va_D (fun q : Nat => s.heap.size ≤ q) (wapp (wX X_h ux cI cJ X_fraction_above X_fraction_below X_settings_base X_settings_slip X_settings_low X_settings_high X_settings_unlike X_settings_alone X_firstEdges_lines X_firstEdges_cells_a X_secondEdges_lines X_secondEdges_cells_a X_layers_lines X_layers_cells_a X_sights_lines X_sights_cells_a X_shadows_lines X_shadows_cells_a X_heights_lines X_heights_cells_a X_pairs_lines X_pairs_cells_a X_rows_lines X_rows_cells_a X_notes_lines X_notes_cells_a X_matching_costs_a X_matching_keys_a X_speeds_sightLow_above X_speeds_sightLow_below X_speeds_sightHigh_above X_speeds_sightHigh_below X_speeds_shadowLow_above X_speeds_shadowLow_below X_speeds_shadowHigh_above X_speeds_shadowHigh_below X_layering_lows_a X_layering_highs_a X_layering_found_a X_boards_bents_a X_years_sum X_years_many X_years_distance X_sheets_votes_a X_sheets_keys_a) (wM M_h um cI M_baseWay M_slip M_low M_high M_unlike M_alone M_above M_below M_layers M_sights M_shadows M_endAbove M_endBelow M_speedAbove M_speedBelow M_spans M_found M_pairs M_rows M_notes M_edges_a M_lean_a M_word_a M_layer_a M_least_a M_sight_a M_shadow_a M_spanLow_a M_spanHigh_a M_spanAt_a M_numbers_a M_pair_a M_most_a M_row_a M_under_a M_agreed_a)) → va_S (fun q : Nat => s.heap.size ≤ q) s.heap H locs → W p l e room_1 s m #[Value.ref b] below meth c H locs 56 6485 (lw_Z below #[Value.ref b] s) (F0 m 1191 ls []) := by
        intro X_fraction_above X_fraction_below X_settings_base X_settings_slip X_settings_low X_settings_high X_settings_unlike X_settings_alone X_firstEdges_lines X_firstEdges_cells_a X_secondEdges_lines X_secondEdges_cells_a X_layers_lines X_layers_cells_a X_sights_lines X_sights_cells_a X_shadows_lines X_shadows_cells_a X_heights_lines X_heights_cells_a X_pairs_lines X_pairs_cells_a X_rows_lines X_rows_cells_a X_notes_lines X_notes_cells_a X_matching_costs_a X_matching_keys_a X_speeds_sightLow_above X_speeds_sightLow_below X_speeds_sightHigh_above X_speeds_sightHigh_below X_speeds_shadowLow_above X_speeds_shadowLow_below X_speeds_shadowHigh_above X_speeds_shadowHigh_below X_layering_lows_a X_layering_highs_a X_layering_found_a X_boards_bents_a X_years_sum X_years_many X_years_distance X_sheets_votes_a X_sheets_keys_a M_baseWay M_slip M_low M_high M_unlike M_alone M_above M_below M_layers M_sights M_shadows M_endAbove M_endBelow M_speedAbove M_speedBelow M_spans M_found M_pairs M_rows M_notes M_edges_a M_lean_a M_word_a M_layer_a M_least_a M_sight_a M_shadow_a M_spanLow_a M_spanHigh_a M_spanAt_a M_numbers_a M_pair_a M_most_a M_row_a M_under_a M_agreed_a h_set h_frac h_edges h_layers h_sights h_shadows h_heights h_pairs h_rows h_notes H locs hP hD hS
        refine lv_iinc (v := nI (i + 5)) (lv' := [(3, .int (nI (i + 5))), (0, .ref b), (1, .ref X_h), (2, .ref M_h)]) hx hb dL_law_1191 hl (k := 3) rfl (by exact nI_add i 5) (by decide) rfl (fun ls hl => ?_)
        refine lv_goto (tgt := 18) hx hb dL_law_1194 (by decide) ?_
        exact ih (i + 5) (by omega) (by omega) _ _ _ _ _ _ _ _ _ _ _ _ _ _ _ _ _ _ _ _ _ _ _ _ _ _ _ _ _ _ _ _ _ _ _ _ _ _ _ _ _ _ _ _ _ _ _ _ _ _ _ _ _ _ _ _ _ _ _ _ _ _ _ _ _ _ _ _ _ _ _ _ _ _ _ _ _ _ _ _ _ h_set h_frac h_edges h_layers h_sights h_shadows h_heights h_pairs h_rows h_notes _ _ _ hP hD hS (lv_sub hl [1, 2, 3, 0] rfl)
      clear ih
      refine lv_aload_n hx hb dL_law_26 rfl (lv_at hl 0 rfl) ?_
      refine lv_iload_n hx hb dL_law_27 rfl (lv_at hl 3 rfl) ?_
      refine va_sld hx hb hX hbl hbA hS (vp_in_nI (show i < L by omega) (by omega)) dL_law_28 ?_
      refine lv_bipush (v := 31) hx hb dL_law_29 (by decide) ?_
      refine lv_iand hx hb dL_law_31 ?_
      obtain ⟨j, hj, ej⟩ := pk_andE (xs (nI i).toNatClampNeg) (m := 31) 5 (by decide)
      rw [ej]
      have hj : j < 32 := hj
      clear ej hc ecmp
      rcases (show j = 0 ∨ j = 1 ∨ j = 2 ∨ j = 3 ∨ j = 4 ∨ j = 5 ∨ j = 6 ∨ j = 7 ∨ j = 8 ∨ j = 9 ∨ j = 10 ∨ j = 11 ∨ j = 12 ∨ j = 13 ∨ j = 14 ∨ j = 15 ∨ j = 16 ∨ j = 17 ∨ j = 18 ∨ j = 19 ∨ j = 20 ∨ j = 21 ∨ j = 22 ∨ j = 23 ∨ j = 24 ∨ j = 25 ∨ j = 26 ∨ j = 27 ∨ j = 28 ∨ j = 29 ∨ j = 30 ∨ j = 31 by omega) with rfl | rfl | rfl | rfl | rfl | rfl | rfl | rfl | rfl | rfl | rfl | rfl | rfl | rfl | rfl | rfl | rfl | rfl | rfl | rfl | rfl | rfl | rfl | rfl | rfl | rfl | rfl | rfl | rfl | rfl | rfl | rfl
      · refine lv_tableIn (off := 136) (tgt := 168) hx hb dL_law_32 (by decide) (by decide) rfl (by decide) ?_
        obtain ⟨r, o0, o1, o2, o3, e1, e2, h_new⟩ := base_ok (xs (i + 1)) (xs (i + 2)) h_set 
        refine lcX_base hL C0 hi5 hN hK e1 hP hD hS hl (fun H locs hP hD hS => ?_)
        refine lcM_base hL C0 hi5 hN hK e2 (va_P_swap hP) (va_D_swap hD) hS hl (fun H locs hP hD hS => ?_)
        exact hnext h_new h_frac h_edges h_layers h_sights h_shadows h_heights h_pairs h_rows h_notes _ _ (va_P_swap hP) (va_D_swap hD) hS
      · refine lv_tableIn (off := 169) (tgt := 201) hx hb dL_law_32 (by decide) (by decide) rfl (by decide) ?_
        obtain ⟨r, o0, o1, o2, o3, o4, o5, o6, e1, e2, h_new⟩ := edge_ok (xs (i + 1)) (xs (i + 2)) (xs (i + 3)) h_edges 
        refine lcX_edge hL C0 hi5 hN hK e1 hP hD hS hl (fun H locs hP hD hS => ?_)
        refine lcM_edge hL C0 hi5 hN hK e2 (va_P_swap hP) (va_D_swap hD) hS hl (fun H locs hP hD hS => ?_)
        exact hnext h_set h_frac h_new h_layers h_sights h_shadows h_heights h_pairs h_rows h_notes _ _ (va_P_swap hP) (va_D_swap hD) hS
      · refine lv_tableIn (off := 212) (tgt := 244) hx hb dL_law_32 (by decide) (by decide) rfl (by decide) ?_
        obtain ⟨r, o0, o1, o2, e1, e2, h_new⟩ := clear_ok  h_edges 
        refine lcX_clear hL C0 hi5 hN hK e1 hP hD hS hl (fun H locs hP hD hS => ?_)
        refine lcM_clear hL C0 hi5 hN hK e2 (va_P_swap hP) (va_D_swap hD) hS hl (fun H locs hP hD hS => ?_)
        exact hnext h_set h_frac h_new h_layers h_sights h_shadows h_heights h_pairs h_rows h_notes _ _ (va_P_swap hP) (va_D_swap hD) hS
      · refine lv_tableIn (off := 225) (tgt := 257) hx hb dL_law_32 (by decide) (by decide) rfl (by decide) ?_
        obtain ⟨r, o0, o1, o2, o3, e1, e2, h_new⟩ := height_ok (xs (i + 1)) (xs (i + 2)) (xs (i + 3)) h_set h_frac 
        refine lcX_height hL C0 hi5 hN hK e1 hP hD hS hl (fun H locs hP hD hS => ?_)
        refine lcM_height hL C0 hi5 hN hK e2 (va_P_swap hP) (va_D_swap hD) hS hl (fun H locs hP hD hS => ?_)
        exact hnext h_set h_new h_edges h_layers h_sights h_shadows h_heights h_pairs h_rows h_notes _ _ (va_P_swap hP) (va_D_swap hD) hS
      · refine lv_tableIn (off := 268) (tgt := 300) hx hb dL_law_32 (by decide) (by decide) rfl (by decide) ?_
        obtain ⟨r, e1, e2⟩ := part_ok (xs (i + 1)) h_frac 
        refine lcX_part hL C0 hi5 hN hK e1 hP hD hS hl (fun H locs hP hD hS => ?_)
        refine lcM_part hL C0 hi5 hN hK e2 (va_P_swap hP) (va_D_swap hD) hS hl (fun H locs hP hD hS => ?_)
        exact hnext h_set h_frac h_edges h_layers h_sights h_shadows h_heights h_pairs h_rows h_notes _ _ (va_P_swap hP) (va_D_swap hD) hS
      · refine lv_tableIn (off := 292) (tgt := 324) hx hb dL_law_32 (by decide) (by decide) rfl (by decide) ?_
        obtain ⟨r, e1, e2⟩ := floor_ok  h_frac 
        refine lcX_floor hL C0 hi5 hN hK e1 hP hD hS hl (fun H locs hP hD hS => ?_)
        refine lcM_floor hL C0 hi5 hN hK e2 (va_P_swap hP) (va_D_swap hD) hS hl (fun H locs hP hD hS => ?_)
        exact hnext h_set h_frac h_edges h_layers h_sights h_shadows h_heights h_pairs h_rows h_notes _ _ (va_P_swap hP) (va_D_swap hD) hS
      · refine lv_tableIn (off := 306) (tgt := 338) hx hb dL_law_32 (by decide) (by decide) rfl (by decide) ?_
        obtain ⟨r, o0, o1, o2, o3, e1, e2, h_new⟩ := layer_ok (xs (i + 1)) h_layers 
        refine lcX_layer hL C0 hi5 hN hK e1 hP hD hS hl (fun H locs hP hD hS => ?_)
        refine lcM_layer hL C0 hi5 hN hK e2 (va_P_swap hP) (va_D_swap hD) hS hl (fun H locs hP hD hS => ?_)
        exact hnext h_set h_frac h_edges h_new h_sights h_shadows h_heights h_pairs h_rows h_notes _ _ (va_P_swap hP) (va_D_swap hD) hS
      · refine lv_tableIn (off := 329) (tgt := 361) hx hb dL_law_32 (by decide) (by decide) rfl (by decide) ?_
        obtain ⟨r, o0, o1, o2, o3, o4, o5, o6, o7, e1, e2, h_new⟩ := rules_ok (xs (i + 1)) (xs (i + 2)) (xs (i + 3)) (xs (i + 4)) h_set 
        refine lcX_rules hL C0 hi5 hN hK e1 hP hD hS hl (fun H locs hP hD hS => ?_)
        refine lcM_rules hL C0 hi5 hN hK e2 (va_P_swap hP) (va_D_swap hD) hS hl (fun H locs hP hD hS => ?_)
        exact hnext h_new h_frac h_edges h_layers h_sights h_shadows h_heights h_pairs h_rows h_notes _ _ (va_P_swap hP) (va_D_swap hD) hS
      · refine lv_tableIn (off := 382) (tgt := 414) hx hb dL_law_32 (by decide) (by decide) rfl (by decide) ?_
        obtain ⟨r, e1, e2⟩ := cost_ok (xs (i + 1)) (xs (i + 2)) h_set h_edges h_layers 
        refine lcX_cost hL C0 hi5 hN hK e1 hP hD hS hl (fun H locs hP hD hS => ?_)
        refine lcM_cost hL C0 hi5 hN hK e2 (va_P_swap hP) (va_D_swap hD) hS hl (fun H locs hP hD hS => ?_)
        exact hnext h_set h_frac h_edges h_layers h_sights h_shadows h_heights h_pairs h_rows h_notes _ _ (va_P_swap hP) (va_D_swap hD) hS
      · refine lv_tableIn (off := 415) (tgt := 447) hx hb dL_law_32 (by decide) (by decide) rfl (by decide) ?_
        obtain ⟨r, o0, o1, o2, e1, e2⟩ := matched_ok (xs (i + 1)) h_set h_edges h_layers _ _ _
        refine lcX_matched hL C0 hi5 hN hK e1 hP hD hS hl (fun H locs hP hD hS => ?_)
        refine lcM_matched hL C0 hi5 hN hK e2 (va_P_swap hP) (va_D_swap hD) hS hl (fun H locs hP hD hS => ?_)
        exact hnext h_set h_frac h_edges h_layers h_sights h_shadows h_heights h_pairs h_rows h_notes _ _ (va_P_swap hP) (va_D_swap hD) hS
      · refine lv_tableIn (off := 438) (tgt := 470) hx hb dL_law_32 (by decide) (by decide) rfl (by decide) ?_
        obtain ⟨r, o0, o1, o2, o3, e1, e2, h_new⟩ := sight_ok (xs (i + 1)) (xs (i + 2)) (xs (i + 3)) (xs (i + 4)) h_sights 
        refine lcX_sight hL C0 hi5 hN hK e1 hP hD hS hl (fun H locs hP hD hS => ?_)
        refine lcM_sight hL C0 hi5 hN hK e2 (va_P_swap hP) (va_D_swap hD) hS hl (fun H locs hP hD hS => ?_)
        exact hnext h_set h_frac h_edges h_layers h_new h_shadows h_heights h_pairs h_rows h_notes _ _ (va_P_swap hP) (va_D_swap hD) hS
      · refine lv_tableIn (off := 491) (tgt := 523) hx hb dL_law_32 (by decide) (by decide) rfl (by decide) ?_
        obtain ⟨r, o0, o1, o2, o3, e1, e2, h_new⟩ := shadow_ok (xs (i + 1)) (xs (i + 2)) (xs (i + 3)) (xs (i + 4)) h_shadows 
        refine lcX_shadow hL C0 hi5 hN hK e1 hP hD hS hl (fun H locs hP hD hS => ?_)
        refine lcM_shadow hL C0 hi5 hN hK e2 (va_P_swap hP) (va_D_swap hD) hS hl (fun H locs hP hD hS => ?_)
        exact hnext h_set h_frac h_edges h_layers h_sights h_new h_heights h_pairs h_rows h_notes _ _ (va_P_swap hP) (va_D_swap hD) hS
      · refine lv_tableIn (off := 544) (tgt := 576) hx hb dL_law_32 (by decide) (by decide) rfl (by decide) ?_
        obtain ⟨r, o0, o1, o2, o3, o4, o5, o6, o7, e1, e2, h_new⟩ := speed_ok (xs (i + 1)) (xs (i + 2)) (xs (i + 3)) h_set h_sights h_frac _ _ _ _
        refine lcX_speed hL C0 hi5 hN hK e1 hP hD hS hl (fun H locs hP hD hS => ?_)
        refine lcM_speed hL C0 hi5 hN hK e2 (va_P_swap hP) (va_D_swap hD) hS hl (fun H locs hP hD hS => ?_)
        exact hnext h_set h_new h_edges h_layers h_sights h_shadows h_heights h_pairs h_rows h_notes _ _ (va_P_swap hP) (va_D_swap hD) hS
      · refine lv_tableIn (off := 587) (tgt := 619) hx hb dL_law_32 (by decide) (by decide) rfl (by decide) ?_
        obtain ⟨r, o0, o1, o2, o3, o4, o5, e1, e2, h_new⟩ := shade_ok (xs (i + 1)) (xs (i + 2)) (xs (i + 3)) h_shadows h_frac _ _
        refine lcX_shade hL C0 hi5 hN hK e1 hP hD hS hl (fun H locs hP hD hS => ?_)
        refine lcM_shade hL C0 hi5 hN hK e2 (va_P_swap hP) (va_D_swap hD) hS hl (fun H locs hP hD hS => ?_)
        exact hnext h_set h_new h_edges h_layers h_sights h_shadows h_heights h_pairs h_rows h_notes _ _ (va_P_swap hP) (va_D_swap hD) hS
      · refine lv_tableIn (off := 630) (tgt := 662) hx hb dL_law_32 (by decide) (by decide) rfl (by decide) ?_
        obtain ⟨r, o0, o1, o2, o3, o4, o5, o6, o7, o8, o9, o10, o11, e1, e2⟩ := agree_ok (xs (i + 1)) (xs (i + 2)) (xs (i + 3)) (xs (i + 4)) h_set h_sights h_shadows _ _ _ _ _ _ _ _ _ _ _ _
        refine lcX_agree hL C0 hi5 hN hK e1 hP hD hS hl (fun H locs hP hD hS => ?_)
        refine lcM_agree hL C0 hi5 hN hK e2 (va_P_swap hP) (va_D_swap hD) hS hl (fun H locs hP hD hS => ?_)
        exact hnext h_set h_frac h_edges h_layers h_sights h_shadows h_heights h_pairs h_rows h_notes _ _ (va_P_swap hP) (va_D_swap hD) hS
      · refine lv_tableIn (off := 683) (tgt := 715) hx hb dL_law_32 (by decide) (by decide) rfl (by decide) ?_
        obtain ⟨r, e1, e2⟩ := balloon_ok (xs (i + 1)) (xs (i + 2)) (xs (i + 3)) (xs (i + 4))  
        refine lcX_balloon hL C0 hi5 hN hK e1 hP hD hS hl (fun H locs hP hD hS => ?_)
        refine lcM_balloon hL C0 hi5 hN hK e2 (va_P_swap hP) (va_D_swap hD) hS hl (fun H locs hP hD hS => ?_)
        exact hnext h_set h_frac h_edges h_layers h_sights h_shadows h_heights h_pairs h_rows h_notes _ _ (va_P_swap hP) (va_D_swap hD) hS
      · refine lv_tableIn (off := 736) (tgt := 768) hx hb dL_law_32 (by decide) (by decide) rfl (by decide) ?_
        obtain ⟨r, o0, o1, o2, o3, e1, e2, h_new⟩ := light_ok (xs (i + 1)) (xs (i + 2)) h_frac 
        refine lcX_light hL C0 hi5 hN hK e1 hP hD hS hl (fun H locs hP hD hS => ?_)
        refine lcM_light hL C0 hi5 hN hK e2 (va_P_swap hP) (va_D_swap hD) hS hl (fun H locs hP hD hS => ?_)
        exact hnext h_set h_new h_edges h_layers h_sights h_shadows h_heights h_pairs h_rows h_notes _ _ (va_P_swap hP) (va_D_swap hD) hS
      · refine lv_tableIn (off := 769) (tgt := 801) hx hb dL_law_32 (by decide) (by decide) rfl (by decide) ?_
        obtain ⟨r, o0, o1, o2, o3, o4, o5, e1, e2, h_new⟩ := span_ok (xs (i + 1)) (xs (i + 2)) (xs (i + 3)) h_heights 
        refine lcX_span hL C0 hi5 hN hK e1 hP hD hS hl (fun H locs hP hD hS => ?_)
        refine lcM_span hL C0 hi5 hN hK e2 (va_P_swap hP) (va_D_swap hD) hS hl (fun H locs hP hD hS => ?_)
        exact hnext h_set h_frac h_edges h_layers h_sights h_shadows h_new h_pairs h_rows h_notes _ _ (va_P_swap hP) (va_D_swap hD) hS
      · refine lv_tableIn (off := 812) (tgt := 844) hx hb dL_law_32 (by decide) (by decide) rfl (by decide) ?_
        obtain ⟨r, o0, o1, e1, e2, h_new⟩ := sweep_ok  h_heights 
        refine lcX_sweep hL C0 hi5 hN hK e1 hP hD hS hl (fun H locs hP hD hS => ?_)
        refine lcM_sweep hL C0 hi5 hN hK e2 (va_P_swap hP) (va_D_swap hD) hS hl (fun H locs hP hD hS => ?_)
        exact hnext h_set h_frac h_edges h_layers h_sights h_shadows h_new h_pairs h_rows h_notes _ _ (va_P_swap hP) (va_D_swap hD) hS
      · refine lv_tableIn (off := 825) (tgt := 857) hx hb dL_law_32 (by decide) (by decide) rfl (by decide) ?_
        obtain ⟨r, o0, o1, o2, o3, o4, e1, e2⟩ := must_ok (xs (i + 1)) (xs (i + 2)) h_heights _ _ _ _ _
        refine lcX_must hL C0 hi5 hN hK e1 hP hD hS hl (fun H locs hP hD hS => ?_)
        refine lcM_must hL C0 hi5 hN hK e2 (va_P_swap hP) (va_D_swap hD) hS hl (fun H locs hP hD hS => ?_)
        exact hnext h_set h_frac h_edges h_layers h_sights h_shadows h_heights h_pairs h_rows h_notes _ _ (va_P_swap hP) (va_D_swap hD) hS
      · refine lv_tableIn (off := 858) (tgt := 890) hx hb dL_law_32 (by decide) (by decide) rfl (by decide) ?_
        obtain ⟨r, o0, o1, o2, o3, o4, e1, e2⟩ := tilted_ok (xs (i + 1)) h_heights _ _ _ _ _
        refine lcX_tilted hL C0 hi5 hN hK e1 hP hD hS hl (fun H locs hP hD hS => ?_)
        refine lcM_tilted hL C0 hi5 hN hK e2 (va_P_swap hP) (va_D_swap hD) hS hl (fun H locs hP hD hS => ?_)
        exact hnext h_set h_frac h_edges h_layers h_sights h_shadows h_heights h_pairs h_rows h_notes _ _ (va_P_swap hP) (va_D_swap hD) hS
      · refine lv_tableIn (off := 881) (tgt := 913) hx hb dL_law_32 (by decide) (by decide) rfl (by decide) ?_
        obtain ⟨r, o0, o1, o2, o3, e1, e2, h_new⟩ := pair_ok (xs (i + 1)) (xs (i + 2)) (xs (i + 3)) h_pairs 
        refine lcX_pair hL C0 hi5 hN hK e1 hP hD hS hl (fun H locs hP hD hS => ?_)
        refine lcM_pair hL C0 hi5 hN hK e2 (va_P_swap hP) (va_D_swap hD) hS hl (fun H locs hP hD hS => ?_)
        exact hnext h_set h_frac h_edges h_layers h_sights h_shadows h_heights h_new h_rows h_notes _ _ (va_P_swap hP) (va_D_swap hD) hS
      · refine lv_tableIn (off := 924) (tgt := 956) hx hb dL_law_32 (by decide) (by decide) rfl (by decide) ?_
        obtain ⟨r, o0, o1, e1, e2⟩ := worst_ok  h_pairs _ _
        refine lcX_worst hL C0 hi5 hN hK e1 hP hD hS hl (fun H locs hP hD hS => ?_)
        refine lcM_worst hL C0 hi5 hN hK e2 (va_P_swap hP) (va_D_swap hD) hS hl (fun H locs hP hD hS => ?_)
        exact hnext h_set h_frac h_edges h_layers h_sights h_shadows h_heights h_pairs h_rows h_notes _ _ (va_P_swap hP) (va_D_swap hD) hS
      · refine lv_tableIn (off := 937) (tgt := 969) hx hb dL_law_32 (by decide) (by decide) rfl (by decide) ?_
        obtain ⟨r, o0, o1, e1, e2⟩ := bent_ok (xs (i + 1)) h_pairs _ _
        refine lcX_bent hL C0 hi5 hN hK e1 hP hD hS hl (fun H locs hP hD hS => ?_)
        refine lcM_bent hL C0 hi5 hN hK e2 (va_P_swap hP) (va_D_swap hD) hS hl (fun H locs hP hD hS => ?_)
        exact hnext h_set h_frac h_edges h_layers h_sights h_shadows h_heights h_pairs h_rows h_notes _ _ (va_P_swap hP) (va_D_swap hD) hS
      · refine lv_tableIn (off := 960) (tgt := 992) hx hb dL_law_32 (by decide) (by decide) rfl (by decide) ?_
        obtain ⟨r, o0, o1, o2, o3, e1, e2, h_new⟩ := row_ok (xs (i + 1)) (xs (i + 2)) (xs (i + 3)) (xs (i + 4)) h_rows 
        refine lcX_row hL C0 hi5 hN hK e1 hP hD hS hl (fun H locs hP hD hS => ?_)
        refine lcM_row hL C0 hi5 hN hK e2 (va_P_swap hP) (va_D_swap hD) hS hl (fun H locs hP hD hS => ?_)
        exact hnext h_set h_frac h_edges h_layers h_sights h_shadows h_heights h_pairs h_new h_notes _ _ (va_P_swap hP) (va_D_swap hD) hS
      · refine lv_tableIn (off := 1013) (tgt := 1045) hx hb dL_law_32 (by decide) (by decide) rfl (by decide) ?_
        obtain ⟨r, o0, o1, o2, e1, e2⟩ := guess_ok (xs (i + 1)) (xs (i + 2)) (xs (i + 3)) (xs (i + 4)) h_rows _ _ _
        refine lcX_guess hL C0 hi5 hN hK e1 hP hD hS hl (fun H locs hP hD hS => ?_)
        refine lcM_guess hL C0 hi5 hN hK e2 (va_P_swap hP) (va_D_swap hD) hS hl (fun H locs hP hD hS => ?_)
        exact hnext h_set h_frac h_edges h_layers h_sights h_shadows h_heights h_pairs h_rows h_notes _ _ (va_P_swap hP) (va_D_swap hD) hS
      · refine lv_tableIn (off := 1066) (tgt := 1098) hx hb dL_law_32 (by decide) (by decide) rfl (by decide) ?_
        obtain ⟨r, o0, o1, o2, o3, e1, e2, h_new⟩ := under_ok (xs (i + 1)) (xs (i + 2)) h_notes 
        refine lcX_under hL C0 hi5 hN hK e1 hP hD hS hl (fun H locs hP hD hS => ?_)
        refine lcM_under hL C0 hi5 hN hK e2 (va_P_swap hP) (va_D_swap hD) hS hl (fun H locs hP hD hS => ?_)
        exact hnext h_set h_frac h_edges h_layers h_sights h_shadows h_heights h_pairs h_rows h_new _ _ (va_P_swap hP) (va_D_swap hD) hS
      · refine lv_tableIn (off := 1099) (tgt := 1131) hx hb dL_law_32 (by decide) (by decide) rfl (by decide) ?_
        obtain ⟨r, o0, o1, o2, e1, e2⟩ := order_ok (xs (i + 1)) h_notes _ _ _
        refine lcX_order hL C0 hi5 hN hK e1 hP hD hS hl (fun H locs hP hD hS => ?_)
        refine lcM_order hL C0 hi5 hN hK e2 (va_P_swap hP) (va_D_swap hD) hS hl (fun H locs hP hD hS => ?_)
        exact hnext h_set h_frac h_edges h_layers h_sights h_shadows h_heights h_pairs h_rows h_notes _ _ (va_P_swap hP) (va_D_swap hD) hS
      · refine lv_tableIn (off := 1122) (tgt := 1154) hx hb dL_law_32 (by decide) (by decide) rfl (by decide) ?_
        obtain ⟨r, e1, e2⟩ := count9 (xs (i + 1)) h_edges h_layers h_sights h_shadows h_heights h_pairs h_rows h_notes 
        refine lcX_count hL C0 hi5 hN hK e1 hP hD hS hl (fun H locs hP hD hS => ?_)
        refine lcM_count hL C0 hi5 hN hK e2 (va_P_swap hP) (va_D_swap hD) hS hl (fun H locs hP hD hS => ?_)
        exact hnext h_set h_frac h_edges h_layers h_sights h_shadows h_heights h_pairs h_rows h_notes _ _ (va_P_swap hP) (va_D_swap hD) hS
      · refine lv_tableIn (off := 1145) (tgt := 1177) hx hb dL_law_32 (by decide) (by decide) rfl (by decide) ?_
        obtain ⟨r, e1, e2⟩ := digest_ok  h_set h_frac h_edges h_layers h_sights h_shadows h_heights h_pairs h_rows h_notes 
        refine lcX_digest hL C0 hi5 hN hK e1 hP hD hS hl (fun H locs hP hD hS => ?_)
        refine lcM_digest hL C0 hi5 hN hK e2 (va_P_swap hP) (va_D_swap hD) hS hl (fun H locs hP hD hS => ?_)
        exact hnext h_set h_frac h_edges h_layers h_sights h_shadows h_heights h_pairs h_rows h_notes _ _ (va_P_swap hP) (va_D_swap hD) hS
      · refine lv_tableOut (tgt := 1191) hx hb dL_law_32 (Or.inr (by decide)) (by decide) ?_
        exact hnext h_set h_frac h_edges h_layers h_sights h_shadows h_heights h_pairs h_rows h_notes _ _ hP hD hS
      · refine lv_tableOut (tgt := 1191) hx hb dL_law_32 (Or.inr (by decide)) (by decide) ?_
        exact hnext h_set h_frac h_edges h_layers h_sights h_shadows h_heights h_pairs h_rows h_notes _ _ hP hD hS
