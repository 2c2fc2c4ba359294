/-! adding: edge, layer, sight, shadow, span, pair, row, under; clear, sweep, count -/
theorem nI_ne {a b : Nat} (h : a ≠ b) (ha : a < 2 ^ 31) (hb : b < 2 ^ 31) : ¬ nI a = nI b := fun q => h ((nI_eq ha hb).mp q)
theorem clear_ok {l0 : Int32} {a0 : Nat → Int32} {l1 : Int32} {a1 ed le wo : Nat → Int32} (h : R_edges l0 a0 l1 a1 ed le wo) : ∃ r l0' l1' ed', fX9_clear l0 l1 = some (r, l0', l1') ∧ fX10_clear ed = some (r, ed') ∧ R_edges l0' a0 l1' a1 ed' le wo := by
  obtain ⟨c0, c1, h0, h1, rfl, rfl, e0, e1, -, -⟩ := h
  refine ⟨nI c0 + nI c1, 0, 0, upd (upd ed 0 0) 1 0, rfl, ?_, R_edges_0 _ _ _ _ _ rfl rfl⟩
  have q : fX10_clear ed = some (ed 0 + ed 1, upd (upd ed 0 0) 1 0) := rfl
  rw [q, e0, e1]
theorem sweep_ok {l : Int32} {a : Nat → Int32} {ml : Int32} {lo hi at_ : Nat → Int32} (h : R_heights l a ml lo hi at_) : ∃ r l' ml', fX9_sweep l = some (r, l') ∧ fX10_sweep ml = some (r, ml') ∧ R_heights l' a ml' lo hi at_ := by
  obtain ⟨c, h0, rfl, rfl, -⟩ := h
  exact ⟨nI c, 0, 0, rfl, rfl, R_heights_0 _ _ _ _⟩
theorem layer_ok (x1 : Int32) {l : Int32} {a : Nat → Int32} {ml : Int32} {ma : Nat → Int32} (h : R_layers l a ml ma) : ∃ r l' a' ml' ma', fX9_layer x1 1 6 l 6 a = some (r, l', a') ∧ fX10_layer x1 ml ma = some (r, ml', ma') ∧ R_layers l' a' ml' ma' := by
  unfold fX9_layer fX10_layer
  simp only [isWithin_eq, in_eq, ob_s, bv_d]
  cases h1 : wi x1 1 100000 with
  | false => exact ⟨_, _, _, _, _, rfl, rfl, h⟩
  | true =>
    obtain ⟨c, hc, rfl, rfl, hr⟩ := h
    have e0 : ∀ (p q : Option (Int32 × Int32 × (Nat → Int32))), (if b2i true = 0 then p else q) = q := fun p q => if_neg (by decide)
    rw [e0, e0]
    rcases Nat.lt_or_ge c 6 with hlt | hge
    · obtain ⟨f', hf, k0, k1, -⟩ := tadd (w := 1) (K := 6) (by decide) (by decide) hlt a x1 0 0 0
      have hf' : fX7_add x1 0 0 0 1 6 (nI c) 6 a = some (nI (c + 1), nI (c + 1), f') := hf
      rw [hf', ob3_s, if_neg (show ¬ nI c = 6 from nI_ne (b := 6) (by omega) (by omega) (by omega)), in_bnd (vp_in_nI hlt (by omega)), gd_t, nI_clamp (by omega), show nI c + 1 = nI (c + 1) from nI_1 c]
      refine ⟨_, _, _, _, _, rfl, rfl, c + 1, by omega, rfl, rfl, fun i hi => ?_⟩
      rcases Nat.lt_or_ge i c with q | q
      · rw [k0 i (by omega), upd_e, if_neg (by omega)]
        exact hr i q
      · have : i = c := by omega
        subst this
        have k1' := k1 (by decide)
        rw [Nat.one_mul] at k1'
        rw [k1', upd_e, if_pos rfl]
        exact ⟨rfl, wi_lit h1 (by decide) (by decide)⟩
    · have : c = 6 := by omega
      subst this
      have hf' : fX7_add x1 0 0 0 1 6 (nI 6) 6 a = some (-4, nI 6, a) := tfull (w := 1) (K := 6) (by decide) 6 a x1 0 0 0
      rw [hf', ob3_s, if_pos (show nI 6 = 6 from rfl)]
      exact ⟨_, _, _, _, _, rfl, rfl, 6, by omega, rfl, rfl, hr⟩
theorem edge_ok (x1 x2 x3 : Int32) {l0 : Int32} {a0 : Nat → Int32} {l1 : Int32} {a1 ed le wo : Nat → Int32} (h : R_edges l0 a0 l1 a1 ed le wo) : ∃ r l0' l1' a0' a1' ed' le' wo', fX9_edge x1 x2 x3 2 8 l0 2 8 l1 16 a0 16 a1 = some (r, l0', l1', a0', a1') ∧ fX10_edge x1 x2 x3 ed le wo = some (r, ed', le', wo') ∧ R_edges l0' a0' l1' a1' ed' le' wo' := by
  unfold fX9_edge fX10_edge
  simp only [isWithin_eq, in_eq, isLean_eq, isLeanM_eq, ob_s, bv_d]
  cases h1 : wi x1 0 1 with
  | false => exact ⟨_, _, _, _, _, _, _, _, rfl, rfl, h⟩
  | true =>
    cases h2 : wi x2 (-20000) 20000 with
    | false => exact ⟨_, _, _, _, _, _, _, _, rfl, rfl, h⟩
    | true =>
      cases h3 : wi x3 0 9 with
      | false => exact ⟨_, _, _, _, _, _, _, _, rfl, rfl, h⟩
      | true =>
        have e0 : ∀ (p q : Option (Int32 × Int32 × Int32 × (Nat → Int32) × (Nat → Int32))), (if b2i true = 0 then p else q) = q := fun p q => if_neg (by decide)
        have e1 : ∀ (p q : Option (Int32 × (Nat → Int32) × (Nat → Int32) × (Nat → Int32))), (if b2i true = 0 then p else q) = q := fun p q => if_neg (by decide)
        rw [e0, e0, e0, e1, e1, e1]
        have r2 : rg x2 (-20000) 20000 := wi_lit h2 (by decide) (by decide)
        have r3 : rg x3 0 9 := wi_lit h3 (by decide) (by decide)
        obtain ⟨c0, c1, hc0, hc1, rfl, rfl, d0, d1, k0, k1⟩ := h
        have r1 : rg x1 0 1 := wi_lit h1 (by decide) (by decide)
        obtain ⟨j, -, hj, rfl⟩ := rg_n (hi := 1) r1 (by decide)
        rcases (show j = 0 ∨ j = 1 by omega) with rfl | rfl
        · rw [if_pos (show nI 0 = 0 from rfl)]
          have b0 : bnd (nI 0) 2 = true := by decide
          rw [b0]
          simp only [gd_t]
          rw [show (nI 0).toNatClampNeg = 0 from by decide, d0]
          rcases Nat.lt_or_ge c0 8 with hlt | hge
          · obtain ⟨f', hf, m0, m1, m2, -⟩ := tadd (w := 2) (K := 8) (by decide) (by decide) hlt a0 x2 x3 0 0
            have hf' : fX7_add x2 x3 0 0 2 8 (nI c0) 16 a0 = some (nI (c0 + 1), nI (c0 + 1), f') := hf
            have m1 := m1 (by decide)
            have m2 := m2 (by decide)
            have ei : (8 : Int32) * nI 0 + nI c0 = nI c0 := by
              rw [show (8 : Int32) * nI 0 = nI 0 from by decide, nI_add, Nat.zero_add]
            rw [hf', ob3_s, if_neg (show ¬ nI c0 = 8 from nI_ne (b := 8) (by omega) (by omega) (by omega)), ei, in_bnd (vp_in_nI (show c0 < 16 by omega) (by omega)), gd_t, gd_t, nI_clamp (by omega), show nI c0 + 1 = nI (c0 + 1) from nI_1 c0]
            refine ⟨_, _, _, _, _, _, _, _, rfl, rfl, c0 + 1, c1, by omega, hc1, rfl, rfl, rfl, by rw [upd_e, if_neg (by decide)]; exact d1, fun i hi => ?_, fun i hi => ?_⟩
            · rcases Nat.lt_or_ge i c0 with q | q
              · rw [m0 _ (by omega), m0 _ (by omega), upd_e, upd_e, if_neg (by omega), if_neg (by omega)]
                exact k0 i q
              · have : i = c0 := by omega
                subst this
                rw [m1, m2, upd_e, upd_e, if_pos rfl, if_pos rfl]
                exact ⟨rfl, rfl, r2, r3⟩
            · rw [upd_e, upd_e, if_neg (by omega), if_neg (by omega)]
              exact k1 i hi
          · have : c0 = 8 := by omega
            subst this
            have hf' : fX7_add x2 x3 0 0 2 8 (nI 8) 16 a0 = some (-4, nI 8, a0) := tfull (w := 2) (K := 8) (by decide) 16 a0 x2 x3 0 0
            rw [hf', ob3_s, if_pos (show nI 8 = 8 from rfl)]
            exact ⟨_, _, _, _, _, _, _, _, rfl, rfl, 8, c1, by omega, hc1, rfl, rfl, d0, d1, k0, k1⟩
        · rw [if_neg (show ¬ nI 1 = 0 from by decide)]
          have b0 : bnd (nI 1) 2 = true := by decide
          rw [b0]
          simp only [gd_t]
          rw [show (nI 1).toNatClampNeg = 1 from by decide, d1]
          rcases Nat.lt_or_ge c1 8 with hlt | hge
          · obtain ⟨f', hf, m0, m1, m2, -⟩ := tadd (w := 2) (K := 8) (by decide) (by decide) hlt a1 x2 x3 0 0
            have hf' : fX7_add x2 x3 0 0 2 8 (nI c1) 16 a1 = some (nI (c1 + 1), nI (c1 + 1), f') := hf
            have m1 := m1 (by decide)
            have m2 := m2 (by decide)
            have ei : (8 : Int32) * nI 1 + nI c1 = nI (8 + c1) := by
              rw [show (8 : Int32) * nI 1 = nI 8 from by decide, nI_add]
            rw [hf', ob3_s, if_neg (show ¬ nI c1 = 8 from nI_ne (b := 8) (by omega) (by omega) (by omega)), ei, in_bnd (vp_in_nI (show 8 + c1 < 16 by omega) (by omega)), gd_t, gd_t, nI_clamp (by omega), show nI c1 + 1 = nI (c1 + 1) from nI_1 c1]
            refine ⟨_, _, _, _, _, _, _, _, rfl, rfl, c0, c1 + 1, hc0, by omega, rfl, rfl, by rw [upd_e, if_neg (by decide)]; exact d0, rfl, fun i hi => ?_, fun i hi => ?_⟩
            · rw [upd_e, upd_e, if_neg (by omega), if_neg (by omega)]
              exact k0 i hi
            · rcases Nat.lt_or_ge i c1 with q | q
              · rw [m0 _ (by omega), m0 _ (by omega), upd_e, upd_e, if_neg (by omega), if_neg (by omega)]
                exact k1 i q
              · have : i = c1 := by omega
                subst this
                rw [m1, m2, upd_e, upd_e, if_pos rfl, if_pos rfl]
                exact ⟨rfl, rfl, r2, r3⟩
          · have : c1 = 8 := by omega
            subst this
            have hf' : fX7_add x2 x3 0 0 2 8 (nI 8) 16 a1 = some (-4, nI 8, a1) := tfull (w := 2) (K := 8) (by decide) 16 a1 x2 x3 0 0
            rw [hf', ob3_s, if_pos (show nI 8 = 8 from rfl)]
            exact ⟨_, _, _, _, _, _, _, _, rfl, rfl, c0, 8, hc0, by omega, rfl, rfl, d0, d1, k0, k1⟩
theorem ite_b {α : Type} (p q : α) : (if b2i true = 0 then p else q) = q := if_neg (by decide)
theorem ite_bf {α : Type} (p q : α) : (if b2i false = 0 then p else q) = p := if_pos (by decide)
theorem puff_eq (x y : Int32) : fX9_isPuffAndMinute x y = some (wi x 0 7 && wi y 0 1439) := by
  unfold fX9_isPuffAndMinute
  simp only [isWithin_eq, ob_s]
  cases h1 : wi x 0 7 with
  | false => rfl
  | true =>
    cases h2 : wi y 0 1439 with
    | false => rfl
    | true => rfl
theorem fhw_eq (x y z : Int32) : fX9_isFormHourWind x y z = some (wi x 0 7 && wi y 0 23 && wi z 0 7) := by
  unfold fX9_isFormHourWind
  simp only [isWithin_eq, isForm_eq, ob_s]
  cases h1 : wi x 0 7 with
  | false => rfl
  | true =>
    cases h2 : wi y 0 23 with
    | false => rfl
    | true =>
      cases h3 : wi z 0 7 with
      | false => rfl
      | true => rfl
/-- four numbers into a row of the reference -/
theorem put4 {c n : Nat} (hc : 4 * c + 3 < n) (hn : n < 100000) (f : Nat → Int32) (a b d e : Int32) : (4 : Int32) * nI c = nI (4 * c) ∧ nI (4 * c) + 1 = nI (4 * c + 1) ∧ nI (4 * c) + 2 = nI (4 * c + 2) ∧ nI (4 * c) + 3 = nI (4 * c + 3) ∧ bnd (nI (4 * c)) n = true ∧ bnd (nI (4 * c + 1)) n = true ∧ bnd (nI (4 * c + 2)) n = true ∧ bnd (nI (4 * c + 3)) n = true := by
  refine ⟨pk_mul 4 c, nI_add _ 1, nI_add _ 2, nI_add _ 3, in_bnd (vp_in_nI (by omega) (by omega)), in_bnd (vp_in_nI (by omega) (by omega)), in_bnd (vp_in_nI (by omega) (by omega)), in_bnd (vp_in_nI (by omega) (by omega))⟩
theorem four_keep {c : Nat} {a f' ma : Nat → Int32} {x1 x2 x3 x4 : Int32} (m0 : ∀ k, k < 4 * c → f' k = a k) (m1 : f' (4 * c) = x1) (m2 : f' (4 * c + 1) = x2) (m3 : f' (4 * c + 2) = x3) (m4 : f' (4 * c + 3) = x4) (he : ∀ k, k < 4 * c → a k = ma k) : ∀ k, k < 4 * (c + 1) → f' k = upd (upd (upd (upd ma (4 * c) x1) (4 * c + 1) x2) (4 * c + 2) x3) (4 * c + 3) x4 k := by
  intro k hk
  rcases Nat.lt_or_ge k (4 * c) with q | q
  · rw [m0 k q, he k q, upd_e, if_neg (by omega), upd_e, if_neg (by omega), upd_e, if_neg (by omega), upd_e, if_neg (by omega)]
  · rcases (show k = 4 * c ∨ k = 4 * c + 1 ∨ k = 4 * c + 2 ∨ k = 4 * c + 3 by omega) with rfl | rfl | rfl | rfl
    · rw [m1, upd_e, if_neg (by omega), upd_e, if_neg (by omega), upd_e, if_neg (by omega), upd_e, if_pos rfl]
    · rw [m2, upd_e, if_neg (by omega), upd_e, if_neg (by omega), upd_e, if_pos rfl]
    · rw [m3, upd_e, if_neg (by omega), upd_e, if_pos rfl]
    · rw [m4, upd_e, if_pos rfl]
theorem four_at (c : Nat) (ma : Nat → Int32) (x1 x2 x3 x4 : Int32) : (∀ k, k < 4 * c → upd (upd (upd (upd ma (4 * c) x1) (4 * c + 1) x2) (4 * c + 2) x3) (4 * c + 3) x4 k = ma k) ∧ upd (upd (upd (upd ma (4 * c) x1) (4 * c + 1) x2) (4 * c + 2) x3) (4 * c + 3) x4 (4 * c) = x1 ∧ upd (upd (upd (upd ma (4 * c) x1) (4 * c + 1) x2) (4 * c + 2) x3) (4 * c + 3) x4 (4 * c + 1) = x2 ∧ upd (upd (upd (upd ma (4 * c) x1) (4 * c + 1) x2) (4 * c + 2) x3) (4 * c + 3) x4 (4 * c + 2) = x3 ∧ upd (upd (upd (upd ma (4 * c) x1) (4 * c + 1) x2) (4 * c + 2) x3) (4 * c + 3) x4 (4 * c + 3) = x4 := by
  refine ⟨fun k hk => ?_, ?_, ?_, ?_, ?_⟩
  · rw [upd_e, if_neg (by omega), upd_e, if_neg (by omega), upd_e, if_neg (by omega), upd_e, if_neg (by omega)]
  · rw [upd_e, if_neg (by omega), upd_e, if_neg (by omega), upd_e, if_neg (by omega), upd_e, if_pos rfl]
  · rw [upd_e, if_neg (by omega), upd_e, if_neg (by omega), upd_e, if_pos rfl]
  · rw [upd_e, if_neg (by omega), upd_e, if_pos rfl]
  · rw [upd_e, if_pos rfl]
theorem sight_ok (x1 x2 x3 x4 : Int32) {l : Int32} {a : Nat → Int32} {ml : Int32} {ma : Nat → Int32} (h : R_sights l a ml ma) : ∃ r l' a' ml' ma', fX9_sight x1 x2 x3 x4 4 40 l 160 a = some (r, l', a') ∧ fX10_sight x1 x2 x3 x4 ml ma = some (r, ml', ma') ∧ R_sights l' a' ml' ma' := by
  unfold fX9_sight fX10_sight
  simp only [isWithin_eq, in_eq, isLean_eq, isLeanM_eq, puff_eq, ob_s, bv_d]
  cases h1 : wi x1 0 7 with
  | false => exact ⟨_, _, _, _, _, rfl, rfl, h⟩
  | true =>
    cases h2 : wi x2 0 1439 with
    | false => exact ⟨_, _, _, _, _, rfl, rfl, h⟩
    | true =>
      cases h3 : wi x3 (-20000) 20000 with
      | false => exact ⟨_, _, _, _, _, rfl, rfl, h⟩
      | true =>
        cases h4 : wi x4 (-20000) 20000 with
        | false => exact ⟨_, _, _, _, _, rfl, rfl, h⟩
        | true =>
          simp only [Bool.and_self, ite_b]
          obtain ⟨c, hc, rfl, rfl, he, hr⟩ := h
          rcases Nat.lt_or_ge c 40 with hlt | hge
          · obtain ⟨f', hf, m0, m1, m2, m3, m4⟩ := taddN (w := 4) (K := 40) (by decide) (by decide) hlt a x1 x2 x3 x4
            have hf' : fX7_addNumbered x1 x2 x3 x4 4 40 (nI c) 160 a = some (nI c, nI (c + 1), f') := hf
            have m1 := m1 (by decide)
            have m2 := m2 (by decide)
            have m3 := m3 (by decide)
            have m4 := m4 (by decide)
            obtain ⟨i0, i1, i2, i3, b0, b1, b2, b3⟩ := put4 (c := c) (n := 160) (by omega) (by omega) ma x1 x2 x3 x4
            rw [hf', ob3_s, if_neg (show ¬ nI c = 40 from nI_ne (b := 40) (by omega) (by omega) (by omega)), i0, i1, i2, i3, b0, b1, b2, b3]
            simp only [gd_t]
            rw [nI_clamp (by omega), nI_clamp (by omega), nI_clamp (by omega), nI_clamp (by omega), show nI c + 1 = nI (c + 1) from nI_1 c, nI_pred]
            obtain ⟨u0, u1, u2, u3, u4⟩ := four_at c ma x1 x2 x3 x4
            refine ⟨_, _, _, _, _, rfl, rfl, c + 1, by omega, rfl, rfl, four_keep m0 m1 m2 m3 m4 he, fun i hi => ?_⟩
            rcases Nat.lt_or_ge i c with q | q
            · rw [u0 _ (by omega), u0 _ (by omega), u0 _ (by omega), u0 _ (by omega)]
              exact hr i q
            · have : i = c := by omega
              subst this
              rw [u1, u2, u3, u4]
              exact ⟨wi_lit h1 (by decide) (by decide), wi_lit h2 (by decide) (by decide), wi_lit h3 (by decide) (by decide), wi_lit h4 (by decide) (by decide)⟩
          · have : c = 40 := by omega
            subst this
            have hf' : fX7_addNumbered x1 x2 x3 x4 4 40 (nI 40) 160 a = some (-4, nI 40, a) := tfullN (w := 4) (K := 40) (by decide) 160 a x1 x2 x3 x4
            rw [hf', ob3_s, if_pos (show nI 40 = 40 from rfl)]
            exact ⟨_, _, _, _, _, rfl, rfl, 40, by omega, rfl, rfl, he, hr⟩
theorem shadow_ok (x1 x2 x3 x4 : Int32) {l : Int32} {a : Nat → Int32} {ml : Int32} {ma : Nat → Int32} (h : R_shadows l a ml ma) : ∃ r l' a' ml' ma', fX9_shadow x1 x2 x3 x4 4 40 l 160 a = some (r, l', a') ∧ fX10_shadow x1 x2 x3 x4 ml ma = some (r, ml', ma') ∧ R_shadows l' a' ml' ma' := by
  unfold fX9_shadow fX10_shadow
  simp only [isWithin_eq, in_eq, isLean_eq, isLeanM_eq, puff_eq, ob_s, bv_d]
  cases h1 : wi x1 0 7 with
  | false => exact ⟨_, _, _, _, _, rfl, rfl, h⟩
  | true =>
    cases h2 : wi x2 0 1439 with
    | false => exact ⟨_, _, _, _, _, rfl, rfl, h⟩
    | true =>
      cases h3 : wi x3 (-1000000) 1000000 with
      | false => exact ⟨_, _, _, _, _, rfl, rfl, h⟩
      | true =>
        cases h4 : wi x4 0 10000 with
        | false => exact ⟨_, _, _, _, _, rfl, rfl, h⟩
        | true =>
          simp only [Bool.and_self, ite_b]
          obtain ⟨c, hc, rfl, rfl, he, hr⟩ := h
          rcases Nat.lt_or_ge c 40 with hlt | hge
          · obtain ⟨f', hf, m0, m1, m2, m3, m4⟩ := taddN (w := 4) (K := 40) (by decide) (by decide) hlt a x1 x2 x3 x4
            have hf' : fX7_addNumbered x1 x2 x3 x4 4 40 (nI c) 160 a = some (nI c, nI (c + 1), f') := hf
            have m1 := m1 (by decide)
            have m2 := m2 (by decide)
            have m3 := m3 (by decide)
            have m4 := m4 (by decide)
            obtain ⟨i0, i1, i2, i3, b0, b1, b2, b3⟩ := put4 (c := c) (n := 160) (by omega) (by omega) ma x1 x2 x3 x4
            rw [hf', ob3_s, if_neg (show ¬ nI c = 40 from nI_ne (b := 40) (by omega) (by omega) (by omega)), i0, i1, i2, i3, b0, b1, b2, b3]
            simp only [gd_t]
            rw [nI_clamp (by omega), nI_clamp (by omega), nI_clamp (by omega), nI_clamp (by omega), show nI c + 1 = nI (c + 1) from nI_1 c, nI_pred]
            obtain ⟨u0, u1, u2, u3, u4⟩ := four_at c ma x1 x2 x3 x4
            refine ⟨_, _, _, _, _, rfl, rfl, c + 1, by omega, rfl, rfl, four_keep m0 m1 m2 m3 m4 he, fun i hi => ?_⟩
            rcases Nat.lt_or_ge i c with q | q
            · rw [u0 _ (by omega), u0 _ (by omega), u0 _ (by omega), u0 _ (by omega)]
              exact hr i q
            · have : i = c := by omega
              subst this
              rw [u1, u2, u3, u4]
              exact ⟨wi_lit h1 (by decide) (by decide), wi_lit h2 (by decide) (by decide), wi_lit h3 (by decide) (by decide), wi_lit h4 (by decide) (by decide)⟩
          · have : c = 40 := by omega
            subst this
            have hf' : fX7_addNumbered x1 x2 x3 x4 4 40 (nI 40) 160 a = some (-4, nI 40, a) := tfullN (w := 4) (K := 40) (by decide) 160 a x1 x2 x3 x4
            rw [hf', ob3_s, if_pos (show nI 40 = 40 from rfl)]
            exact ⟨_, _, _, _, _, rfl, rfl, 40, by omega, rfl, rfl, he, hr⟩
theorem row_ok (x1 x2 x3 x4 : Int32) {l : Int32} {a : Nat → Int32} {ml : Int32} {ma : Nat → Int32} (h : R_rows l a ml ma) : ∃ r l' a' ml' ma', fX9_row x1 x2 x3 x4 4 200 l 800 a = some (r, l', a') ∧ fX10_row x1 x2 x3 x4 ml ma = some (r, ml', ma') ∧ R_rows l' a' ml' ma' := by
  unfold fX9_row fX10_row
  simp only [isWithin_eq, in_eq, fhw_eq, ob_s, bv_d]
  cases h1 : wi x1 0 7 with
  | false => exact ⟨_, _, _, _, _, rfl, rfl, h⟩
  | true =>
    cases h2 : wi x2 0 23 with
    | false => exact ⟨_, _, _, _, _, rfl, rfl, h⟩
    | true =>
      cases h3 : wi x3 0 7 with
      | false => exact ⟨_, _, _, _, _, rfl, rfl, h⟩
      | true =>
        cases h4 : wi x4 (-1) 100000 with
        | false => exact ⟨_, _, _, _, _, rfl, rfl, h⟩
        | true =>
          simp only [Bool.and_self, ite_b]
          obtain ⟨c, hc, rfl, rfl, he, hr⟩ := h
          rcases Nat.lt_or_ge c 200 with hlt | hge
          · obtain ⟨f', hf, m0, m1, m2, m3, m4⟩ := taddN (w := 4) (K := 200) (by decide) (by decide) hlt a x1 x2 x3 x4
            have hf' : fX7_addNumbered x1 x2 x3 x4 4 200 (nI c) 800 a = some (nI c, nI (c + 1), f') := hf
            have m1 := m1 (by decide)
            have m2 := m2 (by decide)
            have m3 := m3 (by decide)
            have m4 := m4 (by decide)
            obtain ⟨i0, i1, i2, i3, b0, b1, b2, b3⟩ := put4 (c := c) (n := 800) (by omega) (by omega) ma x1 x2 x3 x4
            rw [hf', ob3_s, if_neg (show ¬ nI c = 200 from nI_ne (b := 200) (by omega) (by omega) (by omega)), i0, i1, i2, i3, b0, b1, b2, b3]
            simp only [gd_t]
            rw [nI_clamp (by omega), nI_clamp (by omega), nI_clamp (by omega), nI_clamp (by omega), show nI c + 1 = nI (c + 1) from nI_1 c, nI_pred]
            obtain ⟨u0, u1, u2, u3, u4⟩ := four_at c ma x1 x2 x3 x4
            refine ⟨_, _, _, _, _, rfl, rfl, c + 1, by omega, rfl, rfl, four_keep m0 m1 m2 m3 m4 he, fun i hi => ?_⟩
            rcases Nat.lt_or_ge i c with q | q
            · rw [u0 _ (by omega), u0 _ (by omega), u0 _ (by omega), u0 _ (by omega)]
              exact hr i q
            · have : i = c := by omega
              subst this
              rw [u1, u2, u3, u4]
              exact ⟨wi_lit h1 (by decide) (by decide), wi_lit h2 (by decide) (by decide), wi_lit h3 (by decide) (by decide), wi_lit h4 (by decide) (by decide)⟩
          · have : c = 200 := by omega
            subst this
            have hf' : fX7_addNumbered x1 x2 x3 x4 4 200 (nI 200) 800 a = some (-4, nI 200, a) := tfullN (w := 4) (K := 200) (by decide) 800 a x1 x2 x3 x4
            rw [hf', ob3_s, if_pos (show nI 200 = 200 from rfl)]
            exact ⟨_, _, _, _, _, rfl, rfl, 200, by omega, rfl, rfl, he, hr⟩
