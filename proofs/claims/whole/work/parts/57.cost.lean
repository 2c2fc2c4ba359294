/-! cost of a pair -/
def nr (h : Int) (ma : Nat → Int32) : Nat → Int
  | 0 => 100000
  | k + 1 => if ((h - (ma k).toInt).natAbs : Int) < nr h ma k then ((h - (ma k).toInt).natAbs : Int) else nr h ma k
theorem nr_rg {h : Int} {ma : Nat → Int32} : ∀ k, 0 ≤ nr h ma k ∧ nr h ma k ≤ 100000 := by
  intro k
  induction k with
  | zero => exact ⟨by unfold nr; omega, by unfold nr; omega⟩
  | succ k ih =>
    unfold nr
    split <;> omega
theorem way_ok {a ma : Nat → Int32} {c : Nat} (hc : c ≤ 6) (hr : ∀ i, i < c → a i = ma i ∧ rg (ma i) 1 100000) {h : Int} (h1 : 1 ≤ h) (h2 : h ≤ 100000) : ∃ z : Int, 0 ≤ z ∧ z ≤ 100000 ∧ fX3_wayToLayer (iI h) 1 (nI c) 6 a = some (iI z) ∧ it (fX10_costOf_L1 (nI c) ma (iI h)) 100000 (0, 0) = some (iI z) := by
  have e100 : (100000 : Int32) = iI 100000 := by decide
  have eM : it (fX10_costOf_L1 (nI c) ma (iI h)) 100000 (0, 0) = some (iI (if c = 0 then 0 else nr h ma c)) := by
    refine it_loop (st := fun i => (iI (if i = 0 then 0 else nr h ma i), nI i)) c (by omega) (fun i hi => ?_) ?_
    · unfold fX10_costOf_L1
      dsimp only [un2]
      obtain ⟨-, r⟩ := hr i hi
      obtain ⟨y, y1, y2, ey⟩ := rg_i r
      have eY : (ma i).toInt = y := by rw [ey, iI_toInt (by omega) (by omega)]
      rw [if_neg (nI_ge hi (by omega)), in_bnd (vp_in_nI (show i < 6 by omega) (by omega))]
      simp only [gd_t, bv_d]
      rw [nI_clamp (by omega), ey, iI_sub, iI_sub]
      have eoff : (if iI y ≤ iI h then some (iI (h - y)) else some (iI (y - h))) = some (iI ((h - y).natAbs : Int)) := by
        by_cases q : y ≤ h
        · rw [if_pos ((iI_le (by omega) (by omega) (by omega) (by omega)).mpr q)]; congr 2; omega
        · rw [if_neg (fun q2 => q ((iI_le (by omega) (by omega) (by omega) (by omega)).mp q2))]; congr 2; omega
      rw [eoff, ob_s, nI_1]
      have hb := nr_rg (h := h) (ma := ma) i
      rcases Nat.eq_zero_or_pos i with rfl | hp
      · rw [if_pos (show nI 0 = 0 from rfl), ob_s, if_neg (by omega)]
        have e0 : nr h ma (0 + 1) = ((h - y).natAbs : Int) := by
          unfold nr
          rw [eY]
          unfold nr
          rw [if_pos (by omega)]
        rw [e0]
      · rw [if_neg (nI_ne0 hp (by omega)), if_neg (show ¬ i = 0 by omega), if_neg (show ¬ i + 1 = 0 by omega)]
        have e1 : nr h ma (i + 1) = if ((h - y).natAbs : Int) < nr h ma i then ((h - y).natAbs : Int) else nr h ma i := by
          conv => lhs; unfold nr
          rw [eY]
        rw [e1]
        by_cases q : ((h - y).natAbs : Int) < nr h ma i
        · rw [if_pos q, if_neg (fun q2 => absurd ((iI_le (by omega) (by omega) (by omega) (by omega)).mp q2) (by omega)), ob_s]
        · rw [if_neg q, if_pos ((iI_le (by omega) (by omega) (by omega) (by omega)).mpr (by omega)), ob_s]
    · unfold fX10_costOf_L1
      dsimp only [un2]
      rw [if_pos (nI_le (Nat.le_refl _) (by omega))]
  refine ⟨if c = 0 then 0 else nr h ma c, ?_, ?_, ?_, eM⟩
  · have := nr_rg (h := h) (ma := ma) c; split <;> omega
  · have := nr_rg (h := h) (ma := ma) c; split <;> omega
  · unfold fX3_wayToLayer
    rw [tsize, ob_s]
    rcases Nat.eq_zero_or_pos c with rfl | hp
    · rw [if_pos (show nI 0 = 0 from rfl), if_pos rfl]; rfl
    · rw [if_neg (nI_ne0 hp (by omega)), if_neg (show ¬ c = 0 by omega)]
      have eX : it (fX3_wayToLayer_L1 (nI c) 1 6 a (iI h)) 100000 (100000, 0) = some (iI (nr h ma c)) := by
        refine it_loop (st := fun i => (iI (nr h ma i), nI i)) c (by omega) (fun i hi => ?_) ?_
        · unfold fX3_wayToLayer_L1
          dsimp only [un2]
          obtain ⟨ea, r⟩ := hr i hi
          obtain ⟨y, y1, y2, ey⟩ := rg_i r
          have eY : (ma i).toInt = y := by rw [ey, iI_toInt (by omega) (by omega)]
          have t0 : fX7_at (nI i) 0 1 6 a = some (iI y) := by
            have q := tat (w := 1) (n := 6) (i := i) (j := 0) (by omega) (by omega) a
            rw [Nat.mul_one, Nat.add_zero, ea, ey] at q
            exact q
          have hb := nr_rg (h := h) (ma := ma) i
          rw [tsize, ob_s, if_neg (nI_ge hi (by omega)), t0, ob_s, iI_sub, absI (by omega) (by omega), bv_d, bv_d, bv_d, nI_1]
          have e1 : nr h ma (i + 1) = if ((h - y).natAbs : Int) < nr h ma i then ((h - y).natAbs : Int) else nr h ma i := by
            conv => lhs; unfold nr
            rw [eY]
          rw [e1]
          by_cases q : ((h - y).natAbs : Int) < nr h ma i
          · rw [if_pos q, if_pos ((iI_lt (by omega) (by omega) (by omega) (by omega)).mpr q)]
          · rw [if_neg q, if_neg (fun q2 => q ((iI_lt (by omega) (by omega) (by omega) (by omega)).mp q2))]
        · unfold fX3_wayToLayer_L1
          dsimp only [un2]
          rw [tsize, ob_s, if_pos (nI_le (Nat.le_refl _) (by omega))]
      rw [eX, ob_s]
/-- what both say of a pair of edges that are there -/
theorem costs {mb ml mh mu : Int32} (rb : rg mb 10 100000) (rl : rg ml 1 100000) (rh : rg mh 1 100000) (ru : rg mu 0 1000) {a0 a1 le wo : Nat → Int32} {c0 c1 : Nat} (hc0 : c0 ≤ 8) (hc1 : c1 ≤ 8) (k0 : ∀ i, i < c0 → a0 (2 * i) = le i ∧ a0 (2 * i + 1) = wo i ∧ rg (le i) (-20000) 20000 ∧ rg (wo i) 0 9) (k1 : ∀ i, i < c1 → a1 (2 * i) = le (8 + i) ∧ a1 (2 * i + 1) = wo (8 + i) ∧ rg (le (8 + i)) (-20000) 20000 ∧ rg (wo (8 + i)) 0 9) {a2 b2 : Nat → Int32} {c2 : Nat} (hc2 : c2 ≤ 6) (k2 : ∀ i, i < c2 → a2 i = b2 i ∧ rg (b2 i) 1 100000) {i j : Nat} (hi : i < c0) (hj : j < c1) : ∃ v : Int32, fX3_costOf (nI i) (nI j) mb ml mh mu 2 2 1 (nI c2) 16 a0 16 a1 6 a2 = some v ∧ fX10_costOf (nI i) (nI j) mb ml mh mu (nI c2) le wo b2 = some v ∧ (v = -1 ∨ ∃ k : Nat, k ≤ 101000 ∧ v = nI k) := by
  obtain ⟨p1, p2, p3, p4⟩ := k0 i hi
  obtain ⟨q1, q2, q3, q4⟩ := k1 j hj
  have t0 : fX7_at (nI i) 0 2 16 a0 = some (le i) := by
    have q := tat (w := 2) (n := 16) (i := i) (j := 0) (by omega) (by omega) a0
    rw [Nat.add_zero, Nat.mul_comm, p1] at q
    exact q
  have t1 : fX7_at (nI i) 1 2 16 a0 = some (wo i) := by
    have q := tat (w := 2) (n := 16) (i := i) (j := 1) (by omega) (by omega) a0
    rw [Nat.mul_comm, p2] at q
    exact q
  have t2 : fX7_at (nI j) 0 2 16 a1 = some (le (8 + j)) := by
    have q := tat (w := 2) (n := 16) (i := j) (j := 0) (by omega) (by omega) a1
    rw [Nat.add_zero, Nat.mul_comm, q1] at q
    exact q
  have t3 : fX7_at (nI j) 1 2 16 a1 = some (wo (8 + j)) := by
    have q := tat (w := 2) (n := 16) (i := j) (j := 1) (by omega) (by omega) a1
    rw [Nat.mul_comm, q2] at q
    exact q
  unfold fX3_costOf fX10_costOf
  rw [t0, t1, t2, t3, show (8 : Int32) + nI j = nI (8 + j) from nI_add 8 j, in_bnd (vp_in_nI (show i < 16 by omega) (by omega)), in_bnd (vp_in_nI (show 8 + j < 16 by omega) (by omega))]
  simp only [gd_t, ob_s, bv_d]
  rw [nI_clamp (by omega), nI_clamp (by omega)]
  obtain ⟨x, x1, x2, ex⟩ := rg_i p3
  obtain ⟨y, y1, y2, ey⟩ := rg_i q3
  obtain ⟨B, B1, B2, rfl⟩ := rg_i rb
  obtain ⟨lo, lo1, lo2, rfl⟩ := rg_i rl
  obtain ⟨hi', hi1, hi2, rfl⟩ := rg_i rh
  obtain ⟨u, u1, u2, rfl⟩ := rg_i ru
  rw [ex, ey, iI_sub, iI_l (z := x - y) (by omega) (by omega), iI_l (z := B) (by omega) (by omega), iI_l (z := lo) (by omega) (by omega), iI_l (z := hi') (by omega) (by omega), show (1000 : Int64) = jI 1000 from by decide, jI_mul, jI_mul, jI_mul]
  generalize hd : x - y = d
  have bl := mul_bd (a := lo) (b := d) (M := 100000) (N := 40000) (by omega) (by omega) (by omega) (by omega)
  have bh := mul_bd (a := hi') (b := d) (M := 100000) (N := 40000) (by omega) (by omega) (by omega) (by omega)
  have A1 : (0 < lg_cmp (jI d) 0) ↔ 0 < d := by rw [lc_gt, jI0, jI_lt (by omega) (by omega) (by omega) (by omega)]
  have A2 : (lg_cmp (jI d) 0 ≤ 0) ↔ d ≤ 0 := by rw [lc_le, jI0, jI_le (by omega) (by omega) (by omega) (by omega)]
  have A3 : (lg_cmp (jI (1000 * B)) (jI (lo * d)) < 0) ↔ 1000 * B < lo * d := by rw [lc_lt, jI_lt (by omega) (by omega) (by omega) (by omega)]
  have A4 : (lg_cmp (jI (1000 * B)) (jI (hi' * d)) ≤ 0) ↔ 1000 * B ≤ hi' * d := by rw [lc_le, jI_le (by omega) (by omega) (by omega) (by omega)]
  simp only [A1, A2, A3, A4]
  by_cases c1' : 0 < d
  · rw [if_pos c1', if_neg (show ¬ d ≤ 0 by omega)]
    by_cases c2' : 1000 * B < lo * d
    · rw [if_pos c2', if_pos c2']
      exact ⟨-1, rfl, rfl, Or.inl rfl⟩
    · rw [if_neg c2', if_neg c2']
      by_cases c3' : 1000 * B ≤ hi' * d
      · rw [if_pos c3', if_pos c3']
        have d0 : ¬ jI d = 0 := by rw [jI0, jI_eq (by omega) (by omega) (by omega) (by omega)]; omega
        rw [decide_eq_true d0]
        simp only [gd_t]
        rw [jI_div (by omega) (by omega) (by omega) (by omega)]
        have et : (1000 * B).tdiv d = 1000 * B / d := Int.tdiv_eq_ediv_of_nonneg (by omega)
        rw [et]
        have g1 : lo ≤ 1000 * B / d := (Int.le_ediv_iff_mul_le c1').mpr (by omega)
        have g2 : 1000 * B / d ≤ hi' := Int.ediv_le_of_le_mul c1' c3'
        rw [jI_i (by omega) (by omega)]
        obtain ⟨z, z1, z2, eX, eM⟩ := way_ok hc2 k2 (h := 1000 * B / d) (by omega) (by omega)
        rw [eX, eM]
        by_cases c4' : wo i = wo (8 + j)
        · rw [if_pos c4', ob_s, ob_s]
          refine ⟨_, rfl, rfl, Or.inr ⟨z.toNat, by omega, ?_⟩⟩
          rw [iI0, iI_add, ← iI_nat z1]
          congr 1; omega
        · rw [if_neg c4', ob_s, ob_s]
          refine ⟨_, rfl, rfl, Or.inr ⟨(u + z).toNat, by omega, ?_⟩⟩
          rw [iI_add, ← iI_nat (by omega)]
      · rw [if_neg c3', if_neg c3']
        exact ⟨-1, rfl, rfl, Or.inl rfl⟩
  · rw [if_neg c1', if_pos (show d ≤ 0 by omega)]
    exact ⟨-1, rfl, rfl, Or.inl rfl⟩
theorem cost_ok (x1 x2 : Int32) {xb xs xl xh xu xa mb ms ml mh mu ma : Int32} (hs : R_set xb xs xl xh xu xa mb ms ml mh mu ma) {l0 : Int32} {a0 : Nat → Int32} {l1 : Int32} {a1 ed le wo : Nat → Int32} (he : R_edges l0 a0 l1 a1 ed le wo) {l2 : Int32} {a2 : Nat → Int32} {m2 : Int32} {b2 : Nat → Int32} (h2 : R_layers l2 a2 m2 b2) : ∃ r, fX9_cost x1 x2 xb xl xh xu 2 l0 2 l1 1 l2 16 a0 16 a1 6 a2 = some r ∧ fX10_cost x1 x2 mb ml mh mu m2 ed le wo b2 = some r := by
  obtain ⟨rfl, rfl, rfl, rfl, rfl, rfl, rb, rs, rl, rh, -, ru, ra⟩ := hs
  obtain ⟨c0, c1, hc0, hc1, rfl, rfl, d0, d1, k0, k1⟩ := he
  obtain ⟨c2, hc2, rfl, rfl, k2⟩ := h2
  unfold fX9_cost fX10_cost
  rw [thas _ _ (by omega), thas _ _ (by omega), show bnd 0 2 = true from by decide, show bnd 1 2 = true from by decide, show (0 : Int32).toNatClampNeg = 0 from by decide, show (1 : Int32).toNatClampNeg = 1 from by decide, d0, d1]
  simp only [gd_t, in_eq, ob_s]
  cases h1 : wi x1 0 (nI c0 - 1) with
  | false => exact ⟨_, rfl, rfl⟩
  | true =>
    cases h2 : wi x2 0 (nI c1 - 1) with
    | false => exact ⟨_, rfl, rfl⟩
    | true =>
      simp only [ite_b]
      obtain ⟨i, hi, rfl⟩ := of_range (by omega) h1
      obtain ⟨j, hj, rfl⟩ := of_range (by omega) h2
      obtain ⟨v, e1, e2, -⟩ := costs rb rl rh ru hc0 hc1 k0 k1 hc2 k2 hi hj
      rw [e1, e2]
      exact ⟨_, rfl, rfl⟩
