/-! Euclid's way, on both sides; height and light -/
theorem lN_j (n : Nat) : lN n = jI (n : Int) := Int64.ofInt_eq_ofNat.symm
theorem jI_div {a b : Int} (h1 : -9223372036854775807 ≤ a) (h2 : a ≤ 9223372036854775807) (h3 : -9223372036854775808 ≤ b) (h4 : b ≤ 9223372036854775807) : jI a / jI b = jI (a.tdiv b) := by
  refine (Int64.ofInt_tdiv ?_ ?_ ?_ ?_).symm
  · rw [Int64.toInt_minValue]; omega
  · rw [Int64.toInt_maxValue]; omega
  · rw [Int64.toInt_minValue]; omega
  · rw [Int64.toInt_maxValue]; omega
theorem lN_eq0 {y : Nat} (h : y < 2 ^ 63) : lg_cmp (lN y) 0 = 0 ↔ y = 0 := by
  rw [lc_eq, show (0 : Int64) = lN 0 from rfl, pk_lEQ h (by decide)]
theorem cd_end (x k : Nat) : fX1_commonDivisor_L1 (lN x, lN 0, nI k) = some (.inl (lN x)) := by
  unfold fX1_commonDivisor_L1
  dsimp only [un3]
  by_cases h : (100 : Int32) ≤ nI k
  · rw [if_pos h]
  · rw [if_neg h, if_pos ((lN_eq0 (by decide)).mpr rfl)]
theorem cd_step {x y k : Nat} (hk : k < 100) (hy : 0 < y) (hy2 : y < 2 ^ 63) (hx : x < 2 ^ 63) : fX1_commonDivisor_L1 (lN x, lN y, nI k) = some (.inr (lN y, lN (x % y), nI (k + 1))) := by
  unfold fX1_commonDivisor_L1
  dsimp only [un3]
  have h0 : ¬ lN y = 0 := by
    rw [show (0 : Int64) = lN 0 from rfl, pk_lEQ hy2 (by decide)]; omega
  rw [if_neg (show ¬ (100 : Int32) ≤ nI k from nI_ge (show k < 100 from hk) (by decide)), if_neg (fun q => h0 ((lc_eq _ _).mp q)), decide_eq_true h0, gd_t, bv_d, bv_d, pk_lRem hx hy hy2, nI_1]
theorem md_end (x : Nat) : fX10_divisor_L1 (lN x, lN 0) = some (.inl (lN x)) := by
  unfold fX10_divisor_L1
  dsimp only [un2]
  rw [if_pos ((lN_eq0 (by decide)).mpr rfl)]
theorem md_step {x y : Nat} (hy : 0 < y) (hy2 : y < 2 ^ 63) (hx : x < 2 ^ 63) : fX10_divisor_L1 (lN x, lN y) = some (.inr (lN y, lN (x % y))) := by
  unfold fX10_divisor_L1
  dsimp only [un2]
  have h0 : ¬ lN y = 0 := by
    rw [show (0 : Int64) = lN 0 from rfl, pk_lEQ hy2 (by decide)]; omega
  rw [if_neg (fun q => h0 ((lc_eq _ _).mp q)), decide_eq_true h0, gd_t, bv_d, pk_lRem hx hy hy2]
theorem it_inr {V E : Type} {f : V → Option (E ⊕ V)} {n : Nat} {v w : V} (h : f v = some (.inr w)) : it f (n + 1) v = it f n w := by
  show (match f v with
    | none => none
    | some (.inl e) => some e
    | some (.inr w) => it f n w) = _
  rw [h]
theorem it_inl {V E : Type} {f : V → Option (E ⊕ V)} {n : Nat} {v : V} {e : E} (h : f v = some (.inl e)) : it f (n + 1) v = some e := by
  show (match f v with
    | none => none
    | some (.inl e) => some e
    | some (.inr w) => it f n w) = _
  rw [h]
theorem gcd_st (x y : Nat) : Nat.gcd y (x % y) = Nat.gcd x y := by
  rw [Nat.gcd_comm x y, Nat.gcd_rec y x, Nat.gcd_comm]
theorem half_st {x y : Nat} (hy : 0 < y) (h1 : 0 < x % y) : 2 * (y % (x % y)) < y := by
  have h2 : x % y < y := Nat.mod_lt x hy
  have h3 : y % (x % y) < x % y := Nat.mod_lt y h1
  have h4 : y % (x % y) + (x % y) * (y / (x % y)) = y := Nat.mod_add_div y (x % y)
  have h5 : 1 ≤ y / (x % y) := (Nat.le_div_iff_mul_le h1).mpr (by omega)
  have h6 : (x % y) * 1 ≤ (x % y) * (y / (x % y)) := Nat.mul_le_mul_left _ h5
  omega
theorem cd_run : ∀ (m x y k f : Nat), x < 2 ^ 62 → y < 2 ^ m → m ≤ 50 → 2 * m + k ≤ 100 → 2 * m < f → it fX1_commonDivisor_L1 f (lN x, lN y, nI k) = some (lN (Nat.gcd x y)) := by
  intro m
  induction m with
  | zero =>
    intro x y k f hx hy _ _ hf
    have : y = 0 := by simpa using hy
    subst this
    obtain ⟨f', rfl⟩ : ∃ f', f = f' + 1 := ⟨f - 1, by omega⟩
    rw [it_inl (cd_end x k), Nat.gcd_zero_right]
  | succ m ih =>
    intro x y k f hx hy hm hk hf
    obtain ⟨f', rfl⟩ : ∃ f', f = f' + 2 := ⟨f - 2, by omega⟩
    have hp : (2 : Nat) ^ (m + 1) ≤ 2 ^ 50 := Nat.pow_le_pow_right (by decide) hm
    have hy62 : y < 2 ^ 62 := Nat.lt_of_lt_of_le hy (Nat.le_trans hp (by decide))
    rcases Nat.eq_zero_or_pos y with rfl | hy0
    · rw [show f' + 2 = (f' + 1) + 1 from rfl, it_inl (cd_end x k), Nat.gcd_zero_right]
    · rw [show f' + 2 = (f' + 1) + 1 from rfl, it_inr (cd_step (by omega) hy0 (by omega) (by omega))]
      have hr : x % y < y := Nat.mod_lt x hy0
      rcases Nat.eq_zero_or_pos (x % y) with hz | hz
      · rw [hz, it_inl (cd_end y (k + 1)), ← gcd_st x y, hz, Nat.gcd_zero_right]
      · rw [it_inr (cd_step (by omega) hz (by omega) (by omega))]
        have hh := half_st hy0 hz
        have hpp : (2 : Nat) ^ (m + 1) = 2 * 2 ^ m := by rw [Nat.pow_succ, Nat.mul_comm]
        rw [ih (x % y) (y % (x % y)) (k + 1 + 1) f' (by omega) (by omega) (by omega) (by omega) (by omega), gcd_st y (x % y), gcd_st x y]
theorem md_run : ∀ (m x y f : Nat), x < 2 ^ 62 → y < 2 ^ m → m ≤ 50 → 2 * m < f → it fX10_divisor_L1 f (lN x, lN y) = some (lN (Nat.gcd x y)) := by
  intro m
  induction m with
  | zero =>
    intro x y f hx hy _ hf
    have : y = 0 := by simpa using hy
    subst this
    obtain ⟨f', rfl⟩ : ∃ f', f = f' + 1 := ⟨f - 1, by omega⟩
    rw [it_inl (md_end x), Nat.gcd_zero_right]
  | succ m ih =>
    intro x y f hx hy hm hf
    obtain ⟨f', rfl⟩ : ∃ f', f = f' + 2 := ⟨f - 2, by omega⟩
    have hp : (2 : Nat) ^ (m + 1) ≤ 2 ^ 50 := Nat.pow_le_pow_right (by decide) hm
    have hy62 : y < 2 ^ 62 := Nat.lt_of_lt_of_le hy (Nat.le_trans hp (by decide))
    rcases Nat.eq_zero_or_pos y with rfl | hy0
    · rw [show f' + 2 = (f' + 1) + 1 from rfl, it_inl (md_end x), Nat.gcd_zero_right]
    · rw [show f' + 2 = (f' + 1) + 1 from rfl, it_inr (md_step hy0 (by omega) (by omega))]
      have hr : x % y < y := Nat.mod_lt x hy0
      rcases Nat.eq_zero_or_pos (x % y) with hz | hz
      · rw [hz, it_inl (md_end y), ← gcd_st x y, hz, Nat.gcd_zero_right]
      · rw [it_inr (md_step hz (by omega) (by omega))]
        have hh := half_st hy0 hz
        have hpp : (2 : Nat) ^ (m + 1) = 2 * 2 ^ m := by rw [Nat.pow_succ, Nat.mul_comm]
        rw [ih (x % y) (y % (x % y)) f' (by omega) (by omega) (by omega) (by omega), gcd_st y (x % y), gcd_st x y]
/-- the divisor of both -/
def gI (A B : Int) : Int := (Nat.gcd A.natAbs B.natAbs : Nat)
theorem gI_pos {A B : Int} (hB : 0 < B) : 0 < gI A B := by
  unfold gI
  have : 0 < Nat.gcd A.natAbs B.natAbs := Nat.gcd_pos_of_pos_right _ (by omega)
  omega
theorem gI_le {A B : Int} (hB : 0 < B) : gI A B ≤ B := by
  unfold gI
  have : Nat.gcd A.natAbs B.natAbs ≤ B.natAbs := Nat.le_of_dvd (by omega) (Nat.gcd_dvd_right _ _)
  omega
theorem gI_B {A B : Int} : ∃ k : Int, B = gI A B * k := by
  obtain ⟨k, hk⟩ := Nat.gcd_dvd_right A.natAbs B.natAbs
  unfold gI
  rcases Int.natAbs_eq B with e | e
  · exact ⟨k, by rw [← Int.natCast_mul, ← hk]; exact e⟩
  · exact ⟨-k, by rw [Int.mul_neg, ← Int.natCast_mul, ← hk]; exact e⟩
theorem gI_A {A B : Int} : ∃ k : Int, A = gI A B * k := by
  obtain ⟨k, hk⟩ := Nat.gcd_dvd_left A.natAbs B.natAbs
  unfold gI
  rcases Int.natAbs_eq A with e | e
  · exact ⟨k, by rw [← Int.natCast_mul, ← hk]; exact e⟩
  · exact ⟨-k, by rw [Int.mul_neg, ← Int.natCast_mul, ← hk]; exact e⟩
theorem gI_Bpos {A B : Int} (hB : 0 < B) : 0 < B.tdiv (gI A B) := by
  obtain ⟨k, hk⟩ := gI_B (A := A) (B := B)
  have hg := gI_pos (A := A) hB
  have e : B.tdiv (gI A B) = k := by
    have h2 : (gI A B * k).tdiv (gI A B) = k := Int.mul_tdiv_cancel_left k (by omega)
    rw [← hk] at h2
    exact h2
  rw [e]
  rw [hk, Int.mul_comm] at hB
  exact Int.pos_of_mul_pos_left hB hg
theorem abs_l {A : Int} (h1 : -4611686018427387904 < A) (h2 : A < 4611686018427387904) : (if 0 < jI A then jI A else -jI A) = lN A.natAbs := by
  rw [lN_j]
  by_cases h : 0 < A
  · rw [if_pos (by rw [show (0 : Int64) = jI 0 from rfl, jI_lt (by omega) (by omega) (by omega) (by omega)]; exact h)]
    congr 1; omega
  · rw [if_neg (by rw [show (0 : Int64) = jI 0 from rfl, jI_lt (by omega) (by omega) (by omega) (by omega)]; exact h), jI_neg]
    congr 1; omega
theorem put_eq {A B : Int} (h1 : -4611686018427387904 < A) (h2 : A < 4611686018427387904) (hB : 0 < B) (hB2 : B < 4398046511104) (t u : Int64) : fX1_put (jI A) (jI B) t u = some (jI (A.tdiv (gI A B)), jI (B.tdiv (gI A B))) := by
  unfold fX1_put fX1_commonDivisor
  have c0 : 0 < lg_cmp (jI B) 0 := by rw [lc_gt, show (0 : Int64) = jI 0 from rfl, jI_lt (by omega) (by omega) (by omega) (by omega)]; exact hB
  rw [if_pos c0, bv_d, abs_l h1 h2]
  have eB : jI B = lN B.natAbs := by rw [lN_j]; congr 1; omega
  have e1 : it fX1_commonDivisor_L1 100000 (lN A.natAbs, jI B, 0) = some (lN (Nat.gcd A.natAbs B.natAbs)) := by
    rw [eB]
    exact cd_run 42 A.natAbs B.natAbs 0 100000 (by omega) (by omega) (by decide) (by decide) (by decide)
  rw [e1, ob_s, ob_s]
  have hg := gI_pos (A := A) hB
  have hg2 := gI_le (A := A) hB
  have eg : lN (Nat.gcd A.natAbs B.natAbs) = jI (gI A B) := lN_j _
  rw [eg]
  have c1 : 0 < lg_cmp (jI (gI A B)) 0 := by rw [lc_gt, show (0 : Int64) = jI 0 from rfl, jI_lt (by omega) (by omega) (by omega) (by omega)]; exact hg
  have c2 : ¬ jI (gI A B) = 0 := by rw [show (0 : Int64) = jI 0 from rfl, jI_eq (by omega) (by omega) (by omega) (by omega)]; omega
  rw [if_pos c1, decide_eq_true c2, gd_t, bv_d, gd_t, bv_d, jI_div (by omega) (by omega) (by omega) (by omega), jI_div (by omega) (by omega) (by omega) (by omega)]
theorem div_eq {A B : Int} (h1 : -4611686018427387904 < A) (h2 : A < 4611686018427387904) (hB : 0 < B) (hB2 : B < 4398046511104) : fX10_divisor (jI A) (jI B) = some (jI (gI A B)) := by
  unfold fX10_divisor
  have eA : (if 0 ≤ lg_cmp (jI A) 0 then some (jI A) else some (-jI A)) = some (lN A.natAbs) := by
    rw [lN_j]
    by_cases h : 0 ≤ A
    · rw [if_pos (by rw [lc_ge, show (0 : Int64) = jI 0 from rfl, jI_le (by omega) (by omega) (by omega) (by omega)]; exact h)]
      congr 2; omega
    · rw [if_neg (by rw [lc_ge, show (0 : Int64) = jI 0 from rfl, jI_le (by omega) (by omega) (by omega) (by omega)]; exact h), jI_neg]
      congr 2; omega
  have eB : (if 0 ≤ lg_cmp (jI B) 0 then some (jI B) else some (-jI B)) = some (lN B.natAbs) := by
    rw [if_pos (by rw [lc_ge, show (0 : Int64) = jI 0 from rfl, jI_le (by omega) (by omega) (by omega) (by omega)]; omega), lN_j]
    congr 2; omega
  rw [eA, ob_s, eB, ob_s, md_run 42 A.natAbs B.natAbs 100000 (by omega) (by omega) (by decide) (by decide), ob_s]
  exact congrArg some (lN_j _)
theorem tells_eq {A B : Int} (h1 : -4611686018427387904 < A) (h2 : A < 4611686018427387904) (hB : 0 < B) (hB2 : B < 4398046511104) (t u : Int64) : fX10_tells (jI A) (jI B) t u = some (1, jI (A.tdiv (gI A B)), jI (B.tdiv (gI A B))) := by
  unfold fX10_tells
  have hg := gI_pos (A := A) hB
  have hg2 := gI_le (A := A) hB
  have c2 : ¬ jI (gI A B) = 0 := by rw [show (0 : Int64) = jI 0 from rfl, jI_eq (by omega) (by omega) (by omega) (by omega)]; omega
  rw [div_eq h1 h2 hB hB2, ob_s, decide_eq_true c2, gd_t, bv_d, gd_t, bv_d, jI_div (by omega) (by omega) (by omega) (by omega), jI_div (by omega) (by omega) (by omega) (by omega)]
theorem frac_new {A B : Int} (hB : 0 < B) (hB2 : B < 4398046511104) : R_frac (jI (A.tdiv (gI A B))) (jI (B.tdiv (gI A B))) (jI (A.tdiv (gI A B))) (jI (B.tdiv (gI A B))) := by
  refine ⟨rfl, rfl, ?_⟩
  have h := gI_Bpos (A := A) hB
  have hg := gI_pos (A := A) hB
  have hle : B.tdiv (gI A B) ≤ B := Int.tdiv_le_self _ (by omega)
  rw [jI_toInt (by omega) (by omega)]
  exact h
theorem light_ok (x1 x2 : Int32) {xa xb ma mb : Int64} (h : R_frac xa xb ma mb) : ∃ r a' b' a2 b2, fX9_light x1 x2 xa xb = some (r, a', b') ∧ fX10_light x1 x2 ma mb = some (r, a2, b2) ∧ R_frac a' b' a2 b2 := by
  unfold fX9_light fX10_light
  simp only [isWithin_eq, in_eq, isLean_eq, isLeanM_eq, ob_s, bv_d]
  cases h1 : wi x1 1 100000 with
  | false => exact ⟨_, _, _, _, _, rfl, rfl, h⟩
  | true =>
    cases h2 : wi x2 (-20000) 20000 with
    | false => exact ⟨_, _, _, _, _, rfl, rfl, h⟩
    | true =>
      simp only [ite_b]
      obtain ⟨w, hw1, hw2, rfl⟩ := rg_i (wi_lit h1 (a := 1) (b := 100000) (by decide) (by decide))
      obtain ⟨l, hl1, hl2, rfl⟩ := rg_i (wi_lit h2 (a := -20000) (b := 20000) (by decide) (by decide))
      by_cases hl : 0 < l
      · have c1 : (0 : Int32) < iI l := by rw [show (0 : Int32) = iI 0 from rfl, iI_lt (by omega) (by omega) (by omega) (by omega)]; exact hl
        rw [if_pos c1, if_neg (Int32.not_le.mpr c1)]
        rw [iI_l (by omega) (by omega), iI_l (by omega) (by omega), show (1000 : Int64) = jI 1000 from by decide, jI_mul]
        rw [put_eq (by omega) (by omega) hl (by omega), tells_eq (by omega) (by omega) hl (by omega)]
        exact ⟨_, _, _, _, _, rfl, rfl, frac_new hl (by omega)⟩
      · have c1 : ¬ (0 : Int32) < iI l := by rw [show (0 : Int32) = iI 0 from rfl, iI_lt (by omega) (by omega) (by omega) (by omega)]; exact hl
        rw [if_neg c1, if_pos (Int32.not_lt.mp c1)]
        exact ⟨_, _, _, _, _, rfl, rfl, h⟩
theorem mul_bd {a b M N : Int} (ha1 : -M ≤ a) (ha2 : a ≤ M) (hb1 : -N ≤ b) (hb2 : b ≤ N) : -(M * N) ≤ a * b ∧ a * b ≤ M * N := by
  have hM : 0 ≤ M := by omega
  have hN : 0 ≤ N := by omega
  have hab : (a * b).natAbs = a.natAbs * b.natAbs := Int.natAbs_mul a b
  have h1 : a.natAbs ≤ M.natAbs := by omega
  have h2 : b.natAbs ≤ N.natAbs := by omega
  have h3 : a.natAbs * b.natAbs ≤ M.natAbs * N.natAbs := Nat.mul_le_mul h1 h2
  have h4 : (M * N).natAbs = M.natAbs * N.natAbs := Int.natAbs_mul M N
  have h5 : 0 ≤ M * N := Int.mul_nonneg hM hN
  omega
theorem height_ok (x1 x2 x3 : Int32) {xb xs xl xh xu xa mb ms ml mh mu ma : Int32} (hs : R_set xb xs xl xh xu xa mb ms ml mh mu ma) {fa fb ga gb : Int64} (h : R_frac fa fb ga gb) : ∃ r a' b' a2 b2, fX9_height x1 x2 x3 fa fb xb xs = some (r, a', b') ∧ fX10_height x1 x2 x3 mb ms ga gb = some (r, a2, b2) ∧ R_frac a' b' a2 b2 := by
  obtain ⟨rfl, rfl, -, -, -, -, rb, rs, -⟩ := hs
  unfold fX9_height fX10_height
  simp only [isWithin_eq, in_eq, isLean_eq, isLeanM_eq, ob_s, bv_d]
  cases h1 : wi x1 (-20000) 20000 with
  | false => exact ⟨_, _, _, _, _, rfl, rfl, h⟩
  | true =>
    cases h2 : wi x2 (-20000) 20000 with
    | false => exact ⟨_, _, _, _, _, rfl, rfl, h⟩
    | true =>
      cases h3 : wi x3 0 3 with
      | false => exact ⟨_, _, _, _, _, rfl, rfl, h⟩
      | true =>
        simp only [ite_b]
        obtain ⟨B, hB1, hB2, rfl⟩ := rg_i rb
        obtain ⟨S, hS1, hS2, rfl⟩ := rg_i rs
        obtain ⟨a, ha1, ha2, rfl⟩ := rg_i (wi_lit h1 (a := -20000) (b := 20000) (by decide) (by decide))
        obtain ⟨b, hb1, hb2, rfl⟩ := rg_i (wi_lit h2 (a := -20000) (b := 20000) (by decide) (by decide))
        obtain ⟨k, -, hk, rfl⟩ := rg_n (hi := 3) (wi_lit h3 (a := 0) (b := 3) (by decide) (by decide)) (by decide)
        rw [iI_sub, iI_l (z := a - b) (by omega) (by omega), iI_l (z := S) (by omega) (by omega), iI_l (z := B) (by omega) (by omega), iI_l (z := a) (by omega) (by omega)]
        have key : ∀ (G : Int) (N : Int), -42000 ≤ G → G ≤ 42000 → -2000000000 ≤ N → N ≤ 2000000000 → ∃ r a' b' a2 b2, (if 0 < lg_cmp (jI G) 0 then ob2 (fX1_put (jI N) (jI G) fa fb) (fun w24 w25 => some ((1 : Int32), w24, w25)) else some (0, fa, fb)) = some (r, a', b') ∧ (if 0 < iI G then ob3 (fX10_tells (jI N) (Int32.toInt64 (iI G)) fa fb) (fun r21 w22 w23 => some (r21, w22, w23)) else some (0, fa, fb)) = some (r, a2, b2) ∧ R_frac a' b' a2 b2 := by
          intro G N g1 g2 n1 n2
          by_cases hG : 0 < G
          · rw [if_pos (by rw [lc_gt, show (0 : Int64) = jI 0 from rfl, jI_lt (by omega) (by omega) (by omega) (by omega)]; exact hG), if_pos (by rw [show (0 : Int32) = iI 0 from rfl, iI_lt (by omega) (by omega) (by omega) (by omega)]; exact hG), iI_l (by omega) (by omega), put_eq (by omega) (by omega) hG (by omega), tells_eq (by omega) (by omega) hG (by omega)]
            exact ⟨_, _, _, _, _, rfl, rfl, frac_new hG (by omega)⟩
          · rw [if_neg (by rw [lc_gt, show (0 : Int64) = jI 0 from rfl, jI_lt (by omega) (by omega) (by omega) (by omega)]; exact hG), if_neg (by rw [show (0 : Int32) = iI 0 from rfl, iI_lt (by omega) (by omega) (by omega) (by omega)]; exact hG)]
            obtain ⟨rfl, rfl, hp⟩ := h
            exact ⟨_, _, _, _, _, rfl, rfl, rfl, rfl, hp⟩
        obtain ⟨rfl, rfl, hp⟩ := id h
        have e2 : (2 : Int64) = jI 2 := by decide
        have e2' : (2 : Int32) = iI 2 := by decide
        have e3 : (1000 : Int64) = jI 1000 := by decide
        have n1 : -2000000000 ≤ B * 1000 ∧ B * 1000 ≤ 2000000000 := by omega
        have n2 : -2000000000 ≤ B * a ∧ B * a ≤ 2000000000 := by
          have := mul_bd (a := B) (b := a) (M := 100000) (N := 20000) (by omega) (by omega) (by omega) (by omega)
          omega
        have ec : (1000 : Int) * B = B * 1000 := Int.mul_comm _ _
        rcases (show k = 0 ∨ k = 1 ∨ k = 2 ∨ k = 3 by omega) with rfl | rfl | rfl | rfl
        · simp only [show (nI 0 = 2) = False from by decide, show (nI 0 = 3) = False from by decide, show (nI 0 = 1) = False from by decide, if_false, ob_s]
          rw [e3, jI_mul, jI_mul, ec]
          exact key (a - b) (B * 1000) (by omega) (by omega) n1.1 n1.2
        · simp only [show (nI 1 = 2) = False from by decide, show (nI 1 = 3) = False from by decide, show (nI 1 = 1) = True from by decide, if_false, if_true, ob_s]
          rw [jI_mul]
          exact key (a - b) (B * a) (by omega) (by omega) n2.1 n2.2
        · simp only [show (nI 2 = 2) = True from by decide, show (nI 2 = 1) = False from by decide, if_false, if_true, ob_s]
          rw [e3, jI_mul, jI_mul, ec, e2, e2', jI_mul, jI_add, iI_mul, iI_add]
          exact key (a - b + 2 * S) (B * 1000) (by omega) (by omega) n1.1 n1.2
        · simp only [show (nI 3 = 2) = False from by decide, show (nI 3 = 3) = True from by decide, show (nI 3 = 1) = False from by decide, if_false, if_true, ob_s]
          rw [e3, jI_mul, jI_mul, ec, e2, e2', jI_mul, jI_sub, iI_mul, iI_sub]
          exact key (a - b - 2 * S) (B * 1000) (by omega) (by omega) n1.1 n1.2
