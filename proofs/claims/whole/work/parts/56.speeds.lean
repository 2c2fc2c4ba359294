/-! fractions in lowest terms -/
def nfA (A B : Int) : Int := A.tdiv (gI A B)
def nfB (A B : Int) : Int := B.tdiv (gI A B)
theorem nf_A {A B : Int} : A = gI A B * nfA A B := by
  obtain ⟨k, hk⟩ := gI_A (A := A) (B := B)
  unfold nfA
  exact (Int.mul_tdiv_cancel' ⟨k, hk⟩).symm
theorem nf_B {A B : Int} : B = gI A B * nfB A B := by
  obtain ⟨k, hk⟩ := gI_B (A := A) (B := B)
  unfold nfB
  exact (Int.mul_tdiv_cancel' ⟨k, hk⟩).symm
theorem nf_co {A B : Int} (hB : 0 < B) : Nat.Coprime (nfA A B).natAbs (nfB A B).natAbs := by
  have h := Nat.gcd_div_gcd_div_gcd_of_pos_right (n := A.natAbs) (m := B.natAbs) (by omega)
  unfold nfA nfB
  rw [Int.natAbs_tdiv, Int.natAbs_tdiv]
  unfold gI
  rw [Int.natAbs_natCast]
  exact h
theorem nf_pos {A B : Int} (hB : 0 < B) : 0 < nfB A B := gI_Bpos hB
theorem nf_eq {A B A' B' : Int} (hB : 0 < B) (hB' : 0 < B') (h : A * B' = A' * B) : nfA A B = nfA A' B' ∧ nfB A B = nfB A' B' := by
  have g0 := gI_pos (A := A) hB
  have g0' := gI_pos (A := A') hB'
  have p0 := nf_pos (A := A) hB
  have p0' := nf_pos (A := A') hB'
  have c0 := nf_co (A := A) hB
  have c0' := nf_co (A := A') hB'
  have eA := nf_A (A := A) (B := B)
  have eB := nf_B (A := A) (B := B)
  have eA' := nf_A (A := A') (B := B')
  have eB' := nf_B (A := A') (B := B')
  generalize gI A B = g at *
  generalize gI A' B' = g' at *
  generalize nfA A B = a at *
  generalize nfB A B = b at *
  generalize nfA A' B' = a' at *
  generalize nfB A' B' = b' at *
  have hc : a * b' = a' * b := by
    have h2 : (g * g') * (a * b') = (g * g') * (a' * b) := by
      rw [eA, eB', eA', eB] at h
      calc (g * g') * (a * b') = g * a * (g' * b') := by rw [Int.mul_assoc, Int.mul_assoc, Int.mul_left_comm g' a b']
        _ = g' * a' * (g * b) := h
        _ = (g * g') * (a' * b) := by rw [Int.mul_comm g g', Int.mul_assoc, Int.mul_assoc, Int.mul_left_comm g a' b]
    exact Int.eq_of_mul_eq_mul_left (by have := Int.mul_pos g0 g0'; omega) h2
  have hn : a.natAbs * b'.natAbs = a'.natAbs * b.natAbs := by rw [← Int.natAbs_mul, hc, Int.natAbs_mul]
  have d1 : b.natAbs ∣ b'.natAbs := Nat.Coprime.dvd_of_dvd_mul_left (Nat.Coprime.symm c0) (by rw [hn]; exact Nat.dvd_mul_left _ _)
  have d2 : b'.natAbs ∣ b.natAbs := Nat.Coprime.dvd_of_dvd_mul_left (Nat.Coprime.symm c0') (by rw [← hn]; exact Nat.dvd_mul_left _ _)
  have e1 : b.natAbs = b'.natAbs := Nat.dvd_antisymm d1 d2
  have e2 : b = b' := by omega
  subst e2
  exact ⟨Int.eq_of_mul_eq_mul_right (by omega) hc, rfl⟩
theorem nf_idem {A B : Int} (hB : 0 < B) : nfA (nfA A B) (nfB A B) = nfA A B ∧ nfB (nfA A B) (nfB A B) = nfB A B := by
  refine nf_eq (nf_pos hB) hB ?_
  have e1 := nf_A (A := A) (B := B)
  have e2 := nf_B (A := A) (B := B)
  generalize nfA A B = a at *
  generalize nfB A B = b at *
  generalize gI A B = g at *
  rw [e1, e2]
  rw [Int.mul_left_comm, Int.mul_assoc]
theorem nf_bdB {A B : Int} (hB : 0 < B) : nfB A B ≤ B := by
  have h := gI_pos (A := A) hB
  unfold nfB
  exact Int.tdiv_le_self _ (by omega)
theorem nf_bdA {A B : Int} : (nfA A B).natAbs ≤ A.natAbs := by
  unfold nfA
  rw [Int.natAbs_tdiv]
  exact Nat.div_le_self _ _
theorem put_nf {A B : Int} (h1 : -4611686018427387904 < A) (h2 : A < 4611686018427387904) (hB : 0 < B) (hB2 : B < 4398046511104) (t u : Int64) : fX1_put (jI A) (jI B) t u = some (jI (nfA A B), jI (nfB A B)) := put_eq h1 h2 hB hB2 t u
theorem tells_nf {A B : Int} (h1 : -4611686018427387904 < A) (h2 : A < 4611686018427387904) (hB : 0 < B) (hB2 : B < 4398046511104) (t u : Int64) : fX10_tells (jI A) (jI B) t u = some (1, jI (nfA A B), jI (nfB A B)) := tells_eq h1 h2 hB hB2 t u
theorem frac_nf {A B : Int} (hB : 0 < B) (hB2 : B < 4398046511104) : R_frac (jI (nfA A B)) (jI (nfB A B)) (jI (nfA A B)) (jI (nfB A B)) := frac_new hB hB2
/-- telling a fraction that is in lowest terms already -/
theorem tells_nf2 {A B : Int} (h1 : -4611686018427387904 < A) (h2 : A < 4611686018427387904) (hB : 0 < B) (hB2 : B < 4398046511104) (t u : Int64) : fX10_tells (jI (nfA A B)) (jI (nfB A B)) t u = some (1, jI (nfA A B), jI (nfB A B)) := by
  have a1 := nf_bdA (A := A) (B := B)
  have b1 := nf_bdB (A := A) hB
  have p1 := nf_pos (A := A) hB
  rw [tells_nf (by omega) (by omega) p1 (by omega), (nf_idem hB).1, (nf_idem hB).2]
theorem speeds_eq {a b c d m : Int} (hP1 : -4611686018427387904 < a * d - c * b) (hP2 : a * d - c * b < 4611686018427387904) (hQ : 0 < b * d * m) (hQ2 : b * d * m < 4398046511104) (hm1 : 0 ≤ m) (hm2 : m ≤ 100000) (t u : Int64) : fX10_speeds (jI a) (jI b) (jI c) (jI d) (iI m) t u = some (jI (nfA (a * d - c * b) (b * d * m)), jI (nfB (a * d - c * b) (b * d * m))) := by
  unfold fX10_speeds
  rw [iI_l (by omega) (by omega), jI_mul, jI_mul, jI_mul, jI_sub, jI_mul, bv_d, bv_d, div_eq hP1 hP2 hQ hQ2, ob_s]
  have hg := gI_pos (A := a * d - c * b) hQ
  have hg2 := gI_le (A := a * d - c * b) hQ
  have c2 : ¬ jI (gI (a * d - c * b) (b * d * m)) = 0 := by rw [show (0 : Int64) = jI 0 from rfl, jI_eq (by omega) (by omega) (by omega) (by omega)]; omega
  rw [decide_eq_true c2, gd_t, bv_d, gd_t, bv_d, jI_div (by omega) (by omega) (by omega) (by omega), jI_div (by omega) (by omega) (by omega) (by omega)]
  rfl
/-! shadows -/
theorem of_range {x : Int32} {c : Nat} (hc : c ≤ 1000) (h : wi x 0 (nI c - 1) = true) : ∃ i : Nat, i < c ∧ x = nI i := by
  have r := wi_rg h
  rw [show (0 : Int32).toInt = 0 from by decide, nI_i, show (1 : Int32) = iI 1 from rfl, iI_sub, iI_toInt (by omega) (by omega)] at r
  refine ⟨x.toInt.toNat, ?_, ?_⟩
  · have := r.1; have := r.2; omega
  · rw [← iI_nat r.1, iI_of]
theorem i4 (i : Nat) : (4 : Int32) * nI i = nI (4 * i) := pk_mul 4 i
theorem i4k (i k : Nat) : nI (4 * i) + nI k = nI (4 * i + k) := nI_add _ k
theorem at4 {a ma : Nat → Int32} {c : Nat} (hc : c ≤ 40) (he : ∀ k, k < 4 * c → a k = ma k) {i j : Nat} (hi : i < c) (hj : j < 4) : fX7_at (nI i) (nI j) 4 160 a = some (ma (4 * i + j)) := by
  have q := tat (w := 4) (n := 160) (i := i) (j := j) (by omega) (by omega) a
  rw [Nat.mul_comm, he _ (by omega)] at q
  exact q
/-- both say of two lines whether they are of one puff at unlike minutes; if they are, the lines are there -/
theorem puffs {a ma : Nat → Int32} {c : Nat} (hc : c ≤ 40) (he : ∀ k, k < 4 * c → a k = ma k) (x1 x2 : Int32) : ∃ b, fX6_areOfOnePuff x1 x2 4 (nI c) 160 a = some b ∧ fX10_areSights x1 x2 (nI c) ma = some b ∧ fX10_areShadows x1 x2 (nI c) ma = some b ∧ (b = true → ∃ i j : Nat, i < c ∧ j < c ∧ x1 = nI i ∧ x2 = nI j ∧ ma (4 * i) = ma (4 * j) ∧ ma (4 * i + 1) ≠ ma (4 * j + 1)) := by
  have hsame : fX10_areShadows x1 x2 (nI c) ma = fX10_areSights x1 x2 (nI c) ma := rfl
  rw [hsame]
  unfold fX6_areOfOnePuff fX10_areSights
  rw [thas _ _ (by omega), thas _ _ (by omega)]
  simp only [in_eq, ob_s]
  cases h1 : wi x1 0 (nI c - 1) with
  | false => exact ⟨false, rfl, rfl, rfl, fun q => by cases q⟩
  | true =>
    cases h2 : wi x2 0 (nI c - 1) with
    | false => exact ⟨false, rfl, rfl, rfl, fun q => by cases q⟩
    | true =>
      simp only [ite_b]
      obtain ⟨i, hi, rfl⟩ := of_range (by omega) h1
      obtain ⟨j, hj, rfl⟩ := of_range (by omega) h2
      have t0 : fX7_at (nI i) 0 4 160 a = some (ma (4 * i)) := at4 hc he (j := 0) hi (by omega)
      have t1 : fX7_at (nI j) 0 4 160 a = some (ma (4 * j)) := at4 hc he (j := 0) hj (by omega)
      have t2 : fX7_at (nI i) 1 4 160 a = some (ma (4 * i + 1)) := at4 hc he (j := 1) hi (by omega)
      have t3 : fX7_at (nI j) 1 4 160 a = some (ma (4 * j + 1)) := at4 hc he (j := 1) hj (by omega)
      rw [t0, t1, t2, t3, ob_s, ob_s, ob_s, ob_s, i4, i4, show nI (4 * i) + 1 = nI (4 * i + 1) from i4k i 1, show nI (4 * j) + 1 = nI (4 * j + 1) from i4k j 1, in_bnd (vp_in_nI (show 4 * i < 160 by omega) (by omega)), in_bnd (vp_in_nI (show 4 * j < 160 by omega) (by omega)), in_bnd (vp_in_nI (show 4 * i + 1 < 160 by omega) (by omega)), in_bnd (vp_in_nI (show 4 * j + 1 < 160 by omega) (by omega))]
      simp only [gd_t]
      rw [nI_clamp (by omega), nI_clamp (by omega), nI_clamp (by omega), nI_clamp (by omega)]
      by_cases c1 : ma (4 * i) = ma (4 * j)
      · rw [if_pos c1]
        by_cases c2 : ma (4 * i + 1) = ma (4 * j + 1)
        · rw [if_pos c2]; exact ⟨false, rfl, rfl, rfl, fun q => by cases q⟩
        · rw [if_neg c2]; exact ⟨true, rfl, rfl, rfl, fun _ => ⟨i, j, hi, hj, rfl, rfl, c1, c2⟩⟩
      · rw [if_neg c1]; exact ⟨false, rfl, rfl, rfl, fun q => by cases q⟩
def sdI (k : Nat) : Int := if k = 0 then 0 else if k = 1 then -1 else 1
theorem side_eq {k : Nat} (hk : k ≤ 2) : fX6_sideOf (nI k) = some (iI (sdI k)) := by
  rcases (show k = 0 ∨ k = 1 ∨ k = 2 by omega) with rfl | rfl | rfl <;> decide
/-- the way and the minutes of two shadows, of which i comes later (or j) -/
def shW (ma : Nat → Int32) (i j k : Nat) : Int := (if (ma (4 * j + 1)).toInt < (ma (4 * i + 1)).toInt then (ma (4 * i + 2)).toInt - (ma (4 * j + 2)).toInt else (ma (4 * j + 2)).toInt - (ma (4 * i + 2)).toInt) + sdI k * ((ma (4 * i + 3)).toInt + (ma (4 * j + 3)).toInt)
def mnB (ma : Nat → Int32) (i j : Nat) : Int := (((ma (4 * i + 1)).toInt - (ma (4 * j + 1)).toInt).natAbs : Int)
theorem jI0 : (0 : Int64) = jI 0 := by decide
theorem jI1 : (1 : Int64) = jI 1 := by decide
theorem jI2 : (2 : Int64) = jI 2 := by decide
theorem iI0 : (0 : Int32) = iI 0 := by decide
theorem iI1 : (1 : Int32) = iI 1 := by decide
theorem iI2 : (2 : Int32) = iI 2 := by decide
theorem absI {z : Int} (h1 : -1000000000 ≤ z) (h2 : z ≤ 1000000000) : (if 0 ≤ iI z then iI z else 0 - iI z) = iI (z.natAbs : Int) := by
  rw [iI0, iI_sub]
  by_cases h : 0 ≤ z
  · rw [if_pos ((iI_le (by omega) (by omega) (by omega) (by omega)).mpr h)]
    congr 1; omega
  · rw [if_neg (fun q => h ((iI_le (by omega) (by omega) (by omega) (by omega)).mp q))]
    congr 1; omega
theorem minX {a ma : Nat → Int32} {c : Nat} (hc : c ≤ 40) (he : ∀ k, k < 4 * c → a k = ma k) {i j : Nat} (hi : i < c) (hj : j < c) (ri : rg (ma (4 * i + 1)) 0 1439) (rj : rg (ma (4 * j + 1)) 0 1439) : fX6_minutesBetween (nI i) (nI j) 4 160 a = some (iI (mnB ma i j)) := by
  unfold fX6_minutesBetween
  have t2 : fX7_at (nI i) 1 4 160 a = some (ma (4 * i + 1)) := at4 hc he (j := 1) hi (by omega)
  have t3 : fX7_at (nI j) 1 4 160 a = some (ma (4 * j + 1)) := at4 hc he (j := 1) hj (by omega)
  rw [t2, t3, ob_s, ob_s]
  unfold mnB
  obtain ⟨y, y1, y2, ey⟩ := rg_i ri
  obtain ⟨z, z1, z2, ez⟩ := rg_i rj
  rw [ey, ez, iI_sub, iI_toInt (by omega) (by omega), iI_toInt (by omega) (by omega), absI (by omega) (by omega)]
  rfl
theorem laterX {a ma : Nat → Int32} {c : Nat} (hc : c ≤ 40) (he : ∀ k, k < 4 * c → a k = ma k) {i j : Nat} (hi : i < c) (hj : j < c) : fX6_isLater (nI i) (nI j) 4 160 a = some (decide ((ma (4 * j + 1)).toInt < (ma (4 * i + 1)).toInt)) := by
  unfold fX6_isLater
  have t2 : fX7_at (nI i) 1 4 160 a = some (ma (4 * i + 1)) := at4 hc he (j := 1) hi (by omega)
  have t3 : fX7_at (nI j) 1 4 160 a = some (ma (4 * j + 1)) := at4 hc he (j := 1) hj (by omega)
  rw [t2, t3, ob_s, ob_s]
  by_cases h : ma (4 * i + 1) ≤ ma (4 * j + 1)
  · rw [if_pos h, decide_eq_false (by have := Int32.le_iff_toInt_le.mp h; omega)]
  · rw [if_neg h, decide_eq_true (by have := Int32.lt_iff_toInt_lt.mp (Int32.not_le.mp h); omega)]
theorem shadeX {a ma : Nat → Int32} {c : Nat} (hc : c ≤ 40) (he : ∀ k, k < 4 * c → a k = ma k) (hr : ∀ i, i < c → rg (ma (4 * i)) 0 7 ∧ rg (ma (4 * i + 1)) 0 1439 ∧ rg (ma (4 * i + 2)) (-1000000) 1000000 ∧ rg (ma (4 * i + 3)) 0 10000) {i j k : Nat} (hi : i < c) (hj : j < c) (hne : ma (4 * i + 1) ≠ ma (4 * j + 1)) (hk : k ≤ 2) (t u : Int64) : fX6_putShadowSpeed (nI i) (nI j) (nI k) 4 160 a t u = some (jI (nfA (shW ma i j k) (mnB ma i j)), jI (nfB (shW ma i j k) (mnB ma i j))) := by
  obtain ⟨-, ri1, ri2, ri3⟩ := hr i hi
  obtain ⟨-, rj1, rj2, rj3⟩ := hr j hj
  have hij : ¬ nI j = nI i := by
    rw [nI_eq (by omega) (by omega)]
    intro q; subst q; exact hne rfl
  have hm : (ma (4 * i + 1)).toInt ≠ (ma (4 * j + 1)).toInt := fun q => hne (Int32.toInt_inj.mp q)
  have hm0 : 0 < mnB ma i j := by unfold mnB; omega
  have hm1 : mnB ma i j < 4398046511104 := by
    unfold mnB; have := ri1.1; have := ri1.2; have := rj1.1; have := rj1.2; omega
  have t2i : fX7_at (nI i) 2 4 160 a = some (ma (4 * i + 2)) := at4 hc he (j := 2) hi (by omega)
  have t2j : fX7_at (nI j) 2 4 160 a = some (ma (4 * j + 2)) := at4 hc he (j := 2) hj (by omega)
  have t3i : fX7_at (nI i) 3 4 160 a = some (ma (4 * i + 3)) := at4 hc he (j := 3) hi (by omega)
  have t3j : fX7_at (nI j) 3 4 160 a = some (ma (4 * j + 3)) := at4 hc he (j := 3) hj (by omega)
  obtain ⟨p, p1, p2, ep⟩ := rg_i ri2
  obtain ⟨q, q1, q2, eq⟩ := rg_i rj2
  obtain ⟨v, v1, v2, ev⟩ := rg_i ri3
  obtain ⟨w, w1, w2, ew⟩ := rg_i rj3
  have sb : sdI k = 0 ∨ sdI k = -1 ∨ sdI k = 1 := by
    rcases (show k = 0 ∨ k = 1 ∨ k = 2 by omega) with rfl | rfl | rfl <;> simp [sdI]
  have eP : (ma (4 * i + 2)).toInt = p := by rw [ep, iI_toInt (by omega) (by omega)]
  have eQ : (ma (4 * j + 2)).toInt = q := by rw [eq, iI_toInt (by omega) (by omega)]
  have eV : (ma (4 * i + 3)).toInt = v := by rw [ev, iI_toInt (by omega) (by omega)]
  have eW : (ma (4 * j + 3)).toInt = w := by rw [ew, iI_toInt (by omega) (by omega)]
  have sm : -20000 ≤ sdI k * (v + w) ∧ sdI k * (v + w) ≤ 20000 := by
    rcases sb with e | e | e <;> rw [e] <;> omega
  unfold fX6_putShadowSpeed
  rw [laterX hc he hi hj, ob_s, minX hc he hi hj ri1 rj1, side_eq hk, t3i, t3j]
  simp only [ob_s]
  by_cases hl : (ma (4 * j + 1)).toInt < (ma (4 * i + 1)).toInt
  · rw [decide_eq_true hl, ite_b, ob_s, if_pos rfl, ob_s, t2i, t2j]
    simp only [ob_s, bv_d]
    have eW2 : shW ma i j k = p - q + sdI k * (v + w) := by unfold shW; rw [if_pos hl, eP, eQ, eV, eW]
    rw [eW2, ep, eq, ev, ew, iI_sub, iI_add, iI_mul, iI_add, iI_l (by omega) (by omega), iI_l (z := mnB ma i j) (by omega) (by unfold mnB; have := ri1.1; have := ri1.2; have := rj1.1; have := rj1.2; omega), put_nf (by omega) (by omega) hm0 hm1, ob2_s]
  · rw [decide_eq_false hl, ite_bf, ob_s, if_neg hij, ob_s, t2i, t2j]
    simp only [ob_s, bv_d]
    have eW2 : shW ma i j k = q - p + sdI k * (v + w) := by unfold shW; rw [if_neg hl, eP, eQ, eV, eW]
    rw [eW2, ep, eq, ev, ew, iI_sub, iI_add, iI_mul, iI_add, iI_l (by omega) (by omega), iI_l (z := mnB ma i j) (by omega) (by unfold mnB; have := ri1.1; have := ri1.2; have := rj1.1; have := rj1.2; omega), put_nf (by omega) (by omega) hm0 hm1, ob2_s]
theorem shadeM {ma : Nat → Int32} {c : Nat} (hc : c ≤ 40) (hr : ∀ i, i < c → rg (ma (4 * i)) 0 7 ∧ rg (ma (4 * i + 1)) 0 1439 ∧ rg (ma (4 * i + 2)) (-1000000) 1000000 ∧ rg (ma (4 * i + 3)) 0 10000) {i j k : Nat} (hi : i < c) (hj : j < c) (hne : ma (4 * i + 1) ≠ ma (4 * j + 1)) (hk : k ≤ 2) (t u : Int64) : fX10_findShade (nI i) (nI j) (nI k) t u ma = some (jI (nfA (shW ma i j k) (mnB ma i j)), jI (nfB (shW ma i j k) (mnB ma i j))) := by
  obtain ⟨-, ri1, ri2, ri3⟩ := hr i hi
  obtain ⟨-, rj1, rj2, rj3⟩ := hr j hj
  have hij : ¬ nI j = nI i := by
    rw [nI_eq (by omega) (by omega)]
    intro q; subst q; exact hne rfl
  have hm : (ma (4 * i + 1)).toInt ≠ (ma (4 * j + 1)).toInt := fun q => hne (Int32.toInt_inj.mp q)
  have hm0 : 0 < mnB ma i j := by unfold mnB; omega
  have hm1 : mnB ma i j ≤ 1439 := by
    unfold mnB; have := ri1.1; have := ri1.2; have := rj1.1; have := rj1.2; omega
  obtain ⟨p, p1, p2, ep⟩ := rg_i ri2
  obtain ⟨q, q1, q2, eq⟩ := rg_i rj2
  obtain ⟨v, v1, v2, ev⟩ := rg_i ri3
  obtain ⟨w, w1, w2, ew⟩ := rg_i rj3
  obtain ⟨y, y1, y2, ey⟩ := rg_i ri1
  obtain ⟨z, z1, z2, ez⟩ := rg_i rj1
  have eP : (ma (4 * i + 2)).toInt = p := by rw [ep, iI_toInt (by omega) (by omega)]
  have eQ : (ma (4 * j + 2)).toInt = q := by rw [eq, iI_toInt (by omega) (by omega)]
  have eV : (ma (4 * i + 3)).toInt = v := by rw [ev, iI_toInt (by omega) (by omega)]
  have eW : (ma (4 * j + 3)).toInt = w := by rw [ew, iI_toInt (by omega) (by omega)]
  have eY : (ma (4 * i + 1)).toInt = y := by rw [ey, iI_toInt (by omega) (by omega)]
  have eZ : (ma (4 * j + 1)).toInt = z := by rw [ez, iI_toInt (by omega) (by omega)]
  have sb : sdI k = 0 ∨ sdI k = -1 ∨ sdI k = 1 := by
    rcases (show k = 0 ∨ k = 1 ∨ k = 2 by omega) with rfl | rfl | rfl <;> simp [sdI]
  have sm : -20000 ≤ sdI k * (v + w) ∧ sdI k * (v + w) ≤ 20000 := by
    rcases sb with e | e | e <;> rw [e] <;> omega
  have eside : (if nI k = 0 then some 0 else if nI k = 1 then some (-iI (v + w)) else some (iI (v + w))) = some (iI (sdI k * (v + w))) := by
    rcases (show k = 0 ∨ k = 1 ∨ k = 2 by omega) with rfl | rfl | rfl
    · rw [if_pos (show nI 0 = 0 from rfl)]
      simp [sdI, iI0]
    · rw [if_neg (show ¬ nI 1 = 0 from by decide), if_pos (show nI 1 = 1 from rfl), iI_neg]
      simp [sdI]
    · rw [if_neg (show ¬ nI 2 = 0 from by decide), if_neg (show ¬ nI 2 = 1 from by decide)]
      simp [sdI]
  have key : ∀ W m : Int, -2020000 ≤ W → W ≤ 2020000 → 0 < m → m ≤ 1439 → fX10_speeds (jI W) 1 0 1 (iI m) t u = some (jI (nfA W m), jI (nfB W m)) := by
    intro W m a1 a2 a3 a4
    rw [jI1, jI0]
    have e1 : W * 1 - 0 * 1 = W := by omega
    have e2 : 1 * 1 * m = m := by omega
    have s := speeds_eq (a := W) (b := 1) (c := 0) (d := 1) (m := m) (by omega) (by omega) (by omega) (by omega) (by omega) (by omega) t u
    rw [e1, e2] at s
    exact s
  unfold fX10_findShade
  rw [i4, i4, show nI (4 * i) + 1 = nI (4 * i + 1) from i4k i 1, show nI (4 * j) + 1 = nI (4 * j + 1) from i4k j 1, show nI (4 * i) + 3 = nI (4 * i + 3) from i4k i 3, show nI (4 * j) + 3 = nI (4 * j + 3) from i4k j 3, in_bnd (vp_in_nI (show 4 * i + 1 < 160 by omega) (by omega)), in_bnd (vp_in_nI (show 4 * j + 1 < 160 by omega) (by omega)), in_bnd (vp_in_nI (show 4 * i + 3 < 160 by omega) (by omega)), in_bnd (vp_in_nI (show 4 * j + 3 < 160 by omega) (by omega))]
  simp only [gd_t]
  rw [nI_clamp (by omega), nI_clamp (by omega), nI_clamp (by omega), nI_clamp (by omega), ev, ew, iI_add]
  simp only [bv_d]
  rw [eside]
  by_cases hl : z < y
  · have c1 : ¬ ma (4 * i + 1) ≤ ma (4 * j + 1) := by rw [Int32.le_iff_toInt_le, eY, eZ]; omega
    rw [if_neg c1, ob_s, if_pos rfl, ob_s, i4, i4, show nI (4 * i) + 2 = nI (4 * i + 2) from i4k i 2, show nI (4 * j) + 2 = nI (4 * j + 2) from i4k j 2, show nI (4 * i) + 1 = nI (4 * i + 1) from i4k i 1, show nI (4 * j) + 1 = nI (4 * j + 1) from i4k j 1, in_bnd (vp_in_nI (show 4 * i + 1 < 160 by omega) (by omega)), in_bnd (vp_in_nI (show 4 * j + 1 < 160 by omega) (by omega)), in_bnd (vp_in_nI (show 4 * i + 2 < 160 by omega) (by omega)), in_bnd (vp_in_nI (show 4 * j + 2 < 160 by omega) (by omega))]
    simp only [gd_t, ob_s]
    rw [nI_clamp (by omega), nI_clamp (by omega), nI_clamp (by omega), nI_clamp (by omega), ep, eq, ey, ez, iI_sub, iI_add, iI_l (by omega) (by omega), iI_sub]
    have eW2 : shW ma i j k = p - q + sdI k * (v + w) := by unfold shW; rw [eY, eZ, if_pos hl, eP, eQ, eV, eW]
    have eM : mnB ma i j = y - z := by unfold mnB; rw [eY, eZ]; omega
    rw [eW2, eM, key _ _ (by omega) (by omega) (by omega) (by omega), ob2_s]
  · have c1 : ma (4 * i + 1) ≤ ma (4 * j + 1) := by rw [Int32.le_iff_toInt_le, eY, eZ]; omega
    rw [if_pos c1, ob_s, if_neg hij, ob_s, i4, i4, show nI (4 * i) + 2 = nI (4 * i + 2) from i4k i 2, show nI (4 * j) + 2 = nI (4 * j + 2) from i4k j 2, show nI (4 * i) + 1 = nI (4 * i + 1) from i4k i 1, show nI (4 * j) + 1 = nI (4 * j + 1) from i4k j 1, in_bnd (vp_in_nI (show 4 * i + 1 < 160 by omega) (by omega)), in_bnd (vp_in_nI (show 4 * j + 1 < 160 by omega) (by omega)), in_bnd (vp_in_nI (show 4 * i + 2 < 160 by omega) (by omega)), in_bnd (vp_in_nI (show 4 * j + 2 < 160 by omega) (by omega))]
    simp only [gd_t, ob_s]
    rw [nI_clamp (by omega), nI_clamp (by omega), nI_clamp (by omega), nI_clamp (by omega), ep, eq, ey, ez, iI_sub, iI_add, iI_l (by omega) (by omega), iI_sub]
    have eW2 : shW ma i j k = q - p + sdI k * (v + w) := by unfold shW; rw [eY, eZ, if_neg hl, eP, eQ, eV, eW]
    have eM : mnB ma i j = z - y := by unfold mnB; rw [eY, eZ] at hm ⊢; omega
    rw [eW2, eM, key _ _ (by omega) (by omega) (by rw [eY, eZ] at hm; omega) (by omega), ob2_s]
theorem shW_bd {ma : Nat → Int32} {i j k : Nat} (ri : rg (ma (4 * i + 2)) (-1000000) 1000000 ∧ rg (ma (4 * i + 3)) 0 10000) (rj : rg (ma (4 * j + 2)) (-1000000) 1000000 ∧ rg (ma (4 * j + 3)) 0 10000) : -2020000 ≤ shW ma i j k ∧ shW ma i j k ≤ 2020000 := by
  obtain ⟨⟨a1, a2⟩, a3, a4⟩ := ri
  obtain ⟨⟨b1, b2⟩, b3, b4⟩ := rj
  have sb : sdI k = 0 ∨ sdI k = -1 ∨ sdI k = 1 := by
    unfold sdI; by_cases h0 : k = 0 <;> by_cases h1 : k = 1 <;> simp [h0, h1]
  unfold shW
  rcases sb with e | e | e <;> rw [e] <;> split <;> omega
theorem shade_ok (x1 x2 x3 : Int32) {l : Int32} {a : Nat → Int32} {ml : Int32} {ma : Nat → Int32} (h : R_shadows l a ml ma) {fa fb ga gb : Int64} (hf : R_frac fa fb ga gb) (sa sb : Int64) : ∃ r a' b' a2 b2 sa' sb', fX9_shade x1 x2 x3 fa fb 4 l 160 a = some (r, a', b') ∧ fX10_shade x1 x2 x3 ga gb ml sa sb ma = some (r, a2, b2, sa', sb') ∧ R_frac a' b' a2 b2 := by
  obtain ⟨c, hc, rfl, rfl, he, hr⟩ := h
  obtain ⟨b, e1, -, e3, hb⟩ := puffs hc he x1 x2
  unfold fX9_shade fX10_shade
  rw [e1, e3, ob_s, ob_s, isWithin_eq, in_eq]
  cases b with
  | false => rw [ite_bf, ite_bf]; exact ⟨_, _, _, _, _, _, _, rfl, rfl, hf⟩
  | true =>
    rw [ite_b, ite_b, ob_s, ob_s]
    cases h3 : wi x3 0 2 with
    | false => rw [ite_bf, ite_bf]; exact ⟨_, _, _, _, _, _, _, rfl, rfl, hf⟩
    | true =>
      rw [ite_b, ite_b]
      obtain ⟨i, j, hi, hj, rfl, rfl, -, hne⟩ := hb rfl
      obtain ⟨k, -, hk, rfl⟩ := rg_n (hi := 2) (wi_lit h3 (a := 0) (b := 2) (by decide) (by decide)) (by decide)
      have hm : (ma (4 * i + 1)).toInt ≠ (ma (4 * j + 1)).toInt := fun q => hne (Int32.toInt_inj.mp q)
      have hm0 : 0 < mnB ma i j := by unfold mnB; omega
      have hm1 : mnB ma i j ≤ 1439 := by
        obtain ⟨-, ri1, -⟩ := hr i hi
        obtain ⟨-, rj1, -⟩ := hr j hj
        unfold mnB; have := ri1.1; have := ri1.2; have := rj1.1; have := rj1.2; omega
      have bw := shW_bd (k := k) (hr i hi).2.2 (hr j hj).2.2
      rw [shadeX hc he hr hi hj hne hk, shadeM hc hr hi hj hne hk, ob2_s, ob2_s, tells_nf2 (by omega) (by omega) hm0 (by omega), ob3_s]
      exact ⟨_, _, _, _, _, _, _, rfl, rfl, frac_nf hm0 (by omega)⟩
