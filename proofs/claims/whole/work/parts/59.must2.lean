/-! both ways to the row of numbers -/
def rowT (Lz Hz : Nat → Int) (c : Nat) (f : Nat → Int32) : Nat → Nat → Int32
  | 0 => f
  | t + 1 => upd (rowT Lz Hz c f t) t (iI (sq Lz Hz c (t + 1)))
theorem rowT_at {Lz Hz : Nat → Int} {c : Nat} {f : Nat → Int32} : ∀ n t, t < n → rowT Lz Hz c f n t = iI (sq Lz Hz c (t + 1)) := by
  intro n
  induction n with
  | zero => intro t h; exact absurd h (Nat.not_lt_zero t)
  | succ n ih =>
    intro t h
    unfold rowT
    rw [upd_e]
    by_cases q : t = n
    · rw [if_pos q, q]
    · rw [if_neg q]; exact ih t (by omega)
def fillT (T : Int) (f at_ : Nat → Int32) (g : Nat → Int32) : Nat → Nat → Int32
  | 0 => g
  | k + 1 => upd (fillT T f at_ g k) k (iI (zf T f at_ k))
theorem fillT_at {T : Int} {f at_ g : Nat → Int32} : ∀ n t, t < n → fillT T f at_ g n t = iI (zf T f at_ t) := by
  intro n
  induction n with
  | zero => intro t h; exact absurd h (Nat.not_lt_zero t)
  | succ n ih =>
    intro t h
    unfold fillT
    rw [upd_e]
    by_cases q : t = n
    · rw [if_pos q, q]
    · rw [if_neg q]; exact ih t (by omega)
section Layers
variable {a lo hi at_ : Nat → Int32} {c : Nat} (hc : c ≤ 24) (hr : ∀ i, i < c → a (3 * i) = lo i ∧ a (3 * i + 1) = hi i ∧ a (3 * i + 2) = at_ i ∧ rg (lo i) 0 100000 ∧ rg (hi i) 0 100000 ∧ (lo i).toInt ≤ (hi i).toInt ∧ rg (at_ i) (-10000) 10000) {T : Int} (hT1 : -50 ≤ T) (hT2 : T ≤ 50)
theorem z_ok (hr : ∀ i, i < c → a (3 * i) = lo i ∧ a (3 * i + 1) = hi i ∧ a (3 * i + 2) = at_ i ∧ rg (lo i) 0 100000 ∧ rg (hi i) 0 100000 ∧ (lo i).toInt ≤ (hi i).toInt ∧ rg (at_ i) (-10000) 10000) (hT1 : -50 ≤ T) (hT2 : T ≤ 50) : okZ (zf T lo at_) (zf T hi at_) c := by
  intro k hk
  obtain ⟨-, -, -, r1, r2, r3, r4⟩ := hr k hk
  have b1 := zf_rg hT1 hT2 r1 r4
  have b2 := zf_rg hT1 hT2 r2 r4
  refine ⟨by omega, ?_, by omega⟩
  unfold zf
  omega
theorem down_ok (hc : c ≤ 24) (hr : ∀ i, i < c → a (3 * i) = lo i ∧ a (3 * i + 1) = hi i ∧ a (3 * i + 2) = at_ i ∧ rg (lo i) 0 100000 ∧ rg (hi i) 0 100000 ∧ (lo i).toInt ≤ (hi i).toInt ∧ rg (at_ i) (-10000) 10000) (hT1 : -50 ≤ T) (hT2 : T ≤ 50) (lw hg : Nat → Int32) : fX2_bringDown (iI T) 3 (nI c) lw hg 72 a = some (fillT T lo at_ lw c, fillT T hi at_ hg c) := by
  unfold fX2_bringDown
  have e : it (fX2_bringDown_L1 (nI c) 3 72 a (iI T)) 100000 (0, lw, hg) = some (fillT T lo at_ lw c, fillT T hi at_ hg c) := by
    refine it_loop (st := fun k => (nI k, fillT T lo at_ lw k, fillT T hi at_ hg k)) c (by omega) (fun k hk => ?_) ?_
    · unfold fX2_bringDown_L1
      dsimp only [un3]
      obtain ⟨e0, e1, e2, r1, r2, r3, r4⟩ := hr k hk
      have t0 : fX7_at (nI k) 0 3 72 a = some (lo k) := by
        have q := tat (w := 3) (n := 72) (i := k) (j := 0) (by omega) (by omega) a
        rw [Nat.add_zero, Nat.mul_comm, e0] at q
        exact q
      have t1 : fX7_at (nI k) 1 3 72 a = some (hi k) := by
        have q := tat (w := 3) (n := 72) (i := k) (j := 1) (by omega) (by omega) a
        rw [Nat.mul_comm, e1] at q
        exact q
      have t2 : fX7_at (nI k) 2 3 72 a = some (at_ k) := by
        have q := tat (w := 3) (n := 72) (i := k) (j := 2) (by omega) (by omega) a
        rw [Nat.mul_comm, e2] at q
        exact q
      rw [tsize, ob_s, if_neg (nI_ge hk (by omega)), if_neg (show ¬ (24 : Int32) ≤ nI k from nI_ge (show k < 24 by omega) (by decide)), t0, t1, t2, in_bnd (vp_in_nI (show k < 24 by omega) (by omega))]
      simp only [ob_s, bv_d, gd_t]
      rw [zf_eq hT1 hT2 r1 r4, zf_eq hT1 hT2 r2 r4, nI_clamp (by omega), nI_1]
      rfl
    · unfold fX2_bringDown_L1
      dsimp only [un3]
      rw [tsize, ob_s, if_pos (nI_le (Nat.le_refl _) (by omega))]
  rw [e, ob2_s]
theorem above_ok {Lz Hz : Nat → Int} {lw hg : Nat → Int32} (hc : c ≤ 24) (hz : okZ Lz Hz c) (h1 : ∀ k, k < c → lw k = iI (Lz k)) (h2 : ∀ k, k < c → hg k = iI (Hz k)) {z : Int} (z1 : -1000000 ≤ z) (z2 : z ≤ 1000000) : fX2_leastHighAbove (iI z) (nI c) lw hg = some (iI (lh Lz Hz z c)) := by
  unfold fX2_leastHighAbove
  have bd : ∀ k, k ≤ c → -1000 ≤ lh Lz Hz z k ∧ lh Lz Hz z k ≤ 1000000 := by
    intro k hk
    rcases lh_at (Lz := Lz) (Hz := Hz) (z := z) k with q | ⟨j, q1, q2, q3⟩
    · omega
    · have := hz j (by omega); omega
  have e : it (fX2_leastHighAbove_L1 (nI c) lw (iI z) hg) 100000 (1000000, 0) = some (iI (lh Lz Hz z c)) := by
    refine it_loop (st := fun k => (iI (lh Lz Hz z k), nI k)) c (by omega) (fun k hk => ?_) ?_
    · unfold fX2_leastHighAbove_L1
      dsimp only [un2]
      have b := bd k (by omega)
      have hzk := hz k hk
      rw [tsize, ob_s, if_neg (nI_ge hk (by omega)), if_neg (show ¬ (24 : Int32) ≤ nI k from nI_ge (show k < 24 by omega) (by decide)), in_bnd (vp_in_nI (show k < 24 by omega) (by omega))]
      simp only [bv_d, gd_t]
      rw [nI_clamp (by omega), h1 k hk, h2 k hk, nI_1]
      have A1 : (iI (Lz k) ≤ iI z) ↔ Lz k ≤ z := iI_le (by omega) (by omega) (by omega) (by omega)
      have A2 : (iI (lh Lz Hz z k) ≤ iI (Hz k)) ↔ lh Lz Hz z k ≤ Hz k := iI_le (by omega) (by omega) (by omega) (by omega)
      simp only [A1, A2]
      have el : lh Lz Hz z (k + 1) = if z < Lz k ∧ Hz k < lh Lz Hz z k then Hz k else lh Lz Hz z k := rfl
      rw [el]
      by_cases c1 : Lz k ≤ z
      · rw [if_pos c1, ob_s, if_neg (by omega)]
      · rw [if_neg c1]
        by_cases c2 : lh Lz Hz z k ≤ Hz k
        · rw [if_pos c2, ob_s, if_neg (by omega)]
        · rw [if_neg c2, ob_s, if_pos (by omega)]
    · unfold fX2_leastHighAbove_L1
      dsimp only [un2]
      rw [tsize, ob_s, if_pos (nI_le (Nat.le_refl _) (by omega))]
  rw [e, ob_s]
theorem sq_rg {Lz Hz : Nat → Int} (hz : okZ Lz Hz c) : ∀ t, -1000000 ≤ sq Lz Hz c t ∧ sq Lz Hz c t ≤ 1000000 := by
  intro t
  cases t with
  | zero => unfold sq; omega
  | succ t =>
    show -1000000 ≤ lh Lz Hz (sq Lz Hz c t) c ∧ lh Lz Hz (sq Lz Hz c t) c ≤ 1000000
    rcases lh_at (Lz := Lz) (Hz := Hz) (z := sq Lz Hz c t) c with q | ⟨j, q1, q2, q3⟩
    · omega
    · have := hz j (by omega); omega
theorem fill_ok (hc : c ≤ 24) (hr : ∀ i, i < c → a (3 * i) = lo i ∧ a (3 * i + 1) = hi i ∧ a (3 * i + 2) = at_ i ∧ rg (lo i) 0 100000 ∧ rg (hi i) 0 100000 ∧ (lo i).toInt ≤ (hi i).toInt ∧ rg (at_ i) (-10000) 10000) (hT1 : -50 ≤ T) (hT2 : T ≤ 50) {N : Nat} (hN : N ≤ c) (hN1 : lh (zf T lo at_) (zf T hi at_) (sq (zf T lo at_) (zf T hi at_) c N) c = 1000000) (hN2 : ∀ t, t < N → lh (zf T lo at_) (zf T hi at_) (sq (zf T lo at_) (zf T hi at_) c t) c ≠ 1000000) {M : Nat} (hM : M ≤ 24) (lw hg fo : Nat → Int32) : ∃ lw' hg' fo', fX2_fill (iI T) (nI M) 3 (nI c) lw hg fo 72 a = some (nI (min N M), lw', hg', fo') ∧ ∀ t, t < min N M → fo' t = iI (sq (zf T lo at_) (zf T hi at_) c (t + 1)) := by
  have hz := z_ok hr hT1 hT2
  refine ⟨fillT T lo at_ lw c, fillT T hi at_ hg c, rowT (zf T lo at_) (zf T hi at_) c fo (min N M), ?_, rowT_at _⟩
  unfold fX2_fill
  rw [down_ok hc hr hT1 hT2, ob2_s]
  generalize hLz : zf T lo at_ = Lz at *
  generalize hHz : zf T hi at_ = Hz at *
  have h1 : ∀ k, k < c → fillT T lo at_ lw c k = iI (Lz k) := fun k hk => by rw [← hLz]; exact fillT_at c k hk
  have h2 : ∀ k, k < c → fillT T hi at_ hg c k = iI (Hz k) := fun k hk => by rw [← hHz]; exact fillT_at c k hk
  have e : it (fX2_fill_L1 (nI M) (nI c) (fillT T lo at_ lw c) (fillT T hi at_ hg c)) 100000 (0, -1000000, 0, fo) = some (nI (min N M), rowT Lz Hz c fo (min N M)) := by
    refine it_loop (st := fun t => (nI t, iI (sq Lz Hz c t), nI t, rowT Lz Hz c fo t)) (min N M) (by omega) (fun t ht => ?_) ?_
    · unfold fX2_fill_L1
      dsimp only [un4]
      have s := sq_rg hz t
      have n1 := hN2 t (by omega)
      obtain ⟨g1, g2, g3, -⟩ := lh_gt hz n1
      rw [if_neg (show ¬ (24 : Int32) ≤ nI t from nI_ge (show t < 24 by omega) (by decide)), if_neg (nI_ge (show t < M by omega) (by omega)), above_ok hc hz h1 h2 s.1 s.2, ob_s, if_neg (by rw [show (1000000 : Int32) = iI 1000000 from by decide, iI_eq (by omega) (by omega) (by omega) (by omega)]; exact n1), in_bnd (vp_in_nI (show t < 24 by omega) (by omega)), gd_t, bv_d, bv_d, bv_d, nI_clamp (by omega), nI_1]
      rfl
    · unfold fX2_fill_L1
      dsimp only [un4]
      have s := sq_rg hz (min N M)
      by_cases q1 : 24 ≤ min N M
      · rw [if_pos (show (24 : Int32) ≤ nI (min N M) from nI_le q1 (by omega))]
      · rw [if_neg (show ¬ (24 : Int32) ≤ nI (min N M) from nI_ge (show min N M < 24 by omega) (by decide))]
        by_cases q2 : M ≤ min N M
        · rw [if_pos (nI_le q2 (by omega))]
        · rw [if_neg (nI_ge (by omega) (by omega)), above_ok hc hz h1 h2 s.1 s.2, ob_s]
          have em : min N M = N := by omega
          rw [em, hN1, if_pos (show iI 1000000 = 1000000 from by decide)]
  rw [e, ob2_s]
theorem ends_ok {Lz Hz : Nat → Int} (hc : c ≤ 24) (hz : okZ Lz Hz c) (h2 : ∀ k, k < c → hi k - iI T * at_ k / 1000 = iI (Hz k)) {z : Int} (hne : lh Lz Hz z c ≠ 1000000) : it (fX10_findNumbers_L2 (nI c) hi (iI T) at_ (msk (fun k => decide (z < Lz k)) c)) 100000 (0, 0, 0) = some (iI (lh Lz Hz z c)) := by
  have bd : ∀ k, k ≤ c → -1000 ≤ lh Lz Hz z k ∧ lh Lz Hz z k ≤ 1000000 := by
    intro k hk
    rcases lh_at (Lz := Lz) (Hz := Hz) (z := z) k with q | ⟨j, q1, q2, q3⟩
    · omega
    · have := hz j (by omega); omega
  have e : it (fX10_findNumbers_L2 (nI c) hi (iI T) at_ (msk (fun k => decide (z < Lz k)) c)) 100000 (0, 0, 0) = some (if lh Lz Hz z c = 1000000 then 0 else iI (lh Lz Hz z c)) := by
    refine it_loop (st := fun k => ((if lh Lz Hz z k = 1000000 then 0 else iI (lh Lz Hz z k)), (if lh Lz Hz z k = 1000000 then (0 : Int32) else 1), nI k)) c (by omega) (fun k hk => ?_) ?_
    · unfold fX10_findNumbers_L2
      dsimp only [un3]
      have b := bd k (by omega)
      have hzk := hz k hk
      rw [if_neg (nI_ge hk (by omega)), in_bnd (vp_in_nI (show k < 24 by omega) (by omega))]
      simp only [bv_d, gd_t]
      rw [nI_clamp (by omega), h2 k hk, nI_1]
      have A0 := b_test k (by omega) (msk (fun k => decide (z < Lz k)) c)
      rw [b_msk _ c (by omega) k (by omega), decide_eq_true hk, Bool.true_and, decide_eq_true_eq] at A0
      simp only [A0]
      have el : lh Lz Hz z (k + 1) = if z < Lz k ∧ Hz k < lh Lz Hz z k then Hz k else lh Lz Hz z k := rfl
      rw [el]
      by_cases c1 : z < Lz k
      · rw [if_pos c1]
        by_cases c0 : lh Lz Hz z k = 1000000
        · simp only [c0, if_true]
          rw [ob2_s, if_pos (show z < Lz k ∧ Hz k < 1000000 from ⟨c1, by omega⟩), if_neg (show ¬ Hz k = 1000000 by omega), if_neg (show ¬ Hz k = 1000000 by omega)]
        · simp only [c0, if_false]
          rw [if_neg (show ¬ (1 : Int32) = 0 from by decide)]
          by_cases c2 : lh Lz Hz z k ≤ Hz k
          · rw [if_pos ((iI_le (by omega) (by omega) (by omega) (by omega)).mpr c2), ob2_s, if_neg (show ¬ (z < Lz k ∧ Hz k < lh Lz Hz z k) by omega), if_neg c0, if_neg c0]
          · rw [if_neg (fun q => c2 ((iI_le (by omega) (by omega) (by omega) (by omega)).mp q)), ob2_s, if_pos (show z < Lz k ∧ Hz k < lh Lz Hz z k from ⟨c1, by omega⟩), if_neg (show ¬ Hz k = 1000000 by omega), if_neg (show ¬ Hz k = 1000000 by omega)]
      · rw [if_neg c1, ob2_s, if_neg (show ¬ (z < Lz k ∧ Hz k < lh Lz Hz z k) from fun q => c1 q.1)]
    · unfold fX10_findNumbers_L2
      dsimp only [un3]
      rw [if_pos (nI_le (Nat.le_refl _) (by omega))]
  rw [e, if_neg hne]
theorem left_ok {Lz Hz : Nat → Int} (hc : c ≤ 24) (hz : okZ Lz Hz c) (h1 : ∀ k, k < c → lo k - iI T * at_ k / 1000 = iI (Lz k)) {z y : Int} (hzy : z ≤ y) (y1 : -1000000 ≤ y) (y2 : y ≤ 1000000) : it (fX10_findNumbers_L3 (nI c) (iI y) lo (iI T) at_) 100000 (msk (fun k => decide (z < Lz k)) c, 0) = some (msk (fun k => decide (y < Lz k)) c) := by
  have e0 : msk (fun k => decide ((if k < 0 then y else z) < Lz k)) c = msk (fun k => decide (z < Lz k)) c := by
    congr 1
  have ec : msk (fun k => decide ((if k < c then y else z) < Lz k)) c = msk (fun k => decide (y < Lz k)) c := by
    refine b_ext (fun i hi => ?_)
    rw [b_msk _ c (by omega) i hi, b_msk _ c (by omega) i hi]
    by_cases q : i < c
    · rw [if_pos q]
    · rw [decide_eq_false q]; rfl
  rw [← e0, ← ec]
  refine it_loop (st := fun j => (msk (fun k => decide ((if k < j then y else z) < Lz k)) c, nI j)) c (by omega) (fun j hj => ?_) ?_
  · unfold fX10_findNumbers_L3
    dsimp only [un2]
    rw [if_neg (nI_ge hj (by omega)), in_bnd (vp_in_nI (show j < 24 by omega) (by omega))]
    simp only [bv_d, gd_t]
    rw [nI_clamp (by omega), h1 j hj, nI_1]
    have hzk := hz j hj
    have A0 := b_test j (by omega) (msk (fun k => decide ((if k < j then y else z) < Lz k)) c)
    rw [b_msk _ c (by omega) j (by omega), decide_eq_true hj, Bool.true_and, if_neg (Nat.lt_irrefl j), decide_eq_true_eq] at A0
    have A1 : (iI y < iI (Lz j)) ↔ y < Lz j := iI_lt (by omega) (by omega) (by omega) (by omega)
    simp only [A0, A1]
    have fin : ∀ m : Int32, (∀ i, i < 32 → bt m i = (decide (i ≠ j) || decide (y < Lz j) || !decide (z < Lz j))) → msk (fun k => decide ((if k < j then y else z) < Lz k)) c &&& m = msk (fun k => decide ((if k < j + 1 then y else z) < Lz k)) c := by
      intro m hm
      refine b_ext (fun i hi => ?_)
      rw [b_and, b_msk _ c (by omega) i hi, b_msk _ c (by omega) i hi, hm i hi]
      by_cases q : i = j
      · subst q
        rw [decide_eq_true hj, if_neg (Nat.lt_irrefl i), if_pos (show i < i + 1 by omega)]
        by_cases w1 : z < Lz i
        · by_cases w2 : y < Lz i
          · simp [w1, w2]
          · simp [w1, w2]
        · have w2 : ¬ y < Lz i := by omega
          simp [w1, w2]
      · have e1 : (if i < j then y else z) = (if i < j + 1 then y else z) := by
          by_cases w : i < j
          · rw [if_pos w, if_pos (show i < j + 1 by omega)]
          · rw [if_neg w, if_neg (show ¬ i < j + 1 by omega)]
        rw [e1, decide_eq_true (show i ≠ j from q)]
        simp
    by_cases w1 : z < Lz j
    · rw [if_pos w1]
      by_cases w2 : y < Lz j
      · rw [if_pos w2, ob_s, fin (-1) (fun i hi => by rw [b_m1 i hi, decide_eq_true w2]; simp)]
      · rw [if_neg w2, ob_s, fin _ (fun i hi => by
          rw [b_xor, b_one j (by omega) i hi, b_m1 i hi, decide_eq_false w2, decide_eq_true w1]
          by_cases q : i = j
          · simp [q]
          · simp [q])]
    · rw [if_neg w1, ob_s, fin (-1) (fun i hi => by rw [b_m1 i hi, decide_eq_false w1]; simp)]
  · unfold fX10_findNumbers_L3
    dsimp only [un2]
    rw [if_pos (nI_le (Nat.le_refl _) (by omega))]
theorem num_ok (hc : c ≤ 24) (hr : ∀ i, i < c → a (3 * i) = lo i ∧ a (3 * i + 1) = hi i ∧ a (3 * i + 2) = at_ i ∧ rg (lo i) 0 100000 ∧ rg (hi i) 0 100000 ∧ (lo i).toInt ≤ (hi i).toInt ∧ rg (at_ i) (-10000) 10000) (hT1 : -50 ≤ T) (hT2 : T ≤ 50) {N : Nat} (hN : N ≤ c) (hN1 : lh (zf T lo at_) (zf T hi at_) (sq (zf T lo at_) (zf T hi at_) c N) c = 1000000) (hN2 : ∀ t, t < N → lh (zf T lo at_) (zf T hi at_) (sq (zf T lo at_) (zf T hi at_) c t) c ≠ 1000000) (mf : Int32) (nu : Nat → Int32) : ∃ nu', fX10_findNumbers (iI T) (nI c) mf lo hi at_ nu = some (nI N, nu') ∧ ∀ t, t < N → nu' t = iI (sq (zf T lo at_) (zf T hi at_) c (t + 1)) := by
  have hz := z_ok hr hT1 hT2
  have h1 : ∀ k, k < c → lo k - iI T * at_ k / 1000 = iI (zf T lo at_ k) := fun k hk => by
    obtain ⟨-, -, -, r1, r2, r3, r4⟩ := hr k hk
    exact zf_eq hT1 hT2 r1 r4
  have h2 : ∀ k, k < c → hi k - iI T * at_ k / 1000 = iI (zf T hi at_ k) := fun k hk => by
    obtain ⟨-, -, -, r1, r2, r3, r4⟩ := hr k hk
    exact zf_eq hT1 hT2 r2 r4
  generalize zf T lo at_ = Lz at *
  generalize zf T hi at_ = Hz at *
  refine ⟨rowT Lz Hz c nu N, ?_, rowT_at _⟩
  unfold fX10_findNumbers
  rw [bv_d]
  have e0 : ((1 : Int32) <<< (nI c &&& 31)) - 1 = msk (fun k => decide (sq Lz Hz c 0 < Lz k)) c := by
    refine b_ext (fun i hi => ?_)
    rw [b_all c (by omega) i hi, b_msk _ c (by omega) i hi]
    by_cases q : i < c
    · have := hz i q
      have w : sq Lz Hz c 0 < Lz i := by show (-1000000 : Int) < _; omega
      rw [decide_eq_true w, Bool.and_true]
    · rw [decide_eq_false q]; rfl
  rw [e0]
  have e : it (fX10_findNumbers_L1 (nI c) hi (iI T) at_ lo) 100000 (msk (fun k => decide (sq Lz Hz c 0 < Lz k)) c, 0, nu) = some (nI N, rowT Lz Hz c nu N) := by
    refine it_loop (st := fun t => (msk (fun k => decide (sq Lz Hz c t < Lz k)) c, nI t, rowT Lz Hz c nu t)) N (by omega) (fun t ht => ?_) ?_
    · unfold fX10_findNumbers_L1
      dsimp only [un3]
      have n1 := hN2 t ht
      obtain ⟨g1, g2, g3, k, gk1, gk2, gk3⟩ := lh_gt hz n1
      have nz : ¬ msk (fun k => decide (sq Lz Hz c t < Lz k)) c = 0 := by
        rw [msk_0 (by omega)]
        intro q
        have := q k gk1
        rw [decide_eq_true gk2] at this
        cases this
      rw [if_neg nz, ends_ok hc hz h2 n1, ob_s, left_ok hc hz h1 (z := sq Lz Hz c t) (y := lh Lz Hz (sq Lz Hz c t) c) (by omega) (by omega) (by omega), ob_s, in_bnd (vp_in_nI (show t < 24 by omega) (by omega)), gd_t, bv_d, bv_d, nI_clamp (by omega), nI_1]
      rfl
    · unfold fX10_findNumbers_L1
      dsimp only [un3]
      have z0 : msk (fun k => decide (sq Lz Hz c N < Lz k)) c = 0 := by
        rw [msk_0 (by omega)]
        intro i hi
        exact decide_eq_false ((lh_none hz).mp hN1 i hi)
      rw [if_pos z0]
  rw [e, ob2_s]
end Layers
theorem must_ok (x1 x2 : Int32) {l : Int32} {a : Nat → Int32} {ml : Int32} {lo hi at_ : Nat → Int32} (h : R_heights l a ml lo hi at_) (lw hg fo : Nat → Int32) (mf : Int32) (nu : Nat → Int32) : ∃ r lw' hg' fo' mf' nu', fX9_must x1 x2 3 l 72 a lw hg fo = some (r, lw', hg', fo') ∧ fX10_must x1 x2 ml mf lo hi at_ nu = some (r, mf', nu') := by
  obtain ⟨c, hc, rfl, rfl, hr⟩ := h
  unfold fX9_must fX10_must
  rw [isWithin_eq, in_eq, ob_s, ob_s]
  cases h1 : wi x1 (-50) 50 with
  | false => exact ⟨_, _, _, _, _, _, rfl, rfl⟩
  | true =>
    rw [ite_b, ite_b]
    by_cases h2 : (-1) ≤ x2
    · rw [if_pos h2, if_pos h2]
      obtain ⟨T, hT1, hT2, rfl⟩ := rg_i (wi_lit h1 (a := -50) (b := 50) (by decide) (by decide))
      obtain ⟨N, hN, hN1, hN2⟩ := sq_ends (z_ok hr hT1 hT2)
      obtain ⟨lw', hg', fo', e1, f1⟩ := fill_ok hc hr hT1 hT2 hN hN1 hN2 (M := 24) (by omega) lw hg fo
      obtain ⟨nu', e2, f2⟩ := num_ok hc hr hT1 hT2 hN hN1 hN2 mf nu
      rw [show min N 24 = N by omega] at e1 f1
      have e1 : fX2_fill (iI T) 24 3 (nI c) lw hg fo 72 a = some (nI N, lw', hg', fo') := e1
      rw [e1, e2, ob4_s, ob2_s]
      by_cases h3 : x2 = -1
      · rw [if_pos h3, if_pos h3]; exact ⟨_, _, _, _, _, _, rfl, rfl⟩
      · rw [if_neg h3, if_neg h3]
        by_cases h4 : nI N ≤ x2
        · rw [if_pos h4, if_pos h4]; exact ⟨_, _, _, _, _, _, rfl, rfl⟩
        · rw [if_neg h4, if_neg h4]
          have h5 : ¬ x2 < 0 := by
            intro q
            apply h3
            rw [← Int32.toInt_inj]
            have a1 := Int32.le_iff_toInt_le.mp h2
            have a2 := Int32.lt_iff_toInt_lt.mp q
            rw [show (-1 : Int32).toInt = -1 from by decide] at a1 ⊢
            rw [show (0 : Int32).toInt = 0 from by decide] at a2
            omega
          obtain ⟨j, hj, rfl⟩ := nI_of h5
          have hjN : j < N := by
            rcases Nat.lt_or_ge j N with q | q
            · exact q
            · exact absurd (nI_le q (by omega)) h4
          unfold fX2_layerAt
          rw [if_neg h5, if_neg (show ¬ (24 : Int32) ≤ nI j from nI_ge (show j < 24 by omega) (by decide)), in_bnd (vp_in_nI (show j < 24 by omega) (by omega)), gd_t, gd_t, ob_s, nI_clamp (by omega), f1 j hjN, f2 j hjN]
          exact ⟨_, _, _, _, _, _, rfl, rfl⟩
    · rw [if_neg h2, if_neg h2]; exact ⟨_, _, _, _, _, _, rfl, rfl⟩
