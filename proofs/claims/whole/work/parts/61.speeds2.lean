/-! ends of spans -/
theorem mlt {a b c : Int} (hc : 0 < c) : a * c < b * c ↔ a < b := by
  constructor
  · intro h
    rcases Int.lt_or_le a b with q | q
    · exact q
    · have := Int.mul_le_mul_of_nonneg_right q (Int.le_of_lt hc)
      omega
  · intro h; exact Int.mul_lt_mul_of_pos_right h hc
theorem mlt' {a b c : Int} (hc : 0 < c) : c * a < c * b ↔ a < b := by
  rw [Int.mul_comm c a, Int.mul_comm c b]; exact mlt hc
theorem mneg {a b c : Int} (hc : c < 0) : c * a < c * b ↔ b < a := by
  have h := mlt' (a := b) (b := a) (c := -c) (by omega)
  rw [Int.neg_mul, Int.neg_mul] at h
  omega
/-- the candidate is better: greater (g) or less -/
def btr (g : Bool) (c d : Int × Int) : Prop := if g then c.1 * d.2 < d.1 * c.2 else d.1 * c.2 < c.1 * d.2
def nx (g : Bool) (c d : Int × Int) : Int × Int := if (if g then c.1 * d.2 < d.1 * c.2 else d.1 * c.2 < c.1 * d.2) then d else c
def fin4 (g : Bool) (p n u w : Int) : Int × Int := nx g (nx g (nx g (p, u) (p, w)) (n, u)) (n, w)
theorem fin_g {p n u w : Int} (hw : 0 < w) (h : (p = n ∧ u = w) ∨ (n < p ∧ w < u)) : fin4 true p n u w = (p, if 0 < p ∧ w < u then w else u) := by
  have hu : 0 < u := by omega
  have hnp : n ≤ p := by omega
  have hwu : w ≤ u := by omega
  unfold fin4 nx
  simp only [if_true]
  by_cases c : 0 < p ∧ w < u
  · rw [if_pos c, if_pos ((mlt' c.1).mpr c.2)]
    have s2 : ¬ p * u < n * w := by
      have a1 := Int.mul_le_mul_of_nonneg_right hnp (Int.le_of_lt hw)
      have a2 := Int.mul_le_mul_of_nonneg_left hwu (Int.le_of_lt c.1)
      omega
    rw [if_neg s2]
    have s3 : ¬ p * w < n * w := by rw [mlt hw]; omega
    rw [if_neg s3]
  · rw [if_neg c]
    have s1 : ¬ p * w < p * u := by
      rcases Int.lt_trichotomy p 0 with q | q | q
      · rw [mneg q]; omega
      · rw [q]; omega
      · rw [mlt' q]; intro q2; exact c ⟨q, q2⟩
    rw [if_neg s1]
    have s2 : ¬ p * u < n * u := by rw [mlt hu]; omega
    rw [if_neg s2]
    have s3 : ¬ p * w < n * u := by
      have a1 := Int.mul_le_mul_of_nonneg_right hnp (Int.le_of_lt hu)
      rcases Int.lt_or_le 0 p with q | q
      · have : u = w := by
          rcases h with h | h
          · exact h.2
          · exact absurd ⟨q, h.2⟩ c
        rw [this] at a1 ⊢
        omega
      · have a2 : p * u ≤ p * w := by
          have := Int.mul_le_mul_of_nonpos_left q hwu
          exact this
        omega
    rw [if_neg s3]
theorem fin_l {p n u w : Int} (hw : 0 < w) (h : (p = n ∧ u = w) ∨ (n < p ∧ w < u)) : fin4 false p n u w = (n, if n < 0 ∧ w < u then w else u) := by
  have hu : 0 < u := by omega
  unfold fin4 nx
  simp only [Bool.false_eq_true, if_false]
  rcases h with ⟨rfl, rfl⟩ | ⟨hnp, hwu⟩
  · simp only [Int.lt_irrefl, if_false, and_false]
  · by_cases cp : p < 0
    · rw [if_pos ((mneg cp).mpr hwu)]
      have hn : n < 0 := by omega
      rw [if_pos (show n < 0 ∧ w < u from ⟨hn, hwu⟩)]
      by_cases c2 : n * w < p * u
      · rw [if_pos c2]
        rw [if_pos ((mneg hn).mpr hwu)]
      · rw [if_neg c2]
        rw [if_pos ((mlt hw).mpr hnp)]
    · have s1 : ¬ p * u < p * w := by
        rcases Int.lt_trichotomy p 0 with q | q | q
        · exact absurd q cp
        · rw [q]; omega
        · rw [mlt' q]; omega
      rw [if_neg s1, if_pos ((mlt hu).mpr hnp)]
      by_cases cn : n < 0
      · rw [if_pos ((mneg cn).mpr hwu), if_pos (show n < 0 ∧ w < u from ⟨cn, hwu⟩)]
      · have s3 : ¬ n * u < n * w := by
          rcases Int.lt_trichotomy n 0 with q | q | q
          · exact absurd q cn
          · rw [q]; omega
          · rw [mlt' q]; omega
        rw [if_neg s3, if_neg (show ¬ (n < 0 ∧ w < u) from fun q => cn q.1)]
theorem end_ok {ma : Nat → Int32} {c : Nat} (hc : c ≤ 40) {i : Nat} (hi : i < c) {B S X D : Int} (hB1 : 10 ≤ B) (hB2 : B ≤ 100000) (hS1 : 0 ≤ S) (hS2 : S ≤ 1000) (hX1 : -20000 ≤ X) (hX2 : X ≤ 20000) (hD1 : -40000 ≤ D) (hD2 : D ≤ 40000) (eX : ma (4 * i + 2) = iI X) (eD : ma (4 * i + 2) - ma (4 * i + 3) = iI D) (g : Bool) (ea eb : Int64) : fX10_findEnd (nI i) (b2i g) (iI B) (iI S) ea eb ma = if 2 * S < D then some (true, jI (B * (fin4 g (X + S) (X - S) (D + 2 * S) (D - 2 * S)).1), jI (fin4 g (X + S) (X - S) (D + 2 * S) (D - 2 * S)).2) else some (false, ea, eb) := by
  unfold fX10_findEnd
  rw [i4, show nI (4 * i) + 2 = nI (4 * i + 2) from i4k i 2, show nI (4 * i) + 3 = nI (4 * i + 3) from i4k i 3, in_bnd (vp_in_nI (show 4 * i + 2 < 160 by omega) (by omega)), in_bnd (vp_in_nI (show 4 * i + 3 < 160 by omega) (by omega)), gd_t, gd_t, bv_d, nI_clamp (by omega), nI_clamp (by omega), eD, iI2, iI_mul]
  have A0 : (iI (2 * S) < iI D) ↔ 2 * S < D := iI_lt (by omega) (by omega) (by omega) (by omega)
  simp only [A0]
  by_cases hd : 2 * S < D
  · rw [if_pos hd, if_pos hd]
    have step : ∀ (k : Nat) (hk : k < 4) (l y : Int), -21000 ≤ l → l ≤ 21000 → 0 < y → y ≤ 42000 → fX10_findEnd_L1 (nI i) (iI S) (iI B) ma (iI D) (b2i g) (nI k, jI (B * l), jI y) = some (.inr (nI (k + 1), jI (B * (nx g (l, y) (if k < 2 then X + S else X - S, if k % 2 = 0 then D + 2 * S else D - 2 * S)).1), jI (nx g (l, y) (if k < 2 then X + S else X - S, if k % 2 = 0 then D + 2 * S else D - 2 * S)).2)) := by
      intro k hk l y l1 l2 y1 y2
      unfold fX10_findEnd_L1
      dsimp only [un3]
      have e1 : (if (2 : Int32) ≤ nI k then some (-iI S) else some (iI S)) = some (iI (if k < 2 then S else -S)) := by
        by_cases q : k < 2
        · rw [if_pos q, if_neg (show ¬ (2 : Int32) ≤ nI k from nI_ge q (by decide))]
        · rw [if_neg q, if_pos (show (2 : Int32) ≤ nI k from nI_le (show 2 ≤ k by omega) (by omega)), iI_neg]
      have e2 : (if nI k - nI k / 2 * 2 = 0 then some (2 : Int64) else some (-2)) = some (jI (if k % 2 = 0 then 2 else -2)) := by
        rcases (show k = 0 ∨ k = 1 ∨ k = 2 ∨ k = 3 by omega) with rfl | rfl | rfl | rfl <;> decide
      rw [if_neg (show ¬ (4 : Int32) ≤ nI k from nI_ge hk (by decide)), i4, show nI (4 * i) + 2 = nI (4 * i + 2) from i4k i 2, in_bnd (vp_in_nI (show 4 * i + 2 < 160 by omega) (by omega)), gd_t, e1, ob_s, nI_clamp (by omega), eX, iI_add, e2]
      have f1 : (if k < 2 then X + S else X - S) = X + (if k < 2 then S else -S) := by split <;> omega
      have f2 : (if k % 2 = 0 then D + 2 * S else D - 2 * S) = D + (if k % 2 = 0 then 2 else -2) * S := by
        split
        · rfl
        · rw [Int.neg_mul]; rfl
      have m1 : -21000 ≤ X + (if k < 2 then S else -S) ∧ X + (if k < 2 then S else -S) ≤ 21000 := by split <;> omega
      have m2 : 0 < D + (if k % 2 = 0 then 2 else -2) * S ∧ D + (if k % 2 = 0 then 2 else -2) * S ≤ 42000 := by
        rw [← f2]; split <;> omega
      rw [f1, f2]
      generalize X + (if k < 2 then S else -S) = l' at m1 ⊢
      rw [iI_l (z := l') (by omega) (by omega), iI_l (z := B) (by omega) (by omega), iI_l (z := D) (by omega) (by omega), iI_l (z := S) (by omega) (by omega), jI_mul]
      simp only [bv_d]
      rw [ob_s]
      simp only [jI_mul, jI_add]
      generalize D + (if k % 2 = 0 then 2 else -2) * S = y' at m2 ⊢
      have b1 := mul_bd (a := l') (b := y) (M := 21000) (N := 42000) (by omega) (by omega) (by omega) (by omega)
      have b2 := mul_bd (a := l) (b := y') (M := 21000) (N := 42000) (by omega) (by omega) (by omega) (by omega)
      have b3 := mul_bd (a := B) (b := l' * y) (M := 100000) (N := 882000000) (by omega) (by omega) (by omega) (by omega)
      have b4 := mul_bd (a := B) (b := l * y') (M := 100000) (N := 882000000) (by omega) (by omega) (by omega) (by omega)
      rw [Int.mul_assoc, Int.mul_assoc]
      have z0 : ¬ lg_cmp (jI y) 0 = 0 := by rw [lc_eq, jI0, jI_eq (by omega) (by omega) (by omega) (by omega)]; omega
      have A1 : (0 ≤ lg_cmp (jI (B * (l' * y))) (jI (B * (l * y')))) ↔ ¬ l' * y < l * y' := by
        rw [lc_ge, jI_le (by omega) (by omega) (by omega) (by omega), ← Int.not_lt, mlt' (by omega)]
      have A2 : (lg_cmp (jI (B * (l' * y))) (jI (B * (l * y'))) ≤ 0) ↔ ¬ l * y' < l' * y := by
        rw [lc_le, jI_le (by omega) (by omega) (by omega) (by omega), ← Int.not_lt, mlt' (by omega)]
      rw [if_neg z0]
      simp only [A1, A2]
      rw [nI_1]
      unfold nx
      cases g with
      | true =>
        rw [if_neg (show ¬ b2i true = 0 from by decide)]
        dsimp only
        simp only [if_true]
        by_cases q : l * y' < l' * y
        · rw [if_neg (fun h => h q), ob_s, if_neg (by decide), ob2_s, if_pos q]
        · rw [if_pos q, ob_s, if_pos rfl, ob2_s, if_neg q]
      | false =>
        rw [if_pos (show b2i false = 0 from by decide)]
        dsimp only
        simp only [Bool.false_eq_true, if_false]
        by_cases q : l' * y < l * y'
        · rw [if_neg (fun h => h q), ob_s, if_neg (by decide), ob2_s, if_pos q]
        · rw [if_pos q, ob_s, if_pos rfl, ob2_s, if_neg q]
    have nxb : ∀ c d : Int × Int, (-21000 ≤ c.1 ∧ c.1 ≤ 21000 ∧ 0 < c.2 ∧ c.2 ≤ 42000) → (-21000 ≤ d.1 ∧ d.1 ≤ 21000 ∧ 0 < d.2 ∧ d.2 ≤ 42000) → (-21000 ≤ (nx g c d).1 ∧ (nx g c d).1 ≤ 21000 ∧ 0 < (nx g c d).2 ∧ (nx g c d).2 ≤ 42000) := by
      intro c d h1 h2
      unfold nx
      by_cases q : (if g then c.1 * d.2 < d.1 * c.2 else d.1 * c.2 < c.1 * d.2)
      · rw [if_pos q]; exact h2
      · rw [if_neg q]; exact h1
    -- the first step takes the first candidate
    have s0 : fX10_findEnd_L1 (nI i) (iI S) (iI B) ma (iI D) (b2i g) (nI 0, ea, jI 0) = some (.inr (nI 1, jI (B * (X + S)), jI (D + 2 * S))) := by
      unfold fX10_findEnd_L1
      dsimp only [un3]
      rw [if_neg (show ¬ (4 : Int32) ≤ nI 0 from by decide), i4, show nI (4 * i) + 2 = nI (4 * i + 2) from i4k i 2, in_bnd (vp_in_nI (show 4 * i + 2 < 160 by omega) (by omega)), gd_t, if_neg (show ¬ (2 : Int32) ≤ nI 0 from by decide), ob_s, nI_clamp (by omega), eX, iI_add, if_pos (show nI 0 - nI 0 / 2 * 2 = 0 from by decide)]
      simp only [bv_d]
      rw [ob_s, iI_l (z := X + S) (by omega) (by omega), iI_l (z := B) (by omega) (by omega), iI_l (z := D) (by omega) (by omega), iI_l (z := S) (by omega) (by omega), jI2]
      simp only [jI_mul, jI_add]
      rw [if_pos (show lg_cmp (jI 0) 0 = 0 from by decide), ob_s, if_neg (by decide), ob2_s]
      rfl
    have s4 : ∀ l y : Int, fX10_findEnd_L1 (nI i) (iI S) (iI B) ma (iI D) (b2i g) (nI 4, jI (B * l), jI y) = some (.inl (jI (B * l), jI y)) := by
      intro l y
      unfold fX10_findEnd_L1
      dsimp only [un3]
      rw [if_pos (show (4 : Int32) ≤ nI 4 from by decide)]
    have q0 : -21000 ≤ (X + S, D + 2 * S).1 ∧ (X + S, D + 2 * S).1 ≤ 21000 ∧ 0 < (X + S, D + 2 * S).2 ∧ (X + S, D + 2 * S).2 ≤ 42000 := by dsimp only; omega
    have q1 := nxb _ (X + S, D - 2 * S) q0 (by dsimp only; omega)
    have q2 := nxb _ (X - S, D + 2 * S) q1 (by dsimp only; omega)
    have e : it (fX10_findEnd_L1 (nI i) (iI S) (iI B) ma (iI D) (b2i g)) 100000 (0, ea, 0) = some (jI (B * (fin4 g (X + S) (X - S) (D + 2 * S) (D - 2 * S)).1), jI (fin4 g (X + S) (X - S) (D + 2 * S) (D - 2 * S)).2) := by
      show it _ (99995 + 1 + 1 + 1 + 1 + 1) (nI 0, ea, jI 0) = _
      rw [it_inr s0, it_inr (step 1 (by omega) _ _ q0.1 q0.2.1 q0.2.2.1 q0.2.2.2)]
      rw [if_pos (show 1 < 2 by omega), if_neg (show ¬ 1 % 2 = 0 by omega)]
      rw [it_inr (step 2 (by omega) _ _ q1.1 q1.2.1 q1.2.2.1 q1.2.2.2)]
      rw [if_neg (show ¬ 2 < 2 by omega), if_pos (show 2 % 2 = 0 by omega)]
      rw [it_inr (step 3 (by omega) _ _ q2.1 q2.2.1 q2.2.2.1 q2.2.2.2)]
      rw [if_neg (show ¬ 3 < 2 by omega), if_neg (show ¬ 3 % 2 = 0 by omega)]
      exact it_inl (s4 _ _)
    rw [e, ob2_s]
  · rw [if_neg hd, if_neg hd]
