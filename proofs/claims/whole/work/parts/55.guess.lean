/-! guess -/
def ap (a b n : Int) : Int := if n - ((a - b).natAbs : Int) < ((a - b).natAbs : Int) then n - ((a - b).natAbs : Int) else ((a - b).natAbs : Int)
theorem apX {a b n : Int} (ha1 : 0 ≤ a) (ha2 : a ≤ 1000) (hb1 : 0 ≤ b) (hb2 : b ≤ 1000) (hn1 : 0 ≤ n) (hn2 : n ≤ 1000) : fX8_apart (iI a) (iI b) (iI n) = some (iI (ap a b n)) := by
  unfold fX8_apart
  rw [iI_sub]
  have e1 : (if 0 ≤ iI (a - b) then iI (a - b) else 0 - iI (a - b)) = iI ((a - b).natAbs : Int) := by
    rw [show (0 : Int32) = iI 0 from rfl, iI_sub]
    by_cases h : 0 ≤ a - b
    · rw [if_pos ((iI_le (by omega) (by omega) (by omega) (by omega)).mpr h)]
      congr 1; omega
    · rw [if_neg (fun q => h ((iI_le (by omega) (by omega) (by omega) (by omega)).mp q))]
      congr 1; omega
  rw [e1, bv_d, iI_sub, bv_d]
  unfold ap
  by_cases h : n - ((a - b).natAbs : Int) < ((a - b).natAbs : Int)
  · rw [if_pos ((iI_lt (by omega) (by omega) (by omega) (by omega)).mpr h), if_pos h]
  · rw [if_neg (fun q => h ((iI_lt (by omega) (by omega) (by omega) (by omega)).mp q)), if_neg h]
theorem apM {a b n : Int} (ha1 : 0 ≤ a) (ha2 : a ≤ 1000) (hb1 : 0 ≤ b) (hb2 : b ≤ 1000) (hn1 : 0 ≤ n) (hn2 : n ≤ 1000) : fX10_round (iI b) (iI a) (iI n) = some (iI (ap a b n)) := by
  unfold fX10_round
  have e1 : (if iI a ≤ iI b then some (iI b - iI a) else some (iI a - iI b)) = some (iI ((a - b).natAbs : Int)) := by
    rw [iI_sub, iI_sub]
    by_cases h : a ≤ b
    · rw [if_pos ((iI_le (by omega) (by omega) (by omega) (by omega)).mpr h)]
      congr 2; omega
    · rw [if_neg (fun q => h ((iI_le (by omega) (by omega) (by omega) (by omega)).mp q))]
      congr 2; omega
  rw [e1, ob_s, iI_sub]
  unfold ap
  by_cases h : n - ((a - b).natAbs : Int) < ((a - b).natAbs : Int)
  · rw [if_neg (fun q => absurd ((iI_le (by omega) (by omega) (by omega) (by omega)).mp q) (by omega)), if_pos h]
  · rw [if_pos ((iI_le (by omega) (by omega) (by omega) (by omega)).mpr (by omega)), if_neg h]
theorem ap_rg {a b n : Int} (hn : ((a - b).natAbs : Int) ≤ n) : 0 ≤ ap a b n ∧ ap a b n ≤ n := by
  unfold ap
  split <;> omega
def takeP (x h : Int32) (t : Int32 × Int32 × Int32) : Int32 × Int32 × Int32 := if t.2.1 = 0 then (h, 1, x) else if t.2.2 < x then t else if x < t.2.2 then (h, 1, x) else (t.1 + h, t.2.1 + 1, t.2.2)
theorem takeX {k : Nat} (hk : k ≤ 1000) (x h s d : Int32) : fX8_take x h s (nI k) d = some (takeP x h (s, nI k, d)) := by
  unfold fX8_take takeP
  rcases Nat.eq_zero_or_pos k with rfl | hp
  · rw [if_pos (show nI 0 ≤ 0 from by decide), if_pos (show nI 0 = 0 from rfl), ob3_s, bv_d, bv_d]
    rw [if_pos (show (s, nI 0, d).2.1 = 0 from rfl), Int32.zero_add]
    rfl
  · have h0 : ¬ nI k = 0 := nI_ne0 hp (by omega)
    have h1 : ¬ nI k ≤ 0 := nI_nle hp (by omega)
    show _ = some (if nI k = 0 then _ else if d < x then _ else if x < d then _ else _)
    rw [if_neg h1, if_neg h0, if_neg h0]
    by_cases q : d < x
    · rw [if_pos q, if_neg (Int32.not_le.mpr q)]
    · rw [if_neg q, if_pos (Int32.not_lt.mp q)]
      by_cases q2 : x < d
      · rw [if_pos q2, if_neg (Int32.not_le.mpr q2), ob3_s, bv_d, bv_d, Int32.zero_add]
        rfl
      · rw [if_neg q2, if_pos (Int32.not_lt.mp q2), ob3_s, bv_d, bv_d]
def gstep (x1 : Int32) (H Wd : Int) (ma : Nat → Int32) (i : Nat) (t : Int32 × Int32 × Int32) : Int32 × Int32 × Int32 := if ma (4 * i) = x1 then (if ma (4 * i + 3) = -1 then t else takeP (iI (ap H (ma (4 * i + 1)).toInt 24 + ap Wd (ma (4 * i + 2)).toInt 8)) (ma (4 * i + 3)) t) else t
def gseq (x1 : Int32) (H Wd : Int) (ma : Nat → Int32) : Nat → Int32 × Int32 × Int32
  | 0 => (0, 0, -1)
  | i + 1 => gstep x1 H Wd ma i (gseq x1 H Wd ma i)
def gInv (i : Nat) (t : Int32 × Int32 × Int32) : Prop := ∃ k : Nat, k ≤ i ∧ t.2.1 = nI k ∧ ((k = 0 ∧ t.2.2 = -1) ∨ (0 < k ∧ ∃ z : Int, 0 ≤ z ∧ z ≤ 100 ∧ t.2.2 = iI z))
theorem gInv_step {x1 : Int32} {H Wd : Int} {ma : Nat → Int32} {i : Nat} {t : Int32 × Int32 × Int32} (hi : i < 1000) (hH : 0 ≤ H) (hH2 : H ≤ 23) (hW : 0 ≤ Wd) (hW2 : Wd ≤ 7) (r1 : rg (ma (4 * i + 1)) 0 23) (r2 : rg (ma (4 * i + 2)) 0 7) (h : gInv i t) : gInv (i + 1) (gstep x1 H Wd ma i t) := by
  obtain ⟨s, m, d⟩ := t
  obtain ⟨k, hk, hm, hd⟩ := h
  have hm : m = nI k := hm
  unfold gstep
  by_cases c1 : ma (4 * i) = x1
  · rw [if_pos c1]
    by_cases c2 : ma (4 * i + 3) = -1
    · rw [if_pos c2]; exact ⟨k, by omega, hm, hd⟩
    · rw [if_neg c2]
      have a1 := ap_rg (a := H) (b := (ma (4 * i + 1)).toInt) (n := 24) (by have := r1.1; have := r1.2; omega)
      have a2 := ap_rg (a := Wd) (b := (ma (4 * i + 2)).toInt) (n := 8) (by have := r2.1; have := r2.2; omega)
      generalize hz : ap H (ma (4 * i + 1)).toInt 24 + ap Wd (ma (4 * i + 2)).toInt 8 = z
      have hz0 : 0 ≤ z := by omega
      have hz1 : z ≤ 100 := by omega
      unfold takeP
      show gInv (i + 1) (if m = 0 then _ else if d < iI z then _ else if iI z < d then _ else _)
      by_cases c3 : m = 0
      · rw [if_pos c3]; exact ⟨1, by omega, rfl, Or.inr ⟨by omega, z, hz0, hz1, rfl⟩⟩
      · rw [if_neg c3]
        by_cases c4 : d < iI z
        · rw [if_pos c4]; exact ⟨k, by omega, hm, hd⟩
        · rw [if_neg c4]
          by_cases c5 : iI z < d
          · rw [if_pos c5]; exact ⟨1, by omega, rfl, Or.inr ⟨by omega, z, hz0, hz1, rfl⟩⟩
          · rw [if_neg c5]
            refine ⟨k + 1, by omega, ?_, ?_⟩
            · show m + 1 = nI (k + 1)
              rw [hm, nI_1]
            · rcases hd with ⟨rfl, -⟩ | ⟨hk0, z', hz'⟩
              · exact absurd (show m = 0 from hm) c3
              · exact Or.inr ⟨by omega, z', hz'⟩
  · rw [if_neg c1]; exact ⟨k, by omega, hm, hd⟩
theorem gInv_seq {x1 : Int32} {H Wd : Int} {ma : Nat → Int32} {c : Nat} (hc : c ≤ 200) (hH : 0 ≤ H) (hH2 : H ≤ 23) (hW : 0 ≤ Wd) (hW2 : Wd ≤ 7) (r : ∀ i, i < c → rg (ma (4 * i)) 0 7 ∧ rg (ma (4 * i + 1)) 0 23 ∧ rg (ma (4 * i + 2)) 0 7 ∧ rg (ma (4 * i + 3)) (-1) 100000) : ∀ i, i ≤ c → gInv i (gseq x1 H Wd ma i) := by
  intro i
  induction i with
  | zero => intro _; exact ⟨0, Nat.le_refl 0, rfl, Or.inl ⟨rfl, rfl⟩⟩
  | succ i ih =>
    intro hi
    exact gInv_step (by omega) hH hH2 hW hW2 (r i (by omega)).2.1 (r i (by omega)).2.2.1 (ih (by omega))
theorem m1_i : (-1 : Int32) = iI (-1) := by decide
theorem guess_ok (x1 x2 x3 x4 : Int32) {l : Int32} {a : Nat → Int32} {ml : Int32} {ma : Nat → Int32} (h : R_rows l a ml ma) (ys ym yd : Int32) : ∃ r s' m' d', fX9_guess x1 x2 x3 x4 4 l ys ym yd 800 a = some (r, s', m', d') ∧ fX10_guess x1 x2 x3 x4 ml ma = some r := by
  unfold fX9_guess fX10_guess
  simp only [isWithin_eq, in_eq, fhw_eq, ob_s, bv_d]
  cases h1 : wi x1 0 7 with
  | false => exact ⟨_, _, _, _, rfl, rfl⟩
  | true =>
    cases h2 : wi x2 0 23 with
    | false => exact ⟨_, _, _, _, rfl, rfl⟩
    | true =>
      cases h3 : wi x3 0 7 with
      | false => exact ⟨_, _, _, _, rfl, rfl⟩
      | true =>
        cases h4 : wi x4 0 2 with
        | false => exact ⟨_, _, _, _, rfl, rfl⟩
        | true =>
          simp only [Bool.and_self, ite_b]
          obtain ⟨c, hc, rfl, rfl, he, hr⟩ := h
          obtain ⟨H, hH, hH2, rfl⟩ := rg_i (wi_lit h2 (a := 0) (b := 23) (by decide) (by decide))
          obtain ⟨Wd, hW, hW2, rfl⟩ := rg_i (wi_lit h3 (a := 0) (b := 7) (by decide) (by decide))
          have inv := gInv_seq (x1 := x1) (ma := ma) hc hH hH2 hW hW2 hr
          have eX : it (fX8_look_L1 (nI c) 4 800 a x1 (iI H) (iI Wd)) 100000 (0, 0, 0, -1) = some (gseq x1 H Wd ma c) := by
            refine it_loop (st := fun i => (nI i, gseq x1 H Wd ma i)) c (by omega) (fun i hi => ?_) ?_
            · obtain ⟨k, hk, hm, hd⟩ := inv i (by omega)
              show fX8_look_L1 (nI c) 4 800 a x1 (iI H) (iI Wd) (nI i, gseq x1 H Wd ma i) = some (.inr (nI (i + 1), gstep x1 H Wd ma i (gseq x1 H Wd ma i)))
              generalize gseq x1 H Wd ma i = t at hm hd ⊢
              obtain ⟨s, m, d⟩ := t
              have hm : m = nI k := hm
              subst hm
              obtain ⟨r0, r1, r2, r3⟩ := hr i hi
              have t0 : fX7_at (nI i) 0 4 800 a = some (ma (4 * i)) := by
                have q := tat (w := 4) (n := 800) (i := i) (j := 0) (by omega) (by omega) a
                rw [Nat.add_zero, Nat.mul_comm, he _ (by omega)] at q
                exact q
              have t1 : fX7_at (nI i) 1 4 800 a = some (ma (4 * i + 1)) := by
                have q := tat (w := 4) (n := 800) (i := i) (j := 1) (by omega) (by omega) a
                rw [Nat.mul_comm, he _ (by omega)] at q
                exact q
              have t2 : fX7_at (nI i) 2 4 800 a = some (ma (4 * i + 2)) := by
                have q := tat (w := 4) (n := 800) (i := i) (j := 2) (by omega) (by omega) a
                rw [Nat.mul_comm, he _ (by omega)] at q
                exact q
              have t3 : fX7_at (nI i) 3 4 800 a = some (ma (4 * i + 3)) := by
                have q := tat (w := 4) (n := 800) (i := i) (j := 3) (by omega) (by omega) a
                rw [Nat.mul_comm, he _ (by omega)] at q
                exact q
              have p1 : fX8_apart (iI H) (ma (4 * i + 1)) 24 = some (iI (ap H (ma (4 * i + 1)).toInt 24)) := by
                have q := apX (a := H) (b := (ma (4 * i + 1)).toInt) (n := 24) hH (by omega) r1.1 (by have := r1.2; omega) (by omega) (by omega)
                rw [iI_of] at q
                exact q
              have p2 : fX8_apart (iI Wd) (ma (4 * i + 2)) 8 = some (iI (ap Wd (ma (4 * i + 2)).toInt 8)) := by
                have q := apX (a := Wd) (b := (ma (4 * i + 2)).toInt) (n := 8) hW (by omega) r2.1 (by have := r2.2; omega) (by omega) (by omega)
                rw [iI_of] at q
                exact q
              unfold fX8_look_L1
              dsimp only [un4]
              rw [tsize, ob_s, if_neg (nI_ge hi (by omega)), t0, ob_s, t1, t2, t3, ob_s]
              unfold gstep
              by_cases c1 : ma (4 * i) = x1
              · rw [if_pos c1, if_pos c1]
                by_cases c2 : ma (4 * i + 3) = -1
                · rw [if_pos c2, if_pos c2, ob3_s, bv_d, nI_1]
                · rw [if_neg c2, if_neg c2, ob_s, p1, ob_s, ob_s, p2, ob_s, ob_s, iI_add, takeX (by omega)]
                  generalize takeP _ _ _ = t2
                  obtain ⟨s2, m2, d2⟩ := t2
                  rw [ob3_s, ob3_s, bv_d, nI_1]
              · rw [if_neg c1, if_neg c1, ob3_s, bv_d, nI_1]
            · generalize gseq x1 H Wd ma c = t
              obtain ⟨s, m, d⟩ := t
              unfold fX8_look_L1
              dsimp only [un4]
              rw [tsize, ob_s, if_pos (nI_le (Nat.le_refl _) (by omega))]
          have eM : it (fX10_guess_L1 (nI c) ma (iI H) (iI Wd) x1) 100000 (-1, 0, 0, 0) = some ((gseq x1 H Wd ma c).2.2, (gseq x1 H Wd ma c).2.1, (gseq x1 H Wd ma c).1) := by
            refine it_loop (st := fun i => ((gseq x1 H Wd ma i).2.2, (gseq x1 H Wd ma i).2.1, (gseq x1 H Wd ma i).1, nI i)) c (by omega) (fun i hi => ?_) ?_
            · obtain ⟨k, hk, hm, hd⟩ := inv i (by omega)
              show fX10_guess_L1 (nI c) ma (iI H) (iI Wd) x1 ((gseq x1 H Wd ma i).2.2, (gseq x1 H Wd ma i).2.1, (gseq x1 H Wd ma i).1, nI i) = some (.inr ((gstep x1 H Wd ma i (gseq x1 H Wd ma i)).2.2, (gstep x1 H Wd ma i (gseq x1 H Wd ma i)).2.1, (gstep x1 H Wd ma i (gseq x1 H Wd ma i)).1, nI (i + 1)))
              generalize gseq x1 H Wd ma i = t at hm hd ⊢
              obtain ⟨s, m, d⟩ := t
              have hm : m = nI k := hm
              subst hm
              obtain ⟨r0, r1, r2, r3⟩ := hr i hi
              obtain ⟨i0, i1, i2, i3, b0, b1, b2, b3⟩ := put4 (c := i) (n := 800) (by omega) (by omega) ma 0 0 0 0
              have p1 : fX10_round (ma (4 * i + 1)) (iI H) 24 = some (iI (ap H (ma (4 * i + 1)).toInt 24)) := by
                have q := apM (a := H) (b := (ma (4 * i + 1)).toInt) (n := 24) hH (by omega) r1.1 (by have := r1.2; omega) (by omega) (by omega)
                rw [iI_of] at q
                exact q
              have p2 : fX10_round (ma (4 * i + 2)) (iI Wd) 8 = some (iI (ap Wd (ma (4 * i + 2)).toInt 8)) := by
                have q := apM (a := Wd) (b := (ma (4 * i + 2)).toInt) (n := 8) hW (by omega) r2.1 (by have := r2.2; omega) (by omega) (by omega)
                rw [iI_of] at q
                exact q
              have a1 := ap_rg (a := H) (b := (ma (4 * i + 1)).toInt) (n := 24) (by have := r1.1; have := r1.2; omega)
              have a2 := ap_rg (a := Wd) (b := (ma (4 * i + 2)).toInt) (n := 8) (by have := r2.1; have := r2.2; omega)
              unfold fX10_guess_L1
              dsimp only [un4]
              rw [if_neg (nI_ge hi (by omega)), i0, i1, i2, i3, b0, b1, b2, b3]
              simp only [gd_t]
              rw [nI_clamp (by omega), nI_clamp (by omega), nI_clamp (by omega), nI_clamp (by omega), p1, ob_s, p2, ob_s, bv_d, iI_add]
              unfold gstep
              generalize hz : ap H (ma (4 * i + 1)).toInt 24 + ap Wd (ma (4 * i + 2)).toInt 8 = z
              have hz0 : 0 ≤ z := by omega
              have hz1 : z ≤ 100 := by omega
              by_cases c1 : ma (4 * i) = x1
              · rw [if_pos c1, if_pos c1]
                by_cases c2 : ma (4 * i + 3) = -1
                · rw [if_pos c2, if_pos c2, ob3_s, bv_d, nI_1]
                · rw [if_neg c2, if_neg c2]
                  unfold takeP
                  dsimp only
                  rcases hd with ⟨hk0, hd⟩ | ⟨hk0, zd, hzd0, hzd1, hd⟩
                  · have hd : d = -1 := hd
                    subst hd
                    subst hk0
                    rw [if_pos (rfl : (-1 : Int32) = -1), if_pos (rfl : (-1 : Int32) = -1), ob_s, if_neg (by decide), ob_s, if_neg (by decide), ob_s, ob3_s, bv_d, nI_1, if_pos (show nI 0 = 0 from rfl)]
                  · have hd : d = iI zd := hd
                    subst hd
                    have n1 : ¬ iI zd = -1 := by rw [m1_i, iI_eq (by omega) (by omega) (by omega) (by omega)]; omega
                    have n0 : ¬ nI k = 0 := nI_ne0 hk0 (by omega)
                    rw [if_neg n1, if_neg n1, if_neg n0]
                    by_cases c3 : iI zd < iI z
                    · rw [if_pos c3, if_pos c3, ob3_s, bv_d, nI_1]
                    · rw [if_neg c3, if_neg c3]
                      by_cases c4 : iI z < iI zd
                      · rw [if_neg (Int32.not_le.mpr c4), ob_s, if_neg (by decide), if_neg (by decide), ob_s, ob_s, ob3_s, bv_d, nI_1, if_pos c4]
                      · have e : iI zd = iI z := Int32.le_antisymm (Int32.not_lt.mp c4) (Int32.not_lt.mp c3)
                        rw [if_pos (Int32.not_lt.mp c4), ob_s, if_pos rfl, if_pos rfl, ob_s, ob_s, ob3_s, bv_d, nI_1, nI_1, if_neg c4, e]
              · rw [if_neg c1, if_neg c1, ob3_s, bv_d, nI_1]
            · generalize gseq x1 H Wd ma c = t
              obtain ⟨s, m, d⟩ := t
              unfold fX10_guess_L1
              dsimp only [un4]
              rw [if_pos (nI_le (Nat.le_refl _) (by omega))]
          unfold fX8_look
          rw [eX, eM]
          obtain ⟨k, hk, hm, hd⟩ := inv c (Nat.le_refl c)
          generalize gseq x1 H Wd ma c = t at hm hd ⊢
          obtain ⟨s, m, d⟩ := t
          have hm : m = nI k := hm
          subst hm
          dsimp only
          rw [ob3_s, ob3_s, ob3_s]
          by_cases q0 : x4 = 0
          · rw [if_pos q0, if_pos q0]
            unfold fX8_mean
            rcases Nat.eq_zero_or_pos k with rfl | hp
            · rw [if_pos (show nI 0 ≤ 0 from by decide), if_pos (show nI 0 = 0 from rfl)]
              exact ⟨_, _, _, _, rfl, rfl⟩
            · have n0 : ¬ nI k = 0 := nI_ne0 hp (by omega)
              rw [if_neg (nI_nle hp (by omega)), if_neg n0, decide_eq_true n0, gd_t]
              exact ⟨_, _, _, _, rfl, rfl⟩
          · rw [if_neg q0, if_neg q0]
            by_cases q1 : x4 = 1
            · rw [if_pos q1, if_pos q1]; exact ⟨_, _, _, _, rfl, rfl⟩
            · rw [if_neg q1, if_neg q1]; exact ⟨_, _, _, _, rfl, rfl⟩
