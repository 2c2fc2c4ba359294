/-! relations between the class's cells and the reference's, part by part -/
def R_set (xb xs xl xh xu xa mb ms ml mh mu ma : Int32) : Prop := mb = xb ∧ ms = xs ∧ ml = xl ∧ mh = xh ∧ mu = xu ∧ ma = xa ∧ rg xb 10 100000 ∧ rg xs 0 1000 ∧ rg xl 1 100000 ∧ rg xh 1 100000 ∧ xl.toInt ≤ xh.toInt ∧ rg xu 0 1000 ∧ rg xa 0 1000
def R_frac (xa xb ma mb : Int64) : Prop := ma = xa ∧ mb = xb ∧ 0 < xb.toInt
def R_edges (l0 : Int32) (a0 : Nat → Int32) (l1 : Int32) (a1 : Nat → Int32) (ed le wo : Nat → Int32) : Prop := ∃ c0 c1 : Nat, c0 ≤ 8 ∧ c1 ≤ 8 ∧ l0 = nI c0 ∧ l1 = nI c1 ∧ ed 0 = nI c0 ∧ ed 1 = nI c1 ∧ (∀ i, i < c0 → a0 (2 * i) = le i ∧ a0 (2 * i + 1) = wo i ∧ rg (le i) (-20000) 20000 ∧ rg (wo i) 0 9) ∧ (∀ i, i < c1 → a1 (2 * i) = le (8 + i) ∧ a1 (2 * i + 1) = wo (8 + i) ∧ rg (le (8 + i)) (-20000) 20000 ∧ rg (wo (8 + i)) 0 9)
def R_layers (l : Int32) (a : Nat → Int32) (ml : Int32) (ma : Nat → Int32) : Prop := ∃ c : Nat, c ≤ 6 ∧ l = nI c ∧ ml = nI c ∧ ∀ i, i < c → a i = ma i ∧ rg (ma i) 1 100000
def R_sights (l : Int32) (a : Nat → Int32) (ml : Int32) (ma : Nat → Int32) : Prop := ∃ c : Nat, c ≤ 40 ∧ l = nI c ∧ ml = nI c ∧ (∀ k, k < 4 * c → a k = ma k) ∧ ∀ i, i < c → rg (ma (4 * i)) 0 7 ∧ rg (ma (4 * i + 1)) 0 1439 ∧ rg (ma (4 * i + 2)) (-20000) 20000 ∧ rg (ma (4 * i + 3)) (-20000) 20000
def R_shadows (l : Int32) (a : Nat → Int32) (ml : Int32) (ma : Nat → Int32) : Prop := ∃ c : Nat, c ≤ 40 ∧ l = nI c ∧ ml = nI c ∧ (∀ k, k < 4 * c → a k = ma k) ∧ ∀ i, i < c → rg (ma (4 * i)) 0 7 ∧ rg (ma (4 * i + 1)) 0 1439 ∧ rg (ma (4 * i + 2)) (-1000000) 1000000 ∧ rg (ma (4 * i + 3)) 0 10000
def R_heights (l : Int32) (a : Nat → Int32) (ml : Int32) (lo hi at_ : Nat → Int32) : Prop := ∃ c : Nat, c ≤ 24 ∧ l = nI c ∧ ml = nI c ∧ ∀ i, i < c → a (3 * i) = lo i ∧ a (3 * i + 1) = hi i ∧ a (3 * i + 2) = at_ i ∧ rg (lo i) 0 100000 ∧ rg (hi i) 0 100000 ∧ (lo i).toInt ≤ (hi i).toInt ∧ rg (at_ i) (-10000) 10000
def R_pairs (l : Int32) (a : Nat → Int32) (ml : Int32) (ma : Nat → Int32) : Prop := ∃ c : Nat, c ≤ 40 ∧ l = nI c ∧ ml = nI c ∧ (∀ k, k < 3 * c → a k = ma k) ∧ ∀ i, i < c → rg (ma (3 * i)) 0 5 ∧ rg (ma (3 * i + 1)) 0 5 ∧ ma (3 * i) ≠ ma (3 * i + 1) ∧ rg (ma (3 * i + 2)) (-2000) 2000
def R_rows (l : Int32) (a : Nat → Int32) (ml : Int32) (ma : Nat → Int32) : Prop := ∃ c : Nat, c ≤ 200 ∧ l = nI c ∧ ml = nI c ∧ (∀ k, k < 4 * c → a k = ma k) ∧ ∀ i, i < c → rg (ma (4 * i)) 0 7 ∧ rg (ma (4 * i + 1)) 0 23 ∧ rg (ma (4 * i + 2)) 0 7 ∧ rg (ma (4 * i + 3)) (-1) 100000
def R_notes (l : Int32) (a : Nat → Int32) (ml : Int32) (ma : Nat → Int32) : Prop := ∃ c : Nat, c ≤ 100 ∧ l = nI c ∧ ml = nI c ∧ (∀ k, k < 2 * c → a k = ma k) ∧ ∀ i, i < c → rg (ma (2 * i)) 0 7 ∧ rg (ma (2 * i + 1)) 0 7 ∧ ma (2 * i) ≠ ma (2 * i + 1)
/-! the start -/
theorem R_set_0 : R_set 1000 5 100 20000 50 100 1000 5 100 20000 50 100 := by
  refine ⟨rfl, rfl, rfl, rfl, rfl, rfl, ?_, ?_, ?_, ?_, ?_, ?_, ?_⟩ <;> first | exact ⟨by decide, by decide⟩ | decide
theorem R_frac_0 : R_frac 0 1 0 1 := ⟨rfl, rfl, by decide⟩
theorem R_edges_0 (f g h i j : Nat → Int32) (h0 : h 0 = 0) (h1 : h 1 = 0) : R_edges 0 f 0 g h i j := ⟨0, 0, by decide, by decide, rfl, rfl, h0, h1, fun i q => absurd q (Nat.not_lt_zero i), fun i q => absurd q (Nat.not_lt_zero i)⟩
theorem R_layers_0 (f g : Nat → Int32) : R_layers 0 f 0 g := ⟨0, by decide, rfl, rfl, fun i q => absurd q (Nat.not_lt_zero i)⟩
theorem R_sights_0 (f g : Nat → Int32) : R_sights 0 f 0 g := ⟨0, by decide, rfl, rfl, fun i q => absurd q (by omega), fun i q => absurd q (Nat.not_lt_zero i)⟩
theorem R_shadows_0 (f g : Nat → Int32) : R_shadows 0 f 0 g := ⟨0, by decide, rfl, rfl, fun i q => absurd q (by omega), fun i q => absurd q (Nat.not_lt_zero i)⟩
theorem R_heights_0 (f g h i : Nat → Int32) : R_heights 0 f 0 g h i := ⟨0, by decide, rfl, rfl, fun i q => absurd q (Nat.not_lt_zero i)⟩
theorem R_pairs_0 (f g : Nat → Int32) : R_pairs 0 f 0 g := ⟨0, by decide, rfl, rfl, fun i q => absurd q (by omega), fun i q => absurd q (Nat.not_lt_zero i)⟩
theorem R_rows_0 (f g : Nat → Int32) : R_rows 0 f 0 g := ⟨0, by decide, rfl, rfl, fun i q => absurd q (by omega), fun i q => absurd q (Nat.not_lt_zero i)⟩
theorem R_notes_0 (f g : Nat → Int32) : R_notes 0 f 0 g := ⟨0, by decide, rfl, rfl, fun i q => absurd q (by omega), fun i q => absurd q (Nat.not_lt_zero i)⟩
/-! base, rules, part, balloon -/
theorem base_ok (x1 x2 : Int32) {xb xs xl xh xu xa mb ms ml mh mu ma : Int32} (h : R_set xb xs xl xh xu xa mb ms ml mh mu ma) : ∃ r b' s' b2 s2, fX9_base x1 x2 xb xs = some (r, b', s') ∧ fX10_base x1 x2 mb ms = some (r, b2, s2) ∧ R_set b' s' xl xh xu xa b2 s2 ml mh mu ma := by
  unfold fX9_base fX10_base
  simp only [isWithin_eq, in_eq, ob_s, bv_d]
  cases h1 : wi x1 10 100000 with
  | false => exact ⟨_, _, _, _, _, rfl, rfl, h⟩
  | true =>
    cases h2 : wi x2 0 1000 with
    | false => exact ⟨_, _, _, _, _, rfl, rfl, h⟩
    | true =>
      obtain ⟨e1, e2, e3, e4, e5, e6, q1, q2, q3⟩ := h
      exact ⟨_, _, _, _, _, rfl, rfl, rfl, rfl, e3, e4, e5, e6, wi_lit h1 (by decide) (by decide), wi_lit h2 (by decide) (by decide), q3⟩
theorem rules_ok (x1 x2 x3 x4 : Int32) {xb xs xl xh xu xa mb ms ml mh mu ma : Int32} (h : R_set xb xs xl xh xu xa mb ms ml mh mu ma) : ∃ r l' h' u' a' l2 h2 u2 a2, fX9_rules x1 x2 x3 x4 xl xh xu xa = some (r, l', h', u', a') ∧ fX10_rules x1 x2 x3 x4 ml mh mu ma = some (r, l2, h2, u2, a2) ∧ R_set xb xs l' h' u' a' mb ms l2 h2 u2 a2 := by
  unfold fX9_rules fX10_rules
  simp only [isWithin_eq, in_eq, ob_s, bv_d]
  cases h1 : wi x1 1 100000 with
  | false => exact ⟨_, _, _, _, _, _, _, _, _, rfl, rfl, h⟩
  | true =>
    cases h2 : wi x2 x1 100000 with
    | false => exact ⟨_, _, _, _, _, _, _, _, _, rfl, rfl, h⟩
    | true =>
      cases h3 : wi x3 0 1000 with
      | false => exact ⟨_, _, _, _, _, _, _, _, _, rfl, rfl, h⟩
      | true =>
        cases h4 : wi x4 0 1000 with
        | false => exact ⟨_, _, _, _, _, _, _, _, _, rfl, rfl, h⟩
        | true =>
          obtain ⟨e1, e2, e3, e4, e5, e6, q1, q2, q3⟩ := h
          have r1 : rg x1 1 100000 := wi_lit h1 (by decide) (by decide)
          have r2 : rg x2 x1.toInt 100000 := wi_lit h2 rfl (by decide)
          exact ⟨_, _, _, _, _, _, _, _, _, rfl, rfl, e1, e2, rfl, rfl, rfl, rfl, q1, q2, r1, ⟨Int.le_trans r1.1 r2.1, r2.2⟩, r2.1, wi_lit h3 (by decide) (by decide), wi_lit h4 (by decide) (by decide)⟩
theorem part_ok (x1 : Int32) {xa xb ma mb : Int64} (h : R_frac xa xb ma mb) : ∃ r, fX9_part x1 xa xb = some r ∧ fX10_part x1 ma mb = some r := by
  obtain ⟨rfl, rfl, -⟩ := h
  unfold fX9_part fX10_part
  by_cases h1 : x1 = 0
  · simp only [h1, if_true]; exact ⟨_, rfl, rfl⟩
  · by_cases h2 : x1 = 1
    · simp only [h1, h2, if_false, if_true]; exact ⟨_, rfl, rfl⟩
    · simp only [h1, h2, if_false]; exact ⟨_, rfl, rfl⟩
theorem balloon_ok (x1 x2 x3 x4 : Int32) : ∃ r, fX9_balloon x1 x2 x3 x4 = some r ∧ fX10_balloon x1 x2 x3 x4 = some r := by
  unfold fX9_balloon fX10_balloon
  simp only [isWithin_eq, in_eq, ob_s, bv_d]
  cases h1 : wi x1 1 1000 with
  | false => exact ⟨_, rfl, rfl⟩
  | true =>
    cases h2 : wi x2 0 (x1 - 1) with
    | false => exact ⟨_, rfl, rfl⟩
    | true =>
      cases h3 : wi x3 1 1000 with
      | false => exact ⟨_, rfl, rfl⟩
      | true =>
        cases h4 : wi x4 0 1 with
        | false => exact ⟨_, rfl, rfl⟩
        | true =>
          by_cases h5 : x4 = 0
          · subst h5; exact ⟨_, rfl, rfl⟩
          · have e : ∀ (a b : Option Int32), (if x4 = 0 then a else b) = b := fun a b => if_neg h5
            rw [e]
            exact ⟨_, rfl, rfl⟩
/-! floor -/
theorem floor_ok {xa xb ma mb : Int64} (h : R_frac xa xb ma mb) : ∃ r, fX9_floor xa xb = some r ∧ fX10_floor ma mb = some r := by
  obtain ⟨rfl, rfl, hp⟩ := h
  have hne : ¬ mb = 0 := by
    intro q; rw [q] at hp; exact absurd hp (by decide)
  have h0 : ¬ lg_cmp mb 0 = 0 := fun q => hne ((lc_eq _ _).mp q)
  have hsx : (0 ≤ lg_cmp (ma ^^^ mb) 0) ↔ (0 ≤ lg_cmp ma 0) := by
    rw [lc_ge, lc_ge, Int64.le_iff_toInt_le, Int64.le_iff_toInt_le]
    have hz : (0 : Int64).toInt = 0 := by decide
    rw [hz]
    have e1 : (ma ^^^ mb).toInt = (ma.toBitVec ^^^ mb.toBitVec).toInt := rfl
    have m1 := @BitVec.msb_eq_toInt 64 (ma.toBitVec ^^^ mb.toBitVec)
    have m2 := @BitVec.msb_eq_toInt 64 ma.toBitVec
    have m3 := @BitVec.msb_eq_toInt 64 mb.toBitVec
    rw [BitVec.msb_xor] at m1
    have e2 : ma.toInt = ma.toBitVec.toInt := rfl
    have e3 : mb.toInt = mb.toBitVec.toInt := rfl
    rw [e1, e2]
    rw [e3] at hp
    rw [m2, m3, decide_eq_false (show ¬ mb.toBitVec.toInt < 0 by omega)] at m1
    simp only [Bool.xor_false, decide_eq_decide] at m1
    omega
  unfold fX9_floor fX1_cutDown fJ9_floorDiv_f86c9 fX10_floor
  rw [if_neg h0, decide_eq_true hne]
  simp only [gd_t, bv_d]
  by_cases c1 : 0 ≤ lg_cmp ma 0
  · rw [if_pos (hsx.mpr c1), if_pos c1]; exact ⟨_, rfl, rfl⟩
  · rw [if_neg (fun q => c1 (hsx.mp q)), if_neg c1]
    by_cases c2 : lg_cmp (ma / mb * mb) ma = 0
    · rw [if_pos c2]; exact ⟨_, rfl, rfl⟩
    · rw [if_neg c2]; exact ⟨_, rfl, rfl⟩
