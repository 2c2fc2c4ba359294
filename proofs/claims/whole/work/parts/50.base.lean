/-! pure side: numbers, tables, simple calls -/
theorem ob_s {α δ : Type} (a : α) (f : α → Option δ) : ob (some a) f = f a := rfl
theorem ob2_s {α β δ : Type} (a : α) (b : β) (f : α → β → Option δ) : ob2 (some (a, b)) f = f a b := rfl
theorem ob3_s {α β γ δ : Type} (a : α) (b : β) (c : γ) (f : α → β → γ → Option δ) : ob3 (some (a, b, c)) f = f a b c := rfl
theorem ob4_s {α β γ ε δ : Type} (a : α) (b : β) (c : γ) (d : ε) (f : α → β → γ → ε → Option δ) : ob4 (some (a, b, c, d)) f = f a b c d := rfl
theorem gd_t {α : Type} (x : Option α) : gd true x = x := rfl
theorem bv_d {α β : Type} (a : α) (f : α → β) : bv a f = f a := rfl
def iI (z : Int) : Int32 := Int32.ofInt z
def jI (z : Int) : Int64 := Int64.ofInt z
theorem iI_toInt {z : Int} (h1 : -2147483648 ≤ z) (h2 : z ≤ 2147483647) : (iI z).toInt = z := Int32.toInt_ofInt_of_le (by omega) (by omega)
theorem jI_toInt {z : Int} (h1 : -9223372036854775808 ≤ z) (h2 : z ≤ 9223372036854775807) : (jI z).toInt = z := Int64.toInt_ofInt_of_le (by omega) (by omega)
theorem iI_of (x : Int32) : iI x.toInt = x := Int32.ofInt_toInt x
theorem jI_of (x : Int64) : jI x.toInt = x := Int64.ofInt_toInt x
theorem iI_add (a b : Int) : iI a + iI b = iI (a + b) := (Int32.ofInt_add a b).symm
theorem iI_sub (a b : Int) : iI a - iI b = iI (a - b) := (Int32.ofInt_sub a b).symm
theorem iI_mul (a b : Int) : iI a * iI b = iI (a * b) := (Int32.ofInt_mul a b).symm
theorem iI_neg (a : Int) : -iI a = iI (-a) := (Int32.ofInt_neg a).symm
theorem jI_add (a b : Int) : jI a + jI b = jI (a + b) := (Int64.ofInt_add a b).symm
theorem jI_sub (a b : Int) : jI a - jI b = jI (a - b) := (Int64.ofInt_sub a b).symm
theorem jI_mul (a b : Int) : jI a * jI b = jI (a * b) := (Int64.ofInt_mul a b).symm
theorem jI_neg (a : Int) : -jI a = jI (-a) := (Int64.ofInt_neg a).symm
theorem nI_i (n : Nat) : nI n = iI (n : Int) := Int32.ofInt_eq_ofNat.symm
theorem iI_nat {z : Int} (h : 0 ≤ z) : iI z = nI z.toNat := by rw [nI_i, Int.toNat_of_nonneg h]
theorem iI_lt {a b : Int} (h1 : -2147483648 ≤ a) (h2 : a ≤ 2147483647) (h3 : -2147483648 ≤ b) (h4 : b ≤ 2147483647) : iI a < iI b ↔ a < b := by
  rw [Int32.lt_iff_toInt_lt, iI_toInt h1 h2, iI_toInt h3 h4]
theorem iI_le {a b : Int} (h1 : -2147483648 ≤ a) (h2 : a ≤ 2147483647) (h3 : -2147483648 ≤ b) (h4 : b ≤ 2147483647) : iI a ≤ iI b ↔ a ≤ b := by
  rw [Int32.le_iff_toInt_le, iI_toInt h1 h2, iI_toInt h3 h4]
theorem iI_eq {a b : Int} (h1 : -2147483648 ≤ a) (h2 : a ≤ 2147483647) (h3 : -2147483648 ≤ b) (h4 : b ≤ 2147483647) : iI a = iI b ↔ a = b := by
  rw [← Int32.toInt_inj, iI_toInt h1 h2, iI_toInt h3 h4]
theorem jI_lt {a b : Int} (h1 : -9223372036854775808 ≤ a) (h2 : a ≤ 9223372036854775807) (h3 : -9223372036854775808 ≤ b) (h4 : b ≤ 9223372036854775807) : jI a < jI b ↔ a < b := by
  rw [Int64.lt_iff_toInt_lt, jI_toInt h1 h2, jI_toInt h3 h4]
theorem jI_le {a b : Int} (h1 : -9223372036854775808 ≤ a) (h2 : a ≤ 9223372036854775807) (h3 : -9223372036854775808 ≤ b) (h4 : b ≤ 9223372036854775807) : jI a ≤ jI b ↔ a ≤ b := by
  rw [Int64.le_iff_toInt_le, jI_toInt h1 h2, jI_toInt h3 h4]
theorem jI_eq {a b : Int} (h1 : -9223372036854775808 ≤ a) (h2 : a ≤ 9223372036854775807) (h3 : -9223372036854775808 ≤ b) (h4 : b ≤ 9223372036854775807) : jI a = jI b ↔ a = b := by
  rw [← Int64.toInt_inj, jI_toInt h1 h2, jI_toInt h3 h4]
theorem iI_l {z : Int} (h1 : -2147483648 ≤ z) (h2 : z ≤ 2147483647) : (iI z).toInt64 = jI z := by
  rw [← Int64.toInt_inj, Int32.toInt_toInt64, iI_toInt h1 h2, jI_toInt (by omega) (by omega)]
theorem jI_i {z : Int} (h1 : -2147483648 ≤ z) (h2 : z ≤ 2147483647) : (jI z).toInt32 = iI z := by
  rw [← Int32.toInt_inj, Int64.toInt_toInt32, iI_toInt h1 h2, jI_toInt (by omega) (by omega)]
  exact Int.bmod_eq_of_le (by omega) (by omega)
theorem lc_gt (x y : Int64) : (0 < lg_cmp x y) ↔ y < x := by
  unfold lg_cmp
  by_cases h : x > y
  · rw [if_pos h]; exact ⟨fun _ => h, fun _ => by decide⟩
  · rw [if_neg h]
    by_cases h2 : x = y
    · rw [if_pos h2]; exact ⟨fun q => absurd q (by decide), fun q => absurd q h⟩
    · rw [if_neg h2]; exact ⟨fun q => absurd q (by decide), fun q => absurd q h⟩
theorem lc_eq (x y : Int64) : (lg_cmp x y = 0) ↔ x = y := by
  unfold lg_cmp
  by_cases h : x > y
  · rw [if_pos h]
    refine ⟨fun q => absurd q (by decide), fun q => ?_⟩
    subst q
    exact absurd (Int64.lt_iff_toInt_lt.mp h) (by omega)
  · rw [if_neg h]
    by_cases h2 : x = y
    · rw [if_pos h2]; exact ⟨fun _ => h2, fun _ => rfl⟩
    · rw [if_neg h2]; exact ⟨fun q => absurd q (by decide), fun q => absurd q h2⟩
theorem lc_lt (x y : Int64) : (lg_cmp x y < 0) ↔ x < y := by
  unfold lg_cmp
  by_cases h : x > y
  · rw [if_pos h]
    refine ⟨fun q => absurd q (by decide), fun q => ?_⟩
    have h1 := Int64.lt_iff_toInt_lt.mp h
    have h2 := Int64.lt_iff_toInt_lt.mp q
    omega
  · rw [if_neg h]
    by_cases h2 : x = y
    · rw [if_pos h2]
      refine ⟨fun q => absurd q (by decide), fun q => ?_⟩
      subst h2
      exact absurd (Int64.lt_iff_toInt_lt.mp q) (by omega)
    · rw [if_neg h2]
      refine ⟨fun _ => ?_, fun _ => by decide⟩
      rw [Int64.lt_iff_toInt_lt]
      have h3 : ¬ y.toInt < x.toInt := fun q => h (Int64.lt_iff_toInt_lt.mpr q)
      have h4 : ¬ x.toInt = y.toInt := fun q => h2 (Int64.toInt_inj.mp q)
      omega
theorem lc_ge (x y : Int64) : (0 ≤ lg_cmp x y) ↔ y ≤ x := lg_cmp_ge x y
theorem lc_le (x y : Int64) : (lg_cmp x y ≤ 0) ↔ x ≤ y := by
  rw [← Int32.not_lt, lc_gt, Int64.not_lt]
/-- whether a number lies from lo to hi -/
def wi (x lo hi : Int32) : Bool := decide (lo ≤ x) && decide (x ≤ hi)
theorem isWithin_eq (x lo hi : Int32) : fX9_isWithin x lo hi = some (wi x lo hi) := by
  unfold fX9_isWithin wi
  by_cases h1 : x < lo
  · rw [if_pos h1, decide_eq_false (Int32.not_le.mpr h1)]; rfl
  · rw [if_neg h1, decide_eq_true (Int32.not_lt.mp h1)]
    by_cases h2 : hi < x
    · rw [if_pos h2, decide_eq_false (Int32.not_le.mpr h2)]; rfl
    · rw [if_neg h2, decide_eq_true (Int32.not_lt.mp h2)]; rfl
theorem in_eq (x lo hi : Int32) : fX10_in x lo hi = some (wi x lo hi) := isWithin_eq x lo hi
theorem isLean_eq (x : Int32) : fX9_isLean x = some (wi x (-20000) 20000) := by unfold fX9_isLean; rw [isWithin_eq]; rfl
theorem isLeanM_eq (x : Int32) : fX10_isLean x = some (wi x (-20000) 20000) := by unfold fX10_isLean; rw [in_eq]; rfl
theorem isForm_eq (x : Int32) : fX9_isForm x = some (wi x 0 7) := by unfold fX9_isForm; rw [isWithin_eq]; rfl
def rg (x : Int32) (lo hi : Int) : Prop := lo ≤ x.toInt ∧ x.toInt ≤ hi
theorem wi_rg {x lo hi : Int32} (h : wi x lo hi = true) : rg x lo.toInt hi.toInt := by
  simp only [wi, Bool.and_eq_true, decide_eq_true_eq] at h
  exact ⟨Int32.le_iff_toInt_le.mp h.1, Int32.le_iff_toInt_le.mp h.2⟩
theorem wi_lit {x lo hi : Int32} {a b : Int} (h : wi x lo hi = true) (ha : lo.toInt = a) (hb : hi.toInt = b) : rg x a b := by
  subst ha; subst hb; exact wi_rg h
theorem wi_of {x lo hi : Int32} (h : rg x lo.toInt hi.toInt) : wi x lo hi = true := by
  simp only [wi, Bool.and_eq_true, decide_eq_true_eq]
  exact ⟨Int32.le_iff_toInt_le.mpr h.1, Int32.le_iff_toInt_le.mpr h.2⟩
theorem rg_i {x : Int32} {lo hi : Int} (h : rg x lo hi) : ∃ z, lo ≤ z ∧ z ≤ hi ∧ x = iI z := ⟨x.toInt, h.1, h.2, (iI_of x).symm⟩
theorem rg_n {x : Int32} {lo : Int} {hi : Nat} (h : rg x lo hi) (h0 : 0 ≤ lo) : ∃ j : Nat, lo ≤ j ∧ j ≤ hi ∧ x = nI j := by
  refine ⟨x.toInt.toNat, ?_, ?_, ?_⟩
  · have := h.1; omega
  · have := h.2; have := h.1; omega
  · rw [← iI_nat (Int.le_trans h0 h.1)]; exact (iI_of x).symm
theorem upd_e (f : Nat → Int32) (k : Nat) (x : Int32) (j : Nat) : upd f k x j = if j = k then x else f j := rfl
theorem updL_e (f : Nat → Int64) (k : Nat) (x : Int64) (j : Nat) : vp_updL f k x j = if j = k then x else f j := rfl
/-! tables -/
theorem tput {w K c j : Nat} (hw : w ≤ 4) (hK : K ≤ 200) (hc : c < K) (hj : j < 4) (x : Int32) (f : Nat → Int32) : fX7_put (nI j) x (nI w) (nI c) (w * K) f = some (if j < w then upd f (w * c + j) x else f) := by
  unfold fX7_put
  have hidx : nI c * nI w + nI j = nI (w * c + j) := by rw [pk_mul, nI_add, Nat.mul_comm]
  simp only [bv_d, hidx]
  have hb : w * K ≤ 800 := by have := Nat.mul_le_mul hw hK; omega
  by_cases h : j < w
  · have h1 : ¬ nI w ≤ nI j := nI_ge h (by omega)
    have hlt : w * c + j < w * K := by
      have : w * c + w ≤ w * K := by rw [← Nat.mul_succ]; exact Nat.mul_le_mul_left w hc
      omega
    have h3 : ¬ Int32.ofNat (w * K) ≤ nI (w * c + j) := nI_ge hlt (by omega)
    rw [if_neg h1, if_neg (nI_pos (by omega)), if_neg h3, in_bnd (vp_in_nI hlt (by omega)), gd_t, nI_clamp (by omega), if_pos h]
  · rw [if_pos (nI_le (by omega) (by omega)), if_neg h]
theorem tadd {w K c : Nat} (hw : w ≤ 4) (hK : K ≤ 200) (hc : c < K) (f : Nat → Int32) (a b d e : Int32) : ∃ f' : Nat → Int32, fX7_add a b d e (nI w) (nI K) (nI c) (w * K) f = some (nI (c + 1), nI (c + 1), f') ∧ (∀ k, k < w * c → f' k = f k) ∧ (0 < w → f' (w * c) = a) ∧ (1 < w → f' (w * c + 1) = b) ∧ (2 < w → f' (w * c + 2) = d) ∧ (3 < w → f' (w * c + 3) = e) := by
  refine ⟨(fun f3 => if 3 < w then upd f3 (w * c + 3) e else f3) ((fun f2 => if 2 < w then upd f2 (w * c + 2) d else f2) ((fun f1 => if 1 < w then upd f1 (w * c + 1) b else f1) (if 0 < w then upd f (w * c + 0) a else f))), ?_, ?_, ?_, ?_, ?_, ?_⟩
  · unfold fX7_add
    rw [if_pos (nI_lt hc (by omega))]
    rw [show (0 : Int32) = nI 0 from rfl, tput hw hK hc (by omega), ob_s, show (1 : Int32) = nI 1 from rfl, tput hw hK hc (by omega), ob_s, show (2 : Int32) = nI 2 from rfl, tput hw hK hc (by omega), ob_s, show (3 : Int32) = nI 3 from rfl, tput hw hK hc (by omega), ob_s, bv_d]
    rw [show nI c + nI 1 = nI (c + 1) from nI_add c 1]
  · intro k hk
    by_cases h0 : 0 < w <;> by_cases h1 : 1 < w <;> by_cases h2 : 2 < w <;> by_cases h3 : 3 < w <;> first | (exfalso; omega) | (simp only [h0, h1, h2, h3, if_true, if_false, upd_e] <;> (repeat rw [if_neg (by omega)]))
  · intro h0
    by_cases h1 : 1 < w <;> by_cases h2 : 2 < w <;> by_cases h3 : 3 < w <;> first | (exfalso; omega) | (simp only [h0, h1, h2, h3, if_true, if_false, upd_e] <;> (repeat rw [if_neg (by omega)]) <;> rw [if_pos (by omega)])
  · intro h1
    by_cases h2 : 2 < w <;> by_cases h3 : 3 < w <;> first | (exfalso; omega) | (simp only [h1, h2, h3, if_true, if_false, upd_e] <;> (repeat rw [if_neg (by omega)]) <;> rw [if_pos (by omega)])
  · intro h2
    by_cases h3 : 3 < w <;> simp only [h2, h3, if_true, if_false, upd_e] <;> (repeat rw [if_neg (by omega)]) <;> rw [if_pos (by omega)]
  · intro h3
    simp only [h3, if_true, upd_e]
theorem tfull {w K : Nat} (hK : K ≤ 200) (n : Nat) (f : Nat → Int32) (a b d e : Int32) : fX7_add a b d e (nI w) (nI K) (nI K) n f = some (-4, nI K, f) := by
  unfold fX7_add
  rw [if_neg (nI_nlt (Nat.le_refl K) (by omega))]
theorem taddN {w K c : Nat} (hw : w ≤ 4) (hK : K ≤ 200) (hc : c < K) (f : Nat → Int32) (a b d e : Int32) : ∃ f' : Nat → Int32, fX7_addNumbered a b d e (nI w) (nI K) (nI c) (w * K) f = some (nI c, nI (c + 1), f') ∧ (∀ k, k < w * c → f' k = f k) ∧ (0 < w → f' (w * c) = a) ∧ (1 < w → f' (w * c + 1) = b) ∧ (2 < w → f' (w * c + 2) = d) ∧ (3 < w → f' (w * c + 3) = e) := by
  obtain ⟨f', h, hr⟩ := tadd hw hK hc f a b d e
  refine ⟨f', ?_, hr⟩
  unfold fX7_addNumbered
  rw [h, ob3_s]
  have h4 : ¬ nI (c + 1) = -4 := by
    intro q
    have q2 := congrArg Int32.toInt q
    rw [nI_toInt (by omega)] at q2
    rw [show (-4 : Int32).toInt = -4 from by decide] at q2
    omega
  rw [if_neg h4, nI_pred]
theorem tfullN {w K : Nat} (hK : K ≤ 200) (n : Nat) (f : Nat → Int32) (a b d e : Int32) : fX7_addNumbered a b d e (nI w) (nI K) (nI K) n f = some (-4, nI K, f) := by
  unfold fX7_addNumbered
  rw [tfull hK, ob3_s, if_pos rfl]
theorem tat {w n i j : Nat} (h : i * w + j < n) (hn : n < 2 ^ 31) (f : Nat → Int32) : fX7_at (nI i) (nI j) (nI w) n f = some (f (i * w + j)) := by
  unfold fX7_at
  have hidx : nI i * nI w + nI j = nI (i * w + j) := by rw [pk_mul, nI_add]
  simp only [bv_d, hidx]
  have h3 : ¬ Int32.ofNat n ≤ nI (i * w + j) := nI_ge h hn
  rw [if_neg (nI_pos (by omega)), if_neg h3, in_bnd (vp_in_nI h hn), gd_t, nI_clamp (by omega)]
theorem tsize (l : Int32) : fX7_size l = some l := rfl
theorem thas (x : Int32) (c : Nat) (hc : c < 2 ^ 31) : fX7_has x (nI c) = some (wi x 0 (nI c - 1)) := by
  unfold fX7_has wi
  by_cases h1 : x < 0
  · rw [if_pos h1, decide_eq_false (Int32.not_le.mpr h1)]; rfl
  · rw [if_neg h1, decide_eq_true (Int32.not_lt.mp h1)]
    obtain ⟨j, hj, rfl⟩ := nI_of h1
    by_cases h2 : nI c ≤ nI j
    · rw [if_pos h2]
      have h3 : c ≤ j := (nI_leI hc hj).mp h2
      have h4 : ¬ nI j ≤ nI c - 1 := by
        rw [nI_i, nI_i, show (1 : Int32) = iI 1 from rfl, iI_sub, iI_le (by omega) (by omega) (by omega) (by omega)]
        omega
      rw [decide_eq_false h4]; rfl
    · rw [if_neg h2]
      have h3 : ¬ c ≤ j := fun q => h2 ((nI_leI hc hj).mpr q)
      have h4 : nI j ≤ nI c - 1 := by
        rw [nI_i, nI_i, show (1 : Int32) = iI 1 from rfl, iI_sub, iI_le (by omega) (by omega) (by omega) (by omega)]
        omega
      rw [decide_eq_true h4]; rfl
