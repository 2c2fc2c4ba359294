/-! bits of a mask -/
def bt (x : Int32) (i : Nat) : Bool := x.toBitVec.getLsbD i
theorem b_ext {x y : Int32} (h : ∀ i, i < 32 → bt x i = bt y i) : x = y := Int32.toBitVec_inj.mp (BitVec.eq_of_getLsbD_eq (fun i hi => h i hi))
theorem b_or (x y : Int32) (i : Nat) : bt (x ||| y) i = (bt x i || bt y i) := by unfold bt; rw [Int32.toBitVec_or, BitVec.getLsbD_or]
theorem b_and (x y : Int32) (i : Nat) : bt (x &&& y) i = (bt x i && bt y i) := by unfold bt; rw [Int32.toBitVec_and, BitVec.getLsbD_and]
theorem b_xor (x y : Int32) (i : Nat) : bt (x ^^^ y) i = (bt x i ^^ bt y i) := by unfold bt; rw [Int32.toBitVec_xor, BitVec.getLsbD_xor]
theorem b_m1 : ∀ i, i < 32 → bt (-1) i = true := by decide +kernel
theorem b_0 (i : Nat) : bt 0 i = false := BitVec.getLsbD_zero
theorem b_1 : ∀ i, i < 32 → bt 1 i = decide (i = 0) := by decide +kernel
theorem b_one : ∀ k, k < 32 → ∀ i, i < 32 → bt ((1 : Int32) <<< (nI k &&& 31)) i = decide (i = k) := by decide +kernel
theorem b_all : ∀ c, c < 25 → ∀ i, i < 32 → bt (((1 : Int32) <<< (nI c &&& 31)) - 1) i = decide (i < c) := by decide +kernel
theorem s_l : ∀ n, n < 32 → ((nI n &&& 31).toBitVec.smod 32).toNat = n := by decide +kernel
theorem b_sshr0 (n : Nat) (hn : n < 32) (x : Int32) : bt (x >>> (nI n &&& 31)) 0 = bt x n := by
  unfold bt
  rw [Int32.toBitVec_shiftRight, BitVec.sshiftRight_eq', s_l n hn, BitVec.getLsbD_sshiftRight]
  have h32 : ¬ 32 ≤ 0 := by decide
  simp [hn]
theorem b_test (n : Nat) (hn : n < 32) (x : Int32) : (x >>> (nI n &&& 31)) &&& 1 = 1 ↔ bt x n = true := by
  rw [← b_sshr0 n hn x]
  generalize x >>> (nI n &&& 31) = y
  constructor
  · intro h
    have h1 := congrArg (fun z => bt z 0) h
    simp only [b_and] at h1
    rw [b_1 0 (by decide)] at h1
    simpa using h1
  · intro h
    refine b_ext (fun i hi => ?_)
    rw [b_and, b_1 i hi]
    by_cases hz : i = 0
    · subst hz; rw [h]; rfl
    · rw [decide_eq_false hz, Bool.and_false]
/-- the mask of those below n that p takes -/
def msk (p : Nat → Bool) : Nat → Int32
  | 0 => 0
  | k + 1 => if p k then msk p k ||| ((1 : Int32) <<< (nI k &&& 31)) else msk p k
theorem b_msk (p : Nat → Bool) : ∀ n, n ≤ 32 → ∀ i, i < 32 → bt (msk p n) i = (decide (i < n) && p i) := by
  intro n
  induction n with
  | zero => intro _ i hi; unfold msk; rw [b_0, decide_eq_false (Nat.not_lt_zero i)]; rfl
  | succ n ih =>
    intro hn i hi
    unfold msk
    by_cases hp : p n = true
    · rw [if_pos hp, b_or, ih (by omega) i hi, b_one n (by omega) i hi]
      by_cases h1 : i = n
      · subst h1; rw [decide_eq_true rfl, decide_eq_true (show i < i + 1 by omega), hp]; simp
      · rw [decide_eq_false h1, Bool.or_false]
        by_cases h2 : i < n
        · rw [decide_eq_true h2, decide_eq_true (show i < n + 1 by omega)]
        · rw [decide_eq_false h2, decide_eq_false (show ¬ i < n + 1 by omega)]
    · rw [if_neg hp, ih (by omega) i hi]
      by_cases h1 : i = n
      · subst h1
        rw [decide_eq_false (show ¬ i < i by omega), decide_eq_true (show i < i + 1 by omega)]
        cases hq : p i with
        | true => exact absurd hq hp
        | false => rfl
      · by_cases h2 : i < n
        · rw [decide_eq_true h2, decide_eq_true (show i < n + 1 by omega)]
        · rw [decide_eq_false h2, decide_eq_false (show ¬ i < n + 1 by omega)]
theorem msk_0 {p : Nat → Bool} {n : Nat} (hn : n ≤ 32) : msk p n = 0 ↔ ∀ i, i < n → p i = false := by
  constructor
  · intro h i hi
    have h1 := b_msk p n hn i (by omega)
    rw [h, b_0, decide_eq_true hi] at h1
    simpa using h1.symm
  · intro h
    refine b_ext (fun i hi => ?_)
    rw [b_msk p n hn i hi, b_0]
    by_cases h2 : i < n
    · rw [h i h2, Bool.and_false]
    · rw [decide_eq_false h2]; rfl
/-! layers: the least high end above a number, and the row of numbers -/
theorem iI_div {a b : Int} (h1 : -2147483647 ≤ a) (h2 : a ≤ 2147483647) (h3 : -2147483648 ≤ b) (h4 : b ≤ 2147483647) : iI a / iI b = iI (a.tdiv b) := by
  refine (Int32.ofInt_tdiv ?_ ?_ ?_ ?_).symm
  · rw [Int32.toInt_minValue]; omega
  · rw [Int32.toInt_maxValue]; omega
  · rw [Int32.toInt_minValue]; omega
  · rw [Int32.toInt_maxValue]; omega
def zf (T : Int) (f at_ : Nat → Int32) (k : Nat) : Int := (f k).toInt - (T * (at_ k).toInt).tdiv 1000
theorem tdiv1000 {z : Int} (h1 : -500000 ≤ z) (h2 : z ≤ 500000) : -500 ≤ z.tdiv 1000 ∧ z.tdiv 1000 ≤ 500 := by
  have e : (z.tdiv 1000).natAbs = z.natAbs / 1000 := by rw [Int.natAbs_tdiv]; rfl
  omega
theorem zf_rg {T : Int} (hT1 : -50 ≤ T) (hT2 : T ≤ 50) {f at_ : Nat → Int32} {k : Nat} (hf : rg (f k) 0 100000) (ha : rg (at_ k) (-10000) 10000) : -500 ≤ zf T f at_ k ∧ zf T f at_ k ≤ 100500 := by
  unfold zf
  have b := mul_bd (a := T) (b := (at_ k).toInt) (M := 50) (N := 10000) (by omega) (by omega) ha.1 ha.2
  have := tdiv1000 (z := T * (at_ k).toInt) (by omega) (by omega)
  have := hf.1; have := hf.2
  omega
theorem zf_eq {T : Int} (hT1 : -50 ≤ T) (hT2 : T ≤ 50) {f at_ : Nat → Int32} {k : Nat} (hf : rg (f k) 0 100000) (ha : rg (at_ k) (-10000) 10000) : f k - iI T * at_ k / 1000 = iI (zf T f at_ k) := by
  unfold zf
  have b := mul_bd (a := T) (b := (at_ k).toInt) (M := 50) (N := 10000) (by omega) (by omega) ha.1 ha.2
  conv => lhs; rw [← iI_of (f k), ← iI_of (at_ k)]
  rw [iI_mul, show (1000 : Int32) = iI 1000 from by decide, iI_div (by omega) (by omega) (by omega) (by omega), iI_sub]
/-- the least high end of the first n spans whose low end is above z -/
def lh (Lz Hz : Nat → Int) (z : Int) : Nat → Int
  | 0 => 1000000
  | k + 1 => if z < Lz k ∧ Hz k < lh Lz Hz z k then Hz k else lh Lz Hz z k
def sq (Lz Hz : Nat → Int) (c : Nat) : Nat → Int
  | 0 => -1000000
  | t + 1 => lh Lz Hz (sq Lz Hz c t) c
def okZ (Lz Hz : Nat → Int) (c : Nat) : Prop := ∀ k, k < c → -1000 ≤ Lz k ∧ Lz k ≤ Hz k ∧ Hz k ≤ 200000
theorem lh_le {Lz Hz : Nat → Int} {z : Int} : ∀ n, lh Lz Hz z n ≤ 1000000 ∧ ∀ k, k < n → z < Lz k → lh Lz Hz z n ≤ Hz k := by
  intro n
  induction n with
  | zero => exact ⟨by unfold lh; omega, fun k hk => absurd hk (Nat.not_lt_zero k)⟩
  | succ n ih =>
    obtain ⟨i1, i2⟩ := ih
    unfold lh
    refine ⟨by split <;> omega, fun k hk hz => ?_⟩
    rcases Nat.lt_or_ge k n with q | q
    · have := i2 k q hz
      split <;> omega
    · have : k = n := by omega
      subst this
      split <;> omega
theorem lh_at {Lz Hz : Nat → Int} {z : Int} : ∀ n, lh Lz Hz z n = 1000000 ∨ ∃ k, k < n ∧ z < Lz k ∧ lh Lz Hz z n = Hz k := by
  intro n
  induction n with
  | zero => exact Or.inl rfl
  | succ n ih =>
    unfold lh
    by_cases h : z < Lz n ∧ Hz n < lh Lz Hz z n
    · rw [if_pos h]; exact Or.inr ⟨n, by omega, h.1, rfl⟩
    · rw [if_neg h]
      rcases ih with q | ⟨k, q1, q2, q3⟩
      · exact Or.inl q
      · exact Or.inr ⟨k, by omega, q2, q3⟩
theorem lh_none {Lz Hz : Nat → Int} {z : Int} {c : Nat} (hz : okZ Lz Hz c) : lh Lz Hz z c = 1000000 ↔ ∀ k, k < c → ¬ z < Lz k := by
  constructor
  · intro h k hk q
    have := (lh_le (Lz := Lz) (Hz := Hz) (z := z) c).2 k hk q
    have := (hz k hk).2.2
    omega
  · intro h
    rcases lh_at (Lz := Lz) (Hz := Hz) (z := z) c with q | ⟨k, q1, q2, -⟩
    · exact q
    · exact absurd q2 (h k q1)
theorem lh_gt {Lz Hz : Nat → Int} {z : Int} {c : Nat} (hz : okZ Lz Hz c) (h : lh Lz Hz z c ≠ 1000000) : z < lh Lz Hz z c ∧ -1000 ≤ lh Lz Hz z c ∧ lh Lz Hz z c ≤ 200000 ∧ ∃ k, k < c ∧ z < Lz k ∧ Lz k ≤ lh Lz Hz z c := by
  rcases lh_at (Lz := Lz) (Hz := Hz) (z := z) c with q | ⟨k, q1, q2, q3⟩
  · exact absurd q h
  · have := hz k q1
    exact ⟨by omega, by omega, by omega, k, q1, q2, by omega⟩
/-- how many spans have their low end above z -/
def cu (Lz : Nat → Int) (z : Int) : Nat → Nat
  | 0 => 0
  | k + 1 => if z < Lz k then cu Lz z k + 1 else cu Lz z k
theorem cu_le {Lz : Nat → Int} {z : Int} : ∀ n, cu Lz z n ≤ n := by
  intro n
  induction n with
  | zero => exact Nat.le_refl 0
  | succ n ih => unfold cu; split <;> omega
theorem cu_mono {Lz : Nat → Int} {z z' : Int} (h : z ≤ z') : ∀ n, cu Lz z' n ≤ cu Lz z n := by
  intro n
  induction n with
  | zero => exact Nat.le_refl 0
  | succ n ih => unfold cu; split <;> split <;> omega
theorem cu_lt {Lz : Nat → Int} {z z' : Int} (h : z ≤ z') : ∀ n k, k < n → z < Lz k → Lz k ≤ z' → cu Lz z' n < cu Lz z n := by
  intro n
  induction n with
  | zero => intro k hk; exact absurd hk (Nat.not_lt_zero k)
  | succ n ih =>
    intro k hk h1 h2
    have hm := cu_mono (Lz := Lz) h n
    unfold cu
    rcases Nat.lt_or_ge k n with q | q
    · have := ih k q h1 h2
      split <;> split <;> omega
    · have : k = n := by omega
      subst this
      rw [if_neg (by omega), if_pos h1]
      omega
/-- the row of numbers ends after no more steps than spans -/
theorem sq_ends {Lz Hz : Nat → Int} {c : Nat} (hz : okZ Lz Hz c) : ∃ N, N ≤ c ∧ lh Lz Hz (sq Lz Hz c N) c = 1000000 ∧ ∀ t, t < N → lh Lz Hz (sq Lz Hz c t) c ≠ 1000000 := by
  have key : ∀ t, (∀ u, u < t → lh Lz Hz (sq Lz Hz c u) c ≠ 1000000) → cu Lz (sq Lz Hz c t) c + t ≤ c := by
    intro t
    induction t with
    | zero => intro _; have := cu_le (Lz := Lz) (z := sq Lz Hz c 0) c; omega
    | succ t ih =>
      intro h
      have h1 := ih (fun u hu => h u (by omega))
      obtain ⟨g1, -, -, k, hk, hk1, hk2⟩ := lh_gt hz (h t (by omega))
      have h2 := cu_lt (Lz := Lz) (z := sq Lz Hz c t) (z' := lh Lz Hz (sq Lz Hz c t) c) (by omega) c k hk hk1 hk2
      have e : sq Lz Hz c (t + 1) = lh Lz Hz (sq Lz Hz c t) c := rfl
      rw [e]
      omega
  have hex : ∃ N, lh Lz Hz (sq Lz Hz c N) c = 1000000 := by
    rcases Classical.em (∃ N, lh Lz Hz (sq Lz Hz c N) c = 1000000) with q | q
    · exact q
    · have := key (c + 1) (fun u _ e => q ⟨u, e⟩)
      omega
  obtain ⟨N, h1, h2⟩ := pk_least (fun N => lh Lz Hz (sq Lz Hz c N) c = 1000000) hex
  exact ⟨N, by have := key N h2; omega, h1, h2⟩
