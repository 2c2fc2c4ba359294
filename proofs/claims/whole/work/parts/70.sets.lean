/-! sets of eight as numbers; least of a row; longs -/
def tb (s j : Nat) : Bool := decide (s / 2 ^ j % 2 = 1)
def pcn (s : Nat) : Nat := s % 2 + s / 2 % 2 + s / 4 % 2 + s / 8 % 2 + s / 16 % 2 + s / 32 % 2 + s / 64 % 2 + s / 128 % 2
theorem z_and : ∀ s, s < 256 → ∀ j, j < 8 → decide (nI s &&& ((1 : Int32) <<< (nI j &&& 31)) = 0) = !tb s j := by decide +kernel
theorem z_xor : ∀ s, s < 256 → ∀ j, j < 8 → tb s j = true → nI s ^^^ ((1 : Int32) <<< (nI j &&& 31)) = nI (s - 2 ^ j) := by decide +kernel
theorem z_or : ∀ s, s < 256 → ∀ j, j < 8 → tb s j = false → nI s ||| ((1 : Int32) <<< (nI j &&& 31)) = nI (s + 2 ^ j) := by decide +kernel
theorem z_shr : ∀ s, s < 256 → ∀ j, j < 8 → (nI s >>> (nI j &&& 31)) &&& 1 = if tb s j then 1 else 0 := by decide +kernel
theorem z_cut : ∀ s, s < 256 → ∀ j, j < 8 → nI s &&& (((1 : Int32) <<< (nI j &&& 31)) ^^^ (-1)) = if tb s j then nI (s - 2 ^ j) else nI s := by decide +kernel
theorem z_cnt : ∀ s, s < 256 → fJ6_bitCount_0f7a4 (nI s) = some (nI (pcn s)) := by decide +kernel
theorem z_one : ∀ n, n < 9 → (1 : Int32) <<< (nI n &&& 31) = nI (2 ^ n) := by decide +kernel
theorem y_add : ∀ s, s < 256 → ∀ j, j < 8 → tb s j = false → s + 2 ^ j < 256 ∧ tb (s + 2 ^ j) j = true ∧ pcn (s + 2 ^ j) = pcn s + 1 := by decide +kernel
theorem y_sub : ∀ s, s < 256 → ∀ j, j < 8 → tb s j = true → 2 ^ j ≤ s ∧ tb (s - 2 ^ j) j = false ∧ pcn s = pcn (s - 2 ^ j) + 1 := by decide +kernel
theorem y_lim : ∀ n, n < 9 → ∀ s, s < 2 ^ n → ∀ j, j < n → tb s j = false → s + 2 ^ j < 2 ^ n := by decide +kernel
theorem y_oth : ∀ s, s < 256 → ∀ j, j < 8 → tb s j = false → ∀ a, a < 8 → tb (s + 2 ^ j) a = (tb s a || decide (a = j)) := by decide +kernel
theorem y_pc : ∀ n, n < 9 → ∀ s, s < 2 ^ n → pcn s ≤ n := by decide +kernel
theorem y_255 : ∀ a, a < 8 → tb 255 a = true := by decide +kernel
theorem y_0 : ∀ a, a < 8 → tb 0 a = false := by decide +kernel
theorem y_pc8 : ∀ s, s < 256 → pcn s = 8 → s = 255 := by decide +kernel
theorem y_pc0 : ∀ s, s < 256 → pcn s = 0 → s = 0 := by decide +kernel
theorem y_free : ∀ s, s < 256 → pcn s < 8 → ∃ d, d < 8 ∧ tb s d = false := by decide +kernel
theorem y_has : ∀ s, s < 256 → s ≠ 0 → ∃ d, d < 8 ∧ tb s d = true := by decide +kernel
theorem y_pw : ∀ j, j < 8 → 0 < 2 ^ j ∧ 2 ^ j ≤ 128 := by decide +kernel
theorem y_pn : ∀ n, n < 9 → 0 < 2 ^ n ∧ 2 ^ n ≤ 256 := by decide +kernel
theorem z_and0 {s j : Nat} (hs : s < 256) (hj : j < 8) (h : tb s j = false) : nI s &&& ((1 : Int32) <<< (nI j &&& 31)) = 0 := by
  have q := z_and s hs j hj
  rw [h] at q
  exact of_decide_eq_true q
theorem z_and1 {s j : Nat} (hs : s < 256) (hj : j < 8) (h : tb s j = true) : ¬ nI s &&& ((1 : Int32) <<< (nI j &&& 31)) = 0 := by
  have q := z_and s hs j hj
  rw [h] at q
  exact of_decide_eq_false q
theorem z_shr0 {s j : Nat} (hs : s < 256) (hj : j < 8) (h : tb s j = false) : (nI s >>> (nI j &&& 31)) &&& 1 = 0 := by
  rw [z_shr s hs j hj, h]; rfl
theorem z_shr1 {s j : Nat} (hs : s < 256) (hj : j < 8) (h : tb s j = true) : (nI s >>> (nI j &&& 31)) &&& 1 = 1 := by
  rw [z_shr s hs j hj, h]; rfl
/-- the least of v and of what f says below n -/
def fm (f : Nat → Option Nat) (v : Nat) : Nat → Nat
  | 0 => v
  | j + 1 => match f j with
    | none => fm f v j
    | some c => if c < fm f v j then c else fm f v j
theorem fm_n {f : Nat → Option Nat} {v j : Nat} (h : f j = none) : fm f v (j + 1) = fm f v j := by simp only [fm, h]
theorem fm_s {f : Nat → Option Nat} {v j c : Nat} (h : f j = some c) : fm f v (j + 1) = if c < fm f v j then c else fm f v j := by simp only [fm, h]
theorem fm_step (f : Nat → Option Nat) (v j : Nat) : fm f v (j + 1) ≤ fm f v j := by
  cases h : f j with
  | none => rw [fm_n h]; exact Nat.le_refl _
  | some c => rw [fm_s h]; split <;> omega
theorem fm_le0 (f : Nat → Option Nat) (v : Nat) : ∀ n, fm f v n ≤ v := by
  intro n
  induction n with
  | zero => exact Nat.le_refl _
  | succ n ih => exact Nat.le_trans (fm_step f v n) ih
theorem fm_le {f : Nat → Option Nat} {v : Nat} : ∀ n j c, j < n → f j = some c → fm f v n ≤ c := by
  intro n
  induction n with
  | zero => intro j c h; exact absurd h (Nat.not_lt_zero j)
  | succ n ih =>
    intro j c hj hf
    by_cases h : j < n
    · exact Nat.le_trans (fm_step f v n) (ih j c h hf)
    · have : j = n := by omega
      subst this
      rw [fm_s hf]; split <;> omega
theorem fm_at (f : Nat → Option Nat) (v : Nat) : ∀ n, fm f v n = v ∨ ∃ j, j < n ∧ f j = some (fm f v n) := by
  intro n
  induction n with
  | zero => exact Or.inl rfl
  | succ n ih =>
    have up : fm f v (n + 1) = fm f v n → fm f v (n + 1) = v ∨ ∃ j, j < n + 1 ∧ f j = some (fm f v (n + 1)) := by
      intro e
      rw [e]
      exact ih.elim Or.inl (fun ⟨j, h1, h2⟩ => Or.inr ⟨j, by omega, h2⟩)
    cases h : f n with
    | none => exact up (fm_n h)
    | some c =>
      by_cases q : c < fm f v n
      · refine Or.inr ⟨n, by omega, ?_⟩
        rw [fm_s h, if_pos q, h]
      · exact up (by rw [fm_s h, if_neg q])
/-! longs -/
theorem l_shl (n : Nat) (s : Int64) (k : Nat) (hs : (s.toBitVec.smod 64).toNat = k) : lN n <<< s = lN (n * 2 ^ k) := by
  apply Int64.toBitVec_inj.mp
  apply BitVec.eq_of_toNat_eq
  show ((lN n).toBitVec <<< (s.toBitVec.smod 64).toNat).toNat = _
  rw [hs, BitVec.toNat_shiftLeft, Nat.shiftLeft_eq]
  show n % 2 ^ 64 * 2 ^ k % 2 ^ 64 = n * 2 ^ k % 2 ^ 64
  rw [Nat.mul_mod, Nat.mod_mod, ← Nat.mul_mod]
theorem l_shr {n : Nat} (h : n < 2 ^ 63) (s : Int64) (k : Nat) (hs : (s.toBitVec.smod 64).toNat = k) : lN n >>> s = lN (n / 2 ^ k) := by
  apply Int64.toInt_inj.mp
  have h2 : n / 2 ^ k ≤ n := Nat.div_le_self _ _
  have e : (lN n >>> s).toInt = (lN n).toInt >>> k := by
    show ((lN n).toBitVec.sshiftRight (s.toBitVec.smod 64).toNat).toInt = _
    rw [hs, BitVec.toInt_sshiftRight]
    rfl
  rw [e, pk_lT h, pk_lT (by omega), Int.shiftRight_eq_div_pow]
  rfl
theorem l_and {n : Nat} (h : n < 2 ^ 64) {m : Int64} (k : Nat) (hm : m.toBitVec.toNat = 2 ^ k - 1) : lN n &&& m = lN (n % 2 ^ k) := by
  apply Int64.toBitVec_inj.mp
  apply BitVec.eq_of_toNat_eq
  rw [Int64.toBitVec_and, BitVec.toNat_and, hm, Nat.and_two_pow_sub_one_eq_mod]
  show n % 2 ^ 64 % 2 ^ k = n % 2 ^ k % 2 ^ 64
  rw [Nat.mod_eq_of_lt h, Nat.mod_eq_of_lt (Nat.lt_of_le_of_lt (Nat.mod_le _ _) h)]
theorem s_32 : ((Int32.toInt64 32 &&& 63).toBitVec.smod 64).toNat = 32 := by decide +kernel
theorem s_24 : ((Int32.toInt64 24 &&& 63).toBitVec.smod 64).toNat = 24 := by decide +kernel
theorem s_4 : ∀ e, e < 8 → ((Int32.toInt64 (4 * (7 - nI e)) &&& 63).toBitVec.smod 64).toNat = 4 * (7 - e) := by decide +kernel
theorem s_3 : ∀ e, e < 8 → ((Int32.toInt64 (3 * (7 - nI e)) &&& 63).toBitVec.smod 64).toNat = 3 * (7 - e) := by decide +kernel
theorem s_38 : ∀ e, e < 9 → ((Int32.toInt64 (3 * (8 - nI e)) &&& 63).toBitVec.smod 64).toNat = 3 * (8 - e) := by decide +kernel
theorem p_16 : ∀ e, e < 8 → 2 ^ (4 * (7 - e)) = 16 ^ (7 - e) ∧ 16 ^ (7 - e) ≤ 268435456 := by decide +kernel
theorem p_8 : ∀ e, e < 8 → 2 ^ (3 * (7 - e)) = 8 ^ (7 - e) ∧ 8 ^ (7 - e) ≤ 2097152 := by decide +kernel
theorem z_sizes : ∀ s, s < 256 → fX10_sizeOf (nI s) = some (nI (pcn s)) := by
  have st : ∀ n v : Nat, 0 < v → v < 2 ^ 31 → fX10_sizeOf_L1 (nI n, nI v) = some (.inr (nI (n + v % 2), nI (v / 2))) := by
    intro n v h0 h1
    unfold fX10_sizeOf_L1
    dsimp only [un2]
    have hle : ¬ nI v ≤ 0 := by
      rw [show (0 : Int32) = nI 0 from rfl, nI_leI h1 (by decide)]; omega
    rw [if_neg hle, bv_d, bv_d, pk_andN (by omega) 1 (by decide), nI_add, pk_shrN h1 (1 &&& 31) 1 (by decide)]
  have ed : ∀ n : Nat, fX10_sizeOf_L1 (nI n, nI 0) = some (.inl (nI n)) := by
    intro n
    unfold fX10_sizeOf_L1
    dsimp only [un2]
    rw [if_pos (show nI 0 ≤ 0 from by decide)]
  have all : ∀ (m n v f : Nat), v < 2 ^ m → m < 31 → m < f → ∃ k, it fX10_sizeOf_L1 f (nI n, nI v) = some (nI k) ∧ k = n + (Nat.rec (motive := fun _ => Nat → Nat) (fun _ => 0) (fun _ g v => v % 2 + g (v / 2)) m v) := by
    intro m
    induction m with
    | zero =>
      intro n v f hv _ hf
      obtain ⟨f', rfl⟩ : ∃ f', f = f' + 1 := ⟨f - 1, by omega⟩
      have : v = 0 := by omega
      subst this
      exact ⟨n, it_inl (ed n), rfl⟩
    | succ m ih =>
      intro n v f hv hm hf
      obtain ⟨f', rfl⟩ : ∃ f', f = f' + 1 := ⟨f - 1, by omega⟩
      have hp : 2 ^ (m + 1) ≤ 2 ^ 31 := Nat.pow_le_pow_right (by decide) (by omega)
      have hv2 : v / 2 < 2 ^ m := by rw [Nat.pow_succ] at hv; omega
      rcases Nat.eq_zero_or_pos v with rfl | h0
      · obtain ⟨k, h1, h2⟩ := ih n 0 (f' + 1) (Nat.two_pow_pos m) (by omega) (by omega)
        refine ⟨k, h1, ?_⟩
        rw [h2]
        show _ = n + (0 % 2 + _)
        rw [Nat.zero_mod, Nat.zero_add, Nat.zero_div]
      · obtain ⟨k, h1, h2⟩ := ih (n + v % 2) (v / 2) f' hv2 (by omega) (by omega)
        refine ⟨k, ?_, ?_⟩
        · rw [it_inr (st n v h0 (by omega))]; exact h1
        · rw [h2, Nat.add_assoc]
  intro s hs
  obtain ⟨k, h1, h2⟩ := all 8 0 s 100000 (by omega) (by omega) (by omega)
  unfold fX10_sizeOf
  rw [show (0 : Int32) = nI 0 from rfl, h1, ob_s, h2]
  congr 2
  show 0 + (s % 2 + (s / 2 % 2 + (s / 2 / 2 % 2 + (s / 2 / 2 / 2 % 2 + (s / 2 / 2 / 2 / 2 % 2 + (s / 2 / 2 / 2 / 2 / 2 % 2 + (s / 2 / 2 / 2 / 2 / 2 / 2 % 2 + (s / 2 / 2 / 2 / 2 / 2 / 2 / 2 % 2 + 0)))))))) = _
  unfold pcn
  omega
