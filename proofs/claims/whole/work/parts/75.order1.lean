/-! order: counting notes -/
def cn (p : Nat → Bool) : Nat → Nat
  | 0 => 0
  | k + 1 => cn p k + (if p k = true then 1 else 0)
theorem cn_le (p : Nat → Bool) : ∀ n, cn p n ≤ n := by
  intro n
  induction n with
  | zero => exact Nat.le_refl _
  | succ n ih => unfold cn; split <;> omega
theorem cn_add {p q r : Nat → Bool} : ∀ n, (∀ k, k < n → (if p k = true then 1 else 0) = (if q k = true then 1 else 0) + (if r k = true then 1 else 0)) → cn p n = cn q n + cn r n := by
  intro n
  induction n with
  | zero => intro _; rfl
  | succ n ih =>
    intro h
    have h1 := ih (fun k hk => h k (by omega))
    have h2 := h n (by omega)
    unfold cn
    omega
theorem cn_congr {p q : Nat → Bool} : ∀ n, (∀ k, k < n → p k = q k) → cn p n = cn q n := by
  intro n
  induction n with
  | zero => intro _; rfl
  | succ n ih =>
    intro h
    unfold cn
    rw [ih (fun k hk => h k (by omega)), h n (by omega)]
theorem cn_0 {p : Nat → Bool} : ∀ n, (∀ k, k < n → p k = false) → cn p n = 0 := by
  intro n
  induction n with
  | zero => intro _; rfl
  | succ n ih =>
    intro h
    unfold cn
    rw [ih (fun k hk => h k (by omega)), h n (by omega)]
    rfl
theorem cn_1 {p : Nat → Bool} : ∀ n, (∀ k, k < n → p k = true) → cn p n = n := by
  intro n
  induction n with
  | zero => intro _; rfl
  | succ n ih =>
    intro h
    unfold cn
    rw [ih (fun k hk => h k (by omega)), h n (by omega)]
    rfl
theorem fm_congr {f g : Nat → Option Nat} {v : Nat} : ∀ n, (∀ j, j < n → f j = g j) → fm f v n = fm g v n := by
  intro n
  induction n with
  | zero => intro _; rfl
  | succ n ih =>
    intro h
    have h1 := ih (fun j hj => h j (by omega))
    have h2 := h n (by omega)
    cases q : f n with
    | none => rw [fm_n q, fm_n (by rw [← h2]; exact q), h1]
    | some c => rw [fm_s q, fm_s (by rw [← h2]; exact q), h1]
/-- the notes as pairs of numbers -/
def nts (ma : Nat → Int32) (pa pb : Nat → Nat) (c : Nat) : Prop := ∀ k, k < c → ma (2 * k) = nI (pa k) ∧ pa k < 8 ∧ ma (2 * k + 1) = nI (pb k) ∧ pb k < 8
def vot (pa pb : Nat → Nat) (n x : Nat) : Nat := cn (fun k => decide (pa k * 8 + pb k = x)) n
def qva (pa pb : Nat → Nat) (c f s j : Nat) : Nat := cn (fun k => decide (pa k = f) && (decide (pb k < j) && tb s (pb k))) c
def qv (pa pb : Nat → Nat) (c f s : Nat) : Nat := cn (fun k => decide (pa k = f) && tb s (pb k)) c
def gnn (pa pb : Nat → Nat) (f s n : Nat) : Nat := cn (fun k => decide (pa k = f) && !tb s (pb k)) n
section Notes
variable {ma : Nat → Int32} {pa pb : Nat → Nat} {c : Nat}
theorem votesX (hn : nts ma pa pb c) (hc : c ≤ 100) {a : Nat → Int32} (ha : ∀ k, k < 2 * c → a k = ma k) (vo : Nat → Int32) :
    ∃ v, fX5_countVotes 2 (nI c) vo 200 a = some v ∧ ∀ x, x < 64 → v x = nI (vot pa pb c x) := by
  unfold fX5_countVotes
  have L1 := it_inv (f := fX5_countVotes_L1) (fun k v => v.1 = nI k ∧ ∀ t, t < k → v.2 t = 0) (fun g => ∀ t, t < 64 → g t = 0) 64 (by decide) (0, vo) ⟨rfl, fun j hj => absurd hj (Nat.not_lt_zero j)⟩ ?_ ?_
  · obtain ⟨g, e1, e2⟩ := L1
    rw [e1, ob_s]
    have L2 := it_inv (f := fX5_countVotes_L2 (nI c) 2 200 a) (fun k v => v.1 = nI k ∧ ∀ x, x < 64 → v.2 x = nI (vot pa pb k x)) (fun g => ∀ x, x < 64 → g x = nI (vot pa pb c x)) c (by omega) (0, g) ⟨rfl, e2⟩ ?_ ?_
    · obtain ⟨v, e3, e4⟩ := L2
      rw [e3, ob_s]
      exact ⟨v, rfl, e4⟩
    · rintro k ⟨u1, u2⟩ hk ⟨q1, q2⟩
      dsimp only at q1 q2
      subst q1
      obtain ⟨n1, n2, n3, n4⟩ := hn k hk
      have t0 : fX7_at (nI k) 0 2 200 a = some (nI (pa k)) := by
        have q := tat (w := 2) (n := 200) (i := k) (j := 0) (by omega) (by omega) a
        rw [Nat.add_zero, Nat.mul_comm, ha _ (by omega), n1] at q
        exact q
      have t1 : fX7_at (nI k) 1 2 200 a = some (nI (pb k)) := by
        have q := tat (w := 2) (n := 200) (i := k) (j := 1) (by omega) (by omega) a
        rw [Nat.mul_comm, ha _ (by omega), n3] at q
        exact q
      have hv : vot pa pb k (pa k * 8 + pb k) ≤ k := cn_le _ _
      unfold fX5_countVotes_L2
      dsimp only [un2]
      rw [tsize, ob_s, if_neg (nI_ge hk (by omega)), t0, ob_s, t1, ob_s, bv_d, show (8 : Int32) = nI 8 from rfl, pk_mul, nI_add, if_neg (nI_pos (by omega)), if_neg (show ¬ (64 : Int32) ≤ nI (pa k * 8 + pb k) from nI_ge (show pa k * 8 + pb k < 64 by omega) (by decide)), in_bnd (vp_in_nI (show pa k * 8 + pb k < 64 by omega) (by decide)), nI_clamp (by omega), q2 _ (by omega)]
      simp only [gd_t, bv_d, ob_s, nI_1]
      refine ⟨_, rfl, rfl, ?_⟩
      intro x hx
      show upd u2 _ _ _ = _
      rw [upd_e]
      by_cases q : x = pa k * 8 + pb k
      · rw [if_pos q, q]
        unfold vot
        rw [show cn (fun k_1 => decide (pa k_1 * 8 + pb k_1 = pa k * 8 + pb k)) (k + 1) = cn (fun k_1 => decide (pa k_1 * 8 + pb k_1 = pa k * 8 + pb k)) k + (if decide (pa k * 8 + pb k = pa k * 8 + pb k) = true then 1 else 0) from rfl, decide_eq_true rfl, if_pos rfl]
      · rw [if_neg q, q2 x hx]
        unfold vot
        rw [show cn (fun k_1 => decide (pa k_1 * 8 + pb k_1 = x)) (k + 1) = cn (fun k_1 => decide (pa k_1 * 8 + pb k_1 = x)) k + (if decide (pa k * 8 + pb k = x) = true then 1 else 0) from rfl, decide_eq_false (fun e => q e.symm), if_neg (by decide), Nat.add_zero]
    · rintro ⟨u1, u2⟩ ⟨q1, q2⟩
      dsimp only at q1 q2
      subst q1
      unfold fX5_countVotes_L2
      dsimp only [un2]
      rw [tsize, ob_s, if_pos (nI_le (Nat.le_refl _) (by omega))]
      exact ⟨_, rfl, q2⟩
  · rintro k ⟨u1, u2⟩ hk ⟨q1, q2⟩
    dsimp only at q1 q2
    subst q1
    unfold fX5_countVotes_L1
    dsimp only [un2]
    rw [if_neg (show ¬ (64 : Int32) ≤ nI k from nI_ge hk (by decide)), in_bnd (vp_in_nI hk (by decide)), nI_clamp (by omega), gd_t, bv_d, bv_d]
    refine ⟨_, rfl, nI_1 k, ?_⟩
    intro t ht
    show upd u2 k _ t = _
    rw [upd_e]
    by_cases q : t = k
    · rw [if_pos q]
    · rw [if_neg q]; exact q2 t (by omega)
  · rintro ⟨u1, u2⟩ ⟨q1, q2⟩
    dsimp only at q1 q2
    subst q1
    unfold fX5_countVotes_L1
    dsimp only [un2]
    rw [if_pos (show (64 : Int32) ≤ nI 64 from by decide)]
    exact ⟨_, rfl, q2⟩
theorem qva_0 (f s : Nat) : qva pa pb c f s 0 = 0 := cn_0 c (fun k _ => by rw [decide_eq_false (Nat.not_lt_zero _), Bool.false_and, Bool.and_false])
theorem qva_8 (hn : nts ma pa pb c) (f s : Nat) : qva pa pb c f s 8 = qv pa pb c f s := cn_congr c (fun k hk => by rw [decide_eq_true (hn k hk).2.2.2, Bool.true_and])
theorem qva_n {f s j : Nat} (h : tb s j = false) : qva pa pb c f s (j + 1) = qva pa pb c f s j := by
  refine cn_congr c (fun k _ => ?_)
  by_cases q : pb k = j
  · rw [q, h]; simp
  · by_cases q2 : pb k < j
    · rw [decide_eq_true q2, decide_eq_true (show pb k < j + 1 by omega)]
    · rw [decide_eq_false q2, decide_eq_false (show ¬ pb k < j + 1 by omega)]
theorem qva_s (hn : nts ma pa pb c) {f s j : Nat} (hj : j < 8) (h : tb s j = true) : qva pa pb c f s (j + 1) = qva pa pb c f s j + vot pa pb c (f * 8 + j) := by
  refine cn_add c (fun k hk => ?_)
  have hb := (hn k hk).2.2.2
  by_cases qa : pa k = f
  · by_cases q : pb k = j
    · rw [qa, q, h, decide_eq_true rfl, decide_eq_true (show j < j + 1 by omega), decide_eq_false (show ¬ j < j by omega), decide_eq_true rfl]; rfl
    · have e : decide (pb k < j + 1) = decide (pb k < j) := by
        by_cases q2 : pb k < j
        · rw [decide_eq_true q2, decide_eq_true (show pb k < j + 1 by omega)]
        · rw [decide_eq_false q2, decide_eq_false (show ¬ pb k < j + 1 by omega)]
      rw [e, decide_eq_false (show ¬ pa k * 8 + pb k = f * 8 + j by omega), if_neg (show ¬ false = true by decide), Nat.add_zero]
  · rw [decide_eq_false qa, Bool.false_and, Bool.false_and, decide_eq_false (show ¬ pa k * 8 + pb k = f * 8 + j by omega)]; rfl
theorem againstX (hn : nts ma pa pb c) (hc : c ≤ 100) {v : Nat → Int32} (hv : ∀ x, x < 64 → v x = nI (vot pa pb c x)) {f s : Nat} (hf : f < 8) (hs : s < 256) : fX5_votesAgainst (nI f) (nI s) v = some (nI (qv pa pb c f s)) := by
  unfold fX5_votesAgainst
  have L : it (fX5_votesAgainst_L1 (nI f) (nI s) v) 100000 (0, 0) = some (nI (qva pa pb c f s 8)) := by
    have e0 : ((0 : Int32), (0 : Int32)) = (nI (qva pa pb c f s 0), nI 0) := by rw [qva_0]; rfl
    rw [e0]
    refine it_loop (st := fun j => (nI (qva pa pb c f s j), nI j)) 8 (by decide) (fun j hj => ?_) ?_
    · unfold fX5_votesAgainst_L1
      dsimp only [un2]
      rw [if_neg (show ¬ (8 : Int32) ≤ nI j from nI_ge hj (by decide)), bv_d, show (8 : Int32) = nI 8 from rfl, pk_mul, nI_add]
      cases h1 : tb s j with
      | false => rw [if_pos (z_and0 hs hj h1), ob_s, bv_d, nI_1, qva_n h1]
      | true =>
        rw [if_neg (z_and1 hs hj h1), if_neg (nI_pos (by omega)), if_neg (show ¬ (64 : Int32) ≤ nI (f * 8 + j) from nI_ge (show f * 8 + j < 64 by omega) (by decide)), in_bnd (vp_in_nI (show f * 8 + j < 64 by omega) (by decide)), gd_t, nI_clamp (by omega), hv _ (by omega), nI_add, bv_d, ob_s, bv_d, nI_1, qva_s hn hj h1]
    · unfold fX5_votesAgainst_L1
      dsimp only [un2]
      rw [if_pos (show (8 : Int32) ≤ nI 8 from by decide)]
  rw [L, ob_s, qva_8 hn]
theorem gainM (hn : nts ma pa pb c) (hc : c ≤ 100) {f s : Nat} (hf : f < 8) (hs : s < 256) : fX10_gain (nI f) (nI s) (nI c) ma = some (nI (gnn pa pb f s c)) := by
  unfold fX10_gain
  have L : it (fX10_gain_L1 (nI c) ma (nI f) (nI s)) 100000 (0, 0) = some (nI (gnn pa pb f s c)) := by
    refine it_loop (st := fun k => (nI (gnn pa pb f s k), nI k)) c (by omega) (fun k hk => ?_) ?_
    · obtain ⟨n1, n2, n3, n4⟩ := hn k hk
      unfold fX10_gain_L1
      dsimp only [un2]
      have e0 : (2 : Int32) * nI k = nI (2 * k) := by rw [show (2 : Int32) = nI 2 from rfl, pk_mul]
      have eg : gnn pa pb f s (k + 1) = gnn pa pb f s k + (if (decide (pa k = f) && !tb s (pb k)) = true then 1 else 0) := rfl
      rw [if_neg (nI_ge hk (by omega)), e0, nI_1, in_bnd (vp_in_nI (show 2 * k < 200 by omega) (by decide)), in_bnd (vp_in_nI (show 2 * k + 1 < 200 by omega) (by decide)), gd_t, gd_t, nI_clamp (by omega), nI_clamp (by omega), n1, n3, eg]
      by_cases q : pa k = f
      · rw [if_pos (congrArg nI q), decide_eq_true q, Bool.true_and]
        cases h1 : tb s (pb k) with
        | false => rw [if_pos (z_shr0 hs n4 h1), ob_s, bv_d, bv_d, nI_1, nI_1]; rfl
        | true =>
          rw [if_neg (show ¬ (nI s >>> (nI (pb k) &&& 31)) &&& 1 = 0 from by rw [z_shr1 hs n4 h1]; decide), ob_s, bv_d, bv_d, nI_1, show (0 : Int32) = nI 0 from rfl, nI_add]; rfl
      · rw [if_neg (nI_ne q (by omega) (by omega)), decide_eq_false q, Bool.false_and, ob_s, bv_d, bv_d, nI_1, show (0 : Int32) = nI 0 from rfl, nI_add]; rfl
    · unfold fX10_gain_L1
      dsimp only [un2]
      rw [if_pos (nI_le (Nat.le_refl _) (by omega))]
  rw [L, ob_s]
end Notes
