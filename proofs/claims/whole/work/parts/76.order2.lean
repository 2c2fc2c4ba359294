/-! order: keys and agreements -/
def bof (q kf : Nat → Nat → Nat) (k1 : Nat → Nat) (s f : Nat) : Option Nat := if tb s f = true then some (k1 (s - 2 ^ f) + (q f (s - 2 ^ f) * 8 ^ 8 + f * 8 ^ (8 - pcn s))) else none
theorem bof_n {q kf : Nat → Nat → Nat} {k1 : Nat → Nat} {s f : Nat} (h : tb s f = false) : bof q kf k1 s f = none := by
  unfold bof; rw [if_neg (by rw [h]; decide)]
theorem bof_s {q kf : Nat → Nat → Nat} {k1 : Nat → Nat} {s f : Nat} (h : tb s f = true) : bof q kf k1 s f = some (k1 (s - 2 ^ f) + (q f (s - 2 ^ f) * 8 ^ 8 + f * 8 ^ (8 - pcn s))) := by
  unfold bof; rw [if_pos h]
theorem p_88 : ∀ e, e < 9 → 2 ^ (3 * (8 - e)) = 8 ^ (8 - e) ∧ 8 ^ (8 - e) ≤ 16777216 := by decide +kernel
theorem e248 : (2 : Nat) ^ 24 = 8 ^ 8 := by decide
theorem mul8 {f p : Nat} (hf : f < 8) (hp : p < 9) : f * 8 ^ (8 - p) ≤ 134217728 := by
  have h1 := (p_88 p hp).2
  have h2 := Nat.mul_le_mul (show f ≤ 8 by omega) h1
  omega
section Sheets
variable {ma : Nat → Int32} {pa pb : Nat → Nat} {c : Nat}
abbrev qq (pa pb : Nat → Nat) (c : Nat) : Nat → Nat → Nat := fun f s => qv pa pb c f s
theorem bestOfX (hn : nts ma pa pb c) (hc : c ≤ 100) {v : Nat → Int32} (hv : ∀ x, x < 64 → v x = nI (vot pa pb c x)) {s : Nat} (hs : s < 256) {f : Nat → Int64} {kf : Nat → Nat} (hk : ∀ t, t < s → f t = lN (kf t) ∧ kf t ≤ 1000000000000) :
    fX5_bestOf (nI s) v f = some (lN (fm (bof (qq pa pb c) (qq pa pb c) kf s) uU 8)) := by
  unfold fX5_bestOf
  have hp : pcn s < 9 := Nat.lt_of_le_of_lt (y_pc 8 (by decide) s hs) (by decide)
  have L : it (fX5_bestOf_L1 (nI s) v f (3 * (8 - nI (pcn s)))) 100000 (1152921504606846976, 0) = some (lN (fm (bof (qq pa pb c) (qq pa pb c) kf s) uU 8)) := by
    refine it_loop (st := fun j => (lN (fm (bof (qq pa pb c) (qq pa pb c) kf s) uU j), nI j)) 8 (by decide) (fun j hj => ?_) ?_
    · unfold fX5_bestOf_L1
      dsimp only [un2]
      rw [if_neg (show ¬ (8 : Int32) ≤ nI j from nI_ge hj (by decide)), z_cut s hs j hj, bv_d]
      cases h1 : tb s j with
      | false => rw [if_neg (show ¬ false = true by decide), if_pos rfl, ob_s, bv_d, nI_1, fm_n (bof_n h1)]
      | true =>
        obtain ⟨y1, y2, y3⟩ := y_sub s hs j hj h1
        have hpw := (y_pw j hj).1
        have hlt : s - 2 ^ j < s := by omega
        obtain ⟨k1, k2⟩ := hk _ hlt
        have hq : qv pa pb c j (s - 2 ^ j) ≤ c := cn_le _ _
        have m8 := mul8 hj hp
        have l0 := fm_le0 (bof (qq pa pb c) (qq pa pb c) kf s) uU j
        rw [if_pos rfl, if_neg (nI_ne (show s - 2 ^ j ≠ s by omega) (by omega) (by omega)), if_neg (nI_pos (by omega)), if_neg (show ¬ (256 : Int32) ≤ nI (s - 2 ^ j) from nI_ge (show s - 2 ^ j < 256 by omega) (by decide)), againstX hn hc hv hj (show s - 2 ^ j < 256 by omega), ob_s, bv_d, in_bnd (vp_in_nI (show s - 2 ^ j < 256 by omega) (by decide)), gd_t, nI_clamp (by omega), k1, bv_d, ob_s, bv_d, nI_1, nI_l (by omega), nI_l (by omega), l_shl _ _ 24 s_24, l_shl _ _ _ (s_38 _ hp), (p_88 _ hp).1, lN_add, lN_add, e248, fm_s (bof_s h1), Nat.add_assoc]
        show some (Sum.inr (if lN (kf (s - 2 ^ j) + (qv pa pb c j (s - 2 ^ j) * 8 ^ 8 + j * 8 ^ (8 - pcn s))) < lN (fm (bof (qq pa pb c) (qq pa pb c) kf s) uU j) then lN (kf (s - 2 ^ j) + (qv pa pb c j (s - 2 ^ j) * 8 ^ 8 + j * 8 ^ (8 - pcn s))) else lN (fm (bof (qq pa pb c) (qq pa pb c) kf s) uU j), nI (j + 1))) = some (Sum.inr (lN (if kf (s - 2 ^ j) + (qv pa pb c j (s - 2 ^ j) * 8 ^ 8 + j * 8 ^ (8 - pcn s)) < fm (bof (qq pa pb c) (qq pa pb c) kf s) uU j then kf (s - 2 ^ j) + (qv pa pb c j (s - 2 ^ j) * 8 ^ 8 + j * 8 ^ (8 - pcn s)) else fm (bof (qq pa pb c) (qq pa pb c) kf s) uU j), nI (j + 1)))
        by_cases q : kf (s - 2 ^ j) + (qv pa pb c j (s - 2 ^ j) * 8 ^ 8 + j * 8 ^ (8 - pcn s)) < fm (bof (qq pa pb c) (qq pa pb c) kf s) uU j
        · rw [if_pos ((pk_lLT (by omega) (by unfold uU at l0 ⊢; omega)).mpr q), if_pos q]
        · rw [if_neg (fun q2 => q ((pk_lLT (by omega) (by unfold uU at l0 ⊢; omega)).mp q2)), if_neg q]
    · unfold fX5_bestOf_L1
      dsimp only [un2]
      rw [if_pos (show (8 : Int32) ≤ nI 8 from by decide)]
  rw [z_cnt s hs, ob_s, bv_d, L, ob_s]
/-- the keys of all sets up to k -/
def kok (pa pb : Nat → Nat) (c : Nat) (kf : Nat → Nat) (k : Nat) : Prop := kf 0 = 0 ∧ ∀ t, 0 < t → t ≤ k → kf t = fm (bof (qq pa pb c) (qq pa pb c) kf t) uU 8 ∧ kf t ≤ pcn t * 2000000000
theorem kok_b {kf : Nat → Nat} {k : Nat} (h : kok pa pb c kf k) (hk : k < 256) {t : Nat} (ht : t ≤ k) : kf t ≤ pcn t * 2000000000 := by
  rcases Nat.eq_zero_or_pos t with rfl | h0
  · rw [h.1]; exact Nat.zero_le _
  · exact (h.2 t h0 ht).2
theorem kok_s {kf : Nat → Nat} {k : Nat} (h : kok pa pb c kf k) (hc : c ≤ 100) (hk : k < 255) : kok pa pb c (fun t => if t = k + 1 then fm (bof (qq pa pb c) (qq pa pb c) kf (k + 1)) uU 8 else kf t) (k + 1) := by
  have cg : ∀ t, 0 < t → t ≤ k + 1 → fm (bof (qq pa pb c) (qq pa pb c) (fun t => if t = k + 1 then fm (bof (qq pa pb c) (qq pa pb c) kf (k + 1)) uU 8 else kf t) t) uU 8 = fm (bof (qq pa pb c) (qq pa pb c) kf t) uU 8 := by
    intro t h0 ht
    refine fm_congr 8 (fun j hj => ?_)
    cases h1 : tb t j with
    | false => rw [bof_n h1, bof_n h1]
    | true =>
      obtain ⟨y1, y2, y3⟩ := y_sub t (by omega) j hj h1
      have hpw := (y_pw j hj).1
      rw [bof_s h1, bof_s h1, if_neg (show ¬ t - 2 ^ j = k + 1 by omega)]
  refine ⟨?_, ?_⟩
  · show (if 0 = k + 1 then _ else kf 0) = 0
    rw [if_neg (by omega)]; exact h.1
  · intro t h0 ht
    rw [cg t h0 ht]
    dsimp only
    by_cases q : t = k + 1
    · rw [if_pos q, q]
      refine ⟨rfl, ?_⟩
      obtain ⟨d, hd, h1⟩ := y_has (k + 1) (by omega) (by omega)
      obtain ⟨y1, y2, y3⟩ := y_sub (k + 1) (by omega) d hd h1
      have hpw := (y_pw d hd).1
      have hb := kok_b h (by omega) (show k + 1 - 2 ^ d ≤ k by omega)
      have hq : qv pa pb c d (k + 1 - 2 ^ d) ≤ c := cn_le _ _
      have hp : pcn (k + 1) < 9 := Nat.lt_of_le_of_lt (y_pc 8 (by decide) (k + 1) (by omega)) (by decide)
      have m8 := mul8 hd hp
      have q1 := fm_le (f := bof (qq pa pb c) (qq pa pb c) kf (k + 1)) (v := uU) 8 d _ hd (bof_s h1)
      have q2 : fm (bof (qq pa pb c) (qq pa pb c) kf (k + 1)) uU 8 ≤ kf (k + 1 - 2 ^ d) + (qv pa pb c d (k + 1 - 2 ^ d) * 8 ^ 8 + d * 8 ^ (8 - pcn (k + 1))) := q1
      omega
    · rw [if_neg q]
      exact h.2 t h0 (by omega)
theorem keysX (hn : nts ma pa pb c) (hc : c ≤ 100) {a : Nat → Int32} (ha : ∀ k, k < 2 * c → a k = ma k) (vo : Nat → Int32) (ke : Nat → Int64) :
    ∃ kf vo' ke', kok pa pb c kf 255 ∧ fX5_bestKey 2 (nI c) vo ke 200 a = some (lN (kf 255), vo', ke') := by
  obtain ⟨v, e1, hv⟩ := votesX hn hc ha vo
  have L := it_inv (f := fX5_bestKey_L1 v) (fun k u => u.1 = nI (k + 1) ∧ ∃ kf, kok pa pb c kf k ∧ ∀ t, t ≤ k → u.2 t = lN (kf t)) (fun g => ∃ kf, kok pa pb c kf 255 ∧ ∀ t, t ≤ 255 → g t = lN (kf t)) 255 (by decide) (1, vp_updL ke 0 0) ⟨rfl, fun _ => 0, ⟨rfl, fun t h1 h2 => absurd h1 (by omega)⟩, ?_⟩ ?_ ?_
  · obtain ⟨g, e2, kf, h1, h2⟩ := L
    refine ⟨kf, v, g, h1, ?_⟩
    unfold fX5_bestKey
    rw [e1, ob_s, show bnd 0 256 = true from by decide, gd_t, bv_d, show Int32.toNatClampNeg 0 = 0 from by decide, e2, ob_s, show bnd 255 256 = true from by decide, gd_t, show Int32.toNatClampNeg 255 = 255 from by decide, h2 255 (Nat.le_refl _)]
  · intro t ht
    have : t = 0 := by omega
    subst this
    rfl
  · rintro k ⟨u1, u2⟩ hk ⟨q1, kf, q2, q3⟩
    dsimp only at q1 q3
    subst q1
    have hb : ∀ t, t < k + 1 → u2 t = lN (kf t) ∧ kf t ≤ 1000000000000 := by
      intro t ht
      refine ⟨q3 t (by omega), ?_⟩
      have h1 := kok_b q2 (by omega) (show t ≤ k by omega)
      have h2 := y_pc 8 (by decide) t (show t < 256 by omega)
      omega
    unfold fX5_bestKey_L1
    dsimp only [un2]
    rw [if_neg (show ¬ (256 : Int32) ≤ nI (k + 1) from nI_ge (show k + 1 < 256 by omega) (by decide)), bestOfX hn hc hv (show k + 1 < 256 by omega) hb, ob_s, in_bnd (vp_in_nI (show k + 1 < 256 by omega) (by decide)), gd_t, nI_clamp (by omega), bv_d, bv_d]
    refine ⟨_, rfl, nI_1 (k + 1), _, kok_s q2 hc hk, ?_⟩
    intro t ht
    show vp_updL u2 (k + 1) _ t = _
    rw [updL_e]
    by_cases q : t = k + 1
    · rw [if_pos q, if_pos q]
    · rw [if_neg q, if_neg q]; exact q3 t (by omega)
  · rintro ⟨u1, u2⟩ ⟨q1, kf, q2, q3⟩
    dsimp only at q1 q3
    subst q1
    unfold fX5_bestKey_L1
    dsimp only [un2]
    rw [if_pos (show (256 : Int32) ≤ nI (255 + 1) from by decide)]
    exact ⟨_, rfl, kf, q2, q3⟩
/-! the reference -/
def fx (f : Nat → Nat) : Nat → Nat
  | 0 => 0
  | j + 1 => if f j ≤ fx f j then fx f j else f j
theorem fx_step (f : Nat → Nat) (j : Nat) : fx f j ≤ fx f (j + 1) := by
  show _ ≤ if f j ≤ fx f j then fx f j else f j
  split <;> omega
theorem fx_ge {f : Nat → Nat} : ∀ n j, j < n → f j ≤ fx f n := by
  intro n
  induction n with
  | zero => intro j h; exact absurd h (Nat.not_lt_zero j)
  | succ n ih =>
    intro j hj
    by_cases h : j < n
    · exact Nat.le_trans (ih j h) (fx_step f n)
    · have : j = n := by omega
      subst this
      show _ ≤ if f j ≤ fx f j then fx f j else f j
      split <;> omega
theorem fx_at (f : Nat → Nat) : ∀ n, fx f n = 0 ∨ ∃ j, j < n ∧ f j = fx f n := by
  intro n
  induction n with
  | zero => exact Or.inl rfl
  | succ n ih =>
    have e : fx f (n + 1) = if f n ≤ fx f n then fx f n else f n := rfl
    by_cases q : f n ≤ fx f n
    · rw [if_pos q] at e
      rw [e]
      exact ih.elim Or.inl (fun ⟨j, h1, h2⟩ => Or.inr ⟨j, by omega, h2⟩)
    · rw [if_neg q] at e
      rw [e]
      exact Or.inr ⟨n, by omega, rfl⟩
theorem fx_congr {f g : Nat → Nat} : ∀ n, (∀ j, j < n → f j = g j) → fx f n = fx g n := by
  intro n
  induction n with
  | zero => intro _; rfl
  | succ n ih =>
    intro h
    show (if f n ≤ fx f n then fx f n else f n) = (if g n ≤ fx g n then fx g n else g n)
    rw [ih (fun j hj => h j (by omega)), h n (by omega)]
def agf (pa pb : Nat → Nat) (c : Nat) (ag : Nat → Nat) (s d : Nat) : Nat := if tb s d = true then 0 else gnn pa pb d s c + ag (s + 2 ^ d)
theorem agf_t {ag : Nat → Nat} {s d : Nat} (h : tb s d = true) : agf pa pb c ag s d = 0 := by unfold agf; rw [if_pos h]
theorem agf_f {ag : Nat → Nat} {s d : Nat} (h : tb s d = false) : agf pa pb c ag s d = gnn pa pb d s c + ag (s + 2 ^ d) := by unfold agf; rw [if_neg (by rw [h]; decide)]
/-- the agreements of all sets from k on -/
def aok (pa pb : Nat → Nat) (c : Nat) (ag : Nat → Nat) (k : Nat) : Prop := ag 255 = 0 ∧ ∀ t, k ≤ t → t < 255 → ag t = fx (agf pa pb c ag t) 8 ∧ ag t ≤ (8 - pcn t) * 100
theorem aok_b {ag : Nat → Nat} {k : Nat} (h : aok pa pb c ag k) {t : Nat} (h1 : k ≤ t) (h2 : t < 256) : ag t ≤ (8 - pcn t) * 100 := by
  by_cases q : t = 255
  · subst q; rw [h.1]; exact Nat.zero_le _
  · exact (h.2 t h1 (by omega)).2
theorem aok_s {ag : Nat → Nat} {k : Nat} (h : aok pa pb c ag (k + 1)) (hc : c ≤ 100) (hk : k < 255) : aok pa pb c (fun t => if t = k then fx (agf pa pb c ag k) 8 else ag t) k := by
  have cg : ∀ t, k ≤ t → t < 255 → fx (agf pa pb c (fun t => if t = k then fx (agf pa pb c ag k) 8 else ag t) t) 8 = fx (agf pa pb c ag t) 8 := by
    intro t h0 ht
    refine fx_congr 8 (fun j hj => ?_)
    cases h1 : tb t j with
    | true => rw [agf_t h1, agf_t h1]
    | false =>
      have hpw := (y_pw j hj).1
      rw [agf_f h1, agf_f h1, if_neg (show ¬ t + 2 ^ j = k by omega)]
  refine ⟨?_, ?_⟩
  · show (if 255 = k then _ else ag 255) = 0
    rw [if_neg (by omega)]; exact h.1
  · intro t h0 ht
    rw [cg t h0 ht]
    dsimp only
    by_cases q : t = k
    · rw [if_pos q, q]
      refine ⟨rfl, ?_⟩
      rcases fx_at (agf pa pb c ag k) 8 with h1 | ⟨d, hd, h1⟩
      · rw [h1]; exact Nat.zero_le _
      · rw [← h1]
        cases h2 : tb k d with
        | true => rw [agf_t h2]; exact Nat.zero_le _
        | false =>
          obtain ⟨y1, y2, y3⟩ := y_add k (by omega) d hd h2
          have hpw := (y_pw d hd).1
          have hb := aok_b h (show k + 1 ≤ k + 2 ^ d by omega) y1
          have hg : gnn pa pb d k c ≤ c := cn_le _ _
          have hp := y_pc 8 (by decide) (k + 2 ^ d) y1
          rw [agf_f h2]
          omega
    · rw [if_neg q]
      exact h.2 t (by omega) ht
theorem agree2 (hn : nts ma pa pb c) (hc : c ≤ 100) {s : Nat} (hs : s < 255) {w : Nat → Int32} {ag : Nat → Nat} (hw : ∀ t, s < t → t < 256 → w t = nI (ag t) ∧ ag t ≤ 800) :
    it (fX10_order_L2 (nI s) (nI c) ma w) 100000 (0, 0) = some (nI (fx (agf pa pb c ag s) 8)) := by
  have bd : ∀ j, j < 8 → agf pa pb c ag s j ≤ 900 := by
    intro j hj
    cases h1 : tb s j with
    | true => rw [agf_t h1]; omega
    | false =>
      obtain ⟨y1, y2, y3⟩ := y_add s (by omega) j hj h1
      have hpw := (y_pw j hj).1
      have := (hw _ (show s < s + 2 ^ j by omega) y1).2
      have hg : gnn pa pb j s c ≤ c := cn_le _ _
      rw [agf_f h1]; omega
  have bx : ∀ j, j ≤ 8 → fx (agf pa pb c ag s) j ≤ 900 := by
    intro j hj
    rcases fx_at (agf pa pb c ag s) j with h | ⟨i, hi, h⟩
    · omega
    · rw [← h]; exact bd i (by omega)
  refine it_loop (st := fun j => (nI (fx (agf pa pb c ag s) j), nI j)) 8 (by decide) (fun j hj => ?_) ?_
  · unfold fX10_order_L2
    dsimp only [un2]
    rw [if_neg (show ¬ (8 : Int32) ≤ nI j from nI_ge hj (by decide))]
    have e : fx (agf pa pb c ag s) (j + 1) = if agf pa pb c ag s j ≤ fx (agf pa pb c ag s) j then fx (agf pa pb c ag s) j else agf pa pb c ag s j := rfl
    have b1 := bd j hj
    have b2 := bx j (by omega)
    have fin : (ob (some (nI (agf pa pb c ag s j))) fun m12 => ob (α := Int32) (if m12 ≤ nI (fx (agf pa pb c ag s) j) then some (nI (fx (agf pa pb c ag s) j)) else some m12) fun m19 => bv (nI j + 1) fun v23 => some (Sum.inr (α := Int32) (m19, v23))) = some (.inr (nI (fx (agf pa pb c ag s) (j + 1)), nI (j + 1))) := by
      rw [ob_s, e]
      by_cases q : agf pa pb c ag s j ≤ fx (agf pa pb c ag s) j
      · rw [if_pos (nI_le q (by omega)), if_pos q, ob_s, bv_d, nI_1]
      · rw [if_neg (nI_ge (by omega) (by omega)), if_neg q, ob_s, bv_d, nI_1]
    cases h1 : tb s j with
    | true =>
      rw [if_neg (show ¬ (nI s >>> (nI j &&& 31)) &&& 1 = 0 from by rw [z_shr1 (by omega) hj h1]; decide)]
      rw [agf_t h1] at fin
      exact fin
    | false =>
      obtain ⟨y1, y2, y3⟩ := y_add s (by omega) j hj h1
      have hpw := (y_pw j hj).1
      rw [if_pos (z_shr0 (by omega) hj h1), gainM hn hc hj (by omega), ob_s, z_or s (by omega) j hj h1, in_bnd (vp_in_nI y1 (by decide)), gd_t, nI_clamp (by omega), (hw _ (show s < s + 2 ^ j by omega) y1).1, nI_add]
      rw [agf_f h1] at fin
      exact fin
  · unfold fX10_order_L2
    dsimp only [un2]
    rw [if_pos (show (8 : Int32) ≤ nI 8 from by decide)]
theorem agreeM (hn : nts ma pa pb c) (hc : c ≤ 100) (ar : Nat → Int32) :
    ∃ ag w, aok pa pb c ag 0 ∧ it (fX10_order_L1 (nI c) ma) 100000 (254, upd ar 255 0) = some w ∧ ∀ t, t < 256 → w t = nI (ag t) := by
  have L := it_inv (f := fX10_order_L1 (nI c) ma) (fun k u => u.1 = iI (254 - (k : Int)) ∧ ∃ ag, aok pa pb c ag (255 - k) ∧ ∀ t, 255 - k ≤ t → t < 256 → u.2 t = nI (ag t)) (fun w => ∃ ag, aok pa pb c ag 0 ∧ ∀ t, t < 256 → w t = nI (ag t)) 255 (by decide) (254, upd ar 255 0) ⟨show (254 : Int32) = iI (254 - ((0 : Nat) : Int)) from by decide, fun _ => 0, ⟨rfl, fun t h1 h2 => absurd h1 (by omega)⟩, ?_⟩ ?_ ?_
  · obtain ⟨w, e2, ag, h1, h2⟩ := L
    exact ⟨ag, w, h1, e2, h2⟩
  · intro t h1 h2
    have : t = 255 := by omega
    subst this
    rfl
  · rintro k ⟨u1, u2⟩ hk ⟨q1, ag, q2, q3⟩
    dsimp only at q1 q3
    obtain ⟨s, hs, hsk⟩ : ∃ s, s < 255 ∧ 255 - k = s + 1 := ⟨254 - k, by omega, by omega⟩
    have e1 : u1 = nI s := by
      rw [q1, nI_i]
      exact congrArg iI (by omega)
    subst e1
    rw [hsk] at q2 q3
    have hw : ∀ t, s < t → t < 256 → u2 t = nI (ag t) ∧ ag t ≤ 800 := by
      intro t h1 h2
      refine ⟨q3 t (by omega) h2, ?_⟩
      have := aok_b q2 (show s + 1 ≤ t by omega) h2
      omega
    unfold fX10_order_L1
    dsimp only [un2]
    rw [if_neg (nI_pos (by omega)), agree2 hn hc hs hw, ob_s, in_bnd (vp_in_nI (show s < 256 by omega) (by decide)), gd_t, nI_clamp (by omega), bv_d, bv_d]
    refine ⟨_, rfl, ?_, fun t => if t = s then fx (agf pa pb c ag s) 8 else ag t, ?_, ?_⟩
    · show nI s + -1 = _
      rw [nI_i, show (-1 : Int32) = iI (-1) from by decide, iI_add]
      exact congrArg iI (by omega)
    · rw [show 255 - (k + 1) = s by omega]
      exact aok_s q2 hc hs
    · intro t h1 h2
      show upd u2 s _ t = _
      rw [upd_e]
      dsimp only
      by_cases q : t = s
      · rw [if_pos q, if_pos q]
      · rw [if_neg q, if_neg q]; exact q3 t (by omega) h2
  · rintro ⟨u1, u2⟩ ⟨q1, ag, q2, q3⟩
    dsimp only at q1 q3
    subst q1
    unfold fX10_order_L1
    dsimp only [un2]
    rw [if_pos (show iI (254 - ((255 : Nat) : Int)) < 0 from by decide)]
    exact ⟨_, rfl, ag, q2, fun t ht => q3 t (by omega) ht⟩
end Sheets
