/-! matched: the class's keys -/
abbrev uU : Nat := 1152921504606846976
theorem uU_l : (1152921504606846976 : Int64) = lN uU := rfl
def cv : Option Nat → Int32
  | none => -1
  | some k => nI k
theorem nI_m1 {k : Nat} (h : k < 2 ^ 31) : ¬ nI k = -1 := by
  intro q
  have q2 := congrArg Int32.toInt q
  rw [nI_toInt h, show (-1 : Int32).toInt = -1 from by decide] at q2
  omega
def brf (C : Nat → Option Nat) (kf : Nat → Nat) (e s j : Nat) : Option Nat :=
  if tb s j = true ∧ kf (s - 2 ^ j) ≠ uU then (match C j with
    | none => none
    | some c => some (kf (s - 2 ^ j) + (c * 16 ^ 8 + (j + 1) * 16 ^ (7 - e)))) else none
def br (C : Nat → Option Nat) (A : Nat) (kf : Nat → Nat) (e s : Nat) : Nat := fm (brf C kf e s) (if kf s = uU then uU else kf s + A * 16 ^ 8) 8
theorem brf_n1 {C : Nat → Option Nat} {kf : Nat → Nat} {e s j : Nat} (h : tb s j = false) : brf C kf e s j = none := by
  unfold brf
  rw [if_neg (fun q => by rw [h] at q; exact absurd q.1 (by decide))]
theorem brf_n2 {C : Nat → Option Nat} {kf : Nat → Nat} {e s j : Nat} (h : C j = none) : brf C kf e s j = none := by
  unfold brf
  rw [h]
  split <;> rfl
theorem brf_n3 {C : Nat → Option Nat} {kf : Nat → Nat} {e s j : Nat} (h : kf (s - 2 ^ j) = uU) : brf C kf e s j = none := by
  unfold brf
  rw [if_neg (fun q => q.2 h)]
theorem brf_s {C : Nat → Option Nat} {kf : Nat → Nat} {e s j c : Nat} (h1 : tb s j = true) (h2 : C j = some c) (h3 : kf (s - 2 ^ j) ≠ uU) : brf C kf e s j = some (kf (s - 2 ^ j) + (c * 16 ^ 8 + (j + 1) * 16 ^ (7 - e))) := by
  unfold brf
  rw [if_pos ⟨h1, h3⟩, h2]
theorem brf_of {C : Nat → Option Nat} {kf : Nat → Nat} {e s j v : Nat} (h : brf C kf e s j = some v) : tb s j = true ∧ kf (s - 2 ^ j) ≠ uU ∧ ∃ c, C j = some c ∧ v = kf (s - 2 ^ j) + (c * 16 ^ 8 + (j + 1) * 16 ^ (7 - e)) := by
  cases h1 : tb s j with
  | false => rw [brf_n1 h1] at h; cases h
  | true =>
    by_cases h3 : kf (s - 2 ^ j) = uU
    · rw [brf_n3 h3] at h; cases h
    · cases h2 : C j with
      | none => rw [brf_n2 h2] at h; cases h
      | some c =>
        rw [brf_s h1 h2 h3] at h
        exact ⟨rfl, h3, c, rfl, (Option.some.inj h).symm⟩
theorem br_cases (C : Nat → Option Nat) (A : Nat) (kf : Nat → Nat) (e s : Nat) : br C A kf e s = uU ∨ (kf s ≠ uU ∧ br C A kf e s = kf s + A * 16 ^ 8) ∨ ∃ j c, j < 8 ∧ tb s j = true ∧ kf (s - 2 ^ j) ≠ uU ∧ C j = some c ∧ br C A kf e s = kf (s - 2 ^ j) + (c * 16 ^ 8 + (j + 1) * 16 ^ (7 - e)) := by
  rcases fm_at (brf C kf e s) (if kf s = uU then uU else kf s + A * 16 ^ 8) 8 with h | ⟨j, hj, h⟩
  · by_cases q : kf s = uU
    · rw [if_pos q] at h
      refine Or.inl ?_
      unfold br
      rw [if_pos q]; exact h
    · rw [if_neg q] at h
      refine Or.inr (Or.inl ⟨q, ?_⟩)
      unfold br
      rw [if_neg q]; exact h
  · obtain ⟨h1, h2, c, h3, h4⟩ := brf_of h
    exact Or.inr (Or.inr ⟨j, c, hj, h1, h2, h3, h4⟩)
theorem br_le1 {C : Nat → Option Nat} {A : Nat} {kf : Nat → Nat} {e s : Nat} (h : kf s ≠ uU) : br C A kf e s ≤ kf s + A * 16 ^ 8 := by
  have q := fm_le0 (brf C kf e s) (if kf s = uU then uU else kf s + A * 16 ^ 8) 8
  unfold br
  rw [if_neg h] at q ⊢
  exact q
theorem br_le2 {C : Nat → Option Nat} {A : Nat} {kf : Nat → Nat} {e s j c : Nat} (hj : j < 8) (h1 : tb s j = true) (h2 : C j = some c) (h3 : kf (s - 2 ^ j) ≠ uU) : br C A kf e s ≤ kf (s - 2 ^ j) + (c * 16 ^ 8 + (j + 1) * 16 ^ (7 - e)) :=
  fm_le 8 j _ hj (brf_s h1 h2 h3)
theorem e168 : (2 : Nat) ^ 32 = 16 ^ 8 := by decide
theorem mul9 {j e : Nat} (hj : j < 8) (he : e < 8) : (j + 1) * 16 ^ (7 - e) ≤ 2147483648 := by
  have h1 := (p_16 e he).2
  have h2 := Nat.mul_le_mul (show j + 1 ≤ 8 by omega) h1
  omega
theorem bring2 {C : Nat → Option Nat} {kf : Nat → Nat} {f : Nat → Int64} {costs : Nat → Int32} {e s b v0 : Nat} (he : e < 8) (hs : s < 256) (hk : ∀ t, t ≤ s → f t = lN (kf t)) (hb : ∀ t, t < 256 → kf t = uU ∨ kf t ≤ b) (hb2 : b ≤ 4000000000000000) (hc : ∀ j, j < 8 → costs j = cv (C j) ∧ ∀ c, C j = some c → c ≤ 101000) (hv0 : v0 ≤ uU) :
    it (fX3_bringIn_L2 (nI s) costs f (4 * (7 - nI e))) 100000 (lN v0, 0) = some (lN (fm (brf C kf e s) v0 8)) := by
  refine it_loop (st := fun j => (lN (fm (brf C kf e s) v0 j), nI j)) 8 (by decide) (fun j hj => ?_) ?_
  · unfold fX3_bringIn_L2
    dsimp only [un2]
    rw [if_neg (show ¬ (8 : Int32) ≤ nI j from nI_ge hj (by decide))]
    cases h1 : tb s j with
    | false => rw [if_pos (z_and0 hs hj h1), ob_s, bv_d, nI_1, fm_n (brf_n1 h1)]
    | true =>
      rw [if_neg (z_and1 hs hj h1), in_bnd (vp_in_nI hj (by decide)), nI_clamp (by omega), (hc j hj).1]
      cases h2 : C j with
      | none => rw [gd_t, if_pos (show cv none = -1 from rfl), ob_s, bv_d, nI_1, fm_n (brf_n2 h2)]
      | some c =>
        have c1 := (hc j hj).2 c h2
        have t1 : s - 2 ^ j ≤ s := Nat.sub_le _ _
        rw [gd_t, if_neg (show ¬ cv (some c) = -1 from nI_m1 (by omega)), z_xor s hs j hj h1, in_bnd (vp_in_nI (show s - 2 ^ j < 256 by omega) (by decide)), nI_clamp (by omega), hk _ t1, gd_t, bv_d, uU_l]
        have l0 := fm_le0 (brf C kf e s) v0 j
        rcases hb (s - 2 ^ j) (by omega) with h3 | h3
        · rw [if_pos ((lc_eq _ _).mpr (by rw [h3])), ob_s, bv_d, nI_1, fm_n (brf_n3 h3)]
        · have h3' : kf (s - 2 ^ j) ≠ uU := by unfold uU; omega
          have hne : ¬ lg_cmp (lN (kf (s - 2 ^ j))) (lN uU) = 0 := fun q => h3' ((pk_lEQ (by omega) (by unfold uU; omega)).mp ((lc_eq _ _).mp q))
          rw [if_neg hne, gd_t, bv_d, ob_s, bv_d, nI_1, fm_s (brf_s h1 h2 h3')]
          have m9 := mul9 hj he
          have ec : (lN (kf (s - 2 ^ j)) + (Int32.toInt64 (cv (some c)) <<< (Int32.toInt64 32 &&& 63))) + ((Int32.toInt64 (nI j) + 1) <<< (Int32.toInt64 (4 * (7 - nI e)) &&& 63)) = lN (kf (s - 2 ^ j) + (c * 16 ^ 8 + (j + 1) * 16 ^ (7 - e))) := by
            rw [show cv (some c) = nI c from rfl, nI_l (by omega), nI_l (by omega), l_shl _ _ 32 s_32, lN_1, l_shl _ _ _ (s_4 e he), (p_16 e he).1, lN_add, lN_add, e168, Nat.add_assoc]
          rw [ec]
          by_cases q : kf (s - 2 ^ j) + (c * 16 ^ 8 + (j + 1) * 16 ^ (7 - e)) < fm (brf C kf e s) v0 j
          · rw [if_pos ((pk_lLT (by omega) (by unfold uU at hv0; omega)).mpr q), if_pos q]
          · rw [if_neg (fun q2 => q ((pk_lLT (by omega) (by unfold uU at hv0; omega)).mp q2)), if_neg q]
  · unfold fX3_bringIn_L2
    dsimp only [un2]
    rw [if_pos (show (8 : Int32) ≤ nI 8 from by decide)]
theorem bringX {C : Nat → Option Nat} {kf : Nat → Nat} {f : Nat → Int64} {costs : Nat → Int32} {e b A : Nat} (he : e < 8) (hA : A ≤ 1000) (hk : ∀ t, t < 256 → f t = lN (kf t)) (hb : ∀ t, t < 256 → kf t = uU ∨ kf t ≤ b) (hb2 : b ≤ 4000000000000000) (hc : ∀ j, j < 8 → costs j = cv (C j) ∧ ∀ c, C j = some c → c ≤ 101000) :
    ∃ f', fX3_bringIn (4 * (7 - nI e)) (nI A) costs f = some f' ∧ ∀ t, t < 256 → f' t = lN (br C A kf e t) := by
  unfold fX3_bringIn
  have L := it_inv (f := fX3_bringIn_L1 (nI A) costs (4 * (7 - nI e))) (fun k v => v.1 = iI (255 - (k : Int)) ∧ ∀ t, t < 256 → v.2 t = lN (if 256 ≤ t + k then br C A kf e t else kf t)) (fun g => ∀ t, t < 256 → g t = lN (br C A kf e t)) 256 (by decide) (255, f) ⟨show (255 : Int32) = iI (255 - ((0 : Nat) : Int)) from by decide, fun t ht => by rw [if_neg (by omega)]; exact hk t ht⟩ ?_ ?_
  · obtain ⟨g, h1, h2⟩ := L
    rw [h1, ob_s]
    exact ⟨g, rfl, h2⟩
  · rintro k ⟨u1, u2⟩ hk2 ⟨h1, h2⟩
    dsimp only at h1 h2
    obtain ⟨s, rfl⟩ : ∃ s, k = 255 - s := ⟨255 - k, by omega⟩
    obtain ⟨s', hs', es⟩ : ∃ s', s' < 256 ∧ 255 - (255 - s) = 255 - (255 - s') ∧ 255 - s = 255 - s' ∧ s' ≤ 255 := ⟨255 - (255 - s), by omega, by omega, by omega, by omega⟩
    rw [es.2.1] at h1 h2 hk2 ⊢
    clear es
    have e1 : u1 = nI s' := by
      rw [h1, iI_nat (by omega)]
      exact congrArg nI (by omega)
    subst e1
    have hrd : ∀ t, t ≤ s' → u2 t = lN (kf t) := fun t ht => by rw [h2 t (by omega), if_neg (by omega)]
    unfold fX3_bringIn_L1
    dsimp only [un2]
    rw [if_neg (nI_pos (by omega)), in_bnd (vp_in_nI hs' (by decide)), nI_clamp (by omega)]
    simp only [gd_t, bv_d]
    rw [hrd s' (Nat.le_refl _), uU_l]
    have fin : ∀ v0 : Nat, v0 = (if kf s' = uU then uU else kf s' + A * 16 ^ 8) → v0 ≤ uU → ∃ v', (ob (it (fX3_bringIn_L2 (nI s') costs u2 (4 * (7 - nI e))) 100000 (lN v0, 0)) fun x26 => some (Sum.inr (α := Nat → Int64) (nI s' + (-1), vp_updL u2 s' x26))) = some (.inr v') ∧ v'.1 = iI (255 - ((255 - s' + 1 : Nat) : Int)) ∧ ∀ t, t < 256 → v'.2 t = lN (if 256 ≤ t + (255 - s' + 1) then br C A kf e t else kf t) := by
      intro v0 hv hvl
      rw [bring2 he hs' hrd hb hb2 hc hvl, ob_s]
      refine ⟨_, rfl, ?_, ?_⟩
      · show nI s' + (-1) = _
        rw [nI_i, show (-1 : Int32) = iI (-1) from by decide, iI_add]
        exact congrArg iI (by omega)
      · intro t ht
        show vp_updL u2 s' _ t = _
        rw [updL_e]
        by_cases q : t = s'
        · subst q
          rw [if_pos rfl, if_pos (by omega)]
          unfold br
          rw [← hv]
        · rw [if_neg q, h2 t ht]
          by_cases q2 : 256 ≤ t + (255 - s')
          · rw [if_pos q2, if_pos (by omega)]
          · rw [if_neg q2, if_neg (by omega)]
    rcases hb s' hs' with h3 | h3
    · rw [if_pos ((lc_eq _ _).mpr (by rw [h3])), ob_s]
      rw [h3]
      exact fin uU (by rw [if_pos h3]) (Nat.le_refl _)
    · have h3' : kf s' ≠ uU := by unfold uU; omega
      have hne : ¬ lg_cmp (lN (kf s')) (lN uU) = 0 := fun q => h3' ((pk_lEQ (by omega) (by unfold uU; omega)).mp ((lc_eq _ _).mp q))
      rw [if_neg hne, ob_s, nI_l (by omega), l_shl _ _ 32 s_32, lN_add, e168]
      exact fin _ (by rw [if_neg h3']) (by unfold uU; omega)
  · rintro ⟨u1, u2⟩ ⟨h1, h2⟩
    dsimp only at h1 h2
    subst h1
    refine ⟨u2, ?_, fun t ht => by rw [h2 t ht, if_pos (by omega)]⟩
    unfold fX3_bringIn_L1
    dsimp only [un2]
    rw [if_pos (show iI (255 - ((256 : Nat) : Int)) < 0 from by decide)]
def kk (C : Nat → Nat → Option Nat) (A : Nat) : Nat → Nat → Nat
  | 0, s => if s = 0 then 0 else uU
  | e + 1, s => br (C e) A (kk C A e) e s
section Keys
variable {C : Nat → Nat → Option Nat} {A n1 c0 : Nat}
theorem kk_b (hA : A ≤ 1000) (hC : ∀ i j c, i < c0 → C i j = some c → j < n1 ∧ c ≤ 101000) (h0 : c0 ≤ 8) : ∀ e, e ≤ c0 → ∀ s, s < 256 → kk C A e s = uU ∨ kk C A e s ≤ e * 433795991863296 := by
  intro e
  induction e with
  | zero =>
    intro _ s _
    by_cases h : s = 0
    · exact Or.inr (Nat.le_trans (Nat.le_of_eq (show kk C A 0 s = 0 from if_pos h)) (Nat.zero_le _))
    · exact Or.inl (show kk C A 0 s = uU from if_neg h)
  | succ e ih =>
    intro he s hs
    show br (C e) A (kk C A e) e s = uU ∨ br (C e) A (kk C A e) e s ≤ _
    rcases br_cases (C e) A (kk C A e) e s with h | ⟨h1, h2⟩ | ⟨j, c, hj, h1, h2, h3, h4⟩
    · exact Or.inl h
    · refine Or.inr ?_
      have := (ih (by omega) s hs).resolve_left h1
      omega
    · refine Or.inr ?_
      have q := (ih (by omega) (s - 2 ^ j) (Nat.lt_of_le_of_lt (Nat.sub_le _ _) hs)).resolve_left h2
      have q2 := (hC e j c (by omega) h3).2
      have m9 := mul9 hj (show e < 8 by omega)
      omega
theorem kk_lim (hC : ∀ i j c, i < c0 → C i j = some c → j < n1 ∧ c ≤ 101000) (hn : n1 ≤ 8) : ∀ e, e ≤ c0 → ∀ s, s < 256 → kk C A e s ≠ uU → s < 2 ^ n1 := by
  intro e
  induction e with
  | zero =>
    intro _ s _ h
    by_cases q : s = 0
    · subst q; exact Nat.two_pow_pos n1
    · exact absurd (show kk C A 0 s = uU from if_neg q) h
  | succ e ih =>
    intro he s hs h
    rcases br_cases (C e) A (kk C A e) e s with h' | ⟨h1, h2⟩ | ⟨j, c, hj, h1, h2, h3, h4⟩
    · exact absurd h' h
    · exact ih (by omega) s hs h1
    · have q := ih (by omega) (s - 2 ^ j) (Nat.lt_of_le_of_lt (Nat.sub_le _ _) hs) h2
      obtain ⟨y1, y2, -⟩ := y_sub s hs j hj h1
      have := y_lim n1 (by omega) _ q j (hC e j c (by omega) h3).1 y2
      omega
theorem kk_0 (hA : A ≤ 1000) (hC : ∀ i j c, i < c0 → C i j = some c → j < n1 ∧ c ≤ 101000) (h0 : c0 ≤ 8) : ∀ e, e ≤ c0 → kk C A e 0 ≠ uU := by
  intro e
  induction e with
  | zero => intro _; unfold kk; rw [if_pos rfl]; unfold uU; omega
  | succ e ih =>
    intro he h
    have q := ih (by omega)
    have q1 := (kk_b hA hC h0 e (by omega) 0 (by omega)).resolve_left q
    have q2 := br_le1 (C := C e) (A := A) (e := e) q
    have q3 : br (C e) A (kk C A e) e 0 = uU := h
    unfold uU at q3
    omega
end Keys
