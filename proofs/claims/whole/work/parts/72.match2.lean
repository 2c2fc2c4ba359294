/-! matched: the class's best key -/
theorem fillX {C : Nat → Option Nat} {e c1 c2 : Nat} {xb xl xh xu : Int32} {a0 a1 a2 : Nat → Int32} (hcost : ∀ j, j < c1 → fX3_costOf (nI e) (nI j) xb xl xh xu 2 2 1 (nI c2) 16 a0 16 a1 6 a2 = some (cv (C j))) (hc1 : c1 ≤ 8) (hno : ∀ j, c1 ≤ j → C j = none) (co : Nat → Int32) :
    ∃ co', fX3_fillCosts (nI e) xb xl xh xu 2 2 (nI c1) 1 (nI c2) co 16 a0 16 a1 6 a2 = some co' ∧ ∀ j, j < 8 → co' j = cv (C j) := by
  unfold fX3_fillCosts
  have L := it_inv (f := fX3_fillCosts_L1 (nI c1) (nI e) xb xl xh xu 2 2 1 (nI c2) 16 a0 16 a1 6 a2) (fun k v => v.1 = nI k ∧ ∀ j, j < k → v.2 j = cv (C j)) (fun g => ∀ j, j < 8 → g j = cv (C j)) 8 (by decide) (0, co) ⟨rfl, fun j hj => absurd hj (Nat.not_lt_zero j)⟩ ?_ ?_
  · obtain ⟨g, h1, h2⟩ := L
    rw [h1, ob_s]
    exact ⟨g, rfl, h2⟩
  · rintro k ⟨u1, u2⟩ hk ⟨h1, h2⟩
    dsimp only at h1 h2
    subst h1
    unfold fX3_fillCosts_L1
    dsimp only [un2]
    rw [if_neg (show ¬ (8 : Int32) ≤ nI k from nI_ge hk (by decide)), tsize, ob_s, in_bnd (vp_in_nI hk (by decide)), nI_clamp (by omega)]
    simp only [gd_t, bv_d]
    have fin : ∃ v', (ob (some (cv (C k))) fun m6 => some (Sum.inr (α := Nat → Int32) (nI k + 1, upd u2 k m6))) = some (.inr v') ∧ v'.1 = nI (k + 1) ∧ ∀ j, j < k + 1 → v'.2 j = cv (C j) := by
      rw [ob_s]
      refine ⟨_, rfl, nI_1 k, ?_⟩
      intro j hj
      show upd u2 k _ j = _
      rw [upd_e]
      by_cases q : j = k
      · rw [if_pos q, q]
      · rw [if_neg q]; exact h2 j (by omega)
    by_cases q : c1 ≤ k
    · rw [if_pos (nI_le q (by omega))]
      rw [hno k q] at fin
      exact fin
    · rw [if_neg (nI_ge (by omega) (by omega)), hcost k (by omega), ob_s]
      exact fin
  · rintro ⟨u1, u2⟩ ⟨h1, h2⟩
    dsimp only at h1 h2
    subst h1
    refine ⟨u2, ?_, h2⟩
    unfold fX3_fillCosts_L1
    dsimp only [un2]
    rw [if_pos (show (8 : Int32) ≤ nI 8 from by decide)]
def lf (C : Nat → Nat → Option Nat) (A n1 c0 s : Nat) : Option Nat := if kk C A c0 s = uU then none else some (kk C A c0 s + (n1 - pcn s) * A * 16 ^ 8)
theorem leastKX {C : Nat → Nat → Option Nat} {A n1 c0 : Nat} {f : Nat → Int64} (hA : A ≤ 1000) (hC : ∀ i j c, i < c0 → C i j = some c → j < n1 ∧ c ≤ 101000) (h0 : c0 ≤ 8) (hn : n1 ≤ 8) (hk : ∀ t, t < 256 → f t = lN (kk C A c0 t)) :
    fX3_leastWithTheSecondsAlone (nI A) (nI n1) f = some (lN (fm (lf C A n1 c0) uU 256)) := by
  unfold fX3_leastWithTheSecondsAlone
  have L : it (fX3_leastWithTheSecondsAlone_L1 f (nI n1) (nI A)) 100000 (1152921504606846976, 0) = some (lN (fm (lf C A n1 c0) uU 256)) := by
    refine it_loop (st := fun s => (lN (fm (lf C A n1 c0) uU s), nI s)) 256 (by decide) (fun s hs => ?_) ?_
    · unfold fX3_leastWithTheSecondsAlone_L1
      dsimp only [un2]
      rw [if_neg (show ¬ (256 : Int32) ≤ nI s from nI_ge hs (by decide)), in_bnd (vp_in_nI hs (by decide)), nI_clamp (by omega)]
      simp only [gd_t]
      rw [hk s hs, uU_l]
      have l0 := fm_le0 (lf C A n1 c0) uU s
      by_cases h3 : kk C A c0 s = uU
      · rw [if_pos ((lc_eq _ _).mpr (by rw [h3])), ob_s, bv_d, nI_1, fm_n (show lf C A n1 c0 s = none by unfold lf; rw [if_pos h3])]
      · have h4 := (kk_b hA hC h0 c0 (Nat.le_refl _) s hs).resolve_left h3
        have hl := kk_lim hC hn c0 (Nat.le_refl _) s hs h3
        have hp := y_pc n1 (by omega) s hl
        have hm : (n1 - pcn s) * A ≤ 8 * 1000 := Nat.mul_le_mul (by omega) hA
        have hne : ¬ lg_cmp (lN (kk C A c0 s)) (lN uU) = 0 := fun q => h3 ((pk_lEQ (by omega) (by unfold uU; omega)).mp ((lc_eq _ _).mp q))
        rw [if_neg hne, tsize, ob_s, z_cnt s hs, ob_s, bv_d, bv_d, ob_s, bv_d, nI_1, pk_sub hp, nI_l (by omega), nI_l (by omega), lN_mul, l_shl _ _ 32 s_32, lN_add, e168, fm_s (show lf C A n1 c0 s = some (kk C A c0 s + (n1 - pcn s) * A * 16 ^ 8) by unfold lf; rw [if_neg h3])]
        by_cases q : kk C A c0 s + (n1 - pcn s) * A * 16 ^ 8 < fm (lf C A n1 c0) uU s
        · rw [if_pos ((pk_lLT (by omega) (by unfold uU at l0 ⊢; omega)).mpr q), if_pos q]
        · rw [if_neg (fun q2 => q ((pk_lLT (by omega) (by unfold uU at l0 ⊢; omega)).mp q2)), if_neg q]
    · unfold fX3_leastWithTheSecondsAlone_L1
      dsimp only [un2]
      rw [if_pos (show (256 : Int32) ≤ nI 256 from by decide)]
  rw [L, ob_s]
theorem bestKeyX {C : Nat → Nat → Option Nat} {A c0 c1 c2 : Nat} {xb xl xh xu : Int32} {a0 a1 a2 : Nat → Int32} (hA : A ≤ 1000) (hC : ∀ i j c, i < c0 → C i j = some c → j < c1 ∧ c ≤ 101000) (h0 : c0 ≤ 8) (h1 : c1 ≤ 8) (hcost : ∀ i j, i < c0 → j < c1 → fX3_costOf (nI i) (nI j) xb xl xh xu 2 2 1 (nI c2) 16 a0 16 a1 6 a2 = some (cv (C i j))) (hno : ∀ i j, c1 ≤ j → C i j = none) (co : Nat → Int32) (ke : Nat → Int64) :
    ∃ co' ke', fX3_bestKey xb xl xh xu (nI A) 2 (nI c0) 2 (nI c1) 1 (nI c2) co ke 16 a0 16 a1 6 a2 = some (lN (fm (lf C A c1 c0) uU 256), co', ke') := by
  unfold fX3_bestKey
  have L1 := it_inv (f := fX3_bestKey_L1) (fun k v => v.1 = nI k ∧ ∀ t, t < k → v.2 t = lN uU) (fun g => ∀ t, t < 256 → g t = lN uU) 256 (by decide) (0, ke) ⟨rfl, fun j hj => absurd hj (Nat.not_lt_zero j)⟩ ?_ ?_
  · obtain ⟨g, e1, e2⟩ := L1
    rw [e1, ob_s, in_bnd (show vp_in 0 256 from vp_in_nI (n := 0) (by decide) (by decide)), gd_t, bv_d, show Int32.toNatClampNeg 0 = 0 from by decide]
    have L2 := it_inv (f := fX3_bestKey_L2 (nI c0) xb xl xh xu 2 2 (nI c1) 1 (nI c2) 16 a0 16 a1 6 a2 (nI A)) (fun e v => v.1 = nI e ∧ ∀ t, t < 256 → v.2.2 t = lN (kk C A e t)) (fun r => ∀ t, t < 256 → r.2 t = lN (kk C A c0 t)) c0 (by omega) (0, co, vp_updL g 0 0) ⟨rfl, ?_⟩ ?_ ?_
    · obtain ⟨⟨r1, r2⟩, e3, e4⟩ := L2
      rw [e3, ob2_s, leastKX hA hC h0 h1 e4, ob_s]
      exact ⟨_, _, rfl⟩
    · intro t ht
      show vp_updL g 0 0 t = _
      rw [updL_e]
      unfold kk
      by_cases q : t = 0
      · rw [if_pos q, if_pos q]; rfl
      · rw [if_neg q, if_neg q]; exact e2 t ht
    · rintro e ⟨u1, u2, u3⟩ he ⟨q1, q2⟩
      dsimp only at q1 q2
      subst q1
      unfold fX3_bestKey_L2
      dsimp only [un3]
      obtain ⟨co', f1, f2⟩ := fillX (C := C e) (fun j hj => hcost e j he hj) h1 (hno e) u2
      have hb := kk_b (A := A) hA hC h0 e (by omega)
      obtain ⟨ke', f3, f4⟩ := bringX (C := C e) (kf := kk C A e) (costs := co') (b := e * 433795991863296) (show e < 8 by omega) hA q2 hb (by omega) (fun j hj => ⟨f2 j hj, fun c hc => (hC e j c he hc).2⟩)
      rw [tsize, ob_s, if_neg (nI_ge he (by omega)), if_neg (show ¬ (8 : Int32) ≤ nI e from nI_ge (show e < 8 by omega) (by decide)), f1, ob_s, f3, ob_s, bv_d]
      exact ⟨_, rfl, nI_1 e, f4⟩
    · rintro ⟨u1, u2, u3⟩ ⟨q1, q2⟩
      dsimp only at q1 q2
      subst q1
      unfold fX3_bestKey_L2
      dsimp only [un3]
      rw [tsize, ob_s, if_pos (nI_le (Nat.le_refl _) (by omega))]
      exact ⟨_, rfl, q2⟩
  · rintro k ⟨u1, u2⟩ hk ⟨q1, q2⟩
    dsimp only at q1 q2
    subst q1
    unfold fX3_bestKey_L1
    dsimp only [un2]
    rw [if_neg (show ¬ (256 : Int32) ≤ nI k from nI_ge hk (by decide)), in_bnd (vp_in_nI hk (by decide)), nI_clamp (by omega), gd_t, bv_d, bv_d]
    refine ⟨_, rfl, nI_1 k, ?_⟩
    intro t ht
    show vp_updL u2 k _ t = _
    rw [updL_e]
    by_cases q : t = k
    · rw [if_pos q]; rfl
    · rw [if_neg q]; exact q2 t (by omega)
  · rintro ⟨u1, u2⟩ ⟨q1, q2⟩
    dsimp only at q1 q2
    subst q1
    unfold fX3_bestKey_L1
    dsimp only [un2]
    rw [if_pos (show (256 : Int32) ≤ nI 256 from by decide)]
    exact ⟨_, rfl, q2⟩
