/-! matched -/
def admM (C : Nat → Nat → Option Nat) (n1 i s d : Nat) : Prop := d = 0 ∨ ∃ j c, d = j + 1 ∧ j < n1 ∧ tb s j = false ∧ C i j = some c
def wtM (C : Nat → Nat → Option Nat) (A i _s d : Nat) : Nat := if d = 0 then A else (C i (d - 1)).getD 0
def nxM (s d : Nat) : Nat := if d = 0 then s else s + 2 ^ (d - 1)
theorem nxM_s (s j : Nat) : nxM s (j + 1) = s + 2 ^ j := by
  unfold nxM; rw [if_neg (Nat.succ_ne_zero j), Nat.add_sub_cancel]
theorem wtM_s {C : Nat → Nat → Option Nat} {A i s j c : Nat} (h : C i j = some c) : wtM C A i s (j + 1) = c := by
  unfold wtM; rw [if_neg (Nat.succ_ne_zero j), Nat.add_sub_cancel, h]; rfl
section Match
variable {C : Nat → Nat → Option Nat} {A c0 c1 : Nat}
abbrev GM (C : Nat → Nat → Option Nat) (A c0 c1 : Nat) (i s : Nat) : Nat := Gm C A c0 c1 (c0 - i) s
theorem Gm_s {i : Nat} (h : i < c0) (s : Nat) : GM C A c0 c1 i s = fm (gfn (C i) (Gm C A c0 c1 (c0 - (i + 1))) s) (A + Gm C A c0 c1 (c0 - (i + 1)) s) c1 := by
  have e : c0 - i = (c0 - (i + 1)) + 1 := by omega
  unfold GM
  rw [e]
  show fm (gfn (C (c0 - (c0 - (i + 1) + 1))) (Gm C A c0 c1 (c0 - (i + 1))) s) (A + Gm C A c0 c1 (c0 - (i + 1)) s) c1 = _
  rw [show c0 - (c0 - (i + 1) + 1) = i by omega]
theorem best_ok (hA : A ≤ 1000) (hC : ∀ i j c, i < c0 → C i j = some c → j < c1 ∧ c ≤ 101000) (h0 : c0 ≤ 8) (h1 : c1 ≤ 8) :
    ∃ gr : Nat → Nat → Nat, (∀ i s, i < c0 → s < 2 ^ c1 → isG (admM C c1) (wtM C A) nxM (GM C A c0 c1) i s (gr i s)) ∧ fm (lf C A c1 c0) uU 256 = GM C A c0 c1 0 0 * 16 ^ 8 + Rw 16 gr nxM c0 0 0 := by
  have hp := y_pn c1 (by omega)
  have kb := kk_b (A := A) hA hC h0
  have kl := kk_lim (A := A) hC h1
  refine ways (B := 16) (N := c0) (by decide) h0 (V := fun _ s => s < 2 ^ c1) (adm := admM C c1) (wt := wtM C A) (nx := nxM) (G := GM C A c0 c1) (K := kk C A) (rc := fun i s => s < 256 ∧ kk C A i s ≠ uU) (s0 := 0) (Nat.two_pow_pos c1) ?_ ?_ ?_ ?_ ?_ ?_ ?_ ?_ ?_ ?_
  · rintro i s d hi hs (rfl | ⟨j, c, rfl, hj, ht, hc⟩)
    · exact hs
    · rw [nxM_s]; exact y_lim c1 (by omega) s hs j hj ht
  · rintro i s d (rfl | ⟨j, c, rfl, hj, ht, hc⟩) <;> omega
  · rintro i s d hi hs (rfl | ⟨j, c, rfl, hj, ht, hc⟩)
    · rw [Gm_s hi]; exact fm_le0 _ _ _
    · rw [Gm_s hi, nxM_s, wtM_s hc]; exact fm_le c1 j _ hj (gfn_s ht hc)
  · intro i s hi hs
    rcases fm_at (gfn (C i) (Gm C A c0 c1 (c0 - (i + 1))) s) (A + Gm C A c0 c1 (c0 - (i + 1)) s) c1 with h | ⟨j, hj, h⟩
    · exact ⟨0, Or.inl rfl, by rw [Gm_s hi]; exact h⟩
    · obtain ⟨q1, c, q2, q3⟩ := gfn_of h
      refine ⟨j + 1, Or.inr ⟨j, c, rfl, hj, q1, q2⟩, ?_⟩
      rw [Gm_s hi, nxM_s, wtM_s q2]
      exact q3
  · rintro s ⟨hs, h⟩
    by_cases q : s = 0
    · subst q; exact ⟨rfl, rfl⟩
    · exact absurd (show kk C A 0 s = uU from if_neg q) h
  · exact ⟨by decide, kk_0 hA hC h0 0 (by omega)⟩
  · rintro i t hi ⟨ht, h⟩
    rcases br_cases (C i) A (kk C A i) i t with q | ⟨q1, q2⟩ | ⟨j, c, hj, q1, q2, q3, q4⟩
    · exact absurd q h
    · refine ⟨t, 0, ⟨ht, q1⟩, Or.inl rfl, rfl, ?_⟩
      show br (C i) A (kk C A i) i t = _
      rw [q2, Nat.zero_mul, Nat.add_zero]
      rfl
    · obtain ⟨y1, y2, -⟩ := y_sub t ht j hj q1
      refine ⟨t - 2 ^ j, j + 1, ⟨Nat.lt_of_le_of_lt (Nat.sub_le _ _) ht, q2⟩, Or.inr ⟨j, c, rfl, (hC i j c hi q3).1, y2, q3⟩, ?_, ?_⟩
      · rw [nxM_s]; omega
      · show br (C i) A (kk C A i) i t = _
        rw [q4, wtM_s q3]
  · rintro i s d hi ⟨hs, h⟩ (rfl | ⟨j, c, rfl, hj, ht, hc⟩)
    · have q1 := br_le1 (C := C i) (A := A) (e := i) h
      have q2 := (kb i (by omega) s hs).resolve_left h
      have e : kk C A (i + 1) (nxM s 0) = br (C i) A (kk C A i) i s := rfl
      refine ⟨⟨hs, ?_⟩, ?_⟩
      · rw [e]; unfold uU; omega
      · rw [e, Nat.zero_mul, Nat.add_zero]; exact q1
    · obtain ⟨y1, y2, -⟩ := y_add s hs j (by omega) ht
      have es : s + 2 ^ j - 2 ^ j = s := Nat.add_sub_cancel _ _
      have q1 := br_le2 (C := C i) (A := A) (kf := kk C A i) (e := i) (s := s + 2 ^ j) (j := j) (c := c) (by omega) y2 hc (by rw [es]; exact h)
      have q2 := (kb i (by omega) s hs).resolve_left h
      have q3 := (hC i j c hi hc).2
      have m9 := mul9 (show j < 8 by omega) (show i < 8 by omega)
      rw [es] at q1
      rw [nxM_s, wtM_s hc]
      have e : kk C A (i + 1) (s + 2 ^ j) = br (C i) A (kk C A i) i (s + 2 ^ j) := rfl
      refine ⟨⟨y1, ?_⟩, ?_⟩
      · rw [e]; unfold uU; omega
      · rw [e]; exact q1
  · rintro t ⟨ht, h⟩
    refine fm_le 256 t _ ht ?_
    unfold lf
    rw [if_neg h, Nat.mul_comm (c1 - pcn t) A]
    unfold GM
    rw [Nat.sub_self]
    rfl
  · rcases fm_at (lf C A c1 c0) uU 256 with h | ⟨t, ht, h⟩
    · exfalso
      have q0 := kk_0 hA hC h0 c0 (Nat.le_refl _)
      have q1 := (kb c0 (Nat.le_refl _) 0 (by decide)).resolve_left q0
      have hm : (c1 - pcn 0) * A ≤ 8 * 1000 := Nat.mul_le_mul (by omega) hA
      have q2 := fm_le (f := lf C A c1 c0) (v := uU) 256 0 (kk C A c0 0 + (c1 - pcn 0) * A * 16 ^ 8) (by decide) (by unfold lf; rw [if_neg q0])
      rw [h] at q2
      unfold uU at q2
      omega
    · have hr : kk C A c0 t ≠ uU := by
        intro q
        unfold lf at h
        rw [if_pos q] at h
        cases h
      refine ⟨t, ⟨ht, hr⟩, ?_⟩
      unfold lf at h
      rw [if_neg hr, Nat.mul_comm (c1 - pcn t) A] at h
      unfold GM
      rw [Nat.sub_self]
      exact (Option.some.inj h).symm
def tlM (gr : Nat → Nat → Nat) : Nat → Int32
  | 0 => -1
  | k + 1 => nI (gr k (ph gr nxM 0 k)) - 1
theorem tellM {c2 : Nat} {mb ml mh mu : Int32} {le wo b2 : Nat → Int32} (hA : A ≤ 1000) (hC : ∀ i j c, i < c0 → C i j = some c → j < c1 ∧ c ≤ 101000) (h0 : c0 ≤ 8) (h1 : c1 ≤ 8) (hcost : ∀ i j, i < c0 → j < c1 → fX10_costOf (nI i) (nI j) mb ml mh mu (nI c2) le wo b2 = some (cv (C i j)))
    {w : Nat → Int32} (hw : ∀ i t, i ≤ c0 → t < 2 ^ c1 → w (256 * i + t) = nI (Gm C A c0 c1 (c0 - i) t)) {gr : Nat → Nat → Nat} (hg : ∀ i s, i < c0 → s < 2 ^ c1 → isG (admM C c1) (wtM C A) nxM (GM C A c0 c1) i s (gr i s)) (hv : ∀ k, k < c0 → ph gr nxM 0 k < 2 ^ c1) {e : Nat} (he : e < c0) :
    it (fX10_matched_L1 (nI e) w (nI A) mb ml mh mu (nI c2) le wo b2) 100000 (0, -1, 0) = some (nI (gr e (ph gr nxM 0 e)) - 1) := by
  have hp := y_pn c1 (by omega)
  have bG := fun k s => Gm_b (C := C) (A := A) (n0 := c0) (n1 := c1) hA h1 k s
  refine it_loop (st := fun k => (nI (ph gr nxM 0 k), tlM gr k, nI k)) (e + 1) (by omega) (fun k hk => ?_) ?_
  · have hkc : k < c0 := by omega
    have hs := hv k hkc
    have hG := hg k _ hkc hs
    have eph : ph gr nxM 0 (k + 1) = nxM (ph gr nxM 0 k) (gr k (ph gr nxM 0 k)) := rfl
    have etl : tlM gr (k + 1) = nI (gr k (ph gr nxM 0 k)) - 1 := rfl
    rw [eph, etl]
    generalize ph gr nxM 0 k = s at hs hG ⊢
    generalize gr k s = d at hG ⊢
    obtain ⟨⟨ha, hq⟩, hl⟩ := hG
    have b1 := bG (c0 - k) s
    have b2' := bG (c0 - (k + 1)) s
    unfold fX10_matched_L1
    dsimp only [un3]
    have ix0 : (256 * nI k) + nI s = nI (256 * k + s) := by rw [show (256 : Int32) = nI 256 from rfl, pk_mul, nI_add]
    have ix1 : (256 * (nI k + 1)) + nI s = nI (256 * (k + 1) + s) := by rw [nI_1, show (256 : Int32) = nI 256 from rfl, pk_mul, nI_add]
    rw [if_neg (nI_nlt (show k ≤ e by omega) (by omega)), ix0, ix1, in_bnd (vp_in_nI (show 256 * k + s < 2304 by omega) (by decide)), in_bnd (vp_in_nI (show 256 * (k + 1) + s < 2304 by omega) (by decide)), gd_t, bv_d, gd_t, nI_clamp (by omega), nI_clamp (by omega), hw k s (by omega) hs, hw (k + 1) s (by omega) hs, nI_add]
    by_cases q : A + Gm C A c0 c1 (c0 - (k + 1)) s = Gm C A c0 c1 (c0 - k) s
    · have hd : d = 0 := by
        rcases Nat.eq_zero_or_pos d with h | h
        · exact h
        · exact absurd ⟨Or.inl rfl, q.symm⟩ (hl 0 h)
      subst hd
      rw [q, if_pos rfl, ob2_s, bv_d, nI_1]
      rfl
    · rcases ha with rfl | ⟨j, c, rfl, hj, ht, hc⟩
      · exact absurd hq.symm q
      · rw [nxM_s, wtM_s hc] at hq
        have inner : it (fX10_matched_L2 (nI s) (nI k) mb ml mh mu (nI c2) le wo b2 w (nI (Gm C A c0 c1 (c0 - k) s))) 100000 0 = some (nI j) := by
          refine it_loop (st := fun m => nI m) j (by omega) (fun m hm => ?_) ?_
          · unfold fX10_matched_L2
            cases h3 : tb s m with
            | true => rw [if_pos (z_shr1 (by omega) (by omega) h3), bv_d, nI_1]
            | false =>
              rw [if_neg (show ¬ (nI s >>> (nI m &&& 31)) &&& 1 = 1 from by rw [z_shr0 (by omega) (by omega) h3]; decide), hcost k m hkc (by omega), ob_s, ob_s]
              cases h4 : C k m with
              | none => rw [if_pos (show cv none = -1 from rfl), bv_d, nI_1]
              | some c' =>
                have c9 := (hC k m c' hkc h4).2
                have hlm := y_lim c1 (by omega) s hs m (by omega) h3
                have b3 := bG (c0 - (k + 1)) (s + 2 ^ m)
                have ix : (256 * (nI k + 1)) + (nI s ||| ((1 : Int32) <<< (nI m &&& 31))) = nI (256 * (k + 1) + (s + 2 ^ m)) := by
                  rw [z_or s (by omega) m (by omega) h3, nI_1, show (256 : Int32) = nI 256 from rfl, pk_mul, nI_add]
                have hne : ¬ nI (c' + Gm C A c0 c1 (c0 - (k + 1)) (s + 2 ^ m)) = nI (Gm C A c0 c1 (c0 - k) s) := by
                  intro q2
                  refine hl (m + 1) (by omega) ⟨Or.inr ⟨m, c', rfl, by omega, h3, h4⟩, ?_⟩
                  rw [nxM_s, wtM_s h4]
                  exact ((nI_eq (by omega) (by omega)).mp q2).symm
                rw [if_neg (show ¬ cv (some c') = -1 from nI_m1 (by omega)), ix, in_bnd (vp_in_nI (show 256 * (k + 1) + (s + 2 ^ m) < 2304 by omega) (by decide)), gd_t, nI_clamp (by omega), hw (k + 1) _ (by omega) hlm, show cv (some c') = nI c' from rfl, nI_add, if_neg hne, bv_d, nI_1]
          · unfold fX10_matched_L2
            have c9 := (hC k j c hkc hc).2
            have hlm := y_lim c1 (by omega) s hs j hj ht
            have ix : (256 * (nI k + 1)) + (nI s ||| ((1 : Int32) <<< (nI j &&& 31))) = nI (256 * (k + 1) + (s + 2 ^ j)) := by
              rw [z_or s (by omega) j (by omega) ht, nI_1, show (256 : Int32) = nI 256 from rfl, pk_mul, nI_add]
            rw [if_neg (show ¬ (nI s >>> (nI j &&& 31)) &&& 1 = 1 from by rw [z_shr0 (by omega) (by omega) ht]; decide), hcost k j hkc hj, ob_s, ob_s, hc, if_neg (show ¬ cv (some c) = -1 from nI_m1 (by omega)), ix, in_bnd (vp_in_nI (show 256 * (k + 1) + (s + 2 ^ j) < 2304 by omega) (by decide)), gd_t, nI_clamp (by omega), hw (k + 1) _ (by omega) hlm, show cv (some c) = nI c from rfl, nI_add]
            rw [if_pos (show nI (c + Gm C A c0 c1 (c0 - (k + 1)) (s + 2 ^ j)) = nI (Gm C A c0 c1 (c0 - k) s) from congrArg nI hq.symm)]
        rw [if_neg (fun q2 => q ((nI_eq (by omega) (by omega)).mp q2)), inner, ob_s, bv_d, ob2_s, bv_d, nI_1, z_or s (by omega) j (by omega) ht, nxM_s, nI_pred]
  · unfold fX10_matched_L1
    dsimp only [un3]
    rw [if_pos (nI_lt (show e < e + 1 by omega) (by omega))]
    rfl
end Match
theorem wi_m1 : ∀ c, c < 9 → wi (-1) (-1) (nI c - 1) = true := by decide +kernel
theorem wi_n1 {x : Int32} (h : ¬ x = -1) (y : Int32) : wi x (-1) y = wi x 0 y := by
  unfold wi
  have e : ((-1 : Int32) ≤ x) = (0 ≤ x) := by
    apply propext
    rw [Int32.le_iff_toInt_le, Int32.le_iff_toInt_le, show (-1 : Int32).toInt = -1 from by decide, show (0 : Int32).toInt = 0 from by decide]
    have : x.toInt ≠ -1 := fun q => h (Int32.toInt_inj.mp (by rw [q]; decide))
    omega
  simp only [e]
theorem matched_ok (x1 : Int32) {xb xs xl xh xu xa mb ms ml mh mu ma : Int32} (hs : R_set xb xs xl xh xu xa mb ms ml mh mu ma) {l0 : Int32} {a0 : Nat → Int32} {l1 : Int32} {a1 ed le wo : Nat → Int32} (he : R_edges l0 a0 l1 a1 ed le wo) {l2 : Int32} {a2 : Nat → Int32} {m2 : Int32} {b2 : Nat → Int32} (h2 : R_layers l2 a2 m2 b2) (co : Nat → Int32) (ke : Nat → Int64) (lt : Nat → Int32) : ∃ r co' ke' lt', fX9_matched x1 xb xl xh xu xa 2 l0 2 l1 1 l2 16 a0 16 a1 6 a2 co ke = some (r, co', ke') ∧ fX10_matched x1 mb ml mh mu ma m2 ed le wo b2 lt = some (r, lt') := by
  obtain ⟨rfl, rfl, rfl, rfl, rfl, rfl, rb, rs, rl, rh, -, ru, ra⟩ := hs
  obtain ⟨c0, c1, hc0, hc1, rfl, rfl, d0, d1, k0, k1⟩ := he
  obtain ⟨c2, hc2, rfl, rfl, k2⟩ := h2
  obtain ⟨A, -, hA, rfl⟩ := rg_n (hi := 1000) ra (by decide)
  have hex : ∀ i j, ∃ o : Option Nat, (i < c0 → j < c1 → fX3_costOf (nI i) (nI j) mb ml mh mu 2 2 1 (nI c2) 16 a0 16 a1 6 a2 = some (cv o) ∧ fX10_costOf (nI i) (nI j) mb ml mh mu (nI c2) le wo b2 = some (cv o)) ∧ (∀ c, o = some c → j < c1 ∧ c ≤ 101000) ∧ (c1 ≤ j → o = none) := by
    intro i j
    by_cases h : i < c0 ∧ j < c1
    · obtain ⟨v, e1, e2, e3⟩ := costs rb rl rh ru hc0 hc1 k0 k1 hc2 k2 h.1 h.2
      rcases e3 with rfl | ⟨k, hk, rfl⟩
      · exact ⟨none, fun _ _ => ⟨e1, e2⟩, fun c q => (by cases q), fun _ => rfl⟩
      · exact ⟨some k, fun _ _ => ⟨e1, e2⟩, fun c q => (by cases q; exact ⟨h.2, hk⟩), fun q => absurd h.2 (by omega)⟩
    · exact ⟨none, fun a b => absurd ⟨a, b⟩ h, fun c q => (by cases q), fun _ => rfl⟩
  obtain ⟨C, hCC⟩ : ∃ C : Nat → Nat → Option Nat, ∀ i j, (i < c0 → j < c1 → fX3_costOf (nI i) (nI j) mb ml mh mu 2 2 1 (nI c2) 16 a0 16 a1 6 a2 = some (cv (C i j)) ∧ fX10_costOf (nI i) (nI j) mb ml mh mu (nI c2) le wo b2 = some (cv (C i j))) ∧ (∀ c, C i j = some c → j < c1 ∧ c ≤ 101000) ∧ (c1 ≤ j → C i j = none) :=
    ⟨fun i j => Classical.choose (hex i j), fun i j => Classical.choose_spec (hex i j)⟩
  have hC : ∀ i j c, i < c0 → C i j = some c → j < c1 ∧ c ≤ 101000 := fun i j c _ h => (hCC i j).2.1 c h
  have hX := fun i j (a : i < c0) (b : j < c1) => ((hCC i j).1 a b).1
  have hM := fun i j (a : i < c0) (b : j < c1) => ((hCC i j).1 a b).2
  obtain ⟨co', ke', eX⟩ := bestKeyX (A := A) (c2 := c2) hA hC hc0 hc1 hX (fun i j h => (hCC i j).2.2 h) co ke
  obtain ⟨w, eM, hw⟩ := findLeastM (A := A) (c2 := c2) d0 d1 hc0 hc1 hA hC hM lt
  obtain ⟨gr, hg, hbest⟩ := best_ok (A := A) hA hC hc0 hc1
  have hgl : ∀ i s, i < c0 → s < 2 ^ c1 → gr i s < 16 ∧ nxM s (gr i s) < 2 ^ c1 := by
    intro i s hi hs
    rcases (hg i s hi hs).1.1 with h | ⟨j, c, h, hj, ht, -⟩
    · rw [h]; exact ⟨by decide, hs⟩
    · rw [h, nxM_s]; exact ⟨by omega, y_lim c1 (by omega) s hs j hj ht⟩
  obtain ⟨g1, g2⟩ := digs (B := 16) (N := c0) (V := fun _ s => s < 2 ^ c1) (by decide) hc0 (Nat.two_pow_pos c1) hgl hbest
  have bl := fm_le0 (lf C A c1 c0) uU 256
  generalize fm (lf C A c1 c0) uU 256 = best at *
  have bl2 : best < 2 ^ 63 := by unfold uU at bl; omega
  have bG := Gm_b (C := C) (A := A) (n0 := c0) (n1 := c1) hA hc1 c0 0
  unfold fX9_matched fX10_matched
  rw [show bnd 0 2 = true from by decide, gd_t, show (0 : Int32).toNatClampNeg = 0 from by decide, d0, in_eq, ob_s]
  by_cases hx : x1 = -1
  · subst hx
    rw [if_pos rfl, wi_m1 c0 (by omega), ite_b, eX, ob3_s, eM, ob_s, if_pos rfl, show bnd 0 2304 = true from by decide, gd_t]
    unfold fX3_sumOf
    rw [l_shr bl2 _ 32 s_32, lN_i, ob_s]
    refine ⟨_, _, _, w, rfl, ?_⟩
    have e0 := hw 0 0 (by omega) (Nat.two_pow_pos c1)
    rw [show w 0 = nI (Gm C A c0 c1 (c0 - 0) 0) from e0, e168, g1]
  · rw [if_neg hx, thas _ _ (by omega), ob_s, wi_n1 hx]
    cases hw2 : wi x1 0 (nI c0 - 1) with
    | false =>
      rw [ite_bf, ite_bf]
      exact ⟨_, _, _, _, rfl, rfl⟩
    | true =>
      obtain ⟨e, he, rfl⟩ := of_range (by omega) hw2
      rw [ite_b, ite_b, eX, ob3_s, eM, ob_s, if_neg hx, tellM hA hC hc0 hc1 hM hw hg (fun k hk => (g2 k hk).2) he, ob_s]
      unfold fX3_partnerOf
      have dl : best / 2 ^ (4 * (7 - e)) ≤ best := Nat.div_le_self _ _
      rw [l_shr bl2 _ _ (s_4 e (by omega)), l_and (by omega) 4 (by decide), lN_i, ob_s, (p_16 e (by omega)).1, show (2 : Nat) ^ 4 = 16 from by decide, (g2 e he).1]
      exact ⟨_, _, _, _, rfl, rfl⟩
