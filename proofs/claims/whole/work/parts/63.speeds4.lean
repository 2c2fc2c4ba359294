/-! speed and agree -/
def laI (ma : Nat → Int32) (i j : Nat) : Nat := if (ma (4 * j + 1)).toInt < (ma (4 * i + 1)).toInt then i else j
def erI (ma : Nat → Int32) (i j : Nat) : Nat := if (ma (4 * j + 1)).toInt < (ma (4 * i + 1)).toInt then j else i
theorem la_er (ma : Nat → Int32) (i j : Nat) : (laI ma i j = i ∧ erI ma i j = j) ∨ (laI ma i j = j ∧ erI ma i j = i) := by
  unfold laI erI; split
  · exact Or.inl ⟨rfl, rfl⟩
  · exact Or.inr ⟨rfl, rfl⟩
theorem putX {a ma : Nat → Int32} {c : Nat} (hc : c ≤ 40) (he : ∀ k, k < 4 * c → a k = ma k) {i j k : Nat} (hi : i < c) (hj : j < c) (hk : k ≤ 2) (hne : i ≠ j) (ri : rg (ma (4 * i + 1)) 0 1439) (rj : rg (ma (4 * j + 1)) 0 1439) {S X D Y E : Int} (hS1 : 0 ≤ S) (hS2 : S ≤ 1000) (h1 : sgt ma i X D) (h2 : sgt ma j Y E) (B : Int32) (t u : Int64) : fX6_putSightSpeed (nI i) (nI j) (nI k) B (iI S) 4 160 a t u = if (if sdI k = 0 then 0 else 2 * S) < D ∧ (if sdI k = 0 then 0 else 2 * S) < E then tailX (nI (laI ma i j)) (nI (erI ma i j)) (iI (sdI k)) B (iI S) a (some (iI (mnB ma i j))) t u else some (false, t, u) := by
  obtain ⟨eX, eD, x1, x2, d1, d2⟩ := h1
  obtain ⟨eY, eE, y1, y2, e1, e2⟩ := h2
  have hij : ¬ nI j = nI i := by rw [nI_eq (by omega) (by omega)]; omega
  unfold fX6_putSightSpeed
  have L1 : (if b2i (decide ((ma (4 * j + 1)).toInt < (ma (4 * i + 1)).toInt)) = 0 then some (nI j) else some (nI i)) = some (nI (laI ma i j)) := by
    unfold laI
    by_cases hl : (ma (4 * j + 1)).toInt < (ma (4 * i + 1)).toInt
    · rw [decide_eq_true hl, ite_b, if_pos hl]
    · rw [decide_eq_false hl, ite_bf, if_neg hl]
  have L2 : (if nI (laI ma i j) = nI i then some (nI j) else some (nI i)) = some (nI (erI ma i j)) := by
    unfold laI erI
    by_cases hl : (ma (4 * j + 1)).toInt < (ma (4 * i + 1)).toInt
    · rw [if_pos hl, if_pos hl, if_pos rfl]
    · rw [if_neg hl, if_neg hl, if_neg hij]
  simp only [haveX hc he hi hj hS1 hS2 d1 d2 e1 e2 eD eE, laterX hc he hi hj, ob_s, L1, L2, side_eq hk, minX hc he hi hj ri rj, gapOfX hc he hi, gapOfX hc he hj, eD, eE]
  have A1 : (iI D ≤ 0) ↔ D ≤ 0 := by rw [iI0, iI_le (by omega) (by omega) (by omega) (by omega)]
  have A2 : (0 < iI E) ↔ 0 < E := by rw [iI0, iI_lt (by omega) (by omega) (by omega) (by omega)]
  simp only [A1, A2]
  unfold tailX
  simp only [ob_s]
  rcases (show k = 0 ∨ k = 1 ∨ k = 2 by omega) with rfl | rfl | rfl
  · rw [if_pos (show nI 0 = 0 from rfl), if_pos (show sdI 0 = 0 from rfl)]
    by_cases q : D ≤ 0
    · rw [if_pos q, if_neg (by omega)]
    · rw [if_neg q]
      by_cases q2 : 0 < E
      · rw [if_pos q2, if_pos (by omega)]
      · rw [if_neg q2, if_neg (by omega)]
  · rw [if_neg (show ¬ nI 1 = 0 from by decide), if_neg (show ¬ sdI 1 = 0 from by decide)]
    by_cases q : 2 * S < D ∧ 2 * S < E
    · rw [decide_eq_true q, ite_b, if_pos q]
    · rw [decide_eq_false q, ite_bf, if_neg q]
  · rw [if_neg (show ¬ nI 2 = 0 from by decide), if_neg (show ¬ sdI 2 = 0 from by decide)]
    by_cases q : 2 * S < D ∧ 2 * S < E
    · rw [decide_eq_true q, ite_b, if_pos q]
    · rw [decide_eq_false q, ite_bf, if_neg q]
theorem findM {ma : Nat → Int32} {c : Nat} (hc : c ≤ 40) {i j : Nat} (hi : i < c) (hj : j < c) (hne : i ≠ j) (ri : rg (ma (4 * i + 1)) 0 1439) (rj : rg (ma (4 * j + 1)) 0 1439) (B S x3 : Int32) (ea eb sa sb : Int64) : fX10_findSpeed (nI i) (nI j) x3 B S ea eb sa sb ma = tailM (nI (laI ma i j)) (nI (erI ma i j)) x3 B S (iI (mnB ma i j)) ea eb sa sb ma := by
  have hij : ¬ nI j = nI i := by rw [nI_eq (by omega) (by omega)]; omega
  unfold fX10_findSpeed
  rw [i4, i4, show nI (4 * i) + 1 = nI (4 * i + 1) from i4k i 1, show nI (4 * j) + 1 = nI (4 * j + 1) from i4k j 1, in_bnd (vp_in_nI (show 4 * i + 1 < 160 by omega) (by omega)), in_bnd (vp_in_nI (show 4 * j + 1 < 160 by omega) (by omega)), gd_t, gd_t, nI_clamp (by omega), nI_clamp (by omega)]
  have L1 : (if ma (4 * i + 1) ≤ ma (4 * j + 1) then some (nI j) else some (nI i)) = some (nI (laI ma i j)) := by
    unfold laI
    by_cases hl : (ma (4 * j + 1)).toInt < (ma (4 * i + 1)).toInt
    · rw [if_neg (by rw [Int32.le_iff_toInt_le]; omega), if_pos hl]
    · rw [if_pos (by rw [Int32.le_iff_toInt_le]; omega), if_neg hl]
  have L2 : (if nI (laI ma i j) = nI i then some (nI j) else some (nI i)) = some (nI (erI ma i j)) := by
    unfold laI erI
    by_cases hl : (ma (4 * j + 1)).toInt < (ma (4 * i + 1)).toInt
    · rw [if_pos hl, if_pos hl, if_pos rfl]
    · rw [if_neg hl, if_neg hl, if_neg hij]
  rw [L1, ob_s, L2, ob_s]
  have p1 : laI ma i j < c := by unfold laI; split <;> omega
  have p2 : erI ma i j < c := by unfold erI; split <;> omega
  have em : ma (4 * laI ma i j + 1) - ma (4 * erI ma i j + 1) = iI (mnB ma i j) := by
    obtain ⟨y, y1, y2, ey⟩ := rg_i ri
    obtain ⟨z, z1, z2, ez⟩ := rg_i rj
    unfold laI erI mnB
    rw [ey, ez, iI_toInt (by omega) (by omega), iI_toInt (by omega) (by omega)]
    by_cases hl : z < y
    · rw [if_pos hl, if_pos hl, ey, ez, iI_sub]; congr 1; omega
    · rw [if_neg hl, if_neg hl, ey, ez, iI_sub]; congr 1; omega
  have B1 : bnd (4 * nI (laI ma i j) + 1) 160 = true := by
    rw [i4, show nI (4 * laI ma i j) + 1 = nI (4 * laI ma i j + 1) from i4k _ 1, in_bnd (vp_in_nI (by omega) (by omega))]
  have B2 : bnd (4 * nI (erI ma i j) + 1) 160 = true := by
    rw [i4, show nI (4 * erI ma i j) + 1 = nI (4 * erI ma i j + 1) from i4k _ 1, in_bnd (vp_in_nI (by omega) (by omega))]
  have C1 : (4 * nI (laI ma i j) + 1).toNatClampNeg = 4 * laI ma i j + 1 := by
    rw [i4, show nI (4 * laI ma i j) + 1 = nI (4 * laI ma i j + 1) from i4k _ 1, nI_clamp (by omega)]
  have C2 : (4 * nI (erI ma i j) + 1).toNatClampNeg = 4 * erI ma i j + 1 := by
    rw [i4, show nI (4 * erI ma i j) + 1 = nI (4 * erI ma i j + 1) from i4k _ 1, nI_clamp (by omega)]
  rw [B1, B2, gd_t, gd_t, C1, C2, em, bv_d]
  rfl
theorem tailM_no {ma : Nat → Int32} {c : Nat} (hc : c ≤ 40) {p q k : Nat} (hp : p < c) (hq : q < c) (hk : k ≤ 2) {B S X D Y E : Int} (hB1 : 10 ≤ B) (hB2 : B ≤ 100000) (hS1 : 0 ≤ S) (hS2 : S ≤ 1000) (h1 : sgt ma p X D) (h2 : sgt ma q Y E) (h : ¬ ((if sdI k = 0 then 0 else 2 * S) < D ∧ (if sdI k = 0 then 0 else 2 * S) < E)) (m : Int32) (ea eb sa sb : Int64) : ∃ ea' eb', tailM (nI p) (nI q) (nI k) (iI B) (iI S) m ea eb sa sb ma = some (false, ea', eb', sa, sb) := by
  obtain ⟨eX, eD, x1, x2, d1, d2⟩ := h1
  obtain ⟨eY, eE, y1, y2, e1, e2⟩ := h2
  unfold tailM
  by_cases hk0 : k = 0
  · subst hk0
    rw [if_pos (show nI 0 = 0 from rfl), i4, i4, show nI (4 * p) + 2 = nI (4 * p + 2) from i4k p 2, show nI (4 * p) + 3 = nI (4 * p + 3) from i4k p 3, show nI (4 * q) + 2 = nI (4 * q + 2) from i4k q 2, show nI (4 * q) + 3 = nI (4 * q + 3) from i4k q 3, in_bnd (vp_in_nI (show 4 * p + 2 < 160 by omega) (by omega)), in_bnd (vp_in_nI (show 4 * p + 3 < 160 by omega) (by omega)), in_bnd (vp_in_nI (show 4 * q + 2 < 160 by omega) (by omega)), in_bnd (vp_in_nI (show 4 * q + 3 < 160 by omega) (by omega))]
    simp only [gd_t, bv_d]
    rw [nI_clamp (by omega), nI_clamp (by omega), nI_clamp (by omega), nI_clamp (by omega), eD, eE]
    rw [if_pos (show sdI 0 = 0 from rfl)] at h
    have A1 : (iI D ≤ 0) ↔ D ≤ 0 := by rw [iI0, iI_le (by omega) (by omega) (by omega) (by omega)]
    have A2 : (0 < iI E) ↔ 0 < E := by rw [iI0, iI_lt (by omega) (by omega) (by omega) (by omega)]
    simp only [A1, A2]
    by_cases q : D ≤ 0
    · rw [if_pos q]; exact ⟨_, _, rfl⟩
    · rw [if_neg q, if_neg (by omega)]; exact ⟨_, _, rfl⟩
  · have z : ¬ sdI k = 0 := by rcases (show k = 1 ∨ k = 2 by omega) with rfl | rfl <;> decide
    rw [if_neg z] at h
    have w1 : ¬ nI k = 0 := by rcases (show k = 1 ∨ k = 2 by omega) with rfl | rfl <;> decide
    have w2 : (if nI k = 2 then some (1 : Int32) else some 0) = some (b2i (decide (k = 2))) := by rcases (show k = 1 ∨ k = 2 by omega) with rfl | rfl <;> decide
    have w3 : (if nI k = 1 then some (1 : Int32) else some 0) = some (b2i (decide (k = 1))) := by rcases (show k = 1 ∨ k = 2 by omega) with rfl | rfl <;> decide
    rw [if_neg w1, w2, w3, ob_s, end_ok hc hp hB1 hB2 hS1 hS2 x1 x2 d1 d2 eX eD]
    by_cases g1 : 2 * S < D
    · rw [if_pos g1, ob3_s, ite_b, ob_s, end_ok hc hq hB1 hB2 hS1 hS2 y1 y2 e1 e2 eY eE, if_neg (by omega), ob3_s, ite_bf]
      exact ⟨_, _, rfl⟩
    · rw [if_neg g1, ob3_s, ite_bf]
      exact ⟨_, _, rfl⟩
/-- both sides of a speed of sights -/
theorem ssp {a ma : Nat → Int32} {c : Nat} (hc : c ≤ 40) (he : ∀ k, k < 4 * c → a k = ma k) (hr : ∀ i, i < c → rg (ma (4 * i)) 0 7 ∧ rg (ma (4 * i + 1)) 0 1439 ∧ rg (ma (4 * i + 2)) (-20000) 20000 ∧ rg (ma (4 * i + 3)) (-20000) 20000) {i j k : Nat} (hi : i < c) (hj : j < c) (hk : k ≤ 2) (hne : ma (4 * i + 1) ≠ ma (4 * j + 1)) {B S : Int} (hB1 : 10 ≤ B) (hB2 : B ≤ 100000) (hS1 : 0 ≤ S) (hS2 : S ≤ 1000) : ∃ (ok : Bool) (A Q : Int), (ok = true → -4611686018427387904 < A ∧ A < 4611686018427387904 ∧ 0 < Q ∧ Q < 4398046511104) ∧ (∀ t u, fX6_putSightSpeed (nI i) (nI j) (nI k) (iI B) (iI S) 4 160 a t u = some (if ok then (true, jI (nfA A Q), jI (nfB A Q)) else (false, t, u))) ∧ (∀ ea eb sa sb, ∃ ea' eb', fX10_findSpeed (nI i) (nI j) (nI k) (iI B) (iI S) ea eb sa sb ma = some (if ok then (true, ea', eb', jI (nfA A Q), jI (nfB A Q)) else (false, ea', eb', sa, sb))) ∧ (k ≠ 0 → fX6_haveSpan (nI i) (nI j) (iI S) 4 160 a = some ok) := by
  obtain ⟨-, ri1, ri2, ri3⟩ := hr i hi
  obtain ⟨-, rj1, rj2, rj3⟩ := hr j hj
  obtain ⟨X, D, h1⟩ := sgt_of ri2 ri3
  obtain ⟨Y, E, h2⟩ := sgt_of rj2 rj3
  have hij : i ≠ j := by intro q; subst q; exact hne rfl
  have hm : (ma (4 * i + 1)).toInt ≠ (ma (4 * j + 1)).toInt := fun q => hne (Int32.toInt_inj.mp q)
  have hm0 : 0 < mnB ma i j := by unfold mnB; omega
  have hm1 : mnB ma i j ≤ 1439 := by unfold mnB; have := ri1.1; have := ri1.2; have := rj1.1; have := rj1.2; omega
  have hs : sgI (sdI k) := by rcases (show k = 0 ∨ k = 1 ∨ k = 2 by omega) with rfl | rfl | rfl <;> unfold sgI <;> decide
  have p1 : laI ma i j < c := by unfold laI; split <;> omega
  have p2 : erI ma i j < c := by unfold erI; split <;> omega
  have hh : k ≠ 0 → (if sdI k = 0 then 0 else 2 * S) = 2 * S := by
    intro q; rw [if_neg (by rcases (show k = 1 ∨ k = 2 by omega) with rfl | rfl <;> decide)]
  have hv := haveX hc he hi hj hS1 hS2 h1.2.2.2.2.1 h1.2.2.2.2.2 h2.2.2.2.2.1 h2.2.2.2.2.2 h1.2.1 h2.2.1
  by_cases ok : (if sdI k = 0 then 0 else 2 * S) < D ∧ (if sdI k = 0 then 0 else 2 * S) < E
  · -- the later's and the earlier's numbers
    have key : ∃ X' D' Y' E', sgt ma (laI ma i j) X' D' ∧ sgt ma (erI ma i j) Y' E' ∧ (if sdI k = 0 then 0 else 2 * S) < D' ∧ (if sdI k = 0 then 0 else 2 * S) < E' := by
      rcases la_er ma i j with ⟨e1, e2⟩ | ⟨e1, e2⟩ <;> rw [e1, e2]
      · exact ⟨X, D, Y, E, h1, h2, ok.1, ok.2⟩
      · exact ⟨Y, E, X, D, h2, h1, ok.2, ok.1⟩
    obtain ⟨X', D', Y', E', g1, g2, g3, g4⟩ := key
    refine ⟨true, spA B S X' D' Y' E' (sdI k), spQ S X' D' Y' E' (sdI k) (mnB ma i j), ?_, ?_, ?_, ?_⟩
    · intro _
      exact sp_bd hB1 hB2 hs hS1 hS2 g1.2.2.1 g1.2.2.2.1 g2.2.2.1 g2.2.2.2.1 g1.2.2.2.2.2 g2.2.2.2.2.2 g3 g4 hm0 hm1
    · intro t u
      rw [putX hc he hi hj hk hij ri1 rj1 hS1 hS2 h1 h2, if_pos ok, tailX_eq hc he p1 p2 hB1 hB2 hs hS1 hS2 g1 g2 g3 g4 hm0 hm1]
      rfl
    · intro ea eb sa sb
      obtain ⟨ea', eb', e⟩ := tailM_ok hc p1 p2 hk hB1 hB2 hS1 hS2 g1 g2 g3 g4 hm0 hm1 ea eb sa sb
      exact ⟨ea', eb', by rw [findM hc hi hj hij ri1 rj1, e]; rfl⟩
    · intro q
      rw [hh q] at ok
      rw [hv, decide_eq_true ok]
  · refine ⟨false, 0, 1, (fun q => absurd q (by decide)), ?_, ?_, ?_⟩
    · intro t u
      rw [putX hc he hi hj hk hij ri1 rj1 hS1 hS2 h1 h2, if_neg ok]
      rfl
    · intro ea eb sa sb
      have key : ∃ X' D' Y' E', sgt ma (laI ma i j) X' D' ∧ sgt ma (erI ma i j) Y' E' ∧ ¬ ((if sdI k = 0 then 0 else 2 * S) < D' ∧ (if sdI k = 0 then 0 else 2 * S) < E') := by
        rcases la_er ma i j with ⟨e1, e2⟩ | ⟨e1, e2⟩ <;> rw [e1, e2]
        · exact ⟨X, D, Y, E, h1, h2, ok⟩
        · exact ⟨Y, E, X, D, h2, h1, fun q => ok ⟨q.2, q.1⟩⟩
      obtain ⟨X', D', Y', E', g1, g2, g3⟩ := key
      obtain ⟨ea', eb', e⟩ := tailM_no hc p1 p2 hk hB1 hB2 hS1 hS2 g1 g2 g3 (iI (mnB ma i j)) ea eb sa sb
      exact ⟨ea', eb', by rw [findM hc hi hj hij ri1 rj1, e]; rfl⟩
    · intro q
      rw [hh q] at ok
      rw [hv, decide_eq_false ok]
theorem speed_ok (x1 x2 x3 : Int32) {xb xs xl xh xu xa mb ms ml mh mu ma : Int32} (hs : R_set xb xs xl xh xu xa mb ms ml mh mu ma) {l : Int32} {a : Nat → Int32} {m3 : Int32} {b3 : Nat → Int32} (h : R_sights l a m3 b3) {fa fb ga gb : Int64} (hf : R_frac fa fb ga gb) (ea eb sa sb : Int64) : ∃ r a' b' a2 b2 ea' eb' sa' sb', fX9_speed x1 x2 x3 fa fb xb xs 4 l 160 a = some (r, a', b') ∧ fX10_speed x1 x2 x3 mb ms ga gb m3 ea eb sa sb b3 = some (r, a2, b2, ea', eb', sa', sb') ∧ R_frac a' b' a2 b2 := by
  obtain ⟨c, hc, rfl, rfl, he, hr⟩ := h
  obtain ⟨rfl, rfl, -, -, -, -, rb, rs, -⟩ := hs
  obtain ⟨B, hB1, hB2, rfl⟩ := rg_i rb
  obtain ⟨S, hS1, hS2, rfl⟩ := rg_i rs
  obtain ⟨b, e1, e2, -, hb⟩ := puffs hc he x1 x2
  unfold fX9_speed fX10_speed
  rw [e1, e2, ob_s, ob_s, isWithin_eq, in_eq]
  cases b with
  | false => rw [ite_bf, ite_bf]; exact ⟨_, _, _, _, _, _, _, _, _, rfl, rfl, hf⟩
  | true =>
    rw [ite_b, ite_b, ob_s, ob_s]
    cases h3 : wi x3 0 2 with
    | false => rw [ite_bf, ite_bf]; exact ⟨_, _, _, _, _, _, _, _, _, rfl, rfl, hf⟩
    | true =>
      rw [ite_b, ite_b]
      obtain ⟨i, j, hi, hj, rfl, rfl, -, hne⟩ := hb rfl
      obtain ⟨k, -, hk, rfl⟩ := rg_n (hi := 2) (wi_lit h3 (a := 0) (b := 2) (by decide) (by decide)) (by decide)
      obtain ⟨ok, A, Q, bd, eX, eM, -⟩ := ssp hc he hr hi hj hk hne hB1 hB2 hS1 hS2
      obtain ⟨ea', eb', eM'⟩ := eM ea eb sa sb
      rw [eX, eM']
      cases ok with
      | false =>
        simp only [Bool.false_eq_true, if_false]
        rw [ob3_s, ob5_s, ite_bf, ite_bf]
        exact ⟨_, _, _, _, _, _, _, _, _, rfl, rfl, hf⟩
      | true =>
        obtain ⟨b1, b2, b3, b4⟩ := bd rfl
        simp only [if_true]
        rw [ob3_s, ob5_s, ite_b, ite_b, tells_nf2 b1 b2 b3 b4, ob3_s]
        exact ⟨_, _, _, _, _, _, _, _, _, rfl, rfl, frac_nf b3 b4⟩
theorem ob9_s {α0 α1 α2 α3 α4 α5 α6 α7 α8 δ : Type} (a0 : α0) (a1 : α1) (a2 : α2) (a3 : α3) (a4 : α4) (a5 : α5) (a6 : α6) (a7 : α7) (a8 : α8) (f : α0 → α1 → α2 → α3 → α4 → α5 → α6 → α7 → α8 → Option δ) : ob9 (some (a0, a1, a2, a3, a4, a5, a6, a7, a8)) f = f a0 a1 a2 a3 a4 a5 a6 a7 a8 := rfl
theorem agree_ok (x1 x2 x3 x4 : Int32) {xb xs xl xh xu xa mb ms ml mh mu ma : Int32} (hs : R_set xb xs xl xh xu xa mb ms ml mh mu ma) {l : Int32} {a : Nat → Int32} {m3 : Int32} {b3 : Nat → Int32} (h : R_sights l a m3 b3) {l4 : Int32} {a4 : Nat → Int32} {m4 : Int32} {b4 : Nat → Int32} (h4 : R_shadows l4 a4 m4 b4) (p1 p2 p3 p4 p5 p6 p7 p8 ea eb sa sb : Int64) : ∃ r q1 q2 q3 q4 q5 q6 q7 q8 ea' eb' sa' sb', fX9_agree x1 x2 x3 x4 xb xs 4 l 4 l4 160 a 160 a4 p1 p2 p3 p4 p5 p6 p7 p8 = some (r, q1, q2, q3, q4, q5, q6, q7, q8) ∧ fX10_agree x1 x2 x3 x4 mb ms m3 m4 ea eb sa sb b3 b4 = some (r, ea', eb', sa', sb') := by
  obtain ⟨c, hc, rfl, rfl, he, hr⟩ := h
  obtain ⟨c4, hc4, rfl, rfl, he4, hr4⟩ := h4
  obtain ⟨rfl, rfl, -, -, -, -, rb, rs, -⟩ := hs
  obtain ⟨B, hB1, hB2, rfl⟩ := rg_i rb
  obtain ⟨S, hS1, hS2, rfl⟩ := rg_i rs
  obtain ⟨b, e1, e2, -, hb⟩ := puffs hc he x1 x2
  obtain ⟨b', e3, -, e4, hb'⟩ := puffs hc4 he4 x3 x4
  unfold fX9_agree fX10_agree
  rw [e1, e2, ob_s, ob_s, e3, e4]
  simp only [ob_s]
  cases b with
  | false => rw [ite_bf, ite_bf]; exact ⟨_, _, _, _, _, _, _, _, _, _, _, _, _, rfl, rfl⟩
  | true =>
    rw [ite_b, ite_b]
    cases b' with
    | false => rw [ite_bf, ite_bf]; exact ⟨_, _, _, _, _, _, _, _, _, _, _, _, _, rfl, rfl⟩
    | true =>
      rw [ite_b, ite_b]
      obtain ⟨i, j, hi, hj, rfl, rfl, -, hne⟩ := hb rfl
      obtain ⟨i', j', hi', hj', rfl, rfl, -, hne'⟩ := hb' rfl
      have t0 : fX7_at (nI i) 0 4 160 a = some (b3 (4 * i)) := at4 hc he (j := 0) hi (by omega)
      have t1 : fX7_at (nI i') 0 4 160 a4 = some (b4 (4 * i')) := at4 hc4 he4 (j := 0) hi' (by omega)
      rw [t0, t1, i4, i4, in_bnd (vp_in_nI (show 4 * i < 160 by omega) (by omega)), in_bnd (vp_in_nI (show 4 * i' < 160 by omega) (by omega)), gd_t, gd_t, ob_s, ob_s, nI_clamp (by omega), nI_clamp (by omega)]
      by_cases q : b3 (4 * i) = b4 (4 * i')
      · rw [if_pos q, if_pos q]
        obtain ⟨ok, A, Q, bd, eX, eM, eH⟩ := ssp hc he hr hi hj (k := 1) (by omega) hne hB1 hB2 hS1 hS2
        obtain ⟨ok2, A2, Q2, bd2, eX2, eM2, eH2⟩ := ssp hc he hr hi hj (k := 2) (by omega) hne hB1 hB2 hS1 hS2
        have hok : ok2 = ok := by
          have z1 := eH (by omega)
          have z2 := eH2 (by omega)
          rw [z1] at z2
          exact (Option.some.inj z2).symm
        subst hok
        rw [eH (by omega), ob_s]
        obtain ⟨ea1, eb1, f1⟩ := eM ea eb sa sb
        rw [show (1 : Int32) = nI 1 from rfl, f1]
        cases ok2 with
        | false =>
          simp only [Bool.false_eq_true, if_false]
          rw [ob5_s, ite_bf, ite_bf]
          exact ⟨_, _, _, _, _, _, _, _, _, _, _, _, _, rfl, rfl⟩
        | true =>
          simp only [if_true]
          rw [ob5_s, ite_b, ite_b]
          obtain ⟨ea2, eb2, f2⟩ := eM2 ea1 eb1 (jI (nfA A Q)) (jI (nfB A Q))
          rw [show (2 : Int32) = nI 2 from rfl, f2]
          simp only [if_true]
          rw [ob5_s, shadeM hc4 hr4 hi' hj' hne' (k := 2) (by omega), ob2_s]
          rw [shadeM hc4 hr4 hi' hj' hne' (k := 1) (by omega)]
          simp only [ob2_s]
          unfold fX6_spansMeet
          rw [show (1 : Int32) = nI 1 from rfl, show (2 : Int32) = nI 2 from rfl, eX, eX2, shadeX hc4 he4 hr4 hi' hj' hne' (k := 1) (by omega), shadeX hc4 he4 hr4 hi' hj' hne' (k := 2) (by omega)]
          simp only [if_true]
          rw [ob3_s, ob3_s, ob2_s, ob2_s]
          unfold fX1_isAtMost
          by_cases w1 : 0 < lg_cmp (jI (nfA A Q) * jI (nfB (shW b4 i' j' 2) (mnB b4 i' j'))) (jI (nfA (shW b4 i' j' 2) (mnB b4 i' j')) * jI (nfB A Q))
          · rw [if_pos w1, if_pos w1, ob_s, ob_s, ite_bf, ob9_s, ite_bf]
            by_cases w2 : 0 < lg_cmp (jI (nfA (shW b4 i' j' 1) (mnB b4 i' j')) * jI (nfB A2 Q2)) (jI (nfA A2 Q2) * jI (nfB (shW b4 i' j' 1) (mnB b4 i' j')))
            · rw [if_pos w2, ob_s, if_pos rfl]
              exact ⟨_, _, _, _, _, _, _, _, _, _, _, _, _, rfl, rfl⟩
            · rw [if_neg w2, ob_s, if_pos rfl]
              exact ⟨_, _, _, _, _, _, _, _, _, _, _, _, _, rfl, rfl⟩
          · rw [if_neg w1, if_neg w1, ob_s, ob_s, ite_b]
            by_cases w2 : 0 < lg_cmp (jI (nfA (shW b4 i' j' 1) (mnB b4 i' j')) * jI (nfB A2 Q2)) (jI (nfA A2 Q2) * jI (nfB (shW b4 i' j' 1) (mnB b4 i' j')))
            · rw [if_pos w2, if_pos w2, ob_s, ob_s, ite_bf, ob9_s, ite_bf, if_neg (by decide), if_pos rfl]
              exact ⟨_, _, _, _, _, _, _, _, _, _, _, _, _, rfl, rfl⟩
            · rw [if_neg w2, if_neg w2, ob_s, ob_s, ite_b, ob9_s, ite_b, if_neg (by decide), if_neg (by decide)]
              exact ⟨_, _, _, _, _, _, _, _, _, _, _, _, _, rfl, rfl⟩
      · rw [if_neg q, if_neg q]; exact ⟨_, _, _, _, _, _, _, _, _, _, _, _, _, rfl, rfl⟩
