/-! span, pair, under, count, digest; counted loops -/
theorem span_ok (x1 x2 x3 : Int32) {l : Int32} {a : Nat → Int32} {ml : Int32} {lo hi at_ : Nat → Int32} (h : R_heights l a ml lo hi at_) : ∃ r l' a' ml' lo' hi' at', fX9_span x1 x2 x3 3 24 l 72 a = some (r, l', a') ∧ fX10_span x1 x2 x3 ml lo hi at_ = some (r, ml', lo', hi', at') ∧ R_heights l' a' ml' lo' hi' at' := by
  unfold fX9_span fX10_span
  simp only [isWithin_eq, in_eq, ob_s, bv_d]
  cases h1 : wi x1 0 100000 with
  | false => exact ⟨_, _, _, _, _, _, _, rfl, rfl, h⟩
  | true =>
    cases h2 : wi x2 x1 100000 with
    | false => exact ⟨_, _, _, _, _, _, _, rfl, rfl, h⟩
    | true =>
      cases h3 : wi x3 (-10000) 10000 with
      | false => exact ⟨_, _, _, _, _, _, _, rfl, rfl, h⟩
      | true =>
        simp only [ite_b]
        have r1 : rg x1 0 100000 := wi_lit h1 (by decide) (by decide)
        have r2 : rg x2 x1.toInt 100000 := wi_lit h2 rfl (by decide)
        obtain ⟨c, hc, rfl, rfl, hr⟩ := h
        rcases Nat.lt_or_ge c 24 with hlt | hge
        · obtain ⟨f', hf, m0, m1, m2, m3, -⟩ := tadd (w := 3) (K := 24) (by decide) (by decide) hlt a x1 x2 x3 0
          have hf' : fX7_add x1 x2 x3 0 3 24 (nI c) 72 a = some (nI (c + 1), nI (c + 1), f') := hf
          have m1 := m1 (by decide)
          have m2 := m2 (by decide)
          have m3 := m3 (by decide)
          rw [hf', ob3_s, if_neg (show ¬ nI c = 24 from nI_ne (b := 24) (by omega) (by omega) (by omega)), in_bnd (vp_in_nI hlt (by omega))]
          simp only [gd_t]
          rw [nI_clamp (by omega), show nI c + 1 = nI (c + 1) from nI_1 c]
          refine ⟨_, _, _, _, _, _, _, rfl, rfl, c + 1, by omega, rfl, rfl, fun i hi => ?_⟩
          rcases Nat.lt_or_ge i c with q | q
          · rw [m0 _ (by omega), m0 _ (by omega), m0 _ (by omega), upd_e, upd_e, upd_e, if_neg (by omega), if_neg (by omega), if_neg (by omega)]
            exact hr i q
          · have : i = c := by omega
            subst this
            rw [m1, m2, m3, upd_e, upd_e, upd_e, if_pos rfl, if_pos rfl, if_pos rfl]
            exact ⟨rfl, rfl, rfl, r1, ⟨Int.le_trans r1.1 r2.1, r2.2⟩, r2.1, wi_lit h3 (by decide) (by decide)⟩
        · have : c = 24 := by omega
          subst this
          have hf' : fX7_add x1 x2 x3 0 3 24 (nI 24) 72 a = some (-4, nI 24, a) := tfull (w := 3) (K := 24) (by decide) 72 a x1 x2 x3 0
          rw [hf', ob3_s, if_pos (show nI 24 = 24 from rfl)]
          exact ⟨_, _, _, _, _, _, _, rfl, rfl, 24, by omega, rfl, rfl, hr⟩
theorem three_keep {c : Nat} {a f' ma : Nat → Int32} {x1 x2 x3 : Int32} (m0 : ∀ k, k < 3 * c → f' k = a k) (m1 : f' (3 * c) = x1) (m2 : f' (3 * c + 1) = x2) (m3 : f' (3 * c + 2) = x3) (he : ∀ k, k < 3 * c → a k = ma k) : ∀ k, k < 3 * (c + 1) → f' k = upd (upd (upd ma (3 * c) x1) (3 * c + 1) x2) (3 * c + 2) x3 k := by
  intro k hk
  rcases Nat.lt_or_ge k (3 * c) with q | q
  · rw [m0 k q, he k q, upd_e, if_neg (by omega), upd_e, if_neg (by omega), upd_e, if_neg (by omega)]
  · rcases (show k = 3 * c ∨ k = 3 * c + 1 ∨ k = 3 * c + 2 by omega) with rfl | rfl | rfl
    · rw [m1, upd_e, if_neg (by omega), upd_e, if_neg (by omega), upd_e, if_pos rfl]
    · rw [m2, upd_e, if_neg (by omega), upd_e, if_pos rfl]
    · rw [m3, upd_e, if_pos rfl]
theorem pair_ok (x1 x2 x3 : Int32) {l : Int32} {a : Nat → Int32} {ml : Int32} {ma : Nat → Int32} (h : R_pairs l a ml ma) : ∃ r l' a' ml' ma', fX9_pair x1 x2 x3 3 40 l 120 a = some (r, l', a') ∧ fX10_pair x1 x2 x3 ml ma = some (r, ml', ma') ∧ R_pairs l' a' ml' ma' := by
  unfold fX9_pair fX10_pair
  simp only [isWithin_eq, in_eq, ob_s, bv_d]
  cases h1 : wi x1 0 5 with
  | false => exact ⟨_, _, _, _, _, rfl, rfl, h⟩
  | true =>
    cases h2 : wi x2 0 5 with
    | false => exact ⟨_, _, _, _, _, rfl, rfl, h⟩
    | true =>
      simp only [ite_b]
      by_cases h12 : x1 = x2
      · rw [if_pos h12, if_pos h12]; exact ⟨_, _, _, _, _, rfl, rfl, h⟩
      rw [if_neg h12, if_neg h12]
      cases h3 : wi x3 (-2000) 2000 with
      | false => exact ⟨_, _, _, _, _, rfl, rfl, h⟩
      | true =>
        simp only [ite_b]
        obtain ⟨c, hc, rfl, rfl, he, hr⟩ := h
        rcases Nat.lt_or_ge c 40 with hlt | hge
        · obtain ⟨f', hf, m0, m1, m2, m3, -⟩ := tadd (w := 3) (K := 40) (by decide) (by decide) hlt a x1 x2 x3 0
          have hf' : fX7_add x1 x2 x3 0 3 40 (nI c) 120 a = some (nI (c + 1), nI (c + 1), f') := hf
          have m1 := m1 (by decide)
          have m2 := m2 (by decide)
          have m3 := m3 (by decide)
          rw [hf', ob3_s, if_neg (show ¬ nI c = 40 from nI_ne (b := 40) (by omega) (by omega) (by omega)), show (3 : Int32) * nI c = nI (3 * c) from pk_mul 3 c, show nI (3 * c) + 1 = nI (3 * c + 1) from nI_add _ 1, show nI (3 * c) + 2 = nI (3 * c + 2) from nI_add _ 2, in_bnd (vp_in_nI (show 3 * c < 120 by omega) (by omega)), in_bnd (vp_in_nI (show 3 * c + 1 < 120 by omega) (by omega)), in_bnd (vp_in_nI (show 3 * c + 2 < 120 by omega) (by omega))]
          simp only [gd_t]
          rw [nI_clamp (by omega), nI_clamp (by omega), nI_clamp (by omega), show nI c + 1 = nI (c + 1) from nI_1 c]
          refine ⟨_, _, _, _, _, rfl, rfl, c + 1, by omega, rfl, rfl, three_keep m0 m1 m2 m3 he, fun i hi => ?_⟩
          rcases Nat.lt_or_ge i c with q | q
          · simp only [upd_e]
            rw [if_neg (show ¬ 3 * i = 3 * c + 2 by omega), if_neg (show ¬ 3 * i = 3 * c + 1 by omega), if_neg (show ¬ 3 * i = 3 * c by omega), if_neg (show ¬ 3 * i + 1 = 3 * c + 2 by omega), if_neg (show ¬ 3 * i + 1 = 3 * c + 1 by omega), if_neg (show ¬ 3 * i + 1 = 3 * c by omega), if_neg (show ¬ 3 * i + 2 = 3 * c + 2 by omega), if_neg (show ¬ 3 * i + 2 = 3 * c + 1 by omega), if_neg (show ¬ 3 * i + 2 = 3 * c by omega)]
            exact hr i q
          · have : i = c := by omega
            subst this
            simp only [upd_e, if_true]
            rw [if_neg (show ¬ 3 * i = 3 * i + 2 by omega), if_neg (show ¬ 3 * i = 3 * i + 1 by omega), if_neg (show ¬ 3 * i + 1 = 3 * i + 2 by omega)]
            exact ⟨wi_lit h1 (by decide) (by decide), wi_lit h2 (by decide) (by decide), h12, wi_lit h3 (by decide) (by decide)⟩
        · have : c = 40 := by omega
          subst this
          have hf' : fX7_add x1 x2 x3 0 3 40 (nI 40) 120 a = some (-4, nI 40, a) := tfull (w := 3) (K := 40) (by decide) 120 a x1 x2 x3 0
          rw [hf', ob3_s, if_pos (show nI 40 = 40 from rfl)]
          exact ⟨_, _, _, _, _, rfl, rfl, 40, by omega, rfl, rfl, he, hr⟩
theorem under_ok (x1 x2 : Int32) {l : Int32} {a : Nat → Int32} {ml : Int32} {ma : Nat → Int32} (h : R_notes l a ml ma) : ∃ r l' a' ml' ma', fX9_under x1 x2 2 100 l 200 a = some (r, l', a') ∧ fX10_under x1 x2 ml ma = some (r, ml', ma') ∧ R_notes l' a' ml' ma' := by
  unfold fX9_under fX10_under
  simp only [isForm_eq, in_eq, ob_s, bv_d]
  cases h1 : wi x1 0 7 with
  | false => exact ⟨_, _, _, _, _, rfl, rfl, h⟩
  | true =>
    cases h2 : wi x2 0 7 with
    | false => exact ⟨_, _, _, _, _, rfl, rfl, h⟩
    | true =>
      simp only [ite_b]
      by_cases h12 : x1 = x2
      · rw [if_pos h12, if_pos h12]; exact ⟨_, _, _, _, _, rfl, rfl, h⟩
      rw [if_neg h12, if_neg h12]
      obtain ⟨c, hc, rfl, rfl, he, hr⟩ := h
      rcases Nat.lt_or_ge c 100 with hlt | hge
      · obtain ⟨f', hf, m0, m1, m2, -⟩ := tadd (w := 2) (K := 100) (by decide) (by decide) hlt a x1 x2 0 0
        have hf' : fX7_add x1 x2 0 0 2 100 (nI c) 200 a = some (nI (c + 1), nI (c + 1), f') := hf
        have m1 := m1 (by decide)
        have m2 := m2 (by decide)
        rw [hf', ob3_s, if_neg (show ¬ nI c = 100 from nI_ne (b := 100) (by omega) (by omega) (by omega)), show (2 : Int32) * nI c = nI (2 * c) from pk_mul 2 c, show nI (2 * c) + 1 = nI (2 * c + 1) from nI_add _ 1, in_bnd (vp_in_nI (show 2 * c < 200 by omega) (by omega)), in_bnd (vp_in_nI (show 2 * c + 1 < 200 by omega) (by omega))]
        simp only [gd_t]
        rw [nI_clamp (by omega), nI_clamp (by omega), show nI c + 1 = nI (c + 1) from nI_1 c]
        refine ⟨_, _, _, _, _, rfl, rfl, c + 1, by omega, rfl, rfl, fun k hk => ?_, fun i hi => ?_⟩
        · rcases Nat.lt_or_ge k (2 * c) with q | q
          · rw [m0 k q, he k q, upd_e, if_neg (by omega), upd_e, if_neg (by omega)]
          · rcases (show k = 2 * c ∨ k = 2 * c + 1 by omega) with rfl | rfl
            · rw [m1, upd_e, if_neg (by omega), upd_e, if_pos rfl]
            · rw [m2, upd_e, if_pos rfl]
        · rcases Nat.lt_or_ge i c with q | q
          · simp only [upd_e]
            rw [if_neg (show ¬ 2 * i = 2 * c + 1 by omega), if_neg (show ¬ 2 * i = 2 * c by omega), if_neg (show ¬ 2 * i + 1 = 2 * c + 1 by omega), if_neg (show ¬ 2 * i + 1 = 2 * c by omega)]
            exact hr i q
          · have : i = c := by omega
            subst this
            simp only [upd_e, if_true]
            rw [if_neg (show ¬ 2 * i = 2 * i + 1 by omega)]
            exact ⟨wi_lit h1 (by decide) (by decide), wi_lit h2 (by decide) (by decide), h12⟩
      · have : c = 100 := by omega
        subst this
        have hf' : fX7_add x1 x2 0 0 2 100 (nI 100) 200 a = some (-4, nI 100, a) := tfull (w := 2) (K := 100) (by decide) 200 a x1 x2 0 0
        rw [hf', ob3_s, if_pos (show nI 100 = 100 from rfl)]
        exact ⟨_, _, _, _, _, rfl, rfl, 100, by omega, rfl, rfl, he, hr⟩
/-! a counted loop -/
theorem it_count {V E : Type} {f : V → Option (E ⊕ V)} (st : Nat → V) {e : E} {n : Nat} (hx : f (st n) = some (.inl e)) : ∀ (d k : Nat), k + d = n → (∀ i, k ≤ i → i < n → f (st i) = some (.inr (st (i + 1)))) → ∀ m, d < m → it f m (st k) = some e := by
  intro d
  induction d with
  | zero =>
    intro k hk _ m hm
    have : k = n := by omega
    subst this
    obtain ⟨m', rfl⟩ : ∃ m', m = m' + 1 := ⟨m - 1, by omega⟩
    unfold it
    rw [hx]
  | succ d ih =>
    intro k hk hs m hm
    obtain ⟨m', rfl⟩ : ∃ m', m = m' + 1 := ⟨m - 1, by omega⟩
    unfold it
    rw [hs k (Nat.le_refl k) (by omega)]
    exact ih (k + 1) (by omega) (fun i h1 h2 => hs i (by omega) h2) m' (by omega)
theorem it_loop {V E : Type} {f : V → Option (E ⊕ V)} (st : Nat → V) {e : E} (n : Nat) (hn : n < 100000) (hs : ∀ i, i < n → f (st i) = some (.inr (st (i + 1)))) (hx : f (st n) = some (.inl e)) : it f 100000 (st 0) = some e :=
  it_count st hx n 0 (by omega) (fun i _ h => hs i h) 100000 hn
def mx (h : Int64) (g : Nat → Int32) : Nat → Int64
  | 0 => h
  | n + 1 => 31 * mx h g n + (g n).toInt64
theorem mx_cong {h : Int64} {f g : Nat → Int32} : ∀ {n : Nat}, (∀ k, k < n → f k = g k) → mx h f n = mx h g n := by
  intro n
  induction n with
  | zero => intro _; rfl
  | succ n ih =>
    intro hk
    unfold mx
    rw [ih (fun k q => hk k (by omega)), hk n (by omega)]
theorem tmix {w K c : Nat} (hw : w ≤ 4) (hK : K ≤ 200) (hc : c ≤ K) (h : Int64) (f : Nat → Int32) : fX7_mixInto h (nI w) (nI c) (w * K) f = some (mx h f (w * c)) := by
  have hb : w * K ≤ 800 := by have := Nat.mul_le_mul hw hK; omega
  have hcl : w * c ≤ w * K := Nat.mul_le_mul_left w hc
  unfold fX7_mixInto
  have e1 : nI c * nI w = nI (w * c) := by rw [pk_mul, Nat.mul_comm]
  rw [e1]
  have e2 : (if Int32.ofNat (w * K) < nI (w * c) then Int32.ofNat (w * K) else nI (w * c)) = nI (w * c) := if_neg (nI_nlt hcl (by omega))
  rw [e2, bv_d]
  rw [show (0 : Int32) = nI 0 from rfl]
  have q : it (fX7_mixInto_L1 (nI (w * c)) (w * K) f) 100000 (h, nI 0) = some (mx h f (w * c)) := by
    refine it_loop (st := fun i => (mx h f i, nI i)) (w * c) (by omega) (fun i hi => ?_) ?_
    · unfold fX7_mixInto_L1
      dsimp only [un2]
      rw [if_neg (nI_ge hi (by omega)), in_bnd (vp_in_nI (show i < w * K by omega) (by omega)), gd_t, bv_d, bv_d, nI_clamp (by omega), nI_1]
      rfl
    · unfold fX7_mixInto_L1
      dsimp only [un2]
      rw [if_pos (nI_le (Nat.le_refl _) (by omega))]
  rw [q, ob_s]
theorem mmix {n N : Nat} (hn : n ≤ N) (hN : N ≤ 800) (h : Int64) (f : Nat → Int32) : fX10_mixed h (nI n) N f = some (mx h f n) := by
  unfold fX10_mixed
  rw [show (0 : Int32) = nI 0 from rfl]
  have q : it (fX10_mixed_L1 (nI n) N f) 100000 (h, nI 0) = some (mx h f n) := by
    refine it_loop (st := fun i => (mx h f i, nI i)) n (by omega) (fun i hi => ?_) ?_
    · unfold fX10_mixed_L1
      dsimp only [un2]
      rw [if_neg (nI_ge hi (by omega)), in_bnd (vp_in_nI (show i < N by omega) (by omega)), gd_t, bv_d, bv_d, nI_clamp (by omega), nI_1]
      rfl
    · unfold fX10_mixed_L1
      dsimp only [un2]
      rw [if_pos (nI_le (Nat.le_refl _) (by omega))]
  rw [q, ob_s]
def cnt9 (c0 c1 c2 c3 c4 c5 c6 c7 c8 : Int32) : Nat → Int32
  | 0 => c0
  | 1 => c1
  | 2 => c2
  | 3 => c3
  | 4 => c4
  | 5 => c5
  | 6 => c6
  | 7 => c7
  | _ => c8
theorem countX (c0 c1 c2 c3 c4 c5 c6 c7 c8 : Int32) (k : Nat) (hk : k ≤ 8) : fX9_count (nI k) c0 c1 c2 c3 c4 c5 c6 c7 c8 = some (cnt9 c0 c1 c2 c3 c4 c5 c6 c7 c8 k) := by
  rcases (show k = 0 ∨ k = 1 ∨ k = 2 ∨ k = 3 ∨ k = 4 ∨ k = 5 ∨ k = 6 ∨ k = 7 ∨ k = 8 by omega) with rfl | rfl | rfl | rfl | rfl | rfl | rfl | rfl | rfl <;> rfl
theorem countM (ed : Nat → Int32) (c0 c1 c2 c3 c4 c5 c6 c7 c8 : Int32) (h0 : ed 0 = c0) (h1 : ed 1 = c1) (k : Nat) (hk : k ≤ 8) : fX10_countOf (nI k) c2 c3 c4 c5 c6 c7 c8 ed = some (cnt9 c0 c1 c2 c3 c4 c5 c6 c7 c8 k) := by
  subst h0; subst h1
  rcases (show k = 0 ∨ k = 1 ∨ k = 2 ∨ k = 3 ∨ k = 4 ∨ k = 5 ∨ k = 6 ∨ k = 7 ∨ k = 8 by omega) with rfl | rfl | rfl | rfl | rfl | rfl | rfl | rfl | rfl <;> rfl
theorem count_ok (x1 : Int32) (ed : Nat → Int32) (c0 c1 c2 c3 c4 c5 c6 c7 c8 : Int32) (h0 : ed 0 = c0) (h1 : ed 1 = c1) : ∃ r, fX9_count x1 c0 c1 c2 c3 c4 c5 c6 c7 c8 = some r ∧ fX10_count x1 c2 c3 c4 c5 c6 c7 c8 ed = some r := by
  unfold fX10_count
  rw [in_eq, ob_s]
  cases h : wi x1 0 8 with
  | true =>
    have r1 : rg x1 0 8 := wi_lit h (by decide) (by decide)
    obtain ⟨j, -, hj, rfl⟩ := rg_n (hi := 8) r1 (by decide)
    rw [ite_b, countM ed c0 c1 c2 c3 c4 c5 c6 c7 c8 h0 h1 j hj, countX c0 c1 c2 c3 c4 c5 c6 c7 c8 j hj]
    exact ⟨_, rfl, rfl⟩
  | false =>
    rw [ite_bf]
    have hn : ∀ k : Nat, k ≤ 8 → ¬ x1 = nI k := by
      intro k hk q
      subst q
      have : wi (nI k) 0 8 = true := by
        refine wi_of ?_
        rw [show (0 : Int32).toInt = 0 from by decide, show (8 : Int32).toInt = 8 from by decide]
        exact ⟨by rw [nI_toInt (by omega)]; omega, by rw [nI_toInt (by omega)]; omega⟩
      rw [this] at h
      cases h
    unfold fX9_count
    rw [if_neg (show ¬ x1 = 0 from hn 0 (by decide)), if_neg (show ¬ x1 = 1 from hn 1 (by decide)), if_neg (show ¬ x1 = 2 from hn 2 (by decide)), if_neg (show ¬ x1 = 3 from hn 3 (by decide)), if_neg (show ¬ x1 = 4 from hn 4 (by decide)), if_neg (show ¬ x1 = 5 from hn 5 (by decide)), if_neg (show ¬ x1 = 6 from hn 6 (by decide)), if_neg (show ¬ x1 = 7 from hn 7 (by decide)), if_neg (show ¬ x1 = 8 from hn 8 (by decide))]
    exact ⟨_, rfl, rfl⟩
theorem digest_ok {xb xs xl xh xu xa mb ms ml mh mu ma : Int32} {fa fb ga gb : Int64} {l0 : Int32} {a0 : Nat → Int32} {l1 : Int32} {a1 ed le wo : Nat → Int32} {l2 : Int32} {a2 : Nat → Int32} {m2 : Int32} {b2 : Nat → Int32} {l3 : Int32} {a3 : Nat → Int32} {m3 : Int32} {b3 : Nat → Int32} {l4 : Int32} {a4 : Nat → Int32} {m4 : Int32} {b4 : Nat → Int32} {l5 : Int32} {a5 : Nat → Int32} {m5 : Int32} {lo hi at_ : Nat → Int32} {l6 : Int32} {a6 : Nat → Int32} {m6 : Int32} {b6 : Nat → Int32} {l7 : Int32} {a7 : Nat → Int32} {m7 : Int32} {b7 : Nat → Int32} {l8 : Int32} {a8 : Nat → Int32} {m8 : Int32} {b8 : Nat → Int32}
    (hs : R_set xb xs xl xh xu xa mb ms ml mh mu ma) (hf : R_frac fa fb ga gb) (he : R_edges l0 a0 l1 a1 ed le wo) (h2 : R_layers l2 a2 m2 b2) (h3 : R_sights l3 a3 m3 b3) (h4 : R_shadows l4 a4 m4 b4) (h5 : R_heights l5 a5 m5 lo hi at_) (h6 : R_pairs l6 a6 m6 b6) (h7 : R_rows l7 a7 m7 b7) (h8 : R_notes l8 a8 m8 b8) :
    ∃ r, fX9_digest fa fb xb xs xl xh xu xa 2 l0 2 l1 1 l2 4 l3 4 l4 3 l5 3 l6 4 l7 2 l8 16 a0 16 a1 6 a2 160 a3 160 a4 72 a5 120 a6 800 a7 200 a8 = some r ∧ fX10_digest mb ms ml mh mu ma ga gb m2 m3 m4 m5 m6 m7 m8 ed le wo b2 b3 b4 lo hi at_ b6 b7 b8 = some r := by
  obtain ⟨rfl, rfl, rfl, rfl, rfl, rfl, -⟩ := hs
  obtain ⟨rfl, rfl, -⟩ := hf
  obtain ⟨c0, c1, hc0, hc1, rfl, rfl, d0, d1, k0, k1⟩ := he
  obtain ⟨c2, hc2, rfl, rfl, k2⟩ := h2
  obtain ⟨c3, hc3, rfl, rfl, k3, -⟩ := h3
  obtain ⟨c4, hc4, rfl, rfl, k4, -⟩ := h4
  obtain ⟨c5, hc5, rfl, rfl, k5⟩ := h5
  obtain ⟨c6, hc6, rfl, rfl, k6, -⟩ := h6
  obtain ⟨c7, hc7, rfl, rfl, k7, -⟩ := h7
  obtain ⟨c8, hc8, rfl, rfl, k8, -⟩ := h8
  have eX : it (fX9_digest_L1 (nI c0) (nI c1) (nI c2) (nI c3) (nI c4) (nI c5) (nI c6) (nI c7) (nI c8)) 100000 (317, 0) = some (mx 317 (cnt9 (nI c0) (nI c1) (nI c2) (nI c3) (nI c4) (nI c5) (nI c6) (nI c7) (nI c8)) 9) := by
    refine it_loop (st := fun i => (mx 317 (cnt9 (nI c0) (nI c1) (nI c2) (nI c3) (nI c4) (nI c5) (nI c6) (nI c7) (nI c8)) i, nI i)) 9 (by decide) (fun i hi => ?_) ?_
    · unfold fX9_digest_L1
      dsimp only [un2]
      rw [if_neg (show ¬ (8 : Int32) < nI i from nI_nlt (show i ≤ 8 by omega) (by decide)), countX _ _ _ _ _ _ _ _ _ i (by omega), ob_s, bv_d, bv_d, nI_1]
      rfl
    · rfl
  have eM : it (fX10_digest_L1 (nI c2) (nI c3) (nI c4) (nI c5) (nI c6) (nI c7) (nI c8) ed) 100000 (317, 0) = some (mx 317 (cnt9 (nI c0) (nI c1) (nI c2) (nI c3) (nI c4) (nI c5) (nI c6) (nI c7) (nI c8)) 9) := by
    refine it_loop (st := fun i => (mx 317 (cnt9 (nI c0) (nI c1) (nI c2) (nI c3) (nI c4) (nI c5) (nI c6) (nI c7) (nI c8)) i, nI i)) 9 (by decide) (fun i hi => ?_) ?_
    · unfold fX10_digest_L1
      dsimp only [un2]
      rw [if_neg (show ¬ (9 : Int32) ≤ nI i from nI_ge (show i < 9 from hi) (by decide)), countM ed (nI c0) (nI c1) _ _ _ _ _ _ _ d0 d1 i (by omega), ob_s, bv_d, bv_d, nI_1]
      rfl
    · rfl
  -- edges
  have eE0 : ∀ h : Int64, it (fX10_digest_L3 0 ed le wo) 100000 (h, 0) = some (mx h a0 (2 * c0)) := by
    intro h
    refine it_loop (st := fun i => (mx h a0 (2 * i), nI i)) c0 (by omega) (fun i hi => ?_) ?_
    · unfold fX10_digest_L3
      dsimp only [un2]
      have e8 : (8 : Int32) * 0 + nI i = nI i := by rw [show (8 : Int32) * 0 = nI 0 from by decide, nI_add, Nat.zero_add]
      rw [show bnd 0 2 = true from by decide, gd_t, show (0 : Int32).toNatClampNeg = 0 from by decide, d0, if_neg (nI_ge hi (by omega)), e8, in_bnd (vp_in_nI (show i < 16 by omega) (by omega)), gd_t, gd_t, bv_d, bv_d, nI_clamp (by omega), nI_1]
      obtain ⟨q1, q2, -⟩ := k0 i hi
      rw [← q1, ← q2]
      rfl
    · unfold fX10_digest_L3
      dsimp only [un2]
      rw [show bnd 0 2 = true from by decide, gd_t, show (0 : Int32).toNatClampNeg = 0 from by decide, d0, if_pos (nI_le (Nat.le_refl _) (by omega))]
  have eE1 : ∀ h : Int64, it (fX10_digest_L3 1 ed le wo) 100000 (h, 0) = some (mx h a1 (2 * c1)) := by
    intro h
    refine it_loop (st := fun i => (mx h a1 (2 * i), nI i)) c1 (by omega) (fun i hi => ?_) ?_
    · unfold fX10_digest_L3
      dsimp only [un2]
      have e8 : (8 : Int32) * 1 + nI i = nI (8 + i) := by rw [show (8 : Int32) * 1 = nI 8 from by decide, nI_add]
      rw [show bnd 1 2 = true from by decide, gd_t, show (1 : Int32).toNatClampNeg = 1 from by decide, d1, if_neg (nI_ge hi (by omega)), e8, in_bnd (vp_in_nI (show 8 + i < 16 by omega) (by omega)), gd_t, gd_t, bv_d, bv_d, nI_clamp (by omega), nI_1]
      obtain ⟨q1, q2, -⟩ := k1 i hi
      rw [← q1, ← q2]
      rfl
    · unfold fX10_digest_L3
      dsimp only [un2]
      rw [show bnd 1 2 = true from by decide, gd_t, show (1 : Int32).toNatClampNeg = 1 from by decide, d1, if_pos (nI_le (Nat.le_refl _) (by omega))]
  have eE : ∀ h : Int64, it (fX10_digest_L2 ed le wo) 100000 (h, 0) = some (mx (mx h a0 (2 * c0)) a1 (2 * c1)) := by
    intro h
    refine it_loop (st := fun i => match i with
      | 0 => (h, nI 0)
      | 1 => (mx h a0 (2 * c0), nI 1)
      | _ => (mx (mx h a0 (2 * c0)) a1 (2 * c1), nI 2)) 2 (by decide) (fun i hi => ?_) ?_
    · rcases (show i = 0 ∨ i = 1 by omega) with rfl | rfl
      · show fX10_digest_L2 ed le wo (h, 0) = _
        unfold fX10_digest_L2
        dsimp only [un2]
        rw [if_neg (by decide), eE0]
        rfl
      · show fX10_digest_L2 ed le wo (mx h a0 (2 * c0), 1) = _
        unfold fX10_digest_L2
        dsimp only [un2]
        rw [if_neg (by decide), eE1]
        rfl
    · rfl
  have eH : ∀ h : Int64, it (fX10_digest_L4 (nI c5) lo hi at_) 100000 (h, 0) = some (mx h a5 (3 * c5)) := by
    intro h
    refine it_loop (st := fun i => (mx h a5 (3 * i), nI i)) c5 (by omega) (fun i hi => ?_) ?_
    · unfold fX10_digest_L4
      dsimp only [un2]
      rw [if_neg (nI_ge hi (by omega)), in_bnd (vp_in_nI (show i < 24 by omega) (by omega)), gd_t, gd_t, gd_t, bv_d, bv_d, nI_clamp (by omega), nI_1]
      obtain ⟨q1, q2, q3, -⟩ := k5 i hi
      rw [← q1, ← q2, ← q3]
      rfl
    · unfold fX10_digest_L4
      dsimp only [un2]
      rw [if_pos (nI_le (Nat.le_refl _) (by omega))]
  unfold fX9_digest fX10_digest
  rw [eX, eM, ob_s, ob_s]
  have s4 : ∀ h : Int64, fX4_mixInto h mb ms ml mh mu ma = some (31 * (31 * (31 * (31 * (31 * (31 * h + mb.toInt64) + ms.toInt64) + ml.toInt64) + mh.toInt64) + mu.toInt64) + ma.toInt64) := fun _ => rfl
  rw [s4, ob_s]
  simp only [bv_d]
  rw [eE, ob_s]
  have t0 := fun h => tmix (w := 2) (K := 8) (c := c0) (by decide) (by decide) hc0 h a0
  have t1 := fun h => tmix (w := 2) (K := 8) (c := c1) (by decide) (by decide) hc1 h a1
  have t2 := fun h => tmix (w := 1) (K := 6) (c := c2) (by decide) (by decide) hc2 h a2
  have t3 := fun h => tmix (w := 4) (K := 40) (c := c3) (by decide) (by decide) hc3 h a3
  have t4 := fun h => tmix (w := 4) (K := 40) (c := c4) (by decide) (by decide) hc4 h a4
  have t5 := fun h => tmix (w := 3) (K := 24) (c := c5) (by decide) (by decide) hc5 h a5
  have t6 := fun h => tmix (w := 3) (K := 40) (c := c6) (by decide) (by decide) hc6 h a6
  have t7 := fun h => tmix (w := 4) (K := 200) (c := c7) (by decide) (by decide) hc7 h a7
  have t8 := fun h => tmix (w := 2) (K := 100) (c := c8) (by decide) (by decide) hc8 h a8
  have u0 : ∀ h, fX7_mixInto h 2 (nI c0) 16 a0 = some (mx h a0 (2 * c0)) := t0
  have u1 : ∀ h, fX7_mixInto h 2 (nI c1) 16 a1 = some (mx h a1 (2 * c1)) := t1
  have u2 : ∀ h, fX7_mixInto h 1 (nI c2) 6 a2 = some (mx h a2 (1 * c2)) := t2
  have u3 : ∀ h, fX7_mixInto h 4 (nI c3) 160 a3 = some (mx h a3 (4 * c3)) := t3
  have u4 : ∀ h, fX7_mixInto h 4 (nI c4) 160 a4 = some (mx h a4 (4 * c4)) := t4
  have u5 : ∀ h, fX7_mixInto h 3 (nI c5) 72 a5 = some (mx h a5 (3 * c5)) := t5
  have u6 : ∀ h, fX7_mixInto h 3 (nI c6) 120 a6 = some (mx h a6 (3 * c6)) := t6
  have u7 : ∀ h, fX7_mixInto h 4 (nI c7) 800 a7 = some (mx h a7 (4 * c7)) := t7
  have u8 : ∀ h, fX7_mixInto h 2 (nI c8) 200 a8 = some (mx h a8 (2 * c8)) := t8
  rw [u0, ob_s, u1, ob_s, u2, ob_s, u3, ob_s, u4, ob_s, u5, ob_s, u6, ob_s, u7, ob_s, u8, ob_s]
  rw [mmix (n := c2) (N := 6) hc2 (by decide), ob_s, show (4 : Int32) * nI c3 = nI (4 * c3) from pk_mul 4 c3, mmix (n := 4 * c3) (N := 160) (by omega) (by decide), ob_s, show (4 : Int32) * nI c4 = nI (4 * c4) from pk_mul 4 c4, mmix (n := 4 * c4) (N := 160) (by omega) (by decide), ob_s, eH, ob_s, show (3 : Int32) * nI c6 = nI (3 * c6) from pk_mul 3 c6, mmix (n := 3 * c6) (N := 120) (by omega) (by decide), ob_s, show (4 : Int32) * nI c7 = nI (4 * c7) from pk_mul 4 c7, mmix (n := 4 * c7) (N := 800) (by omega) (by decide), ob_s, show (2 : Int32) * nI c8 = nI (2 * c8) from pk_mul 2 c8, mmix (n := 2 * c8) (N := 200) (by omega) (by decide), ob_s]
  rw [Nat.one_mul]
  rw [mx_cong (f := a2) (g := b2) (fun k q => (k2 k q).1), mx_cong (f := a3) (g := b3) k3, mx_cong (f := a4) (g := b4) k4, mx_cong (f := a6) (g := b6) k6, mx_cong (f := a7) (g := b7) k7, mx_cong (f := a8) (g := b8) k8]
  exact ⟨_, rfl, rfl⟩
