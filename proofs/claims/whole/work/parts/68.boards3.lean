/-! worst and bent -/
theorem least_ex {P : Nat → Prop} : ∀ n, P n → ∃ m, m ≤ n ∧ P m ∧ ∀ k, k < m → ¬ P k := by
  intro n
  induction n using Nat.strongRecOn with
  | ind n ih =>
    intro hn
    by_cases h : ∃ k, k < n ∧ P k
    · obtain ⟨k, hk, hp⟩ := h
      obtain ⟨m, h1, h2, h3⟩ := ih k hk hp
      exact ⟨m, by omega, h2, h3⟩
    · exact ⟨n, Nat.le_refl n, hn, fun k hk hp => h ⟨k, hk, hp⟩⟩
theorem allX {a ma : Nat → Int32} {c : Nat} (hp : prs ma c) (he : ∀ k, k < 3 * c → a k = ma k) {f : Nat → Int32} {s : Nat → Int} (hf : R6 f s) (hs : zb s) : ∃ b : Bool, fX0_areAllJoined 3 (nI c) f 120 a = some b ∧ (b = true ↔ ∀ k, k < c → jn s (pA ma k) = true ∧ jn s (pB ma k) = true) := by
  have hc := hp.1
  have hz := prs_z hp
  have L := it_ex (f := fX0_areAllJoined_L1 (nI c) 3 120 a f) (fun k v => v = nI k ∧ ∀ k', k' < k → jn s (pA ma k') = true ∧ jn s (pB ma k') = true) (fun e => (e = .inl () ∧ ∀ k, k < c → jn s (pA ma k) = true ∧ jn s (pB ma k) = true) ∨ (e = .inr () ∧ ¬ ∀ k, k < c → jn s (pA ma k) = true ∧ jn s (pB ma k) = true)) c (by omega) 0 ⟨rfl, fun k' h => absurd h (Nat.not_lt_zero k')⟩ ?_ ?_
  · obtain ⟨e, hit, h⟩ := L
    unfold fX0_areAllJoined
    rw [hit]
    rcases h with ⟨rfl, h⟩ | ⟨rfl, h⟩
    · exact ⟨true, rfl, (fun _ => h), (fun _ => rfl)⟩
    · exact ⟨false, rfl, (fun q => absurd q (by decide)), (fun q => absurd q h)⟩
  · rintro k v hk ⟨rfl, h2⟩
    obtain ⟨p1, p2, -, -⟩ := hz k hk
    have t0 : fX7_at (nI k) 0 3 120 a = some (ma (3 * k)) := atp hc he (j := 0) hk (by omega)
    have t1 : fX7_at (nI k) 1 3 120 a = some (ma (3 * k + 1)) := atp hc he (j := 1) hk (by omega)
    unfold fX0_areAllJoined_L1
    rw [tsize, ob_s, if_neg (nI_ge hk (by omega)), t0, t1, ob_s, prs_A hp hk, prs_B hp hk, joinedX hf hs p1, ob_s, ob_s, joinedX hf hs p2, ob_s, bv_d]
    by_cases q1 : s (pA ma k) < zU
    · rw [decide_eq_true q1, ite_b]
      by_cases q2 : s (pB ma k) < zU
      · rw [decide_eq_true q2, ite_b]
        left
        refine ⟨_, rfl, nI_1 k, fun k' hk' => ?_⟩
        rcases Nat.lt_or_ge k' k with q | q
        · exact h2 k' q
        · have : k' = k := by omega
          subst this
          exact ⟨decide_eq_true q1, decide_eq_true q2⟩
      · rw [decide_eq_false q2, ite_bf]
        right
        exact ⟨_, rfl, Or.inr ⟨rfl, fun h => q2 (of_decide_eq_true (h k hk).2)⟩⟩
    · rw [decide_eq_false q1, ite_bf]
      right
      exact ⟨_, rfl, Or.inr ⟨rfl, fun h => q1 (of_decide_eq_true (h k hk).1)⟩⟩
  · rintro v ⟨rfl, h2⟩
    unfold fX0_areAllJoined_L1
    rw [tsize, ob_s, if_pos (nI_le (Nat.le_refl c) (by omega))]
    exact ⟨_, rfl, Or.inl ⟨rfl, h2⟩⟩
/-- the least worst: P there, not below -/
def lw (ma : Nat → Int32) (c w : Nat) : Prop := w ≤ 2000 ∧ zF (pA ma) (pB ma) (pD ma) c (w : Int) 5 = false ∧ ∀ k : Nat, k < w → zF (pA ma) (pB ma) (pD ma) c (k : Int) 5 = true
theorem lw_ex {ma : Nat → Int32} {c : Nat} (hp : prs ma c) : ∃ w, lw ma c w := by
  obtain ⟨m, h1, h2, h3⟩ := least_ex (P := fun k : Nat => zF (pA ma) (pB ma) (pD ma) c (k : Int) 5 = false) 2000 (zP_2000 (prs_z hp))
  exact ⟨m, h1, h2, fun k hk => by
    have := h3 k hk
    cases q : zF (pA ma) (pB ma) (pD ma) c (k : Int) 5 with
    | true => rfl
    | false => exact absurd q this⟩
theorem halveX {a ma : Nat → Int32} {c : Nat} (hp : prs ma c) (he : ∀ k, k < 3 * c → a k = ma k) {w : Nat} (hw : lw ma c w) (f : Nat → Int32) : ∃ f', it (fX0_leastWorst_L1 3 (nI c) 120 a) 100000 (0, 2000, 0, f) = some (nI w, f') := by
  obtain ⟨w1, w2, w3⟩ := hw
  have hz := prs_z hp
  have hc := hp.1
  have L := it_ex (f := fX0_leastWorst_L1 3 (nI c) 120 a) (fun t v => ∃ lo hi : Nat, v.1 = nI lo ∧ v.2.1 = nI hi ∧ v.2.2.1 = nI t ∧ lo ≤ w ∧ w ≤ hi ∧ hi ≤ 2000 ∧ (hi - lo) * 2 ^ t ≤ 2000) (fun e => e.1 = nI w) 11 (by omega) (0, 2000, 0, f) ⟨0, 2000, rfl, rfl, rfl, by omega, w1, by omega, by omega⟩ ?_ ?_
  · obtain ⟨⟨e1, e2⟩, hit, h⟩ := L
    dsimp only at h
    exact ⟨e2, by rw [hit, h]⟩
  · rintro t ⟨u1, u2, u3, g⟩ ht ⟨lo, hi, rfl, rfl, rfl, h1, h2, h3, h4⟩
    unfold fX0_leastWorst_L1
    dsimp only [un4]
    rw [if_neg (show ¬ (11 : Int32) ≤ nI t from nI_ge ht (by decide))]
    by_cases q : hi ≤ lo
    · right
      rw [if_pos (nI_le q (by omega))]
      exact ⟨_, rfl, by show nI hi = nI w; congr 1; omega⟩
    · left
      have hm : (nI lo + nI hi) / 2 = nI ((lo + hi) / 2) := by
        rw [nI_add, nI_i, iI2, iI_div (by omega) (by omega) (by omega) (by omega), nI_i]
        congr 1
      rw [if_neg (nI_ge (by omega) (by omega)), hm, bv_d]
      generalize hmid : (lo + hi) / 2 = mid
      have m1 : lo ≤ mid := by omega
      have m2 : mid < hi := by omega
      obtain ⟨f', e, -⟩ := settleX hp he (o := (mid : Int)) (by omega) (by omega) g
      rw [nI_i mid, e, ob2_s]
      cases hF : zF (pA ma) (pB ma) (pD ma) c (mid : Int) 5 with
      | true =>
        have hlt : mid < w := by
          rcases Nat.lt_or_ge mid w with z | z
          · exact z
          · have := zP_mono hz (o := (w : Int)) (by omega) (by omega) hc w2 (o' := (mid : Int)) (by omega)
            rw [this] at hF; cases hF
        rw [show b2i (!true) = 0 from rfl, if_pos rfl, bv_d, ob2_s, bv_d, ← nI_i, nI_1 mid, nI_1 t]
        refine ⟨_, rfl, mid + 1, hi, rfl, rfl, rfl, hlt, h2, h3, ?_⟩
        have a1 : (hi - (mid + 1)) * 2 ≤ hi - lo := by omega
        calc (hi - (mid + 1)) * 2 ^ (t + 1) = (hi - (mid + 1)) * 2 * 2 ^ t := by rw [Nat.pow_succ, Nat.mul_comm (2 ^ t) 2, Nat.mul_assoc]
          _ ≤ (hi - lo) * 2 ^ t := Nat.mul_le_mul_right _ a1
          _ ≤ 2000 := h4
      | false =>
        have hle : w ≤ mid := by
          rcases Nat.lt_or_ge mid w with z | z
          · have := w3 mid z; rw [this] at hF; cases hF
          · exact z
        rw [show b2i (!false) = 1 from rfl, if_neg (by decide), ob2_s, bv_d, ← nI_i, nI_1 t]
        refine ⟨_, rfl, lo, mid, rfl, rfl, rfl, h1, hle, by omega, ?_⟩
        have a1 : (mid - lo) * 2 ≤ hi - lo := by omega
        calc (mid - lo) * 2 ^ (t + 1) = (mid - lo) * 2 * 2 ^ t := by rw [Nat.pow_succ, Nat.mul_comm (2 ^ t) 2, Nat.mul_assoc]
          _ ≤ (hi - lo) * 2 ^ t := Nat.mul_le_mul_right _ a1
          _ ≤ 2000 := h4
  · rintro ⟨u1, u2, u3, g⟩ ⟨lo, hi, rfl, rfl, rfl, h1, h2, h3, h4⟩
    unfold fX0_leastWorst_L1
    dsimp only [un4]
    rw [if_pos (show (11 : Int32) ≤ nI 11 from by decide)]
    exact ⟨_, rfl, by show nI hi = nI w; congr 1; omega⟩
theorem leastX {a ma : Nat → Int32} {c : Nat} (hp : prs ma c) (he : ∀ k, k < 3 * c → a k = ma k) {w : Nat} (hw : lw ma c w) (f : Nat → Int32) : ((c = 0 ∨ ¬ alJ (pA ma) (pB ma) c) → ∃ f', fX0_leastWorst 3 (nI c) f 120 a = some (-1, f')) ∧ ((c ≠ 0 ∧ alJ (pA ma) (pB ma) c) → ∃ f', fX0_leastWorst 3 (nI c) f 120 a = some (nI w, f') ∧ R6 f' (zSt (pA ma) (pB ma) (pD ma) c (w : Int) 5)) := by
  have hz := prs_z hp
  have hc := hp.1
  obtain ⟨f1, e1, r1⟩ := settleX hp he (o := 2000) (by omega) (by omega) f
  have r1 := r1 (zP_2000 hz)
  obtain ⟨b, e2, h2⟩ := allX hp he r1 (zb_I (zSt_I hz (o := 2000) (by omega) (by omega) hc 5 (by omega)) (by omega))
  rw [jn_St hz hc (o := 2000) (by omega) (by omega) 5 (by omega)] at h2
  have h2 : b = true ↔ alJ (pA ma) (pB ma) c := h2
  unfold fX0_leastWorst
  rw [show (2000 : Int32) = iI 2000 from by decide, e1, ob2_s, tsize, ob_s]
  constructor
  · intro h
    by_cases hc0 : c = 0
    · subst hc0
      rw [if_pos (show nI 0 = 0 from rfl)]
      exact ⟨_, rfl⟩
    · rw [if_neg (show ¬ nI c = 0 from nI_ne hc0 (by omega) (by decide)), e2, ob_s]
      have : b = false := by
        cases b with
        | false => rfl
        | true => rcases h with h | h
                  · exact absurd h hc0
                  · exact absurd (h2.mp rfl) h
      subst this
      rw [ite_bf]
      exact ⟨_, rfl⟩
  · rintro ⟨hc0, hj⟩
    rw [if_neg (show ¬ nI c = 0 from nI_ne hc0 (by omega) (by decide)), e2, ob_s, h2.mpr hj, ite_b]
    obtain ⟨f2, e3⟩ := halveX hp he hw f1
    obtain ⟨w1, w2, w3⟩ := hw
    obtain ⟨f3, e4, r4⟩ := settleX hp he (o := (w : Int)) (by omega) (by omega) f2
    rw [show iI 2000 = (2000 : Int32) from by decide, e3, ob2_s, nI_i w, e4, ob2_s]
    exact ⟨_, rfl, r4 w2⟩
/-! the reference: joined by bits -/
theorem mask_pd {ma : Nat → Int32} {c : Nat} (hp : prs ma c) : ∃ x, fX10_paired (nI c) ma = some x ∧ ∀ i, i < 32 → bt x i = pd (pA ma) (pB ma) c i := by
  have hc := hp.1
  have hz := prs_z hp
  have L := it_inv (f := fX10_paired_L1 (nI c) ma) (fun k v => v.2 = nI k ∧ ∀ i, i < 32 → bt v.1 i = pd (pA ma) (pB ma) k i) (fun e => ∀ i, i < 32 → bt e i = pd (pA ma) (pB ma) c i) c (by omega) (0, 0) ⟨rfl, fun i _ => b_0 i⟩ ?_ ?_
  · obtain ⟨e, hit, h⟩ := L
    unfold fX10_paired
    rw [hit, ob_s]
    exact ⟨e, rfl, h⟩
  · rintro k ⟨x, u⟩ hk ⟨rfl, h2⟩
    dsimp only at h2
    obtain ⟨p1, p2, -, -⟩ := hz k hk
    unfold fX10_paired_L1
    dsimp only [un2]
    rw [if_neg (nI_ge hk (by omega)), i3, show nI (3 * k) + 1 = nI (3 * k + 1) from i3k k 1, in_bnd (vp_in_nI (show 3 * k < 120 by omega) (by omega)), in_bnd (vp_in_nI (show 3 * k + 1 < 120 by omega) (by omega)), gd_t, gd_t, nI_clamp (by omega), nI_clamp (by omega), prs_A hp hk, prs_B hp hk, bv_d, bv_d]
    refine ⟨_, rfl, nI_1 k, fun i hi => ?_⟩
    dsimp only
    rw [b_or, b_or, b_one _ (by omega) i hi, b_one _ (by omega) i hi, h2 i hi, ← Bool.or_assoc]
    rfl
  · rintro ⟨x, u⟩ ⟨rfl, h2⟩
    unfold fX10_paired_L1
    dsimp only [un2]
    rw [if_pos (nI_le (Nat.le_refl c) (by omega))]
    exact ⟨_, rfl, h2⟩
theorem mask_2 {a b : Nat} (ha : a < 6) (hb : b < 6) {x : Int32} {j : Nat → Bool} (h : ∀ i, i < 32 → bt x i = j i) : ((x &&& (((1 : Int32) <<< (nI a &&& 31)) ||| ((1 : Int32) <<< (nI b &&& 31)))) = 0) ↔ (j a || j b) = false := by
  constructor
  · intro q
    have e : ∀ i, i < 32 → (bt x i && (decide (i = a) || decide (i = b))) = false := by
      intro i hi
      have := congrArg (fun z => bt z i) q
      simp only [b_and, b_or, b_0] at this
      rw [b_one _ (by omega) i hi, b_one _ (by omega) i hi] at this
      exact this
    have e1 := e a (by omega)
    have e2 := e b (by omega)
    rw [h a (by omega)] at e1
    rw [h b (by omega)] at e2
    rw [decide_eq_true (show a = a from rfl), Bool.true_or, Bool.and_true] at e1
    rw [decide_eq_true (show b = b from rfl), Bool.or_true, Bool.and_true] at e2
    rw [e1, e2]; rfl
  · intro q
    rw [Bool.or_eq_false_iff] at q
    refine b_ext (fun i hi => ?_)
    rw [b_and, b_or, b_0, b_one _ (by omega) i hi, b_one _ (by omega) i hi, h i hi]
    by_cases z1 : i = a
    · rw [z1, q.1]; rfl
    · by_cases z2 : i = b
      · rw [z2, q.2]; rfl
      · rw [decide_eq_false z1, decide_eq_false z2]; simp
theorem jturn {ma : Nat → Int32} {c : Nat} (hp : prs ma c) {x : Int32} {j : Nat → Bool} (hj : ∀ i, i < 32 → bt x i = j i) : ∃ x', it (fX10_areJoined_L2 (nI c) ma) 100000 (x, 0) = some x' ∧ ∀ i, i < 32 → bt x' i = jrd (pA ma) (pB ma) j c i := by
  have hc := hp.1
  have hz := prs_z hp
  refine it_inv (f := fX10_areJoined_L2 (nI c) ma) (fun k v => v.2 = nI k ∧ ∀ i, i < 32 → bt v.1 i = jrd (pA ma) (pB ma) j k i) (fun e => ∀ i, i < 32 → bt e i = jrd (pA ma) (pB ma) j c i) c (by omega) (x, 0) ⟨rfl, hj⟩ ?_ ?_
  · rintro k ⟨x, u⟩ hk ⟨rfl, h2⟩
    dsimp only at h2
    obtain ⟨p1, p2, -, -⟩ := hz k hk
    unfold fX10_areJoined_L2
    dsimp only [un2]
    rw [if_neg (nI_ge hk (by omega)), i3, show nI (3 * k) + 1 = nI (3 * k + 1) from i3k k 1, in_bnd (vp_in_nI (show 3 * k < 120 by omega) (by omega)), in_bnd (vp_in_nI (show 3 * k + 1 < 120 by omega) (by omega)), gd_t, gd_t, nI_clamp (by omega), nI_clamp (by omega), prs_A hp hk, prs_B hp hk, bv_d]
    have M := mask_2 p1 p2 h2
    have e : ∀ i, jrd (pA ma) (pB ma) j (k + 1) i = ((jrd (pA ma) (pB ma) j k i || (decide (i = pA ma k) && jrd (pA ma) (pB ma) j k (pB ma k))) || (decide (i = pB ma k) && (jrd (pA ma) (pB ma) j k (pA ma k) || (decide (pA ma k = pA ma k) && jrd (pA ma) (pB ma) j k (pB ma k))))) := fun i => rfl
    cases q : (jrd (pA ma) (pB ma) j k (pA ma k) || jrd (pA ma) (pB ma) j k (pB ma k)) with
    | false =>
      rw [if_pos (M.mpr q), ob_s, bv_d, bv_d]
      refine ⟨_, rfl, nI_1 k, fun i hi => ?_⟩
      dsimp only
      rw [Bool.or_eq_false_iff] at q
      rw [b_or, b_0, h2 i hi, e, q.1, q.2]
      simp
    | true =>
      rw [if_neg (fun z => by have := M.mp z; rw [q] at this; cases this), ob_s, bv_d, bv_d]
      refine ⟨_, rfl, nI_1 k, fun i hi => ?_⟩
      dsimp only
      rw [b_or, b_or, b_one _ (by omega) i hi, b_one _ (by omega) i hi, h2 i hi, e, decide_eq_true (show pA ma k = pA ma k from rfl), Bool.true_and, q, Bool.and_true]
      by_cases z1 : i = pA ma k
      · subst z1
        rw [decide_eq_true (show pA ma k = pA ma k from rfl), Bool.true_and, q]
        simp
      · rw [decide_eq_false z1, Bool.false_or, Bool.false_and, Bool.or_false]
  · rintro ⟨x, u⟩ ⟨rfl, h2⟩
    unfold fX10_areJoined_L2
    dsimp only [un2]
    rw [if_pos (nI_le (Nat.le_refl c) (by omega))]
    exact ⟨_, rfl, h2⟩
theorem joinedM {ma : Nat → Int32} {c : Nat} (hp : prs ma c) : ∃ b : Bool, fX10_areJoined (nI c) ma = some b ∧ (b = true ↔ c ≠ 0 ∧ alJ (pA ma) (pB ma) c) := by
  have hc := hp.1
  have hz := prs_z hp
  have L := it_inv (f := fX10_areJoined_L1 (nI c) ma) (fun t v => v.2 = nI t ∧ ∀ i, i < 32 → bt v.1 i = jSt (pA ma) (pB ma) c t i) (fun e => ∀ i, i < 32 → bt e i = jSt (pA ma) (pB ma) c 6 i) 6 (by omega) (1, 0) ⟨rfl, b_1⟩ ?_ ?_
  · obtain ⟨x, hit, hx⟩ := L
    obtain ⟨y, hy, hy2⟩ := mask_pd hp
    -- six turns as five
    have e65 : jSt (pA ma) (pB ma) c 6 = jSt (pA ma) (pB ma) c 5 := by
      rw [← jn_St hz hc (o := 2000) (by omega) (by omega) 6 (by omega), ← jn_St hz hc (o := 2000) (by omega) (by omega) 5 (by omega), (zF_stay' (zP_2000 hz) (show 5 ≤ 6 by omega)).1]
    rw [e65] at hx
    unfold fX10_areJoined
    rw [hit, ob_s, hy]
    simp only [ob_s]
    by_cases hc0 : c = 0
    · subst hc0
      rw [if_pos (show nI 0 ≤ 0 from by decide)]
      exact ⟨false, rfl, (fun q => absurd q (by decide)), (fun q => absurd rfl q.1)⟩
    · rw [if_neg (show ¬ nI c ≤ 0 from nI_ge (show 0 < c by omega) (by omega))]
      have B0 : (y &&& 1 = 1) ↔ pd (pA ma) (pB ma) c 0 = true := by
        rw [← hy2 0 (by omega)]
        constructor
        · intro h
          have h1 := congrArg (fun z => bt z 0) h
          simp only [b_and] at h1
          rw [b_1 0 (by decide)] at h1
          simpa using h1
        · intro h
          refine b_ext (fun i hi => ?_)
          rw [b_and, b_1 i hi]
          by_cases z : i = 0
          · subst z; rw [h]; rfl
          · rw [decide_eq_false z, Bool.and_false]
      have B1 : (y &&& (x ^^^ (-1)) = 0) ↔ alJ (pA ma) (pB ma) c := by
        constructor
        · intro h k hk
          obtain ⟨p1, p2, -, -⟩ := hz k hk
          have key : ∀ i, i < 6 → pd (pA ma) (pB ma) c i = true → jSt (pA ma) (pB ma) c 5 i = true := by
            intro i hi hq
            have h1 := congrArg (fun z => bt z i) h
            simp only [b_and, b_xor, b_0] at h1
            rw [b_m1 i (by omega), hy2 i (by omega), hq, hx i (by omega)] at h1
            simpa using h1
          exact ⟨key _ p1 ((pd_iff c).mpr ⟨k, hk, Or.inl rfl⟩), key _ p2 ((pd_iff c).mpr ⟨k, hk, Or.inr rfl⟩)⟩
        · intro h
          refine b_ext (fun i hi => ?_)
          rw [b_and, b_xor, b_0, b_m1 i hi, hy2 i hi, hx i hi]
          cases hq : pd (pA ma) (pB ma) c i with
          | false => rfl
          | true =>
            obtain ⟨k, hk, hh⟩ := (pd_iff c).mp hq
            have : jSt (pA ma) (pB ma) c 5 i = true := by
              rcases hh with rfl | rfl
              · exact (h k hk).1
              · exact (h k hk).2
            rw [this]; rfl
      by_cases q0 : y &&& 1 = 1
      · rw [if_pos q0]
        by_cases q1 : y &&& (x ^^^ (-1)) = 0
        · rw [if_pos q1]
          exact ⟨true, rfl, (fun _ => ⟨hc0, B1.mp q1⟩), (fun _ => rfl)⟩
        · rw [if_neg q1]
          exact ⟨false, rfl, (fun q => absurd q (by decide)), (fun q => absurd (B1.mpr q.2) q1)⟩
      · rw [if_neg q0]
        refine ⟨false, rfl, (fun q => absurd q (by decide)), (fun q => ?_)⟩
        exfalso
        have n0 : pd (pA ma) (pB ma) c 0 = false := Bool.eq_false_iff.mpr (fun z => q0 (B0.mpr z))
        have a0 := jSt_no n0 5 _ (q.2 0 (by omega)).1
        have : pd (pA ma) (pB ma) c 0 = true := (pd_iff c).mpr ⟨0, by omega, Or.inl a0.symm⟩
        rw [n0] at this; cases this
  · rintro t ⟨x, u⟩ ht ⟨rfl, h2⟩
    dsimp only at h2
    obtain ⟨x', e, r⟩ := jturn hp h2
    unfold fX10_areJoined_L1
    dsimp only [un2]
    rw [if_neg (show ¬ (6 : Int32) ≤ nI t from nI_ge ht (by decide)), e, ob_s, bv_d]
    exact ⟨_, rfl, nI_1 t, r⟩
  · rintro ⟨x, u⟩ ⟨rfl, h2⟩
    unfold fX10_areJoined_L1
    dsimp only [un2]
    rw [if_pos (show (6 : Int32) ≤ nI 6 from by decide)]
    exact ⟨_, rfl, h2⟩
theorem worstM {ma : Nat → Int32} {c : Nat} (hp : prs ma c) {w : Nat} (hw : lw ma c w) (f : Nat → Int32) : (¬ (c ≠ 0 ∧ alJ (pA ma) (pB ma) c) → ∃ f', fX10_worstOf (nI c) ma f = some (-1, f')) ∧ ((c ≠ 0 ∧ alJ (pA ma) (pB ma) c) → ∃ f', fX10_worstOf (nI c) ma f = some (nI w, f') ∧ M6 f' (zSt (pA ma) (pB ma) (pD ma) c (w : Int) 5)) := by
  obtain ⟨b, e, hb⟩ := joinedM hp
  unfold fX10_worstOf
  rw [e, ob_s]
  constructor
  · intro h
    have : b = false := by
      cases b with
      | false => rfl
      | true => exact absurd (hb.mp rfl) h
    subst this
    rw [ite_bf]
    exact ⟨_, rfl⟩
  · intro h
    obtain ⟨w1, w2, w3⟩ := hw
    rw [hb.mpr h, ite_b]
    have L := it_inv (f := fX10_worstOf_L1 (nI c) ma) (fun k v => v.1 = nI k) (fun e => e.1 = nI w ∧ M6 e.2 (zSt (pA ma) (pB ma) (pD ma) c (w : Int) 5)) w (by omega) (0, f) rfl ?_ ?_
    · obtain ⟨⟨e1, e2⟩, hit, h1, h2⟩ := L
      dsimp only at h1 h2
      rw [hit, ob2_s, h1]
      exact ⟨_, rfl, h2⟩
    · rintro k ⟨u, g⟩ hk rfl
      obtain ⟨f', e, -⟩ := mostM hp (o := (k : Int)) (by omega) (by omega) g
      unfold fX10_worstOf_L1
      dsimp only [un2]
      rw [w3 k hk] at e
      rw [nI_i k, e, ob2_s, show b2i (!true) = 0 from rfl, if_pos rfl, bv_d, ← nI_i, nI_1 k]
      exact ⟨_, rfl, rfl⟩
    · rintro ⟨u, g⟩ rfl
      obtain ⟨f', e, r⟩ := mostM hp (o := (w : Int)) (by omega) (by omega) g
      unfold fX10_worstOf_L1
      dsimp only [un2]
      rw [w2] at e
      rw [nI_i w, e, ob2_s, show b2i (!false) = 1 from rfl, if_neg (by decide)]
      exact ⟨_, rfl, rfl, r w2⟩
theorem worst_ok {l : Int32} {a : Nat → Int32} {ml : Int32} {ma : Nat → Int32} (h : R_pairs l a ml ma) (be mo : Nat → Int32) : ∃ r be' mo', fX9_worst 3 l 120 a be = some (r, be') ∧ fX10_worst ml ma mo = some (r, mo') := by
  obtain ⟨c, hc, rfl, rfl, he, hr⟩ := h
  have hp : prs ma c := ⟨hc, hr⟩
  obtain ⟨w, hw⟩ := lw_ex hp
  have X := leastX hp he hw be
  have M := worstM hp hw mo
  unfold fX9_worst fX10_worst
  by_cases q : c ≠ 0 ∧ alJ (pA ma) (pB ma) c
  · obtain ⟨f1, e1, -⟩ := X.2 q
    obtain ⟨f2, e2, -⟩ := M.2 q
    rw [e1, e2, ob2_s, ob2_s]
    exact ⟨_, _, _, rfl, rfl⟩
  · obtain ⟨f1, e1⟩ := X.1 (by
      by_cases z : c = 0
      · exact Or.inl z
      · exact Or.inr (fun y => q ⟨z, y⟩))
    obtain ⟨f2, e2⟩ := M.1 q
    rw [e1, e2, ob2_s, ob2_s]
    exact ⟨_, _, _, rfl, rfl⟩
theorem b_test0 (n : Nat) (hn : n < 32) (x : Int32) : ((x >>> (nI n &&& 31)) &&& 1 = 0) ↔ bt x n = false := by
  have t := b_test n hn x
  rw [← b_sshr0 n hn x] at t ⊢
  generalize x >>> (nI n &&& 31) = y at t ⊢
  constructor
  · intro h
    cases q : bt y 0 with
    | false => rfl
    | true => have := t.mpr q; rw [h] at this; exact absurd this (by decide)
  · intro h
    refine b_ext (fun i hi => ?_)
    rw [b_and, b_1 i hi, b_0]
    by_cases z : i = 0
    · subst z; rw [h]; rfl
    · rw [decide_eq_false z, Bool.and_false]
theorem bent_ok (x1 : Int32) {l : Int32} {a : Nat → Int32} {ml : Int32} {ma : Nat → Int32} (h : R_pairs l a ml ma) (be mo : Nat → Int32) : ∃ r be' mo', fX9_bent x1 3 l 120 a be = some (r, be') ∧ fX10_bent x1 ml ma mo = some (r, mo') := by
  obtain ⟨c, hc, rfl, rfl, he, hr⟩ := h
  have hp : prs ma c := ⟨hc, hr⟩
  have hz := prs_z hp
  obtain ⟨w, hw⟩ := lw_ex hp
  have X := leastX hp he hw be
  have M := worstM hp hw mo
  unfold fX9_bent fX10_bent
  rw [isWithin_eq, in_eq, ob_s, ob_s]
  cases h1 : wi x1 0 5 with
  | false => rw [ite_bf, ite_bf]; exact ⟨_, _, _, rfl, rfl⟩
  | true =>
    rw [ite_b, ite_b]
    obtain ⟨k, -, hk, rfl⟩ := rg_n (hi := 5) (wi_lit h1 (a := 0) (b := 5) (by decide) (by decide)) (by decide)
    by_cases k0 : k = 0
    · subst k0
      rw [if_pos (show nI 0 = 0 from rfl), if_pos (show nI 0 = 0 from rfl)]
      exact ⟨_, _, _, rfl, rfl⟩
    · have nk : ¬ nI k = 0 := nI_ne k0 (by omega) (by decide)
      rw [if_neg nk, if_neg nk]
      by_cases q : c ≠ 0 ∧ alJ (pA ma) (pB ma) c
      · obtain ⟨f1, e1, r1⟩ := X.2 q
        obtain ⟨f2, e2, r2⟩ := M.2 q
        obtain ⟨w1, w2, w3⟩ := hw
        obtain ⟨y, hy, hy2⟩ := mask_pd hp
        have nw : ¬ nI w = -1 := by
          rw [nI_i, show (-1 : Int32) = iI (-1) from by decide, iI_eq (by omega) (by omega) (by omega) (by omega)]; omega
        have hb : zb (zSt (pA ma) (pB ma) (pD ma) c (w : Int) 5) := zb_I (zSt_I hz (by omega) (by omega) hc 5 (by omega)) (by omega)
        have hj : jn (zSt (pA ma) (pB ma) (pD ma) c (w : Int) 5) k = pd (pA ma) (pB ma) c k := by
          rw [jn_St hz hc (by omega) (by omega) 5 (by omega)]
          cases hq : pd (pA ma) (pB ma) c k with
          | true =>
            obtain ⟨n, hn, hh⟩ := (pd_iff c).mp hq
            rcases hh with rfl | rfl
            · exact (q.2 n hn).1
            · exact (q.2 n hn).2
          | false =>
            cases hv : jSt (pA ma) (pB ma) c 5 k with
            | false => rfl
            | true =>
              rcases jSt_pd 5 k hv with z | z
              · exact absurd z k0
              · rw [hq] at z; cases z
        rw [e1, e2, ob2_s, ob2_s, if_neg nw, if_neg nw, joinedX r1 hb (by omega), ob_s, hy, ob_s]
        have T := b_test0 k (by omega) y
        rw [hy2 k (by omega), ← hj] at T
        by_cases z : zSt (pA ma) (pB ma) (pD ma) c (w : Int) 5 k < zU
        · have z' : jn (zSt (pA ma) (pB ma) (pD ma) c (w : Int) 5) k = true := decide_eq_true z
          rw [decide_eq_true z, ite_b, if_neg (fun t => by have := T.mp t; rw [z'] at this; cases this)]
          unfold fX0_bentOf
          rw [isWithin_eq, ob_s, wi5 (by omega), ite_b, bnd6 (by omega), gd_t, gd_t, cl6 (by omega), ob_s, r1 k (by omega), r2 k (by omega), if_pos z]
          exact ⟨_, _, _, rfl, rfl⟩
        · have z' : jn (zSt (pA ma) (pB ma) (pD ma) c (w : Int) 5) k = false := decide_eq_false z
          rw [decide_eq_false z, ite_bf, if_pos (T.mpr z')]
          exact ⟨_, _, _, rfl, rfl⟩
      · obtain ⟨f1, e1⟩ := X.1 (by
          by_cases z : c = 0
          · exact Or.inl z
          · exact Or.inr (fun y => q ⟨z, y⟩))
        obtain ⟨f2, e2⟩ := M.1 q
        rw [e1, e2, ob2_s, ob2_s, if_pos rfl, if_pos rfl]
        exact ⟨_, _, _, rfl, rfl⟩
