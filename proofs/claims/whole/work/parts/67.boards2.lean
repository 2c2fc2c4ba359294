/-! the reference's rounds, and the joined watchers -/
theorem roundM {ma : Nat → Int32} {c : Nat} (hp : prs ma c) {o : Int} (ho1 : 0 ≤ o) (ho2 : o ≤ 2000) {f : Nat → Int32} {s : Nat → Int} {m : Nat} (hm : m ≤ 640) (hI : zI m s) (hf : M6 f s) : ∃ f', it (fX10_findMost_L3 (nI c) ma (iI o)) 100000 (0, 0, f) = some (b2i (zrf (pA ma) (pB ma) (pD ma) o s c), f') ∧ M6 f' (zrd (pA ma) (pB ma) (pD ma) o s c) := by
  have hc := hp.1
  have hz := prs_z hp
  have L := it_inv (f := fX10_findMost_L3 (nI c) ma (iI o)) (fun k v => v.1 = b2i (zrf (pA ma) (pB ma) (pD ma) o s k) ∧ v.2.1 = nI k ∧ M6 v.2.2 (zrd (pA ma) (pB ma) (pD ma) o s k)) (fun e => e.1 = b2i (zrf (pA ma) (pB ma) (pD ma) o s c) ∧ M6 e.2 (zrd (pA ma) (pB ma) (pD ma) o s c)) c (by omega) (0, 0, f) ⟨rfl, rfl, hf⟩ ?_ ?_
  · obtain ⟨⟨e1, e2⟩, hit, h1, h2⟩ := L
    dsimp only at h1 h2
    exact ⟨e2, by rw [hit, h1], h2⟩
  · rintro k ⟨u1, u2, u3⟩ hk ⟨rfl, rfl, h3⟩
    dsimp only at h3 ⊢
    obtain ⟨p1, p2, p3, p4⟩ := hz k hk
    have I1 := zrd_I hz ho1 ho2 hI k (by omega)
    have B1 := zb_I I1 (by omega)
    obtain ⟨f1, e1, r1⟩ := lowerM h3 B1 p1 p2 (w := pD ma k + o) (by omega) (by omega) (zrf (pA ma) (pB ma) (pD ma) o s k)
    have I2 := zrl_I I1 p1 p2 (w := pD ma k + o) (by omega) (by omega)
    have B2 := zb_I I2 (by omega)
    obtain ⟨f2, e2, r2⟩ := lowerM r1 B2 p2 p1 (w := o - pD ma k) (by omega) (by omega) (zrf (pA ma) (pB ma) (pD ma) o s k || zfl (pA ma k) (pB ma k) (pD ma k + o) (zrd (pA ma) (pB ma) (pD ma) o s k))
    unfold fX10_findMost_L3
    dsimp only [un3]
    rw [if_neg (nI_ge hk (by omega)), i3, show nI (3 * k) + 1 = nI (3 * k + 1) from i3k k 1, show nI (3 * k) + 2 = nI (3 * k + 2) from i3k k 2, in_bnd (vp_in_nI (show 3 * k < 120 by omega) (by omega)), in_bnd (vp_in_nI (show 3 * k + 1 < 120 by omega) (by omega)), in_bnd (vp_in_nI (show 3 * k + 2 < 120 by omega) (by omega)), nI_clamp (by omega), nI_clamp (by omega), nI_clamp (by omega), prs_A hp hk, prs_B hp hk, prs_D ma k]
    simp only [gd_t, bv_d, bnd6 p1, bnd6 p2, cl6 p1, cl6 p2]
    have C1 : (100000000 : Int32) ≤ u3 (pB ma k) ∨ u3 (pB ma k) + iI (pD ma k) + iI o = iI (zrd (pA ma) (pB ma) (pD ma) o s k (pB ma k) + (pD ma k + o)) := by
      rw [h3 _ p2]
      by_cases q : zrd (pA ma) (pB ma) (pD ma) o s k (pB ma k) < zU
      · right; rw [if_pos q, iI_add, iI_add]; congr 1; omega
      · left; rw [if_neg q]; decide
    have S1 : (if (100000000 : Int32) ≤ u3 (pB ma k) then some (b2i (zrf (pA ma) (pB ma) (pD ma) o s k), u3) else if u3 (pA ma k) ≤ u3 (pB ma k) + iI (pD ma k) + iI o then some (b2i (zrf (pA ma) (pB ma) (pD ma) o s k), u3) else some (1, upd u3 (pA ma k) (u3 (pB ma k) + iI (pD ma k) + iI o))) = some (b2i (zrf (pA ma) (pB ma) (pD ma) o s k || zfl (pA ma k) (pB ma k) (pD ma k + o) (zrd (pA ma) (pB ma) (pD ma) o s k)), f1) := by
      rw [← e1]
      rcases C1 with q | q
      · rw [if_pos q, if_pos q]
      · rw [q]
    rw [S1, ob2_s]
    have C2 : (100000000 : Int32) ≤ f1 (pA ma k) ∨ f1 (pA ma k) - iI (pD ma k) + iI o = iI (zrl (pA ma k) (pB ma k) (pD ma k + o) (zrd (pA ma) (pB ma) (pD ma) o s k) (pA ma k) + (o - pD ma k)) := by
      rw [r1 _ p1]
      by_cases q : zrl (pA ma k) (pB ma k) (pD ma k + o) (zrd (pA ma) (pB ma) (pD ma) o s k) (pA ma k) < zU
      · right; rw [if_pos q, iI_sub, iI_add]; congr 1; omega
      · left; rw [if_neg q]; decide
    have S2 : (if (100000000 : Int32) ≤ f1 (pA ma k) then some (b2i (zrf (pA ma) (pB ma) (pD ma) o s k || zfl (pA ma k) (pB ma k) (pD ma k + o) (zrd (pA ma) (pB ma) (pD ma) o s k)), f1) else if f1 (pB ma k) ≤ f1 (pA ma k) - iI (pD ma k) + iI o then some (b2i (zrf (pA ma) (pB ma) (pD ma) o s k || zfl (pA ma k) (pB ma k) (pD ma k + o) (zrd (pA ma) (pB ma) (pD ma) o s k)), f1) else some (1, upd f1 (pB ma k) (f1 (pA ma k) - iI (pD ma k) + iI o))) = some (b2i (zrf (pA ma) (pB ma) (pD ma) o s (k + 1)), f2) := by
      rw [show zrf (pA ma) (pB ma) (pD ma) o s (k + 1) = (zrf (pA ma) (pB ma) (pD ma) o s k || zfl (pA ma k) (pB ma k) (pD ma k + o) (zrd (pA ma) (pB ma) (pD ma) o s k) || zfl (pB ma k) (pA ma k) (o - pD ma k) (zrl (pA ma k) (pB ma k) (pD ma k + o) (zrd (pA ma) (pB ma) (pD ma) o s k))) from rfl, ← e2]
      rcases C2 with q | q
      · rw [if_pos q, if_pos q]
      · rw [q]
    rw [S2, ob2_s]
    exact ⟨_, rfl, rfl, nI_1 k, r2⟩
  · rintro ⟨u1, u2, u3⟩ ⟨rfl, rfl, h3⟩
    unfold fX10_findMost_L3
    dsimp only [un3]
    rw [if_pos (nI_le (Nat.le_refl c) (by omega))]
    exact ⟨_, rfl, rfl, h3⟩
theorem most0M (f : Nat → Int32) : ∃ f', it fX10_findMost_L1 100000 (0, f) = some f' ∧ M6 f' zs0 := by
  have L := it_inv (f := fX10_findMost_L1) (fun k v => v.1 = nI k ∧ ∀ i, i < k → v.2 i = iI (if zs0 i < zU then zs0 i else 100000000)) (fun e => M6 e zs0) 6 (by omega) (0, f) ⟨rfl, fun i hi => absurd hi (Nat.not_lt_zero i)⟩ ?_ ?_
  · exact L
  · rintro k ⟨u3, u4⟩ hk ⟨rfl, h2⟩
    unfold fX10_findMost_L1
    dsimp only [un2] at h2 ⊢
    have e : (if nI k = 0 then some (0 : Int32) else some 100000000) = some (iI (if zs0 k < zU then zs0 k else 100000000)) := by
      rcases (show k = 0 ∨ k = 1 ∨ k = 2 ∨ k = 3 ∨ k = 4 ∨ k = 5 by omega) with rfl | rfl | rfl | rfl | rfl | rfl <;> decide
    rw [if_neg (show ¬ (6 : Int32) ≤ nI k from nI_ge hk (by decide)), e, ob_s, bnd6 hk, gd_t, bv_d, bv_d, cl6 hk]
    refine ⟨_, rfl, nI_1 _, fun i hi => ?_⟩
    dsimp only
    rw [upd_e]
    by_cases z : i = k
    · rw [if_pos z, z]
    · rw [if_neg z]; exact h2 i (by omega)
  · rintro ⟨u3, u4⟩ ⟨rfl, h2⟩
    unfold fX10_findMost_L1
    dsimp only [un2] at h2 ⊢
    rw [if_pos (show (6 : Int32) ≤ nI 6 from by decide)]
    exact ⟨_, rfl, h2⟩
theorem mostM {ma : Nat → Int32} {c : Nat} (hp : prs ma c) {o : Int} (ho1 : 0 ≤ o) (ho2 : o ≤ 2000) (f : Nat → Int32) : ∃ f', fX10_findMost (iI o) (nI c) ma f = some (!(zF (pA ma) (pB ma) (pD ma) c o 5), f') ∧ (zF (pA ma) (pB ma) (pD ma) c o 5 = false → M6 f' (zSt (pA ma) (pB ma) (pD ma) c o 5)) := by
  have hz := prs_z hp
  have hc := hp.1
  obtain ⟨f0, e0, r0⟩ := most0M f
  unfold fX10_findMost
  rw [e0, ob_s]
  have L := it_ex (f := fX10_findMost_L2 (nI c) ma (iI o)) (fun t v => v.1 = b2i (decide (t = 0) || zF (pA ma) (pB ma) (pD ma) c o (t - 1)) ∧ v.2.1 = nI t ∧ M6 v.2.2 (zSt (pA ma) (pB ma) (pD ma) c o t)) (fun e => e.1 = b2i (zF (pA ma) (pB ma) (pD ma) c o 7) ∧ (zF (pA ma) (pB ma) (pD ma) c o 7 = false → M6 e.2 (zSt (pA ma) (pB ma) (pD ma) c o 7))) 8 (by omega) (1, 0, f0) ⟨rfl, rfl, r0⟩ ?_ ?_
  · obtain ⟨⟨e1, e2⟩, hit, h1, h2⟩ := L
    dsimp only at h1 h2
    rw [hit, ob2_s, h1]
    have ref := zP_ref hz ho1 ho2 hc
    cases h7 : zF (pA ma) (pB ma) (pD ma) c o 7 with
    | true =>
      have n5 : zF (pA ma) (pB ma) (pD ma) c o 5 = true := by
        cases h5 : zF (pA ma) (pB ma) (pD ma) c o 5 with
        | true => rfl
        | false => have := (ref.mpr h5).1; rw [h7] at this; cases this
      rw [ite_b, n5]
      exact ⟨_, rfl, fun q => by cases q⟩
    | false =>
      have r := h2 h7
      have bd := zI_bd (zSt_I hz ho1 ho2 hc 7 (by omega)) (show 0 < 6 by omega)
      have l0 : zSt (pA ma) (pB ma) (pD ma) c o 7 0 ≤ 0 := zSt_le (Nat.zero_le 7) 0
      have r00 : e2 0 = iI (zSt (pA ma) (pB ma) (pD ma) c o 7 0) := by rw [r 0 (by omega), if_pos (by unfold zU; omega)]
      rw [ite_bf, show bnd 0 6 = true from by decide, gd_t, show Int32.toNatClampNeg 0 = 0 from by decide, r00]
      have A1 : (iI (zSt (pA ma) (pB ma) (pD ma) c o 7 0) = 0) ↔ zSt (pA ma) (pB ma) (pD ma) c o 7 0 = 0 := by
        rw [iI0, iI_eq (by omega) (by omega) (by omega) (by omega)]
      simp only [A1]
      by_cases z : zSt (pA ma) (pB ma) (pD ma) c o 7 0 = 0
      · have h5 := ref.mp ⟨h7, z⟩
        rw [if_pos z, h5]
        refine ⟨_, rfl, fun _ => ?_⟩
        rw [← (zF_stay' h5 (show 5 ≤ 7 by omega)).1]
        exact r
      · have n5 : zF (pA ma) (pB ma) (pD ma) c o 5 = true := by
          cases h5 : zF (pA ma) (pB ma) (pD ma) c o 5 with
          | true => rfl
          | false => exact absurd (ref.mpr h5).2 z
        rw [if_neg z, n5]
        exact ⟨_, rfl, fun q => by cases q⟩
  · rintro t ⟨u1, u2, g⟩ ht ⟨rfl, rfl, h3⟩
    dsimp only at h3
    obtain ⟨f', e, r⟩ := roundM hp ho1 ho2 (m := 80 * t) (by omega) (zSt_I hz ho1 ho2 hc t (by omega)) h3
    unfold fX10_findMost_L2
    dsimp only [un3]
    rw [if_neg (show ¬ (8 : Int32) ≤ nI t from nI_ge ht (by decide)), e, ob2_s, bv_d]
    cases hb : (decide (t = 0) || zF (pA ma) (pB ma) (pD ma) c o (t - 1)) with
    | true =>
      left
      rw [if_neg (show ¬ b2i true = 0 from by decide)]
      refine ⟨_, rfl, ?_, nI_1 t, r⟩
      dsimp only
      rw [decide_eq_false (show ¬ t + 1 = 0 by omega), Bool.false_or]
      rfl
    | false =>
      right
      rw [if_pos (show b2i false = 0 from rfl)]
      rw [Bool.or_eq_false_iff] at hb
      have ht0 : t ≠ 0 := of_decide_eq_false hb.1
      have s7 := zF_stay' hb.2 (show t - 1 ≤ 7 by omega)
      have st := zF_stay' hb.2 (show t - 1 ≤ t by omega)
      refine ⟨_, rfl, by rw [s7.2], fun _ => ?_⟩
      rw [s7.1, ← st.1]; exact h3
  · rintro ⟨u1, u2, g⟩ ⟨rfl, rfl, h3⟩
    unfold fX10_findMost_L2
    dsimp only [un3]
    rw [if_pos (show (8 : Int32) ≤ nI 8 from by decide)]
    refine ⟨_, rfl, rfl, fun h7 => ?_⟩
    have s8 := zF_stay' h7 (show 7 ≤ 8 by omega)
    rw [← s8.1]; exact h3
/-! the joined -/
def jn (s : Nat → Int) (i : Nat) : Bool := decide (s i < zU)
def jr (a b : Nat) (j : Nat → Bool) : Nat → Bool := fun i => j i || (decide (i = a) && j b)
def jrd (A B : Nat → Nat) (j : Nat → Bool) : Nat → Nat → Bool
  | 0 => j
  | n + 1 => jr (B n) (A n) (jr (A n) (B n) (jrd A B j n))
def jSt (A B : Nat → Nat) (c : Nat) : Nat → Nat → Bool
  | 0 => fun i => decide (i = 0)
  | t + 1 => jrd A B (jSt A B c t) c
theorem jn_rl {s : Nat → Int} (hs : zb s) {a b : Nat} (hb : b < 6) {w : Int} (hw2 : w ≤ 4000) : jn (zrl a b w s) = jr a b (jn s) := by
  funext i
  have by_ := hs b hb
  unfold jn jr zrl
  dsimp only
  by_cases h : s b < zU
  · by_cases q : zfl a b w s = true
    · have q2 := of_decide_eq_true (show decide (s b < zU ∧ s b + w < s a) = true from q)
      rw [if_pos q, zup_at, decide_eq_true h, Bool.and_true]
      by_cases z : i = a
      · rw [if_pos z, decide_eq_true z, Bool.or_true, decide_eq_true (by unfold zU at *; omega)]
      · rw [if_neg z, decide_eq_false z, Bool.or_false]
    · have q2 := of_decide_eq_false (show decide (s b < zU ∧ s b + w < s a) = false from Bool.eq_false_iff.mpr q)
      rw [if_neg q, decide_eq_true h, Bool.and_true]
      by_cases z : i = a
      · subst z
        rw [decide_eq_true (show s i < zU by unfold zU at *; omega)]; rfl
      · rw [decide_eq_false z, Bool.or_false]
  · have q : ¬ zfl a b w s = true := fun q => h (of_decide_eq_true (show decide (s b < zU ∧ s b + w < s a) = true from q)).1
    rw [if_neg q, decide_eq_false h, Bool.and_false, Bool.or_false]
theorem jn_rd {A B : Nat → Nat} {D : Nat → Int} {c : Nat} (hz : zpr A B D c) (hc : c ≤ 40) {o : Int} (ho1 : 0 ≤ o) (ho2 : o ≤ 2000) {s : Nat → Int} {m : Nat} (hm : m ≤ 640) (hI : zI m s) : ∀ n, n ≤ c → jn (zrd A B D o s n) = jrd A B (jn s) n := by
  intro n
  induction n with
  | zero => intro _; rfl
  | succ n ih =>
    intro hn
    obtain ⟨p1, p2, p3, p4⟩ := hz n (by omega)
    have I1 := zrd_I hz ho1 ho2 hI n (by omega)
    have I2 := zrl_I I1 p1 p2 (w := D n + o) (by omega) (by omega)
    show jn (zrl (B n) (A n) (o - D n) (zrl (A n) (B n) (D n + o) (zrd A B D o s n))) = jr (B n) (A n) (jr (A n) (B n) (jrd A B (jn s) n))
    rw [jn_rl (zb_I I2 (by omega)) p1 (by omega), jn_rl (zb_I I1 (by omega)) p2 (by omega), ih (by omega)]
theorem jn_St {A B : Nat → Nat} {D : Nat → Int} {c : Nat} (hz : zpr A B D c) (hc : c ≤ 40) {o : Int} (ho1 : 0 ≤ o) (ho2 : o ≤ 2000) : ∀ t, t ≤ 8 → jn (zSt A B D c o t) = jSt A B c t := by
  intro t
  induction t with
  | zero =>
    intro _
    funext i
    show decide (zs0 i < zU) = decide (i = 0)
    unfold zs0 zU
    by_cases z : i = 0
    · rw [if_pos z, decide_eq_true z]; rfl
    · rw [if_neg z, decide_eq_false z]; rfl
  | succ t ih =>
    intro ht
    show jn (zrd A B D o (zSt A B D c o t) c) = jrd A B (jSt A B c t) c
    rw [jn_rd hz hc ho1 ho2 (m := 80 * t) (by omega) (zSt_I hz ho1 ho2 hc t (by omega)) c (Nat.le_refl c), ih (by omega)]
/-- those in a pair -/
def pd (A B : Nat → Nat) : Nat → Nat → Bool
  | 0, _ => false
  | n + 1, i => pd A B n i || decide (i = A n) || decide (i = B n)
theorem pd_iff {A B : Nat → Nat} {i : Nat} : ∀ n, pd A B n i = true ↔ ∃ k, k < n ∧ (i = A k ∨ i = B k) := by
  intro n
  induction n with
  | zero => exact ⟨(fun h => absurd (show false = true from h) (by decide)), (fun ⟨k, hk, _⟩ => absurd hk (Nat.not_lt_zero k))⟩
  | succ n ih =>
    show (pd A B n i || decide (i = A n) || decide (i = B n)) = true ↔ _
    rw [Bool.or_eq_true, Bool.or_eq_true, ih, decide_eq_true_eq, decide_eq_true_eq]
    constructor
    · rintro ((⟨k, hk, h⟩ | h) | h)
      · exact ⟨k, by omega, h⟩
      · exact ⟨n, by omega, Or.inl h⟩
      · exact ⟨n, by omega, Or.inr h⟩
    · rintro ⟨k, hk, h⟩
      rcases Nat.lt_or_ge k n with q | q
      · exact Or.inl (Or.inl ⟨k, q, h⟩)
      · have : k = n := by omega
        subst this
        rcases h with h | h
        · exact Or.inl (Or.inr h)
        · exact Or.inr h
/-- who is joined is in a pair, or the first -/
theorem jrd_pd {A B : Nat → Nat} {c : Nat} {j : Nat → Bool} (h : ∀ i, j i = true → i = 0 ∨ pd A B c i = true) : ∀ n, n ≤ c → ∀ i, jrd A B j n i = true → i = 0 ∨ pd A B c i = true := by
  intro n
  induction n with
  | zero => intro _; exact h
  | succ n ih =>
    intro hn i hi
    have e : jrd A B j (n + 1) i = ((jrd A B j n i || (decide (i = A n) && jrd A B j n (B n))) || (decide (i = B n) && (jrd A B j n (A n) || (decide (A n = A n) && jrd A B j n (B n))))) := rfl
    rw [e, Bool.or_eq_true, Bool.or_eq_true, Bool.and_eq_true, Bool.and_eq_true, decide_eq_true_eq, decide_eq_true_eq] at hi
    rcases hi with (hi | hi) | hi
    · exact ih (by omega) i hi
    · exact Or.inr ((pd_iff c).mpr ⟨n, by omega, Or.inl hi.1⟩)
    · exact Or.inr ((pd_iff c).mpr ⟨n, by omega, Or.inr hi.1⟩)
theorem jSt_pd {A B : Nat → Nat} {c : Nat} : ∀ t i, jSt A B c t i = true → i = 0 ∨ pd A B c i = true := by
  intro t
  induction t with
  | zero => intro i hi; exact Or.inl (of_decide_eq_true hi)
  | succ t ih => intro i hi; exact jrd_pd ih c (Nat.le_refl c) i hi
/-- if the first is in no pair, nobody joins it -/
theorem jrd_no {A B : Nat → Nat} {c : Nat} {j : Nat → Bool} (h0 : pd A B c 0 = false) (h : ∀ i, j i = true → i = 0) : ∀ n, n ≤ c → ∀ i, jrd A B j n i = true → i = 0 := by
  intro n
  induction n with
  | zero => intro _; exact h
  | succ n ih =>
    intro hn i hi
    have na : A n ≠ 0 := by
      intro q
      have : pd A B c 0 = true := (pd_iff c).mpr ⟨n, by omega, Or.inl q.symm⟩
      rw [h0] at this; cases this
    have nb : B n ≠ 0 := by
      intro q
      have : pd A B c 0 = true := (pd_iff c).mpr ⟨n, by omega, Or.inr q.symm⟩
      rw [h0] at this; cases this
    have e : jrd A B j (n + 1) i = ((jrd A B j n i || (decide (i = A n) && jrd A B j n (B n))) || (decide (i = B n) && (jrd A B j n (A n) || (decide (A n = A n) && jrd A B j n (B n))))) := rfl
    have fa : jrd A B j n (A n) = false := Bool.eq_false_iff.mpr (fun q => na (ih (by omega) _ q))
    have fb : jrd A B j n (B n) = false := Bool.eq_false_iff.mpr (fun q => nb (ih (by omega) _ q))
    rw [e, fa, fb] at hi
    simp only [Bool.and_false, Bool.or_false] at hi
    exact ih (by omega) i hi
theorem jSt_no {A B : Nat → Nat} {c : Nat} (h0 : pd A B c 0 = false) : ∀ t i, jSt A B c t i = true → i = 0 := by
  intro t
  induction t with
  | zero => intro i hi; exact of_decide_eq_true hi
  | succ t ih => intro i hi; exact jrd_no h0 ih c (Nat.le_refl c) i hi
def alJ (A B : Nat → Nat) (c : Nat) : Prop := ∀ k, k < c → jSt A B c 5 (A k) = true ∧ jSt A B c 5 (B k) = true
