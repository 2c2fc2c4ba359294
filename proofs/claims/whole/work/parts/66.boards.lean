/-! boards: the class's rounds and the reference's -/
theorem it_exN {V E : Type} {f : V → Option (E ⊕ V)} (I : Nat → V → Prop) (P : E → Prop) {n : Nat} (hs : ∀ i v, i < n → I i v → (∃ v', f v = some (.inr v') ∧ I (i + 1) v') ∨ ∃ e, f v = some (.inl e) ∧ P e) (hx : ∀ v, I n v → ∃ e, f v = some (.inl e) ∧ P e) : ∀ (d k : Nat) (v : V), k + d = n → I k v → ∀ m, d < m → ∃ e, it f m v = some e ∧ P e := by
  intro d
  induction d with
  | zero =>
    intro k v hk hI m hm
    have : k = n := by omega
    subst this
    obtain ⟨m', rfl⟩ : ∃ m', m = m' + 1 := ⟨m - 1, by omega⟩
    obtain ⟨e, he, hp⟩ := hx v hI
    exact ⟨e, it_inl he, hp⟩
  | succ d ih =>
    intro k v hk hI m hm
    obtain ⟨m', rfl⟩ : ∃ m', m = m' + 1 := ⟨m - 1, by omega⟩
    rcases hs k v (by omega) hI with ⟨v', hv, hI'⟩ | ⟨e, he, hp⟩
    · rw [it_inr hv]
      exact ih (k + 1) v' (by omega) hI' m' (by omega)
    · exact ⟨e, it_inl he, hp⟩
theorem it_ex {V E : Type} {f : V → Option (E ⊕ V)} (I : Nat → V → Prop) (P : E → Prop) (n : Nat) (hn : n < 100000) (v : V) (h0 : I 0 v) (hs : ∀ i v, i < n → I i v → (∃ v', f v = some (.inr v') ∧ I (i + 1) v') ∨ ∃ e, f v = some (.inl e) ∧ P e) (hx : ∀ v, I n v → ∃ e, f v = some (.inl e) ∧ P e) : ∃ e, it f 100000 v = some e ∧ P e :=
  it_exN I P hs hx n 0 v (by omega) h0 100000 hn
/-- the pairs' numbers -/
def pA (ma : Nat → Int32) (k : Nat) : Nat := (ma (3 * k)).toInt.toNat
def pB (ma : Nat → Int32) (k : Nat) : Nat := (ma (3 * k + 1)).toInt.toNat
def pD (ma : Nat → Int32) (k : Nat) : Int := (ma (3 * k + 2)).toInt
def prs (ma : Nat → Int32) (c : Nat) : Prop := c ≤ 40 ∧ ∀ i, i < c → rg (ma (3 * i)) 0 5 ∧ rg (ma (3 * i + 1)) 0 5 ∧ ma (3 * i) ≠ ma (3 * i + 1) ∧ rg (ma (3 * i + 2)) (-2000) 2000
theorem prs_z {ma : Nat → Int32} {c : Nat} (h : prs ma c) : zpr (pA ma) (pB ma) (pD ma) c := by
  intro k hk
  obtain ⟨h1, h2, -, h4⟩ := h.2 k hk
  unfold pA pB pD
  have := h1.1; have := h1.2; have := h2.1; have := h2.2; have := h4.1; have := h4.2
  omega
theorem prs_A {ma : Nat → Int32} {c : Nat} (h : prs ma c) {k : Nat} (hk : k < c) : ma (3 * k) = nI (pA ma k) := by
  unfold pA; rw [← iI_nat (h.2 k hk).1.1, iI_of]
theorem prs_B {ma : Nat → Int32} {c : Nat} (h : prs ma c) {k : Nat} (hk : k < c) : ma (3 * k + 1) = nI (pB ma k) := by
  unfold pB; rw [← iI_nat (h.2 k hk).2.1.1, iI_of]
theorem prs_D (ma : Nat → Int32) (k : Nat) : ma (3 * k + 2) = iI (pD ma k) := by unfold pD; rw [iI_of]
theorem i3 (i : Nat) : (3 : Int32) * nI i = nI (3 * i) := pk_mul 3 i
theorem i3k (i k : Nat) : nI (3 * i) + nI k = nI (3 * i + k) := nI_add _ k
theorem atp {a ma : Nat → Int32} {c : Nat} (hc : c ≤ 40) (he : ∀ k, k < 3 * c → a k = ma k) {i j : Nat} (hi : i < c) (hj : j < 3) : fX7_at (nI i) (nI j) 3 120 a = some (ma (3 * i + j)) := by
  have q := tat (w := 3) (n := 120) (i := i) (j := j) (by omega) (by omega) a
  rw [Nat.mul_comm, he _ (by omega)] at q
  exact q
/-- rows of six -/
def R6 (f : Nat → Int32) (s : Nat → Int) : Prop := ∀ i, i < 6 → f i = iI (s i)
def zb (s : Nat → Int) : Prop := ∀ i, i < 6 → -1900000 ≤ s i ∧ (s i = zU ∨ s i ≤ 20000)
theorem zb_I {n : Nat} {s : Nat → Int} (h : zI n s) (hn : n ≤ 900) : zb s := by
  intro i hi
  have := zI_bd h hi
  omega
theorem wi5 {k : Nat} (h : k < 6) : wi (nI k) 0 5 = true := by
  rcases (show k = 0 ∨ k = 1 ∨ k = 2 ∨ k = 3 ∨ k = 4 ∨ k = 5 by omega) with rfl | rfl | rfl | rfl | rfl | rfl <;> decide
theorem bnd6 {k : Nat} (h : k < 6) : bnd (nI k) 6 = true := in_bnd (vp_in_nI h (by decide))
theorem cl6 {k : Nat} (h : k < 6) : (nI k).toNatClampNeg = k := nI_clamp (by omega)
theorem joinedX {f : Nat → Int32} {s : Nat → Int} (hf : R6 f s) (hs : zb s) {x : Nat} (hx : x < 6) : fX0_isJoined (nI x) f = some (decide (s x < zU)) := by
  unfold fX0_isJoined
  have b := hs x hx
  rw [isWithin_eq, ob_s, wi5 hx, ite_b, bnd6 hx, gd_t, cl6 hx, hf x hx]
  by_cases h : s x < zU
  · rw [decide_eq_true h, if_neg]
    rw [show (1000000 : Int32) = iI 1000000 from by decide, iI_eq (by omega) (by unfold zU at *; omega) (by omega) (by omega)]
    unfold zU at h; omega
  · rw [decide_eq_false h, if_pos]
    rw [show (1000000 : Int32) = iI 1000000 from by decide]
    congr 1; unfold zU at *; omega
theorem lowerX {f : Nat → Int32} {s : Nat → Int} (hf : R6 f s) (hs : zb s) {x y : Nat} (hx : x < 6) (hy : y < 6) {w : Int} (hw1 : -2000 ≤ w) (hw2 : w ≤ 4000) : ∃ f', fX0_lower (nI x) (nI y) (iI w) f = some (zfl x y w s, f') ∧ R6 f' (zrl x y w s) := by
  have bx := hs x hx
  have by_ := hs y hy
  unfold fX0_lower
  rw [isWithin_eq, ob_s, wi5 hx, ite_b, joinedX hf hs hy, ob_s]
  by_cases h : s y < zU
  · rw [decide_eq_true h, ite_b, bnd6 hy, gd_t, cl6 hy, hf y hy, iI_add, bv_d, bnd6 hx, gd_t, gd_t, cl6 hx, hf x hx]
    have A1 : (iI (s y + w) < iI (s x)) ↔ s y + w < s x := iI_lt (by omega) (by unfold zU at *; omega) (by omega) (by unfold zU at *; omega)
    simp only [A1]
    by_cases q : s y + w < s x
    · have e : zfl x y w s = true := decide_eq_true ⟨h, q⟩
      rw [if_pos q, bv_d, e]
      refine ⟨_, rfl, fun i hi => ?_⟩
      unfold zrl
      rw [if_pos e, zup_at, upd_e]
      by_cases z : i = x
      · rw [if_pos z, if_pos z]
      · rw [if_neg z, if_neg z]; exact hf i hi
    · have e : zfl x y w s = false := decide_eq_false (fun z => q z.2)
      rw [if_neg q, e]
      exact ⟨_, rfl, by rw [zrl_f e]; exact hf⟩
  · have e : zfl x y w s = false := decide_eq_false (fun z => h z.1)
    rw [decide_eq_false h, ite_bf, e]
    exact ⟨_, rfl, by rw [zrl_f e]; exact hf⟩
theorem b2i_or (x y : Bool) : b2i x ||| b2i y = b2i (x || y) := by cases x <;> cases y <;> decide
theorem lowerAllX {a ma : Nat → Int32} {c : Nat} (hp : prs ma c) (he : ∀ k, k < 3 * c → a k = ma k) {o : Int} (ho1 : 0 ≤ o) (ho2 : o ≤ 2000) {f : Nat → Int32} {s : Nat → Int} {m : Nat} (hm : m ≤ 640) (hI : zI m s) (hf : R6 f s) : ∃ f', fX0_lowerAll (iI o) 3 (nI c) f 120 a = some (zrf (pA ma) (pB ma) (pD ma) o s c, f') ∧ R6 f' (zrd (pA ma) (pB ma) (pD ma) o s c) := by
  have hc := hp.1
  have hz := prs_z hp
  have L := it_inv (f := fX0_lowerAll_L1 (nI c) 3 120 a (iI o)) (fun k v => v.1 = b2i (zrf (pA ma) (pB ma) (pD ma) o s k) ∧ v.2.1 = nI k ∧ R6 v.2.2 (zrd (pA ma) (pB ma) (pD ma) o s k)) (fun e => e.1 = b2i (zrf (pA ma) (pB ma) (pD ma) o s c) ∧ R6 e.2 (zrd (pA ma) (pB ma) (pD ma) o s c)) c (by omega) (0, 0, f) ⟨rfl, rfl, hf⟩ ?_ ?_
  · obtain ⟨⟨e1, e2⟩, hit, h1, h2⟩ := L
    dsimp only at h1 h2
    unfold fX0_lowerAll
    rw [hit, ob2_s, h1]
    refine ⟨e2, ?_, h2⟩
    cases zrf (pA ma) (pB ma) (pD ma) o s c <;> rfl
  · rintro k ⟨u1, u2, u3⟩ hk ⟨rfl, rfl, h3⟩
    dsimp only at h3 ⊢
    obtain ⟨p1, p2, p3, p4⟩ := hz k hk
    have I1 := zrd_I hz ho1 ho2 hI k (by omega)
    have B1 := zb_I I1 (by omega)
    have t0 : fX7_at (nI k) 0 3 120 a = some (ma (3 * k)) := atp hc he (j := 0) hk (by omega)
    have t1 : fX7_at (nI k) 1 3 120 a = some (ma (3 * k + 1)) := atp hc he (j := 1) hk (by omega)
    have t2 : fX7_at (nI k) 2 3 120 a = some (ma (3 * k + 2)) := atp hc he (j := 2) hk (by omega)
    obtain ⟨f1, e1, r1⟩ := lowerX h3 B1 p1 p2 (w := pD ma k + o) (by omega) (by omega)
    have I2 := zrl_I I1 p1 p2 (w := pD ma k + o) (by omega) (by omega)
    have B2 := zb_I I2 (by omega)
    obtain ⟨f2, e2, r2⟩ := lowerX r1 B2 p2 p1 (w := o - pD ma k) (by omega) (by omega)
    unfold fX0_lowerAll_L1
    dsimp only [un3]
    rw [tsize, ob_s, if_neg (nI_ge hk (by omega)), t0, t1, t2, ob_s, ob_s, ob_s, prs_A hp hk, prs_B hp hk, prs_D ma k, iI_add, e1, ob2_s, bv_d, iI_sub, e2, ob2_s, bv_d, bv_d, b2i_or, b2i_or]
    refine ⟨_, rfl, rfl, nI_1 k, r2⟩
  · rintro ⟨u1, u2, u3⟩ ⟨rfl, rfl, h3⟩
    unfold fX0_lowerAll_L1
    dsimp only [un3]
    rw [tsize, ob_s, if_pos (nI_le (Nat.le_refl c) (by omega))]
    exact ⟨_, rfl, rfl, h3⟩
theorem settle0X (f : Nat → Int32) : ∃ f', it fX0_settle_L1 100000 (1, upd f 0 0) = some f' ∧ R6 f' zs0 := by
  have L := it_inv (f := fX0_settle_L1) (fun k v => v.1 = nI (k + 1) ∧ ∀ i, i < k + 1 → v.2 i = iI (zs0 i)) (fun e => R6 e zs0) 5 (by omega) (1, upd f 0 0) ⟨rfl, ?_⟩ ?_ ?_
  · exact L
  · intro i hi
    have : i = 0 := by omega
    subst this
    rfl
  · rintro k ⟨u3, u4⟩ hk ⟨rfl, h2⟩
    unfold fX0_settle_L1
    dsimp only [un2] at h2 ⊢
    rw [if_neg (show ¬ (6 : Int32) ≤ nI (k + 1) from nI_ge (show k + 1 < 6 by omega) (by decide)), bnd6 (by omega), gd_t, bv_d, bv_d, cl6 (by omega)]
    refine ⟨_, rfl, nI_1 _, fun i hi => ?_⟩
    dsimp only
    rw [upd_e]
    by_cases z : i = k + 1
    · rw [if_pos z]; unfold zs0; rw [if_neg (by omega)]; rfl
    · rw [if_neg z]; exact h2 i (by omega)
  · rintro ⟨u3, u4⟩ ⟨rfl, h2⟩
    unfold fX0_settle_L1
    dsimp only [un2] at h2 ⊢
    rw [if_pos (show (6 : Int32) ≤ nI (5 + 1) from by decide)]
    exact ⟨_, rfl, h2⟩
theorem settleX {a ma : Nat → Int32} {c : Nat} (hp : prs ma c) (he : ∀ k, k < 3 * c → a k = ma k) {o : Int} (ho1 : 0 ≤ o) (ho2 : o ≤ 2000) (f : Nat → Int32) : ∃ f', fX0_settle (iI o) 3 (nI c) f 120 a = some (!(zF (pA ma) (pB ma) (pD ma) c o 5), f') ∧ (zF (pA ma) (pB ma) (pD ma) c o 5 = false → R6 f' (zSt (pA ma) (pB ma) (pD ma) c o 5)) := by
  have hz := prs_z hp
  have hc := hp.1
  obtain ⟨f0, e0, r0⟩ := settle0X f
  unfold fX0_settle
  rw [show bnd 0 6 = true from by decide, gd_t, bv_d, show Int32.toNatClampNeg 0 = 0 from by decide, e0, ob_s]
  have L := it_ex (f := fX0_settle_L2 (iI o) 3 (nI c) 120 a) (fun t v => v.1 = nI t ∧ R6 v.2 (zSt (pA ma) (pB ma) (pD ma) c o t) ∧ ∀ t', t' < t → zF (pA ma) (pB ma) (pD ma) c o t' = true) (fun e => (∃ g, e = .inl g ∧ zF (pA ma) (pB ma) (pD ma) c o 5 = true) ∨ (∃ g, e = .inr g ∧ zF (pA ma) (pB ma) (pD ma) c o 5 = false ∧ R6 g (zSt (pA ma) (pB ma) (pD ma) c o 5))) 6 (by omega) (0, f0) ⟨rfl, r0, fun t' h => absurd h (Nat.not_lt_zero t')⟩ ?_ ?_
  · obtain ⟨e, hit, h⟩ := L
    rw [hit]
    rcases h with ⟨g, rfl, h⟩ | ⟨g, rfl, h, h2⟩
    · rw [h]; exact ⟨g, rfl, fun q => by cases q⟩
    · rw [h]; exact ⟨g, rfl, fun _ => h2⟩
  · rintro t ⟨u, g⟩ ht ⟨rfl, h2, h3⟩
    dsimp only at h2
    obtain ⟨f', e, r⟩ := lowerAllX hp he ho1 ho2 (m := 80 * t) (by omega) (zSt_I hz ho1 ho2 hc t (by omega)) h2
    unfold fX0_settle_L2
    dsimp only [un2]
    rw [if_neg (show ¬ (6 : Int32) ≤ nI t from nI_ge ht (by decide)), e, ob2_s]
    cases hF : zF (pA ma) (pB ma) (pD ma) c o t with
    | true =>
      left
      rw [show zrf (pA ma) (pB ma) (pD ma) o (zSt (pA ma) (pB ma) (pD ma) c o t) c = true from hF, ite_b, bv_d]
      refine ⟨_, rfl, nI_1 t, r, fun t' ht' => ?_⟩
      rcases Nat.lt_or_ge t' t with q | q
      · exact h3 t' q
      · have : t' = t := by omega
        subst this; exact hF
    | false =>
      right
      rw [show zrf (pA ma) (pB ma) (pD ma) o (zSt (pA ma) (pB ma) (pD ma) c o t) c = false from hF, ite_bf]
      have s5 := zF_stay' hF (show t ≤ 5 by omega)
      refine ⟨_, rfl, Or.inr ⟨f', rfl, s5.2, ?_⟩⟩
      have s6 := zF_stay' hF (show t ≤ t + 1 by omega)
      rw [s5.1, ← s6.1]; exact r
  · rintro ⟨u, g⟩ ⟨rfl, h2, h3⟩
    unfold fX0_settle_L2
    dsimp only [un2]
    rw [if_pos (show (6 : Int32) ≤ nI 6 from by decide)]
    exact ⟨_, rfl, Or.inl ⟨g, rfl, h3 5 (by omega)⟩⟩
/-! the reference's rounds -/
def M6 (f : Nat → Int32) (s : Nat → Int) : Prop := ∀ i, i < 6 → f i = iI (if s i < zU then s i else 100000000)
theorem lowerM {f : Nat → Int32} {s : Nat → Int} (hf : M6 f s) (hs : zb s) {x y : Nat} (hx : x < 6) (hy : y < 6) {w : Int} (hw1 : -2000 ≤ w) (hw2 : w ≤ 4000) (fl : Bool) : ∃ f', (if (100000000 : Int32) ≤ f y then some (b2i fl, f) else if f x ≤ iI (s y + w) then some (b2i fl, f) else some (1, upd f x (iI (s y + w)))) = some (b2i (fl || zfl x y w s), f') ∧ M6 f' (zrl x y w s) := by
  have bx := hs x hx
  have by_ := hs y hy
  rw [hf y hy, hf x hx, show (100000000 : Int32) = iI 100000000 from by decide]
  by_cases h : s y < zU
  · rw [if_pos h, if_neg (by rw [iI_le (by omega) (by omega) (by omega) (by unfold zU at *; omega)]; unfold zU at *; omega)]
    have A1 : (iI (if s x < zU then s x else 100000000) ≤ iI (s y + w)) ↔ ¬ s y + w < s x := by
      rw [iI_le (by split <;> omega) (by split <;> unfold zU at * <;> omega) (by omega) (by unfold zU at *; omega)]
      unfold zU at *
      split <;> omega
    simp only [A1]
    by_cases q : s y + w < s x
    · have e : zfl x y w s = true := decide_eq_true ⟨h, q⟩
      rw [if_neg (fun z => z q), e, Bool.or_true]
      refine ⟨_, rfl, fun i hi => ?_⟩
      unfold zrl
      rw [if_pos e, zup_at, upd_e]
      by_cases z : i = x
      · rw [if_pos z, if_pos z, if_pos (by unfold zU at *; omega)]
      · rw [if_neg z, if_neg z]; exact hf i hi
    · have e : zfl x y w s = false := decide_eq_false (fun z => q z.2)
      rw [if_pos q, e, Bool.or_false]
      exact ⟨_, rfl, by rw [zrl_f e]; exact hf⟩
  · have e : zfl x y w s = false := decide_eq_false (fun z => h z.1)
    rw [if_neg h, if_pos (by rw [iI_le (by omega) (by omega) (by omega) (by omega)]; omega), e, Bool.or_false]
    exact ⟨_, rfl, by rw [zrl_f e]; exact hf⟩
