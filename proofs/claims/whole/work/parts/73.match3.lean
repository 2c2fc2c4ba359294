/-! matched: the reference's least sums -/
def gfn (Ci : Nat → Option Nat) (g : Nat → Nat) (s j : Nat) : Option Nat :=
  if tb s j = true then none else (match Ci j with
    | none => none
    | some c => some (c + g (s + 2 ^ j)))
theorem gfn_n1 {Ci : Nat → Option Nat} {g : Nat → Nat} {s j : Nat} (h : tb s j = true) : gfn Ci g s j = none := by unfold gfn; rw [if_pos h]
theorem gfn_n2 {Ci : Nat → Option Nat} {g : Nat → Nat} {s j : Nat} (h : Ci j = none) : gfn Ci g s j = none := by unfold gfn; rw [h]; split <;> rfl
theorem gfn_s {Ci : Nat → Option Nat} {g : Nat → Nat} {s j c : Nat} (h1 : tb s j = false) (h2 : Ci j = some c) : gfn Ci g s j = some (c + g (s + 2 ^ j)) := by
  unfold gfn; rw [if_neg (by rw [h1]; decide), h2]
theorem gfn_of {Ci : Nat → Option Nat} {g : Nat → Nat} {s j v : Nat} (h : gfn Ci g s j = some v) : tb s j = false ∧ ∃ c, Ci j = some c ∧ v = c + g (s + 2 ^ j) := by
  cases h1 : tb s j with
  | true => rw [gfn_n1 h1] at h; cases h
  | false =>
    cases h2 : Ci j with
    | none => rw [gfn_n2 h2] at h; cases h
    | some c => rw [gfn_s h1 h2] at h; exact ⟨rfl, c, rfl, (Option.some.inj h).symm⟩
def Gm (C : Nat → Nat → Option Nat) (A n0 n1 : Nat) : Nat → Nat → Nat
  | 0, s => A * (n1 - pcn s)
  | k + 1, s => fm (gfn (C (n0 - (k + 1))) (Gm C A n0 n1 k) s) (A + Gm C A n0 n1 k s) n1
theorem Gm_b {C : Nat → Nat → Option Nat} {A n0 n1 : Nat} (hA : A ≤ 1000) (h1 : n1 ≤ 8) : ∀ k s, Gm C A n0 n1 k s ≤ 8000 + k * 1000 := by
  intro k
  induction k with
  | zero =>
    intro s
    have := Nat.mul_le_mul hA (show n1 - pcn s ≤ 8 by omega)
    unfold Gm
    omega
  | succ k ih =>
    intro s
    have q := fm_le0 (gfn (C (n0 - (k + 1))) (Gm C A n0 n1 k) s) (A + Gm C A n0 n1 k s) n1
    have q2 := ih s
    show fm (gfn (C (n0 - (k + 1))) (Gm C A n0 n1 k) s) (A + Gm C A n0 n1 k s) n1 ≤ _
    omega
section Least
variable {C : Nat → Nat → Option Nat} {A c0 c1 c2 : Nat} {mb ml mh mu : Int32} {ed le wo b2 : Nat → Int32}
theorem least4 (d1 : ed 1 = nI c1) (hc1 : c1 ≤ 8) {i s k v0 : Nat} (hi : i < 8) (hs : s < 2 ^ c1) (hC : ∀ j c, C i j = some c → j < c1 ∧ c ≤ 101000) (hcost : ∀ j, j < c1 → fX10_costOf (nI i) (nI j) mb ml mh mu (nI c2) le wo b2 = some (cv (C i j))) {g : Nat → Nat} (hg : ∀ t, g t ≤ 100000) {w : Nat → Int32} (hw : ∀ t, t < 2 ^ c1 → w (256 * (i + 1) + t) = nI (g t)) (hv0 : v0 ≤ 1000000) :
    it (fX10_findLeast_L4 ed (nI s) (nI i) mb ml mh mu (nI c2) le wo b2 w) 100000 (nI v0, 0) = some (nI (fm (gfn (C i) g s) v0 c1)) := by
  have hp := y_pn c1 (by omega)
  refine it_loop (st := fun j => (nI (fm (gfn (C i) g s) v0 j), nI j)) c1 (by omega) (fun j hj => ?_) ?_
  · unfold fX10_findLeast_L4
    dsimp only [un2]
    rw [show bnd 1 2 = true from by decide, gd_t, show (1 : Int32).toNatClampNeg = 1 from by decide, d1, if_neg (nI_ge hj (by omega))]
    have l0 := fm_le0 (gfn (C i) g s) v0 j
    have skip : gfn (C i) g s j = none → (ob (some (-1 : Int32)) fun m29 => ob (α := Int32) (if m29 = -1 then some (nI (fm (gfn (C i) g s) v0 j)) else gd (bnd ((256 * (nI i + 1)) + (nI s ||| ((1 : Int32) <<< (nI j &&& 31)))) 2304) (some (m29 + (w (Int32.toNatClampNeg ((256 * (nI i + 1)) + (nI s ||| ((1 : Int32) <<< (nI j &&& 31))))))))) fun m35 => ob (α := Int32) (if nI (fm (gfn (C i) g s) v0 j) ≤ m35 then some (nI (fm (gfn (C i) g s) v0 j)) else some m35) fun m40 => bv (nI j + 1) fun v44 => some (Sum.inr (α := Int32) (m40, v44))) = some (.inr (nI (fm (gfn (C i) g s) v0 (j + 1)), nI (j + 1))) := by
      intro hn
      rw [ob_s, if_pos rfl, ob_s, if_pos (nI_le (Nat.le_refl _) (by omega)), ob_s, bv_d, nI_1, fm_n hn]
    cases h1 : tb s j with
    | true =>
      rw [if_neg (show ¬ (nI s >>> (nI j &&& 31)) &&& 1 = 0 from by rw [z_shr1 (by omega) (by omega) h1]; decide)]
      exact skip (gfn_n1 h1)
    | false =>
      rw [if_pos (z_shr0 (by omega) (by omega) h1), hcost j hj, ob_s]
      cases h2 : C i j with
      | none => exact skip (gfn_n2 h2)
      | some c =>
        have c9 := (hC j c h2).2
        have hl := y_lim c1 (by omega) s hs j hj h1
        have hg1 := hg (s + 2 ^ j)
        have ix : (256 * (nI i + 1)) + (nI s ||| ((1 : Int32) <<< (nI j &&& 31))) = nI (256 * (i + 1) + (s + 2 ^ j)) := by
          rw [z_or s (by omega) j (by omega) h1, nI_1, show (256 : Int32) = nI 256 from rfl, pk_mul, nI_add]
        rw [ob_s, if_neg (show ¬ cv (some c) = -1 from nI_m1 (by omega)), ix, in_bnd (vp_in_nI (show 256 * (i + 1) + (s + 2 ^ j) < 2304 by omega) (by decide)), gd_t, nI_clamp (by omega), hw _ hl, ob_s, show cv (some c) = nI c from rfl, nI_add, fm_s (gfn_s h1 h2)]
        by_cases q : c + g (s + 2 ^ j) < fm (gfn (C i) g s) v0 j
        · rw [if_neg (nI_ge q (by omega)), ob_s, bv_d, nI_1, if_pos q]
        · rw [if_pos (nI_le (by omega) (by omega)), ob_s, bv_d, nI_1, if_neg q]
  · unfold fX10_findLeast_L4
    dsimp only [un2]
    rw [show bnd 1 2 = true from by decide, gd_t, show (1 : Int32).toNatClampNeg = 1 from by decide, d1, if_pos (nI_le (Nat.le_refl _) (by omega))]
theorem findLeastM (d0 : ed 0 = nI c0) (d1 : ed 1 = nI c1) (hc0 : c0 ≤ 8) (hc1 : c1 ≤ 8) (hA : A ≤ 1000) (hC : ∀ i j c, i < c0 → C i j = some c → j < c1 ∧ c ≤ 101000) (hcost : ∀ i j, i < c0 → j < c1 → fX10_costOf (nI i) (nI j) mb ml mh mu (nI c2) le wo b2 = some (cv (C i j))) (lt : Nat → Int32) :
    ∃ w, fX10_findLeast mb ml mh mu (nI A) (nI c2) ed le wo b2 lt = some w ∧ ∀ i t, i ≤ c0 → t < 2 ^ c1 → w (256 * i + t) = nI (Gm C A c0 c1 (c0 - i) t) := by
  have hp := y_pn c1 (by omega)
  have bG := fun k s => Gm_b (C := C) (A := A) (n0 := c0) (n1 := c1) hA hc1 k s
  unfold fX10_findLeast
  rw [show bnd 1 2 = true from by decide, show bnd 0 2 = true from by decide, show (1 : Int32).toNatClampNeg = 1 from by decide, show (0 : Int32).toNatClampNeg = 0 from by decide, d0, d1, gd_t, bv_d, z_one c1 (by omega)]
  have L1 := it_inv (f := fX10_findLeast_L1 (nI (2 ^ c1)) (nI A) ed) (fun k v => v.1 = nI k ∧ ∀ t, t < k → v.2 (256 * c0 + t) = nI (Gm C A c0 c1 0 t)) (fun g => ∀ t, t < 2 ^ c1 → g (256 * c0 + t) = nI (Gm C A c0 c1 0 t)) (2 ^ c1) (by omega) (0, lt) ⟨rfl, fun j hj => absurd hj (Nat.not_lt_zero j)⟩ ?_ ?_
  · obtain ⟨g, e1, e2⟩ := L1
    rw [e1, ob_s, gd_t, bv_d]
    have L2 := it_inv (f := fX10_findLeast_L2 (nI (2 ^ c1)) (nI A) ed mb ml mh mu (nI c2) le wo b2) (fun k v => v.1 = iI ((c0 : Int) - 1 - (k : Int)) ∧ ∀ i t, c0 ≤ i + k → i ≤ c0 → t < 2 ^ c1 → v.2 (256 * i + t) = nI (Gm C A c0 c1 (c0 - i) t)) (fun w => ∀ i t, i ≤ c0 → t < 2 ^ c1 → w (256 * i + t) = nI (Gm C A c0 c1 (c0 - i) t)) c0 (by omega) (nI c0 - 1, g) ⟨?_, ?_⟩ ?_ ?_
    · obtain ⟨w, e3, e4⟩ := L2
      rw [e3, ob_s]
      exact ⟨w, rfl, e4⟩
    · show nI c0 - 1 = _
      rw [nI_i, show (1 : Int32) = iI 1 from rfl, iI_sub]
      exact congrArg iI (by omega)
    · intro i t h1 h2 ht
      have : i = c0 := by omega
      subst this
      rw [Nat.sub_self]
      exact e2 t ht
    · rintro k ⟨u1, u2⟩ hk ⟨q1, q2⟩
      dsimp only at q1 q2
      obtain ⟨i, hi, hik⟩ : ∃ i, i < c0 ∧ i + k + 1 = c0 := ⟨c0 - 1 - k, by omega, by omega⟩
      have e1 : u1 = nI i := by
        rw [q1, nI_i]
        exact congrArg iI (by omega)
      subst e1
      unfold fX10_findLeast_L2
      dsimp only [un2]
      rw [if_neg (nI_pos (by omega))]
      have L3 := it_inv (f := fX10_findLeast_L3 (nI (2 ^ c1)) (nI i) (nI A) ed mb ml mh mu (nI c2) le wo b2) (fun m v => v.1 = nI m ∧ (∀ i' t, i < i' → i' ≤ c0 → t < 2 ^ c1 → v.2 (256 * i' + t) = nI (Gm C A c0 c1 (c0 - i') t)) ∧ ∀ t, t < m → v.2 (256 * i + t) = nI (Gm C A c0 c1 (c0 - i) t)) (fun w => ∀ i' t, c0 ≤ i' + (k + 1) → i' ≤ c0 → t < 2 ^ c1 → w (256 * i' + t) = nI (Gm C A c0 c1 (c0 - i') t)) (2 ^ c1) (by omega) (0, u2) ⟨rfl, fun i' t a b c => q2 i' t (by omega) b c, fun j hj => absurd hj (Nat.not_lt_zero j)⟩ ?_ ?_
      · obtain ⟨w, e3, e4⟩ := L3
        rw [e3, ob_s, bv_d]
        refine ⟨_, rfl, ?_, e4⟩
        show nI i + -1 = _
        rw [nI_i, show (-1 : Int32) = iI (-1) from by decide, iI_add]
        exact congrArg iI (by omega)
      · rintro s ⟨v1, v2⟩ hs ⟨p1, p2, p3⟩
        dsimp only at p1 p2 p3
        subst p1
        unfold fX10_findLeast_L3
        dsimp only [un2]
        have ix1 : (256 * (nI i + 1)) + nI s = nI (256 * (i + 1) + s) := by
          rw [nI_1, show (256 : Int32) = nI 256 from rfl, pk_mul, nI_add]
        have ix0 : (256 * nI i) + nI s = nI (256 * i + s) := by
          rw [show (256 : Int32) = nI 256 from rfl, pk_mul, nI_add]
        have rd : ∀ t, t < 2 ^ c1 → v2 (256 * (i + 1) + t) = nI (Gm C A c0 c1 k t) := by
          intro t ht
          rw [p2 (i + 1) t (by omega) (by omega) ht, show c0 - (i + 1) = k by omega]
        have bs := bG k s
        rw [if_neg (nI_ge hs (by omega)), ix1, in_bnd (vp_in_nI (show 256 * (i + 1) + s < 2304 by omega) (by decide)), gd_t, nI_clamp (by omega), rd s hs, bv_d, nI_add,
          least4 (C := C) (k := k) d1 hc1 (show i < 8 by omega) hs (fun j c h => hC i j c hi h) (fun j hj => hcost i j hi hj) (g := Gm C A c0 c1 k) (fun t => by have := bG k t; omega) rd (by omega),
          ob_s, ix0, in_bnd (vp_in_nI (show 256 * i + s < 2304 by omega) (by decide)), gd_t, nI_clamp (by omega), bv_d, bv_d]
        refine ⟨_, rfl, nI_1 s, ?_, ?_⟩
        · intro i' t h1 h2 h3
          show upd v2 _ _ _ = _
          rw [upd_e, if_neg (by omega)]
          exact p2 i' t h1 h2 h3
        · intro t ht
          show upd v2 _ _ _ = _
          rw [upd_e]
          by_cases q : t = s
          · subst q
            rw [if_pos rfl, show c0 - i = k + 1 by omega]
            show _ = nI (fm (gfn (C (c0 - (k + 1))) (Gm C A c0 c1 k) t) (A + Gm C A c0 c1 k t) c1)
            rw [show c0 - (k + 1) = i by omega]
          · rw [if_neg (by omega)]
            exact p3 t (by omega)
      · rintro ⟨v1, v2⟩ ⟨p1, p2, p3⟩
        dsimp only at p1 p2 p3
        subst p1
        unfold fX10_findLeast_L3
        dsimp only [un2]
        rw [if_pos (nI_le (Nat.le_refl _) (by omega))]
        refine ⟨_, rfl, ?_⟩
        intro i' t h1 h2 h3
        by_cases q : i < i'
        · exact p2 i' t q h2 h3
        · have : i' = i := by omega
          subst this
          exact p3 t h3
    · rintro ⟨u1, u2⟩ ⟨q1, q2⟩
      dsimp only at q1 q2
      have e1 : u1 = -1 := by
        rw [q1, show (c0 : Int) - 1 - (c0 : Int) = -1 by omega]; decide
      subst e1
      unfold fX10_findLeast_L2
      dsimp only [un2]
      rw [if_pos (show (-1 : Int32) < 0 from by decide)]
      exact ⟨_, rfl, fun i t h1 h2 => q2 i t (by omega) h1 h2⟩
  · rintro s ⟨u1, u2⟩ hs ⟨q1, q2⟩
    dsimp only at q1 q2
    subst q1
    unfold fX10_findLeast_L1
    dsimp only [un2]
    have hp2 := y_pc c1 (by omega) s hs
    have ix0 : (256 * nI c0) + nI s = nI (256 * c0 + s) := by
      rw [show (256 : Int32) = nI 256 from rfl, pk_mul, nI_add]
    rw [if_neg (nI_ge hs (by omega)), show bnd 1 2 = true from by decide, show bnd 0 2 = true from by decide, show (1 : Int32).toNatClampNeg = 1 from by decide, show (0 : Int32).toNatClampNeg = 0 from by decide, d0, d1, gd_t, gd_t, z_sizes s (by omega), ob_s, bv_d, ix0, in_bnd (vp_in_nI (show 256 * c0 + s < 2304 by omega) (by decide)), gd_t, nI_clamp (by omega), bv_d, bv_d, pk_sub hp2, pk_mul]
    refine ⟨_, rfl, nI_1 s, ?_⟩
    intro t ht
    show upd u2 _ _ _ = _
    rw [upd_e]
    by_cases q : t = s
    · subst q
      rw [if_pos rfl]
      rfl
    · rw [if_neg (by omega)]
      exact q2 t (by omega)
  · rintro ⟨u1, u2⟩ ⟨q1, q2⟩
    dsimp only at q1 q2
    subst q1
    unfold fX10_findLeast_L1
    dsimp only [un2]
    rw [if_pos (nI_le (Nat.le_refl _) (by omega))]
    exact ⟨_, rfl, q2⟩
end Least
