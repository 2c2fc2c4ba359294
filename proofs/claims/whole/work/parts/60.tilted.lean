/-! tilted -/
theorem it_invN {V E : Type} {f : V → Option (E ⊕ V)} (I : Nat → V → Prop) (P : E → Prop) {n : Nat} (hs : ∀ i v, i < n → I i v → ∃ v', f v = some (.inr v') ∧ I (i + 1) v') (hx : ∀ v, I n v → ∃ e, f v = some (.inl e) ∧ P e) : ∀ (d k : Nat) (v : V), k + d = n → I k v → ∀ m, d < m → ∃ e, it f m v = some e ∧ P e := by
  intro d
  induction d with
  | zero =>
    intro k v hk hI m hm
    have : k = n := by omega
    subst this
    obtain ⟨e, h1, h2⟩ := hx v hI
    obtain ⟨m', rfl⟩ : ∃ m', m = m' + 1 := ⟨m - 1, by omega⟩
    exact ⟨e, it_inl h1, h2⟩
  | succ d ih =>
    intro k v hk hI m hm
    obtain ⟨v', h1, h2⟩ := hs k v (by omega) hI
    obtain ⟨m', rfl⟩ : ∃ m', m = m' + 1 := ⟨m - 1, by omega⟩
    rw [it_inr h1]
    exact ih (k + 1) v' (by omega) h2 m' (by omega)
theorem it_inv {V E : Type} {f : V → Option (E ⊕ V)} (I : Nat → V → Prop) (P : E → Prop) (n : Nat) (hn : n < 100000) (v : V) (h0 : I 0 v) (hs : ∀ i v, i < n → I i v → ∃ v', f v = some (.inr v') ∧ I (i + 1) v') (hx : ∀ v, I n v → ∃ e, f v = some (.inl e) ∧ P e) : ∃ e, it f 100000 v = some e ∧ P e :=
  it_invN I P hs hx n 0 v (by omega) h0 100000 hn
def tup (Nf : Int → Nat) (s : Int × Nat) (T : Int) : Int × Nat := if Nf T < s.2 then (T, Nf T) else s
def tbf (Nf : Int → Nat) : Nat → Int × Nat
  | 0 => (0, Nf 0)
  | k + 1 => tup Nf (tup Nf (tbf Nf k) (k + 1 : Nat)) (-((k + 1 : Nat) : Int))
def tI (Nf : Int → Nat) (k : Nat) (s : Int × Nat) : Prop := s.2 = Nf s.1 ∧ -(k : Int) ≤ s.1 ∧ s.1 ≤ k ∧ s.2 ≤ 24
theorem tup_I {Nf : Int → Nat} {k : Nat} (hN : ∀ T, -50 ≤ T → T ≤ 50 → Nf T ≤ 24) {s : Int × Nat} {T : Int} (h : tI Nf k s) (h1 : -(k : Int) ≤ T) (h2 : T ≤ k) (hk : k ≤ 50) : tI Nf k (tup Nf s T) := by
  unfold tup
  split
  · exact ⟨rfl, h1, h2, hN T (by omega) (by omega)⟩
  · exact h
theorem tI_up {Nf : Int → Nat} {k : Nat} {s : Int × Nat} (h : tI Nf k s) : tI Nf (k + 1) s := by
  obtain ⟨a, b, c, d⟩ := h
  exact ⟨a, by omega, by omega, d⟩
theorem tbf_I {Nf : Int → Nat} (hN : ∀ T, -50 ≤ T → T ≤ 50 → Nf T ≤ 24) : ∀ k, k ≤ 50 → tI Nf k (tbf Nf k) := by
  intro k
  induction k with
  | zero => intro _; exact ⟨rfl, by show -((0 : Nat) : Int) ≤ 0; omega, by show (0 : Int) ≤ ((0 : Nat) : Int); omega, hN 0 (by omega) (by omega)⟩
  | succ k ih =>
    intro hk
    unfold tbf
    exact tup_I hN (tup_I hN (tI_up (ih (by omega))) (by omega) (by omega) hk) (by omega) (by omega) hk
theorem tilted_ok (x1 : Int32) {l : Int32} {a : Nat → Int32} {ml : Int32} {lo hi at_ : Nat → Int32} (h : R_heights l a ml lo hi at_) (lw hg fo : Nat → Int32) (mf : Int32) (nu : Nat → Int32) : ∃ r lw' hg' fo' mf' nu', fX9_tilted x1 3 l 72 a lw hg fo = some (r, lw', hg', fo') ∧ fX10_tilted x1 ml mf lo hi at_ nu = some (r, mf', nu') := by
  obtain ⟨c, hc, rfl, rfl, hr⟩ := h
  have key : ∀ T : Int, ∃ N : Nat, -50 ≤ T → T ≤ 50 → N ≤ c ∧ lh (zf T lo at_) (zf T hi at_) (sq (zf T lo at_) (zf T hi at_) c N) c = 1000000 ∧ ∀ t, t < N → lh (zf T lo at_) (zf T hi at_) (sq (zf T lo at_) (zf T hi at_) c t) c ≠ 1000000 := by
    intro T
    by_cases q : -50 ≤ T ∧ T ≤ 50
    · obtain ⟨N, hN⟩ := sq_ends (z_ok hr q.1 q.2)
      exact ⟨N, fun _ _ => hN⟩
    · exact ⟨0, fun q1 q2 => absurd ⟨q1, q2⟩ q⟩
  obtain ⟨Nf, hNf⟩ := Classical.axiomOfChoice key
  have hN24 : ∀ T, -50 ≤ T → T ≤ 50 → Nf T ≤ 24 := fun T h1 h2 => by have := (hNf T h1 h2).1; omega
  have FX : ∀ (T : Int) (M : Nat), -50 ≤ T → T ≤ 50 → M ≤ 24 → ∀ lw hg fo : Nat → Int32, ∃ lw' hg' fo', fX2_fill (iI T) (nI M) 3 (nI c) lw hg fo 72 a = some (nI (min (Nf T) M), lw', hg', fo') := by
    intro T M h1 h2 h3 lw hg fo
    obtain ⟨n1, n2, n3⟩ := hNf T h1 h2
    obtain ⟨lw', hg', fo', e, -⟩ := fill_ok hc hr h1 h2 n1 n2 n3 h3 lw hg fo
    exact ⟨lw', hg', fo', e⟩
  have FM : ∀ T : Int, -50 ≤ T → T ≤ 50 → ∀ (mf : Int32) (nu : Nat → Int32), ∃ nu', fX10_findNumbers (iI T) (nI c) mf lo hi at_ nu = some (nI (Nf T), nu') := by
    intro T h1 h2 mf nu
    obtain ⟨n1, n2, n3⟩ := hNf T h1 h2
    obtain ⟨nu', e, -⟩ := num_ok hc hr h1 h2 n1 n2 n3 mf nu
    exact ⟨nu', e⟩
  unfold fX9_tilted fX10_tilted
  rw [isWithin_eq, in_eq, ob_s, ob_s]
  cases h1 : wi x1 0 1 with
  | false => exact ⟨_, _, _, _, _, _, rfl, rfl⟩
  | true =>
    rw [ite_b, ite_b]
    -- the class
    obtain ⟨w2, w3, w4, eF0⟩ := FX 0 24 (by omega) (by omega) (by omega) lw hg fo
    rw [show min (Nf 0) 24 = Nf 0 by have := hN24 0 (by omega) (by omega); omega] at eF0
    have eF0 : fX2_fill 0 24 3 (nI c) lw hg fo 72 a = some (nI (Nf 0), w2, w3, w4) := eF0
    have eX : ∃ e, it (fX2_bestTilt_L1 3 (nI c) 72 a) 100000 (0, nI (Nf 0), 1, w2, w3, w4) = some e ∧ e.1 = iI (tbf Nf 50).1 := by
      refine it_inv (fun k v => ∃ lw hg fo, v = (iI (tbf Nf k).1, nI (tbf Nf k).2, nI (k + 1), lw, hg, fo)) (fun (e : Int32 × (Nat → Int32) × (Nat → Int32) × (Nat → Int32)) => e.1 = iI (tbf Nf 50).1) 50 (by decide) _ ⟨w2, w3, w4, rfl⟩ ?_ ?_
      · rintro k v hk ⟨lw, hg, fo, rfl⟩
        obtain ⟨i1, i2, i3, i4⟩ := tbf_I hN24 k (by omega)
        have hs : tbf Nf (k + 1) = tup Nf (tup Nf (tbf Nf k) (k + 1 : Nat)) (-((k + 1 : Nat) : Int)) := rfl
        generalize tbf Nf k = s at *
        obtain ⟨B, f⟩ := s
        dsimp only at i1 i2 i3 i4
        obtain ⟨a1, a2, a3, e1⟩ := FX (k + 1 : Nat) f (by omega) (by omega) i4 lw hg fo
        have u1 : tI Nf (k + 1) (tup Nf (B, f) (k + 1 : Nat)) := tup_I hN24 (tI_up ⟨i1, i2, i3, i4⟩) (by omega) (by omega) (by omega)
        unfold fX2_bestTilt_L1
        dsimp only [un6]
        rw [if_neg (show ¬ (50 : Int32) < nI (k + 1) from nI_nlt (show k + 1 ≤ 50 by omega) (by decide)), show nI (k + 1) = iI ((k + 1 : Nat) : Int) from nI_i _, e1, ob4_s]
        have s1 : (if nI f ≤ nI (min (Nf (k + 1 : Nat)) f) then some (iI B, nI f) else some (iI ((k + 1 : Nat) : Int), nI (min (Nf (k + 1 : Nat)) f))) = some (iI (tup Nf (B, f) (k + 1 : Nat)).1, nI (tup Nf (B, f) (k + 1 : Nat)).2) := by
          unfold tup
          dsimp only
          by_cases q : Nf (k + 1 : Nat) < f
          · rw [if_pos q, if_neg (nI_ge (by omega) (by omega)), show min (Nf (k + 1 : Nat)) f = Nf (k + 1 : Nat) by omega]
          · rw [if_neg q, if_pos (nI_le (by omega) (by omega))]
        rw [s1, ob2_s, hs]
        generalize tup Nf (B, f) (k + 1 : Nat) = s2 at u1 ⊢
        obtain ⟨B2, f2⟩ := s2
        obtain ⟨j1, j2, j3, j4⟩ := u1
        dsimp only at j1 j2 j3 j4
        obtain ⟨b1, b2, b3, e2⟩ := FX (-((k + 1 : Nat) : Int)) f2 (by omega) (by omega) j4 a1 a2 a3
        rw [iI_neg, e2, ob4_s]
        have s3 : (if nI f2 ≤ nI (min (Nf (-((k + 1 : Nat) : Int))) f2) then some (iI B2, nI f2) else bv (iI (-((k + 1 : Nat) : Int))) fun v33 => some (v33, nI (min (Nf (-((k + 1 : Nat) : Int))) f2))) = some (iI (tup Nf (B2, f2) (-((k + 1 : Nat) : Int))).1, nI (tup Nf (B2, f2) (-((k + 1 : Nat) : Int))).2) := by
          unfold tup
          dsimp only
          by_cases q : Nf (-((k + 1 : Nat) : Int)) < f2
          · rw [if_pos q, if_neg (nI_ge (by omega) (by omega)), show min (Nf (-((k + 1 : Nat) : Int))) f2 = Nf (-((k + 1 : Nat) : Int)) by omega, bv_d]
          · rw [if_neg q, if_pos (nI_le (by omega) (by omega))]
        dsimp only
        rw [s3, ob2_s, bv_d]
        refine ⟨_, rfl, b1, b2, b3, ?_⟩
        rw [show iI ((k + 1 : Nat) : Int) = nI (k + 1) from (nI_i _).symm, nI_1]
      · rintro v ⟨lw, hg, fo, rfl⟩
        unfold fX2_bestTilt_L1
        dsimp only [un6]
        rw [if_pos (show (50 : Int32) < nI (50 + 1) from by decide)]
        exact ⟨_, rfl, rfl⟩
    obtain ⟨⟨r4, w5, w6, w7⟩, eX, er⟩ := eX
    have er : r4 = iI (tbf Nf 50).1 := er
    subst er
    have eB : fX2_bestTilt 3 (nI c) lw hg fo 72 a = some (iI (tbf Nf 50).1, w5, w6, w7) := by
      unfold fX2_bestTilt
      rw [eF0, ob4_s, eX, ob4_s]
    rw [eB, ob4_s]
    -- the reference
    obtain ⟨n0, eM0⟩ := FM 0 (by omega) (by omega) mf nu
    have eM0 : fX10_findNumbers 0 (nI c) mf lo hi at_ nu = some (nI (Nf 0), n0) := eM0
    have eM : ∃ e, it (fX10_tilted_L1 (nI c) lo hi at_) 100000 (0, nI (Nf 0), 1, nI (Nf 0), n0) = some e ∧ e.1 = iI (tbf Nf 50).1 ∧ e.2.1 = nI (tbf Nf 50).2 := by
      refine it_inv (fun k v => ∃ mf nu, v = (iI (tbf Nf k).1, nI (tbf Nf k).2, nI (k + 1), mf, nu)) (fun (e : Int32 × Int32 × Int32 × (Nat → Int32)) => e.1 = iI (tbf Nf 50).1 ∧ e.2.1 = nI (tbf Nf 50).2) 50 (by decide) _ ⟨_, _, rfl⟩ ?_ ?_
      · rintro k v hk ⟨mf, nu, rfl⟩
        obtain ⟨i1, i2, i3, i4⟩ := tbf_I hN24 k (by omega)
        have hs : tbf Nf (k + 1) = tup Nf (tup Nf (tbf Nf k) (k + 1 : Nat)) (-((k + 1 : Nat) : Int)) := rfl
        generalize tbf Nf k = s at *
        obtain ⟨B, f⟩ := s
        dsimp only at i1 i2 i3 i4
        have u1 : tI Nf (k + 1) (tup Nf (B, f) (k + 1 : Nat)) := tup_I hN24 (tI_up ⟨i1, i2, i3, i4⟩) (by omega) (by omega) (by omega)
        have step : ∀ (B f : _) (T : Int) (side : Int) (mf : Int32) (nu : Nat → Int32), f ≤ 24 → -50 ≤ T → T ≤ 50 → side * ((k + 1 : Nat) : Int) = T → (side = 1 ∨ side = -1) → ∃ nu', fX10_tilted_L2 (iI ((k + 1 : Nat) : Int)) (nI c) lo hi at_ (iI B, nI f, iI side, mf, nu) = some (.inr (iI (tup Nf (B, f) T).1, nI (tup Nf (B, f) T).2, iI (side - 2), nI (Nf T), nu')) := by
          intro B f T side mf nu hf t1 t2 hT hside
          obtain ⟨nu', e⟩ := FM T t1 t2 mf nu
          refine ⟨nu', ?_⟩
          unfold fX10_tilted_L2
          dsimp only [un5]
          rw [if_neg (show ¬ iI side < -1 from by rw [m1_i, iI_lt (by omega) (by omega) (by omega) (by omega)]; omega), iI_mul, hT, e, ob2_s]
          have s1 : (if nI f ≤ nI (Nf T) then some (iI B, nI f) else bv (iI T) fun v27 => some (v27, nI (Nf T))) = some (iI (tup Nf (B, f) T).1, nI (tup Nf (B, f) T).2) := by
            have := hN24 T t1 t2
            unfold tup
            dsimp only
            by_cases q : Nf T < f
            · rw [if_pos q, if_neg (nI_ge q (by omega)), bv_d]
            · rw [if_neg q, if_pos (nI_le (by omega) (by omega))]
          rw [s1, ob2_s, bv_d, show (-2 : Int32) = iI (-2) from by decide, iI_add]
          rfl
        obtain ⟨nu1, e1⟩ := step B f (k + 1 : Nat) 1 mf nu i4 (by omega) (by omega) (by omega) (Or.inl rfl)
        have hs' := hs
        generalize hs2 : tup Nf (B, f) (k + 1 : Nat) = s2 at u1 e1 hs
        obtain ⟨B2, f2⟩ := s2
        obtain ⟨j1, j2, j3, j4⟩ := u1
        dsimp only at j1 j2 j3 j4 e1
        obtain ⟨nu2, e2⟩ := step B2 f2 (-((k + 1 : Nat) : Int)) (-1) (nI (Nf (k + 1 : Nat))) nu1 j4 (by omega) (by omega) (by omega) (Or.inr rfl)
        have e3 : it (fX10_tilted_L2 (iI ((k + 1 : Nat) : Int)) (nI c) lo hi at_) 100000 (iI B, nI f, 1, mf, nu) = some (iI (tup Nf (B2, f2) (-((k + 1 : Nat) : Int))).1, nI (tup Nf (B2, f2) (-((k + 1 : Nat) : Int))).2, nI (Nf (-((k + 1 : Nat) : Int))), nu2) := by
          show it _ (99997 + 1 + 1 + 1) (iI B, nI f, iI 1, mf, nu) = _
          rw [it_inr e1, show (1 : Int) - 2 = -1 from rfl, it_inr e2]
          refine it_inl ?_
          unfold fX10_tilted_L2
          dsimp only [un5]
          rw [if_pos (show iI (-1 - 2) < -1 from by decide)]
        unfold fX10_tilted_L1
        dsimp only [un5]
        rw [if_neg (show ¬ (50 : Int32) < nI (k + 1) from nI_nlt (show k + 1 ≤ 50 by omega) (by decide)), show nI (k + 1) = iI ((k + 1 : Nat) : Int) from nI_i _, e3, ob4_s, bv_d]
        refine ⟨_, rfl, nI (Nf (-((k + 1 : Nat) : Int))), nu2, ?_⟩
        rw [hs, show iI ((k + 1 : Nat) : Int) = nI (k + 1) from (nI_i _).symm, nI_1]
      · rintro v ⟨mf, nu, rfl⟩
        unfold fX10_tilted_L1
        dsimp only [un5]
        rw [if_pos (show (50 : Int32) < nI (50 + 1) from by decide)]
        exact ⟨_, rfl, rfl, rfl⟩
    obtain ⟨⟨y1, y2, y3, y4⟩, eM, ey1, ey2⟩ := eM
    have ey1 : y1 = iI (tbf Nf 50).1 := ey1
    have ey2 : y2 = nI (tbf Nf 50).2 := ey2
    subst ey1
    subst ey2
    rw [eM0, ob2_s, eM, ob4_s]
    by_cases q : x1 = 0
    · rw [if_pos q, if_pos q]; exact ⟨_, _, _, _, _, _, rfl, rfl⟩
    · rw [if_neg q, if_neg q]
      obtain ⟨i1, i2, i3, i4⟩ := tbf_I hN24 50 (by omega)
      obtain ⟨b1, b2, b3, e5⟩ := FX (tbf Nf 50).1 24 (by omega) (by omega) (by omega) w5 w6 w7
      rw [← i1, show min (tbf Nf 50).2 24 = (tbf Nf 50).2 by omega] at e5
      have e5 : fX2_fill (iI (tbf Nf 50).1) 24 3 (nI c) w5 w6 w7 72 a = some (nI (tbf Nf 50).2, b1, b2, b3) := e5
      rw [e5, ob4_s]
      exact ⟨_, _, _, _, _, _, rfl, rfl⟩
