/-! boards: rounds of lowering -/
def zU : Int := 1000000
def zup (s : Nat → Int) (a : Nat) (x : Int) : Nat → Int := fun i => if i = a then x else s i
def zfl (a b : Nat) (w : Int) (s : Nat → Int) : Bool := decide (s b < zU ∧ s b + w < s a)
def zrl (a b : Nat) (w : Int) (s : Nat → Int) : Nat → Int := if zfl a b w s then zup s a (s b + w) else s
def zsm (f : Nat → Int) : Int := f 0 + f 1 + f 2 + f 3 + f 4 + f 5
theorem zup_at (s : Nat → Int) (a : Nat) (x : Int) (i : Nat) : zup s a x i = if i = a then x else s i := rfl
theorem zsm_up {f : Nat → Int} {a : Nat} (ha : a < 6) (x : Int) : zsm (fun i => if i = a then x else f i) = zsm f - f a + x := by
  unfold zsm
  rcases (show a = 0 ∨ a = 1 ∨ a = 2 ∨ a = 3 ∨ a = 4 ∨ a = 5 by omega) with rfl | rfl | rfl | rfl | rfl | rfl <;> simp <;> omega
theorem zsm_le {f g : Nat → Int} (h : ∀ i, i < 6 → f i ≤ g i) : zsm f ≤ zsm g := by
  unfold zsm
  have := h 0 (by omega); have := h 1 (by omega); have := h 2 (by omega); have := h 3 (by omega); have := h 4 (by omega); have := h 5 (by omega)
  omega
theorem zsm_lt {f g : Nat → Int} (h : ∀ i, i < 6 → f i ≤ g i) {a : Nat} (ha : a < 6) (hl : f a < g a) : zsm f < zsm g := by
  unfold zsm
  have := h 0 (by omega); have := h 1 (by omega); have := h 2 (by omega); have := h 3 (by omega); have := h 4 (by omega); have := h 5 (by omega)
  rcases (show a = 0 ∨ a = 1 ∨ a = 2 ∨ a = 3 ∨ a = 4 ∨ a = 5 by omega) with rfl | rfl | rfl | rfl | rfl | rfl <;> omega
theorem zrl_le (a b : Nat) (w : Int) (s : Nat → Int) (i : Nat) : zrl a b w s i ≤ s i := by
  unfold zrl
  by_cases h : zfl a b w s = true
  · rw [if_pos h, zup_at]
    unfold zfl at h
    have h := of_decide_eq_true h
    by_cases q : i = a
    · rw [if_pos q, q]; omega
    · rw [if_neg q]; omega
  · rw [if_neg h]; omega
theorem zrl_f {a b : Nat} {w : Int} {s : Nat → Int} (h : zfl a b w s = false) : zrl a b w s = s := by
  unfold zrl; rw [h]; rfl
theorem zrl_t {a b : Nat} {w : Int} {s : Nat → Int} (h : zfl a b w s = true) : zrl a b w s a < s a := by
  unfold zrl; rw [if_pos h, zup_at, if_pos rfl]
  exact (of_decide_eq_true h).2
/-- after it the row keeps the bound -/
theorem zrl_at {a b : Nat} {w : Int} {s : Nat → Int} (h : s b < zU) : zrl a b w s a ≤ s b + w := by
  unfold zrl
  by_cases q : zfl a b w s = true
  · rw [if_pos q, zup_at, if_pos rfl]; omega
  · rw [if_neg q]
    have q := of_decide_eq_false (show decide (s b < zU ∧ s b + w < s a) = false from Bool.eq_false_iff.mpr q)
    omega
/-- a row below stays below -/
def zok (a b : Nat) (w : Int) (y : Nat → Int) : Prop := y b < zU → y a ≤ y b + w
theorem zok_f {a b : Nat} {w : Int} {s : Nat → Int} : zfl a b w s = false ↔ zok a b w s := by
  unfold zfl zok
  rw [decide_eq_false_iff_not]
  constructor
  · intro h q; omega
  · intro h q; have := h q.1; omega
theorem zrl_ge {a b : Nat} {w : Int} {s y : Nat → Int} (hb : b < 6) (hy : zok a b w y) (h : ∀ i, i < 6 → y i ≤ s i) : ∀ i, i < 6 → y i ≤ zrl a b w s i := by
  intro i hi
  unfold zrl
  by_cases q : zfl a b w s = true
  · rw [if_pos q, zup_at]
    unfold zfl at q
    have q := of_decide_eq_true q
    by_cases e : i = a
    · subst e
      rw [if_pos rfl]
      have := h b hb
      have := hy (by omega)
      omega
    · rw [if_neg e]; exact h i hi
  · rw [if_neg q]; exact h i hi
/-- a round over the first n pairs -/
def zrd (A B : Nat → Nat) (D : Nat → Int) (o : Int) (s : Nat → Int) : Nat → Nat → Int
  | 0 => s
  | n + 1 => zrl (B n) (A n) (o - D n) (zrl (A n) (B n) (D n + o) (zrd A B D o s n))
def zrf (A B : Nat → Nat) (D : Nat → Int) (o : Int) (s : Nat → Int) : Nat → Bool
  | 0 => false
  | n + 1 => zrf A B D o s n || zfl (A n) (B n) (D n + o) (zrd A B D o s n) || zfl (B n) (A n) (o - D n) (zrl (A n) (B n) (D n + o) (zrd A B D o s n))
def zsol (A B : Nat → Nat) (D : Nat → Int) (c : Nat) (o : Int) (y : Nat → Int) : Prop := ∀ k, k < c → zok (A k) (B k) (D k + o) y ∧ zok (B k) (A k) (o - D k) y
def zpr (A B : Nat → Nat) (D : Nat → Int) (c : Nat) : Prop := ∀ k, k < c → A k < 6 ∧ B k < 6 ∧ -2000 ≤ D k ∧ D k ≤ 2000
section
variable {A B : Nat → Nat} {D : Nat → Int} {c : Nat} {o : Int}
theorem zrd_le {s : Nat → Int} : ∀ n i, zrd A B D o s n i ≤ s i := by
  intro n
  induction n with
  | zero => intro i; exact Int.le_refl _
  | succ n ih =>
    intro i
    show zrl _ _ _ _ i ≤ s i
    have h1 := zrl_le (B n) (A n) (o - D n) (zrl (A n) (B n) (D n + o) (zrd A B D o s n)) i
    have h2 := zrl_le (A n) (B n) (D n + o) (zrd A B D o s n) i
    have h3 := ih i
    omega
theorem zrd_step {s : Nat → Int} {n m : Nat} (h : n ≤ m) (i : Nat) : zrd A B D o s m i ≤ zrd A B D o s n i := by
  induction m with
  | zero => have : n = 0 := by omega
            subst this; exact Int.le_refl _
  | succ m ih =>
    rcases Nat.lt_or_ge m n with q | q
    · have : n = m + 1 := by omega
      subst this; exact Int.le_refl _
    · have h1 := zrl_le (B m) (A m) (o - D m) (zrl (A m) (B m) (D m + o) (zrd A B D o s m)) i
      have h2 := zrl_le (A m) (B m) (D m + o) (zrd A B D o s m) i
      have h3 := ih q
      show zrl _ _ _ _ i ≤ _
      omega
theorem zrd_f {s : Nat → Int} : ∀ n, zrf A B D o s n = false → zrd A B D o s n = s := by
  intro n
  induction n with
  | zero => intro _; rfl
  | succ n ih =>
    intro h
    unfold zrf at h
    rw [Bool.or_eq_false_iff, Bool.or_eq_false_iff] at h
    obtain ⟨⟨h1, h2⟩, h3⟩ := h
    unfold zrd
    rw [ih h1] at h2 h3 ⊢
    rw [zrl_f h2] at h3 ⊢
    rw [zrl_f h3]
/-- the round changes nothing just where the row keeps all bounds -/
theorem zrf_sol {s : Nat → Int} : ∀ n, zrf A B D o s n = false ↔ zsol A B D n o s := by
  intro n
  induction n with
  | zero => exact ⟨fun _ k hk => absurd hk (Nat.not_lt_zero k), fun _ => rfl⟩
  | succ n ih =>
    constructor
    · intro h
      have h' := h
      unfold zrf at h
      rw [Bool.or_eq_false_iff, Bool.or_eq_false_iff] at h
      obtain ⟨⟨h1, h2⟩, h3⟩ := h
      rw [zrd_f n h1] at h2 h3
      rw [zrl_f h2] at h3
      intro k hk
      rcases Nat.lt_or_ge k n with q | q
      · exact ih.mp h1 k q
      · have : k = n := by omega
        subst this
        exact ⟨zok_f.mp h2, zok_f.mp h3⟩
    · intro h
      have h1 : zrf A B D o s n = false := ih.mpr (fun k hk => h k (by omega))
      unfold zrf
      rw [zrd_f n h1, h1, zok_f.mpr (h n (by omega)).1, zrl_f (zok_f.mpr (h n (by omega)).1), zok_f.mpr (h n (by omega)).2]
      rfl
theorem zrd_ge {s y : Nat → Int} (hp : zpr A B D c) (hy : zsol A B D c o y) (h : ∀ i, i < 6 → y i ≤ s i) : ∀ n, n ≤ c → ∀ i, i < 6 → y i ≤ zrd A B D o s n i := by
  intro n
  induction n with
  | zero => intro _; exact h
  | succ n ih =>
    intro hn
    have p := hp n (by omega)
    have q := hy n (by omega)
    exact zrl_ge p.1 q.2 (zrl_ge p.2.1 q.1 (ih (by omega)))
theorem zrd_lt {s : Nat → Int} (hp : zpr A B D c) : ∀ n, n ≤ c → zrf A B D o s n = true → zsm (zrd A B D o s n) < zsm s := by
  intro n
  induction n with
  | zero => intro _ h; cases h
  | succ n ih =>
    intro hn h
    have p := hp n (by omega)
    have l1 := zrl_le (A n) (B n) (D n + o) (zrd A B D o s n)
    have l2 := zrl_le (B n) (A n) (o - D n) (zrl (A n) (B n) (D n + o) (zrd A B D o s n))
    have m1 := zsm_le (fun i _ => l1 i)
    have m2 := zsm_le (fun i _ => l2 i)
    have m3 := zsm_le (fun i _ => zrd_le (A := A) (B := B) (D := D) (o := o) (s := s) n i)
    unfold zrf at h
    rw [Bool.or_eq_true, Bool.or_eq_true] at h
    show zsm (zrl _ _ _ _) < _
    rcases h with (h | h) | h
    · have := ih (by omega) h; omega
    · have := zsm_lt (fun i _ => l1 i) p.1 (zrl_t h); omega
    · have := zsm_lt (fun i _ => l2 i) p.2.1 (zrl_t h); omega
/-- after a round, a row's number is within the bound from one that the round doesn't change -/
theorem zrd_at {s v : Nat → Int} : ∀ {n k : Nat}, k < n → (v (B k) < zU → (∀ m, m ≤ n → zrd A B D o s m (B k) = v (B k)) → zrd A B D o s n (A k) ≤ v (B k) + (D k + o)) ∧ (v (A k) < zU → (∀ m, m ≤ n → zrd A B D o s m (A k) = v (A k)) → zrd A B D o s n (B k) ≤ v (A k) + (o - D k)) := by
  intro n k hk
  have s1 := fun i => zrd_step (A := A) (B := B) (D := D) (o := o) (s := s) (n := k + 1) (m := n) hk i
  constructor
  · intro hu hm
    have e := hm k (by omega)
    have a1 := zrl_at (a := A k) (b := B k) (w := D k + o) (s := zrd A B D o s k) (by rw [e]; exact hu)
    have a2 := zrl_le (B k) (A k) (o - D k) (zrl (A k) (B k) (D k + o) (zrd A B D o s k)) (A k)
    have a3 := s1 (A k)
    rw [e] at a1
    have a4 : zrd A B D o s (k + 1) (A k) = zrl (B k) (A k) (o - D k) (zrl (A k) (B k) (D k + o) (zrd A B D o s k)) (A k) := rfl
    omega
  · intro hu hm
    have e := hm k (by omega)
    have e1 := hm (k + 1) (by omega)
    have b1 := zrl_le (A k) (B k) (D k + o) (zrd A B D o s k) (A k)
    have b2 := zrl_le (B k) (A k) (o - D k) (zrl (A k) (B k) (D k + o) (zrd A B D o s k)) (A k)
    have b3 : zrd A B D o s (k + 1) (A k) = zrl (B k) (A k) (o - D k) (zrl (A k) (B k) (D k + o) (zrd A B D o s k)) (A k) := rfl
    have e2 : zrl (A k) (B k) (D k + o) (zrd A B D o s k) (A k) = v (A k) := by omega
    have a1 := zrl_at (a := B k) (b := A k) (w := o - D k) (s := zrl (A k) (B k) (D k + o) (zrd A B D o s k)) (by rw [e2]; exact hu)
    have a3 := s1 (B k)
    have a4 : zrd A B D o s (k + 1) (B k) = zrl (B k) (A k) (o - D k) (zrl (A k) (B k) (D k + o) (zrd A B D o s k)) (B k) := rfl
    omega
/-- the rows of the rounds -/
def zs0 : Nat → Int := fun i => if i = 0 then 0 else zU
def zSt (A B : Nat → Nat) (D : Nat → Int) (c : Nat) (o : Int) : Nat → Nat → Int
  | 0 => zs0
  | t + 1 => zrd A B D o (zSt A B D c o t) c
def zF (A B : Nat → Nat) (D : Nat → Int) (c : Nat) (o : Int) (t : Nat) : Bool := zrf A B D o (zSt A B D c o t) c
theorem zSt_ge (hp : zpr A B D c) {y : Nat → Int} (hy : zsol A B D c o y) (h : ∀ i, i < 6 → y i ≤ zs0 i) : ∀ t i, i < 6 → y i ≤ zSt A B D c o t i := by
  intro t
  induction t with
  | zero => exact h
  | succ t ih => exact zrd_ge hp hy ih c (Nat.le_refl c)
theorem zSt_le {t m : Nat} (h : t ≤ m) (i : Nat) : zSt A B D c o m i ≤ zSt A B D c o t i := by
  induction m with
  | zero => have : t = 0 := by omega
            subst this; exact Int.le_refl _
  | succ m ih =>
    rcases Nat.lt_or_ge m t with q | q
    · have : t = m + 1 := by omega
      subst this; exact Int.le_refl _
    · have h1 := zrd_le (A := A) (B := B) (D := D) (o := o) (s := zSt A B D c o m) c i
      have h2 := ih q
      show zrd _ _ _ _ _ _ i ≤ _
      omega
theorem zF_stay {t : Nat} (h : zF A B D c o t = false) : ∀ d, zSt A B D c o (t + d) = zSt A B D c o t ∧ zF A B D c o (t + d) = false := by
  intro d
  induction d with
  | zero => exact ⟨rfl, h⟩
  | succ d ih =>
    have e : zSt A B D c o (t + (d + 1)) = zSt A B D c o t := by
      show zrd A B D o (zSt A B D c o (t + d)) c = _
      rw [ih.1]
      exact zrd_f c h
    refine ⟨e, ?_⟩
    unfold zF
    rw [e]; exact h
theorem zF_stay' {t m : Nat} (h : zF A B D c o t = false) (hm : t ≤ m) : zSt A B D c o m = zSt A B D c o t ∧ zF A B D c o m = false := by
  have := zF_stay h (m - t)
  rwa [show t + (m - t) = m by omega] at this
/-- with a row that keeps all bounds the rounds come to rest -/
theorem zF_ex (hp : zpr A B D c) {y : Nat → Int} (hy : zsol A B D c o y) (h : ∀ i, i < 6 → y i ≤ zs0 i) : ∃ t, zF A B D c o t = false := by
  have key : ∀ (m t : Nat), zsm (zSt A B D c o t) - zsm y < m → ∃ t, zF A B D c o t = false := by
    intro m
    induction m with
    | zero =>
      intro t ht
      have := zsm_le (zSt_ge hp hy h t)
      omega
    | succ m ih =>
      intro t ht
      cases hf : zF A B D c o t with
      | false => exact ⟨t, hf⟩
      | true =>
        refine ih (t + 1) ?_
        have := zrd_lt hp c (Nat.le_refl c) hf
        show zsm (zrd A B D o (zSt A B D c o t) c) - _ < _
        omega
  exact key ((zsm (zSt A B D c o 0) - zsm y + 1).toNat) 0 (by omega)
/-- at rest with 0 at the first watcher: rest comes within five rounds -/
theorem zF_5 (hp : zpr A B D c) {T : Nat} (hT : zF A B D c o T = false) (h0 : zSt A B D c o T 0 = 0) : zF A B D c o 5 = false ∧ zSt A B D c o 5 = zSt A B D c o T := by
  rcases Nat.lt_or_ge 5 T with hT5 | hT5
  case inr => exact ⟨(zF_stay' hT hT5).2, (zF_stay' hT hT5).1⟩
  have vs : zsol A B D c o (zSt A B D c o T) := (zrf_sol c).mp hT
  have vle : ∀ t, t ≤ T → ∀ i, zSt A B D c o T i ≤ zSt A B D c o t i := fun t ht i => zSt_le ht i
  generalize hv : zSt A B D c o T = v at *
  have s0le : ∀ t i, zSt A B D c o t i ≤ zs0 i := fun t i => zSt_le (Nat.zero_le t) i
  have vU : ∀ i, i < 6 → v i ≤ zU := by
    intro i hi
    have := s0le T i
    rw [hv] at this
    unfold zs0 zU at *
    split at this <;> omega
  -- a round settles one more
  have more : ∀ t, t < T → (∀ i, i < 6 → zSt A B D c o t i = v i) ∨ ∃ i, i < 6 ∧ zSt A B D c o t i ≠ v i ∧ zSt A B D c o (t + 1) i = v i := by
    intro t ht
    by_cases hall : ∀ i, i < 6 → zSt A B D c o t i = v i
    · exact Or.inl hall
    · by_cases hex : ∃ i, i < 6 ∧ zSt A B D c o t i ≠ v i ∧ zSt A B D c o (t + 1) i = v i
      · exact Or.inr hex
      · exfalso
        have hex : ∀ i, i < 6 → zSt A B D c o t i ≠ v i → v i < zSt A B D c o (t + 1) i := by
          intro i hi hn
          have h1 := vle (t + 1) ht i
          rcases Int.lt_or_le (v i) (zSt A B D c o (t + 1) i) with q | q
          · exact q
          · exact absurd ⟨i, hi, hn, by omega⟩ hex
        have hU : ∀ i, i < 6 → zSt A B D c o t i ≠ v i → v i < zU := by
          intro i hi hn
          have h1 := vle t (by omega) i
          have h2 := s0le t i
          have h3 := vU i hi
          unfold zs0 at h2
          unfold zU at *
          split at h2 <;> omega
        have hst : ∀ i, i < 6 → zSt A B D c o t i = v i → ∀ m, m ≤ c → zrd A B D o (zSt A B D c o t) m i = v i := by
          intro i hi he m hm
          have h1 := zrd_step (A := A) (B := B) (D := D) (o := o) (s := zSt A B D c o t) hm i
          have h2 := zrd_le (A := A) (B := B) (D := D) (o := o) (s := zSt A B D c o t) m i
          have h3 := vle (t + 1) ht i
          have h4 : zSt A B D c o (t + 1) i = zrd A B D o (zSt A B D c o t) c i := rfl
          omega
        -- the others, one higher
        let y : Nat → Int := fun i => if zSt A B D c o t i = v i then v i else v i + 1
        have ys : zsol A B D c o y := by
          intro k hk
          obtain ⟨pa, pb, -, -⟩ := hp k hk
          have at_ := zrd_at (A := A) (B := B) (D := D) (o := o) (s := zSt A B D c o t) (v := v) hk
          have e1 : zSt A B D c o (t + 1) = zrd A B D o (zSt A B D c o t) c := rfl
          rw [← e1] at at_
          constructor
          · intro hy
            show (if zSt A B D c o t (A k) = v (A k) then v (A k) else v (A k) + 1) ≤ (if zSt A B D c o t (B k) = v (B k) then v (B k) else v (B k) + 1) + (D k + o)
            have hy : (if zSt A B D c o t (B k) = v (B k) then v (B k) else v (B k) + 1) < zU := hy
            have hvb : v (B k) < zU := by split at hy <;> omega
            have q := (vs k hk).1 hvb
            by_cases qa : zSt A B D c o t (A k) = v (A k)
            · rw [if_pos qa]; split <;> omega
            · rw [if_neg qa]
              by_cases qb : zSt A B D c o t (B k) = v (B k)
              · rw [if_pos qb]
                have := at_.1 hvb (hst _ pb qb)
                have := hex _ pa qa
                omega
              · rw [if_neg qb]; omega
          · intro hy
            show (if zSt A B D c o t (B k) = v (B k) then v (B k) else v (B k) + 1) ≤ (if zSt A B D c o t (A k) = v (A k) then v (A k) else v (A k) + 1) + (o - D k)
            have hy : (if zSt A B D c o t (A k) = v (A k) then v (A k) else v (A k) + 1) < zU := hy
            have hva : v (A k) < zU := by split at hy <;> omega
            have q := (vs k hk).2 hva
            by_cases qb : zSt A B D c o t (B k) = v (B k)
            · rw [if_pos qb]; split <;> omega
            · rw [if_neg qb]
              by_cases qa : zSt A B D c o t (A k) = v (A k)
              · rw [if_pos qa]
                have := at_.2 hva (hst _ pa qa)
                have := hex _ pb qb
                omega
              · rw [if_neg qa]; omega
        have y0 : ∀ i, i < 6 → y i ≤ zs0 i := by
          intro i hi
          show (if zSt A B D c o t i = v i then v i else v i + 1) ≤ zs0 i
          by_cases qi : zSt A B D c o t i = v i
          · rw [if_pos qi]
            have := s0le T i
            rw [hv] at this
            exact this
          · rw [if_neg qi]
            have h1 := hU i hi qi
            have h2 := vle t (by omega) i
            have h3 := s0le t i
            omega
        have yv := zSt_ge hp ys y0 T
        rw [hv] at yv
        refine hall (fun i hi => ?_)
        have := yv i hi
        by_cases qi : zSt A B D c o t i = v i
        · exact qi
        · exfalso
          have h2 : y i = v i + 1 := if_neg qi
          omega
  -- how many are settled
  have cnt : ∀ t, t ≤ 5 → (∀ i, i < 6 → zSt A B D c o t i = v i) ∨ (t : Int) + 1 ≤ zsm (fun i => if zSt A B D c o t i = v i then 1 else 0) := by
    intro t
    induction t with
    | zero =>
      intro _
      refine Or.inr ?_
      have e0 : zSt A B D c o 0 0 = v 0 := by rw [h0]; rfl
      have nn : ∀ i : Nat, (0 : Int) ≤ (if zSt A B D c o 0 i = v i then 1 else 0) := by intro i; split <;> omega
      unfold zsm
      have := nn 1; have := nn 2; have := nn 3; have := nn 4; have := nn 5
      simp only [e0, if_true]
      omega
    | succ t ih =>
      intro ht
      rcases ih (by omega) with h | h
      · left
        intro i hi
        have h1 := vle (t + 1) (by omega) i
        have h2 := zSt_le (A := A) (B := B) (D := D) (c := c) (o := o) (show t ≤ t + 1 by omega) i
        have h3 := h i hi
        omega
      · rcases more t (by omega) with h' | ⟨i, hi, hn, he⟩
        · left
          intro i hi
          have h1 := vle (t + 1) (by omega) i
          have h2 := zSt_le (A := A) (B := B) (D := D) (c := c) (o := o) (show t ≤ t + 1 by omega) i
          have h3 := h' i hi
          omega
        · right
          have l := zsm_lt (f := fun i => if zSt A B D c o t i = v i then 1 else 0) (g := fun i => if zSt A B D c o (t + 1) i = v i then 1 else 0) (by
            intro j hj
            have h1 := vle (t + 1) (by omega) j
            have h2 := zSt_le (A := A) (B := B) (D := D) (c := c) (o := o) (show t ≤ t + 1 by omega) j
            by_cases q : zSt A B D c o t j = v j
            · simp only [q, if_true]
              rw [if_pos (by omega)]
              omega
            · simp only [q, if_false]; split <;> omega) hi (by simp only [hn, he, if_true, if_false]; omega)
          omega
  have all5 : ∀ i, i < 6 → zSt A B D c o 5 i = v i := by
    rcases cnt 5 (by omega) with h | h
    · exact h
    · intro i hi
      by_cases q : zSt A B D c o 5 i = v i
      · exact q
      · exfalso
        have l := zsm_lt (f := fun i => if zSt A B D c o 5 i = v i then 1 else 0) (g := fun _ => 1) (by intro j _; split <;> omega) hi (by simp only [q, if_false]; omega)
        have : zsm (fun _ => 1) = 6 := by unfold zsm; rfl
        omega
  have f5 : zF A B D c o 5 = false := by
    refine (zrf_sol c).mpr (fun k hk => ?_)
    obtain ⟨pa, pb, -, -⟩ := hp k hk
    have q := vs k hk
    unfold zok at q ⊢
    rw [all5 _ pa, all5 _ pb]
    exact q
  refine ⟨f5, ?_⟩
  have := (zF_stay' f5 (show 5 ≤ T by omega)).1
  rw [← this, hv]
end
