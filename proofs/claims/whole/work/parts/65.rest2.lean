/-! bounds of the rows, and the worst -/
def zcn (s : Nat → Int) : Int := zsm (fun i => if s i < zU then 1 else 0)
theorem zcn_6 (s : Nat → Int) : zcn s ≤ 6 := by
  have l := zsm_le (f := fun i => if s i < zU then 1 else 0) (g := fun _ => 1) (by intro j _; split <;> omega)
  exact l
def zI (n : Nat) (s : Nat → Int) : Prop := ∀ i, i < 6 → -2000 * (n : Int) ≤ s i ∧ (s i = zU ∨ s i ≤ 4000 * zcn s - 4000)
theorem zI_bd {n : Nat} {s : Nat → Int} (h : zI n s) {i : Nat} (hi : i < 6) : -2000 * (n : Int) ≤ s i ∧ (s i = zU ∨ s i ≤ 20000) := by
  have := h i hi
  have := zcn_6 s
  omega
theorem zI_0 : zI 0 zs0 := by
  have e : zcn zs0 = 1 := by decide
  intro i hi
  rw [e]
  unfold zs0
  by_cases h : i = 0
  · rw [if_pos h]; omega
  · rw [if_neg h]; unfold zU; omega
theorem zI_mono {n m : Nat} {s : Nat → Int} (h : zI n s) (hm : n ≤ m) : zI m s := by
  intro i hi
  have := h i hi
  omega
theorem zrl_I {n : Nat} {s : Nat → Int} (h : zI n s) {a b : Nat} (ha : a < 6) (hb : b < 6) {w : Int} (h1 : -2000 ≤ w) (h2 : w ≤ 4000) : zI (n + 1) (zrl a b w s) := by
  unfold zrl
  by_cases q : zfl a b w s = true
  case neg => rw [if_neg q]; exact zI_mono h (by omega)
  rw [if_pos q]
  have q := of_decide_eq_true (show decide (s b < zU ∧ s b + w < s a) = true from q)
  have hb' := zI_bd h hb
  have ha' := zI_bd h ha
  have hbb := h b hb
  have haa := h a ha
  have c6 := zcn_6 s
  have e : zcn (zup s a (s b + w)) = zcn s - (if s a < zU then 1 else 0) + 1 := by
    unfold zcn
    have e1 : (fun i => if zup s a (s b + w) i < zU then (1 : Int) else 0) = fun i => if i = a then 1 else (fun j => if s j < zU then 1 else 0) i := by
      funext i
      rw [zup_at]
      by_cases z : i = a
      · rw [if_pos z, if_pos z, if_pos (by unfold zU at *; omega)]
      · rw [if_neg z, if_neg z]
    rw [e1, zsm_up ha]
  intro i hi
  have hii := h i hi
  rw [e, zup_at]
  by_cases z : i = a
  · rw [if_pos z]
    by_cases u : s a < zU
    · rw [if_pos u]
      have : s a ≤ 4000 * zcn s - 4000 := by rcases haa.2 with g | g <;> unfold zU at * <;> omega
      omega
    · rw [if_neg u]
      have : s b ≤ 4000 * zcn s - 4000 := by rcases hbb.2 with g | g <;> unfold zU at * <;> omega
      omega
  · rw [if_neg z]
    by_cases u : s a < zU
    · rw [if_pos u]; omega
    · rw [if_neg u]; omega
section
variable {A B : Nat → Nat} {D : Nat → Int} {c : Nat} {o : Int}
theorem zrd_I (hp : zpr A B D c) (ho1 : 0 ≤ o) (ho2 : o ≤ 2000) {s : Nat → Int} {m : Nat} (h : zI m s) : ∀ n, n ≤ c → zI (m + 2 * n) (zrd A B D o s n) := by
  intro n
  induction n with
  | zero => intro _; exact h
  | succ n ih =>
    intro hn
    obtain ⟨p1, p2, p3, p4⟩ := hp n (by omega)
    have i1 := zrl_I (ih (by omega)) p1 p2 (w := D n + o) (by omega) (by omega)
    have i2 := zrl_I i1 p2 p1 (w := o - D n) (by omega) (by omega)
    exact i2
theorem zSt_I (hp : zpr A B D c) (ho1 : 0 ≤ o) (ho2 : o ≤ 2000) (hc : c ≤ 40) : ∀ t, t ≤ 8 → zI (80 * t) (zSt A B D c o t) := by
  intro t
  induction t with
  | zero => intro _; exact zI_0
  | succ t ih =>
    intro ht
    exact zI_mono (zrd_I hp ho1 ho2 (ih (by omega)) c (Nat.le_refl c)) (by omega)
/-- at rest after five rounds: the first watcher's number is 0 -/
theorem zP_0 (hp : zpr A B D c) (ho1 : 0 ≤ o) (ho2 : o ≤ 2000) (hc : c ≤ 40) (h : zF A B D c o 5 = false) : zSt A B D c o 5 0 = 0 := by
  have bd := fun i hi => zI_bd (zSt_I hp ho1 ho2 hc 5 (by omega)) (i := i) hi
  have vs : zsol A B D c o (zSt A B D c o 5) := (zrf_sol c).mp h
  have s0le : ∀ t i, zSt A B D c o t i ≤ zs0 i := fun t i => zSt_le (Nat.zero_le t) i
  have v0 : zSt A B D c o 5 0 ≤ 0 := s0le 5 0
  have key := fun (y : Nat → Int) (hy : zsol A B D c o y) (h0 : ∀ i, i < 6 → y i ≤ zs0 i) => zSt_ge hp hy h0 5 0 (by omega)
  generalize zSt A B D c o 5 = v at *
  have b0 := bd 0 (by omega)
  have k := key (fun i => if v i < zU then v i - v 0 else zU) ?_ ?_
  · rw [if_pos (by unfold zU; omega)] at k
    omega
  · intro k hk
    obtain ⟨pa, pb, p3, p4⟩ := hp k hk
    have q := vs k hk
    unfold zok at q ⊢
    dsimp only
    have ba := bd _ pa
    have bb := bd _ pb
    constructor
    · intro hy
      have hb : v (B k) < zU := by
        by_cases z : v (B k) < zU
        · exact z
        · rw [if_neg z] at hy; omega
      have := q.1 hb
      rw [if_pos hb, if_pos (by unfold zU at *; omega)]
      omega
    · intro hy
      have hb : v (A k) < zU := by
        by_cases z : v (A k) < zU
        · exact z
        · rw [if_neg z] at hy; omega
      have := q.2 hb
      rw [if_pos hb, if_pos (by unfold zU at *; omega)]
      omega
  · intro i hi
    have bi := bd i hi
    unfold zs0
    by_cases z : i = 0
    · subst z; rw [if_pos rfl]; split <;> unfold zU at * <;> omega
    · rw [if_neg z]; split <;> unfold zU at * <;> omega
/-- with a row that keeps the bounds and has 0 at the first watcher, rest comes -/
theorem zP_sol (hp : zpr A B D c) {y : Nat → Int} (hy : zsol A B D c o y) (h : ∀ i, i < 6 → y i ≤ zs0 i) (h0 : y 0 = 0) : zF A B D c o 5 = false := by
  obtain ⟨T, hT⟩ := zF_ex hp hy h
  have g := zSt_ge hp hy h T 0 (by omega)
  have l : zSt A B D c o T 0 ≤ 0 := zSt_le (Nat.zero_le T) 0
  exact (zF_5 hp hT (by omega)).1
theorem zP_mono (hp : zpr A B D c) (ho1 : 0 ≤ o) (ho2 : o ≤ 2000) (hc : c ≤ 40) (h : zF A B D c o 5 = false) {o' : Int} (hoo : o ≤ o') : zF A B D c o' 5 = false := by
  have z := zP_0 hp ho1 ho2 hc h
  have vs : zsol A B D c o (zSt A B D c o 5) := (zrf_sol c).mp h
  refine zP_sol hp (y := zSt A B D c o 5) (fun k hk => ?_) (fun i _ => zSt_le (Nat.zero_le 5) i) z
  have q := vs k hk
  unfold zok at q ⊢
  constructor
  · intro hb; have := q.1 hb; omega
  · intro hb; have := q.2 hb; omega
theorem zP_2000 (hp : zpr A B D c) : zF A B D c 2000 5 = false := by
  refine zP_sol hp (y := fun _ => 0) (fun k hk => ?_) ?_ rfl
  · obtain ⟨-, -, p3, p4⟩ := hp k hk
    unfold zok
    constructor
    · intro _; show (0 : Int) ≤ 0 + (D k + 2000); omega
    · intro _; show (0 : Int) ≤ 0 + (2000 - D k); omega
  · intro i _
    show (0 : Int) ≤ zs0 i
    unfold zs0 zU
    split <;> omega
/-- the reference's question is the class's -/
theorem zP_ref (hp : zpr A B D c) (ho1 : 0 ≤ o) (ho2 : o ≤ 2000) (hc : c ≤ 40) : (zF A B D c o 7 = false ∧ zSt A B D c o 7 0 = 0) ↔ zF A B D c o 5 = false := by
  constructor
  · intro h; exact (zF_5 hp h.1 h.2).1
  · intro h
    have q := zF_stay' h (show 5 ≤ 7 by omega)
    exact ⟨q.2, by rw [q.1]; exact zP_0 hp ho1 ho2 hc h⟩
end
