/-! least ways through layers of sets: keys that carry the row of choices -/
def isG (adm : Nat → Nat → Nat → Prop) (wt : Nat → Nat → Nat → Nat) (nx : Nat → Nat → Nat) (G : Nat → Nat → Nat) (i s d : Nat) : Prop :=
  (adm i s d ∧ G i s = wt i s d + G (i + 1) (nx s d)) ∧ ∀ e, e < d → ¬ (adm i s e ∧ G i s = wt i s e + G (i + 1) (nx s e))
def Rw (B : Nat) (gr : Nat → Nat → Nat) (nx : Nat → Nat → Nat) : Nat → Nat → Nat → Nat
  | 0, _, _ => 0
  | k + 1, i, s => gr i s * B ^ (7 - i) + Rw B gr nx k (i + 1) (nx s (gr i s))
def ph (gr : Nat → Nat → Nat) (nx : Nat → Nat → Nat) (s0 : Nat) : Nat → Nat
  | 0 => s0
  | k + 1 => nx (ph gr nx s0 k) (gr k (ph gr nx s0 k))
theorem pw8 {B i : Nat} (h : i < 8) : B ^ (8 - i) = B * B ^ (7 - i) := by
  rw [show 8 - i = (7 - i) + 1 by omega, Nat.pow_succ, Nat.mul_comm]
theorem Rw_s (B : Nat) (gr nx : Nat → Nat → Nat) {N i : Nat} (h : i < N) (s : Nat) : Rw B gr nx (N - i) i s = gr i s * B ^ (7 - i) + Rw B gr nx (N - (i + 1)) (i + 1) (nx s (gr i s)) := by
  rw [show N - i = (N - (i + 1)) + 1 by omega]; rfl
theorem Rw_lt {B N : Nat} {V : Nat → Nat → Prop} {gr nx : Nat → Nat → Nat} (hB : 0 < B) (hN : N ≤ 8) (hg : ∀ i s, i < N → V i s → gr i s < B ∧ V (i + 1) (nx s (gr i s))) : ∀ k i s, i + k = N → V i s → Rw B gr nx k i s < B ^ (8 - i) := by
  intro k
  induction k with
  | zero => intro i s _ _; exact Nat.pow_pos hB
  | succ k ih =>
    intro i s hi hv
    obtain ⟨h1, h2⟩ := hg i s (by omega) hv
    have h3 := ih (i + 1) _ (by omega) h2
    rw [show 8 - (i + 1) = 7 - i by omega] at h3
    show gr i s * B ^ (7 - i) + Rw B gr nx k (i + 1) (nx s (gr i s)) < B ^ (8 - i)
    rw [pw8 (show i < 8 by omega)]
    have h4 : (gr i s + 1) * B ^ (7 - i) ≤ B * B ^ (7 - i) := Nat.mul_le_mul_right _ h1
    rw [Nat.add_mul, Nat.one_mul] at h4
    omega
theorem ways {B N : Nat} (hB : 0 < B) (hN : N ≤ 8) {V : Nat → Nat → Prop} {adm : Nat → Nat → Nat → Prop} {wt : Nat → Nat → Nat → Nat} {nx G K : Nat → Nat → Nat} {rc : Nat → Nat → Prop} {s0 best : Nat}
    (hV0 : V 0 s0) (hV : ∀ i s d, i < N → V i s → adm i s d → V (i + 1) (nx s d)) (hd : ∀ i s d, adm i s d → d < B)
    (g1 : ∀ i s d, i < N → V i s → adm i s d → G i s ≤ wt i s d + G (i + 1) (nx s d))
    (g2 : ∀ i s, i < N → V i s → ∃ d, adm i s d ∧ G i s = wt i s d + G (i + 1) (nx s d))
    (k0 : ∀ s, rc 0 s → s = s0 ∧ K 0 s = 0) (k0' : rc 0 s0)
    (k1 : ∀ i t, i < N → rc (i + 1) t → ∃ s d, rc i s ∧ adm i s d ∧ t = nx s d ∧ K (i + 1) t = K i s + (wt i s d * B ^ 8 + d * B ^ (7 - i)))
    (k2 : ∀ i s d, i < N → rc i s → adm i s d → rc (i + 1) (nx s d) ∧ K (i + 1) (nx s d) ≤ K i s + (wt i s d * B ^ 8 + d * B ^ (7 - i)))
    (b1 : ∀ t, rc N t → best ≤ K N t + G N t * B ^ 8) (b2 : ∃ t, rc N t ∧ best = K N t + G N t * B ^ 8) :
    ∃ gr : Nat → Nat → Nat, (∀ i s, i < N → V i s → isG adm wt nx G i s (gr i s)) ∧ best = G 0 s0 * B ^ 8 + Rw B gr nx N 0 s0 := by
  have rcV : ∀ i s, i ≤ N → rc i s → V i s := by
    intro i
    induction i with
    | zero => intro s _ h; rw [(k0 s h).1]; exact hV0
    | succ i ih =>
      intro t hi h
      obtain ⟨s, d, h1, h2, rfl, -⟩ := k1 i t (by omega) h
      exact hV i s d (by omega) (ih s (by omega) h1) h2
  have hgr : ∀ i s, ∃ d, i < N → V i s → isG adm wt nx G i s d := by
    intro i s
    by_cases h : i < N ∧ V i s
    · obtain ⟨d, q1, q2⟩ := pk_least (fun d => adm i s d ∧ G i s = wt i s d + G (i + 1) (nx s d)) (g2 i s h.1 h.2)
      exact ⟨d, fun _ _ => ⟨q1, q2⟩⟩
    · exact ⟨0, fun a b => absurd ⟨a, b⟩ h⟩
  obtain ⟨gr, hg⟩ : ∃ gr : Nat → Nat → Nat, ∀ i s, i < N → V i s → isG adm wt nx G i s (gr i s) :=
    ⟨fun i s => Classical.choose (hgr i s), fun i s => Classical.choose_spec (hgr i s)⟩
  refine ⟨gr, hg, ?_⟩
  have hgl : ∀ i s, i < N → V i s → gr i s < B ∧ V (i + 1) (nx s (gr i s)) := fun i s hi hv => ⟨hd i s _ (hg i s hi hv).1.1, hV i s _ hi hv (hg i s hi hv).1.1⟩
  have hR := Rw_lt hB hN hgl
  have hle : ∀ i s d, i < N → V i s → adm i s d → G i s * B ^ 8 + Rw B gr nx (N - i) i s ≤ (wt i s d * B ^ 8 + d * B ^ (7 - i)) + (G (i + 1) (nx s d) * B ^ 8 + Rw B gr nx (N - (i + 1)) (i + 1) (nx s d)) := by
    intro i s d hi hv ha
    have r1 := hR (N - i) i s (by omega) hv
    have r8 : B ^ (8 - i) ≤ B ^ 8 := Nat.pow_le_pow_right hB (by omega)
    have q := g1 i s d hi hv ha
    by_cases hq : G i s = wt i s d + G (i + 1) (nx s d)
    · have hm : gr i s ≤ d := Nat.le_of_not_lt (fun hlt => (hg i s hi hv).2 d hlt ⟨ha, hq⟩)
      rw [hq, Nat.add_mul, Rw_s B gr nx hi s]
      by_cases he : gr i s = d
      · rw [he]; omega
      · have r2 := hR (N - (i + 1)) (i + 1) (nx s (gr i s)) (by omega) (hgl i s hi hv).2
        rw [show 8 - (i + 1) = 7 - i by omega] at r2
        have h4 : (gr i s + 1) * B ^ (7 - i) ≤ d * B ^ (7 - i) := Nat.mul_le_mul_right _ (by omega)
        rw [Nat.add_mul, Nat.one_mul] at h4
        omega
    · have h4 : (G i s + 1) * B ^ 8 ≤ (wt i s d + G (i + 1) (nx s d)) * B ^ 8 := Nat.mul_le_mul_right _ (by omega)
      rw [Nat.add_mul, Nat.one_mul, Nat.add_mul] at h4
      omega
  have heq : ∀ i s, i < N → V i s → G i s * B ^ 8 + Rw B gr nx (N - i) i s = (wt i s (gr i s) * B ^ 8 + gr i s * B ^ (7 - i)) + (G (i + 1) (nx s (gr i s)) * B ^ 8 + Rw B gr nx (N - (i + 1)) (i + 1) (nx s (gr i s))) := by
    intro i s hi hv
    rw [(hg i s hi hv).1.2, Nat.add_mul, Rw_s B gr nx hi s]
    omega
  have lo : ∀ i t, i ≤ N → rc i t → G 0 s0 * B ^ 8 + Rw B gr nx N 0 s0 ≤ K i t + (G i t * B ^ 8 + Rw B gr nx (N - i) i t) := by
    intro i
    induction i with
    | zero => intro t _ h; rw [(k0 t h).1, Nat.sub_zero]; omega
    | succ i ih =>
      intro t hi h
      obtain ⟨s, d, h1, h2, rfl, h3⟩ := k1 i t (by omega) h
      have q1 := ih s (by omega) h1
      have q2 := hle i s d (by omega) (rcV i s (by omega) h1) h2
      omega
  have at_ : ∀ i, i ≤ N → ∃ t, rc i t ∧ K i t + (G i t * B ^ 8 + Rw B gr nx (N - i) i t) = G 0 s0 * B ^ 8 + Rw B gr nx N 0 s0 := by
    intro i
    induction i with
    | zero => intro _; exact ⟨s0, k0', by rw [(k0 s0 k0').2, Nat.sub_zero]; omega⟩
    | succ i ih =>
      intro hi
      obtain ⟨s, h1, h2⟩ := ih (by omega)
      have hv := rcV i s (by omega) h1
      obtain ⟨h3, h4⟩ := k2 i s (gr i s) (by omega) h1 (hg i s (by omega) hv).1.1
      refine ⟨_, h3, ?_⟩
      have h5 := lo (i + 1) _ hi h3
      have h6 := heq i s (by omega) hv
      omega
  obtain ⟨t, c1, c2⟩ := b2
  obtain ⟨u, d1, d2⟩ := at_ N (Nat.le_refl N)
  have l1 := lo N t (Nat.le_refl N) c1
  have l2 := b1 u d1
  have z : ∀ x, Rw B gr nx (N - N) N x = 0 := fun x => by rw [Nat.sub_self]; rfl
  rw [z] at l1 d2
  omega
theorem digs {B N : Nat} (hB : 0 < B) (hN : N ≤ 8) {V : Nat → Nat → Prop} {gr nx : Nat → Nat → Nat} {s0 best Q : Nat} (hV0 : V 0 s0) (hg : ∀ i s, i < N → V i s → gr i s < B ∧ V (i + 1) (nx s (gr i s))) (hb : best = Q * B ^ 8 + Rw B gr nx N 0 s0) :
    best / B ^ 8 = Q ∧ ∀ k, k < N → best / B ^ (7 - k) % B = gr k (ph gr nx s0 k) ∧ V k (ph gr nx s0 k) := by
  have hR := Rw_lt hB hN hg
  constructor
  · have r := hR N 0 s0 (by omega) hV0
    rw [hb, Nat.mul_comm, Nat.mul_add_div (Nat.pow_pos hB), Nat.div_eq_of_lt r, Nat.add_zero]
  · have cl : ∀ k, k ≤ N → V k (ph gr nx s0 k) ∧ ∃ M, best = M * B ^ (8 - k) + Rw B gr nx (N - k) k (ph gr nx s0 k) := by
      intro k
      induction k with
      | zero => intro _; exact ⟨hV0, Q, hb⟩
      | succ k ih =>
        intro hk
        obtain ⟨h1, M, h2⟩ := ih (by omega)
        refine ⟨(hg k _ (by omega) h1).2, M * B + gr k (ph gr nx s0 k), ?_⟩
        rw [Rw_s B gr nx (show k < N by omega), pw8 (show k < 8 by omega)] at h2
        rw [h2, Nat.add_mul, Nat.mul_assoc, show 8 - (k + 1) = 7 - k by omega, Nat.add_assoc]
        rfl
    intro k hk
    obtain ⟨h1, M, h2⟩ := cl k (by omega)
    refine ⟨?_, h1⟩
    obtain ⟨h3, h4⟩ := hg k _ hk h1
    rw [Rw_s B gr nx hk, pw8 (show k < 8 by omega)] at h2
    have r := hR (N - (k + 1)) (k + 1) _ (by omega) h4
    rw [show 8 - (k + 1) = 7 - k by omega] at r
    have e : best = B ^ (7 - k) * (B * M + gr k (ph gr nx s0 k)) + Rw B gr nx (N - (k + 1)) (k + 1) (nx (ph gr nx s0 k) (gr k (ph gr nx s0 k))) := by
      rw [h2, Nat.mul_comm (B ^ (7 - k)), Nat.add_mul, Nat.mul_comm B M, Nat.mul_assoc, Nat.add_assoc]
    rw [e, Nat.mul_add_div (Nat.pow_pos hB), Nat.div_eq_of_lt r, Nat.add_zero, Nat.mul_add_mod, Nat.mod_eq_of_lt h3]
