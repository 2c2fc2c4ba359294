/-! a call within a long world: its cells are laid back at their places -/
def upW : va_W → List Nat → va_W → va_W
  | ws, i :: is, q :: w => upW (ws.set i q) is w
  | ws, _, _ => ws
theorem upW_mem : ∀ (is : List Nat) (w ws : va_W), is.length = w.length → ∀ (k : Nat) (q : Nat × va_E), (upW ws is w)[k]? = some q → (∃ j : Nat, w[j]? = some q) ∨ (ws[k]? = some q ∧ k ∉ is) := by
  intro is
  induction is with
  | nil =>
    intro w ws hl k q hq
    exact Or.inr ⟨by cases w <;> exact hq, List.not_mem_nil⟩
  | cons i is ih =>
    intro w ws hl k q hq
    cases w with
    | nil => simp at hl
    | cons q0 w =>
      have hq : (upW (ws.set i q0) is w)[k]? = some q := hq
      rcases ih w (ws.set i q0) (by simpa using hl) k q hq with ⟨j, hj⟩ | ⟨h1, h2⟩
      · exact Or.inl ⟨j + 1, by simpa using hj⟩
      · by_cases hik : i = k
        · subst hik
          by_cases hlt : i < ws.length
          · rw [List.getElem?_set_self hlt] at h1
            exact Or.inl ⟨0, by simpa using h1⟩
          · rw [List.getElem?_eq_none (by simpa using hlt)] at h1
            cases h1
        · rw [List.getElem?_set_ne hik] at h1
          exact Or.inr ⟨h1, fun hm => (List.mem_cons.mp hm).elim (fun e => hik e.symm) h2⟩
theorem set_fst {ws : va_W} {i : Nat} {q : Nat × va_E} (h : (ws[i]?).map Prod.fst = some q.1) : (ws.set i q).map Prod.fst = ws.map Prod.fst := by
  apply List.ext_getElem?
  intro k
  rw [List.getElem?_map, List.getElem?_map]
  by_cases hik : i = k
  · subst hik
    by_cases hlt : i < ws.length
    · rw [List.getElem?_set_self hlt, h]; rfl
    · rw [List.getElem?_eq_none (by simpa using hlt), List.getElem?_eq_none (by omega)]
  · rw [List.getElem?_set_ne hik]
theorem upW_fst : ∀ (is : List Nat) (w ws : va_W), is.map (fun i => (ws[i]?).map Prod.fst) = w.map (fun q => some q.1) → (upW ws is w).map Prod.fst = ws.map Prod.fst := by
  intro is
  induction is with
  | nil => intro w ws _; cases w <;> rfl
  | cons i is ih =>
    intro w ws h
    cases w with
    | nil => rfl
    | cons q0 w =>
      simp only [List.map_cons, List.cons.injEq] at h
      have e := set_fst (ws := ws) h.1
      show (upW (ws.set i q0) is w).map Prod.fst = _
      rw [ih w (ws.set i q0) ?_, e]
      rw [← h.2]
      apply List.map_congr_left
      intro i' _
      rw [← List.getElem?_map, ← List.getElem?_map, e]
theorem va_D_fst {A : Nat → Prop} {ws ws2 : va_W} (h : ws2.map Prod.fst = ws.map Prod.fst) (hD : va_D A ws) : va_D A ws2 := by
  have key : ∀ (k : Nat) (q : Nat × va_E), ws2[k]? = some q → ∃ q0, ws[k]? = some q0 ∧ q0.1 = q.1 := by
    intro k q hq
    have h1 : (ws2.map Prod.fst)[k]? = some q.1 := by rw [List.getElem?_map, hq]; rfl
    rw [h, List.getElem?_map] at h1
    exact Option.map_eq_some_iff.mp h1
  refine ⟨fun i j p q hp hq e => ?_, fun k q hq => ?_⟩
  · obtain ⟨p0, a1, a2⟩ := key i p hp
    obtain ⟨q0, b1, b2⟩ := key j q hq
    exact hD.1 i j p0 q0 a1 b1 (by rw [a2, b2]; exact e)
  · obtain ⟨q0, a1, a2⟩ := key k q hq
    rw [← a2]
    exact hD.2 k q0 a1
theorem upW_ok {G : va_G} {A : Nat → Prop} {ws wc w1 : va_W} {H H1 : Heap} (hP : va_P G vwCl ws H) (hD : va_D A ws) (isC : List Nat) (hC2 : isC.map (fun i => ws[i]?) = wc.map some) (hw : w1.map Prod.fst = wc.map Prod.fst) (hk : ∀ q : Nat, q < H.size → ¬ va_A wc H.size q → H1[q]? = H[q]?) (hP1 : va_P G vwCl w1 H1) : va_P G vwCl (upW ws isC w1) H1 ∧ va_D A (upW ws isC w1) := by
  have hlen : isC.length = w1.length := by
    have h1 := congrArg List.length hC2
    have h2 := congrArg List.length hw
    simp only [List.length_map] at h1 h2
    omega
  have hfst : isC.map (fun i => (ws[i]?).map Prod.fst) = w1.map (fun q => some q.1) := by
    have h1 := congrArg (List.map (Option.map Prod.fst)) hC2
    rw [List.map_map, List.map_map] at h1
    have h2 := congrArg (List.map some) hw
    rw [List.map_map, List.map_map] at h2
    exact h1.trans h2.symm
  refine ⟨fun k q hq => ?_, va_D_fst (upW_fst isC w1 ws hfst) hD⟩
  rcases upW_mem isC w1 ws hlen k q hq with ⟨j, hj⟩ | ⟨h1, h2⟩
  · exact hP1 j q hj
  · have hlt : q.1 < H.size := (hP k q h1).lt
    refine (hP k q h1).kept (hk q.1 hlt ?_)
    rintro (⟨j, e, hj⟩ | hz)
    · have h3 : (isC.map (fun i => ws[i]?))[j]? = some (some (q.1, e)) := by rw [hC2, List.getElem?_map, hj]; rfl
      rw [List.getElem?_map] at h3
      obtain ⟨i, hi0, hi⟩ := Option.map_eq_some_iff.mp h3
      have hik : i = k := hD.1 i k _ _ hi h1 rfl
      subst hik
      exact h2 (List.mem_of_getElem? hi0)
    · exact absurd hlt (Nat.not_lt.mpr hz)
theorem va_P_swap {G : va_G} {a b : va_W} {H : Heap} (h : va_P G vwCl (a ++ b) H) : va_P G vwCl (b ++ a) H := by
  intro k q hq
  rcases List.mem_append.mp (List.mem_of_getElem? hq) with hm | hm
  · obtain ⟨i, hi⟩ := List.getElem?_of_mem (List.mem_append_right a hm)
    exact h i q hi
  · obtain ⟨i, hi⟩ := List.getElem?_of_mem (List.mem_append_left b hm)
    exact h i q hi
theorem va_D_swap {A : Nat → Prop} {a b : va_W} (h : va_D A (a ++ b)) : va_D A (b ++ a) := by
  refine ⟨fun i j p q hp hq e => ?_, fun k q hq => ?_⟩
  · -- place in a ++ b
    have tr : ∀ (k : Nat) (q : Nat × va_E), (b ++ a)[k]? = some q → (a ++ b)[if k < b.length then a.length + k else k - b.length]? = some q := by
      intro k q hq
      by_cases hk : k < b.length
      · rw [if_pos hk, List.getElem?_append_right (by omega)]
        rw [List.getElem?_append_left hk] at hq
        rw [show a.length + k - a.length = k by omega]
        exact hq
      · rw [if_neg hk]
        rw [List.getElem?_append_right (by omega)] at hq
        have hlt : k - b.length < a.length := (List.getElem?_eq_some_iff.mp hq).1
        rw [List.getElem?_append_left hlt]
        exact hq
    have e2 := h.1 _ _ p q (tr i p hp) (tr j q hq) e
    have li : i < (b ++ a).length := (List.getElem?_eq_some_iff.mp hp).1
    have lj : j < (b ++ a).length := (List.getElem?_eq_some_iff.mp hq).1
    rw [List.length_append] at li lj
    split at e2 <;> split at e2 <;> omega
  · rcases List.mem_append.mp (List.mem_of_getElem? hq) with hm | hm
    · obtain ⟨i, hi⟩ := List.getElem?_of_mem (List.mem_append_right a hm)
      exact h.2 i q hi
    · obtain ⟨i, hi⟩ := List.getElem?_of_mem (List.mem_append_left b hm)
      exact h.2 i q hi
section CallS
variable {p : Program} {l : Launch} {e : Env} {R : Room} {s : State} {m : MethodId} {args : Array Value} {below : List Frame} {meth : Method} {c : Code} {H : Heap} {locs : List Loc} {G : va_G} {cI cJ : ClassId} {ws wc w1 : va_W} {A : Nat → Prop} {cc : ByteArray} {pc : Nat} {ls : Array Slot} {Q : State → Prop} {H0 : Heap} {rest st0 : List Value} {cells slots : Nat} {a : Array Value}
theorem af_iS {r : Int32} (hr : va_Run p l e R s m args below meth c H locs cells slots 0 0 (F0 m pc ls st0) rest (Qi0 G cI cJ w1 r (va_A wc H.size) a) (va_A wc H.size)) (hP : va_P G vwCl ws H) (hD : va_D A ws) (hS : va_S A H0 H locs) (hA : ∀ q, H0.size ≤ q → A q) (isC : List Nat) (hC2 : isC.map (fun i => ws[i]?) = wc.map some) (hw : w1.map Prod.fst = wc.map Prod.fst)
    (kk : ∀ (H1 : Heap) (locs1 : List Loc), va_P G vwCl (upW ws isC w1) H1 → va_D A (upW ws isC w1) → va_S A H0 H1 locs1 → W p l e R s m args below meth c H1 locs1 cells slots Q (F0 m (pc + 3) ls (.int r :: rest))) : W p l e R s m args below meth c H locs cells slots Q (F0 m pc ls st0) := by
  have hFc := va_free (wc := wc) hD hS hA isC hC2
  refine va_calli hr hS (fun q _ h => hFc q h) hFc (fun r2 u t H1 locs1 ht hvm hw1 hB hz1 hk1 hS1 => ?_)
  obtain ⟨hP1, hK1, hD1⟩ := hB
  rw [ht] at hP1
  subst hw1
  obtain ⟨hP2, hD2⟩ := upW_ok hP hD isC hC2 hw hk1 hP1
  exact kk H1 locs1 hP2 hD2 hS1
theorem af_lS {r : Int64} (hr : va_Run p l e R s m args below meth c H locs cells slots 0 0 (F0 m pc ls st0) rest (Ql0 G cI cJ w1 r (va_A wc H.size) a) (va_A wc H.size)) (hP : va_P G vwCl ws H) (hD : va_D A ws) (hS : va_S A H0 H locs) (hA : ∀ q, H0.size ≤ q → A q) (isC : List Nat) (hC2 : isC.map (fun i => ws[i]?) = wc.map some) (hw : w1.map Prod.fst = wc.map Prod.fst)
    (kk : ∀ (H1 : Heap) (locs1 : List Loc), va_P G vwCl (upW ws isC w1) H1 → va_D A (upW ws isC w1) → va_S A H0 H1 locs1 → W p l e R s m args below meth c H1 locs1 cells slots Q (F0 m (pc + 3) ls (.long r :: rest))) : W p l e R s m args below meth c H locs cells slots Q (F0 m pc ls st0) := by
  have hFc := va_free (wc := wc) hD hS hA isC hC2
  refine va_calll hr hS (fun q _ h => hFc q h) hFc (fun r2 u t H1 locs1 ht hvm hw1 hB hz1 hk1 hS1 => ?_)
  obtain ⟨hP1, hK1, hD1⟩ := hB
  rw [ht] at hP1
  subst hw1
  obtain ⟨hP2, hD2⟩ := upW_ok hP hD isC hC2 hw hk1 hP1
  exact kk H1 locs1 hP2 hD2 hS1
end CallS
