theorem count9 (x1 : Int32) {l0 : Int32} {a0 : Nat → Int32} {l1 : Int32} {a1 ed le wo : Nat → Int32} {l2 : Int32} {a2 : Nat → Int32} {m2 : Int32} {b2 : Nat → Int32} {l3 : Int32} {a3 : Nat → Int32} {m3 : Int32} {b3 : Nat → Int32} {l4 : Int32} {a4 : Nat → Int32} {m4 : Int32} {b4 : Nat → Int32} {l5 : Int32} {a5 : Nat → Int32} {m5 : Int32} {lo hi at_ : Nat → Int32} {l6 : Int32} {a6 : Nat → Int32} {m6 : Int32} {b6 : Nat → Int32} {l7 : Int32} {a7 : Nat → Int32} {m7 : Int32} {b7 : Nat → Int32} {l8 : Int32} {a8 : Nat → Int32} {m8 : Int32} {b8 : Nat → Int32}
    (he : R_edges l0 a0 l1 a1 ed le wo) (h2 : R_layers l2 a2 m2 b2) (h3 : R_sights l3 a3 m3 b3) (h4 : R_shadows l4 a4 m4 b4) (h5 : R_heights l5 a5 m5 lo hi at_) (h6 : R_pairs l6 a6 m6 b6) (h7 : R_rows l7 a7 m7 b7) (h8 : R_notes l8 a8 m8 b8) :
    ∃ r, fX9_count x1 l0 l1 l2 l3 l4 l5 l6 l7 l8 = some r ∧ fX10_count x1 m2 m3 m4 m5 m6 m7 m8 ed = some r := by
  obtain ⟨c0, c1, -, -, rfl, rfl, d0, d1, -⟩ := he
  obtain ⟨c2, -, rfl, rfl, -⟩ := h2
  obtain ⟨c3, -, rfl, rfl, -⟩ := h3
  obtain ⟨c4, -, rfl, rfl, -⟩ := h4
  obtain ⟨c5, -, rfl, rfl, -⟩ := h5
  obtain ⟨c6, -, rfl, rfl, -⟩ := h6
  obtain ⟨c7, -, rfl, rfl, -⟩ := h7
  obtain ⟨c8, -, rfl, rfl, -⟩ := h8
  exact count_ok x1 ed _ _ _ _ _ _ _ _ _ d0 d1
