theorem count9 (x1 : Int32) {l0 : Int32} {a0 : Nat → Int32} {l1 : Int32} {a1 ed le wo : Nat → Int32} {l2 : Int32} {a2 : Nat → Int32} {m2 : Int32} {b2 : Nat → Int32} {l3 : Int32} {a3 : Nat → Int32} {m3 : Int32} {b3 : Nat → Int32} {l4 : Int32} {a4 : Nat → Int32} {m4 : Int32} {b4 : Nat → Int32} {l5 : Int32} {a5 : Nat → Int32} {m5 : Int32} {lo hi at_ : Nat → Int32} {l6 : Int32} {a6 : Nat → Int32} {m6 : Int32} {b6 : Nat → Int32} {l7 : Int32} {a7 : Nat → Int32} {m7 : Int32} {b7 : Nat → Int32} {l8 : Int32} {a8 : Nat → Int32} {m8 : Int32} {b8 : Nat → Int32}
    (he : R_edges l0 a0 l1 a1 ed le wo) (h2 : R_layers l2 a2 m2 b2) (h3 : R_sights l3 a3 m3 b3) (h4 : R_shadows l4 a4 m4 b4) (h5 : R_heights l5 a5 m5 lo hi at_) (h6 : R_pairs l6 a6 m6 b6) (h7 : R_rows l7 a7 m7 b7) (h8 : R_notes l8 a8 m8 b8) :
    ∃ r, fX9_count x1 l0 l1 l2 l3 l4 l5 l6 l7 l8 = some r ∧ fX10_count x1 m2 m3 m4 m5 m6 m7 m8 ed = some r := by
  obtain ⟨c0, c1, -, -, rfl, rfl, d0, d1, -⟩ := he
  obtain ⟨c2, -, rfl, rfl, -⟩ := h2
  obtain ⟨c3, -, rfl, rfl, -⟩ := h3
  obtain ⟨c4, -, rfl, rfl, -⟩ := h4
  obtain ⟨c5, -, rfl, rfl, -⟩ := h5
  obtain ⟨c6, -, rfl, rfl, -⟩ := h6
  obtain ⟨c7, -, rfl, rfl, -⟩ := h7
  obtain ⟨c8, -, rfl, rfl, -⟩ := h8
  exact count_ok x1 ed _ _ _ _ _ _ _ _ _ d0 d1
theorem matched_ok (x1 : Int32) {xb xs xl xh xu xa mb ms ml mh mu ma : Int32} (hs : R_set xb xs xl xh xu xa mb ms ml mh mu ma) {l0 : Int32} {a0 : Nat → Int32} {l1 : Int32} {a1 ed le wo : Nat → Int32} (he : R_edges l0 a0 l1 a1 ed le wo) {l2 : Int32} {a2 : Nat → Int32} {m2 : Int32} {b2 : Nat → Int32} (h2 : R_layers l2 a2 m2 b2) (co : Nat → Int32) (ke : Nat → Int64) (lt : Nat → Int32) : ∃ r co' ke' lt', fX9_matched x1 xb xl xh xu xa 2 l0 2 l1 1 l2 16 a0 16 a1 6 a2 co ke = some (r, co', ke') ∧ fX10_matched x1 mb ml mh mu ma m2 ed le wo b2 lt = some (r, lt') := sorry
theorem order_ok (x1 : Int32) {l : Int32} {a : Nat → Int32} {ml : Int32} {ma : Nat → Int32} (h : R_notes l a ml ma) (vo : Nat → Int32) (ke : Nat → Int64) (ag : Nat → Int32) : ∃ r vo' ke' ag', fX9_order x1 2 l 200 a vo ke = some (r, vo', ke') ∧ fX10_order x1 ml ma ag = some (r, ag') := sorry
