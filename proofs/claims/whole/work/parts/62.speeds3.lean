/-! speeds of sights -/
theorem ob5_s {α β γ ε ζ δ : Type} (a : α) (b : β) (c : γ) (d : ε) (e : ζ) (f : α → β → γ → ε → ζ → Option δ) : ob5 (some (a, b, c, d, e)) f = f a b c d e := rfl
def sgI (x : Int) : Prop := x = 0 ∨ x = -1 ∨ x = 1
def gpI (X D S s : Int) : Int := if s = 0 then D else if (0 ≤ X + s * S ∧ 0 < s) ∨ (X + s * S < 0 ∧ s < 0) then D - 2 * S else D + 2 * S
theorem gapOfX {a ma : Nat → Int32} {c : Nat} (hc : c ≤ 40) (he : ∀ k, k < 4 * c → a k = ma k) {i : Nat} (hi : i < c) : fX6_gapOf (nI i) 4 160 a = some (ma (4 * i + 2) - ma (4 * i + 3)) := by
  unfold fX6_gapOf
  have t2 : fX7_at (nI i) 2 4 160 a = some (ma (4 * i + 2)) := at4 hc he (j := 2) hi (by omega)
  have t3 : fX7_at (nI i) 3 4 160 a = some (ma (4 * i + 3)) := at4 hc he (j := 3) hi (by omega)
  rw [t2, t3, ob_s, ob_s]
theorem leanX {a ma : Nat → Int32} {c : Nat} (hc : c ≤ 40) (he : ∀ k, k < 4 * c → a k = ma k) {i : Nat} (hi : i < c) {S X s : Int} (hs : sgI s) (hS1 : 0 ≤ S) (hS2 : S ≤ 1000) (hX1 : -20000 ≤ X) (hX2 : X ≤ 20000) (eX : ma (4 * i + 2) = iI X) : fX6_leanAt (nI i) (iI s) (iI S) 4 160 a = some (jI (X + s * S)) := by
  unfold fX6_leanAt
  have t2 : fX7_at (nI i) 2 4 160 a = some (ma (4 * i + 2)) := at4 hc he (j := 2) hi (by omega)
  have b : -1000 ≤ s * S ∧ s * S ≤ 1000 := by rcases hs with e | e | e <;> rw [e] <;> omega
  rw [t2, ob_s, eX, iI_mul, iI_add, iI_l (by omega) (by omega)]
theorem gapX {a ma : Nat → Int32} {c : Nat} (hc : c ≤ 40) (he : ∀ k, k < 4 * c → a k = ma k) {i : Nat} (hi : i < c) {S X D s : Int} (hs : sgI s) (hS1 : 0 ≤ S) (hS2 : S ≤ 1000) (hX1 : -20000 ≤ X) (hX2 : X ≤ 20000) (hD1 : -40000 ≤ D) (hD2 : D ≤ 40000) (eX : ma (4 * i + 2) = iI X) (eD : ma (4 * i + 2) - ma (4 * i + 3) = iI D) : fX6_gapAt (nI i) (iI s) (iI S) 4 160 a = some (jI (gpI X D S s)) := by
  unfold fX6_gapAt gpI
  have b : -1000 ≤ s * S ∧ s * S ≤ 1000 := by rcases hs with e | e | e <;> rw [e] <;> omega
  have s1 : -1 ≤ s ∧ s ≤ 1 := by rcases hs with e | e | e <;> rw [e] <;> omega
  rw [leanX hc he hi hs hS1 hS2 hX1 hX2 eX, ob_s, gapOfX hc he hi, eD]
  have A1 : (lg_cmp (jI (X + s * S)) 0 < 0) ↔ X + s * S < 0 := by rw [lc_lt, jI0, jI_lt (by omega) (by omega) (by omega) (by omega)]
  have A2 : (0 ≤ iI s) ↔ 0 ≤ s := by rw [iI0, iI_le (by omega) (by omega) (by omega) (by omega)]
  have A3 : (iI s ≤ 0) ↔ s ≤ 0 := by rw [iI0, iI_le (by omega) (by omega) (by omega) (by omega)]
  rw [absI (by omega) (by omega)]
  simp only [A1, A2, A3, bv_d]
  have e3 : (if X + s * S < 0 then (if 0 ≤ s then some (0 : Int32) else some 1) else if s ≤ 0 then some 0 else some 1) = some (if (0 ≤ X + s * S ∧ 0 < s) ∨ (X + s * S < 0 ∧ s < 0) then 1 else 0) := by
    by_cases q : X + s * S < 0
    · rw [if_pos q]
      by_cases q2 : 0 ≤ s
      · rw [if_pos q2, if_neg (by omega)]
      · rw [if_neg q2, if_pos (by omega)]
    · rw [if_neg q]
      by_cases q2 : s ≤ 0
      · rw [if_pos q2, if_neg (by omega)]
      · rw [if_neg q2, if_pos (by omega)]
  simp only [ob_s]
  rw [e3, ob_s, iI_l (z := D) (by omega) (by omega), iI_l (z := S) (by omega) (by omega), jI2]
  by_cases o : (0 ≤ X + s * S ∧ 0 < s) ∨ (X + s * S < 0 ∧ s < 0)
  · rw [if_pos o, if_pos o, if_neg (by decide), iI_neg, ob_s, iI_l (by omega) (by omega), jI_mul, jI_mul, jI_add]
    congr 2
    rcases hs with rfl | rfl | rfl
    · omega
    · rw [if_neg (by omega), show (((-1 : Int).natAbs : Nat) : Int) = 1 from rfl]; omega
    · rw [if_neg (by omega), show (((1 : Int).natAbs : Nat) : Int) = 1 from rfl]; omega
  · rw [if_neg o, if_neg o, if_pos rfl, ob_s, iI_l (by omega) (by omega), jI_mul, jI_mul, jI_add]
    congr 2
    rcases hs with rfl | rfl | rfl
    · rw [if_pos rfl]; simp
    · rw [if_neg (by omega), show (((-1 : Int).natAbs : Nat) : Int) = 1 from rfl]; omega
    · rw [if_neg (by omega), show (((1 : Int).natAbs : Nat) : Int) = 1 from rfl]; omega
theorem haveX {a ma : Nat → Int32} {c : Nat} (hc : c ≤ 40) (he : ∀ k, k < 4 * c → a k = ma k) {i j : Nat} (hi : i < c) (hj : j < c) {S D E : Int} (hS1 : 0 ≤ S) (hS2 : S ≤ 1000) (hD1 : -40000 ≤ D) (hD2 : D ≤ 40000) (hE1 : -40000 ≤ E) (hE2 : E ≤ 40000) (eD : ma (4 * i + 2) - ma (4 * i + 3) = iI D) (eE : ma (4 * j + 2) - ma (4 * j + 3) = iI E) : fX6_haveSpan (nI i) (nI j) (iI S) 4 160 a = some (decide (2 * S < D ∧ 2 * S < E)) := by
  unfold fX6_haveSpan
  rw [gapOfX hc he hi, gapOfX hc he hj, eD, eE, iI2, iI_mul, bv_d, ob_s]
  simp only [ob_s]
  have A1 : (iI D ≤ iI (2 * S)) ↔ D ≤ 2 * S := iI_le (by omega) (by omega) (by omega) (by omega)
  have A2 : (iI E ≤ iI (2 * S)) ↔ E ≤ 2 * S := iI_le (by omega) (by omega) (by omega) (by omega)
  simp only [A1, A2]
  by_cases h1 : D ≤ 2 * S
  · rw [if_pos h1, decide_eq_false (by omega)]
  · rw [if_neg h1]
    by_cases h2 : E ≤ 2 * S
    · rw [if_pos h2, decide_eq_false (by omega)]
    · rw [if_neg h2, decide_eq_true (by omega)]
/-- the same ratio -/
theorem same_ratio {B lp lq gp gq yp yq m : Int} (hp : yp = gp ∨ lp = 0) (hq : yq = gq ∨ lq = 0) : (B * (lp * gq - lq * gp)) * (yp * yq * m) = ((B * lp) * yq - (B * lq) * yp) * (gp * gq * m) := by
  rcases hp with rfl | rfl <;> rcases hq with rfl | rfl <;> grind
def sgt (ma : Nat → Int32) (i : Nat) (X D : Int) : Prop := ma (4 * i + 2) = iI X ∧ ma (4 * i + 2) - ma (4 * i + 3) = iI D ∧ -20000 ≤ X ∧ X ≤ 20000 ∧ -40000 ≤ D ∧ D ≤ 40000
theorem sgt_of {ma : Nat → Int32} {i : Nat} (h2 : rg (ma (4 * i + 2)) (-20000) 20000) (h3 : rg (ma (4 * i + 3)) (-20000) 20000) : ∃ X D, sgt ma i X D := by
  obtain ⟨x, x1, x2, ex⟩ := rg_i h2
  obtain ⟨y, y1, y2, ey⟩ := rg_i h3
  exact ⟨x, x - y, ex, by rw [ex, ey, iI_sub], x1, x2, by omega, by omega⟩
def tailX (p q s B S : Int32) (a : Nat → Int32) (mm : Option Int32) (t u : Int64) : Option (Bool × Int64 × Int64) :=
  ob (fX6_gapAt p s S 4 160 a) fun r49 =>
  ob (fX6_gapAt q (-s) S 4 160 a) fun r51 =>
  ob (fX6_leanAt p s S 4 160 a) fun r53 =>
  ob (fX6_leanAt q (-s) S 4 160 a) fun r55 =>
  bv ((r53 * r51) - (r55 * r49)) fun v57 =>
  ob mm fun r58 =>
  ob2 (fX1_put ((Int32.toInt64 B) * v57) ((r49 * r51) * (Int32.toInt64 r58)) t u) fun w60 w61 =>
  some (true, w60, w61)
def spA (B S X D Y E s : Int) : Int := B * ((X + s * S) * gpI Y E S (-s) - (Y + -s * S) * gpI X D S s)
def spQ (S X D Y E s m : Int) : Int := gpI X D S s * gpI Y E S (-s) * m
theorem gp_bd {X D S s : Int} (hs : sgI s) (hS1 : 0 ≤ S) (hS2 : S ≤ 1000) (hD2 : D ≤ 40000) (h : (if s = 0 then 0 else 2 * S) < D) : 0 < gpI X D S s ∧ gpI X D S s ≤ 42000 := by
  unfold gpI
  by_cases h0 : s = 0
  · rw [if_pos h0] at h ⊢; omega
  · rw [if_neg h0] at h ⊢; split <;> omega
theorem sp_bd {B S X D Y E s m : Int} (hB1 : 10 ≤ B) (hB2 : B ≤ 100000) (hs : sgI s) (hS1 : 0 ≤ S) (hS2 : S ≤ 1000) (hX1 : -20000 ≤ X) (hX2 : X ≤ 20000) (hY1 : -20000 ≤ Y) (hY2 : Y ≤ 20000) (hD2 : D ≤ 40000) (hE2 : E ≤ 40000) (h : (if s = 0 then 0 else 2 * S) < D) (h' : (if s = 0 then 0 else 2 * S) < E) (hm1 : 0 < m) (hm2 : m ≤ 1439) : -4611686018427387904 < spA B S X D Y E s ∧ spA B S X D Y E s < 4611686018427387904 ∧ 0 < spQ S X D Y E s m ∧ spQ S X D Y E s m < 4398046511104 := by
  have g1 := gp_bd (X := X) hs hS1 hS2 hD2 h
  have hs' : sgI (-s) := by unfold sgI at hs ⊢; omega
  have g2 := gp_bd (X := Y) (D := E) (s := -s) hs' hS1 hS2 hE2 (by by_cases q : s = 0 <;> simp_all)
  have b1 : -1000 ≤ s * S ∧ s * S ≤ 1000 := by rcases hs with e | e | e <;> rw [e] <;> omega
  have b2 : -1000 ≤ -s * S ∧ -s * S ≤ 1000 := by rw [Int.neg_mul]; omega
  unfold spA spQ
  generalize gpI X D S s = g at *
  generalize gpI Y E S (-s) = g' at *
  generalize s * S = v at *
  generalize -s * S = v' at *
  have c1 := mul_bd (a := X + v) (b := g') (M := 21000) (N := 42000) (by omega) (by omega) (by omega) (by omega)
  have c2 := mul_bd (a := Y + v') (b := g) (M := 21000) (N := 42000) (by omega) (by omega) (by omega) (by omega)
  have c3 := mul_bd (a := B) (b := (X + v) * g' - (Y + v') * g) (M := 100000) (N := 1764000000) (by omega) (by omega) (by omega) (by omega)
  have c4 := mul_bd (a := g) (b := g') (M := 42000) (N := 42000) (by omega) (by omega) (by omega) (by omega)
  have c5 := mul_bd (a := g * g') (b := m) (M := 1764000000) (N := 1439) (by omega) (by omega) (by omega) (by omega)
  have c6 := Int.mul_pos (Int.mul_pos g1.1 g2.1) hm1
  omega
theorem tailX_eq {a ma : Nat → Int32} {c : Nat} (hc : c ≤ 40) (he : ∀ k, k < 4 * c → a k = ma k) {p q : Nat} (hp : p < c) (hq : q < c) {B S X D Y E s m : Int} (hB1 : 10 ≤ B) (hB2 : B ≤ 100000) (hs : sgI s) (hS1 : 0 ≤ S) (hS2 : S ≤ 1000) (h1 : sgt ma p X D) (h2 : sgt ma q Y E) (h : (if s = 0 then 0 else 2 * S) < D) (h' : (if s = 0 then 0 else 2 * S) < E) (hm1 : 0 < m) (hm2 : m ≤ 1439) (t u : Int64) : tailX (nI p) (nI q) (iI s) (iI B) (iI S) a (some (iI m)) t u = some (true, jI (nfA (spA B S X D Y E s) (spQ S X D Y E s m)), jI (nfB (spA B S X D Y E s) (spQ S X D Y E s m))) := by
  obtain ⟨eX, eD, x1, x2, d1, d2⟩ := h1
  obtain ⟨eY, eE, y1, y2, e1, e2⟩ := h2
  have hs' : sgI (-s) := by unfold sgI at hs ⊢; omega
  have bd := sp_bd (X := X) (D := D) (Y := Y) (E := E) hB1 hB2 hs hS1 hS2 x1 x2 y1 y2 d2 e2 h h' hm1 hm2
  unfold tailX
  rw [iI_neg, gapX hc he hp hs hS1 hS2 x1 x2 d1 d2 eX eD, gapX hc he hq hs' hS1 hS2 y1 y2 e1 e2 eY eE, leanX hc he hp hs hS1 hS2 x1 x2 eX, leanX hc he hq hs' hS1 hS2 y1 y2 eY]
  simp only [ob_s, bv_d]
  rw [iI_l (z := m) (by omega) (by omega), iI_l (z := B) (by omega) (by omega)]
  simp only [jI_mul, jI_sub]
  have q := put_nf bd.1 bd.2.1 bd.2.2.1 bd.2.2.2 t u
  unfold spA spQ at q ⊢
  rw [q, ob2_s]
def tailM (m3 m7 x3 B S v13 : Int32) (ea eb sa sb : Int64) (ma : Nat → Int32) : Option (Bool × Int64 × Int64 × Int64 × Int64) :=
  if x3 = 0 then
    gd (bnd ((4 * m3) + 2) 160) <|
    gd (bnd ((4 * m3) + 3) 160) <|
    bv ((ma (Int32.toNatClampNeg ((4 * m3) + 2))) - (ma (Int32.toNatClampNeg ((4 * m3) + 3)))) fun v38 =>
    gd (bnd ((4 * m7) + 2) 160) <|
    gd (bnd ((4 * m7) + 3) 160) <|
    bv ((ma (Int32.toNatClampNeg ((4 * m7) + 2))) - (ma (Int32.toNatClampNeg ((4 * m7) + 3)))) fun v41 =>
    if v38 ≤ 0 then
      some (false, ea, eb, sa, sb)
    else
      if 0 < v41 then
        gd (bnd ((4 * m3) + 2) 160) <|
        gd (bnd ((4 * m7) + 2) 160) <|
        ob2 (fX10_speeds ((Int32.toInt64 B) * (Int32.toInt64 (ma (Int32.toNatClampNeg ((4 * m3) + 2))))) (Int32.toInt64 v38) ((Int32.toInt64 B) * (Int32.toInt64 (ma (Int32.toNatClampNeg ((4 * m7) + 2))))) (Int32.toInt64 v41) v13 sa sb) fun w46 w47 =>
        some (true, ea, eb, w46, w47)
      else
        some (false, ea, eb, sa, sb)
  else
    ob (α := Int32) (
        if x3 = 2 then
          some 1
        else
          some 0
      ) fun m15 =>
    ob3 (fX10_findEnd m3 m15 B S ea eb ma) fun r19 w20 w21 =>
    if (b2i r19) = 0 then
      some (false, w20, w21, sa, sb)
    else
      ob (α := Int32) (
          if x3 = 1 then
            some 1
          else
            some 0
        ) fun m24 =>
      ob3 (fX10_findEnd m7 m24 B S w20 w21 ma) fun r28 w29 w30 =>
      if (b2i r28) = 0 then
        some (false, w29, w30, sa, sb)
      else
        ob2 (fX10_speeds w20 w21 w29 w30 v13 sa sb) fun w33 w34 =>
        some (true, w29, w30, w33, w34)
/-- the model's end: the lean, and a gap that is the class's or beside a lean of 0 -/
theorem fin_gp {X D S : Int} (hS1 : 0 ≤ S) (h : 2 * S < D) (g : Bool) : (fin4 g (X + S) (X - S) (D + 2 * S) (D - 2 * S)).1 = X + (if g then 1 else -1) * S ∧ 0 < (fin4 g (X + S) (X - S) (D + 2 * S) (D - 2 * S)).2 ∧ (fin4 g (X + S) (X - S) (D + 2 * S) (D - 2 * S)).2 ≤ D + 2 * S ∧ ((fin4 g (X + S) (X - S) (D + 2 * S) (D - 2 * S)).2 = gpI X D S (if g then 1 else -1) ∨ X + (if g then 1 else -1) * S = 0) := by
  cases g with
  | true =>
    rw [fin_g (by omega) (by omega)]
    simp only [if_true]
    unfold gpI
    refine ⟨by omega, ?_, ?_, ?_⟩
    · split <;> omega
    · split <;> omega
    · rw [if_neg (show ¬ (1 : Int) = 0 by omega)]
      by_cases q : 0 < X + S ∧ D - 2 * S < D + 2 * S
      · rw [if_pos q, if_pos (by omega)]; omega
      · rw [if_neg q]
        by_cases q2 : (0 ≤ X + 1 * S ∧ (0 : Int) < 1) ∨ (X + 1 * S < 0 ∧ (1 : Int) < 0)
        · rw [if_pos q2]; omega
        · rw [if_neg q2]; omega
  | false =>
    rw [fin_l (by omega) (by omega)]
    simp only [Bool.false_eq_true, if_false]
    unfold gpI
    refine ⟨by omega, ?_, ?_, ?_⟩
    · split <;> omega
    · split <;> omega
    · rw [if_neg (show ¬ (-1 : Int) = 0 by omega)]
      by_cases q : X - S < 0 ∧ D - 2 * S < D + 2 * S
      · rw [if_pos q, if_pos (by omega)]; omega
      · rw [if_neg q]
        by_cases q2 : (0 ≤ X + -1 * S ∧ (0 : Int) < -1) ∨ (X + -1 * S < 0 ∧ (-1 : Int) < 0)
        · rw [if_pos q2]; omega
        · rw [if_neg q2]; omega
theorem ends_nf {B S X D Y E s m lp yp lq yq : Int} (hB1 : 10 ≤ B) (hB2 : B ≤ 100000) (hs : sgI s) (hS1 : 0 ≤ S) (hS2 : S ≤ 1000) (hX1 : -20000 ≤ X) (hX2 : X ≤ 20000) (hY1 : -20000 ≤ Y) (hY2 : Y ≤ 20000) (hD2 : D ≤ 40000) (hE2 : E ≤ 40000) (h : (if s = 0 then 0 else 2 * S) < D) (h' : (if s = 0 then 0 else 2 * S) < E) (hm1 : 0 < m) (hm2 : m ≤ 1439) (e1 : lp = X + s * S) (e2 : lq = Y + -s * S) (a1 : 0 < yp) (a2 : yp ≤ 42000) (a3 : 0 < yq) (a4 : yq ≤ 42000) (c1 : yp = gpI X D S s ∨ lp = 0) (c2 : yq = gpI Y E S (-s) ∨ lq = 0) (t u : Int64) : fX10_speeds (jI (B * lp)) (jI yp) (jI (B * lq)) (jI yq) (iI m) t u = some (jI (nfA (spA B S X D Y E s) (spQ S X D Y E s m)), jI (nfB (spA B S X D Y E s) (spQ S X D Y E s m))) := by
  have bd := sp_bd (X := X) (D := D) (Y := Y) (E := E) hB1 hB2 hs hS1 hS2 hX1 hX2 hY1 hY2 hD2 hE2 h h' hm1 hm2
  have b1 : -1000 ≤ s * S ∧ s * S ≤ 1000 := by rcases hs with e | e | e <;> rw [e] <;> omega
  have b2 : -1000 ≤ -s * S ∧ -s * S ≤ 1000 := by rw [Int.neg_mul]; omega
  have c3 := mul_bd (a := lp) (b := yq) (M := 21000) (N := 42000) (by omega) (by omega) (by omega) (by omega)
  have c4 := mul_bd (a := lq) (b := yp) (M := 21000) (N := 42000) (by omega) (by omega) (by omega) (by omega)
  have c5 := mul_bd (a := B) (b := lp * yq) (M := 100000) (N := 882000000) (by omega) (by omega) (by omega) (by omega)
  have c6 := mul_bd (a := B) (b := lq * yp) (M := 100000) (N := 882000000) (by omega) (by omega) (by omega) (by omega)
  have c7 := mul_bd (a := yp) (b := yq) (M := 42000) (N := 42000) (by omega) (by omega) (by omega) (by omega)
  have c8 := mul_bd (a := yp * yq) (b := m) (M := 1764000000) (N := 1439) (by omega) (by omega) (by omega) (by omega)
  have c9 := Int.mul_pos (Int.mul_pos a1 a3) hm1
  rw [speeds_eq (by rw [Int.mul_assoc, Int.mul_assoc]; omega) (by rw [Int.mul_assoc, Int.mul_assoc]; omega) c9 (by omega) (by omega) (by omega)]
  have r := same_ratio (B := B) (m := m) c1 c2
  have n := nf_eq (A := spA B S X D Y E s) (B := spQ S X D Y E s m) (A' := (B * lp) * yq - (B * lq) * yp) (B' := yp * yq * m) bd.2.2.1 c9 (by unfold spA spQ; rw [← e1, ← e2]; exact r)
  rw [n.1, n.2]
theorem tailM_ok {ma : Nat → Int32} {c : Nat} (hc : c ≤ 40) {p q k : Nat} (hp : p < c) (hq : q < c) (hk : k ≤ 2) {B S X D Y E m : Int} (hB1 : 10 ≤ B) (hB2 : B ≤ 100000) (hS1 : 0 ≤ S) (hS2 : S ≤ 1000) (h1 : sgt ma p X D) (h2 : sgt ma q Y E) (h : (if sdI k = 0 then 0 else 2 * S) < D) (h' : (if sdI k = 0 then 0 else 2 * S) < E) (hm1 : 0 < m) (hm2 : m ≤ 1439) (ea eb sa sb : Int64) : ∃ ea' eb', tailM (nI p) (nI q) (nI k) (iI B) (iI S) (iI m) ea eb sa sb ma = some (true, ea', eb', jI (nfA (spA B S X D Y E (sdI k)) (spQ S X D Y E (sdI k) m)), jI (nfB (spA B S X D Y E (sdI k)) (spQ S X D Y E (sdI k) m))) := by
  obtain ⟨eX, eD, x1, x2, d1, d2⟩ := h1
  obtain ⟨eY, eE, y1, y2, e1, e2⟩ := h2
  unfold tailM
  rcases (show k = 0 ∨ k = 1 ∨ k = 2 by omega) with rfl | rfl | rfl
  · rw [if_pos (show nI 0 = 0 from rfl), i4, i4, show nI (4 * p) + 2 = nI (4 * p + 2) from i4k p 2, show nI (4 * p) + 3 = nI (4 * p + 3) from i4k p 3, show nI (4 * q) + 2 = nI (4 * q + 2) from i4k q 2, show nI (4 * q) + 3 = nI (4 * q + 3) from i4k q 3, in_bnd (vp_in_nI (show 4 * p + 2 < 160 by omega) (by omega)), in_bnd (vp_in_nI (show 4 * p + 3 < 160 by omega) (by omega)), in_bnd (vp_in_nI (show 4 * q + 2 < 160 by omega) (by omega)), in_bnd (vp_in_nI (show 4 * q + 3 < 160 by omega) (by omega))]
    simp only [gd_t, bv_d]
    rw [nI_clamp (by omega), nI_clamp (by omega), nI_clamp (by omega), nI_clamp (by omega), eD, eE, eX, eY]
    have z : sdI 0 = 0 := rfl
    rw [z, if_pos rfl] at h h'
    rw [if_neg (by rw [iI0, iI_le (by omega) (by omega) (by omega) (by omega)]; omega), if_pos (by rw [iI0, iI_lt (by omega) (by omega) (by omega) (by omega)]; omega)]
    rw [iI_l (z := B) (by omega) (by omega), iI_l (z := X) (by omega) (by omega), iI_l (z := Y) (by omega) (by omega), iI_l (z := D) (by omega) (by omega), iI_l (z := E) (by omega) (by omega), jI_mul, jI_mul]
    rw [ends_nf (X := X) (D := D) (Y := Y) (E := E) (S := S) (s := sdI 0) hB1 hB2 (Or.inl rfl) hS1 hS2 x1 x2 y1 y2 d2 e2 (by rw [z, if_pos rfl]; exact h) (by rw [z, if_pos rfl]; exact h') hm1 hm2 (by rw [z]; omega) (by rw [z]; omega) h (by omega) h' (by omega) (Or.inl (by unfold gpI; rw [z, if_pos rfl])) (Or.inl (by unfold gpI; rw [z, if_pos (by decide)])), ob2_s]
    exact ⟨_, _, rfl⟩
  · rw [if_neg (show ¬ nI 1 = 0 from by decide), if_neg (show ¬ nI 1 = 2 from by decide), ob_s, if_pos (show nI 1 = 1 from rfl)]
    have z : sdI 1 = -1 := by decide
    rw [z, if_neg (by omega)] at h h'
    rw [show (0 : Int32) = b2i false from rfl, end_ok hc hp hB1 hB2 hS1 hS2 x1 x2 d1 d2 eX eD, if_pos h, ob3_s, show b2i false = (0 : Int32) from rfl, ite_b, ob_s, show (1 : Int32) = b2i true from rfl, end_ok hc hq hB1 hB2 hS1 hS2 y1 y2 e1 e2 eY eE, if_pos h', ob3_s, ite_b]
    obtain ⟨f1, f2, f3, f4⟩ := fin_gp (X := X) (D := D) hS1 h false
    obtain ⟨g1, g2, g3, g4⟩ := fin_gp (X := Y) (D := E) hS1 h' true
    rw [ends_nf (X := X) (D := D) (Y := Y) (E := E) (S := S) (s := sdI 1) hB1 hB2 (Or.inr (Or.inl z)) hS1 hS2 x1 x2 y1 y2 d2 e2 (by rw [z, if_neg (by omega)]; exact h) (by rw [z, if_neg (by omega)]; exact h') hm1 hm2 (by rw [z]; exact f1) (by rw [z]; exact g1) f2 (by omega) g2 (by omega) (by rw [z, f1]; exact f4) (by rw [z, g1]; exact g4), ob2_s]
    exact ⟨_, _, rfl⟩
  · rw [if_neg (show ¬ nI 2 = 0 from by decide), if_pos (show nI 2 = 2 from by decide), ob_s, if_neg (show ¬ nI 2 = 1 from by decide)]
    have z : sdI 2 = 1 := by decide
    rw [z, if_neg (by omega)] at h h'
    rw [show (1 : Int32) = b2i true from rfl, end_ok hc hp hB1 hB2 hS1 hS2 x1 x2 d1 d2 eX eD, if_pos h, ob3_s, ite_b, ob_s, show (0 : Int32) = b2i false from rfl, end_ok hc hq hB1 hB2 hS1 hS2 y1 y2 e1 e2 eY eE, if_pos h', ob3_s, show b2i false = (0 : Int32) from rfl, ite_b]
    obtain ⟨f1, f2, f3, f4⟩ := fin_gp (X := X) (D := D) hS1 h true
    obtain ⟨g1, g2, g3, g4⟩ := fin_gp (X := Y) (D := E) hS1 h' false
    rw [ends_nf (X := X) (D := D) (Y := Y) (E := E) (S := S) (s := sdI 2) hB1 hB2 (Or.inr (Or.inr z)) hS1 hS2 x1 x2 y1 y2 d2 e2 (by rw [z, if_neg (by omega)]; exact h) (by rw [z, if_neg (by omega)]; exact h') hm1 hm2 (by rw [z]; exact f1) (by rw [z]; exact g1) f2 (by omega) g2 (by omega) (by rw [z, f1]; exact f4) (by rw [z, g1]; exact g4), ob2_s]
    exact ⟨_, _, rfl⟩
